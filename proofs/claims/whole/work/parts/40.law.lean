def bz (x : Int) : Int := if x = 0 then 0 else 1
theorem ob71 {n : Nat} (hn : nfull n) : ob n 71 11 := ⟨by decide +kernel, by rcases hn with rfl | rfl | rfl <;> decide⟩
/-- the law's walk: what holds all along -/
def LX (E : EE) (p : Program) (s : State) (m : MethodId) (meth : Method) (c : Code) (b L : Nat) (xs : Nat → Int32) : Prop :=
  Cx E p s m #[Value.ref b] meth c cL_law 4 RL (some .boolean) 0 meth.name ∧ va_X b L xs s s.heap ∧ b < eb E ∧ L ≤ 384
section SCR
variable {p : Program} {l : Launch} {e : Env} {R : Room} {s : State} {m : MethodId} {args : Array Value} {below : List Frame} {meth : Method} {c : Code} {H : Heap} {locs : List Loc} {cells slots : Nat} {Q : State → Prop}
variable {E : EE} {n : Nat} {z : Zs} {M : Mem} {pc : Nat} {ls : Array Slot} {rest : List Value} {b L : Nat} {xs : Nat → Int32}
theorem r_scr (C : LX E p s m meth c b L xs) (hH : ST E s n z M H locs) {i : Nat} {x : Int} (hx : x = (i : Int)) (hi : i < L) (hd : decode cL_law pc = .ok (.iaload, 1))
    (kk : W p l e R s m args below meth c H locs cells slots Q (F0 m (pc + 1) ls (i3 (xs i).toInt :: rest))) : W p l e R s m args below meth c H locs cells slots Q (F0 m pc ls (i3 x :: .ref b :: rest)) := by
  subst hx
  have h0 : (0 : Int) ≤ (i : Int) := by omega
  have h1 : (i : Int) < (L : Int) := by omega
  have hL : L < 2147483648 := by have := C.2.2.2; omega
  refine va_sld C.1.hx C.1.hb C.2.1 (by have := C.1.hs; have := C.2.2.1; omega) (Nat.not_le.mpr C.2.2.1) hH.2 (r3_in h0 h1 hL) hd ?_
  rw [r3_nat h0 h1 hL, show ((i : Int)).toNat = i by omega]
  rw [i3, i3_to] at kk
  exact kk
end SCR

def S0 (a1 a2 a3 a4 a5 : Int) (M : Mem) (P : Mem → Prop) : Prop := ∃ (r : Int) (M1 : Mem) (M2 : Mem), fn_X10_hand 0 a1 M = some (r, M1) ∧ fn_X11_hand 71 a1 M1 = some (r, M2) ∧ P M2
set_option maxRecDepth 100000 in
set_option maxHeartbeats 4000000 in
theorem lc_0 {p : Program} {l : Launch} {e : Env} {s : State} {m : MethodId} {below : List Frame} {meth : Method} {c : Code} {E : EE} {n b L : Nat} {xs : Nat → Int32} {M : Mem} {H : Heap} {locs : List Loc} {ls : Array Slot} {cells slots : Nat} {Q : State → Prop} {i : Nat} {r : Int} {M1 : Mem} {M2 : Mem} (C : LX E p s m meth c b L xs) (hi : i + 6 ≤ L) (hn : nfull n) (h1 : fn_X10_hand 0 ((xs (i + 1)).toInt) M = some (r, M1)) (h2 : fn_X11_hand 71 ((xs (i + 1)).toInt) M1 = some (r, M2)) (hr : cells + 8 ≤ room_1.cells ∧ slots + 53154 ≤ room_1.slots) (hH : ST E s n (zf n) M H locs) (hl : lv_has ls 4 [(3, i3 (i : Int)), (2, .ref (eb E + 71)), (1, .ref (eb E + 0)), (0, .ref b)])
    (kk : ∀ (n : Nat) (M3 : Mem) (H : Heap) (locs : List Loc), nfull n → M3 = M2 → ST E s n (zf n) M3 H locs → W p l e room_1 s m #[Value.ref b] below meth c H locs (cells + 8) (slots + 53154) Q (F0 m 1119 ls [])) : W p l e room_1 s m #[Value.ref b] below meth c H locs cells slots Q (F0 m 164 ls []) := by
  refine lv_aload_n C.1.hx C.1.hb dL_law_164 rfl (lv_at hl 2 rfl) ?_
  refine lv_aload_n C.1.hx C.1.hb dL_law_165 rfl (lv_at hl 3 rfl) ?_
  refine lv_iload_n C.1.hx C.1.hb dL_law_166 rfl (lv_at hl 0 rfl) ?_
  refine lv_iconst (v := Int32.ofInt 1) C.1.hx C.1.hb dL_law_167 rfl ?_
  refine w_iadd C.1 dL_law_168 ?_
  refine r_scr (i := i + 1) C hH (by omega) (by omega) dL_law_169 ?_
  refine r_callVi (k := 0) (ci := 10) (rest := []) C.1 hH hl (ob0 hn) (by decide) rfl (m_X10_hand hn (ob0 hn) h1) ML_RL_13 MF_X10_hand MI_X10_hand rfl rfl (Nat.le_of_ble_eq_true rfl) ⟨Nat.le_of_ble_eq_true rfl, Nat.le_of_ble_eq_true rfl⟩ ⟨by have := hr.1; omega, by have := hr.2; omega⟩ dL_law_170 (fun H locs hH => ?_)
  refine lv_aload_n C.1.hx C.1.hb dL_law_173 rfl (lv_at hl 1 rfl) ?_
  refine lv_aload_n C.1.hx C.1.hb dL_law_174 rfl (lv_at hl 3 rfl) ?_
  refine lv_iload_n C.1.hx C.1.hb dL_law_175 rfl (lv_at hl 0 rfl) ?_
  refine lv_iconst (v := Int32.ofInt 1) C.1.hx C.1.hb dL_law_176 rfl ?_
  refine w_iadd C.1 dL_law_177 ?_
  refine r_scr (i := i + 1) C hH (by omega) (by omega) dL_law_178 ?_
  refine r_callVi (k := 71) (ci := 11) (rest := [i3 r]) C.1 hH hl (ob71 hn) (by decide) rfl (m_X11_hand hn (ob71 hn) h2) ML_RL_17 MF_X11_hand MI_X11_hand rfl rfl (Nat.le_of_ble_eq_true rfl) ⟨Nat.le_of_ble_eq_true rfl, Nat.le_of_ble_eq_true rfl⟩ ⟨by have := hr.1; omega, by have := hr.2; omega⟩ dL_law_179 (fun H locs hH => ?_)
  refine lv_icmp_eq (tgt := 1119) C.1.hx C.1.hb dL_law_182 (by decide) (fun _ => ?_) (fun q => absurd rfl q)
  refine W.widen (k := cells + 8) (n := slots + 53154) (by omega) (by omega) ?_
  exact kk n M2 H locs hn rfl hH
def S1 (a1 a2 a3 a4 a5 : Int) (M : Mem) (P : Mem → Prop) : Prop := ∃ (r : Int) (M1 : Mem) (M2 : Mem), fn_X10_coin 0 a1 a2 M = some (r, M1) ∧ fn_X11_coin 71 a1 a2 M1 = some (r, M2) ∧ P M2
set_option maxRecDepth 100000 in
set_option maxHeartbeats 4000000 in
theorem lc_1 {p : Program} {l : Launch} {e : Env} {s : State} {m : MethodId} {below : List Frame} {meth : Method} {c : Code} {E : EE} {n b L : Nat} {xs : Nat → Int32} {M : Mem} {H : Heap} {locs : List Loc} {ls : Array Slot} {cells slots : Nat} {Q : State → Prop} {i : Nat} {r : Int} {M1 : Mem} {M2 : Mem} (C : LX E p s m meth c b L xs) (hi : i + 6 ≤ L) (hn : nfull n) (h1 : fn_X10_coin 0 ((xs (i + 1)).toInt) ((xs (i + 2)).toInt) M = some (r, M1)) (h2 : fn_X11_coin 71 ((xs (i + 1)).toInt) ((xs (i + 2)).toInt) M1 = some (r, M2)) (hr : cells + 8 ≤ room_1.cells ∧ slots + 53154 ≤ room_1.slots) (hH : ST E s n (zf n) M H locs) (hl : lv_has ls 4 [(3, i3 (i : Int)), (2, .ref (eb E + 71)), (1, .ref (eb E + 0)), (0, .ref b)])
    (kk : ∀ (n : Nat) (M3 : Mem) (H : Heap) (locs : List Loc), nfull n → M3 = M2 → ST E s n (zf n) M3 H locs → W p l e room_1 s m #[Value.ref b] below meth c H locs (cells + 8) (slots + 53154) Q (F0 m 1119 ls [])) : W p l e room_1 s m #[Value.ref b] below meth c H locs cells slots Q (F0 m 187 ls []) := by
  refine lv_aload_n C.1.hx C.1.hb dL_law_187 rfl (lv_at hl 2 rfl) ?_
  refine lv_aload_n C.1.hx C.1.hb dL_law_188 rfl (lv_at hl 3 rfl) ?_
  refine lv_iload_n C.1.hx C.1.hb dL_law_189 rfl (lv_at hl 0 rfl) ?_
  refine lv_iconst (v := Int32.ofInt 1) C.1.hx C.1.hb dL_law_190 rfl ?_
  refine w_iadd C.1 dL_law_191 ?_
  refine r_scr (i := i + 1) C hH (by omega) (by omega) dL_law_192 ?_
  refine lv_aload_n C.1.hx C.1.hb dL_law_193 rfl (lv_at hl 3 rfl) ?_
  refine lv_iload_n C.1.hx C.1.hb dL_law_194 rfl (lv_at hl 0 rfl) ?_
  refine lv_iconst (v := Int32.ofInt 2) C.1.hx C.1.hb dL_law_195 rfl ?_
  refine w_iadd C.1 dL_law_196 ?_
  refine r_scr (i := i + 2) C hH (by omega) (by omega) dL_law_197 ?_
  refine r_callVi (k := 0) (ci := 10) (rest := []) C.1 hH hl (ob0 hn) (by decide) rfl (m_X10_coin hn (ob0 hn) h1) ML_RL_18 MF_X10_coin MI_X10_coin rfl rfl (Nat.le_of_ble_eq_true rfl) ⟨Nat.le_of_ble_eq_true rfl, Nat.le_of_ble_eq_true rfl⟩ ⟨by have := hr.1; omega, by have := hr.2; omega⟩ dL_law_198 (fun H locs hH => ?_)
  refine lv_aload_n C.1.hx C.1.hb dL_law_201 rfl (lv_at hl 1 rfl) ?_
  refine lv_aload_n C.1.hx C.1.hb dL_law_202 rfl (lv_at hl 3 rfl) ?_
  refine lv_iload_n C.1.hx C.1.hb dL_law_203 rfl (lv_at hl 0 rfl) ?_
  refine lv_iconst (v := Int32.ofInt 1) C.1.hx C.1.hb dL_law_204 rfl ?_
  refine w_iadd C.1 dL_law_205 ?_
  refine r_scr (i := i + 1) C hH (by omega) (by omega) dL_law_206 ?_
  refine lv_aload_n C.1.hx C.1.hb dL_law_207 rfl (lv_at hl 3 rfl) ?_
  refine lv_iload_n C.1.hx C.1.hb dL_law_208 rfl (lv_at hl 0 rfl) ?_
  refine lv_iconst (v := Int32.ofInt 2) C.1.hx C.1.hb dL_law_209 rfl ?_
  refine w_iadd C.1 dL_law_210 ?_
  refine r_scr (i := i + 2) C hH (by omega) (by omega) dL_law_211 ?_
  refine r_callVi (k := 71) (ci := 11) (rest := [i3 r]) C.1 hH hl (ob71 hn) (by decide) rfl (m_X11_coin hn (ob71 hn) h2) ML_RL_22 MF_X11_coin MI_X11_coin rfl rfl (Nat.le_of_ble_eq_true rfl) ⟨Nat.le_of_ble_eq_true rfl, Nat.le_of_ble_eq_true rfl⟩ ⟨by have := hr.1; omega, by have := hr.2; omega⟩ dL_law_212 (fun H locs hH => ?_)
  refine lv_icmp_eq (tgt := 1119) C.1.hx C.1.hb dL_law_215 (by decide) (fun _ => ?_) (fun q => absurd rfl q)
  refine W.widen (k := cells + 8) (n := slots + 53154) (by omega) (by omega) ?_
  exact kk n M2 H locs hn rfl hH
def S2 (a1 a2 a3 a4 a5 : Int) (M : Mem) (P : Mem → Prop) : Prop := ∃ (r : Int) (M1 : Mem) (M2 : Mem), fn_X10_rules 0 a1 a2 M = some (r, M1) ∧ fn_X11_rules 71 a1 a2 M1 = some (r, M2) ∧ P M2
set_option maxRecDepth 100000 in
set_option maxHeartbeats 4000000 in
theorem lc_2 {p : Program} {l : Launch} {e : Env} {s : State} {m : MethodId} {below : List Frame} {meth : Method} {c : Code} {E : EE} {n b L : Nat} {xs : Nat → Int32} {M : Mem} {H : Heap} {locs : List Loc} {ls : Array Slot} {cells slots : Nat} {Q : State → Prop} {i : Nat} {r : Int} {M1 : Mem} {M2 : Mem} (C : LX E p s m meth c b L xs) (hi : i + 6 ≤ L) (hn : nfull n) (h1 : fn_X10_rules 0 ((xs (i + 1)).toInt) ((xs (i + 2)).toInt) M = some (r, M1)) (h2 : fn_X11_rules 71 ((xs (i + 1)).toInt) ((xs (i + 2)).toInt) M1 = some (r, M2)) (hr : cells + 8 ≤ room_1.cells ∧ slots + 53154 ≤ room_1.slots) (hH : ST E s n (zf n) M H locs) (hl : lv_has ls 4 [(3, i3 (i : Int)), (2, .ref (eb E + 71)), (1, .ref (eb E + 0)), (0, .ref b)])
    (kk : ∀ (n : Nat) (M3 : Mem) (H : Heap) (locs : List Loc), nfull n → M3 = M2 → ST E s n (zf n) M3 H locs → W p l e room_1 s m #[Value.ref b] below meth c H locs (cells + 8) (slots + 53154) Q (F0 m 1119 ls [])) : W p l e room_1 s m #[Value.ref b] below meth c H locs cells slots Q (F0 m 220 ls []) := by
  refine lv_aload_n C.1.hx C.1.hb dL_law_220 rfl (lv_at hl 2 rfl) ?_
  refine lv_aload_n C.1.hx C.1.hb dL_law_221 rfl (lv_at hl 3 rfl) ?_
  refine lv_iload_n C.1.hx C.1.hb dL_law_222 rfl (lv_at hl 0 rfl) ?_
  refine lv_iconst (v := Int32.ofInt 1) C.1.hx C.1.hb dL_law_223 rfl ?_
  refine w_iadd C.1 dL_law_224 ?_
  refine r_scr (i := i + 1) C hH (by omega) (by omega) dL_law_225 ?_
  refine lv_aload_n C.1.hx C.1.hb dL_law_226 rfl (lv_at hl 3 rfl) ?_
  refine lv_iload_n C.1.hx C.1.hb dL_law_227 rfl (lv_at hl 0 rfl) ?_
  refine lv_iconst (v := Int32.ofInt 2) C.1.hx C.1.hb dL_law_228 rfl ?_
  refine w_iadd C.1 dL_law_229 ?_
  refine r_scr (i := i + 2) C hH (by omega) (by omega) dL_law_230 ?_
  refine r_callVi (k := 0) (ci := 10) (rest := []) C.1 hH hl (ob0 hn) (by decide) rfl (m_X10_rules hn (ob0 hn) h1) ML_RL_23 MF_X10_rules MI_X10_rules rfl rfl (Nat.le_of_ble_eq_true rfl) ⟨Nat.le_of_ble_eq_true rfl, Nat.le_of_ble_eq_true rfl⟩ ⟨by have := hr.1; omega, by have := hr.2; omega⟩ dL_law_231 (fun H locs hH => ?_)
  refine lv_aload_n C.1.hx C.1.hb dL_law_234 rfl (lv_at hl 1 rfl) ?_
  refine lv_aload_n C.1.hx C.1.hb dL_law_235 rfl (lv_at hl 3 rfl) ?_
  refine lv_iload_n C.1.hx C.1.hb dL_law_236 rfl (lv_at hl 0 rfl) ?_
  refine lv_iconst (v := Int32.ofInt 1) C.1.hx C.1.hb dL_law_237 rfl ?_
  refine w_iadd C.1 dL_law_238 ?_
  refine r_scr (i := i + 1) C hH (by omega) (by omega) dL_law_239 ?_
  refine lv_aload_n C.1.hx C.1.hb dL_law_240 rfl (lv_at hl 3 rfl) ?_
  refine lv_iload_n C.1.hx C.1.hb dL_law_241 rfl (lv_at hl 0 rfl) ?_
  refine lv_iconst (v := Int32.ofInt 2) C.1.hx C.1.hb dL_law_242 rfl ?_
  refine w_iadd C.1 dL_law_243 ?_
  refine r_scr (i := i + 2) C hH (by omega) (by omega) dL_law_244 ?_
  refine r_callVi (k := 71) (ci := 11) (rest := [i3 r]) C.1 hH hl (ob71 hn) (by decide) rfl (m_X11_rules hn (ob71 hn) h2) ML_RL_27 MF_X11_rules MI_X11_rules rfl rfl (Nat.le_of_ble_eq_true rfl) ⟨Nat.le_of_ble_eq_true rfl, Nat.le_of_ble_eq_true rfl⟩ ⟨by have := hr.1; omega, by have := hr.2; omega⟩ dL_law_245 (fun H locs hH => ?_)
  refine lv_icmp_eq (tgt := 1119) C.1.hx C.1.hb dL_law_248 (by decide) (fun _ => ?_) (fun q => absurd rfl q)
  refine W.widen (k := cells + 8) (n := slots + 53154) (by omega) (by omega) ?_
  exact kk n M2 H locs hn rfl hH
def S3 (a1 a2 a3 a4 a5 : Int) (M : Mem) (P : Mem → Prop) : Prop := ∃ (r : Int) (M1 : Mem) (M2 : Mem), fn_X10_later 0 a1 M = some (r, M1) ∧ fn_X11_later 71 a1 M1 = some (r, M2) ∧ P M2
set_option maxRecDepth 100000 in
set_option maxHeartbeats 4000000 in
theorem lc_3 {p : Program} {l : Launch} {e : Env} {s : State} {m : MethodId} {below : List Frame} {meth : Method} {c : Code} {E : EE} {n b L : Nat} {xs : Nat → Int32} {M : Mem} {H : Heap} {locs : List Loc} {ls : Array Slot} {cells slots : Nat} {Q : State → Prop} {i : Nat} {r : Int} {M1 : Mem} {M2 : Mem} (C : LX E p s m meth c b L xs) (hi : i + 6 ≤ L) (hn : nfull n) (h1 : fn_X10_later 0 ((xs (i + 1)).toInt) M = some (r, M1)) (h2 : fn_X11_later 71 ((xs (i + 1)).toInt) M1 = some (r, M2)) (hr : cells + 8 ≤ room_1.cells ∧ slots + 53154 ≤ room_1.slots) (hH : ST E s n (zf n) M H locs) (hl : lv_has ls 4 [(3, i3 (i : Int)), (2, .ref (eb E + 71)), (1, .ref (eb E + 0)), (0, .ref b)])
    (kk : ∀ (n : Nat) (M3 : Mem) (H : Heap) (locs : List Loc), nfull n → M3 = M2 → ST E s n (zf n) M3 H locs → W p l e room_1 s m #[Value.ref b] below meth c H locs (cells + 8) (slots + 53154) Q (F0 m 1119 ls [])) : W p l e room_1 s m #[Value.ref b] below meth c H locs cells slots Q (F0 m 253 ls []) := by
  refine lv_aload_n C.1.hx C.1.hb dL_law_253 rfl (lv_at hl 2 rfl) ?_
  refine lv_aload_n C.1.hx C.1.hb dL_law_254 rfl (lv_at hl 3 rfl) ?_
  refine lv_iload_n C.1.hx C.1.hb dL_law_255 rfl (lv_at hl 0 rfl) ?_
  refine lv_iconst (v := Int32.ofInt 1) C.1.hx C.1.hb dL_law_256 rfl ?_
  refine w_iadd C.1 dL_law_257 ?_
  refine r_scr (i := i + 1) C hH (by omega) (by omega) dL_law_258 ?_
  refine r_callVi (k := 0) (ci := 10) (rest := []) C.1 hH hl (ob0 hn) (by decide) rfl (m_X10_later hn (ob0 hn) h1) ML_RL_28 MF_X10_later MI_X10_later rfl rfl (Nat.le_of_ble_eq_true rfl) ⟨Nat.le_of_ble_eq_true rfl, Nat.le_of_ble_eq_true rfl⟩ ⟨by have := hr.1; omega, by have := hr.2; omega⟩ dL_law_259 (fun H locs hH => ?_)
  refine lv_aload_n C.1.hx C.1.hb dL_law_262 rfl (lv_at hl 1 rfl) ?_
  refine lv_aload_n C.1.hx C.1.hb dL_law_263 rfl (lv_at hl 3 rfl) ?_
  refine lv_iload_n C.1.hx C.1.hb dL_law_264 rfl (lv_at hl 0 rfl) ?_
  refine lv_iconst (v := Int32.ofInt 1) C.1.hx C.1.hb dL_law_265 rfl ?_
  refine w_iadd C.1 dL_law_266 ?_
  refine r_scr (i := i + 1) C hH (by omega) (by omega) dL_law_267 ?_
  refine r_callVi (k := 71) (ci := 11) (rest := [i3 r]) C.1 hH hl (ob71 hn) (by decide) rfl (m_X11_later hn (ob71 hn) h2) ML_RL_31 MF_X11_later MI_X11_later rfl rfl (Nat.le_of_ble_eq_true rfl) ⟨Nat.le_of_ble_eq_true rfl, Nat.le_of_ble_eq_true rfl⟩ ⟨by have := hr.1; omega, by have := hr.2; omega⟩ dL_law_268 (fun H locs hH => ?_)
  refine lv_icmp_eq (tgt := 1119) C.1.hx C.1.hb dL_law_271 (by decide) (fun _ => ?_) (fun q => absurd rfl q)
  refine W.widen (k := cells + 8) (n := slots + 53154) (by omega) (by omega) ?_
  exact kk n M2 H locs hn rfl hH
def S4 (a1 a2 a3 a4 a5 : Int) (M : Mem) (P : Mem → Prop) : Prop := ∃ (r : Int) (M1 : Mem) (M2 : Mem), fn_X10_feed 0 a1 a2 a3 a4 a5 M = some (r, M1) ∧ fn_X11_feed 71 a1 a2 a3 a4 a5 M1 = some (r, M2) ∧ P M2
set_option maxRecDepth 100000 in
set_option maxHeartbeats 4000000 in
theorem lc_4 {p : Program} {l : Launch} {e : Env} {s : State} {m : MethodId} {below : List Frame} {meth : Method} {c : Code} {E : EE} {n b L : Nat} {xs : Nat → Int32} {M : Mem} {H : Heap} {locs : List Loc} {ls : Array Slot} {cells slots : Nat} {Q : State → Prop} {i : Nat} {r : Int} {M1 : Mem} {M2 : Mem} (C : LX E p s m meth c b L xs) (hi : i + 6 ≤ L) (hn : nfull n) (h1 : fn_X10_feed 0 ((xs (i + 1)).toInt) ((xs (i + 2)).toInt) ((xs (i + 3)).toInt) ((xs (i + 4)).toInt) ((xs (i + 5)).toInt) M = some (r, M1)) (h2 : fn_X11_feed 71 ((xs (i + 1)).toInt) ((xs (i + 2)).toInt) ((xs (i + 3)).toInt) ((xs (i + 4)).toInt) ((xs (i + 5)).toInt) M1 = some (r, M2)) (hr : cells + 8 ≤ room_1.cells ∧ slots + 53154 ≤ room_1.slots) (hH : ST E s n (zf n) M H locs) (hl : lv_has ls 4 [(3, i3 (i : Int)), (2, .ref (eb E + 71)), (1, .ref (eb E + 0)), (0, .ref b)])
    (kk : ∀ (n : Nat) (M3 : Mem) (H : Heap) (locs : List Loc), nfull n → M3 = M2 → ST E s n (zf n) M3 H locs → W p l e room_1 s m #[Value.ref b] below meth c H locs (cells + 8) (slots + 53154) Q (F0 m 1119 ls [])) : W p l e room_1 s m #[Value.ref b] below meth c H locs cells slots Q (F0 m 276 ls []) := by
  refine lv_aload_n C.1.hx C.1.hb dL_law_276 rfl (lv_at hl 2 rfl) ?_
  refine lv_aload_n C.1.hx C.1.hb dL_law_277 rfl (lv_at hl 3 rfl) ?_
  refine lv_iload_n C.1.hx C.1.hb dL_law_278 rfl (lv_at hl 0 rfl) ?_
  refine lv_iconst (v := Int32.ofInt 1) C.1.hx C.1.hb dL_law_279 rfl ?_
  refine w_iadd C.1 dL_law_280 ?_
  refine r_scr (i := i + 1) C hH (by omega) (by omega) dL_law_281 ?_
  refine lv_aload_n C.1.hx C.1.hb dL_law_282 rfl (lv_at hl 3 rfl) ?_
  refine lv_iload_n C.1.hx C.1.hb dL_law_283 rfl (lv_at hl 0 rfl) ?_
  refine lv_iconst (v := Int32.ofInt 2) C.1.hx C.1.hb dL_law_284 rfl ?_
  refine w_iadd C.1 dL_law_285 ?_
  refine r_scr (i := i + 2) C hH (by omega) (by omega) dL_law_286 ?_
  refine lv_aload_n C.1.hx C.1.hb dL_law_287 rfl (lv_at hl 3 rfl) ?_
  refine lv_iload_n C.1.hx C.1.hb dL_law_288 rfl (lv_at hl 0 rfl) ?_
  refine lv_iconst (v := Int32.ofInt 3) C.1.hx C.1.hb dL_law_289 rfl ?_
  refine w_iadd C.1 dL_law_290 ?_
  refine r_scr (i := i + 3) C hH (by omega) (by omega) dL_law_291 ?_
  refine lv_aload_n C.1.hx C.1.hb dL_law_292 rfl (lv_at hl 3 rfl) ?_
  refine lv_iload_n C.1.hx C.1.hb dL_law_293 rfl (lv_at hl 0 rfl) ?_
  refine lv_iconst (v := Int32.ofInt 4) C.1.hx C.1.hb dL_law_294 rfl ?_
  refine w_iadd C.1 dL_law_295 ?_
  refine r_scr (i := i + 4) C hH (by omega) (by omega) dL_law_296 ?_
  refine lv_aload_n C.1.hx C.1.hb dL_law_297 rfl (lv_at hl 3 rfl) ?_
  refine lv_iload_n C.1.hx C.1.hb dL_law_298 rfl (lv_at hl 0 rfl) ?_
  refine lv_iconst (v := Int32.ofInt 5) C.1.hx C.1.hb dL_law_299 rfl ?_
  refine w_iadd C.1 dL_law_300 ?_
  refine r_scr (i := i + 5) C hH (by omega) (by omega) dL_law_301 ?_
  refine r_callVi (k := 0) (ci := 10) (rest := []) C.1 hH hl (ob0 hn) (by decide) rfl (m_X10_feed hn (ob0 hn) h1) ML_RL_32 MF_X10_feed MI_X10_feed rfl rfl (Nat.le_of_ble_eq_true rfl) ⟨Nat.le_of_ble_eq_true rfl, Nat.le_of_ble_eq_true rfl⟩ ⟨by have := hr.1; omega, by have := hr.2; omega⟩ dL_law_302 (fun H locs hH => ?_)
  refine lv_aload_n C.1.hx C.1.hb dL_law_305 rfl (lv_at hl 1 rfl) ?_
  refine lv_aload_n C.1.hx C.1.hb dL_law_306 rfl (lv_at hl 3 rfl) ?_
  refine lv_iload_n C.1.hx C.1.hb dL_law_307 rfl (lv_at hl 0 rfl) ?_
  refine lv_iconst (v := Int32.ofInt 1) C.1.hx C.1.hb dL_law_308 rfl ?_
  refine w_iadd C.1 dL_law_309 ?_
  refine r_scr (i := i + 1) C hH (by omega) (by omega) dL_law_310 ?_
  refine lv_aload_n C.1.hx C.1.hb dL_law_311 rfl (lv_at hl 3 rfl) ?_
  refine lv_iload_n C.1.hx C.1.hb dL_law_312 rfl (lv_at hl 0 rfl) ?_
  refine lv_iconst (v := Int32.ofInt 2) C.1.hx C.1.hb dL_law_313 rfl ?_
  refine w_iadd C.1 dL_law_314 ?_
  refine r_scr (i := i + 2) C hH (by omega) (by omega) dL_law_315 ?_
  refine lv_aload_n C.1.hx C.1.hb dL_law_316 rfl (lv_at hl 3 rfl) ?_
  refine lv_iload_n C.1.hx C.1.hb dL_law_317 rfl (lv_at hl 0 rfl) ?_
  refine lv_iconst (v := Int32.ofInt 3) C.1.hx C.1.hb dL_law_318 rfl ?_
  refine w_iadd C.1 dL_law_319 ?_
  refine r_scr (i := i + 3) C hH (by omega) (by omega) dL_law_320 ?_
  refine lv_aload_n C.1.hx C.1.hb dL_law_321 rfl (lv_at hl 3 rfl) ?_
  refine lv_iload_n C.1.hx C.1.hb dL_law_322 rfl (lv_at hl 0 rfl) ?_
  refine lv_iconst (v := Int32.ofInt 4) C.1.hx C.1.hb dL_law_323 rfl ?_
  refine w_iadd C.1 dL_law_324 ?_
  refine r_scr (i := i + 4) C hH (by omega) (by omega) dL_law_325 ?_
  refine lv_aload_n C.1.hx C.1.hb dL_law_326 rfl (lv_at hl 3 rfl) ?_
  refine lv_iload_n C.1.hx C.1.hb dL_law_327 rfl (lv_at hl 0 rfl) ?_
  refine lv_iconst (v := Int32.ofInt 5) C.1.hx C.1.hb dL_law_328 rfl ?_
  refine w_iadd C.1 dL_law_329 ?_
  refine r_scr (i := i + 5) C hH (by omega) (by omega) dL_law_330 ?_
  refine r_callVi (k := 71) (ci := 11) (rest := [i3 r]) C.1 hH hl (ob71 hn) (by decide) rfl (m_X11_feed hn (ob71 hn) h2) ML_RL_36 MF_X11_feed MI_X11_feed rfl rfl (Nat.le_of_ble_eq_true rfl) ⟨Nat.le_of_ble_eq_true rfl, Nat.le_of_ble_eq_true rfl⟩ ⟨by have := hr.1; omega, by have := hr.2; omega⟩ dL_law_331 (fun H locs hH => ?_)
  refine lv_icmp_eq (tgt := 1119) C.1.hx C.1.hb dL_law_334 (by decide) (fun _ => ?_) (fun q => absurd rfl q)
  refine W.widen (k := cells + 8) (n := slots + 53154) (by omega) (by omega) ?_
  exact kk n M2 H locs hn rfl hH
def S5 (a1 a2 a3 a4 a5 : Int) (M : Mem) (P : Mem → Prop) : Prop := ∃ (r : Int) (M1 : Mem) (M2 : Mem), fn_X10_end 0 a1 M = some (r, M1) ∧ fn_X11_end 71 a1 M1 = some (r, M2) ∧ P M2
set_option maxRecDepth 100000 in
set_option maxHeartbeats 4000000 in
theorem lc_5 {p : Program} {l : Launch} {e : Env} {s : State} {m : MethodId} {below : List Frame} {meth : Method} {c : Code} {E : EE} {n b L : Nat} {xs : Nat → Int32} {M : Mem} {H : Heap} {locs : List Loc} {ls : Array Slot} {cells slots : Nat} {Q : State → Prop} {i : Nat} {r : Int} {M1 : Mem} {M2 : Mem} (C : LX E p s m meth c b L xs) (hi : i + 6 ≤ L) (hn : nfull n) (h1 : fn_X10_end 0 ((xs (i + 1)).toInt) M = some (r, M1)) (h2 : fn_X11_end 71 ((xs (i + 1)).toInt) M1 = some (r, M2)) (hr : cells + 8 ≤ room_1.cells ∧ slots + 53154 ≤ room_1.slots) (hH : ST E s n (zf n) M H locs) (hl : lv_has ls 4 [(3, i3 (i : Int)), (2, .ref (eb E + 71)), (1, .ref (eb E + 0)), (0, .ref b)])
    (kk : ∀ (n : Nat) (M3 : Mem) (H : Heap) (locs : List Loc), nfull n → M3 = M2 → ST E s n (zf n) M3 H locs → W p l e room_1 s m #[Value.ref b] below meth c H locs (cells + 8) (slots + 53154) Q (F0 m 1119 ls [])) : W p l e room_1 s m #[Value.ref b] below meth c H locs cells slots Q (F0 m 339 ls []) := by
  refine lv_aload_n C.1.hx C.1.hb dL_law_339 rfl (lv_at hl 2 rfl) ?_
  refine lv_aload_n C.1.hx C.1.hb dL_law_340 rfl (lv_at hl 3 rfl) ?_
  refine lv_iload_n C.1.hx C.1.hb dL_law_341 rfl (lv_at hl 0 rfl) ?_
  refine lv_iconst (v := Int32.ofInt 1) C.1.hx C.1.hb dL_law_342 rfl ?_
  refine w_iadd C.1 dL_law_343 ?_
  refine r_scr (i := i + 1) C hH (by omega) (by omega) dL_law_344 ?_
  refine r_callVi (k := 0) (ci := 10) (rest := []) C.1 hH hl (ob0 hn) (by decide) rfl (m_X10_end hn (ob0 hn) h1) ML_RL_37 MF_X10_end MI_X10_end rfl rfl (Nat.le_of_ble_eq_true rfl) ⟨Nat.le_of_ble_eq_true rfl, Nat.le_of_ble_eq_true rfl⟩ ⟨by have := hr.1; omega, by have := hr.2; omega⟩ dL_law_345 (fun H locs hH => ?_)
  refine lv_aload_n C.1.hx C.1.hb dL_law_348 rfl (lv_at hl 1 rfl) ?_
  refine lv_aload_n C.1.hx C.1.hb dL_law_349 rfl (lv_at hl 3 rfl) ?_
  refine lv_iload_n C.1.hx C.1.hb dL_law_350 rfl (lv_at hl 0 rfl) ?_
  refine lv_iconst (v := Int32.ofInt 1) C.1.hx C.1.hb dL_law_351 rfl ?_
  refine w_iadd C.1 dL_law_352 ?_
  refine r_scr (i := i + 1) C hH (by omega) (by omega) dL_law_353 ?_
  refine r_callVi (k := 71) (ci := 11) (rest := [i3 r]) C.1 hH hl (ob71 hn) (by decide) rfl (m_X11_end hn (ob71 hn) h2) ML_RL_40 MF_X11_end MI_X11_end rfl rfl (Nat.le_of_ble_eq_true rfl) ⟨Nat.le_of_ble_eq_true rfl, Nat.le_of_ble_eq_true rfl⟩ ⟨by have := hr.1; omega, by have := hr.2; omega⟩ dL_law_354 (fun H locs hH => ?_)
  refine lv_icmp_eq (tgt := 1119) C.1.hx C.1.hb dL_law_357 (by decide) (fun _ => ?_) (fun q => absurd rfl q)
  refine W.widen (k := cells + 8) (n := slots + 53154) (by omega) (by omega) ?_
  exact kk n M2 H locs hn rfl hH
def S6 (a1 a2 a3 a4 a5 : Int) (M : Mem) (P : Mem → Prop) : Prop := ∃ (r : Int) (M1 : Mem) (M2 : Mem), fn_X10_text 0 M = some (r, M1) ∧ fn_X11_text 71 M1 = some (r, M2) ∧ P M2
set_option maxRecDepth 100000 in
set_option maxHeartbeats 4000000 in
theorem lc_6 {p : Program} {l : Launch} {e : Env} {s : State} {m : MethodId} {below : List Frame} {meth : Method} {c : Code} {E : EE} {n b L : Nat} {xs : Nat → Int32} {M : Mem} {H : Heap} {locs : List Loc} {ls : Array Slot} {cells slots : Nat} {Q : State → Prop} {i : Nat} {r : Int} {M1 : Mem} {M2 : Mem} (C : LX E p s m meth c b L xs) (hi : i + 6 ≤ L) (hn : nfull n) (h1 : fn_X10_text 0 M = some (r, M1)) (h2 : fn_X11_text 71 M1 = some (r, M2)) (hr : cells + 8 ≤ room_1.cells ∧ slots + 53154 ≤ room_1.slots) (hH : ST E s n (zf n) M H locs) (hl : lv_has ls 4 [(3, i3 (i : Int)), (2, .ref (eb E + 71)), (1, .ref (eb E + 0)), (0, .ref b)])
    (kk : ∀ (n : Nat) (M3 : Mem) (H : Heap) (locs : List Loc), nfull n → M3 = M2 → ST E s n (zf n) M3 H locs → W p l e room_1 s m #[Value.ref b] below meth c H locs (cells + 8) (slots + 53154) Q (F0 m 1119 ls [])) : W p l e room_1 s m #[Value.ref b] below meth c H locs cells slots Q (F0 m 362 ls []) := by
  refine lv_aload_n C.1.hx C.1.hb dL_law_362 rfl (lv_at hl 2 rfl) ?_
  refine r_callVi (k := 0) (ci := 10) (rest := []) C.1 hH hl (ob0 hn) (by decide) rfl (m_X10_text hn (ob0 hn) h1) ML_RL_41 MF_X10_text MI_X10_text rfl rfl (Nat.le_of_ble_eq_true rfl) ⟨Nat.le_of_ble_eq_true rfl, Nat.le_of_ble_eq_true rfl⟩ ⟨by have := hr.1; omega, by have := hr.2; omega⟩ dL_law_363 (fun H locs hH => ?_)
  refine lv_aload_n C.1.hx C.1.hb dL_law_366 rfl (lv_at hl 1 rfl) ?_
  refine r_callVi (k := 71) (ci := 11) (rest := [i3 r]) C.1 hH hl (ob71 hn) (by decide) rfl (m_X11_text hn (ob71 hn) h2) ML_RL_45 MF_X11_text MI_X11_text rfl rfl (Nat.le_of_ble_eq_true rfl) ⟨Nat.le_of_ble_eq_true rfl, Nat.le_of_ble_eq_true rfl⟩ ⟨by have := hr.1; omega, by have := hr.2; omega⟩ dL_law_367 (fun H locs hH => ?_)
  refine lv_icmp_eq (tgt := 1119) C.1.hx C.1.hb dL_law_370 (by decide) (fun _ => ?_) (fun q => absurd rfl q)
  refine W.widen (k := cells + 8) (n := slots + 53154) (by omega) (by omega) ?_
  exact kk n M2 H locs hn rfl hH
def S7 (a1 a2 a3 a4 a5 : Int) (M : Mem) (P : Mem → Prop) : Prop := ∃ (r : Int), fn_X10_fault 0 a1 M = some r ∧ fn_X11_fault 71 a1 M = some r ∧ P M
set_option maxRecDepth 100000 in
set_option maxHeartbeats 4000000 in
theorem lc_7 {p : Program} {l : Launch} {e : Env} {s : State} {m : MethodId} {below : List Frame} {meth : Method} {c : Code} {E : EE} {n b L : Nat} {xs : Nat → Int32} {M : Mem} {H : Heap} {locs : List Loc} {ls : Array Slot} {cells slots : Nat} {Q : State → Prop} {i : Nat} {r : Int} (C : LX E p s m meth c b L xs) (hi : i + 6 ≤ L) (hn : nfull n) (h1 : fn_X10_fault 0 ((xs (i + 1)).toInt) M = some r) (h2 : fn_X11_fault 71 ((xs (i + 1)).toInt) M = some r) (hr : cells + 8 ≤ room_1.cells ∧ slots + 53154 ≤ room_1.slots) (hH : ST E s n (zf n) M H locs) (hl : lv_has ls 4 [(3, i3 (i : Int)), (2, .ref (eb E + 71)), (1, .ref (eb E + 0)), (0, .ref b)])
    (kk : ∀ (n : Nat) (M3 : Mem) (H : Heap) (locs : List Loc), nfull n → M3 = M → ST E s n (zf n) M3 H locs → W p l e room_1 s m #[Value.ref b] below meth c H locs (cells + 8) (slots + 53154) Q (F0 m 1119 ls [])) : W p l e room_1 s m #[Value.ref b] below meth c H locs cells slots Q (F0 m 375 ls []) := by
  refine lv_aload_n C.1.hx C.1.hb dL_law_375 rfl (lv_at hl 2 rfl) ?_
  refine lv_aload_n C.1.hx C.1.hb dL_law_376 rfl (lv_at hl 3 rfl) ?_
  refine lv_iload_n C.1.hx C.1.hb dL_law_377 rfl (lv_at hl 0 rfl) ?_
  refine lv_iconst (v := Int32.ofInt 1) C.1.hx C.1.hb dL_law_378 rfl ?_
  refine w_iadd C.1 dL_law_379 ?_
  refine r_scr (i := i + 1) C hH (by omega) (by omega) dL_law_380 ?_
  refine r_callVi (k := 0) (ci := 10) (rest := []) C.1 hH hl (ob0 hn) (by decide) rfl (m_X10_fault hn (ob0 hn) h1) ML_RL_46 MF_X10_fault MI_X10_fault rfl rfl (Nat.le_of_ble_eq_true rfl) ⟨Nat.le_of_ble_eq_true rfl, Nat.le_of_ble_eq_true rfl⟩ ⟨by have := hr.1; omega, by have := hr.2; omega⟩ dL_law_381 (fun H locs hH => ?_)
  refine lv_aload_n C.1.hx C.1.hb dL_law_384 rfl (lv_at hl 1 rfl) ?_
  refine lv_aload_n C.1.hx C.1.hb dL_law_385 rfl (lv_at hl 3 rfl) ?_
  refine lv_iload_n C.1.hx C.1.hb dL_law_386 rfl (lv_at hl 0 rfl) ?_
  refine lv_iconst (v := Int32.ofInt 1) C.1.hx C.1.hb dL_law_387 rfl ?_
  refine w_iadd C.1 dL_law_388 ?_
  refine r_scr (i := i + 1) C hH (by omega) (by omega) dL_law_389 ?_
  refine r_callVi (k := 71) (ci := 11) (rest := [i3 r]) C.1 hH hl (ob71 hn) (by decide) rfl (m_X11_fault hn (ob71 hn) h2) ML_RL_49 MF_X11_fault MI_X11_fault rfl rfl (Nat.le_of_ble_eq_true rfl) ⟨Nat.le_of_ble_eq_true rfl, Nat.le_of_ble_eq_true rfl⟩ ⟨by have := hr.1; omega, by have := hr.2; omega⟩ dL_law_390 (fun H locs hH => ?_)
  refine lv_icmp_eq (tgt := 1119) C.1.hx C.1.hb dL_law_393 (by decide) (fun _ => ?_) (fun q => absurd rfl q)
  refine W.widen (k := cells + 8) (n := slots + 53154) (by omega) (by omega) ?_
  exact kk n M H locs hn rfl hH
def S8 (a1 a2 a3 a4 a5 : Int) (M : Mem) (P : Mem → Prop) : Prop := ∃ (r : Int) (M1 : Mem) (M2 : Mem), fn_X10_by 0 a1 M = some (r, M1) ∧ fn_X11_by 71 a1 M1 = some (r, M2) ∧ P M2
set_option maxRecDepth 100000 in
set_option maxHeartbeats 4000000 in
theorem lc_8 {p : Program} {l : Launch} {e : Env} {s : State} {m : MethodId} {below : List Frame} {meth : Method} {c : Code} {E : EE} {n b L : Nat} {xs : Nat → Int32} {M : Mem} {H : Heap} {locs : List Loc} {ls : Array Slot} {cells slots : Nat} {Q : State → Prop} {i : Nat} {r : Int} {M1 : Mem} {M2 : Mem} (C : LX E p s m meth c b L xs) (hi : i + 6 ≤ L) (hn : nfull n) (h1 : fn_X10_by 0 ((xs (i + 1)).toInt) M = some (r, M1)) (h2 : fn_X11_by 71 ((xs (i + 1)).toInt) M1 = some (r, M2)) (hr : cells + 8 ≤ room_1.cells ∧ slots + 53154 ≤ room_1.slots) (hH : ST E s n (zf n) M H locs) (hl : lv_has ls 4 [(3, i3 (i : Int)), (2, .ref (eb E + 71)), (1, .ref (eb E + 0)), (0, .ref b)])
    (kk : ∀ (n : Nat) (M3 : Mem) (H : Heap) (locs : List Loc), nfull n → M3 = M2 → ST E s n (zf n) M3 H locs → W p l e room_1 s m #[Value.ref b] below meth c H locs (cells + 8) (slots + 53154) Q (F0 m 1119 ls [])) : W p l e room_1 s m #[Value.ref b] below meth c H locs cells slots Q (F0 m 398 ls []) := by
  refine lv_aload_n C.1.hx C.1.hb dL_law_398 rfl (lv_at hl 2 rfl) ?_
  refine lv_aload_n C.1.hx C.1.hb dL_law_399 rfl (lv_at hl 3 rfl) ?_
  refine lv_iload_n C.1.hx C.1.hb dL_law_400 rfl (lv_at hl 0 rfl) ?_
  refine lv_iconst (v := Int32.ofInt 1) C.1.hx C.1.hb dL_law_401 rfl ?_
  refine w_iadd C.1 dL_law_402 ?_
  refine r_scr (i := i + 1) C hH (by omega) (by omega) dL_law_403 ?_
  refine r_callVi (k := 0) (ci := 10) (rest := []) C.1 hH hl (ob0 hn) (by decide) rfl (m_X10_by hn (ob0 hn) h1) ML_RL_50 MF_X10_by MI_X10_by rfl rfl (Nat.le_of_ble_eq_true rfl) ⟨Nat.le_of_ble_eq_true rfl, Nat.le_of_ble_eq_true rfl⟩ ⟨by have := hr.1; omega, by have := hr.2; omega⟩ dL_law_404 (fun H locs hH => ?_)
  refine lv_aload_n C.1.hx C.1.hb dL_law_407 rfl (lv_at hl 1 rfl) ?_
  refine lv_aload_n C.1.hx C.1.hb dL_law_408 rfl (lv_at hl 3 rfl) ?_
  refine lv_iload_n C.1.hx C.1.hb dL_law_409 rfl (lv_at hl 0 rfl) ?_
  refine lv_iconst (v := Int32.ofInt 1) C.1.hx C.1.hb dL_law_410 rfl ?_
  refine w_iadd C.1 dL_law_411 ?_
  refine r_scr (i := i + 1) C hH (by omega) (by omega) dL_law_412 ?_
  refine r_callVi (k := 71) (ci := 11) (rest := [i3 r]) C.1 hH hl (ob71 hn) (by decide) rfl (m_X11_by hn (ob71 hn) h2) ML_RL_54 MF_X11_by MI_X11_by rfl rfl (Nat.le_of_ble_eq_true rfl) ⟨Nat.le_of_ble_eq_true rfl, Nat.le_of_ble_eq_true rfl⟩ ⟨by have := hr.1; omega, by have := hr.2; omega⟩ dL_law_413 (fun H locs hH => ?_)
  refine lv_icmp_eq (tgt := 1119) C.1.hx C.1.hb dL_law_416 (by decide) (fun _ => ?_) (fun q => absurd rfl q)
  refine W.widen (k := cells + 8) (n := slots + 53154) (by omega) (by omega) ?_
  exact kk n M2 H locs hn rfl hH
def S9 (a1 a2 a3 a4 a5 : Int) (M : Mem) (P : Mem → Prop) : Prop := ∃ (r : Int) (M1 : Mem) (M2 : Mem), fn_X10_gives 0 a1 a2 M = some (r, M1) ∧ fn_X11_gives 71 a1 a2 M1 = some (r, M2) ∧ P M2
set_option maxRecDepth 100000 in
set_option maxHeartbeats 4000000 in
theorem lc_9 {p : Program} {l : Launch} {e : Env} {s : State} {m : MethodId} {below : List Frame} {meth : Method} {c : Code} {E : EE} {n b L : Nat} {xs : Nat → Int32} {M : Mem} {H : Heap} {locs : List Loc} {ls : Array Slot} {cells slots : Nat} {Q : State → Prop} {i : Nat} {r : Int} {M1 : Mem} {M2 : Mem} (C : LX E p s m meth c b L xs) (hi : i + 6 ≤ L) (hn : nfull n) (h1 : fn_X10_gives 0 ((xs (i + 1)).toInt) ((xs (i + 2)).toInt) M = some (r, M1)) (h2 : fn_X11_gives 71 ((xs (i + 1)).toInt) ((xs (i + 2)).toInt) M1 = some (r, M2)) (hr : cells + 8 ≤ room_1.cells ∧ slots + 53154 ≤ room_1.slots) (hH : ST E s n (zf n) M H locs) (hl : lv_has ls 4 [(3, i3 (i : Int)), (2, .ref (eb E + 71)), (1, .ref (eb E + 0)), (0, .ref b)])
    (kk : ∀ (n : Nat) (M3 : Mem) (H : Heap) (locs : List Loc), nfull n → M3 = M2 → ST E s n (zf n) M3 H locs → W p l e room_1 s m #[Value.ref b] below meth c H locs (cells + 8) (slots + 53154) Q (F0 m 1119 ls [])) : W p l e room_1 s m #[Value.ref b] below meth c H locs cells slots Q (F0 m 421 ls []) := by
  refine lv_aload_n C.1.hx C.1.hb dL_law_421 rfl (lv_at hl 2 rfl) ?_
  refine lv_aload_n C.1.hx C.1.hb dL_law_422 rfl (lv_at hl 3 rfl) ?_
  refine lv_iload_n C.1.hx C.1.hb dL_law_423 rfl (lv_at hl 0 rfl) ?_
  refine lv_iconst (v := Int32.ofInt 1) C.1.hx C.1.hb dL_law_424 rfl ?_
  refine w_iadd C.1 dL_law_425 ?_
  refine r_scr (i := i + 1) C hH (by omega) (by omega) dL_law_426 ?_
  refine lv_aload_n C.1.hx C.1.hb dL_law_427 rfl (lv_at hl 3 rfl) ?_
  refine lv_iload_n C.1.hx C.1.hb dL_law_428 rfl (lv_at hl 0 rfl) ?_
  refine lv_iconst (v := Int32.ofInt 2) C.1.hx C.1.hb dL_law_429 rfl ?_
  refine w_iadd C.1 dL_law_430 ?_
  refine r_scr (i := i + 2) C hH (by omega) (by omega) dL_law_431 ?_
  refine r_callVi (k := 0) (ci := 10) (rest := []) C.1 hH hl (ob0 hn) (by decide) rfl (m_X10_gives hn (ob0 hn) h1) ML_RL_55 MF_X10_gives MI_X10_gives rfl rfl (Nat.le_of_ble_eq_true rfl) ⟨Nat.le_of_ble_eq_true rfl, Nat.le_of_ble_eq_true rfl⟩ ⟨by have := hr.1; omega, by have := hr.2; omega⟩ dL_law_432 (fun H locs hH => ?_)
  refine lv_aload_n C.1.hx C.1.hb dL_law_435 rfl (lv_at hl 1 rfl) ?_
  refine lv_aload_n C.1.hx C.1.hb dL_law_436 rfl (lv_at hl 3 rfl) ?_
  refine lv_iload_n C.1.hx C.1.hb dL_law_437 rfl (lv_at hl 0 rfl) ?_
  refine lv_iconst (v := Int32.ofInt 1) C.1.hx C.1.hb dL_law_438 rfl ?_
  refine w_iadd C.1 dL_law_439 ?_
  refine r_scr (i := i + 1) C hH (by omega) (by omega) dL_law_440 ?_
  refine lv_aload_n C.1.hx C.1.hb dL_law_441 rfl (lv_at hl 3 rfl) ?_
  refine lv_iload_n C.1.hx C.1.hb dL_law_442 rfl (lv_at hl 0 rfl) ?_
  refine lv_iconst (v := Int32.ofInt 2) C.1.hx C.1.hb dL_law_443 rfl ?_
  refine w_iadd C.1 dL_law_444 ?_
  refine r_scr (i := i + 2) C hH (by omega) (by omega) dL_law_445 ?_
  refine r_callVi (k := 71) (ci := 11) (rest := [i3 r]) C.1 hH hl (ob71 hn) (by decide) rfl (m_X11_gives hn (ob71 hn) h2) ML_RL_58 MF_X11_gives MI_X11_gives rfl rfl (Nat.le_of_ble_eq_true rfl) ⟨Nat.le_of_ble_eq_true rfl, Nat.le_of_ble_eq_true rfl⟩ ⟨by have := hr.1; omega, by have := hr.2; omega⟩ dL_law_446 (fun H locs hH => ?_)
  refine lv_icmp_eq (tgt := 1119) C.1.hx C.1.hb dL_law_449 (by decide) (fun _ => ?_) (fun q => absurd rfl q)
  refine W.widen (k := cells + 8) (n := slots + 53154) (by omega) (by omega) ?_
  exact kk n M2 H locs hn rfl hH
def S10 (a1 a2 a3 a4 a5 : Int) (M : Mem) (P : Mem → Prop) : Prop := ∃ (r : Int) (M1 : Mem) (M2 : Mem), fn_X10_pay 0 a1 a2 M = some (r, M1) ∧ fn_X11_pay 71 a1 a2 M1 = some (r, M2) ∧ P M2
set_option maxRecDepth 100000 in
set_option maxHeartbeats 4000000 in
theorem lc_10 {p : Program} {l : Launch} {e : Env} {s : State} {m : MethodId} {below : List Frame} {meth : Method} {c : Code} {E : EE} {n b L : Nat} {xs : Nat → Int32} {M : Mem} {H : Heap} {locs : List Loc} {ls : Array Slot} {cells slots : Nat} {Q : State → Prop} {i : Nat} {r : Int} {M1 : Mem} {M2 : Mem} (C : LX E p s m meth c b L xs) (hi : i + 6 ≤ L) (hn : nfull n) (h1 : fn_X10_pay 0 ((xs (i + 1)).toInt) ((xs (i + 2)).toInt) M = some (r, M1)) (h2 : fn_X11_pay 71 ((xs (i + 1)).toInt) ((xs (i + 2)).toInt) M1 = some (r, M2)) (hr : cells + 8 ≤ room_1.cells ∧ slots + 53154 ≤ room_1.slots) (hH : ST E s n (zf n) M H locs) (hl : lv_has ls 4 [(3, i3 (i : Int)), (2, .ref (eb E + 71)), (1, .ref (eb E + 0)), (0, .ref b)])
    (kk : ∀ (n : Nat) (M3 : Mem) (H : Heap) (locs : List Loc), nfull n → M3 = M2 → ST E s n (zf n) M3 H locs → W p l e room_1 s m #[Value.ref b] below meth c H locs (cells + 8) (slots + 53154) Q (F0 m 1119 ls [])) : W p l e room_1 s m #[Value.ref b] below meth c H locs cells slots Q (F0 m 454 ls []) := by
  refine lv_aload_n C.1.hx C.1.hb dL_law_454 rfl (lv_at hl 2 rfl) ?_
  refine lv_aload_n C.1.hx C.1.hb dL_law_455 rfl (lv_at hl 3 rfl) ?_
  refine lv_iload_n C.1.hx C.1.hb dL_law_456 rfl (lv_at hl 0 rfl) ?_
  refine lv_iconst (v := Int32.ofInt 1) C.1.hx C.1.hb dL_law_457 rfl ?_
  refine w_iadd C.1 dL_law_458 ?_
  refine r_scr (i := i + 1) C hH (by omega) (by omega) dL_law_459 ?_
  refine lv_aload_n C.1.hx C.1.hb dL_law_460 rfl (lv_at hl 3 rfl) ?_
  refine lv_iload_n C.1.hx C.1.hb dL_law_461 rfl (lv_at hl 0 rfl) ?_
  refine lv_iconst (v := Int32.ofInt 2) C.1.hx C.1.hb dL_law_462 rfl ?_
  refine w_iadd C.1 dL_law_463 ?_
  refine r_scr (i := i + 2) C hH (by omega) (by omega) dL_law_464 ?_
  refine r_callVi (k := 0) (ci := 10) (rest := []) C.1 hH hl (ob0 hn) (by decide) rfl (m_X10_pay hn (ob0 hn) h1) ML_RL_59 MF_X10_pay MI_X10_pay rfl rfl (Nat.le_of_ble_eq_true rfl) ⟨Nat.le_of_ble_eq_true rfl, Nat.le_of_ble_eq_true rfl⟩ ⟨by have := hr.1; omega, by have := hr.2; omega⟩ dL_law_465 (fun H locs hH => ?_)
  refine lv_aload_n C.1.hx C.1.hb dL_law_468 rfl (lv_at hl 1 rfl) ?_
  refine lv_aload_n C.1.hx C.1.hb dL_law_469 rfl (lv_at hl 3 rfl) ?_
  refine lv_iload_n C.1.hx C.1.hb dL_law_470 rfl (lv_at hl 0 rfl) ?_
  refine lv_iconst (v := Int32.ofInt 1) C.1.hx C.1.hb dL_law_471 rfl ?_
  refine w_iadd C.1 dL_law_472 ?_
  refine r_scr (i := i + 1) C hH (by omega) (by omega) dL_law_473 ?_
  refine lv_aload_n C.1.hx C.1.hb dL_law_474 rfl (lv_at hl 3 rfl) ?_
  refine lv_iload_n C.1.hx C.1.hb dL_law_475 rfl (lv_at hl 0 rfl) ?_
  refine lv_iconst (v := Int32.ofInt 2) C.1.hx C.1.hb dL_law_476 rfl ?_
  refine w_iadd C.1 dL_law_477 ?_
  refine r_scr (i := i + 2) C hH (by omega) (by omega) dL_law_478 ?_
  refine r_callVi (k := 71) (ci := 11) (rest := [i3 r]) C.1 hH hl (ob71 hn) (by decide) rfl (m_X11_pay hn (ob71 hn) h2) ML_RL_62 MF_X11_pay MI_X11_pay rfl rfl (Nat.le_of_ble_eq_true rfl) ⟨Nat.le_of_ble_eq_true rfl, Nat.le_of_ble_eq_true rfl⟩ ⟨by have := hr.1; omega, by have := hr.2; omega⟩ dL_law_479 (fun H locs hH => ?_)
  refine lv_icmp_eq (tgt := 1119) C.1.hx C.1.hb dL_law_482 (by decide) (fun _ => ?_) (fun q => absurd rfl q)
  refine W.widen (k := cells + 8) (n := slots + 53154) (by omega) (by omega) ?_
  exact kk n M2 H locs hn rfl hH
def S11 (a1 a2 a3 a4 a5 : Int) (M : Mem) (P : Mem → Prop) : Prop := ∃ (r : Int) (M1 : Mem) (M2 : Mem), fn_X10_wash 0 a1 M = some (r, M1) ∧ fn_X11_wash 71 a1 M1 = some (r, M2) ∧ P M2
set_option maxRecDepth 100000 in
set_option maxHeartbeats 4000000 in
theorem lc_11 {p : Program} {l : Launch} {e : Env} {s : State} {m : MethodId} {below : List Frame} {meth : Method} {c : Code} {E : EE} {n b L : Nat} {xs : Nat → Int32} {M : Mem} {H : Heap} {locs : List Loc} {ls : Array Slot} {cells slots : Nat} {Q : State → Prop} {i : Nat} {r : Int} {M1 : Mem} {M2 : Mem} (C : LX E p s m meth c b L xs) (hi : i + 6 ≤ L) (hn : nfull n) (h1 : fn_X10_wash 0 ((xs (i + 1)).toInt) M = some (r, M1)) (h2 : fn_X11_wash 71 ((xs (i + 1)).toInt) M1 = some (r, M2)) (hr : cells + 8 ≤ room_1.cells ∧ slots + 53154 ≤ room_1.slots) (hH : ST E s n (zf n) M H locs) (hl : lv_has ls 4 [(3, i3 (i : Int)), (2, .ref (eb E + 71)), (1, .ref (eb E + 0)), (0, .ref b)])
    (kk : ∀ (n : Nat) (M3 : Mem) (H : Heap) (locs : List Loc), nfull n → M3 = M2 → ST E s n (zf n) M3 H locs → W p l e room_1 s m #[Value.ref b] below meth c H locs (cells + 8) (slots + 53154) Q (F0 m 1119 ls [])) : W p l e room_1 s m #[Value.ref b] below meth c H locs cells slots Q (F0 m 487 ls []) := by
  refine lv_aload_n C.1.hx C.1.hb dL_law_487 rfl (lv_at hl 2 rfl) ?_
  refine lv_aload_n C.1.hx C.1.hb dL_law_488 rfl (lv_at hl 3 rfl) ?_
  refine lv_iload_n C.1.hx C.1.hb dL_law_489 rfl (lv_at hl 0 rfl) ?_
  refine lv_iconst (v := Int32.ofInt 1) C.1.hx C.1.hb dL_law_490 rfl ?_
  refine w_iadd C.1 dL_law_491 ?_
  refine r_scr (i := i + 1) C hH (by omega) (by omega) dL_law_492 ?_
  refine r_callVi (k := 0) (ci := 10) (rest := []) C.1 hH hl (ob0 hn) (by decide) rfl (m_X10_wash hn (ob0 hn) h1) ML_RL_63 MF_X10_wash MI_X10_wash rfl rfl (Nat.le_of_ble_eq_true rfl) ⟨Nat.le_of_ble_eq_true rfl, Nat.le_of_ble_eq_true rfl⟩ ⟨by have := hr.1; omega, by have := hr.2; omega⟩ dL_law_493 (fun H locs hH => ?_)
  refine lv_aload_n C.1.hx C.1.hb dL_law_496 rfl (lv_at hl 1 rfl) ?_
  refine lv_aload_n C.1.hx C.1.hb dL_law_497 rfl (lv_at hl 3 rfl) ?_
  refine lv_iload_n C.1.hx C.1.hb dL_law_498 rfl (lv_at hl 0 rfl) ?_
  refine lv_iconst (v := Int32.ofInt 1) C.1.hx C.1.hb dL_law_499 rfl ?_
  refine w_iadd C.1 dL_law_500 ?_
  refine r_scr (i := i + 1) C hH (by omega) (by omega) dL_law_501 ?_
  refine r_callVi (k := 71) (ci := 11) (rest := [i3 r]) C.1 hH hl (ob71 hn) (by decide) rfl (m_X11_wash hn (ob71 hn) h2) ML_RL_66 MF_X11_wash MI_X11_wash rfl rfl (Nat.le_of_ble_eq_true rfl) ⟨Nat.le_of_ble_eq_true rfl, Nat.le_of_ble_eq_true rfl⟩ ⟨by have := hr.1; omega, by have := hr.2; omega⟩ dL_law_502 (fun H locs hH => ?_)
  refine lv_icmp_eq (tgt := 1119) C.1.hx C.1.hb dL_law_505 (by decide) (fun _ => ?_) (fun q => absurd rfl q)
  refine W.widen (k := cells + 8) (n := slots + 53154) (by omega) (by omega) ?_
  exact kk n M2 H locs hn rfl hH
def S12 (a1 a2 a3 a4 a5 : Int) (M : Mem) (P : Mem → Prop) : Prop := ∃ (r : Int) (M1 : Mem) (M2 : Mem), fn_X10_played 0 a1 M = some (r, M1) ∧ fn_X11_played 71 a1 M1 = some (r, M2) ∧ P M2
set_option maxRecDepth 100000 in
set_option maxHeartbeats 4000000 in
theorem lc_12 {p : Program} {l : Launch} {e : Env} {s : State} {m : MethodId} {below : List Frame} {meth : Method} {c : Code} {E : EE} {n b L : Nat} {xs : Nat → Int32} {M : Mem} {H : Heap} {locs : List Loc} {ls : Array Slot} {cells slots : Nat} {Q : State → Prop} {i : Nat} {r : Int} {M1 : Mem} {M2 : Mem} (C : LX E p s m meth c b L xs) (hi : i + 6 ≤ L) (hn : nfull n) (h1 : fn_X10_played 0 ((xs (i + 1)).toInt) M = some (r, M1)) (h2 : fn_X11_played 71 ((xs (i + 1)).toInt) M1 = some (r, M2)) (hr : cells + 8 ≤ room_1.cells ∧ slots + 53154 ≤ room_1.slots) (hH : ST E s n (zf n) M H locs) (hl : lv_has ls 4 [(3, i3 (i : Int)), (2, .ref (eb E + 71)), (1, .ref (eb E + 0)), (0, .ref b)])
    (kk : ∀ (n : Nat) (M3 : Mem) (H : Heap) (locs : List Loc), nfull n → M3 = M2 → ST E s n (zf n) M3 H locs → W p l e room_1 s m #[Value.ref b] below meth c H locs (cells + 8) (slots + 53154) Q (F0 m 1119 ls [])) : W p l e room_1 s m #[Value.ref b] below meth c H locs cells slots Q (F0 m 510 ls []) := by
  refine lv_aload_n C.1.hx C.1.hb dL_law_510 rfl (lv_at hl 2 rfl) ?_
  refine lv_aload_n C.1.hx C.1.hb dL_law_511 rfl (lv_at hl 3 rfl) ?_
  refine lv_iload_n C.1.hx C.1.hb dL_law_512 rfl (lv_at hl 0 rfl) ?_
  refine lv_iconst (v := Int32.ofInt 1) C.1.hx C.1.hb dL_law_513 rfl ?_
  refine w_iadd C.1 dL_law_514 ?_
  refine r_scr (i := i + 1) C hH (by omega) (by omega) dL_law_515 ?_
  refine r_callVi (k := 0) (ci := 10) (rest := []) C.1 hH hl (ob0 hn) (by decide) rfl (m_X10_played hn (ob0 hn) h1) ML_RL_67 MF_X10_played MI_X10_played rfl rfl (Nat.le_of_ble_eq_true rfl) ⟨Nat.le_of_ble_eq_true rfl, Nat.le_of_ble_eq_true rfl⟩ ⟨by have := hr.1; omega, by have := hr.2; omega⟩ dL_law_516 (fun H locs hH => ?_)
  refine lv_aload_n C.1.hx C.1.hb dL_law_519 rfl (lv_at hl 1 rfl) ?_
  refine lv_aload_n C.1.hx C.1.hb dL_law_520 rfl (lv_at hl 3 rfl) ?_
  refine lv_iload_n C.1.hx C.1.hb dL_law_521 rfl (lv_at hl 0 rfl) ?_
  refine lv_iconst (v := Int32.ofInt 1) C.1.hx C.1.hb dL_law_522 rfl ?_
  refine w_iadd C.1 dL_law_523 ?_
  refine r_scr (i := i + 1) C hH (by omega) (by omega) dL_law_524 ?_
  refine r_callVi (k := 71) (ci := 11) (rest := [i3 r]) C.1 hH hl (ob71 hn) (by decide) rfl (m_X11_played hn (ob71 hn) h2) ML_RL_70 MF_X11_played MI_X11_played rfl rfl (Nat.le_of_ble_eq_true rfl) ⟨Nat.le_of_ble_eq_true rfl, Nat.le_of_ble_eq_true rfl⟩ ⟨by have := hr.1; omega, by have := hr.2; omega⟩ dL_law_525 (fun H locs hH => ?_)
  refine lv_icmp_eq (tgt := 1119) C.1.hx C.1.hb dL_law_528 (by decide) (fun _ => ?_) (fun q => absurd rfl q)
  refine W.widen (k := cells + 8) (n := slots + 53154) (by omega) (by omega) ?_
  exact kk n M2 H locs hn rfl hH
def S13 (a1 a2 a3 a4 a5 : Int) (M : Mem) (P : Mem → Prop) : Prop := ∃ (r : Int) (M1 : Mem) (M2 : Mem), fn_X10_undo 0 M = some (r, M1) ∧ fn_X11_undo 71 M1 = some (r, M2) ∧ P M2
set_option maxRecDepth 100000 in
set_option maxHeartbeats 4000000 in
theorem lc_13 {p : Program} {l : Launch} {e : Env} {s : State} {m : MethodId} {below : List Frame} {meth : Method} {c : Code} {E : EE} {n b L : Nat} {xs : Nat → Int32} {M : Mem} {H : Heap} {locs : List Loc} {ls : Array Slot} {cells slots : Nat} {Q : State → Prop} {i : Nat} {r : Int} {M1 : Mem} {M2 : Mem} (C : LX E p s m meth c b L xs) (hi : i + 6 ≤ L) (hn : nfull n) (h1 : fn_X10_undo 0 M = some (r, M1)) (h2 : fn_X11_undo 71 M1 = some (r, M2)) (hr : cells + 8 ≤ room_1.cells ∧ slots + 53154 ≤ room_1.slots) (hH : ST E s n (zf n) M H locs) (hl : lv_has ls 4 [(3, i3 (i : Int)), (2, .ref (eb E + 71)), (1, .ref (eb E + 0)), (0, .ref b)])
    (kk : ∀ (n : Nat) (M3 : Mem) (H : Heap) (locs : List Loc), nfull n → M3 = M2 → ST E s n (zf n) M3 H locs → W p l e room_1 s m #[Value.ref b] below meth c H locs (cells + 8) (slots + 53154) Q (F0 m 1119 ls [])) : W p l e room_1 s m #[Value.ref b] below meth c H locs cells slots Q (F0 m 533 ls []) := by
  refine lv_aload_n C.1.hx C.1.hb dL_law_533 rfl (lv_at hl 2 rfl) ?_
  refine r_callVi (k := 0) (ci := 10) (rest := []) C.1 hH hl (ob0 hn) (by decide) rfl (m_X10_undo hn (ob0 hn) h1) ML_RL_71 MF_X10_undo MI_X10_undo rfl rfl (Nat.le_of_ble_eq_true rfl) ⟨Nat.le_of_ble_eq_true rfl, Nat.le_of_ble_eq_true rfl⟩ ⟨by have := hr.1; omega, by have := hr.2; omega⟩ dL_law_534 (fun H locs hH => ?_)
  refine lv_aload_n C.1.hx C.1.hb dL_law_537 rfl (lv_at hl 1 rfl) ?_
  refine r_callVi (k := 71) (ci := 11) (rest := [i3 r]) C.1 hH hl (ob71 hn) (by decide) rfl (m_X11_undo hn (ob71 hn) h2) ML_RL_74 MF_X11_undo MI_X11_undo rfl rfl (Nat.le_of_ble_eq_true rfl) ⟨Nat.le_of_ble_eq_true rfl, Nat.le_of_ble_eq_true rfl⟩ ⟨by have := hr.1; omega, by have := hr.2; omega⟩ dL_law_538 (fun H locs hH => ?_)
  refine lv_icmp_eq (tgt := 1119) C.1.hx C.1.hb dL_law_541 (by decide) (fun _ => ?_) (fun q => absurd rfl q)
  refine W.widen (k := cells + 8) (n := slots + 53154) (by omega) (by omega) ?_
  exact kk n M2 H locs hn rfl hH
def S14 (a1 a2 a3 a4 a5 : Int) (M : Mem) (P : Mem → Prop) : Prop := ∃ (r : Int) (M1 : Mem) (M2 : Mem), fn_X10_of a1 a2 M = some (r, M1) ∧ fn_X11_of 71 a1 a2 M1 = some (r, M2) ∧ P M2
set_option maxRecDepth 100000 in
set_option maxHeartbeats 4000000 in
theorem lc_14 {p : Program} {l : Launch} {e : Env} {s : State} {m : MethodId} {below : List Frame} {meth : Method} {c : Code} {E : EE} {n b L : Nat} {xs : Nat → Int32} {M : Mem} {H : Heap} {locs : List Loc} {ls : Array Slot} {cells slots : Nat} {Q : State → Prop} {i : Nat} {r : Int} {M1 : Mem} {M2 : Mem} (C : LX E p s m meth c b L xs) (hi : i + 6 ≤ L) (hn : nfull n) (h1 : fn_X10_of ((xs (i + 1)).toInt) ((xs (i + 2)).toInt) M = some (r, M1)) (h2 : fn_X11_of 71 ((xs (i + 1)).toInt) ((xs (i + 2)).toInt) M1 = some (r, M2)) (hr : cells + 8 ≤ room_1.cells ∧ slots + 53154 ≤ room_1.slots) (hH : ST E s n (zf n) M H locs) (hl : lv_has ls 4 [(3, i3 (i : Int)), (2, .ref (eb E + 71)), (1, .ref (eb E + 0)), (0, .ref b)])
    (kk : ∀ (n : Nat) (M3 : Mem) (H : Heap) (locs : List Loc), nfull n → M3 = M2 → ST E s n (zf n) M3 H locs → W p l e room_1 s m #[Value.ref b] below meth c H locs (cells + 8) (slots + 53154) Q (F0 m 1119 ls [])) : W p l e room_1 s m #[Value.ref b] below meth c H locs cells slots Q (F0 m 546 ls []) := by
  refine lv_aload_n C.1.hx C.1.hb dL_law_546 rfl (lv_at hl 2 rfl) ?_
  refine lv_aload_n C.1.hx C.1.hb dL_law_547 rfl (lv_at hl 3 rfl) ?_
  refine lv_iload_n C.1.hx C.1.hb dL_law_548 rfl (lv_at hl 0 rfl) ?_
  refine lv_iconst (v := Int32.ofInt 1) C.1.hx C.1.hb dL_law_549 rfl ?_
  refine w_iadd C.1 dL_law_550 ?_
  refine r_scr (i := i + 1) C hH (by omega) (by omega) dL_law_551 ?_
  refine lv_aload_n C.1.hx C.1.hb dL_law_552 rfl (lv_at hl 3 rfl) ?_
  refine lv_iload_n C.1.hx C.1.hb dL_law_553 rfl (lv_at hl 0 rfl) ?_
  refine lv_iconst (v := Int32.ofInt 2) C.1.hx C.1.hb dL_law_554 rfl ?_
  refine w_iadd C.1 dL_law_555 ?_
  refine r_scr (i := i + 2) C hH (by omega) (by omega) dL_law_556 ?_
  refine w_callV2 (k := 0) (ci := 10) (rest := []) C.1 hH hl (ob0 hn) (by decide) rfl (m_X10_of hn h1) ML_RL_75 MF_X10_of MI_X10_of rfl rfl (Nat.le_of_ble_eq_true rfl) ⟨Nat.le_of_ble_eq_true rfl, Nat.le_of_ble_eq_true rfl⟩ ⟨by have := hr.1; omega, by have := hr.2; omega⟩ dL_law_557 (fun H locs hH => ?_)
  have hn := nOf_full M1
  generalize nOf M1 = n at hH hn
  refine lv_aload_n C.1.hx C.1.hb dL_law_560 rfl (lv_at hl 1 rfl) ?_
  refine lv_aload_n C.1.hx C.1.hb dL_law_561 rfl (lv_at hl 3 rfl) ?_
  refine lv_iload_n C.1.hx C.1.hb dL_law_562 rfl (lv_at hl 0 rfl) ?_
  refine lv_iconst (v := Int32.ofInt 1) C.1.hx C.1.hb dL_law_563 rfl ?_
  refine w_iadd C.1 dL_law_564 ?_
  refine r_scr (i := i + 1) C hH (by omega) (by omega) dL_law_565 ?_
  refine lv_aload_n C.1.hx C.1.hb dL_law_566 rfl (lv_at hl 3 rfl) ?_
  refine lv_iload_n C.1.hx C.1.hb dL_law_567 rfl (lv_at hl 0 rfl) ?_
  refine lv_iconst (v := Int32.ofInt 2) C.1.hx C.1.hb dL_law_568 rfl ?_
  refine w_iadd C.1 dL_law_569 ?_
  refine r_scr (i := i + 2) C hH (by omega) (by omega) dL_law_570 ?_
  refine r_callVi (k := 71) (ci := 11) (rest := [i3 r]) C.1 hH hl (ob71 hn) (by decide) rfl (m_X11_of hn (ob71 hn) h2) ML_RL_78 MF_X11_of MI_X11_of rfl rfl (Nat.le_of_ble_eq_true rfl) ⟨Nat.le_of_ble_eq_true rfl, Nat.le_of_ble_eq_true rfl⟩ ⟨by have := hr.1; omega, by have := hr.2; omega⟩ dL_law_571 (fun H locs hH => ?_)
  refine lv_icmp_eq (tgt := 1119) C.1.hx C.1.hb dL_law_574 (by decide) (fun _ => ?_) (fun q => absurd rfl q)
  refine W.widen (k := cells + 8) (n := slots + 53154) (by omega) (by omega) ?_
  exact kk n M2 H locs hn rfl hH
def S15 (a1 a2 a3 a4 a5 : Int) (M : Mem) (P : Mem → Prop) : Prop := ∃ (r : Int) (M1 : Mem) (M2 : Mem), fn_X10_rows a1 a2 a3 a4 M = some (r, M1) ∧ fn_X11_rows 71 a1 a2 a3 a4 M1 = some (r, M2) ∧ P M2
set_option maxRecDepth 100000 in
set_option maxHeartbeats 4000000 in
theorem lc_15 {p : Program} {l : Launch} {e : Env} {s : State} {m : MethodId} {below : List Frame} {meth : Method} {c : Code} {E : EE} {n b L : Nat} {xs : Nat → Int32} {M : Mem} {H : Heap} {locs : List Loc} {ls : Array Slot} {cells slots : Nat} {Q : State → Prop} {i : Nat} {r : Int} {M1 : Mem} {M2 : Mem} (C : LX E p s m meth c b L xs) (hi : i + 6 ≤ L) (hn : nfull n) (h1 : fn_X10_rows ((xs (i + 1)).toInt) ((xs (i + 2)).toInt) ((xs (i + 3)).toInt) ((xs (i + 4)).toInt) M = some (r, M1)) (h2 : fn_X11_rows 71 ((xs (i + 1)).toInt) ((xs (i + 2)).toInt) ((xs (i + 3)).toInt) ((xs (i + 4)).toInt) M1 = some (r, M2)) (hr : cells + 8 ≤ room_1.cells ∧ slots + 53154 ≤ room_1.slots) (hH : ST E s n (zf n) M H locs) (hl : lv_has ls 4 [(3, i3 (i : Int)), (2, .ref (eb E + 71)), (1, .ref (eb E + 0)), (0, .ref b)])
    (kk : ∀ (n : Nat) (M3 : Mem) (H : Heap) (locs : List Loc), nfull n → M3 = M2 → ST E s n (zf n) M3 H locs → W p l e room_1 s m #[Value.ref b] below meth c H locs (cells + 8) (slots + 53154) Q (F0 m 1119 ls [])) : W p l e room_1 s m #[Value.ref b] below meth c H locs cells slots Q (F0 m 579 ls []) := by
  refine lv_aload_n C.1.hx C.1.hb dL_law_579 rfl (lv_at hl 2 rfl) ?_
  refine lv_aload_n C.1.hx C.1.hb dL_law_580 rfl (lv_at hl 3 rfl) ?_
  refine lv_iload_n C.1.hx C.1.hb dL_law_581 rfl (lv_at hl 0 rfl) ?_
  refine lv_iconst (v := Int32.ofInt 1) C.1.hx C.1.hb dL_law_582 rfl ?_
  refine w_iadd C.1 dL_law_583 ?_
  refine r_scr (i := i + 1) C hH (by omega) (by omega) dL_law_584 ?_
  refine lv_aload_n C.1.hx C.1.hb dL_law_585 rfl (lv_at hl 3 rfl) ?_
  refine lv_iload_n C.1.hx C.1.hb dL_law_586 rfl (lv_at hl 0 rfl) ?_
  refine lv_iconst (v := Int32.ofInt 2) C.1.hx C.1.hb dL_law_587 rfl ?_
  refine w_iadd C.1 dL_law_588 ?_
  refine r_scr (i := i + 2) C hH (by omega) (by omega) dL_law_589 ?_
  refine lv_aload_n C.1.hx C.1.hb dL_law_590 rfl (lv_at hl 3 rfl) ?_
  refine lv_iload_n C.1.hx C.1.hb dL_law_591 rfl (lv_at hl 0 rfl) ?_
  refine lv_iconst (v := Int32.ofInt 3) C.1.hx C.1.hb dL_law_592 rfl ?_
  refine w_iadd C.1 dL_law_593 ?_
  refine r_scr (i := i + 3) C hH (by omega) (by omega) dL_law_594 ?_
  refine lv_aload_n C.1.hx C.1.hb dL_law_595 rfl (lv_at hl 3 rfl) ?_
  refine lv_iload_n C.1.hx C.1.hb dL_law_596 rfl (lv_at hl 0 rfl) ?_
  refine lv_iconst (v := Int32.ofInt 4) C.1.hx C.1.hb dL_law_597 rfl ?_
  refine w_iadd C.1 dL_law_598 ?_
  refine r_scr (i := i + 4) C hH (by omega) (by omega) dL_law_599 ?_
  refine w_callV2 (k := 0) (ci := 10) (rest := []) C.1 hH hl (ob0 hn) (by decide) rfl (m_X10_rows hn h1) ML_RL_79 MF_X10_rows MI_X10_rows rfl rfl (Nat.le_of_ble_eq_true rfl) ⟨Nat.le_of_ble_eq_true rfl, Nat.le_of_ble_eq_true rfl⟩ ⟨by have := hr.1; omega, by have := hr.2; omega⟩ dL_law_600 (fun H locs hH => ?_)
  have hn := nOf_full M1
  generalize nOf M1 = n at hH hn
  refine lv_aload_n C.1.hx C.1.hb dL_law_603 rfl (lv_at hl 1 rfl) ?_
  refine lv_aload_n C.1.hx C.1.hb dL_law_604 rfl (lv_at hl 3 rfl) ?_
  refine lv_iload_n C.1.hx C.1.hb dL_law_605 rfl (lv_at hl 0 rfl) ?_
  refine lv_iconst (v := Int32.ofInt 1) C.1.hx C.1.hb dL_law_606 rfl ?_
  refine w_iadd C.1 dL_law_607 ?_
  refine r_scr (i := i + 1) C hH (by omega) (by omega) dL_law_608 ?_
  refine lv_aload_n C.1.hx C.1.hb dL_law_609 rfl (lv_at hl 3 rfl) ?_
  refine lv_iload_n C.1.hx C.1.hb dL_law_610 rfl (lv_at hl 0 rfl) ?_
  refine lv_iconst (v := Int32.ofInt 2) C.1.hx C.1.hb dL_law_611 rfl ?_
  refine w_iadd C.1 dL_law_612 ?_
  refine r_scr (i := i + 2) C hH (by omega) (by omega) dL_law_613 ?_
  refine lv_aload_n C.1.hx C.1.hb dL_law_614 rfl (lv_at hl 3 rfl) ?_
  refine lv_iload_n C.1.hx C.1.hb dL_law_615 rfl (lv_at hl 0 rfl) ?_
  refine lv_iconst (v := Int32.ofInt 3) C.1.hx C.1.hb dL_law_616 rfl ?_
  refine w_iadd C.1 dL_law_617 ?_
  refine r_scr (i := i + 3) C hH (by omega) (by omega) dL_law_618 ?_
  refine lv_aload_n C.1.hx C.1.hb dL_law_619 rfl (lv_at hl 3 rfl) ?_
  refine lv_iload_n C.1.hx C.1.hb dL_law_620 rfl (lv_at hl 0 rfl) ?_
  refine lv_iconst (v := Int32.ofInt 4) C.1.hx C.1.hb dL_law_621 rfl ?_
  refine w_iadd C.1 dL_law_622 ?_
  refine r_scr (i := i + 4) C hH (by omega) (by omega) dL_law_623 ?_
  refine r_callVi (k := 71) (ci := 11) (rest := [l6 r]) C.1 hH hl (ob71 hn) (by decide) rfl (m_X11_rows hn (ob71 hn) h2) ML_RL_83 MF_X11_rows MI_X11_rows rfl rfl (Nat.le_of_ble_eq_true rfl) ⟨Nat.le_of_ble_eq_true rfl, Nat.le_of_ble_eq_true rfl⟩ ⟨by have := hr.1; omega, by have := hr.2; omega⟩ dL_law_624 (fun H locs hH => ?_)
  refine W.lcmp C.1.hx C.1.hb dL_law_627 ?_
  rw [show lg_cmp (Int64.ofInt r) (Int64.ofInt r) = 0 by simp [lg_cmp]]
  refine lv_if_eq (tgt := 1119) C.1.hx C.1.hb dL_law_628 (by decide) (fun _ => ?_) (fun q => absurd rfl q)
  refine W.widen (k := cells + 8) (n := slots + 53154) (by omega) (by omega) ?_
  exact kk n M2 H locs hn rfl hH
def S16 (a1 a2 a3 a4 a5 : Int) (M : Mem) (P : Mem → Prop) : Prop := ∃ (r : Int) (M1 : Mem) (M2 : Mem), fn_X10_row a1 a2 a3 a4 a5 M = some (r, M1) ∧ fn_X11_row 71 a1 a2 a3 a4 a5 M1 = some (r, M2) ∧ P M2
set_option maxRecDepth 100000 in
set_option maxHeartbeats 4000000 in
theorem lc_16 {p : Program} {l : Launch} {e : Env} {s : State} {m : MethodId} {below : List Frame} {meth : Method} {c : Code} {E : EE} {n b L : Nat} {xs : Nat → Int32} {M : Mem} {H : Heap} {locs : List Loc} {ls : Array Slot} {cells slots : Nat} {Q : State → Prop} {i : Nat} {r : Int} {M1 : Mem} {M2 : Mem} (C : LX E p s m meth c b L xs) (hi : i + 6 ≤ L) (hn : nfull n) (h1 : fn_X10_row ((xs (i + 1)).toInt) ((xs (i + 2)).toInt) ((xs (i + 3)).toInt) ((xs (i + 4)).toInt) ((xs (i + 5)).toInt) M = some (r, M1)) (h2 : fn_X11_row 71 ((xs (i + 1)).toInt) ((xs (i + 2)).toInt) ((xs (i + 3)).toInt) ((xs (i + 4)).toInt) ((xs (i + 5)).toInt) M1 = some (r, M2)) (hr : cells + 8 ≤ room_1.cells ∧ slots + 53154 ≤ room_1.slots) (hH : ST E s n (zf n) M H locs) (hl : lv_has ls 4 [(3, i3 (i : Int)), (2, .ref (eb E + 71)), (1, .ref (eb E + 0)), (0, .ref b)])
    (kk : ∀ (n : Nat) (M3 : Mem) (H : Heap) (locs : List Loc), nfull n → M3 = M2 → ST E s n (zf n) M3 H locs → W p l e room_1 s m #[Value.ref b] below meth c H locs (cells + 8) (slots + 53154) Q (F0 m 1119 ls [])) : W p l e room_1 s m #[Value.ref b] below meth c H locs cells slots Q (F0 m 633 ls []) := by
  refine lv_aload_n C.1.hx C.1.hb dL_law_633 rfl (lv_at hl 2 rfl) ?_
  refine lv_aload_n C.1.hx C.1.hb dL_law_634 rfl (lv_at hl 3 rfl) ?_
  refine lv_iload_n C.1.hx C.1.hb dL_law_635 rfl (lv_at hl 0 rfl) ?_
  refine lv_iconst (v := Int32.ofInt 1) C.1.hx C.1.hb dL_law_636 rfl ?_
  refine w_iadd C.1 dL_law_637 ?_
  refine r_scr (i := i + 1) C hH (by omega) (by omega) dL_law_638 ?_
  refine lv_aload_n C.1.hx C.1.hb dL_law_639 rfl (lv_at hl 3 rfl) ?_
  refine lv_iload_n C.1.hx C.1.hb dL_law_640 rfl (lv_at hl 0 rfl) ?_
  refine lv_iconst (v := Int32.ofInt 2) C.1.hx C.1.hb dL_law_641 rfl ?_
  refine w_iadd C.1 dL_law_642 ?_
  refine r_scr (i := i + 2) C hH (by omega) (by omega) dL_law_643 ?_
  refine lv_aload_n C.1.hx C.1.hb dL_law_644 rfl (lv_at hl 3 rfl) ?_
  refine lv_iload_n C.1.hx C.1.hb dL_law_645 rfl (lv_at hl 0 rfl) ?_
  refine lv_iconst (v := Int32.ofInt 3) C.1.hx C.1.hb dL_law_646 rfl ?_
  refine w_iadd C.1 dL_law_647 ?_
  refine r_scr (i := i + 3) C hH (by omega) (by omega) dL_law_648 ?_
  refine lv_aload_n C.1.hx C.1.hb dL_law_649 rfl (lv_at hl 3 rfl) ?_
  refine lv_iload_n C.1.hx C.1.hb dL_law_650 rfl (lv_at hl 0 rfl) ?_
  refine lv_iconst (v := Int32.ofInt 4) C.1.hx C.1.hb dL_law_651 rfl ?_
  refine w_iadd C.1 dL_law_652 ?_
  refine r_scr (i := i + 4) C hH (by omega) (by omega) dL_law_653 ?_
  refine lv_aload_n C.1.hx C.1.hb dL_law_654 rfl (lv_at hl 3 rfl) ?_
  refine lv_iload_n C.1.hx C.1.hb dL_law_655 rfl (lv_at hl 0 rfl) ?_
  refine lv_iconst (v := Int32.ofInt 5) C.1.hx C.1.hb dL_law_656 rfl ?_
  refine w_iadd C.1 dL_law_657 ?_
  refine r_scr (i := i + 5) C hH (by omega) (by omega) dL_law_658 ?_
  refine w_callV2 (k := 0) (ci := 10) (rest := []) C.1 hH hl (ob0 hn) (by decide) rfl (m_X10_row hn h1) ML_RL_84 MF_X10_row MI_X10_row rfl rfl (Nat.le_of_ble_eq_true rfl) ⟨Nat.le_of_ble_eq_true rfl, Nat.le_of_ble_eq_true rfl⟩ ⟨by have := hr.1; omega, by have := hr.2; omega⟩ dL_law_659 (fun H locs hH => ?_)
  have hn := nOf_full M1
  generalize nOf M1 = n at hH hn
  refine lv_aload_n C.1.hx C.1.hb dL_law_662 rfl (lv_at hl 1 rfl) ?_
  refine lv_aload_n C.1.hx C.1.hb dL_law_663 rfl (lv_at hl 3 rfl) ?_
  refine lv_iload_n C.1.hx C.1.hb dL_law_664 rfl (lv_at hl 0 rfl) ?_
  refine lv_iconst (v := Int32.ofInt 1) C.1.hx C.1.hb dL_law_665 rfl ?_
  refine w_iadd C.1 dL_law_666 ?_
  refine r_scr (i := i + 1) C hH (by omega) (by omega) dL_law_667 ?_
  refine lv_aload_n C.1.hx C.1.hb dL_law_668 rfl (lv_at hl 3 rfl) ?_
  refine lv_iload_n C.1.hx C.1.hb dL_law_669 rfl (lv_at hl 0 rfl) ?_
  refine lv_iconst (v := Int32.ofInt 2) C.1.hx C.1.hb dL_law_670 rfl ?_
  refine w_iadd C.1 dL_law_671 ?_
  refine r_scr (i := i + 2) C hH (by omega) (by omega) dL_law_672 ?_
  refine lv_aload_n C.1.hx C.1.hb dL_law_673 rfl (lv_at hl 3 rfl) ?_
  refine lv_iload_n C.1.hx C.1.hb dL_law_674 rfl (lv_at hl 0 rfl) ?_
  refine lv_iconst (v := Int32.ofInt 3) C.1.hx C.1.hb dL_law_675 rfl ?_
  refine w_iadd C.1 dL_law_676 ?_
  refine r_scr (i := i + 3) C hH (by omega) (by omega) dL_law_677 ?_
  refine lv_aload_n C.1.hx C.1.hb dL_law_678 rfl (lv_at hl 3 rfl) ?_
  refine lv_iload_n C.1.hx C.1.hb dL_law_679 rfl (lv_at hl 0 rfl) ?_
  refine lv_iconst (v := Int32.ofInt 4) C.1.hx C.1.hb dL_law_680 rfl ?_
  refine w_iadd C.1 dL_law_681 ?_
  refine r_scr (i := i + 4) C hH (by omega) (by omega) dL_law_682 ?_
  refine lv_aload_n C.1.hx C.1.hb dL_law_683 rfl (lv_at hl 3 rfl) ?_
  refine lv_iload_n C.1.hx C.1.hb dL_law_684 rfl (lv_at hl 0 rfl) ?_
  refine lv_iconst (v := Int32.ofInt 5) C.1.hx C.1.hb dL_law_685 rfl ?_
  refine w_iadd C.1 dL_law_686 ?_
  refine r_scr (i := i + 5) C hH (by omega) (by omega) dL_law_687 ?_
  refine r_callVi (k := 71) (ci := 11) (rest := [i3 r]) C.1 hH hl (ob71 hn) (by decide) rfl (m_X11_row hn (ob71 hn) h2) ML_RL_87 MF_X11_row MI_X11_row rfl rfl (Nat.le_of_ble_eq_true rfl) ⟨Nat.le_of_ble_eq_true rfl, Nat.le_of_ble_eq_true rfl⟩ ⟨by have := hr.1; omega, by have := hr.2; omega⟩ dL_law_688 (fun H locs hH => ?_)
  refine lv_icmp_eq (tgt := 1119) C.1.hx C.1.hb dL_law_691 (by decide) (fun _ => ?_) (fun q => absurd rfl q)
  refine W.widen (k := cells + 8) (n := slots + 53154) (by omega) (by omega) ?_
  exact kk n M2 H locs hn rfl hH
def S17 (a1 a2 a3 a4 a5 : Int) (M : Mem) (P : Mem → Prop) : Prop := ∃ (r : Int) (M1 : Mem) (M2 : Mem), fn_X10_among a1 a2 a3 a4 (bz a5) M = some (r, M1) ∧ fn_X11_among 71 a1 a2 a3 a4 (bz a5) M1 = some (r, M2) ∧ P M2
set_option maxRecDepth 100000 in
set_option maxHeartbeats 4000000 in
theorem lc_17 {p : Program} {l : Launch} {e : Env} {s : State} {m : MethodId} {below : List Frame} {meth : Method} {c : Code} {E : EE} {n b L : Nat} {xs : Nat → Int32} {M : Mem} {H : Heap} {locs : List Loc} {ls : Array Slot} {cells slots : Nat} {Q : State → Prop} {i : Nat} {r : Int} {M1 : Mem} {M2 : Mem} (C : LX E p s m meth c b L xs) (hi : i + 6 ≤ L) (hn : nfull n) (h1 : fn_X10_among ((xs (i + 1)).toInt) ((xs (i + 2)).toInt) ((xs (i + 3)).toInt) ((xs (i + 4)).toInt) (bz ((xs (i + 5)).toInt)) M = some (r, M1)) (h2 : fn_X11_among 71 ((xs (i + 1)).toInt) ((xs (i + 2)).toInt) ((xs (i + 3)).toInt) ((xs (i + 4)).toInt) (bz ((xs (i + 5)).toInt)) M1 = some (r, M2)) (hr : cells + 8 ≤ room_1.cells ∧ slots + 53154 ≤ room_1.slots) (hH : ST E s n (zf n) M H locs) (hl : lv_has ls 4 [(3, i3 (i : Int)), (2, .ref (eb E + 71)), (1, .ref (eb E + 0)), (0, .ref b)])
    (kk : ∀ (n : Nat) (M3 : Mem) (H : Heap) (locs : List Loc), nfull n → M3 = M2 → ST E s n (zf n) M3 H locs → W p l e room_1 s m #[Value.ref b] below meth c H locs (cells + 8) (slots + 53154) Q (F0 m 1119 ls [])) : W p l e room_1 s m #[Value.ref b] below meth c H locs cells slots Q (F0 m 696 ls []) := by
  by_cases hb5 : (xs (i + 5)).toInt = 0
  · rw [show bz (xs (i + 5)).toInt = 0 from if_pos hb5] at h1 h2
    refine lv_aload_n C.1.hx C.1.hb dL_law_696 rfl (lv_at hl 2 rfl) ?_
    refine lv_aload_n C.1.hx C.1.hb dL_law_697 rfl (lv_at hl 3 rfl) ?_
    refine lv_iload_n C.1.hx C.1.hb dL_law_698 rfl (lv_at hl 0 rfl) ?_
    refine lv_iconst (v := Int32.ofInt 1) C.1.hx C.1.hb dL_law_699 rfl ?_
    refine w_iadd C.1 dL_law_700 ?_
    refine r_scr (i := i + 1) C hH (by omega) (by omega) dL_law_701 ?_
    refine lv_aload_n C.1.hx C.1.hb dL_law_702 rfl (lv_at hl 3 rfl) ?_
    refine lv_iload_n C.1.hx C.1.hb dL_law_703 rfl (lv_at hl 0 rfl) ?_
    refine lv_iconst (v := Int32.ofInt 2) C.1.hx C.1.hb dL_law_704 rfl ?_
    refine w_iadd C.1 dL_law_705 ?_
    refine r_scr (i := i + 2) C hH (by omega) (by omega) dL_law_706 ?_
    refine lv_aload_n C.1.hx C.1.hb dL_law_707 rfl (lv_at hl 3 rfl) ?_
    refine lv_iload_n C.1.hx C.1.hb dL_law_708 rfl (lv_at hl 0 rfl) ?_
    refine lv_iconst (v := Int32.ofInt 3) C.1.hx C.1.hb dL_law_709 rfl ?_
    refine w_iadd C.1 dL_law_710 ?_
    refine r_scr (i := i + 3) C hH (by omega) (by omega) dL_law_711 ?_
    refine lv_aload_n C.1.hx C.1.hb dL_law_712 rfl (lv_at hl 3 rfl) ?_
    refine lv_iload_n C.1.hx C.1.hb dL_law_713 rfl (lv_at hl 0 rfl) ?_
    refine lv_iconst (v := Int32.ofInt 4) C.1.hx C.1.hb dL_law_714 rfl ?_
    refine w_iadd C.1 dL_law_715 ?_
    refine r_scr (i := i + 4) C hH (by omega) (by omega) dL_law_716 ?_
    refine lv_aload_n C.1.hx C.1.hb dL_law_717 rfl (lv_at hl 3 rfl) ?_
    refine lv_iload_n C.1.hx C.1.hb dL_law_718 rfl (lv_at hl 0 rfl) ?_
    refine lv_iconst (v := Int32.ofInt 5) C.1.hx C.1.hb dL_law_719 rfl ?_
    refine w_iadd C.1 dL_law_720 ?_
    refine r_scr (i := i + 5) C hH (by omega) (by omega) dL_law_721 ?_
    refine lv_if_eq (tgt := 729) C.1.hx C.1.hb dL_law_722 (by decide) (fun _ => ?_) (fun q => absurd (by rw [hb5]; rfl) q)
    refine lv_iconst (v := Int32.ofInt 0) C.1.hx C.1.hb dL_law_729 rfl ?_
    refine w_callV2 (k := 0) (ci := 10) (rest := []) C.1 hH hl (ob0 hn) (by decide) rfl (m_X10_among hn h1) ML_RL_88 MF_X10_among MI_X10_among rfl rfl (Nat.le_of_ble_eq_true rfl) ⟨Nat.le_of_ble_eq_true rfl, Nat.le_of_ble_eq_true rfl⟩ ⟨by have := hr.1; omega, by have := hr.2; omega⟩ dL_law_730 (fun H locs hH => ?_)
    have hn := nOf_full M1
    generalize nOf M1 = n at hH hn
    refine lv_aload_n C.1.hx C.1.hb dL_law_733 rfl (lv_at hl 1 rfl) ?_
    refine lv_aload_n C.1.hx C.1.hb dL_law_734 rfl (lv_at hl 3 rfl) ?_
    refine lv_iload_n C.1.hx C.1.hb dL_law_735 rfl (lv_at hl 0 rfl) ?_
    refine lv_iconst (v := Int32.ofInt 1) C.1.hx C.1.hb dL_law_736 rfl ?_
    refine w_iadd C.1 dL_law_737 ?_
    refine r_scr (i := i + 1) C hH (by omega) (by omega) dL_law_738 ?_
    refine lv_aload_n C.1.hx C.1.hb dL_law_739 rfl (lv_at hl 3 rfl) ?_
    refine lv_iload_n C.1.hx C.1.hb dL_law_740 rfl (lv_at hl 0 rfl) ?_
    refine lv_iconst (v := Int32.ofInt 2) C.1.hx C.1.hb dL_law_741 rfl ?_
    refine w_iadd C.1 dL_law_742 ?_
    refine r_scr (i := i + 2) C hH (by omega) (by omega) dL_law_743 ?_
    refine lv_aload_n C.1.hx C.1.hb dL_law_744 rfl (lv_at hl 3 rfl) ?_
    refine lv_iload_n C.1.hx C.1.hb dL_law_745 rfl (lv_at hl 0 rfl) ?_
    refine lv_iconst (v := Int32.ofInt 3) C.1.hx C.1.hb dL_law_746 rfl ?_
    refine w_iadd C.1 dL_law_747 ?_
    refine r_scr (i := i + 3) C hH (by omega) (by omega) dL_law_748 ?_
    refine lv_aload_n C.1.hx C.1.hb dL_law_749 rfl (lv_at hl 3 rfl) ?_
    refine lv_iload_n C.1.hx C.1.hb dL_law_750 rfl (lv_at hl 0 rfl) ?_
    refine lv_iconst (v := Int32.ofInt 4) C.1.hx C.1.hb dL_law_751 rfl ?_
    refine w_iadd C.1 dL_law_752 ?_
    refine r_scr (i := i + 4) C hH (by omega) (by omega) dL_law_753 ?_
    refine lv_aload_n C.1.hx C.1.hb dL_law_754 rfl (lv_at hl 3 rfl) ?_
    refine lv_iload_n C.1.hx C.1.hb dL_law_755 rfl (lv_at hl 0 rfl) ?_
    refine lv_iconst (v := Int32.ofInt 5) C.1.hx C.1.hb dL_law_756 rfl ?_
    refine w_iadd C.1 dL_law_757 ?_
    refine r_scr (i := i + 5) C hH (by omega) (by omega) dL_law_758 ?_
    refine lv_if_eq (tgt := 766) C.1.hx C.1.hb dL_law_759 (by decide) (fun _ => ?_) (fun q => absurd (by rw [hb5]; rfl) q)
    refine lv_iconst (v := Int32.ofInt 0) C.1.hx C.1.hb dL_law_766 rfl ?_
    refine r_callVi (k := 71) (ci := 11) (rest := [i3 r]) C.1 hH hl (ob71 hn) (by decide) rfl (m_X11_among hn (ob71 hn) h2) ML_RL_92 MF_X11_among MI_X11_among rfl rfl (Nat.le_of_ble_eq_true rfl) ⟨Nat.le_of_ble_eq_true rfl, Nat.le_of_ble_eq_true rfl⟩ ⟨by have := hr.1; omega, by have := hr.2; omega⟩ dL_law_767 (fun H locs hH => ?_)
    refine lv_icmp_eq (tgt := 1119) C.1.hx C.1.hb dL_law_770 (by decide) (fun _ => ?_) (fun q => absurd rfl q)
    refine W.widen (k := cells + 8) (n := slots + 53154) (by omega) (by omega) ?_
    exact kk n M2 H locs hn rfl hH
  · rw [show bz (xs (i + 5)).toInt = 1 from if_neg hb5] at h1 h2
    refine lv_aload_n C.1.hx C.1.hb dL_law_696 rfl (lv_at hl 2 rfl) ?_
    refine lv_aload_n C.1.hx C.1.hb dL_law_697 rfl (lv_at hl 3 rfl) ?_
    refine lv_iload_n C.1.hx C.1.hb dL_law_698 rfl (lv_at hl 0 rfl) ?_
    refine lv_iconst (v := Int32.ofInt 1) C.1.hx C.1.hb dL_law_699 rfl ?_
    refine w_iadd C.1 dL_law_700 ?_
    refine r_scr (i := i + 1) C hH (by omega) (by omega) dL_law_701 ?_
    refine lv_aload_n C.1.hx C.1.hb dL_law_702 rfl (lv_at hl 3 rfl) ?_
    refine lv_iload_n C.1.hx C.1.hb dL_law_703 rfl (lv_at hl 0 rfl) ?_
    refine lv_iconst (v := Int32.ofInt 2) C.1.hx C.1.hb dL_law_704 rfl ?_
    refine w_iadd C.1 dL_law_705 ?_
    refine r_scr (i := i + 2) C hH (by omega) (by omega) dL_law_706 ?_
    refine lv_aload_n C.1.hx C.1.hb dL_law_707 rfl (lv_at hl 3 rfl) ?_
    refine lv_iload_n C.1.hx C.1.hb dL_law_708 rfl (lv_at hl 0 rfl) ?_
    refine lv_iconst (v := Int32.ofInt 3) C.1.hx C.1.hb dL_law_709 rfl ?_
    refine w_iadd C.1 dL_law_710 ?_
    refine r_scr (i := i + 3) C hH (by omega) (by omega) dL_law_711 ?_
    refine lv_aload_n C.1.hx C.1.hb dL_law_712 rfl (lv_at hl 3 rfl) ?_
    refine lv_iload_n C.1.hx C.1.hb dL_law_713 rfl (lv_at hl 0 rfl) ?_
    refine lv_iconst (v := Int32.ofInt 4) C.1.hx C.1.hb dL_law_714 rfl ?_
    refine w_iadd C.1 dL_law_715 ?_
    refine r_scr (i := i + 4) C hH (by omega) (by omega) dL_law_716 ?_
    refine lv_aload_n C.1.hx C.1.hb dL_law_717 rfl (lv_at hl 3 rfl) ?_
    refine lv_iload_n C.1.hx C.1.hb dL_law_718 rfl (lv_at hl 0 rfl) ?_
    refine lv_iconst (v := Int32.ofInt 5) C.1.hx C.1.hb dL_law_719 rfl ?_
    refine w_iadd C.1 dL_law_720 ?_
    refine r_scr (i := i + 5) C hH (by omega) (by omega) dL_law_721 ?_
    refine lv_if_eq (tgt := 729) C.1.hx C.1.hb dL_law_722 (by decide) (fun q => absurd q (by rw [i3_to]; intro q2; exact hb5 (by rw [q2]; rfl))) (fun _ => ?_)
    refine lv_iconst (v := Int32.ofInt 1) C.1.hx C.1.hb dL_law_725 rfl ?_
    refine lv_goto (tgt := 730) C.1.hx C.1.hb dL_law_726 (by decide) ?_
    refine w_callV2 (k := 0) (ci := 10) (rest := []) C.1 hH hl (ob0 hn) (by decide) rfl (m_X10_among hn h1) ML_RL_88 MF_X10_among MI_X10_among rfl rfl (Nat.le_of_ble_eq_true rfl) ⟨Nat.le_of_ble_eq_true rfl, Nat.le_of_ble_eq_true rfl⟩ ⟨by have := hr.1; omega, by have := hr.2; omega⟩ dL_law_730 (fun H locs hH => ?_)
    have hn := nOf_full M1
    generalize nOf M1 = n at hH hn
    refine lv_aload_n C.1.hx C.1.hb dL_law_733 rfl (lv_at hl 1 rfl) ?_
    refine lv_aload_n C.1.hx C.1.hb dL_law_734 rfl (lv_at hl 3 rfl) ?_
    refine lv_iload_n C.1.hx C.1.hb dL_law_735 rfl (lv_at hl 0 rfl) ?_
    refine lv_iconst (v := Int32.ofInt 1) C.1.hx C.1.hb dL_law_736 rfl ?_
    refine w_iadd C.1 dL_law_737 ?_
    refine r_scr (i := i + 1) C hH (by omega) (by omega) dL_law_738 ?_
    refine lv_aload_n C.1.hx C.1.hb dL_law_739 rfl (lv_at hl 3 rfl) ?_
    refine lv_iload_n C.1.hx C.1.hb dL_law_740 rfl (lv_at hl 0 rfl) ?_
    refine lv_iconst (v := Int32.ofInt 2) C.1.hx C.1.hb dL_law_741 rfl ?_
    refine w_iadd C.1 dL_law_742 ?_
    refine r_scr (i := i + 2) C hH (by omega) (by omega) dL_law_743 ?_
    refine lv_aload_n C.1.hx C.1.hb dL_law_744 rfl (lv_at hl 3 rfl) ?_
    refine lv_iload_n C.1.hx C.1.hb dL_law_745 rfl (lv_at hl 0 rfl) ?_
    refine lv_iconst (v := Int32.ofInt 3) C.1.hx C.1.hb dL_law_746 rfl ?_
    refine w_iadd C.1 dL_law_747 ?_
    refine r_scr (i := i + 3) C hH (by omega) (by omega) dL_law_748 ?_
    refine lv_aload_n C.1.hx C.1.hb dL_law_749 rfl (lv_at hl 3 rfl) ?_
    refine lv_iload_n C.1.hx C.1.hb dL_law_750 rfl (lv_at hl 0 rfl) ?_
    refine lv_iconst (v := Int32.ofInt 4) C.1.hx C.1.hb dL_law_751 rfl ?_
    refine w_iadd C.1 dL_law_752 ?_
    refine r_scr (i := i + 4) C hH (by omega) (by omega) dL_law_753 ?_
    refine lv_aload_n C.1.hx C.1.hb dL_law_754 rfl (lv_at hl 3 rfl) ?_
    refine lv_iload_n C.1.hx C.1.hb dL_law_755 rfl (lv_at hl 0 rfl) ?_
    refine lv_iconst (v := Int32.ofInt 5) C.1.hx C.1.hb dL_law_756 rfl ?_
    refine w_iadd C.1 dL_law_757 ?_
    refine r_scr (i := i + 5) C hH (by omega) (by omega) dL_law_758 ?_
    refine lv_if_eq (tgt := 766) C.1.hx C.1.hb dL_law_759 (by decide) (fun q => absurd q (by rw [i3_to]; intro q2; exact hb5 (by rw [q2]; rfl))) (fun _ => ?_)
    refine lv_iconst (v := Int32.ofInt 1) C.1.hx C.1.hb dL_law_762 rfl ?_
    refine lv_goto (tgt := 767) C.1.hx C.1.hb dL_law_763 (by decide) ?_
    refine r_callVi (k := 71) (ci := 11) (rest := [i3 r]) C.1 hH hl (ob71 hn) (by decide) rfl (m_X11_among hn (ob71 hn) h2) ML_RL_92 MF_X11_among MI_X11_among rfl rfl (Nat.le_of_ble_eq_true rfl) ⟨Nat.le_of_ble_eq_true rfl, Nat.le_of_ble_eq_true rfl⟩ ⟨by have := hr.1; omega, by have := hr.2; omega⟩ dL_law_767 (fun H locs hH => ?_)
    refine lv_icmp_eq (tgt := 1119) C.1.hx C.1.hb dL_law_770 (by decide) (fun _ => ?_) (fun q => absurd rfl q)
    refine W.widen (k := cells + 8) (n := slots + 53154) (by omega) (by omega) ?_
    exact kk n M2 H locs hn rfl hH
def S18 (a1 a2 a3 a4 a5 : Int) (M : Mem) (P : Mem → Prop) : Prop := ∃ (r : Int) (M1 : Mem) (M2 : Mem), fn_X10_purse 0 a1 a2 M = some (r, M1) ∧ fn_X11_purse 71 a1 a2 M1 = some (r, M2) ∧ P M2
set_option maxRecDepth 100000 in
set_option maxHeartbeats 4000000 in
theorem lc_18 {p : Program} {l : Launch} {e : Env} {s : State} {m : MethodId} {below : List Frame} {meth : Method} {c : Code} {E : EE} {n b L : Nat} {xs : Nat → Int32} {M : Mem} {H : Heap} {locs : List Loc} {ls : Array Slot} {cells slots : Nat} {Q : State → Prop} {i : Nat} {r : Int} {M1 : Mem} {M2 : Mem} (C : LX E p s m meth c b L xs) (hi : i + 6 ≤ L) (hn : nfull n) (h1 : fn_X10_purse 0 ((xs (i + 1)).toInt) ((xs (i + 2)).toInt) M = some (r, M1)) (h2 : fn_X11_purse 71 ((xs (i + 1)).toInt) ((xs (i + 2)).toInt) M1 = some (r, M2)) (hr : cells + 8 ≤ room_1.cells ∧ slots + 53154 ≤ room_1.slots) (hH : ST E s n (zf n) M H locs) (hl : lv_has ls 4 [(3, i3 (i : Int)), (2, .ref (eb E + 71)), (1, .ref (eb E + 0)), (0, .ref b)])
    (kk : ∀ (n : Nat) (M3 : Mem) (H : Heap) (locs : List Loc), nfull n → M3 = M2 → ST E s n (zf n) M3 H locs → W p l e room_1 s m #[Value.ref b] below meth c H locs (cells + 8) (slots + 53154) Q (F0 m 1119 ls [])) : W p l e room_1 s m #[Value.ref b] below meth c H locs cells slots Q (F0 m 775 ls []) := by
  refine lv_aload_n C.1.hx C.1.hb dL_law_775 rfl (lv_at hl 2 rfl) ?_
  refine lv_aload_n C.1.hx C.1.hb dL_law_776 rfl (lv_at hl 3 rfl) ?_
  refine lv_iload_n C.1.hx C.1.hb dL_law_777 rfl (lv_at hl 0 rfl) ?_
  refine lv_iconst (v := Int32.ofInt 1) C.1.hx C.1.hb dL_law_778 rfl ?_
  refine w_iadd C.1 dL_law_779 ?_
  refine r_scr (i := i + 1) C hH (by omega) (by omega) dL_law_780 ?_
  refine lv_aload_n C.1.hx C.1.hb dL_law_781 rfl (lv_at hl 3 rfl) ?_
  refine lv_iload_n C.1.hx C.1.hb dL_law_782 rfl (lv_at hl 0 rfl) ?_
  refine lv_iconst (v := Int32.ofInt 2) C.1.hx C.1.hb dL_law_783 rfl ?_
  refine w_iadd C.1 dL_law_784 ?_
  refine r_scr (i := i + 2) C hH (by omega) (by omega) dL_law_785 ?_
  refine r_callVi (k := 0) (ci := 10) (rest := []) C.1 hH hl (ob0 hn) (by decide) rfl (m_X10_purse hn (ob0 hn) h1) ML_RL_93 MF_X10_purse MI_X10_purse rfl rfl (Nat.le_of_ble_eq_true rfl) ⟨Nat.le_of_ble_eq_true rfl, Nat.le_of_ble_eq_true rfl⟩ ⟨by have := hr.1; omega, by have := hr.2; omega⟩ dL_law_786 (fun H locs hH => ?_)
  refine lv_aload_n C.1.hx C.1.hb dL_law_789 rfl (lv_at hl 1 rfl) ?_
  refine lv_aload_n C.1.hx C.1.hb dL_law_790 rfl (lv_at hl 3 rfl) ?_
  refine lv_iload_n C.1.hx C.1.hb dL_law_791 rfl (lv_at hl 0 rfl) ?_
  refine lv_iconst (v := Int32.ofInt 1) C.1.hx C.1.hb dL_law_792 rfl ?_
  refine w_iadd C.1 dL_law_793 ?_
  refine r_scr (i := i + 1) C hH (by omega) (by omega) dL_law_794 ?_
  refine lv_aload_n C.1.hx C.1.hb dL_law_795 rfl (lv_at hl 3 rfl) ?_
  refine lv_iload_n C.1.hx C.1.hb dL_law_796 rfl (lv_at hl 0 rfl) ?_
  refine lv_iconst (v := Int32.ofInt 2) C.1.hx C.1.hb dL_law_797 rfl ?_
  refine w_iadd C.1 dL_law_798 ?_
  refine r_scr (i := i + 2) C hH (by omega) (by omega) dL_law_799 ?_
  refine r_callVi (k := 71) (ci := 11) (rest := [i3 r]) C.1 hH hl (ob71 hn) (by decide) rfl (m_X11_purse hn (ob71 hn) h2) ML_RL_96 MF_X11_purse MI_X11_purse rfl rfl (Nat.le_of_ble_eq_true rfl) ⟨Nat.le_of_ble_eq_true rfl, Nat.le_of_ble_eq_true rfl⟩ ⟨by have := hr.1; omega, by have := hr.2; omega⟩ dL_law_800 (fun H locs hH => ?_)
  refine lv_icmp_eq (tgt := 1119) C.1.hx C.1.hb dL_law_803 (by decide) (fun _ => ?_) (fun q => absurd rfl q)
  refine W.widen (k := cells + 8) (n := slots + 53154) (by omega) (by omega) ?_
  exact kk n M2 H locs hn rfl hH
def S19 (a1 a2 a3 a4 a5 : Int) (M : Mem) (P : Mem → Prop) : Prop := ∃ (r : Int) (M1 : Mem) (M2 : Mem), fn_X10_odds a1 a2 a3 a4 M = some (r, M1) ∧ fn_X11_odds 71 a1 a2 a3 a4 M1 = some (r, M2) ∧ P M2
set_option maxRecDepth 100000 in
set_option maxHeartbeats 4000000 in
theorem lc_19 {p : Program} {l : Launch} {e : Env} {s : State} {m : MethodId} {below : List Frame} {meth : Method} {c : Code} {E : EE} {n b L : Nat} {xs : Nat → Int32} {M : Mem} {H : Heap} {locs : List Loc} {ls : Array Slot} {cells slots : Nat} {Q : State → Prop} {i : Nat} {r : Int} {M1 : Mem} {M2 : Mem} (C : LX E p s m meth c b L xs) (hi : i + 6 ≤ L) (hn : nfull n) (h1 : fn_X10_odds ((xs (i + 1)).toInt) ((xs (i + 2)).toInt) ((xs (i + 3)).toInt) ((xs (i + 4)).toInt) M = some (r, M1)) (h2 : fn_X11_odds 71 ((xs (i + 1)).toInt) ((xs (i + 2)).toInt) ((xs (i + 3)).toInt) ((xs (i + 4)).toInt) M1 = some (r, M2)) (hr : cells + 8 ≤ room_1.cells ∧ slots + 53154 ≤ room_1.slots) (hH : ST E s n (zf n) M H locs) (hl : lv_has ls 4 [(3, i3 (i : Int)), (2, .ref (eb E + 71)), (1, .ref (eb E + 0)), (0, .ref b)])
    (kk : ∀ (n : Nat) (M3 : Mem) (H : Heap) (locs : List Loc), nfull n → M3 = M2 → ST E s n (zf n) M3 H locs → W p l e room_1 s m #[Value.ref b] below meth c H locs (cells + 8) (slots + 53154) Q (F0 m 1119 ls [])) : W p l e room_1 s m #[Value.ref b] below meth c H locs cells slots Q (F0 m 808 ls []) := by
  refine lv_aload_n C.1.hx C.1.hb dL_law_808 rfl (lv_at hl 2 rfl) ?_
  refine lv_aload_n C.1.hx C.1.hb dL_law_809 rfl (lv_at hl 3 rfl) ?_
  refine lv_iload_n C.1.hx C.1.hb dL_law_810 rfl (lv_at hl 0 rfl) ?_
  refine lv_iconst (v := Int32.ofInt 1) C.1.hx C.1.hb dL_law_811 rfl ?_
  refine w_iadd C.1 dL_law_812 ?_
  refine r_scr (i := i + 1) C hH (by omega) (by omega) dL_law_813 ?_
  refine lv_aload_n C.1.hx C.1.hb dL_law_814 rfl (lv_at hl 3 rfl) ?_
  refine lv_iload_n C.1.hx C.1.hb dL_law_815 rfl (lv_at hl 0 rfl) ?_
  refine lv_iconst (v := Int32.ofInt 2) C.1.hx C.1.hb dL_law_816 rfl ?_
  refine w_iadd C.1 dL_law_817 ?_
  refine r_scr (i := i + 2) C hH (by omega) (by omega) dL_law_818 ?_
  refine lv_aload_n C.1.hx C.1.hb dL_law_819 rfl (lv_at hl 3 rfl) ?_
  refine lv_iload_n C.1.hx C.1.hb dL_law_820 rfl (lv_at hl 0 rfl) ?_
  refine lv_iconst (v := Int32.ofInt 3) C.1.hx C.1.hb dL_law_821 rfl ?_
  refine w_iadd C.1 dL_law_822 ?_
  refine r_scr (i := i + 3) C hH (by omega) (by omega) dL_law_823 ?_
  refine lv_aload_n C.1.hx C.1.hb dL_law_824 rfl (lv_at hl 3 rfl) ?_
  refine lv_iload_n C.1.hx C.1.hb dL_law_825 rfl (lv_at hl 0 rfl) ?_
  refine lv_iconst (v := Int32.ofInt 4) C.1.hx C.1.hb dL_law_826 rfl ?_
  refine w_iadd C.1 dL_law_827 ?_
  refine r_scr (i := i + 4) C hH (by omega) (by omega) dL_law_828 ?_
  refine w_callV2 (k := 0) (ci := 10) (rest := []) C.1 hH hl (ob0 hn) (by decide) rfl (m_X10_odds hn h1) ML_RL_97 MF_X10_odds MI_X10_odds rfl rfl (Nat.le_of_ble_eq_true rfl) ⟨Nat.le_of_ble_eq_true rfl, Nat.le_of_ble_eq_true rfl⟩ ⟨by have := hr.1; omega, by have := hr.2; omega⟩ dL_law_829 (fun H locs hH => ?_)
  have hn := nOf_full M1
  generalize nOf M1 = n at hH hn
  refine lv_aload_n C.1.hx C.1.hb dL_law_832 rfl (lv_at hl 1 rfl) ?_
  refine lv_aload_n C.1.hx C.1.hb dL_law_833 rfl (lv_at hl 3 rfl) ?_
  refine lv_iload_n C.1.hx C.1.hb dL_law_834 rfl (lv_at hl 0 rfl) ?_
  refine lv_iconst (v := Int32.ofInt 1) C.1.hx C.1.hb dL_law_835 rfl ?_
  refine w_iadd C.1 dL_law_836 ?_
  refine r_scr (i := i + 1) C hH (by omega) (by omega) dL_law_837 ?_
  refine lv_aload_n C.1.hx C.1.hb dL_law_838 rfl (lv_at hl 3 rfl) ?_
  refine lv_iload_n C.1.hx C.1.hb dL_law_839 rfl (lv_at hl 0 rfl) ?_
  refine lv_iconst (v := Int32.ofInt 2) C.1.hx C.1.hb dL_law_840 rfl ?_
  refine w_iadd C.1 dL_law_841 ?_
  refine r_scr (i := i + 2) C hH (by omega) (by omega) dL_law_842 ?_
  refine lv_aload_n C.1.hx C.1.hb dL_law_843 rfl (lv_at hl 3 rfl) ?_
  refine lv_iload_n C.1.hx C.1.hb dL_law_844 rfl (lv_at hl 0 rfl) ?_
  refine lv_iconst (v := Int32.ofInt 3) C.1.hx C.1.hb dL_law_845 rfl ?_
  refine w_iadd C.1 dL_law_846 ?_
  refine r_scr (i := i + 3) C hH (by omega) (by omega) dL_law_847 ?_
  refine lv_aload_n C.1.hx C.1.hb dL_law_848 rfl (lv_at hl 3 rfl) ?_
  refine lv_iload_n C.1.hx C.1.hb dL_law_849 rfl (lv_at hl 0 rfl) ?_
  refine lv_iconst (v := Int32.ofInt 4) C.1.hx C.1.hb dL_law_850 rfl ?_
  refine w_iadd C.1 dL_law_851 ?_
  refine r_scr (i := i + 4) C hH (by omega) (by omega) dL_law_852 ?_
  refine r_callVi (k := 71) (ci := 11) (rest := [l6 r]) C.1 hH hl (ob71 hn) (by decide) rfl (m_X11_odds hn (ob71 hn) h2) ML_RL_100 MF_X11_odds MI_X11_odds rfl rfl (Nat.le_of_ble_eq_true rfl) ⟨Nat.le_of_ble_eq_true rfl, Nat.le_of_ble_eq_true rfl⟩ ⟨by have := hr.1; omega, by have := hr.2; omega⟩ dL_law_853 (fun H locs hH => ?_)
  refine W.lcmp C.1.hx C.1.hb dL_law_856 ?_
  rw [show lg_cmp (Int64.ofInt r) (Int64.ofInt r) = 0 by simp [lg_cmp]]
  refine lv_if_eq (tgt := 1119) C.1.hx C.1.hb dL_law_857 (by decide) (fun _ => ?_) (fun q => absurd rfl q)
  refine W.widen (k := cells + 8) (n := slots + 53154) (by omega) (by omega) ?_
  exact kk n M2 H locs hn rfl hH
def S20 (a1 a2 a3 a4 a5 : Int) (M : Mem) (P : Mem → Prop) : Prop := ∃ (r : Int) (M1 : Mem) (M2 : Mem), fn_X10_told a1 a2 M = some (r, M1) ∧ fn_X11_told 71 a1 a2 M1 = some (r, M2) ∧ P M2
set_option maxRecDepth 100000 in
set_option maxHeartbeats 4000000 in
theorem lc_20 {p : Program} {l : Launch} {e : Env} {s : State} {m : MethodId} {below : List Frame} {meth : Method} {c : Code} {E : EE} {n b L : Nat} {xs : Nat → Int32} {M : Mem} {H : Heap} {locs : List Loc} {ls : Array Slot} {cells slots : Nat} {Q : State → Prop} {i : Nat} {r : Int} {M1 : Mem} {M2 : Mem} (C : LX E p s m meth c b L xs) (hi : i + 6 ≤ L) (hn : nfull n) (h1 : fn_X10_told ((xs (i + 1)).toInt) ((xs (i + 2)).toInt) M = some (r, M1)) (h2 : fn_X11_told 71 ((xs (i + 1)).toInt) ((xs (i + 2)).toInt) M1 = some (r, M2)) (hr : cells + 8 ≤ room_1.cells ∧ slots + 53154 ≤ room_1.slots) (hH : ST E s n (zf n) M H locs) (hl : lv_has ls 4 [(3, i3 (i : Int)), (2, .ref (eb E + 71)), (1, .ref (eb E + 0)), (0, .ref b)])
    (kk : ∀ (n : Nat) (M3 : Mem) (H : Heap) (locs : List Loc), nfull n → M3 = M2 → ST E s n (zf n) M3 H locs → W p l e room_1 s m #[Value.ref b] below meth c H locs (cells + 8) (slots + 53154) Q (F0 m 1119 ls [])) : W p l e room_1 s m #[Value.ref b] below meth c H locs cells slots Q (F0 m 862 ls []) := by
  refine lv_aload_n C.1.hx C.1.hb dL_law_862 rfl (lv_at hl 2 rfl) ?_
  refine lv_aload_n C.1.hx C.1.hb dL_law_863 rfl (lv_at hl 3 rfl) ?_
  refine lv_iload_n C.1.hx C.1.hb dL_law_864 rfl (lv_at hl 0 rfl) ?_
  refine lv_iconst (v := Int32.ofInt 1) C.1.hx C.1.hb dL_law_865 rfl ?_
  refine w_iadd C.1 dL_law_866 ?_
  refine r_scr (i := i + 1) C hH (by omega) (by omega) dL_law_867 ?_
  refine lv_aload_n C.1.hx C.1.hb dL_law_868 rfl (lv_at hl 3 rfl) ?_
  refine lv_iload_n C.1.hx C.1.hb dL_law_869 rfl (lv_at hl 0 rfl) ?_
  refine lv_iconst (v := Int32.ofInt 2) C.1.hx C.1.hb dL_law_870 rfl ?_
  refine w_iadd C.1 dL_law_871 ?_
  refine r_scr (i := i + 2) C hH (by omega) (by omega) dL_law_872 ?_
  refine w_callV2 (k := 0) (ci := 10) (rest := []) C.1 hH hl (ob0 hn) (by decide) rfl (m_X10_told hn h1) ML_RL_101 MF_X10_told MI_X10_told rfl rfl (Nat.le_of_ble_eq_true rfl) ⟨Nat.le_of_ble_eq_true rfl, Nat.le_of_ble_eq_true rfl⟩ ⟨by have := hr.1; omega, by have := hr.2; omega⟩ dL_law_873 (fun H locs hH => ?_)
  have hn := nOf_full M1
  generalize nOf M1 = n at hH hn
  refine lv_aload_n C.1.hx C.1.hb dL_law_876 rfl (lv_at hl 1 rfl) ?_
  refine lv_aload_n C.1.hx C.1.hb dL_law_877 rfl (lv_at hl 3 rfl) ?_
  refine lv_iload_n C.1.hx C.1.hb dL_law_878 rfl (lv_at hl 0 rfl) ?_
  refine lv_iconst (v := Int32.ofInt 1) C.1.hx C.1.hb dL_law_879 rfl ?_
  refine w_iadd C.1 dL_law_880 ?_
  refine r_scr (i := i + 1) C hH (by omega) (by omega) dL_law_881 ?_
  refine lv_aload_n C.1.hx C.1.hb dL_law_882 rfl (lv_at hl 3 rfl) ?_
  refine lv_iload_n C.1.hx C.1.hb dL_law_883 rfl (lv_at hl 0 rfl) ?_
  refine lv_iconst (v := Int32.ofInt 2) C.1.hx C.1.hb dL_law_884 rfl ?_
  refine w_iadd C.1 dL_law_885 ?_
  refine r_scr (i := i + 2) C hH (by omega) (by omega) dL_law_886 ?_
  refine r_callVi (k := 71) (ci := 11) (rest := [i3 r]) C.1 hH hl (ob71 hn) (by decide) rfl (m_X11_told hn (ob71 hn) h2) ML_RL_104 MF_X11_told MI_X11_told rfl rfl (Nat.le_of_ble_eq_true rfl) ⟨Nat.le_of_ble_eq_true rfl, Nat.le_of_ble_eq_true rfl⟩ ⟨by have := hr.1; omega, by have := hr.2; omega⟩ dL_law_887 (fun H locs hH => ?_)
  refine lv_icmp_eq (tgt := 1119) C.1.hx C.1.hb dL_law_890 (by decide) (fun _ => ?_) (fun q => absurd rfl q)
  refine W.widen (k := cells + 8) (n := slots + 53154) (by omega) (by omega) ?_
  exact kk n M2 H locs hn rfl hH
def S21 (a1 a2 a3 a4 a5 : Int) (M : Mem) (P : Mem → Prop) : Prop := ∃ (r : Int) (M2 : Mem), fn_X10_chosen 0 a1 a2 a3 M = some r ∧ fn_X11_chosen 71 a1 a2 a3 M = some (r, M2) ∧ P M2
set_option maxRecDepth 100000 in
set_option maxHeartbeats 4000000 in
theorem lc_21 {p : Program} {l : Launch} {e : Env} {s : State} {m : MethodId} {below : List Frame} {meth : Method} {c : Code} {E : EE} {n b L : Nat} {xs : Nat → Int32} {M : Mem} {H : Heap} {locs : List Loc} {ls : Array Slot} {cells slots : Nat} {Q : State → Prop} {i : Nat} {r : Int} {M2 : Mem} (C : LX E p s m meth c b L xs) (hi : i + 6 ≤ L) (hn : nfull n) (h1 : fn_X10_chosen 0 ((xs (i + 1)).toInt) ((xs (i + 2)).toInt) ((xs (i + 3)).toInt) M = some r) (h2 : fn_X11_chosen 71 ((xs (i + 1)).toInt) ((xs (i + 2)).toInt) ((xs (i + 3)).toInt) M = some (r, M2)) (hr : cells + 8 ≤ room_1.cells ∧ slots + 53154 ≤ room_1.slots) (hH : ST E s n (zf n) M H locs) (hl : lv_has ls 4 [(3, i3 (i : Int)), (2, .ref (eb E + 71)), (1, .ref (eb E + 0)), (0, .ref b)])
    (kk : ∀ (n : Nat) (M3 : Mem) (H : Heap) (locs : List Loc), nfull n → M3 = M2 → ST E s n (zf n) M3 H locs → W p l e room_1 s m #[Value.ref b] below meth c H locs (cells + 8) (slots + 53154) Q (F0 m 1119 ls [])) : W p l e room_1 s m #[Value.ref b] below meth c H locs cells slots Q (F0 m 895 ls []) := by
  refine lv_aload_n C.1.hx C.1.hb dL_law_895 rfl (lv_at hl 2 rfl) ?_
  refine lv_aload_n C.1.hx C.1.hb dL_law_896 rfl (lv_at hl 3 rfl) ?_
  refine lv_iload_n C.1.hx C.1.hb dL_law_897 rfl (lv_at hl 0 rfl) ?_
  refine lv_iconst (v := Int32.ofInt 1) C.1.hx C.1.hb dL_law_898 rfl ?_
  refine w_iadd C.1 dL_law_899 ?_
  refine r_scr (i := i + 1) C hH (by omega) (by omega) dL_law_900 ?_
  refine lv_aload_n C.1.hx C.1.hb dL_law_901 rfl (lv_at hl 3 rfl) ?_
  refine lv_iload_n C.1.hx C.1.hb dL_law_902 rfl (lv_at hl 0 rfl) ?_
  refine lv_iconst (v := Int32.ofInt 2) C.1.hx C.1.hb dL_law_903 rfl ?_
  refine w_iadd C.1 dL_law_904 ?_
  refine r_scr (i := i + 2) C hH (by omega) (by omega) dL_law_905 ?_
  refine lv_aload_n C.1.hx C.1.hb dL_law_906 rfl (lv_at hl 3 rfl) ?_
  refine lv_iload_n C.1.hx C.1.hb dL_law_907 rfl (lv_at hl 0 rfl) ?_
  refine lv_iconst (v := Int32.ofInt 3) C.1.hx C.1.hb dL_law_908 rfl ?_
  refine w_iadd C.1 dL_law_909 ?_
  refine r_scr (i := i + 3) C hH (by omega) (by omega) dL_law_910 ?_
  refine r_callVi (k := 0) (ci := 10) (rest := []) C.1 hH hl (ob0 hn) (by decide) rfl (m_X10_chosen hn (ob0 hn) h1) ML_RL_105 MF_X10_chosen MI_X10_chosen rfl rfl (Nat.le_of_ble_eq_true rfl) ⟨Nat.le_of_ble_eq_true rfl, Nat.le_of_ble_eq_true rfl⟩ ⟨by have := hr.1; omega, by have := hr.2; omega⟩ dL_law_911 (fun H locs hH => ?_)
  refine lv_aload_n C.1.hx C.1.hb dL_law_914 rfl (lv_at hl 1 rfl) ?_
  refine lv_aload_n C.1.hx C.1.hb dL_law_915 rfl (lv_at hl 3 rfl) ?_
  refine lv_iload_n C.1.hx C.1.hb dL_law_916 rfl (lv_at hl 0 rfl) ?_
  refine lv_iconst (v := Int32.ofInt 1) C.1.hx C.1.hb dL_law_917 rfl ?_
  refine w_iadd C.1 dL_law_918 ?_
  refine r_scr (i := i + 1) C hH (by omega) (by omega) dL_law_919 ?_
  refine lv_aload_n C.1.hx C.1.hb dL_law_920 rfl (lv_at hl 3 rfl) ?_
  refine lv_iload_n C.1.hx C.1.hb dL_law_921 rfl (lv_at hl 0 rfl) ?_
  refine lv_iconst (v := Int32.ofInt 2) C.1.hx C.1.hb dL_law_922 rfl ?_
  refine w_iadd C.1 dL_law_923 ?_
  refine r_scr (i := i + 2) C hH (by omega) (by omega) dL_law_924 ?_
  refine lv_aload_n C.1.hx C.1.hb dL_law_925 rfl (lv_at hl 3 rfl) ?_
  refine lv_iload_n C.1.hx C.1.hb dL_law_926 rfl (lv_at hl 0 rfl) ?_
  refine lv_iconst (v := Int32.ofInt 3) C.1.hx C.1.hb dL_law_927 rfl ?_
  refine w_iadd C.1 dL_law_928 ?_
  refine r_scr (i := i + 3) C hH (by omega) (by omega) dL_law_929 ?_
  refine r_callVi (k := 71) (ci := 11) (rest := [i3 r]) C.1 hH hl (ob71 hn) (by decide) rfl (m_X11_chosen hn (ob71 hn) h2) ML_RL_109 MF_X11_chosen MI_X11_chosen rfl rfl (Nat.le_of_ble_eq_true rfl) ⟨Nat.le_of_ble_eq_true rfl, Nat.le_of_ble_eq_true rfl⟩ ⟨by have := hr.1; omega, by have := hr.2; omega⟩ dL_law_930 (fun H locs hH => ?_)
  refine lv_icmp_eq (tgt := 1119) C.1.hx C.1.hb dL_law_933 (by decide) (fun _ => ?_) (fun q => absurd rfl q)
  refine W.widen (k := cells + 8) (n := slots + 53154) (by omega) (by omega) ?_
  exact kk n M2 H locs hn rfl hH
def S22 (a1 a2 a3 a4 a5 : Int) (M : Mem) (P : Mem → Prop) : Prop := ∃ (r : Int) (M1 : Mem) (M2 : Mem), fn_X10_tray 0 a1 a2 M = some (r, M1) ∧ fn_X11_tray 71 a1 a2 M1 = some (r, M2) ∧ P M2
set_option maxRecDepth 100000 in
set_option maxHeartbeats 4000000 in
theorem lc_22 {p : Program} {l : Launch} {e : Env} {s : State} {m : MethodId} {below : List Frame} {meth : Method} {c : Code} {E : EE} {n b L : Nat} {xs : Nat → Int32} {M : Mem} {H : Heap} {locs : List Loc} {ls : Array Slot} {cells slots : Nat} {Q : State → Prop} {i : Nat} {r : Int} {M1 : Mem} {M2 : Mem} (C : LX E p s m meth c b L xs) (hi : i + 6 ≤ L) (hn : nfull n) (h1 : fn_X10_tray 0 ((xs (i + 1)).toInt) ((xs (i + 2)).toInt) M = some (r, M1)) (h2 : fn_X11_tray 71 ((xs (i + 1)).toInt) ((xs (i + 2)).toInt) M1 = some (r, M2)) (hr : cells + 8 ≤ room_1.cells ∧ slots + 53154 ≤ room_1.slots) (hH : ST E s n (zf n) M H locs) (hl : lv_has ls 4 [(3, i3 (i : Int)), (2, .ref (eb E + 71)), (1, .ref (eb E + 0)), (0, .ref b)])
    (kk : ∀ (n : Nat) (M3 : Mem) (H : Heap) (locs : List Loc), nfull n → M3 = M2 → ST E s n (zf n) M3 H locs → W p l e room_1 s m #[Value.ref b] below meth c H locs (cells + 8) (slots + 53154) Q (F0 m 1119 ls [])) : W p l e room_1 s m #[Value.ref b] below meth c H locs cells slots Q (F0 m 938 ls []) := by
  refine lv_aload_n C.1.hx C.1.hb dL_law_938 rfl (lv_at hl 2 rfl) ?_
  refine lv_aload_n C.1.hx C.1.hb dL_law_939 rfl (lv_at hl 3 rfl) ?_
  refine lv_iload_n C.1.hx C.1.hb dL_law_940 rfl (lv_at hl 0 rfl) ?_
  refine lv_iconst (v := Int32.ofInt 1) C.1.hx C.1.hb dL_law_941 rfl ?_
  refine w_iadd C.1 dL_law_942 ?_
  refine r_scr (i := i + 1) C hH (by omega) (by omega) dL_law_943 ?_
  refine lv_aload_n C.1.hx C.1.hb dL_law_944 rfl (lv_at hl 3 rfl) ?_
  refine lv_iload_n C.1.hx C.1.hb dL_law_945 rfl (lv_at hl 0 rfl) ?_
  refine lv_iconst (v := Int32.ofInt 2) C.1.hx C.1.hb dL_law_946 rfl ?_
  refine w_iadd C.1 dL_law_947 ?_
  refine r_scr (i := i + 2) C hH (by omega) (by omega) dL_law_948 ?_
  refine r_callVi (k := 0) (ci := 10) (rest := []) C.1 hH hl (ob0 hn) (by decide) rfl (m_X10_tray hn (ob0 hn) h1) ML_RL_110 MF_X10_tray MI_X10_tray rfl rfl (Nat.le_of_ble_eq_true rfl) ⟨Nat.le_of_ble_eq_true rfl, Nat.le_of_ble_eq_true rfl⟩ ⟨by have := hr.1; omega, by have := hr.2; omega⟩ dL_law_949 (fun H locs hH => ?_)
  refine lv_aload_n C.1.hx C.1.hb dL_law_952 rfl (lv_at hl 1 rfl) ?_
  refine lv_aload_n C.1.hx C.1.hb dL_law_953 rfl (lv_at hl 3 rfl) ?_
  refine lv_iload_n C.1.hx C.1.hb dL_law_954 rfl (lv_at hl 0 rfl) ?_
  refine lv_iconst (v := Int32.ofInt 1) C.1.hx C.1.hb dL_law_955 rfl ?_
  refine w_iadd C.1 dL_law_956 ?_
  refine r_scr (i := i + 1) C hH (by omega) (by omega) dL_law_957 ?_
  refine lv_aload_n C.1.hx C.1.hb dL_law_958 rfl (lv_at hl 3 rfl) ?_
  refine lv_iload_n C.1.hx C.1.hb dL_law_959 rfl (lv_at hl 0 rfl) ?_
  refine lv_iconst (v := Int32.ofInt 2) C.1.hx C.1.hb dL_law_960 rfl ?_
  refine w_iadd C.1 dL_law_961 ?_
  refine r_scr (i := i + 2) C hH (by omega) (by omega) dL_law_962 ?_
  refine r_callVi (k := 71) (ci := 11) (rest := [i3 r]) C.1 hH hl (ob71 hn) (by decide) rfl (m_X11_tray hn (ob71 hn) h2) ML_RL_113 MF_X11_tray MI_X11_tray rfl rfl (Nat.le_of_ble_eq_true rfl) ⟨Nat.le_of_ble_eq_true rfl, Nat.le_of_ble_eq_true rfl⟩ ⟨by have := hr.1; omega, by have := hr.2; omega⟩ dL_law_963 (fun H locs hH => ?_)
  refine lv_icmp_eq (tgt := 1119) C.1.hx C.1.hb dL_law_966 (by decide) (fun _ => ?_) (fun q => absurd rfl q)
  refine W.widen (k := cells + 8) (n := slots + 53154) (by omega) (by omega) ?_
  exact kk n M2 H locs hn rfl hH
def S23 (a1 a2 a3 a4 a5 : Int) (M : Mem) (P : Mem → Prop) : Prop := ∃ (r : Int) (M1 : Mem) (M2 : Mem), fn_X10_sorted 0 a1 a2 M = some (r, M1) ∧ fn_X11_sorted 71 a1 a2 M1 = some (r, M2) ∧ P M2
set_option maxRecDepth 100000 in
set_option maxHeartbeats 4000000 in
theorem lc_23 {p : Program} {l : Launch} {e : Env} {s : State} {m : MethodId} {below : List Frame} {meth : Method} {c : Code} {E : EE} {n b L : Nat} {xs : Nat → Int32} {M : Mem} {H : Heap} {locs : List Loc} {ls : Array Slot} {cells slots : Nat} {Q : State → Prop} {i : Nat} {r : Int} {M1 : Mem} {M2 : Mem} (C : LX E p s m meth c b L xs) (hi : i + 6 ≤ L) (hn : nfull n) (h1 : fn_X10_sorted 0 ((xs (i + 1)).toInt) ((xs (i + 2)).toInt) M = some (r, M1)) (h2 : fn_X11_sorted 71 ((xs (i + 1)).toInt) ((xs (i + 2)).toInt) M1 = some (r, M2)) (hr : cells + 8 ≤ room_1.cells ∧ slots + 53154 ≤ room_1.slots) (hH : ST E s n (zf n) M H locs) (hl : lv_has ls 4 [(3, i3 (i : Int)), (2, .ref (eb E + 71)), (1, .ref (eb E + 0)), (0, .ref b)])
    (kk : ∀ (n : Nat) (M3 : Mem) (H : Heap) (locs : List Loc), nfull n → M3 = M2 → ST E s n (zf n) M3 H locs → W p l e room_1 s m #[Value.ref b] below meth c H locs (cells + 8) (slots + 53154) Q (F0 m 1119 ls [])) : W p l e room_1 s m #[Value.ref b] below meth c H locs cells slots Q (F0 m 971 ls []) := by
  refine lv_aload_n C.1.hx C.1.hb dL_law_971 rfl (lv_at hl 2 rfl) ?_
  refine lv_aload_n C.1.hx C.1.hb dL_law_972 rfl (lv_at hl 3 rfl) ?_
  refine lv_iload_n C.1.hx C.1.hb dL_law_973 rfl (lv_at hl 0 rfl) ?_
  refine lv_iconst (v := Int32.ofInt 1) C.1.hx C.1.hb dL_law_974 rfl ?_
  refine w_iadd C.1 dL_law_975 ?_
  refine r_scr (i := i + 1) C hH (by omega) (by omega) dL_law_976 ?_
  refine lv_aload_n C.1.hx C.1.hb dL_law_977 rfl (lv_at hl 3 rfl) ?_
  refine lv_iload_n C.1.hx C.1.hb dL_law_978 rfl (lv_at hl 0 rfl) ?_
  refine lv_iconst (v := Int32.ofInt 2) C.1.hx C.1.hb dL_law_979 rfl ?_
  refine w_iadd C.1 dL_law_980 ?_
  refine r_scr (i := i + 2) C hH (by omega) (by omega) dL_law_981 ?_
  refine r_callVi (k := 0) (ci := 10) (rest := []) C.1 hH hl (ob0 hn) (by decide) rfl (m_X10_sorted hn (ob0 hn) h1) ML_RL_114 MF_X10_sorted MI_X10_sorted rfl rfl (Nat.le_of_ble_eq_true rfl) ⟨Nat.le_of_ble_eq_true rfl, Nat.le_of_ble_eq_true rfl⟩ ⟨by have := hr.1; omega, by have := hr.2; omega⟩ dL_law_982 (fun H locs hH => ?_)
  refine lv_aload_n C.1.hx C.1.hb dL_law_985 rfl (lv_at hl 1 rfl) ?_
  refine lv_aload_n C.1.hx C.1.hb dL_law_986 rfl (lv_at hl 3 rfl) ?_
  refine lv_iload_n C.1.hx C.1.hb dL_law_987 rfl (lv_at hl 0 rfl) ?_
  refine lv_iconst (v := Int32.ofInt 1) C.1.hx C.1.hb dL_law_988 rfl ?_
  refine w_iadd C.1 dL_law_989 ?_
  refine r_scr (i := i + 1) C hH (by omega) (by omega) dL_law_990 ?_
  refine lv_aload_n C.1.hx C.1.hb dL_law_991 rfl (lv_at hl 3 rfl) ?_
  refine lv_iload_n C.1.hx C.1.hb dL_law_992 rfl (lv_at hl 0 rfl) ?_
  refine lv_iconst (v := Int32.ofInt 2) C.1.hx C.1.hb dL_law_993 rfl ?_
  refine w_iadd C.1 dL_law_994 ?_
  refine r_scr (i := i + 2) C hH (by omega) (by omega) dL_law_995 ?_
  refine r_callVi (k := 71) (ci := 11) (rest := [i3 r]) C.1 hH hl (ob71 hn) (by decide) rfl (m_X11_sorted hn (ob71 hn) h2) ML_RL_117 MF_X11_sorted MI_X11_sorted rfl rfl (Nat.le_of_ble_eq_true rfl) ⟨Nat.le_of_ble_eq_true rfl, Nat.le_of_ble_eq_true rfl⟩ ⟨by have := hr.1; omega, by have := hr.2; omega⟩ dL_law_996 (fun H locs hH => ?_)
  refine lv_icmp_eq (tgt := 1119) C.1.hx C.1.hb dL_law_999 (by decide) (fun _ => ?_) (fun q => absurd rfl q)
  refine W.widen (k := cells + 8) (n := slots + 53154) (by omega) (by omega) ?_
  exact kk n M2 H locs hn rfl hH
def S24 (a1 a2 a3 a4 a5 : Int) (M : Mem) (P : Mem → Prop) : Prop := ∃ (r : Int) (M1 : Mem) (M2 : Mem), fn_X10_read 0 a1 a2 M = some (r, M1) ∧ fn_X11_read 71 a1 a2 M1 = some (r, M2) ∧ P M2
set_option maxRecDepth 100000 in
set_option maxHeartbeats 4000000 in
theorem lc_24 {p : Program} {l : Launch} {e : Env} {s : State} {m : MethodId} {below : List Frame} {meth : Method} {c : Code} {E : EE} {n b L : Nat} {xs : Nat → Int32} {M : Mem} {H : Heap} {locs : List Loc} {ls : Array Slot} {cells slots : Nat} {Q : State → Prop} {i : Nat} {r : Int} {M1 : Mem} {M2 : Mem} (C : LX E p s m meth c b L xs) (hi : i + 6 ≤ L) (hn : nfull n) (h1 : fn_X10_read 0 ((xs (i + 1)).toInt) ((xs (i + 2)).toInt) M = some (r, M1)) (h2 : fn_X11_read 71 ((xs (i + 1)).toInt) ((xs (i + 2)).toInt) M1 = some (r, M2)) (hr : cells + 8 ≤ room_1.cells ∧ slots + 53154 ≤ room_1.slots) (hH : ST E s n (zf n) M H locs) (hl : lv_has ls 4 [(3, i3 (i : Int)), (2, .ref (eb E + 71)), (1, .ref (eb E + 0)), (0, .ref b)])
    (kk : ∀ (n : Nat) (M3 : Mem) (H : Heap) (locs : List Loc), nfull n → M3 = M2 → ST E s n (zf n) M3 H locs → W p l e room_1 s m #[Value.ref b] below meth c H locs (cells + 8) (slots + 53154) Q (F0 m 1119 ls [])) : W p l e room_1 s m #[Value.ref b] below meth c H locs cells slots Q (F0 m 1004 ls []) := by
  refine lv_aload_n C.1.hx C.1.hb dL_law_1004 rfl (lv_at hl 2 rfl) ?_
  refine lv_aload_n C.1.hx C.1.hb dL_law_1005 rfl (lv_at hl 3 rfl) ?_
  refine lv_iload_n C.1.hx C.1.hb dL_law_1006 rfl (lv_at hl 0 rfl) ?_
  refine lv_iconst (v := Int32.ofInt 1) C.1.hx C.1.hb dL_law_1007 rfl ?_
  refine w_iadd C.1 dL_law_1008 ?_
  refine r_scr (i := i + 1) C hH (by omega) (by omega) dL_law_1009 ?_
  refine lv_aload_n C.1.hx C.1.hb dL_law_1010 rfl (lv_at hl 3 rfl) ?_
  refine lv_iload_n C.1.hx C.1.hb dL_law_1011 rfl (lv_at hl 0 rfl) ?_
  refine lv_iconst (v := Int32.ofInt 2) C.1.hx C.1.hb dL_law_1012 rfl ?_
  refine w_iadd C.1 dL_law_1013 ?_
  refine r_scr (i := i + 2) C hH (by omega) (by omega) dL_law_1014 ?_
  refine r_callVi (k := 0) (ci := 10) (rest := []) C.1 hH hl (ob0 hn) (by decide) rfl (m_X10_read hn (ob0 hn) h1) ML_RL_118 MF_X10_read MI_X10_read rfl rfl (Nat.le_of_ble_eq_true rfl) ⟨Nat.le_of_ble_eq_true rfl, Nat.le_of_ble_eq_true rfl⟩ ⟨by have := hr.1; omega, by have := hr.2; omega⟩ dL_law_1015 (fun H locs hH => ?_)
  refine lv_aload_n C.1.hx C.1.hb dL_law_1018 rfl (lv_at hl 1 rfl) ?_
  refine lv_aload_n C.1.hx C.1.hb dL_law_1019 rfl (lv_at hl 3 rfl) ?_
  refine lv_iload_n C.1.hx C.1.hb dL_law_1020 rfl (lv_at hl 0 rfl) ?_
  refine lv_iconst (v := Int32.ofInt 1) C.1.hx C.1.hb dL_law_1021 rfl ?_
  refine w_iadd C.1 dL_law_1022 ?_
  refine r_scr (i := i + 1) C hH (by omega) (by omega) dL_law_1023 ?_
  refine lv_aload_n C.1.hx C.1.hb dL_law_1024 rfl (lv_at hl 3 rfl) ?_
  refine lv_iload_n C.1.hx C.1.hb dL_law_1025 rfl (lv_at hl 0 rfl) ?_
  refine lv_iconst (v := Int32.ofInt 2) C.1.hx C.1.hb dL_law_1026 rfl ?_
  refine w_iadd C.1 dL_law_1027 ?_
  refine r_scr (i := i + 2) C hH (by omega) (by omega) dL_law_1028 ?_
  refine r_callVi (k := 71) (ci := 11) (rest := [i3 r]) C.1 hH hl (ob71 hn) (by decide) rfl (m_X11_read hn (ob71 hn) h2) ML_RL_121 MF_X11_read MI_X11_read rfl rfl (Nat.le_of_ble_eq_true rfl) ⟨Nat.le_of_ble_eq_true rfl, Nat.le_of_ble_eq_true rfl⟩ ⟨by have := hr.1; omega, by have := hr.2; omega⟩ dL_law_1029 (fun H locs hH => ?_)
  refine lv_icmp_eq (tgt := 1119) C.1.hx C.1.hb dL_law_1032 (by decide) (fun _ => ?_) (fun q => absurd rfl q)
  refine W.widen (k := cells + 8) (n := slots + 53154) (by omega) (by omega) ?_
  exact kk n M2 H locs hn rfl hH
def S25 (a1 a2 a3 a4 a5 : Int) (M : Mem) (P : Mem → Prop) : Prop := ∃ (r : Int) (M1 : Mem) (M2 : Mem), fn_X10_market 0 a1 a2 M = some (r, M1) ∧ fn_X11_market 71 a1 a2 M1 = some (r, M2) ∧ P M2
set_option maxRecDepth 100000 in
set_option maxHeartbeats 4000000 in
theorem lc_25 {p : Program} {l : Launch} {e : Env} {s : State} {m : MethodId} {below : List Frame} {meth : Method} {c : Code} {E : EE} {n b L : Nat} {xs : Nat → Int32} {M : Mem} {H : Heap} {locs : List Loc} {ls : Array Slot} {cells slots : Nat} {Q : State → Prop} {i : Nat} {r : Int} {M1 : Mem} {M2 : Mem} (C : LX E p s m meth c b L xs) (hi : i + 6 ≤ L) (hn : nfull n) (h1 : fn_X10_market 0 ((xs (i + 1)).toInt) ((xs (i + 2)).toInt) M = some (r, M1)) (h2 : fn_X11_market 71 ((xs (i + 1)).toInt) ((xs (i + 2)).toInt) M1 = some (r, M2)) (hr : cells + 8 ≤ room_1.cells ∧ slots + 53154 ≤ room_1.slots) (hH : ST E s n (zf n) M H locs) (hl : lv_has ls 4 [(3, i3 (i : Int)), (2, .ref (eb E + 71)), (1, .ref (eb E + 0)), (0, .ref b)])
    (kk : ∀ (n : Nat) (M3 : Mem) (H : Heap) (locs : List Loc), nfull n → M3 = M2 → ST E s n (zf n) M3 H locs → W p l e room_1 s m #[Value.ref b] below meth c H locs (cells + 8) (slots + 53154) Q (F0 m 1119 ls [])) : W p l e room_1 s m #[Value.ref b] below meth c H locs cells slots Q (F0 m 1037 ls []) := by
  refine lv_aload_n C.1.hx C.1.hb dL_law_1037 rfl (lv_at hl 2 rfl) ?_
  refine lv_aload_n C.1.hx C.1.hb dL_law_1038 rfl (lv_at hl 3 rfl) ?_
  refine lv_iload_n C.1.hx C.1.hb dL_law_1039 rfl (lv_at hl 0 rfl) ?_
  refine lv_iconst (v := Int32.ofInt 1) C.1.hx C.1.hb dL_law_1040 rfl ?_
  refine w_iadd C.1 dL_law_1041 ?_
  refine r_scr (i := i + 1) C hH (by omega) (by omega) dL_law_1042 ?_
  refine lv_aload_n C.1.hx C.1.hb dL_law_1043 rfl (lv_at hl 3 rfl) ?_
  refine lv_iload_n C.1.hx C.1.hb dL_law_1044 rfl (lv_at hl 0 rfl) ?_
  refine lv_iconst (v := Int32.ofInt 2) C.1.hx C.1.hb dL_law_1045 rfl ?_
  refine w_iadd C.1 dL_law_1046 ?_
  refine r_scr (i := i + 2) C hH (by omega) (by omega) dL_law_1047 ?_
  refine r_callVi (k := 0) (ci := 10) (rest := []) C.1 hH hl (ob0 hn) (by decide) rfl (m_X10_market hn (ob0 hn) h1) ML_RL_122 MF_X10_market MI_X10_market rfl rfl (Nat.le_of_ble_eq_true rfl) ⟨Nat.le_of_ble_eq_true rfl, Nat.le_of_ble_eq_true rfl⟩ ⟨by have := hr.1; omega, by have := hr.2; omega⟩ dL_law_1048 (fun H locs hH => ?_)
  refine lv_aload_n C.1.hx C.1.hb dL_law_1051 rfl (lv_at hl 1 rfl) ?_
  refine lv_aload_n C.1.hx C.1.hb dL_law_1052 rfl (lv_at hl 3 rfl) ?_
  refine lv_iload_n C.1.hx C.1.hb dL_law_1053 rfl (lv_at hl 0 rfl) ?_
  refine lv_iconst (v := Int32.ofInt 1) C.1.hx C.1.hb dL_law_1054 rfl ?_
  refine w_iadd C.1 dL_law_1055 ?_
  refine r_scr (i := i + 1) C hH (by omega) (by omega) dL_law_1056 ?_
  refine lv_aload_n C.1.hx C.1.hb dL_law_1057 rfl (lv_at hl 3 rfl) ?_
  refine lv_iload_n C.1.hx C.1.hb dL_law_1058 rfl (lv_at hl 0 rfl) ?_
  refine lv_iconst (v := Int32.ofInt 2) C.1.hx C.1.hb dL_law_1059 rfl ?_
  refine w_iadd C.1 dL_law_1060 ?_
  refine r_scr (i := i + 2) C hH (by omega) (by omega) dL_law_1061 ?_
  refine r_callVi (k := 71) (ci := 11) (rest := [i3 r]) C.1 hH hl (ob71 hn) (by decide) rfl (m_X11_market hn (ob71 hn) h2) ML_RL_125 MF_X11_market MI_X11_market rfl rfl (Nat.le_of_ble_eq_true rfl) ⟨Nat.le_of_ble_eq_true rfl, Nat.le_of_ble_eq_true rfl⟩ ⟨by have := hr.1; omega, by have := hr.2; omega⟩ dL_law_1062 (fun H locs hH => ?_)
  refine lv_icmp_eq (tgt := 1119) C.1.hx C.1.hb dL_law_1065 (by decide) (fun _ => ?_) (fun q => absurd rfl q)
  refine W.widen (k := cells + 8) (n := slots + 53154) (by omega) (by omega) ?_
  exact kk n M2 H locs hn rfl hH
def S26 (a1 a2 a3 a4 a5 : Int) (M : Mem) (P : Mem → Prop) : Prop := ∃ (r : Int) (M1 : Mem) (M2 : Mem), fn_X10_image 0 M = some (r, M1) ∧ fn_X11_image 71 M1 = some (r, M2) ∧ P M2
set_option maxRecDepth 100000 in
set_option maxHeartbeats 4000000 in
theorem lc_26 {p : Program} {l : Launch} {e : Env} {s : State} {m : MethodId} {below : List Frame} {meth : Method} {c : Code} {E : EE} {n b L : Nat} {xs : Nat → Int32} {M : Mem} {H : Heap} {locs : List Loc} {ls : Array Slot} {cells slots : Nat} {Q : State → Prop} {i : Nat} {r : Int} {M1 : Mem} {M2 : Mem} (C : LX E p s m meth c b L xs) (hi : i + 6 ≤ L) (hn : nfull n) (h1 : fn_X10_image 0 M = some (r, M1)) (h2 : fn_X11_image 71 M1 = some (r, M2)) (hr : cells + 8 ≤ room_1.cells ∧ slots + 53154 ≤ room_1.slots) (hH : ST E s n (zf n) M H locs) (hl : lv_has ls 4 [(3, i3 (i : Int)), (2, .ref (eb E + 71)), (1, .ref (eb E + 0)), (0, .ref b)])
    (kk : ∀ (n : Nat) (M3 : Mem) (H : Heap) (locs : List Loc), nfull n → M3 = M2 → ST E s n (zf n) M3 H locs → W p l e room_1 s m #[Value.ref b] below meth c H locs (cells + 8) (slots + 53154) Q (F0 m 1119 ls [])) : W p l e room_1 s m #[Value.ref b] below meth c H locs cells slots Q (F0 m 1070 ls []) := by
  refine lv_aload_n C.1.hx C.1.hb dL_law_1070 rfl (lv_at hl 2 rfl) ?_
  refine r_callVi (k := 0) (ci := 10) (rest := []) C.1 hH hl (ob0 hn) (by decide) rfl (m_X10_image hn (ob0 hn) h1) ML_RL_126 MF_X10_image MI_X10_image rfl rfl (Nat.le_of_ble_eq_true rfl) ⟨Nat.le_of_ble_eq_true rfl, Nat.le_of_ble_eq_true rfl⟩ ⟨by have := hr.1; omega, by have := hr.2; omega⟩ dL_law_1071 (fun H locs hH => ?_)
  refine lv_aload_n C.1.hx C.1.hb dL_law_1074 rfl (lv_at hl 1 rfl) ?_
  refine r_callVi (k := 71) (ci := 11) (rest := [i3 r]) C.1 hH hl (ob71 hn) (by decide) rfl (m_X11_image hn (ob71 hn) h2) ML_RL_129 MF_X11_image MI_X11_image rfl rfl (Nat.le_of_ble_eq_true rfl) ⟨Nat.le_of_ble_eq_true rfl, Nat.le_of_ble_eq_true rfl⟩ ⟨by have := hr.1; omega, by have := hr.2; omega⟩ dL_law_1075 (fun H locs hH => ?_)
  refine lv_icmp_eq (tgt := 1119) C.1.hx C.1.hb dL_law_1078 (by decide) (fun _ => ?_) (fun q => absurd rfl q)
  refine W.widen (k := cells + 8) (n := slots + 53154) (by omega) (by omega) ?_
  exact kk n M2 H locs hn rfl hH
def S27 (a1 a2 a3 a4 a5 : Int) (M : Mem) (P : Mem → Prop) : Prop := ∃ (r : Int) (M1 : Mem) (M2 : Mem), fn_X10_back 0 M = some (r, M1) ∧ fn_X11_back 71 M1 = some (r, M2) ∧ P M2
set_option maxRecDepth 100000 in
set_option maxHeartbeats 4000000 in
theorem lc_27 {p : Program} {l : Launch} {e : Env} {s : State} {m : MethodId} {below : List Frame} {meth : Method} {c : Code} {E : EE} {n b L : Nat} {xs : Nat → Int32} {M : Mem} {H : Heap} {locs : List Loc} {ls : Array Slot} {cells slots : Nat} {Q : State → Prop} {i : Nat} {r : Int} {M1 : Mem} {M2 : Mem} (C : LX E p s m meth c b L xs) (hi : i + 6 ≤ L) (hn : nfull n) (h1 : fn_X10_back 0 M = some (r, M1)) (h2 : fn_X11_back 71 M1 = some (r, M2)) (hr : cells + 8 ≤ room_1.cells ∧ slots + 53154 ≤ room_1.slots) (hH : ST E s n (zf n) M H locs) (hl : lv_has ls 4 [(3, i3 (i : Int)), (2, .ref (eb E + 71)), (1, .ref (eb E + 0)), (0, .ref b)])
    (kk : ∀ (n : Nat) (M3 : Mem) (H : Heap) (locs : List Loc), nfull n → M3 = M2 → ST E s n (zf n) M3 H locs → W p l e room_1 s m #[Value.ref b] below meth c H locs (cells + 8) (slots + 53154) Q (F0 m 1119 ls [])) : W p l e room_1 s m #[Value.ref b] below meth c H locs cells slots Q (F0 m 1083 ls []) := by
  refine lv_aload_n C.1.hx C.1.hb dL_law_1083 rfl (lv_at hl 2 rfl) ?_
  refine r_callVi (k := 0) (ci := 10) (rest := []) C.1 hH hl (ob0 hn) (by decide) rfl (m_X10_back hn (ob0 hn) h1) ML_RL_130 MF_X10_back MI_X10_back rfl rfl (Nat.le_of_ble_eq_true rfl) ⟨Nat.le_of_ble_eq_true rfl, Nat.le_of_ble_eq_true rfl⟩ ⟨by have := hr.1; omega, by have := hr.2; omega⟩ dL_law_1084 (fun H locs hH => ?_)
  refine lv_aload_n C.1.hx C.1.hb dL_law_1087 rfl (lv_at hl 1 rfl) ?_
  refine r_callVi (k := 71) (ci := 11) (rest := [i3 r]) C.1 hH hl (ob71 hn) (by decide) rfl (m_X11_back hn (ob71 hn) h2) ML_RL_133 MF_X11_back MI_X11_back rfl rfl (Nat.le_of_ble_eq_true rfl) ⟨Nat.le_of_ble_eq_true rfl, Nat.le_of_ble_eq_true rfl⟩ ⟨by have := hr.1; omega, by have := hr.2; omega⟩ dL_law_1088 (fun H locs hH => ?_)
  refine lv_icmp_eq (tgt := 1119) C.1.hx C.1.hb dL_law_1091 (by decide) (fun _ => ?_) (fun q => absurd rfl q)
  refine W.widen (k := cells + 8) (n := slots + 53154) (by omega) (by omega) ?_
  exact kk n M2 H locs hn rfl hH
def S28 (a1 a2 a3 a4 a5 : Int) (M : Mem) (P : Mem → Prop) : Prop := ∃ (r : Int), fn_X10_about 0 a1 M = some r ∧ fn_X11_about 71 a1 M = some r ∧ P M
set_option maxRecDepth 100000 in
set_option maxHeartbeats 4000000 in
theorem lc_28 {p : Program} {l : Launch} {e : Env} {s : State} {m : MethodId} {below : List Frame} {meth : Method} {c : Code} {E : EE} {n b L : Nat} {xs : Nat → Int32} {M : Mem} {H : Heap} {locs : List Loc} {ls : Array Slot} {cells slots : Nat} {Q : State → Prop} {i : Nat} {r : Int} (C : LX E p s m meth c b L xs) (hi : i + 6 ≤ L) (hn : nfull n) (h1 : fn_X10_about 0 ((xs (i + 1)).toInt) M = some r) (h2 : fn_X11_about 71 ((xs (i + 1)).toInt) M = some r) (hr : cells + 8 ≤ room_1.cells ∧ slots + 53154 ≤ room_1.slots) (hH : ST E s n (zf n) M H locs) (hl : lv_has ls 4 [(3, i3 (i : Int)), (2, .ref (eb E + 71)), (1, .ref (eb E + 0)), (0, .ref b)])
    (kk : ∀ (n : Nat) (M3 : Mem) (H : Heap) (locs : List Loc), nfull n → M3 = M → ST E s n (zf n) M3 H locs → W p l e room_1 s m #[Value.ref b] below meth c H locs (cells + 8) (slots + 53154) Q (F0 m 1119 ls [])) : W p l e room_1 s m #[Value.ref b] below meth c H locs cells slots Q (F0 m 1096 ls []) := by
  refine lv_aload_n C.1.hx C.1.hb dL_law_1096 rfl (lv_at hl 2 rfl) ?_
  refine lv_aload_n C.1.hx C.1.hb dL_law_1097 rfl (lv_at hl 3 rfl) ?_
  refine lv_iload_n C.1.hx C.1.hb dL_law_1098 rfl (lv_at hl 0 rfl) ?_
  refine lv_iconst (v := Int32.ofInt 1) C.1.hx C.1.hb dL_law_1099 rfl ?_
  refine w_iadd C.1 dL_law_1100 ?_
  refine r_scr (i := i + 1) C hH (by omega) (by omega) dL_law_1101 ?_
  refine r_callVi (k := 0) (ci := 10) (rest := []) C.1 hH hl (ob0 hn) (by decide) rfl (m_X10_about hn (ob0 hn) h1) ML_RL_134 MF_X10_about MI_X10_about rfl rfl (Nat.le_of_ble_eq_true rfl) ⟨Nat.le_of_ble_eq_true rfl, Nat.le_of_ble_eq_true rfl⟩ ⟨by have := hr.1; omega, by have := hr.2; omega⟩ dL_law_1102 (fun H locs hH => ?_)
  refine lv_aload_n C.1.hx C.1.hb dL_law_1105 rfl (lv_at hl 1 rfl) ?_
  refine lv_aload_n C.1.hx C.1.hb dL_law_1106 rfl (lv_at hl 3 rfl) ?_
  refine lv_iload_n C.1.hx C.1.hb dL_law_1107 rfl (lv_at hl 0 rfl) ?_
  refine lv_iconst (v := Int32.ofInt 1) C.1.hx C.1.hb dL_law_1108 rfl ?_
  refine w_iadd C.1 dL_law_1109 ?_
  refine r_scr (i := i + 1) C hH (by omega) (by omega) dL_law_1110 ?_
  refine r_callVi (k := 71) (ci := 11) (rest := [i3 r]) C.1 hH hl (ob71 hn) (by decide) rfl (m_X11_about hn (ob71 hn) h2) ML_RL_137 MF_X11_about MI_X11_about rfl rfl (Nat.le_of_ble_eq_true rfl) ⟨Nat.le_of_ble_eq_true rfl, Nat.le_of_ble_eq_true rfl⟩ ⟨by have := hr.1; omega, by have := hr.2; omega⟩ dL_law_1111 (fun H locs hH => ?_)
  refine lv_icmp_eq (tgt := 1119) C.1.hx C.1.hb dL_law_1114 (by decide) (fun _ => ?_) (fun q => absurd rfl q)
  refine W.widen (k := cells + 8) (n := slots + 53154) (by omega) (by omega) ?_
  exact kk n M H locs hn rfl hH
