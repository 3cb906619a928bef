-- HeavierByHand$Tokens.isBlank
def fn_X8_isBlank_J12 : Option Int :=
  some 1
def fn_X8_isBlank (a0 : Int) (M : Mem) : Option Int :=
  cEq a0 32 (fn_X8_isBlank_J12) (cEq a0 10 (fn_X8_isBlank_J12) (some 0))
set_option maxRecDepth 100000 in
set_option maxHeartbeats 4000000 in
theorem j_X8_isBlank_12 {p : Program} {l : Launch} {e : Env} {s : State} {m : MethodId} {args : Array Value} {below : List Frame} {meth : Method} {c : Code} {E : EE} {n : Nat} {o : Int} {M : Mem} {H : Heap} {locs : List Loc} {ls : Array Slot} (C : Cx E p s m args meth c cX8_isBlank 1 RX8 (some .boolean) n "isBlank") (hn : nfull n) (hf : fn_X8_isBlank_J12 = some o) (hH : ST E s n (zf n) M H locs) (hl : lv_has ls 1 []) : W p l e { frames := 0, cells := 0, slots := 0, locals := 0 } s m args below meth c H locs 0 0 (MQ below (QC E (some (i3 o)) n (zf n) M) args s 0 0 (fr E)) (F0 m 12 ls []) := by
  unfold fn_X8_isBlank_J12 at hf
  refine lv_iconst (v := Int32.ofInt 1) C.hx C.hb dX8_isBlank_12 rfl ?_
  refine lv_goto (tgt := 17) C.hx C.hb dX8_isBlank_13 (by decide) ?_
  cases hf
  exact w_zret C hH (Or.inr rfl) dX8_isBlank_17
set_option maxRecDepth 100000 in
set_option maxHeartbeats 4000000 in
theorem m_X8_isBlank {E : EE} {l : Launch} {n : Nat} {a0 : Int} {M : Mem} {o : Int} (hn : nfull n) (hf : fn_X8_isBlank a0 M = some o) : CT E l yX8_isBlank cX8_isBlank 1 (some .boolean) 0 0 0 0 [i3 a0] n (zf n) M (some (i3 o)) n (zf n) M := by
  refine CT_of PN_RX8 (Nat.le_of_ble_eq_true rfl) ?_
  intro p e s m args below meth c C hH ls hl
  replace C : Cx E p s m args meth c cX8_isBlank 1 RX8 (some .boolean) n "isBlank" := C
  have hl : lv_has ls 1 [(0, i3 a0)] := hl
  unfold fn_X8_isBlank at hf
  refine lv_iload_n C.hx C.hb dX8_isBlank_0 rfl (lv_at hl 0 rfl) ?_
  refine lv_bipush (v := Int32.ofInt 32) C.hx C.hb dX8_isBlank_1 (by decide) ?_
  refine w_eq (tgt := 12) C hf dX8_isBlank_3 (by decide) (fun hf => ?_) (fun hf => ?_)
  · exact j_X8_isBlank_12 C hn hf hH (lv_sub hl [] rfl)
  · refine lv_iload_n C.hx C.hb dX8_isBlank_6 rfl (lv_at hl 0 rfl) ?_
    refine lv_bipush (v := Int32.ofInt 10) C.hx C.hb dX8_isBlank_7 (by decide) ?_
    refine w_ne (tgt := 16) C hf dX8_isBlank_9 (by decide) (fun hf => ?_) (fun hf => ?_)
    · refine lv_iconst (v := Int32.ofInt 0) C.hx C.hb dX8_isBlank_16 rfl ?_
      cases hf
      exact w_zret C hH (Or.inl rfl) dX8_isBlank_17
    · exact j_X8_isBlank_12 C hn hf hH (lv_sub hl [] rfl)
-- HeavierByHand$Tokens.isLetter
def fn_X8_isLetter_J24 : Option Int :=
  some 1
def fn_X8_isLetter_J28 : Option Int :=
  some 0
def fn_X8_isLetter_J12 (a0 : Int) : Option Int :=
  cLt a0 65 (fn_X8_isLetter_J28) (cLt 90 a0 (fn_X8_isLetter_J28) (fn_X8_isLetter_J24))
def fn_X8_isLetter (a0 : Int) (M : Mem) : Option Int :=
  cLt a0 97 (fn_X8_isLetter_J12 a0) (cLt 122 a0 (fn_X8_isLetter_J12 a0) (fn_X8_isLetter_J24))
set_option maxRecDepth 100000 in
set_option maxHeartbeats 4000000 in
theorem j_X8_isLetter_24 {p : Program} {l : Launch} {e : Env} {s : State} {m : MethodId} {args : Array Value} {below : List Frame} {meth : Method} {c : Code} {E : EE} {n : Nat} {o : Int} {M : Mem} {H : Heap} {locs : List Loc} {ls : Array Slot} (C : Cx E p s m args meth c cX8_isLetter 1 RX8 (some .boolean) n "isLetter") (hn : nfull n) (hf : fn_X8_isLetter_J24 = some o) (hH : ST E s n (zf n) M H locs) (hl : lv_has ls 1 []) : W p l e { frames := 0, cells := 0, slots := 0, locals := 0 } s m args below meth c H locs 0 0 (MQ below (QC E (some (i3 o)) n (zf n) M) args s 0 0 (fr E)) (F0 m 24 ls []) := by
  unfold fn_X8_isLetter_J24 at hf
  refine lv_iconst (v := Int32.ofInt 1) C.hx C.hb dX8_isLetter_24 rfl ?_
  refine lv_goto (tgt := 29) C.hx C.hb dX8_isLetter_25 (by decide) ?_
  cases hf
  exact w_zret C hH (Or.inr rfl) dX8_isLetter_29
set_option maxRecDepth 100000 in
set_option maxHeartbeats 4000000 in
theorem j_X8_isLetter_28 {p : Program} {l : Launch} {e : Env} {s : State} {m : MethodId} {args : Array Value} {below : List Frame} {meth : Method} {c : Code} {E : EE} {n : Nat} {o : Int} {M : Mem} {H : Heap} {locs : List Loc} {ls : Array Slot} (C : Cx E p s m args meth c cX8_isLetter 1 RX8 (some .boolean) n "isLetter") (hn : nfull n) (hf : fn_X8_isLetter_J28 = some o) (hH : ST E s n (zf n) M H locs) (hl : lv_has ls 1 []) : W p l e { frames := 0, cells := 0, slots := 0, locals := 0 } s m args below meth c H locs 0 0 (MQ below (QC E (some (i3 o)) n (zf n) M) args s 0 0 (fr E)) (F0 m 28 ls []) := by
  unfold fn_X8_isLetter_J28 at hf
  refine lv_iconst (v := Int32.ofInt 0) C.hx C.hb dX8_isLetter_28 rfl ?_
  cases hf
  exact w_zret C hH (Or.inl rfl) dX8_isLetter_29
set_option maxRecDepth 100000 in
set_option maxHeartbeats 4000000 in
theorem j_X8_isLetter_12 {p : Program} {l : Launch} {e : Env} {s : State} {m : MethodId} {args : Array Value} {below : List Frame} {meth : Method} {c : Code} {E : EE} {n : Nat} {o : Int} {a0 : Int} {M : Mem} {H : Heap} {locs : List Loc} {ls : Array Slot} (C : Cx E p s m args meth c cX8_isLetter 1 RX8 (some .boolean) n "isLetter") (hn : nfull n) (hf : fn_X8_isLetter_J12 a0 = some o) (hH : ST E s n (zf n) M H locs) (hl : lv_has ls 1 [(0, i3 a0)]) : W p l e { frames := 0, cells := 0, slots := 0, locals := 0 } s m args below meth c H locs 0 0 (MQ below (QC E (some (i3 o)) n (zf n) M) args s 0 0 (fr E)) (F0 m 12 ls []) := by
  unfold fn_X8_isLetter_J12 at hf
  refine lv_iload_n C.hx C.hb dX8_isLetter_12 rfl (lv_at hl 0 rfl) ?_
  refine lv_bipush (v := Int32.ofInt 65) C.hx C.hb dX8_isLetter_13 (by decide) ?_
  refine w_lt (tgt := 28) C hf dX8_isLetter_15 (by decide) (fun hf => ?_) (fun hf => ?_)
  · exact j_X8_isLetter_28 C hn hf hH (lv_sub hl [] rfl)
  · refine lv_iload_n C.hx C.hb dX8_isLetter_18 rfl (lv_at hl 0 rfl) ?_
    refine lv_bipush (v := Int32.ofInt 90) C.hx C.hb dX8_isLetter_19 (by decide) ?_
    refine w_gt (tgt := 28) C hf dX8_isLetter_21 (by decide) (fun hf => ?_) (fun hf => ?_)
    · exact j_X8_isLetter_28 C hn hf hH (lv_sub hl [] rfl)
    · exact j_X8_isLetter_24 C hn hf hH (lv_sub hl [] rfl)
set_option maxRecDepth 100000 in
set_option maxHeartbeats 4000000 in
theorem m_X8_isLetter {E : EE} {l : Launch} {n : Nat} {a0 : Int} {M : Mem} {o : Int} (hn : nfull n) (hf : fn_X8_isLetter a0 M = some o) : CT E l yX8_isLetter cX8_isLetter 1 (some .boolean) 0 0 0 0 [i3 a0] n (zf n) M (some (i3 o)) n (zf n) M := by
  refine CT_of PN_RX8 (Nat.le_of_ble_eq_true rfl) ?_
  intro p e s m args below meth c C hH ls hl
  replace C : Cx E p s m args meth c cX8_isLetter 1 RX8 (some .boolean) n "isLetter" := C
  have hl : lv_has ls 1 [(0, i3 a0)] := hl
  unfold fn_X8_isLetter at hf
  refine lv_iload_n C.hx C.hb dX8_isLetter_0 rfl (lv_at hl 0 rfl) ?_
  refine lv_bipush (v := Int32.ofInt 97) C.hx C.hb dX8_isLetter_1 (by decide) ?_
  refine w_lt (tgt := 12) C hf dX8_isLetter_3 (by decide) (fun hf => ?_) (fun hf => ?_)
  · exact j_X8_isLetter_12 C hn hf hH (lv_sub hl [0] rfl)
  · refine lv_iload_n C.hx C.hb dX8_isLetter_6 rfl (lv_at hl 0 rfl) ?_
    refine lv_bipush (v := Int32.ofInt 122) C.hx C.hb dX8_isLetter_7 (by decide) ?_
    refine w_le (tgt := 24) C hf dX8_isLetter_9 (by decide) (fun hf => ?_) (fun hf => ?_)
    · exact j_X8_isLetter_24 C hn hf hH (lv_sub hl [] rfl)
    · exact j_X8_isLetter_12 C hn hf hH (lv_sub hl [0] rfl)
-- HeavierByHand$Tokens.isDigit
def fn_X8_isDigit_J16 : Option Int :=
  some 0
def fn_X8_isDigit (a0 : Int) (M : Mem) : Option Int :=
  cLt a0 48 (fn_X8_isDigit_J16) (cLt 57 a0 (fn_X8_isDigit_J16) (some 1))
set_option maxRecDepth 100000 in
set_option maxHeartbeats 4000000 in
theorem j_X8_isDigit_16 {p : Program} {l : Launch} {e : Env} {s : State} {m : MethodId} {args : Array Value} {below : List Frame} {meth : Method} {c : Code} {E : EE} {n : Nat} {o : Int} {M : Mem} {H : Heap} {locs : List Loc} {ls : Array Slot} (C : Cx E p s m args meth c cX8_isDigit 1 RX8 (some .boolean) n "isDigit") (hn : nfull n) (hf : fn_X8_isDigit_J16 = some o) (hH : ST E s n (zf n) M H locs) (hl : lv_has ls 1 []) : W p l e { frames := 0, cells := 0, slots := 0, locals := 0 } s m args below meth c H locs 0 0 (MQ below (QC E (some (i3 o)) n (zf n) M) args s 0 0 (fr E)) (F0 m 16 ls []) := by
  unfold fn_X8_isDigit_J16 at hf
  refine lv_iconst (v := Int32.ofInt 0) C.hx C.hb dX8_isDigit_16 rfl ?_
  cases hf
  exact w_zret C hH (Or.inl rfl) dX8_isDigit_17
set_option maxRecDepth 100000 in
set_option maxHeartbeats 4000000 in
theorem m_X8_isDigit {E : EE} {l : Launch} {n : Nat} {a0 : Int} {M : Mem} {o : Int} (hn : nfull n) (hf : fn_X8_isDigit a0 M = some o) : CT E l yX8_isDigit cX8_isDigit 1 (some .boolean) 0 0 0 0 [i3 a0] n (zf n) M (some (i3 o)) n (zf n) M := by
  refine CT_of PN_RX8 (Nat.le_of_ble_eq_true rfl) ?_
  intro p e s m args below meth c C hH ls hl
  replace C : Cx E p s m args meth c cX8_isDigit 1 RX8 (some .boolean) n "isDigit" := C
  have hl : lv_has ls 1 [(0, i3 a0)] := hl
  unfold fn_X8_isDigit at hf
  refine lv_iload_n C.hx C.hb dX8_isDigit_0 rfl (lv_at hl 0 rfl) ?_
  refine lv_bipush (v := Int32.ofInt 48) C.hx C.hb dX8_isDigit_1 (by decide) ?_
  refine w_lt (tgt := 16) C hf dX8_isDigit_3 (by decide) (fun hf => ?_) (fun hf => ?_)
  · exact j_X8_isDigit_16 C hn hf hH (lv_sub hl [] rfl)
  · refine lv_iload_n C.hx C.hb dX8_isDigit_6 rfl (lv_at hl 0 rfl) ?_
    refine lv_bipush (v := Int32.ofInt 57) C.hx C.hb dX8_isDigit_7 (by decide) ?_
    refine w_gt (tgt := 16) C hf dX8_isDigit_9 (by decide) (fun hf => ?_) (fun hf => ?_)
    · exact j_X8_isDigit_16 C hn hf hH (lv_sub hl [] rfl)
    · refine lv_iconst (v := Int32.ofInt 1) C.hx C.hb dX8_isDigit_12 rfl ?_
      refine lv_goto (tgt := 17) C.hx C.hb dX8_isDigit_13 (by decide) ?_
      cases hf
      exact w_zret C hH (Or.inr rfl) dX8_isDigit_17
-- HeavierByHand$Tokens.joins
def fn_X8_joins_J46 : Option Int :=
  some 1
def fn_X8_joins_J50 : Option Int :=
  some 0
def fn_X8_joins_J40 (a1 : Int) : Option Int :=
  cEq a1 61 (fn_X8_joins_J46) (fn_X8_joins_J50)
def fn_X8_joins_J28 (a0 : Int) (a1 : Int) : Option Int :=
  cEq a0 60 (fn_X8_joins_J40 a1) (cEq a0 62 (fn_X8_joins_J40 a1) (fn_X8_joins_J50))
def fn_X8_joins_J14 (a0 : Int) (a1 : Int) (M : Mem) : Option Int :=
  cu (fn_X8_isDigit a0 M) fun x15 => cEq x15 0 (fn_X8_joins_J28 a0 a1) (cu (fn_X8_isDigit a1 M) fun x22 => cEq x22 0 (fn_X8_joins_J28 a0 a1) (fn_X8_joins_J46))
def fn_X8_joins (a0 : Int) (a1 : Int) (M : Mem) : Option Int :=
  cu (fn_X8_isLetter a0 M) fun x1 => cEq x1 0 (fn_X8_joins_J14 a0 a1 M) (cu (fn_X8_isLetter a1 M) fun x8 => cEq x8 0 (fn_X8_joins_J14 a0 a1 M) (fn_X8_joins_J46))
set_option maxRecDepth 100000 in
set_option maxHeartbeats 4000000 in
theorem j_X8_joins_46 {p : Program} {l : Launch} {e : Env} {s : State} {m : MethodId} {args : Array Value} {below : List Frame} {meth : Method} {c : Code} {E : EE} {n : Nat} {o : Int} {M : Mem} {H : Heap} {locs : List Loc} {ls : Array Slot} (C : Cx E p s m args meth c cX8_joins 2 RX8 (some .boolean) n "joins") (hn : nfull n) (hf : fn_X8_joins_J46 = some o) (hH : ST E s n (zf n) M H locs) (hl : lv_has ls 2 []) : W p l e { frames := 1, cells := 0, slots := 0, locals := 20 } s m args below meth c H locs 0 0 (MQ below (QC E (some (i3 o)) n (zf n) M) args s 0 0 (fr E)) (F0 m 46 ls []) := by
  unfold fn_X8_joins_J46 at hf
  refine lv_iconst (v := Int32.ofInt 1) C.hx C.hb dX8_joins_46 rfl ?_
  refine lv_goto (tgt := 51) C.hx C.hb dX8_joins_47 (by decide) ?_
  cases hf
  exact w_zret C hH (Or.inr rfl) dX8_joins_51
set_option maxRecDepth 100000 in
set_option maxHeartbeats 4000000 in
theorem j_X8_joins_50 {p : Program} {l : Launch} {e : Env} {s : State} {m : MethodId} {args : Array Value} {below : List Frame} {meth : Method} {c : Code} {E : EE} {n : Nat} {o : Int} {M : Mem} {H : Heap} {locs : List Loc} {ls : Array Slot} (C : Cx E p s m args meth c cX8_joins 2 RX8 (some .boolean) n "joins") (hn : nfull n) (hf : fn_X8_joins_J50 = some o) (hH : ST E s n (zf n) M H locs) (hl : lv_has ls 2 []) : W p l e { frames := 1, cells := 0, slots := 0, locals := 20 } s m args below meth c H locs 0 0 (MQ below (QC E (some (i3 o)) n (zf n) M) args s 0 0 (fr E)) (F0 m 50 ls []) := by
  unfold fn_X8_joins_J50 at hf
  refine lv_iconst (v := Int32.ofInt 0) C.hx C.hb dX8_joins_50 rfl ?_
  cases hf
  exact w_zret C hH (Or.inl rfl) dX8_joins_51
set_option maxRecDepth 100000 in
set_option maxHeartbeats 4000000 in
theorem j_X8_joins_40 {p : Program} {l : Launch} {e : Env} {s : State} {m : MethodId} {args : Array Value} {below : List Frame} {meth : Method} {c : Code} {E : EE} {n : Nat} {o : Int} {a1 : Int} {M : Mem} {H : Heap} {locs : List Loc} {ls : Array Slot} (C : Cx E p s m args meth c cX8_joins 2 RX8 (some .boolean) n "joins") (hn : nfull n) (hf : fn_X8_joins_J40 a1 = some o) (hH : ST E s n (zf n) M H locs) (hl : lv_has ls 2 [(1, i3 a1)]) : W p l e { frames := 1, cells := 0, slots := 0, locals := 20 } s m args below meth c H locs 0 0 (MQ below (QC E (some (i3 o)) n (zf n) M) args s 0 0 (fr E)) (F0 m 40 ls []) := by
  unfold fn_X8_joins_J40 at hf
  refine lv_iload_n C.hx C.hb dX8_joins_40 rfl (lv_at hl 0 rfl) ?_
  refine lv_bipush (v := Int32.ofInt 61) C.hx C.hb dX8_joins_41 (by decide) ?_
  refine w_ne (tgt := 50) C hf dX8_joins_43 (by decide) (fun hf => ?_) (fun hf => ?_)
  · exact j_X8_joins_50 C hn hf hH (lv_sub hl [] rfl)
  · exact j_X8_joins_46 C hn hf hH (lv_sub hl [] rfl)
set_option maxRecDepth 100000 in
set_option maxHeartbeats 4000000 in
theorem j_X8_joins_28 {p : Program} {l : Launch} {e : Env} {s : State} {m : MethodId} {args : Array Value} {below : List Frame} {meth : Method} {c : Code} {E : EE} {n : Nat} {o : Int} {a0 : Int} {a1 : Int} {M : Mem} {H : Heap} {locs : List Loc} {ls : Array Slot} (C : Cx E p s m args meth c cX8_joins 2 RX8 (some .boolean) n "joins") (hn : nfull n) (hf : fn_X8_joins_J28 a0 a1 = some o) (hH : ST E s n (zf n) M H locs) (hl : lv_has ls 2 [(0, i3 a0), (1, i3 a1)]) : W p l e { frames := 1, cells := 0, slots := 0, locals := 20 } s m args below meth c H locs 0 0 (MQ below (QC E (some (i3 o)) n (zf n) M) args s 0 0 (fr E)) (F0 m 28 ls []) := by
  unfold fn_X8_joins_J28 at hf
  refine lv_iload_n C.hx C.hb dX8_joins_28 rfl (lv_at hl 0 rfl) ?_
  refine lv_bipush (v := Int32.ofInt 60) C.hx C.hb dX8_joins_29 (by decide) ?_
  refine w_eq (tgt := 40) C hf dX8_joins_31 (by decide) (fun hf => ?_) (fun hf => ?_)
  · exact j_X8_joins_40 C hn hf hH (lv_sub hl [1] rfl)
  · refine lv_iload_n C.hx C.hb dX8_joins_34 rfl (lv_at hl 0 rfl) ?_
    refine lv_bipush (v := Int32.ofInt 62) C.hx C.hb dX8_joins_35 (by decide) ?_
    refine w_ne (tgt := 50) C hf dX8_joins_37 (by decide) (fun hf => ?_) (fun hf => ?_)
    · exact j_X8_joins_50 C hn hf hH (lv_sub hl [] rfl)
    · exact j_X8_joins_40 C hn hf hH (lv_sub hl [1] rfl)
set_option maxRecDepth 100000 in
set_option maxHeartbeats 4000000 in
theorem j_X8_joins_14 {p : Program} {l : Launch} {e : Env} {s : State} {m : MethodId} {args : Array Value} {below : List Frame} {meth : Method} {c : Code} {E : EE} {n : Nat} {o : Int} {a0 : Int} {a1 : Int} {M : Mem} {H : Heap} {locs : List Loc} {ls : Array Slot} (C : Cx E p s m args meth c cX8_joins 2 RX8 (some .boolean) n "joins") (hn : nfull n) (hf : fn_X8_joins_J14 a0 a1 M = some o) (hH : ST E s n (zf n) M H locs) (hl : lv_has ls 2 [(0, i3 a0), (1, i3 a1)]) : W p l e { frames := 1, cells := 0, slots := 0, locals := 20 } s m args below meth c H locs 0 0 (MQ below (QC E (some (i3 o)) n (zf n) M) args s 0 0 (fr E)) (F0 m 14 ls []) := by
  unfold fn_X8_joins_J14 at hf
  refine lv_iload_n C.hx C.hb dX8_joins_14 rfl (lv_at hl 0 rfl) ?_
  obtain ⟨x15, hc9, hf⟩ := cu_of hf
  refine r_callSi (rest := []) C hH hl (m_X8_isDigit hn hc9) ML_RX8_72 MF_X8_isDigit MS_X8_isDigit rfl rfl (Nat.le_of_ble_eq_true rfl) ⟨Nat.le_of_ble_eq_true rfl, Nat.le_of_ble_eq_true rfl⟩ ⟨Nat.le_refl _, Nat.le_refl _⟩ dX8_joins_15 (fun H locs hH => ?_)
  refine w_eq0 (tgt := 28) C hf dX8_joins_18 (by decide) (fun hf => ?_) (fun hf => ?_)
  · exact j_X8_joins_28 C hn hf hH (lv_sub hl [0, 1] rfl)
  · refine lv_iload_n C.hx C.hb dX8_joins_21 rfl (lv_at hl 1 rfl) ?_
    obtain ⟨x22, hc9, hf⟩ := cu_of hf
    refine r_callSi (rest := []) C hH hl (m_X8_isDigit hn hc9) ML_RX8_72 MF_X8_isDigit MS_X8_isDigit rfl rfl (Nat.le_of_ble_eq_true rfl) ⟨Nat.le_of_ble_eq_true rfl, Nat.le_of_ble_eq_true rfl⟩ ⟨Nat.le_refl _, Nat.le_refl _⟩ dX8_joins_22 (fun H locs hH => ?_)
    refine w_ne0 (tgt := 46) C hf dX8_joins_25 (by decide) (fun hf => ?_) (fun hf => ?_)
    · exact j_X8_joins_46 C hn hf hH (lv_sub hl [] rfl)
    · exact j_X8_joins_28 C hn hf hH (lv_sub hl [0, 1] rfl)
set_option maxRecDepth 100000 in
set_option maxHeartbeats 4000000 in
theorem m_X8_joins {E : EE} {l : Launch} {n : Nat} {a0 : Int} {a1 : Int} {M : Mem} {o : Int} (hn : nfull n) (hf : fn_X8_joins a0 a1 M = some o) : CT E l yX8_joins cX8_joins 2 (some .boolean) 1 20 0 0 [i3 a0, i3 a1] n (zf n) M (some (i3 o)) n (zf n) M := by
  refine CT_of PN_RX8 (Nat.le_of_ble_eq_true rfl) ?_
  intro p e s m args below meth c C hH ls hl
  replace C : Cx E p s m args meth c cX8_joins 2 RX8 (some .boolean) n "joins" := C
  have hl : lv_has ls 2 [(0, i3 a0), (1, i3 a1)] := hl
  unfold fn_X8_joins at hf
  refine lv_iload_n C.hx C.hb dX8_joins_0 rfl (lv_at hl 0 rfl) ?_
  obtain ⟨x1, hc9, hf⟩ := cu_of hf
  refine r_callSi (rest := []) C hH hl (m_X8_isLetter hn hc9) ML_RX8_69 MF_X8_isLetter MS_X8_isLetter rfl rfl (Nat.le_of_ble_eq_true rfl) ⟨Nat.le_of_ble_eq_true rfl, Nat.le_of_ble_eq_true rfl⟩ ⟨Nat.le_refl _, Nat.le_refl _⟩ dX8_joins_1 (fun H locs hH => ?_)
  refine w_eq0 (tgt := 14) C hf dX8_joins_4 (by decide) (fun hf => ?_) (fun hf => ?_)
  · exact j_X8_joins_14 C hn hf hH (lv_sub hl [0, 1] rfl)
  · refine lv_iload_n C.hx C.hb dX8_joins_7 rfl (lv_at hl 1 rfl) ?_
    obtain ⟨x8, hc9, hf⟩ := cu_of hf
    refine r_callSi (rest := []) C hH hl (m_X8_isLetter hn hc9) ML_RX8_69 MF_X8_isLetter MS_X8_isLetter rfl rfl (Nat.le_of_ble_eq_true rfl) ⟨Nat.le_of_ble_eq_true rfl, Nat.le_of_ble_eq_true rfl⟩ ⟨Nat.le_refl _, Nat.le_refl _⟩ dX8_joins_8 (fun H locs hH => ?_)
    refine w_ne0 (tgt := 46) C hf dX8_joins_11 (by decide) (fun hf => ?_) (fun hf => ?_)
    · exact j_X8_joins_46 C hn hf hH (lv_sub hl [] rfl)
    · exact j_X8_joins_14 C hn hf hH (lv_sub hl [0, 1] rfl)
-- HeavierByHand$Tokens.isToken
def fn_X8_isToken_J23 : Option Int :=
  some 0
def fn_X8_isToken (t : Nat) (a1 : Int) (M : Mem) : Option Int :=
  cLt a1 0 (fn_X8_isToken_J23) (cLt a1 (M t 4) (cLt a1 300 (some 1) (fn_X8_isToken_J23)) (fn_X8_isToken_J23))
set_option maxRecDepth 100000 in
set_option maxHeartbeats 4000000 in
theorem j_X8_isToken_23 {p : Program} {l : Launch} {e : Env} {s : State} {m : MethodId} {args : Array Value} {below : List Frame} {meth : Method} {c : Code} {E : EE} {n : Nat} {o : Int} {M : Mem} {H : Heap} {locs : List Loc} {ls : Array Slot} (C : Cx E p s m args meth c cX8_isToken 2 RX8 (some .boolean) n "isToken") (hn : nfull n) (hf : fn_X8_isToken_J23 = some o) (hH : ST E s n (zf n) M H locs) (hl : lv_has ls 2 []) : W p l e { frames := 0, cells := 0, slots := 0, locals := 0 } s m args below meth c H locs 0 0 (MQ below (QC E (some (i3 o)) n (zf n) M) args s 0 0 (fr E)) (F0 m 23 ls []) := by
  unfold fn_X8_isToken_J23 at hf
  refine lv_iconst (v := Int32.ofInt 0) C.hx C.hb dX8_isToken_23 rfl ?_
  cases hf
  exact w_zret C hH (Or.inl rfl) dX8_isToken_24
set_option maxRecDepth 100000 in
set_option maxHeartbeats 4000000 in
theorem m_X8_isToken {E : EE} {l : Launch} {n : Nat} {t : Nat} {a1 : Int} {M : Mem} {o : Int} (hn : nfull n) (o_t : ob n t 8) (hf : fn_X8_isToken t a1 M = some o) : CT E l yX8_isToken cX8_isToken 2 (some .boolean) 0 0 0 0 [.ref (eb E + t), i3 a1] n (zf n) M (some (i3 o)) n (zf n) M := by
  refine CT_of PN_RX8 (Nat.le_of_ble_eq_true rfl) ?_
  intro p e s m args below meth c C hH ls hl
  replace C : Cx E p s m args meth c cX8_isToken 2 RX8 (some .boolean) n "isToken" := C
  have hl : lv_has ls 2 [(0, .ref (eb E + t)), (1, i3 a1)] := hl
  unfold fn_X8_isToken at hf
  refine lv_iload_n C.hx C.hb dX8_isToken_0 rfl (lv_at hl 1 rfl) ?_
  refine w_lt0 (tgt := 23) C hf dX8_isToken_1 (by decide) (fun hf => ?_) (fun hf => ?_)
  · exact j_X8_isToken_23 C hn hf hH (lv_sub hl [] rfl)
  · refine lv_iload_n C.hx C.hb dX8_isToken_4 rfl (lv_at hl 1 rfl) ?_
    refine lv_aload_n C.hx C.hb dX8_isToken_5 rfl (lv_at hl 0 rfl) ?_
    refine g_int C hH o_t (by decide) rfl FL_RX8_24 dX8_isToken_6 ?_
    refine w_ge (tgt := 23) C hf dX8_isToken_9 (by decide) (fun hf => ?_) (fun hf => ?_)
    · exact j_X8_isToken_23 C hn hf hH (lv_sub hl [] rfl)
    · refine lv_iload_n C.hx C.hb dX8_isToken_12 rfl (lv_at hl 1 rfl) ?_
      refine lv_sipush (v := Int32.ofInt 300) C.hx C.hb dX8_isToken_13 (by decide) ?_
      refine w_ge (tgt := 23) C hf dX8_isToken_16 (by decide) (fun hf => ?_) (fun hf => ?_)
      · exact j_X8_isToken_23 C hn hf hH (lv_sub hl [] rfl)
      · refine lv_iconst (v := Int32.ofInt 1) C.hx C.hb dX8_isToken_19 rfl ?_
        refine lv_goto (tgt := 24) C.hx C.hb dX8_isToken_20 (by decide) ?_
        cases hf
        exact w_zret C hH (Or.inr rfl) dX8_isToken_24
-- HeavierByHand$Tokens.lengthen
def fn_X8_lengthen (t : Nat) (a1 : Int) (a2 : Int) (M : Mem) : Option Mem :=
  cu (fn_X8_isToken t a1 M) fun x2 => cEq x2 0 (some M) (rd M (t + 1) 300 a1 fun x14 => cEq x14 20 (wr M (t + 1) 300 a1 21 fun M27 => some M27) (rd M (t + 1) 300 a1 fun x36 => cEq x36 22 (wr M (t + 1) 300 a1 23 fun M49 => some M49) (rd M (t + 1) 300 a1 fun x58 => cEq x58 2 (rd M (t + 2) 300 a1 fun x73 => ck (R3 (((x73 * 10) + a2) - 48) ∧ R3 10000) <| wr M (t + 2) 300 a1 (min (((x73 * 10) + a2) - 48) 10000) fun M88 => some M88) (some M))))
set_option maxRecDepth 100000 in
set_option maxHeartbeats 4000000 in
theorem m_X8_lengthen {E : EE} {l : Launch} {n : Nat} {t : Nat} {a1 : Int} {a2 : Int} {M : Mem} {o : Mem} (hn : nfull n) (o_t : ob n t 8) (hf : fn_X8_lengthen t a1 a2 M = some o) : CT E l yX8_lengthen cX8_lengthen 3 none 4 120 0 0 [.ref (eb E + t), i3 a1, i3 a2] n (zf n) M none n (zf n) o := by
  refine CT_of PN_RX8 (Nat.le_of_ble_eq_true rfl) ?_
  intro p e s m args below meth c C hH ls hl
  replace C : Cx E p s m args meth c cX8_lengthen 3 RX8 none n "lengthen" := C
  have hl : lv_has ls 3 [(0, .ref (eb E + t)), (1, i3 a1), (2, i3 a2)] := hl
  unfold fn_X8_lengthen at hf
  refine lv_aload_n C.hx C.hb dX8_lengthen_0 rfl (lv_at hl 0 rfl) ?_
  refine lv_iload_n C.hx C.hb dX8_lengthen_1 rfl (lv_at hl 1 rfl) ?_
  obtain ⟨x2, hc9, hf⟩ := cu_of hf
  refine r_callVi (rest := []) C hH hl o_t (by decide) rfl (m_X8_isToken hn o_t hc9) ML_RX8_82 MF_X8_isToken MI_X8_isToken rfl rfl (Nat.le_of_ble_eq_true rfl) ⟨Nat.le_of_ble_eq_true rfl, Nat.le_of_ble_eq_true rfl⟩ ⟨Nat.le_refl _, Nat.le_refl _⟩ dX8_lengthen_2 (fun H locs hH => ?_)
  refine w_ne0 (tgt := 9) C hf dX8_lengthen_5 (by decide) (fun hf => ?_) (fun hf => ?_)
  · refine lv_aload_n C.hx C.hb dX8_lengthen_9 rfl (lv_at hl 0 rfl) ?_
    refine g_ref (off := 1) C hH o_t (by decide) rfl rfl FL_RX8_9 dX8_lengthen_10 ?_
    refine lv_iload_n C.hx C.hb dX8_lengthen_13 rfl (lv_at hl 1 rfl) ?_
    refine r_iald C hH (ly (i := 0) (off := 1) (k := 12) hn o_t rfl rfl rfl) (lyn (i := 0) (off := 1) (N := 299) hn o_t rfl rfl rfl) hf dX8_lengthen_14 (fun x14 hf => ?_)
    refine lv_bipush (v := Int32.ofInt 20) C.hx C.hb dX8_lengthen_15 (by decide) ?_
    refine w_ne (tgt := 31) C hf dX8_lengthen_17 (by decide) (fun hf => ?_) (fun hf => ?_)
    · refine lv_aload_n C.hx C.hb dX8_lengthen_31 rfl (lv_at hl 0 rfl) ?_
      refine g_ref (off := 1) C hH o_t (by decide) rfl rfl FL_RX8_9 dX8_lengthen_32 ?_
      refine lv_iload_n C.hx C.hb dX8_lengthen_35 rfl (lv_at hl 1 rfl) ?_
      refine r_iald C hH (ly (i := 0) (off := 1) (k := 12) hn o_t rfl rfl rfl) (lyn (i := 0) (off := 1) (N := 299) hn o_t rfl rfl rfl) hf dX8_lengthen_36 (fun x36 hf => ?_)
      refine lv_bipush (v := Int32.ofInt 22) C.hx C.hb dX8_lengthen_37 (by decide) ?_
      refine w_ne (tgt := 53) C hf dX8_lengthen_39 (by decide) (fun hf => ?_) (fun hf => ?_)
      · refine lv_aload_n C.hx C.hb dX8_lengthen_53 rfl (lv_at hl 0 rfl) ?_
        refine g_ref (off := 1) C hH o_t (by decide) rfl rfl FL_RX8_9 dX8_lengthen_54 ?_
        refine lv_iload_n C.hx C.hb dX8_lengthen_57 rfl (lv_at hl 1 rfl) ?_
        refine r_iald C hH (ly (i := 0) (off := 1) (k := 12) hn o_t rfl rfl rfl) (lyn (i := 0) (off := 1) (N := 299) hn o_t rfl rfl rfl) hf dX8_lengthen_58 (fun x58 hf => ?_)
        refine lv_iconst (v := Int32.ofInt 2) C.hx C.hb dX8_lengthen_59 rfl ?_
        refine w_ne (tgt := 89) C hf dX8_lengthen_60 (by decide) (fun hf => ?_) (fun hf => ?_)
        · cases hf
          exact w_vret C hH dX8_lengthen_89
        · refine lv_aload_n C.hx C.hb dX8_lengthen_63 rfl (lv_at hl 0 rfl) ?_
          refine g_ref (off := 2) C hH o_t (by decide) rfl rfl FL_RX8_15 dX8_lengthen_64 ?_
          refine lv_iload_n C.hx C.hb dX8_lengthen_67 rfl (lv_at hl 1 rfl) ?_
          refine lv_aload_n C.hx C.hb dX8_lengthen_68 rfl (lv_at hl 0 rfl) ?_
          refine g_ref (off := 2) C hH o_t (by decide) rfl rfl FL_RX8_15 dX8_lengthen_69 ?_
          refine lv_iload_n C.hx C.hb dX8_lengthen_72 rfl (lv_at hl 1 rfl) ?_
          refine r_iald C hH (ly (i := 1) (off := 2) (k := 12) hn o_t rfl rfl rfl) (lyn (i := 1) (off := 2) (N := 299) hn o_t rfl rfl rfl) hf dX8_lengthen_73 (fun x73 hf => ?_)
          refine lv_bipush (v := Int32.ofInt 10) C.hx C.hb dX8_lengthen_74 (by decide) ?_
          refine w_imul C dX8_lengthen_76 ?_
          refine lv_iload_n C.hx C.hb dX8_lengthen_77 rfl (lv_at hl 2 rfl) ?_
          refine w_iadd C dX8_lengthen_78 ?_
          refine lv_bipush (v := Int32.ofInt 48) C.hx C.hb dX8_lengthen_79 (by decide) ?_
          refine w_isub C dX8_lengthen_81 ?_
          refine lv_sipush (v := Int32.ofInt 10000) C.hx C.hb dX8_lengthen_82 (by decide) ?_
          obtain ⟨hR8, hf⟩ := ck_of hf
          refine w_min C hl.1 hR8 ML_RX8_85 LB_min LB_mathi LB_minc (Nat.le_of_ble_eq_true rfl) (Nat.le_of_ble_eq_true rfl) (Nat.le_refl _) (Nat.le_refl _) dX8_lengthen_85 ?_
          refine r_iast C hH (ly (i := 1) (off := 2) (k := 12) hn o_t rfl rfl rfl) (lyn (i := 1) (off := 2) (N := 299) hn o_t rfl rfl rfl) hf dX8_lengthen_88 (fun M88 H locs hf hH => ?_)
          cases hf
          exact w_vret C hH dX8_lengthen_89
      · refine lv_aload_n C.hx C.hb dX8_lengthen_42 rfl (lv_at hl 0 rfl) ?_
        refine g_ref (off := 1) C hH o_t (by decide) rfl rfl FL_RX8_9 dX8_lengthen_43 ?_
        refine lv_iload_n C.hx C.hb dX8_lengthen_46 rfl (lv_at hl 1 rfl) ?_
        refine lv_bipush (v := Int32.ofInt 23) C.hx C.hb dX8_lengthen_47 (by decide) ?_
        refine r_iast C hH (ly (i := 0) (off := 1) (k := 12) hn o_t rfl rfl rfl) (lyn (i := 0) (off := 1) (N := 299) hn o_t rfl rfl rfl) hf dX8_lengthen_49 (fun M49 H locs hf hH => ?_)
        refine lv_goto (tgt := 89) C.hx C.hb dX8_lengthen_50 (by decide) ?_
        cases hf
        exact w_vret C hH dX8_lengthen_89
    · refine lv_aload_n C.hx C.hb dX8_lengthen_20 rfl (lv_at hl 0 rfl) ?_
      refine g_ref (off := 1) C hH o_t (by decide) rfl rfl FL_RX8_9 dX8_lengthen_21 ?_
      refine lv_iload_n C.hx C.hb dX8_lengthen_24 rfl (lv_at hl 1 rfl) ?_
      refine lv_bipush (v := Int32.ofInt 21) C.hx C.hb dX8_lengthen_25 (by decide) ?_
      refine r_iast C hH (ly (i := 0) (off := 1) (k := 12) hn o_t rfl rfl rfl) (lyn (i := 0) (off := 1) (N := 299) hn o_t rfl rfl rfl) hf dX8_lengthen_27 (fun M27 H locs hf hH => ?_)
      refine lv_goto (tgt := 89) C.hx C.hb dX8_lengthen_28 (by decide) ?_
      cases hf
      exact w_vret C hH dX8_lengthen_89
  · cases hf
    exact w_vret C hH dX8_lengthen_8
-- HeavierByHand$Tokens.kindOf
def fn_X8_kindOf (a0 : Int) (M : Mem) : Option Int :=
  cu (fn_X8_isLetter a0 M) fun x1 => cEq x1 0 (cu (fn_X8_isDigit a0 M) fun x10 => cEq x10 0 (ck (R3 a0) <| if a0 = 35 then (some 25) else if a0 = 40 then (some 30) else if a0 = 41 then (some 31) else if a0 = 42 then (some 28) else if a0 = 43 then (some 26) else if a0 = 45 then (some 27) else if a0 = 47 then (some 29) else if a0 = 59 then (some 32) else if a0 = 60 then (some 20) else if a0 = 61 then (some 24) else if a0 = 62 then (some 22) else some 1) (some 2)) (some 3)
set_option maxRecDepth 100000 in
set_option maxHeartbeats 4000000 in
theorem m_X8_kindOf {E : EE} {l : Launch} {n : Nat} {a0 : Int} {M : Mem} {o : Int} (hn : nfull n) (hf : fn_X8_kindOf a0 M = some o) : CT E l yX8_kindOf cX8_kindOf 1 (some .int) 1 20 0 0 [i3 a0] n (zf n) M (some (i3 o)) n (zf n) M := by
  refine CT_of PN_RX8 (Nat.le_of_ble_eq_true rfl) ?_
  intro p e s m args below meth c C hH ls hl
  replace C : Cx E p s m args meth c cX8_kindOf 1 RX8 (some .int) n "kindOf" := C
  have hl : lv_has ls 1 [(0, i3 a0)] := hl
  unfold fn_X8_kindOf at hf
  refine lv_iload_n C.hx C.hb dX8_kindOf_0 rfl (lv_at hl 0 rfl) ?_
  obtain ⟨x1, hc9, hf⟩ := cu_of hf
  refine r_callSi (rest := []) C hH hl (m_X8_isLetter hn hc9) ML_RX8_69 MF_X8_isLetter MS_X8_isLetter rfl rfl (Nat.le_of_ble_eq_true rfl) ⟨Nat.le_of_ble_eq_true rfl, Nat.le_of_ble_eq_true rfl⟩ ⟨Nat.le_refl _, Nat.le_refl _⟩ dX8_kindOf_1 (fun H locs hH => ?_)
  refine w_eq0 (tgt := 9) C hf dX8_kindOf_4 (by decide) (fun hf => ?_) (fun hf => ?_)
  · refine lv_iload_n C.hx C.hb dX8_kindOf_9 rfl (lv_at hl 0 rfl) ?_
    obtain ⟨x10, hc9, hf⟩ := cu_of hf
    refine r_callSi (rest := []) C hH hl (m_X8_isDigit hn hc9) ML_RX8_72 MF_X8_isDigit MS_X8_isDigit rfl rfl (Nat.le_of_ble_eq_true rfl) ⟨Nat.le_of_ble_eq_true rfl, Nat.le_of_ble_eq_true rfl⟩ ⟨Nat.le_refl _, Nat.le_refl _⟩ dX8_kindOf_10 (fun H locs hH => ?_)
    refine w_eq0 (tgt := 18) C hf dX8_kindOf_13 (by decide) (fun hf => ?_) (fun hf => ?_)
    · refine lv_iload_n C.hx C.hb dX8_kindOf_18 rfl (lv_at hl 0 rfl) ?_
      obtain ⟨hR9, hf⟩ := ck_of hf
      by_cases e0 : a0 = 35
      · rw [if_pos e0] at hf
        refine r_tab (tgt := 153) C e0 ⟨by decide, by decide⟩ dX8_kindOf_19 (by decide) (by decide) rfl (by decide) ?_
        refine lv_bipush (v := Int32.ofInt 25) C.hx C.hb dX8_kindOf_153 (by decide) ?_
        cases hf
        exact w_iret C hH dX8_kindOf_155
      · rw [if_neg e0] at hf
        by_cases e1 : a0 = 40
        · rw [if_pos e1] at hf
          refine r_tab (tgt := 168) C e1 ⟨by decide, by decide⟩ dX8_kindOf_19 (by decide) (by decide) rfl (by decide) ?_
          refine lv_bipush (v := Int32.ofInt 30) C.hx C.hb dX8_kindOf_168 (by decide) ?_
          cases hf
          exact w_iret C hH dX8_kindOf_170
        · rw [if_neg e1] at hf
          by_cases e2 : a0 = 41
          · rw [if_pos e2] at hf
            refine r_tab (tgt := 171) C e2 ⟨by decide, by decide⟩ dX8_kindOf_19 (by decide) (by decide) rfl (by decide) ?_
            refine lv_bipush (v := Int32.ofInt 31) C.hx C.hb dX8_kindOf_171 (by decide) ?_
            cases hf
            exact w_iret C hH dX8_kindOf_173
          · rw [if_neg e2] at hf
            by_cases e3 : a0 = 42
            · rw [if_pos e3] at hf
              refine r_tab (tgt := 162) C e3 ⟨by decide, by decide⟩ dX8_kindOf_19 (by decide) (by decide) rfl (by decide) ?_
              refine lv_bipush (v := Int32.ofInt 28) C.hx C.hb dX8_kindOf_162 (by decide) ?_
              cases hf
              exact w_iret C hH dX8_kindOf_164
            · rw [if_neg e3] at hf
              by_cases e4 : a0 = 43
              · rw [if_pos e4] at hf
                refine r_tab (tgt := 156) C e4 ⟨by decide, by decide⟩ dX8_kindOf_19 (by decide) (by decide) rfl (by decide) ?_
                refine lv_bipush (v := Int32.ofInt 26) C.hx C.hb dX8_kindOf_156 (by decide) ?_
                cases hf
                exact w_iret C hH dX8_kindOf_158
              · rw [if_neg e4] at hf
                by_cases e5 : a0 = 45
                · rw [if_pos e5] at hf
                  refine r_tab (tgt := 159) C e5 ⟨by decide, by decide⟩ dX8_kindOf_19 (by decide) (by decide) rfl (by decide) ?_
                  refine lv_bipush (v := Int32.ofInt 27) C.hx C.hb dX8_kindOf_159 (by decide) ?_
                  cases hf
                  exact w_iret C hH dX8_kindOf_161
                · rw [if_neg e5] at hf
                  by_cases e6 : a0 = 47
                  · rw [if_pos e6] at hf
                    refine r_tab (tgt := 165) C e6 ⟨by decide, by decide⟩ dX8_kindOf_19 (by decide) (by decide) rfl (by decide) ?_
                    refine lv_bipush (v := Int32.ofInt 29) C.hx C.hb dX8_kindOf_165 (by decide) ?_
                    cases hf
                    exact w_iret C hH dX8_kindOf_167
                  · rw [if_neg e6] at hf
                    by_cases e7 : a0 = 59
                    · rw [if_pos e7] at hf
                      refine r_tab (tgt := 174) C e7 ⟨by decide, by decide⟩ dX8_kindOf_19 (by decide) (by decide) rfl (by decide) ?_
                      refine lv_bipush (v := Int32.ofInt 32) C.hx C.hb dX8_kindOf_174 (by decide) ?_
                      cases hf
                      exact w_iret C hH dX8_kindOf_176
                    · rw [if_neg e7] at hf
                      by_cases e8 : a0 = 60
                      · rw [if_pos e8] at hf
                        refine r_tab (tgt := 144) C e8 ⟨by decide, by decide⟩ dX8_kindOf_19 (by decide) (by decide) rfl (by decide) ?_
                        refine lv_bipush (v := Int32.ofInt 20) C.hx C.hb dX8_kindOf_144 (by decide) ?_
                        cases hf
                        exact w_iret C hH dX8_kindOf_146
                      · rw [if_neg e8] at hf
                        by_cases e9 : a0 = 61
                        · rw [if_pos e9] at hf
                          refine r_tab (tgt := 150) C e9 ⟨by decide, by decide⟩ dX8_kindOf_19 (by decide) (by decide) rfl (by decide) ?_
                          refine lv_bipush (v := Int32.ofInt 24) C.hx C.hb dX8_kindOf_150 (by decide) ?_
                          cases hf
                          exact w_iret C hH dX8_kindOf_152
                        · rw [if_neg e9] at hf
                          by_cases e10 : a0 = 62
                          · rw [if_pos e10] at hf
                            refine r_tab (tgt := 147) C e10 ⟨by decide, by decide⟩ dX8_kindOf_19 (by decide) (by decide) rfl (by decide) ?_
                            refine lv_bipush (v := Int32.ofInt 22) C.hx C.hb dX8_kindOf_147 (by decide) ?_
                            cases hf
                            exact w_iret C hH dX8_kindOf_149
                          · rw [if_neg e10] at hf
                            by_cases f0 : a0 = 36
                            · refine r_tab (tgt := 177) C f0 ⟨by decide, by decide⟩ dX8_kindOf_19 (by decide) (by decide) rfl (by decide) ?_
                              refine lv_iconst (v := Int32.ofInt 1) C.hx C.hb dX8_kindOf_177 rfl ?_
                              cases hf
                              exact w_iret C hH dX8_kindOf_178
                            · skip
                              by_cases f1 : a0 = 37
                              · refine r_tab (tgt := 177) C f1 ⟨by decide, by decide⟩ dX8_kindOf_19 (by decide) (by decide) rfl (by decide) ?_
                                refine lv_iconst (v := Int32.ofInt 1) C.hx C.hb dX8_kindOf_177 rfl ?_
                                cases hf
                                exact w_iret C hH dX8_kindOf_178
                              · skip
                                by_cases f2 : a0 = 38
                                · refine r_tab (tgt := 177) C f2 ⟨by decide, by decide⟩ dX8_kindOf_19 (by decide) (by decide) rfl (by decide) ?_
                                  refine lv_iconst (v := Int32.ofInt 1) C.hx C.hb dX8_kindOf_177 rfl ?_
                                  cases hf
                                  exact w_iret C hH dX8_kindOf_178
                                · skip
                                  by_cases f3 : a0 = 39
                                  · refine r_tab (tgt := 177) C f3 ⟨by decide, by decide⟩ dX8_kindOf_19 (by decide) (by decide) rfl (by decide) ?_
                                    refine lv_iconst (v := Int32.ofInt 1) C.hx C.hb dX8_kindOf_177 rfl ?_
                                    cases hf
                                    exact w_iret C hH dX8_kindOf_178
                                  · skip
                                    by_cases f4 : a0 = 44
                                    · refine r_tab (tgt := 177) C f4 ⟨by decide, by decide⟩ dX8_kindOf_19 (by decide) (by decide) rfl (by decide) ?_
                                      refine lv_iconst (v := Int32.ofInt 1) C.hx C.hb dX8_kindOf_177 rfl ?_
                                      cases hf
                                      exact w_iret C hH dX8_kindOf_178
                                    · skip
                                      by_cases f5 : a0 = 46
                                      · refine r_tab (tgt := 177) C f5 ⟨by decide, by decide⟩ dX8_kindOf_19 (by decide) (by decide) rfl (by decide) ?_
                                        refine lv_iconst (v := Int32.ofInt 1) C.hx C.hb dX8_kindOf_177 rfl ?_
                                        cases hf
                                        exact w_iret C hH dX8_kindOf_178
                                      · skip
                                        by_cases f6 : a0 = 48
                                        · refine r_tab (tgt := 177) C f6 ⟨by decide, by decide⟩ dX8_kindOf_19 (by decide) (by decide) rfl (by decide) ?_
                                          refine lv_iconst (v := Int32.ofInt 1) C.hx C.hb dX8_kindOf_177 rfl ?_
                                          cases hf
                                          exact w_iret C hH dX8_kindOf_178
                                        · skip
                                          by_cases f7 : a0 = 49
                                          · refine r_tab (tgt := 177) C f7 ⟨by decide, by decide⟩ dX8_kindOf_19 (by decide) (by decide) rfl (by decide) ?_
                                            refine lv_iconst (v := Int32.ofInt 1) C.hx C.hb dX8_kindOf_177 rfl ?_
                                            cases hf
                                            exact w_iret C hH dX8_kindOf_178
                                          · skip
                                            by_cases f8 : a0 = 50
                                            · refine r_tab (tgt := 177) C f8 ⟨by decide, by decide⟩ dX8_kindOf_19 (by decide) (by decide) rfl (by decide) ?_
                                              refine lv_iconst (v := Int32.ofInt 1) C.hx C.hb dX8_kindOf_177 rfl ?_
                                              cases hf
                                              exact w_iret C hH dX8_kindOf_178
                                            · skip
                                              by_cases f9 : a0 = 51
                                              · refine r_tab (tgt := 177) C f9 ⟨by decide, by decide⟩ dX8_kindOf_19 (by decide) (by decide) rfl (by decide) ?_
                                                refine lv_iconst (v := Int32.ofInt 1) C.hx C.hb dX8_kindOf_177 rfl ?_
                                                cases hf
                                                exact w_iret C hH dX8_kindOf_178
                                              · skip
                                                by_cases f10 : a0 = 52
                                                · refine r_tab (tgt := 177) C f10 ⟨by decide, by decide⟩ dX8_kindOf_19 (by decide) (by decide) rfl (by decide) ?_
                                                  refine lv_iconst (v := Int32.ofInt 1) C.hx C.hb dX8_kindOf_177 rfl ?_
                                                  cases hf
                                                  exact w_iret C hH dX8_kindOf_178
                                                · skip
                                                  by_cases f11 : a0 = 53
                                                  · refine r_tab (tgt := 177) C f11 ⟨by decide, by decide⟩ dX8_kindOf_19 (by decide) (by decide) rfl (by decide) ?_
                                                    refine lv_iconst (v := Int32.ofInt 1) C.hx C.hb dX8_kindOf_177 rfl ?_
                                                    cases hf
                                                    exact w_iret C hH dX8_kindOf_178
                                                  · skip
                                                    by_cases f12 : a0 = 54
                                                    · refine r_tab (tgt := 177) C f12 ⟨by decide, by decide⟩ dX8_kindOf_19 (by decide) (by decide) rfl (by decide) ?_
                                                      refine lv_iconst (v := Int32.ofInt 1) C.hx C.hb dX8_kindOf_177 rfl ?_
                                                      cases hf
                                                      exact w_iret C hH dX8_kindOf_178
                                                    · skip
                                                      by_cases f13 : a0 = 55
                                                      · refine r_tab (tgt := 177) C f13 ⟨by decide, by decide⟩ dX8_kindOf_19 (by decide) (by decide) rfl (by decide) ?_
                                                        refine lv_iconst (v := Int32.ofInt 1) C.hx C.hb dX8_kindOf_177 rfl ?_
                                                        cases hf
                                                        exact w_iret C hH dX8_kindOf_178
                                                      · skip
                                                        by_cases f14 : a0 = 56
                                                        · refine r_tab (tgt := 177) C f14 ⟨by decide, by decide⟩ dX8_kindOf_19 (by decide) (by decide) rfl (by decide) ?_
                                                          refine lv_iconst (v := Int32.ofInt 1) C.hx C.hb dX8_kindOf_177 rfl ?_
                                                          cases hf
                                                          exact w_iret C hH dX8_kindOf_178
                                                        · skip
                                                          by_cases f15 : a0 = 57
                                                          · refine r_tab (tgt := 177) C f15 ⟨by decide, by decide⟩ dX8_kindOf_19 (by decide) (by decide) rfl (by decide) ?_
                                                            refine lv_iconst (v := Int32.ofInt 1) C.hx C.hb dX8_kindOf_177 rfl ?_
                                                            cases hf
                                                            exact w_iret C hH dX8_kindOf_178
                                                          · skip
                                                            by_cases f16 : a0 = 58
                                                            · refine r_tab (tgt := 177) C f16 ⟨by decide, by decide⟩ dX8_kindOf_19 (by decide) (by decide) rfl (by decide) ?_
                                                              refine lv_iconst (v := Int32.ofInt 1) C.hx C.hb dX8_kindOf_177 rfl ?_
                                                              cases hf
                                                              exact w_iret C hH dX8_kindOf_178
                                                            · skip
                                                              refine r_tabO (tgt := 177) C hR9 dX8_kindOf_19 (by omega) (by decide) ?_
                                                              refine lv_iconst (v := Int32.ofInt 1) C.hx C.hb dX8_kindOf_177 rfl ?_
                                                              cases hf
                                                              exact w_iret C hH dX8_kindOf_178
    · refine lv_iconst (v := Int32.ofInt 2) C.hx C.hb dX8_kindOf_16 rfl ?_
      cases hf
      exact w_iret C hH dX8_kindOf_17
  · refine lv_iconst (v := Int32.ofInt 3) C.hx C.hb dX8_kindOf_7 rfl ?_
    cases hf
    exact w_iret C hH dX8_kindOf_8
-- HeavierByHand$Tokens.take
def fn_X8_take_J88 (t : Nat) (a2 : Int) (u0_17 : Int) (M66 : Mem) (u0_88 : Int) : Option Mem :=
  wr M66 (t + 2) 300 u0_17 u0_88 fun M88 => wr M88 (t + 3) 300 u0_17 a2 fun M96 => wr M96 (t + 4) 300 u0_17 1 fun M104 => st M104 t 4 ((M104 t 4) + 1) fun M112 => some M112
def fn_X8_take_J17 (t : Nat) (a1 : Int) (a2 : Int) (a3 : Int) (M : Mem) (u0_17 : Int) : Option Mem :=
  cLt u0_17 0 (some M) (cLt u0_17 300 (cEq a3 0 (cu (fn_X8_kindOf a1 M) fun x63 => wr M (t + 1) 300 u0_17 x63 fun M66 => cu (fn_X8_isDigit a1 M66) fun x74 => cEq x74 0 (fn_X8_take_J88 t a2 u0_17 M66 0) (fn_X8_take_J88 t a2 u0_17 M66 (a1 - 48))) (rd M (t + 4) 300 u0_17 fun x44 => wr M (t + 4) 300 u0_17 (x44 + 1) fun M47 => cv (fn_X8_lengthen t u0_17 a1 M47) fun M52 => some M52)) (some M))
def fn_X8_take (t : Nat) (a1 : Int) (a2 : Int) (a3 : Int) (M : Mem) : Option Mem :=
  cEq a3 0 (fn_X8_take_J17 t a1 a2 a3 M (M t 4)) (fn_X8_take_J17 t a1 a2 a3 M ((M t 4) - 1))
set_option maxRecDepth 100000 in
set_option maxHeartbeats 4000000 in
theorem j_X8_take_88 {p : Program} {l : Launch} {e : Env} {s : State} {m : MethodId} {args : Array Value} {below : List Frame} {meth : Method} {c : Code} {E : EE} {n : Nat} {o : Mem} {t : Nat} {a2 : Int} {u0_17 : Int} {M66 : Mem} {u0_88 : Int} {H : Heap} {locs : List Loc} {ls : Array Slot} (C : Cx E p s m args meth c cX8_take 5 RX8 none n "take") (hn : nfull n) (o_t : ob n t 8) (hf : fn_X8_take_J88 t a2 u0_17 M66 u0_88 = some o) (hH : ST E s n (zf n) M66 H locs) (hl : lv_has ls 5 [(0, .ref (eb E + t)), (2, i3 a2), (4, i3 u0_17)]) : W p l e { frames := 5, cells := 0, slots := 0, locals := 142 } s m args below meth c H locs 0 0 (MQ below (QC E none n (zf n) o) args s 0 0 (fr E)) (F0 m 88 ls [i3 u0_88, i3 u0_17, .ref (eb E + (t + 2))]) := by
  unfold fn_X8_take_J88 at hf
  refine r_iast C hH (ly (i := 1) (off := 2) (k := 12) hn o_t rfl rfl rfl) (lyn (i := 1) (off := 2) (N := 299) hn o_t rfl rfl rfl) hf dX8_take_88 (fun M88 H locs hf hH => ?_)
  refine lv_aload_n C.hx C.hb dX8_take_89 rfl (lv_at hl 0 rfl) ?_
  refine g_ref (off := 3) C hH o_t (by decide) rfl rfl FL_RX8_18 dX8_take_90 ?_
  refine lv_iload C.hx C.hb dX8_take_93 (lv_at hl 2 rfl) ?_
  refine lv_iload_n C.hx C.hb dX8_take_95 rfl (lv_at hl 1 rfl) ?_
  refine r_iast C hH (ly (i := 2) (off := 3) (k := 12) hn o_t rfl rfl rfl) (lyn (i := 2) (off := 3) (N := 299) hn o_t rfl rfl rfl) hf dX8_take_96 (fun M96 H locs hf hH => ?_)
  refine lv_aload_n C.hx C.hb dX8_take_97 rfl (lv_at hl 0 rfl) ?_
  refine g_ref (off := 4) C hH o_t (by decide) rfl rfl FL_RX8_21 dX8_take_98 ?_
  refine lv_iload C.hx C.hb dX8_take_101 (lv_at hl 2 rfl) ?_
  refine lv_iconst (v := Int32.ofInt 1) C.hx C.hb dX8_take_103 rfl ?_
  refine r_iast C hH (ly (i := 3) (off := 4) (k := 12) hn o_t rfl rfl rfl) (lyn (i := 3) (off := 4) (N := 299) hn o_t rfl rfl rfl) hf dX8_take_104 (fun M104 H locs hf hH => ?_)
  refine lv_aload_n C.hx C.hb dX8_take_105 rfl (lv_at hl 0 rfl) ?_
  refine lv_dup C.hx C.hb dX8_take_106 rfl ?_
  refine g_int C hH o_t (by decide) rfl FL_RX8_24 dX8_take_107 ?_
  refine lv_iconst (v := Int32.ofInt 1) C.hx C.hb dX8_take_110 rfl ?_
  refine w_iadd C dX8_take_111 ?_
  refine r_put C hH o_t (by decide) rfl FL_RX8_24 FW_8_4 hf dX8_take_112 (fun M112 H locs hf hH => ?_)
  cases hf
  exact w_vret C hH dX8_take_115
set_option maxRecDepth 100000 in
set_option maxHeartbeats 4000000 in
theorem j_X8_take_17 {p : Program} {l : Launch} {e : Env} {s : State} {m : MethodId} {args : Array Value} {below : List Frame} {meth : Method} {c : Code} {E : EE} {n : Nat} {o : Mem} {t : Nat} {a1 : Int} {a2 : Int} {a3 : Int} {M : Mem} {u0_17 : Int} {H : Heap} {locs : List Loc} {ls : Array Slot} (C : Cx E p s m args meth c cX8_take 5 RX8 none n "take") (hn : nfull n) (o_t : ob n t 8) (hf : fn_X8_take_J17 t a1 a2 a3 M u0_17 = some o) (hH : ST E s n (zf n) M H locs) (hl : lv_has ls 5 [(0, .ref (eb E + t)), (1, i3 a1), (2, i3 a2), (3, i3 a3)]) : W p l e { frames := 5, cells := 0, slots := 0, locals := 142 } s m args below meth c H locs 0 0 (MQ below (QC E none n (zf n) o) args s 0 0 (fr E)) (F0 m 17 ls [i3 u0_17]) := by
  unfold fn_X8_take_J17 at hf
  refine lv_istore (lv' := [(4, i3 u0_17), (0, .ref (eb E + t)), (1, i3 a1), (2, i3 a2), (3, i3 a3)]) C.hx C.hb dX8_take_17 hl (by decide) rfl (fun ls hl => ?_)
  refine lv_iload C.hx C.hb dX8_take_19 (lv_at hl 0 rfl) ?_
  refine w_lt0 (tgt := 32) C hf dX8_take_21 (by decide) (fun hf => ?_) (fun hf => ?_)
  · cases hf
    exact w_vret C hH dX8_take_32
  · refine lv_iload C.hx C.hb dX8_take_24 (lv_at hl 0 rfl) ?_
    refine lv_sipush (v := Int32.ofInt 300) C.hx C.hb dX8_take_26 (by decide) ?_
    refine w_lt (tgt := 33) C hf dX8_take_29 (by decide) (fun hf => ?_) (fun hf => ?_)
    · refine lv_iload_n C.hx C.hb dX8_take_33 rfl (lv_at hl 4 rfl) ?_
      refine w_eq0 (tgt := 56) C hf dX8_take_34 (by decide) (fun hf => ?_) (fun hf => ?_)
      · refine lv_aload_n C.hx C.hb dX8_take_56 rfl (lv_at hl 1 rfl) ?_
        refine g_ref (off := 1) C hH o_t (by decide) rfl rfl FL_RX8_9 dX8_take_57 ?_
        refine lv_iload C.hx C.hb dX8_take_60 (lv_at hl 0 rfl) ?_
        refine lv_iload_n C.hx C.hb dX8_take_62 rfl (lv_at hl 2 rfl) ?_
        obtain ⟨x63, hc9, hf⟩ := cu_of hf
        refine r_callSi (rest := [i3 u0_17, .ref (eb E + (t + 1))]) C hH hl (m_X8_kindOf hn hc9) ML_RX8_79 MF_X8_kindOf MS_X8_kindOf rfl rfl (Nat.le_of_ble_eq_true rfl) ⟨Nat.le_of_ble_eq_true rfl, Nat.le_of_ble_eq_true rfl⟩ ⟨Nat.le_refl _, Nat.le_refl _⟩ dX8_take_63 (fun H locs hH => ?_)
        refine r_iast C hH (ly (i := 0) (off := 1) (k := 12) hn o_t rfl rfl rfl) (lyn (i := 0) (off := 1) (N := 299) hn o_t rfl rfl rfl) hf dX8_take_66 (fun M66 H locs hf hH => ?_)
        refine lv_aload_n C.hx C.hb dX8_take_67 rfl (lv_at hl 1 rfl) ?_
        refine g_ref (off := 2) C hH o_t (by decide) rfl rfl FL_RX8_15 dX8_take_68 ?_
        refine lv_iload C.hx C.hb dX8_take_71 (lv_at hl 0 rfl) ?_
        refine lv_iload_n C.hx C.hb dX8_take_73 rfl (lv_at hl 2 rfl) ?_
        obtain ⟨x74, hc9, hf⟩ := cu_of hf
        refine r_callSi (rest := [i3 u0_17, .ref (eb E + (t + 2))]) C hH hl (m_X8_isDigit hn hc9) ML_RX8_72 MF_X8_isDigit MS_X8_isDigit rfl rfl (Nat.le_of_ble_eq_true rfl) ⟨Nat.le_of_ble_eq_true rfl, Nat.le_of_ble_eq_true rfl⟩ ⟨Nat.le_refl _, Nat.le_refl _⟩ dX8_take_74 (fun H locs hH => ?_)
        refine w_eq0 (tgt := 87) C hf dX8_take_77 (by decide) (fun hf => ?_) (fun hf => ?_)
        · refine lv_iconst (v := Int32.ofInt 0) C.hx C.hb dX8_take_87 rfl ?_
          exact j_X8_take_88 C hn o_t hf hH (lv_sub hl [1, 3, 0] rfl)
        · refine lv_iload_n C.hx C.hb dX8_take_80 rfl (lv_at hl 2 rfl) ?_
          refine lv_bipush (v := Int32.ofInt 48) C.hx C.hb dX8_take_81 (by decide) ?_
          refine w_isub C dX8_take_83 ?_
          refine lv_goto (tgt := 88) C.hx C.hb dX8_take_84 (by decide) ?_
          exact j_X8_take_88 C hn o_t hf hH (lv_sub hl [1, 3, 0] rfl)
      · refine lv_aload_n C.hx C.hb dX8_take_37 rfl (lv_at hl 1 rfl) ?_
        refine g_ref (off := 4) C hH o_t (by decide) rfl rfl FL_RX8_21 dX8_take_38 ?_
        refine lv_iload C.hx C.hb dX8_take_41 (lv_at hl 0 rfl) ?_
        refine lv_dup2_11 C.hx C.hb dX8_take_43 rfl rfl ?_
        refine r_iald C hH (ly (i := 3) (off := 4) (k := 12) hn o_t rfl rfl rfl) (lyn (i := 3) (off := 4) (N := 299) hn o_t rfl rfl rfl) hf dX8_take_44 (fun x44 hf => ?_)
        refine lv_iconst (v := Int32.ofInt 1) C.hx C.hb dX8_take_45 rfl ?_
        refine w_iadd C dX8_take_46 ?_
        refine r_iast C hH (ly (i := 3) (off := 4) (k := 12) hn o_t rfl rfl rfl) (lyn (i := 3) (off := 4) (N := 299) hn o_t rfl rfl rfl) hf dX8_take_47 (fun M47 H locs hf hH => ?_)
        refine lv_aload_n C.hx C.hb dX8_take_48 rfl (lv_at hl 1 rfl) ?_
        refine lv_iload C.hx C.hb dX8_take_49 (lv_at hl 0 rfl) ?_
        refine lv_iload_n C.hx C.hb dX8_take_51 rfl (lv_at hl 2 rfl) ?_
        obtain ⟨M52, hc9, hf⟩ := cv_of hf
        refine r_callVv (rest := []) C hH hl o_t (by decide) rfl (m_X8_lengthen hn o_t hc9) ML_RX8_75 MF_X8_lengthen MI_X8_lengthen rfl rfl (Nat.le_of_ble_eq_true rfl) ⟨Nat.le_of_ble_eq_true rfl, Nat.le_of_ble_eq_true rfl⟩ ⟨Nat.le_refl _, Nat.le_refl _⟩ dX8_take_52 (fun H locs hH => ?_)
        cases hf
        exact w_vret C hH dX8_take_55
    · cases hf
      exact w_vret C hH dX8_take_32
set_option maxRecDepth 100000 in
set_option maxHeartbeats 4000000 in
theorem m_X8_take {E : EE} {l : Launch} {n : Nat} {t : Nat} {a1 : Int} {a2 : Int} {a3 : Int} {M : Mem} {o : Mem} (hn : nfull n) (o_t : ob n t 8) (hf : fn_X8_take t a1 a2 a3 M = some o) : CT E l yX8_take cX8_take 5 none 5 142 0 0 [.ref (eb E + t), i3 a1, i3 a2, i3 a3] n (zf n) M none n (zf n) o := by
  refine CT_of PN_RX8 (Nat.le_of_ble_eq_true rfl) ?_
  intro p e s m args below meth c C hH ls hl
  replace C : Cx E p s m args meth c cX8_take 5 RX8 none n "take" := C
  have hl : lv_has ls 5 [(0, .ref (eb E + t)), (1, i3 a1), (2, i3 a2), (3, i3 a3)] := hl
  unfold fn_X8_take at hf
  refine lv_iload_n C.hx C.hb dX8_take_0 rfl (lv_at hl 3 rfl) ?_
  refine w_eq0 (tgt := 13) C hf dX8_take_1 (by decide) (fun hf => ?_) (fun hf => ?_)
  · refine lv_aload_n C.hx C.hb dX8_take_13 rfl (lv_at hl 0 rfl) ?_
    refine g_int C hH o_t (by decide) rfl FL_RX8_24 dX8_take_14 ?_
    exact j_X8_take_17 C hn o_t hf hH (lv_sub hl [0, 1, 2, 3] rfl)
  · refine lv_aload_n C.hx C.hb dX8_take_4 rfl (lv_at hl 0 rfl) ?_
    refine g_int C hH o_t (by decide) rfl FL_RX8_24 dX8_take_5 ?_
    refine lv_iconst (v := Int32.ofInt 1) C.hx C.hb dX8_take_8 rfl ?_
    refine w_isub C dX8_take_9 ?_
    refine lv_goto (tgt := 17) C.hx C.hb dX8_take_10 (by decide) ?_
    exact j_X8_take_17 C hn o_t hf hH (lv_sub hl [0, 1, 2, 3] rfl)
-- HeavierByHand$Tokens.spells
def fn_X8_spells_L26 (t : Nat) (r1 : Nat) (a2 : Int) (w3 : Nat) (M : Mem) (rec26 : Int → Option Int) (v4_26 : Int) : Option Int :=
  cLt v4_26 (sln w3) (rd M (t + 3) 300 a2 fun x41 => cu (fn_X6_byteAt r1 (x41 + v4_26) M) fun x45 => ck ((0 : Int) ≤ v4_26 ∧ v4_26 < sln w3) <| cEq x45 (sch w3 v4_26) (nm (v4_26 + 1) fun v4_59 => rec26 v4_59) (some 0)) (some 1)
def fn_X8_spells (t : Nat) (r1 : Nat) (a2 : Int) (w3 : Nat) (M : Mem) : Option Int :=
  cu (fn_X8_isToken t a2 M) fun x2 => cEq x2 0 (some 0) (rd M (t + 4) 300 a2 fun x13 => cEq x13 (sln w3) (lq1 (fn_X8_spells_L26 t r1 a2 w3 M) FU 0) (some 0))
set_option maxRecDepth 100000 in
set_option maxHeartbeats 4000000 in
theorem l_X8_spells_26 {p : Program} {l : Launch} {e : Env} {s : State} {m : MethodId} {args : Array Value} {below : List Frame} {meth : Method} {c : Code} {E : EE} {n : Nat} {o : Int} {t : Nat} {r1 : Nat} {a2 : Int} {w3 : Nat} {M : Mem} (C : Cx E p s m args meth c cX8_spells 5 RX8 (some .boolean) n "spells") (hn : nfull n) (o_t : ob n t 8) (o_r1 : ob n r1 6) (o_w3 : w3 < 16) : ∀ (k : Nat) (v4_26 : Int) (H : Heap) (locs : List Loc) (ls : Array Slot), lq1 (fn_X8_spells_L26 t r1 a2 w3 M) k v4_26 = some o → ST E s n (zf n) M H locs → lv_has ls 5 [(0, .ref (eb E + t)), (1, .ref (eb E + r1)), (2, i3 a2), (3, .ref (eK E w3)), (4, i3 v4_26)] → W p l e { frames := 4, cells := 0, slots := 0, locals := 120 } s m args below meth c H locs 0 0 (MQ below (QC E (some (i3 o)) n (zf n) M) args s 0 0 (fr E)) (F0 m 26 ls []) := by
  intro k
  induction k with
  | zero => intro v4_26 H locs ls hf; cases hf
  | succ k ih =>
    intro v4_26 H locs ls hf hH hl
    have h_rec26 : ∀ {v4_26 : Int} {H : Heap} {locs : List Loc} {ls : Array Slot}, lq1 (fn_X8_spells_L26 t r1 a2 w3 M) k v4_26 = some o → ST E s n (zf n) M H locs → lv_has ls 5 [(0, .ref (eb E + t)), (1, .ref (eb E + r1)), (2, i3 a2), (3, .ref (eK E w3)), (4, i3 v4_26)] → W p l e { frames := 4, cells := 0, slots := 0, locals := 120 } s m args below meth c H locs 0 0 (MQ below (QC E (some (i3 o)) n (zf n) M) args s 0 0 (fr E)) (F0 m 26 ls []) := fun {v4_26} {H} {locs} {ls} a b c => ih v4_26 H locs ls a b c
    replace hf : fn_X8_spells_L26 t r1 a2 w3 M (lq1 (fn_X8_spells_L26 t r1 a2 w3 M) k) v4_26 = some o := hf
    generalize lq1 (fn_X8_spells_L26 t r1 a2 w3 M) k = rec26 at hf h_rec26
    unfold fn_X8_spells_L26 at hf
    refine lv_iload C.hx C.hb dX8_spells_26 (lv_at hl 4 rfl) ?_
    refine lv_aload_n C.hx C.hb dX8_spells_28 rfl (lv_at hl 3 rfl) ?_
    refine r_slen (rest := [i3 v4_26]) C hH hl o_w3 ML_RX8_130 ⟨Nat.le_of_ble_eq_true rfl, Nat.le_of_ble_eq_true rfl⟩ ⟨Nat.le_refl _, Nat.le_refl _⟩ (Nat.le_of_ble_eq_true rfl) dX8_spells_29 (fun H locs hH => ?_)
    refine w_ge (tgt := 65) C hf dX8_spells_32 (by decide) (fun hf => ?_) (fun hf => ?_)
    · refine lv_iconst (v := Int32.ofInt 1) C.hx C.hb dX8_spells_65 rfl ?_
      cases hf
      exact w_zret C hH (Or.inr rfl) dX8_spells_66
    · refine lv_aload_n C.hx C.hb dX8_spells_35 rfl (lv_at hl 1 rfl) ?_
      refine lv_aload_n C.hx C.hb dX8_spells_36 rfl (lv_at hl 0 rfl) ?_
      refine g_ref (off := 3) C hH o_t (by decide) rfl rfl FL_RX8_18 dX8_spells_37 ?_
      refine lv_iload_n C.hx C.hb dX8_spells_40 rfl (lv_at hl 2 rfl) ?_
      refine r_iald C hH (ly (i := 2) (off := 3) (k := 12) hn o_t rfl rfl rfl) (lyn (i := 2) (off := 3) (N := 299) hn o_t rfl rfl rfl) hf dX8_spells_41 (fun x41 hf => ?_)
      refine lv_iload C.hx C.hb dX8_spells_42 (lv_at hl 4 rfl) ?_
      refine w_iadd C dX8_spells_44 ?_
      obtain ⟨x45, hc9, hf⟩ := cu_of hf
      refine r_callVi (rest := []) C hH hl o_r1 (by decide) rfl (m_X6_byteAt hn o_r1 hc9) ML_RX8_34 MF_X6_byteAt MI_X6_byteAt rfl rfl (Nat.le_of_ble_eq_true rfl) ⟨Nat.le_of_ble_eq_true rfl, Nat.le_of_ble_eq_true rfl⟩ ⟨Nat.le_refl _, Nat.le_refl _⟩ dX8_spells_45 (fun H locs hH => ?_)
      refine lv_aload_n C.hx C.hb dX8_spells_48 rfl (lv_at hl 3 rfl) ?_
      refine lv_iload C.hx C.hb dX8_spells_49 (lv_at hl 4 rfl) ?_
      obtain ⟨hR8, hf⟩ := ck_of hf
      refine r_schr (rest := [i3 x45]) C hH hl o_w3 hR8 ML_RX8_135 ⟨Nat.le_of_ble_eq_true rfl, Nat.le_of_ble_eq_true rfl⟩ ⟨Nat.le_refl _, Nat.le_refl _⟩ (Nat.le_of_ble_eq_true rfl) dX8_spells_51 (fun H locs hH => ?_)
      refine w_eq (tgt := 59) C hf dX8_spells_54 (by decide) (fun hf => ?_) (fun hf => ?_)
      · refine r_iinc (k := 4) (lv' := fun v => [(4, i3 v), (0, .ref (eb E + t)), (1, .ref (eb E + r1)), (2, i3 a2), (3, .ref (eK E w3))]) C hf dX8_spells_59 hl rfl (by decide) (fun _ => rfl) (fun v4_59 ls hf hl => ?_)
        refine lv_goto (tgt := 26) C.hx C.hb dX8_spells_62 (by decide) ?_
        exact h_rec26 hf hH (lv_sub hl [1, 2, 3, 4, 0] rfl)
      · refine lv_iconst (v := Int32.ofInt 0) C.hx C.hb dX8_spells_57 rfl ?_
        cases hf
        exact w_zret C hH (Or.inl rfl) dX8_spells_58
set_option maxRecDepth 100000 in
set_option maxHeartbeats 4000000 in
theorem m_X8_spells {E : EE} {l : Launch} {n : Nat} {t : Nat} {r1 : Nat} {a2 : Int} {w3 : Nat} {M : Mem} {o : Int} (hn : nfull n) (o_t : ob n t 8) (o_r1 : ob n r1 6) (o_w3 : w3 < 16) (hf : fn_X8_spells t r1 a2 w3 M = some o) : CT E l yX8_spells cX8_spells 5 (some .boolean) 4 120 0 0 [.ref (eb E + t), .ref (eb E + r1), i3 a2, .ref (eK E w3)] n (zf n) M (some (i3 o)) n (zf n) M := by
  refine CT_of PN_RX8 (Nat.le_of_ble_eq_true rfl) ?_
  intro p e s m args below meth c C hH ls hl
  replace C : Cx E p s m args meth c cX8_spells 5 RX8 (some .boolean) n "spells" := C
  have hl : lv_has ls 5 [(0, .ref (eb E + t)), (1, .ref (eb E + r1)), (2, i3 a2), (3, .ref (eK E w3))] := hl
  unfold fn_X8_spells at hf
  refine lv_aload_n C.hx C.hb dX8_spells_0 rfl (lv_at hl 0 rfl) ?_
  refine lv_iload_n C.hx C.hb dX8_spells_1 rfl (lv_at hl 2 rfl) ?_
  obtain ⟨x2, hc9, hf⟩ := cu_of hf
  refine r_callVi (rest := []) C hH hl o_t (by decide) rfl (m_X8_isToken hn o_t hc9) ML_RX8_82 MF_X8_isToken MI_X8_isToken rfl rfl (Nat.le_of_ble_eq_true rfl) ⟨Nat.le_of_ble_eq_true rfl, Nat.le_of_ble_eq_true rfl⟩ ⟨Nat.le_refl _, Nat.le_refl _⟩ dX8_spells_2 (fun H locs hH => ?_)
  refine w_eq0 (tgt := 21) C hf dX8_spells_5 (by decide) (fun hf => ?_) (fun hf => ?_)
  · refine lv_iconst (v := Int32.ofInt 0) C.hx C.hb dX8_spells_21 rfl ?_
    cases hf
    exact w_zret C hH (Or.inl rfl) dX8_spells_22
  · refine lv_aload_n C.hx C.hb dX8_spells_8 rfl (lv_at hl 0 rfl) ?_
    refine g_ref (off := 4) C hH o_t (by decide) rfl rfl FL_RX8_21 dX8_spells_9 ?_
    refine lv_iload_n C.hx C.hb dX8_spells_12 rfl (lv_at hl 2 rfl) ?_
    refine r_iald C hH (ly (i := 3) (off := 4) (k := 12) hn o_t rfl rfl rfl) (lyn (i := 3) (off := 4) (N := 299) hn o_t rfl rfl rfl) hf dX8_spells_13 (fun x13 hf => ?_)
    refine lv_aload_n C.hx C.hb dX8_spells_14 rfl (lv_at hl 3 rfl) ?_
    refine r_slen (rest := [i3 x13]) C hH hl o_w3 ML_RX8_130 ⟨Nat.le_of_ble_eq_true rfl, Nat.le_of_ble_eq_true rfl⟩ ⟨Nat.le_refl _, Nat.le_refl _⟩ (Nat.le_of_ble_eq_true rfl) dX8_spells_15 (fun H locs hH => ?_)
    refine w_eq (tgt := 23) C hf dX8_spells_18 (by decide) (fun hf => ?_) (fun hf => ?_)
    · refine lv_iconst (v := Int32.ofInt 0) C.hx C.hb dX8_spells_23 rfl ?_
      refine lv_istore (lv' := [(4, i3 0), (0, .ref (eb E + t)), (1, .ref (eb E + r1)), (2, i3 a2), (3, .ref (eK E w3))]) C.hx C.hb dX8_spells_24 hl (by decide) rfl (fun ls hl => ?_)
      exact l_X8_spells_26 C hn o_t o_r1 o_w3 FU _ _ _ _ hf hH (lv_sub hl [1, 2, 3, 4, 0] rfl)
    · refine lv_iconst (v := Int32.ofInt 0) C.hx C.hb dX8_spells_21 rfl ?_
      cases hf
      exact w_zret C hH (Or.inl rfl) dX8_spells_22
-- HeavierByHand$Tokens.nameKind
def fn_X8_nameKind (t : Nat) (r1 : Nat) (a2 : Int) (M : Mem) : Option Int :=
  cu (fn_X8_spells t r1 a2 9 M) fun x5 => cEq x5 0 (cu (fn_X8_spells t r1 a2 10 M) fun x19 => cEq x19 0 (cu (fn_X8_spells t r1 a2 11 M) fun x33 => cEq x33 0 (cu (fn_X8_spells t r1 a2 12 M) fun x47 => cEq x47 0 (cu (fn_X8_spells t r1 a2 13 M) fun x61 => cEq x61 0 (cu (fn_X8_spells t r1 a2 14 M) fun x75 => cEq x75 0 (cu (fn_X8_spells t r1 a2 15 M) fun x89 => cEq x89 0 (some 1) (some 19)) (some 18)) (some 17)) (some 16)) (some 15)) (some 14)) (some 13)
set_option maxRecDepth 100000 in
set_option maxHeartbeats 4000000 in
theorem m_X8_nameKind {E : EE} {l : Launch} {n : Nat} {t : Nat} {r1 : Nat} {a2 : Int} {M : Mem} {o : Int} (hn : nfull n) (o_t : ob n t 8) (o_r1 : ob n r1 6) (hf : fn_X8_nameKind t r1 a2 M = some o) : CT E l yX8_nameKind cX8_nameKind 3 (some .int) 5 144 0 0 [.ref (eb E + t), .ref (eb E + r1), i3 a2] n (zf n) M (some (i3 o)) n (zf n) M := by
  refine CT_of PN_RX8 (Nat.le_of_ble_eq_true rfl) ?_
  intro p e s m args below meth c C hH ls hl
  replace C : Cx E p s m args meth c cX8_nameKind 3 RX8 (some .int) n "nameKind" := C
  have hl : lv_has ls 3 [(0, .ref (eb E + t)), (1, .ref (eb E + r1)), (2, i3 a2)] := hl
  unfold fn_X8_nameKind at hf
  refine lv_aload_n C.hx C.hb dX8_nameKind_0 rfl (lv_at hl 0 rfl) ?_
  refine lv_aload_n C.hx C.hb dX8_nameKind_1 rfl (lv_at hl 1 rfl) ?_
  refine lv_iload_n C.hx C.hb dX8_nameKind_2 rfl (lv_at hl 2 rfl) ?_
  refine r_ldcS (j := 9) C (by decide) dX8_nameKind_3 ?_
  obtain ⟨x5, hc9, hf⟩ := cu_of hf
  refine r_callVi (rest := []) C hH hl o_t (by decide) rfl (m_X8_spells hn o_t o_r1 (by decide) hc9) ML_RX8_93 MF_X8_spells MI_X8_spells rfl rfl (Nat.le_of_ble_eq_true rfl) ⟨Nat.le_of_ble_eq_true rfl, Nat.le_of_ble_eq_true rfl⟩ ⟨Nat.le_refl _, Nat.le_refl _⟩ dX8_nameKind_5 (fun H locs hH => ?_)
  refine w_eq0 (tgt := 14) C hf dX8_nameKind_8 (by decide) (fun hf => ?_) (fun hf => ?_)
  · refine lv_aload_n C.hx C.hb dX8_nameKind_14 rfl (lv_at hl 0 rfl) ?_
    refine lv_aload_n C.hx C.hb dX8_nameKind_15 rfl (lv_at hl 1 rfl) ?_
    refine lv_iload_n C.hx C.hb dX8_nameKind_16 rfl (lv_at hl 2 rfl) ?_
    refine r_ldcS (j := 10) C (by decide) dX8_nameKind_17 ?_
    obtain ⟨x19, hc9, hf⟩ := cu_of hf
    refine r_callVi (rest := []) C hH hl o_t (by decide) rfl (m_X8_spells hn o_t o_r1 (by decide) hc9) ML_RX8_93 MF_X8_spells MI_X8_spells rfl rfl (Nat.le_of_ble_eq_true rfl) ⟨Nat.le_of_ble_eq_true rfl, Nat.le_of_ble_eq_true rfl⟩ ⟨Nat.le_refl _, Nat.le_refl _⟩ dX8_nameKind_19 (fun H locs hH => ?_)
    refine w_eq0 (tgt := 28) C hf dX8_nameKind_22 (by decide) (fun hf => ?_) (fun hf => ?_)
    · refine lv_aload_n C.hx C.hb dX8_nameKind_28 rfl (lv_at hl 0 rfl) ?_
      refine lv_aload_n C.hx C.hb dX8_nameKind_29 rfl (lv_at hl 1 rfl) ?_
      refine lv_iload_n C.hx C.hb dX8_nameKind_30 rfl (lv_at hl 2 rfl) ?_
      refine r_ldcS (j := 11) C (by decide) dX8_nameKind_31 ?_
      obtain ⟨x33, hc9, hf⟩ := cu_of hf
      refine r_callVi (rest := []) C hH hl o_t (by decide) rfl (m_X8_spells hn o_t o_r1 (by decide) hc9) ML_RX8_93 MF_X8_spells MI_X8_spells rfl rfl (Nat.le_of_ble_eq_true rfl) ⟨Nat.le_of_ble_eq_true rfl, Nat.le_of_ble_eq_true rfl⟩ ⟨Nat.le_refl _, Nat.le_refl _⟩ dX8_nameKind_33 (fun H locs hH => ?_)
      refine w_eq0 (tgt := 42) C hf dX8_nameKind_36 (by decide) (fun hf => ?_) (fun hf => ?_)
      · refine lv_aload_n C.hx C.hb dX8_nameKind_42 rfl (lv_at hl 0 rfl) ?_
        refine lv_aload_n C.hx C.hb dX8_nameKind_43 rfl (lv_at hl 1 rfl) ?_
        refine lv_iload_n C.hx C.hb dX8_nameKind_44 rfl (lv_at hl 2 rfl) ?_
        refine r_ldcS (j := 12) C (by decide) dX8_nameKind_45 ?_
        obtain ⟨x47, hc9, hf⟩ := cu_of hf
        refine r_callVi (rest := []) C hH hl o_t (by decide) rfl (m_X8_spells hn o_t o_r1 (by decide) hc9) ML_RX8_93 MF_X8_spells MI_X8_spells rfl rfl (Nat.le_of_ble_eq_true rfl) ⟨Nat.le_of_ble_eq_true rfl, Nat.le_of_ble_eq_true rfl⟩ ⟨Nat.le_refl _, Nat.le_refl _⟩ dX8_nameKind_47 (fun H locs hH => ?_)
        refine w_eq0 (tgt := 56) C hf dX8_nameKind_50 (by decide) (fun hf => ?_) (fun hf => ?_)
        · refine lv_aload_n C.hx C.hb dX8_nameKind_56 rfl (lv_at hl 0 rfl) ?_
          refine lv_aload_n C.hx C.hb dX8_nameKind_57 rfl (lv_at hl 1 rfl) ?_
          refine lv_iload_n C.hx C.hb dX8_nameKind_58 rfl (lv_at hl 2 rfl) ?_
          refine r_ldcS (j := 13) C (by decide) dX8_nameKind_59 ?_
          obtain ⟨x61, hc9, hf⟩ := cu_of hf
          refine r_callVi (rest := []) C hH hl o_t (by decide) rfl (m_X8_spells hn o_t o_r1 (by decide) hc9) ML_RX8_93 MF_X8_spells MI_X8_spells rfl rfl (Nat.le_of_ble_eq_true rfl) ⟨Nat.le_of_ble_eq_true rfl, Nat.le_of_ble_eq_true rfl⟩ ⟨Nat.le_refl _, Nat.le_refl _⟩ dX8_nameKind_61 (fun H locs hH => ?_)
          refine w_eq0 (tgt := 70) C hf dX8_nameKind_64 (by decide) (fun hf => ?_) (fun hf => ?_)
          · refine lv_aload_n C.hx C.hb dX8_nameKind_70 rfl (lv_at hl 0 rfl) ?_
            refine lv_aload_n C.hx C.hb dX8_nameKind_71 rfl (lv_at hl 1 rfl) ?_
            refine lv_iload_n C.hx C.hb dX8_nameKind_72 rfl (lv_at hl 2 rfl) ?_
            refine r_ldcS (j := 14) C (by decide) dX8_nameKind_73 ?_
            obtain ⟨x75, hc9, hf⟩ := cu_of hf
            refine r_callVi (rest := []) C hH hl o_t (by decide) rfl (m_X8_spells hn o_t o_r1 (by decide) hc9) ML_RX8_93 MF_X8_spells MI_X8_spells rfl rfl (Nat.le_of_ble_eq_true rfl) ⟨Nat.le_of_ble_eq_true rfl, Nat.le_of_ble_eq_true rfl⟩ ⟨Nat.le_refl _, Nat.le_refl _⟩ dX8_nameKind_75 (fun H locs hH => ?_)
            refine w_eq0 (tgt := 84) C hf dX8_nameKind_78 (by decide) (fun hf => ?_) (fun hf => ?_)
            · refine lv_aload_n C.hx C.hb dX8_nameKind_84 rfl (lv_at hl 0 rfl) ?_
              refine lv_aload_n C.hx C.hb dX8_nameKind_85 rfl (lv_at hl 1 rfl) ?_
              refine lv_iload_n C.hx C.hb dX8_nameKind_86 rfl (lv_at hl 2 rfl) ?_
              refine r_ldcS (j := 15) C (by decide) dX8_nameKind_87 ?_
              obtain ⟨x89, hc9, hf⟩ := cu_of hf
              refine r_callVi (rest := []) C hH hl o_t (by decide) rfl (m_X8_spells hn o_t o_r1 (by decide) hc9) ML_RX8_93 MF_X8_spells MI_X8_spells rfl rfl (Nat.le_of_ble_eq_true rfl) ⟨Nat.le_of_ble_eq_true rfl, Nat.le_of_ble_eq_true rfl⟩ ⟨Nat.le_refl _, Nat.le_refl _⟩ dX8_nameKind_89 (fun H locs hH => ?_)
              refine w_eq0 (tgt := 98) C hf dX8_nameKind_92 (by decide) (fun hf => ?_) (fun hf => ?_)
              · refine lv_iconst (v := Int32.ofInt 1) C.hx C.hb dX8_nameKind_98 rfl ?_
                cases hf
                exact w_iret C hH dX8_nameKind_99
              · refine lv_bipush (v := Int32.ofInt 19) C.hx C.hb dX8_nameKind_95 (by decide) ?_
                cases hf
                exact w_iret C hH dX8_nameKind_97
            · refine lv_bipush (v := Int32.ofInt 18) C.hx C.hb dX8_nameKind_81 (by decide) ?_
              cases hf
              exact w_iret C hH dX8_nameKind_83
          · refine lv_bipush (v := Int32.ofInt 17) C.hx C.hb dX8_nameKind_67 (by decide) ?_
            cases hf
            exact w_iret C hH dX8_nameKind_69
        · refine lv_bipush (v := Int32.ofInt 16) C.hx C.hb dX8_nameKind_53 (by decide) ?_
          cases hf
          exact w_iret C hH dX8_nameKind_55
      · refine lv_bipush (v := Int32.ofInt 15) C.hx C.hb dX8_nameKind_39 (by decide) ?_
        cases hf
        exact w_iret C hH dX8_nameKind_41
    · refine lv_bipush (v := Int32.ofInt 14) C.hx C.hb dX8_nameKind_25 (by decide) ?_
      cases hf
      exact w_iret C hH dX8_nameKind_27
  · refine lv_bipush (v := Int32.ofInt 13) C.hx C.hb dX8_nameKind_11 (by decide) ?_
    cases hf
    exact w_iret C hH dX8_nameKind_13
-- HeavierByHand$Tokens.wordKind
def fn_X8_wordKind (t : Nat) (r1 : Nat) (a2 : Int) (M : Mem) : Option Int :=
  cu (fn_X8_spells t r1 a2 0 M) fun x5 => cEq x5 0 (cu (fn_X8_spells t r1 a2 1 M) fun x18 => cEq x18 0 (cu (fn_X8_spells t r1 a2 2 M) fun x31 => cEq x31 0 (cu (fn_X8_spells t r1 a2 3 M) fun x45 => cEq x45 0 (cu (fn_X8_spells t r1 a2 4 M) fun x59 => cEq x59 0 (cu (fn_X8_spells t r1 a2 5 M) fun x73 => cEq x73 0 (cu (fn_X8_spells t r1 a2 6 M) fun x87 => cEq x87 0 (cu (fn_X8_spells t r1 a2 7 M) fun x101 => cEq x101 0 (cu (fn_X8_spells t r1 a2 8 M) fun x115 => cEq x115 0 (cu (fn_X8_nameKind t r1 a2 M) fun x127 => some x127) (some 12)) (some 11)) (some 10)) (some 9)) (some 8)) (some 7)) (some 6)) (some 5)) (some 4)
set_option maxRecDepth 100000 in
set_option maxHeartbeats 4000000 in
theorem m_X8_wordKind {E : EE} {l : Launch} {n : Nat} {t : Nat} {r1 : Nat} {a2 : Int} {M : Mem} {o : Int} (hn : nfull n) (o_t : ob n t 8) (o_r1 : ob n r1 6) (hf : fn_X8_wordKind t r1 a2 M = some o) : CT E l yX8_wordKind cX8_wordKind 3 (some .int) 6 166 0 0 [.ref (eb E + t), .ref (eb E + r1), i3 a2] n (zf n) M (some (i3 o)) n (zf n) M := by
  refine CT_of PN_RX8 (Nat.le_of_ble_eq_true rfl) ?_
  intro p e s m args below meth c C hH ls hl
  replace C : Cx E p s m args meth c cX8_wordKind 3 RX8 (some .int) n "wordKind" := C
  have hl : lv_has ls 3 [(0, .ref (eb E + t)), (1, .ref (eb E + r1)), (2, i3 a2)] := hl
  unfold fn_X8_wordKind at hf
  refine lv_aload_n C.hx C.hb dX8_wordKind_0 rfl (lv_at hl 0 rfl) ?_
  refine lv_aload_n C.hx C.hb dX8_wordKind_1 rfl (lv_at hl 1 rfl) ?_
  refine lv_iload_n C.hx C.hb dX8_wordKind_2 rfl (lv_at hl 2 rfl) ?_
  refine r_ldcS (j := 0) C (by decide) dX8_wordKind_3 ?_
  obtain ⟨x5, hc9, hf⟩ := cu_of hf
  refine r_callVi (rest := []) C hH hl o_t (by decide) rfl (m_X8_spells hn o_t o_r1 (by decide) hc9) ML_RX8_93 MF_X8_spells MI_X8_spells rfl rfl (Nat.le_of_ble_eq_true rfl) ⟨Nat.le_of_ble_eq_true rfl, Nat.le_of_ble_eq_true rfl⟩ ⟨Nat.le_refl _, Nat.le_refl _⟩ dX8_wordKind_5 (fun H locs hH => ?_)
  refine w_eq0 (tgt := 13) C hf dX8_wordKind_8 (by decide) (fun hf => ?_) (fun hf => ?_)
  · refine lv_aload_n C.hx C.hb dX8_wordKind_13 rfl (lv_at hl 0 rfl) ?_
    refine lv_aload_n C.hx C.hb dX8_wordKind_14 rfl (lv_at hl 1 rfl) ?_
    refine lv_iload_n C.hx C.hb dX8_wordKind_15 rfl (lv_at hl 2 rfl) ?_
    refine r_ldcS (j := 1) C (by decide) dX8_wordKind_16 ?_
    obtain ⟨x18, hc9, hf⟩ := cu_of hf
    refine r_callVi (rest := []) C hH hl o_t (by decide) rfl (m_X8_spells hn o_t o_r1 (by decide) hc9) ML_RX8_93 MF_X8_spells MI_X8_spells rfl rfl (Nat.le_of_ble_eq_true rfl) ⟨Nat.le_of_ble_eq_true rfl, Nat.le_of_ble_eq_true rfl⟩ ⟨Nat.le_refl _, Nat.le_refl _⟩ dX8_wordKind_18 (fun H locs hH => ?_)
    refine w_eq0 (tgt := 26) C hf dX8_wordKind_21 (by decide) (fun hf => ?_) (fun hf => ?_)
    · refine lv_aload_n C.hx C.hb dX8_wordKind_26 rfl (lv_at hl 0 rfl) ?_
      refine lv_aload_n C.hx C.hb dX8_wordKind_27 rfl (lv_at hl 1 rfl) ?_
      refine lv_iload_n C.hx C.hb dX8_wordKind_28 rfl (lv_at hl 2 rfl) ?_
      refine r_ldcS (j := 2) C (by decide) dX8_wordKind_29 ?_
      obtain ⟨x31, hc9, hf⟩ := cu_of hf
      refine r_callVi (rest := []) C hH hl o_t (by decide) rfl (m_X8_spells hn o_t o_r1 (by decide) hc9) ML_RX8_93 MF_X8_spells MI_X8_spells rfl rfl (Nat.le_of_ble_eq_true rfl) ⟨Nat.le_of_ble_eq_true rfl, Nat.le_of_ble_eq_true rfl⟩ ⟨Nat.le_refl _, Nat.le_refl _⟩ dX8_wordKind_31 (fun H locs hH => ?_)
      refine w_eq0 (tgt := 40) C hf dX8_wordKind_34 (by decide) (fun hf => ?_) (fun hf => ?_)
      · refine lv_aload_n C.hx C.hb dX8_wordKind_40 rfl (lv_at hl 0 rfl) ?_
        refine lv_aload_n C.hx C.hb dX8_wordKind_41 rfl (lv_at hl 1 rfl) ?_
        refine lv_iload_n C.hx C.hb dX8_wordKind_42 rfl (lv_at hl 2 rfl) ?_
        refine r_ldcS (j := 3) C (by decide) dX8_wordKind_43 ?_
        obtain ⟨x45, hc9, hf⟩ := cu_of hf
        refine r_callVi (rest := []) C hH hl o_t (by decide) rfl (m_X8_spells hn o_t o_r1 (by decide) hc9) ML_RX8_93 MF_X8_spells MI_X8_spells rfl rfl (Nat.le_of_ble_eq_true rfl) ⟨Nat.le_of_ble_eq_true rfl, Nat.le_of_ble_eq_true rfl⟩ ⟨Nat.le_refl _, Nat.le_refl _⟩ dX8_wordKind_45 (fun H locs hH => ?_)
        refine w_eq0 (tgt := 54) C hf dX8_wordKind_48 (by decide) (fun hf => ?_) (fun hf => ?_)
        · refine lv_aload_n C.hx C.hb dX8_wordKind_54 rfl (lv_at hl 0 rfl) ?_
          refine lv_aload_n C.hx C.hb dX8_wordKind_55 rfl (lv_at hl 1 rfl) ?_
          refine lv_iload_n C.hx C.hb dX8_wordKind_56 rfl (lv_at hl 2 rfl) ?_
          refine r_ldcS (j := 4) C (by decide) dX8_wordKind_57 ?_
          obtain ⟨x59, hc9, hf⟩ := cu_of hf
          refine r_callVi (rest := []) C hH hl o_t (by decide) rfl (m_X8_spells hn o_t o_r1 (by decide) hc9) ML_RX8_93 MF_X8_spells MI_X8_spells rfl rfl (Nat.le_of_ble_eq_true rfl) ⟨Nat.le_of_ble_eq_true rfl, Nat.le_of_ble_eq_true rfl⟩ ⟨Nat.le_refl _, Nat.le_refl _⟩ dX8_wordKind_59 (fun H locs hH => ?_)
          refine w_eq0 (tgt := 68) C hf dX8_wordKind_62 (by decide) (fun hf => ?_) (fun hf => ?_)
          · refine lv_aload_n C.hx C.hb dX8_wordKind_68 rfl (lv_at hl 0 rfl) ?_
            refine lv_aload_n C.hx C.hb dX8_wordKind_69 rfl (lv_at hl 1 rfl) ?_
            refine lv_iload_n C.hx C.hb dX8_wordKind_70 rfl (lv_at hl 2 rfl) ?_
            refine r_ldcS (j := 5) C (by decide) dX8_wordKind_71 ?_
            obtain ⟨x73, hc9, hf⟩ := cu_of hf
            refine r_callVi (rest := []) C hH hl o_t (by decide) rfl (m_X8_spells hn o_t o_r1 (by decide) hc9) ML_RX8_93 MF_X8_spells MI_X8_spells rfl rfl (Nat.le_of_ble_eq_true rfl) ⟨Nat.le_of_ble_eq_true rfl, Nat.le_of_ble_eq_true rfl⟩ ⟨Nat.le_refl _, Nat.le_refl _⟩ dX8_wordKind_73 (fun H locs hH => ?_)
            refine w_eq0 (tgt := 82) C hf dX8_wordKind_76 (by decide) (fun hf => ?_) (fun hf => ?_)
            · refine lv_aload_n C.hx C.hb dX8_wordKind_82 rfl (lv_at hl 0 rfl) ?_
              refine lv_aload_n C.hx C.hb dX8_wordKind_83 rfl (lv_at hl 1 rfl) ?_
              refine lv_iload_n C.hx C.hb dX8_wordKind_84 rfl (lv_at hl 2 rfl) ?_
              refine r_ldcS (j := 6) C (by decide) dX8_wordKind_85 ?_
              obtain ⟨x87, hc9, hf⟩ := cu_of hf
              refine r_callVi (rest := []) C hH hl o_t (by decide) rfl (m_X8_spells hn o_t o_r1 (by decide) hc9) ML_RX8_93 MF_X8_spells MI_X8_spells rfl rfl (Nat.le_of_ble_eq_true rfl) ⟨Nat.le_of_ble_eq_true rfl, Nat.le_of_ble_eq_true rfl⟩ ⟨Nat.le_refl _, Nat.le_refl _⟩ dX8_wordKind_87 (fun H locs hH => ?_)
              refine w_eq0 (tgt := 96) C hf dX8_wordKind_90 (by decide) (fun hf => ?_) (fun hf => ?_)
              · refine lv_aload_n C.hx C.hb dX8_wordKind_96 rfl (lv_at hl 0 rfl) ?_
                refine lv_aload_n C.hx C.hb dX8_wordKind_97 rfl (lv_at hl 1 rfl) ?_
                refine lv_iload_n C.hx C.hb dX8_wordKind_98 rfl (lv_at hl 2 rfl) ?_
                refine r_ldcS (j := 7) C (by decide) dX8_wordKind_99 ?_
                obtain ⟨x101, hc9, hf⟩ := cu_of hf
                refine r_callVi (rest := []) C hH hl o_t (by decide) rfl (m_X8_spells hn o_t o_r1 (by decide) hc9) ML_RX8_93 MF_X8_spells MI_X8_spells rfl rfl (Nat.le_of_ble_eq_true rfl) ⟨Nat.le_of_ble_eq_true rfl, Nat.le_of_ble_eq_true rfl⟩ ⟨Nat.le_refl _, Nat.le_refl _⟩ dX8_wordKind_101 (fun H locs hH => ?_)
                refine w_eq0 (tgt := 110) C hf dX8_wordKind_104 (by decide) (fun hf => ?_) (fun hf => ?_)
                · refine lv_aload_n C.hx C.hb dX8_wordKind_110 rfl (lv_at hl 0 rfl) ?_
                  refine lv_aload_n C.hx C.hb dX8_wordKind_111 rfl (lv_at hl 1 rfl) ?_
                  refine lv_iload_n C.hx C.hb dX8_wordKind_112 rfl (lv_at hl 2 rfl) ?_
                  refine r_ldcS (j := 8) C (by decide) dX8_wordKind_113 ?_
                  obtain ⟨x115, hc9, hf⟩ := cu_of hf
                  refine r_callVi (rest := []) C hH hl o_t (by decide) rfl (m_X8_spells hn o_t o_r1 (by decide) hc9) ML_RX8_93 MF_X8_spells MI_X8_spells rfl rfl (Nat.le_of_ble_eq_true rfl) ⟨Nat.le_of_ble_eq_true rfl, Nat.le_of_ble_eq_true rfl⟩ ⟨Nat.le_refl _, Nat.le_refl _⟩ dX8_wordKind_115 (fun H locs hH => ?_)
                  refine w_eq0 (tgt := 124) C hf dX8_wordKind_118 (by decide) (fun hf => ?_) (fun hf => ?_)
                  · refine lv_aload_n C.hx C.hb dX8_wordKind_124 rfl (lv_at hl 0 rfl) ?_
                    refine lv_aload_n C.hx C.hb dX8_wordKind_125 rfl (lv_at hl 1 rfl) ?_
                    refine lv_iload_n C.hx C.hb dX8_wordKind_126 rfl (lv_at hl 2 rfl) ?_
                    obtain ⟨x127, hc9, hf⟩ := cu_of hf
                    refine r_callVi (rest := []) C hH hl o_t (by decide) rfl (m_X8_nameKind hn o_t o_r1 hc9) ML_RX8_113 MF_X8_nameKind MI_X8_nameKind rfl rfl (Nat.le_of_ble_eq_true rfl) ⟨Nat.le_of_ble_eq_true rfl, Nat.le_of_ble_eq_true rfl⟩ ⟨Nat.le_refl _, Nat.le_refl _⟩ dX8_wordKind_127 (fun H locs hH => ?_)
                    cases hf
                    exact w_iret C hH dX8_wordKind_130
                  · refine lv_bipush (v := Int32.ofInt 12) C.hx C.hb dX8_wordKind_121 (by decide) ?_
                    cases hf
                    exact w_iret C hH dX8_wordKind_123
                · refine lv_bipush (v := Int32.ofInt 11) C.hx C.hb dX8_wordKind_107 (by decide) ?_
                  cases hf
                  exact w_iret C hH dX8_wordKind_109
              · refine lv_bipush (v := Int32.ofInt 10) C.hx C.hb dX8_wordKind_93 (by decide) ?_
                cases hf
                exact w_iret C hH dX8_wordKind_95
            · refine lv_bipush (v := Int32.ofInt 9) C.hx C.hb dX8_wordKind_79 (by decide) ?_
              cases hf
              exact w_iret C hH dX8_wordKind_81
          · refine lv_bipush (v := Int32.ofInt 8) C.hx C.hb dX8_wordKind_65 (by decide) ?_
            cases hf
            exact w_iret C hH dX8_wordKind_67
        · refine lv_bipush (v := Int32.ofInt 7) C.hx C.hb dX8_wordKind_51 (by decide) ?_
          cases hf
          exact w_iret C hH dX8_wordKind_53
      · refine lv_bipush (v := Int32.ofInt 6) C.hx C.hb dX8_wordKind_37 (by decide) ?_
        cases hf
        exact w_iret C hH dX8_wordKind_39
    · refine lv_iconst (v := Int32.ofInt 5) C.hx C.hb dX8_wordKind_24 rfl ?_
      cases hf
      exact w_iret C hH dX8_wordKind_25
  · refine lv_iconst (v := Int32.ofInt 4) C.hx C.hb dX8_wordKind_11 rfl ?_
    cases hf
    exact w_iret C hH dX8_wordKind_12
-- HeavierByHand$Tokens.next
def fn_X8_next_J107 (t : Nat) (M83 : Mem) (u0_107 : Int) : Option Mem :=
  st M83 t 9 u0_107 fun M107 => some M107
def fn_X8_next_J83 (t : Nat) (u0_43 : Int) (M62 : Mem) (u0_83 : Int) : Option Mem :=
  st M62 t 8 u0_83 fun M83 => cEq u0_43 0 (fn_X8_next_J107 t M83 (M83 t 6)) (rd M83 (t + 3) 300 (M83 t 5) fun x99 => fn_X8_next_J107 t M83 x99)
def fn_X8_next_J62 (t : Nat) (M7 : Mem) (u0_43 : Int) (u0_62 : Int) : Option Mem :=
  st M7 t 7 u0_62 fun M62 => cEq u0_43 0 (fn_X8_next_J83 t u0_43 M62 0) (rd M62 (t + 2) 300 (M62 t 5) fun x78 => fn_X8_next_J83 t u0_43 M62 x78)
def fn_X8_next_J43 (t : Nat) (M7 : Mem) (u0_43 : Int) : Option Mem :=
  cEq u0_43 0 (fn_X8_next_J62 t M7 u0_43 0) (rd M7 (t + 1) 300 (M7 t 5) fun x57 => fn_X8_next_J62 t M7 u0_43 x57)
def fn_X8_next_J42 (t : Nat) (M7 : Mem) : Option Mem :=
  fn_X8_next_J43 t M7 0
def fn_X8_next (t : Nat) (M : Mem) : Option Mem :=
  st M t 5 ((M t 5) + 1) fun M7 => cLt (M7 t 5) 0 (fn_X8_next_J42 t M7) (cLt (M7 t 5) (M7 t 4) (cLt (M7 t 5) 300 (fn_X8_next_J43 t M7 1) (fn_X8_next_J42 t M7)) (fn_X8_next_J42 t M7))
set_option maxRecDepth 100000 in
set_option maxHeartbeats 4000000 in
theorem j_X8_next_107 {p : Program} {l : Launch} {e : Env} {s : State} {m : MethodId} {args : Array Value} {below : List Frame} {meth : Method} {c : Code} {E : EE} {n : Nat} {o : Mem} {t : Nat} {M83 : Mem} {u0_107 : Int} {H : Heap} {locs : List Loc} {ls : Array Slot} (C : Cx E p s m args meth c cX8_next 2 RX8 none n "next") (hn : nfull n) (o_t : ob n t 8) (hf : fn_X8_next_J107 t M83 u0_107 = some o) (hH : ST E s n (zf n) M83 H locs) (hl : lv_has ls 2 []) : W p l e { frames := 0, cells := 0, slots := 0, locals := 0 } s m args below meth c H locs 0 0 (MQ below (QC E none n (zf n) o) args s 0 0 (fr E)) (F0 m 107 ls [i3 u0_107, .ref (eb E + t)]) := by
  unfold fn_X8_next_J107 at hf
  refine r_put C hH o_t (by decide) rfl FL_RX8_66 FW_8_9 hf dX8_next_107 (fun M107 H locs hf hH => ?_)
  cases hf
  exact w_vret C hH dX8_next_110
set_option maxRecDepth 100000 in
set_option maxHeartbeats 4000000 in
theorem j_X8_next_83 {p : Program} {l : Launch} {e : Env} {s : State} {m : MethodId} {args : Array Value} {below : List Frame} {meth : Method} {c : Code} {E : EE} {n : Nat} {o : Mem} {t : Nat} {u0_43 : Int} {M62 : Mem} {u0_83 : Int} {H : Heap} {locs : List Loc} {ls : Array Slot} (C : Cx E p s m args meth c cX8_next 2 RX8 none n "next") (hn : nfull n) (o_t : ob n t 8) (hf : fn_X8_next_J83 t u0_43 M62 u0_83 = some o) (hH : ST E s n (zf n) M62 H locs) (hl : lv_has ls 2 [(0, .ref (eb E + t)), (1, i3 u0_43)]) : W p l e { frames := 0, cells := 0, slots := 0, locals := 0 } s m args below meth c H locs 0 0 (MQ below (QC E none n (zf n) o) args s 0 0 (fr E)) (F0 m 83 ls [i3 u0_83, .ref (eb E + t)]) := by
  unfold fn_X8_next_J83 at hf
  refine r_put C hH o_t (by decide) rfl FL_RX8_63 FW_8_8 hf dX8_next_83 (fun M83 H locs hf hH => ?_)
  refine lv_aload_n C.hx C.hb dX8_next_86 rfl (lv_at hl 0 rfl) ?_
  refine lv_iload_n C.hx C.hb dX8_next_87 rfl (lv_at hl 1 rfl) ?_
  refine w_eq0 (tgt := 103) C hf dX8_next_88 (by decide) (fun hf => ?_) (fun hf => ?_)
  · refine lv_aload_n C.hx C.hb dX8_next_103 rfl (lv_at hl 0 rfl) ?_
    refine g_int C hH o_t (by decide) rfl FL_RX8_33 dX8_next_104 ?_
    exact j_X8_next_107 C hn o_t hf hH (lv_sub hl [] rfl)
  · refine lv_aload_n C.hx C.hb dX8_next_91 rfl (lv_at hl 0 rfl) ?_
    refine g_ref (off := 3) C hH o_t (by decide) rfl rfl FL_RX8_18 dX8_next_92 ?_
    refine lv_aload_n C.hx C.hb dX8_next_95 rfl (lv_at hl 0 rfl) ?_
    refine g_int C hH o_t (by decide) rfl FL_RX8_54 dX8_next_96 ?_
    refine r_iald C hH (ly (i := 2) (off := 3) (k := 12) hn o_t rfl rfl rfl) (lyn (i := 2) (off := 3) (N := 299) hn o_t rfl rfl rfl) hf dX8_next_99 (fun x99 hf => ?_)
    refine lv_goto (tgt := 107) C.hx C.hb dX8_next_100 (by decide) ?_
    exact j_X8_next_107 C hn o_t hf hH (lv_sub hl [] rfl)
set_option maxRecDepth 100000 in
set_option maxHeartbeats 4000000 in
theorem j_X8_next_62 {p : Program} {l : Launch} {e : Env} {s : State} {m : MethodId} {args : Array Value} {below : List Frame} {meth : Method} {c : Code} {E : EE} {n : Nat} {o : Mem} {t : Nat} {M7 : Mem} {u0_43 : Int} {u0_62 : Int} {H : Heap} {locs : List Loc} {ls : Array Slot} (C : Cx E p s m args meth c cX8_next 2 RX8 none n "next") (hn : nfull n) (o_t : ob n t 8) (hf : fn_X8_next_J62 t M7 u0_43 u0_62 = some o) (hH : ST E s n (zf n) M7 H locs) (hl : lv_has ls 2 [(0, .ref (eb E + t)), (1, i3 u0_43)]) : W p l e { frames := 0, cells := 0, slots := 0, locals := 0 } s m args below meth c H locs 0 0 (MQ below (QC E none n (zf n) o) args s 0 0 (fr E)) (F0 m 62 ls [i3 u0_62, .ref (eb E + t)]) := by
  unfold fn_X8_next_J62 at hf
  refine r_put C hH o_t (by decide) rfl FL_RX8_60 FW_8_7 hf dX8_next_62 (fun M62 H locs hf hH => ?_)
  refine lv_aload_n C.hx C.hb dX8_next_65 rfl (lv_at hl 0 rfl) ?_
  refine lv_iload_n C.hx C.hb dX8_next_66 rfl (lv_at hl 1 rfl) ?_
  refine w_eq0 (tgt := 82) C hf dX8_next_67 (by decide) (fun hf => ?_) (fun hf => ?_)
  · refine lv_iconst (v := Int32.ofInt 0) C.hx C.hb dX8_next_82 rfl ?_
    exact j_X8_next_83 C hn o_t hf hH (lv_sub hl [0, 1] rfl)
  · refine lv_aload_n C.hx C.hb dX8_next_70 rfl (lv_at hl 0 rfl) ?_
    refine g_ref (off := 2) C hH o_t (by decide) rfl rfl FL_RX8_15 dX8_next_71 ?_
    refine lv_aload_n C.hx C.hb dX8_next_74 rfl (lv_at hl 0 rfl) ?_
    refine g_int C hH o_t (by decide) rfl FL_RX8_54 dX8_next_75 ?_
    refine r_iald C hH (ly (i := 1) (off := 2) (k := 12) hn o_t rfl rfl rfl) (lyn (i := 1) (off := 2) (N := 299) hn o_t rfl rfl rfl) hf dX8_next_78 (fun x78 hf => ?_)
    refine lv_goto (tgt := 83) C.hx C.hb dX8_next_79 (by decide) ?_
    exact j_X8_next_83 C hn o_t hf hH (lv_sub hl [0, 1] rfl)
set_option maxRecDepth 100000 in
set_option maxHeartbeats 4000000 in
theorem j_X8_next_43 {p : Program} {l : Launch} {e : Env} {s : State} {m : MethodId} {args : Array Value} {below : List Frame} {meth : Method} {c : Code} {E : EE} {n : Nat} {o : Mem} {t : Nat} {M7 : Mem} {u0_43 : Int} {H : Heap} {locs : List Loc} {ls : Array Slot} (C : Cx E p s m args meth c cX8_next 2 RX8 none n "next") (hn : nfull n) (o_t : ob n t 8) (hf : fn_X8_next_J43 t M7 u0_43 = some o) (hH : ST E s n (zf n) M7 H locs) (hl : lv_has ls 2 [(0, .ref (eb E + t))]) : W p l e { frames := 0, cells := 0, slots := 0, locals := 0 } s m args below meth c H locs 0 0 (MQ below (QC E none n (zf n) o) args s 0 0 (fr E)) (F0 m 43 ls [i3 u0_43]) := by
  unfold fn_X8_next_J43 at hf
  refine lv_istore_n (lv' := [(1, i3 u0_43), (0, .ref (eb E + t))]) C.hx C.hb dX8_next_43 rfl hl (by decide) rfl (fun ls hl => ?_)
  refine lv_aload_n C.hx C.hb dX8_next_44 rfl (lv_at hl 1 rfl) ?_
  refine lv_iload_n C.hx C.hb dX8_next_45 rfl (lv_at hl 0 rfl) ?_
  refine w_eq0 (tgt := 61) C hf dX8_next_46 (by decide) (fun hf => ?_) (fun hf => ?_)
  · refine lv_iconst (v := Int32.ofInt 0) C.hx C.hb dX8_next_61 rfl ?_
    exact j_X8_next_62 C hn o_t hf hH (lv_sub hl [1, 0] rfl)
  · refine lv_aload_n C.hx C.hb dX8_next_49 rfl (lv_at hl 1 rfl) ?_
    refine g_ref (off := 1) C hH o_t (by decide) rfl rfl FL_RX8_9 dX8_next_50 ?_
    refine lv_aload_n C.hx C.hb dX8_next_53 rfl (lv_at hl 1 rfl) ?_
    refine g_int C hH o_t (by decide) rfl FL_RX8_54 dX8_next_54 ?_
    refine r_iald C hH (ly (i := 0) (off := 1) (k := 12) hn o_t rfl rfl rfl) (lyn (i := 0) (off := 1) (N := 299) hn o_t rfl rfl rfl) hf dX8_next_57 (fun x57 hf => ?_)
    refine lv_goto (tgt := 62) C.hx C.hb dX8_next_58 (by decide) ?_
    exact j_X8_next_62 C hn o_t hf hH (lv_sub hl [1, 0] rfl)
set_option maxRecDepth 100000 in
set_option maxHeartbeats 4000000 in
theorem j_X8_next_42 {p : Program} {l : Launch} {e : Env} {s : State} {m : MethodId} {args : Array Value} {below : List Frame} {meth : Method} {c : Code} {E : EE} {n : Nat} {o : Mem} {t : Nat} {M7 : Mem} {H : Heap} {locs : List Loc} {ls : Array Slot} (C : Cx E p s m args meth c cX8_next 2 RX8 none n "next") (hn : nfull n) (o_t : ob n t 8) (hf : fn_X8_next_J42 t M7 = some o) (hH : ST E s n (zf n) M7 H locs) (hl : lv_has ls 2 [(0, .ref (eb E + t))]) : W p l e { frames := 0, cells := 0, slots := 0, locals := 0 } s m args below meth c H locs 0 0 (MQ below (QC E none n (zf n) o) args s 0 0 (fr E)) (F0 m 42 ls []) := by
  unfold fn_X8_next_J42 at hf
  refine lv_iconst (v := Int32.ofInt 0) C.hx C.hb dX8_next_42 rfl ?_
  exact j_X8_next_43 C hn o_t hf hH (lv_sub hl [0] rfl)
set_option maxRecDepth 100000 in
set_option maxHeartbeats 4000000 in
theorem m_X8_next {E : EE} {l : Launch} {n : Nat} {t : Nat} {M : Mem} {o : Mem} (hn : nfull n) (o_t : ob n t 8) (hf : fn_X8_next t M = some o) : CT E l yX8_next cX8_next 2 none 0 0 0 0 [.ref (eb E + t)] n (zf n) M none n (zf n) o := by
  refine CT_of PN_RX8 (Nat.le_of_ble_eq_true rfl) ?_
  intro p e s m args below meth c C hH ls hl
  replace C : Cx E p s m args meth c cX8_next 2 RX8 none n "next" := C
  have hl : lv_has ls 2 [(0, .ref (eb E + t))] := hl
  unfold fn_X8_next at hf
  refine lv_aload_n C.hx C.hb dX8_next_0 rfl (lv_at hl 0 rfl) ?_
  refine lv_dup C.hx C.hb dX8_next_1 rfl ?_
  refine g_int C hH o_t (by decide) rfl FL_RX8_54 dX8_next_2 ?_
  refine lv_iconst (v := Int32.ofInt 1) C.hx C.hb dX8_next_5 rfl ?_
  refine w_iadd C dX8_next_6 ?_
  refine r_put C hH o_t (by decide) rfl FL_RX8_54 FW_8_5 hf dX8_next_7 (fun M7 H locs hf hH => ?_)
  refine lv_aload_n C.hx C.hb dX8_next_10 rfl (lv_at hl 0 rfl) ?_
  refine g_int C hH o_t (by decide) rfl FL_RX8_54 dX8_next_11 ?_
  refine w_lt0 (tgt := 42) C hf dX8_next_14 (by decide) (fun hf => ?_) (fun hf => ?_)
  · exact j_X8_next_42 C hn o_t hf hH (lv_sub hl [0] rfl)
  · refine lv_aload_n C.hx C.hb dX8_next_17 rfl (lv_at hl 0 rfl) ?_
    refine g_int C hH o_t (by decide) rfl FL_RX8_54 dX8_next_18 ?_
    refine lv_aload_n C.hx C.hb dX8_next_21 rfl (lv_at hl 0 rfl) ?_
    refine g_int C hH o_t (by decide) rfl FL_RX8_24 dX8_next_22 ?_
    refine w_ge (tgt := 42) C hf dX8_next_25 (by decide) (fun hf => ?_) (fun hf => ?_)
    · exact j_X8_next_42 C hn o_t hf hH (lv_sub hl [0] rfl)
    · refine lv_aload_n C.hx C.hb dX8_next_28 rfl (lv_at hl 0 rfl) ?_
      refine g_int C hH o_t (by decide) rfl FL_RX8_54 dX8_next_29 ?_
      refine lv_sipush (v := Int32.ofInt 300) C.hx C.hb dX8_next_32 (by decide) ?_
      refine w_ge (tgt := 42) C hf dX8_next_35 (by decide) (fun hf => ?_) (fun hf => ?_)
      · exact j_X8_next_42 C hn o_t hf hH (lv_sub hl [0] rfl)
      · refine lv_iconst (v := Int32.ofInt 1) C.hx C.hb dX8_next_38 rfl ?_
        refine lv_goto (tgt := 43) C.hx C.hb dX8_next_39 (by decide) ?_
        exact j_X8_next_43 C hn o_t hf hH (lv_sub hl [0] rfl)
-- HeavierByHand$Tokens.cut
def fn_X8_cut_J111 (t : Nat) (M111 : Mem) : Option Mem :=
  st M111 t 5 (-1) fun M113 => cv (fn_X8_next t M113) fun M117 => some M117
def fn_X8_cut_J105 (v2_68 : Int) (rec68 : Int → Mem → Option Mem) (M105 : Mem) : Option Mem :=
  nm (v2_68 + 1) fun v2_105 => rec68 v2_105 M105
def fn_X8_cut_L68 (t : Nat) (r1 : Nat) (rec68 : Int → Mem → Option Mem) (v2_68 : Int) (M68 : Mem) : Option Mem :=
  cLt v2_68 (M68 t 4) (cLt v2_68 300 (rd M68 (t + 1) 300 v2_68 fun x88 => cEq x88 3 (cu (fn_X8_wordKind t r1 v2_68 M68) fun x101 => wr M68 (t + 1) 300 v2_68 x101 fun M104 => fn_X8_cut_J105 v2_68 rec68 M104) (fn_X8_cut_J105 v2_68 rec68 M68)) (fn_X8_cut_J111 t M68)) (fn_X8_cut_J111 t M68)
def fn_X8_cut_J66 (t : Nat) (r1 : Nat) (M66 : Mem) : Option Mem :=
  lq2 (fn_X8_cut_L68 t r1) FU 0 M66
def fn_X8_cut_J60 (v2_15 : Int) (rec15 : Int → Mem → Option Mem) (M60 : Mem) : Option Mem :=
  nm (v2_15 + 1) fun v2_60 => rec15 v2_60 M60
def fn_X8_cut_L15 (t : Nat) (r1 : Nat) (rec15 : Int → Mem → Option Mem) (v2_15 : Int) (M15 : Mem) : Option Mem :=
  cLt v2_15 (M15 t 6) (cLt v2_15 300 (cu (fn_X6_byteAt r1 v2_15 M15) fun x32 => cu (fn_X8_isBlank x32 M15) fun x37 => cEq x37 0 (cu (fn_X6_byteAt r1 (v2_15 - 1) M15) fun x50 => cu (fn_X8_joins x50 x32 M15) fun x54 => cv (fn_X8_take t x32 v2_15 x54 M15) fun M57 => fn_X8_cut_J60 v2_15 rec15 M57) (fn_X8_cut_J60 v2_15 rec15 M15)) (fn_X8_cut_J66 t r1 M15)) (fn_X8_cut_J66 t r1 M15)
def fn_X8_cut (t : Nat) (r1 : Nat) (M : Mem) : Option Mem :=
  st M t 4 0 fun M2 => st M2 t 6 (M2 r1 1) fun M10 => lq2 (fn_X8_cut_L15 t r1) FU 0 M10
set_option maxRecDepth 100000 in
set_option maxHeartbeats 4000000 in
theorem j_X8_cut_111 {p : Program} {l : Launch} {e : Env} {s : State} {m : MethodId} {args : Array Value} {below : List Frame} {meth : Method} {c : Code} {E : EE} {n : Nat} {o : Mem} {t : Nat} {M111 : Mem} {H : Heap} {locs : List Loc} {ls : Array Slot} (C : Cx E p s m args meth c cX8_cut 4 RX8 none n "cut") (hn : nfull n) (o_t : ob n t 8) (hf : fn_X8_cut_J111 t M111 = some o) (hH : ST E s n (zf n) M111 H locs) (hl : lv_has ls 4 [(0, .ref (eb E + t))]) : W p l e { frames := 7, cells := 0, slots := 0, locals := 188 } s m args below meth c H locs 0 0 (MQ below (QC E none n (zf n) o) args s 0 0 (fr E)) (F0 m 111 ls []) := by
  unfold fn_X8_cut_J111 at hf
  refine lv_aload_n C.hx C.hb dX8_cut_111 rfl (lv_at hl 0 rfl) ?_
  refine lv_iconst (v := Int32.ofInt (-1)) C.hx C.hb dX8_cut_112 rfl ?_
  refine r_put C hH o_t (by decide) rfl FL_RX8_54 FW_8_5 hf dX8_cut_113 (fun M113 H locs hf hH => ?_)
  refine lv_aload_n C.hx C.hb dX8_cut_116 rfl (lv_at hl 0 rfl) ?_
  obtain ⟨M117, hc9, hf⟩ := cv_of hf
  refine r_callVv (rest := []) C hH hl o_t (by decide) rfl (m_X8_next hn o_t hc9) ML_RX8_57 MF_X8_next MI_X8_next rfl rfl (Nat.le_of_ble_eq_true rfl) ⟨Nat.le_of_ble_eq_true rfl, Nat.le_of_ble_eq_true rfl⟩ ⟨Nat.le_refl _, Nat.le_refl _⟩ dX8_cut_117 (fun H locs hH => ?_)
  cases hf
  exact w_vret C hH dX8_cut_120
set_option maxRecDepth 100000 in
set_option maxHeartbeats 4000000 in
theorem j_X8_cut_105 {p : Program} {l : Launch} {e : Env} {s : State} {m : MethodId} {args : Array Value} {below : List Frame} {meth : Method} {c : Code} {E : EE} {n : Nat} {o : Mem} {t : Nat} {r1 : Nat} {v2_68 : Int} {rec68 : Int → Mem → Option Mem} {M105 : Mem} {H : Heap} {locs : List Loc} {ls : Array Slot} (C : Cx E p s m args meth c cX8_cut 4 RX8 none n "cut") (hn : nfull n) (o_t : ob n t 8) (o_r1 : ob n r1 6) (h_rec68 : ∀ {v2_68 : Int} {M68 : Mem} {H : Heap} {locs : List Loc} {ls : Array Slot}, rec68 v2_68 M68 = some o → ST E s n (zf n) M68 H locs → lv_has ls 4 [(0, .ref (eb E + t)), (1, .ref (eb E + r1)), (2, i3 v2_68)] → W p l e { frames := 7, cells := 0, slots := 0, locals := 188 } s m args below meth c H locs 0 0 (MQ below (QC E none n (zf n) o) args s 0 0 (fr E)) (F0 m 68 ls [])) (hf : fn_X8_cut_J105 v2_68 rec68 M105 = some o) (hH : ST E s n (zf n) M105 H locs) (hl : lv_has ls 4 [(0, .ref (eb E + t)), (1, .ref (eb E + r1)), (2, i3 v2_68)]) : W p l e { frames := 7, cells := 0, slots := 0, locals := 188 } s m args below meth c H locs 0 0 (MQ below (QC E none n (zf n) o) args s 0 0 (fr E)) (F0 m 105 ls []) := by
  unfold fn_X8_cut_J105 at hf
  refine r_iinc (k := 2) (lv' := fun v => [(2, i3 v), (0, .ref (eb E + t)), (1, .ref (eb E + r1))]) C hf dX8_cut_105 hl rfl (by decide) (fun _ => rfl) (fun v2_105 ls hf hl => ?_)
  refine lv_goto (tgt := 68) C.hx C.hb dX8_cut_108 (by decide) ?_
  exact h_rec68 hf hH (lv_sub hl [1, 2, 0] rfl)
set_option maxRecDepth 100000 in
set_option maxHeartbeats 4000000 in
theorem l_X8_cut_68 {p : Program} {l : Launch} {e : Env} {s : State} {m : MethodId} {args : Array Value} {below : List Frame} {meth : Method} {c : Code} {E : EE} {n : Nat} {o : Mem} {t : Nat} {r1 : Nat} (C : Cx E p s m args meth c cX8_cut 4 RX8 none n "cut") (hn : nfull n) (o_t : ob n t 8) (o_r1 : ob n r1 6) : ∀ (k : Nat) (v2_68 : Int) (M68 : Mem) (H : Heap) (locs : List Loc) (ls : Array Slot), lq2 (fn_X8_cut_L68 t r1) k v2_68 M68 = some o → ST E s n (zf n) M68 H locs → lv_has ls 4 [(0, .ref (eb E + t)), (1, .ref (eb E + r1)), (2, i3 v2_68)] → W p l e { frames := 7, cells := 0, slots := 0, locals := 188 } s m args below meth c H locs 0 0 (MQ below (QC E none n (zf n) o) args s 0 0 (fr E)) (F0 m 68 ls []) := by
  intro k
  induction k with
  | zero => intro v2_68 M68 H locs ls hf; cases hf
  | succ k ih =>
    intro v2_68 M68 H locs ls hf hH hl
    have h_rec68 : ∀ {v2_68 : Int} {M68 : Mem} {H : Heap} {locs : List Loc} {ls : Array Slot}, lq2 (fn_X8_cut_L68 t r1) k v2_68 M68 = some o → ST E s n (zf n) M68 H locs → lv_has ls 4 [(0, .ref (eb E + t)), (1, .ref (eb E + r1)), (2, i3 v2_68)] → W p l e { frames := 7, cells := 0, slots := 0, locals := 188 } s m args below meth c H locs 0 0 (MQ below (QC E none n (zf n) o) args s 0 0 (fr E)) (F0 m 68 ls []) := fun {v2_68} {M68} {H} {locs} {ls} a b c => ih v2_68 M68 H locs ls a b c
    replace hf : fn_X8_cut_L68 t r1 (lq2 (fn_X8_cut_L68 t r1) k) v2_68 M68 = some o := hf
    generalize lq2 (fn_X8_cut_L68 t r1) k = rec68 at hf h_rec68
    unfold fn_X8_cut_L68 at hf
    refine lv_iload_n C.hx C.hb dX8_cut_68 rfl (lv_at hl 2 rfl) ?_
    refine lv_aload_n C.hx C.hb dX8_cut_69 rfl (lv_at hl 0 rfl) ?_
    refine g_int C hH o_t (by decide) rfl FL_RX8_24 dX8_cut_70 ?_
    refine w_ge (tgt := 111) C hf dX8_cut_73 (by decide) (fun hf => ?_) (fun hf => ?_)
    · exact j_X8_cut_111 C hn o_t hf hH (lv_sub hl [0] rfl)
    · refine lv_iload_n C.hx C.hb dX8_cut_76 rfl (lv_at hl 2 rfl) ?_
      refine lv_sipush (v := Int32.ofInt 300) C.hx C.hb dX8_cut_77 (by decide) ?_
      refine w_ge (tgt := 111) C hf dX8_cut_80 (by decide) (fun hf => ?_) (fun hf => ?_)
      · exact j_X8_cut_111 C hn o_t hf hH (lv_sub hl [0] rfl)
      · refine lv_aload_n C.hx C.hb dX8_cut_83 rfl (lv_at hl 0 rfl) ?_
        refine g_ref (off := 1) C hH o_t (by decide) rfl rfl FL_RX8_9 dX8_cut_84 ?_
        refine lv_iload_n C.hx C.hb dX8_cut_87 rfl (lv_at hl 2 rfl) ?_
        refine r_iald C hH (ly (i := 0) (off := 1) (k := 12) hn o_t rfl rfl rfl) (lyn (i := 0) (off := 1) (N := 299) hn o_t rfl rfl rfl) hf dX8_cut_88 (fun x88 hf => ?_)
        refine lv_iconst (v := Int32.ofInt 3) C.hx C.hb dX8_cut_89 rfl ?_
        refine w_ne (tgt := 105) C hf dX8_cut_90 (by decide) (fun hf => ?_) (fun hf => ?_)
        · exact j_X8_cut_105 C hn o_t o_r1 h_rec68 hf hH (lv_sub hl [0, 1, 2] rfl)
        · refine lv_aload_n C.hx C.hb dX8_cut_93 rfl (lv_at hl 0 rfl) ?_
          refine g_ref (off := 1) C hH o_t (by decide) rfl rfl FL_RX8_9 dX8_cut_94 ?_
          refine lv_iload_n C.hx C.hb dX8_cut_97 rfl (lv_at hl 2 rfl) ?_
          refine lv_aload_n C.hx C.hb dX8_cut_98 rfl (lv_at hl 0 rfl) ?_
          refine lv_aload_n C.hx C.hb dX8_cut_99 rfl (lv_at hl 1 rfl) ?_
          refine lv_iload_n C.hx C.hb dX8_cut_100 rfl (lv_at hl 2 rfl) ?_
          obtain ⟨x101, hc9, hf⟩ := cu_of hf
          refine r_callVi (rest := [i3 v2_68, .ref (eb E + (t + 1))]) C hH hl o_t (by decide) rfl (m_X8_wordKind hn o_t o_r1 hc9) ML_RX8_50 MF_X8_wordKind MI_X8_wordKind rfl rfl (Nat.le_of_ble_eq_true rfl) ⟨Nat.le_of_ble_eq_true rfl, Nat.le_of_ble_eq_true rfl⟩ ⟨Nat.le_refl _, Nat.le_refl _⟩ dX8_cut_101 (fun H locs hH => ?_)
          refine r_iast C hH (ly (i := 0) (off := 1) (k := 12) hn o_t rfl rfl rfl) (lyn (i := 0) (off := 1) (N := 299) hn o_t rfl rfl rfl) hf dX8_cut_104 (fun M104 H locs hf hH => ?_)
          exact j_X8_cut_105 C hn o_t o_r1 h_rec68 hf hH (lv_sub hl [0, 1, 2] rfl)
set_option maxRecDepth 100000 in
set_option maxHeartbeats 4000000 in
theorem j_X8_cut_66 {p : Program} {l : Launch} {e : Env} {s : State} {m : MethodId} {args : Array Value} {below : List Frame} {meth : Method} {c : Code} {E : EE} {n : Nat} {o : Mem} {t : Nat} {r1 : Nat} {M66 : Mem} {H : Heap} {locs : List Loc} {ls : Array Slot} (C : Cx E p s m args meth c cX8_cut 4 RX8 none n "cut") (hn : nfull n) (o_t : ob n t 8) (o_r1 : ob n r1 6) (hf : fn_X8_cut_J66 t r1 M66 = some o) (hH : ST E s n (zf n) M66 H locs) (hl : lv_has ls 4 [(0, .ref (eb E + t)), (1, .ref (eb E + r1))]) : W p l e { frames := 7, cells := 0, slots := 0, locals := 188 } s m args below meth c H locs 0 0 (MQ below (QC E none n (zf n) o) args s 0 0 (fr E)) (F0 m 66 ls []) := by
  unfold fn_X8_cut_J66 at hf
  refine lv_iconst (v := Int32.ofInt 0) C.hx C.hb dX8_cut_66 rfl ?_
  refine lv_istore_n (lv' := [(2, i3 0), (0, .ref (eb E + t)), (1, .ref (eb E + r1))]) C.hx C.hb dX8_cut_67 rfl hl (by decide) rfl (fun ls hl => ?_)
  exact l_X8_cut_68 C hn o_t o_r1 FU _ _ _ _ _ hf hH (lv_sub hl [1, 2, 0] rfl)
set_option maxRecDepth 100000 in
set_option maxHeartbeats 4000000 in
theorem j_X8_cut_60 {p : Program} {l : Launch} {e : Env} {s : State} {m : MethodId} {args : Array Value} {below : List Frame} {meth : Method} {c : Code} {E : EE} {n : Nat} {o : Mem} {t : Nat} {r1 : Nat} {v2_15 : Int} {rec15 : Int → Mem → Option Mem} {M60 : Mem} {H : Heap} {locs : List Loc} {ls : Array Slot} (C : Cx E p s m args meth c cX8_cut 4 RX8 none n "cut") (hn : nfull n) (o_t : ob n t 8) (o_r1 : ob n r1 6) (h_rec15 : ∀ {v2_15 : Int} {M15 : Mem} {H : Heap} {locs : List Loc} {ls : Array Slot}, rec15 v2_15 M15 = some o → ST E s n (zf n) M15 H locs → lv_has ls 4 [(0, .ref (eb E + t)), (1, .ref (eb E + r1)), (2, i3 v2_15)] → W p l e { frames := 7, cells := 0, slots := 0, locals := 188 } s m args below meth c H locs 0 0 (MQ below (QC E none n (zf n) o) args s 0 0 (fr E)) (F0 m 15 ls [])) (hf : fn_X8_cut_J60 v2_15 rec15 M60 = some o) (hH : ST E s n (zf n) M60 H locs) (hl : lv_has ls 4 [(0, .ref (eb E + t)), (1, .ref (eb E + r1)), (2, i3 v2_15)]) : W p l e { frames := 7, cells := 0, slots := 0, locals := 188 } s m args below meth c H locs 0 0 (MQ below (QC E none n (zf n) o) args s 0 0 (fr E)) (F0 m 60 ls []) := by
  unfold fn_X8_cut_J60 at hf
  refine r_iinc (k := 2) (lv' := fun v => [(2, i3 v), (0, .ref (eb E + t)), (1, .ref (eb E + r1))]) C hf dX8_cut_60 hl rfl (by decide) (fun _ => rfl) (fun v2_60 ls hf hl => ?_)
  refine lv_goto (tgt := 15) C.hx C.hb dX8_cut_63 (by decide) ?_
  exact h_rec15 hf hH (lv_sub hl [1, 2, 0] rfl)
set_option maxRecDepth 100000 in
set_option maxHeartbeats 4000000 in
theorem l_X8_cut_15 {p : Program} {l : Launch} {e : Env} {s : State} {m : MethodId} {args : Array Value} {below : List Frame} {meth : Method} {c : Code} {E : EE} {n : Nat} {o : Mem} {t : Nat} {r1 : Nat} (C : Cx E p s m args meth c cX8_cut 4 RX8 none n "cut") (hn : nfull n) (o_t : ob n t 8) (o_r1 : ob n r1 6) : ∀ (k : Nat) (v2_15 : Int) (M15 : Mem) (H : Heap) (locs : List Loc) (ls : Array Slot), lq2 (fn_X8_cut_L15 t r1) k v2_15 M15 = some o → ST E s n (zf n) M15 H locs → lv_has ls 4 [(0, .ref (eb E + t)), (1, .ref (eb E + r1)), (2, i3 v2_15)] → W p l e { frames := 7, cells := 0, slots := 0, locals := 188 } s m args below meth c H locs 0 0 (MQ below (QC E none n (zf n) o) args s 0 0 (fr E)) (F0 m 15 ls []) := by
  intro k
  induction k with
  | zero => intro v2_15 M15 H locs ls hf; cases hf
  | succ k ih =>
    intro v2_15 M15 H locs ls hf hH hl
    have h_rec15 : ∀ {v2_15 : Int} {M15 : Mem} {H : Heap} {locs : List Loc} {ls : Array Slot}, lq2 (fn_X8_cut_L15 t r1) k v2_15 M15 = some o → ST E s n (zf n) M15 H locs → lv_has ls 4 [(0, .ref (eb E + t)), (1, .ref (eb E + r1)), (2, i3 v2_15)] → W p l e { frames := 7, cells := 0, slots := 0, locals := 188 } s m args below meth c H locs 0 0 (MQ below (QC E none n (zf n) o) args s 0 0 (fr E)) (F0 m 15 ls []) := fun {v2_15} {M15} {H} {locs} {ls} a b c => ih v2_15 M15 H locs ls a b c
    replace hf : fn_X8_cut_L15 t r1 (lq2 (fn_X8_cut_L15 t r1) k) v2_15 M15 = some o := hf
    generalize lq2 (fn_X8_cut_L15 t r1) k = rec15 at hf h_rec15
    unfold fn_X8_cut_L15 at hf
    refine lv_iload_n C.hx C.hb dX8_cut_15 rfl (lv_at hl 2 rfl) ?_
    refine lv_aload_n C.hx C.hb dX8_cut_16 rfl (lv_at hl 0 rfl) ?_
    refine g_int C hH o_t (by decide) rfl FL_RX8_33 dX8_cut_17 ?_
    refine w_ge (tgt := 66) C hf dX8_cut_20 (by decide) (fun hf => ?_) (fun hf => ?_)
    · exact j_X8_cut_66 C hn o_t o_r1 hf hH (lv_sub hl [0, 1] rfl)
    · refine lv_iload_n C.hx C.hb dX8_cut_23 rfl (lv_at hl 2 rfl) ?_
      refine lv_sipush (v := Int32.ofInt 300) C.hx C.hb dX8_cut_24 (by decide) ?_
      refine w_ge (tgt := 66) C hf dX8_cut_27 (by decide) (fun hf => ?_) (fun hf => ?_)
      · exact j_X8_cut_66 C hn o_t o_r1 hf hH (lv_sub hl [0, 1] rfl)
      · refine lv_aload_n C.hx C.hb dX8_cut_30 rfl (lv_at hl 1 rfl) ?_
        refine lv_iload_n C.hx C.hb dX8_cut_31 rfl (lv_at hl 2 rfl) ?_
        obtain ⟨x32, hc9, hf⟩ := cu_of hf
        refine r_callVi (rest := []) C hH hl o_r1 (by decide) rfl (m_X6_byteAt hn o_r1 hc9) ML_RX8_34 MF_X6_byteAt MI_X6_byteAt rfl rfl (Nat.le_of_ble_eq_true rfl) ⟨Nat.le_of_ble_eq_true rfl, Nat.le_of_ble_eq_true rfl⟩ ⟨Nat.le_refl _, Nat.le_refl _⟩ dX8_cut_32 (fun H locs hH => ?_)
        refine lv_istore_n (lv' := [(3, i3 x32), (0, .ref (eb E + t)), (1, .ref (eb E + r1)), (2, i3 v2_15)]) C.hx C.hb dX8_cut_35 rfl hl (by decide) rfl (fun ls hl => ?_)
        refine lv_iload_n C.hx C.hb dX8_cut_36 rfl (lv_at hl 0 rfl) ?_
        obtain ⟨x37, hc9, hf⟩ := cu_of hf
        refine r_callSi (rest := []) C hH hl (m_X8_isBlank hn hc9) ML_RX8_38 MF_X8_isBlank MS_X8_isBlank rfl rfl (Nat.le_of_ble_eq_true rfl) ⟨Nat.le_of_ble_eq_true rfl, Nat.le_of_ble_eq_true rfl⟩ ⟨Nat.le_refl _, Nat.le_refl _⟩ dX8_cut_37 (fun H locs hH => ?_)
        refine w_ne0 (tgt := 60) C hf dX8_cut_40 (by decide) (fun hf => ?_) (fun hf => ?_)
        · exact j_X8_cut_60 C hn o_t o_r1 h_rec15 hf hH (lv_sub hl [1, 2, 3] rfl)
        · refine lv_aload_n C.hx C.hb dX8_cut_43 rfl (lv_at hl 1 rfl) ?_
          refine lv_iload_n C.hx C.hb dX8_cut_44 rfl (lv_at hl 0 rfl) ?_
          refine lv_iload_n C.hx C.hb dX8_cut_45 rfl (lv_at hl 3 rfl) ?_
          refine lv_aload_n C.hx C.hb dX8_cut_46 rfl (lv_at hl 2 rfl) ?_
          refine lv_iload_n C.hx C.hb dX8_cut_47 rfl (lv_at hl 3 rfl) ?_
          refine lv_iconst (v := Int32.ofInt 1) C.hx C.hb dX8_cut_48 rfl ?_
          refine w_isub C dX8_cut_49 ?_
          obtain ⟨x50, hc9, hf⟩ := cu_of hf
          refine r_callVi (rest := [i3 v2_15, i3 x32, .ref (eb E + t)]) C hH hl o_r1 (by decide) rfl (m_X6_byteAt hn o_r1 hc9) ML_RX8_34 MF_X6_byteAt MI_X6_byteAt rfl rfl (Nat.le_of_ble_eq_true rfl) ⟨Nat.le_of_ble_eq_true rfl, Nat.le_of_ble_eq_true rfl⟩ ⟨Nat.le_refl _, Nat.le_refl _⟩ dX8_cut_50 (fun H locs hH => ?_)
          refine lv_iload_n C.hx C.hb dX8_cut_53 rfl (lv_at hl 0 rfl) ?_
          obtain ⟨x54, hc9, hf⟩ := cu_of hf
          refine r_callSi (rest := [i3 v2_15, i3 x32, .ref (eb E + t)]) C hH hl (m_X8_joins hn hc9) ML_RX8_42 MF_X8_joins MS_X8_joins rfl rfl (Nat.le_of_ble_eq_true rfl) ⟨Nat.le_of_ble_eq_true rfl, Nat.le_of_ble_eq_true rfl⟩ ⟨Nat.le_refl _, Nat.le_refl _⟩ dX8_cut_54 (fun H locs hH => ?_)
          obtain ⟨M57, hc9, hf⟩ := cv_of hf
          refine r_callVv (rest := []) C hH hl o_t (by decide) rfl (m_X8_take hn o_t hc9) ML_RX8_46 MF_X8_take MI_X8_take rfl rfl (Nat.le_of_ble_eq_true rfl) ⟨Nat.le_of_ble_eq_true rfl, Nat.le_of_ble_eq_true rfl⟩ ⟨Nat.le_refl _, Nat.le_refl _⟩ dX8_cut_57 (fun H locs hH => ?_)
          exact j_X8_cut_60 C hn o_t o_r1 h_rec15 hf hH (lv_sub hl [1, 2, 3] rfl)
set_option maxRecDepth 100000 in
set_option maxHeartbeats 4000000 in
theorem m_X8_cut {E : EE} {l : Launch} {n : Nat} {t : Nat} {r1 : Nat} {M : Mem} {o : Mem} (hn : nfull n) (o_t : ob n t 8) (o_r1 : ob n r1 6) (hf : fn_X8_cut t r1 M = some o) : CT E l yX8_cut cX8_cut 4 none 7 188 0 0 [.ref (eb E + t), .ref (eb E + r1)] n (zf n) M none n (zf n) o := by
  refine CT_of PN_RX8 (Nat.le_of_ble_eq_true rfl) ?_
  intro p e s m args below meth c C hH ls hl
  replace C : Cx E p s m args meth c cX8_cut 4 RX8 none n "cut" := C
  have hl : lv_has ls 4 [(0, .ref (eb E + t)), (1, .ref (eb E + r1))] := hl
  unfold fn_X8_cut at hf
  refine lv_aload_n C.hx C.hb dX8_cut_0 rfl (lv_at hl 0 rfl) ?_
  refine lv_iconst (v := Int32.ofInt 0) C.hx C.hb dX8_cut_1 rfl ?_
  refine r_put C hH o_t (by decide) rfl FL_RX8_24 FW_8_4 hf dX8_cut_2 (fun M2 H locs hf hH => ?_)
  refine lv_aload_n C.hx C.hb dX8_cut_5 rfl (lv_at hl 0 rfl) ?_
  refine lv_aload_n C.hx C.hb dX8_cut_6 rfl (lv_at hl 1 rfl) ?_
  refine g_int C hH o_r1 (by decide) rfl FL_RX8_28 dX8_cut_7 ?_
  refine r_put C hH o_t (by decide) rfl FL_RX8_33 FW_8_6 hf dX8_cut_10 (fun M10 H locs hf hH => ?_)
  refine lv_iconst (v := Int32.ofInt 0) C.hx C.hb dX8_cut_13 rfl ?_
  refine lv_istore_n (lv' := [(2, i3 0), (0, .ref (eb E + t)), (1, .ref (eb E + r1))]) C.hx C.hb dX8_cut_14 rfl hl (by decide) rfl (fun ls hl => ?_)
  exact l_X8_cut_15 C hn o_t o_r1 FU _ _ _ _ _ hf hH (lv_sub hl [1, 2, 0] rfl)
