/-- how many cells there are once all is made: the two tables come when they are asked for; M 0 8 and M 0 9 say whether they are there -/
def nOf (M : Mem) : Nat := if M 0 8 = 0 then 102 else if M 0 9 = 0 then 106 else 110
def nfull (n : Nat) : Prop := n = 102 ∨ n = 106 ∨ n = 110
theorem nOf_full (M : Mem) : nfull (nOf M) := by unfold nOf nfull; split; exact Or.inl rfl; split; exact Or.inr (Or.inl rfl); exact Or.inr (Or.inr rfl)
theorem nOf_up {M : Mem} {k i : Nat} {x : Int} (h : k ≠ 0) : nOf (up M k i x) = nOf M := by unfold nOf; rw [up_ne (Ne.symm h), up_ne (Ne.symm h)]
theorem nOf_cp {M : Mem} {a k N : Nat} (h : k ≠ 0) : nOf (cp M a k N) = nOf M := by unfold nOf; simp [cp, Ne.symm h]
theorem tl_ne {k c : Nat} (h : tl k = c) (hc : c ≠ 10) : k ≠ 0 := by
  intro q; subst q
  exact hc (h.symm.trans (by decide +kernel))
theorem tm_ne {c i : Nat} (h : (tm c)[i]? = some 0) : c ≠ 10 := by
  intro q; subst q
  have h0 : ∀ x ∈ tm 10, x ≠ 0 := by decide +kernel
  exact h0 0 (List.mem_of_getElem? h) rfl
def sTx : List String := ["glove", "grain", "pay", "wash", "wait", "to", "or", "and", "not", "hand", "own", "hour", "market", "weight", "times", "from"]
def sIx : List Nat := [91, 97, 99, 101, 103, 105, 107, 109, 111, 116, 118, 120, 122, 124, 126, 128]
def sLen : List Nat := [5, 5, 3, 4, 4, 2, 2, 3, 3, 4, 3, 4, 6, 6, 5, 4]
def sBytN : List (List Int) := [[103, 108, 111, 118, 101], [103, 114, 97, 105, 110], [112, 97, 121], [119, 97, 115, 104], [119, 97, 105, 116], [116, 111], [111, 114], [97, 110, 100], [110, 111, 116], [104, 97, 110, 100], [111, 119, 110], [104, 111, 117, 114], [109, 97, 114, 107, 101, 116], [119, 101, 105, 103, 104, 116], [116, 105, 109, 101, 115], [102, 114, 111, 109]]
def sByt : List (List Int32) := sBytN.map (fun r => r.map Int32.ofInt)
def chL : List Int := [1, 2, 0, 0, 0, 1, 3, 0, 0, 0, 1, 4, 0, 0, 0, 1, 2, 3, 0, 0, 1, 4, 6, 0, 0, 1, 7, 11, 0, 0, 1, 2, 3, 4, 0, 1, 4, 9, 11, 0, 1, 15, 18, 23, 0, 1, 2, 3, 4, 5, 1, 4, 10, 12, 17, 2, 11, 26, 42, 45]
def tyE (E : EE) : List (ClassId × FieldType) := [(eC E 0, .int), (eC E 1, .byte), (eC E 2, .boolean), (eC E 3, .long), (eC E 4, .object "HeavierByHand$Text")]
def SK (E : EE) (U : State) : Prop :=
  vk_S 16 sLen sByt (eK E) (eV E) (fr E) U (eH E) ∧ (∀ j, j < 16 → vk_R "HeavierByHand$Tokens" (sIx.getD j 0) (sTx.getD j "") (eK E j) U) ∧
  va_Z "java/lang/String" "COMPACT_STRINGS" "Z" (.int 1) (fr E) U (eH E) ∧ va_Z "HeavierByHand" "CHOSEN_GRAINS" "[I" (.ref (eG E)) (fr E) U (eH E) ∧
  va_T .int (eG E) 60 (fun j => i3 (chL.getD j 0)) (fr E) U (eH E) ∧ va_AO "HeavierByHand$Text" U ∧ va_Zq "jdk/internal/util/Preconditions" "SIOOBE_FORMATTER" "Ljava/util/function/BiFunction;" (fr E) U (eH E)
def GK (E : EE) (U : State) : Prop := va_K (eD E) vwCl (tyE E) U ∧ (∀ w ∈ nestL, va_Nw w U) ∧ SK E U
theorem GK.warm {E : EE} {s U : State} (hW : s.WarmedH U.vm) (h : GK E s) : GK E U := by
  obtain ⟨h1, h2, h3, h4, h5, h6, h7, h8, h9⟩ := h
  refine ⟨h1.moved hW.alike, fun w hw => ?_, h3.moved hW.alike, fun j hj => (h4 j hj).warm hW, h5.moved hW.alike, h6.moved hW.alike, h7.moved hW.alike, h8.moved hW.alike, h9.moved hW.alike⟩
  have hn := (List.mem_filter.mp hw).2
  have h0 := h2 w hw
  cases w <;> first | exact va_Nw.warmM hW h0 | cases hn
theorem GK.call {E : EE} {U : State} (g : JFrame) (mk : MethodId) (a : Array Value) (h : GK E U) : GK E (U.calling g mk a) := by
  obtain ⟨h1, h2, h3, h4, h5, h6, h7, h8, h9⟩ := h
  have hA : U.vm.Alike (U.calling g mk a).vm := Vm.Alike.refl U.vm
  refine ⟨h1.moved hA, fun w hw => ?_, h3.moved hA, fun j hj => vk_R.same (u := U) rfl (h4 j hj), h5.moved hA, h6.moved hA, h7.moved hA, h8.moved hA, h9.moved hA⟩
  have hn := (List.mem_filter.mp hw).2
  have h0 := h2 w hw
  cases w <;> first | exact va_Nw.same rfl (u := U) rfl h0 | cases hn
def GH (E : EE) (n : Nat) (z : Zs) (M : Mem) (H : Heap) : Prop := va_P (eD E) vwCl (wl E n z M) H ∧ H.size = eb E + n ∧ (∀ q, q < eb E → H[q]? = (eH E)[q]?) ∧ (nfull n → nOf M = n)
def ST (E : EE) (s : State) (n : Nat) (z : Zs) (M : Mem) (H : Heap) (locs : List Loc) : Prop := GH E n z M H ∧ va_S (fr E) s.heap H locs
def PC (E : EE) (av : List Value) (n : Nat) (z : Zs) (M : Mem) : Array Value → State → Prop := va_Pc av (fun U => GK E U ∧ GH E n z M U.heap)
def QC (E : EE) (v : Option Value) (n : Nat) (z : Zs) (M : Mem) : Array Value → State → Outcome → State → Prop := fun _ _ o t => o = .returned v ∧ GH E n z M t.heap
def CT (E : EE) (l : Launch) (y : MethodName) (cc : ByteArray) (ml : Nat) (ret : Option FieldType) (fz lz mc ms : Nat) (av : List Value) (n : Nat) (z : Zs) (M : Mem) (v : Option Value) (n' : Nat) (z' : Zs) (M' : Mem) : Prop :=
  Met l y (.code y cc ml ret :: tblG) { frames := fz, cells := mc, slots := ms, locals := lz } (PC E av n z M) (QC E v n' z' M') mc ms (fr E)
/-- what holds all along a method's walk -/
def Cx (E : EE) (p : Program) (s : State) (m : MethodId) (args : Array Value) (meth : Method) (c : Code) (cc : ByteArray) (nL : Nat) (own : String) (ret : Option FieldType) (n0 : Nat) (nm : String) : Prop :=
  p.tables.exec = Jvm.exec ∧ c.code = cc ∧ c.maxLocals = nL ∧ s.vm.findClass own = some m.cls ∧ (∀ w ∈ tblG, w.before args s = true) ∧ GK E s ∧ meth.locks = false ∧ meth.sig.returnType = ret ∧ s.heap.size = eb E + n0 ∧ (∀ q, q < eb E → s.heap[q]? = (eH E)[q]?) ∧ meth.name = nm
theorem CT_of {E : EE} {l : Launch} {y : MethodName} {cc : ByteArray} {ml : Nat} {ret : Option FieldType} {fz lz mc ms : Nat} {av : List Value} {n : Nat} {z : Zs} {M : Mem} {v : Option Value} {n' : Nat} {z' : Zs} {M' : Mem} (hy : plainName y.cls = true) (hal : (lg_sl av).length ≤ ml)
    (body : ∀ p e s m args below meth c, Cx E p s m args meth c cc ml y.cls ret n y.name → ST E s n z M s.heap [] → ∀ ls, lv_has ls ml (lv_args 0 av) →
      W p l e { frames := fz, cells := mc, slots := ms, locals := lz } s m args below meth c s.heap [] 0 0 (MQ below (QC E v n' z' M') args s mc ms (fr E)) (F0 m 0 ls [])) : CT E l y cc ml ret fz lz mc ms av n z M v n' z' M' := by
  refine Met.ofW (cc := cc) (maxL := ml) (ret := ret) hy rfl ?_
  intro p e s m args below meth c s₁ B hml hv
  obtain ⟨rfl, hg, hh⟩ := hv
  have hts := atoms_spec (ws := .code y cc ml ret :: tblG) B.pre
  have hl := lv_entry av (n := ml) hal
  rw [lg_entry_eq]
  exact body p e s m _ below meth c ⟨B.exec, B.bytes, hml, findClass_of_methodNamed B.named, fun w hw => hts w (List.mem_cons_of_mem _ hw), hg, B.notSynchronized, B.returns, hh.2.1, hh.2.2.1, (name_of_methodNamed B.named B.method).1⟩ ⟨hh, va_S.rf⟩ _ hl
theorem uws_good {C : String} {T : u_T} {N : Nat} {w : Cond} (h : w ∈ u_ws C T N) : goodWord w = true := by
  obtain ⟨k, -, rfl⟩ := List.mem_map.mp h
  unfold u_lay
  split <;> rfl
theorem clOG (c : Nat) (hc : c < 12) : ∃ (C : String) (T : u_T) (N : Nat) (ty : Nat → FieldType), vwCl[c]? = some (C, T, N) ∧ (∀ w ∈ u_ws C T N, w ∈ tblG) ∧ (tm c).length = N ∧ (∀ k, k < N → parseFieldDescriptor (T k).2.2.1 = some (ty k)) ∧ (∀ a, a < N → ∀ b, b < N → a ≠ b → (T a).2.1 ≠ (T b).2.1) := by
  obtain ⟨CN, T, N, ty, h1, h2, h3⟩ := clOK c hc
  exact ⟨CN, T, N, ty, h1, fun w hw => tg_in (h2 w hw) (uws_good hw), h3⟩
section RUL
variable {p : Program} {l : Launch} {e : Env} {R : Room} {s : State} {m : MethodId} {args : Array Value} {below : List Frame} {meth : Method} {c : Code} {H : Heap} {locs : List Loc} {cells slots : Nat} {Q : State → Prop}
variable {cc : ByteArray} {nL : Nat} {own nm : String} {ret : Option FieldType} {n0 : Nat} {E : EE} {n : Nat} {z : Zs} {M : Mem} {pc : Nat} {ls : Array Slot} {rest : List Value}
theorem Cx.hx (C : Cx E p s m args meth c cc nL own ret n0 nm) : p.tables.exec = Jvm.exec := C.1
theorem Cx.hb (C : Cx E p s m args meth c cc nL own ret n0 nm) : c.code = cc := C.2.1
theorem Cx.hml (C : Cx E p s m args meth c cc nL own ret n0 nm) : c.maxLocals = nL := C.2.2.1
theorem Cx.ho (C : Cx E p s m args meth c cc nL own ret n0 nm) : s.vm.findClass own = some m.cls := C.2.2.2.1
theorem Cx.ht (C : Cx E p s m args meth c cc nL own ret n0 nm) : ∀ w ∈ tblG, w.before args s = true := C.2.2.2.2.1
theorem Cx.hg (C : Cx E p s m args meth c cc nL own ret n0 nm) : GK E s := C.2.2.2.2.2.1
theorem Cx.hk (C : Cx E p s m args meth c cc nL own ret n0 nm) : meth.locks = false := C.2.2.2.2.2.2.1
theorem Cx.hr (C : Cx E p s m args meth c cc nL own ret n0 nm) : meth.sig.returnType = ret := C.2.2.2.2.2.2.2.1
theorem Cx.hs (C : Cx E p s m args meth c cc nL own ret n0 nm) : s.heap.size = eb E + n0 := C.2.2.2.2.2.2.2.2.1
theorem Cx.hlow (C : Cx E p s m args meth c cc nL own ret n0 nm) : ∀ q, q < eb E → s.heap[q]? = (eH E)[q]? := C.2.2.2.2.2.2.2.2.2.1
theorem Cx.hnm (C : Cx E p s m args meth c cc nL own ret n0 nm) : meth.name = nm := C.2.2.2.2.2.2.2.2.2.2
/-- how far the heap has grown -/
theorem w_size {g : JFrame} (k : s.heap.size ≤ H.size → H.size ≤ s.heap.size + cells → W p l e R s m args below meth c H locs cells slots Q g) : W p l e R s m args below meth c H locs cells slots Q g := by
  intro T hT X
  have h := X.same
  have h1 : s.heap.size ≤ T.heap.size := h.2.1
  have h2 : T.heap.size ≤ s.heap.size + cells := h.2.2.1
  rw [hT] at h1 h2
  exact k h1 h2 T hT X
/-- the world behind a write -/
theorem w_wrote (C : Cx E p s m args meth c cc nL own ret n0 nm) (hz : n0 + cells = n) (hn : 0 < n) {z' : Zs} {M' : Mem} {H1 : Heap} {locs1 : List Loc} {g : JFrame} (hP : va_P (eD E) vwCl (wl E n z' M') H1) (hS : va_S (fr E) s.heap H1 locs1) (hq : nfull n → nOf M' = n)
    (k : ST E s n z' M' H1 locs1 → W p l e R s m args below meth c H1 locs1 cells slots Q g) : W p l e R s m args below meth c H1 locs1 cells slots Q g := by
  refine w_size fun h1 h2 => k ⟨⟨hP, ?_, fun q hq => ?_, hq⟩, hS⟩
  · have h3 := (hP (n - 1) _ (wl_get (by omega))).lt
    have h3 : eb E + (n - 1) < H1.size := h3
    have := C.hs
    omega
  · rw [hS.2.1 q (by have := C.hs; omega) (Nat.not_le.mpr hq)]
    exact C.hlow q hq
theorem w_getI (C : Cx E p s m args meth c cc nL own ret n0 nm) (hH : ST E s n z M H locs) {k ci i idx : Nat} (hk : k < n) (ht : tl k = ci) (hc : ci < 12) (hf : (tm ci)[i]? = some 0) (hl : FL own idx ci i) (hd : decode cc pc = .ok (.getfield idx, 3))
    (kk : W p l e R s m args below meth c H locs cells slots Q (F0 m (pc + 3) ls (i3 (M k i) :: rest))) : W p l e R s m args below meth c H locs cells slots Q (F0 m pc ls (.ref (eb E + k) :: rest)) := by
  obtain ⟨CN, T, N, ty, h1, h2, h3, h4, h5⟩ := clOG ci hc
  have hi : i < N := by rw [← h3]; exact (List.getElem?_eq_some_iff.mp hf).1
  have hl' := hl; rw [FL, cCl_of h1] at hl'
  exact va_get C.hx C.hb (Ts := tblG) (C := CN) (T := T) (N := N) (ref := CN) (index := idx) (v := i3 (M k i)) (tys := tyE E) C.ht h2 C.ho C.hg.1 hH.1.1 k (by rw [wl_get hk, ent_obj ht hc]) h1 i hi (C.ht _ hl'.1) (by rw [hl'.2]; exact fun _ h => h) (fs_get hf) hd kk
theorem w_getR (C : Cx E p s m args meth c cc nL own ret n0 nm) (hH : ST E s n z M H locs) {k ci i idx off : Nat} (hk : k < n) (ht : tl k = ci) (hc : ci < 12) (hf : (tm ci)[i]? = some (off + 1)) (hzz : z k i = true) (hl : FL own idx ci i) (hd : decode cc pc = .ok (.getfield idx, 3))
    (kk : W p l e R s m args below meth c H locs cells slots Q (F0 m (pc + 3) ls (.ref (eb E + (k + off)) :: rest))) : W p l e R s m args below meth c H locs cells slots Q (F0 m pc ls (.ref (eb E + k) :: rest)) := by
  obtain ⟨CN, T, N, ty, h1, h2, h3, h4, h5⟩ := clOG ci hc
  have hi : i < N := by rw [← h3]; exact (List.getElem?_eq_some_iff.mp hf).1
  have hl' := hl; rw [FL, cCl_of h1] at hl'
  have hv : fv (eb E) z M k i (off + 1) = .ref (eb E + (k + off)) := by simp [fv, hzz]
  exact va_get C.hx C.hb (Ts := tblG) (C := CN) (T := T) (N := N) (ref := CN) (index := idx) (v := .ref (eb E + (k + off))) (tys := tyE E) C.ht h2 C.ho C.hg.1 hH.1.1 k (by rw [wl_get hk, ent_obj ht hc]) h1 i hi (C.ht _ hl'.1) (by rw [hl'.2]; exact fun _ h => h) (by rw [← hv]; exact fs_get hf) hd kk
theorem w_getN (C : Cx E p s m args meth c cc nL own ret n0 nm) (hH : ST E s n z M H locs) {k ci i idx off : Nat} (hk : k < n) (ht : tl k = ci) (hc : ci < 12) (hf : (tm ci)[i]? = some (off + 1)) (hzz : z k i = false) (hl : FL own idx ci i) (hd : decode cc pc = .ok (.getfield idx, 3))
    (kk : W p l e R s m args below meth c H locs cells slots Q (F0 m (pc + 3) ls (.null :: rest))) : W p l e R s m args below meth c H locs cells slots Q (F0 m pc ls (.ref (eb E + k) :: rest)) := by
  obtain ⟨CN, T, N, ty, h1, h2, h3, h4, h5⟩ := clOG ci hc
  have hi : i < N := by rw [← h3]; exact (List.getElem?_eq_some_iff.mp hf).1
  have hl' := hl; rw [FL, cCl_of h1] at hl'
  have hv : fv (eb E) z M k i (off + 1) = .null := by simp [fv, hzz]
  exact va_get C.hx C.hb (Ts := tblG) (C := CN) (T := T) (N := N) (ref := CN) (index := idx) (v := .null) (tys := tyE E) C.ht h2 C.ho C.hg.1 hH.1.1 k (by rw [wl_get hk, ent_obj ht hc]) h1 i hi (C.ht _ hl'.1) (by rw [hl'.2]; exact fun _ h => h) (by rw [← hv]; exact fs_get hf) hd kk
theorem ent_putI {ci i k : Nat} {x : Int} (ht : tl k = ci) (hc : ci < 12) (hf : (tm ci)[i]? = some 0) : ent E z (up M k i x) k = .inr (ci, ((tm ci).mapIdx (fun i t => fv (eb E) z M k i t)).set i (i3 x)) := by
  rw [ent_obj ht hc, fs_set (z' := z) (M' := up M k i x)]
  · intro t h; rw [hf] at h; cases h; simp [fv, up_eq]
  · intro j t hj; cases t <;> simp [fv, up_ni hj]
theorem w_putI (C : Cx E p s m args meth c cc nL own ret n0 nm) (hz : n0 + cells = n) (hH : ST E s n z M H locs) {k ci i idx : Nat} {x : Int} (hk : k < n) (ht : tl k = ci) (hc : ci < 12) (hf : (tm ci)[i]? = some 0) (hl : FL own idx ci i) (hw : FW ci i .int) (hd : decode cc pc = .ok (.putfield idx, 3))
    (kk : ∀ (H1 : Heap) (locs1 : List Loc), ST E s n z (up M k i x) H1 locs1 → W p l e R s m args below meth c H1 locs1 cells slots Q (F0 m (pc + 3) ls rest)) : W p l e R s m args below meth c H locs cells slots Q (F0 m pc ls (i3 x :: .ref (eb E + k) :: rest)) := by
  obtain ⟨CN, T, N, ty, h1, h2, h3, h4, h5⟩ := clOG ci hc
  have hi : i < N := by rw [← h3]; exact (List.getElem?_eq_some_iff.mp hf).1
  have hl' := hl; rw [FL, cCl_of h1] at hl'
  have hw' := hw; rw [FW, cCl_of h1] at hw'
  refine va_put C.hx C.hb (Ts := tblG) (C := CN) (T := T) (N := N) (ref := CN) (index := idx) (v := i3 x) (tys := tyE E) (ty := .int) C.ht h2 ty h4 h5 C.ho C.hg.1 hH.1.1 (wl_D E n z M) hH.2 k (by rw [wl_get hk, ent_obj ht hc]) h1 i hi (C.ht _ hl'.1) (by rw [hl'.2]; exact fun _ h => h) hw'.1 hw'.2 rfl rfl (by rw [fs_len, h3]; exact hi) hd (fun H1 locs1 hP _ hS => ?_)
  rw [← ent_putI ht hc hf, wl_set (z' := z) (M' := up M k i x) rfl (fun j hj => ent_cong (fun b => up_ne hj b) (fun _ => rfl))] at hP
  exact w_wrote C hz (by omega) hP hS (fun h => (nOf_up (tl_ne ht (tm_ne hf))).trans (hH.1.2.2.2 h)) (kk H1 locs1)
theorem w_putZ (C : Cx E p s m args meth c cc nL own ret n0 nm) (hz : n0 + cells = n) (hH : ST E s n z M H locs) {k ci i idx : Nat} {x : Int} (hx : x = 0 ∨ x = 1) (hk : k < n) (ht : tl k = ci) (hc : ci < 12) (hf : (tm ci)[i]? = some 0) (hl : FL own idx ci i) (hw : FW ci i .boolean) (hd : decode cc pc = .ok (.putfield idx, 3))
    (kk : ∀ (H1 : Heap) (locs1 : List Loc), ST E s n z (up M k i x) H1 locs1 → W p l e R s m args below meth c H1 locs1 cells slots Q (F0 m (pc + 3) ls rest)) : W p l e R s m args below meth c H locs cells slots Q (F0 m pc ls (i3 x :: .ref (eb E + k) :: rest)) := by
  obtain ⟨CN, T, N, ty, h1, h2, h3, h4, h5⟩ := clOG ci hc
  have hi : i < N := by rw [← h3]; exact (List.getElem?_eq_some_iff.mp hf).1
  have hl' := hl; rw [FL, cCl_of h1] at hl'
  have hw' := hw; rw [FW, cCl_of h1] at hw'
  refine va_put C.hx C.hb (Ts := tblG) (C := CN) (T := T) (N := N) (ref := CN) (index := idx) (v := i3 x) (tys := tyE E) (ty := .boolean) C.ht h2 ty h4 h5 C.ho C.hg.1 hH.1.1 (wl_D E n z M) hH.2 k (by rw [wl_get hk, ent_obj ht hc]) h1 i hi (C.ht _ hl'.1) (by rw [hl'.2]; exact fun _ h => h) hw'.1 hw'.2 (by rcases hx with rfl | rfl <;> rfl) (by rcases hx with rfl | rfl <;> rfl) (by rw [fs_len, h3]; exact hi) hd (fun H1 locs1 hP _ hS => ?_)
  rw [← ent_putI ht hc hf, wl_set (z' := z) (M' := up M k i x) rfl (fun j hj => ent_cong (fun b => up_ne hj b) (fun _ => rfl))] at hP
  exact w_wrote C hz (by omega) hP hS (fun h => (nOf_up (tl_ne ht (tm_ne hf))).trans (hH.1.2.2.2 h)) (kk H1 locs1)
/-! rows -/
theorem w_iald (C : Cx E p s m args meth c cc nL own ret n0 nm) (hH : ST E s n z M H locs) {k N : Nat} {i : Int} (hk : k < n) (ht : tl k = 12) (hN : ln k = N) (hm : N < 2147483648) (hi : 0 ≤ i ∧ i < (N : Int)) (hd : decode cc pc = .ok (.iaload, 1))
    (kk : W p l e R s m args below meth c H locs cells slots Q (F0 m (pc + 1) ls (i3 (M k i.toNat) :: rest))) : W p l e R s m args below meth c H locs cells slots Q (F0 m pc ls (i3 i :: .ref (eb E + k) :: rest)) := by
  have e1 := r3_nat hi.1 hi.2 hm
  exact va_iald C.hx C.hb C.hg.1 hH.1.1 k 0 (cA := eC E 0) (n := N) (f := fun j => Int32.ofInt (M k j)) (by rw [wl_get hk, ent_arr ht (by decide) (by decide), hN]) rfl (r3_in hi.1 hi.2 hm) hd (by rw [e1]; exact kk)
theorem w_bald (C : Cx E p s m args meth c cc nL own ret n0 nm) (hH : ST E s n z M H locs) {k N : Nat} {i : Int} (hk : k < n) (ht : tl k = 13) (hN : ln k = N) (hm : N < 2147483648) (hi : 0 ≤ i ∧ i < (N : Int)) (hd : decode cc pc = .ok (.baload, 1))
    (kk : W p l e R s m args below meth c H locs cells slots Q (F0 m (pc + 1) ls (i3 (M k i.toNat) :: rest))) : W p l e R s m args below meth c H locs cells slots Q (F0 m pc ls (i3 i :: .ref (eb E + k) :: rest)) := by
  have e1 := r3_nat hi.1 hi.2 hm
  exact va_bald C.hx C.hb C.hg.1 hH.1.1 k 1 (cA := eC E 1) (n := N) (f := fun j => Int32.ofInt (M k j)) (by rw [wl_get hk, ent_arr ht (by decide) (by decide), hN]) rfl (r3_in hi.1 hi.2 hm) hd (by rw [e1]; exact kk)
theorem w_zald (C : Cx E p s m args meth c cc nL own ret n0 nm) (hH : ST E s n z M H locs) {k N : Nat} {i : Int} (hk : k < n) (ht : tl k = 14) (hN : ln k = N) (hm : N < 2147483648) (hi : 0 ≤ i ∧ i < (N : Int)) (hd : decode cc pc = .ok (.baload, 1))
    (kk : W p l e R s m args below meth c H locs cells slots Q (F0 m (pc + 1) ls (i3 (M k i.toNat) :: rest))) : W p l e R s m args below meth c H locs cells slots Q (F0 m pc ls (i3 i :: .ref (eb E + k) :: rest)) := by
  have e1 := r3_nat hi.1 hi.2 hm
  exact va_zald C.hx C.hb C.hg.1 hH.1.1 k 2 (cA := eC E 2) (n := N) (f := fun j => Int32.ofInt (M k j)) (by rw [wl_get hk, ent_arr ht (by decide) (by decide), hN]) rfl (r3_in hi.1 hi.2 hm) hd (by rw [e1]; exact kk)
theorem w_lald (C : Cx E p s m args meth c cc nL own ret n0 nm) (hH : ST E s n z M H locs) {k N : Nat} {i : Int} (hk : k < n) (ht : tl k = 15) (hN : ln k = N) (hm : N < 2147483648) (hi : 0 ≤ i ∧ i < (N : Int)) (hd : decode cc pc = .ok (.laload, 1))
    (kk : W p l e R s m args below meth c H locs cells slots Q (F0 m (pc + 1) ls (l6 (M k i.toNat) :: rest))) : W p l e R s m args below meth c H locs cells slots Q (F0 m pc ls (i3 i :: .ref (eb E + k) :: rest)) := by
  have e1 := r3_nat hi.1 hi.2 hm
  exact va_lald C.hx C.hb C.hg.1 hH.1.1 k 3 (cA := eC E 3) (n := N) (f := fun j => Int64.ofInt (M k j)) (by rw [wl_get hk, ent_lng ht, hN]) rfl (r3_in hi.1 hi.2 hm) hd (by rw [e1]; exact kk)
theorem w_aldT (C : Cx E p s m args meth c cc nL own ret n0 nm) (hH : ST E s n z M H locs) {k N : Nat} {i : Int} (hk : k < n) (ht : tl k = 16) (hN : ln k = N) (hm : N < 2147483648) (hi : 0 ≤ i ∧ i < (N : Int)) (hzz : z k i.toNat = true) (hd : decode cc pc = .ok (.aaload, 1))
    (kk : W p l e R s m args below meth c H locs cells slots Q (F0 m (pc + 1) ls (.ref (eb E + (k + (1 + 5 * i.toNat))) :: rest))) : W p l e R s m args below meth c H locs cells slots Q (F0 m pc ls (i3 i :: .ref (eb E + k) :: rest)) := by
  have e1 := r3_nat hi.1 hi.2 hm
  refine va_aldq C.hx C.hb C.hg.1 hH.1.1 k 4 (cA := eC E 4) (C := "HeavierByHand$Text") (n := N) (f := fun j => if z k j then some (eb E + (k + (1 + 5 * j))) else none) (by rw [wl_get hk, ent_txt ht, hN]) rfl (r3_in hi.1 hi.2 hm) hd ?_
  rw [e1, if_pos hzz]
  exact kk
theorem w_alen (C : Cx E p s m args meth c cc nL own ret n0 nm) (hH : ST E s n z M H locs) {k N : Nat} (hk : k < n) (ht : 12 ≤ tl k ∧ tl k < 17) (hN : ln k = N) (hd : decode cc pc = .ok (.arraylength, 1))
    (kk : W p l e R s m args below meth c H locs cells slots Q (F0 m (pc + 1) ls (i3 (N : Int) :: rest))) : W p l e R s m args below meth c H locs cells slots Q (F0 m pc ls (.ref (eb E + k) :: rest)) := by
  have hv : Int32.ofNat N = Int32.ofInt (N : Int) := rfl
  by_cases h5 : tl k = 15
  · exact va_alen C.hx C.hb C.hg.1 hH.1.1 k 3 (cA := eC E 3) (x := (N, .inr (.inl (fun i => Int64.ofInt (M k i))))) (by rw [wl_get hk, ent_lng h5, hN]) (ty := .long) rfl hv hd kk
  · by_cases h6 : tl k = 16
    · exact va_alen C.hx C.hb C.hg.1 hH.1.1 k 4 (cA := eC E 4) (x := (N, .inr (.inr (.inr (.inr (fun i => if z k i then some (eb E + (k + (1 + 5 * i))) else none)))))) (by rw [wl_get hk, ent_txt h6, hN]) (ty := .object "HeavierByHand$Text") rfl hv hd kk
    · have ha := fun (c : Nat) (h : tl k = c) (h1 : 12 ≤ c) (h2 : c < 15) => ent_arr (E := E) (z := z) (M := M) h h1 h2
      rcases (show tl k = 12 ∨ tl k = 13 ∨ tl k = 14 by omega) with q | q | q
      · exact va_alen C.hx C.hb C.hg.1 hH.1.1 k 0 (cA := eC E 0) (x := (N, .inl (fun i => Int32.ofInt (M k i)))) (by rw [wl_get hk, ha 12 q (by decide) (by decide), hN]) (ty := .int) rfl hv hd kk
      · exact va_alen C.hx C.hb C.hg.1 hH.1.1 k 1 (cA := eC E 1) (x := (N, .inl (fun i => Int32.ofInt (M k i)))) (by rw [wl_get hk, ha 13 q (by decide) (by decide), hN]) (ty := .byte) rfl hv hd kk
      · exact va_alen C.hx C.hb C.hg.1 hH.1.1 k 2 (cA := eC E 2) (x := (N, .inl (fun i => Int32.ofInt (M k i)))) (by rw [wl_get hk, ha 14 q (by decide) (by decide), hN]) (ty := .boolean) rfl hv hd kk
theorem upd_up {k j : Nat} {x : Int} : (fun i => Int32.ofInt (up M k j x k i)) = upd (fun i => Int32.ofInt (M k i)) j (Int32.ofInt x) := by
  funext i
  by_cases h : i = j
  · subst h; rw [up_eq]; simp [upd]
  · rw [up_ni h]; simp [upd, h]
theorem updL_up {k j : Nat} {x : Int} : (fun i => Int64.ofInt (up M k j x k i)) = vp_updL (fun i => Int64.ofInt (M k i)) j (Int64.ofInt x) := by
  funext i
  by_cases h : i = j
  · subst h; rw [up_eq]; simp [vp_updL]
  · rw [up_ni h]; simp [vp_updL, h]
theorem w_iast (C : Cx E p s m args meth c cc nL own ret n0 nm) (hz : n0 + cells = n) (hH : ST E s n z M H locs) {k N : Nat} {i x : Int} (hk : k < n) (ht : tl k = 12) (hN : ln k = N) (hm : N < 2147483648) (hi : 0 ≤ i ∧ i < (N : Int)) (hd : decode cc pc = .ok (.iastore, 1))
    (kk : ∀ (H1 : Heap) (locs1 : List Loc), ST E s n z (up M k i.toNat x) H1 locs1 → W p l e R s m args below meth c H1 locs1 cells slots Q (F0 m (pc + 1) ls rest)) : W p l e R s m args below meth c H locs cells slots Q (F0 m pc ls (i3 x :: i3 i :: .ref (eb E + k) :: rest)) := by
  have e1 := r3_nat hi.1 hi.2 hm
  refine va_iast C.hx C.hb C.hg.1 hH.1.1 (wl_D E n z M) hH.2 k 0 (cA := eC E 0) (n := N) (f := fun j => Int32.ofInt (M k j)) (by rw [wl_get hk, ent_arr ht (by decide) (by decide), hN]) rfl (r3_in hi.1 hi.2 hm) hd (fun H1 locs1 hP _ hS => ?_)
  rw [e1, ← upd_up, wl_set (z' := z) (M' := up M k i.toNat x) (by rw [ent_arr ht (by decide) (by decide), hN]) (fun j hj => ent_cong (fun b => up_ne hj b) (fun _ => rfl))] at hP
  exact w_wrote C hz (by omega) hP hS (fun h => (nOf_up (tl_ne ht (by decide))).trans (hH.1.2.2.2 h)) (kk H1 locs1)
theorem w_last (C : Cx E p s m args meth c cc nL own ret n0 nm) (hz : n0 + cells = n) (hH : ST E s n z M H locs) {k N : Nat} {i x : Int} (hk : k < n) (ht : tl k = 15) (hN : ln k = N) (hm : N < 2147483648) (hi : 0 ≤ i ∧ i < (N : Int)) (hd : decode cc pc = .ok (.lastore, 1))
    (kk : ∀ (H1 : Heap) (locs1 : List Loc), ST E s n z (up M k i.toNat x) H1 locs1 → W p l e R s m args below meth c H1 locs1 cells slots Q (F0 m (pc + 1) ls rest)) : W p l e R s m args below meth c H locs cells slots Q (F0 m pc ls (l6 x :: i3 i :: .ref (eb E + k) :: rest)) := by
  have e1 := r3_nat hi.1 hi.2 hm
  refine va_last C.hx C.hb C.hg.1 hH.1.1 (wl_D E n z M) hH.2 k 3 (cA := eC E 3) (n := N) (f := fun j => Int64.ofInt (M k j)) (by rw [wl_get hk, ent_lng ht, hN]) rfl (r3_in hi.1 hi.2 hm) hd (fun H1 locs1 hP _ hS => ?_)
  rw [e1, ← updL_up, wl_set (z' := z) (M' := up M k i.toNat x) (by rw [ent_lng ht, hN]) (fun j hj => ent_cong (fun b => up_ne hj b) (fun _ => rfl))] at hP
  exact w_wrote C hz (by omega) hP hS (fun h => (nOf_up (tl_ne ht (by decide))).trans (hH.1.2.2.2 h)) (kk H1 locs1)
theorem w_bast (C : Cx E p s m args meth c cc nL own ret n0 nm) (hz : n0 + cells = n) (hH : ST E s n z M H locs) {k N : Nat} {i x : Int} (hk : k < n) (ht : tl k = 13) (hN : ln k = N) (hm : N < 2147483648) (hi : 0 ≤ i ∧ i < (N : Int)) (hd : decode cc pc = .ok (.bastore, 1))
    (kk : ∀ (H1 : Heap) (locs1 : List Loc), ST E s n z (up M k i.toNat (i2bI x)) H1 locs1 → W p l e R s m args below meth c H1 locs1 cells slots Q (F0 m (pc + 1) ls rest)) : W p l e R s m args below meth c H locs cells slots Q (F0 m pc ls (i3 x :: i3 i :: .ref (eb E + k) :: rest)) := by
  have e1 := r3_nat hi.1 hi.2 hm
  have e2 : vp_nar .byte (Int32.ofInt x) = Int32.ofInt (i2bI x) := by rw [vp_nar_byte, i2bI, i3_to]
  refine va_bast C.hx C.hb C.hg.1 hH.1.1 (wl_D E n z M) hH.2 k 1 (cA := eC E 1) (n := N) (f := fun j => Int32.ofInt (M k j)) (by rw [wl_get hk, ent_arr ht (by decide) (by decide), hN]) rfl (r3_in hi.1 hi.2 hm) hd (fun H1 locs1 hP _ hS => ?_)
  rw [e1, e2, ← upd_up, wl_set (z' := z) (M' := up M k i.toNat (i2bI x)) (by rw [ent_arr ht (by decide) (by decide), hN]) (fun j hj => ent_cong (fun b => up_ne hj b) (fun _ => rfl))] at hP
  exact w_wrote C hz (by omega) hP hS (fun h => (nOf_up (tl_ne ht (by decide))).trans (hH.1.2.2.2 h)) (kk H1 locs1)
theorem w_zast (C : Cx E p s m args meth c cc nL own ret n0 nm) (hz : n0 + cells = n) (hH : ST E s n z M H locs) {k N : Nat} {i x : Int} (hx : x = 0 ∨ x = 1) (hk : k < n) (ht : tl k = 14) (hN : ln k = N) (hm : N < 2147483648) (hi : 0 ≤ i ∧ i < (N : Int)) (hd : decode cc pc = .ok (.bastore, 1))
    (kk : ∀ (H1 : Heap) (locs1 : List Loc), ST E s n z (up M k i.toNat x) H1 locs1 → W p l e R s m args below meth c H1 locs1 cells slots Q (F0 m (pc + 1) ls rest)) : W p l e R s m args below meth c H locs cells slots Q (F0 m pc ls (i3 x :: i3 i :: .ref (eb E + k) :: rest)) := by
  have e1 := r3_nat hi.1 hi.2 hm
  have e2 : vp_nar .boolean (Int32.ofInt x) = Int32.ofInt x := by rcases hx with rfl | rfl <;> rfl
  refine va_zast C.hx C.hb C.hg.1 hH.1.1 (wl_D E n z M) hH.2 k 2 (cA := eC E 2) (n := N) (f := fun j => Int32.ofInt (M k j)) (by rw [wl_get hk, ent_arr ht (by decide) (by decide), hN]) rfl (r3_in hi.1 hi.2 hm) hd (fun H1 locs1 hP _ hS => ?_)
  rw [e1, e2, ← upd_up, wl_set (z' := z) (M' := up M k i.toNat x) (by rw [ent_arr ht (by decide) (by decide), hN]) (fun j hj => ent_cong (fun b => up_ne hj b) (fun _ => rfl))] at hP
  exact w_wrote C hz (by omega) hP hS (fun h => (nOf_up (tl_ne ht (by decide))).trans (hH.1.2.2.2 h)) (kk H1 locs1)
end RUL
