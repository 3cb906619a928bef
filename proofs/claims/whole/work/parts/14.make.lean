/-! making: a new cell is the next one -/
def zu (z : Zs) (k i : Nat) : Zs := fun a b => if a = k ∧ b = i then true else z a b
def mk1 (M : Mem) (k i : Nat) (x : Int) (n : Nat) : Mem := up (zr M n) k i x
theorem wl_push {E : EE} {n : Nat} {z : Zs} {M M' : Mem} {x : va_E} (he : ∀ k, k < n → ent E z M' k = ent E z M k) (hx : ent E z M' n = x) : wl E n z M ++ [(eb E + n, x)] = wl E (n + 1) z M' := by
  unfold wl
  rw [List.range_succ, List.map_append]
  congr 1
  · apply List.map_congr_left
    intro k hk
    rw [he k (List.mem_range.mp hk)]
  · simp [hx]
theorem zr_ne {M : Mem} {n k : Nat} (h : k ≠ n) (i : Nat) : zr M n k i = M k i := by simp [zr, h]
theorem zr_eq {M : Mem} {n i : Nat} : zr M n n i = 0 := by simp [zr]
theorem ent_zr {E : EE} {z : Zs} {M : Mem} {n k : Nat} (h : k < n) : ent E z (zr M n) k = ent E z M k := ent_cong (fun i => zr_ne (Nat.ne_of_lt h) i) (fun _ => rfl)
/-- cell 0 holds names alone: its numbers don't count -/
theorem ent_0 {E : EE} {z : Zs} {M M' : Mem} : ent E z M' 0 = ent E z M 0 := by
  have h10 : tl 0 = 10 := by decide +kernel
  rw [ent_obj h10 (by decide), ent_obj h10 (by decide)]
  congr 2
section MAK
variable {p : Program} {l : Launch} {e : Env} {R : Room} {s : State} {m : MethodId} {args : Array Value} {below : List Frame} {meth : Method} {c : Code} {H : Heap} {locs : List Loc} {cells slots : Nat} {Q : State → Prop}
variable {cc : ByteArray} {nL : Nat} {own nm0 : String} {ret : Option FieldType} {n0 : Nat} {E : EE} {n : Nat} {z : Zs} {M : Mem} {pc : Nat} {ls : Array Slot} {rest : List Value}
theorem hAfr (C : Cx E p s m args meth c cc nL own ret n0 nm0) : ∀ q, s.heap.size ≤ q → fr E q := fun q h => by have := C.hs; show eb E ≤ q; omega
/-- the address of what was made last -/
theorem w_next (C : Cx E p s m args meth c cc nL own ret n0 nm0) (hz : n0 + cells = n) {x : va_E} {q : Nat} {H1 : Heap} {locs1 : List Loc} {g : JFrame} (hP : va_P (eD E) vwCl (wl E n z M ++ [(q, x)]) H1) (hD : va_D (fr E) (wl E n z M ++ [(q, x)]))
    (kk : q = eb E + n → W p l e R s m args below meth c H1 locs1 (cells + 1) slots Q g) : W p l e R s m args below meth c H1 locs1 (cells + 1) slots Q g := by
  refine w_size fun h1 h2 => kk ?_
  have hq : (wl E n z M ++ [(q, x)])[n]? = some (q, x) := by rw [List.getElem?_append_right (by rw [wl_len]; exact Nat.le_refl n), wl_len]; simp
  have h3 : q < H1.size := (hP n _ hq).lt
  have h4 : eb E ≤ q := hD.2 n _ hq
  have hs := C.hs
  by_cases h5 : q = eb E + n
  · exact h5
  · exfalso
    have hk : q - eb E < n := by omega
    have h6 : (wl E n z M ++ [(q, x)])[q - eb E]? = some (eb E + (q - eb E), ent E z M (q - eb E)) := by rw [List.getElem?_append_left (by rw [wl_len]; exact hk), wl_get hk]
    have := hD.1 n (q - eb E) _ _ hq h6 (by show q = eb E + (q - eb E); omega)
    omega
theorem w_newA (C : Cx E p s m args meth c cc nL own ret n0 nm0) (hz : n0 + cells = n) (hH : ST E s n z M H locs) {ty : FieldType} {atype : ArrayType} {a N : Nat} (hty : newarray.typeOf atype = ty) (hw : Cond.arrayClass ty ∈ tblG) (hE : (tyE E)[a]? = some (eC E a, ty)) (hra : va_RA s (eC E a) ty = (s.vm.findClass ("[" ++ ty.toString) = some (eC E a))) (hra2 : ∀ cA, va_RA s cA ty = (s.vm.findClass ("[" ++ ty.toString) = some cA)) {a0 : vp_A} (ha : ∀ cA : ClassId, vp_cell cA a0 = arrV cA N (fun _ => defaultValue ty))
    (he : ent E z (zr M n) n = .inl (eC E a, a0)) (hN : N < 2147483648) (hbytes : N * componentBytes ty ≤ 536870912) (hcells : cells + 1 ≤ R.cells) (hslots : slots + N ≤ R.slots) (hq : nfull (n + 1) → nOf (zr M n) = n + 1) (hd : decode cc pc = .ok (.newarray atype, 2))
    (kk : ∀ (H1 : Heap), ST E s (n + 1) z (zr M n) H1 locs → W p l e R s m args below meth c H1 locs (cells + 1) (slots + N) Q (F0 m (pc + 2) ls (.ref (eb E + n) :: rest))) : W p l e R s m args below meth c H locs cells slots Q (F0 m pc ls (i3 (N : Int) :: rest)) := by
  have eN : (Int32.ofInt (N : Int)).toNatClampNeg = N := by
    show (Int32.ofInt (N : Int)).toInt.toNat = N
    rw [r3_to ⟨by omega, by omega⟩]; omega
  have hn : ¬ Int32.ofInt (N : Int) < 0 := fun q => by
    have := (r3_lt (x := (N : Int)) (y := 0) ⟨by omega, by omega⟩ ⟨by decide, by decide⟩).mp q
    omega
  refine va_newa C.hx C.hb (by rw [hty]; exact C.ht _ hw) hty C.hg.1 hH.1.1 (wl_D E n z M) hH.2 (hAfr C) (a0 := a0) ha hn eN hbytes hcells hslots hd (fun q cA H1 hK hP hD hS => ?_)
  have hc := (hK.2 (tyE E).length (cA, ty) (by simp)).2
  have hc0 := (C.hg.1.2 a _ hE).2
  rw [hra2] at hc; rw [hra] at hc0
  have hcA : cA = eC E a := Option.some.inj (hc.symm.trans hc0)
  subst hcA
  refine w_next C hz hP hD (fun e1 => ?_)
  subst e1
  rw [wl_push (M' := zr M n) (fun k h => ent_zr h) he] at hP
  exact w_wrote (cells := cells + 1) C (by omega) (by omega) hP hS hq (kk H1)
theorem w_newI (C : Cx E p s m args meth c cc nL own ret n0 nm0) (hz : n0 + cells = n) (hH : ST E s n z M H locs) {N : Nat} (hw : Cond.arrayClass .int ∈ tblG) (ht : tl n = 12) (hl : ln n = N) (hN : N * 4 ≤ 536870912) (hcells : cells + 1 ≤ R.cells) (hslots : slots + N ≤ R.slots) (hq : nfull (n + 1) → nOf (zr M n) = n + 1) (hd : decode cc pc = .ok (.newarray .int, 2))
    (kk : ∀ (H1 : Heap), ST E s (n + 1) z (zr M n) H1 locs → W p l e R s m args below meth c H1 locs (cells + 1) (slots + N) Q (F0 m (pc + 2) ls (.ref (eb E + n) :: rest))) : W p l e R s m args below meth c H locs cells slots Q (F0 m pc ls (i3 (N : Int) :: rest)) :=
  w_newA (a := 0) (a0 := (N, .inl (fun _ => Int32.ofInt 0))) (ty := .int) C hz hH rfl hw rfl rfl (fun _ => rfl) (fun _ => rfl) (by rw [ent_arr ht (by decide) (by decide), hl]; simp only [zr_eq]) (by omega) hN hcells hslots hq hd kk
theorem w_newB (C : Cx E p s m args meth c cc nL own ret n0 nm0) (hz : n0 + cells = n) (hH : ST E s n z M H locs) {N : Nat} (hw : Cond.arrayClass .byte ∈ tblG) (ht : tl n = 13) (hl : ln n = N) (hN : N * 4 ≤ 536870912) (hcells : cells + 1 ≤ R.cells) (hslots : slots + N ≤ R.slots) (hq : nfull (n + 1) → nOf (zr M n) = n + 1) (hd : decode cc pc = .ok (.newarray .byte, 2))
    (kk : ∀ (H1 : Heap), ST E s (n + 1) z (zr M n) H1 locs → W p l e R s m args below meth c H1 locs (cells + 1) (slots + N) Q (F0 m (pc + 2) ls (.ref (eb E + n) :: rest))) : W p l e R s m args below meth c H locs cells slots Q (F0 m pc ls (i3 (N : Int) :: rest)) :=
  w_newA (a := 1) (a0 := (N, .inl (fun _ => Int32.ofInt 0))) (ty := .byte) C hz hH rfl hw rfl rfl (fun _ => rfl) (fun _ => rfl) (by rw [ent_arr ht (by decide) (by decide), hl]; simp only [zr_eq]) (by omega) (by show N * 1 ≤ _; omega) hcells hslots hq hd kk
theorem w_newZ (C : Cx E p s m args meth c cc nL own ret n0 nm0) (hz : n0 + cells = n) (hH : ST E s n z M H locs) {N : Nat} (hw : Cond.arrayClass .boolean ∈ tblG) (ht : tl n = 14) (hl : ln n = N) (hN : N * 4 ≤ 536870912) (hcells : cells + 1 ≤ R.cells) (hslots : slots + N ≤ R.slots) (hq : nfull (n + 1) → nOf (zr M n) = n + 1) (hd : decode cc pc = .ok (.newarray .boolean, 2))
    (kk : ∀ (H1 : Heap), ST E s (n + 1) z (zr M n) H1 locs → W p l e R s m args below meth c H1 locs (cells + 1) (slots + N) Q (F0 m (pc + 2) ls (.ref (eb E + n) :: rest))) : W p l e R s m args below meth c H locs cells slots Q (F0 m pc ls (i3 (N : Int) :: rest)) :=
  w_newA (a := 2) (a0 := (N, .inl (fun _ => Int32.ofInt 0))) (ty := .boolean) C hz hH rfl hw rfl rfl (fun _ => rfl) (fun _ => rfl) (by rw [ent_arr ht (by decide) (by decide), hl]; simp only [zr_eq]) (by omega) (by show N * 1 ≤ _; omega) hcells hslots hq hd kk
theorem w_newJ (C : Cx E p s m args meth c cc nL own ret n0 nm0) (hz : n0 + cells = n) (hH : ST E s n z M H locs) {N : Nat} (hw : Cond.arrayClass .long ∈ tblG) (ht : tl n = 15) (hl : ln n = N) (hN : N * 8 ≤ 536870912) (hcells : cells + 1 ≤ R.cells) (hslots : slots + N ≤ R.slots) (hq : nfull (n + 1) → nOf (zr M n) = n + 1) (hd : decode cc pc = .ok (.newarray .long, 2))
    (kk : ∀ (H1 : Heap), ST E s (n + 1) z (zr M n) H1 locs → W p l e R s m args below meth c H1 locs (cells + 1) (slots + N) Q (F0 m (pc + 2) ls (.ref (eb E + n) :: rest))) : W p l e R s m args below meth c H locs cells slots Q (F0 m pc ls (i3 (N : Int) :: rest)) :=
  w_newA (a := 3) (a0 := (N, .inr (.inl (fun _ => Int64.ofInt 0)))) (ty := .long) C hz hH rfl hw rfl rfl (fun _ => rfl) (fun _ => rfl) (by rw [ent_lng ht, hl]; simp only [zr_eq]) (by omega) hN hcells hslots hq hd kk
theorem w_newT (C : Cx E p s m args meth c cc nL own ret n0 nm0) (hz : n0 + cells = n) (hH : ST E s n z M H locs) {N idx : Nat} (hw : Cond.classLink own idx "HeavierByHand$Text" ∈ tblG) (ht : tl n = 16) (hl : ln n = N) (hzn : ∀ i, z n i = false) (hN : N * 4 ≤ 536870912) (hcells : cells + 1 ≤ R.cells) (hslots : slots + N ≤ R.slots) (hq : nfull (n + 1) → nOf (zr M n) = n + 1) (hd : decode cc pc = .ok (.anewarray idx, 3))
    (kk : ∀ (H1 : Heap), ST E s (n + 1) z (zr M n) H1 locs → W p l e R s m args below meth c H1 locs (cells + 1) (slots + N) Q (F0 m (pc + 3) ls (.ref (eb E + n) :: rest))) : W p l e R s m args below meth c H locs cells slots Q (F0 m pc ls (i3 (N : Int) :: rest)) := by
  have eN : (Int32.ofInt (N : Int)).toNatClampNeg = N := by
    show (Int32.ofInt (N : Int)).toInt.toNat = N
    rw [r3_to ⟨by omega, by omega⟩]; omega
  have hn : ¬ Int32.ofInt (N : Int) < 0 := fun q => by
    have := (r3_lt (x := (N : Int)) (y := 0) ⟨by omega, by omega⟩ ⟨by decide, by decide⟩).mp q
    omega
  refine va_newq C.hx C.hb C.ho (C.ht _ hw) C.hg.2.2.2.2.2.2.2.1 C.hg.1 hH.1.1 (wl_D E n z M) hH.2 (hAfr C) hn eN hN hcells hslots hd (fun q cA H1 hK hP hD hS => ?_)
  have hc := (hK.2 (tyE E).length (cA, .object "HeavierByHand$Text") (by simp)).2
  have hc0 := (C.hg.1.2 4 (eC E 4, .object "HeavierByHand$Text") rfl).2
  obtain ⟨-, -, -, -, -, hc⟩ := hc
  obtain ⟨-, -, -, -, -, hc0⟩ := hc0
  have hcA : cA = eC E 4 := Option.some.inj (hc.symm.trans hc0)
  subst hcA
  refine w_next C hz hP hD (fun e1 => ?_)
  subst e1
  rw [wl_push (M' := zr M n) (fun k h => ent_zr h) (by rw [ent_txt ht, hl]; simp [hzn])] at hP
  exact w_wrote (cells := cells + 1) C (by omega) (by omega) hP hS hq (kk H1)
theorem w_newO (C : Cx E p s m args meth c cc nL own ret n0 nm0) (hz : n0 + cells = n) (hH : ST E s n z M H locs) {ci N idx : Nat} {M' : Mem} (hM : ∀ k i, k ≠ 0 → M' k i = zr M n k i) (hn0 : n ≠ 0 ∨ M' = zr M n) (ht : tl n = ci) (hc : ci < 12) (hzn : ∀ i, z n i = false) (hl : Cond.classLink own idx (cCl ci).1 ∈ tblG) (hin : Cond.instantiable (cCl ci).1 (cCl ci).2.2 ∈ tblG) (hini : Cond.initialized (cCl ci).1 ∈ tblG) (hNn : (tm ci).length = N)
    (hfs : ∀ j, j < N → ∀ ty, parseFieldDescriptor ((cCl ci).2.1 j).2.2.1 = some ty → defaultValue ty = fv 0 (fun _ _ => false) (fun _ _ => 0) 0 0 ((tm ci).getD j 0)) (hcells : cells + 1 ≤ R.cells) (hslots : slots + N ≤ R.slots) (hq : nfull (n + 1) → nOf M' = n + 1) (hd : decode cc pc = .ok (.new idx, 3))
    (kk : ∀ (H1 : Heap), ST E s (n + 1) z M' H1 locs → W p l e R s m args below meth c H1 locs (cells + 1) (slots + N) Q (F0 m (pc + 3) ls (.ref (eb E + n) :: rest))) : W p l e R s m args below meth c H locs cells slots Q (F0 m pc ls rest) := by
  obtain ⟨CN, T, N', ty, h1, h2, h3, h4, h5⟩ := clOG ci hc
  rw [cCl_of h1] at hl hin hini hfs
  have hNN : N' = N := by rw [← h3, hNn]
  subst hNN
  refine va_new (ci := ci) (fs := (tm ci).mapIdx (fun i t => fv (eb E) z (zr M n) n i t)) (C := CN) (T := T) (N := N') C.hx C.hb C.ht h2 ty h4 C.ho (C.ht _ hl) (C.ht _ hin) (C.ht _ hini) C.hg.1 hH.1.1 (wl_D E n z M) hH.2 (hAfr C) h1 (fun j hj => ?_) hcells hslots hd (fun q H1 hP hD hS => ?_)
  · have hj2 : j < (tm ci).length := by rw [hNn]; exact hj
    have hg : (tm ci)[j]? = some ((tm ci).getD j 0) := by rw [List.getD_eq_getElem?_getD, List.getElem?_eq_getElem hj2]; rfl
    rw [hfs j hj (ty j) (h4 j hj)]
    unfold vp_V
    generalize (tm ci).getD j 0 = t0 at hg ⊢
    rw [List.getD_eq_getElem?_getD, fs_get hg]
    cases t0 with
    | zero => simp [fv, zr_eq]
    | succ t => simp [fv, hzn]
  · refine w_next C hz hP hD (fun e1 => ?_)
    subst e1
    have e2 : ∀ k, k ≠ 0 ∨ M' = zr M n → ent E z M' k = ent E z (zr M n) k := by
      intro k hk
      rcases hk with hk | hk
      · exact ent_cong (fun i => hM k i hk) (fun _ => rfl)
      · rw [hk]
    rw [wl_push (M' := M') (fun k h => by
      by_cases h0 : k = 0
      · subst h0; exact ent_0
      · rw [e2 k (Or.inl h0)]; exact ent_zr h) (by rw [e2 n hn0, ent_obj ht hc])] at hP
    exact w_wrote (cells := cells + 1) C (by omega) (by omega) hP hS hq (kk H1)
theorem ent_zu {ci i off k : Nat} (ht : tl k = ci) (hc : ci < 12) (hf : (tm ci)[i]? = some (off + 1)) : ent E (zu z k i) M k = .inr (ci, ((tm ci).mapIdx (fun i t => fv (eb E) z M k i t)).set i (.ref (eb E + (k + off)))) := by
  rw [ent_obj ht hc, fs_set (z' := zu z k i) (M' := M)]
  · intro t h; rw [hf] at h; cases h; simp [fv, zu]
  · intro j t hj; cases t <;> simp [fv, zu, hj]
theorem w_putF (C : Cx E p s m args meth c cc nL own ret n0 "<init>") (hz : n0 + cells = n) (hH : ST E s n z M H locs) {k ci i idx off : Nat} {ty : FieldType} (hk : k < n) (ht : tl k = ci) (hc : ci < 12) (hf : (tm ci)[i]? = some (off + 1)) (hl : FL own idx ci i) (hfin : ((cCl ci).2.1 i).2.2.2 = true) (hcl : (cCl ci).1 = own) (hty : parseFieldDescriptor ((cCl ci).2.1 i).2.2.1 = some ty) (hnar : ∀ a, narrow ty (.ref a) = .ref a) (hfit : ∀ a, fits ty (.ref a) = true) (hd : decode cc pc = .ok (.putfield idx, 3))
    (kk : ∀ (H1 : Heap) (locs1 : List Loc), ST E s n (zu z k i) M H1 locs1 → W p l e R s m args below meth c H1 locs1 cells slots Q (F0 m (pc + 3) ls rest)) : W p l e R s m args below meth c H locs cells slots Q (F0 m pc ls (.ref (eb E + (k + off)) :: .ref (eb E + k) :: rest)) := by
  obtain ⟨CN, T, N, ty0, h1, h2, h3, h4, h5⟩ := clOG ci hc
  have hi : i < N := by rw [← h3]; exact (List.getElem?_eq_some_iff.mp hf).1
  have hl' := hl; rw [FL, cCl_of h1] at hl'
  rw [cCl_of h1] at hfin hcl hty
  refine va_putF C.hx C.hb (Ts := tblG) (C := CN) (T := T) (N := N) (ref := CN) (index := idx) (v := .ref (eb E + (k + off))) (tys := tyE E) (ty := ty) C.ht h2 ty0 h4 h5 C.ho C.hg.1 hH.1.1 (wl_D E n z M) hH.2 k (by rw [wl_get hk, ent_obj ht hc]) h1 i hi (C.ht _ hl'.1) (by rw [hl'.2]; exact fun _ h => h) hfin C.hnm (by rw [hl'.2]; exact hcl) hty (hnar _) (hfit _) (by rw [fs_len, h3]; exact hi) hd (fun H1 locs1 hP _ hS => ?_)
  rw [← ent_zu ht hc hf, wl_set (z' := zu z k i) (M' := M) rfl (fun j hj => ent_cong (fun _ => rfl) (fun b => by simp [zu, hj]))] at hP
  exact w_wrote C hz (by omega) hP hS hH.1.2.2.2 (kk H1 locs1)
theorem w_putR (C : Cx E p s m args meth c cc nL own ret n0 nm0) (hz : n0 + cells = n) (hH : ST E s n z M H locs) {k ci i idx off : Nat} {ty : FieldType} (hk : k < n) (ht : tl k = ci) (hc : ci < 12) (hf : (tm ci)[i]? = some (off + 1)) (hl : FL own idx ci i) (hw : FW ci i ty) (hnar : ∀ a, narrow ty (.ref a) = .ref a) (hfit : ∀ a, fits ty (.ref a) = true) (hd : decode cc pc = .ok (.putfield idx, 3))
    (kk : ∀ (H1 : Heap) (locs1 : List Loc), ST E s n (zu z k i) M H1 locs1 → W p l e R s m args below meth c H1 locs1 cells slots Q (F0 m (pc + 3) ls rest)) : W p l e R s m args below meth c H locs cells slots Q (F0 m pc ls (.ref (eb E + (k + off)) :: .ref (eb E + k) :: rest)) := by
  obtain ⟨CN, T, N, ty0, h1, h2, h3, h4, h5⟩ := clOG ci hc
  have hi : i < N := by rw [← h3]; exact (List.getElem?_eq_some_iff.mp hf).1
  have hl' := hl; rw [FL, cCl_of h1] at hl'
  have hw' := hw; rw [FW, cCl_of h1] at hw'
  refine va_put C.hx C.hb (Ts := tblG) (C := CN) (T := T) (N := N) (ref := CN) (index := idx) (v := .ref (eb E + (k + off))) (tys := tyE E) (ty := ty) C.ht h2 ty0 h4 h5 C.ho C.hg.1 hH.1.1 (wl_D E n z M) hH.2 k (by rw [wl_get hk, ent_obj ht hc]) h1 i hi (C.ht _ hl'.1) (by rw [hl'.2]; exact fun _ h => h) hw'.1 hw'.2 (hnar _) (hfit _) (by rw [fs_len, h3]; exact hi) hd (fun H1 locs1 hP _ hS => ?_)
  rw [← ent_zu ht hc hf, wl_set (z' := zu z k i) (M' := M) rfl (fun j hj => ent_cong (fun _ => rfl) (fun b => by simp [zu, hj]))] at hP
  exact w_wrote C hz (by omega) hP hS hH.1.2.2.2 (kk H1 locs1)
theorem w_putFI (C : Cx E p s m args meth c cc nL own ret n0 "<init>") (hz : n0 + cells = n) (hH : ST E s n z M H locs) {k ci i idx : Nat} {x : Int} (hk : k < n) (ht : tl k = ci) (hc : ci < 12) (hf : (tm ci)[i]? = some 0) (hl : FL own idx ci i) (hfin : ((cCl ci).2.1 i).2.2.2 = true) (hcl : (cCl ci).1 = own) (hty : parseFieldDescriptor ((cCl ci).2.1 i).2.2.1 = some .int) (hd : decode cc pc = .ok (.putfield idx, 3))
    (kk : ∀ (H1 : Heap) (locs1 : List Loc), ST E s n z (up M k i x) H1 locs1 → W p l e R s m args below meth c H1 locs1 cells slots Q (F0 m (pc + 3) ls rest)) : W p l e R s m args below meth c H locs cells slots Q (F0 m pc ls (i3 x :: .ref (eb E + k) :: rest)) := by
  obtain ⟨CN, T, N, ty0, h1, h2, h3, h4, h5⟩ := clOG ci hc
  have hi : i < N := by rw [← h3]; exact (List.getElem?_eq_some_iff.mp hf).1
  have hl' := hl; rw [FL, cCl_of h1] at hl'
  rw [cCl_of h1] at hfin hcl hty
  refine va_putF C.hx C.hb (Ts := tblG) (C := CN) (T := T) (N := N) (ref := CN) (index := idx) (v := i3 x) (tys := tyE E) (ty := .int) C.ht h2 ty0 h4 h5 C.ho C.hg.1 hH.1.1 (wl_D E n z M) hH.2 k (by rw [wl_get hk, ent_obj ht hc]) h1 i hi (C.ht _ hl'.1) (by rw [hl'.2]; exact fun _ h => h) hfin C.hnm (by rw [hl'.2]; exact hcl) hty rfl rfl (by rw [fs_len, h3]; exact hi) hd (fun H1 locs1 hP _ hS => ?_)
  rw [← ent_putI ht hc hf, wl_set (z' := z) (M' := up M k i x) rfl (fun j hj => ent_cong (fun b => up_ne hj b) (fun _ => rfl))] at hP
  exact w_wrote C hz (by omega) hP hS (fun h => (nOf_up (tl_ne ht (tm_ne hf))).trans (hH.1.2.2.2 h)) (kk H1 locs1)
theorem w_astT (C : Cx E p s m args meth c cc nL own ret n0 nm0) (hz : n0 + cells = n) (hH : ST E s n z M H locs) {k N : Nat} {i : Nat} (hk : k < n) (ht : tl k = 16) (hN : ln k = N) (hi : i < N) (hm : N < 2147483648) (hk2 : k + (1 + 5 * i) < n) (ht2 : tl (k + (1 + 5 * i)) = 7) (hd : decode cc pc = .ok (.aastore, 1))
    (kk : ∀ (H1 : Heap) (locs1 : List Loc), ST E s n (zu z k i) M H1 locs1 → W p l e R s m args below meth c H1 locs1 cells slots Q (F0 m (pc + 1) ls rest)) : W p l e R s m args below meth c H locs cells slots Q (F0 m pc ls (.ref (eb E + (k + (1 + 5 * i))) :: i3 (i : Int) :: .ref (eb E + k) :: rest)) := by
  have hi0 : (0 : Int) ≤ (i : Int) := by omega
  have hi1 : (i : Int) < (N : Int) := by omega
  have e1 : (Int32.ofInt (i : Int)).toNatClampNeg = i := by rw [r3_nat hi0 hi1 hm]; omega
  obtain ⟨CN, T, N0, ty0, h1, -⟩ := clOG 7 (by decide)
  have hCN : ("HeavierByHand$Text" : String) = CN := by cases h1; rfl
  refine va_astq C.hx C.hb C.hg.1 hH.1.1 (wl_D E n z M) hH.2 k 4 (k + (1 + 5 * i)) 7 (cA := eC E 4) (r := (CN, T, N0)) (n := N) (f := fun j => if z k j then some (eb E + (k + (1 + 5 * j))) else none) (by rw [wl_get hk, ent_txt ht, hN]) (by rw [← hCN]; rfl) (by rw [wl_get hk2, ent_obj ht2 (by decide)]) h1 (r3_in hi0 hi1 hm) hd (fun H1 locs1 hP _ hS => ?_)
  have ef : va_up (fun j => if z k j then some (eb E + (k + (1 + 5 * j))) else none) i (some (eb E + (k + (1 + 5 * i)))) = fun j => if zu z k i k j then some (eb E + (k + (1 + 5 * j))) else none := by
    funext j
    by_cases hj : j = i
    · subst hj; simp [va_up, zu]
    · simp [va_up, zu, hj]
  rw [e1, ef, wl_set (z' := zu z k i) (M' := M) (by rw [ent_txt ht, hN]) (fun j hj => ent_cong (fun _ => rfl) (fun b => by simp [zu, hj]))] at hP
  exact w_wrote C hz (by omega) hP hS hH.1.2.2.2 (kk H1 locs1)
variable {y : MethodName} {cd : ByteArray} {ml fz lz mc ms np idx : Nat} {As : List Value} {n' : Nat} {z' : Zs} {M' : Mem}
theorem w_callI (C : Cx E p s m args meth c cc nL own ret n0 nm0) (hH : ST E s n z M H locs) {nv : List (Nat × Value)} (hlv : lv_has ls nL nv) {k : Nat} (hM : CT E l y cd ml none fz lz mc ms (.ref (eb E + k) :: As) n z M none n' z' M') (hn : n ≤ n')
    (hl : Cond.methodLink own idx y ∈ tblG) (hm : MF y cd ml none np) (hi : Cond.instanceMethod y ∈ tblG) (hy : y.name = "<init>") (hA : As.length = np) {st0 : List Value} (hst : st0 = As.reverse ++ .ref (eb E + k) :: rest) (hro : (rest.map fun v => v.category).sum ≤ 8) (hR : fz + 1 ≤ R.frames ∧ 8 + (ml + 11) + lz ≤ R.locals) (hcs : cells + mc ≤ R.cells ∧ slots + ms ≤ R.slots) (hd : decode cc pc = .ok (.invokespecial idx, 3))
    (kk : ∀ (H1 : Heap) (locs1 : List Loc), ST E s n' z' M' H1 locs1 → W p l e R s m args below meth c H1 locs1 (cells + mc) (slots + ms) Q (F0 m (pc + 3) ls rest)) : W p l e R s m args below meth c H locs cells slots Q (F0 m pc ls st0) := by
  subst hst
  have cw : CallB R s args own idx y cd ml none (.code y cd ml none :: tblG) { frames := fz, cells := mc, slots := ms, locals := lz } mc ms np := callB_of np C.ht (good_ws C hm) rfl rfl rfl (C.ht _ hm.2.1) (C.ht _ hl) hm.2.2 hR
  exact w_run C hH hn (va_runI (Ts := tblG) ⟨C.hx, C.hb, C.hml, C.ho, C.ht⟩ hM ⟨cw, hy, C.ht _ hi⟩ ⟨pc_blind _, pc_at C hH _⟩ rfl hA hlv.1 rfl (lv_room hro) hd hcs) kk
theorem w_callIN (C : Cx E p s m args meth c cc nL own ret n0 nm0) (hH : ST E s n z M H locs) {nv : List (Nat × Value)} (hlv : lv_has ls nL nv) {k : Nat} {host : String} (hM : CT E l y cd ml none fz lz mc ms (.ref (eb E + k) :: As) n z M none n' z' M') (hn : n ≤ n')
    (hl : Cond.methodLinkNest own idx y host ∈ nestL) (hm : MF y cd ml none np) (hi : Cond.instanceMethod y ∈ tblG) (hy : y.name = "<init>") (hA : As.length = np) {st0 : List Value} (hst : st0 = As.reverse ++ .ref (eb E + k) :: rest) (hro : (rest.map fun v => v.category).sum ≤ 8) (hR : fz + 1 ≤ R.frames ∧ 8 + (ml + 11) + lz ≤ R.locals) (hcs : cells + mc ≤ R.cells ∧ slots + ms ≤ R.slots) (hd : decode cc pc = .ok (.invokespecial idx, 3))
    (kk : ∀ (H1 : Heap) (locs1 : List Loc), ST E s n' z' M' H1 locs1 → W p l e R s m args below meth c H1 locs1 (cells + mc) (slots + ms) Q (F0 m (pc + 3) ls rest)) : W p l e R s m args below meth c H locs cells slots Q (F0 m pc ls st0) := by
  subst hst
  have cw := va_cnB (R := R) (rm := { frames := fz, cells := mc, slots := ms, locals := lz }) (mc := mc) (ms := ms) np C.ht (good_ws C hm) rfl rfl rfl (C.hg.2.1 _ hl) (C.ht _ hm.2.1) hm.2.2 hR
  exact w_run C hH hn (va_runIN (Ts := tblG) ⟨C.hx, C.hb, C.hml, C.ho, C.ht⟩ hM ⟨cw, hy, C.ht _ hi⟩ ⟨pc_blind _, pc_at C hH _⟩ rfl hA hlv.1 rfl (lv_room hro) hd hcs) kk
theorem w_oinit (C : Cx E p s m args meth c cc nL own ret n0 nm0) (hls : ls.size = nL) {k : Nat} (hl : Cond.methodLink own idx objectInit ∈ tblG) (hf : 1 ≤ R.frames) (hlo : (rest.map fun v => v.category).sum + 12 ≤ R.locals) (hd : decode cc pc = .ok (.invokespecial idx, 3))
    (kk : W p l e R s m args below meth c H locs cells slots Q (F0 m (pc + 3) ls rest)) : W p l e R s m args below meth c H locs cells slots Q (F0 m pc ls (.ref k :: rest)) :=
  W.objInit C.hx C.hb C.ho (C.ht _ hl) (C.ht _ LB_oi) (C.ht _ LB_oc) rfl (by rw [C.hml]; exact hls) rfl hd hf (by show 2 * 0 + _ + 12 ≤ _; omega) kk
end MAK
