/-! the words of the pure text -/
def rd {ρ : Type} (M : Mem) (k N : Nat) (i : Int) (f : Int → Option ρ) : Option ρ := if 0 ≤ i ∧ i < (N : Int) then f (M k i.toNat) else none
def wr {ρ : Type} (M : Mem) (k N : Nat) (i x : Int) (f : Mem → Option ρ) : Option ρ := if 0 ≤ i ∧ i < (N : Int) then f (up M k i.toNat x) else none
def wz {ρ : Type} (M : Mem) (k N : Nat) (i x : Int) (f : Mem → Option ρ) : Option ρ := if (0 ≤ i ∧ i < (N : Int)) ∧ (x = 0 ∨ x = 1) then f (up M k i.toNat x) else none
def st {ρ : Type} (M : Mem) (k i : Nat) (x : Int) (f : Mem → Option ρ) : Option ρ := f (up M k i x)
def sz {ρ : Type} (M : Mem) (k i : Nat) (x : Int) (f : Mem → Option ρ) : Option ρ := if x = 0 ∨ x = 1 then f (up M k i x) else none
def cm {ρ : Type} (M : Mem) (a b N : Nat) (f : Mem → Option ρ) : Option ρ := f (cp M a b N)
def nm {α ρ : Type} (x : α) (f : α → Option ρ) : Option ρ := f x
def cl {α ρ : Type} (a : Option (α × Mem)) (f : α → Mem → Option ρ) : Option ρ := match a with
  | none => none
  | some (x, M) => f x M
def cv {ρ : Type} (a : Option Mem) (f : Mem → Option ρ) : Option ρ := match a with
  | none => none
  | some M => f M
def cu {α ρ : Type} (a : Option α) (f : α → Option ρ) : Option ρ := match a with
  | none => none
  | some x => f x
def rt {ρ : Type} (k : Nat) (i : Int) (f : Nat → Option ρ) : Option ρ := if 0 ≤ i ∧ i < 4 then f (k + (1 + 5 * i.toNat)) else none
def lq1 {A1 ρ : Type} (F : (A1 → Option ρ) → A1 → Option ρ) : Nat → A1 → Option ρ
  | 0, _ => none
  | n + 1, a1 => F (lq1 F n) a1
def lq2 {A1 A2 ρ : Type} (F : (A1 → A2 → Option ρ) → A1 → A2 → Option ρ) : Nat → A1 → A2 → Option ρ
  | 0, _, _ => none
  | n + 1, a1, a2 => F (lq2 F n) a1 a2
def lq3 {A1 A2 A3 ρ : Type} (F : (A1 → A2 → A3 → Option ρ) → A1 → A2 → A3 → Option ρ) : Nat → A1 → A2 → A3 → Option ρ
  | 0, _, _, _ => none
  | n + 1, a1, a2, a3 => F (lq3 F n) a1 a2 a3
def lq4 {A1 A2 A3 A4 ρ : Type} (F : (A1 → A2 → A3 → A4 → Option ρ) → A1 → A2 → A3 → A4 → Option ρ) : Nat → A1 → A2 → A3 → A4 → Option ρ
  | 0, _, _, _, _ => none
  | n + 1, a1, a2, a3, a4 => F (lq4 F n) a1 a2 a3 a4
def lq5 {A1 A2 A3 A4 A5 ρ : Type} (F : (A1 → A2 → A3 → A4 → A5 → Option ρ) → A1 → A2 → A3 → A4 → A5 → Option ρ) : Nat → A1 → A2 → A3 → A4 → A5 → Option ρ
  | 0, _, _, _, _, _ => none
  | n + 1, a1, a2, a3, a4, a5 => F (lq5 F n) a1 a2 a3 a4 a5
def lq6 {A1 A2 A3 A4 A5 A6 ρ : Type} (F : (A1 → A2 → A3 → A4 → A5 → A6 → Option ρ) → A1 → A2 → A3 → A4 → A5 → A6 → Option ρ) : Nat → A1 → A2 → A3 → A4 → A5 → A6 → Option ρ
  | 0, _, _, _, _, _, _ => none
  | n + 1, a1, a2, a3, a4, a5, a6 => F (lq6 F n) a1 a2 a3 a4 a5 a6
theorem rd_of {ρ : Type} {M : Mem} {k N : Nat} {i : Int} {f : Int → Option ρ} {o : ρ} (h : rd M k N i f = some o) : (0 ≤ i ∧ i < (N : Int)) ∧ f (M k i.toNat) = some o := by
  unfold rd at h; split at h
  · exact ⟨by assumption, h⟩
  · cases h
theorem wr_of {ρ : Type} {M : Mem} {k N : Nat} {i x : Int} {f : Mem → Option ρ} {o : ρ} (h : wr M k N i x f = some o) : (0 ≤ i ∧ i < (N : Int)) ∧ f (up M k i.toNat x) = some o := by
  unfold wr at h; split at h
  · exact ⟨by assumption, h⟩
  · cases h
theorem wz_of {ρ : Type} {M : Mem} {k N : Nat} {i x : Int} {f : Mem → Option ρ} {o : ρ} (h : wz M k N i x f = some o) : ((0 ≤ i ∧ i < (N : Int)) ∧ (x = 0 ∨ x = 1)) ∧ f (up M k i.toNat x) = some o := by
  unfold wz at h; split at h
  · exact ⟨by assumption, h⟩
  · cases h
theorem sz_of {ρ : Type} {M : Mem} {k i : Nat} {x : Int} {f : Mem → Option ρ} {o : ρ} (h : sz M k i x f = some o) : (x = 0 ∨ x = 1) ∧ f (up M k i x) = some o := by
  unfold sz at h; split at h
  · exact ⟨by assumption, h⟩
  · cases h
theorem cl_of {α ρ : Type} {a : Option (α × Mem)} {f : α → Mem → Option ρ} {o : ρ} (h : cl a f = some o) : ∃ (x : α) (M : Mem), a = some (x, M) ∧ f x M = some o := by
  unfold cl at h; split at h
  · cases h
  · exact ⟨_, _, rfl, h⟩
theorem cv_of {ρ : Type} {a : Option Mem} {f : Mem → Option ρ} {o : ρ} (h : cv a f = some o) : ∃ (M : Mem), a = some M ∧ f M = some o := by
  unfold cv at h; split at h
  · cases h
  · exact ⟨_, rfl, h⟩
theorem cu_of {α ρ : Type} {a : Option α} {f : α → Option ρ} {o : ρ} (h : cu a f = some o) : ∃ (x : α), a = some x ∧ f x = some o := by
  unfold cu at h; split at h
  · cases h
  · exact ⟨_, rfl, h⟩
theorem rt_of {ρ : Type} {k : Nat} {i : Int} {f : Nat → Option ρ} {o : ρ} (h : rt k i f = some o) : (0 ≤ i ∧ i < 4) ∧ f (k + (1 + 5 * i.toNat)) = some o := by
  unfold rt at h; split at h
  · exact ⟨by assumption, h⟩
  · cases h
theorem ob_mono {n n' t c : Nat} (h : n ≤ n') (ho : ob n t c) : ob n' t c := ⟨ho.1, Nat.lt_of_lt_of_le ho.2 h⟩
section RU4
variable {p : Program} {l : Launch} {e : Env} {R : Room} {s : State} {m : MethodId} {args : Array Value} {below : List Frame} {meth : Method} {c : Code} {H : Heap} {locs : List Loc} {cells slots : Nat} {Q : State → Prop}
variable {cc : ByteArray} {nL : Nat} {own nm0 : String} {ret : Option FieldType} {n0 : Nat} {E : EE} {n : Nat} {M : Mem} {pc : Nat} {ls : Array Slot} {rest : List Value} {ρ : Type} {o : ρ} {X Y : Option ρ}
theorem r_iald (C : Cx E p s m args meth c cc nL own ret n0 nm0) (hH : ST E s n (zf n) M H locs) {k N : Nat} {i : Int} {f : Int → Option ρ} (ho : ob n k 12) (hN : ln k = N) (hf : rd M k N i f = some o) (hd : decode cc pc = .ok (.iaload, 1))
    (kk : ∀ x : Int, f x = some o → W p l e R s m args below meth c H locs cells slots Q (F0 m (pc + 1) ls (i3 x :: rest))) : W p l e R s m args below meth c H locs cells slots Q (F0 m pc ls (i3 i :: .ref (eb E + k) :: rest)) := w_iald C hH ho.2 ho.1 hN (hN ▸ ln_lt k) (rd_of hf).1 hd (kk _ (rd_of hf).2)
theorem r_bald (C : Cx E p s m args meth c cc nL own ret n0 nm0) (hH : ST E s n (zf n) M H locs) {k N : Nat} {i : Int} {f : Int → Option ρ} (ho : ob n k 13) (hN : ln k = N) (hf : rd M k N i f = some o) (hd : decode cc pc = .ok (.baload, 1))
    (kk : ∀ x : Int, f x = some o → W p l e R s m args below meth c H locs cells slots Q (F0 m (pc + 1) ls (i3 x :: rest))) : W p l e R s m args below meth c H locs cells slots Q (F0 m pc ls (i3 i :: .ref (eb E + k) :: rest)) := w_bald C hH ho.2 ho.1 hN (hN ▸ ln_lt k) (rd_of hf).1 hd (kk _ (rd_of hf).2)
theorem r_zald (C : Cx E p s m args meth c cc nL own ret n0 nm0) (hH : ST E s n (zf n) M H locs) {k N : Nat} {i : Int} {f : Int → Option ρ} (ho : ob n k 14) (hN : ln k = N) (hf : rd M k N i f = some o) (hd : decode cc pc = .ok (.baload, 1))
    (kk : ∀ x : Int, f x = some o → W p l e R s m args below meth c H locs cells slots Q (F0 m (pc + 1) ls (i3 x :: rest))) : W p l e R s m args below meth c H locs cells slots Q (F0 m pc ls (i3 i :: .ref (eb E + k) :: rest)) := w_zald C hH ho.2 ho.1 hN (hN ▸ ln_lt k) (rd_of hf).1 hd (kk _ (rd_of hf).2)
theorem r_lald (C : Cx E p s m args meth c cc nL own ret n0 nm0) (hH : ST E s n (zf n) M H locs) {k N : Nat} {i : Int} {f : Int → Option ρ} (ho : ob n k 15) (hN : ln k = N) (hf : rd M k N i f = some o) (hd : decode cc pc = .ok (.laload, 1))
    (kk : ∀ x : Int, f x = some o → W p l e R s m args below meth c H locs cells slots Q (F0 m (pc + 1) ls (l6 x :: rest))) : W p l e R s m args below meth c H locs cells slots Q (F0 m pc ls (i3 i :: .ref (eb E + k) :: rest)) := w_lald C hH ho.2 ho.1 hN (hN ▸ ln_lt k) (rd_of hf).1 hd (kk _ (rd_of hf).2)
theorem r_txt (C : Cx E p s m args meth c cc nL own ret n0 nm0) (hn : nfull n) (hH : ST E s n (zf n) M H locs) {k : Nat} {i : Int} {f : Nat → Option ρ} (ho : ob n k 16) (hf : rt k i f = some o) (hd : decode cc pc = .ok (.aaload, 1))
    (kk : ∀ q : Nat, ob n q 7 → f q = some o → W p l e R s m args below meth c H locs cells slots Q (F0 m (pc + 1) ls (.ref (eb E + q) :: rest))) : W p l e R s m args below meth c H locs cells slots Q (F0 m pc ls (i3 i :: .ref (eb E + k) :: rest)) := by
  obtain ⟨h1, h2⟩ := rt_of hf
  have hl := lyT hn ho (i := i.toNat) (by omega)
  exact w_aldT C hH ho.2 ho.1 hl.2 (by decide) h1 (zf_T hn ho (by omega)) hd (kk _ hl.1 h2)
theorem r_iast (C : Cx E p s m args meth c cc nL own ret n nm0) (hH : ST E s n (zf n) M H locs) {k N : Nat} {i x : Int} {f : Mem → Option ρ} (ho : ob n k 12) (hN : ln k = N) (hf : wr M k N i x f = some o) (hd : decode cc pc = .ok (.iastore, 1))
    (kk : ∀ (M1 : Mem) (H1 : Heap) (locs1 : List Loc), f M1 = some o → ST E s n (zf n) M1 H1 locs1 → W p l e R s m args below meth c H1 locs1 0 slots Q (F0 m (pc + 1) ls rest)) : W p l e R s m args below meth c H locs 0 slots Q (F0 m pc ls (i3 x :: i3 i :: .ref (eb E + k) :: rest)) := w_iast C (Nat.add_zero n) hH ho.2 ho.1 hN (hN ▸ ln_lt k) (wr_of hf).1 hd (fun H1 locs1 h => kk _ H1 locs1 (wr_of hf).2 h)
theorem r_last (C : Cx E p s m args meth c cc nL own ret n nm0) (hH : ST E s n (zf n) M H locs) {k N : Nat} {i x : Int} {f : Mem → Option ρ} (ho : ob n k 15) (hN : ln k = N) (hf : wr M k N i x f = some o) (hd : decode cc pc = .ok (.lastore, 1))
    (kk : ∀ (M1 : Mem) (H1 : Heap) (locs1 : List Loc), f M1 = some o → ST E s n (zf n) M1 H1 locs1 → W p l e R s m args below meth c H1 locs1 0 slots Q (F0 m (pc + 1) ls rest)) : W p l e R s m args below meth c H locs 0 slots Q (F0 m pc ls (l6 x :: i3 i :: .ref (eb E + k) :: rest)) := w_last C (Nat.add_zero n) hH ho.2 ho.1 hN (hN ▸ ln_lt k) (wr_of hf).1 hd (fun H1 locs1 h => kk _ H1 locs1 (wr_of hf).2 h)
theorem r_bast (C : Cx E p s m args meth c cc nL own ret n nm0) (hH : ST E s n (zf n) M H locs) {k N : Nat} {i x : Int} {f : Mem → Option ρ} (ho : ob n k 13) (hN : ln k = N) (hf : wr M k N i (i2bI x) f = some o) (hd : decode cc pc = .ok (.bastore, 1))
    (kk : ∀ (M1 : Mem) (H1 : Heap) (locs1 : List Loc), f M1 = some o → ST E s n (zf n) M1 H1 locs1 → W p l e R s m args below meth c H1 locs1 0 slots Q (F0 m (pc + 1) ls rest)) : W p l e R s m args below meth c H locs 0 slots Q (F0 m pc ls (i3 x :: i3 i :: .ref (eb E + k) :: rest)) := w_bast C (Nat.add_zero n) hH ho.2 ho.1 hN (hN ▸ ln_lt k) (wr_of hf).1 hd (fun H1 locs1 h => kk _ H1 locs1 (wr_of hf).2 h)
theorem r_zast (C : Cx E p s m args meth c cc nL own ret n nm0) (hH : ST E s n (zf n) M H locs) {k N : Nat} {i x : Int} {f : Mem → Option ρ} (ho : ob n k 14) (hN : ln k = N) (hf : wz M k N i x f = some o) (hd : decode cc pc = .ok (.bastore, 1))
    (kk : ∀ (M1 : Mem) (H1 : Heap) (locs1 : List Loc), f M1 = some o → ST E s n (zf n) M1 H1 locs1 → W p l e R s m args below meth c H1 locs1 0 slots Q (F0 m (pc + 1) ls rest)) : W p l e R s m args below meth c H locs 0 slots Q (F0 m pc ls (i3 x :: i3 i :: .ref (eb E + k) :: rest)) := w_zast C (Nat.add_zero n) hH (wz_of hf).1.2 ho.2 ho.1 hN (hN ▸ ln_lt k) (wz_of hf).1.1 hd (fun H1 locs1 h => kk _ H1 locs1 (wz_of hf).2 h)
theorem r_put (C : Cx E p s m args meth c cc nL own ret n nm0) (hH : ST E s n (zf n) M H locs) {k ci i idx : Nat} {x : Int} {f : Mem → Option ρ} (ho : ob n k ci) (hc : ci < 12) (ht : (tm ci)[i]? = some 0) (hl : FL own idx ci i) (hw : FW ci i .int) (hf : st M k i x f = some o) (hd : decode cc pc = .ok (.putfield idx, 3))
    (kk : ∀ (M1 : Mem) (H1 : Heap) (locs1 : List Loc), f M1 = some o → ST E s n (zf n) M1 H1 locs1 → W p l e R s m args below meth c H1 locs1 0 slots Q (F0 m (pc + 3) ls rest)) : W p l e R s m args below meth c H locs 0 slots Q (F0 m pc ls (i3 x :: .ref (eb E + k) :: rest)) := w_putI C (Nat.add_zero n) hH ho.2 ho.1 hc ht hl hw hd (fun H1 locs1 h => kk _ H1 locs1 hf h)
theorem r_putZ (C : Cx E p s m args meth c cc nL own ret n nm0) (hH : ST E s n (zf n) M H locs) {k ci i idx : Nat} {x : Int} {f : Mem → Option ρ} (ho : ob n k ci) (hc : ci < 12) (ht : (tm ci)[i]? = some 0) (hl : FL own idx ci i) (hw : FW ci i .boolean) (hf : sz M k i x f = some o) (hd : decode cc pc = .ok (.putfield idx, 3))
    (kk : ∀ (M1 : Mem) (H1 : Heap) (locs1 : List Loc), f M1 = some o → ST E s n (zf n) M1 H1 locs1 → W p l e R s m args below meth c H1 locs1 0 slots Q (F0 m (pc + 3) ls rest)) : W p l e R s m args below meth c H locs 0 slots Q (F0 m pc ls (i3 x :: .ref (eb E + k) :: rest)) := w_putZ C (Nat.add_zero n) hH (sz_of hf).1 ho.2 ho.1 hc ht hl hw hd (fun H1 locs1 h => kk _ H1 locs1 (sz_of hf).2 h)
theorem r_copy (C : Cx E p s m args meth c cc nL own ret n nm0) (hH : ST E s n (zf n) M H locs) {nv : List (Nat × Value)} (hlv : lv_has ls nL nv) {k0 k1 N0 N1 idx N : Nat} {f : Mem → Option ρ} (h0 : ob n k0 12) (h1 : ob n k1 12) (hN0 : ln k0 = N0) (hN1 : ln k1 = N1) (g0 : N ≤ N0) (g1 : N ≤ N1) (hN : N < 2147483648)
    (hf : cm M k0 k1 N f = some o) (hl : Cond.methodLink own idx arraycopyName ∈ tblG) (hfm : 1 ≤ R.frames) (hlo : (rest.map fun v => v.category).sum + (nativeFrameWords "java/lang/System" "arraycopy" 5 + 11) ≤ R.locals) (hd : decode cc pc = .ok (.invokestatic idx, 3))
    (kk : ∀ (M1 : Mem) (H1 : Heap) (locs1 : List Loc), f M1 = some o → ST E s n (zf n) M1 H1 locs1 → W p l e R s m args below meth c H1 locs1 0 slots Q (F0 m (pc + 3) ls rest)) : W p l e R s m args below meth c H locs 0 slots Q (F0 m pc ls (i3 (N : Int) :: i3 0 :: .ref (eb E + k1) :: i3 0 :: .ref (eb E + k0) :: rest)) :=
  w_copy C (Nat.add_zero n) hH hlv.1 h0.2 h1.2 h0.1 h1.1 hN0 hN1 g0 g1 hN hl LB_acn LB_acs LB_sysi hfm hlo hd (fun H1 locs1 h => kk _ H1 locs1 hf h)
theorem r_nm {x : Int} {f : Int → Option ρ} (hf : nm x f = some o) (kk : ∀ y : Int, f y = some o → W p l e R s m args below meth c H locs cells slots Q (F0 m pc ls (i3 y :: rest))) : W p l e R s m args below meth c H locs cells slots Q (F0 m pc ls (i3 x :: rest)) := kk x hf
theorem r_nmL {x : Int} {f : Int → Option ρ} (hf : nm x f = some o) (kk : ∀ y : Int, f y = some o → W p l e R s m args below meth c H locs cells slots Q (F0 m pc ls (l6 y :: rest))) : W p l e R s m args below meth c H locs cells slots Q (F0 m pc ls (l6 x :: rest)) := kk x hf
theorem r_iinc (C : Cx E p s m args meth c cc nL own ret n0 nm0) {i k : Nat} {d x : Int} {f : Int → Option ρ} {lv : List (Nat × Value)} {lv' : Int → List (Nat × Value)} (hf : nm (x + d) f = some o) (hd : decode cc pc = .ok (.iinc i d, 3)) (h : lv_has ls nL lv) (hk : lv[k]? = some (i, i3 x)) (hn : i < nL) (hl : ∀ v : Int, (i, i3 v) :: lv.filter (fun q => !(q.1 == i) && !(q.1 + 1 == i && q.2.category == 2)) = lv' v)
    (kk : ∀ (v : Int) (ls' : Array Slot), f v = some o → lv_has ls' nL (lv' v) → W p l e R s m args below meth c H locs cells slots Q (F0 m (pc + 3) ls' rest)) : W p l e R s m args below meth c H locs cells slots Q (F0 m pc ls rest) :=
  lv_iinc (v := Int32.ofInt (x + d)) C.hx C.hb hd h hk (Int32.ofInt_add x d).symm hn (hl (x + d)) (fun ls' h' => kk _ ls' hf h')
variable {y : MethodName} {cd : ByteArray} {ml fz lz np idx : Nat} {rt : Option FieldType} {As : List Value} {v : Option Value} {M' : Mem}
theorem r_callVi {w : Value} (C : Cx E p s m args meth c cc nL own ret n0 nm0) (hH : ST E s n (zf n) M H locs) {nv : List (Nat × Value)} (hlv : lv_has ls nL nv) {k ci : Nat} (ho : ob n k ci) (hc : ci < 12) (hcl : y.cls = (cCl ci).1) (hM : CT E l y cd ml rt fz lz 0 0 (.ref (eb E + k) :: As) n (zf n) M (some w) n (zf n) M')
    (hl : Cond.methodLink own idx y ∈ tblG) (hm : MF y cd ml rt np) (hi : MI y) (hA : As.length = np) {st0 : List Value} (hst : st0 = As.reverse ++ .ref (eb E + k) :: rest) (hro : (rest.map fun v => v.category).sum ≤ 8) (hR : fz + 1 ≤ R.frames ∧ 8 + (ml + 11) + lz ≤ R.locals) (hcs : cells ≤ R.cells ∧ slots ≤ R.slots) (hd : decode cc pc = .ok (.invokevirtual idx, 3))
    (kk : ∀ (H1 : Heap) (locs1 : List Loc), ST E s n (zf n) M' H1 locs1 → W p l e R s m args below meth c H1 locs1 cells slots Q (F0 m (pc + 3) ls (w :: rest))) : W p l e R s m args below meth c H locs cells slots Q (F0 m pc ls st0) := w_callV C hH hlv ho.2 ho.1 hc hcl hM (Nat.le_refl n) hl hm hi hA hst hro hR hcs hd kk
theorem r_callVv (C : Cx E p s m args meth c cc nL own ret n0 nm0) (hH : ST E s n (zf n) M H locs) {nv : List (Nat × Value)} (hlv : lv_has ls nL nv) {k ci : Nat} (ho : ob n k ci) (hc : ci < 12) (hcl : y.cls = (cCl ci).1) (hM : CT E l y cd ml rt fz lz 0 0 (.ref (eb E + k) :: As) n (zf n) M none n (zf n) M')
    (hl : Cond.methodLink own idx y ∈ tblG) (hm : MF y cd ml rt np) (hi : MI y) (hA : As.length = np) {st0 : List Value} (hst : st0 = As.reverse ++ .ref (eb E + k) :: rest) (hro : (rest.map fun v => v.category).sum ≤ 8) (hR : fz + 1 ≤ R.frames ∧ 8 + (ml + 11) + lz ≤ R.locals) (hcs : cells ≤ R.cells ∧ slots ≤ R.slots) (hd : decode cc pc = .ok (.invokevirtual idx, 3))
    (kk : ∀ (H1 : Heap) (locs1 : List Loc), ST E s n (zf n) M' H1 locs1 → W p l e R s m args below meth c H1 locs1 cells slots Q (F0 m (pc + 3) ls rest)) : W p l e R s m args below meth c H locs cells slots Q (F0 m pc ls st0) := w_callV C hH hlv ho.2 ho.1 hc hcl hM (Nat.le_refl n) hl hm hi hA hst hro hR hcs hd kk
theorem r_callSi {w : Value} (C : Cx E p s m args meth c cc nL own ret n0 nm0) (hH : ST E s n (zf n) M H locs) {nv : List (Nat × Value)} (hlv : lv_has ls nL nv) (hM : CT E l y cd ml rt fz lz 0 0 As n (zf n) M (some w) n (zf n) M')
    (hl : Cond.methodLink own idx y ∈ tblG) (hm : MF y cd ml rt np) (hi : Cond.static y ∈ tblG) (hA : As.length = np) {st0 : List Value} (hst : st0 = As.reverse ++ rest) (hro : (rest.map fun v => v.category).sum ≤ 8) (hR : fz + 1 ≤ R.frames ∧ 8 + (ml + 11) + lz ≤ R.locals) (hcs : cells ≤ R.cells ∧ slots ≤ R.slots) (hd : decode cc pc = .ok (.invokestatic idx, 3))
    (kk : ∀ (H1 : Heap) (locs1 : List Loc), ST E s n (zf n) M' H1 locs1 → W p l e R s m args below meth c H1 locs1 cells slots Q (F0 m (pc + 3) ls (w :: rest))) : W p l e R s m args below meth c H locs cells slots Q (F0 m pc ls st0) := w_callS C hH hlv hM (Nat.le_refl n) hl hm hi hA hst hro hR hcs hd kk
theorem r_callSv (C : Cx E p s m args meth c cc nL own ret n0 nm0) (hH : ST E s n (zf n) M H locs) {nv : List (Nat × Value)} (hlv : lv_has ls nL nv) (hM : CT E l y cd ml rt fz lz 0 0 As n (zf n) M none n (zf n) M')
    (hl : Cond.methodLink own idx y ∈ tblG) (hm : MF y cd ml rt np) (hi : Cond.static y ∈ tblG) (hA : As.length = np) {st0 : List Value} (hst : st0 = As.reverse ++ rest) (hro : (rest.map fun v => v.category).sum ≤ 8) (hR : fz + 1 ≤ R.frames ∧ 8 + (ml + 11) + lz ≤ R.locals) (hcs : cells ≤ R.cells ∧ slots ≤ R.slots) (hd : decode cc pc = .ok (.invokestatic idx, 3))
    (kk : ∀ (H1 : Heap) (locs1 : List Loc), ST E s n (zf n) M' H1 locs1 → W p l e R s m args below meth c H1 locs1 cells slots Q (F0 m (pc + 3) ls rest)) : W p l e R s m args below meth c H locs cells slots Q (F0 m pc ls st0) := w_callS C hH hlv hM (Nat.le_refl n) hl hm hi hA hst hro hR hcs hd kk
theorem r_callSNi {w : Value} (C : Cx E p s m args meth c cc nL own ret n0 nm0) (hH : ST E s n (zf n) M H locs) {nv : List (Nat × Value)} (hlv : lv_has ls nL nv) {host : String} (hM : CT E l y cd ml rt fz lz 0 0 As n (zf n) M (some w) n (zf n) M')
    (hl : Cond.methodLinkNest own idx y host ∈ nestL) (hm : MF y cd ml rt np) (hi : Cond.static y ∈ tblG) (hA : As.length = np) {st0 : List Value} (hst : st0 = As.reverse ++ rest) (hro : (rest.map fun v => v.category).sum ≤ 8) (hR : fz + 1 ≤ R.frames ∧ 8 + (ml + 11) + lz ≤ R.locals) (hcs : cells ≤ R.cells ∧ slots ≤ R.slots) (hd : decode cc pc = .ok (.invokestatic idx, 3))
    (kk : ∀ (H1 : Heap) (locs1 : List Loc), ST E s n (zf n) M' H1 locs1 → W p l e R s m args below meth c H1 locs1 cells slots Q (F0 m (pc + 3) ls (w :: rest))) : W p l e R s m args below meth c H locs cells slots Q (F0 m pc ls st0) := w_callSN C hH hlv hM (Nat.le_refl n) hl hm hi hA hst hro hR hcs hd kk
theorem r_callSNv (C : Cx E p s m args meth c cc nL own ret n0 nm0) (hH : ST E s n (zf n) M H locs) {nv : List (Nat × Value)} (hlv : lv_has ls nL nv) {host : String} (hM : CT E l y cd ml rt fz lz 0 0 As n (zf n) M none n (zf n) M')
    (hl : Cond.methodLinkNest own idx y host ∈ nestL) (hm : MF y cd ml rt np) (hi : Cond.static y ∈ tblG) (hA : As.length = np) {st0 : List Value} (hst : st0 = As.reverse ++ rest) (hro : (rest.map fun v => v.category).sum ≤ 8) (hR : fz + 1 ≤ R.frames ∧ 8 + (ml + 11) + lz ≤ R.locals) (hcs : cells ≤ R.cells ∧ slots ≤ R.slots) (hd : decode cc pc = .ok (.invokestatic idx, 3))
    (kk : ∀ (H1 : Heap) (locs1 : List Loc), ST E s n (zf n) M' H1 locs1 → W p l e R s m args below meth c H1 locs1 cells slots Q (F0 m (pc + 3) ls rest)) : W p l e R s m args below meth c H locs cells slots Q (F0 m pc ls st0) := w_callSN C hH hlv hM (Nat.le_refl n) hl hm hi hA hst hro hR hcs hd kk
variable {off dflt lo hi : Int} {tgt len : Nat} {offs : Array Int} {ps : Array (Int × Int)}
theorem r_tab (C : Cx E p s m args meth c cc nL own ret n0 nm0) {x j : Int} (hx : x = j) (hj : R3 j) (hd : decode cc pc = .ok (.tableswitch dflt lo hi offs, len)) (h1 : lo ≤ j) (h2 : j ≤ hi) (ho : offs[(j - lo).toNat]? = some off) (ht : (pc : Int) + off = (tgt : Int)) (kk : W p l e R s m args below meth c H locs cells slots Q (F0 m tgt ls rest)) : W p l e R s m args below meth c H locs cells slots Q (F0 m pc ls (i3 x :: rest)) := by
  subst hx
  have e := r3_to hj
  exact lv_tableIn C.hx C.hb hd (by rw [e]; omega) (by rw [e]; omega) (by rw [e]; exact ho) ht kk
theorem r_tabO (C : Cx E p s m args meth c cc nL own ret n0 nm0) {x : Int} (hx : R3 x) (hd : decode cc pc = .ok (.tableswitch dflt lo hi offs, len)) (h : x < lo ∨ hi < x) (ht : (pc : Int) + dflt = (tgt : Int)) (kk : W p l e R s m args below meth c H locs cells slots Q (F0 m tgt ls rest)) : W p l e R s m args below meth c H locs cells slots Q (F0 m pc ls (i3 x :: rest)) := by
  have e := r3_to hx
  exact lv_tableOut C.hx C.hb hd (by rw [e]; exact h) ht kk
theorem r_look (C : Cx E p s m args meth c cc nL own ret n0 nm0) {x : Int} (hx : R3 x) (hd : decode cc pc = .ok (.lookupswitch dflt ps, len)) (hp : (ps.toList.zip (ps.toList.drop 1)).all (fun (a, next) => a.1 < next.1) = true) (ho : Op.lookupswitch.offset ps.toList dflt x = off) (ht : (pc : Int) + off = (tgt : Int)) (kk : W p l e R s m args below meth c H locs cells slots Q (F0 m tgt ls rest)) : W p l e R s m args below meth c H locs cells slots Q (F0 m pc ls (i3 x :: rest)) :=
  lv_lookup C.hx C.hb hd hp (by rw [r3_to hx]; exact ho) ht kk
theorem r_ldc (C : Cx E p s m args meth c cc nL own ret n0 nm0) {x : Int} (hc : Cond.constant own idx (Int32.ofInt x) ∈ tblG) (hd : decode cc pc = .ok (.ldc idx, 2)) (kk : W p l e R s m args below meth c H locs cells slots Q (F0 m (pc + 2) ls (i3 x :: rest))) : W p l e R s m args below meth c H locs cells slots Q (F0 m pc ls rest) := lv_ldc C.hx C.hb C.ho (C.ht _ hc) hd kk
theorem r_ldcw (C : Cx E p s m args meth c cc nL own ret n0 nm0) {x : Int} (hc : Cond.constant own idx (Int32.ofInt x) ∈ tblG) (hd : decode cc pc = .ok (.ldc_w idx, 3)) (kk : W p l e R s m args below meth c H locs cells slots Q (F0 m (pc + 3) ls (i3 x :: rest))) : W p l e R s m args below meth c H locs cells slots Q (F0 m pc ls rest) := lv_ldcw C.hx C.hb C.ho (C.ht _ hc) hd kk
theorem r_ldc2 (C : Cx E p s m args meth c cc nL own ret n0 nm0) {x : Int} (hc : Cond.constantLong own idx (Int64.ofInt x) ∈ tblG) (hd : decode cc pc = .ok (.ldc2_w idx, 3)) (kk : W p l e R s m args below meth c H locs cells slots Q (F0 m (pc + 3) ls (l6 x :: rest))) : W p l e R s m args below meth c H locs cells slots Q (F0 m pc ls rest) := lv_ldc2 C.hx C.hb C.ho (C.ht _ hc) hd kk
end RU4
