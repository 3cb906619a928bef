def rf (E : EE) (o : Option Nat) : Value := match o with
  | none => .null
  | some k => .ref (eb E + k)
section RU2
variable {p : Program} {l : Launch} {e : Env} {R : Room} {s : State} {m : MethodId} {args : Array Value} {below : List Frame} {meth : Method} {c : Code} {H : Heap} {locs : List Loc} {cells slots : Nat} {Q : State → Prop}
variable {cc : ByteArray} {nL : Nat} {own nm : String} {ret : Option FieldType} {n0 : Nat} {E : EE} {n : Nat} {z : Zs} {M : Mem} {pc : Nat} {ls : Array Slot} {rest : List Value}
theorem w_iadd (C : Cx E p s m args meth c cc nL own ret n0 nm) {a b : Int} (hd : decode cc pc = .ok (.iadd, 1)) (kk : W p l e R s m args below meth c H locs cells slots Q (F0 m (pc + 1) ls (i3 (a + b) :: rest))) : W p l e R s m args below meth c H locs cells slots Q (F0 m pc ls (i3 b :: i3 a :: rest)) :=
  lv_iadd C.hx C.hb hd (by rw [← Int32.ofInt_add]; exact kk)
theorem w_isub (C : Cx E p s m args meth c cc nL own ret n0 nm) {a b : Int} (hd : decode cc pc = .ok (.isub, 1)) (kk : W p l e R s m args below meth c H locs cells slots Q (F0 m (pc + 1) ls (i3 (a - b) :: rest))) : W p l e R s m args below meth c H locs cells slots Q (F0 m pc ls (i3 b :: i3 a :: rest)) :=
  lv_isub C.hx C.hb hd (by rw [← Int32.ofInt_sub]; exact kk)
theorem w_imul (C : Cx E p s m args meth c cc nL own ret n0 nm) {a b : Int} (hd : decode cc pc = .ok (.imul, 1)) (kk : W p l e R s m args below meth c H locs cells slots Q (F0 m (pc + 1) ls (i3 (a * b) :: rest))) : W p l e R s m args below meth c H locs cells slots Q (F0 m pc ls (i3 b :: i3 a :: rest)) :=
  lv_imul C.hx C.hb hd (by rw [← Int32.ofInt_mul]; exact kk)
theorem w_ineg (C : Cx E p s m args meth c cc nL own ret n0 nm) {a : Int} (hd : decode cc pc = .ok (.ineg, 1)) (kk : W p l e R s m args below meth c H locs cells slots Q (F0 m (pc + 1) ls (i3 (-a) :: rest))) : W p l e R s m args below meth c H locs cells slots Q (F0 m pc ls (i3 a :: rest)) :=
  lv_ineg C.hx C.hb hd (by rw [← Int32.ofInt_neg]; exact kk)
theorem w_ladd (C : Cx E p s m args meth c cc nL own ret n0 nm) {a b : Int} (hd : decode cc pc = .ok (.ladd, 1)) (kk : W p l e R s m args below meth c H locs cells slots Q (F0 m (pc + 1) ls (l6 (a + b) :: rest))) : W p l e R s m args below meth c H locs cells slots Q (F0 m pc ls (l6 b :: l6 a :: rest)) :=
  lv_ladd C.hx C.hb hd (by rw [← Int64.ofInt_add]; exact kk)
theorem w_lsub (C : Cx E p s m args meth c cc nL own ret n0 nm) {a b : Int} (hd : decode cc pc = .ok (.lsub, 1)) (kk : W p l e R s m args below meth c H locs cells slots Q (F0 m (pc + 1) ls (l6 (a - b) :: rest))) : W p l e R s m args below meth c H locs cells slots Q (F0 m pc ls (l6 b :: l6 a :: rest)) :=
  lv_lsub C.hx C.hb hd (by rw [← Int64.ofInt_sub]; exact kk)
theorem w_lmul (C : Cx E p s m args meth c cc nL own ret n0 nm) {a b : Int} (hd : decode cc pc = .ok (.lmul, 1)) (kk : W p l e R s m args below meth c H locs cells slots Q (F0 m (pc + 1) ls (l6 (a * b) :: rest))) : W p l e R s m args below meth c H locs cells slots Q (F0 m pc ls (l6 b :: l6 a :: rest)) :=
  lv_lmul C.hx C.hb hd (by rw [← Int64.ofInt_mul]; exact kk)
theorem w_lneg (C : Cx E p s m args meth c cc nL own ret n0 nm) {a : Int} (hd : decode cc pc = .ok (.lneg, 1)) (kk : W p l e R s m args below meth c H locs cells slots Q (F0 m (pc + 1) ls (l6 (-a) :: rest))) : W p l e R s m args below meth c H locs cells slots Q (F0 m pc ls (l6 a :: rest)) :=
  lv_lneg C.hx C.hb hd (by rw [← Int64.ofInt_neg]; exact kk)
theorem w_iand (C : Cx E p s m args meth c cc nL own ret n0 nm) {a b : Int} (hd : decode cc pc = .ok (.iand, 1)) (kk : W p l e R s m args below meth c H locs cells slots Q (F0 m (pc + 1) ls (i3 (andI a b) :: rest))) : W p l e R s m args below meth c H locs cells slots Q (F0 m pc ls (i3 b :: i3 a :: rest)) :=
  lv_iand C.hx C.hb hd (by rw [andI, i3, i3_to] at kk; exact kk)
theorem w_ior (C : Cx E p s m args meth c cc nL own ret n0 nm) {a b : Int} (hd : decode cc pc = .ok (.ior, 1)) (kk : W p l e R s m args below meth c H locs cells slots Q (F0 m (pc + 1) ls (i3 (orI a b) :: rest))) : W p l e R s m args below meth c H locs cells slots Q (F0 m pc ls (i3 b :: i3 a :: rest)) :=
  lv_ior C.hx C.hb hd (by rw [orI, i3, i3_to] at kk; exact kk)
theorem w_ixor (C : Cx E p s m args meth c cc nL own ret n0 nm) {a b : Int} (hd : decode cc pc = .ok (.ixor, 1)) (kk : W p l e R s m args below meth c H locs cells slots Q (F0 m (pc + 1) ls (i3 (xorI a b) :: rest))) : W p l e R s m args below meth c H locs cells slots Q (F0 m pc ls (i3 b :: i3 a :: rest)) :=
  lv_ixor C.hx C.hb hd (by rw [xorI, i3, i3_to] at kk; exact kk)
theorem w_ishl (C : Cx E p s m args meth c cc nL own ret n0 nm) {a b : Int} (hd : decode cc pc = .ok (.ishl, 1)) (kk : W p l e R s m args below meth c H locs cells slots Q (F0 m (pc + 1) ls (i3 (shlI a b) :: rest))) : W p l e R s m args below meth c H locs cells slots Q (F0 m pc ls (i3 b :: i3 a :: rest)) :=
  lv_ishl C.hx C.hb hd (by rw [shlI, i3, i3_to] at kk; exact kk)
theorem w_ishr (C : Cx E p s m args meth c cc nL own ret n0 nm) {a b : Int} (hd : decode cc pc = .ok (.ishr, 1)) (kk : W p l e R s m args below meth c H locs cells slots Q (F0 m (pc + 1) ls (i3 (shrI a b) :: rest))) : W p l e R s m args below meth c H locs cells slots Q (F0 m pc ls (i3 b :: i3 a :: rest)) :=
  lv_ishr C.hx C.hb hd (by rw [shrI, i3, i3_to] at kk; exact kk)
theorem w_iushr (C : Cx E p s m args meth c cc nL own ret n0 nm) {a b : Int} (hd : decode cc pc = .ok (.iushr, 1)) (kk : W p l e R s m args below meth c H locs cells slots Q (F0 m (pc + 1) ls (i3 (ushrI a b) :: rest))) : W p l e R s m args below meth c H locs cells slots Q (F0 m pc ls (i3 b :: i3 a :: rest)) :=
  lv_iushr C.hx C.hb hd (i3_to _).symm kk
theorem w_i2b (C : Cx E p s m args meth c cc nL own ret n0 nm) {a : Int} (hd : decode cc pc = .ok (.i2b, 1)) (kk : W p l e R s m args below meth c H locs cells slots Q (F0 m (pc + 1) ls (i3 (i2bI a) :: rest))) : W p l e R s m args below meth c H locs cells slots Q (F0 m pc ls (i3 a :: rest)) :=
  lv_i2b C.hx C.hb hd (i3_to _).symm kk
theorem w_i2l (C : Cx E p s m args meth c cc nL own ret n0 nm) {a : Int} (ha : R3 a) (hd : decode cc pc = .ok (.i2l, 1)) (kk : W p l e R s m args below meth c H locs cells slots Q (F0 m (pc + 1) ls (l6 a :: rest))) : W p l e R s m args below meth c H locs cells slots Q (F0 m pc ls (i3 a :: rest)) :=
  lv_i2l C.hx C.hb hd (r3_i2l ha) kk
theorem w_l2i (C : Cx E p s m args meth c cc nL own ret n0 nm) {a : Int} (hd : decode cc pc = .ok (.l2i, 1)) (kk : W p l e R s m args below meth c H locs cells slots Q (F0 m (pc + 1) ls (i3 a :: rest))) : W p l e R s m args below meth c H locs cells slots Q (F0 m pc ls (l6 a :: rest)) :=
  lv_l2i C.hx C.hb hd r6_l2i kk
theorem r3_ne0 {b : Int} (hb : R3 b) (h : b ≠ 0) : ¬ Int32.ofInt b = 0 := fun q => h ((r3_inj hb ⟨by decide, by decide⟩).mp (q.trans rfl))
theorem r6_ne0 {b : Int} (hb : R6 b) (h : b ≠ 0) : ¬ Int64.ofInt b = 0 := fun q => h ((r6_inj hb ⟨by decide, by decide⟩).mp (q.trans rfl))
theorem w_idiv (C : Cx E p s m args meth c cc nL own ret n0 nm) {a b : Int} (h : R3 a ∧ R3 b ∧ b ≠ 0) (hd : decode cc pc = .ok (.idiv, 1)) (kk : W p l e R s m args below meth c H locs cells slots Q (F0 m (pc + 1) ls (i3 (a.tdiv b) :: rest))) : W p l e R s m args below meth c H locs cells slots Q (F0 m pc ls (i3 b :: i3 a :: rest)) :=
  lv_idiv C.hx C.hb hd (r3_ne0 h.2.1 h.2.2) (by rw [r3_div h.1 h.2.1]; exact kk)
theorem w_irem (C : Cx E p s m args meth c cc nL own ret n0 nm) {a b : Int} (h : R3 a ∧ R3 b ∧ b ≠ 0) (hd : decode cc pc = .ok (.irem, 1)) (kk : W p l e R s m args below meth c H locs cells slots Q (F0 m (pc + 1) ls (i3 (a.tmod b) :: rest))) : W p l e R s m args below meth c H locs cells slots Q (F0 m pc ls (i3 b :: i3 a :: rest)) :=
  lv_irem C.hx C.hb hd (r3_ne0 h.2.1 h.2.2) (by rw [r3_rem h.1 h.2.1]; exact kk)
theorem w_ldiv (C : Cx E p s m args meth c cc nL own ret n0 nm) {a b : Int} (h : R6 a ∧ R6 b ∧ b ≠ 0) (hd : decode cc pc = .ok (.ldiv, 1)) (kk : W p l e R s m args below meth c H locs cells slots Q (F0 m (pc + 1) ls (l6 (a.tdiv b) :: rest))) : W p l e R s m args below meth c H locs cells slots Q (F0 m pc ls (l6 b :: l6 a :: rest)) :=
  lv_ldiv C.hx C.hb hd (r6_ne0 h.2.1 h.2.2) (by rw [r6_div h.1 h.2.1]; exact kk)
theorem w_lrem (C : Cx E p s m args meth c cc nL own ret n0 nm) {a b : Int} (h : R6 a ∧ R6 b ∧ b ≠ 0) (hd : decode cc pc = .ok (.lrem, 1)) (kk : W p l e R s m args below meth c H locs cells slots Q (F0 m (pc + 1) ls (l6 (a.tmod b) :: rest))) : W p l e R s m args below meth c H locs cells slots Q (F0 m pc ls (l6 b :: l6 a :: rest)) :=
  lv_lrem C.hx C.hb hd (r6_ne0 h.2.1 h.2.2) (by rw [r6_rem h.1 h.2.1]; exact kk)
/-! branches: the pure text says which way -/
variable {ρ : Type} {o : ρ} {X Y : Option ρ} {off : Int} {tgt : Nat}
theorem w_lt (C : Cx E p s m args meth c cc nL own ret n0 nm) {a b : Int} (hf : cLt a b X Y = some o) (hd : decode cc pc = .ok (.if_icmp .lt off, 3)) (ht : (pc : Int) + off = (tgt : Int)) (kt : X = some o → W p l e R s m args below meth c H locs cells slots Q (F0 m tgt ls rest)) (kf : Y = some o → W p l e R s m args below meth c H locs cells slots Q (F0 m (pc + 3) ls rest)) : W p l e R s m args below meth c H locs cells slots Q (F0 m pc ls (i3 b :: i3 a :: rest)) := by
  obtain ⟨⟨ha, hb⟩, h1, h2⟩ := cLt_of hf
  exact lv_icmp_lt C.hx C.hb hd ht (fun q => kt (h1 ((r3_lt ha hb).mp q))) (fun q => kf (h2 (fun w => q ((r3_lt ha hb).mpr w))))
theorem w_ge (C : Cx E p s m args meth c cc nL own ret n0 nm) {a b : Int} (hf : cLt a b Y X = some o) (hd : decode cc pc = .ok (.if_icmp .ge off, 3)) (ht : (pc : Int) + off = (tgt : Int)) (kt : X = some o → W p l e R s m args below meth c H locs cells slots Q (F0 m tgt ls rest)) (kf : Y = some o → W p l e R s m args below meth c H locs cells slots Q (F0 m (pc + 3) ls rest)) : W p l e R s m args below meth c H locs cells slots Q (F0 m pc ls (i3 b :: i3 a :: rest)) := by
  obtain ⟨⟨ha, hb⟩, h1, h2⟩ := cLt_of hf
  exact lv_icmp_ge C.hx C.hb hd ht (fun q => kt (h2 (by have := (r3_le hb ha).mp q; omega))) (fun q => kf (h1 (by have : ¬ b ≤ a := fun w => q ((r3_le hb ha).mpr w); omega)))
theorem w_gt (C : Cx E p s m args meth c cc nL own ret n0 nm) {a b : Int} (hf : cLt b a X Y = some o) (hd : decode cc pc = .ok (.if_icmp .gt off, 3)) (ht : (pc : Int) + off = (tgt : Int)) (kt : X = some o → W p l e R s m args below meth c H locs cells slots Q (F0 m tgt ls rest)) (kf : Y = some o → W p l e R s m args below meth c H locs cells slots Q (F0 m (pc + 3) ls rest)) : W p l e R s m args below meth c H locs cells slots Q (F0 m pc ls (i3 b :: i3 a :: rest)) := by
  obtain ⟨⟨hb, ha⟩, h1, h2⟩ := cLt_of hf
  exact lv_icmp_gt C.hx C.hb hd ht (fun q => kt (h1 ((r3_lt hb ha).mp q))) (fun q => kf (h2 (fun w => q ((r3_lt hb ha).mpr w))))
theorem w_le (C : Cx E p s m args meth c cc nL own ret n0 nm) {a b : Int} (hf : cLt b a Y X = some o) (hd : decode cc pc = .ok (.if_icmp .le off, 3)) (ht : (pc : Int) + off = (tgt : Int)) (kt : X = some o → W p l e R s m args below meth c H locs cells slots Q (F0 m tgt ls rest)) (kf : Y = some o → W p l e R s m args below meth c H locs cells slots Q (F0 m (pc + 3) ls rest)) : W p l e R s m args below meth c H locs cells slots Q (F0 m pc ls (i3 b :: i3 a :: rest)) := by
  obtain ⟨⟨hb, ha⟩, h1, h2⟩ := cLt_of hf
  exact lv_icmp_le C.hx C.hb hd ht (fun q => kt (h2 (by have := (r3_le ha hb).mp q; omega))) (fun q => kf (h1 (by have : ¬ a ≤ b := fun w => q ((r3_le ha hb).mpr w); omega)))
theorem w_eq (C : Cx E p s m args meth c cc nL own ret n0 nm) {a b : Int} (hf : cEq a b X Y = some o) (hd : decode cc pc = .ok (.if_icmp .eq off, 3)) (ht : (pc : Int) + off = (tgt : Int)) (kt : X = some o → W p l e R s m args below meth c H locs cells slots Q (F0 m tgt ls rest)) (kf : Y = some o → W p l e R s m args below meth c H locs cells slots Q (F0 m (pc + 3) ls rest)) : W p l e R s m args below meth c H locs cells slots Q (F0 m pc ls (i3 b :: i3 a :: rest)) := by
  obtain ⟨⟨ha, hb⟩, h1, h2⟩ := cEq_of hf
  exact lv_icmp_eq C.hx C.hb hd ht (fun q => kt (h1 ((r3_inj ha hb).mp q))) (fun q => kf (h2 (fun w => q ((r3_inj ha hb).mpr w))))
theorem w_ne (C : Cx E p s m args meth c cc nL own ret n0 nm) {a b : Int} (hf : cEq a b Y X = some o) (hd : decode cc pc = .ok (.if_icmp .ne off, 3)) (ht : (pc : Int) + off = (tgt : Int)) (kt : X = some o → W p l e R s m args below meth c H locs cells slots Q (F0 m tgt ls rest)) (kf : Y = some o → W p l e R s m args below meth c H locs cells slots Q (F0 m (pc + 3) ls rest)) : W p l e R s m args below meth c H locs cells slots Q (F0 m pc ls (i3 b :: i3 a :: rest)) := by
  obtain ⟨⟨ha, hb⟩, h1, h2⟩ := cEq_of hf
  exact lv_icmp_ne C.hx C.hb hd ht (fun q => kt (h2 (fun w => q ((r3_inj ha hb).mpr w)))) (fun q => kf (h1 ((r3_inj ha hb).mp q)))
theorem w_lt0 (C : Cx E p s m args meth c cc nL own ret n0 nm) {a : Int} (hf : cLt a 0 X Y = some o) (hd : decode cc pc = .ok (.ifCond .lt off, 3)) (ht : (pc : Int) + off = (tgt : Int)) (kt : X = some o → W p l e R s m args below meth c H locs cells slots Q (F0 m tgt ls rest)) (kf : Y = some o → W p l e R s m args below meth c H locs cells slots Q (F0 m (pc + 3) ls rest)) : W p l e R s m args below meth c H locs cells slots Q (F0 m pc ls (i3 a :: rest)) := by
  obtain ⟨⟨ha, hb⟩, h1, h2⟩ := cLt_of hf
  exact lv_if_lt C.hx C.hb hd ht (fun q => kt (h1 ((r3_lt ha hb).mp q))) (fun q => kf (h2 (fun w => q ((r3_lt ha hb).mpr w))))
theorem w_ge0 (C : Cx E p s m args meth c cc nL own ret n0 nm) {a : Int} (hf : cLt a 0 Y X = some o) (hd : decode cc pc = .ok (.ifCond .ge off, 3)) (ht : (pc : Int) + off = (tgt : Int)) (kt : X = some o → W p l e R s m args below meth c H locs cells slots Q (F0 m tgt ls rest)) (kf : Y = some o → W p l e R s m args below meth c H locs cells slots Q (F0 m (pc + 3) ls rest)) : W p l e R s m args below meth c H locs cells slots Q (F0 m pc ls (i3 a :: rest)) := by
  obtain ⟨⟨ha, hb⟩, h1, h2⟩ := cLt_of hf
  exact lv_if_ge C.hx C.hb hd ht (fun q => kt (h2 (by have := (r3_le hb ha).mp q; omega))) (fun q => kf (h1 (by have : ¬ 0 ≤ a := fun w => q ((r3_le hb ha).mpr w); omega)))
theorem w_gt0 (C : Cx E p s m args meth c cc nL own ret n0 nm) {a : Int} (hf : cLt 0 a X Y = some o) (hd : decode cc pc = .ok (.ifCond .gt off, 3)) (ht : (pc : Int) + off = (tgt : Int)) (kt : X = some o → W p l e R s m args below meth c H locs cells slots Q (F0 m tgt ls rest)) (kf : Y = some o → W p l e R s m args below meth c H locs cells slots Q (F0 m (pc + 3) ls rest)) : W p l e R s m args below meth c H locs cells slots Q (F0 m pc ls (i3 a :: rest)) := by
  obtain ⟨⟨hb, ha⟩, h1, h2⟩ := cLt_of hf
  exact lv_if_gt C.hx C.hb hd ht (fun q => kt (h1 ((r3_lt hb ha).mp q))) (fun q => kf (h2 (fun w => q ((r3_lt hb ha).mpr w))))
theorem w_le0 (C : Cx E p s m args meth c cc nL own ret n0 nm) {a : Int} (hf : cLt 0 a Y X = some o) (hd : decode cc pc = .ok (.ifCond .le off, 3)) (ht : (pc : Int) + off = (tgt : Int)) (kt : X = some o → W p l e R s m args below meth c H locs cells slots Q (F0 m tgt ls rest)) (kf : Y = some o → W p l e R s m args below meth c H locs cells slots Q (F0 m (pc + 3) ls rest)) : W p l e R s m args below meth c H locs cells slots Q (F0 m pc ls (i3 a :: rest)) := by
  obtain ⟨⟨hb, ha⟩, h1, h2⟩ := cLt_of hf
  exact lv_if_le C.hx C.hb hd ht (fun q => kt (h2 (by have := (r3_le ha hb).mp q; omega))) (fun q => kf (h1 (by have : ¬ a ≤ 0 := fun w => q ((r3_le ha hb).mpr w); omega)))
theorem w_eq0 (C : Cx E p s m args meth c cc nL own ret n0 nm) {a : Int} (hf : cEq a 0 X Y = some o) (hd : decode cc pc = .ok (.ifCond .eq off, 3)) (ht : (pc : Int) + off = (tgt : Int)) (kt : X = some o → W p l e R s m args below meth c H locs cells slots Q (F0 m tgt ls rest)) (kf : Y = some o → W p l e R s m args below meth c H locs cells slots Q (F0 m (pc + 3) ls rest)) : W p l e R s m args below meth c H locs cells slots Q (F0 m pc ls (i3 a :: rest)) := by
  obtain ⟨⟨ha, hb⟩, h1, h2⟩ := cEq_of hf
  exact lv_if_eq C.hx C.hb hd ht (fun q => kt (h1 ((r3_inj ha hb).mp q))) (fun q => kf (h2 (fun w => q ((r3_inj ha hb).mpr w))))
theorem w_ne0 (C : Cx E p s m args meth c cc nL own ret n0 nm) {a : Int} (hf : cEq a 0 Y X = some o) (hd : decode cc pc = .ok (.ifCond .ne off, 3)) (ht : (pc : Int) + off = (tgt : Int)) (kt : X = some o → W p l e R s m args below meth c H locs cells slots Q (F0 m tgt ls rest)) (kf : Y = some o → W p l e R s m args below meth c H locs cells slots Q (F0 m (pc + 3) ls rest)) : W p l e R s m args below meth c H locs cells slots Q (F0 m pc ls (i3 a :: rest)) := by
  obtain ⟨⟨ha, hb⟩, h1, h2⟩ := cEq_of hf
  exact lv_if_ne C.hx C.hb hd ht (fun q => kt (h2 (fun w => q ((r3_inj ha hb).mpr w)))) (fun q => kf (h1 ((r3_inj ha hb).mp q)))
theorem lg_lt {a b : Int} (ha : R6 a) (hb : R6 b) : lg_cmp (Int64.ofInt a) (Int64.ofInt b) = if b < a then 1 else if a = b then 0 else -1 := by
  unfold lg_cmp
  by_cases h : b < a
  · rw [if_pos h, if_pos ((r6_lt hb ha).mpr h)]
  · rw [if_neg h, if_neg (fun q => h ((r6_lt hb ha).mp q))]
    by_cases h2 : a = b
    · rw [if_pos h2]; subst h2; simp
    · have hlt : a < b := by omega
      rw [if_neg h2]
      first
        | rw [if_neg (fun q => h2 ((r6_inj ha hb).mp q))]
        | rw [if_pos ((r6_lt ha hb).mpr hlt)]
        | (simp [(r6_inj ha hb), h2, r6_lt ha hb, hlt])
theorem lg3 {a b : Int} (ha : R6 a) (hb : R6 b) : (a < b ∧ lg_cmp (Int64.ofInt a) (Int64.ofInt b) = -1) ∨ (a = b ∧ lg_cmp (Int64.ofInt a) (Int64.ofInt b) = 0) ∨ (b < a ∧ lg_cmp (Int64.ofInt a) (Int64.ofInt b) = 1) := by
  rw [lg_lt ha hb]
  rcases Int.lt_trichotomy a b with h | h | h
  · exact Or.inl ⟨h, by rw [if_neg (by omega), if_neg (by omega)]⟩
  · exact Or.inr (Or.inl ⟨h, by rw [if_neg (by omega), if_pos h]⟩)
  · exact Or.inr (Or.inr ⟨h, by rw [if_pos h]⟩)
theorem w_llt (C : Cx E p s m args meth c cc nL own ret n0 nm) {a b : Int} (hf : dLt a b X Y = some o) (hd0 : decode cc pc = .ok (.lcmp, 1)) (hd : decode cc (pc + 1) = .ok (.ifCond .lt off, 3)) (ht : ((pc + 1 : Nat) : Int) + off = (tgt : Int)) (kt : X = some o → W p l e R s m args below meth c H locs cells slots Q (F0 m tgt ls rest)) (kf : Y = some o → W p l e R s m args below meth c H locs cells slots Q (F0 m (pc + 1 + 3) ls rest)) : W p l e R s m args below meth c H locs cells slots Q (F0 m pc ls (l6 b :: l6 a :: rest)) := by
  obtain ⟨⟨ha, hb⟩, h1, h2⟩ := dLt_of hf
  refine W.lcmp C.hx C.hb hd0 (lv_if_lt C.hx C.hb hd ht (fun q => kt (h1 (by rcases lg3 ha hb with ⟨h9, h8⟩ | ⟨h9, h8⟩ | ⟨h9, h8⟩ <;> rw [h8] at q <;> first | omega | exact absurd q (by decide)))) (fun q => kf (h2 (by rcases lg3 ha hb with ⟨h9, h8⟩ | ⟨h9, h8⟩ | ⟨h9, h8⟩ <;> rw [h8] at q <;> first | omega | exact absurd q (by decide)))))
theorem w_lge (C : Cx E p s m args meth c cc nL own ret n0 nm) {a b : Int} (hf : dLt a b Y X = some o) (hd0 : decode cc pc = .ok (.lcmp, 1)) (hd : decode cc (pc + 1) = .ok (.ifCond .ge off, 3)) (ht : ((pc + 1 : Nat) : Int) + off = (tgt : Int)) (kt : X = some o → W p l e R s m args below meth c H locs cells slots Q (F0 m tgt ls rest)) (kf : Y = some o → W p l e R s m args below meth c H locs cells slots Q (F0 m (pc + 1 + 3) ls rest)) : W p l e R s m args below meth c H locs cells slots Q (F0 m pc ls (l6 b :: l6 a :: rest)) := by
  obtain ⟨⟨ha, hb⟩, h1, h2⟩ := dLt_of hf
  refine W.lcmp C.hx C.hb hd0 (lv_if_ge C.hx C.hb hd ht (fun q => kt (h2 (by rcases lg3 ha hb with ⟨h9, h8⟩ | ⟨h9, h8⟩ | ⟨h9, h8⟩ <;> rw [h8] at q <;> first | omega | exact absurd q (by decide)))) (fun q => kf (h1 (by rcases lg3 ha hb with ⟨h9, h8⟩ | ⟨h9, h8⟩ | ⟨h9, h8⟩ <;> rw [h8] at q <;> first | omega | exact absurd q (by decide)))))
theorem w_lgt (C : Cx E p s m args meth c cc nL own ret n0 nm) {a b : Int} (hf : dLt b a X Y = some o) (hd0 : decode cc pc = .ok (.lcmp, 1)) (hd : decode cc (pc + 1) = .ok (.ifCond .gt off, 3)) (ht : ((pc + 1 : Nat) : Int) + off = (tgt : Int)) (kt : X = some o → W p l e R s m args below meth c H locs cells slots Q (F0 m tgt ls rest)) (kf : Y = some o → W p l e R s m args below meth c H locs cells slots Q (F0 m (pc + 1 + 3) ls rest)) : W p l e R s m args below meth c H locs cells slots Q (F0 m pc ls (l6 b :: l6 a :: rest)) := by
  obtain ⟨⟨ha, hb⟩, h1, h2⟩ := dLt_of hf
  refine W.lcmp C.hx C.hb hd0 (lv_if_gt C.hx C.hb hd ht (fun q => kt (h1 (by rcases lg3 hb ha with ⟨h9, h8⟩ | ⟨h9, h8⟩ | ⟨h9, h8⟩ <;> rw [h8] at q <;> first | omega | exact absurd q (by decide)))) (fun q => kf (h2 (by rcases lg3 hb ha with ⟨h9, h8⟩ | ⟨h9, h8⟩ | ⟨h9, h8⟩ <;> rw [h8] at q <;> first | omega | exact absurd q (by decide)))))
theorem w_lle (C : Cx E p s m args meth c cc nL own ret n0 nm) {a b : Int} (hf : dLt b a Y X = some o) (hd0 : decode cc pc = .ok (.lcmp, 1)) (hd : decode cc (pc + 1) = .ok (.ifCond .le off, 3)) (ht : ((pc + 1 : Nat) : Int) + off = (tgt : Int)) (kt : X = some o → W p l e R s m args below meth c H locs cells slots Q (F0 m tgt ls rest)) (kf : Y = some o → W p l e R s m args below meth c H locs cells slots Q (F0 m (pc + 1 + 3) ls rest)) : W p l e R s m args below meth c H locs cells slots Q (F0 m pc ls (l6 b :: l6 a :: rest)) := by
  obtain ⟨⟨ha, hb⟩, h1, h2⟩ := dLt_of hf
  refine W.lcmp C.hx C.hb hd0 (lv_if_le C.hx C.hb hd ht (fun q => kt (h2 (by rcases lg3 hb ha with ⟨h9, h8⟩ | ⟨h9, h8⟩ | ⟨h9, h8⟩ <;> rw [h8] at q <;> first | omega | exact absurd q (by decide)))) (fun q => kf (h1 (by rcases lg3 hb ha with ⟨h9, h8⟩ | ⟨h9, h8⟩ | ⟨h9, h8⟩ <;> rw [h8] at q <;> first | omega | exact absurd q (by decide)))))
theorem w_leq (C : Cx E p s m args meth c cc nL own ret n0 nm) {a b : Int} (hf : dEq a b X Y = some o) (hd0 : decode cc pc = .ok (.lcmp, 1)) (hd : decode cc (pc + 1) = .ok (.ifCond .eq off, 3)) (ht : ((pc + 1 : Nat) : Int) + off = (tgt : Int)) (kt : X = some o → W p l e R s m args below meth c H locs cells slots Q (F0 m tgt ls rest)) (kf : Y = some o → W p l e R s m args below meth c H locs cells slots Q (F0 m (pc + 1 + 3) ls rest)) : W p l e R s m args below meth c H locs cells slots Q (F0 m pc ls (l6 b :: l6 a :: rest)) := by
  obtain ⟨⟨ha, hb⟩, h1, h2⟩ := dEq_of hf
  refine W.lcmp C.hx C.hb hd0 (lv_if_eq C.hx C.hb hd ht (fun q => kt (h1 (by rcases lg3 ha hb with ⟨h9, h8⟩ | ⟨h9, h8⟩ | ⟨h9, h8⟩ <;> rw [h8] at q <;> first | omega | exact absurd q (by decide)))) (fun q => kf (h2 (by rcases lg3 ha hb with ⟨h9, h8⟩ | ⟨h9, h8⟩ | ⟨h9, h8⟩ <;> rw [h8] at q <;> first | omega | exact absurd q (by decide)))))
theorem w_lne (C : Cx E p s m args meth c cc nL own ret n0 nm) {a b : Int} (hf : dEq a b Y X = some o) (hd0 : decode cc pc = .ok (.lcmp, 1)) (hd : decode cc (pc + 1) = .ok (.ifCond .ne off, 3)) (ht : ((pc + 1 : Nat) : Int) + off = (tgt : Int)) (kt : X = some o → W p l e R s m args below meth c H locs cells slots Q (F0 m tgt ls rest)) (kf : Y = some o → W p l e R s m args below meth c H locs cells slots Q (F0 m (pc + 1 + 3) ls rest)) : W p l e R s m args below meth c H locs cells slots Q (F0 m pc ls (l6 b :: l6 a :: rest)) := by
  obtain ⟨⟨ha, hb⟩, h1, h2⟩ := dEq_of hf
  refine W.lcmp C.hx C.hb hd0 (lv_if_ne C.hx C.hb hd ht (fun q => kt (h2 (by rcases lg3 ha hb with ⟨h9, h8⟩ | ⟨h9, h8⟩ | ⟨h9, h8⟩ <;> rw [h8] at q <;> first | omega | exact absurd q (by decide)))) (fun q => kf (h1 (by rcases lg3 ha hb with ⟨h9, h8⟩ | ⟨h9, h8⟩ | ⟨h9, h8⟩ <;> rw [h8] at q <;> first | omega | exact absurd q (by decide)))))
/-! ends -/
theorem w_iret (C : Cx E p s m args meth c cc nL own (some .int) n0 nm) (hH : ST E s n z M H locs) {x : Int} (hd : decode cc pc = .ok (.ireturn, 1)) : W p l e R s m args below meth c H locs cells slots (MQ below (QC E (some (i3 x)) n z M) args s cells slots (fr E)) (F0 m pc ls [i3 x]) :=
  W.iret C.hx C.hb C.hr (fun t ht _ => ⟨rfl, by rw [ht]; exact hH.1⟩) hH.2.2.2 hd C.hk
theorem w_zret (C : Cx E p s m args meth c cc nL own (some .boolean) n0 nm) (hH : ST E s n z M H locs) {x : Int} (hx : x = 0 ∨ x = 1) (hd : decode cc pc = .ok (.ireturn, 1)) : W p l e R s m args below meth c H locs cells slots (MQ below (QC E (some (i3 x)) n z M) args s cells slots (fr E)) (F0 m pc ls [i3 x]) :=
  W.zret C.hx C.hb C.hr (by rcases hx with rfl | rfl <;> rfl) (fun t ht _ => ⟨rfl, by rw [ht]; exact hH.1⟩) hH.2.2.2 hd C.hk
theorem w_lret (C : Cx E p s m args meth c cc nL own (some .long) n0 nm) (hH : ST E s n z M H locs) {x : Int} (hd : decode cc pc = .ok (.lreturn, 1)) : W p l e R s m args below meth c H locs cells slots (MQ below (QC E (some (l6 x)) n z M) args s cells slots (fr E)) (F0 m pc ls [l6 x]) :=
  W.lret C.hx C.hb C.hr (fun t ht _ => ⟨rfl, by rw [ht]; exact hH.1⟩) hH.2.2.2 hd C.hk
theorem w_vret (C : Cx E p s m args meth c cc nL own none n0 nm) (hH : ST E s n z M H locs) (hd : decode cc pc = .ok (.return_, 1)) : W p l e R s m args below meth c H locs cells slots (MQ below (QC E none n z M) args s cells slots (fr E)) (F0 m pc ls []) :=
  W.vret C.hx C.hb C.hr (fun t ht _ => ⟨rfl, by rw [ht]; exact hH.1⟩) hH.2.2.2 hd C.hk
theorem w_aret {ct : String} (C : Cx E p s m args meth c cc nL own (some (.object ct)) n0 nm) (hH : ST E s n z M H locs) {x : Option Nat} {v : Value} (hv : v = rf E x) (hd : decode cc pc = .ok (.areturn, 1)) : W p l e R s m args below meth c H locs cells slots (MQ below (QC E (some (rf E x)) n z M) args s cells slots (fr E)) (F0 m pc ls [v]) := by
  subst hv
  exact W.aret C.hx C.hb C.hr (Or.inl ⟨_, rfl⟩) (by cases x; exact Or.inl rfl; exact Or.inr ⟨_, rfl⟩) (fun t ht _ => ⟨rfl, by rw [ht]; exact hH.1⟩) hH.2.2.2 hd C.hk
/-! the machine's own methods -/
theorem w_copy (C : Cx E p s m args meth c cc nL own ret n0 nm) (hz : n0 + cells = n) (hH : ST E s n z M H locs) (hls : ls.size = nL) {k0 k1 N0 N1 idx N : Nat} (hk0 : k0 < n) (hk1 : k1 < n) (ht0 : tl k0 = 12) (ht1 : tl k1 = 12) (hN0 : ln k0 = N0) (hN1 : ln k1 = N1) (h0 : N ≤ N0) (h1 : N ≤ N1) (hN : N < 2147483648)
    (hl : Cond.methodLink own idx arraycopyName ∈ tblG) (hnat : Cond.native arraycopyName ∈ tblG) (hst : Cond.static arraycopyName ∈ tblG) (hin : Cond.initialized "java/lang/System" ∈ tblG) (hfm : 1 ≤ R.frames) (hlo : (rest.map fun v => v.category).sum + (nativeFrameWords "java/lang/System" "arraycopy" 5 + 11) ≤ R.locals) (hd : decode cc pc = .ok (.invokestatic idx, 3))
    (kk : ∀ (H1 : Heap) (locs1 : List Loc), ST E s n z (cp M k0 k1 N) H1 locs1 → W p l e R s m args below meth c H1 locs1 cells slots Q (F0 m (pc + 3) ls rest)) : W p l e R s m args below meth c H locs cells slots Q (F0 m pc ls (i3 (N : Int) :: i3 0 :: .ref (eb E + k1) :: i3 0 :: .ref (eb E + k0) :: rest)) := by
  have e0 : (Int32.ofInt 0).toNatClampNeg = 0 := rfl
  have eN : (Int32.ofInt (N : Int)).toNatClampNeg = N := by
    show (Int32.ofInt (N : Int)).toInt.toNat = N
    rw [r3_to ⟨by omega, by omega⟩]; omega
  have hn : ¬ Int32.ofInt (N : Int) < 0 := fun q => by
    have := (r3_lt (x := (N : Int)) (y := 0) ⟨by omega, by omega⟩ ⟨by decide, by decide⟩).mp q
    omega
  refine va_copyi C.hx C.hb (by rw [C.hml, hls]) C.ho (C.ht _ hl) (C.ht _ hnat) (C.ht _ hst) (C.ht _ hin) C.hg.1 hH.1.1 (wl_D E n z M) hH.2 k0 k1 0 0 (c0 := eC E 0) (c1 := eC E 0) (n0 := N0) (n1 := N1) (f := fun j => Int32.ofInt (M k0 j)) (g := fun j => Int32.ofInt (M k1 j)) (ty := .int) (by rw [wl_get hk0, ent_arr ht0 (by decide) (by decide), hN0]) (by rw [wl_get hk1, ent_arr ht1 (by decide) (by decide), hN1]) rfl rfl rfl (by decide) (by decide) hn (by rw [e0, eN]; omega) (by rw [e0, eN]; omega) (fun _ _ => rfl) hfm hlo hd (fun H1 locs1 hP _ hS => ?_)
  have ef : va_cpy (fun j => Int32.ofInt (M k0 j)) (fun j => Int32.ofInt (M k1 j)) 0 0 N = fun j => Int32.ofInt (cp M k0 k1 N k1 j) := by
    funext j
    by_cases hj : j < N <;> simp [va_cpy, cp, hj]
  rw [e0, eN, ef, wl_set (z' := z) (M' := cp M k0 k1 N) (by rw [ent_arr ht1 (by decide) (by decide), hN1]) (fun j hj => ent_cong (fun b => by simp [cp, hj]) (fun _ => rfl))] at hP
  exact w_wrote C hz (by omega) hP hS (fun h => (nOf_cp (tl_ne ht1 (by decide))).trans (hH.1.2.2.2 h)) (kk H1 locs1)
theorem w_max (C : Cx E p s m args meth c cc nL own ret n0 nm) (hls : ls.size = nL) {idx : Nat} {a b : Int} (h : R3 a ∧ R3 b) (hl : Cond.methodLink own idx Lib.Math.max.name ∈ tblG) (hst : Cond.static Lib.Math.max.name ∈ tblG) (hin : Cond.initialized "java/lang/Math" ∈ tblG) (hco : Cond.code Lib.Math.max.name Lib.Math.max.code 2 (some .int) ∈ tblG) (hfm : 1 ≤ R.frames) (hlo : (rest.map fun v => v.category).sum + 13 ≤ R.locals) (hc : cells ≤ R.cells) (hs : slots ≤ R.slots) (hd : decode cc pc = .ok (.invokestatic idx, 3))
    (kk : W p l e R s m args below meth c H locs cells slots Q (F0 m (pc + 3) ls (i3 (max a b) :: rest))) : W p l e R s m args below meth c H locs cells slots Q (F0 m pc ls (i3 b :: i3 a :: rest)) := by
  refine va_mmax C.hx C.hb (by rw [C.hml, hls]) C.ho (C.ht _ hl) (C.ht _ hst) (C.ht _ hin) (C.ht _ hco) hfm hlo hc hs hd ?_
  have ee : (if Int32.ofInt a < Int32.ofInt b then Int32.ofInt b else Int32.ofInt a) = Int32.ofInt (max a b) := by
    by_cases q : a < b
    · rw [if_pos ((r3_lt h.1 h.2).mpr q), Int.max_eq_right (by omega)]
    · rw [if_neg (fun w => q ((r3_lt h.1 h.2).mp w)), Int.max_eq_left (by omega)]
  rw [ee]; exact kk
theorem w_min (C : Cx E p s m args meth c cc nL own ret n0 nm) (hls : ls.size = nL) {idx : Nat} {a b : Int} (h : R3 a ∧ R3 b) (hl : Cond.methodLink own idx Lib.Math.min.name ∈ tblG) (hst : Cond.static Lib.Math.min.name ∈ tblG) (hin : Cond.initialized "java/lang/Math" ∈ tblG) (hco : Cond.code Lib.Math.min.name Lib.Math.min.code 2 (some .int) ∈ tblG) (hfm : 1 ≤ R.frames) (hlo : (rest.map fun v => v.category).sum + 13 ≤ R.locals) (hc : cells ≤ R.cells) (hs : slots ≤ R.slots) (hd : decode cc pc = .ok (.invokestatic idx, 3))
    (kk : W p l e R s m args below meth c H locs cells slots Q (F0 m (pc + 3) ls (i3 (min a b) :: rest))) : W p l e R s m args below meth c H locs cells slots Q (F0 m pc ls (i3 b :: i3 a :: rest)) := by
  refine va_mmin C.hx C.hb (by rw [C.hml, hls]) C.ho (C.ht _ hl) (C.ht _ hst) (C.ht _ hin) (C.ht _ hco) hfm hlo hc hs hd ?_
  have ee : (if Int32.ofInt b < Int32.ofInt a then Int32.ofInt b else Int32.ofInt a) = Int32.ofInt (min a b) := by
    by_cases q : b < a
    · rw [if_pos ((r3_lt h.2 h.1).mpr q), Int.min_eq_right (by omega)]
    · rw [if_neg (fun w => q ((r3_lt h.2 h.1).mp w)), Int.min_eq_left (by omega)]
  rw [ee]; exact kk
theorem w_maxL (C : Cx E p s m args meth c cc nL own ret n0 nm) (hls : ls.size = nL) {idx : Nat} {a b : Int} (h : R6 a ∧ R6 b) (hl : Cond.methodLink own idx Lib.MathLoose.max_long.x ∈ tblG) (hst : Cond.static Lib.MathLoose.max_long.x ∈ tblG) (hin : Cond.initialized "java/lang/Math" ∈ tblG) (hco : Cond.code Lib.MathLoose.max_long.x Lib.MathLoose.max_long.code 4 (some .long) ∈ tblG) (hfm : 1 ≤ R.frames) (hlo : (rest.map fun v => v.category).sum + 15 ≤ R.locals) (hc : cells ≤ R.cells) (hs : slots ≤ R.slots) (hd : decode cc pc = .ok (.invokestatic idx, 3))
    (kk : W p l e R s m args below meth c H locs cells slots Q (F0 m (pc + 3) ls (l6 (max a b) :: rest))) : W p l e R s m args below meth c H locs cells slots Q (F0 m pc ls (l6 b :: l6 a :: rest)) := by
  refine va_mmax_long C.hx C.hb (by rw [C.hml, hls]) C.ho (C.ht _ hl) (C.ht _ hst) (C.ht _ hin) (C.ht _ hco) hfm hlo hc hs hd ?_
  have ee : (if Int64.ofInt b < Int64.ofInt a then Int64.ofInt a else Int64.ofInt b) = Int64.ofInt (max a b) := by
    by_cases q : b < a
    · rw [if_pos ((r6_lt h.2 h.1).mpr q), Int.max_eq_left (by omega)]
    · rw [if_neg (fun w => q ((r6_lt h.2 h.1).mp w)), Int.max_eq_right (by omega)]
  rw [ee]; exact kk
theorem w_minL (C : Cx E p s m args meth c cc nL own ret n0 nm) (hls : ls.size = nL) {idx : Nat} {a b : Int} (h : R6 a ∧ R6 b) (hl : Cond.methodLink own idx Lib.MathLoose.min_long.x ∈ tblG) (hst : Cond.static Lib.MathLoose.min_long.x ∈ tblG) (hin : Cond.initialized "java/lang/Math" ∈ tblG) (hco : Cond.code Lib.MathLoose.min_long.x Lib.MathLoose.min_long.code 4 (some .long) ∈ tblG) (hfm : 1 ≤ R.frames) (hlo : (rest.map fun v => v.category).sum + 15 ≤ R.locals) (hc : cells ≤ R.cells) (hs : slots ≤ R.slots) (hd : decode cc pc = .ok (.invokestatic idx, 3))
    (kk : W p l e R s m args below meth c H locs cells slots Q (F0 m (pc + 3) ls (l6 (min a b) :: rest))) : W p l e R s m args below meth c H locs cells slots Q (F0 m pc ls (l6 b :: l6 a :: rest)) := by
  refine va_mmin_long C.hx C.hb (by rw [C.hml, hls]) C.ho (C.ht _ hl) (C.ht _ hst) (C.ht _ hin) (C.ht _ hco) hfm hlo hc hs hd ?_
  have ee : (if Int64.ofInt b < Int64.ofInt a then Int64.ofInt b else Int64.ofInt a) = Int64.ofInt (min a b) := by
    by_cases q : b < a
    · rw [if_pos ((r6_lt h.2 h.1).mpr q), Int.min_eq_right (by omega)]
    · rw [if_neg (fun w => q ((r6_lt h.2 h.1).mp w)), Int.min_eq_left (by omega)]
  rw [ee]; exact kk
/-! calls -/
variable {y : MethodName} {cd : ByteArray} {ml fz lz mc ms np idx : Nat} {rt : Option FieldType} {As : List Value} {v : Option Value} {n' : Nat} {z' : Zs} {M' : Mem}
theorem w_run (C : Cx E p s m args meth c cc nL own ret n0 nm) (hH : ST E s n z M H locs) (hn : n ≤ n') {st0 : List Value} {a : Array Value} (hr : va_Run p l e R s m args below meth c H locs cells slots mc ms (F0 m pc ls st0) rest (QC E v n' z' M' a) (fr E))
    (kk : ∀ (H1 : Heap) (locs1 : List Loc), ST E s n' z' M' H1 locs1 → W p l e R s m args below meth c H1 locs1 (cells + mc) (slots + ms) Q (F0 m (pc + 3) ls (v.toList ++ rest))) : W p l e R s m args below meth c H locs cells slots Q (F0 m pc ls st0) := by
  intro T hT X
  obtain ⟨v1, st₀, t, T', L, h0, X', hL, e1, e2, ⟨hv, hG⟩, st⟩ := hr T hT X
  cases hv
  have hG' : GH E n' z' M' T'.heap := by rw [e1]; exact hG
  obtain ⟨t2, a1, b1⟩ := kk T'.heap (locs ++ L) ⟨hG', ⟨by have := hH.2.1; have h1 := hH.1.2.1; have h2 := hG'.2.1; omega, fun q h1 h2 => by
      have h3 : q < eb E := Nat.not_le.mp h2
      rw [hG'.2.2.1 q h3, C.hlow q h3], fun q hq => by
      rcases List.mem_append.mp hq with h | h
      · exact hH.2.2.2 q h
      · exact hL q h⟩⟩ T' rfl X'
  exact ⟨t2, st t2 a1, b1⟩
theorem pc_blind (av : List Value) : FrameBlind (PC E av n z M) := fun a U g mk h => ⟨h.1, h.2.1.call g mk a, h.2.2⟩
theorem pc_at (C : Cx E p s m args meth c cc nL own ret n0 nm) (hH : ST E s n z M H locs) (av : List Value) : ∀ U : State, U.heap = H → s.WarmedH U.vm → PC E av n z M av.toArray U := fun U hU hW => ⟨rfl, C.hg.warm hW, by rw [hU]; exact hH.1⟩
theorem good_ws (C : Cx E p s m args meth c cc nL own ret n0 nm) (hm : MF y cd ml rt np) : GoodIn tblG (.code y cd ml rt :: tblG) := fun w hw => by
  rcases List.mem_cons.mp hw with rfl | h
  · exact ⟨hm.1, tg_good _ hm.1⟩
  · exact ⟨h, tg_good _ h⟩
theorem w_callV (C : Cx E p s m args meth c cc nL own ret n0 nm) (hH : ST E s n z M H locs) {nv : List (Nat × Value)} (hlv : lv_has ls nL nv) {k ci : Nat} (hk : k < n) (ht : tl k = ci) (hc : ci < 12) (hcl : y.cls = (cCl ci).1) (hM : CT E l y cd ml rt fz lz mc ms (.ref (eb E + k) :: As) n z M v n' z' M') (hn : n ≤ n')
    (hl : Cond.methodLink own idx y ∈ tblG) (hm : MF y cd ml rt np) (hi : MI y) (hA : As.length = np) {st0 : List Value} (hst : st0 = As.reverse ++ .ref (eb E + k) :: rest) (hro : (rest.map fun v => v.category).sum ≤ 8) (hR : fz + 1 ≤ R.frames ∧ 8 + (ml + 11) + lz ≤ R.locals) (hcs : cells + mc ≤ R.cells ∧ slots + ms ≤ R.slots) (hd : decode cc pc = .ok (.invokevirtual idx, 3))
    (kk : ∀ (H1 : Heap) (locs1 : List Loc), ST E s n' z' M' H1 locs1 → W p l e R s m args below meth c H1 locs1 (cells + mc) (slots + ms) Q (F0 m (pc + 3) ls (v.toList ++ rest))) : W p l e R s m args below meth c H locs cells slots Q (F0 m pc ls st0) := by
  subst hst
  obtain ⟨CN, T, N, ty, h1, -⟩ := clOG ci hc
  have hrecv := va_recv C.hg.1 hH.1.1 h1 (by rw [wl_get hk, ent_obj ht hc])
  rw [cCl_of h1] at hcl
  have hcl : y.cls = CN := hcl
  have cw : CallW R s args own CN idx y cd ml rt (.code y cd ml rt :: tblG) { frames := fz, cells := mc, slots := ms, locals := lz } mc ms np := ⟨callB_of np C.ht (good_ws C hm) rfl rfl rfl (C.ht _ hm.2.1) (C.ht _ hl) hm.2.2 hR, C.ht _ hi.1, by rw [← hcl]; exact C.ht _ hi.2⟩
  exact w_run C hH hn (va_runV (Ts := tblG) ⟨C.hx, C.hb, C.hml, C.ho, C.ht⟩ hM cw ⟨pc_blind _, hrecv, pc_at C hH _⟩ rfl hA hlv.1 rfl (lv_room hro) hd hcs) kk
theorem w_callS (C : Cx E p s m args meth c cc nL own ret n0 nm) (hH : ST E s n z M H locs) {nv : List (Nat × Value)} (hlv : lv_has ls nL nv) (hM : CT E l y cd ml rt fz lz mc ms As n z M v n' z' M') (hn : n ≤ n')
    (hl : Cond.methodLink own idx y ∈ tblG) (hm : MF y cd ml rt np) (hi : Cond.static y ∈ tblG) (hA : As.length = np) {st0 : List Value} (hst : st0 = As.reverse ++ rest) (hro : (rest.map fun v => v.category).sum ≤ 8) (hR : fz + 1 ≤ R.frames ∧ 8 + (ml + 11) + lz ≤ R.locals) (hcs : cells + mc ≤ R.cells ∧ slots + ms ≤ R.slots) (hd : decode cc pc = .ok (.invokestatic idx, 3))
    (kk : ∀ (H1 : Heap) (locs1 : List Loc), ST E s n' z' M' H1 locs1 → W p l e R s m args below meth c H1 locs1 (cells + mc) (slots + ms) Q (F0 m (pc + 3) ls (v.toList ++ rest))) : W p l e R s m args below meth c H locs cells slots Q (F0 m pc ls st0) := by
  subst hst
  have cw : CallB R s args own idx y cd ml rt (.code y cd ml rt :: tblG) { frames := fz, cells := mc, slots := ms, locals := lz } mc ms np := callB_of np C.ht (good_ws C hm) rfl rfl rfl (C.ht _ hm.2.1) (C.ht _ hl) hm.2.2 hR
  exact w_run C hH hn (va_runS (Ts := tblG) ⟨C.hx, C.hb, C.hml, C.ho, C.ht⟩ hM ⟨cw, C.ht _ hi⟩ ⟨pc_blind _, pc_at C hH _⟩ rfl hA hlv.1 rfl (lv_room hro) hd hcs) kk
theorem w_callSN (C : Cx E p s m args meth c cc nL own ret n0 nm) (hH : ST E s n z M H locs) {nv : List (Nat × Value)} (hlv : lv_has ls nL nv) {host : String} (hM : CT E l y cd ml rt fz lz mc ms As n z M v n' z' M') (hn : n ≤ n')
    (hl : Cond.methodLinkNest own idx y host ∈ nestL) (hm : MF y cd ml rt np) (hi : Cond.static y ∈ tblG) (hA : As.length = np) {st0 : List Value} (hst : st0 = As.reverse ++ rest) (hro : (rest.map fun v => v.category).sum ≤ 8) (hR : fz + 1 ≤ R.frames ∧ 8 + (ml + 11) + lz ≤ R.locals) (hcs : cells + mc ≤ R.cells ∧ slots + ms ≤ R.slots) (hd : decode cc pc = .ok (.invokestatic idx, 3))
    (kk : ∀ (H1 : Heap) (locs1 : List Loc), ST E s n' z' M' H1 locs1 → W p l e R s m args below meth c H1 locs1 (cells + mc) (slots + ms) Q (F0 m (pc + 3) ls (v.toList ++ rest))) : W p l e R s m args below meth c H locs cells slots Q (F0 m pc ls st0) := by
  subst hst
  have cw := va_cnB (R := R) (rm := { frames := fz, cells := mc, slots := ms, locals := lz }) (mc := mc) (ms := ms) np C.ht (good_ws C hm) rfl rfl rfl (C.hg.2.1 _ hl) (C.ht _ hm.2.1) hm.2.2 hR
  exact w_run C hH hn (va_runSN (Ts := tblG) ⟨C.hx, C.hb, C.hml, C.ho, C.ht⟩ hM ⟨cw, C.ht _ hi, trivial⟩ ⟨pc_blind _, pc_at C hH _⟩ rfl hA hlv.1 rfl (lv_room hro) hd hcs) kk
end RU2
