theorem zu_fresh {z : Zs} {c j a : Nat} (h : ∀ k i, a ≤ k → z k i = false) (hc : c < a) : ∀ k i, a ≤ k → zu z c j k i = false := fun k i hk => by
  have : k ≠ c := by omega
  simp [zu, this, h k i hk]
theorem nOf_c {M M' : Mem} (h8 : M' 0 8 = M 0 8) (h9 : M' 0 9 = M 0 9) : nOf M' = nOf M := by unfold nOf; rw [h8, h9]
theorem AC_I : Cond.arrayClass .int ∈ tblG := tg_in (by decide +kernel) rfl
theorem AC_B : Cond.arrayClass .byte ∈ tblG := tg_in (by decide +kernel) rfl
theorem AC_Z : Cond.arrayClass .boolean ∈ tblG := tg_in (by decide +kernel) rfl
theorem AC_J : Cond.arrayClass .long ∈ tblG := tg_in (by decide +kernel) rfl
/-- a slot that names a cell -/
def rs (k i : Nat) : Bool := if tl k < 12 then (match (tm (tl k))[i]? with | some (_ + 1) => true | _ => false) else decide (tl k = 16)
def zeq (n : Nat) (z z' : Zs) : Prop := ∀ k, k < n → ∀ i, rs k i = true → z' k i = z k i
theorem ent_z {E : EE} {z z' : Zs} {M : Mem} {k : Nat} (h : ∀ i, rs k i = true → z' k i = z k i) : ent E z' M k = ent E z M k := by
  by_cases h0 : tl k < 12
  · rw [ent_obj rfl h0, ent_obj rfl h0]
    congr 2
    apply List.ext_getElem?
    intro j
    rw [List.getElem?_mapIdx, List.getElem?_mapIdx]
    cases hj : (tm (tl k))[j]? with
    | none => rfl
    | some t =>
      cases t with
      | zero => rfl
      | succ t =>
        have := h j (by simp [rs, h0, hj])
        simp [fv, this]
  · by_cases h6 : tl k = 16
    · have h2 : z' k = z k := funext fun i => h i (by simp [rs, h6])
      rw [ent_txt h6, ent_txt h6, h2]
    · unfold ent
      rw [if_neg h0, if_neg h0, if_neg h6, if_neg h6]
theorem ST_z {E : EE} {s : State} {n : Nat} {z z' : Zs} {M : Mem} {H : Heap} {locs : List Loc} (h : zeq n z z') (hH : ST E s n z M H locs) : ST E s n z' M H locs := by
  refine ⟨⟨?_, hH.1.2⟩, hH.2⟩
  have e : wl E n z' M = wl E n z M := by
    unfold wl
    apply List.map_congr_left
    intro k hk
    rw [ent_z (h k (List.mem_range.mp hk))]
  rw [e]
  exact hH.1.1
theorem IS_0 : Cond.instantiable (cCl 0).1 (cCl 0).2.2 ∈ tblG := tg_in (by decide +kernel) rfl
theorem IZ_0 : Cond.initialized (cCl 0).1 ∈ tblG := tg_in (by decide +kernel) rfl
theorem DF_0 : ∀ j, j < 1 → ∀ ty, parseFieldDescriptor ((cCl 0).2.1 j).2.2.1 = some ty → defaultValue ty = fv 0 (fun _ _ => false) (fun _ _ => 0) 0 0 ((tm 0).getD j 0) := by
  have h0 : ∀ j, j < 1 → (parseFieldDescriptor ((cCl 0).2.1 j).2.2.1).map defaultValue = some (fv 0 (fun _ _ => false) (fun _ _ => 0) 0 0 ((tm 0).getD j 0)) := by decide +kernel
  intro j hj ty h
  have h1 := h0 j hj
  rw [h] at h1
  exact Option.some.inj h1
theorem IS_1 : Cond.instantiable (cCl 1).1 (cCl 1).2.2 ∈ tblG := tg_in (by decide +kernel) rfl
theorem IZ_1 : Cond.initialized (cCl 1).1 ∈ tblG := tg_in (by decide +kernel) rfl
theorem DF_1 : ∀ j, j < 5 → ∀ ty, parseFieldDescriptor ((cCl 1).2.1 j).2.2.1 = some ty → defaultValue ty = fv 0 (fun _ _ => false) (fun _ _ => 0) 0 0 ((tm 1).getD j 0) := by
  have h0 : ∀ j, j < 5 → (parseFieldDescriptor ((cCl 1).2.1 j).2.2.1).map defaultValue = some (fv 0 (fun _ _ => false) (fun _ _ => 0) 0 0 ((tm 1).getD j 0)) := by decide +kernel
  intro j hj ty h
  have h1 := h0 j hj
  rw [h] at h1
  exact Option.some.inj h1
theorem IS_2 : Cond.instantiable (cCl 2).1 (cCl 2).2.2 ∈ tblG := tg_in (by decide +kernel) rfl
theorem IZ_2 : Cond.initialized (cCl 2).1 ∈ tblG := tg_in (by decide +kernel) rfl
theorem DF_2 : ∀ j, j < 7 → ∀ ty, parseFieldDescriptor ((cCl 2).2.1 j).2.2.1 = some ty → defaultValue ty = fv 0 (fun _ _ => false) (fun _ _ => 0) 0 0 ((tm 2).getD j 0) := by
  have h0 : ∀ j, j < 7 → (parseFieldDescriptor ((cCl 2).2.1 j).2.2.1).map defaultValue = some (fv 0 (fun _ _ => false) (fun _ _ => 0) 0 0 ((tm 2).getD j 0)) := by decide +kernel
  intro j hj ty h
  have h1 := h0 j hj
  rw [h] at h1
  exact Option.some.inj h1
theorem IS_3 : Cond.instantiable (cCl 3).1 (cCl 3).2.2 ∈ tblG := tg_in (by decide +kernel) rfl
theorem IZ_3 : Cond.initialized (cCl 3).1 ∈ tblG := tg_in (by decide +kernel) rfl
theorem DF_3 : ∀ j, j < 2 → ∀ ty, parseFieldDescriptor ((cCl 3).2.1 j).2.2.1 = some ty → defaultValue ty = fv 0 (fun _ _ => false) (fun _ _ => 0) 0 0 ((tm 3).getD j 0) := by
  have h0 : ∀ j, j < 2 → (parseFieldDescriptor ((cCl 3).2.1 j).2.2.1).map defaultValue = some (fv 0 (fun _ _ => false) (fun _ _ => 0) 0 0 ((tm 3).getD j 0)) := by decide +kernel
  intro j hj ty h
  have h1 := h0 j hj
  rw [h] at h1
  exact Option.some.inj h1
theorem IS_4 : Cond.instantiable (cCl 4).1 (cCl 4).2.2 ∈ tblG := tg_in (by decide +kernel) rfl
theorem IZ_4 : Cond.initialized (cCl 4).1 ∈ tblG := tg_in (by decide +kernel) rfl
theorem DF_4 : ∀ j, j < 17 → ∀ ty, parseFieldDescriptor ((cCl 4).2.1 j).2.2.1 = some ty → defaultValue ty = fv 0 (fun _ _ => false) (fun _ _ => 0) 0 0 ((tm 4).getD j 0) := by
  have h0 : ∀ j, j < 17 → (parseFieldDescriptor ((cCl 4).2.1 j).2.2.1).map defaultValue = some (fv 0 (fun _ _ => false) (fun _ _ => 0) 0 0 ((tm 4).getD j 0)) := by decide +kernel
  intro j hj ty h
  have h1 := h0 j hj
  rw [h] at h1
  exact Option.some.inj h1
theorem IS_5 : Cond.instantiable (cCl 5).1 (cCl 5).2.2 ∈ tblG := tg_in (by decide +kernel) rfl
theorem IZ_5 : Cond.initialized (cCl 5).1 ∈ tblG := tg_in (by decide +kernel) rfl
theorem DF_5 : ∀ j, j < 6 → ∀ ty, parseFieldDescriptor ((cCl 5).2.1 j).2.2.1 = some ty → defaultValue ty = fv 0 (fun _ _ => false) (fun _ _ => 0) 0 0 ((tm 5).getD j 0) := by
  have h0 : ∀ j, j < 6 → (parseFieldDescriptor ((cCl 5).2.1 j).2.2.1).map defaultValue = some (fv 0 (fun _ _ => false) (fun _ _ => 0) 0 0 ((tm 5).getD j 0)) := by decide +kernel
  intro j hj ty h
  have h1 := h0 j hj
  rw [h] at h1
  exact Option.some.inj h1
theorem IS_6 : Cond.instantiable (cCl 6).1 (cCl 6).2.2 ∈ tblG := tg_in (by decide +kernel) rfl
theorem IZ_6 : Cond.initialized (cCl 6).1 ∈ tblG := tg_in (by decide +kernel) rfl
theorem DF_6 : ∀ j, j < 2 → ∀ ty, parseFieldDescriptor ((cCl 6).2.1 j).2.2.1 = some ty → defaultValue ty = fv 0 (fun _ _ => false) (fun _ _ => 0) 0 0 ((tm 6).getD j 0) := by
  have h0 : ∀ j, j < 2 → (parseFieldDescriptor ((cCl 6).2.1 j).2.2.1).map defaultValue = some (fv 0 (fun _ _ => false) (fun _ _ => 0) 0 0 ((tm 6).getD j 0)) := by decide +kernel
  intro j hj ty h
  have h1 := h0 j hj
  rw [h] at h1
  exact Option.some.inj h1
theorem IS_7 : Cond.instantiable (cCl 7).1 (cCl 7).2.2 ∈ tblG := tg_in (by decide +kernel) rfl
theorem IZ_7 : Cond.initialized (cCl 7).1 ∈ tblG := tg_in (by decide +kernel) rfl
theorem DF_7 : ∀ j, j < 10 → ∀ ty, parseFieldDescriptor ((cCl 7).2.1 j).2.2.1 = some ty → defaultValue ty = fv 0 (fun _ _ => false) (fun _ _ => 0) 0 0 ((tm 7).getD j 0) := by
  have h0 : ∀ j, j < 10 → (parseFieldDescriptor ((cCl 7).2.1 j).2.2.1).map defaultValue = some (fv 0 (fun _ _ => false) (fun _ _ => 0) 0 0 ((tm 7).getD j 0)) := by decide +kernel
  intro j hj ty h
  have h1 := h0 j hj
  rw [h] at h1
  exact Option.some.inj h1
theorem IS_8 : Cond.instantiable (cCl 8).1 (cCl 8).2.2 ∈ tblG := tg_in (by decide +kernel) rfl
theorem IZ_8 : Cond.initialized (cCl 8).1 ∈ tblG := tg_in (by decide +kernel) rfl
theorem DF_8 : ∀ j, j < 10 → ∀ ty, parseFieldDescriptor ((cCl 8).2.1 j).2.2.1 = some ty → defaultValue ty = fv 0 (fun _ _ => false) (fun _ _ => 0) 0 0 ((tm 8).getD j 0) := by
  have h0 : ∀ j, j < 10 → (parseFieldDescriptor ((cCl 8).2.1 j).2.2.1).map defaultValue = some (fv 0 (fun _ _ => false) (fun _ _ => 0) 0 0 ((tm 8).getD j 0)) := by decide +kernel
  intro j hj ty h
  have h1 := h0 j hj
  rw [h] at h1
  exact Option.some.inj h1
theorem IS_9 : Cond.instantiable (cCl 9).1 (cCl 9).2.2 ∈ tblG := tg_in (by decide +kernel) rfl
theorem IZ_9 : Cond.initialized (cCl 9).1 ∈ tblG := tg_in (by decide +kernel) rfl
theorem DF_9 : ∀ j, j < 5 → ∀ ty, parseFieldDescriptor ((cCl 9).2.1 j).2.2.1 = some ty → defaultValue ty = fv 0 (fun _ _ => false) (fun _ _ => 0) 0 0 ((tm 9).getD j 0) := by
  have h0 : ∀ j, j < 5 → (parseFieldDescriptor ((cCl 9).2.1 j).2.2.1).map defaultValue = some (fv 0 (fun _ _ => false) (fun _ _ => 0) 0 0 ((tm 9).getD j 0)) := by decide +kernel
  intro j hj ty h
  have h1 := h0 j hj
  rw [h] at h1
  exact Option.some.inj h1
theorem IS_10 : Cond.instantiable (cCl 10).1 (cCl 10).2.2 ∈ tblG := tg_in (by decide +kernel) rfl
theorem IZ_10 : Cond.initialized (cCl 10).1 ∈ tblG := tg_in (by decide +kernel) rfl
theorem DF_10 : ∀ j, j < 10 → ∀ ty, parseFieldDescriptor ((cCl 10).2.1 j).2.2.1 = some ty → defaultValue ty = fv 0 (fun _ _ => false) (fun _ _ => 0) 0 0 ((tm 10).getD j 0) := by
  have h0 : ∀ j, j < 10 → (parseFieldDescriptor ((cCl 10).2.1 j).2.2.1).map defaultValue = some (fv 0 (fun _ _ => false) (fun _ _ => 0) 0 0 ((tm 10).getD j 0)) := by decide +kernel
  intro j hj ty h
  have h1 := h0 j hj
  rw [h] at h1
  exact Option.some.inj h1
theorem IS_11 : Cond.instantiable (cCl 11).1 (cCl 11).2.2 ∈ tblG := tg_in (by decide +kernel) rfl
theorem IZ_11 : Cond.initialized (cCl 11).1 ∈ tblG := tg_in (by decide +kernel) rfl
theorem DF_11 : ∀ j, j < 48 → ∀ ty, parseFieldDescriptor ((cCl 11).2.1 j).2.2.1 = some ty → defaultValue ty = fv 0 (fun _ _ => false) (fun _ _ => 0) 0 0 ((tm 11).getD j 0) := by
  have h0 : ∀ j, j < 48 → (parseFieldDescriptor ((cCl 11).2.1 j).2.2.1).map defaultValue = some (fv 0 (fun _ _ => false) (fun _ _ => 0) 0 0 ((tm 11).getD j 0)) := by decide +kernel
  intro j hj ty h
  have h1 := h0 j hj
  rw [h] at h1
  exact Option.some.inj h1
set_option maxRecDepth 100000 in
set_option maxHeartbeats 4000000 in
theorem m_X2_startz {E : EE} {l : Launch} {n : Nat} {z : Zs} {a0 : Int} {M : Mem} {o : Int} (hf : fn_X2_start a0 M = some o) : CT E l yX2_start cX2_start 1 (some .int) 0 0 0 0 [i3 a0] n z M (some (i3 o)) n z M := by
  refine CT_of PN_RX2 (Nat.le_of_ble_eq_true rfl) ?_
  intro p e s m args below meth c C hH ls hl
  replace C : Cx E p s m args meth c cX2_start 1 RX2 (some .int) n "start" := C
  have hl : lv_has ls 1 [(0, i3 a0)] := hl
  unfold fn_X2_start at hf
  refine lv_bipush (v := Int32.ofInt 10) C.hx C.hb dX2_start_0 (by decide) ?_
  refine lv_iload_n C.hx C.hb dX2_start_2 rfl (lv_at hl 0 rfl) ?_
  refine lv_iconst (v := Int32.ofInt 1) C.hx C.hb dX2_start_3 rfl ?_
  refine w_isub C dX2_start_4 ?_
  refine w_imul C dX2_start_5 ?_
  refine lv_bipush (v := Int32.ofInt 15) C.hx C.hb dX2_start_6 (by decide) ?_
  refine lv_iload_n C.hx C.hb dX2_start_8 rfl (lv_at hl 0 rfl) ?_
  refine w_imul C dX2_start_9 ?_
  refine lv_iconst (v := Int32.ofInt 1) C.hx C.hb dX2_start_10 rfl ?_
  refine w_iadd C dX2_start_11 ?_
  refine w_imul C dX2_start_12 ?_
  cases hf
  exact w_iret C hH dX2_start_13
