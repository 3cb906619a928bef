theorem given_E {s : State} {b : Nat} (hts : ∀ w ∈ lw_tbl, w.before #[Value.ref b] s = true) (hgv : (Jvm.Cond.and given_1 narrow_1).before #[Value.ref b] s = true) : ∃ E : EE, eb E = s.heap.size ∧ eH E = s.heap ∧ GK E s := by
  have hall : ∀ w ∈ fl1, w.before #[Value.ref b] s = true := flat_of_before _ hgv
  have hA : ∀ a : Nat, a < s.heap.size → ¬ (fun q : Nat => s.heap.size ≤ q) a := fun a h => Nat.not_le.mpr h
  have hcl : ∀ ci, ci < 12 → ∃ q : ClassId × (Nat → Nat), u_Kn s (cCl ci).1 (cCl ci).2.1 (cCl ci).2.2 q.1 q.2 := by
    intro ci hci
    obtain ⟨CN, T, N, ty, h1, h2, -⟩ := clOK ci hci
    have hi : Cond.instantiable (cCl ci).1 (cCl ci).2.2 ∈ tblG := by
      match ci, hci with
      | 0, _ => exact IS_0
      | 1, _ => exact IS_1
      | 2, _ => exact IS_2
      | 3, _ => exact IS_3
      | 4, _ => exact IS_4
      | 5, _ => exact IS_5
      | 6, _ => exact IS_6
      | 7, _ => exact IS_7
      | 8, _ => exact IS_8
      | 9, _ => exact IS_9
      | 10, _ => exact IS_10
      | 11, _ => exact IS_11
    rw [cCl_of h1] at hi ⊢
    obtain ⟨cC, iS, h⟩ := u_known (C := CN) (T := T) (N := N) hts h2 (hts _ (tg_lw hi))
    exact ⟨(cC, iS), h⟩
  have hcl2 : ∀ ci : Nat, ∃ q : ClassId × (Nat → Nat), ci < 12 → u_Kn s (cCl ci).1 (cCl ci).2.1 (cCl ci).2.2 q.1 q.2 := by
    intro ci
    by_cases h : ci < 12
    · obtain ⟨q, hq⟩ := hcl ci h; exact ⟨q, fun _ => hq⟩
    · exact ⟨(0, fun _ => 0), fun q => absurd q h⟩
  obtain ⟨dd, hdd⟩ := Classical.axiomOfChoice hcl2
  have harr : ∀ ty : FieldType, Cond.arrayClass ty ∈ tblG → ∃ cA : ClassId, ArrOfT s cA ty ∧ s.vm.findClass ("[" ++ ty.toString) = some cA := by
    intro ty h
    obtain ⟨cA, kA, comp, h1, h2, h3⟩ := Cond.arrayClass_spec (hts _ (tg_lw h))
    exact ⟨cA, fun n z => ⟨fun k h => (by cases h), kA, h2, comp, h3⟩, h1⟩
  obtain ⟨cI, aI, fI⟩ := harr .int AC_I
  obtain ⟨cB, aB, fB⟩ := harr .byte AC_B
  obtain ⟨cZ, aZ, fZ⟩ := harr .boolean AC_Z
  obtain ⟨cJ, aJ, fJ⟩ := harr .long AC_J
  obtain ⟨comp, cT, kT, hcomp, -, hkT, hkindT, hnameT⟩ := Cond.arrayOver_spec (hts _ t_ao)
  obtain ⟨adK, adV, hS, hev⟩ := vk_Sof (args := #[Value.ref b]) (s := s) (N := 16) (tm := sTm) (len := sLen) (byt := sByt) (A := fun q : Nat => s.heap.size ≤ q) (fun i hi => by have := sln_lt i hi; omega) (fun i hi => hall _ (f_ex i hi)) (fun i hi => hall _ (f_co i hi)) (fun i hi => hall _ (f_ar i hi)) (fun i hi => hall _ (f_le i hi)) (fun i hi j hj => hall _ (f_el i hi j hj)) (fun i j hi hj hne => (f_ne i hi j hj hne).elim (fun h => Or.inl (hall _ h)) (fun h => Or.inr (hall _ h))) hA
  obtain ⟨tG, htG, hT⟩ := va_Tof (args := #[Value.ref b]) (s := s) (tm := cTm) (ty := .int) (N := 60) (f := fun j => i3 (chL.getD j 0)) (A := fun q : Nat => s.heap.size ≤ q) (by decide) (hall _ f_ca) (va_eqt (hall _ f_cl)) (fun j hj => va_eqt (hall _ (f_ce j hj))) hA
  have hZ1 := va_Zof (hts _ t_l1) (hts _ t_i1) (va_eqt (hall _ f_cs)) hA
  have hZ2 := va_Zof (hts _ t_l2) (hts _ t_i2) htG hA
  have hZ3 := va_Zqof (hts _ t_l3) (hts _ t_i3) (hall _ f_si) hA
  refine ⟨((fun k => (dd k).1, fun k => (dd k).2), fun i => if i = 0 then cI else if i = 1 then cB else if i = 2 then cZ else if i = 3 then cJ else cT, s.heap.size, s.heap, adK, adV, tG), rfl, rfl, ⟨?_, ?_⟩, ?_, hS, ?_, hZ1, hZ2, hT, va_AO.of (hts _ t_ao), hZ3⟩
  · intro ci q hq
    have hlt : ci < 12 := (List.getElem?_eq_some_iff.mp hq).1
    have := hdd ci hlt
    rw [cCl_of hq] at this
    exact this
  · intro k q hq
    have hk : k < 5 := (List.getElem?_eq_some_iff.mp hq).1
    match k, hk with
    | 0, _ => cases hq; exact ⟨aI, fI⟩
    | 1, _ => cases hq; exact ⟨aB, fB⟩
    | 2, _ => cases hq; exact ⟨aZ, fZ⟩
    | 3, _ => cases hq; exact ⟨aJ, fJ⟩
    | 4, _ => cases hq; exact ⟨fun n z => ⟨fun k h => (by cases h), kT, hkT, comp, hkindT⟩, kT, comp, hkT, hkindT, hcomp, hnameT⟩
  · intro w hw
    obtain ⟨h1, h2⟩ := List.mem_filter.mp hw
    have h0 := hts w h1
    cases w <;> first | exact va_Nw.of rfl h0 | cases h2
  · intro j hj
    exact vk_R.of (hts _ (t_sr j hj)) (hev j hj)
