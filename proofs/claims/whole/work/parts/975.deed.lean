/-! text: a deed's clause -/
theorem r_num {T : Tx} {D : Mem} {i op : Nat} {s u : Int} {fr wo wf ord : List Int} (hT : TkT T) (hR : Rf T D i s op fr wo wf ord) (hu : 0 ≤ u ∧ u ≤ 9998) (hn : tK T i = 2 → i < tN T) :
    (tK T i = 2 → tV T i ≤ u → ∃ D', fn_X11_number 71 0 u D = some (tV T i, D') ∧ Rf T D' (i + 1) s op fr wo wf ord ∧ N4 D D') ∧ (tK T i = 2 → u < tV T i → ∃ D', fn_X11_number 71 0 u D = some (0, D') ∧ Er D' 2 (tP T i : Int) ∧ FD D D') ∧ (tK T i ≠ 2 → ∃ D', fn_X11_number 71 0 u D = some (0, D') ∧ Er D' 1 (tP T i : Int) ∧ FD D D') := by
  have h18 : D 71 18 = 0 := hR.2.2.1
  have h1 := tr_so hR.1.2.2.2
  have hw := tr_wd hR.1.2.2.2
  refine ⟨fun q q2 => ?_, fun q q2 => ?_, fun q => ?_⟩
  · have hk2 := hR.1.2.2.2
    rw [q] at hk2
    obtain ⟨hso, hv⟩ := tr_num hk2
    have hto : D 71 17 = tV T i := by omega
    obtain ⟨D', a1, a2, a3⟩ := Rf_n hT hR (hn q)
    refine ⟨D', ?_, a2, a3⟩
    unfold fn_X11_number
    rw [h18, cLt_if (by decide) (by decide) (by decide) (by decide), if_neg (by decide), hso, cEq_if (x := 2) (y := 2) (by decide) (by decide) (by decide) (by decide), if_pos rfl, hto, p_in (x := tV T i) ⟨by omega, by omega⟩ ⟨by decide, by decide⟩ ⟨by omega, by omega⟩, cu_s, cE_b2, if_pos (by omega), nm_eq, a1, cv_s]
  · have hk2 := hR.1.2.2.2
    rw [q] at hk2
    obtain ⟨hso, hv⟩ := tr_num hk2
    obtain ⟨D', a1, a2, a3⟩ := r_errs (f := 2) hR.1 h18 (by omega)
    refine ⟨D', ?_, a2, a3⟩
    unfold fn_X11_number
    rw [h18, cLt_if (by decide) (by decide) (by decide) (by decide), if_neg (by decide), hso, cEq_if (x := 2) (y := 2) (by decide) (by decide) (by decide) (by decide), if_pos rfl, p_in (x := D 71 17) ⟨by omega, by omega⟩ ⟨by decide, by decide⟩ ⟨by omega, by omega⟩, cu_s, cE_b2, if_neg (by omega), a1, cv_s]
  · obtain ⟨D', a1, a2, a3⟩ := r_errs (f := 1) hR.1 h18 (by omega)
    refine ⟨D', ?_, a2, a3⟩
    unfold fn_X11_number fn_X11_number_J15
    rw [h18, cLt_if (by decide) (by decide) (by decide) (by decide), if_neg (by decide), cEq_if (x := D 71 16) (y := 2) (by omega) (by omega) (by decide) (by decide), if_neg (fun h => q (hw.2.2.1.mp h)), a1, cv_s]
theorem e_errs {D : Mem} {f : Int} (h : 1 ≤ D 71 18 ∧ D 71 18 ≤ 5) : fn_X11_errs 71 f D = some D := by
  unfold fn_X11_errs
  rw [cEq_if (by omega) (by omega) (by decide) (by decide), if_neg (by omega)]
theorem e_254 {D : Mem} (h : 1 ≤ D 71 18 ∧ D 71 18 ≤ 5) : fn_X11_clause_J254 71 D = some D := by
  unfold fn_X11_clause_J254 fn_X11_clause_J275
  rw [cEq_if (x := D 71 18) (by omega) (by omega) (by decide) (by decide), if_neg (by omega), cEq_if (x := D 71 18) (by omega) (by omega) (by decide) (by decide), if_neg (by omega)]
theorem e_227 {D : Mem} {c : Nat} (h : 1 ≤ D 71 18 ∧ D 71 18 ≤ 5) (hc : D 71 28 = (c : Int)) (h20 : c < 20) : fn_X11_clause_J227 71 D = some (up D 89 c 0) := by
  unfold fn_X11_clause_J227 fn_X11_clause_J238 fn_X11_number fn_X11_number_J15
  rw [cEq_if (x := D 71 18) (y := 0) (by omega) (by omega) (by decide) (by decide), if_neg (by omega), cLt_if (x := 0) (by decide) (by decide) (by omega) (by omega), if_pos (by omega), e_errs h, cv_s, cl_s, hc, wr_eq (by omega) (by omega), Int.toNat_natCast, show 71 + 18 = 89 from rfl]
  exact e_254 (by rw [up_o (by decide)]; exact h)
theorem Er_a {D : Mem} {f p v : Int} {k j : Nat} (h : Er D f p) (hk : k ≠ 71) : Er (up D k j v) f p := by
  obtain ⟨a, b, c, d⟩ := h
  exact ⟨by rw [up_o (by omega)]; exact a, b, by rw [up_o (by omega)]; exact c, d⟩
theorem Er_18 {D : Mem} {f p : Int} (h : Er D f p) : 1 ≤ D 71 18 ∧ D 71 18 ≤ 5 := by rw [h.1]; exact h.2.1
theorem deed_tail {T : Tx} {C D Cx Dx : Mem} {i c j : Nat} {code ord : List Int} {v2 v3 : Int} (hT : TkT T) (hI : Iv T C D i code c ord) (h20 : c < 20) (hk : 6 ≤ tK T i ∧ tK T i ≤ 8) (hCx : Cls T Cx j code) (hfc : FC C Cx) (hDx : Rf T Dx j 4 0 [] [] [] ord) (h28 : Dx 71 28 = (c : Int)) (hfx : FX2 D Dx) (y86 : ∀ j, Dx 86 j = if j = c then tK T i - 4 else D 86 j) (y87 : ∀ j, Dx 87 j = if j = c then (ord.length : Int) else D 87 j) (y88 : ∀ j, j ≠ c → Dx 88 j = D 88 j ∧ Dx 89 j = D 89 j) (hv2 : Dx 88 c = v2 ∧ 0 ≤ v2 ∧ v2 ≤ 99) (hv3 : tK T i = 6 → Dx 89 c = v3 ∧ 0 ≤ v3 ∧ v3 ≤ 9) (hj : i < j) (hrc : ∀ D', fn_X11_clause_J254 71 Dx = some D' → Rc 1 D D') :
    ∃ Cy, fn_X7_addClause 32 (tK T i) v2 v3 Cx = some Cy ∧ Clr T C D i c (fn_X1_clause_J108 31 1 Cy) := by
  obtain ⟨hC, hR, hol, ⟨hc1, hc2, -⟩, hcl, hL1, hL2⟩ := hI
  have h300 : tN T ≤ 300 := hC.1.1
  have hinj := hCx.2.2.2.2.2
  have hin := hC.2.2.2.2.2
  have hkj := tr_k hDx.1.2.2.2
  have o3 : ∀ k j, (k = 32 ∧ j ≠ 1) ∨ k = 34 ∨ k = 35 ∨ k = 36 → Cx k j = C k j := fun k j h => hfc k j (by omega) (by omega) (by omega) (by omega)
  obtain ⟨Cy, b1, b2', b3, b4, b5, b6⟩ := c_addc (C := Cx) (c := c) (a1 := tK T i) (a2 := v2) (a3 := v3) (by rw [o3 32 9 (by omega)]; exact hc1) h20
  have hCy : Cls T Cy j code := Cls_f hCx (fun k j q => b6 k j (by omega) (by omega) (by omega) (by omega))
  have fcy : FC2 C Cy := (FC2.fc hfc).tr (fun k j q => b6 k j (by omega) (by omega) (by omega) (by omega))
  have hsg := r_isSign (s := 59) (kk := 32) hDx.1 (by omega)
  have h18 : Dx 71 18 = 0 := hDx.2.2.1
  refine ⟨Cy, b1, ?_⟩
  unfold fn_X1_clause_J108 fn_X1_clause_J126
  rw [cEq_if (x := 1) (y := 0) (by decide) (by decide) (by decide) (by decide), if_neg (by decide)]
  by_cases q32 : tK T j = 32
  · obtain ⟨C5, p1, p2, p3⟩ := (c_pass (a := 32) hCy (by decide) hkj).1 q32
    rw [p1, cl_s, cEq_if (x := 1) (y := 0) (by decide) (by decide) (by decide) (by decide), if_neg (by decide)]
    obtain ⟨D7, g1, g2, g3, g4⟩ := r_cov (fr := []) (mp := []) hT hDx (by decide) (fun x hx => by cases hx) (by decide) (by rw [List.length_nil]; omega) (cls_lt hCy (by omega))
    have rc : Rc 1 D D7 := hrc D7 (by
      unfold fn_X11_clause_J254 fn_X11_clause_J275
      rw [h18, cEq_if (x := 0) (y := 0) (by decide) (by decide) (by decide) (by decide), if_pos rfl, hsg, cu_s, b2_t q32, cEq_if (x := 1) (y := 0) (by decide) (by decide) (by decide) (by decide), if_neg (by decide), cEq_if (x := 0) (y := 0) (by decide) (by decide) (by decide) (by decide), if_pos rfl, g1, cv_s])
    rw [List.append_nil] at g2
    have x86 : ∀ k j, 86 ≤ k → k ≤ 89 → D7 k j = Dx k j := fun k j h1 h2 => g4 k j (by omega) (by omega)
    have o5 : ∀ k j, (k = 32 ∧ j ≠ 1) ∨ k = 34 ∨ k = 35 ∨ k = 36 → C5 k j = Cy k j := fun k j h => p3 k j (by omega) (by omega) (by omega) (by omega)
    have o6 : ∀ j, j ≠ 1 → j ≠ 9 → C5 32 j = C 32 j := fun j h h' => by rw [o5 32 j (by omega), b6 32 j (by omega) (by decide) (by decide) (by decide), o3 32 j (by omega)]
    refine Or.inl ⟨C5, D7, j + 1, code, ord ++ [-99], 1, rfl, by omega, ⟨p2, g2, by simp only [List.length_append, List.length_singleton]; omega, ⟨by rw [o5 32 9 (by omega)]; exact b2', by rw [g3, h28]; omega, by omega⟩, fun k hk => ?_, ?_, ?_⟩, fcy.tr (FC2.fc p3), hfx.tr (FX2.fe g4), rc, by omega⟩
    · by_cases q : k = c
      · have e34 : C5 34 k = tK T i := by rw [o5 34 k (by omega), b3, if_pos q]
        have e35 : C5 35 k = v2 := by rw [o5 35 k (by omega), b4, if_pos q]
        have e36 : C5 36 k = v3 := by rw [o5 36 k (by omega), b5, if_pos q]
        refine ⟨by omega, by rw [x86 86 k (by omega) (by omega), y86, if_pos q, e34], fun h => ?_, fun h => ?_⟩
        · rw [e35, x86 88 k (by omega) (by omega), q]; exact ⟨hv2.2, hv2.1⟩
        · have := hv3 (by omega)
          rw [e36, x86 89 k (by omega) (by omega), q]; exact ⟨this.2, this.1⟩
      · have hk' := hcl k (by omega)
        unfold Cl1 at hk' ⊢
        rw [o5 34 k (by omega), b3, if_neg q, o3 34 k (by omega), o5 35 k (by omega), b4, if_neg q, o3 35 k (by omega), o5 36 k (by omega), b5, if_neg q, o3 36 k (by omega), x86 86 k (by omega) (by omega), y86, if_neg q, x86 88 k (by omega) (by omega), (y88 k q).1, x86 89 k (by omega) (by omega), (y88 k q).2]
        exact hk'
    · have := LawI_mono (x := []) (y := [-99]) hL1 (o6 2 (by decide) (by decide)) (o6 3 (by decide) (by decide)) (D' := D7) (fun k hk => ⟨by rw [x86 86 k (by omega) (by omega), y86, if_neg (by omega)], by rw [x86 87 k (by omega) (by omega), y87, if_neg (by omega)]⟩) (by rw [x86 86 c (by omega) (by omega), y86, if_pos rfl]; omega)
      rwa [List.append_nil] at this
    · have := LawI_mono (x := []) (y := [-99]) hL2 (o6 4 (by decide) (by decide)) (o6 5 (by decide) (by decide)) (D' := D7) (fun k hk => ⟨by rw [x86 86 k (by omega) (by omega), y86, if_neg (by omega)], by rw [x86 87 k (by omega) (by omega), y87, if_neg (by omega)]⟩) (by rw [x86 86 c (by omega) (by omega), y86, if_pos rfl]; omega)
      rwa [List.append_nil] at this
  · obtain ⟨C5, p1, p2, p3, p4⟩ := (c_pass (a := 32) hCy (by decide) hkj).2 q32
    rw [p1, cl_s, cEq_if (x := 0) (y := 0) (by decide) (by decide) (by decide) (by decide), if_pos rfl]
    obtain ⟨D7, g1, g2, g3⟩ := r_errs (f := 1) hDx.1 h18 (by omega)
    have g18 := Er_18 g2
    have rc : Rc 1 D D7 := hrc D7 (by
      unfold fn_X11_clause_J254 fn_X11_clause_J275
      rw [h18, cEq_if (x := 0) (y := 0) (by decide) (by decide) (by decide) (by decide), if_pos rfl, hsg, cu_s, b2_f q32, cEq_if (x := 0) (y := 0) (by decide) (by decide) (by decide) (by decide), if_pos rfl, g1, cv_s, cEq_if (x := D7 71 18) (y := 0) (by omega) (by omega) (by decide) (by decide), if_neg (by omega)])
    exact Or.inr ⟨C5, D7, _, _, 1, rfl, fcy.tr (FC2.fc p2), p3, p4, rc, by omega, g2, hfx.tr (FX2.fe (FE.fd g3))⟩
