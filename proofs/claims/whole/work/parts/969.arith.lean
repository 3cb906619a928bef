/-! text: sums -/
def FA (D D' : Mem) : Prop := FD D D' ∧ ∀ j, D' 83 j = D 83 j
theorem FA.rf {D : Mem} : FA D D := ⟨FD.rf, fun _ => rfl⟩
theorem FA.tr {D D' D'' : Mem} (h : FA D D') (h' : FA D' D'') : FA D D'' := ⟨h.1.tr h'.1, fun j => (h'.2 j).trans (h.2 j)⟩
theorem FA.n4 {D D' : Mem} (h : N4 D D') : FA D D' := ⟨FD.n4 h, fun j => h 83 j (by omega)⟩
theorem FA.u {D : Mem} {i : Nat} {v : Int} (hi : 14 ≤ i ∧ i ≠ 28 ∧ i ≠ 29) : FA D (up D 71 i v) := ⟨FD.rf.u hi, fun _ => up_o (by decide)⟩
theorem Rst_27 {D : Mem} {op : Nat} {fr wo wf ord : List Int} {v : Int} (hR : Rst D op fr wo wf ord) : Rst (up D 71 27 v) op fr wo wf ord := by
  obtain ⟨r1, r2, ⟨r3, r4⟩, ⟨r5, r6, r7, r8⟩, r9, r10⟩ := hR
  have g1 : ∀ j, j ≠ 27 → up D 71 27 v 71 j = D 71 j := fun j a => by rw [up_i, if_neg a]
  exact ⟨by rw [g1 18 (by decide)]; exact r1, by rw [g1 20 (by decide)]; exact r2, ⟨by rw [g1 21 (by decide)]; exact r3, Sk_same (fun j => up_o (by decide)) r4⟩, ⟨by rw [g1 24 (by decide)]; exact r5, r6, Sk_same (fun j => up_o (by decide)) r7, Sk_same (fun j => up_o (by decide)) r8⟩, by rw [g1 34 (by decide)]; exact r9, fun j hj => by rw [up_o (by decide), up_o (by decide)]; exact r10 j hj⟩
theorem Ts_u {D : Mem} {i : Nat} {v : Int} (hi : 20 ≤ i) : Ts D (up D 71 i v) := ⟨fun j hj => by rw [up_i, if_neg (by omega)], fun j => up_o (by decide)⟩
theorem cls_lt {T : Tx} {C : Mem} {i : Nat} {code : List Int} (h : Cls T C i code) (hk : tK T i ≠ 0) : i < tN T := by
  by_cases q : i < tN T
  · exact q
  · exfalso
    have h9 := h.1.2.2.2.2.1
    have : i = tN T := by have := h.2.2.2.2.2; omega
    rw [this] at hk; exact hk h9
/-- goesOn at no sign of a sum -/
theorem g_on {T : Tx} {D : Mem} {i o : Nat} {f : Int} {fr wo wq ord : List Int} (hR : Rf T D i 2 o (f :: fr) wo wq ord) (hf : fr.length < 40) (hk : tK T i ≠ 26 ∧ tK T i ≠ 27 ∧ tK T i ≠ 28 ∧ tK T i ≠ 29) : fn_X11_goesOn 71 D = fn_X11_goesOn_J65 71 D f := by
  have h1 := tr_so hR.1.2.2.2
  unfold fn_X11_goesOn
  rw [r_top hR.2.2 hf, cu_s, cEq_if (x := D 71 16) (by omega) (by omega) (by decide) (by decide)]
  by_cases q : D 71 16 = 3
  · have h3 := h1.2 (by omega) (by omega)
    have h4 := tr_v hR.1.2.2.2 q
    rw [if_pos q, cEq_if (y := 43) h3.1 h3.2 (by decide) (by decide), if_neg (fun h => hk.1 (h4.2.2.2.2.1.mp h)), cEq_if (y := 45) h3.1 h3.2 (by decide) (by decide), if_neg (fun h => hk.2.1 (h4.2.2.2.1.mp h)), cEq_if (y := 42) h3.1 h3.2 (by decide) (by decide), if_neg (fun h => hk.2.2.1 (h4.2.2.2.2.2.1.mp h)), cEq_if (y := 47) h3.1 h3.2 (by decide) (by decide), if_neg (fun h => hk.2.2.2 (h4.2.2.2.2.2.2.1.mp h))]
  · rw [if_neg q]
theorem ops_ar {T : Tx} {o : Nat} {r : Int} {isK : Int → Prop} (hT : TkT T) (hK : ∀ k, isK k → (26 ≤ k ∧ k ≤ 29) ∧ rk (-k) = r) : Ops T FA 1 2 o r isK := by
  intro D i f0 fr wo wq ord pd hR hk hi hf0 hfr hst hpd h40 h399
  obtain ⟨h0, h27, hS⟩ := hR
  obtain ⟨k1, k2⟩ := hK _ hk
  have h1 := tr_so h0.2.2.2
  have h2 := tr_op h0.2.2.2
  have hso := h2.2 (by omega)
  have hto : D 71 17 = mo (-tK T i) := by
    rw [(h2.1 hso).2]; unfold tv
    rw [if_neg (by omega), if_neg (by omega), if_neg (by omega), if_neg (by omega)]
  have h3 := h1.2 (by omega) (by omega)
  have h4 := tr_v h0.2.2.2 hso
  have hop : isOp (-tK T i) := by unfold isOp; omega
  obtain ⟨D1, a1, a2, a3, a4, a5, a6⟩ := r_waits (y := -tK T i) (fr := f0 :: fr) hT hop (by rw [List.length_cons]; omega) (by rw [k2]; exact hst) hS h0 hi (by rw [k2]; exact hpd) (by omega) h399
  have hg : fn_X11_goesOn 71 D = some (up D1 71 27 1) := by
    have hj : fn_X11_goesOn_J49 71 D = some (up D1 71 27 1) := by
      unfold fn_X11_goesOn_J49
      rw [hto, a1, cv_s, st_eq]
    unfold fn_X11_goesOn
    rw [r_top hS (by omega), cu_s, cEq_if (x := D 71 16) (by omega) (by omega) (by decide) (by decide), if_pos hso, cEq_if (y := 43) h3.1 h3.2 (by decide) (by decide), cEq_if (y := 45) h3.1 h3.2 (by decide) (by decide), cEq_if (y := 42) h3.1 h3.2 (by decide) (by decide), cEq_if (y := 47) h3.1 h3.2 (by decide) (by decide), hj]
    by_cases q1 : D 71 17 = 43
    · rw [if_pos q1]
    · rw [if_neg q1]
      by_cases q2 : D 71 17 = 45
      · rw [if_pos q2]
      · rw [if_neg q2]
        by_cases q3 : D 71 17 = 42
        · rw [if_pos q3]
        · rw [if_neg q3, if_pos]
          refine h4.2.2.2.2.2.2.1.mpr ?_
          have e1 := fun h => q1 (h4.2.2.2.2.1.mpr h)
          have e2 := fun h => q2 (h4.2.2.2.1.mpr h)
          have e3 := fun h => q3 (h4.2.2.2.2.2.1.mpr h)
          omega
  refine ⟨up D1 71 27 1, rc_st hS.1 (Or.inr (Or.inr (Or.inl ⟨h27, hg⟩))), ⟨Rt0_f (Ts_u (by omega)) a4, by rw [up_i, if_pos rfl], Rst_27 a2⟩, FA.tr ⟨a3, a6⟩ (FA.u (by omega))⟩
/-- the reference opens something -/
theorem r_opens {T : Tx} {D : Mem} {i o : Nat} {s f : Int} {fr wo wq ord : List Int} (hT : TkT T) (hR : Rf T D i s o fr wo wq ord) (hi : i < tN T) (hf : fr.length < 40) (ho : o ≤ 8) : (o < 8 → ∃ D', fn_X11_opensSign 71 f D = some (1, D') ∧ Rf T D' (i + 1) s (o + 1) (f :: fr) wo wq ord ∧ FA D D') ∧ (¬ o < 8 → ∃ D', fn_X11_opensSign 71 f D = some (0, D') ∧ Er D' 3 (tP T i : Int) ∧ FD D D') := by
  obtain ⟨h0, h27, hS⟩ := hR
  have h20 := hS.2.1
  refine ⟨fun q => ?_, fun q => ?_⟩
  · unfold fn_X11_opensSign
    rw [h20, cEq_if (by omega) (by omega) (by decide) (by decide), if_neg (by omega), st_eq]
    have hS1 : Rst (up D 71 20 ((o : Int) + 1)) (o + 1) fr wo wq ord := by
      obtain ⟨r1, r2, ⟨r3, r4⟩, ⟨r5, r6, r7, r8⟩, r9, r10⟩ := hS
      have g1 : ∀ j, j ≠ 20 → up D 71 20 ((o : Int) + 1) 71 j = D 71 j := fun j a => by rw [up_i, if_neg a]
      exact ⟨by rw [g1 18 (by decide)]; exact r1, by rw [up_i, if_pos rfl]; omega, ⟨by rw [g1 21 (by decide)]; exact r3, Sk_same (fun j => up_o (by decide)) r4⟩, ⟨by rw [g1 24 (by decide)]; exact r5, r6, Sk_same (fun j => up_o (by decide)) r7, Sk_same (fun j => up_o (by decide)) r8⟩, by rw [g1 34 (by decide)]; exact r9, fun j hj => by rw [up_o (by decide), up_o (by decide)]; exact r10 j hj⟩
    obtain ⟨D1, a1, a2, a3, a4, a5, a6⟩ := r_frame (f := f) hS1 hf
    have hR1 : Rt0 T D1 i := Rt0_f ((Ts_u (by omega)).tr a4) h0
    obtain ⟨D2, n1, n2, n3⟩ := r_next hT hR1 hi
    rw [a1, cv_s, n1, cv_s]
    refine ⟨D2, rfl, ⟨n3, ?_, Rst_n4 n2 a2⟩, ((FA.u (by omega)).tr ⟨a3, a6⟩).tr (FA.n4 n2)⟩
    rw [n2 71 27 (by omega), a5 27 (by decide), up_i, if_neg (by decide)]; exact h27
  · unfold fn_X11_opensSign
    obtain ⟨D1, a1, a2, a3⟩ := r_errs (f := 3) h0 hS.1 (by omega)
    rw [h20, cEq_if (by omega) (by omega) (by decide) (by decide), if_pos (by omega), a1, cv_s]
    exact ⟨D1, rfl, a2, a3⟩
/-- the class opens something -/
theorem c_opens {T : Tx} {C : Mem} {i o : Nat} {code : List Int} (hC : Cls T C i code) (hi : i < tN T) (ho : o ≤ 8) : (o < 8 → ∃ C', fn_X1_opens 31 o C = some (1, C') ∧ Cls T C' (i + 1) code ∧ FC C C') ∧ (¬ o < 8 → ∃ C', fn_X1_opens 31 o C = some (0, C') ∧ FC C C' ∧ C' 31 3 = 3 ∧ C' 31 4 = (tP T i : Int)) := by
  refine ⟨fun q => ?_, fun q => ?_⟩
  · unfold fn_X1_opens
    obtain ⟨C1, c1, c2, c3⟩ := c_next hC hi
    rw [cLt_if (by omega) (by omega) (by decide) (by decide), if_pos (by omega), show 31 + 6 = 37 from rfl, c1, cv_s]
    exact ⟨C1, rfl, c2, c3⟩
  · unfold fn_X1_opens
    obtain ⟨C1, c1, c2, c3, c4⟩ := c_ref (f := 3) hC
    rw [cLt_if (by omega) (by omega) (by decide) (by decide), if_neg (by omega), c1, cl_s, ck_t (Or.inl rfl)]
    exact ⟨C1, rfl, c2, c3, c4⟩
theorem c_pass {T : Tx} {C : Mem} {i : Nat} {code : List Int} {a : Int} (hC : Cls T C i code) (ha : 1 ≤ a ∧ a ≤ 40) (hk : 0 ≤ tK T i ∧ tK T i ≤ 32) : (tK T i = a → ∃ C', fn_X1_pass 31 a C = some (1, C') ∧ Cls T C' (i + 1) code ∧ FC C C') ∧ (tK T i ≠ a → ∃ C', fn_X1_pass 31 a C = some (0, C') ∧ FC C C' ∧ C' 31 3 = 1 ∧ C' 31 4 = (tP T i : Int)) := by
  have h7 : C (31 + 6) 7 = tK T i := hC.2.1.2.1
  refine ⟨fun q => ?_, fun q => ?_⟩
  · unfold fn_X1_pass
    obtain ⟨C1, c1, c2, c3⟩ := c_next hC (cls_lt hC (by omega))
    rw [h7, cEq_if (by omega) (by omega) (by omega) (by omega), if_pos q, show 31 + 6 = 37 from rfl, c1, cv_s]
    exact ⟨C1, rfl, c2, c3⟩
  · unfold fn_X1_pass
    obtain ⟨C1, c1, c2, c3, c4⟩ := c_ref (f := 1) hC
    rw [h7, cEq_if (by omega) (by omega) (by omega) (by omega), if_neg q, c1, cl_s, ck_t (Or.inl rfl)]
    exact ⟨C1, rfl, c2, c3, c4⟩
theorem c_num {T : Tx} {C : Mem} {i : Nat} {code : List Int} {a : Int} (hC : Cls T C i code) (ha : 1 ≤ a ∧ a ≤ 9999) (hk : 0 ≤ tK T i ∧ tK T i ≤ 32) (hv : tK T i = 2 → 0 ≤ tV T i ∧ tV T i ≤ 10000) : (tK T i = 2 → tV T i ≤ a → ∃ C', fn_X1_number 31 a C = some (1, C') ∧ Cls T C' (i + 1) code ∧ FC C C') ∧ (tK T i = 2 → a < tV T i → ∃ C', fn_X1_number 31 a C = some (0, C') ∧ FC C C' ∧ C' 31 3 = 2 ∧ C' 31 4 = (tP T i : Int)) ∧ (tK T i ≠ 2 → ∃ C', fn_X1_number 31 a C = some (0, C') ∧ FC C C' ∧ C' 31 3 = 1 ∧ C' 31 4 = (tP T i : Int)) := by
  have h7 : C (31 + 6) 7 = tK T i := hC.2.1.2.1
  have h8 : C (31 + 6) 8 = tV T i := hC.2.1.2.2.1
  refine ⟨fun q q2 => ?_, fun q q2 => ?_, fun q => ?_⟩
  · have := hv q
    unfold fn_X1_number
    obtain ⟨C1, c1, c2, c3⟩ := c_next hC (cls_lt hC (by omega))
    rw [h7, h8, cEq_if (by omega) (by omega) (by omega) (by omega), if_pos q, cLt_if (by omega) (by omega) (by omega) (by omega), if_neg (by omega), show 31 + 6 = 37 from rfl, c1, cv_s]
    exact ⟨C1, rfl, c2, c3⟩
  · have := hv q
    unfold fn_X1_number
    obtain ⟨C1, c1, c2, c3, c4⟩ := c_ref (f := 2) hC
    rw [h7, h8, cEq_if (by omega) (by omega) (by omega) (by omega), if_pos q, cLt_if (by omega) (by omega) (by omega) (by omega), if_pos (by omega), c1, cl_s, ck_t (Or.inl rfl)]
    exact ⟨C1, rfl, c2, c3, c4⟩
  · unfold fn_X1_number
    obtain ⟨C1, c1, c2, c3, c4⟩ := c_ref (f := 1) hC
    rw [h7, cEq_if (by omega) (by omega) (by omega) (by omega), if_neg q, c1, cl_s, ck_t (Or.inl rfl)]
    exact ⟨C1, rfl, c2, c3, c4⟩
