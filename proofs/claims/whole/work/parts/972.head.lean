/-! text: a clause's first word, and a law's end -/
theorem r_head {T : Tx} {D : Mem} {i c : Nat} {ord : List Int} (hT : TkT T) (hR : Rf T D i 4 0 [] [] [] ord) (hc : D 71 28 = (c : Int)) (h20 : c < 20) (hk : 4 ≤ tK T i ∧ tK T i ≤ 8) (hi : i < tN T) (hnt : tK T i ≤ 5 → ∀ k, k < c → D 86 k ≠ tK T i - 4) (hd : ∀ k, k < c → R3 (D 86 k)) (h400 : ord.length ≤ 400) :
    ∃ D4, Rf T D4 (i + 1) 4 0 [] [] [] ord ∧ D4 71 28 = (c : Int) ∧ D4 71 29 = tK T i - 4 ∧ (∀ j, D4 86 j = if j = c then tK T i - 4 else D 86 j) ∧ (∀ j, D4 87 j = if j = c then (ord.length : Int) else D 87 j) ∧ (∀ j, j ≠ c → D4 88 j = D 88 j ∧ D4 89 j = D 89 j) ∧ FX2 D D4 ∧
      fn_X11_clause 71 D = cLt 1 (tK T i - 4) (cEq (tK T i - 4) 4 (fn_X11_clause_J195 71 D4 99) (fn_X11_clause_J195 71 D4 19)) (cEq (tK T i - 4) 0 (fn_X11_clause_J150 71 D4 2) (fn_X11_clause_J150 71 D4 1)) := by
  have hw := tr_wd hR.1.2.2.2
  have hso : D 71 16 = 1 := hw.1.mpr (by omega)
  have hto := hw.2.1 hso
  generalize hM : up D 71 29 (tK T i - 4) = M
  have m29 : M 71 29 = tK T i - 4 := by rw [← hM, up_i, if_pos rfl]
  have m1 : ∀ j, j ≠ 29 → M 71 j = D 71 j := fun j a => by rw [← hM, up_i, if_neg a]
  have m2 : ∀ k j, k ≠ 71 → M k j = D k j := fun k j a => by rw [← hM, up_o a]
  have hRM : Rf T M i 4 0 [] [] [] ord := by rw [← hM]; exact Rf_u hR (by omega)
  have m28 : M 71 28 = (c : Int) := by rw [m1 28 (by decide)]; exact hc
  have m18 : M 71 18 = 0 := hRM.2.2.1
  have m34 : M 71 34 = (ord.length : Int) := hRM.2.2.2.2.2.2.1
  generalize hG1 : up M 86 c (tK T i - 4) = G1
  have g1 : ∀ k j, k ≠ 86 → G1 k j = M k j := fun k j a => by rw [← hG1, up_o a]
  generalize hG2 : up G1 87 c (ord.length : Int) = G2
  have g2 : ∀ k j, k ≠ 87 → G2 k j = G1 k j := fun k j a => by rw [← hG2, up_o a]
  generalize hG3 : up G2 88 c (-1) = G3
  have g3 : ∀ k j, k ≠ 88 → G3 k j = G2 k j := fun k j a => by rw [← hG3, up_o a]
  generalize hG4 : up G3 89 c (-1) = G4
  have g4 : ∀ k j, k ≠ 89 → G4 k j = G3 k j := fun k j a => by rw [← hG4, up_o a]
  have hRG : Rf T G4 i 4 0 [] [] [] ord := by
    rw [← hG4]; refine Rf_a ?_ (by omega)
    rw [← hG3]; refine Rf_a ?_ (by omega)
    rw [← hG2]; refine Rf_a ?_ (by omega)
    rw [← hG1]; exact Rf_a hRM (by omega)
  obtain ⟨D4, n1, n2, n3⟩ := Rf_n hT hRG hi
  have f : ∀ k j, k ≠ 86 → k ≠ 87 → k ≠ 88 → k ≠ 89 → ¬ (k = 71 ∧ 14 ≤ j ∧ j ≤ 17) → D4 k j = M k j := fun k j a b c d e => by rw [n3 k j e, g4 k j d, g3 k j c, g2 k j b, g1 k j a]
  refine ⟨D4, n2, by rw [f 71 28 (by decide) (by decide) (by decide) (by decide) (by omega)]; exact m28, by rw [f 71 29 (by decide) (by decide) (by decide) (by decide) (by omega)]; exact m29, fun j => ?_, fun j => ?_, fun j hj => ⟨?_, ?_⟩, fun k j a b => ?_, ?_⟩
  · rw [n3 86 j (by omega), g4 86 j (by decide), g3 86 j (by decide), g2 86 j (by decide), ← hG1, up_i, m2 86 j (by decide)]
  · rw [n3 87 j (by omega), g4 87 j (by decide), g3 87 j (by decide), ← hG2, up_i, g1 87 j (by decide), m2 87 j (by decide)]
  · rw [n3 88 j (by omega), g4 88 j (by decide), ← hG3, up_i, if_neg hj, g2 88 j (by decide), g1 88 j (by decide), m2 88 j (by decide)]
  · rw [n3 89 j (by omega), ← hG4, up_i, if_neg hj, g3 89 j (by decide), g2 89 j (by decide), g1 89 j (by decide), m2 89 j (by decide)]
  · rw [f k j (by omega) (by omega) (by omega) (by omega) (by rintro ⟨rfl, h⟩; have := a rfl; omega), ← hM, up_k, if_neg (by rintro ⟨rfl, rfl⟩; have := a rfl; omega)]
  · have hJ : fn_X11_clause_J57 71 M = cLt 1 (tK T i - 4) (cEq (tK T i - 4) 4 (fn_X11_clause_J195 71 D4 99) (fn_X11_clause_J195 71 D4 19)) (cEq (tK T i - 4) 0 (fn_X11_clause_J150 71 D4 2) (fn_X11_clause_J150 71 D4 1)) := by
      unfold fn_X11_clause_J57 fn_X11_clause_J71
      rw [m28, cEq_if (x := (c : Int)) (y := 20) (by omega) (by omega) (by decide) (by decide), if_neg (by omega), m18, cLt_if (x := 0) (y := 0) (by decide) (by decide) (by decide) (by decide), if_neg (by decide), m29, wr_eq (by omega) (by omega), Int.toNat_natCast]
      simp only [Nat.reduceAdd]
      rw [hG1, g1 71 28 (by decide), m28, wr_eq (by omega) (by omega), Int.toNat_natCast, g1 71 34 (by decide), m34, hG2, g2 71 28 (by decide), g1 71 28 (by decide), m28, wr_eq (by omega) (by omega), Int.toNat_natCast, hG3, g3 71 28 (by decide), g2 71 28 (by decide), g1 71 28 (by decide), m28, wr_eq (by omega) (by omega), Int.toNat_natCast, hG4, n1, cv_s, f 71 29 (by decide) (by decide) (by decide) (by decide) (by omega), m29]
    unfold fn_X11_clause
    rw [hso, cEq_if (x := 1) (y := 1) (by decide) (by decide) (by decide) (by decide), if_pos rfl, hto, cLt_if (x := 4) (by decide) (by decide) (by omega) (by omega), if_neg (by omega), st_eq, hM, m29, hJ]
    by_cases q : 1 < tK T i - 4
    · rw [cLt_if (x := 1) (y := tK T i - 4) (by decide) (by decide) (by omega) (by omega), if_pos q]
    · rw [cLt_if (x := 1) (y := tK T i - 4) (by decide) (by decide) (by omega) (by omega), if_neg q]
      obtain ⟨v, v1, v2⟩ := r_told (D := M) (w := tK T i - 4) m28 (by omega) ⟨by omega, by omega⟩ (fun k hk => by rw [m2 86 k (by decide)]; exact hd k hk)
      have v3 : v = 0 := by
        rcases v2 with ⟨_, k, hk1, hk2⟩ | h
        · rw [m2 86 k (by decide)] at hk2
          exact absurd hk2 (hnt (by omega) k hk1)
        · exact h.1
      rw [v1, cu_s, v3, cEq_if (x := 0) (y := 0) (by decide) (by decide) (by decide) (by decide), if_pos rfl]
/-- a clause that the reference refuses at once -/
theorem r_head_no {T : Tx} {D : Mem} {i c : Nat} {ord : List Int} (hR : Rf T D i 4 0 [] [] [] ord) (hc : D 71 28 = (c : Int)) (h20 : c ≤ 20) (hd : ∀ k, k < c → R3 (D 86 k)) :
    (¬ (4 ≤ tK T i ∧ tK T i ≤ 8) → ∃ D', fn_X11_clause 71 D = some D' ∧ Er D' 1 (tP T i : Int) ∧ FE D D') ∧
    (tK T i = 4 ∨ tK T i = 5 → (∃ k, k < c ∧ D 86 k = tK T i - 4) → ∃ D', fn_X11_clause 71 D = some D' ∧ Er D' 4 (tP T i : Int) ∧ FE D D') ∧
    (4 ≤ tK T i ∧ tK T i ≤ 8 → (tK T i ≤ 5 → ∀ k, k < c → D 86 k ≠ tK T i - 4) → c = 20 → ∃ D', fn_X11_clause 71 D = some D' ∧ Er D' 5 (tP T i : Int) ∧ FE D D') := by
  have h1 := tr_so hR.1.2.2.2
  have hw := tr_wd hR.1.2.2.2
  generalize hM : up D 71 29 (tK T i - 4) = M
  have m29 : M 71 29 = tK T i - 4 := by rw [← hM, up_i, if_pos rfl]
  have m1 : ∀ j, j ≠ 29 → M 71 j = D 71 j := fun j a => by rw [← hM, up_i, if_neg a]
  have m2 : ∀ k j, k ≠ 71 → M k j = D k j := fun k j a => by rw [← hM, up_o a]
  have hRM : Rf T M i 4 0 [] [] [] ord := by rw [← hM]; exact Rf_u hR (by omega)
  have fM : FE D M := by rw [← hM]; exact FE.u (by omega)
  have m28 : M 71 28 = (c : Int) := by rw [m1 28 (by decide)]; exact hc
  have h71 : ∀ D', 0 < D' 71 18 → D' 71 18 ≤ 5 → fn_X11_clause_J71 71 D' = some D' := fun D' a b => by
    unfold fn_X11_clause_J71
    rw [cLt_if (by decide) (by decide) (by omega) (by omega), if_pos a]
  refine ⟨fun q => ?_, fun q qk => ?_, fun q qn qc => ?_⟩
  · obtain ⟨D1, a1, a2, a3⟩ := r_errs (f := 1) hR.1 hR.2.2.1 (by omega)
    have h16 : fn_X11_clause_J16 71 D = some D1 := by unfold fn_X11_clause_J16; rw [a1, cv_s]
    refine ⟨D1, ?_, a2, FE.fd a3⟩
    unfold fn_X11_clause
    rw [h16, cEq_if (x := D 71 16) (by omega) (by omega) (by decide) (by decide)]
    by_cases q1 : D 71 16 = 1
    · have hto := hw.2.1 q1
      have := hw.1.mp q1
      rw [if_pos q1, hto, cLt_if (by decide) (by decide) (by omega) (by omega), if_pos (by omega)]
    · rw [if_neg q1]
  · have hso : D 71 16 = 1 := hw.1.mpr (by omega)
    have hto := hw.2.1 hso
    obtain ⟨D1, a1, a2, a3⟩ := r_errs (f := 4) hRM.1 hRM.2.2.1 (by omega)
    refine ⟨D1, ?_, a2, fM.tr (FE.fd a3)⟩
    obtain ⟨v, v1, v2⟩ := r_told (D := M) (w := tK T i - 4) m28 (by omega) ⟨by omega, by omega⟩ (fun k hk => by rw [m2 86 k (by decide)]; exact hd k hk)
    have v3 : v = 1 := by
      rcases v2 with h | ⟨_, h⟩
      · exact h.1
      · obtain ⟨k, hk1, hk2⟩ := qk
        have := h k hk1
        rw [m2 86 k (by decide)] at this
        exact absurd hk2 this
    unfold fn_X11_clause
    rw [hso, cEq_if (x := 1) (y := 1) (by decide) (by decide) (by decide) (by decide), if_pos rfl, hto, cLt_if (x := 4) (by decide) (by decide) (by omega) (by omega), if_neg (by omega), st_eq, hM, m29, cLt_if (x := 1) (by decide) (by decide) (by omega) (by omega), if_neg (by omega), v1, cu_s, v3, cEq_if (x := 1) (y := 0) (by decide) (by decide) (by decide) (by decide), if_neg (by decide), a1, cv_s]
    exact h71 D1 (by rw [a2.1]; decide) (by rw [a2.1]; decide)
  · have hso : D 71 16 = 1 := hw.1.mpr (by omega)
    have hto := hw.2.1 hso
    obtain ⟨D1, a1, a2, a3⟩ := r_errs (f := 5) hRM.1 hRM.2.2.1 (by omega)
    refine ⟨D1, ?_, a2, fM.tr (FE.fd a3)⟩
    have hJ : fn_X11_clause_J57 71 M = some D1 := by
      unfold fn_X11_clause_J57
      rw [m28, cEq_if (by omega) (by omega) (by decide) (by decide), if_pos (by omega), a1, cv_s]
      exact h71 D1 (by rw [a2.1]; decide) (by rw [a2.1]; decide)
    unfold fn_X11_clause
    rw [hso, cEq_if (x := 1) (y := 1) (by decide) (by decide) (by decide) (by decide), if_pos rfl, hto, cLt_if (x := 4) (by decide) (by decide) (by omega) (by omega), if_neg (by omega), st_eq, hM, m29, hJ]
    by_cases q1 : 1 < tK T i - 4
    · rw [cLt_if (x := 1) (by decide) (by decide) (by omega) (by omega), if_pos q1]
    · rw [cLt_if (x := 1) (by decide) (by decide) (by omega) (by omega), if_neg q1]
      obtain ⟨v, v1, v2⟩ := r_told (D := M) (w := tK T i - 4) m28 (by omega) ⟨by omega, by omega⟩ (fun k hk => by rw [m2 86 k (by decide)]; exact hd k hk)
      have v3 : v = 0 := by
        rcases v2 with ⟨_, k, hk1, hk2⟩ | h
        · rw [m2 86 k (by decide)] at hk2
          exact absurd hk2 (qn (by omega) k hk1)
        · exact h.1
      rw [v1, cu_s, v3, cEq_if (x := 0) (y := 0) (by decide) (by decide) (by decide) (by decide), if_pos rfl]
/-- a law begins -/
theorem r_150 {T : Tx} {D : Mem} {i : Nat} {u s0 : Int} {ord : List Int} (hR : Rf T D i 4 0 [] [] [] ord) (hu : (D 71 29 = 0 ∧ s0 = 0) ∨ (D 71 29 = 1 ∧ s0 = 1)) : ∃ D', fn_X11_clause_J150 71 D u = some D' ∧ Rf T D' i s0 0 [u] [] [] ord ∧ D' 71 28 = D 71 28 ∧ FE D D' := by
  obtain ⟨D1, a1, a2, a3, a4, a5, a6⟩ := r_frame (f := u) hR.2.2 (by rw [List.length_nil]; omega)
  have e29 := a5 29 (by decide)
  have fin : fn_X11_clause_J150 71 D u = some (up D1 71 27 s0) := by
    unfold fn_X11_clause_J150 fn_X11_clause_J166
    rw [a1, cv_s, e29, cEq_if (by omega) (by omega) (by decide) (by decide)]
    rcases hu with ⟨h, h'⟩ | ⟨h, h'⟩
    · rw [if_pos h, st_eq, h']
    · rw [if_neg (by omega), st_eq, h']
  exact ⟨_, fin, ⟨Rt0_f (a4.tr (Ts_u (by omega))) hR.1, by rw [up_i, if_pos rfl], Rst_u a2 (by omega)⟩, by rw [up_i, if_neg (by decide), a5 28 (by decide)], (FE.fd a3).tr (FE.u (by omega))⟩
/-- a law ends -/
theorem r_lawend {T : Tx} {D : Mem} {i : Nat} {u s1 : Int} {ord mp : List Int} (hT : TkT T) (hR : Rf T D i s1 0 [u] (pm mp ++ []) (pf mp 1 ++ []) ord) (hs : (s1 = 3 ∧ u = 2 ∧ tK T i ≠ 10 ∧ tK T i ≠ 11) ∨ (s1 = 2 ∧ u = 1 ∧ (tK T i ≠ 26 ∧ tK T i ≠ 27 ∧ tK T i ≠ 28 ∧ tK T i ≠ 29))) (hmp : ∀ x, x ∈ mp → isOp x ∧ 1 ≤ rk x) (h80 : mp.length ≤ 40) (h399 : ord.length + mp.length ≤ 399) (hi : i ≤ tN T) (hn0 : tK T (tN T) = 0) :
    (tK T i = 32 → ∃ D', Rc 1 D D' ∧ Rf T D' (i + 1) 4 0 [] [] [] (ord ++ mp ++ [-99]) ∧ D' 71 28 = D 71 28 + 1 ∧ FE D D') ∧ (tK T i ≠ 32 → ∃ D', Rc 1 D D' ∧ Er D' 1 (tP T i : Int) ∧ FE D D') := by
  have hsg := r_isSign (s := 59) (kk := 32) hR.1 (by omega)
  have htop := r_top hR.2.2 (by rw [List.length_nil]; omega)
  refine ⟨fun q => ?_, fun q => ?_⟩
  · have hin : i < tN T := by
      by_cases h : i < tN T
      · exact h
      · have : i = tN T := by omega
        rw [this, hn0] at q; exact absurd q (by decide)
    obtain ⟨D', a1, a2, a3, a4⟩ := r_cov (fr := [u]) hT hR (by rw [List.length_singleton]; omega) hmp h80 h399 hin
    refine ⟨D', rc_st hR.2.2.1 ?_, a2, a3, a4⟩
    rcases hs with ⟨rfl, rfl, k1, k2⟩ | ⟨rfl, rfl, hk⟩
    · refine Or.inr (Or.inr (Or.inr ⟨hR.2.1, ?_⟩))
      unfold fn_X11_asksOn
      rw [r_isWord (w := 6) hR.1 (by omega), cu_s, b2_f (by omega), cEq_if (x := 0) (y := 0) (by decide) (by decide) (by decide) (by decide), if_pos rfl, r_isWord (w := 7) hR.1 (by omega), cu_s, b2_f (by omega), cEq_if (x := 0) (y := 0) (by decide) (by decide) (by decide) (by decide), if_pos rfl, htop, cu_s, cEq_if (x := 2) (y := 2) (by decide) (by decide) (by decide) (by decide), if_pos rfl, hsg, cu_s, b2_t q, cEq_if (x := 1) (y := 0) (by decide) (by decide) (by decide) (by decide), if_neg (by decide), a1, cv_s]
    · refine Or.inr (Or.inr (Or.inl ⟨hR.2.1, ?_⟩))
      rw [g_on hR (by rw [List.length_nil]; omega) hk]
      unfold fn_X11_goesOn_J65 fn_X11_goesOn_J116 fn_X11_goesOn_J181
      rw [cEq_if (x := 1) (y := 6) (by decide) (by decide) (by decide) (by decide), if_neg (by decide), cEq_if (x := 1) (y := 4) (by decide) (by decide) (by decide) (by decide), if_neg (by decide), cEq_if (x := 1) (y := 5) (by decide) (by decide) (by decide) (by decide), if_neg (by decide), cEq_if (x := 1) (y := 1) (by decide) (by decide) (by decide) (by decide), if_pos rfl, hsg, cu_s, b2_t q, cEq_if (x := 1) (y := 0) (by decide) (by decide) (by decide) (by decide), if_neg (by decide), a1, cv_s]
  · obtain ⟨D', a1, a2, a3⟩ := r_errs (f := 1) hR.1 hR.2.2.1 (by omega)
    refine ⟨D', rc_st hR.2.2.1 ?_, a2, FE.fd a3⟩
    rcases hs with ⟨rfl, rfl, k1, k2⟩ | ⟨rfl, rfl, hk⟩
    · refine Or.inr (Or.inr (Or.inr ⟨hR.2.1, ?_⟩))
      unfold fn_X11_asksOn fn_X11_asksOn_J72
      rw [r_isWord (w := 6) hR.1 (by omega), cu_s, b2_f (by omega), cEq_if (x := 0) (y := 0) (by decide) (by decide) (by decide) (by decide), if_pos rfl, r_isWord (w := 7) hR.1 (by omega), cu_s, b2_f (by omega), cEq_if (x := 0) (y := 0) (by decide) (by decide) (by decide) (by decide), if_pos rfl, htop, cu_s, cEq_if (x := 2) (y := 2) (by decide) (by decide) (by decide) (by decide), if_pos rfl, hsg, cu_s, b2_f q, cEq_if (x := 0) (y := 0) (by decide) (by decide) (by decide) (by decide), if_pos rfl, a1, cv_s]
    · refine Or.inr (Or.inr (Or.inl ⟨hR.2.1, ?_⟩))
      rw [g_on hR (by rw [List.length_nil]; omega) hk]
      unfold fn_X11_goesOn_J65 fn_X11_goesOn_J116 fn_X11_goesOn_J181 fn_X11_goesOn_J245
      rw [cEq_if (x := 1) (y := 6) (by decide) (by decide) (by decide) (by decide), if_neg (by decide), cEq_if (x := 1) (y := 4) (by decide) (by decide) (by decide) (by decide), if_neg (by decide), cEq_if (x := 1) (y := 5) (by decide) (by decide) (by decide) (by decide), if_neg (by decide), cEq_if (x := 1) (y := 1) (by decide) (by decide) (by decide) (by decide), if_pos rfl, hsg, cu_s, b2_f q, cEq_if (x := 0) (y := 0) (by decide) (by decide) (by decide) (by decide), if_pos rfl, a1, cv_s]
