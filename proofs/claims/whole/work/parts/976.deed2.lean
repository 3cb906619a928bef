/-! text: a deed's clause, whole; a clause -/
theorem J195_eq {D4 D5 : Mem} {c : Nat} {x u : Int} (h : fn_X11_number 71 0 u D4 = some (x, D5)) (hc : D4 71 28 = (c : Int)) (h20 : c < 20) : fn_X11_clause_J195 71 D4 u = cEq (up D5 88 c x 71 29) 2 (cEq (up D5 88 c x 71 18) 0 (cu (fn_X11_isWord 71 5 (up D5 88 c x)) fun x216 => cEq x216 0 (cv (fn_X11_errs 71 1 (up D5 88 c x)) fun M224 => fn_X11_clause_J227 71 M224) (fn_X11_clause_J227 71 (up D5 88 c x))) (fn_X11_clause_J227 71 (up D5 88 c x))) (fn_X11_clause_J254 71 (up D5 88 c x)) := by
  unfold fn_X11_clause_J195
  rw [h, cl_s, hc, wr_eq (by omega) (by omega), Int.toNat_natCast]
set_option maxHeartbeats 1000000 in
theorem deed_ok {T : Tx} {C D : Mem} {i c : Nat} {code ord : List Int} (hT : TkT T) (hI : Iv T C D i code c ord) (hk : 6 ≤ tK T i ∧ tK T i ≤ 8) (h20 : c < 20) : Clr T C D i c (cv (fn_X8_next 37 C) fun M82 => cl (fn_X1_deed 31 (tK T i) M82) fun x105 M105 => fn_X1_clause_J108 31 x105 M105) := by
  have hI0 := hI
  obtain ⟨hC, hR, hol, ⟨hc1, hc2, -⟩, hcl, hL1, hL2⟩ := hI
  have h300 : tN T ≤ 300 := hC.1.1
  have hi := cls_lt hC (by omega)
  have hw := tr_wd hR.1.2.2.2
  have hso : D 71 16 = 1 := hw.1.mpr (by omega)
  obtain ⟨C1, c1, c2, c3⟩ := c_next hC hi
  obtain ⟨D4, d1, d2, d3, d4, d5, d6, d7, d8⟩ := r_head hT hR hc2 h20 (by omega) hi (fun h => by omega) (fun k hk => by have := hcl k hk; unfold Cl1 at this; exact ⟨by omega, by omega⟩) (by omega)
  have h8 : C1 (31 + 6) 8 = tV T (i + 1) := c2.2.1.2.2.1
  have hk1 := tr_k d1.1.2.2.2
  obtain ⟨u, hu0, hu1, hu2⟩ : ∃ u : Int, (u = 99 ∨ u = 19) ∧ fn_X11_clause 71 D = fn_X11_clause_J195 71 D4 u ∧ fn_X1_deed 31 (tK T i) C1 = fn_X1_deed_J22 31 (tK T i) C1 (tV T (i + 1)) u := by
    unfold fn_X1_deed
    rw [d8, nm_eq, h8, cLt_if (by decide) (by decide) (by omega) (by omega), if_pos (by omega), cEq_if (x := tK T i - 4) (by omega) (by omega) (by decide) (by decide), cEq_if (x := tK T i) (by omega) (by omega) (by decide) (by decide)]
    by_cases q : tK T i = 8
    · exact ⟨99, Or.inl rfl, by rw [if_pos (by omega)], by rw [if_pos q]⟩
    · exact ⟨19, Or.inr rfl, by rw [if_neg (by omega)], by rw [if_neg q]⟩
  have hrc0 : ∀ D', fn_X11_clause_J195 71 D4 u = some D' → Rc 1 D D' := fun D' h => rc_4 hR.2.2.1 hR.2.1 (by omega) (by rw [hu1]; exact h)
  rw [c1, cv_s, hu2]
  unfold fn_X1_deed_J22
  have hnum := r_num (u := u) hT d1 (by omega) (fun h => cls_lt c2 (by omega))
  have hvv : tK T (i + 1) = 2 → 0 ≤ tV T (i + 1) ∧ tV T (i + 1) ≤ 10000 := fun h => by
    have := d1.1.2.2.2
    rw [h] at this
    have := tr_num this
    omega
  have hcn := c_num (a := u) c2 (by omega) hk1 hvv
  have hJ108 : ∀ M, fn_X1_clause_J108 31 0 M = some (0, M) := fun M => by unfold fn_X1_clause_J108 fn_X1_clause_J126; rw [cEq_if (x := 0) (y := 0) (by decide) (by decide) (by decide) (by decide), if_pos rfl]
  -- a number that is none
  have bad : ∀ (C2 D5 : Mem) (f : Int), fn_X1_number 31 u C1 = some (0, C2) → FC C1 C2 → C2 31 3 = f → C2 31 4 = (tP T (i + 1) : Int) → fn_X11_number 71 0 u D4 = some (0, D5) → Er D5 f (tP T (i + 1) : Int) → FD D4 D5 → Clr T C D i c (cl (cl (fn_X1_number 31 u C1) fun x22 M22 => cEq x22 0 (some (0, M22)) (cEq (tK T i) 6 (cl (fn_X1_pass 31 9 M22) fun x51 M51 => cEq x51 0 (some (0, M51)) (nm ((M51 (31 + 6) 8)) fun v3_66 => cl (fn_X1_number 31 9 M51) fun x70 M70 => cEq x70 0 (some (0, M70)) (cv (fn_X7_addClause (31 + 1) (tK T i) (tV T (i + 1)) v3_66 M70) fun M85 => some (1, M85)))) (cv (fn_X7_addClause (31 + 1) (tK T i) (tV T (i + 1)) 0 M22) fun M43 => some (1, M43)))) fun x105 M105 => fn_X1_clause_J108 31 x105 M105) := by
    intro C2 D5 f n1 n2 n3 n4 r1 r2 r3
    rw [n1, cl_s, cEq_if (x := 0) (y := 0) (by decide) (by decide) (by decide) (by decide), if_pos rfl, cl_s, hJ108]
    have e28 : D5 71 28 = (c : Int) := by rw [r3 71 28 (fun _ => by omega) (by decide) (by decide) (by decide) (by decide) (by decide) (by decide)]; exact d2
    have e29 : D5 71 29 = tK T i - 4 := by rw [r3 71 29 (fun _ => by omega) (by decide) (by decide) (by decide) (by decide) (by decide) (by decide)]; exact d3
    have er := Er_a (k := 88) (j := c) (v := 0) r2 (by decide)
    have er18 := Er_18 er
    have hJ := J195_eq r1 d2 h20
    rw [show up D5 88 c 0 71 29 = tK T i - 4 by rw [up_o (by decide)]; exact e29, cEq_if (x := tK T i - 4) (by omega) (by omega) (by decide) (by decide), cEq_if (x := up D5 88 c 0 71 18) (by omega) (by omega) (by decide) (by decide), if_neg (show ¬ up D5 88 c 0 71 18 = 0 by omega), e_254 er18, e_227 (c := c) er18 (by rw [up_o (by decide)]; exact e28) h20] at hJ
    by_cases q : tK T i - 4 = 2
    · rw [if_pos q] at hJ
      exact Or.inr ⟨C2, _, f, _, 1, rfl, (FC2.fc c3).tr (FC2.fc n2), n3, n4, hrc0 _ hJ, by omega, Er_a er (by decide), ((d7.tr (FX2.fe (FE.fd r3))).a (by omega)).a (by omega)⟩
    · rw [if_neg q] at hJ
      exact Or.inr ⟨C2, _, f, _, 1, rfl, (FC2.fc c3).tr (FC2.fc n2), n3, n4, hrc0 _ hJ, by omega, er, (d7.tr (FX2.fe (FE.fd r3))).a (by omega)⟩
  by_cases q2 : tK T (i + 1) = 2
  · by_cases qv : tV T (i + 1) ≤ u
    · obtain ⟨C2, n1, n2, n3⟩ := hcn.1 q2 qv
      obtain ⟨D5, r1, r2, r3⟩ := hnum.1 q2 qv
      have hv0 := hvv q2
      clear hcn hnum bad hvv
      rw [n1, cl_s, cEq_if (x := 1) (y := 0) (by decide) (by decide) (by decide) (by decide), if_neg (by decide), cEq_if (x := tK T i) (y := 6) (by omega) (by omega) (by decide) (by decide)]
      have hJ := J195_eq r1 d2 h20
      generalize hG : up D5 88 c (tV T (i + 1)) = D6 at hJ
      have hR6 : Rf T D6 (i + 1 + 1) 4 0 [] [] [] ord := by rw [← hG]; exact Rf_a r2 (by omega)
      have g6 : ∀ k j, k ≠ 88 → ¬ (k = 71 ∧ 14 ≤ j ∧ j ≤ 17) → D6 k j = D4 k j := fun k j a b => by rw [← hG, up_o a, r3 k j b]
      have e28 : D6 71 28 = (c : Int) := by rw [g6 71 28 (by decide) (by omega)]; exact d2
      have e29 : D6 71 29 = tK T i - 4 := by rw [g6 71 29 (by decide) (by omega)]; exact d3
      have e18 : D6 71 18 = 0 := hR6.2.2.1
      have fx6 : FX2 D D6 := by rw [← hG]; exact (d7.tr (FX2.fe (FE.n4 r3))).a (by omega)
      have g88 : ∀ j, D6 88 j = if j = c then tV T (i + 1) else D4 88 j := fun j => by rw [← hG, up_i, r3 88 j (by omega)]
      rw [e29, cEq_if (x := tK T i - 4) (by omega) (by omega) (by decide) (by decide), e18, cEq_if (x := 0) (y := 0) (by decide) (by decide) (by decide) (by decide), if_pos (rfl : (0 : Int) = 0), r_isWord (w := 5) hR6.1 (by omega), cu_s, cE_b2] at hJ
      by_cases q6 : tK T i = 6
      · rw [if_pos q6]
        rw [if_pos (show tK T i - 4 = 2 by omega)] at hJ
        have hk6 := tr_k hR6.1.2.2.2
        by_cases q9 : tK T (i + 1 + 1) = 9
        · obtain ⟨C3, p1, p2, p3⟩ := (c_pass (a := 9) n2 (by decide) hk6).1 q9
          obtain ⟨D7, m1, m2, m3⟩ := Rf_n hT hR6 (cls_lt n2 (by omega))
          have h83 : C3 (31 + 6) 8 = tV T (i + 1 + 1 + 1) := p2.2.1.2.2.1
          rw [if_pos (show tK T (i + 1 + 1) = 5 + 4 by omega)] at hJ
          rw [p1, cl_s, cEq_if (x := 1) (y := 0) (by decide) (by decide) (by decide) (by decide), if_neg (by decide), nm_eq, h83]
          have hJ2 : fn_X11_clause_J195 71 D4 u = fn_X11_clause_J238 71 D7 := by
            rw [hJ]; unfold fn_X11_clause_J227
            rw [e18, cEq_if (x := 0) (y := 0) (by decide) (by decide) (by decide) (by decide), if_pos rfl, m1, cv_s]
          have e728 : D7 71 28 = (c : Int) := by rw [m3 71 28 (by omega)]; exact e28
          have hk7 := tr_k m2.1.2.2.2
          have hvv3 : tK T (i + 1 + 1 + 1) = 2 → 0 ≤ tV T (i + 1 + 1 + 1) ∧ tV T (i + 1 + 1 + 1) ≤ 10000 := fun h => by
            have := m2.1.2.2.2
            rw [h] at this
            have := tr_num this
            omega
          have hJ3 : ∀ x D8, fn_X11_number 71 0 9 D7 = some (x, D8) → fn_X11_clause_J195 71 D4 u = fn_X11_clause_J254 71 (up D8 89 c x) := fun x D8 h => by
            rw [hJ2]; unfold fn_X11_clause_J238
            rw [h, cl_s, e728, wr_eq (by omega) (by omega), Int.toNat_natCast]
          by_cases q72 : tK T (i + 1 + 1 + 1) = 2
          · have hv3 := hvv3 q72
            by_cases qv3 : tV T (i + 1 + 1 + 1) ≤ 9
            · obtain ⟨C4, s1, s2, s3⟩ := (c_num (a := 9) p2 (by decide) hk7 hvv3).1 q72 qv3
              obtain ⟨D8, t1, t2, t3⟩ := (r_num (u := 9) hT m2 (by decide) (fun h => cls_lt p2 (by omega))).1 q72 qv3
              clear hvv3
              have hJ4 := hJ3 _ _ t1
              rw [s1, cl_s, cEq_if (x := 1) (y := 0) (by decide) (by decide) (by decide) (by decide), if_neg (by decide), show 31 + 1 = 32 from rfl]
              have g8 : ∀ k j, k ≠ 89 → ¬ (k = 71 ∧ 14 ≤ j ∧ j ≤ 17) → up D8 89 c (tV T (i + 1 + 1 + 1)) k j = D6 k j := fun k j a b => by rw [up_o a, t3 k j b, m3 k j b]
              obtain ⟨Cy, z1, z2⟩ := deed_tail (Cx := C4) (Dx := up D8 89 c (tV T (i + 1 + 1 + 1))) (v2 := tV T (i + 1)) (v3 := tV T (i + 1 + 1 + 1)) hT hI0 h20 hk s2 (((c3.tr n3).tr p3).tr s3) (Rf_a t2 (by omega)) (by rw [g8 71 28 (by decide) (by omega)]; exact e28) (((fx6.tr (FX2.fe (FE.n4 m3))).tr (FX2.fe (FE.n4 t3))).a (by omega)) (fun j => by rw [g8 86 j (by decide) (by omega), g6 86 j (by decide) (by omega), d4]) (fun j => by rw [g8 87 j (by decide) (by omega), g6 87 j (by decide) (by omega), d5]) (fun j hj => ⟨by rw [g8 88 j (by decide) (by omega), g88, if_neg hj, (d6 j hj).1], by rw [up_i, if_neg hj, t3 89 j (by omega), m3 89 j (by omega), g6 89 j (by decide) (by omega), (d6 j hj).2]⟩) ⟨by rw [g8 88 c (by decide) (by omega), g88, if_pos rfl], by omega, by omega⟩ (fun _ => ⟨by rw [up_i, if_pos rfl], by omega, by omega⟩) (by omega) (fun D' h => hrc0 D' (by rw [hJ4]; exact h))
              rw [z1, cv_s, cl_s]
              exact z2
            · obtain ⟨C4, s1, s2, s3, s4⟩ := (c_num (a := 9) p2 (by decide) hk7 hvv3).2.1 q72 (by omega)
              obtain ⟨D8, t1, t2, t3⟩ := (r_num (u := 9) hT m2 (by decide) (fun h => cls_lt p2 (by omega))).2.1 q72 (by omega)
              have hJ4 := hJ3 _ _ t1
              have er := Er_a (k := 89) (j := c) (v := 0) t2 (by decide)
              rw [e_254 (Er_18 er)] at hJ4
              rw [s1, cl_s, cEq_if (x := 0) (y := 0) (by decide) (by decide) (by decide) (by decide), if_pos rfl, cl_s, hJ108]
              exact Or.inr ⟨C4, _, _, _, 1, rfl, (((FC2.fc c3).tr (FC2.fc n3)).tr (FC2.fc p3)).tr (FC2.fc s2), s3, s4, hrc0 _ hJ4, by omega, er, ((fx6.tr (FX2.fe (FE.n4 m3))).tr (FX2.fe (FE.fd t3))).a (by omega)⟩
          · obtain ⟨C4, s1, s2, s3, s4⟩ := (c_num (a := 9) p2 (by decide) hk7 hvv3).2.2 q72
            obtain ⟨D8, t1, t2, t3⟩ := (r_num (u := 9) hT m2 (by decide) (fun h => cls_lt p2 (by omega))).2.2 q72
            have hJ4 := hJ3 _ _ t1
            have er := Er_a (k := 89) (j := c) (v := 0) t2 (by decide)
            rw [e_254 (Er_18 er)] at hJ4
            rw [s1, cl_s, cEq_if (x := 0) (y := 0) (by decide) (by decide) (by decide) (by decide), if_pos rfl, cl_s, hJ108]
            exact Or.inr ⟨C4, _, _, _, 1, rfl, (((FC2.fc c3).tr (FC2.fc n3)).tr (FC2.fc p3)).tr (FC2.fc s2), s3, s4, hrc0 _ hJ4, by omega, er, ((fx6.tr (FX2.fe (FE.n4 m3))).tr (FX2.fe (FE.fd t3))).a (by omega)⟩
        · obtain ⟨C3, p1, p2, p3, p4⟩ := (c_pass (a := 9) n2 (by decide) hk6).2 q9
          obtain ⟨D7, m1, m2, m3⟩ := r_errs (f := 1) hR6.1 e18 (by omega)
          rw [if_neg (show ¬ tK T (i + 1 + 1) = 5 + 4 by omega), m1, cv_s, e_227 (c := c) (Er_18 m2) (by rw [m3 71 28 (fun _ => by omega) (by decide) (by decide) (by decide) (by decide) (by decide) (by decide)]; exact e28) h20] at hJ
          rw [p1, cl_s, cEq_if (x := 0) (y := 0) (by decide) (by decide) (by decide) (by decide), if_pos rfl, cl_s, hJ108]
          exact Or.inr ⟨C3, _, _, _, 1, rfl, ((FC2.fc c3).tr (FC2.fc n3)).tr (FC2.fc p2), p3, p4, hrc0 _ hJ, by omega, Er_a m2 (by decide), (fx6.tr (FX2.fe (FE.fd m3))).a (by omega)⟩
      · rw [if_neg q6, show 31 + 1 = 32 from rfl]
        rw [if_neg (show ¬ tK T i - 4 = 2 by omega)] at hJ
        obtain ⟨Cy, z1, z2⟩ := deed_tail (Cx := C2) (Dx := D6) (v2 := tV T (i + 1)) (v3 := 0) hT hI0 h20 hk n2 (c3.tr n3) hR6 e28 fx6 (fun j => by rw [g6 86 j (by decide) (by omega), d4]) (fun j => by rw [g6 87 j (by decide) (by omega), d5]) (fun j hj => ⟨by rw [g88, if_neg hj, (d6 j hj).1], by rw [g6 89 j (by decide) (by omega), (d6 j hj).2]⟩) ⟨by rw [g88, if_pos rfl], by omega, by omega⟩ (fun h => absurd h q6) (by omega) (fun D' h => hrc0 D' (by rw [hJ]; exact h))
        rw [z1, cv_s, cl_s]
        exact z2
    · obtain ⟨C2, n1, n2, n3, n4⟩ := hcn.2.1 q2 (by omega)
      obtain ⟨D5, r1, r2, r3⟩ := hnum.2.1 q2 (by omega)
      exact bad C2 D5 2 n1 n2 n3 n4 r1 r2 r3
  · obtain ⟨C2, n1, n2, n3, n4⟩ := hcn.2.2 q2
    obtain ⟨D5, r1, r2, r3⟩ := hnum.2.2 q2
    exact bad C2 D5 1 n1 n2 n3 n4 r1 r2 r3
