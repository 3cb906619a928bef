/-! what a HAND GIVES, on both sides -/
def S92 (D D' : Mem) : Prop := ∀ k i, k ≠ 92 → k ≠ 93 → D' k i = D k i
theorem q_names {n : Nat} {C D : Mem} {h c : Nat} (hR : Rel n C D) (hh : (h : Int) < C 1 1) (hc : (c : Int) < C 1 7) : ∃ D1, fn_X11_givesTo 71 h c D = lq4 (fn_X11_givesTo_L109 71) FU 0 0 (C 2 h) D1 ∧ (∀ i, i < 7 → D1 92 i = nmv C h c i) ∧ (∀ k i, k ≠ 92 → D1 k i = D k i) := by
  obtain ⟨⟨kH, kN, kC, kT, kP⟩, rN, rH, rC, rT, rP⟩ := hR
  have h0 := kH.1
  have c0 := kC.1
  have hr := kN.1
  have hm := kN.2.1
  have hg := kH.2 h hh
  simp only [Nat.reduceAdd] at hg
  have e2 : D 72 2 = C 1 8 := rN.2.2.1
  have e3 : D 72 3 = C 1 9 := rN.2.2.2.1
  have e10 : D 72 (10 + h) = C 2 h := rH h hh
  have ec := rC c hc
  have td : ((C 1 8).tdiv 24) = C 1 8 / 24 := Int.tdiv_eq_ediv_of_nonneg hr.1
  have z0 : (10 + (h : Int)).toNat = 10 + h := by omega
  have z1 : (20 + 5 * (c : Int) + 1).toNat = 21 + 5 * c := by omega
  have z2 : (20 + 5 * (c : Int) + 2).toNat = 22 + 5 * c := by omega
  have z3 : (20 + 5 * (c : Int) + 3).toNat = 23 + 5 * c := by omega
  have o72 : ∀ (M : Mem) (i j : Nat) (v : Int), up M 92 i v 72 j = M 72 j := fun M i j v => up_o (by decide)
  have hM : ∀ M : Mem, M 72 2 = C 1 8 → M 72 3 = C 1 9 → fn_X11_isMarket 71 M = some (b2 (((C 1 8).tdiv 24).tmod 7 = C 1 9)) := by
    intro M m2 m3
    unfold fn_X11_isMarket
    simp (disch := omega) only [rd_eq, Nat.reduceAdd, Int.reduceToNat, m2, m3, ck_R330, td]
    rw [cEq_if (by rw [Int.tmod_eq_emod_of_nonneg (by omega)]; omega) (by rw [Int.tmod_eq_emod_of_nonneg (by omega)]; omega) (by omega) (by omega)]
    by_cases g : (C 1 8 / 24).tmod 7 = C 1 9
    · rw [if_pos g, b2_t g]
    · rw [if_neg g, b2_f g]
  have hJ : ∀ (M : Mem) (u : Int), (∀ i, M 72 i = D 72 i) → ∃ D1, fn_X11_givesTo_J54 71 h c M u = lq4 (fn_X11_givesTo_L109 71) FU 0 0 (C 2 h) D1 ∧ (∀ i, i < 3 → D1 92 i = M 92 i) ∧ D1 92 3 = u ∧ D1 92 4 = C 4 c ∧ D1 92 5 = C 6 c ∧ D1 92 6 = C 5 c ∧ (∀ k i, k ≠ 92 → D1 k i = M k i) := by
    intro M u hM
    unfold fn_X11_givesTo_J54
    simp (disch := omega) only [wr_eq, rd_eq, q_coinOf, cu_s, Nat.reduceAdd, Int.reduceToNat, o72, z0, z1, z2, z3, hM, ec.2.1, ec.2.2.1, ec.2.2.2.1, e10, ck_R3]
    refine ⟨_, rfl, fun i hi => ?_, ?_, ?_, ?_, ?_, fun k i hk => ?_⟩
    · simp (disch := omega) only [up_i, if_neg]
    · simp [up_i]
    · simp [up_i]
    · simp [up_i]
    · simp [up_i]
    · simp only [up_o hk]
  unfold fn_X11_givesTo
  simp (disch := omega) only [wr_eq, rd_eq, Nat.reduceAdd, Int.reduceToNat, o72, z0, e10, e2, ck_R330]
  rw [hM _ (by simp only [o72, e2]) (by simp only [o72, e3]), cu_s, cE_b2]
  by_cases g : ((C 1 8).tdiv 24).tmod 7 = C 1 9
  · rw [if_pos g]
    obtain ⟨D1, j1, j2, j3, j4, j5, j6, j7⟩ := hJ (up (up (up D 92 0 (h : Int)) 92 1 (C 2 h)) 92 2 ((C 1 8).tmod 24)) 1 (fun i => by simp only [o72])
    refine ⟨D1, j1, fun i hi => ?_, fun k i hk => by rw [j7 k i hk]; simp only [up_o hk]⟩
    unfold nmv
    rw [b2_t g]
    have : i = 0 ∨ i = 1 ∨ i = 2 ∨ i = 3 ∨ i = 4 ∨ i = 5 ∨ i = 6 := by omega
    rcases this with rfl | rfl | rfl | rfl | rfl | rfl | rfl
    · rw [j2 _ (by decide)]; simp [up_i]
    · rw [j2 _ (by decide)]; simp [up_i]
    · rw [j2 _ (by decide)]; simp [up_i]
    · rw [j3]; simp
    · rw [j4]; simp
    · rw [j5]; simp
    · rw [j6]; simp
  · rw [if_neg g]
    obtain ⟨D1, j1, j2, j3, j4, j5, j6, j7⟩ := hJ (up (up (up D 92 0 (h : Int)) 92 1 (C 2 h)) 92 2 ((C 1 8).tmod 24)) 0 (fun i => by simp only [o72])
    refine ⟨D1, j1, fun i hi => ?_, fun k i hk => by rw [j7 k i hk]; simp only [up_o hk]⟩
    unfold nmv
    rw [b2_f g]
    have : i = 0 ∨ i = 1 ∨ i = 2 ∨ i = 3 ∨ i = 4 ∨ i = 5 ∨ i = 6 := by omega
    rcases this with rfl | rfl | rfl | rfl | rfl | rfl | rfl
    · rw [j2 _ (by decide)]; simp [up_i]
    · rw [j2 _ (by decide)]; simp [up_i]
    · rw [j2 _ (by decide)]; simp [up_i]
    · rw [j3]; simp
    · rw [j4]; simp
    · rw [j5]; simp
    · rw [j6]; simp
theorem d_given {n : Nat} {C D : Mem} {h c : Nat} (hn : n ≤ 6336) (hR : Rel n C D) (hX : TXs C D) (hh : (h : Int) < C 1 1) (hc : (c : Int) < C 1 7) :
    ∃ (x : Option Nat) (v : Int) (C' D' : Mem), fn_X10_ruling 0 C = some x ∧ fn_X3_given 63 1 x h c C = some (v, C') ∧ fn_X11_givesTo 71 h c D = some (v, D') ∧ (0 ≤ v ∧ v ≤ 99) ∧ S3k C C' ∧ S92 D D' := by
  obtain ⟨D1, d1, d2, d3⟩ := q_names hR hh hc
  obtain ⟨⟨kH, kN, kC, kT, kP⟩, rN, rH, rC, rT, rP⟩ := hR
  have hO : OkS 1 n C := ⟨kH, kN, kC, kT, kP⟩
  have h0 := kH.1
  have c0 := kC.1
  have hg := kH.2 h hh
  simp only [Nat.reduceAdd] at hg
  have ht := kN.2.2.2.1
  have hr := kN.2.2.2.2
  have e6 : D 72 6 = C 1 12 := rN.2.2.2.2.2.2.1
  have s1 : R3 (h : Int) := ⟨by omega, by omega⟩
  have s2 : R3 (c : Int) := ⟨by omega, by omega⟩
  rw [d1]
  unfold fn_X10_ruling
  simp only [Nat.zero_add, p_isText (t := 1) (x := C 1 12) (M := C) ⟨by omega, by omega⟩ ht.1 ht.2, cu_s, cE_b2]
  by_cases g : 0 ≤ C 1 12 ∧ C 1 12 < C 1 11
  · obtain ⟨q, hq⟩ := Int.eq_ofNat_of_zero_le g.1
    have hq4 : q < 4 := by omega
    have hT : TxR C D1 q := TxR_f (fun _ _ _ _ => rfl) (fun k i a b => d3 k i (by omega)) (hX q (by omega))
    obtain ⟨⟨t1, t2⟩, t3, t4, t5⟩ := hT
    obtain ⟨m, hm⟩ := Int.eq_ofNat_of_zero_le t1.1
    have b4 := law_both hn hO hh hc hq4 d2 t4
    have b5 := law_both hn hO hh hc hq4 d2 t5
    have r4 := t4.1
    have r5 := t5.1
    simp (disch := omega) only [if_pos g, rt_eq]
    rw [show 42 + (1 + 5 * (C 1 12).toNat) = 43 + 5 * q by omega]
    refine ⟨some (43 + 5 * q), ?_⟩
    have h76 : ∀ k, k < m → 0 ≤ D1 76 (20 * q + k) ∧ D1 76 (20 * q + k) ≤ 4 := fun k hk => by have := t3 k (by omega); omega
    have f6 : D1 72 6 = (q : Int) := by rw [d3 _ _ (by decide), e6, hq]
    have f75 : D1 75 q = (m : Int) := by rw [t2, hm]
    -- the two laws, there or not
    obtain ⟨kg, gv, gb, hG1, hG2, hG3⟩ : ∃ (kg : Nat) (gv : Int), (gv = 0 ∨ gv = 1) ∧ (∀ k, k < m → (D1 76 (20 * q + k) = 0 ↔ k = kg)) ∧ (kg < m → ∀ M, S93 D1 M → ∃ M', fn_X11_saysOf 71 (D1 77 (20 * q + kg)) M = some (gv, M') ∧ S93 D1 M') ∧ ((kg < m ∧ C (43 + 5 * q) 2 < C (43 + 5 * q) 3 ∧ ∀ M, S3k C M → ∃ M', fn_X3_worth 63 (43 + 5 * q) (C (43 + 5 * q) 2) (C (43 + 5 * q) 3) 1 h c M = some (gv, M') ∧ S3k C M') ∨ (¬ kg < m ∧ ¬ C (43 + 5 * q) 2 < C (43 + 5 * q) 3)) := by
      rcases b4 with ⟨a1, k, v, a2, a3, a4, -, a5, a6⟩ | ⟨a1, a2⟩
      · exact ⟨k, v, a4.2 rfl, fun k' hk' => a3 k' (by omega), fun _ => a6, Or.inl ⟨by omega, a1, a5⟩⟩
      · exact ⟨1000, 0, Or.inl rfl, fun k' hk' => ⟨fun e => absurd e (a2 k' (by omega)), fun e => by omega⟩, fun e => by omega, Or.inr ⟨by omega, a1⟩⟩
    obtain ⟨kr, rv, rb, hR1, hR2, hR3⟩ : ∃ (kr : Nat) (rv : Int), (-1000000 ≤ rv ∧ rv ≤ 1000000) ∧ (∀ k, k < m → (D1 76 (20 * q + k) = 1 ↔ k = kr)) ∧ (kr < m → ∀ M, S93 D1 M → ∃ M', fn_X11_saysOf 71 (D1 77 (20 * q + kr)) M = some (rv, M') ∧ S93 D1 M') ∧ ((kr < m ∧ C (43 + 5 * q) 4 < C (43 + 5 * q) 5 ∧ ∀ M, S3k C M → ∃ M', fn_X3_worth 63 (43 + 5 * q) (C (43 + 5 * q) 4) (C (43 + 5 * q) 5) 1 h c M = some (rv, M') ∧ S3k C M') ∨ (¬ kr < m ∧ ¬ C (43 + 5 * q) 4 < C (43 + 5 * q) 5)) := by
      rcases b5 with ⟨a1, k, v, a2, a3, a4, -, a5, a6⟩ | ⟨a1, a2⟩
      · exact ⟨k, v, a4.1, fun k' hk' => a3 k' (by omega), fun _ => a6, Or.inl ⟨by omega, a1, a5⟩⟩
      · exact ⟨1000, 0, by omega, fun k' hk' => ⟨fun e => absurd e (a2 k' (by omega)), fun e => by omega⟩, fun e => by omega, Or.inr ⟨by omega, a1⟩⟩
    obtain ⟨D', l1, l2⟩ := q_loop hq4 (by omega) f6 f75 h76 hG1 hR1 gb rb (g0 := C 2 h) (by omega) hG2 hR2
    rw [l1]
    have hS : S92 D D' := fun k i a b => by rw [l2 k i b, d3 k i a]
    have hJ : ∀ M, S3k C M → ∃ C', fn_X3_given_S_J59 63 1 (43 + 5 * q) h c M = some (max 0 (min (if kr < m then rv else C 2 h) 99), C') ∧ S3k C C' := by
      intro M hM
      unfold fn_X3_given_S_J59 fn_X7_hasGrain
      have w4 : M (43 + 5 * q) 4 = C (43 + 5 * q) 4 := hM _ _ (by omega) (by omega)
      have w5 : M (43 + 5 * q) 5 = C (43 + 5 * q) 5 := hM _ _ (by omega) (by omega)
      have w2 : M 2 h = C 2 h := hM _ _ (by omega) (by omega)
      simp (disch := omega) only [w4, w5, cLt_if]
      rcases hR3 with ⟨a1, a2, a3⟩ | ⟨a1, a2⟩
      · obtain ⟨C', c1, c2⟩ := a3 M hM
        simp (disch := omega) only [if_pos a2, cu_s, cEq_if, if_neg, c1, cl_s, ck_R33, if_pos a1]
        exact ⟨C', rfl, c2⟩
      · simp (disch := omega) only [if_neg a2, cu_s, cEq_if, if_true, rd_eq, Nat.reduceAdd, Int.toNat_natCast, w2, if_neg a1]
        exact ⟨M, by rw [show max 0 (min (C 2 h) 99) = C 2 h by omega], hM⟩
    have hk9 : (0 : Int) ≤ max 0 (min (if kr < m then rv else C 2 h) 99) ∧ max 0 (min (if kr < m then rv else C 2 h) 99) ≤ 99 := by omega
    unfold fn_X3_given fn_X3_given_S fn_X7_hasGlove
    simp (disch := omega) only [p_isHand (t := 1) (M := C) s1 h0.1 h0.2, p_isCoin (t := 1) (M := C) s2 c0.1 c0.2, cu_s, cE_b2, if_pos, cLt_if]
    rcases hG3 with ⟨a1, a2, a3⟩ | ⟨a1, a2⟩
    · obtain ⟨C', c1, c2⟩ := a3 C S3k.rf
      simp (disch := omega) only [if_pos a2, cu_s, cEq_if, if_neg, c1, cl_s]
      by_cases g9 : gv = 0
      · obtain ⟨C'', j1, j2⟩ := hJ C' c2
        rw [if_pos g9, j1, if_neg (show ¬ (kg < m ∧ gv = 1) by omega)]
        exact ⟨_, _, _, trivial, rfl, rfl, hk9, j2, hS⟩
      · rw [if_neg g9, if_pos (show kg < m ∧ gv = 1 by omega)]
        exact ⟨_, _, _, trivial, rfl, rfl, by omega, c2, hS⟩
    · obtain ⟨C'', j1, j2⟩ := hJ C S3k.rf
      simp (disch := omega) only [if_neg a2, cu_s, cEq_if, if_true, j1, if_neg (show ¬ (kg < m ∧ gv = 1) from fun e => a1 e.1)]
      exact ⟨_, _, _, trivial, rfl, rfl, hk9, j2, hS⟩
  · simp only [if_neg g]
    have f6 : D1 72 6 = -1 := by rw [d3 _ _ (by decide), e6]; omega
    have hl : lq4 (fn_X11_givesTo_L109 71) FU 0 0 (C 2 h) D1 = some (C 2 h, D1) := by
      show fn_X11_givesTo_L109 71 _ 0 0 (C 2 h) D1 = _
      unfold fn_X11_givesTo_L109 fn_X11_givesTo_J217
      simp (disch := omega) only [rd_eq (k := 71 + 1) (i := 6), Nat.reduceAdd, Int.reduceToNat, f6, cEq_if, if_true, dLt_if, if_neg]
    rw [hl]
    unfold fn_X3_given fn_X3_given_N
    simp (disch := omega) only [p_isHand (t := 1) (M := C) s1 h0.1 h0.2, p_isCoin (t := 1) (M := C) s2 c0.1 c0.2, cu_s, cE_b2, if_pos, rd_eq, Nat.reduceAdd, Int.toNat_natCast]
    exact ⟨none, _, _, _, rfl, rfl, rfl, by omega, S3k.rf, fun k i a b => d3 k i a⟩
