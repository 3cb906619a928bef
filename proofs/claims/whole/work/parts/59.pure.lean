/-- what keepsStep leaves -/
def KS (c : Nat) (D D' : Mem) : Prop := (∀ k i, k ≠ 72 → D' k i = D k i) ∧ D' 72 7 = min (D 72 7 + 1) 40 ∧ (∀ i, i < 120 → i ≠ 7 → D' 72 i = D 72 i) ∧ (∀ i, 280 ≤ i → D' 72 i = D 72 i) ∧
  (∀ k q : Nat, q < 4 → (k : Int) < min (D 72 7) 39 → D' 72 (120 + q + 4 * k) = D 72 (120 + q + 4 * (k + (if D 72 7 = 40 then 1 else 0)))) ∧
  (∀ k : Nat, (k : Int) = min (D 72 7) 39 → D' 72 (120 + 4 * k) = c ∧ D' 72 (121 + 4 * k) = D 72 (21 + 5 * c) ∧ D' 72 (122 + 4 * k) = D 72 (22 + 5 * c) ∧ D' 72 (123 + 4 * k) = D 72 (23 + 5 * c))
theorem q_keepsJ {D : Mem} {c s : Nat} (hc : c < 20) (hs : s < 40) (h7 : D 72 7 = s) : fn_X11_keepsStep_J51 71 c D = some (up (up (up (up (up D 72 (120 + 4 * s) c) 72 (121 + 4 * s) (D 72 (21 + 5 * c))) 72 (122 + 4 * s) (D 72 (22 + 5 * c))) 72 (123 + 4 * s) (D 72 (23 + 5 * c))) 72 7 (s + 1)) := by
  unfold fn_X11_keepsStep_J51
  simp (disch := omega) only [rd_eq, wr_eq, q_coinOf, nm_eq, cu_s, Nat.reduceAdd, Int.reduceToNat, h7]
  rw [show (120 + 4 * (s : Int)).toNat = 120 + 4 * s by omega, show (120 + 4 * (s : Int) + 1).toNat = 121 + 4 * s by omega, show (120 + 4 * (s : Int) + 2).toNat = 122 + 4 * s by omega, show (120 + 4 * (s : Int) + 3).toNat = 123 + 4 * s by omega]
  rw [show (20 + 5 * (c : Int) + 1).toNat = 21 + 5 * c by omega, show (20 + 5 * (c : Int) + 2).toNat = 22 + 5 * c by omega, show (20 + 5 * (c : Int) + 3).toNat = 23 + 5 * c by omega]
  simp (disch := omega) only [up_i, if_neg, h7]
theorem q_keepsStep {D : Mem} {c : Nat} (hc : c < 20) (h0 : 0 ≤ D 72 7) (h1 : D 72 7 ≤ 40) : ∃ D', fn_X11_keepsStep 71 c D = some D' ∧ KS c D D' := by
  unfold fn_X11_keepsStep
  simp (disch := omega) only [rd_eq, Nat.reduceAdd, Int.reduceToNat, cEq_if]
  by_cases g : D 72 7 = 40
  · rw [if_pos g]
    have hl := lr2 (F := fn_X11_keepsStep_L15 71 c) (P := fun o => ∃ E : Mem, o = fn_X11_keepsStep_J42 71 c E ∧ (∀ k i, k ≠ 72 → E k i = D k i) ∧ ∀ i, E 72 i = if 120 ≤ i ∧ i < 276 then D 72 (i + 4) else D 72 i)
      (I := fun k a E => a = 276 - (k : Int) ∧ k ≤ 156 ∧ (∀ k i, k ≠ 72 → E k i = D k i) ∧ ∀ i, E 72 i = if 120 ≤ i ∧ (i : Int) < a then D 72 (i + 4) else D 72 i) (by
        intro k a E rec ⟨h1, h2, h3, h4⟩ ih
        unfold fn_X11_keepsStep_L15
        simp (disch := omega) only [cLt_if, rd_eq, wr_eq, nm_eq, Nat.reduceAdd]
        by_cases q : a < 276
        · rw [if_pos q]
          obtain ⟨k, rfl⟩ : ∃ k', k = k' + 1 := ⟨k - 1, by omega⟩
          refine ih k _ _ (by omega) ⟨by omega, by omega, fun k i hk => by rw [up_o hk]; exact h3 k i hk, fun i => ?_⟩
          rw [up_i]
          by_cases q2 : i = a.toNat
          · rw [if_pos q2, if_pos (by omega), h4, if_neg (by omega)]; congr 1; omega
          · rw [if_neg q2, h4]
            by_cases q3 : 120 ≤ i ∧ (i : Int) < a
            · rw [if_pos q3, if_pos (by omega)]
            · rw [if_neg q3, if_neg (by omega)]
        · rw [if_neg q]
          refine ⟨E, rfl, h3, fun i => ?_⟩
          rw [h4]
          by_cases q3 : 120 ≤ i ∧ (i : Int) < a
          · rw [if_pos q3, if_pos (by omega)]
          · rw [if_neg q3, if_neg (by omega)]) 156 FU 120 D (lt_FU (by decide)) ⟨by omega, by omega, fun _ _ _ => rfl, fun i => by rw [if_neg (by omega)]⟩
    obtain ⟨E, e0, e1, e2⟩ := hl
    rw [e0]
    unfold fn_X11_keepsStep_J42
    simp (disch := omega) only [wr_eq, Nat.reduceAdd, Int.reduceToNat]
    rw [q_keepsJ (s := 39) hc (by decide) (by simp [up_k])]
    refine ⟨_, rfl, fun k i hk => ?_, ?_, fun i hi h7 => ?_, fun i hi => ?_, fun k q hq hk => ?_, fun k hk => ?_⟩
    · simp only [up_o hk]; exact e1 k i hk
    · simp only [up_i, if_true, g]; decide
    · simp (disch := omega) only [up_i, if_neg, e2]
    · simp (disch := omega) only [up_i, if_neg, e2]
    · simp (disch := omega) only [up_i, if_neg, e2, if_pos g]
      rw [if_pos (by omega), show 120 + q + 4 * k + 4 = 120 + q + 4 * (k + 1) by omega]
    · obtain rfl : k = 39 := by omega
      simp (disch := omega) only [up_i, if_neg, e2, if_true, Nat.reduceMul, Nat.reduceAdd, Nat.reduceEqDiff, if_false]
      simp
  · rw [if_neg g]
    obtain ⟨s, hs⟩ := Int.eq_ofNat_of_zero_le h0
    rw [q_keepsJ (s := s) hc (by omega) hs]
    refine ⟨_, rfl, fun k i hk => ?_, ?_, fun i hi h7 => ?_, fun i hi => ?_, fun k q hq hk => ?_, fun k hk => ?_⟩
    · simp only [up_o hk]
    · simp only [up_i, if_true]; omega
    · simp (disch := omega) only [up_i, if_neg]
    · simp (disch := omega) only [up_i, if_neg]
    · simp (disch := omega) only [up_i, if_neg]
      simp
    · obtain rfl : k = s := by omega
      refine ⟨?_, ?_, ?_, ?_⟩ <;> simp (disch := omega) only [up_i, if_neg, if_true]
/-- what a call may change: the class's side, the reference's side -/
def Ch (C C' D D' : Mem) : Prop := Sm SCk C C' ∧ Sm SDk D D' ∧ C' 1 11 = C 1 11 ∧ (C' 1 1 = C 1 1 ∧ C' 1 7 = C 1 7) ∧ (∀ i, i ≤ 5 → D' 71 i = D 71 i)
theorem Ch.rf {C D : Mem} : Ch C C D D := ⟨Sm.rf, Sm.rf, rfl, ⟨rfl, rfl⟩, fun _ _ => rfl⟩
theorem Ch.tr {C C' C'' D D' D'' : Mem} (h : Ch C C' D D') (h' : Ch C' C'' D' D'') : Ch C C'' D D'' := ⟨h.1.tr h'.1, h.2.1.tr h'.2.1, h'.2.2.1.trans h.2.2.1, ⟨h'.2.2.2.1.1.trans h.2.2.2.1.1, h'.2.2.2.1.2.trans h.2.2.2.1.2⟩, fun i hi => (h'.2.2.2.2 i hi).trans (h.2.2.2.2 i hi)⟩
theorem Core_now2 {j : Nat} {M M' : Mem} (hc : Core j M) (hn : OkS 1 (99 * (j + 1)) M' ∧ RlS 1 72 M') (hk : Sm [15, 16, 17, 18, 19, 20, 21, 22, 23, 24, 25, 26, 27, 28, 73, 29, 30, 31, 74] M M') (h71 : ∀ i, i ≤ 5 → M' 71 i = M 71 i) : Core (j + 1) M' := by
  have h1 := Core_mono hc
  refine ⟨hn, kept_frame (hk.sub (by decide)) h1.2.1, tap_frame (fun i => hk 30 (by decide) i) (fun i => hk 74 (by decide) i) (hk 29 (by decide) 1) (h71 3 (by decide)) h1.2.2.1, flt_frame (hk 31 (by decide) 2) (hk 31 (by decide) 3) (hk 31 (by decide) 4) (h71 4 (by decide)) (h71 5 (by decide)) h1.2.2.2⟩
def SMo : List Nat := [71, 72, 73, 74, 75, 76, 77, 78, 79, 80, 81]
theorem lift {j : Nat} {M : Mem} {fc fm : Mem → Option (Int × Mem)} (hc : Core j M) (H : ∀ D, Sm SMo M D → ∃ (r : Int) (C' D' : Mem), fc M = some (r, C') ∧ fm D = some (r, D') ∧ Rel (99 * (j + 1)) C' D' ∧ Ch M C' D D') :
    ∃ (r : Int) (M1 M2 : Mem), fc M = some (r, M1) ∧ fm M1 = some (r, M2) ∧ Core (j + 1) M2 ∧ KX M M2 := by
  obtain ⟨r, C1, D1, e1, -, -, h1⟩ := H M Sm.rf
  obtain ⟨r', C2, D2, e2, e3, e4, h2⟩ := H C1 (h1.1.sub (by decide))
  rw [e1] at e2
  cases e2
  refine ⟨r, C1, D2, e1, e3, ?_, (h1.1.sub (by decide)).tr (h2.2.1.sub (by decide)), ?_⟩
  · refine Core_now2 hc (Rel_to (Rel_C e4 (h2.2.1.sub (by decide)))) ((h1.1.sub (by decide)).tr (h2.2.1.sub (by decide))) (fun i hi => ?_)
    rw [h2.2.2.2.2 i hi]; exact h1.1 71 (by decide) i
  · rw [h2.2.1 1 (by decide) 11, h2.2.1 15 (by decide) 11, h1.1 15 (by decide) 11, h1.2.2.1]; exact ⟨Int.le_refl _, id⟩
/-! wash, on both sides apart -/
theorem d_wash {n : Nat} {C D : Mem} {a : Int} (ha : R3 a) (hR : Rel n C D) : ∃ (r : Int) (C' D' : Mem), fn_X10_wash 0 a C = some (r, C') ∧ fn_X11_wash 71 a D = some (r, D') ∧ Rel n C' D' ∧ Ch C C' D D' ∧ (r = -1 ↔ ¬ (0 ≤ a ∧ a < C 1 7)) ∧ -1 ≤ r ∧ r ≤ Wt n := by
  have hR0 := hR
  obtain ⟨⟨kH, kN, kC, kT, kP⟩, rN, rH, rC, rT, rP⟩ := hR
  have hc0 := kC.1
  have hW : (500 : Int) ≤ Wt n := by unfold Wt; omega
  obtain ⟨t0, t1, t2⟩ := kT
  simp only [Nat.reduceAdd] at t0 t1
  unfold fn_X10_wash fn_X11_wash
  simp only [Nat.zero_add, p_isCoin ha hc0.1 hc0.2, q_isCoin (M := D) ha (by rw [rN.2.1]; exact hc0.1) (by rw [rN.2.1]; exact hc0.2), cu_s, cE_b2, rN.2.1]
  by_cases g : 0 ≤ a ∧ a < C 1 7
  · simp only [if_pos g]
    obtain ⟨c, hc⟩ := Int.eq_ofNat_of_zero_le g.1
    have hcc : (c : Int) < C 1 7 := by omega
    have tc : a.toNat = c := by omega
    have hb := kC.2 c hcc
    have hd := rC c hcc
    simp only [Nat.reduceAdd] at hb
    obtain ⟨D1, hk1, hk2, hk3, hk4, hk5, hk6, hk7⟩ := q_keepsStep (D := D) (c := c) (by omega) (by rw [rN.2.2.2.2.2.2.2.1]; omega) (by rw [rN.2.2.2.2.2.2.2.1]; omega)
    have hp := Rel_push (C' := PU C c (C 4 c) (C 5 c) (C 6 c)) (D' := D1) hR0 hcc rfl hk3 hk4 hk5 hk6 hk7
    unfold fn_X4_cleanCoin fn_X11_washes
    have m3 : D1 72 (20 + 5 * (c : Int) + 0).toNat = C 3 c := by rw [show (20 + 5 * (c : Int) + 0).toNat = 20 + 5 * c by omega, hk4 _ (by omega) (by omega)]; exact hd.1
    have m4 : D1 72 (20 + 5 * (c : Int) + 1).toNat = C 4 c := by rw [show (20 + 5 * (c : Int) + 1).toNat = 21 + 5 * c by omega, hk4 _ (by omega) (by omega)]; exact hd.2.1
    have n3 : PU C c (C 4 c) (C 5 c) (C 6 c) 3 c = C 3 c := by simp [PU, up_k]
    have n4 : PU C c (C 4 c) (C 5 c) (C 6 c) 4 c = C 4 c := by simp [PU, up_k]
    subst hc
    simp (disch := omega) only [p_isCoin ha hc0.1 hc0.2, cu_s, cE_b2, if_pos g, rd_eq, wr_eq, nm_eq, Nat.reduceAdd, p_push t0.1 t0.2 t1.1 t1.2, cv_s, cl_s, hk1, q_coinOf, m3, m4, n3, n4, Int.ofNat_toNat, Int.toNat_natCast]
    refine ⟨_, _, _, rfl, rfl, ?_, ⟨?_, ?_, ?_, ?_, ?_⟩, ?_, ?_, ?_⟩
    · refine Rel_coin (Nat.le_refl n) hp (c := c) (w := C 3 c) (h := C 5 c) (t := C 6 c) (by simp [PU, up_k]; exact hcc) ⟨by rw [n3]; omega, by omega⟩ (by simpa [PU, up_k] using hb.2.2.1) hb.2.2.2.1 (fun k _ a b c i => by simp [up_k, a]) (fun i => by simp [up_k, PU]) (fun i => ?_) (fun i => ?_) (fun i => ?_)
      · simp [up_k, PU]; intro q; rw [q]
      · simp [up_k, PU]; intro q; rw [q]
      · simp only [up_i]
        rw [show (20 + 5 * (c : Int) + 1).toNat = 21 + 5 * c by omega]
        by_cases q1 : i = 21 + 5 * c
        · simp only [if_pos q1]
        · simp only [if_neg q1]
          by_cases q2 : i = 22 + 5 * c
          · rw [if_pos q2, q2, hk4 _ (by omega) (by omega)]; exact hd.2.2.1
          · rw [if_neg q2]
            by_cases q3 : i = 23 + 5 * c
            · rw [if_pos q3, q3, hk4 _ (by omega) (by omega)]; exact hd.2.2.2.1
            · rw [if_neg q3]
    · refine Sm.up ?_ rfl
      unfold PU
      exact ((((((Sm.rf).up rfl).up rfl).up rfl).up rfl).up rfl).up rfl
    · refine Sm.up ?_ rfl
      intro k hk i
      exact hk2 k i (by rintro rfl; revert hk; decide)
    · simp [PU, up_k]
    · simp [PU, up_k]
    · intro i _; rw [up_o (by decide)]; exact hk2 71 i (by decide)
    · constructor
      · intro q; omega
      · intro q; exact absurd g q
    · omega
    · omega
  · simp only [if_neg g]
    exact ⟨_, _, _, rfl, rfl, hR0, Ch.rf, by simp; omega, by omega, by omega⟩
theorem s_wash {j : Nat} {M : Mem} {a1 : Int} (h1 : R3 a1) (hc : Core j M) : ∃ (r : Int) (M1 M2 : Mem), fn_X10_wash 0 a1 M = some (r, M1) ∧ fn_X11_wash 71 a1 M1 = some (r, M2) ∧ Core (j + 1) M2 ∧ KX M M2 := by
  refine lift hc (fun D hD => ?_)
  obtain ⟨r, C', D', e1, e2, e3, e4, -⟩ := d_wash h1 (Rel_D (Rel_of (Core_mono hc).1) (hD 72 (by decide)))
  exact ⟨r, C', D', e1, e2, e3, e4⟩
/-! undo -/
theorem Rel_pop {n : Nat} {C D C' D' : Mem} {n4 n5 : Nat} (hR : Rel n C D) (hn4 : C 8 4 = (n4 : Int)) (hn5 : C 8 5 = ((n5 + 1 : Nat) : Int)) (eC : C' = up (up C 8 5 (n5 : Int)) 8 4 (((n4 + 39) % 40 : Nat) : Int)) (eD : D' = up D 72 7 (n5 : Int)) : Rel n C' D' := by
  obtain ⟨⟨kH, kN, kC, kT, kP⟩, rN, rH, rC, rT, rP⟩ := hR
  have hc0 := kC.1; have hh0 := kH.1; have hp0 := kP.1
  obtain ⟨t0, t1, t2⟩ := kT
  simp only [Nat.reduceAdd] at t0 t1 t2
  have o : ∀ k i, k ≠ 8 → C' k i = C k i := fun k i h => by rw [eC]; simp [up_k, h]
  have u4 : C' 8 4 = (((n4 + 39) % 40 : Nat) : Int) := by rw [eC]; simp [up_k]
  have u5 : C' 8 5 = (n5 : Int) := by rw [eC]; simp [up_k]
  have dl : ∀ i, i ≠ 7 → D' 72 i = D 72 i := fun i h => by rw [eD]; simp [up_k, h]
  have d7 : D' 72 7 = (n5 : Int) := by rw [eD]; simp [up_k]
  have er : ∀ k, k ≤ n5 → rp 8 C' k = rp 8 C k := fun k hk => by unfold rp; rw [u4, u5, hn4, hn5]; omega
  refine ⟨⟨?_, ?_, ?_, ?_, ?_⟩, ?_, ?_, ?_, ?_, ?_⟩
  · simp only [OkH, Nat.reduceAdd, ne_eq, Nat.reduceEqDiff, not_false_eq_true, o] at kH ⊢; exact kH
  · simp only [OkN, Nat.reduceAdd, ne_eq, Nat.reduceEqDiff, not_false_eq_true, o] at kN ⊢; exact kN
  · simp only [OkC, Nat.reduceAdd, ne_eq, Nat.reduceEqDiff, not_false_eq_true, o] at kC ⊢; exact kC
  · simp only [OkT, Nat.reduceAdd, ne_eq, Nat.reduceEqDiff, not_false_eq_true, o, u4, u5]
    refine ⟨by omega, by omega, fun k hk => ?_⟩
    rw [er k (by omega)]; exact t2 k (by omega)
  · simp only [OkP, Nat.reduceAdd, ne_eq, Nat.reduceEqDiff, not_false_eq_true, o] at kP ⊢; exact kP
  · simp only [ne_eq, Nat.reduceEqDiff, not_false_eq_true, o, u5, d7, dl 0 (by decide), dl 1 (by decide), dl 2 (by decide), dl 3 (by decide), dl 4 (by decide), dl 5 (by decide), dl 6 (by decide), dl 8 (by decide)]
    refine ⟨rN.1, rN.2.1, rN.2.2.1, rN.2.2.2.1, rN.2.2.2.2.1, rN.2.2.2.2.2.1, rN.2.2.2.2.2.2.1, trivial, rN.2.2.2.2.2.2.2.2⟩
  · intro i hi
    rw [o _ _ (by decide)] at hi
    rw [dl _ (by omega), o _ _ (by decide)]; exact rH i hi
  · intro i hi
    rw [o _ _ (by decide)] at hi
    simp only [ne_eq, Nat.reduceEqDiff, not_false_eq_true, o]
    rw [dl _ (by omega), dl _ (by omega), dl _ (by omega), dl _ (by omega), dl _ (by omega)]; exact rC i hi
  · intro k hk
    rw [u5] at hk
    simp only [ne_eq, Nat.reduceEqDiff, not_false_eq_true, o]
    rw [er k (by omega), dl _ (by omega), dl _ (by omega), dl _ (by omega), dl _ (by omega)]; exact rT k (by omega)
  · intro k hk
    rw [o _ _ (by decide)] at hk
    rw [dl _ (by omega), dl _ (by omega), o _ _ (by decide), o _ _ (by decide)]; exact rP k hk
theorem d_undo {n : Nat} {C D : Mem} (hR : Rel n C D) : ∃ (r : Int) (C' D' : Mem), fn_X10_undo 0 C = some (r, C') ∧ fn_X11_undo 71 D = some (r, D') ∧ Rel n C' D' ∧ Ch C C' D D' := by
  have hR0 := hR
  obtain ⟨⟨kH, kN, kC, kT, kP⟩, rN, rH, rC, rT, rP⟩ := hR
  have hc0 := kC.1; have hh0 := kH.1; have hp0 := kP.1
  obtain ⟨t0, t1, t2⟩ := kT
  simp only [Nat.reduceAdd] at t0 t1 t2
  have e7 : D 72 7 = C 8 5 := rN.2.2.2.2.2.2.2.1
  unfold fn_X10_undo fn_X4_takeBack fn_X5_pop fn_X11_undo
  simp (disch := omega) only [Nat.zero_add, Nat.reduceAdd, rd_eq, Int.reduceToNat, cLt_if, cEq_if, st_eq, e7]
  by_cases g : C 8 5 < 1
  · simp (disch := omega) only [if_pos, cl_s, cLt_if]
    exact ⟨_, _, _, rfl, rfl, hR0, Ch.rf⟩
  · obtain ⟨n4, hn4⟩ := Int.eq_ofNat_of_zero_le t0.1
    obtain ⟨n5, hn5⟩ : ∃ n5 : Nat, C 8 5 = ((n5 + 1 : Nat) : Int) := ⟨(C 8 5 - 1).toNat, by omega⟩
    have u4 : (((C 8 4) + 40) - 1).tmod 40 = (((n4 + 39) % 40 : Nat) : Int) := by
      rw [Int.tmod_eq_emod_of_nonneg (by omega), hn4]; omega
    have r0 : rp 8 C n5 = (n4 + 39) % 40 := by unfold rp; omega
    have h2 := t2 n5 (by omega)
    have h3 := rT n5 (by omega)
    rw [r0] at h2 h3
    generalize hx : (n4 + 39) % 40 = x at *
    have hx40 : x < 40 := by omega
    obtain ⟨c, hc⟩ := Int.eq_ofNat_of_zero_le h2.1.1
    have hcc : (c : Int) < C 1 7 := by omega
    have hcn : c < 20 := by omega
    simp only [hc, Int.toNat_natCast] at h2 h3
    simp (disch := omega) only [if_neg, cl_s, cLt_if, up_k, Nat.reduceEqDiff, and_false, false_and, if_false, and_self, if_true, ck_R330, u4, rd_eq, Int.toNat_natCast, if_pos, true_and, hc]
    have hq : ∀ M : Mem, M 1 7 = C 1 7 → fn_X4_isCoin 1 (c : Int) M = some 1 := fun M e => by
      rw [p_isCoin ⟨by omega, by omega⟩ (by omega) (by omega), b2_t (by omega)]
    rw [hq _ (by simp [up_k])]
    simp (disch := omega) only [cu_s, cEq_if, if_neg, wr_eq, rd_eq, nm_eq, Int.toNat_natCast, Int.reduceToNat, up_k, and_self, true_and, if_true, hn5]
    have w0 : (120 + 4 * (((n5 + 1 : Nat) : Int) - 1)).toNat = 120 + 4 * n5 := by omega
    have w1 : (120 + 4 * (((n5 + 1 : Nat) : Int) - 1) + 1).toNat = 121 + 4 * n5 := by omega
    have w2 : (120 + 4 * (((n5 + 1 : Nat) : Int) - 1) + 2).toNat = 122 + 4 * n5 := by omega
    have w3 : (120 + 4 * (((n5 + 1 : Nat) : Int) - 1) + 3).toNat = 123 + 4 * n5 := by omega
    rw [w0, w1, w2, w3, h3.1]
    have z1 : (20 + 5 * (c : Int) + 1).toNat = 21 + 5 * c := by omega
    have z2 : (20 + 5 * (c : Int) + 2).toNat = 22 + 5 * c := by omega
    have z3 : (20 + 5 * (c : Int) + 3).toNat = 23 + 5 * c := by omega
    simp (disch := omega) only [wr_eq, z1, z2, z3, up_i, if_neg, up_k]
    refine ⟨_, _, _, rfl, rfl, ?_, ?_⟩
    · have hp := Rel_pop hR0 hn4 hn5 rfl rfl
      rw [hx] at hp
      have e5 : (((n5 + 1 : Nat) : Int) - 1) = (n5 : Int) := by omega
      rw [e5]
      refine Rel_coin (Nat.le_refl n) hp (c := c) (w := C 10 x) (h := C 11 x) (t := C 12 x) (by simpa [up_k] using hcc) (by simpa [up_k] using h2.2.1) (by simpa [up_k] using h2.2.2.1) h2.2.2.2 (fun k _ a b c i => by simp [up_k, a, b, c]) (fun i => by simp [up_k]) (fun i => by simp [up_k]) (fun i => by simp [up_k]) (fun i => ?_)
      simp only [up_i, h3.2.1, h3.2.2.1, h3.2.2.2]
      by_cases q1 : i = 23 + 5 * c
      · simp (disch := omega) only [if_pos, if_neg]
      · by_cases q2 : i = 22 + 5 * c
        · simp (disch := omega) only [if_pos, if_neg]
        · by_cases q3 : i = 21 + 5 * c
          · simp (disch := omega) only [if_pos, if_neg]
          · simp only [if_neg q1, if_neg q2, if_neg q3]
    · refine ⟨((((Sm.rf.up rfl).up rfl).up rfl).up rfl).up rfl, (((Sm.rf.up rfl).up rfl).up rfl).up rfl, by simp [up_k], by simp [up_k], fun i _ => by simp [up_k]⟩
theorem s_undo {j : Nat} {M : Mem} (hc : Core j M) : ∃ (r : Int) (M1 M2 : Mem), fn_X10_undo 0 M = some (r, M1) ∧ fn_X11_undo 71 M1 = some (r, M2) ∧ Core (j + 1) M2 ∧ KX M M2 := by
  refine lift hc (fun D hD => ?_)
  exact d_undo (Rel_D (Rel_of (Core_mono hc).1) (hD 72 (by decide)))
