/-! gives, pay -/
theorem p_canPay {n : Nat} {C : Mem} {a b : Int} (ha : R3 a) (hb : R3 b) (hO : OkS 1 n C) : fn_X4_canBePaid 1 a b C = some (b2 ((0 ≤ a ∧ a < C 1 7) ∧ (0 ≤ b ∧ b < C 1 1) ∧ C 5 a.toNat ≠ b)) := by
  have hh0 := hO.1.1
  have hc0 := hO.2.2.1.1
  unfold fn_X4_canBePaid fn_X4_canBePaid_J30
  rw [p_isCoin ha hc0.1 hc0.2, cu_s, cE_b2, p_isHand hb hh0.1 hh0.2, cu_s, cE_b2]
  simp only [Nat.reduceAdd]
  by_cases g : 0 ≤ a ∧ a < C 1 7
  · have hk := hO.2.2.1.2 a.toNat (by omega)
    simp only [Nat.reduceAdd] at hk
    rw [if_pos g]
    by_cases g2 : 0 ≤ b ∧ b < C 1 1
    · rw [if_pos g2, rd_eq g.1 (by omega), cEq_if (by omega) (by omega) hb.1 hb.2]
      by_cases g3 : C 5 a.toNat = b
      · rw [if_pos g3, b2_f (fun q => q.2.2 g3)]
      · rw [if_neg g3, b2_t ⟨g, g2, g3⟩]
    · rw [if_neg g2, b2_f (fun q => g2 q.2.1)]
  · rw [if_neg g, b2_f (fun q => g q.1)]
theorem q_canPay {n : Nat} {C D : Mem} {a b : Int} (ha : R3 a) (hb : R3 b) (hR : Rel n C D) : fn_X11_canPay 71 a b D = some (b2 ((0 ≤ a ∧ a < C 1 7) ∧ (0 ≤ b ∧ b < C 1 1) ∧ C 5 a.toNat ≠ b)) := by
  obtain ⟨hO, rN, rH, rC, rT, rP⟩ := hR
  have hh0 := hO.1.1
  have hc0 := hO.2.2.1.1
  unfold fn_X11_canPay fn_X11_canPay_J30
  rw [q_isCoin ha (by rw [rN.2.1]; exact hc0.1) (by rw [rN.2.1]; exact hc0.2), cu_s, cE_b2, q_isHand hb (by rw [rN.1]; exact hh0.1) (by rw [rN.1]; exact hh0.2), cu_s, cE_b2, rN.1, rN.2.1]
  by_cases g : 0 ≤ a ∧ a < C 1 7
  · have hk := hO.2.2.1.2 a.toNat (by omega)
    have hd := rC a.toNat (by omega)
    simp only [Nat.reduceAdd] at hk
    rw [if_pos g]
    by_cases g2 : 0 ≤ b ∧ b < C 1 1
    · rw [if_pos g2, q_coinOf g.1 (by omega) (by decide) (by decide), cu_s, show (20 + 5 * a + 2).toNat = 22 + 5 * a.toNat by omega, hd.2.2.1, cEq_if (by omega) (by omega) hb.1 hb.2]
      by_cases g3 : C 5 a.toNat = b
      · rw [if_pos g3, b2_f (fun q => q.2.2 g3)]
      · rw [if_neg g3, b2_t ⟨g, g2, g3⟩]
    · rw [if_neg g2, b2_f (fun q => g2 q.2.1)]
  · rw [if_neg g, b2_f (fun q => g q.1)]
theorem S3k_Sm {C C' : Mem} {S : List Nat} (h : S3k C C') (hs : S.contains 63 = false) (hs' : S.contains 64 = false) : Sm S C C' := fun k hk i => h k i (by
    rintro rfl; rw [List.contains_iff_mem.mpr hk] at hs; cases hs) (by
    rintro rfl; rw [List.contains_iff_mem.mpr hk] at hs'; cases hs')
theorem S92_Sm {C C' : Mem} {S : List Nat} (h : S92 C C') (hs : S.contains 92 = false) (hs' : S.contains 93 = false) : Sm S C C' := fun k hk i => h k i (by
    rintro rfl; rw [List.contains_iff_mem.mpr hk] at hs; cases hs) (by
    rintro rfl; rw [List.contains_iff_mem.mpr hk] at hs'; cases hs')
theorem TXs_ch {n : Nat} {C C' D D' : Mem} (hR : Rel n C D) (h : Ch C C' D D') (hX : TXs C D) : TXs C' D' := by
  refine TXs_f h.2.2.1 hR.1.2.1.2.2.2.1.2 (fun k i a b => h.1 k ?_ i) (fun k i a b => h.2.1 k ?_ i) hX
  · have : k = 43 ∨ k = 44 ∨ k = 45 ∨ k = 46 ∨ k = 47 ∨ k = 48 ∨ k = 49 ∨ k = 50 ∨ k = 51 ∨ k = 52 ∨ k = 53 ∨ k = 54 ∨ k = 55 ∨ k = 56 ∨ k = 57 ∨ k = 58 ∨ k = 59 ∨ k = 60 ∨ k = 61 ∨ k = 62 := by omega
    rcases this with rfl | rfl | rfl | rfl | rfl | rfl | rfl | rfl | rfl | rfl | rfl | rfl | rfl | rfl | rfl | rfl | rfl | rfl | rfl | rfl <;> decide
  · have : k = 75 ∨ k = 76 ∨ k = 77 ∨ k = 78 ∨ k = 79 ∨ k = 80 ∨ k = 81 := by omega
    rcases this with rfl | rfl | rfl | rfl | rfl | rfl | rfl <;> decide
theorem d_pays {n : Nat} {C D : Mem} {c h : Nat} (hn : n < 6336) (hR : Rel n C D) (hX : TXs C D) (hh : (h : Int) < C 1 1) (hc : (c : Int) < C 1 7) :
    ∃ (x : Option Nat) (v w : Int) (C1 C' D' : Mem), fn_X10_ruling 0 C = some x ∧ fn_X3_given 63 1 x h c C = some (v, C1) ∧ fn_X4_moveCoin 1 c h v C1 = some (w, C') ∧ fn_X11_pays 71 c h D = some D' ∧ Rel (n + 1) C' D' ∧ Ch C C' D D' ∧ D' 72 (21 + 5 * c) = w ∧ (0 ≤ w ∧ w ≤ Wt (n + 1)) ∧ C' 70 0 = C 70 0 ∧ D' 71 47 = D 71 47 := by
  obtain ⟨x, v, C1, D1, e1, e2, e3, e4, e5, e6⟩ := d_given (by omega) hR hX hh hc
  have s1 : Sm SCl C C1 := S3k_Sm e5 rfl rfl
  have hR1 : Rel n C1 D1 := Rel_D (Rel_C hR s1) (fun i => e6 72 i (by decide) (by decide))
  have hR0 := hR1
  have hh1 : (h : Int) < C1 1 1 := by rw [s1 1 (by decide) 1]; exact hh
  have hc1 : (c : Int) < C1 1 7 := by rw [s1 1 (by decide) 7]; exact hc
  obtain ⟨⟨kH, kN, kC, kT, kP⟩, rN, rH, rC, rT, rP⟩ := hR1
  have hh0 := kH.1
  have hc0 := kC.1
  obtain ⟨t0, t1, t2⟩ := kT
  simp only [Nat.reduceAdd] at t0 t1
  have hb := kC.2 c hc1
  have hd := rC c hc1
  simp only [Nat.reduceAdd] at hb
  have hW : Wt (n + 1) = Wt n + 99 := by unfold Wt; omega
  have hT : Tt (n + 1) = Tt n + 1 := by unfold Tt; omega
  obtain ⟨D2, hk1, hk2, hk3, hk4, hk5, hk6, hk7⟩ := q_keepsStep (D := D1) (c := c) (by omega) (by rw [rN.2.2.2.2.2.2.2.1]; omega) (by rw [rN.2.2.2.2.2.2.2.1]; omega)
  have hp := Rel_push (C' := PU C1 c (C1 4 c) (C1 5 c) (C1 6 c)) (D' := D2) hR0 hc1 rfl hk3 hk4 hk5 hk6 hk7
  have n4 : PU C1 c (C1 4 c) (C1 5 c) (C1 6 c) 4 c = C1 4 c := by simp [PU, up_k]
  have n6 : PU C1 c (C1 4 c) (C1 5 c) (C1 6 c) 6 c = C1 6 c := by simp [PU, up_k]
  have n3 : PU C1 c (C1 4 c) (C1 5 c) (C1 6 c) 3 c = C1 3 c := by simp [PU, up_k]
  have z1 : (20 + 5 * (c : Int) + 1).toNat = 21 + 5 * c := by omega
  have z2 : (20 + 5 * (c : Int) + 2).toNat = 22 + 5 * c := by omega
  have z3 : (20 + 5 * (c : Int) + 3).toNat = 23 + 5 * c := by omega
  have m1 : D2 72 (21 + 5 * c) = C1 4 c := by rw [hk4 _ (by omega) (by omega)]; exact hd.2.1
  have m3 : D2 72 (23 + 5 * c) = C1 6 c := by rw [hk4 _ (by omega) (by omega)]; exact hd.2.2.2.1
  have eM : fn_X4_moveCoin 1 c h v C1 = some (C1 4 c + v, up (up (up (PU C1 c (C1 4 c) (C1 5 c) (C1 6 c)) 5 c h) 6 c (C1 6 c + 1)) 4 c (C1 4 c + v)) := by
    unfold fn_X4_moveCoin
    rw [p_isCoin ⟨by omega, by omega⟩ hc0.1 hc0.2, cu_s, cE_b2, if_pos (by omega)]
    simp (disch := omega) only [rd_eq, wr_eq, Nat.reduceAdd, Int.toNat_natCast, p_push t0.1 t0.2 t1.1 t1.2, cv_s, up_k, Nat.reduceEqDiff, false_and, if_false, and_self, if_true, n4, n6]
  have eD : fn_X11_pays 71 c h D = some (up (up (up D2 72 (21 + 5 * c) (C1 4 c + v)) 72 (22 + 5 * c) h) 72 (23 + 5 * c) (C1 6 c + 1)) := by
    unfold fn_X11_pays
    rw [e3, cl_s, hk1, cv_s, nm_eq]
    simp (disch := omega) only [rd_eq, wr_eq, Nat.reduceAdd, z1, z2, z3, m1, up_i, if_neg, m3]
  refine ⟨x, v, _, C1, _, _, e1, e2, eM, eD, ?_, ?_, ?_, ?_, ?_, ?_⟩
  · refine Rel_coin (Nat.le_succ n) hp (c := c) (w := C1 4 c + v) (h := h) (t := C1 6 c + 1) (by simp [PU, up_k]; exact hc1) ⟨by rw [n3]; omega, by omega⟩ (by simp [PU, up_k]; omega) (by omega) (fun k _ a b c i => by simp [up_k, a, b, c]) (fun i => by simp [up_k, PU]) (fun i => by simp [up_k, PU]) (fun i => by simp [up_k, PU]) (fun i => ?_)
    simp only [up_i]
    by_cases q1 : i = 23 + 5 * c
    · simp (disch := omega) only [if_pos, if_neg]
    · by_cases q2 : i = 22 + 5 * c
      · simp (disch := omega) only [if_pos, if_neg]
      · by_cases q3 : i = 21 + 5 * c
        · simp (disch := omega) only [if_pos, if_neg]
        · simp only [if_neg q1, if_neg q2, if_neg q3]
  · refine ⟨?_, ?_, ?_, ?_, ?_⟩
    · refine (S3k_Sm e5 rfl rfl).tr ?_
      refine Sm.up (Sm.up (Sm.up ?_ rfl) rfl) rfl
      unfold PU
      exact ((((((Sm.rf).up rfl).up rfl).up rfl).up rfl).up rfl).up rfl
    · refine (S92_Sm e6 rfl rfl).tr ?_
      refine Sm.up (Sm.up (Sm.up ?_ rfl) rfl) rfl
      intro k hk i
      exact hk2 k i (by rintro rfl; revert hk; decide)
    · rw [← s1 1 (by decide) 11]; simp [PU, up_k]
    · rw [← s1 1 (by decide) 1, ← s1 1 (by decide) 7]; simp [PU, up_k]
    · intro i _; rw [up_o (by decide), up_o (by decide), up_o (by decide), hk2 71 i (by decide)]; exact e6 71 i (by decide) (by decide)
  · simp (disch := omega) only [up_i, if_neg, if_true]
  · omega
  · rw [← e5 70 0 (by decide) (by decide)]; simp [PU, up_k]
  · rw [up_o (by decide), up_o (by decide), up_o (by decide), hk2 71 47 (by decide)]; exact e6 71 47 (by decide) (by decide)
theorem d_gives {n : Nat} {C D : Mem} {a b : Int} (ha : R3 a) (hb : R3 b) (hn : n ≤ 6336) (hR : Rel n C D) (hX : TXs C D) : ∃ (r : Int) (C' D' : Mem), fn_X10_gives 0 a b C = some (r, C') ∧ fn_X11_gives 71 a b D = some (r, D') ∧ Rel n C' D' ∧ Ch C C' D D' := by
  have hh0 := hR.1.1.1
  have hc0 := hR.1.2.2.1.1
  have rN := hR.2.1
  unfold fn_X10_gives fn_X11_gives fn_X11_gives_J35
  simp only [Nat.zero_add]
  rw [p_canPay hb ha hR.1, cu_s, cE_b2, q_isHand ha (by rw [rN.1]; exact hh0.1) (by rw [rN.1]; exact hh0.2), cu_s, cE_b2, rN.1]
  by_cases g2 : 0 ≤ a ∧ a < C 1 1
  · rw [if_pos g2, q_isCoin hb (by rw [rN.2.1]; exact hc0.1) (by rw [rN.2.1]; exact hc0.2), cu_s, cE_b2, rN.2.1]
    by_cases g : 0 ≤ b ∧ b < C 1 7
    · have hk := hR.1.2.2.1.2 b.toNat (by omega)
      have hd := hR.2.2.2.1 b.toNat (by omega)
      simp only [Nat.reduceAdd] at hk
      rw [if_pos g, q_coinOf g.1 (by omega) (by decide) (by decide), cu_s, show (20 + 5 * b + 2).toNat = 22 + 5 * b.toNat by omega, hd.2.2.1, cEq_if (by omega) (by omega) ha.1 ha.2]
      by_cases g3 : C 5 b.toNat = a
      · rw [if_pos g3, if_neg (fun q => q.2.2 g3)]
        exact ⟨_, _, _, rfl, rfl, hR, Ch.rf⟩
      · rw [if_neg g3, if_pos ⟨g, g2, g3⟩]
        obtain ⟨h, hh⟩ := Int.eq_ofNat_of_zero_le g2.1
        obtain ⟨c, hc⟩ := Int.eq_ofNat_of_zero_le g.1
        subst hh; subst hc
        obtain ⟨x, v, C1, D1, e1, e2, e3, e4, e5, e6⟩ := d_given hn hR hX g2.2 g.2
        rw [e1, cu_s, e2, cl_s, e3, cl_s]
        refine ⟨_, _, _, rfl, rfl, Rel_D (Rel_C hR (S3k_Sm e5 rfl rfl)) (fun i => e6 72 i (by decide) (by decide)), S3k_Sm e5 rfl rfl, S92_Sm e6 rfl rfl, e5 1 11 (by decide) (by decide), ⟨e5 1 1 (by decide) (by decide), e5 1 7 (by decide) (by decide)⟩, fun i _ => e6 71 i (by decide) (by decide)⟩
    · rw [if_neg g, if_neg (fun q => g q.1)]
      exact ⟨_, _, _, rfl, rfl, hR, Ch.rf⟩
  · rw [if_neg g2, if_neg (fun q => g2 q.2.1)]
    exact ⟨_, _, _, rfl, rfl, hR, Ch.rf⟩
theorem TXs_D {M D : Mem} (hX : TXs M M) (h4 : M 1 11 ≤ 4) (hD : Sm SMo M D) : TXs M D := TXs_f rfl h4 (fun _ _ _ _ => rfl) (fun k i a b => hD k (by
    have : k = 75 ∨ k = 76 ∨ k = 77 ∨ k = 78 ∨ k = 79 ∨ k = 80 ∨ k = 81 := by omega
    rcases this with rfl | rfl | rfl | rfl | rfl | rfl | rfl <;> decide) i) hX
theorem s_gives {j : Nat} {M : Mem} {a1 a2 : Int} (h1 : R3 a1) (h2 : R3 a2) (hj : j < 64) (hc : Core j M) (hX : TXs M M) : ∃ (r : Int) (M1 M2 : Mem), fn_X10_gives 0 a1 a2 M = some (r, M1) ∧ fn_X11_gives 71 a1 a2 M1 = some (r, M2) ∧ Core (j + 1) M2 ∧ KX M M2 := by
  refine lift hc (fun D hD => ?_)
  have hR := Rel_D (Rel_of hc.1) (hD 72 (by decide))
  obtain ⟨r, C', D', e1, e2, e3, e4⟩ := d_gives h1 h2 (by omega) hR (TXs_D hX hR.1.2.1.2.2.2.1.2 hD)
  exact ⟨r, C', D', e1, e2, Rel_mono (by omega) e3, e4⟩
theorem d_pay {n : Nat} {C D : Mem} {a b : Int} (ha : R3 a) (hb : R3 b) (hn : n < 6336) (hR : Rel n C D) (hX : TXs C D) : ∃ (r : Int) (C' D' : Mem), fn_X10_pay 0 a b C = some (r, C') ∧ fn_X11_pay 71 a b D = some (r, D') ∧ Rel (n + 1) C' D' ∧ Ch C C' D D' := by
  unfold fn_X10_pay fn_X11_pay
  simp only [Nat.zero_add]
  rw [p_canPay ha hb hR.1, cu_s, cE_b2, q_canPay ha hb hR, cu_s, cE_b2]
  by_cases g : (0 ≤ a ∧ a < C 1 7) ∧ (0 ≤ b ∧ b < C 1 1) ∧ C 5 a.toNat ≠ b
  · rw [if_pos g, if_pos g]
    have hc0 := hR.1.2.2.1.1
    obtain ⟨c, hc⟩ := Int.eq_ofNat_of_zero_le g.1.1
    obtain ⟨h, hh⟩ := Int.eq_ofNat_of_zero_le g.2.1.1
    subst hh; subst hc
    obtain ⟨x, v, w, C1, C', D', e1, e2, e3, e4, e5, e6, e7, e8, e9⟩ := d_pays hn hR hX g.2.1.2 g.1.2
    rw [e1, cu_s, e2, cl_s, e3, cl_s, e4, cv_s, q_coinOf (by omega) (by omega) (by decide) (by decide), cu_s, show (20 + 5 * (c : Int) + 1).toNat = 21 + 5 * c by omega, e7]
    exact ⟨_, _, _, rfl, rfl, e5, e6⟩
  · rw [if_neg g, if_neg g]
    exact ⟨_, _, _, rfl, rfl, Rel_mono (by omega) hR, Ch.rf⟩
theorem s_pay {j : Nat} {M : Mem} {a1 a2 : Int} (h1 : R3 a1) (h2 : R3 a2) (hj : j < 64) (hc : Core j M) (hX : TXs M M) : ∃ (r : Int) (M1 M2 : Mem), fn_X10_pay 0 a1 a2 M = some (r, M1) ∧ fn_X11_pay 71 a1 a2 M1 = some (r, M2) ∧ Core (j + 1) M2 ∧ KX M M2 := by
  refine lift hc (fun D hD => ?_)
  have hR := Rel_D (Rel_of hc.1) (hD 72 (by decide))
  obtain ⟨r, C', D', e1, e2, e3, e4⟩ := d_pay h1 h2 (by omega) hR (TXs_D hX hR.1.2.1.2.2.2.1.2 hD)
  exact ⟨r, C', D', e1, e2, Rel_mono (by omega) e3, e4⟩
