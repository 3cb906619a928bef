/-! market -/
def lig (C : Mem) (h : Int) : Nat → Int
  | 0 => -1
  | k + 1 => if C 5 k = h ∧ (lig C h k = -1 ∨ C 4 k < C 4 (lig C h k).toNat) then (k : Int) else lig C h k
theorem lig_r {C : Mem} {h : Int} : ∀ k : Nat, (-1 ≤ lig C h k ∧ lig C h k < (k : Int)) ∧ (0 ≤ lig C h k → C 5 (lig C h k).toNat = h)
  | 0 => ⟨⟨by simp [lig], by simp [lig]⟩, fun q => by simp [lig] at q⟩
  | k + 1 => by
    have ih := lig_r (C := C) (h := h) k
    unfold lig
    by_cases g : C 5 k = h ∧ (lig C h k = -1 ∨ C 4 k < C 4 (lig C h k).toNat)
    · rw [if_pos g]; exact ⟨⟨by omega, by omega⟩, fun _ => by rw [Int.toNat_natCast]; exact g.1⟩
    · rw [if_neg g]; exact ⟨⟨by omega, by omega⟩, ih.2⟩
theorem p_light {n : Nat} {C : Mem} {h : Int} (hn : n ≤ 6336) (hO : OkS 1 n C) (hh : R3 h) {m : Nat} (hm : C 1 7 = (m : Int)) : fn_X4_lightestOf 1 h C = some (lig C h m) := by
  obtain ⟨kH, kN, kC, kT, kP⟩ := hO
  have hh0 := kH.1
  have hc0 := kC.1
  have hW : Wt n ≤ 700000 := by unfold Wt; omega
  unfold fn_X4_lightestOf
  refine lr2 (P := fun o => o = some (lig C h m)) (I := fun k a b => a = (m : Int) - (k : Int) ∧ k ≤ m ∧ b = lig C h (m - k)) ?_ m FU 0 (-1) (lt_FU (by omega)) ⟨by omega, Nat.le_refl _, by rw [Nat.sub_self]; rfl⟩
  intro k a b rec ⟨h1, h2, h3⟩ ih
  unfold fn_X4_lightestOf_L4 fn_X4_lightestOf_J48 fn_X4_lightestOf_J50
  simp (disch := omega) only [cLt_if (x := a), hm, nm_eq]
  by_cases q : a < (m : Int)
  · rw [if_pos q, if_pos (by omega)]
    obtain ⟨k, rfl⟩ : ∃ k', k = k' + 1 := ⟨k - 1, by omega⟩
    have hb := kC.2 (m - (k + 1)) (by omega)
    have ta : a.toNat = m - (k + 1) := by omega
    have ea : ((m - (k + 1) : Nat) : Int) = a := by omega
    simp only [Nat.reduceAdd] at hb
    have hr := (lig_r (C := C) (h := h) (m - (k + 1))).1
    rw [← h3] at hr
    have hs : lig C h (m - k) = if C 5 (m - (k + 1)) = h ∧ (b = -1 ∨ C 4 (m - (k + 1)) < C 4 b.toNat) then a else b := by
      rw [show m - k = (m - (k + 1)) + 1 by omega, h3, ← ea]; rfl
    simp (disch := omega) only [rd_eq (i := a), ta, Nat.reduceAdd]
    rw [cEq_if (by omega) (by omega) hh.1 hh.2, cEq_if (x := b) (by omega) (by omega) (by decide) (by decide)]
    by_cases q2 : C 5 (m - (k + 1)) = h
    · rw [if_pos q2]
      by_cases q3 : b = -1
      · rw [if_pos q3]
        refine ih k _ _ (by omega) ⟨by omega, by omega, ?_⟩
        rw [hs, if_pos ⟨q2, Or.inl q3⟩]
      · have hb2 := kC.2 b.toNat (by omega)
        simp only [Nat.reduceAdd] at hb2
        rw [if_neg q3, rd_eq (by omega) (by omega), cLt_if (by omega) (by omega) (by omega) (by omega)]
        by_cases q4 : C 4 (m - (k + 1)) < C 4 b.toNat
        · rw [if_pos q4]
          refine ih k _ _ (by omega) ⟨by omega, by omega, ?_⟩
          rw [hs, if_pos ⟨q2, Or.inr q4⟩]
        · rw [if_neg q4]
          refine ih k _ _ (by omega) ⟨by omega, by omega, ?_⟩
          rw [hs, if_neg (fun e => e.2.elim q3 q4)]
    · rw [if_neg q2]
      refine ih k _ _ (by omega) ⟨by omega, by omega, ?_⟩
      rw [hs, if_neg (fun e => q2 e.1)]
  · rw [if_neg q, h3, show m - k = m by omega]
theorem q_light {n : Nat} {C D : Mem} {h : Int} (hn : n ≤ 6336) (hR : Rel n C D) (hh : R3 h) {m : Nat} (hm : C 1 7 = (m : Int)) : fn_X11_lightest 71 h D = some (lig C h m) := by
  obtain ⟨⟨kH, kN, kC, kT, kP⟩, rN, rH, rC, rT, rP⟩ := hR
  have hh0 := kH.1
  have hc0 := kC.1
  have hW : Wt n ≤ 700000 := by unfold Wt; omega
  have e1 : D 72 1 = (m : Int) := by rw [rN.2.1, hm]
  unfold fn_X11_lightest
  refine lr2 (P := fun o => o = some (lig C h m)) (I := fun k a b => a = (m : Int) - (k : Int) ∧ k ≤ m ∧ b = lig C h (m - k)) ?_ m FU 0 (-1) (lt_FU (by omega)) ⟨by omega, Nat.le_refl _, by rw [Nat.sub_self]; rfl⟩
  intro k a b rec ⟨h1, h2, h3⟩ ih
  unfold fn_X11_lightest_L4 fn_X11_lightest_J44 fn_X11_lightest_J46
  rw [rd_eq (by decide) (by decide), show (1 : Int).toNat = 1 from rfl]
  simp only [Nat.reduceAdd, e1, nm_eq]
  rw [cLt_if (by omega) (by omega) (by omega) (by omega)]
  by_cases q : a < (m : Int)
  · rw [if_pos q]
    obtain ⟨k, rfl⟩ : ∃ k', k = k' + 1 := ⟨k - 1, by omega⟩
    have hb := kC.2 (m - (k + 1)) (by omega)
    have hd := rC (m - (k + 1)) (by omega)
    have ea : ((m - (k + 1) : Nat) : Int) = a := by omega
    simp only [Nat.reduceAdd] at hb
    have hr := (lig_r (C := C) (h := h) (m - (k + 1))).1
    rw [← h3] at hr
    have hs : lig C h (m - k) = if C 5 (m - (k + 1)) = h ∧ (b = -1 ∨ C 4 (m - (k + 1)) < C 4 b.toNat) then a else b := by
      rw [show m - k = (m - (k + 1)) + 1 by omega, h3, ← ea]; rfl
    have z1 : (20 + 5 * a + 1).toNat = 21 + 5 * (m - (k + 1)) := by omega
    have z2 : (20 + 5 * a + 2).toNat = 22 + 5 * (m - (k + 1)) := by omega
    rw [q_coinOf (by omega) (by omega) (by decide) (by decide), cu_s, z2, hd.2.2.1, cEq_if (by omega) (by omega) hh.1 hh.2, cEq_if (x := b) (by omega) (by omega) (by decide) (by decide)]
    by_cases q2 : C 5 (m - (k + 1)) = h
    · rw [if_pos q2]
      by_cases q3 : b = -1
      · rw [if_pos q3]
        refine ih k _ _ (by omega) ⟨by omega, by omega, ?_⟩
        rw [hs, if_pos ⟨q2, Or.inl q3⟩]
      · have hb2 := kC.2 b.toNat (by omega)
        have hd2 := rC b.toNat (by omega)
        simp only [Nat.reduceAdd] at hb2
        have z3 : (20 + 5 * b + 1).toNat = 21 + 5 * b.toNat := by omega
        rw [if_neg q3, q_coinOf (by omega) (by omega) (by decide) (by decide), cu_s, z1, hd.2.1, q_coinOf (by omega) (by omega) (by decide) (by decide), cu_s, z3, hd2.2.1, cLt_if (by omega) (by omega) (by omega) (by omega)]
        by_cases q4 : C 4 (m - (k + 1)) < C 4 b.toNat
        · rw [if_pos q4]
          refine ih k _ _ (by omega) ⟨by omega, by omega, ?_⟩
          rw [hs, if_pos ⟨q2, Or.inr q4⟩]
        · rw [if_neg q4]
          refine ih k _ _ (by omega) ⟨by omega, by omega, ?_⟩
          rw [hs, if_neg (fun e => e.2.elim q3 q4)]
    · rw [if_neg q2]
      refine ih k _ _ (by omega) ⟨by omega, by omega, ?_⟩
      rw [hs, if_neg (fun e => q2 e.1)]
  · rw [if_neg q, h3, show m - k = m by omega]
theorem p_draw {M : Mem} {x m : Int} (hx : M 70 0 = x) (h0 : 0 ≤ x) (h1 : x ≤ 90000) (hm : 1 ≤ m ∧ m ≤ 100) : fn_X0_draw 70 m M = some (x % m, up M 70 0 ((x * 227 + 59) % 30137)) := by
  unfold fn_X0_draw
  rw [cLt_if (by omega) (by omega) (by decide) (by decide), if_neg (by omega), hx, ck_R330 (by omega) (by omega) (by omega) (by omega) (by omega), nm_eq, ck_R330 (by omega) (by omega) (by decide) (by decide) (by decide), st_eq, Int.tmod_eq_emod_of_nonneg h0, Int.tmod_eq_emod_of_nonneg (by omega)]
theorem q_draw {M : Mem} {x m : Int} (hx : M 71 47 = x) (h0 : 0 ≤ x) (h1 : x ≤ 90000) (hm : 1 ≤ m ∧ m ≤ 100) : fn_X11_draw 71 m M = some (x % m, up M 71 47 ((x * 227 + 59) % 30137)) := by
  unfold fn_X11_draw
  rw [hx, ck_R330 (by omega) (by omega) (by omega) (by omega) (by omega), nm_eq, ck_R330 (by omega) (by omega) (by decide) (by decide) (by decide), st_eq, Int.tmod_eq_emod_of_nonneg h0, Int.tmod_eq_emod_of_nonneg (by omega)]
theorem Ch_draw {C D : Mem} {x y : Int} : Ch C (up C 70 0 x) D (up D 71 47 y) := ⟨(Sm.rf).up rfl, (Sm.rf).up rfl, by simp [up_k], by simp [up_k], fun i hi => by rw [up_i, if_neg (by omega)]⟩
theorem Rel_draw {n : Nat} {C D : Mem} {x y : Int} (hR : Rel n C D) : Rel n (up C 70 0 x) (up D 71 47 y) := Rel_D (Rel_C hR ((Sm.rf).up rfl)) (fun i => by rw [up_o (by decide)])
theorem d_marketL {n0 m : Nat} (hm : m ≤ 99) (hn : n0 + m ≤ 6336) : ∀ (k i : Nat) (p : Int) (C D : Mem) (N N' : Nat), i + k = m → k < N → k < N' → Rel (n0 + i) C D → TXs C D → 1 ≤ C 1 1 → C 70 0 = D 71 47 → (0 ≤ D 71 47 ∧ D 71 47 ≤ 90000) →
    ∃ (r : Int) (C' D' : Mem), lq3 (fn_X10_market_L47 0 m) N i p C = some (r, C') ∧ lq3 (fn_X11_market_L47 71 m) N' i p D = some (r, D') ∧ Rel (n0 + m) C' D' ∧ Ch C C' D D' := by
  intro k
  induction k with
  | zero =>
    intro i p C D N N' hi hN hN' hR hX h1 hs hx
    obtain ⟨N, rfl⟩ : ∃ M, N = M + 1 := ⟨N - 1, by omega⟩
    obtain ⟨N', rfl⟩ : ∃ M, N' = M + 1 := ⟨N' - 1, by omega⟩
    obtain rfl : i = m := by omega
    refine ⟨p, C, D, ?_, ?_, hR, Ch.rf⟩
    · show fn_X10_market_L47 0 i _ i p C = _
      unfold fn_X10_market_L47
      rw [cLt_if (by omega) (by omega) (by omega) (by omega), if_neg (by omega)]
    · show fn_X11_market_L47 71 i _ i p D = _
      unfold fn_X11_market_L47
      rw [cLt_if (by omega) (by omega) (by omega) (by omega), if_neg (by omega)]
  | succ k ih =>
    intro i p C D N N' hi hN hN' hR hX h1 hs hx
    obtain ⟨N, rfl⟩ : ∃ M, N = M + 1 := ⟨N - 1, by omega⟩
    obtain ⟨N', rfl⟩ : ∃ M, N' = M + 1 := ⟨N' - 1, by omega⟩
    -- behind the turn
    have key : ∀ (p' : Int) (C' D' : Mem), Rel (n0 + (i + 1)) C' D' → Ch C C' D D' → C' 70 0 = D' 71 47 → (0 ≤ D' 71 47 ∧ D' 71 47 ≤ 90000) → ∃ (r : Int) (C'' D'' : Mem), fn_X10_market_J144 0 i (lq3 (fn_X10_market_L47 0 m) N) p' C' = some (r, C'') ∧ fn_X11_market_J113 71 i (lq3 (fn_X11_market_L47 71 m) N') p' D' = some (r, D'') ∧ Rel (n0 + m) C'' D'' ∧ Ch C C'' D D'' := by
      intro p' C' D' hR' hCh hs' hx'
      have hN := hR'.1.2.1.1
      have d2 : D' 72 2 = C' 1 8 := hR'.2.1.2.2.1
      have eh : ∃ x : Int, x = min (C' 1 8 + 1) 999 := ⟨_, rfl⟩
      obtain ⟨x, ex⟩ := eh
      have e1 : fn_X10_market_J144 0 i (lq3 (fn_X10_market_L47 0 m) N) p' C' = lq3 (fn_X10_market_L47 0 m) N ((i + 1 : Nat) : Int) p' (up C' 1 8 x) := by
        unfold fn_X10_market_J144
        simp only [Nat.zero_add]
        rw [ck_R33 (by omega) (by omega) (by decide) (by decide), st_eq, nm_eq, ex, show (i : Int) + 1 = ((i + 1 : Nat) : Int) by omega]
      have e2 : fn_X11_market_J113 71 i (lq3 (fn_X11_market_L47 71 m) N') p' D' = lq3 (fn_X11_market_L47 71 m) N' ((i + 1 : Nat) : Int) p' (up D' 72 2 x) := by
        unfold fn_X11_market_J113 fn_X11_market_J137
        simp (disch := omega) only [rd_eq, wr_eq, Nat.reduceAdd, Int.reduceToNat, d2, nm_eq]
        rw [cLt_if (by omega) (by omega) (by decide) (by decide), show (i : Int) + 1 = ((i + 1 : Nat) : Int) by omega]
        by_cases g : C' 1 8 < 999
        · rw [if_pos g, show C' 1 8 + 1 = x by omega]
        · rw [if_neg g, show C' 1 8 + 0 = x by omega]
      rw [e1, e2]
      have hR2 := Rel_hour (x := x) hR' (by omega)
      have hCh2 : Ch C (up C' 1 8 x) D (up D' 72 2 x) := hCh.tr Ch_hour
      obtain ⟨r, C'', D'', f1, f2, f3, f4⟩ := ih (i + 1) p' _ _ N N' (by omega) (by omega) (by omega) hR2 (TXs_ch hR hCh2 hX) (by rw [hCh2.2.2.2.1.1]; exact h1) (by simp only [up_k]; simpa using hs') (by simp only [up_k]; simpa using hx')
      exact ⟨r, C'', D'', f1, f2, f3, hCh2.tr f4⟩
    have hh0 := hR.1.1.1
    have hc0 := hR.1.2.2.1.1
    obtain ⟨y, hy⟩ : ∃ y, D 71 47 = y := ⟨_, rfl⟩
    have hC0 : C 70 0 = y := by rw [hs, hy]
    rw [hy] at hx
    obtain ⟨hd, hhd⟩ : ∃ hd, C 1 1 = hd := ⟨_, rfl⟩
    have hD0 : D 72 0 = hd := by rw [hR.2.1.1, hhd]
    rw [hhd] at h1 hh0
    have m1 := Int.emod_nonneg y (show hd ≠ 0 by omega)
    have m2 := Int.emod_lt_of_pos y (show 0 < hd by omega)
    have y1 := Int.emod_nonneg (y * 227 + 59) (show (30137 : Int) ≠ 0 by decide)
    have y2 := Int.emod_lt_of_pos (y * 227 + 59) (show (0 : Int) < 30137 by decide)
    obtain ⟨z, hz⟩ : ∃ z, (y * 227 + 59) % 30137 = z := ⟨_, rfl⟩
    rw [hz] at y1 y2
    have m3 := Int.emod_nonneg z (show hd ≠ 0 by omega)
    have m4 := Int.emod_lt_of_pos z (show 0 < hd by omega)
    have y3 := Int.emod_nonneg (z * 227 + 59) (show (30137 : Int) ≠ 0 by decide)
    have y4 := Int.emod_lt_of_pos (z * 227 + 59) (show (0 : Int) < 30137 by decide)
    obtain ⟨u, hu⟩ : ∃ u, (z * 227 + 59) % 30137 = u := ⟨_, rfl⟩
    rw [hu] at y3 y4
    obtain ⟨C2, hC2⟩ : ∃ C2, up (up C 70 0 z) 70 0 u = C2 := ⟨_, rfl⟩
    obtain ⟨D2, hD2⟩ : ∃ D2, up (up D 71 47 z) 71 47 u = D2 := ⟨_, rfl⟩
    have hR2 : Rel (n0 + i) C2 D2 := by rw [← hC2, ← hD2]; exact Rel_draw (Rel_draw hR)
    have hCh2 : Ch C C2 D D2 := by rw [← hC2, ← hD2]; exact Ch_draw.tr Ch_draw
    have hX2 := TXs_ch hR hCh2 hX
    have s1 : C2 70 0 = D2 71 47 := by rw [← hC2, ← hD2]; simp [up_k]
    have s2 : 0 ≤ D2 71 47 ∧ D2 71 47 ≤ 90000 := by rw [← hD2]; simp [up_k]; omega
    have hd2 : C2 1 1 = hd := by rw [hCh2.2.2.2.1.1, hhd]
    obtain ⟨m7, hm7⟩ := Int.eq_ofNat_of_zero_le hR2.1.2.2.1.1.1
    obtain ⟨a, ha⟩ : ∃ a, y % hd = a := ⟨_, rfl⟩
    obtain ⟨b, hb⟩ : ∃ b, z % hd = b := ⟨_, rfl⟩
    rw [ha] at m1 m2
    rw [hb] at m3 m4
    have hc1 := hR2.1.2.2.1.1
    have hl := lig_r (C := C2) (h := a) m7
    have eC : lq3 (fn_X10_market_L47 0 m) (N + 1) i p C = cu (fn_X4_canBePaid 1 (lig C2 a m7) b C2) fun x104 => cEq x104 0 (fn_X10_market_J144 0 i (lq3 (fn_X10_market_L47 0 m) N) p C2) (cu (fn_X10_ruling 0 C2) fun x127 => cl (fn_X3_given 63 1 x127 b (lig C2 a m7) C2) fun x134 M134 => cl (fn_X4_moveCoin 1 (lig C2 a m7) b x134 M134) fun x137 M137 => nm (p + 1) fun v3_141 => fn_X10_market_J144 0 i (lq3 (fn_X10_market_L47 0 m) N) v3_141 M137) := by
      show fn_X10_market_L47 0 m _ i p C = _
      unfold fn_X10_market_L47
      rw [cLt_if (by omega) (by omega) (by omega) (by omega), if_pos (by omega)]
      simp only [Nat.zero_add]
      rw [hhd, p_draw hC0 hx.1 hx.2 (by omega), cl_s, hz]
      have q1 : up C 70 0 z 1 1 = hd := by simp [up_k, hhd]
      rw [q1, p_draw (x := z) (by simp [up_k]) (by omega) (by omega) (by omega), cl_s, hu, hC2, ha, hb, p_light (by omega) hR2.1 ⟨by omega, by omega⟩ hm7, cu_s]
    have eD : lq3 (fn_X11_market_L47 71 m) (N' + 1) i p D = fn_X11_market_J94 71 i p (lq3 (fn_X11_market_L47 71 m) N') b D2 (if a = b then -1 else lig C2 a m7) := by
      show fn_X11_market_L47 71 m _ i p D = _
      unfold fn_X11_market_L47
      rw [cLt_if (by omega) (by omega) (by omega) (by omega), if_pos (by omega), rd_eq (by decide) (by decide)]
      simp only [Nat.reduceAdd, Int.reduceToNat]
      rw [hD0, q_draw hy hx.1 hx.2 (by omega), cl_s, hz, rd_eq (by decide) (by decide)]
      have q1 : up D 71 47 z 72 (0 : Int).toNat = hd := by simp [up_k, hD0]
      rw [q1, q_draw (x := z) (by simp [up_k]) (by omega) (by omega) (by omega), cl_s, hu, hD2, ha, hb, cEq_if (by omega) (by omega) (by omega) (by omega)]
      by_cases g : a = b
      · rw [if_pos g, if_pos g]
      · rw [if_neg g, if_neg g, q_light (by omega) hR2 ⟨by omega, by omega⟩ hm7, cu_s]
    rw [eC, eD]
    unfold fn_X11_market_J94
    rw [p_canPay ⟨by omega, by omega⟩ ⟨by omega, by omega⟩ hR2.1, cu_s, cE_b2]
    by_cases g : lig C2 a m7 = -1 ∨ a = b
    · rw [if_neg (by
        rintro ⟨k1, k2, k3⟩
        rcases g with g | g
        · omega
        · exact k3 (by rw [hl.2 k1.1]; exact g))]
      have e : (if a = b then -1 else lig C2 a m7) = -1 := by
        rcases g with g | g
        · split
          · rfl
          · exact g
        · rw [if_pos g]
      rw [e, cEq_if (by decide) (by decide) (by decide) (by decide), if_pos rfl]
      exact key p C2 D2 (Rel_mono (by omega) hR2) hCh2 s1 s2
    · have g1 : ¬ lig C2 a m7 = -1 := fun e => g (Or.inl e)
      have g2 : ¬ a = b := fun e => g (Or.inr e)
      have g0 : 0 ≤ lig C2 a m7 := by omega
      rw [if_pos ⟨by omega, by omega, by rw [hl.2 g0]; exact g2⟩, if_neg g2, cEq_if (by omega) (by omega) (by decide) (by decide), if_neg g1]
      obtain ⟨c, hc⟩ := Int.eq_ofNat_of_zero_le g0
      obtain ⟨h, hh⟩ := Int.eq_ofNat_of_zero_le m3
      rw [hc, hh]
      obtain ⟨x, v, w, C1, C', D', f1, f2, f3, f4, f5, f6, f7, f8, f9, f10⟩ := d_pays (n := n0 + i) (c := c) (h := h) (by omega) hR2 hX2 (by omega) (by omega)
      rw [f1, cu_s, f2, cl_s, f3, cl_s, nm_eq, f4, cv_s, nm_eq]
      exact key (p + 1) C' D' f5 (hCh2.tr f6) (by rw [f9, f10]; exact s1) (by rw [f10]; exact s2)
theorem s_market {j : Nat} {M : Mem} {a1 a2 : Int} (h1 : R3 a1) (h2 : R3 a2) (hj : j < 64) (hc : Core j M) (hX : TXs M M) : ∃ (r : Int) (M1 M2 : Mem), fn_X10_market 0 a1 a2 M = some (r, M1) ∧ fn_X11_market 71 a1 a2 M1 = some (r, M2) ∧ Core (j + 1) M2 ∧ KX M M2 := by
  refine lift hc (fun D hD => ?_)
  have hR := Rel_D (Rel_of hc.1) (hD 72 (by decide))
  have hX' := TXs_D hX hR.1.2.1.2.2.2.1.2 hD
  have hh0 := hR.1.1.1
  have d0 : D 72 0 = M 1 1 := hR.2.1.1
  unfold fn_X10_market fn_X11_market
  simp only [Nat.zero_add, Nat.reduceAdd]
  rw [p_isWithin h1 ⟨by decide, by decide⟩ ⟨by decide, by decide⟩, cu_s, cE_b2, p_in h1 ⟨by decide, by decide⟩ ⟨by decide, by decide⟩, cu_s, cE_b2]
  by_cases g1 : 0 ≤ a1 ∧ a1 ≤ 9999
  · rw [if_pos g1, if_pos g1, p_isWithin h2 ⟨by decide, by decide⟩ ⟨by decide, by decide⟩, cu_s, cE_b2, p_in h2 ⟨by decide, by decide⟩ ⟨by decide, by decide⟩, cu_s, cE_b2]
    by_cases g2 : 1 ≤ a2 ∧ a2 ≤ 99
    · rw [if_pos g2, if_pos g2, cLt_if (by omega) (by omega) (by decide) (by decide), rd_eq (by decide) (by decide), show (0 : Int).toNat = 0 from rfl, d0, cEq_if (by omega) (by omega) (by decide) (by decide)]
      by_cases g3 : M 1 1 < 1
      · rw [if_pos g3, if_pos (by omega)]
        exact ⟨_, _, _, rfl, rfl, Rel_mono (by omega) hR, Ch.rf⟩
      · rw [if_neg g3, if_neg (by omega)]
        unfold fn_X0_start
        rw [st_eq, cv_s, st_eq]
        obtain ⟨m, hm⟩ : ∃ m : Nat, a2 = (m : Int) := ⟨a2.toNat, by omega⟩
        subst hm
        have hCh : Ch M (up M 70 0 (a1 * 7 + 2)) D (up D 71 47 (a1 * 7 + 2)) := Ch_draw
        obtain ⟨r, C', D', e1, e2, e3, e4⟩ := d_marketL (m := m) (n0 := 99 * j) (by omega) (by omega) m 0 0 (up M 70 0 (a1 * 7 + 2)) (up D 71 47 (a1 * 7 + 2)) FU FU (by omega) (lt_FU (by omega)) (lt_FU (by omega)) (Rel_draw hR) (TXs_ch hR hCh hX') (by rw [up_o (by decide)]; omega) (by simp [up_k]) (by simp [up_k]; omega)
        exact ⟨r, C', D', e1, e2, Rel_mono (by omega) e3, hCh.tr e4⟩
    · rw [if_neg g2, if_neg g2]
      exact ⟨_, _, _, rfl, rfl, Rel_mono (by omega) hR, Ch.rf⟩
  · rw [if_neg g1, if_neg g1]
    exact ⟨_, _, _, rfl, rfl, Rel_mono (by omega) hR, Ch.rf⟩
