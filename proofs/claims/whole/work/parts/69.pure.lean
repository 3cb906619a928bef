/-! played -/
theorem Rel_hour {n : Nat} {C D : Mem} {x : Int} (hR : Rel n C D) (hx : 0 ≤ x ∧ x ≤ 999) : Rel n (up C 1 8 x) (up D 72 2 x) := by
  obtain ⟨⟨kH, kN, kC, kT, kP⟩, rN, rH, rC, rT, rP⟩ := hR
  have lo : ∀ i, i ≠ 2 → up D 72 2 x 72 i = D 72 i := fun i hi => by rw [up_i, if_neg hi]
  have o : ∀ k i, k ≠ 1 → up C 1 8 x k i = C k i := fun k i hk => up_o hk
  have o1 : ∀ i, i ≠ 8 → up C 1 8 x 1 i = C 1 i := fun i hi => by rw [up_i, if_neg hi]
  have er : ∀ k, rp 8 (up C 1 8 x) k = rp 8 C k := fun k => rp_f (o _ _ (by decide)) (o _ _ (by decide)) k
  refine ⟨⟨?_, ?_, ?_, ?_, ?_⟩, ?_, ?_, ?_, ?_, ?_⟩
  · exact OkH_f (by simp [up_k]) (fun i => by simp [up_k]) kH
  · simp [OkN, up_k] at kN ⊢; omega
  · exact OkC_f (by simp [up_k]) (by simp [up_k]) (fun i => by simp [up_k]) (fun i => by simp [up_k]) (fun i => by simp [up_k]) (fun i => by simp [up_k]) (fun i => by simp [up_k]) kC
  · exact OkT_f (by simp [up_k]) (by simp [up_k]) (fun i => by simp [up_k]) (fun i => by simp [up_k]) (fun i => by simp [up_k]) (fun i => by simp [up_k]) (fun i => by simp [up_k]) (fun i => by simp [up_k]) kT
  · exact OkP_f (by simp [up_k]) (by simp [up_k]) (fun i => by simp [up_k]) (fun i => by simp [up_k]) kP
  · simp only [lo 0 (by decide), lo 1 (by decide), lo 3 (by decide), lo 4 (by decide), lo 5 (by decide), lo 6 (by decide), lo 7 (by decide), lo 8 (by decide), o1 1 (by decide), o1 7 (by decide), o1 9 (by decide), o1 10 (by decide), o1 11 (by decide), o1 12 (by decide), o1 16 (by decide), o 8 5 (by decide)]
    exact ⟨rN.1, rN.2.1, by simp [up_k], rN.2.2.2⟩
  · intro i hi; rw [o1 _ (by decide)] at hi; rw [lo _ (by omega), o _ _ (by decide)]; exact rH i hi
  · intro i hi; rw [o1 _ (by decide)] at hi
    simp only [lo (20 + 5 * i) (by omega), lo (21 + 5 * i) (by omega), lo (22 + 5 * i) (by omega), lo (23 + 5 * i) (by omega), lo (24 + 5 * i) (by omega), ne_eq, Nat.reduceEqDiff, not_false_eq_true, o]
    exact rC i hi
  · intro k hk; rw [o _ _ (by decide)] at hk
    simp only [lo (120 + 4 * k) (by omega), lo (121 + 4 * k) (by omega), lo (122 + 4 * k) (by omega), lo (123 + 4 * k) (by omega), ne_eq, Nat.reduceEqDiff, not_false_eq_true, o, er]
    exact rT k hk
  · intro k hk; rw [o1 _ (by decide)] at hk
    simp only [lo (280 + 2 * k) (by omega), lo (281 + 2 * k) (by omega), ne_eq, Nat.reduceEqDiff, not_false_eq_true, o]
    exact rP k hk
theorem Ch_hour {C D : Mem} {x : Int} : Ch C (up C 1 8 x) D (up D 72 2 x) := ⟨(Sm.rf).up rfl, (Sm.rf).up rfl, by simp [up_k], by simp [up_k], fun i _ => by simp [up_k]⟩
theorem d_playedL {q m n0 : Nat} (hq : q < 4) (hm : m ≤ 20) (hn : n0 + m ≤ 6336) : ∀ (k i : Nat) (C D : Mem) (N N' : Nat), i + k = m → k < N → k < N' → Rel (n0 + i) C D → TXs C D → (q : Int) < C 1 11 → C (43 + 5 * q) 9 = (m : Int) →
    ∃ (r : Int) (C' D' : Mem), lq2 (fn_X10_played_L30 0 (43 + 5 * q)) N i C = some (r, C') ∧ lq2 (fn_X11_played_L21 71 q) N' i D = some (r, D') ∧ Rel (n0 + m) C' D' ∧ Ch C C' D D' := by
  intro k
  induction k with
  | zero =>
    intro i C D N N' hi hN hN' hR hX hqt hcl
    obtain ⟨N, rfl⟩ : ∃ M, N = M + 1 := ⟨N - 1, by omega⟩
    obtain ⟨N', rfl⟩ : ∃ M, N' = M + 1 := ⟨N' - 1, by omega⟩
    obtain rfl : i = m := by omega
    have ht := (hX q hqt).1.2
    refine ⟨-1, C, D, ?_, ?_, hR, Ch.rf⟩
    · show fn_X10_played_L30 0 (43 + 5 * q) _ i C = _
      unfold fn_X10_played_L30
      rw [hcl, cLt_if (by omega) (by omega) (by omega) (by omega), if_neg (by omega)]
    · show fn_X11_played_L21 71 q _ i D = _
      unfold fn_X11_played_L21
      rw [rd_eq (by omega) (by omega), Int.toNat_natCast]
      simp only [Nat.reduceAdd]
      rw [ht, hcl, cLt_if (by omega) (by omega) (by omega) (by omega), if_neg (by omega)]
  | succ k ih =>
    intro i C D N N' hi hN hN' hR hX hqt hcl
    obtain ⟨N, rfl⟩ : ∃ M, N = M + 1 := ⟨N - 1, by omega⟩
    obtain ⟨N', rfl⟩ : ∃ M, N' = M + 1 := ⟨N' - 1, by omega⟩
    obtain ⟨⟨t1, t2⟩, t3, -⟩ := hX q hqt
    obtain ⟨c1, c2, c3, c4⟩ := t3 i (by omega)
    have h43 : 43 + 5 * q ∈ SCk := by
      have h4 : q = 0 ∨ q = 1 ∨ q = 2 ∨ q = 3 := by omega
      rcases h4 with rfl | rfl | rfl | rfl <;> decide
    have key : ∀ (ok : Int) (C' D' : Mem), (ok = 0 ∨ ok = 1) → Rel (n0 + (i + 1)) C' D' → Ch C C' D D' → ∃ (r : Int) (C'' D'' : Mem), cEq ok 0 (some ((i : Int), C')) (nm ((i : Int) + 1) fun v => lq2 (fn_X10_played_L30 0 (43 + 5 * q)) N v C') = some (r, C'') ∧ fn_X11_played_J162 i (lq2 (fn_X11_played_L21 71 q) N') ok D' = some (r, D'') ∧ Rel (n0 + m) C'' D'' ∧ Ch C C'' D D'' := by
      intro ok C' D' hok hR' hCh
      unfold fn_X11_played_J162
      rcases hok with rfl | rfl
      · rw [cEq_if (by decide) (by decide) (by decide) (by decide), if_pos rfl, cEq_if (by decide) (by decide) (by decide) (by decide), if_pos rfl]
        exact ⟨_, _, _, rfl, rfl, Rel_mono (by omega) hR', hCh⟩
      · rw [cEq_if (by decide) (by decide) (by decide) (by decide), if_neg (by decide), cEq_if (by decide) (by decide) (by decide) (by decide), if_neg (by decide), nm_eq, nm_eq, show (i : Int) + 1 = ((i + 1 : Nat) : Int) by omega]
        obtain ⟨r, C'', D'', e1, e2, e3, e4⟩ := ih (i + 1) C' D' N N' (by omega) (by omega) (by omega) hR' (TXs_ch hR hCh hX) (by rw [hCh.2.2.1]; exact hqt) (by rw [hCh.1 (43 + 5 * q) h43 9]; exact hcl)
        exact ⟨r, C'', D'', e1, e2, e3, hCh.tr e4⟩
    have eC : lq2 (fn_X10_played_L30 0 (43 + 5 * q)) (N + 1) i C = cl (fn_X10_isDone 0 (C (43 + 5 * q + 2) i) (C (43 + 5 * q + 3) i) (C (43 + 5 * q + 4) i) C) fun x63 M63 => cEq x63 0 (some ((i : Int), M63)) (nm ((i : Int) + 1) fun v => lq2 (fn_X10_played_L30 0 (43 + 5 * q)) N v M63) := by
      show fn_X10_played_L30 0 (43 + 5 * q) _ i C = _
      unfold fn_X10_played_L30
      rw [hcl, cLt_if (by omega) (by omega) (by omega) (by omega), if_pos (by omega), cLt_if (by omega) (by omega) (by omega) (by omega), if_pos (by omega)]
      simp (disch := omega) only [rd_eq, Int.toNat_natCast]
    have z : (20 * (q : Int) + (i : Int)).toNat = 20 * q + i := by omega
    rw [eC]
    show ∃ (r : Int) (C' D' : Mem), _ ∧ fn_X11_played_L21 71 q (lq2 (fn_X11_played_L21 71 q) N') i D = _ ∧ _
    generalize lq2 (fn_X11_played_L21 71 q) N' = rec1 at key ⊢
    generalize lq2 (fn_X10_played_L30 0 (43 + 5 * q)) N = rec0 at key ⊢
    unfold fn_X11_played_L21 fn_X10_isDone fn_X11_played_J136 fn_X11_played_J137 fn_X11_played_J157
    have hh0 := hR.1.1.1
    have hc0 := hR.1.2.2.1.1
    have e0 : D 76 (20 * q + i) = C (43 + 5 * q + 2) i - 4 := c2
    have e75 : D 75 q = (m : Int) := by rw [t2, hcl]
    simp (disch := omega) only [rd_eq (k := 71 + 4), rd_eq (k := 71 + 5), rd_eq (k := 71 + 7), rd_eq (k := 71 + 8), Nat.reduceAdd, Int.toNat_natCast, z, nm_eq (x := 20 * (q : Int) + (i : Int)), e0, e75, cLt_if (x := (i : Int)), if_pos (show (i : Int) < (m : Int) by omega), ck_R3]
    by_cases g6 : C (43 + 5 * q + 2) i = 6
    · obtain ⟨⟨a0, a1⟩, a2⟩ := c3 (by omega)
      obtain ⟨⟨b0, b1⟩, b2⟩ := c4 g6
      rw [if_pos g6, if_pos (by omega), a2, b2]
      unfold fn_X10_pay
      simp only [Nat.zero_add]
      have ra : R3 (C (43 + 5 * q + 3) i) := ⟨by omega, by omega⟩
      have rb : R3 (C (43 + 5 * q + 4) i) := ⟨by omega, by omega⟩
      rw [p_canPay ra rb hR.1, cu_s, cE_b2, q_canPay ra rb hR, cu_s, cE_b2]
      by_cases g : (0 ≤ C (43 + 5 * q + 3) i ∧ C (43 + 5 * q + 3) i < C 1 7) ∧ (0 ≤ C (43 + 5 * q + 4) i ∧ C (43 + 5 * q + 4) i < C 1 1) ∧ C 5 (C (43 + 5 * q + 3) i).toNat ≠ C (43 + 5 * q + 4) i
      · rw [if_pos g, if_pos g, b2_t g]
        obtain ⟨c, hc⟩ := Int.eq_ofNat_of_zero_le a0
        obtain ⟨h, hh⟩ := Int.eq_ofNat_of_zero_le b0
        rw [hc, hh] at g ⊢
        obtain ⟨x, v, w, C1, C', D', f1, f2, f3, f4, f5, f6, f7, f8, f9⟩ := d_pays (n := n0 + i) (by omega) hR hX g.2.1.2 g.1.2
        have hW : Wt (n0 + i + 1) ≤ 700000 := by unfold Wt; omega
        rw [f1, cu_s, f2, cl_s, f3, cl_s, cl_s, f4, cv_s, cEq_if (by omega) (by omega) (by decide) (by decide), if_neg (by omega), cl_s]
        exact key 1 C' D' (Or.inr rfl) f5 f6
      · rw [if_neg g, if_neg g, b2_f g, cl_s, cEq_if (by decide) (by decide) (by decide) (by decide), if_pos rfl, cl_s]
        exact key 0 C D (Or.inl rfl) (Rel_mono (by omega) hR) Ch.rf
    · rw [if_neg g6, if_neg (show ¬ (C (43 + 5 * q + 2) i - 4 = 2) by omega)]
      by_cases g7 : C (43 + 5 * q + 2) i = 7
      · obtain ⟨⟨a0, a1⟩, a2⟩ := c3 (by omega)
        have ra : R3 (C (43 + 5 * q + 3) i) := ⟨by omega, by omega⟩
        rw [if_pos g7, if_pos (show C (43 + 5 * q + 2) i - 4 = 3 by omega), a2]
        obtain ⟨r, C', D', w1, w2, w3, w4, w5, w6, w7⟩ := d_wash ra hR
        have hW : Wt (n0 + i) ≤ 700000 := by unfold Wt; omega
        rw [w1, cl_s, cEq_if (by omega) (by omega) (by decide) (by decide)]
        unfold fn_X11_wash at w2
        rw [q_isCoin ra (by rw [hR.2.1.2.1]; exact hc0.1) (by rw [hR.2.1.2.1]; exact hc0.2), cu_s, cE_b2, hR.2.1.2.1] at w2 ⊢
        by_cases g : 0 ≤ C (43 + 5 * q + 3) i ∧ C (43 + 5 * q + 3) i < C 1 7
        · have hr1 : ¬ r = -1 := fun e => (w5.mp e) g
          rw [if_pos g] at w2 ⊢
          cases hw : fn_X11_washes 71 (C (43 + 5 * q + 3) i) D with
          | none => rw [hw] at w2; cases w2
          | some y =>
            obtain ⟨y1, y2⟩ := y
            rw [hw, cl_s] at w2
            cases w2
            rw [cl_s, if_neg hr1, cl_s, cLt_if (by omega) (by omega) (by decide) (by decide), if_neg (by omega)]
            exact key 1 C' D' (Or.inr rfl) (Rel_mono (by omega) w3) w4
        · have hr1 : r = -1 := w5.mpr g
          rw [if_neg g] at w2 ⊢
          cases w2
          rw [if_pos rfl, cl_s]
          exact key 0 C' D (Or.inl rfl) (Rel_mono (by omega) w3) w4
      · rw [if_neg g7, if_neg (show ¬ (C (43 + 5 * q + 2) i - 4 = 3) by omega)]
        by_cases g8 : C (43 + 5 * q + 2) i = 8
        · obtain ⟨⟨a0, a1⟩, a2⟩ := c3 (by omega)
          have ra : R3 (C (43 + 5 * q + 3) i) := ⟨by omega, by omega⟩
          have hN := hR.1.2.1.1
          have d2 : D 72 2 = C 1 8 := hR.2.1.2.2.1
          rw [if_pos g8, if_pos (show C (43 + 5 * q + 2) i - 4 = 4 by omega), a2]
          try simp only [Nat.zero_add]
          rw [p_letPass ra hN.1 hN.2, q_later ra (by omega) (by omega), d2]
          by_cases g : (0 ≤ C (43 + 5 * q + 3) i ∧ C (43 + 5 * q + 3) i ≤ 99) ∧ C 1 8 + C (43 + 5 * q + 3) i ≤ 999
          · rw [if_pos g, if_pos g, cl_s, cl_s, ck_t (Or.inr rfl), cl_s, cEq_if (x := C 1 8 + C (43 + 5 * q + 3) i) (y := -1) (by omega) (by omega) (by decide) (by decide), if_neg (show ¬ (C 1 8 + C (43 + 5 * q + 3) i = -1) by omega)]
            exact key 1 _ _ (Or.inr rfl) (Rel_mono (by omega) (Rel_hour hR (by omega))) Ch_hour
          · rw [if_neg g, if_neg g, cl_s, cl_s, ck_t (Or.inl rfl), cl_s, cEq_if (x := -1) (y := -1) (by decide) (by decide) (by decide) (by decide), if_pos rfl]
            exact key 0 C D (Or.inl rfl) (Rel_mono (by omega) hR) Ch.rf
        · rw [if_neg g8, if_neg (show ¬ (C (43 + 5 * q + 2) i - 4 = 4) by omega), cl_s]
          exact key 1 C D (Or.inr rfl) (Rel_mono (by omega) hR) Ch.rf
theorem s_played {j : Nat} {M : Mem} {a1 : Int} (h1 : R3 a1) (hj : j < 64) (hc : Core j M) (hX : TXs M M) : ∃ (r : Int) (M1 M2 : Mem), fn_X10_played 0 a1 M = some (r, M1) ∧ fn_X11_played 71 a1 M1 = some (r, M2) ∧ Core (j + 1) M2 ∧ KX M M2 := by
  refine lift hc (fun D hD => ?_)
  have hR := Rel_D (Rel_of hc.1) (hD 72 (by decide))
  have ht := hR.1.2.1.2.2.2.1
  have hX' := TXs_D hX ht.2 hD
  have d5 : D 72 5 = M 1 11 := hR.2.1.2.2.2.2.2.1
  unfold fn_X10_played fn_X11_played
  simp only [Nat.zero_add, Nat.reduceAdd]
  rw [p_isText h1 ht.1 ht.2, cu_s, cE_b2, rd_eq (by decide) (by decide), show (5 : Int).toNat = 5 from rfl, d5, p_in h1 ⟨by decide, by decide⟩ ⟨by omega, by omega⟩, cu_s, cE_b2]
  by_cases g : 0 ≤ a1 ∧ a1 < M 1 11
  · rw [if_pos g, if_pos (by omega), rt_eq g.1 (by omega)]
    obtain ⟨q, hq⟩ := Int.eq_ofNat_of_zero_le g.1
    have hq' : a1 = (q : Int) := hq
    subst hq'
    rw [show 42 + (1 + 5 * ((q : Int)).toNat) = 43 + 5 * q by omega]
    obtain ⟨⟨t1, t2⟩, -⟩ := hX' q g.2
    obtain ⟨m, hm⟩ := Int.eq_ofNat_of_zero_le t1.1
    obtain ⟨r, C', D', e1, e2, e3, e4⟩ := d_playedL (q := q) (m := m) (n0 := 99 * j) (by omega) (by omega) (by omega) m 0 M D FU FU (by omega) (lt_FU (by omega)) (lt_FU (by omega)) hR hX' g.2 hm
    exact ⟨r, C', D', e1, e2, Rel_mono (by omega) e3, e4⟩
  · rw [if_neg g, if_neg (by omega)]
    exact ⟨_, _, _, rfl, rfl, Rel_mono (by omega) hR, Ch.rf⟩
