/-! tray -/
theorem s_tray {j : Nat} {M : Mem} {a1 a2 : Int} (h1 : R3 a1) (h2 : R3 a2) (hc : Core j M) : ∃ (r : Int) (M1 M2 : Mem), fn_X10_tray 0 a1 a2 M = some (r, M1) ∧ fn_X11_tray 71 a1 a2 M1 = some (r, M2) ∧ Core (j + 1) M2 ∧ KX M M2 := by
  obtain ⟨⟨⟨kH, kN, kC, kT, kP⟩, rN, rH, rC, rT, rP⟩, hk, ht, hf⟩ := Core_mono hc
  have e1 : M 72 1 = M 1 7 := rN.2.1
  obtain ⟨⟨b0, b1⟩, bc⟩ := kC
  unfold fn_X10_tray
  simp only [Nat.reduceAdd, Nat.zero_add, p_isCoin h1 b0 b1, p_isWithin h2 (a := -1) (b := 5) ⟨by decide, by decide⟩ ⟨by decide, by decide⟩, cu_s, cE_b2]
  have hm : ∀ M' : Mem, M' 72 1 = M 1 7 → fn_X11_tray 71 a1 a2 M' = if 0 ≤ a1 ∧ a1 < M 1 7 then (if -1 ≤ a2 ∧ a2 ≤ 5 then some (1, up M' 72 (24 + 5 * a1).toNat a2) else some (0, M')) else some (0, M') := by
    intro M' e
    unfold fn_X11_tray
    simp only [Nat.reduceAdd, q_isCoin h1 (M := M') (by omega) (by omega), p_in h2 (a := -1) (b := 5) ⟨by decide, by decide⟩ ⟨by decide, by decide⟩, cu_s, cE_b2, e]
    by_cases g : 0 ≤ a1 ∧ a1 < M 1 7
    · simp only [if_pos g]
      by_cases g2 : -1 ≤ a2 ∧ a2 ≤ 5
      · simp only [if_pos g2, wr_eq (N := 288) (i := 20 + 5 * a1 + 4) (by omega) (by omega)]
        rw [show (20 + 5 * a1 + 4).toNat = (24 + 5 * a1).toNat by omega]
      · simp only [if_neg g2]
    · simp only [if_neg g]
  by_cases g : 0 ≤ a1 ∧ a1 < M 1 7
  · simp only [if_pos g]
    by_cases g2 : -1 ≤ a2 ∧ a2 ≤ 5
    · obtain ⟨n, hn⟩ := Int.eq_ofNat_of_zero_le g.1
      have hnn : a1 = (n : Int) := hn
      simp only [if_pos g2, wr_eq (N := 20) (i := a1) g.1 (by omega)]
      rw [show a1.toNat = n by omega]
      refine ⟨_, _, up (up M 7 n a2) 72 (24 + 5 * n) a2, rfl, ?_, Core_now hc ?_ (((Sm.rf).up rfl).up rfl), (((Sm.rf).up rfl).up rfl), by simp [up_k]⟩
      · rw [hm _ (by simp [up_k, e1]), if_pos g, if_pos g2, show (24 + 5 * a1).toNat = 24 + 5 * n by omega]
      · refine ⟨⟨?_, ?_, ?_, ?_, ?_⟩, ?_, ?_, ?_, ?_, ?_⟩
        · exact OkH_f (by simp [up_k]) (fun i => by simp [up_k]) kH
        · simp [OkN, up_k] at kN ⊢; omega
        · refine ⟨⟨by simp [up_k]; omega, by simp [up_k]; omega⟩, fun i hi => ?_⟩
          have hi2 : (i : Int) < M 1 7 := by simpa [up_k] using hi
          have := bc i hi2
          by_cases q : i = n
          · subst q; simp [up_k] at this ⊢; omega
          · simpa [up_k, q] using this
        · exact OkT_f (by simp [up_k]) (by simp [up_k]) (fun i => by simp [up_k]) (fun i => by simp [up_k]) (fun i => by simp [up_k]) (fun i => by simp [up_k]) (fun i => by simp [up_k]) (fun i => by simp [up_k]) kT
        · exact OkP_f (by simp [up_k]) (by simp [up_k]) (fun i => by simp [up_k]) (fun i => by simp [up_k]) kP
        · have q : ∀ i, i ≤ 8 → up (up M 7 n a2) 72 (24 + 5 * n) a2 72 i = M 72 i := fun i hi => by rw [up_i, if_neg (by omega)]; simp [up_k]
          simp only [RlN, Nat.reduceAdd, q 0 (by decide), q 1 (by decide), q 2 (by decide), q 3 (by decide), q 4 (by decide), q 5 (by decide), q 6 (by decide), q 7 (by decide), q 8 (by decide)]
          simp [RlN, up_k] at rN ⊢; omega
        · exact RlH_f (by simp [up_k]) kH.1.2 (fun i => by simp [up_k]) (fun i _ _ => by rw [up_i, if_neg (by omega)]; simp [up_k]) rH
        · intro i hi
          have hi2 : (i : Int) < M 1 7 := by simpa [up_k] using hi
          have h9 := rC i hi2
          simp only [Nat.reduceAdd] at h9
          by_cases q : i = n
          · subst q
            simp [up_k]
            refine ⟨?_, ?_, ?_, ?_⟩
            · first | exact h9.1 | (rw [if_neg (by omega)]; exact h9.1)
            · first | exact h9.2.1 | (rw [if_neg (by omega)]; exact h9.2.1)
            · first | exact h9.2.2.1 | (rw [if_neg (by omega)]; exact h9.2.2.1)
            · first | exact h9.2.2.2.1 | (rw [if_neg (by omega)]; exact h9.2.2.2.1)
          · simp [up_k, q]
            refine ⟨?_, ?_, ?_, ?_, ?_⟩
            · first | exact h9.1 | (rw [if_neg (by omega)]; exact h9.1)
            · first | exact h9.2.1 | (rw [if_neg (by omega)]; exact h9.2.1)
            · first | exact h9.2.2.1 | (rw [if_neg (by omega)]; exact h9.2.2.1)
            · first | exact h9.2.2.2.1 | (rw [if_neg (by omega)]; exact h9.2.2.2.1)
            · first | exact h9.2.2.2.2 | (rw [if_neg (by omega)]; exact h9.2.2.2.2)
        · exact RlT_f (fun i => by simp [up_k]) kT.2.1.2 (fun i => by simp [up_k]) (fun i => by simp [up_k]) (fun i => by simp [up_k]) (fun i => by simp [up_k]) (fun i _ _ => by rw [up_i, if_neg (by omega)]; simp [up_k]) rT
        · exact RlP_f (by simp [up_k]) kP.1.2 (fun i => by simp [up_k]) (fun i => by simp [up_k]) (fun i _ _ => by rw [up_i, if_neg (by omega)]; simp [up_k]) rP
    · simp only [if_neg g2]
      refine ⟨_, _, _, rfl, ?_, quiet hc⟩
      rw [hm M e1, if_pos g, if_neg g2]
  · simp only [if_neg g]
    refine ⟨_, _, _, rfl, ?_, quiet hc⟩
    rw [hm M e1, if_neg g]
/-! purse -/
theorem s_purse {j : Nat} {M : Mem} {a1 a2 : Int} (h1 : R3 a1) (h2 : R3 a2) (hc : Core j M) : ∃ (r : Int) (M1 M2 : Mem), fn_X10_purse 0 a1 a2 M = some (r, M1) ∧ fn_X11_purse 71 a1 a2 M1 = some (r, M2) ∧ Core (j + 1) M2 ∧ KX M M2 := by
  obtain ⟨⟨⟨kH, kN, kC, kT, kP⟩, rN, rH, rC, rT, rP⟩, hk, ht, hf⟩ := Core_mono hc
  have e0 : M 72 0 = M 1 1 := rN.1
  have e8 : M 72 8 = M 1 16 := rN.2.2.2.2.2.2.2.2
  obtain ⟨⟨b0, b1⟩, bp⟩ := kP
  unfold fn_X10_purse fn_X4_addGain
  simp only [Nat.reduceAdd, Nat.zero_add, p_isHand h1 kH.1.1 kH.1.2, p_isWithin h2 (a := 0) (b := 999) ⟨by decide, by decide⟩ ⟨by decide, by decide⟩, cu_s, cE_b2, st_eq, cEq_if (x := a1) (y := -1) h1.1 h1.2 (by decide) (by decide), cLt_if (x := M 1 16) (y := 4) (by omega) (by omega) (by decide) (by decide), cLt_if (x := M 1 16) (y := 0) (by omega) (by omega) (by decide) (by decide), if_neg (show ¬ M 1 16 < 0 by omega)]
  have hm : ∀ M' : Mem, M' 72 0 = M 1 1 → M' 72 8 = M 1 16 → fn_X11_purse 71 a1 a2 M' = if a1 = -1 then some (0, up M' 72 8 0) else if 0 ≤ a1 ∧ a1 < M 1 1 then (if 0 ≤ a2 ∧ a2 ≤ 999 then (if M 1 16 = 4 then some (-1, M') else some (M 1 16 + 1, up (up (up M' 72 (280 + 2 * M 1 16).toNat a1) 72 (281 + 2 * M 1 16).toNat a2) 72 8 (M 1 16 + 1))) else some (-1, M')) else some (-1, M') := by
    intro M' e e'
    unfold fn_X11_purse
    simp only [Nat.reduceAdd, q_isHand h1 (M := M') (by rw [e]; exact kH.1.1) (by rw [e]; exact kH.1.2), p_in h2 (a := 0) (b := 999) ⟨by decide, by decide⟩ ⟨by decide, by decide⟩, cu_s, cE_b2, cEq_if (x := a1) (y := -1) h1.1 h1.2 (by decide) (by decide), rd_eq (N := 288) (i := 8) (by decide) (by decide), wr_eq (N := 288) (i := 8) (by decide) (by decide), Int.reduceToNat, e, e']
    by_cases g0 : a1 = -1
    · simp only [if_pos g0]
    · simp only [if_neg g0]
      by_cases g : 0 ≤ a1 ∧ a1 < M 1 1
      · simp only [if_pos g]
        by_cases g1 : 0 ≤ a2 ∧ a2 ≤ 999
        · simp only [if_pos g1, cEq_if (x := M 1 16) (y := 4) (by omega) (by omega) (by decide) (by decide)]
          by_cases g2 : M 1 16 = 4
          · simp only [if_pos g2]
          · have e3 : up M' 72 (280 + 2 * M 1 16).toNat a1 72 8 = M 1 16 := by rw [up_i, if_neg (by omega), e']
            have e4 : up (up M' 72 (280 + 2 * M 1 16).toNat a1) 72 (280 + 2 * M 1 16 + 1).toNat a2 72 8 = M 1 16 := by rw [up_i, if_neg (by omega), e3]
            simp only [if_neg g2, wr_eq (N := 288) (i := 280 + 2 * M 1 16) (by omega) (by omega), e3, wr_eq (N := 288) (i := 280 + 2 * M 1 16 + 1) (by omega) (by omega), e4, up_eq]
            rw [show (280 + 2 * M 1 16 + 1).toNat = (281 + 2 * M 1 16).toNat by omega]
        · simp only [if_neg g1]
      · simp only [if_neg g]
  by_cases g0 : a1 = -1
  · simp only [if_pos g0]
    refine ⟨_, _, up (up M 1 16 0) 72 8 0, rfl, ?_, Core_now hc ?_ (((Sm.rf).up rfl).up rfl), (((Sm.rf).up rfl).up rfl), by simp [up_k]⟩
    · rw [show fn_X11_purse 71 a1 a2 (up M 1 16 0) = some (0, up (up M 1 16 0) 72 8 0) from by
        unfold fn_X11_purse
        rw [cEq_if h1.1 h1.2 (by decide) (by decide), if_pos g0]; rfl]
    · refine ⟨⟨?_, ?_, ?_, ?_, ?_⟩, ?_, ?_, ?_, ?_, ?_⟩
      · exact OkH_f (by simp [up_k]) (fun i => by simp [up_k]) kH
      · simp [OkN, up_k] at kN ⊢; omega
      · exact OkC_f (by simp [up_k]) (by simp [up_k]) (fun i => by simp [up_k]) (fun i => by simp [up_k]) (fun i => by simp [up_k]) (fun i => by simp [up_k]) (fun i => by simp [up_k]) kC
      · exact OkT_f (by simp [up_k]) (by simp [up_k]) (fun i => by simp [up_k]) (fun i => by simp [up_k]) (fun i => by simp [up_k]) (fun i => by simp [up_k]) (fun i => by simp [up_k]) (fun i => by simp [up_k]) kT
      · refine ⟨by simp [up_k], fun k hkk => ?_⟩
        exfalso; simp [up_k] at hkk; omega
      · simp [RlN, up_k] at rN ⊢; omega
      · exact RlH_f (by simp [up_k]) kH.1.2 (fun i => by simp [up_k]) (fun i _ _ => by simp [up_k]; omega) rH
      · exact RlC_f (by simp [up_k]) kC.1.2 (fun i => by simp [up_k]) (fun i => by simp [up_k]) (fun i => by simp [up_k]) (fun i => by simp [up_k]) (fun i => by simp [up_k]) (fun i _ _ => by simp [up_k]; omega) rC
      · exact RlT_f (fun i => by simp [up_k]) kT.2.1.2 (fun i => by simp [up_k]) (fun i => by simp [up_k]) (fun i => by simp [up_k]) (fun i => by simp [up_k]) (fun i _ _ => by simp [up_k]; omega) rT
      · intro k hkk
        exfalso; simp [up_k] at hkk; omega
  · simp only [if_neg g0]
    by_cases g : 0 ≤ a1 ∧ a1 < M 1 1
    · simp only [if_pos g]
      by_cases g1 : 0 ≤ a2 ∧ a2 ≤ 999
      · simp only [if_pos g1]
        by_cases g2 : M 1 16 < 4
        · obtain ⟨n, hn⟩ := Int.eq_ofNat_of_zero_le b0
          have hnn : M 1 16 = (n : Int) := hn
          have t0 : (M 1 16).toNat = n := by omega
          have e3 : up M 13 n a1 1 16 = M 1 16 := by simp [up_k]
          have e4 : up (up M 13 n a1) 14 n a2 1 16 = M 1 16 := by simp [up_k]
          simp only [if_pos g2, wr_eq (N := 4) (i := M 1 16) b0 (by omega), t0, e3, e4, up_eq, cl_s]
          refine ⟨M 1 16 + 1, up (up (up M 13 n a1) 14 n a2) 1 16 (M 1 16 + 1), up (up (up (up (up (up M 13 n a1) 14 n a2) 1 16 (M 1 16 + 1)) 72 (280 + 2 * n) a1) 72 (281 + 2 * n) a2) 72 8 (M 1 16 + 1), rfl, ?_, Core_now hc ?_ (((((((Sm.rf).up rfl).up rfl).up rfl).up rfl).up rfl).up rfl), (((((((Sm.rf).up rfl).up rfl).up rfl).up rfl).up rfl).up rfl), by simp [up_k]⟩
          · rw [hm _ (by simp [up_k, e0]) (by simp [up_k, e8]), if_neg g0, if_pos g, if_pos g1, if_neg (by omega), show (280 + 2 * M 1 16).toNat = 280 + 2 * n by omega, show (281 + 2 * M 1 16).toNat = 281 + 2 * n by omega]
          · refine ⟨⟨?_, ?_, ?_, ?_, ?_⟩, ?_, ?_, ?_, ?_, ?_⟩
            · exact OkH_f (by simp [up_k]) (fun i => by simp [up_k]) kH
            · simp [OkN, up_k] at kN ⊢; omega
            · exact OkC_f (by simp [up_k]) (by simp [up_k]) (fun i => by simp [up_k]) (fun i => by simp [up_k]) (fun i => by simp [up_k]) (fun i => by simp [up_k]) (fun i => by simp [up_k]) kC
            · exact OkT_f (by simp [up_k]) (by simp [up_k]) (fun i => by simp [up_k]) (fun i => by simp [up_k]) (fun i => by simp [up_k]) (fun i => by simp [up_k]) (fun i => by simp [up_k]) (fun i => by simp [up_k]) kT
            · refine ⟨⟨by simp [up_k]; omega, by simp [up_k]; omega⟩, fun i hi => ?_⟩
              have hi2 : (i : Int) < M 1 16 + 1 := by simpa [up_k] using hi
              by_cases q : i = n
              · subst q; simp [up_k]; omega
              · have := bp i (by omega)
                simpa [up_k, q] using this
            · simp [RlN, up_k] at rN ⊢; omega
            · exact RlH_f (by simp [up_k]) kH.1.2 (fun i => by simp [up_k]) (fun i _ _ => by rw [up_i, if_neg (by omega), up_i, if_neg (by omega), up_i, if_neg (by omega)]; simp [up_k]) rH
            · exact RlC_f (by simp [up_k]) kC.1.2 (fun i => by simp [up_k]) (fun i => by simp [up_k]) (fun i => by simp [up_k]) (fun i => by simp [up_k]) (fun i => by simp [up_k]) (fun i _ _ => by rw [up_i, if_neg (by omega), up_i, if_neg (by omega), up_i, if_neg (by omega)]; simp [up_k]) rC
            · exact RlT_f (fun i => by simp [up_k]) kT.2.1.2 (fun i => by simp [up_k]) (fun i => by simp [up_k]) (fun i => by simp [up_k]) (fun i => by simp [up_k]) (fun i _ _ => by rw [up_i, if_neg (by omega), up_i, if_neg (by omega), up_i, if_neg (by omega)]; simp [up_k]) rT
            · intro i hi
              have hi2 : (i : Int) < M 1 16 + 1 := by simpa [up_k] using hi
              by_cases q : i = n
              · subst q
                refine ⟨?_, ?_⟩
                · rw [up_i, if_neg (by omega), up_i, if_neg (by omega)]; simp [up_k]
                · rw [up_i, if_neg (by omega)]; simp [up_k]
              · have h9 := rP i (by omega)
                simp only [Nat.reduceAdd] at h9
                refine ⟨?_, ?_⟩
                · rw [up_i, if_neg (by omega), up_i, if_neg (by omega), up_i, if_neg (by omega)]
                  simpa [up_k, q] using h9.1
                · rw [up_i, if_neg (by omega), up_i, if_neg (by omega), up_i, if_neg (by omega)]
                  simpa [up_k, q] using h9.2
        · simp only [if_neg g2]
          refine ⟨_, _, _, rfl, ?_, quiet hc⟩
          rw [hm M e0 e8, if_neg g0, if_pos g, if_pos g1, if_pos (by omega)]
      · simp only [if_neg g1]
        refine ⟨_, _, _, rfl, ?_, quiet hc⟩
        rw [hm M e0 e8, if_neg g0, if_pos g, if_neg g1]
    · simp only [if_neg g]
      refine ⟨_, _, _, rfl, ?_, quiet hc⟩
      rw [hm M e0 e8, if_neg g0, if_neg g]
