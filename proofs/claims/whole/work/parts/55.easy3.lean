/-! coin -/
theorem s_coin {j : Nat} {M : Mem} {a1 a2 : Int} (h1 : R3 a1) (h2 : R3 a2) (hc : Core j M) : ∃ (r : Int) (M1 M2 : Mem), fn_X10_coin 0 a1 a2 M = some (r, M1) ∧ fn_X11_coin 71 a1 a2 M1 = some (r, M2) ∧ Core (j + 1) M2 ∧ KX M M2 := by
  obtain ⟨⟨⟨kH, kN, kC, kT, kP⟩, rN, rH, rC, rT, rP⟩, hk, ht, hf⟩ := Core_mono hc
  have e0 : M 72 0 = M 1 1 := rN.1
  have e1 : M 72 1 = M 1 7 := rN.2.1
  obtain ⟨⟨b0, b1⟩, bc⟩ := kC
  unfold fn_X10_coin fn_X4_addCoin
  simp only [Nat.reduceAdd, Nat.zero_add, p_isWithin h1 (a := 0) (b := 500) ⟨by decide, by decide⟩ ⟨by decide, by decide⟩, p_isHand h2 kH.1.1 kH.1.2, cu_s, cE_b2, st_eq, nm_eq, cLt_if (x := M 1 7) (y := 20) (by omega) (by omega) (by decide) (by decide), cLt_if (x := M 1 7) (y := 0) (by omega) (by omega) (by decide) (by decide), if_neg (show ¬ M 1 7 < 0 by omega)]
  have hm : ∀ M' : Mem, M' 72 0 = M 1 1 → M' 72 1 = M 1 7 → fn_X11_coin 71 a1 a2 M' = if 0 ≤ a1 ∧ a1 ≤ 500 then (if 0 ≤ a2 ∧ a2 < M 1 1 then (if M 1 7 = 20 then some (-1, M') else some (M 1 7, up (up (up (up (up (up M' 72 (20 + 5 * M 1 7).toNat a1) 72 (21 + 5 * M 1 7).toNat a1) 72 (22 + 5 * M 1 7).toNat a2) 72 (23 + 5 * M 1 7).toNat 0) 72 (24 + 5 * M 1 7).toNat (-1)) 72 1 (M 1 7 + 1))) else some (-1, M')) else some (-1, M') := by
    intro M' e e'
    unfold fn_X11_coin
    simp only [Nat.reduceAdd, p_in h1 (a := 0) (b := 500) ⟨by decide, by decide⟩ ⟨by decide, by decide⟩, q_isHand h2 (M := M') (by rw [e]; exact kH.1.1) (by rw [e]; exact kH.1.2), cu_s, cE_b2, rd_eq (N := 288) (i := 1) (by decide) (by decide), Int.reduceToNat, e, e', nm_eq]
    by_cases g : 0 ≤ a1 ∧ a1 ≤ 500
    · simp only [if_pos g]
      by_cases g1 : 0 ≤ a2 ∧ a2 < M 1 1
      · simp only [if_pos g1, cEq_if (x := M 1 7) (y := 20) (by omega) (by omega) (by decide) (by decide)]
        by_cases g2 : M 1 7 = 20
        · simp only [if_pos g2]
        · simp only [if_neg g2, wr_eq (N := 288) (i := 20 + 5 * M 1 7 + 0) (by omega) (by omega), wr_eq (N := 288) (i := 20 + 5 * M 1 7 + 1) (by omega) (by omega), wr_eq (N := 288) (i := 20 + 5 * M 1 7 + 2) (by omega) (by omega), wr_eq (N := 288) (i := 20 + 5 * M 1 7 + 3) (by omega) (by omega), wr_eq (N := 288) (i := 20 + 5 * M 1 7 + 4) (by omega) (by omega), wr_eq (N := 288) (i := 1) (by decide) (by decide), Int.reduceToNat, up_eq]
          rw [show (20 + 5 * M 1 7 + 0).toNat = (20 + 5 * M 1 7).toNat by omega, show (20 + 5 * M 1 7 + 1).toNat = (21 + 5 * M 1 7).toNat by omega, show (20 + 5 * M 1 7 + 2).toNat = (22 + 5 * M 1 7).toNat by omega, show (20 + 5 * M 1 7 + 3).toNat = (23 + 5 * M 1 7).toNat by omega, show (20 + 5 * M 1 7 + 4).toNat = (24 + 5 * M 1 7).toNat by omega]
          have e2 : up (up (up (up (up M' 72 (20 + 5 * M 1 7).toNat a1) 72 (21 + 5 * M 1 7).toNat a1) 72 (22 + 5 * M 1 7).toNat a2) 72 (23 + 5 * M 1 7).toNat 0) 72 (24 + 5 * M 1 7).toNat (-1) 72 1 = M 1 7 := by
            rw [up_i, if_neg (by omega), up_i, if_neg (by omega), up_i, if_neg (by omega), up_i, if_neg (by omega), up_i, if_neg (by omega), e']
          rw [e2]
          congr 2; omega
      · simp only [if_neg g1]
    · simp only [if_neg g]
  by_cases g : 0 ≤ a1 ∧ a1 ≤ 500
  · simp only [if_pos g]
    by_cases g1 : 0 ≤ a2 ∧ a2 < M 1 1
    · simp only [if_pos g1]
      by_cases g2 : M 1 7 < 20
      · obtain ⟨n, hn⟩ := Int.eq_ofNat_of_zero_le b0
        have hnn : M 1 7 = (n : Int) := hn
        simp only [if_pos g2, wr_eq (N := 20) (i := M 1 7) b0 (by omega), cl_s]
        have t0 : (M 1 7).toNat = n := by omega
        rw [t0]
        have e3 : up (up (up (up (up M 3 n a1) 4 n a1) 5 n a2) 6 n 0) 7 n (-1) 1 7 = M 1 7 := by simp [up_k]
        simp only [e3]
        refine ⟨M 1 7, up (up (up (up (up (up M 3 n a1) 4 n a1) 5 n a2) 6 n 0) 7 n (-1)) 1 7 (M 1 7 + 1), up (up (up (up (up (up (up (up (up (up (up (up M 3 n a1) 4 n a1) 5 n a2) 6 n 0) 7 n (-1)) 1 7 (M 1 7 + 1)) 72 (20 + 5 * M 1 7).toNat a1) 72 (21 + 5 * M 1 7).toNat a1) 72 (22 + 5 * M 1 7).toNat a2) 72 (23 + 5 * M 1 7).toNat 0) 72 (24 + 5 * M 1 7).toNat (-1)) 72 1 (M 1 7 + 1), rfl, ?_, Core_now hc ?_ (((((((((((((Sm.rf).up rfl).up rfl).up rfl).up rfl).up rfl).up rfl).up rfl).up rfl).up rfl).up rfl).up rfl).up rfl), (((((((((((((Sm.rf).up rfl).up rfl).up rfl).up rfl).up rfl).up rfl).up rfl).up rfl).up rfl).up rfl).up rfl).up rfl), by simp [up_k]⟩
        · rw [hm _ (by simp [up_k, e0]) (by simp [up_k, e1]), if_pos g, if_pos g1, if_neg (by omega)]
        · rw [show (20 + 5 * M 1 7).toNat = 20 + 5 * n by omega, show (21 + 5 * M 1 7).toNat = 21 + 5 * n by omega, show (22 + 5 * M 1 7).toNat = 22 + 5 * n by omega, show (23 + 5 * M 1 7).toNat = 23 + 5 * n by omega, show (24 + 5 * M 1 7).toNat = 24 + 5 * n by omega]
          refine ⟨⟨?_, ?_, ?_, ?_, ?_⟩, ?_, ?_, ?_, ?_, ?_⟩
          · exact OkH_f (by simp [up_k]) (fun i => by simp [up_k]) kH
          · simp [OkN, up_k] at kN ⊢; omega
          · refine ⟨⟨by simp [up_k]; omega, by simp [up_k]; omega⟩, fun i hi => ?_⟩
            have hi2 : (i : Int) < M 1 7 + 1 := by simpa [up_k] using hi
            have hW : 500 ≤ Wt (99 * (j + 1)) := by unfold Wt; omega
            have hT : 0 ≤ Tt (99 * (j + 1)) := by unfold Tt; omega
            by_cases q : i = n
            · subst q; simp [up_k]; omega
            · have := bc i (by omega)
              simpa [up_k, q] using this
          · obtain ⟨c0, c1, c2⟩ := kT
            refine ⟨by simpa [up_k] using c0, by simpa [up_k] using c1, fun k hkk => ?_⟩
            have hkk2 : (k : Int) < M (1 + 7) 5 := by simpa [up_k] using hkk
            have h9 := c2 k hkk2
            rw [rp_f (M := M) (by simp [up_k]) (by simp [up_k])]
            have hne : (M 9 (rp (1 + 7) M k)).toNat ≠ n := by have := h9.1; simp only [Nat.reduceAdd] at this ⊢; omega
            simp [up_k, hne] at h9 ⊢; omega
          · exact OkP_f (by simp [up_k]) (by simp [up_k]) (fun i => by simp [up_k]) (fun i => by simp [up_k]) kP
          · simp [RlN, up_k] at rN ⊢; omega
          · exact RlH_f (by simp [up_k]) kH.1.2 (fun i => by simp [up_k]) (fun i _ _ => by simp [up_k]; omega) rH
          · intro i hi
            have hi2 : (i : Int) < M 1 7 + 1 := by simpa [up_k] using hi
            by_cases q : i = n
            · subst q
              refine ⟨?_, ?_, ?_, ?_, ?_⟩ <;> simp [up_k] <;> omega
            · have h9 := rC i (by omega)
              have d1 : ∀ x y : Nat, x < 5 → y < 5 → 20 + x + 5 * i ≠ 20 + y + 5 * n := by omega
              have d2 : ∀ x : Nat, 20 + x + 5 * i ≠ 1 := by omega
              simp only [up_k]
              simp [q] at h9 ⊢
              refine ⟨?_, ?_, ?_, ?_, ?_⟩
              · rw [if_neg (by omega), if_neg (by omega), if_neg (by omega), if_neg (by omega), if_neg (by omega), if_neg (by omega)]; exact h9.1
              · rw [if_neg (by omega), if_neg (by omega), if_neg (by omega), if_neg (by omega), if_neg (by omega), if_neg (by omega)]; exact h9.2.1
              · rw [if_neg (by omega), if_neg (by omega), if_neg (by omega), if_neg (by omega), if_neg (by omega), if_neg (by omega)]; exact h9.2.2.1
              · rw [if_neg (by omega), if_neg (by omega), if_neg (by omega), if_neg (by omega), if_neg (by omega), if_neg (by omega)]; exact h9.2.2.2.1
              · rw [if_neg (by omega), if_neg (by omega), if_neg (by omega), if_neg (by omega), if_neg (by omega), if_neg (by omega)]; exact h9.2.2.2.2
          · exact RlT_f (fun i => by simp [up_k]) kT.2.1.2 (fun i => by simp [up_k]) (fun i => by simp [up_k]) (fun i => by simp [up_k]) (fun i => by simp [up_k]) (fun i _ _ => by rw [up_i, if_neg (by omega), up_i, if_neg (by omega), up_i, if_neg (by omega), up_i, if_neg (by omega), up_i, if_neg (by omega), up_i, if_neg (by omega)]; simp [up_k]) rT
          · exact RlP_f (by simp [up_k]) kP.1.2 (fun i => by simp [up_k]) (fun i => by simp [up_k]) (fun i _ _ => by rw [up_i, if_neg (by omega), up_i, if_neg (by omega), up_i, if_neg (by omega), up_i, if_neg (by omega), up_i, if_neg (by omega), up_i, if_neg (by omega)]; simp [up_k]) rP
      · simp only [if_neg g2]
        refine ⟨_, _, _, rfl, ?_, quiet hc⟩
        rw [hm M e0 e1, if_pos g, if_pos g1, if_pos (by omega)]
    · simp only [if_neg g1]
      refine ⟨_, _, _, rfl, ?_, quiet hc⟩
      rw [hm M e0 e1, if_pos g, if_neg g1]
  · simp only [if_neg g]
    refine ⟨_, _, _, rfl, ?_, quiet hc⟩
    rw [hm M e0 e1, if_neg g]
