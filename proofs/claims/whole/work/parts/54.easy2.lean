/-! hand -/
theorem tn {x : Int} {n : Nat} (h : x = (n : Int)) : x.toNat = n := by omega
theorem s_hand {j : Nat} {M : Mem} {a1 : Int} (h1 : R3 a1) (hc : Core j M) : ∃ (r : Int) (M1 M2 : Mem), fn_X10_hand 0 a1 M = some (r, M1) ∧ fn_X11_hand 71 a1 M1 = some (r, M2) ∧ Core (j + 1) M2 ∧ KX M M2 := by
  obtain ⟨⟨⟨kH, kN, kC, kT, kP⟩, rN, rH, rC, rT, rP⟩, hk, ht, hf⟩ := Core_mono hc
  have e0 : M 72 0 = M 1 1 := rN.1
  obtain ⟨⟨b0, b1⟩, bg⟩ := kH
  unfold fn_X10_hand fn_X4_addHand
  simp only [Nat.reduceAdd, Nat.zero_add, p_isWithin h1 (a := 1) (b := 30) ⟨by decide, by decide⟩ ⟨by decide, by decide⟩, cu_s, cE_b2, st_eq, cLt_if (x := M 1 1) (y := 10) (by omega) (by omega) (by decide) (by decide), cLt_if (x := M 1 1) (y := 0) (by omega) (by omega) (by decide) (by decide), if_neg (show ¬ M 1 1 < 0 by omega)]
  have hm : ∀ M' : Mem, M' 72 0 = M 1 1 → fn_X11_hand 71 a1 M' = if 1 ≤ a1 ∧ a1 ≤ 30 then (if M 1 1 = 10 then some (-1, M') else some (M 1 1, up (up M' 72 (10 + M 1 1).toNat a1) 72 0 (M 1 1 + 1))) else some (-1, M') := by
    intro M' e
    unfold fn_X11_hand
    simp only [Nat.reduceAdd, p_in h1 (a := 1) (b := 30) ⟨by decide, by decide⟩ ⟨by decide, by decide⟩, cu_s, cE_b2, rd_eq (N := 288) (i := 0) (by decide) (by decide), Int.reduceToNat, e]
    by_cases g : 1 ≤ a1 ∧ a1 ≤ 30
    · simp only [if_pos g, cEq_if (x := M 1 1) (y := 10) (by omega) (by omega) (by decide) (by decide)]
      by_cases g2 : M 1 1 = 10
      · simp only [if_pos g2]
      · have e2 : up M' 72 (10 + M 1 1).toNat a1 72 0 = M 1 1 := by
          rw [up_i, if_neg (by omega), e]
        simp only [if_neg g2, wr_eq (N := 288) (i := 10 + M 1 1) (by omega) (by omega), wr_eq (N := 288) (i := 0) (by decide) (by decide), Int.reduceToNat, e2, up_eq]
        congr 2; omega
    · simp only [if_neg g]
  by_cases g : 1 ≤ a1 ∧ a1 ≤ 30
  · simp only [if_pos g]
    by_cases g2 : M 1 1 < 10
    · obtain ⟨n, hn⟩ := Int.eq_ofNat_of_zero_le b0
      have hnn : M 1 1 = (n : Int) := hn
      simp only [if_pos g2, wr_eq (N := 10) (i := M 1 1) b0 (by omega), cl_s]
      have e3 : up M 2 (M 1 1).toNat a1 1 1 = M 1 1 := by simp [up_k]
      simp only [e3, up_eq]
      refine ⟨M 1 1, up (up M 2 (M 1 1).toNat a1) 1 1 (M 1 1 + 1), up (up (up (up M 2 (M 1 1).toNat a1) 1 1 (M 1 1 + 1)) 72 (10 + M 1 1).toNat a1) 72 0 (M 1 1 + 1), by congr 2; omega, ?_, Core_now hc ?_ (((((Sm.rf).up rfl).up rfl).up rfl).up rfl), (((((Sm.rf).up rfl).up rfl).up rfl).up rfl), by simp [up_k]⟩
      · rw [hm _ (by simp [up_k, e0]), if_pos g, if_neg (by omega)]
      · have t1 : (M 1 1).toNat = n := by omega
        have t2 : (10 + M 1 1).toNat = 10 + n := by omega
        rw [t1, t2]
        refine ⟨⟨?_, ?_, ?_, ?_, ?_⟩, ?_, ?_, ?_, ?_, ?_⟩
        · refine ⟨⟨by simp [up_k]; omega, by simp [up_k]; omega⟩, fun i hi => ?_⟩
          have hi2 : (i : Int) < M 1 1 + 1 := by simpa [up_k] using hi
          by_cases q : i = n
          · subst q; simp [up_k]; omega
          · have := bg i (by omega)
            simpa [up_k, q] using this
        · simp [OkN, up_k] at kN ⊢; omega
        · obtain ⟨c0, c1⟩ := kC
          refine ⟨by simpa [up_k] using c0, fun c hcc => ?_⟩
          have := c1 c (by simpa [up_k] using hcc)
          simp [up_k] at this ⊢; omega
        · obtain ⟨c0, c1, c2⟩ := kT
          refine ⟨by simpa [up_k] using c0, by simpa [up_k] using c1, fun k hkk => ?_⟩
          have hkk2 : (k : Int) < M (1 + 7) 5 := by simpa [up_k] using hkk
          have := c2 k hkk2
          have er : rp (1 + 7) (up (up (up (up M 2 n a1) 1 1 (M 1 1 + 1)) 72 (10 + n) a1) 72 0 (M 1 1 + 1)) k = rp (1 + 7) M k := rp_f (by simp [up_k]) (by simp [up_k]) k
          rw [er]
          simp [up_k] at this ⊢; omega
        · obtain ⟨c0, c1⟩ := kP
          refine ⟨by simpa [up_k] using c0, fun c hcc => ?_⟩
          have := c1 c (by simpa [up_k] using hcc)
          simp [up_k] at this ⊢; omega
        · simp [RlN, up_k] at rN ⊢; omega
        · intro i hi
          have hi2 : (i : Int) < M 1 1 + 1 := by simpa [up_k] using hi
          by_cases q : i = n
          · subst q; simp [up_k]
          · have := rH i (by omega)
            simpa [up_k, q] using this
        · exact RlC_f (by simp [up_k]) kC.1.2 (fun i => by simp [up_k]) (fun i => by simp [up_k]) (fun i => by simp [up_k]) (fun i => by simp [up_k]) (fun i => by simp [up_k]) (fun i _ _ => by simp [up_k]; omega) rC
        · exact RlT_f (fun i => by simp [up_k]) kT.2.1.2 (fun i => by simp [up_k]) (fun i => by simp [up_k]) (fun i => by simp [up_k]) (fun i => by simp [up_k]) (fun i _ _ => by simp [up_k]; omega) rT
        · exact RlP_f (by simp [up_k]) kP.1.2 (fun i => by simp [up_k]) (fun i => by simp [up_k]) (fun i _ _ => by simp [up_k]; omega) rP
    · simp only [if_neg g2]
      refine ⟨_, _, _, rfl, ?_, quiet hc⟩
      rw [hm M e0, if_pos g, if_pos (by omega)]
  · simp only [if_neg g]
    refine ⟨_, _, _, rfl, ?_, quiet hc⟩
    rw [hm M e0, if_neg g]
