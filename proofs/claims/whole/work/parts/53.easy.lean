theorem Core_now {j : Nat} {M M' : Mem} (hc : Core j M) (hn : OkS 1 (99 * (j + 1)) M' ∧ RlS 1 72 M') (hk : Sm [15, 16, 17, 18, 19, 20, 21, 22, 23, 24, 25, 26, 27, 28, 73, 29, 30, 31, 71, 74] M M') : Core (j + 1) M' := by
  have h1 := Core_mono hc
  refine ⟨hn, kept_frame (hk.sub (by decide)) h1.2.1, tap_frame (fun i => hk 30 (by decide) i) (fun i => hk 74 (by decide) i) (hk 29 (by decide) 1) (hk 71 (by decide) 3) h1.2.2.1, flt_frame (hk 31 (by decide) 2) (hk 31 (by decide) 3) (hk 31 (by decide) 4) (hk 71 (by decide) 4) (hk 71 (by decide) 5) h1.2.2.2⟩
/-! later -/
theorem p_letPass {t : Nat} {a : Int} {M : Mem} (ha : R3 a) (h0 : 0 ≤ M t 8) (h1 : M t 8 ≤ 999) : fn_X4_letPass t a M = some (if (0 ≤ a ∧ a ≤ 99) ∧ M t 8 + a ≤ 999 then (1, up M t 8 (M t 8 + a)) else (0, M)) := by
  unfold fn_X4_letPass
  rw [p_isWithin ha ⟨by decide, by decide⟩ ⟨by decide, by decide⟩, cu_s, cE_b2]
  by_cases g : 0 ≤ a ∧ a ≤ 99
  · rw [if_pos g, cLt_if (by decide) (by decide) (by omega) (by omega), st_eq]
    by_cases q : 999 < M t 8 + a
    · rw [if_pos q, if_neg (by omega)]
    · rw [if_neg q, if_pos (by omega)]
  · rw [if_neg g, if_neg (by omega)]
theorem q_later {a : Int} {M : Mem} (ha : R3 a) (h0 : 0 ≤ M 72 2) (h1 : M 72 2 ≤ 999) : fn_X11_later 71 a M = some (if (0 ≤ a ∧ a ≤ 99) ∧ M 72 2 + a ≤ 999 then (M 72 2 + a, up M 72 2 (M 72 2 + a)) else (-1, M)) := by
  unfold fn_X11_later
  rw [p_in ha ⟨by decide, by decide⟩ ⟨by decide, by decide⟩, cu_s, cE_b2]
  simp only [Nat.reduceAdd, rd_eq (N := 288) (i := 2) (by decide) (by decide), wr_eq (N := 288) (i := 2) (by decide) (by decide), Int.reduceToNat]
  by_cases g : 0 ≤ a ∧ a ≤ 99
  · rw [if_pos g, cLt_if (by decide) (by decide) (by omega) (by omega)]
    by_cases q : 999 < M 72 2 + a
    · rw [if_pos q, if_neg (by omega)]
    · rw [if_neg q, if_pos (by omega), up_eq]
  · rw [if_neg g, if_neg (by omega)]
/-- HOUR alone is other -/
theorem hour_now {j : Nat} {M : Mem} {x : Int} (hc : Core j M) (hx : 0 ≤ x ∧ x ≤ 999) : Core (j + 1) (up (up M 1 8 x) 72 2 x) ∧ KX M (up (up M 1 8 x) 72 2 x) := by
  refine ⟨Core_now hc ?_ (((Sm.rf).up rfl).up rfl), (((Sm.rf).up rfl).up rfl), by simp [up_k]⟩
  obtain ⟨⟨⟨kH, kN, kC, kT, kP⟩, rN, rH, rC, rT, rP⟩, hk, ht, hf⟩ := Core_mono hc
  refine ⟨⟨?_, ?_, ?_, ?_, ?_⟩, ?_, ?_, ?_, ?_, ?_⟩
  · exact OkH_f (by simp [up_k]) (fun i => by simp [up_k]) kH
  · simp [OkN, up_k] at kN ⊢; omega
  · exact OkC_f (by simp [up_k]) (by simp [up_k]) (fun i => by simp [up_k]) (fun i => by simp [up_k]) (fun i => by simp [up_k]) (fun i => by simp [up_k]) (fun i => by simp [up_k]) kC
  · exact OkT_f (by simp [up_k]) (by simp [up_k]) (fun i => by simp [up_k]) (fun i => by simp [up_k]) (fun i => by simp [up_k]) (fun i => by simp [up_k]) (fun i => by simp [up_k]) (fun i => by simp [up_k]) kT
  · exact OkP_f (by simp [up_k]) (by simp [up_k]) (fun i => by simp [up_k]) (fun i => by simp [up_k]) kP
  · simp [RlN, up_k] at rN ⊢; omega
  · exact RlH_f (by simp [up_k]) kH.1.2 (fun i => by simp [up_k]) (fun i _ _ => by simp [up_k]; omega) rH
  · exact RlC_f (by simp [up_k]) kC.1.2 (fun i => by simp [up_k]) (fun i => by simp [up_k]) (fun i => by simp [up_k]) (fun i => by simp [up_k]) (fun i => by simp [up_k]) (fun i _ _ => by simp [up_k]; omega) rC
  · exact RlT_f (fun i => by simp [up_k]) kT.2.1.2 (fun i => by simp [up_k]) (fun i => by simp [up_k]) (fun i => by simp [up_k]) (fun i => by simp [up_k]) (fun i _ _ => by simp [up_k]; omega) rT
  · exact RlP_f (by simp [up_k]) kP.1.2 (fun i => by simp [up_k]) (fun i => by simp [up_k]) (fun i _ _ => by simp [up_k]; omega) rP
theorem s_later {j : Nat} {M : Mem} {a1 : Int} (h1 : R3 a1) (hc : Core j M) : ∃ (r : Int) (M1 M2 : Mem), fn_X10_later 0 a1 M = some (r, M1) ∧ fn_X11_later 71 a1 M1 = some (r, M2) ∧ Core (j + 1) M2 ∧ KX M M2 := by
  have hN := hc.1.1.2.1
  have hR := hc.1.2.1
  simp only [OkN, RlN] at hN hR
  have e2 : M 72 2 = M 1 8 := hR.2.2.1
  unfold fn_X10_later
  simp only [Nat.reduceAdd, Nat.zero_add, p_letPass h1 hN.1.1 hN.1.2]
  by_cases g : (0 ≤ a1 ∧ a1 ≤ 99) ∧ M 1 8 + a1 ≤ 999
  · simp only [if_pos g, cl_s]
    refine ⟨M 1 8 + a1, up M 1 8 (M 1 8 + a1), _, ?_, ?_, hour_now hc (x := M 1 8 + a1) ⟨by omega, by omega⟩⟩
    · rw [cEq_if (by decide) (by decide) (by decide) (by decide), if_neg (by decide), up_eq]
    · rw [q_later h1 (by simp [up_k]; omega) (by simp [up_k]; omega)]
      have e3 : up M 1 8 (M 1 8 + a1) 72 2 = M 1 8 := by simp [up_k, e2]
      rw [e3, if_pos g]
  · simp only [if_neg g, cl_s]
    refine ⟨-1, M, M, ?_, ?_, quiet hc⟩
    · rw [cEq_if (by decide) (by decide) (by decide) (by decide), if_pos rfl]
    · rw [q_later h1 (by omega) (by omega), e2, if_neg g]
/-! by -/
theorem text_now {j : Nat} {M : Mem} {x : Int} (hc : Core j M) (hx : -1 ≤ x ∧ x < M 1 11) : Core (j + 1) (up (up M 1 12 x) 72 6 x) ∧ KX M (up (up M 1 12 x) 72 6 x) := by
  refine ⟨Core_now hc ?_ (((Sm.rf).up rfl).up rfl), (((Sm.rf).up rfl).up rfl), by simp [up_k]⟩
  obtain ⟨⟨⟨kH, kN, kC, kT, kP⟩, rN, rH, rC, rT, rP⟩, hk, ht, hf⟩ := Core_mono hc
  refine ⟨⟨?_, ?_, ?_, ?_, ?_⟩, ?_, ?_, ?_, ?_, ?_⟩
  · exact OkH_f (by simp [up_k]) (fun i => by simp [up_k]) kH
  · simp [OkN, up_k] at kN ⊢; omega
  · exact OkC_f (by simp [up_k]) (by simp [up_k]) (fun i => by simp [up_k]) (fun i => by simp [up_k]) (fun i => by simp [up_k]) (fun i => by simp [up_k]) (fun i => by simp [up_k]) kC
  · exact OkT_f (by simp [up_k]) (by simp [up_k]) (fun i => by simp [up_k]) (fun i => by simp [up_k]) (fun i => by simp [up_k]) (fun i => by simp [up_k]) (fun i => by simp [up_k]) (fun i => by simp [up_k]) kT
  · exact OkP_f (by simp [up_k]) (by simp [up_k]) (fun i => by simp [up_k]) (fun i => by simp [up_k]) kP
  · simp [RlN, up_k] at rN ⊢; omega
  · exact RlH_f (by simp [up_k]) kH.1.2 (fun i => by simp [up_k]) (fun i _ _ => by simp [up_k]; omega) rH
  · exact RlC_f (by simp [up_k]) kC.1.2 (fun i => by simp [up_k]) (fun i => by simp [up_k]) (fun i => by simp [up_k]) (fun i => by simp [up_k]) (fun i => by simp [up_k]) (fun i _ _ => by simp [up_k]; omega) rC
  · exact RlT_f (fun i => by simp [up_k]) kT.2.1.2 (fun i => by simp [up_k]) (fun i => by simp [up_k]) (fun i => by simp [up_k]) (fun i => by simp [up_k]) (fun i _ _ => by simp [up_k]; omega) rT
  · exact RlP_f (by simp [up_k]) kP.1.2 (fun i => by simp [up_k]) (fun i => by simp [up_k]) (fun i _ _ => by simp [up_k]; omega) rP
theorem s_by {j : Nat} {M : Mem} {a1 : Int} (h1 : R3 a1) (hc : Core j M) : ∃ (r : Int) (M1 M2 : Mem), fn_X10_by 0 a1 M = some (r, M1) ∧ fn_X11_by 71 a1 M1 = some (r, M2) ∧ Core (j + 1) M2 ∧ KX M M2 := by
  have hN := hc.1.1.2.1
  have hR := hc.1.2.1
  simp only [OkN, RlN] at hN hR
  have e5 : M 72 5 = M 1 11 := hR.2.2.2.2.2.1
  obtain ⟨-, -, -, ⟨t0, t1⟩, -⟩ := hN
  unfold fn_X10_by fn_X10_by_J18
  simp only [Nat.reduceAdd, Nat.zero_add, p_isText h1 t0 t1, cu_s, cE_b2, st_eq]
  rw [cEq_if h1.1 h1.2 (by decide) (by decide)]
  have hm : ∀ M' : Mem, M' 72 5 = M 1 11 → fn_X11_by 71 a1 M' = if a1 = -1 ∨ (0 ≤ a1 ∧ a1 < M 1 11) then some (1, up M' 72 6 a1) else some (0, M') := by
    intro M' e
    unfold fn_X11_by fn_X11_by_J23
    rw [cEq_if h1.1 h1.2 (by decide) (by decide)]
    simp only [Nat.reduceAdd, rd_eq (N := 288) (i := 5) (by decide) (by decide), wr_eq (N := 288) (i := 6) (by decide) (by decide), Int.reduceToNat, e]
    rw [p_in h1 ⟨by decide, by decide⟩ ⟨by show _ ≤ M 1 11 - 1; omega, by show M 1 11 - 1 ≤ _; omega⟩, cu_s, cE_b2]
    by_cases g : a1 = -1
    · rw [if_pos g, if_pos (Or.inl g)]
    · by_cases g2 : 0 ≤ a1 ∧ a1 ≤ M 1 11 - 1
      · rw [if_neg g, if_pos g2, if_pos (by omega)]
      · rw [if_neg g, if_neg g2, if_neg (by omega)]
  by_cases g : a1 = -1
  · rw [if_pos g]
    refine ⟨_, _, _, rfl, ?_, text_now hc (x := a1) ⟨by omega, by omega⟩⟩
    rw [hm _ (by simp [up_k, e5]), if_pos (Or.inl g)]
  · rw [if_neg g]
    by_cases g2 : 0 ≤ a1 ∧ a1 < M 1 11
    · rw [if_pos g2]
      refine ⟨_, _, _, rfl, ?_, text_now hc (x := a1) ⟨by omega, by omega⟩⟩
      rw [hm _ (by simp [up_k, e5]), if_pos (Or.inr g2)]
    · rw [if_neg g2]
      refine ⟨_, _, _, rfl, ?_, quiet hc⟩
      rw [hm M e5, if_neg (by omega)]
/-! end -/
theorem s_end {j : Nat} {M : Mem} {a1 : Int} (h1 : R3 a1) (hc : Core j M) : ∃ (r : Int) (M1 M2 : Mem), fn_X10_end 0 a1 M = some (r, M1) ∧ fn_X11_end 71 a1 M1 = some (r, M2) ∧ Core (j + 1) M2 ∧ KX M M2 := by
  obtain ⟨e3, ⟨t0, t1⟩, ht⟩ := hc.2.2.1
  unfold fn_X10_end fn_X11_end
  simp only [Nat.zero_add, p_isWithin h1 (a := 0) (b := M 29 1) ⟨by decide, by decide⟩ ⟨by omega, by omega⟩, cu_s, cE_b2, st_eq]
  by_cases g : 0 ≤ a1 ∧ a1 ≤ M 29 1
  · simp only [if_pos g]
    refine ⟨_, _, up (up M 29 1 a1) 71 3 a1, rfl, ?_, ?_, (((Sm.rf).up rfl).up rfl), ?_⟩
    · have e : up M 29 1 a1 71 3 = M 29 1 := by simp [up_k, e3]
      rw [e, p_in h1 ⟨by decide, by decide⟩ ⟨by omega, by omega⟩, cu_s, cE_b2, if_pos g]
    · have hm := Core_mono hc
      refine ⟨now_frame (((Sm.rf).up rfl).up rfl) hm.1, kept_frame (((Sm.rf).up rfl).up rfl) hm.2.1, ?_, ?_⟩
      · refine ⟨by simp [up_k], ⟨by simp [up_k]; omega, by simp [up_k]; omega⟩, fun i hi => ?_⟩
        have hi2 : (i : Int) < a1 := by simpa [up_k] using hi
        have := ht i (by omega)
        simpa [up_k] using this
      · exact flt_frame (by simp [up_k]) (by simp [up_k]) (by simp [up_k]) (by simp [up_k]) (by simp [up_k]) hm.2.2.2
    · simp [up_k]
  · simp only [if_neg g]
    refine ⟨_, _, _, rfl, ?_, quiet hc⟩
    rw [e3, p_in h1 ⟨by decide, by decide⟩ ⟨by omega, by omega⟩, cu_s, cE_b2, if_neg g]
/-! fault -/
theorem s_fault {j : Nat} {M : Mem} {a1 : Int} (h1 : R3 a1) (hc : Core j M) : ∃ (r : Int), fn_X10_fault 0 a1 M = some r ∧ fn_X11_fault 71 a1 M = some r ∧ Core (j + 1) M ∧ KX M M := by
  have hf := hc.2.2.2
  have hq := quiet hc
  unfold fn_X10_fault fn_X11_fault
  simp only [Nat.zero_add, cEq_if (x := a1) (y := 0) h1.1 h1.2 (by decide) (by decide), cEq_if (x := a1) (y := 1) h1.1 h1.2 (by decide) (by decide)]
  rcases hf with ⟨f0, f1, f2⟩ | ⟨f0, f1, f2, f3, f4⟩
  · rw [f0, f1, f2, cEq_if (by decide) (by decide) (by decide) (by decide), if_pos rfl]
    refine ⟨-1, rfl, ?_, hq⟩
    simp
  · rw [f0, f1, f2, cEq_if (by decide) (by decide) (by decide) (by decide), if_neg (by decide)]
    by_cases g : a1 = 0
    · simp only [if_pos g]; exact ⟨_, rfl, rfl, hq⟩
    · by_cases g2 : a1 = 1
      · simp only [if_neg g, if_pos g2]; exact ⟨_, rfl, rfl, hq⟩
      · simp only [if_neg g, if_neg g2]; exact ⟨_, rfl, rfl, hq⟩
