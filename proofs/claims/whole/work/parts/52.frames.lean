/-! a State's parts, each by the cells on which it hangs -/
theorem OkH_f {b : Nat} {M M' : Mem} (h1 : M' b 1 = M b 1) (h2 : ∀ i, M' (b + 1) i = M (b + 1) i) (h : OkH b M) : OkH b M' := by
  simp only [OkH, h1, h2] at h ⊢; exact h
theorem OkC_f {b j : Nat} {M M' : Mem} (h1 : M' b 1 = M b 1) (h7 : M' b 7 = M b 7) (h2 : ∀ i, M' (b + 2) i = M (b + 2) i) (h3 : ∀ i, M' (b + 3) i = M (b + 3) i) (h4 : ∀ i, M' (b + 4) i = M (b + 4) i) (h5 : ∀ i, M' (b + 5) i = M (b + 5) i) (h6 : ∀ i, M' (b + 6) i = M (b + 6) i) (h : OkC b j M) : OkC b j M' := by
  simp only [OkC, h1, h7, h2, h3, h4, h5, h6] at h ⊢; exact h
theorem rp_f {b : Nat} {M M' : Mem} (h4 : M' b 4 = M b 4) (h5 : M' b 5 = M b 5) (k : Nat) : rp b M' k = rp b M k := by simp only [rp, h4, h5]
theorem OkT_f {b j : Nat} {M M' : Mem} (h1 : M' b 1 = M b 1) (h7 : M' b 7 = M b 7) (h2 : ∀ i, M' (b + 2) i = M (b + 2) i) (hs : ∀ i, M' (b + 7) i = M (b + 7) i) (h8 : ∀ i, M' (b + 8) i = M (b + 8) i) (h9 : ∀ i, M' (b + 9) i = M (b + 9) i) (h10 : ∀ i, M' (b + 10) i = M (b + 10) i) (h11 : ∀ i, M' (b + 11) i = M (b + 11) i) (h : OkT b j M) : OkT b j M' := by
  simp only [OkT, h1, h7, h2, hs, h8, h9, h10, h11, rp_f (hs 4) (hs 5)] at h ⊢; exact h
theorem OkP_f {b : Nat} {M M' : Mem} (h1 : M' b 1 = M b 1) (h16 : M' b 16 = M b 16) (h12 : ∀ i, M' (b + 12) i = M (b + 12) i) (h13 : ∀ i, M' (b + 13) i = M (b + 13) i) (h : OkP b M) : OkP b M' := by
  simp only [OkP, h1, h16, h12, h13] at h ⊢; exact h
theorem RlH_f {b A : Nat} {M M' : Mem} (h1 : M' b 1 = M b 1) (hm : M b 1 ≤ 10) (h2 : ∀ i, M' (b + 1) i = M (b + 1) i) (hA : ∀ i, 10 ≤ i → i < 20 → M' A i = M A i) (h : RlH b A M) : RlH b A M' := by
  intro i hi
  rw [h1] at hi
  rw [hA _ (by omega) (by omega), h2]; exact h i hi
theorem RlC_f {b A : Nat} {M M' : Mem} (h7 : M' b 7 = M b 7) (hm : M b 7 ≤ 20) (h2 : ∀ i, M' (b + 2) i = M (b + 2) i) (h3 : ∀ i, M' (b + 3) i = M (b + 3) i) (h4 : ∀ i, M' (b + 4) i = M (b + 4) i) (h5 : ∀ i, M' (b + 5) i = M (b + 5) i) (h6 : ∀ i, M' (b + 6) i = M (b + 6) i) (hA : ∀ i, 20 ≤ i → i < 120 → M' A i = M A i) (h : RlC b A M) : RlC b A M' := by
  intro c hc
  rw [h7] at hc
  rw [hA _ (by omega) (by omega), hA _ (by omega) (by omega), hA _ (by omega) (by omega), hA _ (by omega) (by omega), hA _ (by omega) (by omega), h2, h3, h4, h5, h6]; exact h c hc
theorem RlT_f {b A : Nat} {M M' : Mem} (hs : ∀ i, M' (b + 7) i = M (b + 7) i) (hm : M (b + 7) 5 ≤ 40) (h8 : ∀ i, M' (b + 8) i = M (b + 8) i) (h9 : ∀ i, M' (b + 9) i = M (b + 9) i) (h10 : ∀ i, M' (b + 10) i = M (b + 10) i) (h11 : ∀ i, M' (b + 11) i = M (b + 11) i) (hA : ∀ i, 120 ≤ i → i < 280 → M' A i = M A i) (h : RlT b A M) : RlT b A M' := by
  intro k hk
  rw [hs] at hk
  rw [hA _ (by omega) (by omega), hA _ (by omega) (by omega), hA _ (by omega) (by omega), hA _ (by omega) (by omega), h8, h9, h10, h11, rp_f (hs 4) (hs 5)]; exact h k hk
theorem RlP_f {b A : Nat} {M M' : Mem} (h16 : M' b 16 = M b 16) (hm : M b 16 ≤ 4) (h12 : ∀ i, M' (b + 12) i = M (b + 12) i) (h13 : ∀ i, M' (b + 13) i = M (b + 13) i) (hA : ∀ i, 280 ≤ i → i < 288 → M' A i = M A i) (h : RlP b A M) : RlP b A M' := by
  intro k hk
  rw [h16] at hk
  rw [hA _ (by omega) (by omega), hA _ (by omega) (by omega), h12, h13]; exact h k hk
theorem cE_b2 {ρ : Type} {P : Prop} [Decidable P] {A B : Option ρ} : cEq (b2 P) 0 A B = if P then B else A := by
  by_cases h : P
  · rw [b2_t h, if_pos h]; rfl
  · rw [b2_f h, if_neg h]; rfl
/-- a call that does nothing -/
theorem quiet {j : Nat} {M : Mem} (hc : Core j M) : Core (j + 1) M ∧ KX M M := ⟨Core_mono hc, Sm.rf, Int.le_refl _, id⟩
/-! rules -/
theorem s_rules {j : Nat} {M : Mem} {a1 a2 : Int} (h1 : R3 a1) (h2 : R3 a2) (hc : Core j M) : ∃ (r : Int) (M1 M2 : Mem), fn_X10_rules 0 a1 a2 M = some (r, M1) ∧ fn_X11_rules 71 a1 a2 M1 = some (r, M2) ∧ Core (j + 1) M2 ∧ KX M M2 := by
  unfold fn_X10_rules fn_X11_rules
  simp only [p_isWithin h1 (a := 0) (b := 6) ⟨by decide, by decide⟩ ⟨by decide, by decide⟩, p_isWithin h2 (a := 0) (b := 9) ⟨by decide, by decide⟩ ⟨by decide, by decide⟩, p_in h1 (a := 0) (b := 6) ⟨by decide, by decide⟩ ⟨by decide, by decide⟩, p_in h2 (a := 0) (b := 9) ⟨by decide, by decide⟩ ⟨by decide, by decide⟩, cu_s, cE_b2, st_eq, Nat.reduceAdd, Nat.zero_add]
  by_cases g1 : 0 ≤ a1 ∧ a1 ≤ 6
  · by_cases g2 : 0 ≤ a2 ∧ a2 ≤ 9
    · simp only [if_pos g1, if_pos g2, wr_eq (N := 288) (i := 3) (by decide) (by decide), wr_eq (N := 288) (i := 4) (by decide) (by decide)]
      refine ⟨_, _, _, rfl, rfl, ?_, ?_⟩
      · obtain ⟨⟨⟨kH, kN, kC, kT, kP⟩, rN, rH, rC, rT, rP⟩, hk, ht, hf⟩ := Core_mono hc
        refine ⟨⟨⟨?_, ?_, ?_, ?_, ?_⟩, ?_, ?_, ?_, ?_, ?_⟩, ?_, ?_, ?_⟩
        · exact OkH_f (by simp [up_k]) (fun i => by simp [up_k]) kH
        · simp [OkN, up_k] at kN ⊢; omega
        · exact OkC_f (by simp [up_k]) (by simp [up_k]) (fun i => by simp [up_k]) (fun i => by simp [up_k]) (fun i => by simp [up_k]) (fun i => by simp [up_k]) (fun i => by simp [up_k]) kC
        · exact OkT_f (by simp [up_k]) (by simp [up_k]) (fun i => by simp [up_k]) (fun i => by simp [up_k]) (fun i => by simp [up_k]) (fun i => by simp [up_k]) (fun i => by simp [up_k]) (fun i => by simp [up_k]) kT
        · exact OkP_f (by simp [up_k]) (by simp [up_k]) (fun i => by simp [up_k]) (fun i => by simp [up_k]) kP
        · simp [RlN, up_k] at rN ⊢; omega
        · exact RlH_f (by simp [up_k]) kH.1.2 (fun i => by simp [up_k]) (fun i _ _ => by simp [up_k]; omega) rH
        · exact RlC_f (by simp [up_k]) kC.1.2 (fun i => by simp [up_k]) (fun i => by simp [up_k]) (fun i => by simp [up_k]) (fun i => by simp [up_k]) (fun i => by simp [up_k]) (fun i _ _ => by simp [up_k]; omega) rC
        · exact RlT_f (fun i => by simp [up_k]) kT.2.1.2 (fun i => by simp [up_k]) (fun i => by simp [up_k]) (fun i => by simp [up_k]) (fun i => by simp [up_k]) (fun i _ _ => by simp [up_k]; omega) rT
        · exact RlP_f (by simp [up_k]) kP.1.2 (fun i => by simp [up_k]) (fun i => by simp [up_k]) (fun i _ _ => by simp [up_k]; omega) rP
        · exact kept_frame (((((Sm.rf).up rfl).up rfl).up rfl).up rfl) hk
        · exact tap_frame (fun i => by simp [up_k]) (fun i => by simp [up_k]) (by simp [up_k]) (by simp [up_k]) ht
        · exact flt_frame (by simp [up_k]) (by simp [up_k]) (by simp [up_k]) (by simp [up_k]) (by simp [up_k]) hf
      · exact ⟨(((((Sm.rf).up rfl).up rfl).up rfl).up rfl), by simp [up_k]⟩
    · simp only [if_pos g1, if_neg g2]
      exact ⟨_, _, _, rfl, rfl, quiet hc⟩
  · simp only [if_neg g1]
    exact ⟨_, _, _, rfl, rfl, quiet hc⟩
