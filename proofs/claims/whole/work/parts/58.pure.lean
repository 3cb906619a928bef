/-! a COIN changes on both sides -/
theorem Rel_coin {n n' : Nat} {C D C' D' : Mem} {c : Nat} {w h t : Int} (hn : n ≤ n') (hR : Rel n C D) (hc : (c : Int) < C 1 7) (hw : C 3 c ≤ w ∧ w ≤ Wt n') (hh : 0 ≤ h ∧ h < C 1 1) (ht : 0 ≤ t ∧ t ≤ Tt n') (eC : ∀ k ∈ SCl, k ≠ 4 → k ≠ 5 → k ≠ 6 → ∀ i, C' k i = C k i)
    (e4 : ∀ i, C' 4 i = if i = c then w else C 4 i) (e5 : ∀ i, C' 5 i = if i = c then h else C 5 i) (e6 : ∀ i, C' 6 i = if i = c then t else C 6 i) (eD : ∀ i, D' 72 i = if i = 21 + 5 * c then w else if i = 22 + 5 * c then h else if i = 23 + 5 * c then t else D 72 i) : Rel n' C' D' := by
  have e : ∀ k ∈ SCl, k ≠ 4 → k ≠ 5 → k ≠ 6 → C' k = C k := fun k a b c d => funext (eC k a b c d)
  have e1 := e 1 (by decide) (by decide) (by decide) (by decide); have e2 := e 2 (by decide) (by decide) (by decide) (by decide); have e3 := e 3 (by decide) (by decide) (by decide) (by decide); have e7 := e 7 (by decide) (by decide) (by decide) (by decide); have e8 := e 8 (by decide) (by decide) (by decide) (by decide)
  have e9 := e 9 (by decide) (by decide) (by decide) (by decide); have e10 := e 10 (by decide) (by decide) (by decide) (by decide); have e11 := e 11 (by decide) (by decide) (by decide) (by decide); have e12 := e 12 (by decide) (by decide) (by decide) (by decide); have e13 := e 13 (by decide) (by decide) (by decide) (by decide); have e14 := e 14 (by decide) (by decide) (by decide) (by decide)
  obtain ⟨⟨kH, kN, kC, kT, kP⟩, rN, rH, rC, rT, rP⟩ := Rel_mono hn hR
  have er : ∀ k, rp 8 C' k = rp 8 C k := fun k => by unfold rp; rw [e8]
  have hh0 := kH.1; have hc0 := kC.1; have ht0 := kT.2.1; have hp0 := kP.1
  simp only [Nat.reduceAdd] at ht0
  have lo : ∀ i, i < 20 → D' 72 i = D 72 i := fun i hi => by rw [eD, if_neg (by omega), if_neg (by omega), if_neg (by omega)]
  have hi : ∀ i, 120 ≤ i → D' 72 i = D 72 i := fun i hi => by rw [eD, if_neg (by omega), if_neg (by omega), if_neg (by omega)]
  refine ⟨⟨?_, ?_, ?_, ?_, ?_⟩, ?_, ?_, ?_, ?_, ?_⟩
  · simpa only [OkH, Nat.reduceAdd, e1, e2] using kH
  · simpa only [OkN, Nat.reduceAdd, e1] using kN
  · refine ⟨by rw [e1]; exact kC.1, fun i hi => ?_⟩
    rw [e1] at hi
    have h9 := kC.2 i hi
    simp only [Nat.reduceAdd, e1, e3, e4, e5, e6, e7] at h9 ⊢
    by_cases q : i = c
    · subst q; simp only [if_pos trivial, if_true] at *; refine ⟨h9.1, ⟨hw.1, hw.2⟩, hh, ht, h9.2.2.2.2⟩
    · simp only [if_neg q]; exact h9
  · simp only [OkT, Nat.reduceAdd, er, e1, e3, e8, e9, e10, e11, e12] at kT ⊢; exact kT
  · simp only [OkP, Nat.reduceAdd, e1, e13, e14] at kP ⊢; exact kP
  · simp only [e1, e8, lo 0 (by decide), lo 1 (by decide), lo 2 (by decide), lo 3 (by decide), lo 4 (by decide), lo 5 (by decide), lo 6 (by decide), lo 7 (by decide), lo 8 (by decide)]; exact rN
  · intro i hi; rw [e1] at hi; rw [lo _ (by omega), e2]; exact rH i hi
  · intro i hi; rw [e1] at hi
    have h9 := rC i hi
    simp only [e3, e4, e5, e6, e7]
    by_cases q : i = c
    · subst q
      refine ⟨?_, ?_, ?_, ?_, ?_⟩
      · rw [eD, if_neg (by omega), if_neg (by omega), if_neg (by omega)]; exact h9.1
      · rw [eD, if_pos rfl, if_pos rfl]
      · rw [eD, if_neg (by omega), if_pos rfl, if_pos rfl]
      · rw [eD, if_neg (by omega), if_neg (by omega), if_pos rfl, if_pos rfl]
      · rw [eD, if_neg (by omega), if_neg (by omega), if_neg (by omega)]; exact h9.2.2.2.2
    · simp only [if_neg q]
      refine ⟨?_, ?_, ?_, ?_, ?_⟩
      · rw [eD, if_neg (by omega), if_neg (by omega), if_neg (by omega)]; exact h9.1
      · rw [eD, if_neg (by omega), if_neg (by omega), if_neg (by omega)]; exact h9.2.1
      · rw [eD, if_neg (by omega), if_neg (by omega), if_neg (by omega)]; exact h9.2.2.1
      · rw [eD, if_neg (by omega), if_neg (by omega), if_neg (by omega)]; exact h9.2.2.2.1
      · rw [eD, if_neg (by omega), if_neg (by omega), if_neg (by omega)]; exact h9.2.2.2.2
  · intro k hk; rw [e8] at hk
    rw [hi _ (by omega), hi _ (by omega), hi _ (by omega), hi _ (by omega), er, e9, e10, e11, e12]; exact rT k hk
  · intro k hk; rw [e1] at hk
    rw [hi _ (by omega), hi _ (by omega), e13, e14]; exact rP k hk
/-! a STEP is kept on both sides -/
def PU (M : Mem) (c w h t : Int) : Mem := up (up (up (up (up (up M 9 (M 8 4).toNat c) 10 (M 8 4).toNat w) 11 (M 8 4).toNat h) 12 (M 8 4).toNat t) 8 4 ((M 8 4 + 1).tmod 40)) 8 5 (min (M 8 5 + 1) 40)
theorem p_push {M : Mem} {c w h t : Int} (h0 : 0 ≤ M 8 4) (h1 : M 8 4 < 40) (h2 : 0 ≤ M 8 5) (h3 : M 8 5 ≤ 40) : fn_X5_push 8 c w h t M = some (PU M c w h t) := by
  unfold fn_X5_push PU
  simp (disch := omega) only [cLt_if, wr_eq, st_eq, Nat.reduceAdd, up_k, Nat.reduceEqDiff, false_and, if_false, ck_R330, ck_R33, if_neg, if_pos, and_false, true_and]
theorem Rel_push {n : Nat} {C D C' D' : Mem} {c : Nat} (hR : Rel n C D) (hc : (c : Int) < C 1 7) (eC : C' = PU C c (C 4 c) (C 5 c) (C 6 c))
    (d7 : D' 72 7 = min (D 72 7 + 1) 40) (dl : ∀ i, i < 120 → i ≠ 7 → D' 72 i = D 72 i) (dh : ∀ i, 280 ≤ i → D' 72 i = D 72 i)
    (dk : ∀ k q : Nat, q < 4 → (k : Int) < min (D 72 7) 39 → D' 72 (120 + q + 4 * k) = D 72 (120 + q + 4 * (k + (if D 72 7 = 40 then 1 else 0))))
    (dn : ∀ k : Nat, (k : Int) = min (D 72 7) 39 → D' 72 (120 + 4 * k) = c ∧ D' 72 (121 + 4 * k) = D 72 (21 + 5 * c) ∧ D' 72 (122 + 4 * k) = D 72 (22 + 5 * c) ∧ D' 72 (123 + 4 * k) = D 72 (23 + 5 * c)) : Rel n C' D' := by
  obtain ⟨⟨kH, kN, kC, kT, kP⟩, rN, rH, rC, rT, rP⟩ := hR
  have hh0 := kH.1; have hc0 := kC.1; have hp0 := kP.1
  obtain ⟨t0, t1, t2⟩ := kT
  simp only [Nat.reduceAdd] at t0 t1 t2
  obtain ⟨n4, hn4⟩ := Int.eq_ofNat_of_zero_le t0.1
  obtain ⟨n5, hn5⟩ := Int.eq_ofNat_of_zero_le t1.1
  have e7 : D 72 7 = (n5 : Int) := by rw [rN.2.2.2.2.2.2.2.1, hn5]
  have u4 : C' 8 4 = (((n4 + 1) % 40 : Nat) : Int) := by
    rw [eC]; simp only [PU, up_k, Nat.reduceEqDiff, and_false, if_false, and_self, if_true, hn4]
    rw [Int.tmod_eq_emod_of_nonneg (by omega)]; omega
  have u5 : C' 8 5 = ((min (n5 + 1) 40 : Nat) : Int) := by
    rw [eC]; simp only [PU, up_k, and_self, if_true, hn5]; omega
  have tn4 : (C 8 4).toNat = n4 := by omega
  have o : ∀ k i, k ≠ 8 → k ≠ 9 → k ≠ 10 → k ≠ 11 → k ≠ 12 → C' k i = C k i := fun k i a b c d e => by rw [eC]; simp only [PU, up_k, a, b, c, d, e, false_and, if_false]
  have v9 : ∀ i, C' 9 i = if i = n4 then (c : Int) else C 9 i := fun i => by rw [eC]; simp only [PU, up_k, Nat.reduceEqDiff, false_and, if_false, true_and, tn4]
  have v10 : ∀ i, C' 10 i = if i = n4 then C 4 c else C 10 i := fun i => by rw [eC]; simp only [PU, up_k, Nat.reduceEqDiff, false_and, if_false, true_and, tn4]
  have v11 : ∀ i, C' 11 i = if i = n4 then C 5 c else C 11 i := fun i => by rw [eC]; simp only [PU, up_k, Nat.reduceEqDiff, false_and, if_false, true_and, tn4]
  have v12 : ∀ i, C' 12 i = if i = n4 then C 6 c else C 12 i := fun i => by rw [eC]; simp only [PU, up_k, Nat.reduceEqDiff, false_and, if_false, true_and, tn4]
  have r0 : ∀ k, rp 8 C k = (n4 + 40 - n5 + k) % 40 := fun k => by unfold rp; congr 2; omega
  have r1 : ∀ k, rp 8 C' k = ((n4 + 1) % 40 + 40 - min (n5 + 1) 40 + k) % 40 := fun k => by unfold rp; congr 2; omega
  have r2 : ∀ k, k < min n5 39 → rp 8 C' k = rp 8 C (k + (if n5 = 40 then 1 else 0)) := fun k hk => by
    rw [r0, r1]; split <;> omega
  have r3 : rp 8 C' (min n5 39) = n4 := by rw [r1]; omega
  have r4 : ∀ k, k < min n5 39 → rp 8 C' k ≠ n4 := fun k hk => by rw [r1]; omega
  have hcc := kC.2 c hc
  have hrc := rC c hc
  simp only [Nat.reduceAdd] at hcc
  refine ⟨⟨?_, ?_, ?_, ?_, ?_⟩, ?_, ?_, ?_, ?_, ?_⟩
  · simp only [OkH, Nat.reduceAdd, ne_eq, Nat.reduceEqDiff, not_false_eq_true, o] at kH ⊢; exact kH
  · simp only [OkN, Nat.reduceAdd, ne_eq, Nat.reduceEqDiff, not_false_eq_true, o] at kN ⊢; exact kN
  · simp only [OkC, Nat.reduceAdd, ne_eq, Nat.reduceEqDiff, not_false_eq_true, o] at kC ⊢; exact kC
  · simp only [OkT, Nat.reduceAdd, ne_eq, Nat.reduceEqDiff, not_false_eq_true, o, u4, u5]
    refine ⟨by omega, by omega, fun k hk => ?_⟩
    by_cases q : k < min n5 39
    · have h9 := t2 (k + (if n5 = 40 then 1 else 0)) (by rw [hn5]; split <;> omega)
      simp only [v9, v10, v11, v12, if_neg (r4 k q)]
      rw [r2 k q]
      exact h9
    · have : k = min n5 39 := by omega
      subst this
      rw [r3]
      simp only [v9, v10, v11, v12, if_true]
      refine ⟨⟨by omega, hc⟩, ?_, hcc.2.2.1, hcc.2.2.2.1⟩
      simp only [Int.toNat_natCast]; exact hcc.2.1
  · simp only [OkP, Nat.reduceAdd, ne_eq, Nat.reduceEqDiff, not_false_eq_true, o] at kP ⊢; exact kP
  · simp only [ne_eq, Nat.reduceEqDiff, not_false_eq_true, o, u5, d7, dl 0 (by decide) (by decide), dl 1 (by decide) (by decide), dl 2 (by decide) (by decide), dl 3 (by decide) (by decide), dl 4 (by decide) (by decide), dl 5 (by decide) (by decide), dl 6 (by decide) (by decide), dl 8 (by decide) (by decide)]
    refine ⟨rN.1, rN.2.1, rN.2.2.1, rN.2.2.2.1, rN.2.2.2.2.1, rN.2.2.2.2.2.1, rN.2.2.2.2.2.2.1, by rw [e7]; omega, rN.2.2.2.2.2.2.2.2⟩
  · intro i hi
    rw [o _ _ (by decide) (by decide) (by decide) (by decide) (by decide)] at hi
    rw [dl _ (by omega) (by omega), o _ _ (by decide) (by decide) (by decide) (by decide) (by decide)]; exact rH i hi
  · intro i hi
    rw [o _ _ (by decide) (by decide) (by decide) (by decide) (by decide)] at hi
    simp only [ne_eq, Nat.reduceEqDiff, not_false_eq_true, o]
    rw [dl _ (by omega) (by omega), dl _ (by omega) (by omega), dl _ (by omega) (by omega), dl _ (by omega) (by omega), dl _ (by omega) (by omega)]; exact rC i hi
  · intro k hk
    rw [u5] at hk
    by_cases q : k < min n5 39
    · have h9 := rT (k + (if n5 = 40 then 1 else 0)) (by rw [hn5]; split <;> omega)
      simp only [v9, v10, v11, v12, if_neg (r4 k q)]
      rw [r2 k q]
      have ei : (if D 72 7 = 40 then 1 else 0 : Nat) = if n5 = 40 then 1 else 0 := by rw [e7]; split <;> split <;> omega
      have k0 := dk k 0 (by decide) (by omega)
      have k1 := dk k 1 (by decide) (by omega)
      have k2 := dk k 2 (by decide) (by omega)
      have k3 := dk k 3 (by decide) (by omega)
      rw [ei] at k0 k1 k2 k3
      exact ⟨k0.trans h9.1, k1.trans h9.2.1, k2.trans h9.2.2.1, k3.trans h9.2.2.2⟩
    · have : k = min n5 39 := by omega
      have h9 := dn k (by omega)
      subst this
      rw [r3]
      simp only [v9, v10, v11, v12, if_true]
      exact ⟨h9.1, h9.2.1.trans hrc.2.1, h9.2.2.1.trans hrc.2.2.1, h9.2.2.2.trans hrc.2.2.2.1⟩
  · intro k hk
    rw [o _ _ (by decide) (by decide) (by decide) (by decide) (by decide)] at hk
    rw [dh _ (by omega), dh _ (by omega), o _ _ (by decide) (by decide) (by decide) (by decide) (by decide), o _ _ (by decide) (by decide) (by decide) (by decide) (by decide)]; exact rP k hk
