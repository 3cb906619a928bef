/-! read -/
theorem d_read {n : Nat} {C D : Mem} {a b : Int} (ha : R3 a) (hb : R3 b) (hR : Rel n C D) : ∃ (r : Int) (C' D' : Mem), fn_X10_read 0 a b C = some (r, C') ∧ fn_X11_read 71 a b D = some (r, D') ∧ Rel n C' D' ∧ Ch C C' D D' := by
  have hR0 := hR
  obtain ⟨⟨kH, kN, kC, kT, kP⟩, rN, rH, rC, rT, rP⟩ := hR
  have hc0 := kC.1
  have he := kN.2.2.1
  have e4 : D 72 4 = C 1 10 := rN.2.2.2.2.1
  unfold fn_X10_read fn_X11_read
  simp (disch := omega) only [Nat.zero_add, p_isCoin ha hc0.1 hc0.2, q_isCoin (M := D) ha (by rw [rN.2.1]; exact hc0.1) (by rw [rN.2.1]; exact hc0.2), cu_s, cE_b2, rN.2.1, p_isWithin hb (a := 0) (b := 9999) ⟨by decide, by decide⟩ ⟨by decide, by decide⟩, p_in hb (a := 0) (b := 9999) ⟨by decide, by decide⟩ ⟨by decide, by decide⟩]
  by_cases g : 0 ≤ a ∧ a < C 1 7
  · simp only [if_pos g]
    by_cases g2 : 0 ≤ b ∧ b ≤ 9999
    · obtain ⟨c, hc⟩ := Int.eq_ofNat_of_zero_le g.1
      subst hc
      have hd := rC c (by omega)
      have z1 : (20 + 5 * (c : Int) + 1).toNat = 21 + 5 * c := by omega
      unfold fn_X0_start fn_X0_draw fn_X11_draw
      simp (disch := omega) only [if_pos g2, st_eq, cv_s, rd_eq, q_coinOf, cu_s, cl_s, nm_eq, Nat.reduceAdd, up_k, Nat.reduceEqDiff, and_false, false_and, and_self, if_false, if_true, cLt_if, if_neg, ck_R330, Int.toNat_natCast, Int.reduceToNat, z1, e4, hd.2.1]
      refine ⟨_, _, _, rfl, rfl, Rel_D (Rel_C hR0 (((Sm.rf).up rfl).up rfl)) (fun i => by simp [up_k]), ((Sm.rf).up rfl).up rfl, ((Sm.rf).up rfl).up rfl, by simp [up_k], by simp [up_k], fun i hi => ?_⟩
      simp only [up_k, true_and]; rw [if_neg (by omega), if_neg (by omega)]
    · simp only [if_neg g2]
      exact ⟨_, _, _, rfl, rfl, hR0, Ch.rf⟩
  · simp only [if_neg g]
    exact ⟨_, _, _, rfl, rfl, hR0, Ch.rf⟩
theorem s_read {j : Nat} {M : Mem} {a b : Int} (ha : R3 a) (hb : R3 b) (hc : Core j M) : ∃ (r : Int) (M1 M2 : Mem), fn_X10_read 0 a b M = some (r, M1) ∧ fn_X11_read 71 a b M1 = some (r, M2) ∧ Core (j + 1) M2 ∧ KX M M2 :=
  lift hc (fun D hD => d_read ha hb (Rel_D (Rel_of (Core_mono hc).1) (hD 72 (by decide))))
/-! about -/
def hsum (C : Mem) (h : Int) : Nat → Int
  | 0 => 0
  | k + 1 => hsum C h k + (if C 5 k = h then C 4 k else 0)
theorem p_held {n : Nat} {C : Mem} {h : Int} (hO : OkS 1 n C) (hh : R3 h) {m : Nat} (hm : C 1 7 = (m : Int)) : fn_X4_weightHeldBy 1 h C = some (hsum C h m) := by
  obtain ⟨kH, kN, kC, kT, kP⟩ := hO
  have hh0 := kH.1
  have hc0 := kC.1
  unfold fn_X4_weightHeldBy
  refine lr2 (P := fun o => o = some (hsum C h m)) (I := fun k a b => a = (m : Int) - (k : Int) ∧ k ≤ m ∧ b = hsum C h (m - k)) ?_ m FU 0 0 (lt_FU (by omega)) ⟨by omega, Nat.le_refl _, by rw [Nat.sub_self]; rfl⟩
  intro k a b rec ⟨h1, h2, h3⟩ ih
  unfold fn_X4_weightHeldBy_L4 fn_X4_weightHeldBy_J37
  simp (disch := omega) only [cLt_if, hm, nm_eq]
  by_cases q : a < (m : Int)
  · rw [if_pos q, if_pos (by omega)]
    obtain ⟨k, rfl⟩ : ∃ k', k = k' + 1 := ⟨k - 1, by omega⟩
    have hb := kC.2 (m - (k + 1)) (by omega)
    have ta : a.toNat = m - (k + 1) := by omega
    simp only [Nat.reduceAdd] at hb
    have hs : hsum C h (m - k) = hsum C h (m - (k + 1)) + (if C 5 (m - (k + 1)) = h then C 4 (m - (k + 1)) else 0) := by
      rw [show m - k = (m - (k + 1)) + 1 by omega]; rfl
    simp (disch := omega) only [rd_eq, ta, cEq_if, Nat.reduceAdd]
    by_cases q2 : C 5 (m - (k + 1)) = h
    · rw [if_pos q2]; refine ih k _ _ (by omega) ⟨by omega, by omega, ?_⟩
      rw [hs, if_pos q2, h3]
    · rw [if_neg q2]; refine ih k _ _ (by omega) ⟨by omega, by omega, ?_⟩
      rw [hs, if_neg q2, h3]; omega
  · rw [if_neg q, h3, show m - k = m by omega]
theorem q_held {n : Nat} {C D : Mem} {h : Int} (hR : Rel n C D) (hh : R3 h) {m : Nat} (hm : C 1 7 = (m : Int)) : fn_X11_heldBy 71 h D = some (hsum C h m) := by
  obtain ⟨⟨kH, kN, kC, kT, kP⟩, rN, rH, rC, rT, rP⟩ := hR
  have hh0 := kH.1
  have hc0 := kC.1
  have e1 : D 72 1 = (m : Int) := by rw [rN.2.1, hm]
  unfold fn_X11_heldBy
  refine lr2 (P := fun o => o = some (hsum C h m)) (I := fun k a b => a = (m : Int) - (k : Int) ∧ k ≤ m ∧ b = hsum C h (m - k)) ?_ m FU 0 0 (lt_FU (by omega)) ⟨by omega, Nat.le_refl _, by rw [Nat.sub_self]; rfl⟩
  intro k a b rec ⟨h1, h2, h3⟩ ih
  unfold fn_X11_heldBy_L4 fn_X11_heldBy_J35
  simp (disch := omega) only [rd_eq, Int.reduceToNat, Nat.reduceAdd, e1, cLt_if, nm_eq]
  by_cases q : a < (m : Int)
  · rw [if_pos q]
    obtain ⟨k, rfl⟩ : ∃ k', k = k' + 1 := ⟨k - 1, by omega⟩
    have hb := kC.2 (m - (k + 1)) (by omega)
    have hd := rC (m - (k + 1)) (by omega)
    simp only [Nat.reduceAdd] at hb
    have z1 : (20 + 5 * a + 1).toNat = 21 + 5 * (m - (k + 1)) := by omega
    have z2 : (20 + 5 * a + 2).toNat = 22 + 5 * (m - (k + 1)) := by omega
    have hs : hsum C h (m - k) = hsum C h (m - (k + 1)) + (if C 5 (m - (k + 1)) = h then C 4 (m - (k + 1)) else 0) := by
      rw [show m - k = (m - (k + 1)) + 1 by omega]; rfl
    simp (disch := omega) only [q_coinOf, z1, z2, hd.2.1, hd.2.2.1, cu_s, cEq_if]
    by_cases q2 : C 5 (m - (k + 1)) = h
    · rw [if_pos q2]; refine ih k _ _ (by omega) ⟨by omega, by omega, ?_⟩
      rw [hs, if_pos q2, h3]
    · rw [if_neg q2]; refine ih k _ _ (by omega) ⟨by omega, by omega, ?_⟩
      rw [hs, if_neg q2, h3]
  · rw [if_neg q, h3, show m - k = m by omega]
theorem w3_eq {x : Int} (h1 : -2147483668 ≤ x) (h2 : x ≤ 2147483647) : R3 (w3 x) ∧ ((w3 x = x) ∨ (w3 x = x + 4294967296 ∧ x < -2147483648)) := by
  have hb : ∀ z : Int, z.bmod 4294967296 = if z % 4294967296 < 2147483648 then z % 4294967296 else z % 4294967296 - 4294967296 := fun z => by rw [Int.bmod_def]; rfl
  have e : w3 x = x.bmod 4294967296 := Int32.toInt_ofInt
  rw [e, hb]
  constructor
  · constructor <;> split <;> omega
  · split <;> omega
theorem q_isHw {x : Int} {M : Mem} (h1 : -2147483668 ≤ x) (h2 : x ≤ 2147483647) (h0 : 0 ≤ M 72 0) (h10 : M 72 0 ≤ 10) : fn_X11_isHand 71 (w3 x) M = some (b2 (0 ≤ x ∧ x < M 72 0)) := by
  have hw := w3_eq h1 h2
  rw [q_isHand hw.1 h0 h10]
  congr 1
  by_cases g : 0 ≤ x ∧ x < M 72 0
  · rw [b2_t g, b2_t (by omega)]
  · rw [b2_f g, b2_f (by omega)]
theorem ite_ex {P : Prop} [Decidable P] {a : Int} {o : Option Int} (h : ∃ r, o = some r) : ∃ r, (if P then some a else o) = some r := by
  by_cases q : P
  · rw [if_pos q]; exact ⟨_, rfl⟩
  · rw [if_neg q]; exact h
theorem s_about {j : Nat} {M : Mem} {a1 : Int} (h1 : R3 a1) (hc : Core j M) : ∃ (r : Int), fn_X10_about 0 a1 M = some r ∧ fn_X11_about 71 a1 M = some r ∧ Core (j + 1) M ∧ KX M M := by
  have hq := quiet hc
  have hR := Rel_of (Core_mono hc).1
  have hR0 := hR
  obtain ⟨⟨kH, kN, kC, kT, kP⟩, rN, rH, rC, rT, rP⟩ := hR
  have hh0 := kH.1
  have hc0 := kC.1
  have t3 : M 71 3 = M 29 1 := hc.2.2.1.1
  obtain ⟨m, hm⟩ := Int.eq_ofNat_of_zero_le hc0.1
  unfold fn_X10_about fn_X11_about
  simp only [ck_t h1]
  have i1 : fn_X11_isHand 71 (w3 (a1 - 10)) M = some (b2 (0 ≤ a1 - 10 ∧ a1 - 10 < M 1 1)) := by rw [q_isHw (by omega) (by omega) (by rw [rN.1]; exact hh0.1) (by rw [rN.1]; exact hh0.2), rN.1]
  have i2 : fn_X11_isHand 71 (w3 (a1 - 20)) M = some (b2 (0 ≤ a1 - 20 ∧ a1 - 20 < M 1 1)) := by rw [q_isHw (by omega) (by omega) (by rw [rN.1]; exact hh0.1) (by rw [rN.1]; exact hh0.2), rN.1]
  have j0 : ∀ (i : Int) (f : Int → Option Int), 0 ≤ i → i < 9 → rd M 72 288 i f = f (M 72 i.toNat) := fun i f p q => rd_eq p (by omega)
  simp only [Nat.zero_add, Nat.reduceAdd, p_isWithin h1 (a := 10) (b := 19) ⟨by decide, by decide⟩ ⟨by decide, by decide⟩, p_isWithin h1 (a := 20) (b := 29) ⟨by decide, by decide⟩ ⟨by decide, by decide⟩, cu_s, cE_b2, i1, i2, j0 0 _ (by decide) (by decide), j0 1 _ (by decide) (by decide), j0 2 _ (by decide) (by decide), j0 3 _ (by decide) (by decide), j0 4 _ (by decide) (by decide), j0 5 _ (by decide) (by decide), j0 6 _ (by decide) (by decide), j0 7 _ (by decide) (by decide), j0 8 _ (by decide) (by decide), Int.reduceToNat, rN.1, rN.2.1, rN.2.2.1, rN.2.2.2.1, rN.2.2.2.2.1, rN.2.2.2.2.2.1, rN.2.2.2.2.2.2.1, rN.2.2.2.2.2.2.2.1, rN.2.2.2.2.2.2.2.2, t3]
  by_cases g1 : 10 ≤ a1 ∧ a1 ≤ 19
  · have r3 : R3 (a1 - 10) := ⟨by omega, by omega⟩
    simp (disch := omega) only [if_pos g1, if_neg, p_isHand r3 hh0.1 hh0.2, cu_s, cE_b2]
    by_cases g2 : 0 ≤ a1 - 10 ∧ a1 - 10 < M 1 1
    · simp (disch := omega) only [if_pos g2, rd_eq]
      refine ⟨_, rfl, ?_, hq⟩
      have := rH (a1 - 10).toNat (by omega)
      rw [show 10 + (a1 - 10).toNat = (10 + a1 - 10).toNat by omega] at this
      rw [this]
    · simp (disch := omega) only [if_neg g2, if_neg]
      exact ⟨_, rfl, rfl, hq⟩
  · simp only [if_neg g1]
    by_cases g2 : 20 ≤ a1 ∧ a1 ≤ 29
    · have r3 : R3 (a1 - 20) := ⟨by omega, by omega⟩
      simp (disch := omega) only [if_pos g2, if_neg, p_isHand r3 hh0.1 hh0.2, cu_s, cE_b2]
      by_cases g3 : 0 ≤ a1 - 20 ∧ a1 - 20 < M 1 1
      · simp only [if_pos g3, p_held hR0.1 r3 hm, q_held hR0 r3 hm, cu_s]
        exact ⟨_, rfl, rfl, hq⟩
      · simp only [if_neg g3]
        exact ⟨_, rfl, rfl, hq⟩
    · simp only [if_neg g2]
      rw [if_neg (show ¬ (0 ≤ a1 - 10 ∧ a1 - 10 < M 1 1) by omega), if_neg (show ¬ (0 ≤ a1 - 20 ∧ a1 - 20 < M 1 1) by omega)]
      have hx : ∀ o : Option Int, (∃ r, o = some r) → ∃ r, o = some r ∧ o = some r ∧ Core (j + 1) M ∧ KX M M := fun o ⟨r, hr⟩ => ⟨r, hr, hr, hq⟩
      exact hx _ (ite_ex (ite_ex (ite_ex (ite_ex (ite_ex (ite_ex (ite_ex (ite_ex (ite_ex (ite_ex ⟨_, rfl⟩))))))))))
