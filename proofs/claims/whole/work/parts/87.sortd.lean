/-! sorted: the class counts, finds the least, places the CUTS -/
def wm (M : Mem) (a t : Nat) : Int := M 68 (6 * a + t)
def lm (M : Mem) (a t : Nat) : Int := M 69 (6 * a + t)
theorem Me_f {M M' : Mem} {m : Nat} {E : Nat → Nat} (h1 : M' 65 2 = M 65 2) (h2 : ∀ i, M' 67 i = M 67 i) (h : Me M m E) : Me M' m E := by
  unfold Me at h ⊢; rw [h1]; simp only [h2]; exact h
/-- one COIN -/
theorem p_cw58 {M : Mem} {nc T m c r : Nat} {E : Nat → Nat} {wt tr : Nat → Int} {rec26 : Int → Mem → Option Mem} (hC : Cc M nc wt tr) (hT : T ≤ 6) (hc : c < nc) (hr : r < 21) :
    ∃ M', lq2 (fn_X9_countWrong_L58 65 1 T c rec26 ((r : Int) * 6)) FU 0 M = fn_X9_countWrong_J125 c rec26 M' ∧ (∀ k i, k ≠ 68 → M' k i = M k i) ∧ ∀ a t, t < 6 → wm M' a t = wm M a t + (if t < T ∧ tr c ≠ -1 ∧ tr c ≠ (t : Int) ∧ r = a then 1 else 0) := by
  refine lr2 (P := fun o => ∃ M', o = fn_X9_countWrong_J125 c rec26 M' ∧ (∀ k i, k ≠ 68 → M' k i = M k i) ∧ ∀ a t, t < 6 → wm M' a t = wm M a t + (if t < T ∧ tr c ≠ -1 ∧ tr c ≠ (t : Int) ∧ r = a then 1 else 0)) (I := fun q x G => ∃ j : Nat, j + q = T ∧ x = (j : Int) ∧ (∀ k i, k ≠ 68 → G k i = M k i) ∧ ∀ a t, t < 6 → wm G a t = wm M a t + (if t < j ∧ tr c ≠ -1 ∧ tr c ≠ (t : Int) ∧ r = a then 1 else 0)) ?_ T FU 0 M (lt_FU (by omega)) ⟨0, by omega, rfl, fun _ _ _ => rfl, fun a t _ => by rw [if_neg (by omega), Int.add_zero]⟩
  rintro q x G rec ⟨j, e1, rfl, e2, e3⟩ ih
  obtain ⟨c0, c1, c2⟩ := hC
  obtain ⟨d1, d2, d3, d4⟩ := c2 c hc
  unfold fn_X9_countWrong_L58 fn_X9_countWrong_J119
  simp only [nm_eq, Nat.reduceAdd]
  rw [cLt_if (by omega) (by omega) (by omega) (by omega)]
  by_cases q1 : (j : Int) < (T : Int)
  · obtain ⟨q, rfl⟩ : ∃ r', q = r' + 1 := ⟨q - 1, by omega⟩
    have skip : ¬ (tr c ≠ -1 ∧ tr c ≠ (j : Int)) → ∃ M', rec ((j : Int) + 1) G = fn_X9_countWrong_J125 c rec26 M' ∧ (∀ k i, k ≠ 68 → M' k i = M k i) ∧ ∀ a t, t < 6 → wm M' a t = wm M a t + (if t < T ∧ tr c ≠ -1 ∧ tr c ≠ (t : Int) ∧ r = a then 1 else 0) := fun hn => by
      refine ih q _ _ (by omega) ⟨j + 1, by omega, by omega, e2, fun a t ht => ?_⟩
      rw [e3 a t ht]
      congr 1
      by_cases q3 : t < j ∧ tr c ≠ -1 ∧ tr c ≠ (t : Int) ∧ r = a
      · rw [if_pos q3, if_pos ⟨by omega, q3.2⟩]
      · rw [if_neg q3, if_neg (fun h => ?_)]
        by_cases q4 : t = j
        · subst q4; exact hn ⟨h.2.1, h.2.2.1⟩
        · exact q3 ⟨by omega, h.2⟩
    rw [if_pos q1, cLt_if (by omega) (by omega) (by decide) (by decide), if_pos (by omega), rd_eq (by omega) (by omega), Int.toNat_natCast, e2 7 c (by decide), d2, cEq_if (by omega) (by omega) (by decide) (by decide)]
    by_cases q2 : tr c = -1
    · rw [if_pos q2]; exact skip (fun h => h.1 q2)
    · rw [if_neg q2, rd_eq (by omega) (by omega), Int.toNat_natCast, e2 7 c (by decide), d2, cEq_if (by omega) (by omega) (by omega) (by omega)]
      by_cases q3 : tr c = (j : Int)
      · rw [if_pos q3]; exact skip (fun h => h.2 q3)
      · rw [if_neg q3, cLt_if (by omega) (by omega) (by omega) (by omega), if_pos (by omega), rd_eq (by omega) (by omega), wr_eq (by omega) (by omega), show ((r : Int) * 6 + (j : Int)).toNat = 6 * r + j by omega]
        refine ih q _ _ (by omega) ⟨j + 1, by omega, by omega, fun k i hk => by rw [up_o hk]; exact e2 k i hk, fun a t ht => ?_⟩
        unfold wm
        rw [up_i]
        by_cases q4 : 6 * a + t = 6 * r + j
        · have ea : a = r := by omega
          have et : t = j := by omega
          have h3 := e3 a t ht
          unfold wm at h3
          rw [if_neg (by omega)] at h3
          rw [if_pos q4, if_pos ⟨by omega, q2, by rw [et]; exact q3, ea.symm⟩, ← q4, h3]; omega
        · have h3 := e3 a t ht
          unfold wm at h3
          rw [if_neg q4, h3]
          congr 1
          by_cases q5 : t < j ∧ tr c ≠ -1 ∧ tr c ≠ (t : Int) ∧ r = a
          · rw [if_pos q5, if_pos ⟨by omega, q5.2⟩]
          · rw [if_neg q5, if_neg (fun h => ?_)]
            by_cases q6 : t = j
            · have := h.2.2.2; omega
            · exact q5 ⟨by omega, h.2⟩
  · rw [if_neg q1]
    obtain rfl : j = T := by omega
    exact ⟨G, rfl, e2, e3⟩
theorem p_count {M : Mem} {nc T m : Nat} {E : Nat → Nat} {wt tr : Nat → Int} (hC : Cc M nc wt tr) (hM : Me M m E) (hE : Eg m E) (hT : T ≤ 6) :
    ∃ M', fn_X9_countWrong 65 1 T M = some M' ∧ (∀ k i, k ≠ 68 → M' k i = M k i) ∧ ∀ a t, a < 21 → t < T → wm M' a t = wrs nc wt tr m E a t := by
  have h20 := hC.2.1
  have hz : ∃ M1, fn_X9_countWrong 65 1 T M = fn_X9_countWrong_J24 65 1 T M1 ∧ (∀ k i, k ≠ 68 → M1 k i = M k i) ∧ ∀ i, i < 126 → M1 68 i = 0 := by
    unfold fn_X9_countWrong
    refine lr2 (P := fun o => ∃ M1, o = fn_X9_countWrong_J24 65 1 T M1 ∧ (∀ k i, k ≠ 68 → M1 k i = M k i) ∧ ∀ i, i < 126 → M1 68 i = 0) (I := fun q x G => ∃ j : Nat, j + q = 126 ∧ x = (j : Int) ∧ (∀ k i, k ≠ 68 → G k i = M k i) ∧ ∀ i, i < j → G 68 i = 0) ?_ 126 FU 0 M (lt_FU (by omega)) ⟨0, by omega, rfl, fun _ _ _ => rfl, fun i hi => by omega⟩
    rintro q x G rec ⟨j, e1, rfl, e2, e3⟩ ih
    unfold fn_X9_countWrong_L2
    rw [cLt_if (by omega) (by omega) (by omega) (by omega)]
    by_cases q1 : (j : Int) < ((126 : Nat) : Int)
    · obtain ⟨q, rfl⟩ : ∃ r', q = r' + 1 := ⟨q - 1, by omega⟩
      rw [if_pos q1, wr_eq (by omega) (by omega), nm_eq, Int.toNat_natCast]
      refine ih q _ _ (by omega) ⟨j + 1, by omega, by omega, fun k i hk => by rw [up_o hk]; exact e2 k i hk, fun i hi => ?_⟩
      rw [show 65 + 3 = 68 from rfl, up_i]
      by_cases q2 : i = j
      · rw [if_pos q2]
      · rw [if_neg q2]; exact e3 i (by omega)
    · rw [if_neg q1]
      obtain rfl : j = 126 := by omega
      exact ⟨G, rfl, e2, e3⟩
  obtain ⟨M1, f1, f2, f3⟩ := hz
  rw [f1]
  unfold fn_X9_countWrong_J24
  refine lr2 (P := fun o => ∃ M', o = some M' ∧ (∀ k i, k ≠ 68 → M' k i = M k i) ∧ ∀ a t, a < 21 → t < T → wm M' a t = wrs nc wt tr m E a t) (I := fun q x G => ∃ j : Nat, j + q = nc ∧ x = (j : Int) ∧ (∀ k i, k ≠ 68 → G k i = M k i) ∧ ∀ a t, a < 21 → t < T → wm G a t = sm j (fun c => if tr c ≠ -1 ∧ tr c ≠ (t : Int) ∧ ebi E (wt c) m = a then 1 else 0)) ?_ nc FU 0 M1 (lt_FU (by omega)) ⟨0, by omega, rfl, f2, fun a t ha ht => by unfold wm; rw [f3 _ (by omega)]; rfl⟩
  rintro q x G rec ⟨j, e1, rfl, e2, e3⟩ ih
  have hCG : Cc G nc wt tr := by
    unfold Cc at hC ⊢
    rw [e2 1 7 (by decide)]
    exact ⟨hC.1, hC.2.1, fun c hc => by rw [e2 4 c (by decide), e2 7 c (by decide)]; exact hC.2.2 c hc⟩
  have hMG := Me_f (e2 65 2 (by decide)) (fun i => e2 67 i (by decide)) hM
  unfold fn_X9_countWrong_L26
  simp only [nm_eq, Nat.reduceAdd]
  rw [hCG.1, cLt_if (by omega) (by omega) (by omega) (by omega)]
  by_cases q1 : (j : Int) < (nc : Int)
  · obtain ⟨q, rfl⟩ : ∃ r', q = r' + 1 := ⟨q - 1, by omega⟩
    obtain ⟨d1, d2, d3, d4⟩ := hCG.2.2 j (by omega)
    obtain ⟨r1, r2, r3⟩ := ebi_s (E := E) (x := wt j) hE.2.1 d3.1 m hE.1
    have hm := hM.2.1
    obtain ⟨G', g1, g2, g3⟩ := p_cw58 (m := m) (E := E) (c := j) (r := ebi E (wt j) m) (rec26 := rec) hCG hT (by omega) (by omega)
    rw [if_pos q1, cLt_if (by omega) (by omega) (by decide) (by decide), if_pos (by omega), rd_eq (by omega) (by omega), Int.toNat_natCast, d1, p_eb hMG hE d3, cu_s, g1]
    unfold fn_X9_countWrong_J125
    rw [nm_eq]
    refine ih q _ _ (by omega) ⟨j + 1, by omega, by omega, fun k i hk => by rw [g2 k i hk]; exact e2 k i hk, fun a t ha ht => ?_⟩
    rw [g3 a t (by omega), e3 a t ha ht, sm_s]
    by_cases q2 : tr j ≠ -1 ∧ tr j ≠ (t : Int) ∧ ebi E (wt j) m = a
    · rw [if_pos q2, if_pos ⟨ht, q2⟩]
    · rw [if_neg q2, if_neg (fun h => q2 h.2)]
  · rw [if_neg q1]
    obtain rfl : j = nc := by omega
    exact ⟨G, rfl, e2, e3⟩
theorem p_set {M : Mem} {a j : Nat} {v : Int} (ha : a ≤ 21) (hj : j < 6) : fn_X9_setLeast 65 a j v M = some (up M 69 (6 * a + j) v) := by
  unfold fn_X9_setLeast
  rw [nm_eq, cLt_if (by omega) (by omega) (by decide) (by decide), if_neg (by omega), cLt_if (by omega) (by omega) (by omega) (by omega), if_pos (by omega), wr_eq (by omega) (by omega), show ((a : Int) * 6 + (j : Int)).toNat = 6 * a + j by omega]
theorem p_wrongBy {M : Mem} {a j : Nat} (ha : a < 21) (hj : j < 6) (h1 : 0 ≤ wm M a j ∧ wm M a j ≤ 20) (h2 : 0 ≤ lm M (a + 1) j ∧ lm M (a + 1) j ≤ 1000) : fn_X9_wrongBy 65 a j M = some (Xw (wm M) (lm M) a j) := by
  unfold fn_X9_wrongBy
  have e1 : M 68 (6 * a + j) = wm M a j := rfl
  have e2 : M 69 (6 * (a + 1) + j) = lm M (a + 1) j := rfl
  rw [nm_eq, nm_eq, cLt_if (by omega) (by omega) (by decide) (by decide), if_neg (by omega), cLt_if (by omega) (by omega) (by omega) (by omega), if_pos (by omega), cLt_if (by omega) (by omega) (by omega) (by omega), if_pos (by omega), rd_eq (by omega) (by omega), rd_eq (by omega) (by omega), show ((a : Int) * 6 + (j : Int)).toNat = 6 * a + j by omega, show ((a : Int) * 6 + (j : Int) + 6).toNat = 6 * (a + 1) + j by omega, show 65 + 3 = 68 from rfl, show 65 + 4 = 69 from rfl, e1, e2, ck_R33 (by omega) (by omega) (by decide) (by decide)]
  rfl
def LB (M : Mem) (T a : Nat) : Prop := ∀ j, j < T → 0 ≤ lm M a j ∧ lm M a j ≤ 1000
def WB (M : Mem) (T m : Nat) : Prop := ∀ a j, a < m → j < T → 0 ≤ wm M a j ∧ wm M a j ≤ 20
theorem p_fl68 {M : Mem} {T m a j : Nat} {rec55 : Int → Mem → Option Mem} (hT : T ≤ 6) (hm : m ≤ 21) (ha : a < m) (hj : j < T) (hW : WB M T m) (hL : LB M T (a + 1)) :
    ∃ v, lq2 (fn_X9_findLeast_L68 65 T a j M rec55) FU j 1000 = fn_X9_findLeast_J94 65 a j M rec55 v ∧ (∀ th, j ≤ th → th < T → v ≤ Xw (wm M) (lm M) a th) ∧ (∃ th, j ≤ th ∧ th < T ∧ v = Xw (wm M) (lm M) a th) ∧ 0 ≤ v ∧ v ≤ 1000 := by
  have xb : ∀ th, th < T → 0 ≤ Xw (wm M) (lm M) a th ∧ Xw (wm M) (lm M) a th ≤ 1000 := fun th ht => by
    have := hW a th ha ht; have := hL th ht; unfold Xw; omega
  refine lr2 (P := fun o => ∃ v, o = fn_X9_findLeast_J94 65 a j M rec55 v ∧ (∀ th, j ≤ th → th < T → v ≤ Xw (wm M) (lm M) a th) ∧ (∃ th, j ≤ th ∧ th < T ∧ v = Xw (wm M) (lm M) a th) ∧ 0 ≤ v ∧ v ≤ 1000) (I := fun q x v => ∃ d : Nat, d + q = T ∧ j ≤ d ∧ x = (d : Int) ∧ (∀ th, j ≤ th → th < d → v ≤ Xw (wm M) (lm M) a th) ∧ ((v = 1000 ∧ d = j) ∨ ∃ th, j ≤ th ∧ th < d ∧ v = Xw (wm M) (lm M) a th)) ?_ (T - j) FU j 1000 (lt_FU (by omega)) ⟨j, by omega, Nat.le_refl _, rfl, fun th a b => by omega, Or.inl ⟨rfl, rfl⟩⟩
  rintro q x v rec ⟨d, e1, e2, rfl, e3, e4⟩ ih
  unfold fn_X9_findLeast_L68
  simp only [nm_eq]
  rw [cLt_if (by omega) (by omega) (by omega) (by omega)]
  have vb : 0 ≤ v ∧ v ≤ 1000 := by
    rcases e4 with ⟨h, _⟩ | ⟨th, h1, h2, h3⟩
    · omega
    · have := xb th (by omega); omega
  by_cases q1 : (d : Int) < (T : Int)
  · obtain ⟨q, rfl⟩ : ∃ r', q = r' + 1 := ⟨q - 1, by omega⟩
    have xd := xb d (by omega)
    rw [if_pos q1, p_wrongBy (by omega) (by omega) (hW a d ha (by omega)) (hL d (by omega)), cu_s, ck_R33 (by omega) (by omega) (by omega) (by omega)]
    refine ih q _ _ (by omega) ⟨d + 1, by omega, by omega, by omega, fun th a1 b => ?_, Or.inr ?_⟩
    · by_cases q2 : th = d
      · subst q2; omega
      · have := e3 th a1 (by omega); omega
    · by_cases q2 : Xw (wm M) (lm M) a d ≤ v
      · exact ⟨d, e2, by omega, by omega⟩
      · rcases e4 with ⟨h, rfl⟩ | ⟨th, h1, h2, h3⟩
        · omega
        · exact ⟨th, h1, by omega, by omega⟩
  · rw [if_neg q1]
    obtain rfl : d = T := by omega
    rcases e4 with ⟨h, h'⟩ | ⟨th, h1, h2, h3⟩
    · omega
    · exact ⟨v, rfl, e3, ⟨th, h1, h2, h3⟩, vb.1, vb.2⟩
/-- one EDGE's least -/
def Lpp (M : Mem) (T a j : Nat) : Prop := (∀ th, j ≤ th → th < T → lm M a j ≤ Xw (wm M) (lm M) a th) ∧ ∃ th, j ≤ th ∧ th < T ∧ lm M a j = Xw (wm M) (lm M) a th
theorem Xw_f {M M' : Mem} {a th : Nat} (h1 : ∀ i, M' 68 i = M 68 i) (h2 : lm M' (a + 1) th = lm M (a + 1) th) : Xw (wm M') (lm M') a th = Xw (wm M) (lm M) a th := by
  unfold Xw; rw [h2]; unfold wm; rw [h1]
theorem Lpp_f {M M' : Mem} {T a j : Nat} (h1 : ∀ i, M' 68 i = M 68 i) (h2 : ∀ th, th < T → lm M' (a + 1) th = lm M (a + 1) th) (h3 : lm M' a j = lm M a j) (h : Lpp M T a j) : Lpp M' T a j := by
  refine ⟨fun th x y => by rw [h3, Xw_f h1 (h2 th y)]; exact h.1 th x y, ?_⟩
  obtain ⟨th, k1, k2, k3⟩ := h.2
  exact ⟨th, k1, k2, by rw [h3, Xw_f h1 (h2 th k2)]; exact k3⟩
theorem p_fl55 {M : Mem} {T m a : Nat} {rec49 : Int → Mem → Option Mem} (hT : T ≤ 6) (hm : m ≤ 21) (ha : a < m) (hW : WB M T m) (hL : LB M T (a + 1)) :
    ∃ M', lq2 (fn_X9_findLeast_L55 65 T a rec49) FU 0 M = fn_X9_findLeast_J108 a rec49 M' ∧ (∀ k i, k ≠ 69 → M' k i = M k i) ∧ (∀ i, 6 * (a + 1) ≤ i → M' 69 i = M 69 i) ∧ (∀ j, j < T → Lpp M' T a j) ∧ LB M' T a := by
  refine lr2 (P := fun o => ∃ M', o = fn_X9_findLeast_J108 a rec49 M' ∧ (∀ k i, k ≠ 69 → M' k i = M k i) ∧ (∀ i, 6 * (a + 1) ≤ i → M' 69 i = M 69 i) ∧ (∀ j, j < T → Lpp M' T a j) ∧ LB M' T a) (I := fun q x G => ∃ d : Nat, d + q = T ∧ x = (d : Int) ∧ (∀ k i, k ≠ 69 → G k i = M k i) ∧ (∀ i, 6 * (a + 1) ≤ i → G 69 i = M 69 i) ∧ ∀ j, j < d → Lpp G T a j ∧ 0 ≤ lm G a j ∧ lm G a j ≤ 1000) ?_ T FU 0 M (lt_FU (by omega)) ⟨0, by omega, rfl, fun _ _ _ => rfl, fun _ _ => rfl, fun j hj => by omega⟩
  rintro q x G rec ⟨d, e1, rfl, e2, e3, e4⟩ ih
  unfold fn_X9_findLeast_L55
  rw [cLt_if (by omega) (by omega) (by omega) (by omega)]
  by_cases q1 : (d : Int) < (T : Int)
  · obtain ⟨q, rfl⟩ : ∃ r', q = r' + 1 := ⟨q - 1, by omega⟩
    have hWG : WB G T m := fun a' j x y => by unfold wm; rw [e2 68 _ (by decide)]; exact hW a' j x y
    have hLG : LB G T (a + 1) := fun j x => by unfold lm; rw [e3 _ (by omega)]; exact hL j x
    obtain ⟨v, f1, f2, f3, f4, f5⟩ := p_fl68 (j := d) (rec55 := rec) hT hm ha (by omega) hWG hLG
    rw [if_pos q1, f1]
    unfold fn_X9_findLeast_J94
    rw [p_set (by omega) (by omega), cv_s, nm_eq]
    have hl : ∀ a' j, ¬ (6 * a' + j = 6 * a + d) → lm (up G 69 (6 * a + d) v) a' j = lm G a' j := fun a' j h => by unfold lm; rw [up_i, if_neg h]
    refine ih q _ _ (by omega) ⟨d + 1, by omega, by omega, fun k i hk => by rw [up_o hk]; exact e2 k i hk, fun i hi => by rw [up_i, if_neg (by omega)]; exact e3 i hi, fun j hj => ?_⟩
    have xf : ∀ th, th < T → Xw (wm (up G 69 (6 * a + d) v)) (lm (up G 69 (6 * a + d) v)) a th = Xw (wm G) (lm G) a th := fun th h => Xw_f (fun i => up_o (by decide)) (hl _ _ (by omega))
    by_cases q2 : j = d
    · subst q2
      have e9 : lm (up G 69 (6 * a + j) v) a j = v := by unfold lm; rw [up_i, if_pos rfl]
      rw [e9]
      refine ⟨⟨fun th x y => by rw [e9, xf th y]; exact f2 th x y, ?_⟩, f4, f5⟩
      obtain ⟨th, k1, k2, k3⟩ := f3
      exact ⟨th, k1, k2, by rw [e9, xf th k2]; exact k3⟩
    · have h9 := e4 j (by omega)
      rw [hl a j (by omega)]
      exact ⟨Lpp_f (fun i => up_o (by decide)) (fun th h => hl _ _ (by omega)) (hl _ _ (by omega)) h9.1, h9.2⟩
  · rw [if_neg q1]
    obtain rfl : d = T := by omega
    exact ⟨G, rfl, e2, e3, fun j hj => (e4 j hj).1, fun j hj => (e4 j hj).2⟩
theorem p_least {M : Mem} {T m : Nat} (hT : 2 ≤ T ∧ T ≤ 6) (hm : 1 ≤ m ∧ m ≤ 21) (hm2 : M 65 2 = (m : Int)) (hW : WB M T m) :
    ∃ M', fn_X9_findLeast 65 T M = some M' ∧ (∀ k i, k ≠ 69 → M' k i = M k i) ∧ CP (wm M') (lm M') T m ∧ ∀ a, a ≤ m → LB M' T a := by
  have h1 : ∃ M1, fn_X9_findLeast 65 T M = fn_X9_findLeast_J42 65 T M1 ∧ (∀ k i, k ≠ 69 → M1 k i = M k i) ∧ ∀ j, j < T → lm M1 m j = if j + 1 = T then 0 else 1000 := by
    unfold fn_X9_findLeast
    refine lr2 (P := fun o => ∃ M1, o = fn_X9_findLeast_J42 65 T M1 ∧ (∀ k i, k ≠ 69 → M1 k i = M k i) ∧ ∀ j, j < T → lm M1 m j = if j + 1 = T then 0 else 1000) (I := fun q x G => ∃ d : Nat, d + q = T ∧ x = (d : Int) ∧ (∀ k i, k ≠ 69 → G k i = M k i) ∧ ∀ j, j < d → lm G m j = if j + 1 = T then 0 else 1000) ?_ T FU 0 M (lt_FU (by omega)) ⟨0, by omega, rfl, fun _ _ _ => rfl, fun j hj => by omega⟩
    rintro q x G rec ⟨d, e1, rfl, e2, e3⟩ ih
    unfold fn_X9_findLeast_L2 fn_X9_findLeast_J33
    simp only [nm_eq]
    rw [cLt_if (by omega) (by omega) (by omega) (by omega)]
    by_cases q1 : (d : Int) < (T : Int)
    · obtain ⟨q, rfl⟩ : ∃ r', q = r' + 1 := ⟨q - 1, by omega⟩
      have key : ∀ v, v = (if d + 1 = T then 0 else 1000) → ∃ M1, rec ((d : Int) + 1) (up G 69 (6 * m + d) v) = fn_X9_findLeast_J42 65 T M1 ∧ (∀ k i, k ≠ 69 → M1 k i = M k i) ∧ ∀ j, j < T → lm M1 m j = if j + 1 = T then 0 else 1000 := fun v hv => by
        refine ih q _ _ (by omega) ⟨d + 1, by omega, by omega, fun k i hk => by rw [up_o hk]; exact e2 k i hk, fun j hj => ?_⟩
        unfold lm; rw [up_i]
        by_cases q2 : j = d
        · rw [if_pos (by omega), hv, q2]
        · rw [if_neg (by omega)]; exact e3 j (by omega)
      rw [if_pos q1, cLt_if (by omega) (by omega) (by decide) (by decide), if_pos (by omega), cEq_if (by omega) (by omega) (by omega) (by omega), e2 65 2 (by decide), hm2, p_set (by omega) (by omega), p_set (by omega) (by omega), cv_s, cv_s]
      by_cases q2 : (d : Int) = (T : Int) - 1
      · rw [if_pos q2]; exact key 0 (by rw [if_pos (by omega)])
      · rw [if_neg q2]; exact key 1000 (by rw [if_neg (by omega)])
    · rw [if_neg q1]
      obtain rfl : d = T := by omega
      exact ⟨G, rfl, e2, e3⟩
  obtain ⟨M1, f1, f2, f3⟩ := h1
  rw [f1]
  unfold fn_X9_findLeast_J42
  rw [nm_eq, f2 65 2 (by decide), hm2]
  refine lr2 (P := fun o => ∃ M', o = some M' ∧ (∀ k i, k ≠ 69 → M' k i = M k i) ∧ CP (wm M') (lm M') T m ∧ ∀ a, a ≤ m → LB M' T a) (I := fun q x G => q ≤ m ∧ x = (q : Int) - 1 ∧ (∀ k i, k ≠ 69 → G k i = M k i) ∧ (∀ j, j < T → lm G m j = if j + 1 = T then 0 else 1000) ∧ (∀ a j, q ≤ a → a < m → j < T → Lpp G T a j) ∧ ∀ a, q ≤ a → a ≤ m → LB G T a) ?_ m FU _ M1 (lt_FU (by omega)) ⟨Nat.le_refl _, rfl, f2, f3, fun a j x y => by omega, fun a x y j hj => ?_⟩
  · rintro q x G rec ⟨e1, e2, e3, e4, e5, e6⟩ ih
    unfold fn_X9_findLeast_L49
    rw [cLt_if (by omega) (by omega) (by decide) (by decide)]
    by_cases q1 : x < 0
    · rw [if_pos q1]
      exact ⟨G, rfl, e3, ⟨e4, fun a j x y => e5 a j (by omega) x y⟩, fun a ha => e6 a (by omega) ha⟩
    · rw [if_neg q1]
      obtain ⟨q, rfl⟩ : ∃ r', q = r' + 1 := ⟨q - 1, by omega⟩
      have hWG : WB G T m := fun a' j x y => by unfold wm; rw [e3 68 _ (by decide)]; exact hW a' j x y
      obtain ⟨G', g1, g2, g3, g4, g5⟩ := p_fl55 (a := q) (rec49 := rec) hT.2 hm.2 (by omega) hWG (e6 (q + 1) (Nat.le_refl _) (by omega))
      rw [show x = (q : Int) by omega, g1]
      unfold fn_X9_findLeast_J108
      rw [nm_eq]
      refine ih q _ _ (by omega) ⟨by omega, by omega, fun k i hk => by rw [g2 k i hk]; exact e3 k i hk, fun j hj => ?_, fun a j x y z => ?_, fun a x y => ?_⟩
      · unfold lm; rw [g3 _ (by omega)]; exact e4 j hj
      · by_cases q2 : a = q
        · subst q2; exact g4 j z
        · exact Lpp_f (fun i => g2 68 i (by decide)) (fun th h => g3 (6 * (a + 1) + th) (by omega)) (g3 (6 * a + j) (by omega)) (e5 a j (by omega) y z)
      · by_cases q2 : a = q
        · subst q2; exact g5
        · intro j hj; unfold lm; rw [g3 _ (by omega)]; exact e6 a (by omega) y j hj
  · rw [show a = m by omega, f3 j hj]; split <;> decide
theorem p_most {M : Mem} {T m a u : Nat} (hT : T ≤ 6) (hm : m ≤ 21) (ha : a < m) (hu : u < T) (hW : WB M T m) (hL : LB M T (a + 1)) : ∃ th : Nat, fn_X9_mostCuts 65 a u T M = some (th : Int) ∧ u ≤ th ∧ th < T ∧ (∀ x, u ≤ x → x < T → Xw (wm M) (lm M) a th ≤ Xw (wm M) (lm M) a x) ∧ ∀ x, th < x → x < T → Xw (wm M) (lm M) a th < Xw (wm M) (lm M) a x := by
  have xb : ∀ th, th < T → 0 ≤ Xw (wm M) (lm M) a th ∧ Xw (wm M) (lm M) a th ≤ 1000 := fun th ht => by
    have := hW a th ha ht; have := hL th ht; unfold Xw; omega
  unfold fn_X9_mostCuts
  rw [nm_eq]
  refine lr2 (P := fun o => ∃ th : Nat, o = some (th : Int) ∧ u ≤ th ∧ th < T ∧ (∀ x, u ≤ x → x < T → Xw (wm M) (lm M) a th ≤ Xw (wm M) (lm M) a x) ∧ ∀ x, th < x → x < T → Xw (wm M) (lm M) a th < Xw (wm M) (lm M) a x) (I := fun q x v => ∃ d th : Nat, d + q = T ∧ x = (d : Int) ∧ v = (th : Int) ∧ u ≤ th ∧ th < d ∧ (∀ x, u ≤ x → x < d → Xw (wm M) (lm M) a th ≤ Xw (wm M) (lm M) a x) ∧ ∀ x, th < x → x < d → Xw (wm M) (lm M) a th < Xw (wm M) (lm M) a x) ?_ (T - (u + 1)) FU _ u (lt_FU (by omega)) ⟨u + 1, u, by omega, by omega, rfl, Nat.le_refl _, by omega, fun x h1 h2 => by rw [show x = u by omega]; exact Int.le_refl _, fun x h1 h2 => by omega⟩
  rintro q x v rec ⟨d, th, e1, rfl, rfl, e2, e3, e4, e5⟩ ih
  unfold fn_X9_mostCuts_L8 fn_X9_mostCuts_J35
  simp only [nm_eq]
  rw [cLt_if (by omega) (by omega) (by omega) (by omega)]
  by_cases q1 : (d : Int) < (T : Int)
  · obtain ⟨q, rfl⟩ : ∃ r', q = r' + 1 := ⟨q - 1, by omega⟩
    have x1 := xb d (by omega)
    have x2 := xb th (by omega)
    rw [if_pos q1, p_wrongBy (by omega) (by omega) (hW a d ha (by omega)) (hL d (by omega)), cu_s, p_wrongBy (by omega) (by omega) (hW a th ha (by omega)) (hL th (by omega)), cu_s, cLt_if (by omega) (by omega) (by omega) (by omega)]
    by_cases q2 : Xw (wm M) (lm M) a th < Xw (wm M) (lm M) a d
    · rw [if_pos q2]
      refine ih q _ _ (by omega) ⟨d + 1, th, by omega, by omega, rfl, e2, by omega, fun x h1 h2 => ?_, fun x h1 h2 => ?_⟩
      · by_cases q3 : x = d
        · subst q3; omega
        · exact e4 x h1 (by omega)
      · by_cases q3 : x = d
        · subst q3; exact q2
        · exact e5 x h1 (by omega)
    · rw [if_neg q2]
      refine ih q _ _ (by omega) ⟨d + 1, d, by omega, by omega, rfl, by omega, by omega, fun x h1 h2 => ?_, fun x h1 h2 => by omega⟩
      by_cases q3 : x = d
      · subst q3; exact Int.le_refl _
      · have := e4 x h1 (by omega); omega
  · rw [if_neg q1]
    obtain rfl : d = T := by omega
    exact ⟨th, rfl, e2, e3, e4, e5⟩
theorem p_pl32 {M : Mem} {a u th e : Nat} {rec4 : Int → Int → Mem → Option Mem} (ha : a < 21) (hth : th < 6) (hu : u ≤ th) (he : M 67 a = (e : Int)) : ∃ M', lq2 (fn_X9_placeCuts_L32 65 a rec4 th) FU ((u : Int) + 1) M = fn_X9_placeCuts_J65 a rec4 th M' ∧ (∀ k i, k ≠ 66 → M' k i = M k i) ∧ ∀ i, M' 66 i = if u < i ∧ i ≤ th then (e : Int) else M 66 i := by
  refine lr2 (P := fun o => ∃ M', o = fn_X9_placeCuts_J65 a rec4 th M' ∧ (∀ k i, k ≠ 66 → M' k i = M k i) ∧ ∀ i, M' 66 i = if u < i ∧ i ≤ th then (e : Int) else M 66 i) (I := fun q x G => ∃ d : Nat, d + q = th + 1 ∧ u < d ∧ x = (d : Int) ∧ (∀ k i, k ≠ 66 → G k i = M k i) ∧ ∀ i, G 66 i = if u < i ∧ i < d then (e : Int) else M 66 i) ?_ (th - u) FU _ M (lt_FU (by omega)) ⟨u + 1, by omega, by omega, by omega, fun _ _ _ => rfl, fun i => by rw [if_neg (by omega)]⟩
  rintro q x G rec ⟨d, e1, e2, rfl, e3, e4⟩ ih
  unfold fn_X9_placeCuts_L32
  rw [cLt_if (by omega) (by omega) (by omega) (by omega)]
  by_cases q1 : (th : Int) < (d : Int)
  · rw [if_pos q1]
    obtain rfl : d = th + 1 := by omega
    refine ⟨G, rfl, e3, fun i => ?_⟩
    rw [e4 i]
    by_cases q2 : u < i ∧ i ≤ th
    · rw [if_pos (by omega), if_pos q2]
    · rw [if_neg (by omega), if_neg q2]
  · obtain ⟨q, rfl⟩ : ∃ r', q = r' + 1 := ⟨q - 1, by omega⟩
    rw [if_neg q1, cLt_if (by omega) (by omega) (by decide) (by decide), if_pos (by omega), rd_eq (by omega) (by omega), wr_eq (by omega) (by omega), nm_eq, Int.toNat_natCast, Int.toNat_natCast, show 65 + 2 = 67 from rfl, show 65 + 1 = 66 from rfl, e3 67 a (by decide), he]
    refine ih q _ _ (by omega) ⟨d + 1, by omega, by omega, by omega, fun k i hk => by rw [up_o hk]; exact e3 k i hk, fun i => ?_⟩
    rw [up_i]
    by_cases q2 : i = d
    · rw [if_pos q2, if_pos (by omega)]
    · rw [if_neg q2, e4 i]
      by_cases q3 : u < i ∧ i < d
      · rw [if_pos q3, if_pos (by omega)]
      · rw [if_neg q3, if_neg (by omega)]
theorem p_place {M : Mem} {W : Nat → Nat → Int} {T m : Nat} {E : Nat → Nat} (hT : 2 ≤ T ∧ T ≤ 6) (hM : Me M m E) (hW : WB M T m) (hL : ∀ a, a ≤ m → LB M T a) (hc : CP (wm M) (lm M) T m) (hs : SA W T m E (wm M)) :
    ∃ M', fn_X9_placeCuts 65 T M = some M' ∧ (∀ k i, k ≠ 66 → M' k i = M k i) ∧ ∀ b, RA b W T → ∃ cu0 : Nat → Nat, cu0 0 = 0 ∧ (∀ j, j + 1 < T → Nx b W j (cu0 j) (cu0 (j + 1))) ∧ ∀ i, 1 ≤ i → i < T → M' 66 i = (cu0 i : Int) := by
  obtain ⟨m1, m2, m3⟩ := id hM
  have hE := hs.1
  unfold fn_X9_placeCuts
  refine lr3 (P := fun o => ∃ M' : Mem, o = some M' ∧ (∀ k i, k ≠ 66 → M' k i = M k i) ∧ ∀ b, RA b W T → ∃ cu0 : Nat → Nat, cu0 0 = 0 ∧ (∀ j, j + 1 < T → Nx b W j (cu0 j) (cu0 (j + 1))) ∧ ∀ i, 1 ≤ i → i < T → M' 66 i = (cu0 i : Int)) (I := fun q x y G => ∃ a u : Nat, a + q = m ∧ x = (a : Int) ∧ y = (u : Int) ∧ u < T ∧ (∀ k i, k ≠ 66 → G k i = M k i) ∧ ∀ b, RA b W T → ∃ cu0 : Nat → Nat, PI b W T m E a u cu0 ∧ ∀ i, 1 ≤ i → i ≤ u → G 66 i = (cu0 i : Int)) ?_ m FU 0 0 M (lt_FU (by omega)) ⟨0, 0, by omega, rfl, rfl, by omega, fun _ _ _ => rfl, fun b hb => ⟨_, PI_0 (by omega) hE, fun i h1 h2 => by omega⟩⟩
  rintro q x y G rec ⟨a, u, e1, rfl, rfl, e0, e2, e3⟩ ih
  unfold fn_X9_placeCuts_L4
  simp only [nm_eq]
  rw [e2 65 2 (by decide), m1, cLt_if (by omega) (by omega) (by omega) (by omega)]
  by_cases q1 : (a : Int) < (m : Int)
  · obtain ⟨q, rfl⟩ : ∃ r', q = r' + 1 := ⟨q - 1, by omega⟩
    have hwm : wm G = wm M := by funext a t; unfold wm; exact e2 68 _ (by decide)
    have hlm : lm G = lm M := by funext a t; unfold lm; exact e2 69 _ (by decide)
    have hWG : WB G T m := by unfold WB; rw [hwm]; exact hW
    have hLG : LB G T (a + 1) := by unfold LB; rw [hlm]; exact hL (a + 1) (by omega)
    obtain ⟨th, t1, t2, t3, t4, t5⟩ := p_most hT.2 m2 (show a < m by omega) e0 hWG hLG
    rw [hwm, hlm] at t4 t5
    obtain ⟨G', g1, g2, g3⟩ := p_pl32 (a := a) (u := u) (th := th) (e := E a) (rec4 := rec) (M := G) (by omega) (by omega) t2 (by rw [e2 67 a (by decide)]; exact m3 a (by omega))
    rw [if_pos q1, cLt_if (by omega) (by omega) (by decide) (by decide), if_pos (by omega), t1, cu_s, g1]
    unfold fn_X9_placeCuts_J65
    rw [nm_eq]
    refine ih q _ _ _ (by omega) ⟨a + 1, th, by omega, by omega, rfl, t3, fun k i hk => by rw [g2 k i hk]; exact e2 k i hk, fun b hb => ?_⟩
    obtain ⟨cu0, p1, p2⟩ := e3 b hb
    refine ⟨_, PI_s hb hs hc (by omega) p1 t2 t3 t4 t5, fun i h1 h2 => ?_⟩
    show G' 66 i = ((if u < i ∧ i ≤ th then E a else cu0 i : Nat) : Int)
    rw [g3 i]
    by_cases q2 : u < i ∧ i ≤ th
    · rw [if_pos q2, if_pos q2]
    · rw [if_neg q2, if_neg q2]; exact p2 i h1 (by omega)
  · rw [if_neg q1]
    obtain rfl : a = m := by omega
    refine ⟨G, rfl, e2, fun b hb => ?_⟩
    obtain ⟨cu0, p1, p2⟩ := e3 b hb
    have hu := p1.2.2.2.2 rfl
    exact ⟨cu0, p1.2.1, fun j hj => p1.2.2.1 j (by omega), fun i h1 h2 => p2 i h1 (by omega)⟩
theorem p_arrange {M : Mem} {nc T : Nat} {wt tr : Nat → Int} (hC : Cc M nc wt tr) (hT : 2 ≤ T ∧ T ≤ 6) :
    ∃ v M', fn_X9_arrange 65 1 T M = some (v, M') ∧ F65 M M' ∧ ∀ b, RA b (wbw nc wt tr) T → v = b 0 0 ∧ ∃ cu0 : Nat → Nat, cu0 0 = 0 ∧ (∀ j, j + 1 < T → Nx b (wbw nc wt tr) j (cu0 j) (cu0 (j + 1))) ∧ ∀ i, 1 ≤ i → i < T → M' 66 i = (cu0 i : Int) := by
  have h20 := hC.2.1
  obtain ⟨M1, m, E, f1, f2, f3, f4, f5⟩ := p_findEdges hC
  have hC1 := Cc_f f2 hC
  obtain ⟨M2, g1, g2, g3⟩ := p_count hC1 f3 f4 hT.2
  have hm := f3.2.1
  have hMe2 := Me_f (g2 65 2 (by decide)) (fun i => g2 67 i (by decide)) f3
  have hwr : ∀ a t, 0 ≤ wrs nc wt tr m E a t ∧ wrs nc wt tr m E a t ≤ 20 := fun a t => by
    refine ⟨sm_nn (fun c _ => by split <;> decide), ?_⟩
    have h := sm_bd (n := nc) (f := fun c => if tr c ≠ -1 ∧ tr c ≠ (t : Int) ∧ ebi E (wt c) m = a then 1 else 0) (B := 1) (fun c _ => by split <;> decide)
    unfold wrs; omega
  have hW2 : WB M2 T m := fun a j x y => by rw [g3 a j (by omega) y]; exact hwr a j
  obtain ⟨M3, l1, l2, l3, l4⟩ := p_least hT ⟨f4.1, hm⟩ hMe2.1 hW2
  have hMe3 := Me_f (l2 65 2 (by decide)) (fun i => l2 67 i (by decide)) hMe2
  have hwm : wm M3 = wm M2 := by funext a t; unfold wm; exact l2 68 _ (by decide)
  have hW3 : WB M3 T m := by unfold WB; rw [hwm]; exact hW2
  have hs0 := SA_of (T := T) f4 f5 (fun c hc => (hC.2.2 c hc).2.2.1.1)
  have hs : SA (wbw nc wt tr) T m E (wm M3) := by
    obtain ⟨a1, a2, a3, a4, a5⟩ := hs0
    have hm1 := f4.1
    rw [hwm]
    exact ⟨a1, fun a t x y => by rw [g3 a t (by omega) y]; exact a2 a t x y, fun t y => by rw [g3 (m - 1) t (by omega) y]; exact a3 t y, a4, fun a t x y => by rw [g3 a t (by omega) y]; exact a5 a t x y⟩
  obtain ⟨M4, k1, k2, k3⟩ := p_place hT hMe3 hW3 l4 l3 hs
  unfold fn_X9_arrange
  rw [f1, cv_s, g1, cv_s, l1, cv_s, k1, cv_s, rd_eq (by decide) (by decide)]
  refine ⟨_, M4, rfl, fun k i hk => ?_, fun b hb => ⟨?_, k3 b hb⟩⟩
  · rw [k2 k i (by omega), l2 k i (by omega), g2 k i (by omega), f2 k i hk]
  · rw [show (0 : Int).toNat = 0 from rfl, show 65 + 4 = 69 from rfl, k2 69 0 (by decide)]
    have h9 := eqv hb hs l3 (m - 1) 0 (by have := f4.1; omega) 0 (by omega)
    rw [f4.2.1] at h9
    exact h9.symm
theorem d_sorted {M : Mem} {nc : Nat} {wt tr : Nat → Int} {a1 a2 : Int} (h1 : R3 a1) (h2 : R3 a2) (hC : Cc M nc wt tr) (hD : Cn M nc wt tr) :
    ∃ (r : Int) (M1 M2 : Mem), fn_X10_sorted 0 a1 a2 M = some (r, M1) ∧ fn_X11_sorted 71 a1 a2 M1 = some (r, M2) ∧ (∀ k i, (k < 65 ∨ 69 < k) → k ≠ 100 → k ≠ 101 → M2 k i = M k i) := by
  have h20 := hC.2.1
  unfold fn_X10_sorted fn_X11_sorted
  simp only [Nat.zero_add]
  rw [p_isWithin h1 ⟨by decide, by decide⟩ ⟨by decide, by decide⟩, cu_s, cE_b2]
  by_cases q1 : 2 ≤ a1 ∧ a1 ≤ 6
  · rw [if_pos q1, p_isWithin h2 ⟨by decide, by decide⟩ ⟨by omega, by omega⟩, cu_s, cE_b2]
    by_cases q2 : 0 ≤ a2 ∧ a2 ≤ a1 - 1
    · obtain ⟨T, hT⟩ := Int.eq_ofNat_of_zero_le (show 0 ≤ a1 by omega)
      obtain ⟨i, hi⟩ := Int.eq_ofNat_of_zero_le q2.1
      subst hT; subst hi
      obtain ⟨v, M1, f1, f2, f3⟩ := p_arrange (T := T) hC (by omega)
      have hD1 : Cn M1 nc wt tr := Cn_f (fun i => f2 72 i (by omega)) hD
      obtain ⟨M2, g1, g2, g3⟩ := q_laysWrong hD1
      obtain ⟨M3, k1, k2, k3⟩ := q_best (T := T) (a2 := (i : Int)) h20 (by omega) g3
      have hb : RA (bm M3) (wbw nc wt tr) T := k3
      obtain ⟨e1, cu0, c1, c2, c3⟩ := f3 _ hb
      have hW3 : WL M3 nc wt tr 6006 := fun x hx => by rw [k2 100 x (by decide)]; exact g3 x hx
      have k4 := q_cuts h20 (by omega) hW3 hb c1 c2 (i := i) (by omega) (by omega)
      rw [if_pos q2, f1, cl_s, cEq_if (by omega) (by omega) (by decide) (by decide)]
      have eD : (cu (fn_X11_in (T : Int) 2 6 M1) fun x4 => cEq x4 0 (some ((-1), M1)) (cu (fn_X11_in (i : Int) 0 ((T : Int) - 1) M1) fun x15 => cEq x15 0 (some ((-1), M1)) (cv (fn_X11_laysWrong 71 M1) fun M24 => lq2 (fn_X11_sorted_L29 71 T i) FU 0 M24))) = some (if i = 0 then bm M3 0 0 else (cu0 i : Int), M3) := by
        rw [p_in h1 ⟨by decide, by decide⟩ ⟨by decide, by decide⟩, cu_s, cE_b2, if_pos q1, p_in h2 ⟨by decide, by decide⟩ ⟨by omega, by omega⟩, cu_s, cE_b2, if_pos q2, g1, cv_s, k1, k4]
      have fr : ∀ k i, (k < 65 ∨ 69 < k) → k ≠ 100 → k ≠ 101 → M3 k i = M k i := fun k i a b c => by rw [k2 k i c, g2 k i b, f2 k i a]
      by_cases q3 : i = 0
      · rw [if_pos (by omega)]
        refine ⟨_, _, M3, rfl, ?_, fr⟩
        rw [eD, if_pos q3, e1]
      · rw [if_neg (by omega), rd_eq (by omega) (by omega), Int.toNat_natCast]
        refine ⟨_, _, M3, rfl, ?_, fr⟩
        rw [eD, if_neg q3, ← c3 i (by omega) (by omega)]
    · rw [if_neg q2]
      refine ⟨_, _, M, rfl, ?_, fun _ _ _ _ _ => rfl⟩
      rw [p_in h1 ⟨by decide, by decide⟩ ⟨by decide, by decide⟩, cu_s, cE_b2, if_pos q1, p_in h2 ⟨by decide, by decide⟩ ⟨by omega, by omega⟩, cu_s, cE_b2, if_neg q2]
  · rw [if_neg q1]
    refine ⟨_, _, M, rfl, ?_, fun _ _ _ _ _ => rfl⟩
    rw [p_in h1 ⟨by decide, by decide⟩ ⟨by decide, by decide⟩, cu_s, cE_b2, if_neg q1]
