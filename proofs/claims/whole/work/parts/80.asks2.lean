/-! row -/
theorem q_row95 {M : Mem} {n e : Nat} {g : Nat → Int} {K k at0 f : Nat} {x l : Int} {rec85 : Int → Int → Int → Int → Option (Int × Mem)} (hH : Hd M n g e) (hM : La M n g (-1) K) (hK : K ≤ 13) (hk : k ≤ 12) (hkK : k < K + 1 + at0) (hat : at0 < k) (hl : -1 ≤ l ∧ l ≤ 10) (hx : -1000 ≤ x ∧ x ≤ 1000) (hf : f < n)
    (h1 : (f : Int) ≠ l ∧ 0 < Ro n g (-1) e (k - 1 - at0) f (x - g f)) (h2 : ∀ f', f' < f → ¬ ((f' : Int) ≠ l ∧ 0 < Ro n g (-1) e (k - 1 - at0) f' (x - g f'))) :
    lq1 (fn_X11_row_L95 71 M k at0 x l rec85) FU 0 = rec85 ((at0 : Int) + 1) f (x - g f) f := by
  obtain ⟨h0, hn, hg, he, he9⟩ := id hH
  refine lr1 (P := fun o => o = rec85 ((at0 : Int) + 1) f (x - g f) f) (I := fun q a => ∃ j : Nat, j + q = f ∧ a = (j : Int)) ?_ f FU 0 (lt_FU (by omega)) ⟨0, by omega, rfl⟩
  rintro q a rec ⟨j, e1, rfl⟩ ih
  unfold fn_X11_row_L95 fn_X11_row_J133
  simp only [nm_eq]
  obtain ⟨g1, g2, g3⟩ := hg j (by omega)
  have hr0 := Ro_nn (n := n) (g := g) (wo := -1) (e := e) (k := k - 1 - at0) (l := (j : Int)) (x := x - g j)
  have hr1 := Ro_bd2 (g := g) (wo := -1) (e := e) (l := (j : Int)) (x := x - g j) hn (show k - 1 - at0 ≤ 12 by omega)
  rw [cEq_if (by omega) (by omega) (by omega) (by omega), rd_eq (by omega) (by omega), show (10 + (j : Int)).toNat = 10 + j by omega, show 71 + 1 = 72 from rfl, g1, show ((k : Int) - 1) - (at0 : Int) = ((k - 1 - at0 : Nat) : Int) by omega, q_rowsOf hH hM (by omega) hK (by omega) (by omega), cu_s, dEq_if (by omega) (by omega) (by decide) (by decide)]
  by_cases q0 : j = f
  · subst q0
    rw [if_neg h1.1, if_neg (by omega), rd_eq (by omega) (by omega), show (10 + (j : Int)).toNat = 10 + j by omega, g1]
  · obtain ⟨q, rfl⟩ : ∃ r', q = r' + 1 := ⟨q - 1, by omega⟩
    have h9 := h2 j (by omega)
    by_cases q1 : (j : Int) = l
    · rw [if_pos q1]; exact ih q _ (by omega) ⟨j + 1, by omega, by omega⟩
    · rw [if_neg q1, if_pos (by
        by_cases q3 : 0 < Ro n g (-1) e (k - 1 - at0) j (x - g j)
        · exact absurd ⟨q1, q3⟩ h9
        · omega)]
      exact ih q _ (by omega) ⟨j + 1, by omega, by omega⟩
theorem d_rowL {C D : Mem} {n e : Nat} {g : Nat → Int} {B K k i : Nat} (hc : Tc 102 12 n g (-1)) (hB : Tb 102 12 C n g (-1) B) (hkB : k ≤ B) (hH : Hd D n g e) (hM : La D n g (-1) K) (hK : K ≤ 13) (hkK : k < K) (hi : i < k) :
    ∀ (m at0 : Nat) (x l fo : Int) (N N' : Nat), at0 + m = i + 1 → m < N → m < N' → (0 < m ∨ fo = l) → (-1 ≤ l ∧ l ≤ 10) → (-30 * (at0 : Int) ≤ x ∧ x ≤ 999) → (0 < m → 0 < Ro n g (-1) e (k - at0) l x) →
      ∃ r, lq3 (fn_X2_handOfFirst_L15 102 e k i C) N at0 x l = some (r, C) ∧ lq4 (fn_X11_row_L85 71 i D k) N' at0 fo x l = some (r, D) := by
  obtain ⟨h0, hn, hg, he, he9⟩ := id hH
  have hBL := hB.2.2.1
  intro m
  induction m with
  | zero =>
    intro at0 x l fo N N' ha hN hN' hfo hl hx hp
    obtain ⟨N, rfl⟩ : ∃ M, N = M + 1 := ⟨N - 1, by omega⟩
    obtain ⟨N', rfl⟩ : ∃ M, N' = M + 1 := ⟨N' - 1, by omega⟩
    refine ⟨l, ?_, ?_⟩
    · show fn_X2_handOfFirst_L15 102 e k i C _ at0 x l = _
      unfold fn_X2_handOfFirst_L15
      rw [cLt_if (by omega) (by omega) (by omega) (by omega), if_pos (by omega)]
    · show fn_X11_row_L85 71 i D k _ at0 fo x l = _
      unfold fn_X11_row_L85
      rw [cLt_if (by omega) (by omega) (by omega) (by omega), if_pos (by omega), show fo = l by omega]
  | succ m ih =>
    intro at0 x l fo N N' ha hN hN' hfo hl hx hp
    obtain ⟨N, rfl⟩ : ∃ M, N = M + 1 := ⟨N - 1, by omega⟩
    obtain ⟨N', rfl⟩ : ∃ M, N' = M + 1 := ⟨N' - 1, by omega⟩
    have hp' := hp (by omega)
    rw [show k - at0 = (k - 1 - at0) + 1 by omega] at hp'
    obtain ⟨f, hf, hf1, hf2⟩ := least (Ro_ex hp')
    obtain ⟨g1, g2, g3⟩ := hg f hf
    obtain ⟨r, r1, r2⟩ := ih (at0 + 1) (x - g f) f f N N' (by omega) (by omega) (by omega) (Or.inr rfl) (by omega) (by omega) (fun _ => by rw [show k - (at0 + 1) = k - 1 - at0 by omega]; exact hf1.2)
    refine ⟨r, ?_, ?_⟩
    · show fn_X2_handOfFirst_L15 102 e k i C _ at0 x l = _
      unfold fn_X2_handOfFirst_L15
      rw [cLt_if (by omega) (by omega) (by omega) (by omega), if_neg (by omega), cLt_if (by omega) (by omega) (by omega) (by omega), if_pos (by omega), show (k : Int) - (at0 : Int) = (((k - 1 - at0) + 1 : Nat) : Int) by omega, p_lowest hc hB (by omega) hl he9 (by omega) hf hf1 hf2, cu_s, cLt_if (by omega) (by omega) (by decide) (by decide), if_neg (by omega), cLt_if (by omega) (by omega) (by decide) (by decide), if_pos (by omega), rd_eq (by omega) (by omega), Int.toNat_natCast, hB.1.2.2.2 f hf, nm_eq, nm_eq, show (at0 : Int) + 1 = ((at0 + 1 : Nat) : Int) by omega]
      exact r1
    · show fn_X11_row_L85 71 i D k _ at0 fo x l = _
      unfold fn_X11_row_L85
      rw [cLt_if (by omega) (by omega) (by omega) (by omega), if_neg (by omega), q_row95 hH hM hK (by omega) (by omega) (by omega) hl (by omega) hf hf1 hf2, show (at0 : Int) + 1 = ((at0 + 1 : Nat) : Int) by omega]
      exact r2
theorem q_row30 {M : Mem} {n e : Nat} {g : Nat → Int} {K l lo hi : Nat} {x r a5 : Int} (hH : Hd M n g e) (hM : La M n g (-1) K) (hk : hi < K) (hlo : lo ≤ hi) (hK : K ≤ 13) (hl : l < 11) (hx : -100000 ≤ x ∧ x ≤ 1000000) (hr : Sh n g e lo hi l x r) :
    lq1 (fn_X11_row_L30 71 l x hi a5 M) FU lo = fn_X11_row_J56 71 l x hi a5 M (if r = -1 then (hi : Int) + 1 else r) := by
  have hn := hH.2.1
  refine lr1 (P := fun o => o = fn_X11_row_J56 71 l x hi a5 M (if r = -1 then (hi : Int) + 1 else r)) (I := fun q a => ∃ j : Nat, j + q = hi + 1 - lo ∧ a = ((lo + j : Nat) : Int) ∧ ∀ k, lo ≤ k → k < lo + j → Ro n g (-1) e k l x = 0) ?_ (hi + 1 - lo) FU _ (lt_FU (by omega)) ⟨0, by omega, by omega, fun k a b => by omega⟩
  rintro q a rec ⟨j, e1, e0, e2⟩ ih
  unfold fn_X11_row_L30
  simp only [nm_eq]
  rw [cLt_if (by omega) (by omega) (by omega) (by omega)]
  by_cases q1 : (hi : Int) < a
  · rw [if_pos q1]
    rcases hr with ⟨h1, h2⟩ | ⟨k, h1, h2, h3, h4, h5⟩
    · rw [if_pos h1, show a = (hi : Int) + 1 by omega]
    · have := e2 k h2 (by omega); omega
  · have hr0 := Ro_nn (n := n) (g := g) (wo := -1) (e := e) (k := lo + j) (l := (l : Int)) (x := x)
    have hr1 := Ro_bd2 (g := g) (wo := -1) (e := e) (l := (l : Int)) (x := x) hn (show lo + j ≤ 12 by omega)
    rw [if_neg q1, e0, q_rowsOf hH hM (by omega) hK hl hx, cu_s, dEq_if (by omega) (by omega) (by decide) (by decide)]
    by_cases q2 : Ro n g (-1) e (lo + j) l x = 0
    · rw [if_pos q2]
      obtain ⟨q, rfl⟩ : ∃ r', q = r' + 1 := ⟨q - 1, by omega⟩
      refine ih q _ (by omega) ⟨j + 1, by omega, by omega, fun k a b => ?_⟩
      by_cases q3 : k = lo + j
      · subst q3; exact q2
      · exact e2 k a (by omega)
    · rw [if_neg q2]
      rcases hr with ⟨h1, h2⟩ | ⟨k, h1, h2, h3, h4, h5⟩
      · exact absurd (h2 (lo + j) (by omega) (by omega)) q2
      · have : k = lo + j := by
          rcases Nat.lt_trichotomy k (lo + j) with h | h | h
          · have := e2 k h2 h; omega
          · exact h
          · exact absurd (h5 (lo + j) (by omega) h) q2
        rw [if_neg (by omega), h1, this]
theorem d_row {M : Mem} {n e : Nat} {g : Nat → Int} {a1 a2 a3 a4 a5 : Int} (h1 : R3 a1) (h2 : R3 a2) (h3 : R3 a3) (h4 : R3 a4) (h5 : R3 a5) (hS : Sg M n g e) (hD : Hd M n g e) (hV : TV M) :
    ∃ (r : Int) (M1 M2 : Mem), fn_X10_row a1 a2 a3 a4 a5 M = some (r, M1) ∧ fn_X11_row 71 a1 a2 a3 a4 a5 M1 = some (r, M2) ∧ Fq M M2 ∧ TV M2 := by
  have hn := hS.2.1
  have he := hS.2.2.2.2
  unfold fn_X10_row fn_X11_row
  rw [p_RQ h1 h2 h3 h4 hS, cu_s, cE_b2]
  by_cases q : (0 ≤ a1 ∧ a1 < n) ∧ (0 ≤ a2 ∧ a2 ≤ 999) ∧ (0 ≤ a3 ∧ a3 ≤ a4 ∧ a4 ≤ 12)
  · rw [if_pos q]
    obtain ⟨M1, f1, f2, f3⟩ := p_tabAll hS hV
    have s1 := Sg_q (Fq_t f3) hS
    obtain ⟨l, hl⟩ := Int.eq_ofNat_of_zero_le q.1.1
    obtain ⟨lo, hlo⟩ := Int.eq_ofNat_of_zero_le q.2.2.1
    obtain ⟨hi, hhi⟩ := Int.eq_ofNat_of_zero_le (show 0 ≤ a4 by omega)
    subst hl; subst hlo; subst hhi
    obtain ⟨B, hB⟩ := f2.1
    obtain ⟨r, M2, g1, gs, g2, g3⟩ := p_shortest (l := (l : Int)) (x := a2) (lo := lo) (hi := hi) (e := e) (Tc_all hS) hB (by omega) (by omega) (by omega) he (by omega)
    have hT2 := Ta_26 g3 g2 f2
    have hF2 := (Fq_t f3).tr (Fq_26 g3)
    have d2 := Hd_q hF2 hD
    have s2 := Sg_q hF2 hS
    have hV2 := Ta_TV s2 hT2
    obtain ⟨M3, l1, l2, l3⟩ := q_laysRows (wo := -1) (k := hi) d2 (by omega) (by omega)
    have d3 := Hd_q (Fq_94 l2) d2
    have hF3 := hF2.tr (Fq_94 l2)
    have hV3 := TV_94 l2 hV2
    have l4 := q_row30 (a5 := a5) d3 l3 (show hi < hi + 1 by omega) (by omega) (by omega) (show l < 11 by omega) (by omega) gs
    rw [f1, cv_s, ck_t (nOf_1 f2.2.1)]
    simp only [Nat.zero_add]
    rw [s1.2.2.2.1, g1, cl_s, cEq_if h5.1 h5.2 (by decide) (by decide)]
    rcases gs with ⟨rfl, gz⟩ | ⟨k, rfl, k1, k2, k3, k4⟩
    · have ec : (if a5 = -1 then some ((-1 : Int), M2) else cEq (-1) (-1) (some ((-1 : Int), M2)) (cu (fn_X10_isWithin a5 0 (-1 - 1) M2) fun x61 => cEq x61 0 (some ((-1), M2)) (cl (fn_X2_handOfFirst 102 l a2 (M2 1 10) (-1) a5 M2) fun x82 M82 => some (x82, M82)))) = some ((-1 : Int), M2) := by
        split
        · rfl
        · rw [cEq_if (by decide) (by decide) (by decide) (by decide), if_pos rfl]
      rw [ec]
      by_cases q5 : a5 < -1
      · refine ⟨_, _, M2, rfl, ?_, hF2, hV2⟩
        rw [q_RQ h1 h2 h3 h4 d2, cu_s, cE_b2, if_pos q, cLt_if h5.1 h5.2 (by decide) (by decide), if_pos q5]
      · refine ⟨_, _, M3, rfl, ?_, hF3, hV3⟩
        rw [q_RQ h1 h2 h3 h4 d2, cu_s, cE_b2, if_pos q, cLt_if h5.1 h5.2 (by decide) (by decide), if_neg q5, l1, cv_s, l4, if_pos rfl]
        unfold fn_X11_row_J56
        rw [cLt_if (by omega) (by omega) (by omega) (by omega), if_pos (by omega)]
    · rw [if_neg (by omega)] at l4
      have l5 : fn_X11_row_J56 71 l a2 hi a5 M3 (k : Int) = if a5 < (k : Int) then lq4 (fn_X11_row_L85 71 a5 M3 k) FU 0 k a2 l else some (-1, M3) := by
        unfold fn_X11_row_J56
        rw [cLt_if (by omega) (by omega) (by omega) (by omega), if_neg (by omega), cLt_if h5.1 h5.2 (by omega) (by omega)]
      rw [l5] at l4
      by_cases q5 : a5 = -1
      · rw [if_pos q5]
        refine ⟨_, _, M3, rfl, ?_, hF3, hV3⟩
        rw [q_RQ h1 h2 h3 h4 d2, cu_s, cE_b2, if_pos q, cLt_if h5.1 h5.2 (by decide) (by decide), if_neg (by omega), l1, cv_s, l4, if_pos (by omega)]
        show fn_X11_row_L85 71 a5 M3 k _ 0 k a2 l = _
        unfold fn_X11_row_L85
        rw [cLt_if h5.1 h5.2 (by decide) (by decide), if_pos (by omega)]
      · rw [if_neg q5, cEq_if (by omega) (by omega) (by decide) (by decide), if_neg (by omega), p_isWithin h5 ⟨by decide, by decide⟩ ⟨by omega, by omega⟩, cu_s, cE_b2]
        by_cases q6 : 0 ≤ a5 ∧ a5 ≤ (k : Int) - 1
        · rw [if_pos q6]
          obtain ⟨i, hi5⟩ := Int.eq_ofNat_of_zero_le q6.1
          subst hi5
          obtain ⟨M4, b1, b2, b3⟩ := p_build (Tc_all hS) g2 (show k ≤ 12 by omega)
          have hT4 := Ta_26 b3 b2 hT2
          have hF4 := hF2.tr (Fq_26 b3)
          have d4 := Hd_q hF4 hD
          have s4 := Sg_q hF4 hS
          obtain ⟨M5, m1, m2, m3⟩ := q_laysRows (wo := -1) (k := hi) d4 (by omega) (by omega)
          have d5 := Hd_q (Fq_94 m2) d4
          obtain ⟨r, r1, r2⟩ := d_rowL (Tc_all hS) b2 (show k ≤ max (max B hi) k by omega) d5 m3 (by omega) (show k < hi + 1 by omega) (show i < k by omega) (i + 1) 0 a2 l k FU FU (by omega) (lt_FU (by omega)) (lt_FU (by omega)) (Or.inl (by omega)) (by omega) (by omega) (fun _ => k3)
          have l6 := q_row30 (a5 := (i : Int)) d5 m3 (show hi < hi + 1 by omega) (by omega) (by omega) (show l < 11 by omega) (by omega) (Or.inr ⟨k, rfl, k1, k2, k3, k4⟩ : Sh n g e lo hi l a2 (k : Int))
          rw [if_neg (by omega)] at l6
          have l7 : fn_X11_row_J56 71 l a2 hi i M5 (k : Int) = lq4 (fn_X11_row_L85 71 i M5 k) FU 0 k a2 l := by
            unfold fn_X11_row_J56
            rw [cLt_if (by omega) (by omega) (by omega) (by omega), if_neg (by omega), cLt_if (by omega) (by omega) (by omega) (by omega), if_pos (by omega)]
          rw [l7] at l6
          unfold fn_X2_handOfFirst
          rw [s2.2.2.2.1, b1, cv_s, show lq3 (fn_X2_handOfFirst_L15 102 e k i M4) FU 0 a2 l = some (r, M4) from r1, cl_s]
          refine ⟨_, _, M5, rfl, ?_, hF4.tr (Fq_94 m2), TV_94 m2 (Ta_TV s4 hT4)⟩
          rw [q_RQ h1 h2 h3 h4 d4, cu_s, cE_b2, if_pos q, cLt_if (by omega) (by omega) (by decide) (by decide), if_neg (by omega), m1, cv_s, l6]
          exact r2
        · rw [if_neg q6]
          by_cases q7 : a5 < -1
          · refine ⟨_, _, M2, rfl, ?_, hF2, hV2⟩
            rw [q_RQ h1 h2 h3 h4 d2, cu_s, cE_b2, if_pos q, cLt_if h5.1 h5.2 (by decide) (by decide), if_pos q7]
          · refine ⟨_, _, M3, rfl, ?_, hF3, hV3⟩
            rw [q_RQ h1 h2 h3 h4 d2, cu_s, cE_b2, if_pos q, cLt_if h5.1 h5.2 (by decide) (by decide), if_neg q7, l1, cv_s, l4, if_neg (by omega)]
  · rw [if_neg q]
    refine ⟨_, _, M, rfl, ?_, fun _ _ _ _ => rfl, hV⟩
    rw [q_RQ h1 h2 h3 h4 hD, cu_s, cE_b2, if_neg q]
/-! among -/
theorem q_among {M : Mem} {n e : Nat} {g : Nat → Int} {l lo hi : Nat} {x a5 : Int} (hH : Hd M n g e) (hhi : hi ≤ 12) (hlo : lo ≤ hi) (hl : l < 11) (hx : -100000 ≤ x ∧ x ≤ 1000000) (h5 : a5 = 0 ∨ a5 = 1) :
    ∃ v M', lq3 (fn_X11_among_L38 71 l x lo hi a5 (Ra n g (-1) e lo (hi + 1 - lo) l x)) FU 0 0 M = some (v, M') ∧ S94 M M' ∧ R3 v ∧ ∀ i, i < 32 → (tb v i = true ↔ i < n ∧ ((a5 = 0 ∧ Ra n g i e lo (hi + 1 - lo) l x = 0 ∧ 0 < Ra n g (-1) e lo (hi + 1 - lo) l x) ∨ (a5 ≠ 0 ∧ Ra n g i e lo (hi + 1 - lo) l x < Ra n g (-1) e lo (hi + 1 - lo) l x))) := by
  have hn := hH.2.1
  have bd : ∀ wo, 0 ≤ Ra n g wo e lo (hi + 1 - lo) l x ∧ Ra n g wo e lo (hi + 1 - lo) l x ≤ 100000000000000 := fun wo => by
    refine ⟨Ra_nn, ?_⟩
    have h := sm_bd (n := hi + 1 - lo) (f := fun i => Ro n g wo e (lo + i) l x) (B := 1000000000000) (fun i h => Ro_bd2 hn (by omega))
    unfold Ra; omega
  refine lr3 (P := fun o => ∃ v M', o = some (v, M') ∧ S94 M M' ∧ R3 v ∧ ∀ i, i < 32 → (tb v i = true ↔ i < n ∧ ((a5 = 0 ∧ Ra n g i e lo (hi + 1 - lo) l x = 0 ∧ 0 < Ra n g (-1) e lo (hi + 1 - lo) l x) ∨ (a5 ≠ 0 ∧ Ra n g i e lo (hi + 1 - lo) l x < Ra n g (-1) e lo (hi + 1 - lo) l x)))) (I := fun q a v E => ∃ j : Nat, j + q = n ∧ a = (j : Int) ∧ S94 M E ∧ R3 v ∧ ∀ i, i < 32 → (tb v i = true ↔ i < j ∧ ((a5 = 0 ∧ Ra n g i e lo (hi + 1 - lo) l x = 0 ∧ 0 < Ra n g (-1) e lo (hi + 1 - lo) l x) ∨ (a5 ≠ 0 ∧ Ra n g i e lo (hi + 1 - lo) l x < Ra n g (-1) e lo (hi + 1 - lo) l x)))) ?_ n FU 0 0 M (lt_FU (by omega)) ⟨0, by omega, rfl, fun _ _ _ => rfl, ⟨by decide, by decide⟩, fun i _ => by rw [tb_0]; exact ⟨fun h => (by cases h), fun h => by omega⟩⟩
  rintro q a v E rec ⟨j, e1, rfl, e2, e3, e4⟩ ih
  have hE := Hd_q (Fq_94 e2) hH
  unfold fn_X11_among_L38 fn_X11_among_J107 fn_X11_among_J108 fn_X11_among_J127
  simp only [nm_eq]
  rw [rd_eq (by decide) (by decide), show (0 : Int).toNat = 0 from rfl, show 71 + 1 = 72 from rfl, hE.1, cLt_if (by omega) (by omega) (by omega) (by omega)]
  by_cases q1 : (j : Int) < (n : Int)
  · obtain ⟨q, rfl⟩ : ∃ r', q = r' + 1 := ⟨q - 1, by omega⟩
    obtain ⟨E1, l1, l2, l3⟩ := q_laysRows (wo := (j : Int)) (k := hi) hE hhi (by omega)
    have b1 := bd j
    have b2 := bd (-1)
    rw [if_pos q1, l1, cv_s, q_rowsAll (Hd_q (Fq_94 l2) hE) l3 (by omega) hlo (by omega) hl hx, cu_s]
    have hs : S94 M E1 := fun c i hc => (l2 c i hc).trans (e2 c i hc)
    have yes : ((a5 = 0 ∧ Ra n g j e lo (hi + 1 - lo) l x = 0 ∧ 0 < Ra n g (-1) e lo (hi + 1 - lo) l x) ∨ (a5 ≠ 0 ∧ Ra n g j e lo (hi + 1 - lo) l x < Ra n g (-1) e lo (hi + 1 - lo) l x)) → ∃ v' M', rec ((j : Int) + 1) (orI v (shlI 1 j)) E1 = some (v', M') ∧ S94 M M' ∧ R3 v' ∧ ∀ i, i < 32 → (tb v' i = true ↔ i < n ∧ ((a5 = 0 ∧ Ra n g i e lo (hi + 1 - lo) l x = 0 ∧ 0 < Ra n g (-1) e lo (hi + 1 - lo) l x) ∨ (a5 ≠ 0 ∧ Ra n g i e lo (hi + 1 - lo) l x < Ra n g (-1) e lo (hi + 1 - lo) l x))) := by
      intro hy
      refine ih q _ _ _ (by omega) ⟨j + 1, by omega, by omega, hs, orI_R, fun i hi => ?_⟩
      rw [tb_or, Bool.or_eq_true, e4 i hi, tb_shl j (by omega) i hi, decide_eq_true_eq]
      constructor
      · rintro (⟨a, b⟩ | h)
        · exact ⟨by omega, b⟩
        · subst h; exact ⟨by omega, hy⟩
      · rintro ⟨a, b⟩
        by_cases q3 : i = j
        · exact Or.inr q3
        · exact Or.inl ⟨by omega, b⟩
    have no : ¬ ((a5 = 0 ∧ Ra n g j e lo (hi + 1 - lo) l x = 0 ∧ 0 < Ra n g (-1) e lo (hi + 1 - lo) l x) ∨ (a5 ≠ 0 ∧ Ra n g j e lo (hi + 1 - lo) l x < Ra n g (-1) e lo (hi + 1 - lo) l x)) → ∃ v' M', rec ((j : Int) + 1) v E1 = some (v', M') ∧ S94 M M' ∧ R3 v' ∧ ∀ i, i < 32 → (tb v' i = true ↔ i < n ∧ ((a5 = 0 ∧ Ra n g i e lo (hi + 1 - lo) l x = 0 ∧ 0 < Ra n g (-1) e lo (hi + 1 - lo) l x) ∨ (a5 ≠ 0 ∧ Ra n g i e lo (hi + 1 - lo) l x < Ra n g (-1) e lo (hi + 1 - lo) l x))) := by
      intro hy
      refine ih q _ _ _ (by omega) ⟨j + 1, by omega, by omega, hs, e3, fun i hi => ?_⟩
      rw [e4 i hi]
      constructor
      · rintro ⟨a, b⟩; exact ⟨by omega, b⟩
      · rintro ⟨a, b⟩
        by_cases q3 : i = j
        · subst q3; exact absurd b hy
        · exact ⟨by omega, b⟩
    have c0 : ∀ {A B : Option (Int × Mem)}, cEq 0 0 A B = A := fun {A B} => by rw [cEq_if (by decide) (by decide) (by decide) (by decide), if_pos rfl]
    have c1 : ∀ {A B : Option (Int × Mem)}, cEq 1 0 A B = B := fun {A B} => by rw [cEq_if (by decide) (by decide) (by decide) (by decide), if_neg (by decide)]
    rcases h5 with rfl | rfl
    · rw [c0, dEq_if (by omega) (by omega) (by decide) (by decide), dLt_if (by decide) (by decide) (by omega) (by omega)]
      by_cases q2 : Ra n g j e lo (hi + 1 - lo) l x = 0
      · rw [if_pos q2]
        by_cases q3 : 0 < Ra n g (-1) e lo (hi + 1 - lo) l x
        · rw [if_pos q3, c1]; exact yes (Or.inl ⟨rfl, q2, q3⟩)
        · rw [if_neg q3, c0]; exact no (fun h => by omega)
      · rw [if_neg q2, c0]; exact no (fun h => by omega)
    · rw [c1, dLt_if (by omega) (by omega) (by omega) (by omega)]
      by_cases q2 : Ra n g j e lo (hi + 1 - lo) l x < Ra n g (-1) e lo (hi + 1 - lo) l x
      · rw [if_pos q2, c1]; exact yes (Or.inr ⟨by decide, q2⟩)
      · rw [if_neg q2, c0]; exact no (fun h => by omega)
  · rw [if_neg q1]
    obtain rfl : j = n := by omega
    exact ⟨v, E, rfl, e2, e3, e4⟩
theorem d_among {M : Mem} {n e : Nat} {g : Nat → Int} {a1 a2 a3 a4 a5 : Int} (h1 : R3 a1) (h2 : R3 a2) (h3 : R3 a3) (h4 : R3 a4) (h5 : a5 = 0 ∨ a5 = 1) (hS : Sg M n g e) (hD : Hd M n g e) (hV : TV M) :
    ∃ (r : Int) (M1 M2 : Mem), fn_X10_among a1 a2 a3 a4 a5 M = some (r, M1) ∧ fn_X11_among 71 a1 a2 a3 a4 a5 M1 = some (r, M2) ∧ Fq M M2 ∧ TV M2 := by
  have hn := hS.2.1
  have he := hS.2.2.2.2
  unfold fn_X10_among fn_X11_among
  rw [p_RQ h1 h2 h3 h4 hS, cu_s, cE_b2]
  by_cases q : (0 ≤ a1 ∧ a1 < n) ∧ (0 ≤ a2 ∧ a2 ≤ 999) ∧ (0 ≤ a3 ∧ a3 ≤ a4 ∧ a4 ≤ 12)
  · rw [if_pos q]
    obtain ⟨M1, f1, f2, f3⟩ := p_tabAll hS hV
    have s1 := Sg_q (Fq_t f3) hS
    obtain ⟨l, hl⟩ := Int.eq_ofNat_of_zero_le q.1.1
    obtain ⟨lo, hlo⟩ := Int.eq_ofNat_of_zero_le q.2.2.1
    obtain ⟨hi, hhi⟩ := Int.eq_ofNat_of_zero_le (show 0 ≤ a4 by omega)
    subst hl; subst hlo; subst hhi
    obtain ⟨B, hB⟩ := f2.1
    have fin : ∀ v M2, F26 102 M1 M2 → Tb 102 12 M2 n g (-1) (max B hi) → R3 v → (∀ i, i < 32 → (tb v i = true ↔ i < n ∧ ((a5 = 0 ∧ Ra n g i e lo (hi + 1 - lo) l a2 = 0 ∧ 0 < Ra n g (-1) e lo (hi + 1 - lo) l a2) ∨ (a5 ≠ 0 ∧ Ra n g i e lo (hi + 1 - lo) l a2 < Ra n g (-1) e lo (hi + 1 - lo) l a2)))) →
        ∃ M3, (cu (fn_X11_areRows 71 l a2 lo hi M2) fun x6 => cEq x6 0 (some ((-1), M2)) (cv (fn_X11_laysRows 71 hi (-1) M2) fun M18 => cu (fn_X11_rowsAll 71 l a2 lo hi M18) fun x27 => lq3 (fn_X11_among_L38 71 l a2 lo hi a5 x27) FU 0 0 M18)) = some (v, M3) ∧ Fq M M3 ∧ TV M3 := by
      intro v M2 g3 g2 hv hb
      have hT2 := Ta_26 g3 g2 f2
      have hF2 := (Fq_t f3).tr (Fq_26 g3)
      have d2 := Hd_q hF2 hD
      obtain ⟨M3, l1, l2, l3⟩ := q_laysRows (wo := -1) (k := hi) d2 (by omega) (by omega)
      have d3 := Hd_q (Fq_94 l2) d2
      obtain ⟨v', M4, m1, m2, m3, m4⟩ := q_among (a5 := a5) d3 (show hi ≤ 12 by omega) (show lo ≤ hi by omega) (show l < 11 by omega) (x := a2) (by omega) h5
      refine ⟨M4, ?_, (hF2.tr (Fq_94 l2)).tr (Fq_94 m2), TV_94 m2 (TV_94 l2 (Ta_TV (Sg_q hF2 hS) hT2))⟩
      rw [q_RQ h1 h2 h3 h4 d2, cu_s, cE_b2, if_pos q, l1, cv_s, q_rowsAll d3 l3 (by omega) (by omega) (by omega) (by omega) (by omega), cu_s, m1, tb_ext hv m3 (fun i hi => by rw [Bool.eq_iff_iff, hb i hi, m4 i hi])]
    rw [f1, cv_s, ck_t (nOf_1 f2.2.1)]
    simp only [Nat.zero_add]
    rw [s1.2.2.2.1, cEq_if (by omega) (by omega) (by decide) (by decide)]
    by_cases q5 : a5 = 0
    · obtain ⟨v, M2, g1, gv, gb, g2, g3⟩ := p_inAll (l := (l : Int)) (x := a2) (lo := lo) (hi := hi) (e := e) (Tc_all hS) hB (by omega) (by omega) (by omega) he (by omega)
      obtain ⟨M3, k1, k2, k3⟩ := fin v M2 g3 g2 gv (fun i hi => by
        rw [gb i hi]
        constructor
        · rintro ⟨a, b, c⟩; exact ⟨a, Or.inl ⟨q5, b, c⟩⟩
        · rintro ⟨a, (⟨_, b, c⟩ | ⟨b, _⟩)⟩
          · exact ⟨a, b, c⟩
          · exact absurd q5 b)
      rw [if_pos q5, g1, cl_s]
      exact ⟨v, M2, M3, rfl, k1, k2, k3⟩
    · obtain ⟨v, M2, g1, gv, gb, g2, g3⟩ := p_inSome (l := (l : Int)) (x := a2) (lo := lo) (hi := hi) (e := e) (Tc_all hS) hB (by omega) (by omega) (by omega) he (by omega)
      obtain ⟨M3, k1, k2, k3⟩ := fin v M2 g3 g2 gv (fun i hi => by
        rw [gb i hi]
        constructor
        · rintro ⟨a, b⟩; exact ⟨a, Or.inr ⟨q5, b⟩⟩
        · rintro ⟨a, (⟨b, _⟩ | ⟨_, b⟩)⟩
          · exact absurd b q5
          · exact ⟨a, b⟩)
      rw [if_neg q5, g1, cl_s]
      exact ⟨v, M2, M3, rfl, k1, k2, k3⟩
  · rw [if_neg q]
    refine ⟨_, _, M, rfl, ?_, fun _ _ _ _ => rfl, hV⟩
    rw [q_RQ h1 h2 h3 h4 hD, cu_s, cE_b2, if_neg q]
