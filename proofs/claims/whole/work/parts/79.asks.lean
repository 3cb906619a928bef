/-! the tables from call to call -/
def Ok1 (t L : Nat) (M : Mem) : Prop := ∃ (n : Nat) (g : Nat → Int) (wo : Int) (B : Nat), Tc t L n g wo ∧ Tb t L M n g wo B
def TV (M : Mem) : Prop := (M 0 8 = 0 ∧ M 0 9 = 0) ∨ (M 0 8 ≠ 0 ∧ Ok1 102 12 M ∧ (M 0 9 = 0 ∨ Ok1 106 4 M))
theorem Tb_f {t L : Nat} {M M' : Mem} {n : Nat} {g : Nat → Int} {wo : Int} {B : Nat} (h : ∀ k i, t ≤ k → k ≤ t + 3 → M' k i = M k i) (hT : Tb t L M n g wo B) : Tb t L M' n g wo B := by
  obtain ⟨⟨t0, t4, t5, tg⟩, h6, hBL, hv⟩ := hT
  refine ⟨⟨?_, ?_, ?_, fun x hx => ?_⟩, ?_, hBL, fun k f s a b c => Lv_f (h _ _ (by omega) (by omega)) (h _ _ (by omega) (by omega)) (hv k f s a b c)⟩
  · rw [h _ _ (by omega) (by omega)]; exact t0
  · rw [h _ _ (by omega) (by omega)]; exact t4
  · rw [h _ _ (by omega) (by omega)]; exact t5
  · rw [h _ _ (by omega) (by omega)]; exact tg x hx
  · rw [h _ _ (by omega) (by omega)]; exact h6
theorem Ok1_f {t L : Nat} {M M' : Mem} (h : ∀ k i, t ≤ k → k ≤ t + 3 → M' k i = M k i) (hT : Ok1 t L M) : Ok1 t L M' := by
  obtain ⟨n, g, wo, B, h1, h2⟩ := hT
  exact ⟨n, g, wo, B, h1, Tb_f h h2⟩
theorem TV_f {M M' : Mem} (h0 : ∀ i, M' 0 i = M 0 i) (h : ∀ k i, 102 ≤ k → k ≤ 109 → M' k i = M k i) (hT : TV M) : TV M' := by
  unfold TV at hT ⊢
  rw [h0, h0]
  rcases hT with h1 | ⟨h1, h2, h3⟩
  · exact Or.inl h1
  · refine Or.inr ⟨h1, Ok1_f (fun k i a b => h k i (by omega) (by omega)) h2, ?_⟩
    rcases h3 with h3 | h3
    · exact Or.inl h3
    · exact Or.inr (Ok1_f (fun k i a b => h k i (by omega) (by omega)) h3)
theorem Cf_ext {n : Nat} {g g' : Nat → Int} {wo : Int} (hg : ∀ h, h < n → g h = g' h) {k f : Nat} {s : Int} (hf : f < n) : Cf n g wo k f s = Cf n g' wo k f s := by
  unfold Cf; rw [Wn_ext hg, hg f hf]
theorem Tb_ext {t L : Nat} {M : Mem} {n : Nat} {g g' : Nat → Int} {wo : Int} {B : Nat} (hg : ∀ h, h < n → g h = g' h) (hT : Tb t L M n g wo B) : Tb t L M n g' wo B := by
  obtain ⟨⟨t0, t4, t5, tg⟩, h6, hBL, hv⟩ := hT
  refine ⟨⟨t0, t4, t5, fun x hx => by rw [← hg x hx]; exact tg x hx⟩, h6, hBL, fun k f s a b c => ?_⟩
  obtain ⟨v1, v2⟩ := hv k f s a b c
  refine ⟨by rw [v1]; exact Cf_ext hg b, fun hw i hi => ?_⟩
  rw [v2 hw i hi]
  unfold mb
  rw [Cf_ext hg b, Cf_ext hg b, Cf_ext hg b]
def Sg (M : Mem) (n : Nat) (g : Nat → Int) (e : Nat) : Prop := M 1 1 = (n : Int) ∧ n ≤ 10 ∧ (∀ h, h < n → M 2 h = g h ∧ 1 ≤ g h ∧ g h ≤ 30) ∧ M 1 10 = (e : Int) ∧ e ≤ 9
theorem Sg_f {M M' : Mem} {n e : Nat} {g : Nat → Int} (h1 : ∀ i, M' 1 i = M 1 i) (h2 : ∀ i, M' 2 i = M 2 i) (hH : Sg M n g e) : Sg M' n g e := by
  unfold Sg at hH ⊢; simp only [h1, h2]; exact hH
theorem p_suit {t L n e : Nat} {g : Nat → Int} {wo : Int} {M : Mem} (ht : 100 ≤ t) (hS : Sg M n g e) (hc : Tc t L n g wo) (hO : Ok1 t L M) : ∃ M' B, fn_X2_suit t 1 wo M = some M' ∧ Tb t L M' n g wo B ∧ (∀ k i, k ≠ t → k ≠ t + 1 → M' k i = M k i) := by
  obtain ⟨n', g', wo', B', hc', hB'⟩ := hO
  obtain ⟨hn', hg', hL, h2, h3, hwo'⟩ := id hc'
  obtain ⟨⟨t0, t4, t5, tg⟩, h6, hBL, hv⟩ := id hB'
  obtain ⟨hn, hg, -, -, -, hwo⟩ := id hc
  obtain ⟨s1, s2, s3, s4, s5⟩ := hS
  have new : ∃ M' B, fn_X2_suit_J77 t 1 wo M 0 = some M' ∧ Tb t L M' n g wo B ∧ (∀ k i, k ≠ t → k ≠ t + 1 → M' k i = M k i) := by
    unfold fn_X2_suit_J77
    have e1 : cp M (1 + 1) (t + 1) 10 1 1 = (n : Int) := by rw [cp_k, if_neg (by omega)]; exact s1
    rw [cEq_if (by decide) (by decide) (by decide) (by decide), if_pos rfl, cmm_eq, e1, ck_R33 (by omega) (by omega) (by decide) (by decide), st_eq, st_eq, st_eq]
    refine ⟨_, 0, rfl, ⟨⟨?_, ?_, ?_, fun h hh => ?_⟩, ?_, by omega, fun k f s a => by omega⟩, fun k i a b => ?_⟩
    · rw [up_i, if_neg (by decide), up_i, if_neg (by decide), up_i, if_neg (by decide), cp_k, if_neg (by omega)]; exact t0
    · rw [up_i, if_neg (by decide), up_i, if_neg (by decide), up_i, if_pos rfl]; omega
    · rw [up_i, if_neg (by decide), up_i, if_pos rfl]
    · rw [up_o (by omega), up_o (by omega), up_o (by omega), cp_k, if_pos ⟨rfl, by omega⟩]; exact (s3 h hh).1
    · rw [up_i, if_pos rfl]; rfl
    · rw [up_o a, up_o a, up_o a, cp_k, if_neg (by omega)]
  have loop : ∀ u, (u = 0 ∨ (u = 1 ∧ n' = n ∧ wo' = wo)) → ∃ M' B, fn_X2_suit_J24 t 1 wo M u = some M' ∧ Tb t L M' n g wo B ∧ (∀ k i, k ≠ t → k ≠ t + 1 → M' k i = M k i) := by
    intro u hu
    unfold fn_X2_suit_J24
    refine lr2 (P := fun o => ∃ M' B, o = some M' ∧ Tb t L M' n g wo B ∧ (∀ k i, k ≠ t → k ≠ t + 1 → M' k i = M k i)) (I := fun q a v => ∃ j : Nat, j + q = n' ∧ a = (j : Int) ∧ (v = 0 ∨ (v = 1 ∧ n' = n ∧ wo' = wo ∧ ∀ h, h < j → g' h = g h))) ?_ n' FU 0 u (lt_FU (by omega)) ⟨0, by omega, rfl, by
      rcases hu with h | ⟨h, h'⟩
      · exact Or.inl h
      · exact Or.inr ⟨h, h'.1, h'.2, fun h hh => by omega⟩⟩
    rintro q a v rec ⟨j, e1, rfl, e2⟩ ih
    unfold fn_X2_suit_L28 fn_X2_suit_J70
    simp only [nm_eq]
    rw [t4, cLt_if (by omega) (by omega) (by omega) (by omega)]
    by_cases q1 : (j : Int) < (n' : Int)
    · rw [if_pos q1, cLt_if (by omega) (by omega) (by decide) (by decide), if_pos (by omega), cEq_if (by omega) (by omega) (by decide) (by decide)]
      rcases e2 with rfl | ⟨rfl, e3, e4, e5⟩
      · rw [if_pos rfl]; exact new
      · obtain ⟨q, rfl⟩ : ∃ r', q = r' + 1 := ⟨q - 1, by omega⟩
        have b1 := hg' j (by omega)
        have b2 := s3 j (by omega)
        rw [if_neg (by decide), rd_eq (by omega) (by omega), rd_eq (by omega) (by omega), Int.toNat_natCast, tg j (by omega), b2.1, cEq_if (by omega) (by omega) (by omega) (by omega)]
        by_cases q2 : g' j = g j
        · rw [if_pos q2]
          refine ih q _ _ (by omega) ⟨j + 1, by omega, by omega, Or.inr ⟨rfl, e3, e4, fun h hh => ?_⟩⟩
          by_cases q3 : h = j
          · subst q3; exact q2
          · exact e5 h (by omega)
        · rw [if_neg q2]
          exact ih q _ _ (by omega) ⟨j + 1, by omega, by omega, Or.inl rfl⟩
    · rw [if_neg q1]
      rcases e2 with rfl | ⟨rfl, e3, e4, e5⟩
      · exact new
      · unfold fn_X2_suit_J77
        rw [cEq_if (by decide) (by decide) (by decide) (by decide), if_neg (by decide)]
        subst e3; subst e4
        exact ⟨M, B', rfl, Tb_ext (fun h hh => e5 h (by omega)) hB', fun _ _ _ _ => rfl⟩
  unfold fn_X2_suit fn_X2_suit_J23
  rw [t4, t5, s1, cEq_if (by omega) (by omega) (by omega) (by omega)]
  by_cases q1 : (n' : Int) = (n : Int)
  · rw [if_pos q1, cEq_if (by omega) (by omega) (by omega) (by omega)]
    by_cases q2 : wo' = wo
    · rw [if_pos q2]; exact loop 1 (Or.inr ⟨rfl, by omega, q2⟩)
    · rw [if_neg q2]; exact loop 0 (Or.inl rfl)
  · rw [if_neg q1]; exact loop 0 (Or.inl rfl)
/-- the table of all ROWS stands for the HANDS as they are now -/
def Ta (M : Mem) (n : Nat) (g : Nat → Int) : Prop := (∃ B, Tb 102 12 M n g (-1) B) ∧ M 0 8 ≠ 0 ∧ (M 0 9 = 0 ∨ Ok1 106 4 M)
theorem ln_all : (ln 104 = sta 13 ∧ ln 105 = sta 13) ∧ ln 108 = sta 5 ∧ ln 109 = sta 5 := by decide
theorem Tc_all {n e : Nat} {g : Nat → Int} {M : Mem} (hS : Sg M n g e) : Tc 102 12 n g (-1) := ⟨hS.2.1, fun h hh => (hS.2.2.1 h hh).2, by omega, ln_all.1.1, ln_all.1.2, by omega⟩
theorem Tc_wo {n e : Nat} {g : Nat → Int} {M : Mem} {wo : Int} (hS : Sg M n g e) (hw : -1 ≤ wo ∧ wo ≤ 10) : Tc 106 4 n g wo := ⟨hS.2.1, fun h hh => (hS.2.2.1 h hh).2, by omega, ln_all.2.1, ln_all.2.2, hw⟩
theorem Ta_TV {M : Mem} {n e : Nat} {g : Nat → Int} (hS : Sg M n g e) (h : Ta M n g) : TV M := by
  obtain ⟨⟨B, h1⟩, h2, h3⟩ := h
  exact Or.inr ⟨h2, ⟨n, g, -1, B, Tc_all hS, h1⟩, h3⟩
theorem Ta_26 {M M' : Mem} {n B : Nat} {g : Nat → Int} (hF : F26 102 M M') (hB : Tb 102 12 M' n g (-1) B) (h : Ta M n g) : Ta M' n g := by
  obtain ⟨-, h2, h3⟩ := h
  refine ⟨⟨B, hB⟩, by rw [hF.1 0 8 (by decide) (by decide) (by decide)]; exact h2, ?_⟩
  rw [hF.1 0 9 (by decide) (by decide) (by decide)]
  rcases h3 with h3 | h3
  · exact Or.inl h3
  · exact Or.inr (Ok1_f (fun k i a b => hF.1 k i (by omega) (by omega) (by omega)) h3)
theorem p_tabAll {n e : Nat} {g : Nat → Int} {M : Mem} (hS : Sg M n g e) (hV : TV M) : ∃ M', fn_X10_tableOfAll M = some M' ∧ Ta M' n g ∧ (∀ k i, k ≠ 0 → k < 102 → M' k i = M k i) := by
  have hc := Tc_all hS
  unfold fn_X10_tableOfAll
  rcases hV with ⟨h8, h9⟩ | ⟨h8, hO, h9⟩
  · rw [if_pos h8, if_pos h9]
    generalize hM1 : mc_X2_init_102 (up (zr M 102) 0 8 1) = M1
    have k1 : ∀ k i, k ≠ 0 → k < 102 → M1 k i = M k i := fun k i a b => by
      rw [← hM1]; unfold mc_X2_init_102
      simp only [up_k, zr]
      simp (disch := omega) only [if_neg]
    have k8 : M1 0 8 = 1 := by rw [← hM1]; rfl
    have k9 : M1 0 9 = 0 := by rw [← hM1]; exact h9
    have hO : Ok1 102 12 M1 := by
      refine ⟨0, g, -1, 0, ⟨by omega, fun h hh => by omega, by omega, ln_all.1.1, ln_all.1.2, by omega⟩, ⟨?_, ?_, ?_, fun h hh => by omega⟩, ?_, by omega, fun k f s a => by omega⟩
      · rw [← hM1]; rfl
      · rw [← hM1]; rfl
      · rw [← hM1]; rfl
      · rw [← hM1]; rfl
    obtain ⟨M', B, f1, f2, f3⟩ := p_suit (M := M1) (by decide) (Sg_f (fun i => k1 1 i (by decide) (by decide)) (fun i => k1 2 i (by decide) (by decide)) hS) hc hO
    refine ⟨M', f1, ⟨⟨B, f2⟩, ?_, Or.inl ?_⟩, fun k i a b => ?_⟩
    · rw [f3 0 8 (by decide) (by decide), k8]; decide
    · rw [f3 0 9 (by decide) (by decide), k9]
    · rw [f3 k i (by omega) (by omega), k1 k i a b]
  · rw [if_neg h8]
    obtain ⟨M', B, f1, f2, f3⟩ := p_suit (M := M) (by decide) hS hc hO
    refine ⟨M', f1, ⟨⟨B, f2⟩, by rw [f3 0 8 (by decide) (by decide)]; exact h8, ?_⟩, fun k i a b => f3 k i (by omega) (by omega)⟩
    rw [f3 0 9 (by decide) (by decide)]
    rcases h9 with h9 | h9
    · exact Or.inl h9
    · exact Or.inr (Ok1_f (fun k i a b => f3 k i (by omega) (by omega)) h9)
theorem nOf_1 {M : Mem} (h : M 0 8 ≠ 0) : 102 < nOf M := by
  unfold nOf; rw [if_neg h]; split <;> decide
theorem p_RQ {M : Mem} {n e : Nat} {g : Nat → Int} {a1 a2 a3 a4 : Int} (h1 : R3 a1) (h2 : R3 a2) (h3 : R3 a3) (h4 : R3 a4) (hS : Sg M n g e) : fn_X10_isRowQuestion 0 a1 a2 a3 a4 M = some (b2 ((0 ≤ a1 ∧ a1 < n) ∧ (0 ≤ a2 ∧ a2 ≤ 999) ∧ (0 ≤ a3 ∧ a3 ≤ a4 ∧ a4 ≤ 12))) := by
  have hn := hS.2.1
  have h11 : M 1 1 = (n : Int) := hS.1
  unfold fn_X10_isRowQuestion fn_X10_isRowQuestion_J37
  simp only [Nat.zero_add]
  rw [p_isHand h1 (by omega) (by omega), cu_s, cE_b2, h11, p_isWithin h2 ⟨by decide, by decide⟩ ⟨by decide, by decide⟩, cu_s, cE_b2, p_areLengths h3 h4 ⟨by decide, by decide⟩, cu_s, cE_b2]
  by_cases q1 : 0 ≤ a1 ∧ a1 < (n : Int)
  · by_cases q2 : 0 ≤ a2 ∧ a2 ≤ 999
    · by_cases q3 : 0 ≤ a3 ∧ a3 ≤ a4 ∧ a4 ≤ 12
      · rw [if_pos q1, if_pos q2, if_pos q3, b2_t ⟨q1, q2, q3⟩]
      · rw [if_pos q1, if_pos q2, if_neg q3, b2_f (fun h => q3 h.2.2)]
    · rw [if_pos q1, if_neg q2, b2_f (fun h => q2 h.2.1)]
  · rw [if_neg q1, b2_f (fun h => q1 h.1)]
theorem q_RQ {M : Mem} {n e : Nat} {g : Nat → Int} {a1 a2 a3 a4 : Int} (h1 : R3 a1) (h2 : R3 a2) (h3 : R3 a3) (h4 : R3 a4) (hS : Hd M n g e) : fn_X11_areRows 71 a1 a2 a3 a4 M = some (b2 ((0 ≤ a1 ∧ a1 < n) ∧ (0 ≤ a2 ∧ a2 ≤ 999) ∧ (0 ≤ a3 ∧ a3 ≤ a4 ∧ a4 ≤ 12))) := by
  have hn := hS.2.1
  have h11 : M 72 0 = (n : Int) := hS.1
  unfold fn_X11_areRows fn_X11_areRows_J44
  rw [q_isHand h1 (by omega) (by omega), cu_s, cE_b2, h11, p_in h2 ⟨by decide, by decide⟩ ⟨by decide, by decide⟩, cu_s, cE_b2, p_in h3 ⟨by decide, by decide⟩ ⟨by decide, by decide⟩, cu_s, cE_b2, p_in h4 h3 ⟨by decide, by decide⟩, cu_s, cE_b2]
  by_cases q1 : 0 ≤ a1 ∧ a1 < (n : Int)
  · by_cases q2 : 0 ≤ a2 ∧ a2 ≤ 999
    · by_cases q3 : 0 ≤ a3 ∧ a3 ≤ 12
      · by_cases q4 : a3 ≤ a4 ∧ a4 ≤ 12
        · rw [if_pos q1, if_pos q2, if_pos q3, if_pos q4, b2_t ⟨q1, q2, by omega⟩]
        · rw [if_pos q1, if_pos q2, if_pos q3, if_neg q4, b2_f (fun h => q4 h.2.2.2)]
      · rw [if_pos q1, if_pos q2, if_neg q3, b2_f (fun h => q3 (by omega))]
    · rw [if_pos q1, if_neg q2, b2_f (fun h => q2 h.2.1)]
  · rw [if_neg q1, b2_f (fun h => q1 h.1)]
def Fq (M M' : Mem) : Prop := ∀ k i, k ≠ 0 → k < 94 → M' k i = M k i
theorem Fq.tr {M M' M'' : Mem} (h : Fq M M') (h' : Fq M' M'') : Fq M M'' := fun k i a b => (h' k i a b).trans (h k i a b)
theorem Fq_26 {M M' : Mem} (h : F26 102 M M') : Fq M M' := fun k i a b => h.1 k i (by omega) (by omega) (by omega)
theorem Fq_94 {M M' : Mem} (h : S94 M M') : Fq M M' := fun k i a b => h k i (by omega)
theorem Fq_t {M M' : Mem} (h : ∀ k i, k ≠ 0 → k < 102 → M' k i = M k i) : Fq M M' := fun k i a b => h k i a (by omega)
theorem Sg_q {M M' : Mem} {n e : Nat} {g : Nat → Int} (h : Fq M M') (hS : Sg M n g e) : Sg M' n g e := Sg_f (fun i => h 1 i (by decide) (by decide)) (fun i => h 2 i (by decide) (by decide)) hS
theorem Hd_q {M M' : Mem} {n e : Nat} {g : Nat → Int} (h : Fq M M') (hS : Hd M n g e) : Hd M' n g e := Hd_f (fun i => h 72 i (by decide) (by decide)) hS
theorem TV_94 {M M' : Mem} (h : S94 M M') (hV : TV M) : TV M' := TV_f (fun i => h 0 i (by decide)) (fun k i a b => h k i (by omega)) hV
theorem d_rows {M : Mem} {n e : Nat} {g : Nat → Int} {a1 a2 a3 a4 : Int} (h1 : R3 a1) (h2 : R3 a2) (h3 : R3 a3) (h4 : R3 a4) (hS : Sg M n g e) (hD : Hd M n g e) (hV : TV M) :
    ∃ (r : Int) (M1 M2 : Mem), fn_X10_rows a1 a2 a3 a4 M = some (r, M1) ∧ fn_X11_rows 71 a1 a2 a3 a4 M1 = some (r, M2) ∧ Fq M M2 ∧ TV M2 := by
  have hn := hS.2.1
  have he := hS.2.2.2.2
  unfold fn_X10_rows fn_X11_rows
  rw [p_RQ h1 h2 h3 h4 hS, cu_s, cE_b2]
  by_cases q : (0 ≤ a1 ∧ a1 < n) ∧ (0 ≤ a2 ∧ a2 ≤ 999) ∧ (0 ≤ a3 ∧ a3 ≤ a4 ∧ a4 ≤ 12)
  · rw [if_pos q]
    obtain ⟨M1, f1, f2, f3⟩ := p_tabAll hS hV
    have s1 := Sg_q (Fq_t f3) hS
    obtain ⟨l, hl⟩ := Int.eq_ofNat_of_zero_le q.1.1
    obtain ⟨lo, hlo⟩ := Int.eq_ofNat_of_zero_le q.2.2.1
    obtain ⟨hi, hhi⟩ := Int.eq_ofNat_of_zero_le (show 0 ≤ a4 by omega)
    subst hl; subst hlo; subst hhi
    obtain ⟨B, hB⟩ := f2.1
    obtain ⟨M2, g1, g2, g3⟩ := p_total (l := (l : Int)) (x := a2) (lo := lo) (hi := hi) (e := e) (Tc_all hS) hB (by omega) (by omega) (by omega) he (by omega)
    have hT2 := Ta_26 g3 g2 f2
    have hF2 := (Fq_t f3).tr (Fq_26 g3)
    have d2 := Hd_q hF2 hD
    obtain ⟨M3, l1, l2, l3⟩ := q_laysRows (wo := -1) (k := hi) d2 (by omega) (by omega)
    rw [f1, cv_s, ck_t (nOf_1 f2.2.1)]
    simp only [Nat.zero_add]
    rw [s1.2.2.2.1, g1, cl_s]
    refine ⟨_, _, M3, rfl, ?_, hF2.tr (Fq_94 l2), TV_94 l2 (Ta_TV (Sg_q hF2 hS) hT2)⟩
    rw [q_RQ h1 h2 h3 h4 d2, cu_s, cE_b2, if_pos q, l1, cv_s, q_rowsAll (Hd_q (Fq_94 l2) d2) l3 (by omega) (by omega) (by omega) (by omega) (by omega), cu_s]
  · rw [if_neg q]
    refine ⟨_, _, M, rfl, ?_, fun _ _ _ _ => rfl, hV⟩
    rw [q_RQ h1 h2 h3 h4 hD, cu_s, cE_b2, if_neg q]
