/-! sorted: the class -/
def Cc (M : Mem) (nc : Nat) (wt tr : Nat → Int) : Prop := M 1 7 = (nc : Int) ∧ nc ≤ 20 ∧ ∀ c, c < nc → M 4 c = wt c ∧ M 7 c = tr c ∧ (0 ≤ wt c ∧ wt c ≤ 1000000) ∧ (-1 ≤ tr c ∧ tr c ≤ 5)
def F65 (M M' : Mem) : Prop := ∀ k i, k < 65 ∨ 69 < k → M' k i = M k i
theorem F65.rf {M : Mem} : F65 M M := fun _ _ _ => rfl
theorem F65.tr {M M' M'' : Mem} (h : F65 M M') (h' : F65 M' M'') : F65 M M'' := fun k i a => (h' k i a).trans (h k i a)
theorem Cc_f {M M' : Mem} {nc : Nat} {wt tr : Nat → Int} (h : F65 M M') (hC : Cc M nc wt tr) : Cc M' nc wt tr := by
  unfold Cc at hC ⊢
  rw [h 1 7 (by omega)]
  refine ⟨hC.1, hC.2.1, fun c hc => ?_⟩
  rw [h 4 c (by omega), h 7 c (by omega)]; exact hC.2.2 c hc
def ebi (E : Nat → Nat) (x : Int) : Nat → Nat
  | 0 => 0
  | j + 1 => if (E j : Int) ≤ x then j else ebi E x j
theorem ebi_s {E : Nat → Nat} {x : Int} (h0 : E 0 = 0) (hx : 0 ≤ x) : ∀ m, 1 ≤ m → ebi E x m < m ∧ (E (ebi E x m) : Int) ≤ x ∧ ∀ i, ebi E x m < i → i < m → x < (E i : Int) := by
  intro m
  induction m with
  | zero => intro h; omega
  | succ m ih =>
    intro _
    show (if (E m : Int) ≤ x then m else ebi E x m) < m + 1 ∧ (E (if (E m : Int) ≤ x then m else ebi E x m) : Int) ≤ x ∧ ∀ i, (if (E m : Int) ≤ x then m else ebi E x m) < i → i < m + 1 → x < (E i : Int)
    by_cases q : (E m : Int) ≤ x
    · rw [if_pos q]; exact ⟨by omega, q, fun i a b => by omega⟩
    · rw [if_neg q]
      by_cases q2 : m = 0
      · subst q2; rw [h0] at q; exact absurd hx (by omega)
      · obtain ⟨a, b, c⟩ := ih (by omega)
        refine ⟨by omega, b, fun i h1 h2 => ?_⟩
        by_cases q3 : i = m
        · subst q3; omega
        · exact c i h1 (by omega)
def Me (M : Mem) (m : Nat) (E : Nat → Nat) : Prop := M 65 2 = (m : Int) ∧ m ≤ 21 ∧ ∀ i, i < m → M 67 i = (E i : Int)
theorem p_eb {M : Mem} {m : Nat} {E : Nat → Nat} {x : Int} (hM : Me M m E) (hE : Eg m E) (hx : 0 ≤ x ∧ x ≤ 1000000) : fn_X9_edgeBelow 65 x M = some (ebi E x m : Int) := by
  obtain ⟨m1, m2, m3⟩ := hM
  unfold fn_X9_edgeBelow
  refine lr2 (P := fun o => o = some (ebi E x m : Int)) (I := fun q a v => ∃ j : Nat, j + q = m ∧ a = (j : Int) ∧ v = (ebi E x j : Int)) ?_ m FU 0 0 (lt_FU (by omega)) ⟨0, by omega, rfl, rfl⟩
  rintro q a v rec ⟨j, e1, rfl, e2⟩ ih
  unfold fn_X9_edgeBelow_L4 fn_X9_edgeBelow_J30
  simp only [nm_eq]
  rw [m1, cLt_if (by omega) (by omega) (by omega) (by omega)]
  by_cases q1 : (j : Int) < (m : Int)
  · obtain ⟨q, rfl⟩ : ∃ r', q = r' + 1 := ⟨q - 1, by omega⟩
    have he := hE.2.2.2 j (by omega)
    rw [if_pos q1, cLt_if (by omega) (by omega) (by decide) (by decide), if_pos (by omega), rd_eq (by omega) (by omega), Int.toNat_natCast, show 65 + 2 = 67 from rfl, m3 j (by omega), cLt_if (by omega) (by omega) (by omega) (by omega)]
    have s1 : ebi E x (j + 1) = if (E j : Int) ≤ x then j else ebi E x j := rfl
    by_cases q2 : x < (E j : Int)
    · rw [if_pos q2]
      exact ih q _ _ (by omega) ⟨j + 1, by omega, by omega, by rw [s1, if_neg (by omega)]; exact e2⟩
    · rw [if_neg q2]
      exact ih q _ _ (by omega) ⟨j + 1, by omega, by omega, by rw [s1, if_pos (by omega)]⟩
  · rw [if_neg q1]
    obtain rfl : j = m := by omega
    rw [e2]
/-- one EDGE more -/
theorem p_addEdge {M : Mem} {m : Nat} {E : Nat → Nat} {v : Nat} (hM : Me M m E) (hE : Eg m E) (hm : m ≤ 20) (hv : v < 999) : ∃ M' m' E', fn_X9_addEdge 65 ((v : Int) + 1) M = some M' ∧ F65 M M' ∧ Me M' m' E' ∧ Eg m' E' ∧ m' ≤ m + 1 ∧ ∀ y, (∃ i, i < m' ∧ E' i = y) ↔ (∃ i, i < m ∧ E i = y) ∨ y = v + 1 := by
  obtain ⟨r1, r2, r3⟩ := ebi_s (E := E) (x := (v : Int)) hE.2.1 (by omega) m hE.1
  obtain ⟨m1, m2, m3⟩ := id hM
  unfold fn_X9_addEdge
  rw [show (v : Int) + 1 - 1 = (v : Int) by omega, p_eb hM hE (by omega), cu_s, nm_eq, m1, cLt_if (by omega) (by omega) (by decide) (by decide), if_pos (by omega)]
  generalize ebi E (v : Int) m = r at r1 r2 r3
  rw [cLt_if (by omega) (by omega) (by decide) (by decide), if_neg (by omega), cLt_if (by omega) (by omega) (by omega) (by omega)]
  have ins : (r + 1 < m → v + 1 < E (r + 1)) → ∃ M' m' E', fn_X9_addEdge_J42 65 ((v : Int) + 1) M ((r : Int) + 1) = some M' ∧ F65 M M' ∧ Me M' m' E' ∧ Eg m' E' ∧ m' ≤ m + 1 ∧ ∀ y, (∃ i, i < m' ∧ E' i = y) ↔ (∃ i, i < m ∧ E i = y) ∨ y = v + 1 := by
    intro hlt
    unfold fn_X9_addEdge_J42
    rw [nm_eq, m1]
    have hl : ∃ M1, lq2 (fn_X9_addEdge_L47 65 ((v : Int) + 1) ((r : Int) + 1)) FU (m : Int) M = fn_X9_addEdge_J72 65 ((v : Int) + 1) ((r : Int) + 1) M1 ∧ (∀ k i, k ≠ 67 → M1 k i = M k i) ∧ ∀ i, i ≤ m → M1 67 i = if i ≤ r + 1 then M 67 i else M 67 (i - 1) := by
      refine lr2 (P := fun o => ∃ M1, o = fn_X9_addEdge_J72 65 ((v : Int) + 1) ((r : Int) + 1) M1 ∧ (∀ k i, k ≠ 67 → M1 k i = M k i) ∧ ∀ i, i ≤ m → M1 67 i = if i ≤ r + 1 then M 67 i else M 67 (i - 1)) (I := fun q a G => ∃ d : Nat, d = r + 1 + q ∧ d ≤ m ∧ a = (d : Int) ∧ (∀ k i, k ≠ 67 → G k i = M k i) ∧ ∀ i, i ≤ m → G 67 i = if i ≤ d then M 67 i else M 67 (i - 1)) ?_ (m - (r + 1)) FU _ M (lt_FU (by omega)) ⟨m, by omega, Nat.le_refl _, rfl, fun _ _ _ => rfl, fun i hi => by rw [if_pos hi]⟩
      rintro q a G rec ⟨d, e1, e2, rfl, e3, e4⟩ ih
      unfold fn_X9_addEdge_L47
      rw [cLt_if (by omega) (by omega) (by omega) (by omega)]
      by_cases q1 : (r : Int) + 1 < (d : Int)
      · obtain ⟨q, rfl⟩ : ∃ r', q = r' + 1 := ⟨q - 1, by omega⟩
        rw [if_pos q1, rd_eq (by omega) (by omega), wr_eq (by omega) (by omega), nm_eq, show ((d : Int) - 1).toNat = d - 1 by omega, Int.toNat_natCast, show 65 + 2 = 67 from rfl]
        refine ih q _ _ (by omega) ⟨d - 1, by omega, by omega, by omega, fun k i hk => by rw [up_o hk]; exact e3 k i hk, fun i hi => ?_⟩
        rw [up_i]
        by_cases q2 : i = d
        · subst q2
          rw [if_pos rfl, e4 _ (by omega), if_pos (by omega), if_neg (by omega)]
        · rw [if_neg q2, e4 i hi]
          by_cases q3 : i ≤ d
          · rw [if_pos q3, if_pos (by omega)]
          · rw [if_neg q3, if_neg (by omega)]
      · rw [if_neg q1]
        obtain rfl : d = r + 1 := by omega
        exact ⟨G, rfl, e3, e4⟩
    obtain ⟨M1, f1, f2, f3⟩ := hl
    rw [f1]
    unfold fn_X9_addEdge_J72
    rw [wr_eq (by omega) (by omega), st_eq, show ((r : Int) + 1).toNat = r + 1 by omega, show 65 + 2 = 67 from rfl, up_o (by decide), f2 65 2 (by decide), m1]
    refine ⟨_, m + 1, fun i => if i ≤ r then E i else if i = r + 1 then v + 1 else E (i - 1), rfl, ?_, ⟨?_, by omega, fun i hi => ?_⟩, ⟨by omega, ?_, fun i hi => ?_, fun i hi => ?_⟩, by omega, fun y => ⟨?_, ?_⟩⟩
    · intro k i hk; rw [up_o (by omega), up_o (by omega), f2 k i (by omega)]
    · rw [up_i, if_pos rfl]; omega
    · show up (up M1 67 (r + 1) ((v : Int) + 1)) 65 2 ((m : Int) + 1) 67 i = ((if i ≤ r then E i else if i = r + 1 then v + 1 else E (i - 1) : Nat) : Int)
      rw [up_o (by decide), up_i]
      by_cases q1 : i ≤ r
      · rw [if_neg (by omega), if_pos q1, f3 i (by omega), if_pos (by omega)]; exact m3 i (by omega)
      · by_cases q2 : i = r + 1
        · rw [if_pos q2, if_neg q1, if_pos q2]; omega
        · rw [if_neg q2, if_neg q1, if_neg q2, f3 i (by omega), if_neg (by omega)]; exact m3 (i - 1) (by omega)
    · show (if 0 ≤ r then E 0 else _) = 0
      rw [if_pos (by omega)]; exact hE.2.1
    · show (if i ≤ r then E i else if i = r + 1 then v + 1 else E (i - 1)) < (if i + 1 ≤ r then E (i + 1) else if i + 1 = r + 1 then v + 1 else E (i + 1 - 1))
      by_cases q1 : i + 1 ≤ r
      · rw [if_pos (by omega), if_pos q1]; exact hE.2.2.1 i (by omega)
      · by_cases q2 : i = r
        · subst q2; rw [if_pos (by omega), if_neg q1, if_pos rfl]; omega
        · by_cases q3 : i = r + 1
          · subst q3; rw [if_neg (by omega), if_pos rfl, if_neg q1, if_neg (by omega), Nat.add_sub_cancel]; exact hlt (by omega)
          · rw [if_neg (by omega), if_neg q3, if_neg q1, if_neg (by omega), Nat.add_sub_cancel]
            have := hE.2.2.1 (i - 1) (by omega)
            rw [show i - 1 + 1 = i by omega] at this; exact this
    · show (if i ≤ r then E i else if i = r + 1 then v + 1 else E (i - 1)) < 1000
      by_cases q1 : i ≤ r
      · rw [if_pos q1]; exact hE.2.2.2 i (by omega)
      · by_cases q2 : i = r + 1
        · rw [if_neg q1, if_pos q2]; omega
        · rw [if_neg q1, if_neg q2]; exact hE.2.2.2 (i - 1) (by omega)
    · rintro ⟨i, h1, h2⟩
      have h2 : (if i ≤ r then E i else if i = r + 1 then v + 1 else E (i - 1)) = y := h2
      by_cases q1 : i ≤ r
      · rw [if_pos q1] at h2; exact Or.inl ⟨i, by omega, h2⟩
      · by_cases q2 : i = r + 1
        · rw [if_neg q1, if_pos q2] at h2; exact Or.inr h2.symm
        · rw [if_neg q1, if_neg q2] at h2; exact Or.inl ⟨i - 1, by omega, h2⟩
    · rintro (⟨i, h1, h2⟩ | h)
      · by_cases q1 : i ≤ r
        · exact ⟨i, by omega, by show (if i ≤ r then E i else _) = y; rw [if_pos q1]; exact h2⟩
        · refine ⟨i + 1, by omega, ?_⟩
          show (if i + 1 ≤ r then E (i + 1) else if i + 1 = r + 1 then v + 1 else E (i + 1 - 1)) = y
          rw [if_neg (by omega), if_neg (by omega), Nat.add_sub_cancel]; exact h2
      · refine ⟨r + 1, by omega, ?_⟩
        show (if r + 1 ≤ r then E (r + 1) else if r + 1 = r + 1 then v + 1 else E (r + 1 - 1)) = y
        rw [if_neg (by omega), if_pos rfl, h]
  by_cases q1 : (r : Int) + 1 < (m : Int)
  · have he := hE.2.2.2 (r + 1) (by omega)
    have h3 := r3 (r + 1) (by omega) (by omega)
    rw [if_pos q1, rd_eq (by omega) (by omega), show ((r : Int) + 1).toNat = r + 1 by omega, show 65 + 2 = 67 from rfl, m3 (r + 1) (by omega), cEq_if (by omega) (by omega) (by omega) (by omega)]
    by_cases q2 : (E (r + 1) : Int) = (v : Int) + 1
    · rw [if_pos q2]
      refine ⟨M, m, E, rfl, F65.rf, hM, hE, by omega, fun y => ⟨Or.inl, ?_⟩⟩
      rintro (h | h)
      · exact h
      · exact ⟨r + 1, by omega, by omega⟩
    · rw [if_neg q2]
      exact ins (fun _ => by omega)
  · rw [if_neg q1]
    exact ins (fun h => by omega)
def ES (m : Nat) (E : Nat → Nat) (wt tr : Nat → Int) (j : Nat) : Prop := ∀ y : Nat, (∃ i, i < m ∧ E i = y) ↔ y = 0 ∨ ∃ c, c < j ∧ tr c ≠ -1 ∧ wt c < 999 ∧ wt c + 1 = (y : Int)
theorem p_findEdges {M : Mem} {nc : Nat} {wt tr : Nat → Int} (hC : Cc M nc wt tr) : ∃ M' m E, fn_X9_findEdges 65 1 M = some M' ∧ F65 M M' ∧ Me M' m E ∧ Eg m E ∧ ES m E wt tr nc := by
  unfold fn_X9_findEdges
  rw [wr_eq (by decide) (by decide), st_eq]
  have h20 := hC.2.1
  refine lr2 (P := fun o => ∃ M' m E, o = some M' ∧ F65 M M' ∧ Me M' m E ∧ Eg m E ∧ ES m E wt tr nc) (I := fun q a G => ∃ (j m : Nat) (E : Nat → Nat), j + q = nc ∧ a = (j : Int) ∧ F65 M G ∧ Me G m E ∧ Eg m E ∧ m ≤ j + 1 ∧ ES m E wt tr j) ?_ nc FU 0 _ (lt_FU (by omega)) ⟨0, 1, fun _ => 0, by omega, rfl, ?_, ⟨?_, by omega, fun i hi => ?_⟩, ⟨by omega, rfl, fun i hi => by omega, fun i hi => show 0 < 1000 by decide⟩, by omega, fun y => ⟨?_, ?_⟩⟩
  · rintro q a G rec ⟨j, m, E, e1, rfl, e2, e3, e4, e5, e6⟩ ih
    obtain ⟨c0, c1, c2⟩ := Cc_f e2 hC
    unfold fn_X9_findEdges_L14 fn_X9_findEdges_J62
    simp only [nm_eq, Nat.reduceAdd]
    rw [c0, cLt_if (by omega) (by omega) (by omega) (by omega)]
    by_cases q1 : (j : Int) < (nc : Int)
    · obtain ⟨q, rfl⟩ : ∃ r', q = r' + 1 := ⟨q - 1, by omega⟩
      obtain ⟨d1, d2, d3, d4⟩ := c2 j (by omega)
      have skip : ¬ (tr j ≠ -1 ∧ wt j < 999) → ES m E wt tr (j + 1) := fun hn y => by
        rw [e6 y]
        constructor
        · rintro (h | ⟨c, h1, h2⟩)
          · exact Or.inl h
          · exact Or.inr ⟨c, by omega, h2⟩
        · rintro (h | ⟨c, h1, h2, h3, h4⟩)
          · exact Or.inl h
          · by_cases q3 : c = j
            · subst q3; exact absurd ⟨h2, h3⟩ hn
            · exact Or.inr ⟨c, by omega, h2, h3, h4⟩
      rw [if_pos q1, cLt_if (by omega) (by omega) (by decide) (by decide), if_pos (by omega), rd_eq (by omega) (by omega), rd_eq (by omega) (by omega), Int.toNat_natCast, d1, d2, cEq_if (by omega) (by omega) (by decide) (by decide)]
      by_cases q2 : tr j = -1
      · rw [if_pos q2]
        exact ih q _ _ (by omega) ⟨j + 1, m, E, by omega, by omega, e2, e3, e4, by omega, skip (fun h => h.1 q2)⟩
      · rw [if_neg q2, cLt_if (by omega) (by omega) (by decide) (by decide)]
        by_cases q3 : wt j < 999
        · obtain ⟨v, hv⟩ := Int.eq_ofNat_of_zero_le d3.1
          obtain ⟨G', m', E', f1, f2, f3, f4, f5, f6⟩ := p_addEdge (v := v) e3 e4 (by omega) (by omega)
          rw [if_pos q3, rd_eq (by omega) (by omega), Int.toNat_natCast, d1, hv, f1, cv_s]
          refine ih q _ _ (by omega) ⟨j + 1, m', E', by omega, by omega, e2.tr f2, f3, f4, by omega, fun y => ?_⟩
          rw [f6 y, e6 y]
          constructor
          · rintro ((h | ⟨c, h1, h2⟩) | h)
            · exact Or.inl h
            · exact Or.inr ⟨c, by omega, h2⟩
            · exact Or.inr ⟨j, by omega, q2, q3, by omega⟩
          · rintro (h | ⟨c, h1, h2, h3, h4⟩)
            · exact Or.inl (Or.inl h)
            · by_cases q4 : c = j
              · subst q4; exact Or.inr (by omega)
              · exact Or.inl (Or.inr ⟨c, by omega, h2, h3, h4⟩)
        · rw [if_neg q3]
          exact ih q _ _ (by omega) ⟨j + 1, m, E, by omega, by omega, e2, e3, e4, by omega, skip (fun h => q3 h.2)⟩
    · rw [if_neg q1]
      obtain rfl : j = nc := by omega
      exact ⟨G, m, E, rfl, e2, e3, e4, e6⟩
  · intro k i hk; rw [up_o (by omega), up_o (by omega)]
  · rw [up_i, if_pos rfl]; rfl
  · obtain rfl : i = 0 := by omega
    rw [up_o (by decide)]; rfl
  · rintro ⟨i, h1, h2⟩; exact Or.inl h2.symm
  · rintro (h | ⟨c, h1, _⟩)
    · exact ⟨0, by omega, h.symm⟩
    · omega
/-- who lies at which EDGE -/
def wrs (nc : Nat) (wt tr : Nat → Int) (m : Nat) (E : Nat → Nat) (a t : Nat) : Int := sm nc (fun c => if tr c ≠ -1 ∧ tr c ≠ (t : Int) ∧ ebi E (wt c) m = a then 1 else 0)
theorem SA_of {nc T m : Nat} {wt tr : Nat → Int} {E : Nat → Nat} (hE : Eg m E) (hS : ES m E wt tr nc) (hw : ∀ c, c < nc → 0 ≤ wt c) : SA (wbw nc wt tr) T m E (wrs nc wt tr m E) := by
  have he := hE.2.2.2
  refine ⟨hE, fun a t ha ht => ?_, fun t ht => ?_, fun a t c ha ht h1 h2 h3 => ?_, fun a t ha ht => sm_nn (fun c _ => by split <;> decide)⟩
  · unfold wrs wbw
    rw [← sm_sub]
    refine sm_ext (fun c hc => ?_)
    obtain ⟨r1, r2, r3⟩ := ebi_s (E := E) (x := wt c) hE.2.1 (hw c hc) m hE.1
    have e1 := hE.2.2.1 a ha
    have e2 := he (a + 1) ha
    by_cases q1 : tr c ≠ -1 ∧ tr c ≠ (t : Int)
    · by_cases q2 : ebi E (wt c) m = a
      · have h1 := r3 (a + 1) (by omega) ha
        rw [q2] at r2
        rw [if_pos ⟨q1.1, q1.2, q2⟩, if_pos ⟨q1.1, q1.2, Or.inr h1⟩, if_neg (fun h => by have := h.2.2; omega)]; rfl
      · rw [if_neg (fun h => q2 h.2.2)]
        by_cases q3 : ebi E (wt c) m < a
        · have h1 := r3 a q3 (by omega)
          rw [if_pos ⟨q1.1, q1.2, Or.inr (by omega)⟩, if_pos ⟨q1.1, q1.2, Or.inr h1⟩]; rfl
        · have h1 : E (a + 1) ≤ E (ebi E (wt c) m) := by
            by_cases q4 : a + 1 = ebi E (wt c) m
            · rw [q4]; exact Nat.le_refl _
            · exact Nat.le_of_lt (Eg_lt hE (by omega) r1)
          rw [if_neg (fun h => by have := h.2.2; omega), if_neg (fun h => by have := h.2.2; omega)]; rfl
    · rw [if_neg (fun h => q1 ⟨h.1, h.2.1⟩), if_neg (fun h => q1 ⟨h.1, h.2.1⟩), if_neg (fun h => q1 ⟨h.1, h.2.1⟩)]; rfl
  · unfold wrs wbw
    rw [← sm_sub]
    refine sm_ext (fun c hc => ?_)
    have hm := hE.1
    obtain ⟨r1, r2, r3⟩ := ebi_s (E := E) (x := wt c) hE.2.1 (hw c hc) m hE.1
    have e2 := he (m - 1) (by omega)
    by_cases q1 : tr c ≠ -1 ∧ tr c ≠ (t : Int)
    · rw [if_pos (c := tr c ≠ -1 ∧ tr c ≠ (t : Int) ∧ (1000 = 1000 ∨ wt c < ((1000 : Nat) : Int))) ⟨q1.1, q1.2, Or.inl rfl⟩]
      by_cases q2 : ebi E (wt c) m = m - 1
      · rw [q2] at r2
        rw [if_pos ⟨q1.1, q1.2, q2⟩, if_neg (fun h => by have := h.2.2; omega)]; rfl
      · have h1 := r3 (m - 1) (by omega) (by omega)
        rw [if_neg (fun h => q2 h.2.2), if_pos ⟨q1.1, q1.2, Or.inr h1⟩]; rfl
    · rw [if_neg (fun h => q1 ⟨h.1, h.2.1⟩), if_neg (fun h => q1 ⟨h.1, h.2.1⟩), if_neg (fun h => q1 ⟨h.1, h.2.1⟩)]; rfl
  · unfold wbw
    refine sm_ext (fun d hd => ?_)
    by_cases q1 : tr d ≠ -1 ∧ tr d ≠ (t : Int)
    · by_cases q2 : wt d < (c : Int)
      · rw [if_pos ⟨q1.1, q1.2, Or.inr q2⟩]
        by_cases q3 : wt d < (E a : Int)
        · rw [if_pos ⟨q1.1, q1.2, Or.inr q3⟩]
        · exfalso
          -- its own EDGE lies between
          have h0 := hw d hd
          obtain ⟨i, i1, i2⟩ := (hS (wt d + 1).toNat).mpr (Or.inr ⟨d, hd, q1.1, by omega, by omega⟩)
          have hai : a < i := by
            rcases Nat.lt_trichotomy a i with h | h | h
            · exact h
            · subst h; omega
            · have := Eg_lt hE h ha; omega
          have h4 := h3 (by omega)
          by_cases q5 : a + 1 = i
          · subst q5; omega
          · have := Eg_lt hE (show a + 1 < i by omega) i1; omega
      · rw [if_neg (fun h => by have := h.2.2; omega), if_neg (fun h => by have := h.2.2; have := he a ha; omega)]
    · rw [if_neg (fun h => q1 ⟨h.1, h.2.1⟩), if_neg (fun h => q1 ⟨h.1, h.2.1⟩)]
