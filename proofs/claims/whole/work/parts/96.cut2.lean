theorem p_takeN {C : Mem} {B : Nat → Int} {j m : Nat} (hb : 0 ≤ B j ∧ B j ≤ 255) (hn : ¬ isB (B j)) (hm : C 37 4 = (m : Int)) (hj : m ≤ j ∧ j < 300) :
    ∃ C' k v, fn_X8_take 37 (B j) j 0 C = some C' ∧ F37 C C' ∧ (∀ i, i ≠ 4 → C' 37 i = C 37 i) ∧ C' 37 4 = ((m + 1 : Nat) : Int) ∧ (∀ i, i ≠ m → C' 38 i = C 38 i ∧ C' 39 i = C 39 i ∧ C' 40 i = C 40 i ∧ C' 41 i = C 41 i) ∧ (C' 38 m = k ∧ C' 39 m = v ∧ C' 40 m = (j : Int) ∧ C' 41 m = 1) ∧ Rt B (j + 1) j (j + 1) k v := by
  obtain ⟨k, k1, k2⟩ := p_kindOf (M := C) hb
  unfold fn_X8_take fn_X8_take_J17
  rw [cEq_if (by decide) (by decide) (by decide) (by decide), if_pos rfl, hm, cLt_if (by omega) (by omega) (by decide) (by decide), if_neg (by omega), cLt_if (by omega) (by omega) (by decide) (by decide), if_pos (by omega), cEq_if (by decide) (by decide) (by decide) (by decide), if_pos rfl, k1, cu_s, wr_eq (by omega) (by omega), Int.toNat_natCast, p_isD (by omega), cu_s, cE_b2]
  have fin : ∀ v, Rt B (j + 1) j (j + 1) k v → ∃ C' k' v', fn_X8_take_J88 37 j m (up C (37 + 1) m k) v = some C' ∧ F37 C C' ∧ (∀ i, i ≠ 4 → C' 37 i = C 37 i) ∧ C' 37 4 = ((m + 1 : Nat) : Int) ∧ (∀ i, i ≠ m → C' 38 i = C 38 i ∧ C' 39 i = C 39 i ∧ C' 40 i = C 40 i ∧ C' 41 i = C 41 i) ∧ (C' 38 m = k' ∧ C' 39 m = v' ∧ C' 40 m = (j : Int) ∧ C' 41 m = 1) ∧ Rt B (j + 1) j (j + 1) k' v' := by
    intro v hR
    unfold fn_X8_take_J88
    rw [wr_eq (by omega) (by omega), wr_eq (by omega) (by omega), wr_eq (by omega) (by omega), st_eq, Int.toNat_natCast]
    simp only [Nat.reduceAdd]
    refine ⟨_, k, v, rfl, ((((F37.rf.up (by omega)).up (by omega)).up (by omega)).up (by omega)).up (by omega), fun i hi => ?_, ?_, fun i hi => ?_, ?_, hR⟩
    · rw [up_i, if_neg hi]; simp only [up_k, Nat.reduceEqDiff, false_and, if_false]
    · rw [up_i, if_pos rfl]; simp only [up_k, Nat.reduceEqDiff, false_and, if_false, hm]; omega
    · simp only [up_k, Nat.reduceEqDiff, false_and, if_false, true_and, if_neg hi]
    · simp only [up_k, Nat.reduceEqDiff, false_and, if_false, and_self, if_true]
  rcases k2 with ⟨rfl, h⟩ | ⟨rfl, h, h'⟩ | ⟨rfl, h, h'⟩
  · rw [if_neg (by unfold isL at h; omega)]
    exact fin 0 ⟨by omega, Nat.le_refl _, Or.inl ⟨fun x a b => by rw [show x = j by omega]; exact h, fun q => by omega, rfl, rfl⟩⟩
  · rw [if_pos (show 48 ≤ B j ∧ B j ≤ 57 from h')]
    refine fin (B j - 48) ⟨by omega, Nat.le_refl _, Or.inr (Or.inl ⟨fun x a b => by rw [show x = j by omega]; exact h', fun q => by omega, rfl, ?_⟩)⟩
    rw [show j + 1 - j = 1 by omega]
    show B j - 48 = min (0 * 10 + B j - 48) 10000
    unfold isD at h'; omega
  · rw [if_neg (show ¬ (48 ≤ B j ∧ B j ≤ 57) from h')]
    exact fin 0 ⟨by omega, Nat.le_refl _, Or.inr (Or.inr (Or.inl ⟨h, h', hn, rfl, rfl, rfl, fun _ q => by omega⟩))⟩
theorem p_takeJ {C : Mem} {B : Nat → Int} {j m p : Nat} {k v : Int} (hb : 0 ≤ B j ∧ B j ≤ 255) (hm : C 37 4 = ((m + 1 : Nat) : Int)) (hj : m < j ∧ j < 300) (hR : Rt B j p j k v) (hk : C 38 m = k) (hv : C 39 m = v) (hs : C 41 m = ((j - p : Nat) : Int)) (hjn : jn (B (j - 1)) (B j)) :
    ∃ C' k' v', fn_X8_take 37 (B j) j 1 C = some C' ∧ F37 C C' ∧ (∀ i, C' 37 i = C 37 i) ∧ (∀ i, C' 40 i = C 40 i) ∧ (∀ i, i ≠ m → C' 38 i = C 38 i ∧ C' 39 i = C 39 i ∧ C' 41 i = C 41 i) ∧ (C' 38 m = k' ∧ C' 39 m = v' ∧ C' 41 m = ((j + 1 - p : Nat) : Int)) ∧ Rt B (j + 1) p (j + 1) k' v' := by
  obtain ⟨r1, r2, r3⟩ := hR
  unfold fn_X8_take fn_X8_take_J17
  rw [cEq_if (by decide) (by decide) (by decide) (by decide), if_neg (by decide), hm, show ((m + 1 : Nat) : Int) - 1 = (m : Int) by omega, cLt_if (by omega) (by omega) (by decide) (by decide), if_neg (by omega), cLt_if (by omega) (by omega) (by decide) (by decide), if_pos (by omega), cEq_if (by decide) (by decide) (by decide) (by decide), if_neg (by decide), rd_eq (by omega) (by omega), wr_eq (by omega) (by omega), Int.toNat_natCast, show 37 + 4 = 41 from rfl, hs]
  generalize hG : up C 41 m (((j - p : Nat) : Int) + 1) = G
  have g0 : ∀ k i, ¬ (k = 41 ∧ i = m) → G k i = C k i := fun k i q => by rw [← hG, up_k, if_neg q]
  have g1 : G 41 m = ((j + 1 - p : Nat) : Int) := by rw [← hG, up_i, if_pos rfl]; omega
  have fG : F37 C G := by rw [← hG]; exact F37.rf.up (by omega)
  unfold fn_X8_lengthen fn_X8_isToken fn_X8_isToken_J23
  have gm : G 37 4 = ((m + 1 : Nat) : Int) := by rw [g0 37 4 (by omega)]; exact hm
  have gk : G 38 m = k := by rw [g0 38 m (by omega)]; exact hk
  have gv : G 39 m = v := by rw [g0 39 m (by omega)]; exact hv
  rw [gm, cLt_if (by omega) (by omega) (by decide) (by decide), if_neg (by omega), cLt_if (by omega) (by omega) (by omega) (by omega), if_pos (by omega), cLt_if (by omega) (by omega) (by decide) (by decide), if_pos (by omega), cu_s, cEq_if (by decide) (by decide) (by decide) (by decide), if_neg (by decide), rd_eq (by omega) (by omega), rd_eq (by omega) (by omega), rd_eq (by omega) (by omega), Int.toNat_natCast, show 37 + 1 = 38 from rfl, gk]
  have hlast : ∀ x, p ≤ x → x < j → x = j - 1 → True := fun _ _ _ _ => trivial
  -- what the last byte says of the TOKEN
  rcases r3 with ⟨a, b, rfl, rfl⟩ | ⟨a, b, rfl, c⟩ | ⟨a, b, c, d, rfl, rfl, h⟩ | ⟨a, d, c, rfl, rfl⟩
  · have hl := a (j - 1) (by omega) (by omega)
    have hx : isL (B j) := by
      rcases hjn with h | h | h
      · exact h.2
      · have := h.1; unfold isD at this; unfold isL at hl; omega
      · have := h.1; unfold isL at hl; omega
    rw [cEq_if (by decide) (by decide) (by decide) (by decide), if_neg (by decide), cEq_if (by decide) (by decide) (by decide) (by decide), if_neg (by decide), cEq_if (by decide) (by decide) (by decide) (by decide), if_neg (by decide), cv_s]
    refine ⟨G, 3, 0, rfl, fG, fun i => g0 37 i (by omega), fun i => g0 40 i (by omega), fun i hi => ⟨g0 38 i (by omega), g0 39 i (by omega), g0 41 i (by omega)⟩, ⟨gk, gv, g1⟩, by omega, Nat.le_refl _, Or.inl ⟨fun x x1 x2 => ?_, fun q => by omega, rfl, rfl⟩⟩
    by_cases q : x = j
    · rw [q]; exact hx
    · exact a x x1 (by omega)
  · have hl := a (j - 1) (by omega) (by omega)
    have hx : isD (B j) := by
      rcases hjn with h | h | h
      · have := h.1; unfold isL at this; unfold isD at hl; omega
      · exact h.2
      · have := h.1; unfold isD at hl; omega
    have hv0 := nv_in (l := (bl B p (j - p)).reverse) (fun x hx => by
      obtain ⟨y, y1, y2, y3⟩ := bl_mem (List.mem_reverse.mp hx)
      rw [y3]; exact a y y1 (by omega))
    rw [← c] at hv0
    have hx2 := hx
    unfold isD at hx2
    rw [cEq_if (by decide) (by decide) (by decide) (by decide), if_neg (by decide), cEq_if (by decide) (by decide) (by decide) (by decide), if_neg (by decide), cEq_if (by decide) (by decide) (by decide) (by decide), if_pos rfl, rd_eq (by omega) (by omega), Int.toNat_natCast, show 37 + 2 = 39 from rfl, gv, ck_R33 (by omega) (by omega) (by decide) (by decide), wr_eq (by omega) (by omega), Int.toNat_natCast, cv_s]
    refine ⟨_, 2, _, rfl, fG.up (by omega), fun i => by rw [up_o (by decide)]; exact g0 37 i (by omega), fun i => by rw [up_o (by decide)]; exact g0 40 i (by omega), fun i hi => ⟨by rw [up_o (by decide)]; exact g0 38 i (by omega), by rw [up_i, if_neg hi]; exact g0 39 i (by omega), by rw [up_o (by decide)]; exact g0 41 i (by omega)⟩, ⟨by rw [up_o (by decide)]; exact gk, by rw [up_i, if_pos rfl], by rw [up_o (by decide)]; exact g1⟩, by omega, Nat.le_refl _, Or.inr (Or.inl ⟨fun x x1 x2 => ?_, fun q => by omega, rfl, ?_⟩)⟩
    · by_cases q : x = j
      · rw [q]; exact hx
      · exact a x x1 (by omega)
    · rw [show j + 1 - p = (j - p) + 1 by omega, bl_s, List.reverse_append, show p + (j - p) = j by omega, c]; rfl
  · have ep : j - 1 = p := by omega
    rw [ep] at hjn
    obtain ⟨hp, hx⟩ : (B p = 60 ∨ B p = 62) ∧ B j = 61 := by
      rcases hjn with h | h | h
      · exact absurd h.1 a
      · exact absurd h.1 b
      · exact h
    rcases hp with hp | hp
    · have es : sk (B p) = 20 := by rw [hp]; decide
      rw [es, cEq_if (by decide) (by decide) (by decide) (by decide), if_pos rfl, wr_eq (by omega) (by omega), Int.toNat_natCast, cv_s]
      refine ⟨_, 21, 0, rfl, fG.up (by omega), fun i => by rw [up_o (by decide)]; exact g0 37 i (by omega), fun i => by rw [up_o (by decide)]; exact g0 40 i (by omega), fun i hi => ⟨by rw [up_i, if_neg hi]; exact g0 38 i (by omega), by rw [up_o (by decide)]; exact g0 39 i (by omega), by rw [up_o (by decide)]; exact g0 41 i (by omega)⟩, ⟨by rw [up_i, if_pos rfl], by rw [up_o (by decide)]; exact gv, by rw [up_o (by decide)]; exact g1⟩, by omega, Nat.le_refl _, Or.inr (Or.inr (Or.inr ⟨Or.inl hp, by omega, by rw [← d]; exact hx, by rw [es]; rfl, rfl⟩))⟩
    · have es : sk (B p) = 22 := by rw [hp]; decide
      rw [es, cEq_if (by decide) (by decide) (by decide) (by decide), if_neg (by decide), cEq_if (by decide) (by decide) (by decide) (by decide), if_pos rfl, wr_eq (by omega) (by omega), Int.toNat_natCast, cv_s]
      refine ⟨_, 23, 0, rfl, fG.up (by omega), fun i => by rw [up_o (by decide)]; exact g0 37 i (by omega), fun i => by rw [up_o (by decide)]; exact g0 40 i (by omega), fun i hi => ⟨by rw [up_i, if_neg hi]; exact g0 38 i (by omega), by rw [up_o (by decide)]; exact g0 39 i (by omega), by rw [up_o (by decide)]; exact g0 41 i (by omega)⟩, ⟨by rw [up_i, if_pos rfl], by rw [up_o (by decide)]; exact gv, by rw [up_o (by decide)]; exact g1⟩, by omega, Nat.le_refl _, Or.inr (Or.inr (Or.inr ⟨Or.inr hp, by omega, by rw [← d]; exact hx, by rw [es]; rfl, rfl⟩))⟩
  · exfalso
    have ep : j - 1 = p + 1 := by omega
    rw [ep, c] at hjn
    unfold jn isL isD at hjn
    omega
/-- the first pass -/
theorem p_pass1 {C : Mem} {B : Nat → Int} {len : Nat} (hT : Tc1 C B len) (h6 : C 37 6 = (len : Int)) (h4 : C 37 4 = 0) :
    ∃ G m P E K V, lq2 (fn_X8_cut_L15 37 29) FU 0 C = fn_X8_cut_J66 37 29 G ∧ F37 C G ∧ G 37 6 = (len : Int) ∧ Ar G m P E K V ∧ TS B len m P E K V := by
  have h300 := hT.1
  refine lr2 (P := fun o => ∃ G m P E K V, o = fn_X8_cut_J66 37 29 G ∧ F37 C G ∧ G 37 6 = (len : Int) ∧ Ar G m P E K V ∧ TS B len m P E K V) (I := fun r a G => ∃ (j m : Nat) (P E : Nat → Nat) (K V : Nat → Int), j + r = len ∧ a = (j : Int) ∧ F37 C G ∧ G 37 6 = (len : Int) ∧ Ar G m P E K V ∧ TS B j m P E K V) ?_ len FU 0 C (lt_FU (by omega)) ⟨0, 0, fun _ => 0, fun _ => 0, fun _ => 0, fun _ => 0, by omega, rfl, F37.rf, h6, ⟨h4, fun i hi => by omega⟩, fun i hi => by omega, fun i hi => by omega, ⟨by rw [if_pos rfl]; omega, fun x _ hx => by omega⟩, Nat.le_refl _⟩
  rintro r a G rec ⟨j, m, P, E, K, V, e1, rfl, e2, e3, ⟨e4, e5⟩, t1, t2, t3, t4⟩ ih
  have hTG := Tc1_f e2 hT
  unfold fn_X8_cut_L15 fn_X8_cut_J60
  simp only [nm_eq]
  rw [e3, cLt_if (by omega) (by omega) (by omega) (by omega)]
  by_cases q1 : (j : Int) < (len : Int)
  · obtain ⟨r, rfl⟩ : ∃ r', r = r' + 1 := ⟨r - 1, by omega⟩
    obtain ⟨b1, b2, b3⟩ := hTG.2.2 j (by omega)
    rw [if_pos q1, cLt_if (by omega) (by omega) (by decide) (by decide), if_pos (by omega), p_byteAt hTG (by omega), if_pos (by omega), cu_s, Int.toNat_natCast]
    unfold fn_X8_isBlank fn_X8_isBlank_J12
    rw [cEq_if (x := B j) (y := 32) (by omega) (by omega) (by decide) (by decide), cEq_if (x := B j) (y := 10) (by omega) (by omega) (by decide) (by decide)]
    -- TOKENS that end before stay
    have stay : ¬ jn (B (j - 1)) (B j) → ∀ i, i < m → Rt B (j + 1) (P i) (E i) (K i) (V i) := fun hn i hi => Rt_on (t1 i hi) (fun _ => hn)
    by_cases qb : isB (B j)
    · have hb : (if B j = 32 then some (1 : Int) else if B j = 10 then some 1 else some 0) = some 1 := by
        rcases qb with h | h
        · rw [if_pos h]
        · rw [if_neg (by omega), if_pos h]
      rw [hb, cu_s, cEq_if (by decide) (by decide) (by decide) (by decide), if_neg (by decide)]
      have hn : ¬ jn (B (j - 1)) (B j) := by unfold jn isL isD; unfold isB at qb; omega
      refine ih r _ _ (by omega) ⟨j + 1, m, P, E, K, V, by omega, by omega, e2, e3, ⟨e4, e5⟩, stay hn, t2, ⟨by have := t3.1; omega, fun x x1 x2 => ?_⟩, by omega⟩
      by_cases q : x = j
      · rw [q]; exact qb
      · exact t3.2 x x1 (by omega)
    · have hb : (if B j = 32 then some (1 : Int) else if B j = 10 then some 1 else some 0) = some 0 := by
        unfold isB at qb; rw [if_neg (by omega), if_neg (by omega)]
      rw [hb, cu_s, cEq_if (by decide) (by decide) (by decide) (by decide), if_pos rfl, p_byteAt hTG (by omega), cu_s]
      -- the byte ahead
      have ha : ∃ a0, (if 0 ≤ (j : Int) - 1 ∧ (j : Int) - 1 < (len : Int) then B ((j : Int) - 1).toNat else -1) = a0 ∧ (-1 ≤ a0 ∧ a0 ≤ 255) ∧ ((j = 0 ∧ a0 = -1) ∨ (0 < j ∧ a0 = B (j - 1))) := by
        by_cases q : j = 0
        · exact ⟨-1, by rw [if_neg (by omega)], by omega, Or.inl ⟨q, rfl⟩⟩
        · obtain ⟨c1, c2, c3⟩ := hTG.2.2 (j - 1) (by omega)
          exact ⟨B (j - 1), by rw [if_pos (by omega), show ((j : Int) - 1).toNat = j - 1 by omega], by omega, Or.inr ⟨by omega, rfl⟩⟩
      obtain ⟨a0, a1, a2, a3⟩ := ha
      rw [a1]
      obtain ⟨v, v1, v2⟩ := p_joins (M := G) a2 (show -1 ≤ B j ∧ B j ≤ 255 by omega)
      rw [v1, cu_s]
      rcases v2 with ⟨rfl, v2⟩ | ⟨rfl, v2⟩
      · -- it joins
        have hj0 : 0 < j ∧ a0 = B (j - 1) := by
          rcases a3 with h | h
          · exfalso; rw [h.2] at v2; unfold jn isL isD at v2; omega
          · exact h
        rw [hj0.2] at v2
        have hnb : ¬ isB (B (j - 1)) := by unfold jn isL isD at v2; unfold isB; omega
        have hm : 0 < m ∧ E (m - 1) = j := by
          by_cases q : m = 0
          · exfalso
            have := t3.2 (j - 1) (by rw [if_pos q]; omega) (by omega)
            exact hnb this
          · have h3 := t3
            rw [if_neg q] at h3
            refine ⟨by omega, ?_⟩
            by_cases q2 : E (m - 1) = j
            · exact q2
            · exact absurd (h3.2 (j - 1) (by omega) (by omega)) hnb
        obtain ⟨m, rfl⟩ : ∃ m', m = m' + 1 := ⟨m - 1, by omega⟩
        rw [Nat.add_sub_cancel] at hm
        obtain ⟨k1, k2, k3, k4⟩ := e5 m (by omega)
        have hR := t1 m (by omega)
        rw [hm.2] at hR k4
        obtain ⟨G', k', v', f1, f2, f3, f4, f5, f6, f7⟩ := p_takeJ (C := G) (B := B) (j := j) (m := m) ⟨b2, b3⟩ e4 (by omega) hR k1 k2 k4 v2
        rw [f1, cv_s]
        refine ih r _ _ (by omega) ⟨j + 1, m + 1, P, fun i => if i = m then j + 1 else E i, fun i => if i = m then k' else K i, fun i => if i = m then v' else V i, by omega, by omega, e2.tr f2, by rw [f3]; exact e3, ⟨by rw [f3]; exact e4, fun i hi => ?_⟩, fun i hi => ?_, fun i hi => ?_, ⟨?_, fun x x1 x2 => ?_⟩, by omega⟩
        · show G' 38 i = (if i = m then k' else K i) ∧ G' 39 i = (if i = m then v' else V i) ∧ G' 40 i = (P i : Int) ∧ G' 41 i = (((if i = m then j + 1 else E i) - P i : Nat) : Int)
          by_cases q : i = m
          · subst q; simp only [if_true]; exact ⟨f6.1, f6.2.1, by rw [f4]; exact k3, f6.2.2⟩
          · simp only [if_neg q]
            obtain ⟨w1, w2, w3⟩ := f5 i q
            rw [w1, w2, w3, f4]; exact e5 i hi
        · show Rt B (j + 1) (P i) (if i = m then j + 1 else E i) (if i = m then k' else K i) (if i = m then v' else V i)
          by_cases q : i = m
          · subst q; simp only [if_true]; exact f7
          · simp only [if_neg q]
            refine Rt_on (t1 i hi) (fun he => ?_)
            -- only the last ends here
            exfalso
            have h2 := t2 (i + 1) (by omega)
            rw [if_neg (by omega), Nat.add_sub_cancel] at h2
            have h4 : ∀ y, i + 1 ≤ y → y < m + 1 → j ≤ P y := fun y => by
              induction y with
              | zero => intro a; omega
              | succ y ihy =>
                intro y1 y2
                by_cases q5 : y = i
                · subst q5; have := h2.1; omega
                · have a1 := ihy (by omega) (by omega)
                  have a2 := (t2 (y + 1) y2).1
                  rw [if_neg (by omega), Nat.add_sub_cancel] at a2
                  have a3 := (t1 y (by omega)).1
                  omega
            have h5 := h4 m (by omega) (by omega)
            have h6 := hR.1
            omega
        · show (if i = 0 then 0 else (fun i => if i = m then j + 1 else E i) (i - 1)) ≤ P i ∧ ∀ x, (if i = 0 then 0 else (fun i => if i = m then j + 1 else E i) (i - 1)) ≤ x → x < P i → isB (B x)
          have h2 := t2 i hi
          by_cases q : i = 0
          · rw [if_pos q] at h2 ⊢; exact h2
          · rw [if_neg q] at h2 ⊢
            show (if i - 1 = m then j + 1 else E (i - 1)) ≤ P i ∧ ∀ x, (if i - 1 = m then j + 1 else E (i - 1)) ≤ x → x < P i → isB (B x)
            rw [if_neg (by omega)]; exact h2
        · show (if m + 1 = 0 then 0 else (if m + 1 - 1 = m then j + 1 else E (m + 1 - 1))) ≤ j + 1
          rw [if_neg (by omega), if_pos (by omega)]; omega
        · exfalso
          have x1 : (if m + 1 = 0 then 0 else (if m + 1 - 1 = m then j + 1 else E (m + 1 - 1))) ≤ x := x1
          rw [if_neg (by omega), if_pos (by omega)] at x1; omega
      · -- a new one
        have hn : 0 < j → ¬ jn (B (j - 1)) (B j) := fun hj h => by
          rcases a3 with h9 | h9
          · omega
          · rw [h9.2] at v2; exact v2 h
        obtain ⟨G', k', v', f1, f2, f3, f4, f5, f6, f7⟩ := p_takeN (C := G) (B := B) (j := j) (m := m) ⟨b2, b3⟩ qb e4 (by omega)
        rw [f1, cv_s]
        refine ih r _ _ (by omega) ⟨j + 1, m + 1, fun i => if i = m then j else P i, fun i => if i = m then j + 1 else E i, fun i => if i = m then k' else K i, fun i => if i = m then v' else V i, by omega, by omega, e2.tr f2, by rw [f3 6 (by decide)]; exact e3, ⟨f4, fun i hi => ?_⟩, fun i hi => ?_, fun i hi => ?_, ⟨?_, fun x x1 x2 => ?_⟩, by omega⟩
        · show G' 38 i = (if i = m then k' else K i) ∧ G' 39 i = (if i = m then v' else V i) ∧ G' 40 i = ((if i = m then j else P i : Nat) : Int) ∧ G' 41 i = (((if i = m then j + 1 else E i) - (if i = m then j else P i) : Nat) : Int)
          by_cases q : i = m
          · subst q; simp only [if_true]; exact ⟨f6.1, f6.2.1, f6.2.2.1, by rw [f6.2.2.2]; omega⟩
          · simp only [if_neg q]
            obtain ⟨w1, w2, w3, w4⟩ := f5 i q
            rw [w1, w2, w3, w4]; exact e5 i (by omega)
        · show Rt B (j + 1) (if i = m then j else P i) (if i = m then j + 1 else E i) (if i = m then k' else K i) (if i = m then v' else V i)
          by_cases q : i = m
          · subst q; simp only [if_true]; exact f7
          · simp only [if_neg q]
            have := (t1 i (by omega))
            exact Rt_on this (fun he => hn (by have := this.1; omega))
        · show (if i = 0 then 0 else (fun i => if i = m then j + 1 else E i) (i - 1)) ≤ (if i = m then j else P i) ∧ ∀ x, (if i = 0 then 0 else (fun i => if i = m then j + 1 else E i) (i - 1)) ≤ x → x < (if i = m then j else P i) → isB (B x)
          show (if i = 0 then 0 else (if i - 1 = m then j + 1 else E (i - 1))) ≤ (if i = m then j else P i) ∧ ∀ x, (if i = 0 then 0 else (if i - 1 = m then j + 1 else E (i - 1))) ≤ x → x < (if i = m then j else P i) → isB (B x)
          by_cases q : i = m
          · subst q
            by_cases q2 : i = 0
            · subst q2; simp only [if_true] at t3 ⊢; exact t3
            · simp only [if_true, if_neg q2, if_neg (show ¬ i - 1 = i by omega)] at t3 ⊢; exact t3
          · have h2 := t2 i (by omega)
            by_cases q2 : i = 0
            · simp only [if_neg q, if_pos q2] at h2 ⊢; exact h2
            · simp only [if_neg q, if_neg q2, if_neg (show ¬ i - 1 = m by omega)] at h2 ⊢; exact h2
        · show (if m + 1 = 0 then 0 else (if m + 1 - 1 = m then j + 1 else E (m + 1 - 1))) ≤ j + 1
          rw [if_neg (by omega), if_pos (by omega)]; omega
        · exfalso
          have x1 : (if m + 1 = 0 then 0 else (if m + 1 - 1 = m then j + 1 else E (m + 1 - 1))) ≤ x := x1
          rw [if_neg (by omega), if_pos (by omega)] at x1; omega
  · rw [if_neg q1]
    obtain rfl : j = len := by omega
    exact ⟨G, m, P, E, K, V, rfl, e2, e3, ⟨e4, e5⟩, t1, t2, t3, t4⟩
