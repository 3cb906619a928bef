/-! one HAND more: the class's lengthen -/
theorem p_len1 {t L n : Nat} {g : Nat → Int} {wo : Int} {M : Mem} {K r : Nat} (hc : Tc t L n g wo) (hT : Ti t L M n g wo) (hK : K + 2 ≤ L) (hr : r ≤ 30 * (K + 1)) (hv : ∀ f s, f < n → s ≤ 30 * (K + 1) → Lv t M n g wo K f s) :
    ∃ v5 v6, fn_X2_lengthen t ((K + 2 : Nat) : Int) r M = fn_X2_lengthen_J100 t ((K + 2 : Nat) : Int) r M (sm n (fun x => Cf n g wo K x r)) v5 v6 ∧ (∀ i, tb v5 i = true ↔ ∃ x, x < n ∧ tb (M (t + 3) (ce (K + 1) x r)) i = true) ∧ (∀ i, tb v6 i = true ↔ ∃ x y, x < y ∧ y < n ∧ tb (M (t + 3) (ce (K + 1) x r)) i = true ∧ tb (M (t + 3) (ce (K + 1) y r)) i = true) := by
  obtain ⟨t0, t4, t5, tg⟩ := hT
  obtain ⟨hn, hg, hL, h2, h3, hwo⟩ := id hc
  have i2 := sta_m (K + 2) (by omega) (L + 1) (by omega) (by omega)
  have i3 := sta_m (L + 1) (by omega) 13 (by omega) (by omega)
  have i4 : sta 13 = 23520 := by decide
  unfold fn_X2_lengthen
  refine lr4 (P := fun o => ∃ v5 v6, o = fn_X2_lengthen_J100 t ((K + 2 : Nat) : Int) r M (sm n (fun x => Cf n g wo K x r)) v5 v6 ∧ (∀ i, tb v5 i = true ↔ ∃ x, x < n ∧ tb (M (t + 3) (ce (K + 1) x r)) i = true) ∧ (∀ i, tb v6 i = true ↔ ∃ x y, x < y ∧ y < n ∧ tb (M (t + 3) (ce (K + 1) x r)) i = true ∧ tb (M (t + 3) (ce (K + 1) y r)) i = true))
    (I := fun q a b c d => ∃ j : Nat, j + q = n ∧ a = (j : Int) ∧ d = sm j (fun x => Cf n g wo K x r) ∧ (∀ i, tb c i = true ↔ ∃ x, x < j ∧ tb (M (t + 3) (ce (K + 1) x r)) i = true) ∧ (∀ i, tb b i = true ↔ ∃ x y, x < y ∧ y < j ∧ tb (M (t + 3) (ce (K + 1) x r)) i = true ∧ tb (M (t + 3) (ce (K + 1) y r)) i = true)) ?_ n FU 0 0 0 0 (lt_FU (by omega)) ⟨0, by omega, rfl, rfl, fun i => by rw [tb_0]; exact ⟨fun h => (by cases h), fun ⟨x, hx, _⟩ => by omega⟩, fun i => by rw [tb_0]; exact ⟨fun h => (by cases h), fun ⟨x, y, _, hy, _⟩ => by omega⟩⟩
  rintro q a b c d rec ⟨j, e1, rfl, e2, e3, e4⟩ ih
  unfold fn_X2_lengthen_L11 fn_X2_lengthen_J94
  simp only [nm_eq]
  rw [t4, cLt_if (by omega) (by omega) (by omega) (by omega)]
  by_cases q1 : (j : Int) < (n : Int)
  · have i1 := ce_in (k := K + 1) (f := j) (s := r) (by omega) (by omega) (by omega) hr
    have i5 := sta_m (K + 1 + 1) (by omega) (L + 1) (by omega) (by omega)
    rw [if_pos q1, show (((K + 2 : Nat) : Int) - 1) = ((K + 1 : Nat) : Int) by omega, p_cell t0 (by omega) (by omega) (by omega) (by omega), if_pos (by omega), cu_s, Int.toNat_natCast, h2, h3]
    rw [cLt_if (by omega) (by omega) (by decide) (by decide), if_neg (by omega), cLt_if (by omega) (by omega) (by omega) (by omega), if_pos (by omega), cLt_if (by omega) (by omega) (by omega) (by omega), if_pos (by omega), rd_eq (by omega) (by omega), rd_eq (by omega) (by omega), rd_eq (by omega) (by omega), Int.toNat_natCast]
    obtain ⟨q, rfl⟩ : ∃ r', q = r' + 1 := ⟨q - 1, by omega⟩
    refine ih q _ _ _ _ (by omega) ⟨j + 1, by omega, by omega, ?_, fun i => ?_, fun i => ?_⟩
    · rw [e2, sm_s, (hv j r (by omega) hr).1]
    · rw [tb_or, Bool.or_eq_true, e3]
      constructor
      · rintro (⟨x, hx, h⟩ | h)
        · exact ⟨x, by omega, h⟩
        · exact ⟨j, by omega, h⟩
      · rintro ⟨x, hx, h⟩
        by_cases q2 : x = j
        · subst q2; exact Or.inr h
        · exact Or.inl ⟨x, by omega, h⟩
    · rw [tb_or, tb_and, Bool.or_eq_true, Bool.and_eq_true, e3, e4]
      constructor
      · rintro (⟨x, y, a, b, h⟩ | ⟨⟨x, hx, h⟩, h'⟩)
        · exact ⟨x, y, a, by omega, h⟩
        · exact ⟨x, j, hx, by omega, h, h'⟩
      · rintro ⟨x, y, a, b, h, h'⟩
        by_cases q2 : y = j
        · subst q2; exact Or.inr ⟨⟨x, a, h⟩, h'⟩
        · exact Or.inl ⟨x, y, a, by omega, h, h'⟩
  · rw [if_neg q1]
    obtain rfl : j = n := by omega
    exact ⟨c, b, by rw [e2], e3, e4⟩
/-- a level under way: places with a sum below are done, the others empty -/
def Gg (t : Nat) (M : Mem) (n : Nat) (g : Nat → Int) (wo : Int) (K : Nat) (r : Int) : Prop := ∀ f s, f < n → s ≤ 30 * (K + 1) → ((s : Int) < r + g f → Lv t M n g wo K f s) ∧ (r + g f ≤ (s : Int) → Zo t M K f s)
def Un (t B : Nat) (M M' : Mem) : Prop := ∀ i, i < B → M' (t + 2) i = M (t + 2) i ∧ M' (t + 3) i = M (t + 3) i
theorem Un.tr {t B : Nat} {M M' M'' : Mem} (h : Un t B M M') (h' : Un t B M' M'') : Un t B M M'' := fun i hi => ⟨(h' i hi).1.trans (h i hi).1, (h' i hi).2.trans (h i hi).2⟩
theorem wv_Un {t B c : Nat} {M : Mem} {x y : Int} (h : B ≤ c) : Un t B M (wv M t c x y) := fun i hi => ⟨by rw [wv_2, if_neg (by omega)], by rw [wv_3, if_neg (by omega)]⟩
set_option maxHeartbeats 1000000 in
theorem p_len2 {t L n : Nat} {g : Nat → Int} {wo : Int} {M : Mem} {K r : Nat} {v5 v6 : Int} (hc : Tc t L n g wo) (hT : Ti t L M n g wo) (hK : K + 2 ≤ L) (hr : r ≤ 30 * (K + 1)) (hv : ∀ f s, f < n → s ≤ 30 * (K + 1) → Lv t M n g wo K f s)
    (h5 : ∀ i, tb v5 i = true ↔ ∃ x, x < n ∧ tb (M (t + 3) (ce (K + 1) x r)) i = true) (h6 : ∀ i, tb v6 i = true ↔ ∃ x y, x < y ∧ y < n ∧ tb (M (t + 3) (ce (K + 1) x r)) i = true ∧ tb (M (t + 3) (ce (K + 1) y r)) i = true) (hG : Gg t M n g wo (K + 1) r) :
    ∃ M', fn_X2_lengthen_J100 t ((K + 2 : Nat) : Int) r M (sm n (fun x => Cf n g wo K x r)) v5 v6 = some M' ∧ F2 t M M' ∧ Un t (sta (K + 2)) M M' ∧ Gg t M' n g wo (K + 1) (r + 1) := by
  obtain ⟨hn, hg, hL, h2, h3, hwo⟩ := id hc
  have i2 := sta_m (K + 2) (by omega) (L + 1) (by omega) (by omega)
  have i3 := sta_m (L + 1) (by omega) 13 (by omega) (by omega)
  have i4 : sta 13 = 23520 := by decide
  have all0 : ∀ x, x < n → 0 ≤ Cf n g wo K x r := fun x _ => Cf_nn
  have all1 : 0 ≤ sm n (fun x => Cf n g wo K x r) := sm_nn all0
  have all2 : sm n (fun x => Cf n g wo K x r) ≤ 10000000000000 := by
    have h := sm_bd (n := n) (f := fun x => Cf n g wo K x r) (B := 1000000000000) (fun x _ => Cf_bd hn (by omega))
    omega
  have cs : ∀ f, f < n → (f : Int) ≠ wo → Cf n g wo (K + 1) f ((r : Int) + g f) = sm n (fun x => Cf n g wo K x r) - Cf n g wo K f r := fun f hf hw => by
    rw [Cf_s hw, ← sm_but (F := fun x => Cf n g wo K x r) hf]
  unfold fn_X2_lengthen_J100
  refine lr2 (P := fun o => ∃ M', o = some M' ∧ F2 t M M' ∧ Un t (sta (K + 2)) M M' ∧ Gg t M' n g wo (K + 1) (r + 1)) (I := fun q a E => ∃ j : Nat, j + q = n ∧ a = (j : Int) ∧ F2 t M E ∧ Un t (sta (K + 2)) M E ∧ ∀ f s, f < n → s ≤ 30 * (K + 1 + 1) → (((s : Int) < r + g f ∨ ((s : Int) = r + g f ∧ f < j)) → Lv t E n g wo (K + 1) f s) ∧ (r + g f < (s : Int) ∨ ((s : Int) = r + g f ∧ j ≤ f) → Zo t E (K + 1) f s)) ?_ n FU 0 M (lt_FU (by omega)) ⟨0, by omega, rfl, fun _ _ _ _ => rfl, fun _ _ => ⟨rfl, rfl⟩, fun f s hf hs => ⟨fun h => (hG f s hf hs).1 (by omega), fun h => (hG f s hf hs).2 (by omega)⟩⟩
  rintro q a E rec ⟨j, e1, rfl, e2, e3, e4⟩ ih
  obtain ⟨t0, t4, t5, tg⟩ := Ti_f e2 hT
  unfold fn_X2_lengthen_L103 fn_X2_lengthen_J211
  simp only [nm_eq]
  rw [t4, t5, cLt_if (by omega) (by omega) (by omega) (by omega)]
  by_cases q1 : (j : Int) < (n : Int)
  · rw [if_pos q1, cLt_if (by omega) (by omega) (by decide) (by decide), if_pos (by omega), dLt_if (by decide) (by decide) (by omega) (by omega)]
    by_cases q2 : 0 < sm n (fun x => Cf n g wo K x r)
    · rw [if_pos q2]
      obtain ⟨q, rfl⟩ : ∃ r', q = r' + 1 := ⟨q - 1, by omega⟩
      have hgj := hg j (by omega)
      have i1 := ce_in (k := K + 1) (f := j) (s := r) (by omega) (by omega) (by omega) hr
      have i5 := sta_m (K + 1 + 1) (by omega) (L + 1) (by omega) (by omega)
      rw [show (((K + 2 : Nat) : Int) - 1) = ((K + 1 : Nat) : Int) by omega, p_cell t0 (by omega) (by omega) (by omega) (by omega), if_pos (by omega), cu_s, Int.toNat_natCast, cEq_if (by omega) (by omega) (by omega) (by omega)]
      by_cases q3 : (j : Int) = wo
      · rw [if_pos q3]
        refine ih q _ _ (by omega) ⟨j + 1, by omega, by omega, e2, e3, fun f s hf hs => ⟨fun h => ?_, fun h => (e4 f s hf hs).2 (by omega)⟩⟩
        by_cases q4 : (s : Int) = r + g f ∧ f = j
        · refine Zo_Lv ?_ ((e4 f s hf hs).2 (by omega))
          unfold Cf; rw [if_pos (by omega)]
        · exact (e4 f s hf hs).1 (by omega)
      · rw [if_neg q3, cLt_if (by omega) (by omega) (by decide) (by decide), if_neg (by omega), h2, h3, cLt_if (by omega) (by omega) (by omega) (by omega), if_pos (by omega), cLt_if (by omega) (by omega) (by omega) (by omega), if_pos (by omega), rd_eq (by omega) (by omega), rd_eq (by omega) (by omega), rd_eq (by omega) (by omega), Int.toNat_natCast, Int.toNat_natCast, tg j (by omega)]
        obtain ⟨gn, hgn⟩ := Int.eq_ofNat_of_zero_le (show 0 ≤ g j by omega)
        have hE2 : E (t + 2) (ce (K + 1) j r) = Cf n g wo K j r := by rw [(e3 _ i1.2).1]; exact (hv j r (by omega) hr).1
        have hE3 : E (t + 3) (ce (K + 1) j r) = M (t + 3) (ce (K + 1) j r) := (e3 _ i1.2).2
        have hcs := cs j (by omega) q3
        have hcn := Cf_nn (n := n) (g := g) (wo := wo) (k := K + 1) (f := j) (s := (r : Int) + g j)
        have hcn2 := Cf_nn (n := n) (g := g) (wo := wo) (k := K) (f := j) (s := (r : Int))
        rw [hE2, hE3, ← hcs, show (r : Int) + g j = ((r + gn : Nat) : Int) by omega, p_put2 (k := K + 2) hc t0 (by omega) (by omega) (by omega) (by omega) (by rw [show ((r + gn : Nat) : Int) = (r : Int) + g j by omega]; omega), cv_s]
        have i6 := ce_in (k := K + 2) (f := j) (s := r + gn) (by omega) (by omega) (by omega) (by omega)
        have hne : ∀ f s, f < n → s ≤ 30 * (K + 1 + 1) → ¬ (f = j ∧ (s : Int) = r + g f) → ce (K + 1 + 1) f s ≠ ce (K + 2) j (r + gn) := fun f s hf hs h h' => h (by
          have := ce_ne (k := K + 2) hs (by omega) h'
          refine ⟨this.1, ?_⟩
          rw [this.1, this.2]; omega)
        by_cases q5 : 0 < Cf n g wo (K + 1) j ((r + gn : Nat) : Int)
        · rw [if_pos q5]
          refine ih q _ _ (by omega) ⟨j + 1, by omega, by omega, e2.tr wv_F, e3.tr (wv_Un i6.1), fun f s hf hs => ?_⟩
          by_cases q4 : f = j ∧ (s : Int) = r + g f
          · refine ⟨fun _ => ?_, fun h => by omega⟩
            obtain ⟨rfl, q6⟩ := q4
            obtain rfl : s = r + gn := by omega
            refine ⟨by rw [wv_2, if_pos rfl], fun hw i hi => ?_⟩
            rw [wv_3, if_pos rfl, Bool.eq_iff_iff, tb_put (by omega) hi]
            subst hw
            have eg : ((r + gn : Nat) : Int) = (r : Int) + g f := by omega
            rw [eg] at q5 ⊢
            rw [mb_s hf (by omega) hi q5]
            have em : ∀ x, x < n → (tb (M (t + 3) (ce (K + 1) x r)) i = true ↔ mb n g K x r i = true) := fun x hx => by rw [(hv x r hx hr).2 rfl i hi]
            have e9 : tb (orI v6 (andI v5 (xorI (M (t + 3) (ce (K + 1) f r)) (-1)))) i = true ↔ ∃ x, x < n ∧ x ≠ f ∧ mb n g K x r i = true := by
              rw [tb_or, tb_and, tb_not hi, Bool.or_eq_true, Bool.and_eq_true, h6, h5]
              constructor
              · rintro (⟨x, y, a1, a2, a3, a4⟩ | ⟨⟨x, a1, a2⟩, a3⟩)
                · by_cases q7 : x = f
                  · exact ⟨y, a2, by omega, (em y a2).mp a4⟩
                  · exact ⟨x, by omega, q7, (em x (by omega)).mp a3⟩
                · refine ⟨x, a1, ?_, (em x a1).mp a2⟩
                  rintro rfl
                  rw [a2] at a3; cases a3
              · rintro ⟨x, a1, a2, a3⟩
                have a4 := (em x a1).mpr a3
                by_cases q8 : tb (M (t + 3) (ce (K + 1) f r)) i = true
                · left
                  rcases Nat.lt_or_gt_of_ne a2 with q9 | q9
                  · exact ⟨x, f, q9, hf, a4, q8⟩
                  · exact ⟨f, x, q9, a1, q8, a4⟩
                · right
                  exact ⟨⟨x, a1, a4⟩, by simpa using q8⟩
            rw [e9]
          · refine ⟨fun h => ?_, fun h => ?_⟩
            · exact Lv_f (by rw [wv_2, if_neg (hne f s hf hs q4)]) (by rw [wv_3, if_neg (hne f s hf hs q4)]) ((e4 f s hf hs).1 (by omega))
            · exact Zo_f (by rw [wv_2, if_neg (hne f s hf hs q4)]) (by rw [wv_3, if_neg (hne f s hf hs q4)]) ((e4 f s hf hs).2 (by omega))
        · rw [if_neg q5]
          refine ih q _ _ (by omega) ⟨j + 1, by omega, by omega, e2, e3, fun f s hf hs => ⟨fun h => ?_, fun h => (e4 f s hf hs).2 (by omega)⟩⟩
          by_cases q4 : (s : Int) = r + g f ∧ f = j
          · refine Zo_Lv ?_ ((e4 f s hf hs).2 (by omega))
            obtain ⟨q6, rfl⟩ := q4
            rw [q6]
            rw [show ((r + gn : Nat) : Int) = (r : Int) + g f by omega] at q5
            omega
          · exact (e4 f s hf hs).1 (by omega)
    · rw [if_neg q2]
      refine ⟨E, rfl, e2, e3, fun f s hf hs => ⟨fun h => ?_, fun h => (e4 f s hf hs).2 (by omega)⟩⟩
      by_cases q4 : (s : Int) = r + g f ∧ j ≤ f
      · refine Zo_Lv ?_ ((e4 f s hf hs).2 (by omega))
        rw [q4.1]
        by_cases q6 : (f : Int) = wo
        · unfold Cf; rw [if_pos q6]
        · have h8 := cs f hf q6
          have h9 := Cf_nn (n := n) (g := g) (wo := wo) (k := K + 1) (f := f) (s := (r : Int) + g f)
          have h10 := Cf_nn (n := n) (g := g) (wo := wo) (k := K) (f := f) (s := (r : Int))
          omega
      · exact (e4 f s hf hs).1 (by omega)
  · rw [if_neg q1]
    exact ⟨E, rfl, e2, e3, fun f s hf hs => ⟨fun h => (e4 f s hf hs).1 (by omega), fun h => (e4 f s hf hs).2 (by omega)⟩⟩
/-- a table that is right up to a length -/
def Tb (t L : Nat) (M : Mem) (n : Nat) (g : Nat → Int) (wo : Int) (B : Nat) : Prop := Ti t L M n g wo ∧ M t 6 = (B : Int) ∧ B ≤ L ∧ ∀ k f s, k < B → f < n → s ≤ 30 * (k + 1) → Lv t M n g wo k f s
theorem Lv_un {t n : Nat} {M M' : Mem} {g : Nat → Int} {wo : Int} {k f s B : Nat} (hu : Un t (sta B) M M') (hB : B < 14) (hk : k + 1 < B) (hf : f < 10) (hs : s ≤ 30 * (k + 1)) (h : Lv t M n g wo k f s) : Lv t M' n g wo k f s := by
  have i1 := ce_in (k := k + 1) (by omega) (by omega) hf hs
  have i2 := sta_m (k + 1 + 1) (by omega) B (by omega) (by omega)
  exact Lv_f (hu _ (by omega)).1 (hu _ (by omega)).2 h
/-- all sums of one length -/
theorem p_rest {t L n : Nat} {g : Nat → Int} {wo : Int} {M : Mem} {K : Nat} {rec7 : Int → Mem → Option Mem} (hc : Tc t L n g wo) (hT : Ti t L M n g wo) (hK : K + 2 ≤ L) (hv : ∀ f s, f < n → s ≤ 30 * (K + 1) → Lv t M n g wo K f s) (hz : ∀ f s, f < n → s ≤ 30 * (K + 1 + 1) → Zo t M (K + 1) f s) :
    ∃ M', lq2 (fn_X2_build_L36 t ((K + 2 : Nat) : Int) rec7) FU 0 M = fn_X2_build_J58 t ((K + 2 : Nat) : Int) rec7 M' ∧ F2 t M M' ∧ Un t (sta (K + 2)) M M' ∧ ∀ f s, f < n → s ≤ 30 * (K + 1 + 1) → Lv t M' n g wo (K + 1) f s := by
  obtain ⟨hn, hg, hL, h2, h3, hwo⟩ := id hc
  refine lr2 (P := fun o => ∃ M', o = fn_X2_build_J58 t ((K + 2 : Nat) : Int) rec7 M' ∧ F2 t M M' ∧ Un t (sta (K + 2)) M M' ∧ ∀ f s, f < n → s ≤ 30 * (K + 1 + 1) → Lv t M' n g wo (K + 1) f s) (I := fun q a E => ∃ r : Nat, r + q = 30 * (K + 1) + 1 ∧ a = (r : Int) ∧ F2 t M E ∧ Un t (sta (K + 2)) M E ∧ Gg t E n g wo (K + 1) r) ?_ (30 * (K + 1) + 1) FU 0 M (lt_FU (by omega)) ⟨0, by omega, rfl, fun _ _ _ _ => rfl, fun _ _ => ⟨rfl, rfl⟩, fun f s hf hs => ⟨fun h => Zo_Lv ?_ (hz f s hf hs), fun _ => hz f s hf hs⟩⟩
  · rintro q a E rec ⟨r, e1, rfl, e2, e3, e4⟩ ih
    unfold fn_X2_build_L36
    rw [cLt_if (by omega) (by omega) (by omega) (by omega)]
    by_cases q1 : 30 * (((K + 2 : Nat) : Int) - 1) < (r : Int)
    · rw [if_pos q1]
      refine ⟨E, rfl, e2, e3, fun f s hf hs => ?_⟩
      have hgf := hg f hf
      by_cases q2 : (s : Int) < r + g f
      · exact (e4 f s hf hs).1 q2
      · refine Zo_Lv ?_ ((e4 f s hf hs).2 (by omega))
        unfold Cf; split
        · rfl
        · exact Wn_big (fun h hh => (hg h hh).2) (by omega)
    · rw [if_neg q1]
      obtain ⟨q, rfl⟩ : ∃ r', q = r' + 1 := ⟨q - 1, by omega⟩
      have hTE := Ti_f e2 hT
      have hvE : ∀ f s, f < n → s ≤ 30 * (K + 1) → Lv t E n g wo K f s := fun f s hf hs => Lv_un e3 (by omega) (by omega) (by omega) hs (hv f s hf hs)
      obtain ⟨v5, v6, f1, f2, f3⟩ := p_len1 hc hTE hK (show r ≤ 30 * (K + 1) by omega) hvE
      obtain ⟨E', g1, g2, g3, g4⟩ := p_len2 hc hTE hK (show r ≤ 30 * (K + 1) by omega) hvE f2 f3 e4
      rw [f1, g1, cv_s, nm_eq]
      exact ih q _ _ (by omega) ⟨r + 1, by omega, by omega, e2.tr g2, e3.tr g3, by rw [show ((r + 1 : Nat) : Int) = (r : Int) + 1 by omega]; exact g4⟩
  · unfold Cf; split
    · rfl
    · exact Wn_neg (fun h hh => (hg h hh).1) (by omega)
/-- the first length has no lengthening -/
theorem p_rest0 {t L n : Nat} {g : Nat → Int} {wo : Int} {M : Mem} {rec7 : Int → Mem → Option Mem} (hc : Tc t L n g wo) (hT : Ti t L M n g wo) : lq2 (fn_X2_build_L36 t 1 rec7) FU 0 M = fn_X2_build_J58 t 1 rec7 M := by
  obtain ⟨hn, hg, hL, h2, h3, hwo⟩ := id hc
  obtain ⟨t0, t4, t5, tg⟩ := id hT
  have hl : fn_X2_lengthen t 1 0 M = some M := by
    unfold fn_X2_lengthen
    refine lr4 (P := fun o => o = some M) (I := fun q a b c d => ∃ j : Nat, j + q = n ∧ a = (j : Int) ∧ d = 0) ?_ n FU 0 0 0 0 (lt_FU (by omega)) ⟨0, by omega, rfl, rfl⟩
    rintro q a b c d rec ⟨j, e1, rfl, rfl⟩ ih
    unfold fn_X2_lengthen_L11 fn_X2_lengthen_J94
    simp only [nm_eq]
    rw [t4, cLt_if (by omega) (by omega) (by omega) (by omega)]
    by_cases q1 : (j : Int) < (n : Int)
    · rw [if_pos q1, show ((1 : Int) - 1) = ((0 : Nat) : Int) from rfl, p_cell t0 (by omega) (by omega) (by omega) (by omega), if_neg (by omega), cu_s, cLt_if (by decide) (by decide) (by decide) (by decide), if_pos (by decide)]
      obtain ⟨q, rfl⟩ : ∃ r', q = r' + 1 := ⟨q - 1, by omega⟩
      exact ih q _ _ _ _ (by omega) ⟨j + 1, by omega, by omega, rfl⟩
    · rw [if_neg q1]
      show fn_X2_lengthen_L103 t 1 0 0 c b _ 0 M = some M
      unfold fn_X2_lengthen_L103
      rw [t4, cLt_if (by decide) (by decide) (by omega) (by omega), cLt_if (by decide) (by decide) (by decide) (by decide), dLt_if (by decide) (by decide) (by decide) (by decide)]
      split
      · rfl
      · rfl
  refine lr2 (P := fun o => o = fn_X2_build_J58 t 1 rec7 M) (I := fun q a E => ∃ r : Nat, r + q = 1 ∧ a = (r : Int) ∧ E = M) ?_ 1 FU 0 M (lt_FU (by omega)) ⟨0, by omega, rfl, rfl⟩
  rintro q a E rec ⟨r, e1, rfl, rfl⟩ ih
  unfold fn_X2_build_L36
  rw [cLt_if (by decide) (by decide) (by omega) (by omega)]
  by_cases q1 : 30 * ((1 : Int) - 1) < (r : Int)
  · rw [if_pos q1]
  · rw [if_neg q1]
    obtain rfl : r = 0 := by omega
    rw [show ((0 : Nat) : Int) = 0 from rfl, hl, cv_s, nm_eq]
    exact ih 0 _ _ (by omega) ⟨1, by omega, by omega, rfl⟩
def F26 (t : Nat) (M M' : Mem) : Prop := (∀ k i, k ≠ t → k ≠ t + 2 → k ≠ t + 3 → M' k i = M k i) ∧ ∀ i, i ≠ 6 → M' t i = M t i
theorem F26.tr {t : Nat} {M M' M'' : Mem} (h : F26 t M M') (h' : F26 t M' M'') : F26 t M M'' := ⟨fun k i a b c => (h'.1 k i a b c).trans (h.1 k i a b c), fun i a => (h'.2 i a).trans (h.2 i a)⟩
theorem F26.of {t : Nat} {M M' : Mem} (h : F2 t M M') : F26 t M M' := ⟨fun k i _ b c => h k i b c, fun i _ => h t i (by omega) (by omega)⟩
theorem Ti_6 {t L : Nat} {M : Mem} {n : Nat} {g : Nat → Int} {wo x : Int} (hT : Ti t L M n g wo) : Ti t L (up M t 6 x) n g wo := by
  unfold Ti at hT ⊢
  rw [up_i, up_i, up_i, if_neg (by decide), if_neg (by decide), if_neg (by decide)]
  exact ⟨hT.1, hT.2.1, hT.2.2.1, fun h hh => by rw [up_o (by omega)]; exact hT.2.2.2 h hh⟩
theorem p_build {t L n : Nat} {g : Nat → Int} {wo : Int} {M : Mem} {B hi : Nat} (hc : Tc t L n g wo) (hB : Tb t L M n g wo B) (hh : hi ≤ L) : ∃ M', fn_X2_build t hi M = some M' ∧ Tb t L M' n g wo (max B hi) ∧ F26 t M M' := by
  obtain ⟨hn, hg, hL, h2, h3, hwo⟩ := id hc
  unfold fn_X2_build
  rw [hB.2.1, nm_eq]
  have hBL := hB.2.2.1
  refine lr2 (P := fun o => ∃ M', o = some M' ∧ Tb t L M' n g wo (max B hi) ∧ F26 t M M') (I := fun q a E => ∃ b : Nat, B ≤ b ∧ (b ≤ hi ∨ b = B) ∧ q = hi - b ∧ a = ((b + 1 : Nat) : Int) ∧ Tb t L E n g wo b ∧ F26 t M E) ?_ (hi - B) FU _ M (lt_FU (by omega)) ⟨B, by omega, Or.inr rfl, rfl, by omega, hB, fun _ _ _ _ _ => rfl, fun _ _ => rfl⟩
  rintro q a E rec ⟨b, e0, e00, e1, rfl, e2, e3⟩ ih
  obtain ⟨hT, h6, hbL, hv⟩ := e2
  unfold fn_X2_build_L7
  rw [cLt_if (by omega) (by omega) (by omega) (by omega)]
  by_cases q1 : (hi : Int) < ((b + 1 : Nat) : Int)
  · rw [if_pos q1]
    obtain rfl : b = max B hi := by omega
    exact ⟨E, rfl, ⟨hT, h6, hbL, hv⟩, e3⟩
  · rw [if_neg q1, hT.1, cLt_if (by omega) (by omega) (by omega) (by omega), if_neg (by omega)]
    obtain ⟨E1, c1, c2, c3, c4⟩ := p_clear (M := E) (k := b + 1) hc (by omega) (by omega)
    have hT1 := Ti_f c2 hT
    have hu1 : Un t (sta (b + 1)) E E1 := fun i hi => ⟨by rw [c3, if_neg (by omega)], by rw [c4, if_neg (by omega)]⟩
    have hz1 : ∀ f s, f < n → s ≤ 30 * (b + 1) → Zo t E1 b f s := fun f s hf hs => by
      have i1 := ce_in (k := b + 1) (f := f) (s := s) (by omega) (by omega) (by omega) hs
      exact ⟨by rw [c3, if_pos i1], by rw [c4, if_pos i1]⟩
    have fin : ∀ E2, F2 t E1 E2 → Un t (sta (b + 1)) E1 E2 → (∀ f s, f < n → s ≤ 30 * (b + 1) → Lv t E2 n g wo b f s) → ∃ M', fn_X2_build_J58 t ((b + 1 : Nat) : Int) rec E2 = some M' ∧ Tb t L M' n g wo (max B hi) ∧ F26 t M M' := by
      intro E2 k1 k2 k3
      unfold fn_X2_build_J58
      rw [st_eq, nm_eq]
      refine ih (hi - (b + 1)) _ _ (by omega) ⟨b + 1, by omega, Or.inl (by omega), rfl, by omega, ⟨Ti_6 (Ti_f k1 hT1), by rw [up_i, if_pos rfl], by omega, fun k f s hk hf hs => ?_⟩, ?_⟩
      · refine Lv_f (M := E2) (by rw [up_o (by omega)]) (by rw [up_o (by omega)]) ?_
        by_cases q2 : k = b
        · subst q2; exact k3 f s hf hs
        · exact Lv_un (hu1.tr k2) (by omega) (by omega) (by omega) hs (hv k f s (by omega) hf hs)
      · refine (e3.tr (F26.of (c2.tr k1))).tr ⟨fun k i a _ _ => by rw [up_o a], fun i a => by rw [up_i, if_neg a]⟩
    rw [c1, cv_s, cEq_if (by omega) (by omega) (by decide) (by decide)]
    unfold fn_X2_build_J34
    by_cases q2 : b = 0
    · subst q2
      rw [if_pos (by omega)]
      obtain ⟨E2, d1, d2, d3⟩ := p_single hc hT1 (fun f s hf hs => hz1 f s hf (by omega))
      rw [d1, cv_s, show ((0 + 1 : Nat) : Int) = 1 from rfl, p_rest0 hc (Ti_f d2 hT1)]
      exact fin E2 d2 (fun i hi => by rw [show sta (0 + 1) = 0 from rfl] at hi; omega) (fun f s hf hs => d3 f s hf (by omega))
    · rw [if_neg (by omega)]
      obtain ⟨K, rfl⟩ : ∃ K, b = K + 1 := ⟨b - 1, by omega⟩
      obtain ⟨E2, d1, d2, d3, d4⟩ := p_rest (rec7 := rec) hc hT1 (show K + 2 ≤ L by omega) (fun f s hf hs => Lv_un hu1 (by omega) (by omega) (by omega) hs (hv K f s (by omega) hf hs)) hz1
      rw [d1]
      exact fin E2 d2 d3 d4
