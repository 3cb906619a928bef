/-! the class's table -/
theorem Wn_bd {n : Nat} {g : Nat → Int} {wo : Int} (hn : n ≤ 10) {k : Nat} {l s : Int} (hk : k ≤ 12) : Wn n g wo k l s ≤ 1000000000000 := by
  have h := Wn_win (g := g) (wo := wo) hn (k := k) (m := 1) (l := l) (a := s)
  have e : sm 1 (fun i => Wn n g wo k l (s + (i : Int))) = Wn n g wo k l s := by
    show 0 + Wn n g wo k l (s + ((0 : Nat) : Int)) = _
    rw [show s + ((0 : Nat) : Int) = s by omega, Int.zero_add]
  rw [e] at h
  refine Int.le_trans h ?_
  have : k = 0 ∨ k = 1 ∨ k = 2 ∨ k = 3 ∨ k = 4 ∨ k = 5 ∨ k = 6 ∨ k = 7 ∨ k = 8 ∨ k = 9 ∨ k = 10 ∨ k = 11 ∨ k = 12 := by omega
  rcases this with rfl | rfl | rfl | rfl | rfl | rfl | rfl | rfl | rfl | rfl | rfl | rfl | rfl <;> decide
theorem Cf_bd {n : Nat} {g : Nat → Int} {wo : Int} (hn : n ≤ 10) {k f : Nat} {s : Int} (hk : k ≤ 12) : Cf n g wo k f s ≤ 1000000000000 := by
  unfold Cf; split
  · decide
  · exact Wn_bd hn hk
def Lv (t : Nat) (M : Mem) (n : Nat) (g : Nat → Int) (wo : Int) (k f s : Nat) : Prop := M (t + 2) (ce (k + 1) f s) = Cf n g wo k f s ∧ (wo = -1 → ∀ i, i < 32 → tb (M (t + 3) (ce (k + 1) f s)) i = mb n g k f s i)
def Zo (t : Nat) (M : Mem) (k f s : Nat) : Prop := M (t + 2) (ce (k + 1) f s) = 0 ∧ M (t + 3) (ce (k + 1) f s) = 0
theorem Zo_Lv {t : Nat} {M : Mem} {n : Nat} {g : Nat → Int} {wo : Int} {k f s : Nat} (h0 : Cf n g wo k f s = 0) (h : Zo t M k f s) : Lv t M n g wo k f s := by
  refine ⟨by rw [h.1, h0], fun hw i _ => ?_⟩
  subst hw
  rw [h.2, tb_0, mb_0 h0]
theorem Lv_f {t : Nat} {M M' : Mem} {n : Nat} {g : Nat → Int} {wo : Int} {k f s : Nat} (h2 : M' (t + 2) (ce (k + 1) f s) = M (t + 2) (ce (k + 1) f s)) (h3 : M' (t + 3) (ce (k + 1) f s) = M (t + 3) (ce (k + 1) f s)) (h : Lv t M n g wo k f s) : Lv t M' n g wo k f s := by
  unfold Lv at h ⊢; rw [h2, h3]; exact h
theorem Zo_f {t : Nat} {M M' : Mem} {k f s : Nat} (h2 : M' (t + 2) (ce (k + 1) f s) = M (t + 2) (ce (k + 1) f s)) (h3 : M' (t + 3) (ce (k + 1) f s) = M (t + 3) (ce (k + 1) f s)) (h : Zo t M k f s) : Zo t M' k f s := by
  unfold Zo at h ⊢; rw [h2, h3]; exact h
def Tc (t L n : Nat) (g : Nat → Int) (wo : Int) : Prop := n ≤ 10 ∧ (∀ h, h < n → 1 ≤ g h ∧ g h ≤ 30) ∧ (1 ≤ L ∧ L ≤ 12) ∧ ln (t + 2) = sta (L + 1) ∧ ln (t + 3) = sta (L + 1) ∧ (-1 ≤ wo ∧ wo ≤ 10)
def Ti (t L : Nat) (M : Mem) (n : Nat) (g : Nat → Int) (wo : Int) : Prop := M t 0 = (L : Int) ∧ M t 4 = (n : Int) ∧ M t 5 = wo ∧ (∀ h, h < n → M (t + 1) h = g h)
def F2 (t : Nat) (M M' : Mem) : Prop := ∀ k i, k ≠ t + 2 → k ≠ t + 3 → M' k i = M k i
theorem F2.tr {t : Nat} {M M' M'' : Mem} (h : F2 t M M') (h' : F2 t M' M'') : F2 t M M'' := fun k i a b => (h' k i a b).trans (h k i a b)
theorem Ti_f {t L : Nat} {M M' : Mem} {n : Nat} {g : Nat → Int} {wo : Int} (h : F2 t M M') (hT : Ti t L M n g wo) : Ti t L M' n g wo := by
  unfold Ti at hT ⊢
  rw [h t 0 (by omega) (by omega), h t 4 (by omega) (by omega), h t 5 (by omega) (by omega)]
  exact ⟨hT.1, hT.2.1, hT.2.2.1, fun x hx => by rw [h _ _ (by omega) (by omega)]; exact hT.2.2.2 x hx⟩
theorem p_start {k : Nat} (h : 1 ≤ k) {M : Mem} : fn_X2_start (k : Int) M = some ((sta k : Nat) : Int) := by
  obtain ⟨j, rfl⟩ : ∃ j, k = j + 1 := ⟨k - 1, by omega⟩
  unfold fn_X2_start sta
  rw [show (((j + 1 : Nat) : Int) - 1) = (j : Int) by omega, Nat.add_sub_cancel]
  simp only [Int.natCast_add, Int.natCast_mul, Int.natCast_one, Int.cast_ofNat_Int]
def wv (M : Mem) (t c : Nat) (x y : Int) : Mem := up (up M (t + 2) c x) (t + 3) c y
theorem wv_2 {M : Mem} {t c i : Nat} {x y : Int} : wv M t c x y (t + 2) i = if i = c then x else M (t + 2) i := by
  unfold wv; rw [up_o (by omega), up_i]
theorem wv_3 {M : Mem} {t c i : Nat} {x y : Int} : wv M t c x y (t + 3) i = if i = c then y else M (t + 3) i := by
  unfold wv; rw [up_i, up_o (by omega)]
theorem wv_F {M : Mem} {t c : Nat} {x y : Int} : F2 t M (wv M t c x y) := fun k i a b => by unfold wv; rw [up_o b, up_o a]
theorem p_put2 {t L n : Nat} {g : Nat → Int} {wo : Int} {M : Mem} {k f w : Nat} {c b : Int} (hc : Tc t L n g wo) (hT : M t 0 = (L : Int)) (hk1 : 1 ≤ k) (hkL : k ≤ L) (hf : f < 10) (hw : w ≤ 30 * k) (hcc : 0 ≤ c ∧ c ≤ 1000000000000000) :
    fn_X2_put t k f w c b M = some (if 0 < c then wv M t (ce k f w) c (orI (andI b (xorI (shlI 1 f) (-1))) (shlI 1 ((f + 10 : Nat) : Int))) else M) := by
  obtain ⟨hn, hg, hL, h2, h3, hwo⟩ := hc
  have i1 := ce_in hk1 (by omega) hf hw
  have i2 := sta_m (k + 1) (by omega) (L + 1) (by omega) (by omega)
  have i3 := sta_m (L + 1) (by omega) 13 (by omega) (by omega)
  have i4 : sta 13 = 23520 := by decide
  unfold fn_X2_put
  rw [p_cell hT (by omega) (by omega) hf (by omega), if_pos (by omega), cu_s, Int.toNat_natCast, dLt_if (by decide) (by decide) (by omega) (by omega)]
  by_cases q : 0 < c
  · rw [if_pos q, if_pos q, cLt_if (by omega) (by omega) (by decide) (by decide), if_neg (by omega), h2, h3, cLt_if (by omega) (by omega) (by omega) (by omega), if_pos (by omega), cLt_if (by omega) (by omega) (by omega) (by omega), if_pos (by omega), wr_eq (by omega) (by omega), wr_eq (by omega) (by omega), Int.toNat_natCast]
    rfl
  · rw [if_neg q, if_neg q]
theorem p_clear {t L n : Nat} {g : Nat → Int} {wo : Int} {M : Mem} {k : Nat} (hc : Tc t L n g wo) (hk1 : 1 ≤ k) (hkL : k ≤ L) : ∃ M', fn_X2_clear t k M = some M' ∧ F2 t M M' ∧ (∀ i, M' (t + 2) i = if sta k ≤ i ∧ i < sta (k + 1) then 0 else M (t + 2) i) ∧ (∀ i, M' (t + 3) i = if sta k ≤ i ∧ i < sta (k + 1) then 0 else M (t + 3) i) := by
  obtain ⟨hn, hg, hL, h2, h3, hwo⟩ := hc
  have i1 := sta_m k (by omega) (k + 1) (by omega) (by omega)
  have i2 := sta_m (k + 1) (by omega) (L + 1) (by omega) (by omega)
  have i3 := sta_m (L + 1) (by omega) 13 (by omega) (by omega)
  have i4 : sta 13 = 23520 := by decide
  unfold fn_X2_clear
  rw [show (k : Int) + 1 = ((k + 1 : Nat) : Int) by omega, p_start (by omega), cu_s, h2, h3, ck_R33 (by omega) (by omega) (by omega) (by omega), ck_R33 (by omega) (by omega) (by omega) (by omega), nm_eq, p_start hk1, cu_s, ck_R33 (by omega) (by omega) (by decide) (by decide), nm_eq]
  rw [show min ((sta (k + 1) : Nat) : Int) (min ((sta (L + 1) : Nat) : Int) ((sta (L + 1) : Nat) : Int)) = ((sta (k + 1) : Nat) : Int) by omega, show max ((sta k : Nat) : Int) 0 = ((sta k : Nat) : Int) by omega]
  refine lr2 (P := fun o => ∃ M', o = some M' ∧ F2 t M M' ∧ (∀ i, M' (t + 2) i = if sta k ≤ i ∧ i < sta (k + 1) then 0 else M (t + 2) i) ∧ (∀ i, M' (t + 3) i = if sta k ≤ i ∧ i < sta (k + 1) then 0 else M (t + 3) i)) (I := fun r a E => ∃ j : Nat, j + r = sta (k + 1) ∧ sta k ≤ j ∧ a = (j : Int) ∧ F2 t M E ∧ (∀ i, E (t + 2) i = if sta k ≤ i ∧ i < j then 0 else M (t + 2) i) ∧ (∀ i, E (t + 3) i = if sta k ≤ i ∧ i < j then 0 else M (t + 3) i)) ?_ (sta (k + 1) - sta k) FU _ M (lt_FU (by omega)) ⟨sta k, by omega, Nat.le_refl _, rfl, fun _ _ _ _ => rfl, fun i => by rw [if_neg (by omega)], fun i => by rw [if_neg (by omega)]⟩
  rintro r a E rec ⟨j, e1, e2, rfl, e3, e4, e5⟩ ih
  unfold fn_X2_clear_L32
  rw [cLt_if (by omega) (by omega) (by omega) (by omega)]
  by_cases q : (j : Int) < ((sta (k + 1) : Nat) : Int)
  · rw [if_pos q, h2, h3, wr_eq (by omega) (by omega), wr_eq (by omega) (by omega), nm_eq, Int.toNat_natCast]
    obtain ⟨r, rfl⟩ : ∃ r', r = r' + 1 := ⟨r - 1, by omega⟩
    refine ih r _ _ (by omega) ⟨j + 1, by omega, by omega, by omega, e3.tr (wv_F (x := 0) (y := 0)), fun i => ?_, fun i => ?_⟩
    · rw [show up (up E (t + 2) j 0) (t + 3) j 0 = wv E t j 0 0 from rfl, wv_2, e4]
      by_cases q2 : i = j
      · rw [if_pos q2, if_pos (by omega)]
      · rw [if_neg q2]
        by_cases q3 : sta k ≤ i ∧ i < j
        · rw [if_pos q3, if_pos (by omega)]
        · rw [if_neg q3, if_neg (by omega)]
    · rw [show up (up E (t + 2) j 0) (t + 3) j 0 = wv E t j 0 0 from rfl, wv_3, e5]
      by_cases q2 : i = j
      · rw [if_pos q2, if_pos (by omega)]
      · rw [if_neg q2]
        by_cases q3 : sta k ≤ i ∧ i < j
        · rw [if_pos q3, if_pos (by omega)]
        · rw [if_neg q3, if_neg (by omega)]
  · rw [if_neg q]
    obtain rfl : j = sta (k + 1) := by omega
    exact ⟨E, rfl, e3, e4, e5⟩
theorem tb_put {b : Int} {f i : Nat} (hf : f < 10) (hi : i < 32) : tb (orI (andI b (xorI (shlI 1 (f : Int)) (-1))) (shlI 1 ((f + 10 : Nat) : Int))) i = true ↔ (tb b i = true ∧ i ≠ f) ∨ i = f + 10 := by
  rw [tb_or, tb_and, tb_not hi, tb_shl f (by omega) i hi, tb_shl (f + 10) (by omega) i hi]
  simp
theorem p_single {t L n : Nat} {g : Nat → Int} {wo : Int} {M : Mem} (hc : Tc t L n g wo) (hT : Ti t L M n g wo) (hz : ∀ f s, f < n → s ≤ 30 → Zo t M 0 f s) : ∃ M', fn_X2_buildSingle t M = some M' ∧ F2 t M M' ∧ ∀ f s, f < n → s ≤ 30 → Lv t M' n g wo 0 f s := by
  unfold fn_X2_buildSingle
  refine lr2 (P := fun o => ∃ M', o = some M' ∧ F2 t M M' ∧ ∀ f s, f < n → s ≤ 30 → Lv t M' n g wo 0 f s) (I := fun r a E => ∃ j : Nat, j + r = n ∧ a = (j : Int) ∧ F2 t M E ∧ ∀ f s, f < n → s ≤ 30 → (f < j → Lv t E n g wo 0 f s) ∧ (j ≤ f → Zo t E 0 f s)) ?_ n FU 0 M (lt_FU (by have := hc.1; omega)) ⟨0, by omega, rfl, fun _ _ _ _ => rfl, fun f s hf hs => ⟨fun h => by omega, fun _ => hz f s hf hs⟩⟩
  rintro r a E rec ⟨j, e1, rfl, e2, e3⟩ ih
  have hTE := Ti_f e2 hT
  obtain ⟨t0, t4, t5, tg⟩ := hTE
  obtain ⟨hn, hg, hL, h2, h3, hwo⟩ := id hc
  unfold fn_X2_buildSingle_L2 fn_X2_buildSingle_J40
  simp only [nm_eq]
  rw [t4, t5, cLt_if (by omega) (by omega) (by omega) (by omega)]
  by_cases q : (j : Int) < (n : Int)
  · rw [if_pos q, cLt_if (by omega) (by omega) (by decide) (by decide), if_pos (by omega), cEq_if (by omega) (by omega) (by omega) (by omega)]
    obtain ⟨r, rfl⟩ : ∃ r', r = r' + 1 := ⟨r - 1, by omega⟩
    have hgj := hg j (by omega)
    by_cases q1 : (j : Int) = wo
    · rw [if_pos q1]
      refine ih r _ _ (by omega) ⟨j + 1, by omega, by omega, e2, fun f s hf hs => ⟨fun h => ?_, fun h => (e3 f s hf hs).2 (by omega)⟩⟩
      by_cases q2 : f = j
      · refine Zo_Lv ?_ ((e3 f s hf hs).2 (by omega))
        unfold Cf; rw [if_pos (by omega)]
      · exact (e3 f s hf hs).1 (by omega)
    · rw [if_neg q1, rd_eq (by omega) (by omega), Int.toNat_natCast, tg j (by omega)]
      obtain ⟨gn, hgn⟩ := Int.eq_ofNat_of_zero_le (show 0 ≤ g j by omega)
      rw [hgn, show (1 : Int) = ((1 : Nat) : Int) from rfl, p_put2 (k := 1) hc t0 (by omega) (by omega) (by omega) (by omega) (by omega), if_pos (by decide), cv_s]
      refine ih r _ _ (by omega) ⟨j + 1, by omega, by omega, e2.tr wv_F, fun f s hf hs => ?_⟩
      have hne : ¬ (f = j ∧ s = gn) → ce (0 + 1) f s ≠ ce 1 j gn := fun h h' => h (ce_ne (by omega) (by omega) h')
      constructor
      · intro h
        by_cases q2 : f = j ∧ s = gn
        · obtain ⟨rfl, rfl⟩ := q2
          have e9 : Cf n g wo 0 f ((s : Nat) : Int) = 1 := by unfold Cf Wn; rw [if_neg q1, if_pos (by omega)]
          refine ⟨?_, fun hw i hi => ?_⟩
          · rw [wv_2, if_pos rfl, e9]; rfl
          · rw [wv_3, if_pos rfl]
            rw [Bool.eq_iff_iff, tb_put (by omega) hi, tb_1023 i hi]
            unfold mb
            by_cases q3 : i < 10
            · rw [if_pos q3]
              simp only [decide_eq_true_eq]
              unfold Cf Wn
              by_cases q4 : i = f
              · rw [if_pos (by omega)]; omega
              · rw [if_neg (by omega), if_pos (by omega)]; omega
            · rw [if_neg q3]
              by_cases q5 : i < 20
              · rw [if_pos q5]
                simp only [decide_eq_true_eq]
                unfold Cf Wn
                by_cases q4 : i = f + 10
                · rw [if_pos (by omega), if_neg (by omega), if_pos (by omega)]; omega
                · rw [if_neg (by omega), if_pos (by omega), if_neg (by omega)]; omega
              · rw [if_neg q5]
                constructor
                · intro h9; exfalso; simp only [decide_eq_true_eq] at h9; omega
                · intro h9; cases h9
        · by_cases q3 : f = j
          · have hz9 := (e3 f s hf hs).2 (by omega)
            refine Zo_Lv ?_ (Zo_f (by rw [wv_2, if_neg (hne q2)]) (by rw [wv_3, if_neg (hne q2)]) hz9)
            subst q3
            unfold Cf Wn; rw [if_neg q1, if_neg (by omega)]
          · exact Lv_f (by rw [wv_2, if_neg (hne q2)]) (by rw [wv_3, if_neg (hne q2)]) ((e3 f s hf hs).1 (by omega))
      · intro h
        exact Zo_f (by rw [wv_2, if_neg (hne (by omega))]) (by rw [wv_3, if_neg (hne (by omega))]) ((e3 f s hf hs).2 (by omega))
  · rw [if_neg q]
    exact ⟨E, rfl, e2, fun f s hf hs => (e3 f s hf hs).1 (by omega)⟩
