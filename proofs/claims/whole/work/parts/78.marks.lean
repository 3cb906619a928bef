/-! the class's marks -/
theorem Ra_pos {n : Nat} {g : Nat → Int} {wo : Int} {e lo m : Nat} {l x : Int} : 0 < Ra n g wo e lo m l x ↔ (lo = 0 ∧ 0 < m ∧ (-(e : Int) ≤ x ∧ x ≤ e)) ∨ ∃ k f i, (lo ≤ k + 1 ∧ k + 1 < lo + m) ∧ f < n ∧ (f : Int) ≠ l ∧ i < 2 * e + 1 ∧ 0 < Cf n g wo k f (x - e + (i : Int)) := by
  unfold Ra
  rw [sm_pos (fun _ _ => Ro_nn)]
  constructor
  · rintro ⟨j, hj, h⟩
    by_cases q : lo + j = 0
    · rw [q, Ro_0] at h
      left
      refine ⟨by omega, by omega, ?_⟩
      by_cases q2 : -(e : Int) ≤ x ∧ x ≤ e
      · exact q2
      · rw [if_neg q2] at h; omega
    · obtain ⟨k, hk⟩ : ∃ k, lo + j = k + 1 := ⟨lo + j - 1, by omega⟩
      rw [hk, Ro_s, sm_pos (fun f _ => by
        split
        · exact Int.le_refl _
        · exact sm_nn (fun _ _ => Cf_nn))] at h
      obtain ⟨f, hf, h⟩ := h
      by_cases q2 : (f : Int) = l
      · rw [if_pos q2] at h; omega
      · rw [if_neg q2, sm_pos (fun _ _ => Cf_nn)] at h
        obtain ⟨i, hi, h⟩ := h
        exact Or.inr ⟨k, f, i, by omega, hf, q2, hi, h⟩
  · rintro (⟨h1, h2, h3⟩ | ⟨k, f, i, h1, h2, h3, h4, h5⟩)
    · refine ⟨0, h2, ?_⟩
      rw [show lo + 0 = 0 by omega, Ro_0, if_pos h3]; decide
    · refine ⟨k + 1 - lo, by omega, ?_⟩
      rw [show lo + (k + 1 - lo) = k + 1 by omega, Ro_s, sm_pos (fun f _ => by
        split
        · exact Int.le_refl _
        · exact sm_nn (fun _ _ => Cf_nn))]
      refine ⟨f, h2, ?_⟩
      rw [if_neg h3, sm_pos (fun _ _ => Cf_nn)]
      exact ⟨i, h4, h5⟩
theorem Ra_lt {n : Nat} {g : Nat → Int} {wo : Int} {e lo m : Nat} {l x : Int} : Ra n g wo e lo m l x < Ra n g (-1) e lo m l x ↔ ∃ k f i, (lo ≤ k + 1 ∧ k + 1 < lo + m) ∧ f < n ∧ (f : Int) ≠ l ∧ i < 2 * e + 1 ∧ Cf n g wo k f (x - e + (i : Int)) < Cf n g (-1) k f (x - e + (i : Int)) := by
  have hf0 : ∀ k f, f < n → (if (f : Int) = l then 0 else sm (2 * e + 1) (fun i => Cf n g wo k f (x - e + (i : Int)))) ≤ (if (f : Int) = l then 0 else sm (2 * e + 1) (fun i => Cf n g (-1) k f (x - e + (i : Int)))) := fun k f _ => by
    split
    · exact Int.le_refl _
    · exact sm_le (fun _ _ => Cf_mono)
  unfold Ra
  rw [sm_lt (fun _ _ => Ro_mono)]
  constructor
  · rintro ⟨j, hj, h⟩
    by_cases q : lo + j = 0
    · rw [q, Ro_0, Ro_0] at h; omega
    · obtain ⟨k, hk⟩ : ∃ k, lo + j = k + 1 := ⟨lo + j - 1, by omega⟩
      rw [hk, Ro_s, Ro_s, sm_lt (hf0 k)] at h
      obtain ⟨f, hf, h⟩ := h
      by_cases q2 : (f : Int) = l
      · rw [if_pos q2, if_pos q2] at h; omega
      · rw [if_neg q2, if_neg q2, sm_lt (fun _ _ => Cf_mono)] at h
        obtain ⟨i, hi, h⟩ := h
        exact ⟨k, f, i, by omega, hf, q2, hi, h⟩
  · rintro ⟨k, f, i, h1, h2, h3, h4, h5⟩
    refine ⟨k + 1 - lo, by omega, ?_⟩
    rw [show lo + (k + 1 - lo) = k + 1 by omega, Ro_s, Ro_s, sm_lt (hf0 k)]
    refine ⟨f, h2, ?_⟩
    rw [if_neg h3, if_neg h3, sm_lt (fun _ _ => Cf_mono)]
    exact ⟨i, h4, h5⟩
def mA (n : Nat) (g : Nat → Int) (e lo m : Nat) (l x : Int) (i : Nat) : Bool := if i < 10 then decide (0 < Ra n g (i : Int) e lo m l x) else if i < 20 then decide (Ra n g ((i - 10 : Nat) : Int) e lo m l x < Ra n g (-1) e lo m l x) else false
theorem mA_iff {n : Nat} {g : Nat → Int} {e lo m : Nat} {l x : Int} {i : Nat} : mA n g e lo m l x i = true ↔ (lo = 0 ∧ 0 < m ∧ (-(e : Int) ≤ x ∧ x ≤ e) ∧ i < 10) ∨ ∃ k f u, (lo ≤ k + 1 ∧ k + 1 < lo + m) ∧ f < n ∧ (f : Int) ≠ l ∧ u < 2 * e + 1 ∧ mb n g k f (x - e + (u : Int)) i = true := by
  unfold mA mb
  by_cases q : i < 10
  · simp only [if_pos q, decide_eq_true_eq]
    rw [Ra_pos]
    constructor
    · rintro (⟨a, b, c⟩ | h)
      · exact Or.inl ⟨a, b, c, q⟩
      · exact Or.inr h
    · rintro (⟨a, b, c, -⟩ | h)
      · exact Or.inl ⟨a, b, c⟩
      · exact Or.inr h
  · simp only [if_neg q]
    by_cases q1 : i < 20
    · simp only [if_pos q1, decide_eq_true_eq]
      rw [Ra_lt]
      constructor
      · exact Or.inr
      · rintro (⟨a, b, c, d⟩ | h)
        · exact absurd d q
        · exact h
    · simp only [if_neg q1]
      constructor
      · intro h; cases h
      · rintro (⟨a, b, c, d⟩ | ⟨k, f, u, h1, h2, h3, h4, h5⟩)
        · exact absurd d q
        · cases h5
theorem mb_win {n : Nat} {g : Nat → Int} (hg : ∀ h, h < n → 1 ≤ g h ∧ g h ≤ 30) {k f e i : Nat} {x : Int} (hf : f < n) : (∃ u, u < 2 * e + 1 ∧ mb n g k f (x - e + (u : Int)) i = true) ↔ ∃ w : Nat, (x - e ≤ (w : Int) ∧ (w : Int) ≤ x + e ∧ w ≤ 30 * (k + 1)) ∧ mb n g k f w i = true := by
  have key : ∀ s : Int, mb n g k f s i = true → 0 ≤ s ∧ s ≤ 30 * ((k + 1 : Nat) : Int) := by
    intro s h
    constructor
    · by_cases q : 0 ≤ s
      · exact q
      · rw [mb_0 (Cf_neg hg hf (by omega))] at h; cases h
    · by_cases q : s ≤ 30 * ((k + 1 : Nat) : Int)
      · exact q
      · rw [mb_0 (Cf_big hg hf (by omega))] at h; cases h
  constructor
  · rintro ⟨u, hu, h⟩
    have h1 := key _ h
    refine ⟨(x - e + (u : Int)).toNat, by omega, ?_⟩
    rw [show (((x - e + (u : Int)).toNat : Nat) : Int) = x - e + (u : Int) by omega]; exact h
  · rintro ⟨w, hw, h⟩
    refine ⟨((w : Int) - (x - e)).toNat, by omega, ?_⟩
    rw [show x - (e : Int) + ((((w : Int) - (x - e)).toNat : Nat) : Int) = (w : Int) by omega]; exact h
theorem p_marksAt {t L n : Nat} {g : Nat → Int} {l : Int} {M : Mem} {B k w : Nat} (hc : Tc t L n g (-1)) (hB : Tb t L M n g (-1) B) (hk : k < B) (hl : -1 ≤ l ∧ l ≤ 10) (hw : w ≤ 30 * (k + 1)) :
    ∃ v, fn_X2_marksAt t l ((k + 1 : Nat) : Int) w M = some v ∧ ∀ i, i < 32 → (tb v i = true ↔ ∃ f, f < n ∧ (f : Int) ≠ l ∧ mb n g k f w i = true) := by
  obtain ⟨hn, hg, hL, h2, h3, hwo⟩ := id hc
  obtain ⟨⟨t0, t4, t5, tg⟩, h6, hBL, hv⟩ := id hB
  have i3 := sta_m (L + 1) (by omega) 13 (by omega) (by omega)
  have i4 : sta 13 = 23520 := by decide
  unfold fn_X2_marksAt
  refine lr2 (P := fun o => ∃ v, o = some v ∧ ∀ i, i < 32 → (tb v i = true ↔ ∃ f, f < n ∧ (f : Int) ≠ l ∧ mb n g k f w i = true)) (I := fun q a v => ∃ j : Nat, j + q = n ∧ a = (j : Int) ∧ ∀ i, i < 32 → (tb v i = true ↔ ∃ f, f < j ∧ (f : Int) ≠ l ∧ mb n g k f w i = true)) ?_ n FU 0 0 (lt_FU (by omega)) ⟨0, by omega, rfl, fun i _ => by rw [tb_0]; exact ⟨fun h => (by cases h), fun ⟨f, hf, _⟩ => by omega⟩⟩
  rintro q a v rec ⟨j, e1, rfl, e2⟩ ih
  unfold fn_X2_marksAt_L6 fn_X2_marksAt_J58
  simp only [nm_eq]
  rw [t4, cLt_if (by omega) (by omega) (by omega) (by omega)]
  by_cases q1 : (j : Int) < (n : Int)
  · have i1 := ce_in (k := k + 1) (f := j) (s := w) (by omega) (by omega) (by omega) hw
    have i5 := sta_m (k + 1 + 1) (by omega) (L + 1) (by omega) (by omega)
    rw [if_pos q1, p_cell t0 (by omega) (by omega) (by omega) (by omega), if_pos (by omega), cu_s, Int.toNat_natCast, cEq_if (by omega) (by omega) (by omega) (by omega)]
    obtain ⟨q, rfl⟩ : ∃ r', q = r' + 1 := ⟨q - 1, by omega⟩
    by_cases q2 : (j : Int) = l
    · rw [if_pos q2]
      refine ih q _ _ (by omega) ⟨j + 1, by omega, by omega, fun i hi => ?_⟩
      rw [e2 i hi]
      constructor
      · rintro ⟨f, a, b⟩; exact ⟨f, by omega, b⟩
      · rintro ⟨f, a, b, c⟩
        exact ⟨f, by rcases Nat.lt_or_ge f j with q | q; exact q; exact absurd (show (f : Int) = l by omega) b, b, c⟩
    · rw [if_neg q2, cLt_if (by omega) (by omega) (by decide) (by decide), if_neg (by omega), h3, cLt_if (by omega) (by omega) (by omega) (by omega), if_pos (by omega), rd_eq (by omega) (by omega), Int.toNat_natCast]
      refine ih q _ _ (by omega) ⟨j + 1, by omega, by omega, fun i hi => ?_⟩
      rw [tb_or, Bool.or_eq_true, e2 i hi, (hv k j w hk (by omega) hw).2 rfl i hi]
      constructor
      · rintro (⟨f, a, b⟩ | h)
        · exact ⟨f, by omega, b⟩
        · exact ⟨j, by omega, q2, h⟩
      · rintro ⟨f, a, b, c⟩
        by_cases q3 : f = j
        · subst q3; exact Or.inr c
        · exact Or.inl ⟨f, by omega, b, c⟩
  · rw [if_neg q1]
    obtain rfl : j = n := by omega
    exact ⟨v, rfl, e2⟩
/-- the bits of one length -/
def mL (n : Nat) (g : Nat → Int) (e k : Nat) (l x : Int) (i : Nat) : Prop := ∃ f u, f < n ∧ (f : Int) ≠ l ∧ u < 2 * e + 1 ∧ mb n g k f (x - e + (u : Int)) i = true
theorem mL_win {n : Nat} {g : Nat → Int} (hg : ∀ h, h < n → 1 ≤ g h ∧ g h ≤ 30) {k e i : Nat} {l x : Int} : mL n g e k l x i ↔ ∃ (w : Nat), (x - e ≤ (w : Int) ∧ (w : Int) ≤ x + e ∧ w ≤ 30 * (k + 1)) ∧ ∃ f, f < n ∧ (f : Int) ≠ l ∧ mb n g k f w i = true := by
  unfold mL
  constructor
  · rintro ⟨f, u, h1, h2, h3, h4⟩
    obtain ⟨w, hw, h⟩ := (mb_win hg h1).mp ⟨u, h3, h4⟩
    exact ⟨w, hw, f, h1, h2, h⟩
  · rintro ⟨w, hw, f, h1, h2, h⟩
    obtain ⟨u, h3, h4⟩ := (mb_win hg h1).mpr ⟨w, hw, h⟩
    exact ⟨f, u, h1, h2, h3, h4⟩
theorem p_m74 {t L n : Nat} {g : Nat → Int} {l x v0 : Int} {M : Mem} {B k e : Nat} {rec36 : Int → Int → Option (Int × Mem)} (hc : Tc t L n g (-1)) (hB : Tb t L M n g (-1) B) (hk : k < B) (hl : -1 ≤ l ∧ l ≤ 10) (he : e ≤ 9) (hx : -100000 ≤ x ∧ x ≤ 1000000) (hv0 : R3 v0) :
    ∃ v, lq2 (fn_X2_marksOf_L74 t l M ((k + 1 : Nat) : Int) rec36 (min (x + e) (30 * ((k + 1 : Nat) : Int)))) FU (max (x - e) 0) v0 = fn_X2_marksOf_J101 ((k + 1 : Nat) : Int) rec36 v ∧ R3 v ∧ ∀ i, i < 32 → (tb v i = true ↔ tb v0 i = true ∨ mL n g e k l x i) := by
  obtain ⟨hn, hg, hL, h2, h3, hwo⟩ := id hc
  have hBL := hB.2.2.1
  refine lr2 (P := fun o => ∃ v, o = fn_X2_marksOf_J101 ((k + 1 : Nat) : Int) rec36 v ∧ R3 v ∧ ∀ i, i < 32 → (tb v i = true ↔ tb v0 i = true ∨ mL n g e k l x i)) (I := fun q a v => 0 ≤ a ∧ x - e ≤ a ∧ a ≤ 2000000 ∧ q = (min (x + e) (30 * ((k + 1 : Nat) : Int)) + 1 - a).toNat ∧ R3 v ∧ ∀ i, i < 32 → (tb v i = true ↔ tb v0 i = true ∨ ∃ (w : Nat), (x - e ≤ (w : Int) ∧ (w : Int) ≤ x + e ∧ w ≤ 30 * (k + 1)) ∧ (w : Int) < a ∧ ∃ f, f < n ∧ (f : Int) ≠ l ∧ mb n g k f w i = true)) ?_ (min (x + e) (30 * ((k + 1 : Nat) : Int)) + 1 - max (x - e) 0).toNat FU _ v0 (lt_FU (by omega)) ⟨by omega, by omega, by omega, rfl, hv0, fun i hi => ⟨Or.inl, ?_⟩⟩
  · rintro q a v rec ⟨a0, a9, a1, e1, e3, e2⟩ ih
    unfold fn_X2_marksOf_L74
    simp only [nm_eq]
    rw [cLt_if (by omega) (by omega) (by omega) (by omega)]
    by_cases q1 : min (x + (e : Int)) (30 * ((k + 1 : Nat) : Int)) < a
    · rw [if_pos q1]
      refine ⟨v, rfl, e3, fun i hi => ?_⟩
      rw [e2 i hi, mL_win hg]
      constructor
      · rintro (h | ⟨w, h1, h2, h3⟩)
        · exact Or.inl h
        · exact Or.inr ⟨w, h1, h3⟩
      · rintro (h | ⟨w, h1, h3⟩)
        · exact Or.inl h
        · exact Or.inr ⟨w, h1, by omega, h3⟩
    · rw [if_neg q1]
      obtain ⟨b, hb⟩ := Int.eq_ofNat_of_zero_le a0
      subst hb
      obtain ⟨v', f1, f2⟩ := p_marksAt hc hB hk hl (show b ≤ 30 * (k + 1) by omega)
      rw [f1, cu_s]
      refine ih (q - 1) _ _ (by omega) ⟨by omega, by omega, by omega, by omega, orI_R, fun i hi => ?_⟩
      rw [tb_or, Bool.or_eq_true, e2 i hi, f2 i hi]
      constructor
      · rintro ((h | ⟨w, h1, h2, h3⟩) | h)
        · exact Or.inl h
        · exact Or.inr ⟨w, h1, by omega, h3⟩
        · exact Or.inr ⟨b, by omega, by omega, h⟩
      · rintro (h | ⟨w, h1, h2, h3⟩)
        · exact Or.inl (Or.inl h)
        · by_cases q3 : w = b
          · subst q3; exact Or.inr h3
          · exact Or.inl (Or.inr ⟨w, h1, by omega, h3⟩)
  · rintro (h | ⟨w, h1, h2, h3⟩)
    · exact h
    · omega
theorem p_marksOf {t L n : Nat} {g : Nat → Int} {x l : Int} {M : Mem} {B lo hi e : Nat} (hc : Tc t L n g (-1)) (hB : Tb t L M n g (-1) B) (hlo : lo ≤ hi) (hhi : hi ≤ L) (hl : -1 ≤ l ∧ l ≤ 10) (he : e ≤ 9) (hx : -100000 ≤ x ∧ x ≤ 1000000) :
    ∃ v M', fn_X2_marksOf t l x e lo hi M = some (v, M') ∧ R3 v ∧ (∀ i, i < 32 → tb v i = mA n g e lo (hi + 1 - lo) l x i) ∧ Tb t L M' n g (-1) (max B hi) ∧ F26 t M M' := by
  obtain ⟨M', b1, b2, b3⟩ := p_build hc hB hhi
  obtain ⟨hn, hg, hL, h2, h3, hwo⟩ := id hc
  obtain ⟨⟨t0, t4, t5, tg⟩, h6, hBL, hv⟩ := id b2
  have key : ∀ v0, R3 v0 → ∃ v, fn_X2_marksOf_J26 t l x e lo hi M' v0 = some (v, M') ∧ R3 v ∧ ∀ i, i < 32 → (tb v i = true ↔ tb v0 i = true ∨ ∃ k, (lo ≤ k + 1 ∧ k + 1 < lo + (hi + 1 - lo)) ∧ mL n g e k l x i) := by
    intro v0 hv0
    unfold fn_X2_marksOf_J26
    rw [ck_R33 (by omega) (by omega) (by decide) (by decide), nm_eq]
    refine lr2 (P := fun o => ∃ v, o = some (v, M') ∧ R3 v ∧ ∀ i, i < 32 → (tb v i = true ↔ tb v0 i = true ∨ ∃ k, (lo ≤ k + 1 ∧ k + 1 < lo + (hi + 1 - lo)) ∧ mL n g e k l x i)) (I := fun q a v => ∃ j : Nat, 1 ≤ j ∧ lo ≤ j ∧ j ≤ hi + 1 ∧ q = hi + 1 - j ∧ a = (j : Int) ∧ R3 v ∧ ∀ i, i < 32 → (tb v i = true ↔ tb v0 i = true ∨ ∃ k, (lo ≤ k + 1 ∧ k + 1 < j) ∧ mL n g e k l x i)) ?_ (hi + 1 - max lo 1) FU _ v0 (lt_FU (by omega)) ⟨max lo 1, by omega, by omega, by omega, rfl, by omega, hv0, fun i hi => ⟨Or.inl, ?_⟩⟩
    · rintro q a v rec ⟨j, e1, e2, e3, e4, rfl, e5, e6⟩ ih
      unfold fn_X2_marksOf_L36
      rw [t0, cLt_if (by omega) (by omega) (by omega) (by omega)]
      by_cases q1 : (hi : Int) < (j : Int)
      · rw [if_pos q1]
        obtain rfl : j = hi + 1 := by omega
        refine ⟨v, rfl, e5, fun i hi => ?_⟩
        rw [e6 i hi]
        constructor
        · rintro (h | ⟨k, h1, h2⟩)
          · exact Or.inl h
          · exact Or.inr ⟨k, by omega, h2⟩
        · rintro (h | ⟨k, h1, h2⟩)
          · exact Or.inl h
          · exact Or.inr ⟨k, by omega, h2⟩
      · obtain ⟨k, rfl⟩ : ∃ k, j = k + 1 := ⟨j - 1, by omega⟩
        rw [if_neg q1, cLt_if (by omega) (by omega) (by omega) (by omega), if_neg (by omega), ck_R33 (by omega) (by omega) (by omega) (by omega), nm_eq, ck_R33 (by omega) (by omega) (by decide) (by decide), nm_eq]
        obtain ⟨v', f1, f2, f3⟩ := p_m74 (rec36 := rec) hc b2 (show k < max B hi by omega) hl he hx e5
        rw [f1]
        unfold fn_X2_marksOf_J101
        rw [nm_eq]
        refine ih (hi + 1 - (k + 2)) _ _ (by omega) ⟨k + 2, by omega, by omega, by omega, rfl, by omega, f2, fun i hi => ?_⟩
        rw [f3 i hi, e6 i hi]
        constructor
        · rintro ((h | ⟨k', h1, h2⟩) | h)
          · exact Or.inl h
          · exact Or.inr ⟨k', by omega, h2⟩
          · exact Or.inr ⟨k, by omega, h⟩
        · rintro (h | ⟨k', h1, h2⟩)
          · exact Or.inl (Or.inl h)
          · by_cases q3 : k' = k
            · subst q3; exact Or.inr h2
            · exact Or.inl (Or.inr ⟨k', by omega, h2⟩)
    · rintro (h | ⟨k, h1, h2⟩)
      · exact h
      · omega
  have fin : ∀ v0, R3 v0 → (∀ i, i < 32 → (tb v0 i = true ↔ lo = 0 ∧ 0 < hi + 1 - lo ∧ (-(e : Int) ≤ x ∧ x ≤ e) ∧ i < 10)) → ∃ v M'', fn_X2_marksOf_J26 t l x e lo hi M' v0 = some (v, M'') ∧ R3 v ∧ (∀ i, i < 32 → tb v i = mA n g e lo (hi + 1 - lo) l x i) ∧ Tb t L M'' n g (-1) (max B hi) ∧ F26 t M M'' := by
    intro v0 hv0 h0
    obtain ⟨v, f1, f2, f3⟩ := key v0 hv0
    refine ⟨v, M', f1, f2, fun i hi => ?_, b2, b3⟩
    rw [Bool.eq_iff_iff, f3 i hi, h0 i hi, mA_iff]
    constructor
    · rintro (h | ⟨k, h1, f, u, h2, h3, h4, h5⟩)
      · exact Or.inl h
      · exact Or.inr ⟨k, f, u, h1, h2, h3, h4, h5⟩
    · rintro (h | ⟨k, f, u, h1, h2, h3, h4, h5⟩)
      · exact Or.inl h
      · exact Or.inr ⟨k, h1, f, u, h2, h3, h4, h5⟩
  unfold fn_X2_marksOf
  rw [b1, cv_s, cEq_if (by omega) (by omega) (by decide) (by decide)]
  by_cases q : lo = 0
  · rw [if_pos (by omega), p_near he hx, cu_s, cE_b2]
    by_cases q2 : -(e : Int) ≤ x ∧ x ≤ e
    · rw [if_pos q2]
      refine fin 1023 ⟨by decide, by decide⟩ (fun i hi => ?_)
      rw [tb_1023 i hi]; simp only [decide_eq_true_eq]; omega
    · rw [if_neg q2]
      refine fin 0 ⟨by decide, by decide⟩ (fun i hi => ?_)
      rw [tb_0]
      exact ⟨fun h => (by cases h), fun h => absurd h.2.2.1 q2⟩
  · rw [if_neg (by omega)]
    refine fin 0 ⟨by decide, by decide⟩ (fun i hi => ?_)
    rw [tb_0]
    exact ⟨fun h => (by cases h), fun h => absurd h.1 q⟩
theorem p_inAll {t L n : Nat} {g : Nat → Int} {x l : Int} {M : Mem} {B lo hi e : Nat} (hc : Tc t L n g (-1)) (hB : Tb t L M n g (-1) B) (hlo : lo ≤ hi) (hhi : hi ≤ L) (hl : -1 ≤ l ∧ l ≤ 10) (he : e ≤ 9) (hx : -100000 ≤ x ∧ x ≤ 1000000) :
    ∃ v M', fn_X2_inAll t l x e lo hi M = some (v, M') ∧ R3 v ∧ (∀ h, h < 32 → (tb v h = true ↔ h < n ∧ Ra n g h e lo (hi + 1 - lo) l x = 0 ∧ 0 < Ra n g (-1) e lo (hi + 1 - lo) l x)) ∧ Tb t L M' n g (-1) (max B hi) ∧ F26 t M M' := by
  obtain ⟨v, M', f1, f2, f3, f4, f5⟩ := p_marksOf hc hB hlo hhi hl he hx
  have hn := hc.1
  unfold fn_X2_inAll
  rw [f1, cl_s, cEq_if f2.1 f2.2 (by decide) (by decide)]
  have r0 := Ra_nn (n := n) (g := g) (wo := -1) (e := e) (lo := lo) (m := hi + 1 - lo) (l := l) (x := x)
  have z0 := f3 0 (by decide)
  have z10 := f3 10 (by decide)
  have hv0 : v = 0 ↔ ¬ 0 < Ra n g (-1) e lo (hi + 1 - lo) l x := by
    constructor
    · intro h h2
      rw [h, tb_0] at z0 z10
      unfold mA at z0 z10
      rw [if_pos (by decide)] at z0
      rw [if_neg (by decide), if_pos (by decide)] at z10
      have a1 := of_decide_eq_false z0.symm
      have a2 := of_decide_eq_false z10.symm
      have a3 := Ra_nn (n := n) (g := g) (wo := ((0 : Nat) : Int)) (e := e) (lo := lo) (m := hi + 1 - lo) (l := l) (x := x)
      rw [show ((10 - 10 : Nat) : Int) = ((0 : Nat) : Int) from rfl] at a2
      omega
    · intro h
      refine tb_ext f2 ⟨by decide, by decide⟩ (fun i h32 => ?_)
      rw [f3 i h32, tb_0]
      unfold mA
      split
      · exact decide_eq_false (by have := Ra_mono (n := n) (g := g) (wo := (i : Int)) (e := e) (lo := lo) (m := hi + 1 - lo) (l := l) (x := x); omega)
      · split
        · exact decide_eq_false (by have := Ra_nn (n := n) (g := g) (wo := ((i - 10 : Nat) : Int)) (e := e) (lo := lo) (m := hi + 1 - lo) (l := l) (x := x); omega)
        · rfl
  by_cases q : v = 0
  · rw [if_pos q]
    refine ⟨_, _, rfl, ⟨by decide, by decide⟩, fun h hh => ?_, f4, f5⟩
    rw [tb_0]
    exact ⟨fun h => (by cases h), fun h9 => absurd h9.2.2 (hv0.mp q)⟩
  · rw [if_neg q]
    refine ⟨_, _, rfl, andI_R, fun h hh => ?_, f4, f5⟩
    have hp : 0 < Ra n g (-1) e lo (hi + 1 - lo) l x := by
      by_cases q2 : 0 < Ra n g (-1) e lo (hi + 1 - lo) l x
      · exact q2
      · exact absurd (hv0.mpr q2) q
    have a3 := Ra_nn (n := n) (g := g) (wo := (h : Int)) (e := e) (lo := lo) (m := hi + 1 - lo) (l := l) (x := x)
    rw [tb_and, tb_not hh, tb_1023 h hh, f3 h hh]
    unfold mA
    by_cases q3 : h < 10
    · rw [if_pos q3]
      simp only [Bool.and_eq_true, Bool.not_eq_true', decide_eq_false_iff_not, decide_eq_true_eq]
      constructor
      · rintro ⟨a, b⟩
        refine ⟨?_, by omega, hp⟩
        by_cases q4 : h < n
        · exact q4
        · exfalso
          have : Ra n g (h : Int) e lo (hi + 1 - lo) l x = Ra n g (-1) e lo (hi + 1 - lo) l x := sm_ext (fun i _ => sm_ext (fun j _ => Wn_out (by omega)))
          omega
      · rintro ⟨a, b, c⟩; exact ⟨by omega, q3⟩
    · rw [decide_eq_false q3]
      simp only [Bool.and_false, Bool.false_eq_true, false_iff]
      rintro ⟨a, b⟩; omega
theorem p_inSome {t L n : Nat} {g : Nat → Int} {x l : Int} {M : Mem} {B lo hi e : Nat} (hc : Tc t L n g (-1)) (hB : Tb t L M n g (-1) B) (hlo : lo ≤ hi) (hhi : hi ≤ L) (hl : -1 ≤ l ∧ l ≤ 10) (he : e ≤ 9) (hx : -100000 ≤ x ∧ x ≤ 1000000) :
    ∃ v M', fn_X2_inSome t l x e lo hi M = some (v, M') ∧ R3 v ∧ (∀ h, h < 32 → (tb v h = true ↔ h < n ∧ Ra n g h e lo (hi + 1 - lo) l x < Ra n g (-1) e lo (hi + 1 - lo) l x)) ∧ Tb t L M' n g (-1) (max B hi) ∧ F26 t M M' := by
  obtain ⟨v, M', f1, f2, f3, f4, f5⟩ := p_marksOf hc hB hlo hhi hl he hx
  have hn := hc.1
  unfold fn_X2_inSome
  rw [f1, cl_s]
  refine ⟨_, _, rfl, andI_R, fun h hh => ?_, f4, f5⟩
  rw [tb_and, tb_1023 h hh]
  by_cases q3 : h < 10
  · rw [tb_shr (by omega), f3 (10 + h) (by omega)]
    unfold mA
    rw [if_neg (by omega), if_pos (by omega), show 10 + h - 10 = h by omega]
    simp only [Bool.and_eq_true, decide_eq_true_eq]
    constructor
    · rintro ⟨a, b⟩
      refine ⟨?_, a⟩
      by_cases q4 : h < n
      · exact q4
      · exfalso
        have : Ra n g (h : Int) e lo (hi + 1 - lo) l x = Ra n g (-1) e lo (hi + 1 - lo) l x := sm_ext (fun i _ => sm_ext (fun j _ => Wn_out (by omega)))
        omega
    · rintro ⟨a, b⟩; exact ⟨b, q3⟩
  · rw [decide_eq_false q3]
    simp only [Bool.and_false, Bool.false_eq_true, false_iff]
    rintro ⟨a, b⟩; omega
