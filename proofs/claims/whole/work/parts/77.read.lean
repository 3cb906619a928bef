/-! windows -/
def Rw (F : Int → Int) (a b : Int) : Int := sm (b + 1 - a).toNat (fun i => F (a + (i : Int)))
theorem Rw_s {F : Int → Int} {a b : Int} (h : a ≤ b) : Rw F a b = F a + Rw F (a + 1) b := by
  unfold Rw
  rw [show (b + 1 - a).toNat = 1 + (b + 1 - (a + 1)).toNat by omega, sm_app]
  have e1 : sm 1 (fun i => F (a + (i : Int))) = F a := by
    show 0 + F (a + ((0 : Nat) : Int)) = _
    rw [show a + ((0 : Nat) : Int) = a by omega, Int.zero_add]
  rw [e1]
  congr 1
  exact sm_ext (fun i _ => by rw [show a + ((1 + i : Nat) : Int) = a + 1 + (i : Int) by omega])
theorem Rw_e {F : Int → Int} {a b : Int} (h : b < a) : Rw F a b = 0 := by
  unfold Rw; rw [show (b + 1 - a).toNat = 0 by omega]; rfl
theorem Rw_z {F : Int → Int} {a b : Int} (h : ∀ w, a ≤ w → F w = 0) : Rw F a b = 0 := sm_z (fun i _ => h _ (by omega))
theorem Rw_0 {F : Int → Int} {b : Int} (h : ∀ w, w < 0 → F w = 0) : ∀ (m : Nat) (a : Int), 0 ≤ a + m → Rw F (max a 0) b = Rw F a b := by
  intro m
  induction m with
  | zero => intro a ha; rw [show max a 0 = a by omega]
  | succ m ih =>
    intro a ha
    by_cases q : 0 ≤ a
    · rw [show max a 0 = a by omega]
    · by_cases q2 : a ≤ b
      · rw [Rw_s q2, h a (by omega), Int.zero_add, ← ih (a + 1) (by omega)]
        congr 1; omega
      · rw [Rw_e (by omega), Rw_e (by omega)]
theorem Rw_w {F : Int → Int} {x : Int} {e : Nat} : Rw F (x - e) (x + e) = sm (2 * e + 1) (fun i => F (x - e + (i : Int))) := by
  unfold Rw; rw [show (x + (e : Int) + 1 - (x - e)).toNat = 2 * e + 1 by omega]
theorem Cf_neg {n : Nat} {g : Nat → Int} {wo : Int} (hg : ∀ h, h < n → 1 ≤ g h ∧ g h ≤ 30) {k f : Nat} {s : Int} (hf : f < n) (hs : s < 0) : Cf n g wo k f s = 0 := by
  unfold Cf; split
  · rfl
  · have := hg f hf; exact Wn_neg (fun h hh => (hg h hh).1) (by omega)
theorem Cf_big {n : Nat} {g : Nat → Int} {wo : Int} (hg : ∀ h, h < n → 1 ≤ g h ∧ g h ≤ 30) {k f : Nat} {s : Int} (hf : f < n) (hs : 30 * ((k + 1 : Nat) : Int) < s) : Cf n g wo k f s = 0 := by
  unfold Cf; split
  · rfl
  · have := hg f hf; exact Wn_big (fun h hh => (hg h hh).2) (by omega)
/-! the class reads its table -/
theorem p_starting {t L n : Nat} {g : Nat → Int} {wo x : Int} {M : Mem} {B k f e : Nat} (hc : Tc t L n g wo) (hB : Tb t L M n g wo B) (hk : k < B) (hf : f < n) (he : e ≤ 9) (hx : -100000 ≤ x ∧ x ≤ 1000000) :
    fn_X2_startingWith t f x e ((k + 1 : Nat) : Int) M = some (sm (2 * e + 1) (fun i => Cf n g wo k f (x - e + (i : Int)))) := by
  obtain ⟨hn, hg, hL, h2, h3, hwo⟩ := id hc
  obtain ⟨⟨t0, t4, t5, tg⟩, h6, hBL, hv⟩ := id hB
  have i3 := sta_m (L + 1) (by omega) 13 (by omega) (by omega)
  have i4 : sta 13 = 23520 := by decide
  rw [← Rw_w (F := fun w => Cf n g wo k f w)]
  unfold fn_X2_startingWith
  rw [ck_R33 (by omega) (by omega) (by omega) (by omega), nm_eq, ck_R33 (by omega) (by omega) (by decide) (by decide), nm_eq]
  refine lr2 (P := fun o => o = some (Rw (fun w => Cf n g wo k f w) (x - e) (x + e))) (I := fun q a v => 0 ≤ a ∧ a ≤ 1000000 ∧ q = (min (x + e) (30 * ((k + 1 : Nat) : Int)) + 1 - a).toNat ∧ v + Rw (fun w => Cf n g wo k f w) a (x + e) = Rw (fun w => Cf n g wo k f w) (x - e) (x + e)) ?_ (min (x + e) (30 * ((k + 1 : Nat) : Int)) + 1 - max (x - e) 0).toNat FU _ 0 (lt_FU (by omega)) ⟨by omega, by omega, rfl, ?_⟩
  · rintro q a v rec ⟨a0, a1, e1, e2⟩ ih
    unfold fn_X2_startingWith_L25 fn_X2_startingWith_J70 fn_X2_startingWith_J71
    simp only [nm_eq]
    rw [cLt_if (by omega) (by omega) (by omega) (by omega)]
    by_cases q1 : min (x + (e : Int)) (30 * ((k + 1 : Nat) : Int)) < a
    · rw [if_pos q1]
      have : Rw (fun w => Cf n g wo k f w) a (x + e) = 0 := by
        by_cases q2 : x + (e : Int) < a
        · exact Rw_e q2
        · exact Rw_z (fun w hw => Cf_big hg hf (by omega))
      rw [← e2, this, Int.add_zero]
    · rw [if_neg q1, p_cell t0 (by omega) (by omega) (by omega) (by omega), if_pos (by omega), cu_s]
      obtain ⟨b, hb⟩ := Int.eq_ofNat_of_zero_le a0
      subst hb
      have i1 := ce_in (k := k + 1) (f := f) (s := b) (by omega) (by omega) (by omega) (by omega)
      have i5 := sta_m (k + 1 + 1) (by omega) (L + 1) (by omega) (by omega)
      rw [Int.toNat_natCast, cLt_if (by omega) (by omega) (by decide) (by decide), if_neg (by omega), h2, cLt_if (by omega) (by omega) (by omega) (by omega), if_pos (by omega), rd_eq (by omega) (by omega), Int.toNat_natCast, (hv k f b hk hf (by omega)).1]
      refine ih (q - 1) _ _ (by omega) ⟨by omega, by omega, by omega, ?_⟩
      rw [Rw_s (by omega)] at e2
      omega
  · rw [Int.zero_add]
    exact Rw_0 (fun w hw => Cf_neg hg hf hw) (100100) (x - e) (by omega)
theorem sm_one2 {m : Nat} {a : Int} : sm m (fun i => if a + (i : Int) = 0 then 1 else 0) = if a ≤ 0 ∧ 0 < a + m then 1 else 0 := by
  induction m with
  | zero => rw [if_neg (by omega)]; rfl
  | succ m ih =>
    rw [sm_s, ih]
    split <;> split <;> split <;> omega
theorem Ro_0 {n : Nat} {g : Nat → Int} {wo : Int} {e : Nat} {l x : Int} : Ro n g wo e 0 l x = if -(e : Int) ≤ x ∧ x ≤ e then 1 else 0 := by
  unfold Ro
  rw [show sm (2 * e + 1) (fun i => Wn n g wo 0 l (x - e + (i : Int))) = sm (2 * e + 1) (fun i => if x - e + (i : Int) = 0 then 1 else 0) from rfl, sm_one2]
  by_cases q : -(e : Int) ≤ x ∧ x ≤ e
  · rw [if_pos q, if_pos (by omega)]
  · rw [if_neg q, if_neg (by omega)]
theorem p_near {x : Int} {e : Nat} {M : Mem} (he : e ≤ 9) (hx : -100000 ≤ x ∧ x ≤ 1000000) : fn_X2_isNear x e M = some (b2 (-(e : Int) ≤ x ∧ x ≤ e)) := by
  unfold fn_X2_isNear fn_X2_isNear_J15
  rw [cLt_if (by omega) (by omega) (by omega) (by omega), cLt_if (by omega) (by omega) (by omega) (by omega)]
  by_cases q1 : x < -(e : Int)
  · rw [if_pos q1, b2_f (by omega)]
  · by_cases q2 : (e : Int) < x
    · rw [if_neg q1, if_pos q2, b2_f (by omega)]
    · rw [if_neg q1, if_neg q2, b2_t (by omega)]
theorem p_ofLength {t L n : Nat} {g : Nat → Int} {wo x l : Int} {M : Mem} {B k e : Nat} (hc : Tc t L n g wo) (hB : Tb t L M n g wo B) (hk : k ≤ B) (hl : -1 ≤ l ∧ l ≤ 10) (he : e ≤ 9) (hx : -100000 ≤ x ∧ x ≤ 1000000) :
    fn_X2_ofLength t l x e (k : Int) M = some (Ro n g wo e k l x) := by
  obtain ⟨hn, hg, hL, h2, h3, hwo⟩ := id hc
  obtain ⟨⟨t0, t4, t5, tg⟩, h6, hBL, hv⟩ := id hB
  unfold fn_X2_ofLength
  rw [cEq_if (by omega) (by omega) (by decide) (by decide)]
  by_cases q : k = 0
  · subst q
    rw [if_pos (by omega), p_near he hx, cu_s, cE_b2, Ro_0]
    split <;> rfl
  · obtain ⟨k, rfl⟩ : ∃ j, k = j + 1 := ⟨k - 1, by omega⟩
    rw [if_neg (by omega), Ro_s]
    refine lr2 (P := fun o => o = some (sm n (fun f => if (f : Int) = l then 0 else sm (2 * e + 1) (fun i => Cf n g wo k f (x - e + (i : Int)))))) (I := fun q a v => ∃ j : Nat, j + q = n ∧ a = (j : Int) ∧ v = sm j (fun f => if (f : Int) = l then 0 else sm (2 * e + 1) (fun i => Cf n g wo k f (x - e + (i : Int))))) ?_ n FU 0 0 (lt_FU (by omega)) ⟨0, by omega, rfl, rfl⟩
    rintro q a v rec ⟨j, e1, rfl, e2⟩ ih
    unfold fn_X2_ofLength_L25 fn_X2_ofLength_J55
    simp only [nm_eq]
    rw [t4, cLt_if (by omega) (by omega) (by omega) (by omega)]
    by_cases q1 : (j : Int) < (n : Int)
    · rw [if_pos q1, cEq_if (by omega) (by omega) (by omega) (by omega)]
      obtain ⟨q, rfl⟩ : ∃ r', q = r' + 1 := ⟨q - 1, by omega⟩
      by_cases q2 : (j : Int) = l
      · rw [if_pos q2]
        exact ih q _ _ (by omega) ⟨j + 1, by omega, by omega, by rw [e2, sm_s, if_pos q2, Int.add_zero]⟩
      · rw [if_neg q2, p_starting hc hB (by omega) (by omega) he hx, cu_s]
        exact ih q _ _ (by omega) ⟨j + 1, by omega, by omega, by rw [e2, sm_s (n := j), if_neg q2]⟩
    · rw [if_neg q1]
      obtain rfl : j = n := by omega
      rw [e2]
theorem p_total {t L n : Nat} {g : Nat → Int} {wo x l : Int} {M : Mem} {B lo hi e : Nat} (hc : Tc t L n g wo) (hB : Tb t L M n g wo B) (hlo : lo ≤ hi) (hhi : hi ≤ L) (hl : -1 ≤ l ∧ l ≤ 10) (he : e ≤ 9) (hx : -100000 ≤ x ∧ x ≤ 1000000) :
    ∃ M', fn_X2_total t l x e lo hi M = some (Ra n g wo e lo (hi + 1 - lo) l x, M') ∧ Tb t L M' n g wo (max B hi) ∧ F26 t M M' := by
  obtain ⟨M', b1, b2, b3⟩ := p_build hc hB hhi
  obtain ⟨hn, hg, hL, h2, h3, hwo⟩ := id hc
  obtain ⟨⟨t0, t4, t5, tg⟩, h6, hBL, hv⟩ := id b2
  refine ⟨M', ?_, b2, b3⟩
  unfold fn_X2_total
  rw [b1, cv_s]
  refine lr2 (P := fun o => o = some (Ra n g wo e lo (hi + 1 - lo) l x, M')) (I := fun q a v => ∃ j : Nat, j + q = hi + 1 - lo ∧ a = ((lo + j : Nat) : Int) ∧ v = sm j (fun i => Ro n g wo e (lo + i) l x)) ?_ (hi + 1 - lo) FU _ 0 (lt_FU (by omega)) ⟨0, by omega, by omega, rfl⟩
  rintro q a v rec ⟨j, e1, e0, e2⟩ ih
  unfold fn_X2_total_L13
  simp only [nm_eq]
  rw [t0, cLt_if (by omega) (by omega) (by omega) (by omega)]
  by_cases q1 : (hi : Int) < a
  · rw [if_pos q1]
    obtain rfl : j = hi + 1 - lo := by omega
    rw [e2]; rfl
  · rw [if_neg q1, cLt_if (by omega) (by omega) (by omega) (by omega), if_neg (by omega), e0, p_ofLength hc b2 (by omega) hl he hx, cu_s]
    obtain ⟨q, rfl⟩ : ∃ r', q = r' + 1 := ⟨q - 1, by omega⟩
    exact ih q _ _ (by omega) ⟨j + 1, by omega, by omega, by rw [e2, sm_s]⟩
/-- the first length that has ROWS -/
def Sh (n : Nat) (g : Nat → Int) (e : Nat) (lo hi : Nat) (l x r : Int) : Prop := (r = -1 ∧ ∀ k, lo ≤ k → k ≤ hi → Ro n g (-1) e k l x = 0) ∨ ∃ k : Nat, r = (k : Int) ∧ lo ≤ k ∧ k ≤ hi ∧ 0 < Ro n g (-1) e k l x ∧ ∀ k', lo ≤ k' → k' < k → Ro n g (-1) e k' l x = 0
theorem p_shortest {t L n : Nat} {g : Nat → Int} {x l : Int} {M : Mem} {B lo hi e : Nat} (hc : Tc t L n g (-1)) (hB : Tb t L M n g (-1) B) (hlo : lo ≤ hi) (hhi : hi ≤ L) (hl : -1 ≤ l ∧ l ≤ 10) (he : e ≤ 9) (hx : -100000 ≤ x ∧ x ≤ 1000000) :
    ∃ r M', fn_X2_shortest t l x e lo hi M = some (r, M') ∧ Sh n g e lo hi l x r ∧ Tb t L M' n g (-1) (max B hi) ∧ F26 t M M' := by
  obtain ⟨M', b1, b2, b3⟩ := p_build hc hB hhi
  obtain ⟨hn, hg, hL, h2, h3, hwo⟩ := id hc
  obtain ⟨⟨t0, t4, t5, tg⟩, h6, hBL, hv⟩ := id b2
  unfold fn_X2_shortest
  rw [b1, cv_s]
  refine lr1 (P := fun o => ∃ r M', o = some (r, M') ∧ Sh n g e lo hi l x r ∧ Tb t L M' n g (-1) (max B hi) ∧ F26 t M M') (I := fun q a => ∃ j : Nat, j + q = hi + 1 - lo ∧ a = ((lo + j : Nat) : Int) ∧ ∀ k, lo ≤ k → k < lo + j → Ro n g (-1) e k l x = 0) ?_ (hi + 1 - lo) FU _ (lt_FU (by omega)) ⟨0, by omega, by omega, fun k a b => by omega⟩
  rintro q a rec ⟨j, e1, e0, e2⟩ ih
  unfold fn_X2_shortest_L10
  simp only [nm_eq]
  rw [t0, cLt_if (by omega) (by omega) (by omega) (by omega)]
  by_cases q1 : (hi : Int) < a
  · rw [if_pos q1]
    exact ⟨_, _, rfl, Or.inl ⟨rfl, fun k a b => e2 k a (by omega)⟩, b2, b3⟩
  · have hr0 := Ro_nn (n := n) (g := g) (wo := -1) (e := e) (k := lo + j) (l := l) (x := x)
    have hr1 := Ro_bd2 (g := g) (wo := -1) (e := e) (l := l) (x := x) hn (show lo + j ≤ 12 by omega)
    rw [if_neg q1, cLt_if (by omega) (by omega) (by omega) (by omega), if_neg (by omega), e0, p_ofLength hc b2 (by omega) hl he hx, cu_s, dLt_if (by decide) (by decide) (by omega) (by omega)]
    by_cases q2 : 0 < Ro n g (-1) e (lo + j) l x
    · rw [if_pos q2]
      exact ⟨_, _, rfl, Or.inr ⟨lo + j, rfl, by omega, by omega, q2, e2⟩, b2, b3⟩
    · rw [if_neg q2]
      obtain ⟨q, rfl⟩ : ∃ r', q = r' + 1 := ⟨q - 1, by omega⟩
      refine ih q _ (by omega) ⟨j + 1, by omega, by omega, fun k a b => ?_⟩
      by_cases q3 : k = lo + j
      · subst q3; omega
      · exact e2 k a (by omega)
theorem least {n : Nat} {P : Nat → Prop} (h : ∃ f, f < n ∧ P f) : ∃ f, f < n ∧ P f ∧ ∀ f', f' < f → ¬ P f' := by
  obtain ⟨f, hf, hp⟩ := h
  induction f using Nat.strongRecOn with
  | ind f ih =>
    by_cases q : ∃ f', f' < f ∧ P f'
    · obtain ⟨f', a, b⟩ := q
      exact ih f' a (by omega) b
    · exact ⟨f, hf, hp, fun f' a b => q ⟨f', a, b⟩⟩
theorem p_lowest {t L n : Nat} {g : Nat → Int} {x l : Int} {M : Mem} {B k f e : Nat} (hc : Tc t L n g (-1)) (hB : Tb t L M n g (-1) B) (hk : k < B) (hl : -1 ≤ l ∧ l ≤ 10) (he : e ≤ 9) (hx : -100000 ≤ x ∧ x ≤ 1000000) (hf : f < n)
    (h1 : (f : Int) ≠ l ∧ 0 < Ro n g (-1) e k f (x - g f)) (h2 : ∀ f', f' < f → ¬ ((f' : Int) ≠ l ∧ 0 < Ro n g (-1) e k f' (x - g f'))) : fn_X2_lowestFirst t l x e ((k + 1 : Nat) : Int) M = some (f : Int) := by
  obtain ⟨hn, hg, hL, h22, h3, hwo⟩ := id hc
  obtain ⟨⟨t0, t4, t5, tg⟩, h6, hBL, hv⟩ := id hB
  unfold fn_X2_lowestFirst
  refine lr1 (P := fun o => o = some (f : Int)) (I := fun q a => ∃ j : Nat, j + q = f ∧ a = (j : Int)) ?_ f FU 0 (lt_FU (by omega)) ⟨0, by omega, rfl⟩
  rintro q a rec ⟨j, e1, rfl⟩ ih
  unfold fn_X2_lowestFirst_L3 fn_X2_lowestFirst_J36
  simp only [nm_eq]
  have hr0 := Ro_nn (n := n) (g := g) (wo := -1) (e := e) (k := k) (l := (j : Int)) (x := x - g j)
  have hr1 := Ro_bd2 (g := g) (wo := -1) (e := e) (l := (j : Int)) (x := x - g j) hn (show k ≤ 12 by omega)
  rw [t4, cLt_if (by omega) (by omega) (by omega) (by omega), if_pos (by omega), cEq_if (by omega) (by omega) (by omega) (by omega)]
  by_cases q0 : j = f
  · subst q0
    rw [if_neg h1.1, p_starting hc hB hk (by omega) he hx, cu_s, Cf_sum, if_neg (by omega), dLt_if (by decide) (by decide) (by omega) (by omega), if_pos h1.2]
  · obtain ⟨q, rfl⟩ : ∃ r', q = r' + 1 := ⟨q - 1, by omega⟩
    have h9 := h2 j (by omega)
    by_cases q1 : (j : Int) = l
    · rw [if_pos q1]
      exact ih q _ (by omega) ⟨j + 1, by omega, by omega⟩
    · rw [if_neg q1, p_starting hc hB hk (by omega) he hx, cu_s, Cf_sum, if_neg (by omega), dLt_if (by decide) (by decide) (by omega) (by omega), if_neg (fun q9 => h9 ⟨q1, q9⟩)]
      exact ih q _ (by omega) ⟨j + 1, by omega, by omega⟩
/-- where there are ROWS, there is one that begins them -/
theorem Ro_ex {n : Nat} {g : Nat → Int} {e k : Nat} {l x : Int} (h : 0 < Ro n g (-1) e (k + 1) l x) : ∃ f, f < n ∧ ((f : Int) ≠ l ∧ 0 < Ro n g (-1) e k f (x - g f)) := by
  rw [Ro_s, sm_pos (fun f _ => by
    split
    · exact Int.le_refl _
    · exact sm_nn (fun _ _ => Cf_nn))] at h
  obtain ⟨f, hf, h⟩ := h
  by_cases q : (f : Int) = l
  · rw [if_pos q] at h; omega
  · rw [if_neg q, Cf_sum, if_neg (by omega)] at h
    exact ⟨f, hf, q, h⟩
