/-! text: how the class cuts the tape -/
def Tc1 (C : Mem) (B : Nat → Int) (len : Nat) : Prop := len ≤ 300 ∧ C 29 1 = (len : Int) ∧ ∀ i, i < len → C 30 i = B i ∧ 0 ≤ B i ∧ B i ≤ 255
def F37 (C C' : Mem) : Prop := ∀ k i, k < 37 ∨ 41 < k → C' k i = C k i
theorem F37.rf {C : Mem} : F37 C C := fun _ _ _ => rfl
theorem F37.tr {C C' C'' : Mem} (h : F37 C C') (h' : F37 C' C'') : F37 C C'' := fun k i q => (h' k i q).trans (h k i q)
theorem F37.up {C C' : Mem} {k i : Nat} {v : Int} (h : F37 C C') (hk : 37 ≤ k ∧ k ≤ 41) : F37 C (up C' k i v) := fun a b q => by rw [up_o (by omega)]; exact h a b q
theorem Tc1_f {C C' : Mem} {B : Nat → Int} {len : Nat} (h : F37 C C') (hT : Tc1 C B len) : Tc1 C' B len := ⟨hT.1, by rw [h 29 1 (by omega)]; exact hT.2.1, fun i hi => by rw [h 30 i (by omega)]; exact hT.2.2 i hi⟩
theorem p_byteAt {C : Mem} {B : Nat → Int} {len : Nat} {a : Int} (hT : Tc1 C B len) (ha : -10 ≤ a ∧ a ≤ 1000) : fn_X6_byteAt 29 a C = some (if 0 ≤ a ∧ a < len then B a.toNat else -1) := by
  obtain ⟨h1, h2, h3⟩ := hT
  unfold fn_X6_byteAt fn_X6_byteAt_J28
  rw [h2, cLt_if (by omega) (by omega) (by decide) (by decide), cLt_if (by omega) (by omega) (by omega) (by omega), cLt_if (by omega) (by omega) (by decide) (by decide)]
  by_cases q1 : a < 0
  · rw [if_pos q1, if_neg (by omega)]
  · by_cases q2 : a < (len : Int)
    · rw [if_neg q1, if_pos q2, if_pos (by omega), if_pos (by omega), rd_eq (by omega) (by omega), (h3 a.toNat (by omega)).1]
    · rw [if_neg q1, if_neg q2, if_neg (by omega)]
theorem p_isL {x : Int} {M : Mem} (h : -1 ≤ x ∧ x ≤ 255) : ∃ v, fn_X8_isLetter x M = some v ∧ ((v = 1 ∧ isL x) ∨ (v = 0 ∧ ¬ isL x)) := by
  unfold fn_X8_isLetter fn_X8_isLetter_J12 fn_X8_isLetter_J28 fn_X8_isLetter_J24 isL
  rw [cLt_if (by omega) (by omega) (by decide) (by decide), cLt_if (by omega) (by omega) (by decide) (by decide), cLt_if (by decide) (by decide) (by omega) (by omega), cLt_if (by decide) (by decide) (by omega) (by omega)]
  by_cases q1 : x < 97
  · rw [if_pos q1]
    by_cases q2 : x < 65
    · rw [if_pos q2]; exact ⟨_, rfl, Or.inr ⟨rfl, by omega⟩⟩
    · rw [if_neg q2]
      by_cases q3 : 90 < x
      · rw [if_pos q3]; exact ⟨_, rfl, Or.inr ⟨rfl, by omega⟩⟩
      · rw [if_neg q3]; exact ⟨_, rfl, Or.inl ⟨rfl, by omega⟩⟩
  · rw [if_neg q1]
    by_cases q2 : 122 < x
    · rw [if_pos q2, if_neg (by omega), if_pos (by omega)]; exact ⟨_, rfl, Or.inr ⟨rfl, by omega⟩⟩
    · rw [if_neg q2]; exact ⟨_, rfl, Or.inl ⟨rfl, by omega⟩⟩
theorem p_isD {x : Int} {M : Mem} (h : -1 ≤ x ∧ x ≤ 255) : fn_X8_isDigit x M = some (b2 (48 ≤ x ∧ x ≤ 57)) := by
  unfold fn_X8_isDigit fn_X8_isDigit_J16
  rw [cLt_if (by omega) (by omega) (by decide) (by decide), cLt_if (by decide) (by decide) (by omega) (by omega)]
  by_cases q1 : x < 48
  · rw [if_pos q1, b2_f (by omega)]
  · by_cases q2 : 57 < x
    · rw [if_neg q1, if_pos q2, b2_f (by omega)]
    · rw [if_neg q1, if_neg q2, b2_t (by omega)]
def jn (a x : Int) : Prop := (isL a ∧ isL x) ∨ (isD a ∧ isD x) ∨ ((a = 60 ∨ a = 62) ∧ x = 61)
theorem p_joins {a x : Int} {M : Mem} (ha : -1 ≤ a ∧ a ≤ 255) (hx : -1 ≤ x ∧ x ≤ 255) : ∃ v, fn_X8_joins a x M = some v ∧ ((v = 1 ∧ jn a x) ∨ (v = 0 ∧ ¬ jn a x)) := by
  obtain ⟨u, u1, u2⟩ := p_isL (M := M) ha
  obtain ⟨w, w1, w2⟩ := p_isL (M := M) hx
  unfold fn_X8_joins fn_X8_joins_J14 fn_X8_joins_J28 fn_X8_joins_J40 fn_X8_joins_J46 fn_X8_joins_J50
  rw [u1, cu_s, w1, cu_s, p_isD ha, cu_s, cE_b2, p_isD hx, cu_s, cE_b2, cEq_if (x := a) (y := 60) (by omega) (by omega) (by decide) (by decide), cEq_if (x := a) (y := 62) (by omega) (by omega) (by decide) (by decide), cEq_if (x := x) (y := 61) (by omega) (by omega) (by decide) (by decide)]
  have rest : ∃ v, (if 48 ≤ a ∧ a ≤ 57 then (if 48 ≤ x ∧ x ≤ 57 then some (1 : Int) else (if a = 60 then (if x = 61 then some 1 else some 0) else if a = 62 then (if x = 61 then some 1 else some 0) else some 0)) else (if a = 60 then (if x = 61 then some 1 else some 0) else if a = 62 then (if x = 61 then some 1 else some 0) else some 0)) = some v ∧ ((v = 1 ∧ ((isD a ∧ isD x) ∨ ((a = 60 ∨ a = 62) ∧ x = 61))) ∨ (v = 0 ∧ ¬ ((isD a ∧ isD x) ∨ ((a = 60 ∨ a = 62) ∧ x = 61)))) := by
    unfold isD
    by_cases q1 : 48 ≤ a ∧ a ≤ 57
    · rw [if_pos q1]
      by_cases q2 : 48 ≤ x ∧ x ≤ 57
      · rw [if_pos q2]; exact ⟨_, rfl, Or.inl ⟨rfl, Or.inl ⟨q1, q2⟩⟩⟩
      · rw [if_neg q2, if_neg (by omega), if_neg (by omega)]; exact ⟨_, rfl, Or.inr ⟨rfl, by omega⟩⟩
    · rw [if_neg q1]
      by_cases q3 : a = 60
      · rw [if_pos q3]
        by_cases q4 : x = 61
        · rw [if_pos q4]; exact ⟨_, rfl, Or.inl ⟨rfl, Or.inr ⟨Or.inl q3, q4⟩⟩⟩
        · rw [if_neg q4]; exact ⟨_, rfl, Or.inr ⟨rfl, by omega⟩⟩
      · rw [if_neg q3]
        by_cases q5 : a = 62
        · rw [if_pos q5]
          by_cases q4 : x = 61
          · rw [if_pos q4]; exact ⟨_, rfl, Or.inl ⟨rfl, Or.inr ⟨Or.inr q5, q4⟩⟩⟩
          · rw [if_neg q4]; exact ⟨_, rfl, Or.inr ⟨rfl, by omega⟩⟩
        · rw [if_neg q5]; exact ⟨_, rfl, Or.inr ⟨rfl, by omega⟩⟩
  obtain ⟨v, v1, v2⟩ := rest
  have c0 : ∀ {A B : Option Int}, cEq 0 0 A B = A := fun {A B} => by rw [cEq_if (by decide) (by decide) (by decide) (by decide), if_pos rfl]
  have c1 : ∀ {A B : Option Int}, cEq 1 0 A B = B := fun {A B} => by rw [cEq_if (by decide) (by decide) (by decide) (by decide), if_neg (by decide)]
  rw [v1]
  unfold jn
  rcases u2 with ⟨rfl, u2⟩ | ⟨rfl, u2⟩
  · rw [c1]
    rcases w2 with ⟨rfl, w2⟩ | ⟨rfl, w2⟩
    · rw [c1]; exact ⟨_, rfl, Or.inl ⟨rfl, Or.inl ⟨u2, w2⟩⟩⟩
    · rw [c0]
      refine ⟨v, rfl, ?_⟩
      rcases v2 with ⟨a1, a2⟩ | ⟨a1, a2⟩
      · exact Or.inl ⟨a1, Or.inr a2⟩
      · exact Or.inr ⟨a1, fun h => by rcases h with h | h; exact w2 h.2; exact a2 h⟩
  · rw [c0]
    refine ⟨v, rfl, ?_⟩
    rcases v2 with ⟨a1, a2⟩ | ⟨a1, a2⟩
    · exact Or.inl ⟨a1, Or.inr a2⟩
    · exact Or.inr ⟨a1, fun h => by rcases h with h | h; exact u2 h.1; exact a2 h⟩
theorem p_kindOf {x : Int} {M : Mem} (h : 0 ≤ x ∧ x ≤ 255) : ∃ v, fn_X8_kindOf x M = some v ∧ ((v = 3 ∧ isL x) ∨ (v = 2 ∧ ¬ isL x ∧ isD x) ∨ (v = sk x ∧ ¬ isL x ∧ ¬ isD x)) := by
  obtain ⟨u, u1, u2⟩ := p_isL (M := M) (x := x) (by omega)
  unfold fn_X8_kindOf
  rw [u1, cu_s, p_isD (by omega), cu_s, cE_b2, ck_R3 (by omega) (by omega)]
  rcases u2 with ⟨rfl, u2⟩ | ⟨rfl, u2⟩
  · rw [cEq_if (by decide) (by decide) (by decide) (by decide), if_neg (by decide)]
    exact ⟨_, rfl, Or.inl ⟨rfl, u2⟩⟩
  · rw [cEq_if (by decide) (by decide) (by decide) (by decide), if_pos rfl]
    by_cases q : 48 ≤ x ∧ x ≤ 57
    · rw [if_pos q]; exact ⟨_, rfl, Or.inr (Or.inl ⟨rfl, u2, q⟩)⟩
    · rw [if_neg q]
      refine ⟨sk x, ?_, Or.inr (Or.inr ⟨rfl, u2, q⟩)⟩
      unfold sk
      repeat (first | rfl | (split; rfl))
/-- a TOKEN as it stands while the tape is cut -/
def Rt (B : Nat → Int) (len p e : Nat) (k v : Int) : Prop := p < e ∧ e ≤ len ∧
  (((∀ j, p ≤ j → j < e → isL (B j)) ∧ (e < len → ¬ isL (B e)) ∧ k = 3 ∧ v = 0) ∨
   ((∀ j, p ≤ j → j < e → isD (B j)) ∧ (e < len → ¬ isD (B e)) ∧ k = 2 ∧ v = nv (bl B p (e - p)).reverse) ∨
   (¬ isL (B p) ∧ ¬ isD (B p) ∧ ¬ isB (B p) ∧ e = p + 1 ∧ k = sk (B p) ∧ v = 0 ∧ (B p = 60 ∨ B p = 62 → e < len → B e ≠ 61)) ∨
   ((B p = 60 ∨ B p = 62) ∧ e = p + 2 ∧ B (p + 1) = 61 ∧ k = sk (B p) + 1 ∧ v = 0))
/-- one byte more, and it isn't this TOKEN's -/
theorem Rt_on {B : Nat → Int} {j p e : Nat} {k v : Int} (h : Rt B j p e k v) (hn : e = j → ¬ jn (B (j - 1)) (B j)) : Rt B (j + 1) p e k v := by
  obtain ⟨h1, h2, h3⟩ := h
  refine ⟨h1, by omega, ?_⟩
  rcases h3 with ⟨a, b, c⟩ | ⟨a, b, c⟩ | ⟨a, b, c, d, f, g, h⟩ | h3
  · refine Or.inl ⟨a, fun q => ?_, c⟩
    by_cases q2 : e = j
    · intro hl; exact hn q2 (Or.inl ⟨a (j - 1) (by omega) (by omega), by rw [← q2]; exact hl⟩)
    · exact b (by omega)
  · refine Or.inr (Or.inl ⟨a, fun q => ?_, c⟩)
    by_cases q2 : e = j
    · intro hl; exact hn q2 (Or.inr (Or.inl ⟨a (j - 1) (by omega) (by omega), by rw [← q2]; exact hl⟩))
    · exact b (by omega)
  · refine Or.inr (Or.inr (Or.inl ⟨a, b, c, d, f, g, fun q _ hq => ?_⟩))
    by_cases q2 : e = j
    · exact hn q2 (Or.inr (Or.inr ⟨by rw [show j - 1 = p by omega]; exact q, by rw [← q2]; exact hq⟩))
    · exact h q (by omega) hq
  · exact Or.inr (Or.inr (Or.inr h3))
def TS (B : Nat → Int) (j m : Nat) (P E : Nat → Nat) (K V : Nat → Int) : Prop := (∀ i, i < m → Rt B j (P i) (E i) (K i) (V i)) ∧ (∀ i, i < m → (if i = 0 then 0 else E (i - 1)) ≤ P i ∧ ∀ x, (if i = 0 then 0 else E (i - 1)) ≤ x → x < P i → isB (B x)) ∧ ((if m = 0 then 0 else E (m - 1)) ≤ j ∧ ∀ x, (if m = 0 then 0 else E (m - 1)) ≤ x → x < j → isB (B x)) ∧ m ≤ j
def Ar (C : Mem) (m : Nat) (P E : Nat → Nat) (K V : Nat → Int) : Prop := C 37 4 = (m : Int) ∧ ∀ i, i < m → C 38 i = K i ∧ C 39 i = V i ∧ C 40 i = (P i : Int) ∧ C 41 i = ((E i - P i : Nat) : Int)
theorem nv_in : ∀ {l : List Int}, (∀ x, x ∈ l → isD x) → 0 ≤ nv l ∧ nv l ≤ 10000 := by
  intro l
  induction l with
  | nil => intro _; exact ⟨by decide, by decide⟩
  | cons x t ih =>
    intro h
    have h1 := ih (fun y hy => h y (List.mem_cons_of_mem _ hy))
    have h2 := h x List.mem_cons_self
    unfold isD at h2
    show 0 ≤ min (nv t * 10 + x - 48) 10000 ∧ min (nv t * 10 + x - 48) 10000 ≤ 10000
    omega
