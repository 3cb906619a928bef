/-! bits -/
def tb (x : Int) (i : Nat) : Bool := (Int32.ofInt x).toBitVec.getLsbD i
theorem tb_and {x y : Int} {i : Nat} : tb (andI x y) i = (tb x i && tb y i) := by
  unfold tb andI; rw [i3_to, Int32.toBitVec_and, BitVec.getLsbD_and]
theorem tb_or {x y : Int} {i : Nat} : tb (orI x y) i = (tb x i || tb y i) := by
  unfold tb orI; rw [i3_to, Int32.toBitVec_or, BitVec.getLsbD_or]
theorem tb_not {x : Int} {i : Nat} (hi : i < 32) : tb (xorI x (-1)) i = !tb x i := by
  unfold tb xorI
  rw [i3_to, Int32.toBitVec_xor, BitVec.getLsbD_xor, show (Int32.ofInt (-1)).toBitVec = BitVec.allOnes 32 from by decide, BitVec.getLsbD_allOnes, decide_eq_true hi, Bool.xor_true]
theorem tb_shl : ∀ h : Nat, h < 20 → ∀ i : Nat, i < 32 → tb (shlI 1 (h : Int)) i = decide (i = h) := by decide +kernel
theorem tb_0 {i : Nat} : tb 0 i = false := by
  unfold tb; rw [show (Int32.ofInt 0).toBitVec = 0#32 from by decide, BitVec.getLsbD_zero]
theorem tb_1023 : ∀ i, i < 32 → tb 1023 i = decide (i < 10) := by decide +kernel
theorem tb_shr {x : Int} {i : Nat} (hi : i < 22) : tb (shrI x 10) i = tb x (10 + i) := by
  unfold tb shrI
  rw [i3_to, Int32.toBitVec_shiftRight, show (Int32.ofInt 10 &&& 31).toBitVec.smod 32 = BitVec.ofNat 32 10 from by decide, BitVec.sshiftRight_eq', BitVec.getLsbD_sshiftRight]
  rw [show (BitVec.ofNat 32 10).toNat = 10 from rfl, if_pos (by omega), decide_eq_false (by omega)]
  rfl
theorem tb_ext {x y : Int} (hx : R3 x) (hy : R3 y) (h : ∀ i, i < 32 → tb x i = tb y i) : x = y := by
  refine (r3_inj hx hy).mp ?_
  refine Int32.toBitVec_inj.mp ?_
  exact BitVec.eq_of_getLsbD_eq (fun i hi => h i hi)
theorem andI_R {x y : Int} : R3 (andI x y) := x_R3 _
theorem orI_R {x y : Int} : R3 (orI x y) := x_R3 _
/-! where a table's cells lie -/
def sta (k : Nat) : Nat := 10 * (k - 1) * (15 * k + 1)
def ce (k f s : Nat) : Nat := sta k + f * (30 * k + 1) + s
theorem sta_s : ∀ k, k < 13 → 1 ≤ k → sta (k + 1) = sta k + 10 * (30 * k + 1) := by decide
theorem sta_m : ∀ k, k < 14 → ∀ k', k' < 14 → k ≤ k' → sta k ≤ sta k' := by decide
theorem ce_in {k f s : Nat} (h0 : 1 ≤ k) (h1 : k < 13) (hf : f < 10) (hs : s ≤ 30 * k) : sta k ≤ ce k f s ∧ ce k f s < sta (k + 1) := by
  have h2 := sta_s k h1 h0
  have h3 : f * (30 * k + 1) ≤ 9 * (30 * k + 1) := Nat.mul_le_mul_right _ (by omega)
  unfold ce
  generalize f * (30 * k + 1) = z at *
  omega
theorem ce_ne {k f s f' s' : Nat} (hs : s ≤ 30 * k) (hs' : s' ≤ 30 * k) (h : ce k f s = ce k f' s') : f = f' ∧ s = s' := by
  unfold ce at h
  have key : ∀ a b : Nat, a < b → (a + 1) * (30 * k + 1) ≤ b * (30 * k + 1) := fun a b hab => Nat.mul_le_mul_right _ hab
  rcases Nat.lt_trichotomy f f' with q | q | q
  · have := key f f' q; rw [Nat.add_mul, Nat.one_mul] at this; omega
  · subst q; exact ⟨rfl, by omega⟩
  · have := key f' f q; rw [Nat.add_mul, Nat.one_mul] at this; omega
theorem ce_lv {k k' f s f' s' : Nat} (h0 : 1 ≤ k) (hk : k < k') (hk' : k' < 13) (hf : f < 10) (hf' : f' < 10) (hs : s ≤ 30 * k) (hs' : s' ≤ 30 * k') : ce k f s < ce k' f' s' := by
  have h1 := ce_in h0 (by omega) hf hs
  have h2 := ce_in (by omega) hk' hf' hs'
  have h3 := sta_m (k + 1) (by omega) k' (by omega) (by omega)
  omega
theorem p_cell {t L : Nat} {M : Mem} {k f : Nat} {s : Int} (hL : M t 0 = (L : Int)) (hL2 : L ≤ 12) (hk : k ≤ 13) (hf : f < 10) (hs : -10000000 ≤ s ∧ s ≤ 10000000) : fn_X2_cell t k f s M = some (if 1 ≤ k ∧ k ≤ L ∧ 0 ≤ s ∧ s ≤ 30 * (k : Int) then ((ce k f s.toNat : Nat) : Int) else -1) := by
  unfold fn_X2_cell
  rw [nm_eq, cLt_if (by omega) (by omega) (by decide) (by decide), hL, cLt_if (by omega) (by omega) (by omega) (by omega), cLt_if (by omega) (by omega) (by decide) (by decide), cLt_if (by omega) (by omega) (by decide) (by decide), cLt_if (by omega) (by omega) (by decide) (by decide), cLt_if (by omega) (by omega) (by omega) (by omega)]
  by_cases q1 : (k : Int) < 1
  · rw [if_pos q1, if_neg (by omega)]
  by_cases q2 : (L : Int) < k
  · rw [if_neg q1, if_pos q2, if_neg (by omega)]
  by_cases q3 : s < 0
  · rw [if_neg q1, if_neg q2, if_neg (by omega), if_pos (by omega), if_pos q3, if_neg (by omega)]
  by_cases q4 : 30 * (k : Int) < s
  · rw [if_neg q1, if_neg q2, if_neg (by omega), if_pos (by omega), if_neg q3, if_pos q4, if_neg (by omega)]
  rw [if_neg q1, if_neg q2, if_neg (by omega), if_pos (by omega), if_neg q3, if_neg q4, if_pos (by omega)]
  unfold fn_X2_start
  rw [cu_s]
  obtain ⟨j, rfl⟩ : ∃ j, k = j + 1 := ⟨k - 1, by omega⟩
  obtain ⟨u, hu⟩ := Int.eq_ofNat_of_zero_le (show 0 ≤ s by omega)
  have e1 : ((ce (j + 1) f s.toNat : Nat) : Int) = 10 * (j : Int) * (15 * ((j + 1 : Nat) : Int) + 1) + (f : Int) * (30 * ((j + 1 : Nat) : Int) + 1) + s := by
    unfold ce sta
    rw [show s.toNat = u by omega, hu, Nat.add_sub_cancel]
    simp only [Int.natCast_add, Int.natCast_mul, Int.natCast_one, Int.cast_ofNat_Int]
  rw [e1, show (((j + 1 : Nat) : Int) - 1) = (j : Int) by omega]
/-! the marks of ROWS -/
def mb (n : Nat) (g : Nat → Int) (k f : Nat) (s : Int) (i : Nat) : Bool := if i < 10 then decide (0 < Cf n g (i : Int) k f s) else if i < 20 then decide (Cf n g ((i - 10 : Nat) : Int) k f s < Cf n g (-1) k f s) else false
theorem mb_0 {n : Nat} {g : Nat → Int} {k f : Nat} {s : Int} {i : Nat} (h : Cf n g (-1) k f s = 0) : mb n g k f s i = false := by
  unfold mb
  split
  · exact decide_eq_false (by have := Cf_mono (n := n) (g := g) (wo := (i : Int)) (k := k) (f := f) (s := s); omega)
  · split
    · exact decide_eq_false (by have := Cf_nn (n := n) (g := g) (wo := ((i - 10 : Nat) : Int)) (k := k) (f := f) (s := s); omega)
    · rfl
/-- one HAND more ahead -/
theorem Cf_s {n : Nat} {g : Nat → Int} {wo : Int} {k f : Nat} {r : Int} (h : (f : Int) ≠ wo) : Cf n g wo (k + 1) f (r + g f) = sm n (fun x => if (x : Int) = (f : Int) then 0 else Cf n g wo k x r) := by
  unfold Cf
  rw [if_neg h, show r + g f - g f = r by omega, Wn_s]
  rfl
theorem mb_s {n : Nat} {g : Nat → Int} {k f : Nat} {r : Int} {i : Nat} (hf : f < n) (hf10 : f < 10) (hi : i < 32) (hp : 0 < Cf n g (-1) (k + 1) f (r + g f)) : mb n g (k + 1) f (r + g f) i = true ↔ ((∃ x, x < n ∧ x ≠ f ∧ mb n g k x r i = true) ∧ i ≠ f) ∨ i = f + 10 := by
  have e0 : Cf n g (-1) (k + 1) f (r + g f) = sm n (fun x => if (x : Int) = (f : Int) then 0 else Cf n g (-1) k x r) := Cf_s (by omega)
  unfold mb
  by_cases q : i < 10
  · simp only [if_pos q, decide_eq_true_eq]
    by_cases q2 : i = f
    · have : Cf n g (i : Int) (k + 1) f (r + g f) = 0 := by unfold Cf; rw [if_pos (by omega)]
      rw [this]
      constructor
      · intro h; omega
      · intro h; omega
    · rw [Cf_s (by omega), sm_pos (fun x _ => by split; exact Int.le_refl _; exact Cf_nn)]
      constructor
      · rintro ⟨x, hx, h⟩
        by_cases q3 : (x : Int) = (f : Int)
        · rw [if_pos q3] at h; omega
        · rw [if_neg q3] at h; exact Or.inl ⟨⟨x, hx, by omega, h⟩, q2⟩
      · rintro (⟨⟨x, hx, h1, h2⟩, -⟩ | h)
        · exact ⟨x, hx, by rw [if_neg (by omega)]; exact h2⟩
        · omega
  · simp only [if_neg q]
    by_cases q1 : i < 20
    · simp only [if_pos q1, decide_eq_true_eq]
      by_cases q2 : i = f + 10
      · have : Cf n g ((i - 10 : Nat) : Int) (k + 1) f (r + g f) = 0 := by unfold Cf; rw [if_pos (by omega)]
        rw [this]
        exact ⟨fun _ => Or.inr q2, fun _ => hp⟩
      · rw [e0, Cf_s (by omega), sm_lt (fun x _ => by split; exact Int.le_refl _; exact Cf_mono)]
        constructor
        · rintro ⟨x, hx, h⟩
          by_cases q3 : (x : Int) = (f : Int)
          · rw [if_pos q3, if_pos q3] at h; omega
          · rw [if_neg q3, if_neg q3] at h; exact Or.inl ⟨⟨x, hx, by omega, h⟩, by omega⟩
        · rintro (⟨⟨x, hx, h1, h2⟩, -⟩ | h)
          · exact ⟨x, hx, by rw [if_neg (by omega), if_neg (by omega)]; exact h2⟩
          · omega
    · simp only [if_neg q1]
      constructor
      · intro h; cases h
      · rintro (⟨⟨x, hx, h1, h2⟩, -⟩ | h)
        · cases h2
        · omega
theorem sm_but {n : Nat} {F : Nat → Int} {f : Nat} (hf : f < n) : sm n F - F f = sm n (fun x => if (x : Int) = (f : Int) then 0 else F x) := by
  induction n with
  | zero => omega
  | succ n ih =>
    rw [sm_s, sm_s]
    by_cases q : f = n
    · subst q
      have e := sm_ext (n := f) (f := fun x => if (x : Int) = (f : Int) then 0 else F x) (g := F) (fun i hi => if_neg (by omega))
      rw [if_pos rfl, e]; omega
    · have := ih (by omega)
      rw [if_neg (by omega)]; omega
