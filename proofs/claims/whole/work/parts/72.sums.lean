/-! sums -/
def sm : Nat → (Nat → Int) → Int
  | 0, _ => 0
  | n + 1, f => sm n f + f n
theorem sm_s {n : Nat} {f : Nat → Int} : sm (n + 1) f = sm n f + f n := rfl
theorem sm_ext {n : Nat} {f g : Nat → Int} (h : ∀ i, i < n → f i = g i) : sm n f = sm n g := by
  induction n with
  | zero => rfl
  | succ n ih => rw [sm_s, sm_s, ih (fun i hi => h i (by omega)), h n (by omega)]
theorem sm_le {n : Nat} {f g : Nat → Int} (h : ∀ i, i < n → f i ≤ g i) : sm n f ≤ sm n g := by
  induction n with
  | zero => exact Int.le_refl _
  | succ n ih =>
    have h1 := ih (fun i hi => h i (by omega))
    have h2 := h n (by omega)
    rw [sm_s, sm_s]; omega
theorem sm_z {n : Nat} {f : Nat → Int} (h : ∀ i, i < n → f i = 0) : sm n f = 0 := by
  induction n with
  | zero => rfl
  | succ n ih => rw [sm_s, ih (fun i hi => h i (by omega)), h n (by omega)]; rfl
theorem sm_nn {n : Nat} {f : Nat → Int} (h : ∀ i, i < n → 0 ≤ f i) : 0 ≤ sm n f := by
  induction n with
  | zero => exact Int.le_refl _
  | succ n ih =>
    have h1 := ih (fun i hi => h i (by omega))
    have h2 := h n (by omega)
    rw [sm_s]; omega
theorem sm_lt {n : Nat} {f g : Nat → Int} (h : ∀ i, i < n → f i ≤ g i) : sm n f < sm n g ↔ ∃ i, i < n ∧ f i < g i := by
  induction n with
  | zero => exact ⟨fun q => absurd q (Int.lt_irrefl _), fun ⟨i, hi, _⟩ => absurd hi (Nat.not_lt_zero i)⟩
  | succ n ih =>
    have h1 := ih (fun i hi => h i (by omega))
    have h2 := h n (by omega)
    have h3 := sm_le (n := n) (fun i hi => h i (by omega))
    rw [sm_s, sm_s]
    constructor
    · intro q
      by_cases q2 : f n < g n
      · exact ⟨n, by omega, q2⟩
      · obtain ⟨i, a, b⟩ := h1.mp (by omega)
        exact ⟨i, by omega, b⟩
    · rintro ⟨i, a, b⟩
      by_cases q2 : i = n
      · subst q2; omega
      · have := h1.mpr ⟨i, by omega, b⟩; omega
theorem sm_pos {n : Nat} {f : Nat → Int} (h : ∀ i, i < n → 0 ≤ f i) : 0 < sm n f ↔ ∃ i, i < n ∧ 0 < f i := by
  have h1 := sm_lt (f := fun _ => 0) (g := f) h
  rw [sm_z (fun _ _ => rfl)] at h1; exact h1
theorem sm_add {n : Nat} {f g : Nat → Int} : sm n (fun i => f i + g i) = sm n f + sm n g := by
  induction n with
  | zero => rfl
  | succ n ih => rw [sm_s, sm_s, sm_s, ih]; omega
theorem sm_sub {n : Nat} {f g : Nat → Int} : sm n (fun i => f i - g i) = sm n f - sm n g := by
  induction n with
  | zero => rfl
  | succ n ih => rw [sm_s, sm_s, sm_s, ih]; omega
theorem sm_swap {n m : Nat} {f : Nat → Nat → Int} : sm n (fun i => sm m (fun j => f i j)) = sm m (fun j => sm n (fun i => f i j)) := by
  induction n with
  | zero => exact (sm_z (fun _ _ => rfl)).symm
  | succ n ih =>
    rw [sm_s, ih, ← sm_add]; rfl
theorem sm_bd {n : Nat} {f : Nat → Int} {B : Int} (h : ∀ i, i < n → f i ≤ B) : sm n f ≤ n * B := by
  induction n with
  | zero => simp [sm]
  | succ n ih =>
    have h1 := ih (fun i hi => h i (by omega))
    have h2 := h n (by omega)
    rw [sm_s, Int.natCast_succ, Int.add_mul, Int.one_mul]; omega
theorem sm_app {n m : Nat} {f : Nat → Int} : sm (n + m) f = sm n f + sm m (fun i => f (n + i)) := by
  induction m with
  | zero => simp [sm]
  | succ m ih => rw [← Nat.add_assoc, sm_s, ih, sm_s]; omega
/-! ROWS: how many there are -/
def Wn (n : Nat) (g : Nat → Int) (wo : Int) : Nat → Int → Int → Int
  | 0, _, s => if s = 0 then 1 else 0
  | k + 1, l, s => sm n (fun h => if (h : Int) = l ∨ (h : Int) = wo then 0 else Wn n g wo k h (s - g h))
/-- those that begin with a HAND, one HAND more -/
def Cf (n : Nat) (g : Nat → Int) (wo : Int) (k f : Nat) (s : Int) : Int := if (f : Int) = wo then 0 else Wn n g wo k f (s - g f)
theorem Wn_s {n : Nat} {g : Nat → Int} {wo : Int} {k : Nat} {l s : Int} : Wn n g wo (k + 1) l s = sm n (fun h => if (h : Int) = l then 0 else Cf n g wo k h s) := by
  show sm n _ = _
  refine sm_ext (fun i _ => ?_)
  unfold Cf
  by_cases q : (i : Int) = l
  · rw [if_pos (Or.inl q), if_pos q]
  · by_cases q2 : (i : Int) = wo
    · rw [if_pos (Or.inr q2), if_neg q, if_pos q2]
    · rw [if_neg (by omega), if_neg q, if_neg q2]
theorem Wn_nn {n : Nat} {g : Nat → Int} {wo : Int} : ∀ {k : Nat} {l s : Int}, 0 ≤ Wn n g wo k l s := by
  intro k
  induction k with
  | zero => intro l s; unfold Wn; split <;> decide
  | succ k ih =>
    intro l s
    refine sm_nn (fun i _ => ?_)
    try dsimp only
    split
    · exact Int.le_refl _
    · exact ih
theorem Cf_nn {n : Nat} {g : Nat → Int} {wo : Int} {k f : Nat} {s : Int} : 0 ≤ Cf n g wo k f s := by
  unfold Cf; split
  · exact Int.le_refl _
  · exact Wn_nn
theorem Wn_neg {n : Nat} {g : Nat → Int} {wo : Int} (hg : ∀ h, h < n → 1 ≤ g h) : ∀ {k : Nat} {l s : Int}, s < 0 → Wn n g wo k l s = 0 := by
  intro k
  induction k with
  | zero => intro l s hs; unfold Wn; rw [if_neg (by omega)]
  | succ k ih =>
    intro l s hs
    refine sm_z (fun i hi => ?_)
    try dsimp only
    split
    · rfl
    · have := hg i hi; exact ih (by omega)
theorem Wn_big {n : Nat} {g : Nat → Int} {wo : Int} (hg : ∀ h, h < n → g h ≤ 30) : ∀ {k : Nat} {l s : Int}, 30 * (k : Int) < s → Wn n g wo k l s = 0 := by
  intro k
  induction k with
  | zero => intro l s hs; unfold Wn; rw [if_neg (by omega)]
  | succ k ih =>
    intro l s hs
    refine sm_z (fun i hi => ?_)
    try dsimp only
    split
    · rfl
    · have := hg i hi; exact ih (by omega)
theorem Wn_mono {n : Nat} {g : Nat → Int} {wo : Int} : ∀ {k : Nat} {l s : Int}, Wn n g wo k l s ≤ Wn n g (-1) k l s := by
  intro k
  induction k with
  | zero => intro l s; exact Int.le_refl _
  | succ k ih =>
    intro l s
    refine sm_le (fun i hi => ?_)
    try dsimp only
    by_cases q : (i : Int) = l
    · rw [if_pos (Or.inl q), if_pos (Or.inl q)]; exact Int.le_refl _
    · rw [if_neg (show ¬ ((i : Int) = l ∨ (i : Int) = -1) by omega)]
      split
      · exact Wn_nn
      · exact ih
theorem Cf_mono {n : Nat} {g : Nat → Int} {wo : Int} {k f : Nat} {s : Int} : Cf n g wo k f s ≤ Cf n g (-1) k f s := by
  unfold Cf
  rw [if_neg (show ¬ (f : Int) = -1 by omega)]
  split
  · exact Wn_nn
  · exact Wn_mono
theorem Wn_out {n : Nat} {g : Nat → Int} {wo : Int} (hw : (n : Int) ≤ wo) : ∀ {k : Nat} {l s : Int}, Wn n g wo k l s = Wn n g (-1) k l s := by
  intro k
  induction k with
  | zero => intro l s; rfl
  | succ k ih =>
    intro l s
    refine sm_ext (fun i hi => ?_)
    try dsimp only
    by_cases q : (i : Int) = l
    · rw [if_pos (Or.inl q), if_pos (Or.inl q)]
    · rw [if_neg (by omega), if_neg (by omega), ih]
theorem Wn_ext {n : Nat} {g g' : Nat → Int} {wo : Int} (hg : ∀ h, h < n → g h = g' h) : ∀ {k : Nat} {l s : Int}, Wn n g wo k l s = Wn n g' wo k l s := by
  intro k
  induction k with
  | zero => intro l s; rfl
  | succ k ih =>
    intro l s
    refine sm_ext (fun i hi => ?_)
    try dsimp only
    rw [ih, hg i hi]
theorem sm_one {m : Nat} {a : Int} : sm m (fun i => if a + (i : Int) = 0 then 1 else 0) ≤ 1 ∧ ((m : Int) ≤ -a → sm m (fun i => if a + (i : Int) = 0 then 1 else 0) = 0) := by
  induction m with
  | zero => exact ⟨show (0 : Int) ≤ 1 by decide, fun _ => rfl⟩
  | succ m ih =>
    rw [sm_s]
    by_cases q : a + (m : Int) = 0
    · rw [if_pos q, ih.2 (by omega)]; exact ⟨by decide, fun h => by omega⟩
    · rw [if_neg q]; exact ⟨by have := ih.1; omega, fun h => by have := ih.2 (by omega); omega⟩
theorem Wn_win {n : Nat} {g : Nat → Int} {wo : Int} (hn : n ≤ 10) : ∀ {k m : Nat} {l a : Int}, sm m (fun i => Wn n g wo k l (a + (i : Int))) ≤ 10 ^ k := by
  intro k
  induction k with
  | zero => intro m l a; exact sm_one.1
  | succ k ih =>
    intro m l a
    have e : sm m (fun i => Wn n g wo (k + 1) l (a + (i : Int))) = sm n (fun h => sm m (fun i => if (h : Int) = l ∨ (h : Int) = wo then 0 else Wn n g wo k h (a + (i : Int) - g h))) := by
      rw [← sm_swap]; rfl
    rw [e]
    have h1 : sm n (fun h => sm m (fun i => if (h : Int) = l ∨ (h : Int) = wo then 0 else Wn n g wo k h (a + (i : Int) - g h))) ≤ n * 10 ^ k := by
      refine sm_bd (fun h _ => ?_)
      by_cases q : (h : Int) = l ∨ (h : Int) = wo
      · simp only [if_pos q]; rw [sm_z (fun _ _ => rfl)]; exact Int.pow_nonneg (by decide)
      · simp only [if_neg q]
        refine Int.le_trans (Int.le_of_eq ?_) (ih (m := m) (l := h) (a := a - g h))
        exact sm_ext (fun i _ => by rw [show a + (i : Int) - g h = a - g h + (i : Int) by omega])
    have h2 : (n : Int) * 10 ^ k ≤ 10 * 10 ^ k := Int.mul_le_mul_of_nonneg_right (by omega) (Int.pow_nonneg (by decide))
    rw [Int.pow_succ]; omega
/-- of k HANDS, for a gain, from one who begins -/
def Ro (n : Nat) (g : Nat → Int) (wo : Int) (e k : Nat) (l x : Int) : Int := sm (2 * e + 1) (fun i => Wn n g wo k l (x - e + (i : Int)))
def Ra (n : Nat) (g : Nat → Int) (wo : Int) (e lo m : Nat) (l x : Int) : Int := sm m (fun i => Ro n g wo e (lo + i) l x)
theorem Ro_nn {n : Nat} {g : Nat → Int} {wo : Int} {e k : Nat} {l x : Int} : 0 ≤ Ro n g wo e k l x := sm_nn (fun _ _ => Wn_nn)
theorem Ra_nn {n : Nat} {g : Nat → Int} {wo : Int} {e lo m : Nat} {l x : Int} : 0 ≤ Ra n g wo e lo m l x := sm_nn (fun _ _ => Ro_nn)
theorem Ro_bd {n : Nat} {g : Nat → Int} {wo : Int} {e k : Nat} {l x : Int} (hn : n ≤ 10) : Ro n g wo e k l x ≤ 10 ^ k := Wn_win hn
theorem Ro_bd2 {n : Nat} {g : Nat → Int} {wo : Int} {e k : Nat} {l x : Int} (hn : n ≤ 10) (hk : k ≤ 12) : Ro n g wo e k l x ≤ 1000000000000 := by
  refine Int.le_trans (Ro_bd hn) ?_
  have : k = 0 ∨ k = 1 ∨ k = 2 ∨ k = 3 ∨ k = 4 ∨ k = 5 ∨ k = 6 ∨ k = 7 ∨ k = 8 ∨ k = 9 ∨ k = 10 ∨ k = 11 ∨ k = 12 := by omega
  rcases this with rfl | rfl | rfl | rfl | rfl | rfl | rfl | rfl | rfl | rfl | rfl | rfl | rfl <;> decide
theorem Ro_bd4 {n : Nat} {g : Nat → Int} {wo : Int} {e k : Nat} {l x : Int} (hn : n ≤ 10) (hk : k ≤ 4) : Ro n g wo e k l x ≤ 10000 := by
  refine Int.le_trans (Ro_bd hn) ?_
  have : k = 0 ∨ k = 1 ∨ k = 2 ∨ k = 3 ∨ k = 4 := by omega
  rcases this with rfl | rfl | rfl | rfl | rfl <;> decide
theorem Ro_mono {n : Nat} {g : Nat → Int} {wo : Int} {e k : Nat} {l x : Int} : Ro n g wo e k l x ≤ Ro n g (-1) e k l x := sm_le (fun _ _ => Wn_mono)
theorem Ra_mono {n : Nat} {g : Nat → Int} {wo : Int} {e lo m : Nat} {l x : Int} : Ra n g wo e lo m l x ≤ Ra n g (-1) e lo m l x := sm_le (fun _ _ => Ro_mono)
/-- by the first HAND -/
theorem Ro_s {n : Nat} {g : Nat → Int} {wo : Int} {e k : Nat} {l x : Int} : Ro n g wo e (k + 1) l x = sm n (fun f => if (f : Int) = l then 0 else sm (2 * e + 1) (fun i => Cf n g wo k f (x - e + (i : Int)))) := by
  unfold Ro
  rw [show sm (2 * e + 1) (fun i => Wn n g wo (k + 1) l (x - e + (i : Int))) = sm (2 * e + 1) (fun i => sm n (fun f => if (f : Int) = l then 0 else Cf n g wo k f (x - e + (i : Int)))) from sm_ext (fun i _ => Wn_s), sm_swap]
  refine sm_ext (fun f _ => ?_)
  by_cases q : (f : Int) = l
  · simp only [if_pos q]; exact sm_z (fun _ _ => rfl)
  · simp only [if_neg q]
theorem Cf_sum {n : Nat} {g : Nat → Int} {wo : Int} {e k f : Nat} {x : Int} : sm (2 * e + 1) (fun i => Cf n g wo k f (x - e + (i : Int))) = if (f : Int) = wo then 0 else Ro n g wo e k f (x - g f) := by
  by_cases q : (f : Int) = wo
  · rw [if_pos q]; exact sm_z (fun i _ => by unfold Cf; rw [if_pos q])
  · rw [if_neg q]; unfold Ro
    refine sm_ext (fun i _ => ?_)
    unfold Cf; rw [if_neg q, show x - (e : Int) + (i : Int) - g f = x - g f - e + (i : Int) by omega]
