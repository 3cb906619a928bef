def TL : List Nat := [10, 4, 12, 12, 12, 12, 12, 12, 5, 12, 12, 12, 12, 12, 12, 4, 12, 12, 12, 12, 12, 12, 5, 12, 12, 12, 12, 12, 12, 6, 12, 1, 7, 12, 12, 12, 12, 8, 12, 12, 12, 12, 16, 7, 12, 12, 12, 12, 7, 12, 12, 12, 12, 7, 12, 12, 12, 12, 7, 12, 12, 12, 12, 3, 12, 9, 12, 12, 12, 12, 0, 11, 12, 12, 13, 12, 12, 12, 12, 12, 12, 12, 12, 12, 12, 12, 12, 12, 12, 12, 12, 12, 12, 15, 15, 15, 15, 12, 12, 14, 12, 12, 2, 12, 15, 12, 2, 12, 15, 12]
def LLn : List Nat := [0, 0, 10, 20, 20, 20, 20, 20, 0, 40, 40, 40, 40, 4, 4, 0, 10, 20, 20, 20, 20, 20, 0, 40, 40, 40, 40, 4, 4, 0, 300, 0, 0, 300, 20, 20, 20, 0, 300, 300, 300, 300, 4, 0, 300, 20, 20, 20, 0, 300, 20, 20, 20, 0, 300, 20, 20, 20, 0, 300, 20, 20, 20, 0, 32, 0, 6, 21, 126, 132, 0, 0, 288, 288, 300, 4, 80, 80, 80, 80, 1600, 1600, 40, 41, 80, 80, 20, 20, 20, 20, 400, 400, 7, 200, 51623, 4, 4, 5, 6, 181, 6006, 6006, 0, 10, 23520, 23520, 0, 10, 3040, 3040]
def TMs : List (List Nat) := [[0], [2, 7, 0, 0, 0], [0, 3, 4, 2, 0, 0, 0], [2, 0], [2, 0, 3, 4, 5, 6, 7, 0, 0, 0, 0, 0, 0, 8, 13, 14, 0], [2, 3, 4, 5, 0, 0], [2, 0], [2, 0, 0, 0, 0, 0, 3, 4, 5, 0], [2, 3, 4, 5, 0, 0, 0, 0, 0, 0], [2, 3, 0, 4, 5], [2, 16, 30, 32, 43, 64, 66, 71, 103, 107], [2, 3, 4, 0, 0, 0, 5, 6, 7, 8, 9, 10, 11, 0, 0, 0, 0, 0, 0, 0, 0, 0, 12, 13, 0, 14, 15, 0, 0, 0, 16, 17, 18, 19, 0, 20, 21, 22, 23, 24, 25, 26, 27, 28, 29, 30, 31, 0]]
def tl (k : Nat) : Nat := TL.getD k 99
def ln (k : Nat) : Nat := LLn.getD k 0
def tm (c : Nat) : List Nat := TMs.getD c []
/-- the place of a run: the classes, the arrays' classes, the first own cell, the heap below it, the Strings' cells and rows, the row of chosen grains -/
abbrev EE : Type := va_G × (Nat → ClassId) × Nat × Heap × (Nat → Nat) × (Nat → Nat) × Nat
def eD (E : EE) : va_G := E.1
def eC (E : EE) (i : Nat) : ClassId := E.2.1 i
def eb (E : EE) : Nat := E.2.2.1
def eH (E : EE) : Heap := E.2.2.2.1
def eK (E : EE) (i : Nat) : Nat := E.2.2.2.2.1 i
def eV (E : EE) (i : Nat) : Nat := E.2.2.2.2.2.1 i
def eG (E : EE) : Nat := E.2.2.2.2.2.2
def fr (E : EE) : Nat → Prop := fun q => eb E ≤ q
abbrev Zs : Type := Nat → Nat → Bool
def fv (b : Nat) (z : Zs) (M : Mem) (k i t : Nat) : Value := match t with
  | 0 => i3 (M k i)
  | off + 1 => if z k i then .ref (b + (k + off)) else .null
def ent (E : EE) (z : Zs) (M : Mem) (k : Nat) : va_E :=
  if tl k < 12 then .inr (tl k, (tm (tl k)).mapIdx (fun i t => fv (eb E) z M k i t))
  else if tl k = 15 then .inl (eC E 3, ln k, .inr (.inl (fun i => Int64.ofInt (M k i))))
  else if tl k = 16 then .inl (eC E 4, ln k, .inr (.inr (.inr (.inr (fun i => if z k i then some (eb E + (k + (1 + 5 * i))) else none)))))
  else .inl (eC E (tl k - 12), ln k, .inl (fun i => Int32.ofInt (M k i)))
def wl (E : EE) (n : Nat) (z : Zs) (M : Mem) : va_W := (List.range n).map (fun k => (eb E + k, ent E z M k))
theorem wl_get {E : EE} {n : Nat} {z : Zs} {M : Mem} {k : Nat} (h : k < n) : (wl E n z M)[k]? = some (eb E + k, ent E z M k) := by
  simp [wl, List.getElem?_map, List.getElem?_range h]
theorem wl_len {E : EE} {n : Nat} {z : Zs} {M : Mem} : (wl E n z M).length = n := by simp [wl]
theorem wl_of {E : EE} {n : Nat} {z : Zs} {M : Mem} {k : Nat} {q : Nat × va_E} (h : (wl E n z M)[k]? = some q) : k < n ∧ q = (eb E + k, ent E z M k) := by
  have hk : k < n := by have := (List.getElem?_eq_some_iff.mp h).1; rwa [wl_len] at this
  rw [wl_get hk] at h; exact ⟨hk, (Option.some.inj h).symm⟩
theorem wl_D (E : EE) (n : Nat) (z : Zs) (M : Mem) : va_D (fr E) (wl E n z M) := by
  refine ⟨fun i j p q hp hq e => ?_, fun k q h => ?_⟩
  · obtain ⟨-, rfl⟩ := wl_of hp; obtain ⟨-, rfl⟩ := wl_of hq
    have e : eb E + i = eb E + j := e
    omega
  · obtain ⟨-, rfl⟩ := wl_of h; exact Nat.le_add_right _ _
theorem wl_set {E : EE} {n : Nat} {z z' : Zs} {M M' : Mem} {k : Nat} {x : va_E} (he : ent E z' M' k = x) (ho : ∀ j, j ≠ k → ent E z' M' j = ent E z M j) : (wl E n z M).set k (eb E + k, x) = wl E n z' M' := by
  apply List.ext_getElem?
  intro j
  rw [List.getElem?_set]
  by_cases hj : j < n
  · rw [wl_get hj]
    by_cases hk : k = j
    · subst hk; rw [if_pos rfl, if_pos (by rw [wl_len]; exact hj), wl_get hj, he]
    · rw [if_neg hk, wl_get hj, ho j (Ne.symm hk)]
  · have h1 : (wl E n z' M')[j]? = none := List.getElem?_eq_none (by rw [wl_len]; omega)
    have h2 : (wl E n z M)[j]? = none := List.getElem?_eq_none (by rw [wl_len]; omega)
    by_cases hk : k = j
    · subst hk; rw [if_pos rfl, if_neg (by rw [wl_len]; exact hj), h1]
    · rw [if_neg hk, h1, h2]
/-- an entry hangs on its own cell's numbers alone -/
theorem ent_cong {E : EE} {z z' : Zs} {M M' : Mem} {k : Nat} (hM : ∀ i, M' k i = M k i) (hz : ∀ i, z' k i = z k i) : ent E z' M' k = ent E z M k := by
  have e1 : ∀ i t, fv (eb E) z' M' k i t = fv (eb E) z M k i t := by
    intro i t; cases t <;> simp [fv, hM, hz]
  unfold ent
  simp only [e1, hM, hz]
theorem up_ne {M : Mem} {k i j : Nat} {v : Int} (h : j ≠ k) (b : Nat) : up M k i v j b = M j b := by simp [up, h]
theorem up_eq {M : Mem} {k i : Nat} {v : Int} : up M k i v k i = v := by simp [up]
theorem up_ni {M : Mem} {k i b : Nat} {v : Int} (h : b ≠ i) : up M k i v k b = M k b := by simp [up, h]
theorem ent_obj {E : EE} {z : Zs} {M : Mem} {k c : Nat} (h : tl k = c) (hc : c < 12) : ent E z M k = .inr (c, (tm c).mapIdx (fun i t => fv (eb E) z M k i t)) := by
  unfold ent; rw [if_pos (by omega), h]
theorem ent_arr {E : EE} {z : Zs} {M : Mem} {k c : Nat} (h : tl k = c) (hc : 12 ≤ c) (h2 : c < 15) : ent E z M k = .inl (eC E (c - 12), ln k, .inl (fun i => Int32.ofInt (M k i))) := by
  unfold ent; rw [if_neg (by omega), if_neg (by omega), if_neg (by omega), h]
theorem ent_lng {E : EE} {z : Zs} {M : Mem} {k : Nat} (h : tl k = 15) : ent E z M k = .inl (eC E 3, ln k, .inr (.inl (fun i => Int64.ofInt (M k i)))) := by
  unfold ent; rw [if_neg (by omega), if_pos h]
theorem ent_txt {E : EE} {z : Zs} {M : Mem} {k : Nat} (h : tl k = 16) : ent E z M k = .inl (eC E 4, ln k, .inr (.inr (.inr (.inr (fun i => if z k i then some (eb E + (k + (1 + 5 * i))) else none))))) := by
  unfold ent; rw [if_neg (by omega), if_neg (by omega), if_pos h]
theorem fs_get {E : EE} {z : Zs} {M : Mem} {k c i t : Nat} (h : (tm c)[i]? = some t) : ((tm c).mapIdx (fun i t => fv (eb E) z M k i t))[i]? = some (fv (eb E) z M k i t) := by
  rw [List.getElem?_mapIdx, h]; rfl
theorem fs_len {E : EE} {z : Zs} {M : Mem} {k c : Nat} : ((tm c).mapIdx (fun i t => fv (eb E) z M k i t)).length = (tm c).length := by simp
theorem fs_set {E : EE} {z z' : Zs} {M M' : Mem} {k c i : Nat} {v : Value} (he : ∀ t, (tm c)[i]? = some t → fv (eb E) z' M' k i t = v) (ho : ∀ j t, j ≠ i → fv (eb E) z' M' k j t = fv (eb E) z M k j t) : ((tm c).mapIdx (fun i t => fv (eb E) z M k i t)).set i v = (tm c).mapIdx (fun i t => fv (eb E) z' M' k i t) := by
  apply List.ext_getElem?
  intro j
  rw [List.getElem?_set, List.getElem?_mapIdx, List.getElem?_mapIdx]
  by_cases hj : i = j
  · subst hj
    rw [if_pos rfl]
    cases h : (tm c)[i]? with
    | none => rw [if_neg (by rw [fs_len]; exact Nat.not_lt.mpr (List.getElem?_eq_none_iff.mp h))]; rfl
    | some t => rw [if_pos (by rw [fs_len]; exact (List.getElem?_eq_some_iff.mp h).1)]; simp [he t h]
  · rw [if_neg hj]
    cases h : (tm c)[j]? with
    | none => rfl
    | some t => simp [ho j t (Ne.symm hj)]
/-- the class of a kind: its row, its words, its fields' types and names -/
theorem clOK : ∀ c, c < 12 → ∃ (C : String) (T : u_T) (N : Nat) (ty : Nat → FieldType), vwCl[c]? = some (C, T, N) ∧ (∀ w ∈ u_ws C T N, w ∈ lw_tbl) ∧ (tm c).length = N ∧ (∀ k, k < N → parseFieldDescriptor (T k).2.2.1 = some (ty k)) ∧ (∀ a, a < N → ∀ b, b < N → a ≠ b → (T a).2.1 ≠ (T b).2.1) := by
  intro c hc
  match c, hc with
  | 0, _ => exact ⟨_, _, _, tyX0, rfl, inX0, rfl, tyX0_ok, nmX0⟩
  | 1, _ => exact ⟨_, _, _, tyX1, rfl, inX1, rfl, tyX1_ok, nmX1⟩
  | 2, _ => exact ⟨_, _, _, tyX2, rfl, inX2, rfl, tyX2_ok, nmX2⟩
  | 3, _ => exact ⟨_, _, _, tyX3, rfl, inX3, rfl, tyX3_ok, nmX3⟩
  | 4, _ => exact ⟨_, _, _, tyX4, rfl, inX4, rfl, tyX4_ok, nmX4⟩
  | 5, _ => exact ⟨_, _, _, tyX5, rfl, inX5, rfl, tyX5_ok, nmX5⟩
  | 6, _ => exact ⟨_, _, _, tyX6, rfl, inX6, rfl, tyX6_ok, nmX6⟩
  | 7, _ => exact ⟨_, _, _, tyX7, rfl, inX7, rfl, tyX7_ok, nmX7⟩
  | 8, _ => exact ⟨_, _, _, tyX8, rfl, inX8, rfl, tyX8_ok, nmX8⟩
  | 9, _ => exact ⟨_, _, _, tyX9, rfl, inX9, rfl, tyX9_ok, nmX9⟩
  | 10, _ => exact ⟨_, _, _, tyX10, rfl, inX10, rfl, tyX10_ok, nmX10⟩
  | 11, _ => exact ⟨_, _, _, tyX11, rfl, inX11, rfl, tyX11_ok, nmX11⟩
def cCl (c : Nat) : vw_C := vwCl.getD c ("", fun _ => ("", "", "", false), 0)
/-- a field's link in a class's pool: the i-th field of the class of kind c -/
def FL (own : String) (idx c i : Nat) : Prop := Cond.fieldLink own idx (cCl c).1 ((cCl c).2.1 i).2.1 ((cCl c).2.1 i).2.2.1 ∈ tblG ∧ ((cCl c).2.1 i).1 = (cCl c).1
/-- which fields of a kind may be written outside of its making, and are ints or booleans -/
def FW (c i : Nat) (ty : FieldType) : Prop := ((cCl c).2.1 i).2.2.2 = false ∧ parseFieldDescriptor ((cCl c).2.1 i).2.2.1 = some ty
theorem cCl_of {c : Nat} {q : vw_C} (h : vwCl[c]? = some q) : cCl c = q := by unfold cCl; rw [List.getD_eq_getElem?_getD, h]; rfl
