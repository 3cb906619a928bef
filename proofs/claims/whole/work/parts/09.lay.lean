def FTs : List (List Nat) := [[99], [7, 8, 99, 99, 99], [99, 15, 12, 12, 99, 99, 99], [12, 99], [12, 99, 12, 12, 12, 12, 12, 99, 99, 99, 99, 99, 99, 5, 12, 12, 99], [12, 12, 12, 12, 99, 99], [12, 99], [12, 99, 99, 99, 99, 99, 12, 12, 12, 99], [12, 12, 12, 12, 99, 99, 99, 99, 99, 99], [12, 12, 99, 12, 12], [4, 4, 6, 1, 16, 3, 9, 0, 2, 2], [12, 12, 13, 99, 99, 99, 12, 12, 12, 12, 12, 12, 12, 99, 99, 99, 99, 99, 99, 99, 99, 99, 12, 12, 99, 12, 12, 99, 99, 99, 12, 12, 12, 12, 99, 12, 12, 12, 15, 15, 15, 15, 12, 12, 14, 12, 12, 99]]
def FLs : List (List Nat) := [[0], [0, 0, 0, 0, 0], [0, 0, 0, 10, 0, 0, 0], [32, 0], [10, 0, 20, 20, 20, 20, 20, 0, 0, 0, 0, 0, 0, 0, 4, 4, 0], [40, 40, 40, 40, 0, 0], [300, 0], [300, 0, 0, 0, 0, 0, 20, 20, 20, 0], [300, 300, 300, 300, 0, 0, 0, 0, 0, 0], [6, 21, 0, 126, 132], [0, 0, 0, 0, 4, 0, 0, 0, 0, 0], [288, 288, 300, 0, 0, 0, 4, 80, 80, 80, 80, 1600, 1600, 0, 0, 0, 0, 0, 0, 0, 0, 0, 40, 41, 0, 80, 80, 0, 0, 0, 20, 20, 20, 20, 0, 400, 400, 7, 200, 51623, 4, 4, 5, 6, 181, 6006, 6006, 0]]
def ft (c i : Nat) : Nat := (FTs.getD c []).getD i 99
def fl (c i : Nat) : Nat := (FLs.getD c []).getD i 0
def ob (n t c : Nat) : Prop := tl t = c ∧ t < n
def zf (n : Nat) : Zs := fun k i => if k = 0 ∧ i = 8 then decide (102 < n) else if k = 0 ∧ i = 9 then decide (106 < n) else if k = 42 then decide (i < 4) else true
def layB (n : Nat) : Bool := (List.range n).all fun t => (List.range (tm (tl t)).length).all fun i => match (tm (tl t))[i]? with
  | some (off + 1) => (decide (tl t = 10) && decide (8 ≤ i)) || (decide (t + off < n) && decide (tl (t + off) = ft (tl t) i) && (decide (fl (tl t) i = 0) || decide (ln (t + off) = fl (tl t) i)))
  | _ => true
theorem layB_102 : layB 102 = true := by decide +kernel
theorem layB_106 : layB 106 = true := by decide +kernel
theorem layB_110 : layB 110 = true := by decide +kernel
theorem layB_of {n : Nat} (h : nfull n) : layB n = true := by
  rcases h with rfl | rfl | rfl
  · exact layB_102
  · exact layB_106
  · exact layB_110
theorem ly0 {n t c i off : Nat} (h : nfull n) (ho : ob n t c) (hf : (tm c)[i]? = some (off + 1)) (hx : (decide (c = 10) && decide (8 ≤ i)) = false) : t + off < n ∧ tl (t + off) = ft c i ∧ (fl c i = 0 ∨ ln (t + off) = fl c i) := by
  obtain ⟨rfl, ht⟩ := ho
  have h1 := List.all_eq_true.mp (layB_of h) t (List.mem_range.mpr ht)
  have h2 := List.all_eq_true.mp h1 i (List.mem_range.mpr (List.getElem?_eq_some_iff.mp hf).1)
  simp only [hf, hx, Bool.false_or, Bool.and_eq_true, Bool.or_eq_true, decide_eq_true_eq] at h2
  exact ⟨h2.1.1, h2.1.2, h2.2⟩
/-- what a field names is a cell of its kind -/
theorem ly {n t c i off k : Nat} (h : nfull n) (ho : ob n t c) (hf : (tm c)[i]? = some (off + 1)) (hk : ft c i = k) (hx : (decide (c = 10) && decide (8 ≤ i)) = false) : ob n (t + off) k := by
  obtain ⟨h1, h2, -⟩ := ly0 h ho hf hx
  exact ⟨h2.trans hk, h1⟩
theorem lyn {n t c i off N : Nat} (h : nfull n) (ho : ob n t c) (hf : (tm c)[i]? = some (off + 1)) (hk : fl c i = N + 1) (hx : (decide (c = 10) && decide (8 ≤ i)) = false) : ln (t + off) = N + 1 := by
  obtain ⟨-, -, h3⟩ := ly0 h ho hf hx
  rcases h3 with h3 | h3
  · omega
  · omega
theorem lyT {n t : Nat} (h : nfull n) (ho : ob n t 16) {i : Nat} (hi : i < 4) : ob n (t + (1 + 5 * i)) 7 ∧ ln t = 4 := by
  have h0 : ∀ n ∈ [102, 106, 110], ∀ t, t < n → tl t = 16 → ∀ i, i < 4 → (tl (t + (1 + 5 * i)) = 7 ∧ t + (1 + 5 * i) < n) ∧ ln t = 4 := by decide +kernel
  exact h0 n (by rcases h with rfl | rfl | rfl <;> simp) t ho.2 ho.1 i hi
theorem ln_lt (k : Nat) : ln k < 2147483648 := by
  have h : ∀ x ∈ LLn, x < 2147483648 := by decide +kernel
  unfold ln
  rw [List.getD_eq_getElem?_getD]
  cases hk : LLn[k]? with
  | none => simp
  | some x => simpa using h x (List.mem_of_getElem? hk)
theorem zf_t {n k i c : Nat} (ho : ob n k c) (hc : c < 12) (hx : (decide (c = 10) && decide (8 ≤ i)) = false) : zf n k i = true := by
  obtain ⟨rfl, -⟩ := ho
  unfold zf
  have h42 : k ≠ 42 := by
    intro q; subst q
    exact absurd hc (by decide +kernel)
  by_cases h0 : k = 0
  · subst h0
    have h10 : tl 0 = 10 := by decide +kernel
    rw [h10] at hx
    have h8 : ¬ 8 ≤ i := by simpa using hx
    rw [if_neg (by omega), if_neg (by omega), if_neg h42]
  · rw [if_neg (fun q => h0 q.1), if_neg (fun q => h0 q.1), if_neg h42]
theorem zf_T {n k i : Nat} (hn : nfull n) (ho : ob n k 16) (hi : i < 4) : zf n k i = true := by
  have h0 : ∀ n ∈ [102, 106, 110], ∀ k, k < n → tl k = 16 → k = 42 := by decide +kernel
  have hk := h0 n (by rcases hn with rfl | rfl | rfl <;> simp) k ho.2 ho.1
  subst hk
  simp [zf, hi]
section RU3
variable {p : Program} {l : Launch} {e : Env} {R : Room} {s : State} {m : MethodId} {args : Array Value} {below : List Frame} {meth : Method} {c : Code} {H : Heap} {locs : List Loc} {cells slots : Nat} {Q : State → Prop}
variable {cc : ByteArray} {nL : Nat} {own nm : String} {ret : Option FieldType} {n0 : Nat} {E : EE} {n : Nat} {M : Mem} {pc : Nat} {ls : Array Slot} {rest : List Value} {ρ : Type} {o : ρ} {X Y : Option ρ}
theorem g_int (C : Cx E p s m args meth c cc nL own ret n0 nm) (hH : ST E s n (zf n) M H locs) {k ci i idx : Nat} (ho : ob n k ci) (hc : ci < 12) (hf : (tm ci)[i]? = some 0) (hl : FL own idx ci i) (hd : decode cc pc = .ok (.getfield idx, 3))
    (kk : W p l e R s m args below meth c H locs cells slots Q (F0 m (pc + 3) ls (i3 (M k i) :: rest))) : W p l e R s m args below meth c H locs cells slots Q (F0 m pc ls (.ref (eb E + k) :: rest)) := w_getI C hH ho.2 ho.1 hc hf hl hd kk
theorem g_ref (C : Cx E p s m args meth c cc nL own ret n0 nm) (hH : ST E s n (zf n) M H locs) {k ci i idx off : Nat} (ho : ob n k ci) (hc : ci < 12) (hf : (tm ci)[i]? = some (off + 1)) (hx : (decide (ci = 10) && decide (8 ≤ i)) = false) (hl : FL own idx ci i) (hd : decode cc pc = .ok (.getfield idx, 3))
    (kk : W p l e R s m args below meth c H locs cells slots Q (F0 m (pc + 3) ls (.ref (eb E + (k + off)) :: rest))) : W p l e R s m args below meth c H locs cells slots Q (F0 m pc ls (.ref (eb E + k) :: rest)) := w_getR C hH ho.2 ho.1 hc hf (zf_t ho hc hx) hl hd kk
theorem g_len (C : Cx E p s m args meth c cc nL own ret n0 nm) (hH : ST E s n (zf n) M H locs) {k ci N : Nat} (ho : ob n k ci) (hc : 12 ≤ ci ∧ ci < 17) (hN : ln k = N) (hd : decode cc pc = .ok (.arraylength, 1))
    (kk : W p l e R s m args below meth c H locs cells slots Q (F0 m (pc + 1) ls (i3 (N : Int) :: rest))) : W p l e R s m args below meth c H locs cells slots Q (F0 m pc ls (.ref (eb E + k) :: rest)) := w_alen C hH ho.2 (by rw [ho.1]; exact hc) hN hd kk
/-- a pure value gets a name -/
theorem g_nm {α : Type} {P : α → Prop} (x : α) (h : ∀ y, P y) : P x := h x
end RU3
