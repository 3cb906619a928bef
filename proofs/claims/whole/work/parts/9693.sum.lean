/-! text: sums, whole -/
theorem Sbs_c {T : Tx} {G : Mem → Mem → Prop} {b : Bool} {s0 s1 : Int} {o dp w pl : Nat} {rs : Int} {NX : Int → Prop} {f g : Mem → Option (Int × Mem)} (h : Sbs T G b s0 s1 o dp w pl rs NX f) (e : ∀ C, g C = f C) : Sbs T G b s0 s1 o dp w pl rs NX g := by
  rw [show g = f from funext e]; exact h
theorem rec_lv {d : Nat} {lv o : Int} {C : Mem} (h : lv = 0 ∨ lv = 1 ∨ lv = 3 ∨ lv = 4) : fn_X1_rec (d + 1) 0 31 lv o C = cl ((fun t a b M => fn_X1_rec d 0 t a b M) 31 (lv + 1) o C) fun x27 M27 => cEq x27 0 (some (0, M27)) (lq2 (fn_X1_level_L37 (fun t a b M => fn_X1_rec d 0 t a b M) 31 lv o) FU 0 M27) := by
  show fn_X1_level_F (fun t a b M => fn_X1_rec d 0 t a b M) (fun t a M => fn_X1_rec d 1 t a 0 M) (fun t a M => fn_X1_rec d 2 t a 0 M) 31 lv o C = _
  unfold fn_X1_level_F
  rw [cEq_if (by omega) (by omega) (by decide) (by decide), if_neg (by omega), cLt_if (by omega) (by omega) (by decide) (by decide), if_pos (by omega)]
theorem sg_4 (k : Int) (M : Mem) (h1 : 0 ≤ k) (h2 : k ≤ 32) : ∃ v, fn_X1_isSignOf 4 k M = some v ∧ ((v = 1 ∧ (k = 28 ∨ k = 29)) ∨ (v = 0 ∧ ¬ (k = 28 ∨ k = 29))) := by
  unfold fn_X1_isSignOf fn_X1_isSignOf_J72 fn_X1_isSignOf_J90
  rw [ck_R3 (by decide) (by decide), if_neg (by decide), if_neg (by decide), if_neg (by decide), if_pos rfl, cEq_if (y := 28) (by omega) (by omega) (by decide) (by decide), cEq_if (y := 29) (by omega) (by omega) (by decide) (by decide)]
  by_cases q : k = 28
  · exact ⟨1, by rw [if_pos q], Or.inl ⟨rfl, Or.inl q⟩⟩
  · by_cases q2 : k = 29
    · exact ⟨1, by rw [if_neg q, if_pos q2], Or.inl ⟨rfl, Or.inr q2⟩⟩
    · exact ⟨0, by rw [if_neg q, if_neg q2], Or.inr ⟨rfl, by omega⟩⟩
theorem sg_3 (k : Int) (M : Mem) (h1 : 0 ≤ k) (h2 : k ≤ 32) : ∃ v, fn_X1_isSignOf 3 k M = some v ∧ ((v = 1 ∧ (k = 26 ∨ k = 27)) ∨ (v = 0 ∧ ¬ (k = 26 ∨ k = 27))) := by
  unfold fn_X1_isSignOf fn_X1_isSignOf_J72 fn_X1_isSignOf_J90
  rw [ck_R3 (by decide) (by decide), if_neg (by decide), if_neg (by decide), if_pos rfl, cEq_if (y := 26) (by omega) (by omega) (by decide) (by decide), cEq_if (y := 27) (by omega) (by omega) (by decide) (by decide)]
  by_cases q : k = 26
  · exact ⟨1, by rw [if_pos q], Or.inl ⟨rfl, Or.inl q⟩⟩
  · by_cases q2 : k = 27
    · exact ⟨1, by rw [if_neg q, if_pos q2], Or.inl ⟨rfl, Or.inr q2⟩⟩
    · exact ⟨0, by rw [if_neg q, if_neg q2], Or.inr ⟨rfl, by omega⟩⟩
theorem sg_1 (k : Int) (M : Mem) (h1 : 0 ≤ k) (h2 : k ≤ 32) : ∃ v, fn_X1_isSignOf 1 k M = some v ∧ ((v = 1 ∧ k = 11) ∨ (v = 0 ∧ ¬ k = 11)) := by
  unfold fn_X1_isSignOf
  rw [ck_R3 (by decide) (by decide), if_neg (by decide), if_pos rfl, cEq_if (y := 11) (by omega) (by omega) (by decide) (by decide)]
  by_cases q : k = 11
  · exact ⟨1, by rw [if_pos q], Or.inl ⟨rfl, q⟩⟩
  · exact ⟨0, by rw [if_neg q], Or.inr ⟨rfl, q⟩⟩
theorem sg_0 (k : Int) (M : Mem) (h1 : 0 ≤ k) (h2 : k ≤ 32) : ∃ v, fn_X1_isSignOf 0 k M = some v ∧ ((v = 1 ∧ k = 10) ∨ (v = 0 ∧ ¬ k = 10)) := by
  unfold fn_X1_isSignOf
  rw [ck_R3 (by decide) (by decide), if_pos rfl, cEq_if (y := 10) (by omega) (by omega) (by decide) (by decide)]
  by_cases q : k = 10
  · exact ⟨1, by rw [if_pos q], Or.inl ⟨rfl, q⟩⟩
  · exact ⟨0, by rw [if_neg q], Or.inr ⟨rfl, q⟩⟩
theorem lv_5 {T : Tx} {o d : Nat} (ho : o ≤ 8) (h : Ons T o (fun C => fn_X1_rec d 2 31 o 0 C)) : Sbs T FA false 1 2 o (1 + 2 * (8 - o)) 4 0 5 (fun _ => True) (fun C => fn_X1_rec (d + 1) 0 31 5 o C) := by
  intro C D i code f0 fr wo wq ord hC hR hf0 hfr hst hwq hwl hord
  have e : fn_X1_rec (d + 1) 0 31 5 o C = cl (fn_X1_rec d 2 31 o 0 C) fun x18 M18 => ck (x18 = 0 ∨ x18 = 1) (some (x18, M18)) := by
    show fn_X1_level_F (fun t a b M => fn_X1_rec d 0 t a b M) (fun t a M => fn_X1_rec d 1 t a 0 M) (fun t a M => fn_X1_rec d 2 t a 0 M) 31 5 o C = _
    unfold fn_X1_level_F
    rw [cEq_if (by decide) (by decide) (by decide) (by decide), if_neg (by decide), cLt_if (by decide) (by decide) (by decide) (by decide), if_neg (by decide)]
  show Ok T FA false (1 + 2 * (8 - o)) 4 (fn_X1_rec (d + 1) 0 31 5 o C) C D i code _
  rw [e]
  rcases h C D i code 0 f0 fr wo wq ord hC hR ⟨hf0.1, hf0.2.2⟩ (by omega) (by omega) hwq (by omega) (by omega) with ⟨C3, D3, i3, ys, k3, a1, a2, a3, a4, a5, a6, a7, a8, a9, a10⟩ | ⟨C3, D3, f, p, k3, a1, a2, a3, a4, a5, a6, a7, a8⟩
  · have a1 : fn_X1_rec d 2 31 o 0 C = some (1, C3) := a1
    rw [a1, cl_s, ck_t (Or.inr rfl)]
    have a10 : Rf T D3 i3 2 o (f0 :: fr) wo wq (ord ++ ys ++ []) := a10
    rw [List.append_nil] at a10
    exact Or.inl ⟨C3, D3, i3, ys, k3, rfl, a2, a3, a4, a5, a6, a7, a8, a9, trivial, [], ord ++ ys, a10, List.append_nil _, (fun x hx => by cases hx), Nat.le_refl 0⟩
  · have a1 : fn_X1_rec d 2 31 o 0 C = some (0, C3) := a1
    rw [a1, cl_s, ck_t (Or.inl rfl)]
    exact Or.inr ⟨C3, D3, f, p, k3, rfl, a2, a3, a4, a5, a6, a7, a8⟩
theorem hK_4 (k : Int) (h : k = 28 ∨ k = 29) : isOp (-k) ∧ rk (-k) = 4 ∧ k ≠ 0 ∧ ∀ s, stp (-k) (false :: false :: s) (false :: s) := by
  refine ⟨by unfold isOp; omega, by rcases h with rfl | rfl <;> rfl, by omega, fun s => Or.inr (Or.inr (Or.inr (Or.inr (Or.inl ⟨by omega, s, rfl, rfl⟩))))⟩
theorem hK_3 (k : Int) (h : k = 26 ∨ k = 27) : isOp (-k) ∧ rk (-k) = 3 ∧ k ≠ 0 ∧ ∀ s, stp (-k) (false :: false :: s) (false :: s) := by
  refine ⟨by unfold isOp; omega, by rcases h with rfl | rfl <;> rfl, by omega, fun s => Or.inr (Or.inr (Or.inr (Or.inr (Or.inl ⟨by omega, s, rfl, rfl⟩))))⟩
theorem hK_1 (k : Int) (h : k = 11) : isOp (-k) ∧ rk (-k) = 2 ∧ k ≠ 0 ∧ ∀ s, stp (-k) (true :: true :: s) (true :: s) := by
  refine ⟨by unfold isOp; omega, by rw [h]; rfl, by omega, fun s => Or.inr (Or.inr (Or.inr (Or.inr (Or.inr (Or.inr ⟨by omega, s, rfl, rfl⟩)))))⟩
theorem hK_0 (k : Int) (h : k = 10) : isOp (-k) ∧ rk (-k) = 1 ∧ k ≠ 0 ∧ ∀ s, stp (-k) (true :: true :: s) (true :: s) := by
  refine ⟨by unfold isOp; omega, by rw [h]; rfl, by omega, fun s => Or.inr (Or.inr (Or.inr (Or.inr (Or.inr (Or.inr ⟨by omega, s, rfl, rfl⟩)))))⟩
theorem lv_3 {T : Tx} {o d : Nat} (hT : TkT T) (ho : o ≤ 8) (h : Ons T o (fun C => fn_X1_rec d 2 31 o 0 C)) : Sbs T FA false 1 2 o (3 + 2 * (8 - o)) 4 2 3 nx3 (fun C => fn_X1_rec (d + 3) 0 31 3 o C) := by
  have h5 := lv_5 ho h
  have h4 := loop_ok (fL := fun t a b M => fn_X1_rec (d + 1) 0 t a b M) (lv := 4) (r := 4) (isK := fun k => k = 28 ∨ k = 29) (fun _ => FA.rf) (fun a b => a.tr b) (fun a => a.1) ho (by omega) (by omega) (by omega) (by omega) (by omega) hK_4 sg_4 (ops_ar hT (fun k hk => ⟨by omega, (hK_4 k hk).2.1⟩)) h5
  have h4' := Sbs_c h4 (g := fun C => fn_X1_rec (d + 2) 0 31 4 o C) (fun C => rec_lv (by omega))
  have h3 := loop_ok (fL := fun t a b M => fn_X1_rec (d + 2) 0 t a b M) (lv := 3) (r := 3) (isK := fun k => k = 26 ∨ k = 27) (fun _ => FA.rf) (fun a b => a.tr b) (fun a => a.1) ho (by omega) (by omega) (by omega) (by omega) (by omega) hK_3 sg_3 (ops_ar hT (fun k hk => ⟨by omega, (hK_3 k hk).2.1⟩)) h4'
  have h3' := Sbs_c h3 (g := fun C => fn_X1_rec (d + 3) 0 31 3 o C) (fun C => rec_lv (by omega))
  rw [show 1 + 2 * (8 - o) + 1 + 1 = 3 + 2 * (8 - o) by omega] at h3'
  exact h3'
theorem one_all {T : Tx} (hT : TkT T) : ∀ (q o d : Nat), o + q = 8 → 4 * q + 1 ≤ d → Ons T o (fun C => fn_X1_rec d 2 31 o 0 C) := by
  intro q
  induction q with
  | zero =>
    intro o d ho hd
    obtain ⟨d, rfl⟩ : ∃ d', d = d' + 1 := ⟨d - 1, by omega⟩
    exact one_ok (fL := fun t a b M => fn_X1_rec d 0 t a b M) (fA := fun t a M => fn_X1_rec d 1 t a 0 M) (fO := fun t a M => fn_X1_rec d 2 t a 0 M) hT (by omega) (fun h => by omega) (fun h => by omega)
  | succ q ih =>
    intro o d ho hd
    obtain ⟨d, rfl⟩ : ∃ d', d = d' + 4 := ⟨d - 4, by omega⟩
    exact one_ok (fL := fun t a b M => fn_X1_rec (d + 3) 0 t a b M) (fA := fun t a M => fn_X1_rec (d + 3) 1 t a 0 M) (fO := fun t a M => fn_X1_rec (d + 3) 2 t a 0 M) hT (by omega) (fun h => ih (o + 1) (d + 3) (by omega) (by omega)) (fun h => lv_3 hT (by omega) (ih (o + 1) d (by omega) (by omega)))
theorem sum_all {T : Tx} (hT : TkT T) {o d : Nat} (ho : o ≤ 8) (hd : 4 * (8 - o) + 4 ≤ d) : Sbs T FA false 1 2 o (3 + 2 * (8 - o)) 4 2 3 nx3 (fun C => fn_X1_rec d 0 31 3 o C) := by
  obtain ⟨d, rfl⟩ : ∃ d', d = d' + 3 := ⟨d - 3, by omega⟩
  exact lv_3 hT ho (one_all hT (8 - o) o d (by omega) (by omega))
