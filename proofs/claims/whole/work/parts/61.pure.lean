/-! image, back -/
def Cpy (b b' : Nat) (M M' : Mem) : Prop := (M' b' 1 = M b 1 ∧ M' b' 7 = M b 7 ∧ M' b' 8 = M b 8 ∧ M' b' 9 = M b 9 ∧ M' b' 10 = M b 10 ∧ M' b' 11 = M b 11 ∧ M' b' 12 = M b 12 ∧ M' b' 16 = M b 16) ∧
  (∀ i, i < 10 → M' (b' + 1) i = M (b + 1) i) ∧ (∀ i, i < 20 → M' (b' + 2) i = M (b + 2) i) ∧ (∀ i, i < 20 → M' (b' + 3) i = M (b + 3) i) ∧ (∀ i, i < 20 → M' (b' + 4) i = M (b + 4) i) ∧ (∀ i, i < 20 → M' (b' + 5) i = M (b + 5) i) ∧ (∀ i, i < 20 → M' (b' + 6) i = M (b + 6) i) ∧
  (M' (b' + 7) 4 = M (b + 7) 4 ∧ M' (b' + 7) 5 = M (b + 7) 5) ∧ (∀ i, i < 40 → M' (b' + 8) i = M (b + 8) i) ∧ (∀ i, i < 40 → M' (b' + 9) i = M (b + 9) i) ∧ (∀ i, i < 40 → M' (b' + 10) i = M (b + 10) i) ∧ (∀ i, i < 40 → M' (b' + 11) i = M (b + 11) i) ∧
  (∀ i, i < 4 → M' (b' + 12) i = M (b + 12) i) ∧ (∀ i, i < 4 → M' (b' + 13) i = M (b + 13) i)
theorem Cpy_ok {b b' n A A' : Nat} {M M' : Mem} (h : Cpy b b' M M') (hA : ∀ i, i < 288 → M' A' i = M A i) (hc : OkS b n M ∧ RlS b A M) : OkS b' n M' ∧ RlS b' A' M' := by
  obtain ⟨⟨f1, f7, f8, f9, f10, f11, f12, f16⟩, g1, g2, g3, g4, g5, g6, ⟨s4, s5⟩, g8, g9, g10, g11, g12, g13⟩ := h
  obtain ⟨⟨⟨kH0, kH⟩, kN, ⟨kC0, kC⟩, ⟨kT0, kT1, kT⟩, ⟨kP0, kP⟩⟩, rN, rH, rC, rT, rP⟩ := hc
  have er : ∀ k, rp (b' + 7) M' k = rp (b + 7) M k := fun k => by unfold rp; rw [s4, s5]
  have rl : ∀ k, rp (b + 7) M k < 40 := fun k => by unfold rp; omega
  refine ⟨⟨⟨?_, ?_⟩, ?_, ⟨?_, ?_⟩, ⟨?_, ?_, ?_⟩, ⟨?_, ?_⟩⟩, ?_, ?_, ?_, ?_, ?_⟩
  · rw [f1]; exact kH0
  · intro i hi; rw [f1] at hi; rw [g1 i (by omega)]; exact kH i hi
  · simp only [OkN, f8, f9, f10, f11, f12]; exact kN
  · rw [f7]; exact kC0
  · intro c hc; rw [f7] at hc; rw [g2 c (by omega), g3 c (by omega), g4 c (by omega), g5 c (by omega), g6 c (by omega), f1]; exact kC c hc
  · rw [s4]; exact kT0
  · rw [s5]; exact kT1
  · intro k hk; rw [s5] at hk
    have h9 := kT k hk
    rw [er, g8 _ (rl k), g9 _ (rl k), g10 _ (rl k), g11 _ (rl k), f7, f1, g2 _ (by omega)]; exact h9
  · rw [f16]; exact kP0
  · intro k hk; rw [f16] at hk; rw [g12 k (by omega), g13 k (by omega), f1]; exact kP k hk
  · simp only [RlN, f1, f7, f8, f9, f10, f11, f12, f16, s5, hA 0 (by decide), hA 1 (by decide), hA 2 (by decide), hA 3 (by decide), hA 4 (by decide), hA 5 (by decide), hA 6 (by decide), hA 7 (by decide), hA 8 (by decide)]; exact rN
  · intro i hi; rw [f1] at hi; rw [g1 i (by omega), hA _ (by omega)]; exact rH i hi
  · intro c hc; rw [f7] at hc; rw [g2 c (by omega), g3 c (by omega), g4 c (by omega), g5 c (by omega), g6 c (by omega), hA _ (by omega), hA _ (by omega), hA _ (by omega), hA _ (by omega), hA _ (by omega)]; exact rC c hc
  · intro k hk; rw [s5] at hk
    rw [er, g8 _ (rl k), g9 _ (rl k), g10 _ (rl k), g11 _ (rl k), hA _ (by omega), hA _ (by omega), hA _ (by omega), hA _ (by omega)]; exact rT k hk
  · intro k hk; rw [f16] at hk; rw [g12 k (by omega), g13 k (by omega), hA _ (by omega), hA _ (by omega)]; exact rP k hk
theorem cp_step {M : Mem} {s d n : Nat} (h : s ≠ d) : up (cp M s d n) d n (cp M s d n s n) = cp M s d (n + 1) := by
  funext a b
  unfold up cp
  by_cases q : a = d
  · subst q
    by_cases q2 : b = n
    · subst q2; rw [if_pos ⟨rfl, rfl⟩, if_neg (by omega), if_pos ⟨rfl, by omega⟩]
    · rw [if_neg (by omega)]
      by_cases q3 : b < n
      · rw [if_pos ⟨rfl, q3⟩, if_pos ⟨rfl, by omega⟩]
      · rw [if_neg (by omega), if_neg (by omega)]
  · rw [if_neg (by omega), if_neg (by omega), if_neg (by omega)]
theorem q_copies1 {M : Mem} : fn_X11_copies 71 1 M = some (cp M 72 73 288) := by
  unfold fn_X11_copies
  refine lr2 (P := fun o => o = some (cp M 72 73 288)) (I := fun k a E => a = 288 - (k : Int) ∧ k ≤ 288 ∧ E = cp M 72 73 (288 - k)) ?_ 288 FU 0 M (lt_FU (by decide)) ⟨by decide, by decide, by funext a b; simp [cp]⟩
  intro k a E rec ⟨h1, h2, h3⟩ ih
  unfold fn_X11_copies_L2 fn_X11_copies_J40
  simp (disch := omega) only [cLt_if, cEq_if, Nat.reduceAdd]
  by_cases q : a < 288
  · obtain ⟨k, rfl⟩ : ∃ k', k = k' + 1 := ⟨k - 1, by omega⟩
    simp (disch := omega) only [if_pos, if_neg, rd_eq, wr_eq, nm_eq]
    refine ih k _ _ (by omega) ⟨by omega, by omega, ?_⟩
    rw [h3, show a.toNat = 288 - (k + 1) by omega, cp_step (by decide), show 288 - (k + 1) + 1 = 288 - k by omega]
  · rw [if_neg q, h3, show 288 - k = 288 by omega]
theorem q_copies0 {M : Mem} : fn_X11_copies 71 0 M = some (cp M 73 72 288) := by
  unfold fn_X11_copies
  refine lr2 (P := fun o => o = some (cp M 73 72 288)) (I := fun k a E => a = 288 - (k : Int) ∧ k ≤ 288 ∧ E = cp M 73 72 (288 - k)) ?_ 288 FU 0 M (lt_FU (by decide)) ⟨by decide, by decide, by funext a b; simp [cp]⟩
  intro k a E rec ⟨h1, h2, h3⟩ ih
  unfold fn_X11_copies_L2 fn_X11_copies_J40
  simp (disch := omega) only [cLt_if, cEq_if, Nat.reduceAdd]
  by_cases q : a < 288
  · obtain ⟨k, rfl⟩ : ∃ k', k = k' + 1 := ⟨k - 1, by omega⟩
    simp (disch := omega) only [if_pos, if_neg, rd_eq, wr_eq, nm_eq]
    refine ih k _ _ (by omega) ⟨by omega, by omega, ?_⟩
    rw [h3, show a.toNat = 288 - (k + 1) by omega, cp_step (by decide), show 288 - (k + 1) + 1 = 288 - k by omega]
  · rw [if_neg q, h3, show 288 - k = 288 by omega]
theorem cp_k {M : Mem} {s d n a b : Nat} : cp M s d n a b = if a = d ∧ b < n then M s b else M a b := rfl
theorem cm_go {ρ : Type} {P : Option ρ → Prop} {M : Mem} {s d n : Nat} {f : Mem → Option ρ} (h : ∀ M' : Mem, (∀ a b, a ≠ d → M' a b = M a b) → (∀ b, b < n → M' d b = M s b) → P (f M')) : P (cm M s d n f) := h _ (fun a b q => by rw [cp_k, if_neg (by omega)]) (fun b q => by rw [cp_k, if_pos ⟨rfl, q⟩])
theorem st_go {ρ : Type} {P : Option ρ → Prop} {M : Mem} {k i : Nat} {x : Int} {f : Mem → Option ρ} (h : ∀ M' : Mem, (∀ a b, a ≠ k → M' a b = M a b) → (∀ b, b ≠ i → M' k b = M k b) → M' k i = x → P (f M')) : P (st M k i x f) := h _ (fun a b q => by rw [up_o q]) (fun b q => by rw [up_i, if_neg q]) (by rw [up_i, if_pos rfl])
theorem p_copy15 {M : Mem} : ∃ M', fn_X4_copyOf 15 1 M = some M' ∧ Cpy 1 15 M M' ∧ (∀ k i, k < 15 ∨ 28 < k → M' k i = M k i) := by
  unfold fn_X4_copyOf fn_X5_copyOf
  refine cm_go (P := fun o => ∃ M', o = some M' ∧ Cpy 1 15 M M' ∧ (∀ k i, k < 15 ∨ 28 < k → M' k i = M k i)) (fun A0 o0 d0 => ?_)
  refine cm_go (P := fun o => ∃ M', o = some M' ∧ Cpy 1 15 M M' ∧ (∀ k i, k < 15 ∨ 28 < k → M' k i = M k i)) (fun A1 o1 d1 => ?_)
  refine cm_go (P := fun o => ∃ M', o = some M' ∧ Cpy 1 15 M M' ∧ (∀ k i, k < 15 ∨ 28 < k → M' k i = M k i)) (fun A2 o2 d2 => ?_)
  refine cm_go (P := fun o => ∃ M', o = some M' ∧ Cpy 1 15 M M' ∧ (∀ k i, k < 15 ∨ 28 < k → M' k i = M k i)) (fun A3 o3 d3 => ?_)
  refine cm_go (P := fun o => ∃ M', o = some M' ∧ Cpy 1 15 M M' ∧ (∀ k i, k < 15 ∨ 28 < k → M' k i = M k i)) (fun A4 o4 d4 => ?_)
  refine cm_go (P := fun o => ∃ M', o = some M' ∧ Cpy 1 15 M M' ∧ (∀ k i, k < 15 ∨ 28 < k → M' k i = M k i)) (fun A5 o5 d5 => ?_)
  refine cm_go (P := fun o => ∃ M', o = some M' ∧ Cpy 1 15 M M' ∧ (∀ k i, k < 15 ∨ 28 < k → M' k i = M k i)) (fun A6 o6 d6 => ?_)
  refine cm_go (P := fun o => ∃ M', o = some M' ∧ Cpy 1 15 M M' ∧ (∀ k i, k < 15 ∨ 28 < k → M' k i = M k i)) (fun A7 o7 d7 => ?_)
  refine cm_go (P := fun o => ∃ M', cv o _ = some M' ∧ Cpy 1 15 M M' ∧ (∀ k i, k < 15 ∨ 28 < k → M' k i = M k i)) (fun A8 o8 d8 => ?_)
  refine cm_go (P := fun o => ∃ M', cv o _ = some M' ∧ Cpy 1 15 M M' ∧ (∀ k i, k < 15 ∨ 28 < k → M' k i = M k i)) (fun A9 o9 d9 => ?_)
  refine cm_go (P := fun o => ∃ M', cv o _ = some M' ∧ Cpy 1 15 M M' ∧ (∀ k i, k < 15 ∨ 28 < k → M' k i = M k i)) (fun A10 o10 d10 => ?_)
  refine cm_go (P := fun o => ∃ M', cv o _ = some M' ∧ Cpy 1 15 M M' ∧ (∀ k i, k < 15 ∨ 28 < k → M' k i = M k i)) (fun A11 o11 d11 => ?_)
  refine st_go (P := fun o => ∃ M', cv o _ = some M' ∧ Cpy 1 15 M M' ∧ (∀ k i, k < 15 ∨ 28 < k → M' k i = M k i)) (fun A12 o12 d12 v12 => ?_)
  refine st_go (P := fun o => ∃ M', cv o _ = some M' ∧ Cpy 1 15 M M' ∧ (∀ k i, k < 15 ∨ 28 < k → M' k i = M k i)) (fun A13 o13 d13 v13 => ?_)
  rw [cv_s]
  refine st_go (P := fun o => ∃ M', o = some M' ∧ Cpy 1 15 M M' ∧ (∀ k i, k < 15 ∨ 28 < k → M' k i = M k i)) (fun A14 o14 d14 v14 => ?_)
  refine st_go (P := fun o => ∃ M', o = some M' ∧ Cpy 1 15 M M' ∧ (∀ k i, k < 15 ∨ 28 < k → M' k i = M k i)) (fun A15 o15 d15 v15 => ?_)
  refine st_go (P := fun o => ∃ M', o = some M' ∧ Cpy 1 15 M M' ∧ (∀ k i, k < 15 ∨ 28 < k → M' k i = M k i)) (fun A16 o16 d16 v16 => ?_)
  refine st_go (P := fun o => ∃ M', o = some M' ∧ Cpy 1 15 M M' ∧ (∀ k i, k < 15 ∨ 28 < k → M' k i = M k i)) (fun A17 o17 d17 v17 => ?_)
  refine st_go (P := fun o => ∃ M', o = some M' ∧ Cpy 1 15 M M' ∧ (∀ k i, k < 15 ∨ 28 < k → M' k i = M k i)) (fun A18 o18 d18 v18 => ?_)
  refine st_go (P := fun o => ∃ M', o = some M' ∧ Cpy 1 15 M M' ∧ (∀ k i, k < 15 ∨ 28 < k → M' k i = M k i)) (fun A19 o19 d19 v19 => ?_)
  refine st_go (P := fun o => ∃ M', o = some M' ∧ Cpy 1 15 M M' ∧ (∀ k i, k < 15 ∨ 28 < k → M' k i = M k i)) (fun A20 o20 d20 v20 => ?_)
  refine st_go (P := fun o => ∃ M', o = some M' ∧ Cpy 1 15 M M' ∧ (∀ k i, k < 15 ∨ 28 < k → M' k i = M k i)) (fun A21 o21 d21 v21 => ?_)
  simp only [Nat.reduceAdd] at *
  refine ⟨_, rfl, ⟨⟨?_, ?_, ?_, ?_, ?_, ?_, ?_, ?_⟩, fun i hi => ?_, fun i hi => ?_, fun i hi => ?_, fun i hi => ?_, fun i hi => ?_, fun i hi => ?_, ⟨?_, ?_⟩, fun i hi => ?_, fun i hi => ?_, fun i hi => ?_, fun i hi => ?_, fun i hi => ?_, fun i hi => ?_⟩, fun k i hk => ?_⟩ <;> simp (disch := omega) only [Nat.reduceAdd, o0, o1, o2, o3, o4, o5, o6, o7, o8, o9, o10, o11, o12, o13, o14, o15, o16, o17, o18, o19, o20, o21, d0, d1, d2, d3, d4, d5, d6, d7, d8, d9, d10, d11, d12, d13, d14, d15, d16, d17, d18, d19, d20, d21, v12, v13, v14, v15, v16, v17, v18, v19, v20, v21]
theorem p_copy1 {M : Mem} : ∃ M', fn_X4_copyOf 1 15 M = some M' ∧ Cpy 15 1 M M' ∧ (∀ k i, 14 < k ∨ k < 1 → M' k i = M k i) := by
  unfold fn_X4_copyOf fn_X5_copyOf
  refine cm_go (P := fun o => ∃ M', o = some M' ∧ Cpy 15 1 M M' ∧ (∀ k i, 14 < k ∨ k < 1 → M' k i = M k i)) (fun A0 o0 d0 => ?_)
  refine cm_go (P := fun o => ∃ M', o = some M' ∧ Cpy 15 1 M M' ∧ (∀ k i, 14 < k ∨ k < 1 → M' k i = M k i)) (fun A1 o1 d1 => ?_)
  refine cm_go (P := fun o => ∃ M', o = some M' ∧ Cpy 15 1 M M' ∧ (∀ k i, 14 < k ∨ k < 1 → M' k i = M k i)) (fun A2 o2 d2 => ?_)
  refine cm_go (P := fun o => ∃ M', o = some M' ∧ Cpy 15 1 M M' ∧ (∀ k i, 14 < k ∨ k < 1 → M' k i = M k i)) (fun A3 o3 d3 => ?_)
  refine cm_go (P := fun o => ∃ M', o = some M' ∧ Cpy 15 1 M M' ∧ (∀ k i, 14 < k ∨ k < 1 → M' k i = M k i)) (fun A4 o4 d4 => ?_)
  refine cm_go (P := fun o => ∃ M', o = some M' ∧ Cpy 15 1 M M' ∧ (∀ k i, 14 < k ∨ k < 1 → M' k i = M k i)) (fun A5 o5 d5 => ?_)
  refine cm_go (P := fun o => ∃ M', o = some M' ∧ Cpy 15 1 M M' ∧ (∀ k i, 14 < k ∨ k < 1 → M' k i = M k i)) (fun A6 o6 d6 => ?_)
  refine cm_go (P := fun o => ∃ M', o = some M' ∧ Cpy 15 1 M M' ∧ (∀ k i, 14 < k ∨ k < 1 → M' k i = M k i)) (fun A7 o7 d7 => ?_)
  refine cm_go (P := fun o => ∃ M', cv o _ = some M' ∧ Cpy 15 1 M M' ∧ (∀ k i, 14 < k ∨ k < 1 → M' k i = M k i)) (fun A8 o8 d8 => ?_)
  refine cm_go (P := fun o => ∃ M', cv o _ = some M' ∧ Cpy 15 1 M M' ∧ (∀ k i, 14 < k ∨ k < 1 → M' k i = M k i)) (fun A9 o9 d9 => ?_)
  refine cm_go (P := fun o => ∃ M', cv o _ = some M' ∧ Cpy 15 1 M M' ∧ (∀ k i, 14 < k ∨ k < 1 → M' k i = M k i)) (fun A10 o10 d10 => ?_)
  refine cm_go (P := fun o => ∃ M', cv o _ = some M' ∧ Cpy 15 1 M M' ∧ (∀ k i, 14 < k ∨ k < 1 → M' k i = M k i)) (fun A11 o11 d11 => ?_)
  refine st_go (P := fun o => ∃ M', cv o _ = some M' ∧ Cpy 15 1 M M' ∧ (∀ k i, 14 < k ∨ k < 1 → M' k i = M k i)) (fun A12 o12 d12 v12 => ?_)
  refine st_go (P := fun o => ∃ M', cv o _ = some M' ∧ Cpy 15 1 M M' ∧ (∀ k i, 14 < k ∨ k < 1 → M' k i = M k i)) (fun A13 o13 d13 v13 => ?_)
  rw [cv_s]
  refine st_go (P := fun o => ∃ M', o = some M' ∧ Cpy 15 1 M M' ∧ (∀ k i, 14 < k ∨ k < 1 → M' k i = M k i)) (fun A14 o14 d14 v14 => ?_)
  refine st_go (P := fun o => ∃ M', o = some M' ∧ Cpy 15 1 M M' ∧ (∀ k i, 14 < k ∨ k < 1 → M' k i = M k i)) (fun A15 o15 d15 v15 => ?_)
  refine st_go (P := fun o => ∃ M', o = some M' ∧ Cpy 15 1 M M' ∧ (∀ k i, 14 < k ∨ k < 1 → M' k i = M k i)) (fun A16 o16 d16 v16 => ?_)
  refine st_go (P := fun o => ∃ M', o = some M' ∧ Cpy 15 1 M M' ∧ (∀ k i, 14 < k ∨ k < 1 → M' k i = M k i)) (fun A17 o17 d17 v17 => ?_)
  refine st_go (P := fun o => ∃ M', o = some M' ∧ Cpy 15 1 M M' ∧ (∀ k i, 14 < k ∨ k < 1 → M' k i = M k i)) (fun A18 o18 d18 v18 => ?_)
  refine st_go (P := fun o => ∃ M', o = some M' ∧ Cpy 15 1 M M' ∧ (∀ k i, 14 < k ∨ k < 1 → M' k i = M k i)) (fun A19 o19 d19 v19 => ?_)
  refine st_go (P := fun o => ∃ M', o = some M' ∧ Cpy 15 1 M M' ∧ (∀ k i, 14 < k ∨ k < 1 → M' k i = M k i)) (fun A20 o20 d20 v20 => ?_)
  refine st_go (P := fun o => ∃ M', o = some M' ∧ Cpy 15 1 M M' ∧ (∀ k i, 14 < k ∨ k < 1 → M' k i = M k i)) (fun A21 o21 d21 v21 => ?_)
  simp only [Nat.reduceAdd] at *
  refine ⟨_, rfl, ⟨⟨?_, ?_, ?_, ?_, ?_, ?_, ?_, ?_⟩, fun i hi => ?_, fun i hi => ?_, fun i hi => ?_, fun i hi => ?_, fun i hi => ?_, fun i hi => ?_, ⟨?_, ?_⟩, fun i hi => ?_, fun i hi => ?_, fun i hi => ?_, fun i hi => ?_, fun i hi => ?_, fun i hi => ?_⟩, fun k i hk => ?_⟩ <;> simp (disch := omega) only [Nat.reduceAdd, o0, o1, o2, o3, o4, o5, o6, o7, o8, o9, o10, o11, o12, o13, o14, o15, o16, o17, o18, o19, o20, o21, d0, d1, d2, d3, d4, d5, d6, d7, d8, d9, d10, d11, d12, d13, d14, d15, d16, d17, d18, d19, d20, d21, v12, v13, v14, v15, v16, v17, v18, v19, v20, v21]
theorem s_image {j : Nat} {M : Mem} (hc : Core j M) : ∃ (r : Int) (M1 M2 : Mem), fn_X10_image 0 M = some (r, M1) ∧ fn_X11_image 71 M1 = some (r, M2) ∧ Core (j + 1) M2 ∧ KX M M2 := by
  have hm := Core_mono hc
  obtain ⟨M1, e1, e2, e3⟩ := p_copy15 (M := M)
  unfold fn_X10_image fn_X11_image
  simp (disch := omega) only [Nat.zero_add, e1, cv_s, q_copies1, rd_eq, Nat.reduceAdd, Int.reduceToNat]
  have e4 : ∀ k i, k < 15 ∨ 28 < k → k ≠ 73 → cp M1 72 73 288 k i = M k i := fun k i h1 h2 => by rw [cp_k, if_neg (by omega), e3 k i h1]
  refine ⟨M1 1 7, M1, cp M1 72 73 288, rfl, ?_, ⟨?_, ?_, ?_, ?_⟩, ?_, ?_⟩
  · rw [e4 _ _ (by omega) (by decide), e3 _ _ (by omega), show M 72 1 = M 1 7 from hm.1.2.1.2.1]
  · exact now_frame (fun k hk i => e4 k i (by revert hk; unfold SNow; simp; omega) (by revert hk; unfold SNow; simp; omega)) hm.1
  · refine Cpy_ok (A := 72) (M := M) (b := 1) ?_ (fun i hi => by rw [cp_k, if_pos ⟨rfl, hi⟩]; exact e3 _ _ (by omega)) hm.1
    have o : ∀ k i, k < 71 → cp M1 72 73 288 k i = M1 k i := fun k i h1 => by rw [cp_k, if_neg (by omega)]
    simp only [Cpy, Nat.reduceAdd] at e2 ⊢
    simp (disch := omega) only [o]; exact e2
  · exact tap_frame (fun i => e4 _ _ (by omega) (by omega)) (fun i => e4 _ _ (by omega) (by omega)) (e4 _ _ (by omega) (by omega)) (e4 _ _ (by omega) (by omega)) hm.2.2.1
  · exact flt_frame (e4 _ _ (by omega) (by omega)) (e4 _ _ (by omega) (by omega)) (e4 _ _ (by omega) (by omega)) (e4 _ _ (by omega) (by omega)) (e4 _ _ (by omega) (by omega)) hm.2.2.2
  · exact fun k hk i => e4 k i (by revert hk; unfold SRest; simp; omega) (by revert hk; unfold SRest; simp; omega)
  · have a1 : cp M1 72 73 288 15 11 = M 1 11 := by rw [cp_k, if_neg (by omega)]; exact e2.1.2.2.2.2.2.1
    rw [e4 1 11 (by omega) (by omega), a1]; omega
theorem s_back {j : Nat} {M : Mem} (hc : Core j M) : ∃ (r : Int) (M1 M2 : Mem), fn_X10_back 0 M = some (r, M1) ∧ fn_X11_back 71 M1 = some (r, M2) ∧ Core (j + 1) M2 ∧ KX M M2 := by
  have hm := Core_mono hc
  obtain ⟨M1, e1, e2, e3⟩ := p_copy1 (M := M)
  unfold fn_X10_back fn_X11_back
  simp (disch := omega) only [Nat.zero_add, e1, cv_s, q_copies0, rd_eq, Nat.reduceAdd, Int.reduceToNat]
  have e4 : ∀ k i, 14 < k ∨ k < 1 → k ≠ 72 → cp M1 73 72 288 k i = M k i := fun k i h1 h2 => by rw [cp_k, if_neg (by omega), e3 k i h1]
  refine ⟨M1 1 7, M1, cp M1 73 72 288, rfl, ?_, ⟨?_, ?_, ?_, ?_⟩, ?_, ?_⟩
  · rw [cp_k, if_pos (by decide), e3 _ _ (by omega), show M 73 1 = M 15 7 from hm.2.1.2.1.2.1, e2.1.2.1]
  · refine Cpy_ok (A := 73) (M := M) (b := 15) ?_ (fun i hi => by rw [cp_k, if_pos ⟨rfl, hi⟩]; exact e3 _ _ (by omega)) hm.2.1
    have o : ∀ k i, k < 71 → cp M1 73 72 288 k i = M1 k i := fun k i h1 => by rw [cp_k, if_neg (by omega)]
    simp only [Cpy, Nat.reduceAdd] at e2 ⊢
    simp (disch := omega) only [o]; exact e2
  · exact kept_frame (fun k hk i => e4 k i (by revert hk; unfold SKept; simp; omega) (by revert hk; unfold SKept; simp; omega)) hm.2.1
  · exact tap_frame (fun i => e4 _ _ (by omega) (by omega)) (fun i => e4 _ _ (by omega) (by omega)) (e4 _ _ (by omega) (by omega)) (e4 _ _ (by omega) (by omega)) hm.2.2.1
  · exact flt_frame (e4 _ _ (by omega) (by omega)) (e4 _ _ (by omega) (by omega)) (e4 _ _ (by omega) (by omega)) (e4 _ _ (by omega) (by omega)) (e4 _ _ (by omega) (by omega)) hm.2.2.2
  · exact fun k hk i => e4 k i (by revert hk; unfold SRest; simp; omega) (by revert hk; unfold SRest; simp; omega)
  · have a1 : cp M1 73 72 288 1 11 = M 15 11 := by rw [cp_k, if_neg (by omega)]; exact e2.1.2.2.2.2.2.1
    rw [e4 15 11 (by omega) (by omega), a1]; omega
