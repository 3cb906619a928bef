/-! text: between clauses, both sides -/
def Cl1 (C D : Mem) (k : Nat) : Prop := (4 ≤ C 34 k ∧ C 34 k ≤ 8) ∧ D 86 k = C 34 k - 4 ∧ (6 ≤ C 34 k → (0 ≤ C 35 k ∧ C 35 k ≤ 99) ∧ D 88 k = C 35 k) ∧ (C 34 k = 6 → (0 ≤ C 36 k ∧ C 36 k ≤ 9) ∧ D 89 k = C 36 k)
def LawI (C D : Mem) (c f t : Nat) (w : Int) (b : Bool) (code ord : List Int) : Prop :=
  (∃ (k : Nat) (a xs z a' z' : List Int), k < c ∧ (∀ k', k' < c → (D 86 k' = w ↔ k' = k)) ∧ C 32 f = (a.length : Int) ∧ C 32 t = ((a.length + xs.length : Nat) : Int) ∧ code = a ++ (xs ++ z) ∧ ord = a' ++ (xs ++ -99 :: z') ∧ D 87 k = (a'.length : Int) ∧ wf xs [] [b]) ∨ (C 32 f = 0 ∧ C 32 t = 0 ∧ ∀ k', k' < c → D 86 k' ≠ w)
def Iv (T : Tx) (C D : Mem) (i : Nat) (code : List Int) (c : Nat) (ord : List Int) : Prop :=
  Cls T C i code ∧ Rf T D i 4 0 [] [] [] ord ∧ ord.length ≤ i ∧ (C 32 9 = (c : Int) ∧ D 71 28 = (c : Int) ∧ c ≤ 20) ∧ (∀ k, k < c → Cl1 C D k) ∧ LawI C D c 2 3 0 true code ord ∧ LawI C D c 4 5 1 false code ord
def FC2 (C C' : Mem) : Prop := ∀ k i, (k < 31 ∨ 41 < k ∨ (k = 31 ∧ i = 2)) → C' k i = C k i
theorem FC2.rf {C : Mem} : FC2 C C := fun _ _ _ => rfl
theorem FC2.tr {C C' C'' : Mem} (h : FC2 C C') (h' : FC2 C' C'') : FC2 C C'' := fun k i a => (h' k i a).trans (h k i a)
theorem FC2.fc {C C' : Mem} (h : FC C C') : FC2 C C' := fun k i a => h k i (by omega) (by omega) (by omega) (by omega)
theorem wf_ne {b : Bool} {xs : List Int} (h : wf xs [] [b]) : 0 < xs.length := by
  cases xs with
  | nil => cases h
  | cons x t => rw [List.length_cons]; omega
theorem LawI_mono {C D C' D' : Mem} {c f t : Nat} {w : Int} {b : Bool} {code ord x y : List Int} (h : LawI C D c f t w b code ord) (h1 : C' 32 f = C 32 f) (h2 : C' 32 t = C 32 t) (h3 : ∀ k, k < c → D' 86 k = D 86 k ∧ D' 87 k = D 87 k) (h4 : D' 86 c ≠ w) : LawI C' D' (c + 1) f t w b (code ++ x) (ord ++ y) := by
  rcases h with ⟨k, a, xs, z, a', z', g1, g2, g3, g4, g5, g6, g7, g8⟩ | ⟨g1, g2, g3⟩
  · refine Or.inl ⟨k, a, xs, z ++ x, a', z' ++ y, by omega, fun k' hk' => ?_, by rw [h1]; exact g3, by rw [h2]; exact g4, by rw [g5]; simp, by rw [g6]; simp, by rw [(h3 k g1).2]; exact g7, g8⟩
    by_cases q : k' = c
    · rw [q]; exact ⟨fun h => absurd h h4, fun h => by omega⟩
    · rw [(h3 k' (by omega)).1]; exact g2 k' (by omega)
  · refine Or.inr ⟨by rw [h1]; exact g1, by rw [h2]; exact g2, fun k' hk' => ?_⟩
    by_cases q : k' = c
    · rw [q]; exact h4
    · rw [(h3 k' (by omega)).1]; exact g3 k' (by omega)
theorem LawI_new {D C' D' : Mem} {c f t : Nat} {w : Int} {b : Bool} {code ord xs : List Int} (h : ∀ k', k' < c → D 86 k' ≠ w) (h1 : C' 32 f = (code.length : Int)) (h2 : C' 32 t = ((code.length + xs.length : Nat) : Int)) (h3 : ∀ k, k < c → D' 86 k = D 86 k) (h4 : D' 86 c = w) (h5 : D' 87 c = (ord.length : Int)) (h6 : wf xs [] [b]) : LawI C' D' (c + 1) f t w b (code ++ xs) (ord ++ (xs ++ [-99])) := by
  refine Or.inl ⟨c, code, xs, [], ord, [], by omega, fun k' hk' => ?_, h1, h2, by simp, by simp, h5, h6⟩
  by_cases q : k' = c
  · rw [q]; exact ⟨fun _ => rfl, fun _ => h4⟩
  · rw [h3 k' (by omega)]; exact ⟨fun h' => absurd h' (h k' (by omega)), fun h => absurd h q⟩
theorem Cls_f {T : Tx} {C C' : Mem} {i : Nat} {code : List Int} (hC : Cls T C i code) (h : ∀ k j, (k = 31 ∨ (k = 32 ∧ j = 1) ∨ k = 33 ∨ (37 ≤ k ∧ k ≤ 40)) → C' k j = C k j) : Cls T C' i code := by
  obtain ⟨h1, h2, h3, h4, h5, h6⟩ := hC
  refine ⟨Tk1_f (fun j _ => h 37 j (by omega)) (fun k j _ _ => h k j (by omega)) h1, ?_, by rw [h 32 1 (by omega)]; exact h3, ⟨Cd_same (fun j => h 33 j (by omega)) h4.1, by rw [h 31 3 (by omega)]; exact h4.2.1, by rw [h 31 4 (by omega)]; exact h4.2.2⟩, h5, h6⟩
  unfold At1
  rw [h 37 5 (by omega), h 37 7 (by omega), h 37 8 (by omega), h 37 9 (by omega)]; exact h2
theorem c_addc {C : Mem} {c : Nat} {a1 a2 a3 : Int} (hc : C 32 9 = (c : Int)) (h20 : c < 20) : ∃ C', fn_X7_addClause 32 a1 a2 a3 C = some C' ∧ C' 32 9 = ((c + 1 : Nat) : Int) ∧ (∀ j, C' 34 j = if j = c then a1 else C 34 j) ∧ (∀ j, C' 35 j = if j = c then a2 else C 35 j) ∧ (∀ j, C' 36 j = if j = c then a3 else C 36 j) ∧ (∀ k j, ¬ (k = 32 ∧ j = 9) → k ≠ 34 → k ≠ 35 → k ≠ 36 → C' k j = C k j) := by
  unfold fn_X7_addClause
  rw [hc, cLt_if (by omega) (by omega) (by decide) (by decide), if_neg (by omega), cLt_if (by omega) (by omega) (by decide) (by decide), if_pos (by omega), wr_eq (by omega) (by omega), Int.toNat_natCast]
  simp only [Nat.reduceAdd]
  have e1 : up C 34 c a1 32 9 = (c : Int) := by rw [up_o (by decide)]; exact hc
  rw [e1, wr_eq (by omega) (by omega), Int.toNat_natCast]
  have e2 : up (up C 34 c a1) 35 c a2 32 9 = (c : Int) := by rw [up_o (by decide)]; exact e1
  rw [e2, wr_eq (by omega) (by omega), Int.toNat_natCast, st_eq]
  have e3 : up (up (up C 34 c a1) 35 c a2) 36 c a3 32 9 = (c : Int) := by rw [up_o (by decide)]; exact e2
  rw [e3]
  refine ⟨_, rfl, by rw [up_i, if_pos rfl]; omega, fun j => ?_, fun j => ?_, fun j => ?_, fun k j a b d e => ?_⟩
  · rw [up_o (by decide), up_o (by decide), up_o (by decide), up_i]
  · rw [up_o (by decide), up_o (by decide), up_i, up_o (by decide)]
  · rw [up_o (by decide), up_i, up_o (by decide), up_o (by decide)]
  · rw [up_k, if_neg a, up_o e, up_o d, up_o b]
theorem c_addl {C : Mem} {c n : Nat} {K a : Int} (hK : K = 4 ∨ K = 5) (hc : C 32 9 = (c : Int)) (h20 : c < 20) (hn : C 32 1 = (n : Int)) : ∃ C', fn_X7_addLaw 32 K a C = some C' ∧ C' 32 9 = ((c + 1 : Nat) : Int) ∧ (∀ j, C' 34 j = if j = c then K else C 34 j) ∧ (K = 4 → C' 32 2 = a ∧ C' 32 3 = (n : Int) ∧ C' 32 4 = C 32 4 ∧ C' 32 5 = C 32 5) ∧ (K = 5 → C' 32 4 = a ∧ C' 32 5 = (n : Int) ∧ C' 32 2 = C 32 2 ∧ C' 32 3 = C 32 3) ∧ (∀ k j, ¬ (k = 32 ∧ (j = 9 ∨ j = 2 ∨ j = 3 ∨ j = 4 ∨ j = 5)) → k ≠ 34 → k ≠ 35 → k ≠ 36 → C' k j = C k j) ∧ (∀ j, j ≠ c → C' 35 j = C 35 j ∧ C' 36 j = C 36 j) := by
  rcases hK with rfl | rfl
  · unfold fn_X7_addLaw fn_X7_addLaw_J34
    rw [cEq_if (by decide) (by decide) (by decide) (by decide), if_pos rfl, st_eq, st_eq]
    have e1 : up C 32 2 a 32 1 = (n : Int) := by rw [up_i, if_neg (by decide)]; exact hn
    rw [e1]
    generalize hG : up (up C 32 2 a) 32 3 (n : Int) = G
    have g : ∀ k j, ¬ (k = 32 ∧ (j = 2 ∨ j = 3)) → G k j = C k j := fun k j q => by rw [← hG, up_k, if_neg (by omega), up_k, if_neg (by omega)]
    obtain ⟨C', c1, c2, c3, c4, c5, c6⟩ := c_addc (C := G) (c := c) (a1 := 4) (a2 := 0) (a3 := 0) (by rw [g 32 9 (by omega)]; exact hc) h20
    rw [c1, cv_s]
    refine ⟨C', rfl, c2, fun j => by rw [c3, g 34 j (by omega)], fun _ => ⟨?_, ?_, ?_, ?_⟩, fun h => absurd h (by decide), fun k j q a b d => by rw [c6 k j (by omega) a b d, g k j (by omega)], fun j hj => ⟨by rw [c4, if_neg hj, g 35 j (by omega)], by rw [c5, if_neg hj, g 36 j (by omega)]⟩⟩
    · rw [c6 32 2 (by omega) (by decide) (by decide) (by decide), ← hG, up_i, if_neg (by decide), up_i, if_pos rfl]
    · rw [c6 32 3 (by omega) (by decide) (by decide) (by decide), ← hG, up_i, if_pos rfl]
    · rw [c6 32 4 (by omega) (by decide) (by decide) (by decide), g 32 4 (by omega)]
    · rw [c6 32 5 (by omega) (by decide) (by decide) (by decide), g 32 5 (by omega)]
  · unfold fn_X7_addLaw fn_X7_addLaw_J34
    rw [cEq_if (by decide) (by decide) (by decide) (by decide), if_neg (by decide), st_eq, st_eq]
    have e1 : up C 32 4 a 32 1 = (n : Int) := by rw [up_i, if_neg (by decide)]; exact hn
    rw [e1]
    generalize hG : up (up C 32 4 a) 32 5 (n : Int) = G
    have g : ∀ k j, ¬ (k = 32 ∧ (j = 4 ∨ j = 5)) → G k j = C k j := fun k j q => by rw [← hG, up_k, if_neg (by omega), up_k, if_neg (by omega)]
    obtain ⟨C', c1, c2, c3, c4, c5, c6⟩ := c_addc (C := G) (c := c) (a1 := 5) (a2 := 0) (a3 := 0) (by rw [g 32 9 (by omega)]; exact hc) h20
    rw [c1, cv_s]
    refine ⟨C', rfl, c2, fun j => by rw [c3, g 34 j (by omega)], fun h => absurd h (by decide), fun _ => ⟨?_, ?_, ?_, ?_⟩, fun k j q a b d => by rw [c6 k j (by omega) a b d, g k j (by omega)], fun j hj => ⟨by rw [c4, if_neg hj, g 35 j (by omega)], by rw [c5, if_neg hj, g 36 j (by omega)]⟩⟩
    · rw [c6 32 4 (by omega) (by decide) (by decide) (by decide), ← hG, up_i, if_neg (by decide), up_i, if_pos rfl]
    · rw [c6 32 5 (by omega) (by decide) (by decide) (by decide), ← hG, up_i, if_pos rfl]
    · rw [c6 32 2 (by omega) (by decide) (by decide) (by decide), g 32 2 (by omega)]
    · rw [c6 32 3 (by omega) (by decide) (by decide) (by decide), g 32 3 (by omega)]
