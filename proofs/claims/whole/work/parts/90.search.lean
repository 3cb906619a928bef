/-! chosen: the search -/
noncomputable def fd (k l : Nat) : Nat → Nat → Nat → Nat → Nat → Option (List Nat) :=
  Nat.rec (motive := fun _ => Nat → Nat → Nat → Nat → Nat → Option (List Nat)) (fun _ _ _ _ _ => some [])
    (fun _ nxt cnt => Nat.rec (motive := fun _ => Nat → Nat → Nat → Nat → Option (List Nat)) (fun _ _ _ _ => none)
      (fun cnt ih c S1 S2 W => adm k S1 S2 W c (fun S1' S2' W' => Option.rec (motive := fun _ => Option (List Nat)) (ih (c + 1) S1 S2 W) (fun r => some (c :: r)) (nxt (cnt + 1) (c + 1) S1' S2' W')) (ih (c + 1) S1 S2 W)) cnt) l
theorem fd_0 {k cnt c S1 S2 W : Nat} : fd k 0 cnt c S1 S2 W = some [] := rfl
theorem fd_z {k l c S1 S2 W : Nat} : fd k (l + 1) 0 c S1 S2 W = none := rfl
theorem fd_s {k l cnt c S1 S2 W : Nat} : fd k (l + 1) (cnt + 1) c S1 S2 W = adm k S1 S2 W c (fun S1' S2' W' => Option.rec (motive := fun _ => Option (List Nat)) (fd k (l + 1) cnt (c + 1) S1 S2 W) (fun r => some (c :: r)) (fd k l (cnt + 1) (c + 1) S1' S2' W')) (fd k (l + 1) cnt (c + 1) S1 S2 W) := rfl
/-- how many turns it takes at most -/
def Tn : Nat → Nat → Nat
  | 0, _ => 0
  | _ + 1, 0 => 1
  | l + 1, cnt + 1 => 1 + Tn l (cnt + 1) + Tn (l + 1) cnt
theorem Tn_bd : ∀ (l cnt : Nat), Tn l cnt + 1 ≤ (cnt + 2) ^ l := by
  intro l
  induction l with
  | zero => intro cnt; simp [Tn]
  | succ l ih =>
    intro cnt
    induction cnt with
    | zero =>
      simp only [Tn]
      have h1 : (0 + 2) ^ (l + 1) = 2 ^ l * 2 := by rw [Nat.zero_add, Nat.pow_succ]
      have h2 : 0 < 2 ^ l := Nat.pow_pos (by decide)
      omega
    | succ cnt ihc =>
      simp only [Tn]
      have h1 := ih (cnt + 1)
      have h2 : (cnt + 2) ^ (l + 1) ≤ (cnt + 3) ^ l * (cnt + 2) := by
        rw [Nat.pow_succ]; exact Nat.mul_le_mul_right _ (Nat.pow_le_pow_left (by omega) l)
      have h3 : (cnt + 1 + 2) ^ (l + 1) = (cnt + 3) ^ l * (cnt + 2) + (cnt + 3) ^ l := by
        rw [Nat.pow_succ, show cnt + 1 + 2 = cnt + 2 + 1 by omega, Nat.mul_add, Nat.mul_one]
      have h4 : (cnt + 1 + 2) ^ l = (cnt + 3) ^ l := rfl
      omega
def F9 (M M' : Mem) : Prop := ∀ k i, k ≠ 97 → k ≠ 98 → k ≠ 99 → M' k i = M k i
theorem F9.tr {M M' M'' : Mem} (h : F9 M M') (h' : F9 M' M'') : F9 M M'' := fun k i a b c => (h' k i a b c).trans (h k i a b c)
theorem Gm_up {M : Mem} {p : List Nat} {i : Nat} {v : Int} (h : Gm M p) (hi : p.length ≤ i) : Gm (up M 97 i v) p := fun j hj => by rw [up_i, if_neg (by omega)]; exact h j hj
theorem Gm_app {M : Mem} {p : List Nat} {c : Nat} (h : Gm M p) (hc : M 97 p.length = (c : Int)) : Gm M (p ++ [c]) := fun i hi => by
  rw [List.length_append, List.length_singleton] at hi
  by_cases q : i = p.length
  · rw [q, hc]; simp
  · rw [h i (by omega), List.getD_eq_getElem?_getD, List.getD_eq_getElem?_getD, List.getElem?_append_left (by omega)]
theorem Gm_l {M : Mem} {p q : List Nat} (h : Gm M (p ++ q)) : Gm M p := fun i hi => by
  have := h i (by rw [List.length_append]; omega)
  rw [this, List.getD_eq_getElem?_getD, List.getD_eq_getElem?_getD, List.getElem?_append_left hi]
theorem Gm_f {M M' : Mem} {p : List Nat} (h : Gm M p) (he : ∀ i, M' 97 i = M 97 i) : Gm M' p := fun i hi => by rw [he]; exact h i hi
theorem sim {k n most : Nat} (hk : k ≤ 3) (hn : n ≤ 5) (hm : most ≤ 60) : ∀ (l cnt c : Nat) (p : List Nat) (S1 S2 W : Nat) (M : Mem) (N : Nat), p.length + (l + 1) + 1 = n → (∀ i, i < p.length → p.getD i 0 ≤ 60) → Rp k (p ++ [most]) S1 S2 W → Gm M p → M 97 p.length = (c : Int) - 1 → 1 ≤ c → c + cnt + (l + 1) = most + 1 → Tn (l + 1) cnt < N →
    (∀ r, fd k (l + 1) cnt c S1 S2 W = some r → ∃ M', lq2 (fn_X11_chooses_L10 71 n k most) N p.length M = some (1, M') ∧ F9 M M' ∧ Gm M' (p ++ r ++ [most]) ∧ r.length = l + 1) ∧
    (fd k (l + 1) cnt c S1 S2 W = none → ∃ M' N', N ≤ N' + Tn (l + 1) cnt ∧ lq2 (fn_X11_chooses_L10 71 n k most) N p.length M = lq2 (fn_X11_chooses_L10 71 n k most) N' ((p.length : Int) - 1) M' ∧ F9 M M' ∧ Gm M' p) := by
  intro l
  induction l with
  | zero =>
    intro cnt
    induction cnt with
    | zero =>
      intro c p S1 S2 W M N hl hp hR hG hc hc1 hb hN
      obtain ⟨N, rfl⟩ : ∃ N', N = N' + 1 := ⟨N - 1, by omega⟩
      refine ⟨fun r h => (by rw [fd_z] at h; cases h), fun _ => ⟨up M 97 p.length (c : Int), N, by simp [Tn], ?_, fun k i a b d => by rw [up_o a], Gm_up hG (Nat.le_refl _)⟩⟩
      show fn_X11_chooses_L10 71 n k most (lq2 (fn_X11_chooses_L10 71 n k most) N) p.length M = _
      unfold fn_X11_chooses_L10
      rw [cLt_if (by omega) (by omega) (by decide) (by decide), if_neg (by omega), rd_eq (by omega) (by omega), wr_eq (by omega) (by omega), rd_eq (by omega) (by omega), Int.toNat_natCast, show 71 + 26 = 97 from rfl, up_i, if_pos rfl, hc, show (c : Int) - 1 + 1 = (c : Int) by omega, cLt_if (by omega) (by omega) (by omega) (by omega), if_pos (by omega), nm_eq, show (p.length : Int) + -1 = (p.length : Int) - 1 by omega]
    | succ cnt ihc =>
      intro c p S1 S2 W M N hl hp hR hG hc hc1 hb hN
      obtain ⟨N, rfl⟩ : ∃ N', N = N' + 1 := ⟨N - 1, by omega⟩
      have hT : Tn (0 + 1) (cnt + 1) = 1 + Tn 0 (cnt + 1) + Tn (0 + 1) cnt := by simp only [Tn]
      have hT0 : Tn 0 (cnt + 1) = 0 := by simp only [Tn]
      generalize hM1 : up M 97 p.length (c : Int) = M1
      have g1 : Gm M1 (p ++ [c]) := by rw [← hM1]; exact Gm_app (Gm_up hG (Nat.le_refl _)) (by rw [up_i, if_pos rfl])
      have hlen : (p ++ [c]).length = p.length + 1 := by rw [List.length_append, List.length_singleton]
      have hpc : ∀ i, i < (p ++ [c]).length → (p ++ [c]).getD i 0 ≤ 60 := fun i hi => by
        by_cases q : i = p.length
        · rw [q]; simp; omega
        · rw [List.getD_eq_getElem?_getD, List.getElem?_append_left (by omega), ← List.getD_eq_getElem?_getD]; exact hp i (by omega)
      obtain ⟨is, M2, u1, u2, u3⟩ := q_unlike (k := k) (most := most) g1 (by omega) hpc hm hk
      have e1 : lq2 (fn_X11_chooses_L10 71 n k most) (N + 1) p.length M = cEq is 0 (lq2 (fn_X11_chooses_L10 71 n k most) N p.length M2) (wr M2 97 5 ((n : Int) - 1) most fun M79 => some (1, M79)) := by
        show fn_X11_chooses_L10 71 n k most (lq2 (fn_X11_chooses_L10 71 n k most) N) p.length M = _
        unfold fn_X11_chooses_L10
        rw [cLt_if (by omega) (by omega) (by decide) (by decide), if_neg (by omega), rd_eq (by omega) (by omega), wr_eq (by omega) (by omega), rd_eq (by omega) (by omega), Int.toNat_natCast, show 71 + 26 = 97 from rfl, up_i, if_pos rfl, hc, show (c : Int) - 1 + 1 = (c : Int) by omega, hM1, cLt_if (by omega) (by omega) (by omega) (by omega), if_neg (by omega), show (p.length : Int) + 1 = ((p ++ [c]).length : Int) by omega, u1, cl_s, cEq_if (x := (p.length : Int)) (by omega) (by omega) (by omega) (by omega), if_pos (by omega)]
      have f1 : F9 M M2 := fun k i a b d => by rw [u2 k i b d, ← hM1, up_o a]
      have g2 : Gm M2 (p ++ [c]) := Gm_f g1 (fun i => u2 97 i (by decide) (by decide))
      have ad := adm_ok (x := c) (p := p) (s := [most]) hR
      rw [show (p ++ [c]) ++ [most] = p ++ c :: [most] by simp] at u3
      rw [fd_s]
      rcases ad with ⟨hu, S1', S2', W', hR', hf⟩ | ⟨hu, hf⟩
      · rw [hf]
        obtain rfl : is = 1 := by
          rcases u3 with h | h
          · exact h.1
          · exact absurd hu h.2
        rw [fd_0, e1, cEq_if (by decide) (by decide) (by decide) (by decide), if_neg (by decide), wr_eq (by omega) (by omega)]
        refine ⟨fun r h => ?_, fun h => by cases h⟩
        cases h
        refine ⟨_, rfl, f1.tr (fun k i a b d => by rw [up_o a]), ?_, rfl⟩
        rw [show ((n : Int) - 1).toNat = (p ++ [c]).length by omega]
        exact Gm_app (Gm_up g2 (Nat.le_refl _)) (by rw [up_i, if_pos rfl])
      · rw [hf]
        obtain rfl : is = 0 := by
          rcases u3 with h | h
          · exact absurd h.2 hu
          · exact h.1
        rw [e1, cEq_if (by decide) (by decide) (by decide) (by decide), if_pos rfl]
        have hc2 : M2 97 p.length = ((c + 1 : Nat) : Int) - 1 := by
          have := g2 p.length (by omega)
          rw [this]; simp
        obtain ⟨i1, i2⟩ := ihc (c + 1) p S1 S2 W M2 N hl hp hR (Gm_l g2) hc2 (by omega) (by omega) (by omega)
        refine ⟨fun r h => ?_, fun h => ?_⟩
        · obtain ⟨M', a1, a2, a3, a4⟩ := i1 r h
          exact ⟨M', a1, f1.tr a2, a3, a4⟩
        · obtain ⟨M', N', a1, a2, a3, a4⟩ := i2 h
          exact ⟨M', N', by omega, a2, f1.tr a3, a4⟩
  | succ l ihl =>
    intro cnt
    induction cnt with
    | zero =>
      intro c p S1 S2 W M N hl hp hR hG hc hc1 hb hN
      obtain ⟨N, rfl⟩ : ∃ N', N = N' + 1 := ⟨N - 1, by omega⟩
      refine ⟨fun r h => (by rw [fd_z] at h; cases h), fun _ => ⟨up M 97 p.length (c : Int), N, by simp [Tn], ?_, fun k i a b d => by rw [up_o a], Gm_up hG (Nat.le_refl _)⟩⟩
      show fn_X11_chooses_L10 71 n k most (lq2 (fn_X11_chooses_L10 71 n k most) N) p.length M = _
      unfold fn_X11_chooses_L10
      rw [cLt_if (by omega) (by omega) (by decide) (by decide), if_neg (by omega), rd_eq (by omega) (by omega), wr_eq (by omega) (by omega), rd_eq (by omega) (by omega), Int.toNat_natCast, show 71 + 26 = 97 from rfl, up_i, if_pos rfl, hc, show (c : Int) - 1 + 1 = (c : Int) by omega, cLt_if (by omega) (by omega) (by omega) (by omega), if_pos (by omega), nm_eq, show (p.length : Int) + -1 = (p.length : Int) - 1 by omega]
    | succ cnt ihc =>
      intro c p S1 S2 W M N hl hp hR hG hc hc1 hb hN
      obtain ⟨N, rfl⟩ : ∃ N', N = N' + 1 := ⟨N - 1, by omega⟩
      have hT : Tn (l + 1 + 1) (cnt + 1) = 1 + Tn (l + 1) (cnt + 1) + Tn (l + 1 + 1) cnt := by simp only [Tn]
      generalize hM1 : up M 97 p.length (c : Int) = M1
      have g1 : Gm M1 (p ++ [c]) := by rw [← hM1]; exact Gm_app (Gm_up hG (Nat.le_refl _)) (by rw [up_i, if_pos rfl])
      have hlen : (p ++ [c]).length = p.length + 1 := by rw [List.length_append, List.length_singleton]
      have hpc : ∀ i, i < (p ++ [c]).length → (p ++ [c]).getD i 0 ≤ 60 := fun i hi => by
        by_cases q : i = p.length
        · rw [q]; simp; omega
        · rw [List.getD_eq_getElem?_getD, List.getElem?_append_left (by omega), ← List.getD_eq_getElem?_getD]; exact hp i (by omega)
      obtain ⟨is, M2, u1, u2, u3⟩ := q_unlike (k := k) (most := most) g1 (by omega) hpc hm hk
      have g2 : Gm M2 (p ++ [c]) := Gm_f g1 (fun i => u2 97 i (by decide) (by decide))
      have hcc : M2 97 p.length = (c : Int) := by
        have := g2 p.length (by omega)
        rw [this]; simp
      have e1 : lq2 (fn_X11_chooses_L10 71 n k most) (N + 1) p.length M = cEq is 0 (lq2 (fn_X11_chooses_L10 71 n k most) N p.length M2) (lq2 (fn_X11_chooses_L10 71 n k most) N ((p ++ [c]).length : Int) (up M2 97 (p.length + 1) (c : Int))) := by
        show fn_X11_chooses_L10 71 n k most (lq2 (fn_X11_chooses_L10 71 n k most) N) p.length M = _
        unfold fn_X11_chooses_L10
        rw [cLt_if (by omega) (by omega) (by decide) (by decide), if_neg (by omega), rd_eq (by omega) (by omega), wr_eq (by omega) (by omega), rd_eq (by omega) (by omega), Int.toNat_natCast, show 71 + 26 = 97 from rfl, up_i, if_pos rfl, hc, show (c : Int) - 1 + 1 = (c : Int) by omega, hM1, cLt_if (by omega) (by omega) (by omega) (by omega), if_neg (by omega), show (p.length : Int) + 1 = ((p ++ [c]).length : Int) by omega, u1, cl_s, cEq_if (x := (p.length : Int)) (by omega) (by omega) (by omega) (by omega), if_neg (by omega), nm_eq, rd_eq (by omega) (by omega), wr_eq (by omega) (by omega), show (((p ++ [c]).length : Int) - 1).toNat = p.length by omega, hcc, Int.toNat_natCast, hlen]
      have f1 : F9 M M2 := fun k i a b d => by rw [u2 k i b d, ← hM1, up_o a]
      have ad := adm_ok (x := c) (p := p) (s := [most]) hR
      rw [show (p ++ [c]) ++ [most] = p ++ c :: [most] by simp] at u3
      have next : ∀ M3 N3, F9 M M3 → Gm M3 (p ++ [c]) → N ≤ N3 + Tn (l + 1) (cnt + 1) → (∀ r, fd k (l + 1 + 1) cnt (c + 1) S1 S2 W = some r → ∃ M', lq2 (fn_X11_chooses_L10 71 n k most) N3 p.length M3 = some (1, M') ∧ F9 M M' ∧ Gm M' (p ++ r ++ [most]) ∧ r.length = l + 1 + 1) ∧ (fd k (l + 1 + 1) cnt (c + 1) S1 S2 W = none → ∃ M' N', N + 1 ≤ N' + Tn (l + 1 + 1) (cnt + 1) ∧ lq2 (fn_X11_chooses_L10 71 n k most) N3 p.length M3 = lq2 (fn_X11_chooses_L10 71 n k most) N' ((p.length : Int) - 1) M' ∧ F9 M M' ∧ Gm M' p) := by
        intro M3 N3 f3 g3 hN3
        have hc3 : M3 97 p.length = ((c + 1 : Nat) : Int) - 1 := by
          have := g3 p.length (by omega)
          rw [this]; simp
        obtain ⟨i1, i2⟩ := ihc (c + 1) p S1 S2 W M3 N3 hl hp hR (Gm_l g3) hc3 (by omega) (by omega) (by omega)
        refine ⟨fun r h => ?_, fun h => ?_⟩
        · obtain ⟨M', a1, a2, a3, a4⟩ := i1 r h
          exact ⟨M', a1, f3.tr a2, a3, a4⟩
        · obtain ⟨M', N', a1, a2, a3, a4⟩ := i2 h
          exact ⟨M', N', by omega, a2, f3.tr a3, a4⟩
      rw [fd_s]
      rcases ad with ⟨hu, S1', S2', W', hR', hf⟩ | ⟨hu, hf⟩
      · rw [hf]
        obtain rfl : is = 1 := by
          rcases u3 with h | h
          · exact h.1
          · exact absurd hu h.2
        rw [e1, cEq_if (by decide) (by decide) (by decide) (by decide), if_neg (by decide)]
        rw [show p ++ c :: [most] = (p ++ [c]) ++ [most] by simp] at hR'
        have f2 : F9 M (up M2 97 (p.length + 1) (c : Int)) := f1.tr (fun k i a b d => by rw [up_o a])
        obtain ⟨i1, i2⟩ := ihl (cnt + 1) (c + 1) (p ++ [c]) S1' S2' W' (up M2 97 (p.length + 1) (c : Int)) N (by omega) hpc hR' (Gm_up g2 (by omega)) (by rw [hlen, up_i, if_pos rfl]; omega) (by omega) (by omega) (by omega)
        cases hfd : fd k (l + 1) (cnt + 1) (c + 1) S1' S2' W' with
        | some r' =>
          obtain ⟨M', a1, a2, a3, a4⟩ := i1 r' hfd
          refine ⟨fun r h => ?_, fun h => by cases h⟩
          cases h
          refine ⟨M', a1, f2.tr a2, ?_, by rw [List.length_cons, a4]⟩
          rw [show p ++ c :: r' ++ [most] = p ++ [c] ++ r' ++ [most] by simp]; exact a3
        | none =>
          obtain ⟨M', N', a1, a2, a3, a4⟩ := i2 hfd
          rw [a2, hlen, show ((p.length + 1 : Nat) : Int) - 1 = (p.length : Int) by omega]
          exact next M' N' (f2.tr a3) a4 a1
      · rw [hf]
        obtain rfl : is = 0 := by
          rcases u3 with h | h
          · exact absurd h.2 hu
          · exact h.1
        rw [e1, cEq_if (by decide) (by decide) (by decide) (by decide), if_pos rfl]
        exact next M2 N f1 g2 (by omega)
noncomputable def fdm (n k most : Nat) : Option (List Nat) := fd k (n - 1) (most + 1 - n) 1 (Nat.shiftLeft 1 most) (Nat.shiftLeft 1 (2 * most)) (Nat.lor (Nat.shiftLeft 1 most) (cond (Nat.ble 2 k) (Nat.lor (Nat.shiftLeft 1 (2 * most)) (cond (Nat.ble 3 k) (Nat.shiftLeft 1 (3 * most)) 0)) 0))
theorem Rp_0 {k most : Nat} (hk : 1 ≤ k ∧ k ≤ 3) (hm : 1 ≤ most) : Rp k ([] ++ [most]) (Nat.shiftLeft 1 most) (Nat.shiftLeft 1 (2 * most)) (Nat.lor (Nat.shiftLeft 1 most) (cond (Nat.ble 2 k) (Nat.lor (Nat.shiftLeft 1 (2 * most)) (cond (Nat.ble 3 k) (Nat.shiftLeft 1 (3 * most)) 0)) 0)) := by
  have e1 : ∀ v : Int, c1 [most] v = if v = (most : Int) then 1 else 0 := fun v => rfl
  have e2 : ∀ v : Int, c2 [most] v = if v = 2 * (most : Int) then 1 else 0 := fun v => by
    show (if v - most = (most : Int) then 1 else 0) + 0 + 0 = _
    split <;> split <;> omega
  have e3 : ∀ v : Int, c3 [most] v = if v = 3 * (most : Int) then 1 else 0 := fun v => by
    show c2 [most] (v - most) + 0 = _
    rw [e2]
    split <;> split <;> omega
  have hk3 : k = 1 ∨ k = 2 ∨ k = 3 := by omega
  show Rp k [most] _ _ _
  refine ⟨fun v => ?_, fun _ v => ?_, fun v => ?_, fun v => ?_⟩
  · rw [tl_1, e1]; split <;> omega
  · rw [tl_1, e2]; split <;> omega
  · rw [tl_or, Bool.or_eq_true, tl_1]
    unfold tk
    rw [e1, e2, e3]
    rcases hk3 with rfl | rfl | rfl
    · show v = most ∨ Nat.testBit 0 v = true ↔ (if (v : Int) = most then 1 else 0) + 0 + 0 = 1
      rw [Nat.zero_testBit]
      split
      · exact ⟨fun _ => rfl, fun _ => Or.inl (by omega)⟩
      · exact ⟨fun h => (by rcases h with h | h; omega; cases h), fun h => by omega⟩
    · show v = most ∨ Nat.testBit (Nat.lor (Nat.shiftLeft 1 (2 * most)) 0) v = true ↔ (if (v : Int) = most then 1 else 0) + (if (v : Int) = 2 * most then 1 else 0) + 0 = 1
      rw [tl_or, Nat.zero_testBit, Bool.or_false, tl_1]
      split <;> split <;> omega
    · show v = most ∨ Nat.testBit (Nat.lor (Nat.shiftLeft 1 (2 * most)) (Nat.shiftLeft 1 (3 * most))) v = true ↔ (if (v : Int) = most then 1 else 0) + (if (v : Int) = 2 * most then 1 else 0) + (if (v : Int) = 3 * most then 1 else 0) = 1
      rw [tl_or, Bool.or_eq_true, tl_1, tl_1]
      split <;> split <;> split <;> omega
  · unfold tk
    rw [e1, e2, e3]
    rcases hk3 with rfl | rfl | rfl
    · show (if v = (most : Int) then 1 else 0) + 0 + 0 ≤ 1
      split <;> omega
    · show (if v = (most : Int) then 1 else 0) + (if v = 2 * (most : Int) then 1 else 0) + 0 ≤ 1
      split <;> split <;> omega
    · show (if v = (most : Int) then 1 else 0) + (if v = 2 * (most : Int) then 1 else 0) + (if v = 3 * (most : Int) then 1 else 0) ≤ 1
      split <;> split <;> split <;> omega
theorem q_chooses {n k most : Nat} {M : Mem} (hn : 2 ≤ n ∧ n ≤ 5) (hk : 1 ≤ k ∧ k ≤ 3) (hm : n ≤ most ∧ most ≤ 60) :
    (fdm n k most = none → ∃ M', fn_X11_chooses 71 n k most M = some (0, M') ∧ F9 M M') ∧ ∀ r, fdm n k most = some r → ∃ M', fn_X11_chooses 71 n k most M = some (1, M') ∧ F9 M M' ∧ Gm M' (r ++ [most]) := by
  obtain ⟨l, rfl⟩ : ∃ l, n = l + 2 := ⟨n - 2, by omega⟩
  have hT := Tn_bd (l + 1) (most + 1 - (l + 2))
  have hT2 : (most + 1 - (l + 2) + 2) ^ (l + 1) ≤ 100000000 := by
    have h1 : (most + 1 - (l + 2) + 2) ^ (l + 1) ≤ 62 ^ (l + 1) := Nat.pow_le_pow_left (by omega) _
    have h2 : 62 ^ (l + 1) ≤ 62 ^ 4 := Nat.pow_le_pow_right (by decide) (by omega)
    have h3 : 62 ^ 4 ≤ 100000000 := by decide
    omega
  obtain ⟨s1, s2⟩ := sim (k := k) (n := l + 2) (most := most) hk.2 hn.2 hm.2 l (most + 1 - (l + 2)) 1 [] _ _ _ (up M 97 0 0) FU (by show 0 + (l + 1) + 1 = l + 2; omega) (fun i hi => by cases hi) (Rp_0 hk (by omega)) (fun i hi => by cases hi) (by show up M 97 0 0 97 0 = 0; rw [up_i, if_pos rfl]) (by omega) (by omega) (lt_FU (by omega))
  have f0 : F9 M (up M 97 0 0) := fun k i a b d => by rw [up_o a]
  have e0 : fn_X11_chooses 71 ((l + 2 : Nat) : Int) k most M = lq2 (fn_X11_chooses_L10 71 ((l + 2 : Nat) : Int) k most) FU (([] : List Nat).length : Int) (up M 97 0 0) := by
    unfold fn_X11_chooses
    rw [wr_eq (by decide) (by decide)]; rfl
  rw [e0]
  refine ⟨fun h => ?_, fun r h => ?_⟩
  · obtain ⟨M', N', a1, a2, a3, a4⟩ := s2 h
    have hN' : 1 ≤ N' := by
      have : Tn (l + 1) (most + 1 - (l + 2)) < FU := lt_FU (by omega)
      omega
    obtain ⟨N', rfl⟩ : ∃ x, N' = x + 1 := ⟨N' - 1, by omega⟩
    refine ⟨M', ?_, f0.tr a3⟩
    rw [a2]
    show fn_X11_chooses_L10 71 ((l + 2 : Nat) : Int) k most _ (((0 : Nat) : Int) - 1) M' = _
    unfold fn_X11_chooses_L10
    rw [cLt_if (by decide) (by decide) (by decide) (by decide), if_pos (by decide)]
  · obtain ⟨M', a1, a2, a3, a4⟩ := s1 r h
    exact ⟨M', a1, f0.tr a2, a3⟩
theorem q_chosenL {n k i m0 : Nat} {r : List Nat} {M : Mem} (hn : 2 ≤ n ∧ n ≤ 5) (hk : 1 ≤ k ∧ k ≤ 3) (hi : i < n) (hm : n ≤ m0 ∧ m0 ≤ 60) (h0 : ∀ m, m < m0 → n ≤ m → (fdm n k m).isNone = true) (h1 : fdm n k m0 = some r) (hl : r.length + 1 = n) :
    ∃ M', lq2 (fn_X11_chosen_L34 71 n k i) FU n M = some (((r ++ [m0]).getD i 0 : Int), M') ∧ F9 M M' := by
  refine lr2 (P := fun o => ∃ M', o = some (((r ++ [m0]).getD i 0 : Int), M') ∧ F9 M M') (I := fun q a G => ∃ m : Nat, m + q = m0 ∧ n ≤ m ∧ a = (m : Int) ∧ F9 M G) ?_ (m0 - n) FU n M (lt_FU (by omega)) ⟨n, by omega, Nat.le_refl _, rfl, fun _ _ _ _ _ => rfl⟩
  rintro q a G rec ⟨m, e1, e2, rfl, e3⟩ ih
  have hc := q_chooses (n := n) (k := k) (most := m) (M := G) hn hk (by omega)
  unfold fn_X11_chosen_L34
  rw [cLt_if (by decide) (by decide) (by omega) (by omega), if_neg (by omega)]
  by_cases q1 : m = m0
  · subst q1
    obtain ⟨M', a1, a2, a3⟩ := hc.2 r h1
    rw [a1, cl_s, cEq_if (by decide) (by decide) (by decide) (by decide), if_neg (by decide), rd_eq (by omega) (by omega), Int.toNat_natCast, show 71 + 26 = 97 from rfl, a3 i (by rw [List.length_append, List.length_singleton]; omega)]
    exact ⟨M', rfl, e3.tr a2⟩
  · obtain ⟨q, rfl⟩ : ∃ r', q = r' + 1 := ⟨q - 1, by omega⟩
    obtain ⟨M', a1, a2⟩ := hc.1 (Option.isNone_iff_eq_none.mp (h0 m (by omega) e2))
    rw [a1, cl_s, cEq_if (by decide) (by decide) (by decide) (by decide), if_pos rfl, nm_eq]
    exact ih q _ _ (by omega) ⟨m + 1, by omega, by omega, by omega, e3.tr a2⟩
