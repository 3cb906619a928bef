/-! TEXTS on both sides -/
def LawR (C D : Mem) (q f t : Nat) (w : Int) (b : Bool) : Prop :=
  ((0 ≤ C (43 + 5 * q) f ∧ C (43 + 5 * q) f ≤ 300) ∧ 0 ≤ C (43 + 5 * q) t ∧ C (43 + 5 * q) t ≤ 300) ∧
  ((C (43 + 5 * q) f < C (43 + 5 * q) t ∧ ∃ (k p : Nat) (xs : List Int), (k : Int) < C (43 + 5 * q) 9 ∧ (∀ k' : Nat, (k' : Int) < C (43 + 5 * q) 9 → (D 76 (20 * q + k') = w ↔ k' = k)) ∧ C (43 + 5 * q) t = C (43 + 5 * q) f + (xs.length : Int) ∧ Cd C (43 + 5 * q + 1) (C (43 + 5 * q) f).toNat xs ∧ D 77 (20 * q + k) = (p : Int) ∧ p + xs.length < 1600 ∧ Od D p xs ∧ wf xs [] [b]) ∨
   (¬ C (43 + 5 * q) f < C (43 + 5 * q) t ∧ ∀ k' : Nat, (k' : Int) < C (43 + 5 * q) 9 → D 76 (20 * q + k') ≠ w))
def TxR (C D : Mem) (q : Nat) : Prop := ((0 ≤ C (43 + 5 * q) 9 ∧ C (43 + 5 * q) 9 ≤ 20) ∧ D 75 q = C (43 + 5 * q) 9) ∧
  (∀ k : Nat, (k : Int) < C (43 + 5 * q) 9 → (4 ≤ C (43 + 5 * q + 2) k ∧ C (43 + 5 * q + 2) k ≤ 8) ∧ D 76 (20 * q + k) = C (43 + 5 * q + 2) k - 4 ∧ (6 ≤ C (43 + 5 * q + 2) k → (0 ≤ C (43 + 5 * q + 3) k ∧ C (43 + 5 * q + 3) k ≤ 99) ∧ D 78 (20 * q + k) = C (43 + 5 * q + 3) k) ∧ (C (43 + 5 * q + 2) k = 6 → (0 ≤ C (43 + 5 * q + 4) k ∧ C (43 + 5 * q + 4) k ≤ 9) ∧ D 79 (20 * q + k) = C (43 + 5 * q + 4) k)) ∧
  LawR C D q 2 3 0 true ∧ LawR C D q 4 5 1 false
theorem Cd_same {M M' : Mem} {c : Nat} (h : ∀ i, M' c i = M c i) : ∀ {xs : List Int} {p : Nat}, Cd M c p xs → Cd M' c p xs
  | [], _, _ => trivial
  | x :: xs, p, hx => ⟨by rw [h]; exact hx.1, Cd_same h hx.2⟩
theorem Od_same {M M' : Mem} (h : ∀ i, M' 80 i = M 80 i) (h' : ∀ i, M' 81 i = M 81 i) : ∀ {xs : List Int} {p : Nat}, Od M p xs → Od M' p xs
  | [], p, hx => by show M' 80 p = 408; rw [h]; exact hx
  | x :: xs, p, hx => ⟨by rw [h]; exact hx.1, by rw [h']; exact hx.2.1, Od_same h h' hx.2.2⟩
theorem LawR_f {C C' D D' : Mem} {q f t : Nat} {w : Int} {b : Bool} (hC : ∀ k i, 43 + 5 * q ≤ k → k ≤ 43 + 5 * q + 4 → C' k i = C k i) (hD : ∀ k i, 75 ≤ k → k ≤ 81 → D' k i = D k i) (h : LawR C D q f t w b) : LawR C' D' q f t w b := by
  have e : ∀ i, C' (43 + 5 * q) i = C (43 + 5 * q) i := fun i => hC _ i (by omega) (by omega)
  have d6 : ∀ i, D' 76 i = D 76 i := fun i => hD _ i (by omega) (by omega)
  have d7 : ∀ i, D' 77 i = D 77 i := fun i => hD _ i (by omega) (by omega)
  simp only [LawR, e, d6, d7] at h ⊢
  refine ⟨h.1, ?_⟩
  rcases h.2 with ⟨h1, k, p, xs, h2, h3, h4, h5, h6, h7, h8, h9⟩ | h1
  · exact Or.inl ⟨h1, k, p, xs, h2, h3, h4, Cd_same (fun i => hC _ i (by omega) (by omega)) h5, h6, h7, Od_same (fun i => hD _ i (by omega) (by omega)) (fun i => hD _ i (by omega) (by omega)) h8, h9⟩
  · exact Or.inr h1
theorem TxR_f {C C' D D' : Mem} {q : Nat} (hC : ∀ k i, 43 + 5 * q ≤ k → k ≤ 43 + 5 * q + 4 → C' k i = C k i) (hD : ∀ k i, 75 ≤ k → k ≤ 81 → D' k i = D k i) (h : TxR C D q) : TxR C' D' q := by
  obtain ⟨h1, h2, h3, h4⟩ := h
  refine ⟨?_, ?_, LawR_f hC hD h3, LawR_f hC hD h4⟩
  · rw [hC _ _ (by omega) (by omega), hD _ _ (by omega) (by omega)]; exact h1
  · intro k hk
    rw [hC _ _ (by omega) (by omega)] at hk
    rw [hC _ _ (by omega) (by omega), hC _ _ (by omega) (by omega), hC _ _ (by omega) (by omega), hD _ _ (by omega) (by omega), hD _ _ (by omega) (by omega), hD _ _ (by omega) (by omega)]; exact h2 k hk
/-- all TEXTS of now -/
def TXs (C D : Mem) : Prop := ∀ q : Nat, (q : Int) < C 1 11 → TxR C D q
theorem TXs_f {C C' D D' : Mem} (hn : C' 1 11 = C 1 11) (h4 : C 1 11 ≤ 4) (hC : ∀ k i, 43 ≤ k → k ≤ 62 → C' k i = C k i) (hD : ∀ k i, 75 ≤ k → k ≤ 81 → D' k i = D k i) (h : TXs C D) : TXs C' D' := by
  intro q hq
  rw [hn] at hq
  exact TxR_f (fun k i a b => hC k i (by omega) (by omega)) hD (h q hq)
/-- what a law says, on both sides -/
theorem law_both {n : Nat} {C D : Mem} {h c q f t : Nat} {w : Int} {b : Bool} (hn : n ≤ 6336) (hO : OkS 1 n C) (hh : (h : Int) < C 1 1) (hc : (c : Int) < C 1 7) (hq : q < 4) (hnm : ∀ i, i < 7 → D 92 i = nmv C h c i) (hL : LawR C D q f t w b) :
    (C (43 + 5 * q) f < C (43 + 5 * q) t ∧ ∃ (k : Nat) (v : Int), (k : Int) < C (43 + 5 * q) 9 ∧ (∀ k' : Nat, (k' : Int) < C (43 + 5 * q) 9 → (D 76 (20 * q + k') = w ↔ k' = k)) ∧ vok b v ∧ (0 ≤ D 77 (20 * q + k)) ∧
      (∀ M, S3k C M → ∃ M', fn_X3_worth 63 (43 + 5 * q) (C (43 + 5 * q) f) (C (43 + 5 * q) t) 1 h c M = some (v, M') ∧ S3k C M') ∧ (∀ M, S93 D M → ∃ M', fn_X11_saysOf 71 (D 77 (20 * q + k)) M = some (v, M') ∧ S93 D M')) ∨
    (¬ C (43 + 5 * q) f < C (43 + 5 * q) t ∧ ∀ k' : Nat, (k' : Int) < C (43 + 5 * q) 9 → D 76 (20 * q + k') ≠ w) := by
  obtain ⟨⟨r1, r2⟩, hL⟩ := hL
  rcases hL with ⟨h1, k, p, xs, h2, h3, h4, h5, h6, h7, h8, h9⟩ | h1
  · left
    obtain ⟨fr, hfr⟩ := Int.eq_ofNat_of_zero_le r1.1
    obtain ⟨to, hto⟩ := Int.eq_ofNat_of_zero_le r2.1
    rw [hfr, Int.toNat_natCast] at h5
    have hnk := nmv_ok hn hO hh hc
    obtain ⟨v, M', a1, a2, a3, a4⟩ := p_worth (M := C) hn hO hh hc (r := 43 + 5 * q) (by omega) (fr := fr) (to := to) (by omega) (by omega) h5 h9 S3k.rf
    refine ⟨h1, k, v, h2, h3, a3, by rw [h6]; omega, fun M hM => ?_, fun M hM => ?_⟩
    · obtain ⟨v', M'', b1, b2, b3, b4⟩ := p_worth (M := M) hn hO hh hc (r := 43 + 5 * q) (by omega) (fr := fr) (to := to) (by omega) (by omega) h5 h9 hM
      rw [a2] at b2
      injection b2 with b2 _
      subst b2
      rw [hfr, hto]; exact ⟨M'', b1, b4⟩
    · obtain ⟨v', M'', b1, b2, b4⟩ := q_says (M := M) hnk hnm h7 h8 h9 hM
      rw [a2] at b2
      injection b2 with b2 _
      subst b2
      rw [h6]; exact ⟨M'', b1, b4⟩
  · exact Or.inr h1
theorem q_loop {D : Mem} {q n kg kr : Nat} {gv rv g0 : Int} (hq : q < 4) (hn : n ≤ 20) (e6 : D 72 6 = (q : Int)) (e75 : D 75 q = (n : Int)) (h76 : ∀ k, k < n → 0 ≤ D 76 (20 * q + k) ∧ D 76 (20 * q + k) ≤ 4)
    (hg : ∀ k, k < n → (D 76 (20 * q + k) = 0 ↔ k = kg)) (hr : ∀ k, k < n → (D 76 (20 * q + k) = 1 ↔ k = kr)) (gb : gv = 0 ∨ gv = 1) (rb : -1000000 ≤ rv ∧ rv ≤ 1000000) (gb0 : 0 ≤ g0 ∧ g0 ≤ 30)
    (hG : kg < n → ∀ M, S93 D M → ∃ M', fn_X11_saysOf 71 (D 77 (20 * q + kg)) M = some (gv, M') ∧ S93 D M') (hR : kr < n → ∀ M, S93 D M → ∃ M', fn_X11_saysOf 71 (D 77 (20 * q + kr)) M = some (rv, M') ∧ S93 D M') :
    ∃ D', lq4 (fn_X11_givesTo_L109 71) FU 0 0 g0 D = some (if kg < n ∧ gv = 1 then 0 else max 0 (min (if kr < n then rv else g0) 99), D') ∧ S93 D D' := by
  refine lr4 (P := fun o => ∃ D', o = some (if kg < n ∧ gv = 1 then 0 else max 0 (min (if kr < n then rv else g0) 99), D') ∧ S93 D D') (I := fun k a b v M => a = (n : Int) - (k : Int) ∧ k ≤ n ∧ S93 D M ∧ b = (if kg < n - k then gv else 0) ∧ v = (if kr < n - k then rv else g0)) ?_ n FU 0 0 g0 D (lt_FU (by omega)) ⟨by omega, Nat.le_refl _, S93.rf, by rw [if_neg (by omega)], by rw [if_neg (by omega)]⟩
  intro k a b v M rec ⟨h1, h2, h3, h4, h5⟩ ih
  unfold fn_X11_givesTo_L109 fn_X11_givesTo_J183 fn_X11_givesTo_J211
  have f6 : M 72 6 = (q : Int) := by rw [h3 _ _ (by decide)]; exact e6
  have f75 : M 75 q = (n : Int) := by rw [h3 _ _ (by decide)]; exact e75
  simp (disch := omega) only [rd_eq (k := 71 + 1) (i := 6), rd_eq (k := 71 + 4), Nat.reduceAdd, Int.reduceToNat, f6, cEq_if (x := (q : Int)), if_neg, Int.toNat_natCast, f75, cLt_if (y := (n : Int))]
  by_cases g : a < (n : Int)
  · rw [if_pos g]
    obtain ⟨k, rfl⟩ : ∃ k', k = k' + 1 := ⟨k - 1, by omega⟩
    have hm : n - (k + 1) < n := by omega
    have z : (20 * (q : Int) + a).toNat = 20 * q + (n - (k + 1)) := by omega
    have f76 : M 76 (20 * q + (n - (k + 1))) = D 76 (20 * q + (n - (k + 1))) := h3 _ _ (by decide)
    have f77 : M 77 (20 * q + (n - (k + 1))) = D 77 (20 * q + (n - (k + 1))) := h3 _ _ (by decide)
    have b76 := h76 _ hm
    have hg' := hg _ hm
    have hr' := hr _ hm
    simp (disch := omega) only [nm_eq, rd_eq, z, f76, f77, cEq_if]
    by_cases g1 : D 76 (20 * q + (n - (k + 1))) = 0
    · rw [if_pos g1]
      have ek := hg'.mp g1
      rw [ek]
      obtain ⟨M1, s1, s2⟩ := hG (by omega) M h3
      rw [s1, cl_s, dLt_if (by decide) (by decide) (by omega) (by omega)]
      have hkr : n - (k + 1) ≠ kr := by
        intro q9; have := hr'.mpr q9; omega
      rcases gb with rfl | rfl
      · rw [if_neg (by decide)]
        refine ih k _ _ _ _ (by omega) ⟨by omega, by omega, s2, by rw [if_pos (by omega)], ?_⟩
        rw [h5]
        by_cases g9 : kr < n - (k + 1)
        · rw [if_pos g9, if_pos (by omega)]
        · rw [if_neg g9, if_neg (by omega)]
      · rw [if_pos (by decide)]
        refine ih k _ _ _ _ (by omega) ⟨by omega, by omega, s2, by rw [if_pos (by omega)], ?_⟩
        rw [h5]
        by_cases g9 : kr < n - (k + 1)
        · rw [if_pos g9, if_pos (by omega)]
        · rw [if_neg g9, if_neg (by omega)]
    · rw [if_neg g1]
      have hkg : n - (k + 1) ≠ kg := fun q9 => g1 (hg'.mpr q9)
      have eg : (if kg < n - (k + 1) then gv else 0) = if kg < n - k then gv else 0 := by
        by_cases g9 : kg < n - (k + 1)
        · rw [if_pos g9, if_pos (by omega)]
        · rw [if_neg g9, if_neg (by omega)]
      by_cases g2 : D 76 (20 * q + (n - (k + 1))) = 1
      · rw [if_pos g2]
        have ek := hr'.mp g2
        rw [ek]
        obtain ⟨M1, s1, s2⟩ := hR (by omega) M h3
        rw [s1, cl_s]
        exact ih k _ _ _ _ (by omega) ⟨by omega, by omega, s2, by rw [h4, eg], by rw [if_pos (by omega)]⟩
      · rw [if_neg g2]
        have hkr : n - (k + 1) ≠ kr := fun q9 => g2 (hr'.mpr q9)
        refine ih k _ _ _ _ (by omega) ⟨by omega, by omega, h3, by rw [h4, eg], ?_⟩
        rw [h5]
        by_cases g9 : kr < n - (k + 1)
        · rw [if_pos g9, if_pos (by omega)]
        · rw [if_neg g9, if_neg (by omega)]
  · rw [if_neg g]
    obtain rfl : k = 0 := by omega
    rw [Nat.sub_zero] at h4 h5
    have hv : -1000000 ≤ v ∧ v ≤ 1000000 := by rw [h5]; split <;> omega
    have hb : b = 0 ∨ b = 1 := by rw [h4]; split <;> omega
    unfold fn_X11_givesTo_J217 fn_X11_givesTo_J228
    simp (disch := omega) only [cEq_if, dLt_if]
    refine ⟨M, ?_, h3⟩
    rw [← h5]
    by_cases g1 : kg < n ∧ gv = 1
    · rw [if_pos g1.1] at h4
      rw [if_neg (by omega), if_pos g1]
    · have hb0 : b = 0 := by
        rw [h4]; split
        · rcases gb with h | h
          · exact h
          · exact absurd ⟨by assumption, h⟩ g1
        · rfl
      rw [if_pos hb0, if_neg g1]
      by_cases g2 : v < 0
      · rw [if_pos g2]; congr 2; omega
      · rw [if_neg g2]
        by_cases g3 : 99 < v
        · rw [if_pos g3]; congr 2; omega
        · rw [if_neg g3]; congr 2; omega
