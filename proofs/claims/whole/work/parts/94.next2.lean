theorem sgn_cases {x : Int} (h0 : 0 ≤ x ∧ x ≤ 255) (hl : ¬ isL x) (hd : ¬ isD x) (hb : ¬ isB x) : (sk x = 1 ∧ (x = 44 ∨ ¬ ((59 ≤ x ∧ x ≤ 62) ∨ (40 ≤ x ∧ x ≤ 45) ∨ x = 47 ∨ x = 35))) ∨ ((x = 35 ∨ x = 40 ∨ x = 41 ∨ x = 42 ∨ x = 43 ∨ x = 45 ∨ x = 47 ∨ x = 59 ∨ x = 60 ∨ x = 61 ∨ x = 62) ∧ TR (sk x) 0 3 x) := by
  by_cases q : x = 35 ∨ x = 40 ∨ x = 41 ∨ x = 42 ∨ x = 43 ∨ x = 45 ∨ x = 47 ∨ x = 59 ∨ x = 60 ∨ x = 61 ∨ x = 62
  · right
    refine ⟨q, ?_⟩
    unfold TR
    rcases q with rfl | rfl | rfl | rfl | rfl | rfl | rfl | rfl | rfl | rfl | rfl <;> decide
  · left
    refine ⟨?_, by omega⟩
    unfold sk
    rw [if_neg (by omega), if_neg (by omega), if_neg (by omega), if_neg (by omega), if_neg (by omega), if_neg (by omega), if_neg (by omega), if_neg (by omega), if_neg (by omega), if_neg (by omega), if_neg (by omega)]
/-- one sign -/
theorem q_sign {M : Mem} {B : Nat → Int} {len p : Nat} (hT : Tq M B len) (hp : M 71 14 = (p : Int)) (hpl : p < len) (hl : ¬ isL (B p)) (hd : ¬ isD (B p)) (hb : ¬ isB (B p)) :
    ∃ M', (st M 71 14 ((M 71 14) + 1) fun M322 => st M322 71 17 (sg (B p)) fun M327 => cu (fn_X11_in (sg (B p)) 59 62 M327) fun x336 => cEq x336 0 (cu (fn_X11_in (sg (B p)) 40 45 M327) fun x347 => cEq x347 0 (cEq (sg (B p)) 47 (fn_X11_next_J365 71 (sg (B p)) M327) (cEq (sg (B p)) 35 (fn_X11_next_J365 71 (sg (B p)) M327) (fn_X11_next_J370 71 (sg (B p)) M327 4))) (fn_X11_next_J365 71 (sg (B p)) M327)) (fn_X11_next_J365 71 (sg (B p)) M327)) = some M' ∧ (∀ k i, ¬ (k = 71 ∧ (i = 14 ∨ i = 16 ∨ i = 17)) → M' k i = M k i) ∧
      (((B p = 60 ∨ B p = 62) ∧ p + 1 < len ∧ B (p + 1) = 61 ∧ M' 71 14 = ((p + 2 : Nat) : Int) ∧ TR (sk (B p) + 1) 0 (M' 71 16) (M' 71 17)) ∨ (¬ ((B p = 60 ∨ B p = 62) ∧ p + 1 < len ∧ B (p + 1) = 61) ∧ M' 71 14 = ((p + 1 : Nat) : Int) ∧ TR (sk (B p)) 0 (M' 71 16) (M' 71 17))) := by
  have h300 := hT.1
  obtain ⟨b1, b2, b3⟩ := hT.2.2 p hpl
  have hs3 : R3 (sg (B p)) := by unfold sg; split <;> exact ⟨by omega, by omega⟩
  rw [hp, st_eq, st_eq]
  generalize hG : up (up M 71 14 ((p : Int) + 1)) 71 17 (sg (B p)) = G
  have g1 : ∀ k i, ¬ (k = 71 ∧ (i = 14 ∨ i = 17)) → G k i = M k i := fun k i q => by rw [← hG, up_k, if_neg (by omega), up_k, if_neg (by omega)]
  have g2 : G 71 14 = ((p + 1 : Nat) : Int) := by rw [← hG, up_i, if_neg (by decide), up_i, if_pos rfl]; omega
  have g3 : G 71 17 = sg (B p) := by rw [← hG, up_i, if_pos rfl]
  have g4 : G 71 13 = (len : Int) := by rw [g1 71 13 (by omega)]; exact hT.2.1
  rw [p_in hs3 ⟨by decide, by decide⟩ ⟨by decide, by decide⟩, cu_s, cE_b2, p_in hs3 ⟨by decide, by decide⟩ ⟨by decide, by decide⟩, cu_s, cE_b2, cEq_if hs3.1 hs3.2 (by decide) (by decide), cEq_if hs3.1 hs3.2 (by decide) (by decide)]
  -- a sign that the language has
  have good : ∀ so, TR (sk (B p)) 0 so (sg (B p)) → (B p = 60 ∨ B p = 62 → so = 3) → (so = 3 ∨ so = 4) → ∃ M', fn_X11_next_J370 71 (sg (B p)) G so = some M' ∧ (∀ k i, ¬ (k = 71 ∧ (i = 14 ∨ i = 16 ∨ i = 17)) → M' k i = M k i) ∧ (((B p = 60 ∨ B p = 62) ∧ p + 1 < len ∧ B (p + 1) = 61 ∧ M' 71 14 = ((p + 2 : Nat) : Int) ∧ TR (sk (B p) + 1) 0 (M' 71 16) (M' 71 17)) ∨ (¬ ((B p = 60 ∨ B p = 62) ∧ p + 1 < len ∧ B (p + 1) = 61) ∧ M' 71 14 = ((p + 1 : Nat) : Int) ∧ TR (sk (B p)) 0 (M' 71 16) (M' 71 17))) := by
    intro so hTR hso hso2
    unfold fn_X11_next_J370
    rw [st_eq]
    have u1 : ∀ k i, ¬ (k = 71 ∧ (i = 14 ∨ i = 16 ∨ i = 17)) → up G 71 16 so k i = M k i := fun k i q => by rw [up_k, if_neg (by omega)]; exact g1 k i (by omega)
    have plain : ¬ ((B p = 60 ∨ B p = 62) ∧ p + 1 < len ∧ B (p + 1) = 61) → ∃ M', some (up G 71 16 so) = some M' ∧ (∀ k i, ¬ (k = 71 ∧ (i = 14 ∨ i = 16 ∨ i = 17)) → M' k i = M k i) ∧ (((B p = 60 ∨ B p = 62) ∧ p + 1 < len ∧ B (p + 1) = 61 ∧ M' 71 14 = ((p + 2 : Nat) : Int) ∧ TR (sk (B p) + 1) 0 (M' 71 16) (M' 71 17)) ∨ (¬ ((B p = 60 ∨ B p = 62) ∧ p + 1 < len ∧ B (p + 1) = 61) ∧ M' 71 14 = ((p + 1 : Nat) : Int) ∧ TR (sk (B p)) 0 (M' 71 16) (M' 71 17))) := fun hn => by
      refine ⟨_, rfl, u1, Or.inr ⟨hn, by rw [up_i, if_neg (by decide)]; exact g2, ?_⟩⟩
      rw [up_i, if_pos rfl, up_i, if_neg (by decide), g3]; exact hTR
    rw [cEq_if hs3.1 hs3.2 (by decide) (by decide), cEq_if hs3.1 hs3.2 (by decide) (by decide)]
    by_cases q : B p = 60 ∨ B p = 62
    · have es : sg (B p) = B p := by unfold sg; rw [if_pos (by omega)]
      have j385 : ∃ M', fn_X11_next_J385 71 (sg (B p)) (up G 71 16 so) = some M' ∧ (∀ k i, ¬ (k = 71 ∧ (i = 14 ∨ i = 16 ∨ i = 17)) → M' k i = M k i) ∧ (((B p = 60 ∨ B p = 62) ∧ p + 1 < len ∧ B (p + 1) = 61 ∧ M' 71 14 = ((p + 2 : Nat) : Int) ∧ TR (sk (B p) + 1) 0 (M' 71 16) (M' 71 17)) ∨ (¬ ((B p = 60 ∨ B p = 62) ∧ p + 1 < len ∧ B (p + 1) = 61) ∧ M' 71 14 = ((p + 1 : Nat) : Int) ∧ TR (sk (B p)) 0 (M' 71 16) (M' 71 17))) := by
        unfold fn_X11_next_J385 fn_X11_next_J426
        have w1 : up G 71 16 so 71 14 = ((p + 1 : Nat) : Int) := by rw [up_i, if_neg (by decide)]; exact g2
        have w2 : up G 71 16 so 71 13 = (len : Int) := by rw [up_i, if_neg (by decide)]; exact g4
        rw [w1, w2, cLt_if (by omega) (by omega) (by omega) (by omega)]
        by_cases q2 : ((p + 1 : Nat) : Int) < (len : Int)
        · obtain ⟨d1, d2, d3⟩ := hT.2.2 (p + 1) (by omega)
          have w3 : up G 71 16 so 74 (p + 1) = sg (B (p + 1)) := by rw [up_o (by decide), g1 74 _ (by omega)]; exact d1
          have hs4 : R3 (sg (B (p + 1))) := by unfold sg; split <;> exact ⟨by omega, by omega⟩
          rw [if_pos q2, rd_eq (by omega) (by omega), Int.toNat_natCast, show 71 + 3 = 74 from rfl, w3, cEq_if hs4.1 hs4.2 (by decide) (by decide)]
          by_cases q3 : B (p + 1) = 61
          · rw [if_pos (by unfold sg; rw [q3]; decide), cEq_if hs3.1 hs3.2 (by decide) (by decide), es]
            have fin : ∀ x, TR (sk (B p) + 1) 0 so x → ∃ M', (st (up G 71 16 so) 71 17 x fun M426 => st M426 71 14 ((M426 71 14) + 1) fun M436 => some M436) = some M' ∧ (∀ k i, ¬ (k = 71 ∧ (i = 14 ∨ i = 16 ∨ i = 17)) → M' k i = M k i) ∧ (((B p = 60 ∨ B p = 62) ∧ p + 1 < len ∧ B (p + 1) = 61 ∧ M' 71 14 = ((p + 2 : Nat) : Int) ∧ TR (sk (B p) + 1) 0 (M' 71 16) (M' 71 17)) ∨ (¬ ((B p = 60 ∨ B p = 62) ∧ p + 1 < len ∧ B (p + 1) = 61) ∧ M' 71 14 = ((p + 1 : Nat) : Int) ∧ TR (sk (B p)) 0 (M' 71 16) (M' 71 17))) := fun x hx => by
              rw [st_eq, st_eq]
              refine ⟨_, rfl, fun k i q => by rw [up_k, if_neg (by omega), up_k, if_neg (by omega)]; exact u1 k i q, Or.inl ⟨q, by omega, q3, ?_, ?_⟩⟩
              · rw [up_i, if_pos rfl, up_i, if_neg (by decide), w1]; omega
              · rw [up_i, if_neg (by decide), up_i, if_neg (by decide), up_i, if_pos rfl, up_i, if_neg (by decide), up_i, if_pos rfl]; exact hx
            have so3 := hso q
            rcases q with h | h
            · rw [if_pos h]; refine fin 300 ?_; rw [h, so3]; unfold TR; decide
            · rw [if_neg (by omega)]; refine fin 301 ?_; rw [h, so3]; unfold TR; decide
          · rw [if_neg (by unfold sg; split <;> omega)]
            exact plain (fun h => q3 h.2.2)
        · rw [if_neg q2]
          exact plain (fun h => by omega)
      rcases q with h | h
      · rw [if_pos (by omega)]; exact j385
      · rw [if_neg (by omega), if_pos (by omega)]; exact j385
    · rw [if_neg (by unfold sg; split <;> omega), if_neg (by unfold sg; split <;> omega)]
      exact plain (fun h => q h.1)
  unfold fn_X11_next_J365
  rcases sgn_cases ⟨b2, b3⟩ hl hd hb with ⟨k1, k2⟩ | ⟨k1, k2⟩
  · rcases k2 with h | h
    · have es : sg (B p) = 44 := by rw [h]; decide
      rw [if_neg (by omega), if_pos (by omega)]
      refine good 3 ?_ (fun h => rfl) (Or.inl rfl)
      rw [k1, es]; unfold TR; decide
    · rw [if_neg (by unfold sg; split <;> omega), if_neg (by unfold sg; split <;> omega), if_neg (by unfold sg; split <;> omega), if_neg (by unfold sg; split <;> omega)]
      refine good 4 ?_ (fun h9 => by omega) (Or.inr rfl)
      rw [k1]; unfold TR; exact Or.inr (Or.inl ⟨rfl, Or.inl rfl, hs3⟩)
  · have es : sg (B p) = B p := by unfold sg; rw [if_pos (by omega)]
    have hg := good 3 (by rw [es]; exact k2) (fun _ => rfl) (Or.inl rfl)
    rw [es] at hg ⊢
    by_cases q1 : 59 ≤ B p ∧ B p ≤ 62
    · rw [if_pos q1]; exact hg
    · rw [if_neg q1]
      by_cases q2 : 40 ≤ B p ∧ B p ≤ 45
      · rw [if_pos q2]; exact hg
      · rw [if_neg q2]
        by_cases q3 : B p = 47
        · rw [if_pos q3]; exact hg
        · rw [if_neg q3, if_pos (by omega)]; exact hg
theorem q_next {D : Mem} {B : Nat → Int} {len q p e : Nat} {k v : Int} (hT : Tq D B len) (hq : D 71 14 = (q : Int)) (hqp : q ≤ p) (hb : ∀ j, q ≤ j → j < p → isB (B j)) (ht : Tkn B len p e k v) :
    ∃ M, fn_X11_next 71 D = some M ∧ N4 D M ∧ M 71 14 = (e : Int) ∧ M 71 15 = (p : Int) ∧ TR k v (M 71 16) (M 71 17) := by
  have h300 := hT.1
  obtain ⟨hpe, hel, ht⟩ := ht
  have hnb : ¬ isB (B p) := by
    rcases ht with ⟨h, -⟩ | ⟨h, -⟩ | ⟨-, -, h, -⟩ | ⟨h, -⟩
    · have := h p (Nat.le_refl _) hpe; unfold isL at this; unfold isB; omega
    · have := h p (Nat.le_refl _) hpe; unfold isD at this; unfold isB; omega
    · exact h
    · unfold isB; omega
  obtain ⟨M, e1, e2, e3⟩ := q_skip hT hq hqp (by omega) hb (fun _ => hnb)
  have hTM := Tq_f e2 hT
  obtain ⟨b1, b2, b3⟩ := hTM.2.2 p (by omega)
  rw [e1]
  unfold fn_X11_next_J52
  rw [st_eq]
  generalize hG : up M 71 15 (M 71 14) = G
  have g0 : N4 M G := by rw [← hG]; exact N4.rf.up (by omega)
  have g1 : G 71 14 = (p : Int) := by rw [← hG, up_i, if_neg (by decide), e3]
  have g2 : G 71 15 = (p : Int) := by rw [← hG, up_i, if_pos rfl, e3]
  have hTG := Tq_f g0 hTM
  have g3 : G 71 13 = (len : Int) := hTG.2.1
  have g4 : G 74 p = sg (B p) := (hTG.2.2 p (by omega)).1
  rw [g1, g3, cEq_if (by omega) (by omega) (by omega) (by omega), if_neg (by omega), rd_eq (by omega) (by omega), Int.toNat_natCast, show 71 + 3 = 74 from rfl, g4]
  obtain ⟨x, x1, x2⟩ := q_isL (M := G) b2 b3
  rw [x1, cu_s, q_isD b2 b3, cu_s, cE_b2]
  have f17 : ∀ M' : Mem, (∀ k i, ¬ (k = 71 ∧ (i = 14 ∨ i = 16 ∨ i = 17)) → M' k i = G k i) → N4 D M' ∧ M' 71 15 = (p : Int) := fun M' h => ⟨(e2.tr g0).tr (fun k i q => h k i (by omega)), by rw [h 71 15 (by omega), g2]⟩
  rcases ht with ⟨t1, t2, t3, t4⟩ | ⟨t1, t2, t3, t4⟩ | ⟨t1, t2, t3, t4, t5, t6, t7⟩ | ⟨t1, t2, t3, t4, t5⟩
  · have hL := t1 p (Nat.le_refl _) hpe
    rcases x2 with ⟨rfl, x2⟩ | ⟨rfl, x2⟩
    · rw [cEq_if (by decide) (by decide) (by decide) (by decide), if_neg (by decide)]
      obtain ⟨M', w1, w2, w3, w4, w5⟩ := q_word hTG g1 ⟨hpe, hel⟩ t1 t2
      have hw := wi_in (l := bl B p (e - p))
      refine ⟨M', w1, (f17 M' w2).1, w3, (f17 M' w2).2, ?_⟩
      rw [w5, w4, t3, t4]
      unfold TR
      by_cases q1 : wi (bl B p (e - p)) < 0
      · rw [if_pos q1, if_pos q1]; exact Or.inr (Or.inl ⟨rfl, Or.inl rfl, by omega, by omega⟩)
      · rw [if_neg q1, if_neg q1]; exact Or.inr (Or.inr (Or.inr (Or.inl ⟨by omega, rfl, by omega⟩)))
    · exact absurd hL x2
  · have hDp := t1 p (Nat.le_refl _) hpe
    unfold isD at hDp
    rcases x2 with ⟨rfl, x2⟩ | ⟨rfl, x2⟩
    · unfold isL at x2; omega
    · rw [cEq_if (by decide) (by decide) (by decide) (by decide), if_pos rfl, if_pos hDp, st_eq, st_eq]
      generalize hG2 : up (up G 71 16 2) 71 17 0 = G2
      have k1 : ∀ k i, ¬ (k = 71 ∧ (i = 16 ∨ i = 17)) → G2 k i = G k i := fun k i q => by rw [← hG2, up_k, if_neg (by omega), up_k, if_neg (by omega)]
      have k2 : G2 71 16 = 2 := by rw [← hG2, up_i, if_neg (by decide), up_i, if_pos rfl]
      have k3 : G2 71 17 = 0 := by rw [← hG2, up_i, if_pos rfl]
      have hTG2 := Tq_f (D := G) (M := G2) (fun k i q => k1 k i (by omega)) hTG
      obtain ⟨M', w1, w2, w3, w4⟩ := q_num hTG2 (by rw [k1 71 14 (by omega)]; exact g1) ⟨hpe, hel⟩ t1 t2 k3
      have fr := f17 M' (fun k i q => by rw [w2 k i (by omega), k1 k i (by omega)])
      refine ⟨M', w1, fr.1, w3, fr.2, ?_⟩
      rw [w2 71 16 (by omega), k2, t3, t4]
      unfold TR
      rcases w4 with h | h
      · exact Or.inr (Or.inr (Or.inl ⟨rfl, rfl, Or.inl h⟩))
      · exact Or.inr (Or.inr (Or.inl ⟨rfl, rfl, Or.inr h⟩))
  · rcases x2 with ⟨rfl, x2⟩ | ⟨rfl, x2⟩
    · exact absurd x2 t1
    · unfold isD at t2
      rw [cEq_if (by decide) (by decide) (by decide) (by decide), if_pos rfl, if_neg t2]
      rw [show ((p : Int) + 1) = G 71 14 + 1 by rw [g1]]
      obtain ⟨M', w1, w2, w3⟩ := q_sign hTG g1 (by omega) t1 t2 t3
      have fr := f17 M' w2
      refine ⟨M', w1, fr.1, ?_, fr.2, ?_⟩
      · rcases w3 with ⟨a, b, c, d, f⟩ | ⟨a, b, c⟩
        · exact absurd c (by have := t7 a (by omega); rw [t4] at this; exact this)
        · rw [b, t4]
      · rcases w3 with ⟨a, b, c, d, f⟩ | ⟨a, b, c⟩
        · exact absurd c (by have := t7 a (by omega); rw [t4] at this; exact this)
        · rw [t5, t6]; exact c
  · rcases x2 with ⟨rfl, x2⟩ | ⟨rfl, x2⟩
    · unfold isL at x2; omega
    · rw [cEq_if (by decide) (by decide) (by decide) (by decide), if_pos rfl, if_neg (by omega)]
      rw [show ((p : Int) + 1) = G 71 14 + 1 by rw [g1]]
      obtain ⟨M', w1, w2, w3⟩ := q_sign hTG g1 (by omega) x2 (by unfold isD; omega) hnb
      have fr := f17 M' w2
      refine ⟨M', w1, fr.1, ?_, fr.2, ?_⟩
      · rcases w3 with ⟨a, b, c, d, f⟩ | ⟨a, b, c⟩
        · rw [d, t2]
        · exact absurd ⟨t1, by omega, t3⟩ a
      · rcases w3 with ⟨a, b, c, d, f⟩ | ⟨a, b, c⟩
        · rw [t4, t5]; exact f
        · exact absurd ⟨t1, by omega, t3⟩ a
