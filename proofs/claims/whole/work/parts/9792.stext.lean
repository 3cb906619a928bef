/-! text: the operation -/
theorem texts_now {j : Nat} {M : Mem} {q : Nat} (hc : Core j M) (hq : M 1 11 = (q : Int)) (h4 : q < 4) : OkS 1 (99 * (j + 1)) (up (up M 1 11 ((q : Int) + 1)) 72 5 ((q : Int) + 1)) ∧ RlS 1 72 (up (up M 1 11 ((q : Int) + 1)) 72 5 ((q : Int) + 1)) := by
  obtain ⟨⟨⟨kH, kN, kC, kT, kP⟩, rN, rH, rC, rT, rP⟩, hk, ht, hf⟩ := Core_mono hc
  refine ⟨⟨?_, ?_, ?_, ?_, ?_⟩, ?_, ?_, ?_, ?_, ?_⟩
  · exact OkH_f (by simp [up_k]) (fun i => by simp [up_k]) kH
  · simp [OkN, up_k] at kN ⊢; omega
  · exact OkC_f (by simp [up_k]) (by simp [up_k]) (fun i => by simp [up_k]) (fun i => by simp [up_k]) (fun i => by simp [up_k]) (fun i => by simp [up_k]) (fun i => by simp [up_k]) kC
  · exact OkT_f (by simp [up_k]) (by simp [up_k]) (fun i => by simp [up_k]) (fun i => by simp [up_k]) (fun i => by simp [up_k]) (fun i => by simp [up_k]) (fun i => by simp [up_k]) (fun i => by simp [up_k]) kT
  · exact OkP_f (by simp [up_k]) (by simp [up_k]) (fun i => by simp [up_k]) (fun i => by simp [up_k]) kP
  · simp [RlN, up_k] at rN ⊢; omega
  · exact RlH_f (by simp [up_k]) kH.1.2 (fun i => by simp [up_k]) (fun i _ _ => by simp [up_k]; omega) rH
  · exact RlC_f (by simp [up_k]) kC.1.2 (fun i => by simp [up_k]) (fun i => by simp [up_k]) (fun i => by simp [up_k]) (fun i => by simp [up_k]) (fun i => by simp [up_k]) (fun i _ _ => by simp [up_k]; omega) rC
  · exact RlT_f (fun i => by simp [up_k]) kT.2.1.2 (fun i => by simp [up_k]) (fun i => by simp [up_k]) (fun i => by simp [up_k]) (fun i => by simp [up_k]) (fun i _ _ => by simp [up_k]; omega) rT
  · exact RlP_f (by simp [up_k]) kP.1.2 (fun i => by simp [up_k]) (fun i => by simp [up_k]) (fun i _ _ => by simp [up_k]; omega) rP
theorem cp_o {M : Mem} {s d n a b : Nat} (h : a ≠ d) : cp M s d n a b = M a b := by rw [cp_k, if_neg (fun q => h q.1)]
theorem cp_i {M : Mem} {s d n b : Nat} (h : b < n) : cp M s d n d b = M s b := by rw [cp_k, if_pos ⟨rfl, h⟩]
theorem p_copy {M : Mem} {t : Nat} (ht : 43 ≤ t) : ∃ M', fn_X7_copyOf t 32 M = some M' ∧ (∀ i, (i = 2 ∨ i = 3 ∨ i = 4 ∨ i = 5 ∨ i = 9) → M' t i = M 32 i) ∧ (∀ i, i < 300 → M' (t + 1) i = M 33 i) ∧ (∀ i, i < 20 → M' (t + 2) i = M 34 i ∧ M' (t + 3) i = M 35 i ∧ M' (t + 4) i = M 36 i) ∧ (∀ k i, ¬ (t ≤ k ∧ k ≤ t + 4) → M' k i = M k i) := by
  unfold fn_X7_copyOf
  simp only [cm, st_eq, Nat.reduceAdd]
  generalize hG : cp (cp (cp (cp M 33 (t + 1) 300) 34 (t + 2) 20) 35 (t + 3) 20) 36 (t + 4) 20 = G
  have g32 : ∀ i, G 32 i = M 32 i := fun i => by rw [← hG, cp_o (by omega), cp_o (by omega), cp_o (by omega), cp_o (by omega)]
  have go : ∀ k i, ¬ (t ≤ k ∧ k ≤ t + 4) → G k i = M k i := fun k i h => by rw [← hG, cp_o (by omega), cp_o (by omega), cp_o (by omega), cp_o (by omega)]
  have e : ∀ (X : Mem) (a : Nat) (v : Int) (i : Nat), up X t a v 32 i = X 32 i := fun X a v i => up_o (by omega)
  simp only [e, g32]
  refine ⟨_, rfl, fun i hi => ?_, fun i hi => ?_, fun i hi => ⟨?_, ?_, ?_⟩, fun k i hk => ?_⟩
  · rcases hi with rfl | rfl | rfl | rfl | rfl <;> simp [up_i]
  · rw [up_o (by omega), up_o (by omega), up_o (by omega), up_o (by omega), up_o (by omega), up_o (by omega), ← hG, cp_o (by omega), cp_o (by omega), cp_o (by omega), cp_i hi]
  · rw [up_o (by omega), up_o (by omega), up_o (by omega), up_o (by omega), up_o (by omega), up_o (by omega), ← hG, cp_o (by omega), cp_o (by omega), cp_i hi, cp_o (by omega)]
  · rw [up_o (by omega), up_o (by omega), up_o (by omega), up_o (by omega), up_o (by omega), up_o (by omega), ← hG, cp_o (by omega), cp_i hi, cp_o (by omega), cp_o (by omega)]
  · rw [up_o (by omega), up_o (by omega), up_o (by omega), up_o (by omega), up_o (by omega), up_o (by omega), ← hG, cp_i hi, cp_o (by omega), cp_o (by omega), cp_o (by omega)]
  · rw [up_o (by omega), up_o (by omega), up_o (by omega), up_o (by omega), up_o (by omega), up_o (by omega), go k i hk]
def TXg (M : Mem) : Prop := ∀ q : Nat, (q : Int) < M 1 11 → TxG (43 + 5 * q) M M q
set_option maxHeartbeats 1000000 in
theorem s_text {j : Nat} {M : Mem} (hc : Core j M) (hX : TXg M) (hTV : TV M) (h15 : M 15 11 ≤ M 1 11) : ∃ (r : Int) (M1 M2 : Mem), fn_X10_text 0 M = some (r, M1) ∧ fn_X11_text 71 M1 = some (r, M2) ∧ Core (j + 1) M2 ∧ TXg M2 ∧ TV M2 ∧ M2 15 11 ≤ M2 1 11 := by
  have hN := hc.1.1.2.1
  have hR := hc.1.2.1
  obtain ⟨t3, ⟨t0, t1⟩, t2⟩ := hc.2.2.1
  simp only [OkN, RlN] at hN hR
  have e5 : M 72 5 = M 1 11 := hR.2.2.2.2.2.1
  obtain ⟨-, -, -, ⟨n0, n4⟩, -⟩ := hN
  obtain ⟨q, hq⟩ := Int.eq_ofNat_of_zero_le n0
  have hq : M 1 11 = (q : Int) := hq
  obtain ⟨len, hlen⟩ := Int.eq_ofNat_of_zero_le t0
  have hlen : M 29 1 = (len : Int) := hlen
  by_cases q4 : q < 4
  · have hT1 : Tc1 M (fun i => M 30 i) len := ⟨by omega, hlen, fun i hi => ⟨rfl, (t2 i (by omega)).1⟩⟩
    have hsg : ∀ i, i < len → M 74 i = sg (M 30 i) := fun i hi => (t2 i (by omega)).2
    have cls : ∀ x C', fn_X1_parse 31 29 M = some (x, C') → fn_X10_text 0 M = cEq x 0 (some (-1, up C' 29 1 0)) (cv (fn_X7_copyOf (43 + 5 * q) 32 (up C' 29 1 0)) fun M64 => st M64 1 11 ((q : Int) + 1) fun M74 => some ((q : Int), M74)) := fun x C' h => by
      unfold fn_X10_text
      rw [nm_eq]
      simp only [Nat.zero_add]
      rw [hq, cLt_if (by omega) (by omega) (by decide) (by decide), if_neg (by omega), cLt_if (by omega) (by omega) (by decide) (by decide), if_pos (by omega), rt_eq (by omega) (by omega), Int.toNat_natCast, h, cl_s, st_eq, show 42 + (1 + 5 * q) = 43 + 5 * q by omega]
    have key : ∀ x C', fn_X1_parse 31 29 M = some (x, C') → FC2 M (up C' 31 2 (M 31 2)) → ∀ k i, (k < 31 ∨ 41 < k) → C' k i = M k i := fun x C' _ h k i hk => by
      have := h k i (by omega)
      rw [up_o (by omega)] at this; exact this
    rcases t_both hT1 (N := M) (by rw [t3]; exact hlen) hsg (by rw [e5]; exact hq) q4 with ⟨C', -, a1, a2, a3, a4, a5, -⟩ | ⟨C', -, f, p, a1, a2, a3, a4, a5, a6, a7, -⟩
    · have hC' := key _ _ a1 a2
      obtain ⟨M64, p1, p2, p3, p4, p5⟩ := p_copy (M := up C' 29 1 0) (t := 43 + 5 * q) (by omega)
      generalize hM1 : up M64 1 11 ((q : Int) + 1) = M1
      have m1 : ∀ k i, ¬ (k = 1 ∧ i = 11) → M1 k i = M64 k i := fun k i h => by rw [← hM1, up_k, if_neg h]
      have m2 : ∀ k i, (k < 31 ∨ 41 < k) → ¬ (k = 1 ∧ i = 11) → ¬ (k = 29 ∧ i = 1) → ¬ (43 + 5 * q ≤ k ∧ k ≤ 43 + 5 * q + 4) → M1 k i = M k i := fun k i h1 h2 h3 h4 => by rw [m1 k i h2, p5 k i h4, up_k, if_neg h3, hC' k i h1]
      have hcl : fn_X10_text 0 M = some ((q : Int), M1) := by rw [cls _ _ a1, cEq_if (by decide) (by decide) (by decide) (by decide), if_neg (by decide), p1, cv_s, st_eq, hM1]
      rcases t_both hT1 (N := M1) (by rw [m2 71 3 (by omega) (by omega) (by omega) (by omega), t3]; exact hlen) (fun i hi => by rw [m2 74 i (by omega) (by omega) (by omega) (by omega)]; exact hsg i hi) (by rw [m2 72 5 (by omega) (by omega) (by omega) (by omega), e5]; exact hq) q4 with ⟨C2, M2, b1, b2', b3, b4, b5, b6, b7, b8, b9, b10, b11, b12⟩ | ⟨C2, M2, f, p, b1, -⟩
      · have hCC : C2 = C' := by rw [a1] at b1; injection b1 with h; injection h with _ h; exact h.symm
        subst hCC
        have f2 : ∀ k i, k < 71 → M2 k i = M1 k i := fun k i h => b12 k i (by omega) (by omega) (by omega)
        have f31 : ∀ i, M2 31 i = C2 31 i := fun i => by rw [f2 31 i (by omega), m1 31 i (by omega), p5 31 i (by omega), up_o (by omega)]
        have x111 : M2 1 11 = (q : Int) + 1 := by rw [f2 1 11 (by omega), ← hM1, up_i, if_pos rfl]
        refine ⟨_, M1, M2, hcl, b6, ⟨?_, ?_, ⟨?_, ?_, ?_⟩, ?_⟩, fun q' hq' => ?_, ?_, ?_⟩
        · refine now_frame (fun k hk i => ?_) (texts_now hc hq q4)
          have hk' : (1 ≤ k ∧ k ≤ 14) ∨ k = 72 := by
            simp only [SNow, List.mem_cons, List.not_mem_nil, or_false] at hk; omega
          by_cases h1 : k = 1 ∧ i = 11
          · rw [h1.1, h1.2, x111, up_o (by decide), up_i, if_pos rfl]
          · by_cases h2 : k = 72 ∧ i = 5
            · rw [h2.1, h2.2, b8.2.2.2, up_i, if_pos rfl]
            · rw [up_k, if_neg h2, up_k, if_neg h1, b12 k i (by omega) h2 (by omega), m2 k i (by omega) h1 (by omega) (by omega)]
        · refine kept_frame (fun k hk i => ?_) (Core_mono hc).2.1
          have hk' : (15 ≤ k ∧ k ≤ 28) ∨ k = 73 := by
            simp only [SKept, List.mem_cons, List.not_mem_nil, or_false] at hk; omega
          rw [b12 k i (by omega) (by omega) (by omega), m2 k i (by omega) (by omega) (by omega) (by omega)]
        · rw [b8.2.2.1, f2 29 1 (by omega), m1 29 1 (by omega), p5 29 1 (by omega), up_i, if_pos rfl]
        · rw [f2 29 1 (by omega), m1 29 1 (by omega), p5 29 1 (by omega), up_i, if_pos rfl]; decide
        · intro i hi
          rw [f2 29 1 (by omega), m1 29 1 (by omega), p5 29 1 (by omega), up_i, if_pos rfl] at hi
          omega
        · exact Or.inr ⟨by rw [f31]; exact b3, by rw [f31, b4]; exact b8.1, by rw [f31, b5]; exact b8.2.1, by rw [f31, b4]; decide, by rw [f31, b5]; decide⟩
        · rw [x111] at hq'
          by_cases h : q' = q
          · subst h
            refine TxG_f (b := 32) (C := C2) (D := M2) (fun i hi => ?_) (fun i hi => ?_) (fun i hi => ⟨?_, ?_, ?_⟩) rfl (fun _ _ _ _ _ => rfl) (fun _ _ => ⟨rfl, rfl⟩) b7
            · rw [f2 _ i (by omega), m1 _ i (by omega), p2 i hi, up_o (by decide)]
            · rw [f2 _ i (by omega), m1 _ i (by omega), p3 i hi, up_o (by decide)]
            · rw [f2 _ i (by omega), m1 _ i (by omega), (p4 i hi).1, up_o (by decide)]
            · rw [f2 _ i (by omega), m1 _ i (by omega), (p4 i hi).2.1, up_o (by decide)]
            · rw [f2 _ i (by omega), m1 _ i (by omega), (p4 i hi).2.2, up_o (by decide)]
          · have hlt : q' < q := by omega
            have fc : ∀ k i, 43 + 5 * q' ≤ k → k ≤ 43 + 5 * q' + 4 → M2 k i = M k i := fun k i h1 h2 => by rw [f2 k i (by omega), m2 k i (by omega) (by omega) (by omega) (by omega)]
            refine TxG_f (b := 43 + 5 * q') (C := M) (D := M) (fun i hi => fc _ i (by omega) (by omega)) (fun i hi => fc _ i (by omega) (by omega)) (fun i hi => ⟨fc _ i (by omega) (by omega), fc _ i (by omega) (by omega), fc _ i (by omega) (by omega)⟩) ?_ (fun k i h1 h2 hi => ?_) (fun i hi => ⟨?_, ?_⟩) (hX q' (by omega))
            · rw [b9 q' (by omega), m2 75 q' (by omega) (by omega) (by omega) (by omega)]
            · rw [b10 k _ h1 h2 (by omega), m2 k _ (by omega) (by omega) (by omega) (by omega)]
            · rw [(b11 i (by omega)).1, m2 80 i (by omega) (by omega) (by omega) (by omega)]
            · rw [(b11 i (by omega)).2, m2 81 i (by omega) (by omega) (by omega) (by omega)]
        · exact TV_f (fun i => by rw [f2 0 i (by omega), m2 0 i (by omega) (by omega) (by omega) (by omega)]) (fun k i h1 h2 => by rw [b12 k i (by omega) (by omega) (by omega), m2 k i (by omega) (by omega) (by omega) (by omega)]) hTV
        · rw [x111, f2 15 11 (by omega), m2 15 11 (by omega) (by omega) (by omega) (by omega)]; omega
      · rw [a1] at b1; injection b1 with h; injection h with h _; exact absurd h (by decide)
    · have hC' := key _ _ a1 a2
      generalize hM1 : up C' 29 1 0 = M1
      have m2 : ∀ k i, (k < 31 ∨ 41 < k) → ¬ (k = 29 ∧ i = 1) → M1 k i = M k i := fun k i h1 h3 => by rw [← hM1, up_k, if_neg h3, hC' k i h1]
      have hcl : fn_X10_text 0 M = some (-1, M1) := by rw [cls _ _ a1, cEq_if (by decide) (by decide) (by decide) (by decide), if_pos rfl, hM1]
      rcases t_both hT1 (N := M1) (by rw [m2 71 3 (by omega) (by omega), t3]; exact hlen) (fun i hi => by rw [m2 74 i (by omega) (by omega)]; exact hsg i hi) (by rw [m2 72 5 (by omega) (by omega), e5]; exact hq) q4 with ⟨C2, M2, b1, -⟩ | ⟨C2, M2, f2', p2', b1, b2', b3, b4, b5, b6, b7, b8, b9, b10⟩
      · rw [a1] at b1; injection b1 with h; injection h with h _; exact absurd h (by decide)
      · have hCC : C2 = C' := by rw [a1] at b1; injection b1 with h; injection h with _ h; exact h.symm
        subst hCC
        have f2 : ∀ k i, k < 71 → M2 k i = M1 k i := fun k i h => b10 k i (by omega) (by omega)
        have f31 : ∀ i, M2 31 i = C2 31 i := fun i => by rw [f2 31 i (by omega), ← hM1, up_o (by omega)]
        have e29 : M2 29 1 = 0 := by rw [f2 29 1 (by omega), ← hM1, up_i, if_pos rfl]
        have fr : ∀ k i, (k < 29 ∨ (41 < k ∧ k < 71) ∨ (72 ≤ k ∧ k ≤ 81) ∨ 91 < k) → M2 k i = M k i := fun k i h => by rw [b10 k i (by omega) (by omega), m2 k i (by omega) (by omega)]
        refine ⟨_, M1, M2, hcl, b8, ⟨?_, ?_, ⟨?_, ?_, ?_⟩, ?_⟩, fun q' hq' => ?_, ?_, ?_⟩
        · refine now_frame (fun k hk i => ?_) (Core_mono hc).1
          have hk' : (1 ≤ k ∧ k ≤ 14) ∨ k = 72 := by
            simp only [SNow, List.mem_cons, List.not_mem_nil, or_false] at hk; omega
          exact fr k i (by omega)
        · refine kept_frame (fun k hk i => ?_) (Core_mono hc).2.1
          have hk' : (15 ≤ k ∧ k ≤ 28) ∨ k = 73 := by
            simp only [SKept, List.mem_cons, List.not_mem_nil, or_false] at hk; omega
          exact fr k i (by omega)
        · rw [b9.2.2, e29]
        · rw [e29]; decide
        · intro i hi
          rw [e29] at hi; omega
        · exact Or.inr ⟨by rw [f31]; exact b3, by rw [f31, b4]; exact b9.1, by rw [f31, b5]; exact b9.2.1, by rw [f31, b4]; omega, by rw [f31, b5]; omega⟩
        · rw [fr 1 11 (by omega)] at hq'
          refine TxG_f (b := 43 + 5 * q') (C := M) (D := M) (fun i hi => fr _ i (by omega)) (fun i hi => fr _ i (by omega)) (fun i hi => ⟨fr _ i (by omega), fr _ i (by omega), fr _ i (by omega)⟩) (fr _ _ (by omega)) (fun k i h1 h2 hi => fr _ _ (by omega)) (fun i hi => ⟨fr _ _ (by omega), fr _ _ (by omega)⟩) (hX q' hq')
        · exact TV_f (fun i => fr 0 i (by omega)) (fun k i h1 h2 => fr k i (by omega)) hTV
        · rw [fr 15 11 (by omega), fr 1 11 (by omega)]; exact h15
  · have h4 : q = 4 := by omega
    refine ⟨-1, M, M, ?_, ?_, (quiet hc).1, hX, hTV, h15⟩
    · unfold fn_X10_text
      rw [nm_eq]
      simp only [Nat.zero_add]
      rw [hq, cLt_if (by omega) (by omega) (by decide) (by decide), if_neg (by omega), cLt_if (by omega) (by omega) (by decide) (by decide), if_neg (by omega)]
    · unfold fn_X11_text
      rw [rd_eq (by decide) (by decide), show (71 + 1 : Nat) = 72 from rfl, show (5 : Int).toNat = 5 from rfl, e5, hq, cEq_if (by omega) (by omega) (by decide) (by decide), if_pos (by omega)]
