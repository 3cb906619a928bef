/-! text: the reference's start and end -/
theorem r_start {T : Tx} {N : Mem} {q : Nat} (hT : TkT T) (hl : N 71 3 = (tL T : Int)) (h300 : tL T ≤ 300) (hB : ∀ i, i < tL T → N 74 i = sg (tB T i) ∧ 0 ≤ tB T i ∧ tB T i ≤ 255) (h5 : N 72 5 = (q : Int)) (hq : q < 4) :
    ∃ D0, fn_X11_text 71 N = lq1 (fn_X11_text_L74 71) FU D0 ∧ Rf T D0 0 4 0 [] [] [] [] ∧ D0 71 28 = 0 ∧ D0 71 3 = 0 ∧ (∀ k i, (k = 71 → i < 13 ∧ i ≠ 3) → D0 k i = N k i) := by
  unfold fn_X11_text
  rw [rd_eq (by decide) (by decide), show (71 + 1 : Nat) = 72 from rfl, show (5 : Int).toNat = 5 from rfl, h5, cEq_if (by omega) (by omega) (by decide) (by decide), if_neg (by omega), st_eq, st_eq, st_eq, st_eq, st_eq, st_eq, st_eq, st_eq, st_eq, st_eq, st_eq]
  generalize hG : up (up (up (up (up (up (up (up (up (up (up N 71 13 (N 71 3)) 71 3 0) 71 14 0) 71 18 0) 71 19 (-1)) 71 20 0) 71 21 0) 71 24 0) 71 27 4) 71 28 0) 71 34 0 = G
  have e13 : G 71 13 = N 71 3 := by rw [← hG]; simp [up_i]
  have e3 : G 71 3 = 0 := by rw [← hG]; simp [up_i]
  have e14 : G 71 14 = 0 := by rw [← hG]; simp [up_i]
  have e18 : G 71 18 = 0 := by rw [← hG]; simp [up_i]
  have e19 : G 71 19 = -1 := by rw [← hG]; simp [up_i]
  have e20 : G 71 20 = 0 := by rw [← hG]; simp [up_i]
  have e21 : G 71 21 = 0 := by rw [← hG]; simp [up_i]
  have e24 : G 71 24 = 0 := by rw [← hG]; simp [up_i]
  have e27 : G 71 27 = 4 := by rw [← hG]; simp [up_i]
  have e28 : G 71 28 = 0 := by rw [← hG]; simp [up_i]
  have e34 : G 71 34 = 0 := by rw [← hG]; simp [up_i]
  have g : ∀ k i, (k = 71 → i < 13 ∧ i ≠ 3) → G k i = N k i := fun k i h => by
    have h' : ∀ j : Nat, j = 3 ∨ 13 ≤ j → ¬ (k = 71 ∧ i = j) := fun j hj => by rintro ⟨rfl, rfl⟩; have := h rfl; omega
    rw [← hG, up_k, if_neg (h' 34 (by omega)), up_k, if_neg (h' 28 (by omega)), up_k, if_neg (h' 27 (by omega)), up_k, if_neg (h' 24 (by omega)), up_k, if_neg (h' 21 (by omega)), up_k, if_neg (h' 20 (by omega)), up_k, if_neg (h' 19 (by omega)), up_k, if_neg (h' 18 (by omega)), up_k, if_neg (h' 14 (by omega)), up_k, if_neg (h' 3 (by omega)), up_k, if_neg (h' 13 (by omega))]
  have hTq : Tq G (tB T) (tL T) := ⟨h300, by rw [e13, hl], fun i hi => by rw [g 74 i (by omega)]; exact hB i hi⟩
  obtain ⟨D0, n1, n2, n3⟩ := r_next0 (i := 0) hT ⟨hTq, e19⟩ (by rw [e14, if_pos rfl]; rfl) (Nat.zero_le _)
  rw [n1, cv_s]
  refine ⟨D0, rfl, ⟨n3, by rw [n2 71 27 (by omega)]; exact e27, Rst_n4 n2 ⟨e18, e20, ⟨e21, trivial⟩, ⟨e24, rfl, trivial, trivial⟩, e34, fun j hj => absurd hj (Nat.not_lt_zero _)⟩⟩, by rw [n2 71 28 (by omega)]; exact e28, by rw [n2 71 3 (by omega)]; exact e3, fun k i h => by rw [n2 k i (by rintro ⟨rfl, h2⟩; have := h rfl; omega), g k i h]⟩
theorem r_fail {D : Mem} {f p : Int} {N : Nat} (h : Er D f p) : lq1 (fn_X11_text_L74 71) (N + 1) D = some (-1, up (up D 71 4 f) 71 5 p) := by
  obtain ⟨h1, h2, h3, h4⟩ := h
  show fn_X11_text_L74 71 (lq1 (fn_X11_text_L74 71) N) D = _
  unfold fn_X11_text_L74 fn_X11_text_J167
  have e1 : up D 71 4 f 71 19 = p := by rw [up_i, if_neg (by decide)]; exact h3
  have e2 : up (up D 71 4 f) 71 5 p 71 18 = f := by rw [up_i, if_neg (by decide), up_i, if_neg (by decide)]; exact h1
  rw [h1, cEq_if (x := f) (by omega) (by omega) (by decide) (by decide), if_neg (by omega), st_eq, e1, st_eq, e2, cLt_if (by decide) (by decide) (by omega) (by omega), if_pos (by omega)]
theorem r_c211 {q c : Nat} (hq : q < 4) (h20 : c ≤ 20) : ∀ (r k N : Nat) (D : Mem), k + r = c → r < N → D 71 28 = (c : Int) →
    ∃ D', lq2 (fn_X11_text_L211 71 q) N (k : Int) D = fn_X11_text_J299 71 q D' ∧ (∀ a j, (a < 76 ∨ 79 < a) → D' a j = D a j) ∧ (∀ j, D' 76 j = if 20 * q + k ≤ j ∧ j < 20 * q + c then D 86 (j - 20 * q) else D 76 j) ∧ (∀ j, D' 77 j = if 20 * q + k ≤ j ∧ j < 20 * q + c then 400 * (q : Int) + D 87 (j - 20 * q) else D 77 j) ∧ (∀ j, D' 78 j = if 20 * q + k ≤ j ∧ j < 20 * q + c then D 88 (j - 20 * q) else D 78 j) ∧ (∀ j, D' 79 j = if 20 * q + k ≤ j ∧ j < 20 * q + c then D 89 (j - 20 * q) else D 79 j) := by
  intro r
  induction r with
  | zero =>
    intro k N D hk hN hc
    obtain ⟨N, rfl⟩ : ∃ N', N = N' + 1 := ⟨N - 1, by omega⟩
    refine ⟨D, ?_, fun _ _ _ => rfl, fun j => by rw [if_neg (by omega)], fun j => by rw [if_neg (by omega)], fun j => by rw [if_neg (by omega)], fun j => by rw [if_neg (by omega)]⟩
    show fn_X11_text_L211 71 q (lq2 (fn_X11_text_L211 71 q) N) (k : Int) D = _
    unfold fn_X11_text_L211
    rw [hc, cLt_if (by omega) (by omega) (by omega) (by omega), if_neg (by omega)]
  | succ r ih =>
    intro k N D hk hN hc
    obtain ⟨N, rfl⟩ : ∃ N', N = N' + 1 := ⟨N - 1, by omega⟩
    generalize hG : up (up (up (up D 76 (20 * q + k) (D 86 k)) 77 (20 * q + k) (400 * (q : Int) + D 87 k)) 78 (20 * q + k) (D 88 k)) 79 (20 * q + k) (D 89 k) = G
    have g : ∀ a j, (a < 76 ∨ 79 < a) → G a j = D a j := fun a j h => by rw [← hG, up_o (by omega), up_o (by omega), up_o (by omega), up_o (by omega)]
    have g76 : ∀ j, G 76 j = if j = 20 * q + k then D 86 k else D 76 j := fun j => by rw [← hG, up_o (by decide), up_o (by decide), up_o (by decide), up_i]
    have g77 : ∀ j, G 77 j = if j = 20 * q + k then 400 * (q : Int) + D 87 k else D 77 j := fun j => by rw [← hG, up_o (by decide), up_o (by decide), up_i, up_o (by decide)]
    have g78 : ∀ j, G 78 j = if j = 20 * q + k then D 88 k else D 78 j := fun j => by rw [← hG, up_o (by decide), up_i, up_o (by decide), up_o (by decide)]
    have g79 : ∀ j, G 79 j = if j = 20 * q + k then D 89 k else D 79 j := fun j => by rw [← hG, up_i, up_o (by decide), up_o (by decide), up_o (by decide)]
    obtain ⟨D', a1, a2, a3, a4, a5, a6⟩ := ih (k + 1) N G (by omega) (by omega) (by rw [g 71 28 (by omega)]; exact hc)
    have fin : ∀ (x y z : Int) (j : Nat), (j = 20 * q + k → x = y) → (if 20 * q + (k + 1) ≤ j ∧ j < 20 * q + c then x else if j = 20 * q + k then y else z) = if 20 * q + k ≤ j ∧ j < 20 * q + c then x else z := fun x y z j h => by
      by_cases q1 : j = 20 * q + k
      · rw [if_neg (by omega), if_pos q1, if_pos (by omega), h q1]
      · rw [if_neg q1]
        by_cases q2 : 20 * q + (k + 1) ≤ j ∧ j < 20 * q + c
        · rw [if_pos q2, if_pos (by omega)]
        · rw [if_neg q2, if_neg (by omega)]
    refine ⟨D', ?_, fun a j h => by rw [a2 a j h, g a j h], fun j => ?_, fun j => ?_, fun j => ?_, fun j => ?_⟩
    · show fn_X11_text_L211 71 q (lq2 (fn_X11_text_L211 71 q) N) (k : Int) D = _
      rw [← a1]
      generalize lq2 (fn_X11_text_L211 71 q) N = rec
      unfold fn_X11_text_L211
      rw [hc, cLt_if (by omega) (by omega) (by omega) (by omega), if_pos (by omega), rd_eq (by omega) (by omega), Int.toNat_natCast, wr_eq (by omega) (by omega), rd_eq (by omega) (by omega), Int.toNat_natCast, wr_eq (by omega) (by omega), rd_eq (by omega) (by omega), Int.toNat_natCast, wr_eq (by omega) (by omega), rd_eq (by omega) (by omega), Int.toNat_natCast, wr_eq (by omega) (by omega), show (20 * (q : Int) + (k : Int)).toNat = 20 * q + k by omega, nm_eq]
      simp only [Nat.reduceAdd]
      rw [up_o (k := 76) (by decide), up_o (k := 77) (by decide), up_o (k := 76) (by decide), up_o (k := 78) (by decide), up_o (k := 77) (by decide), up_o (k := 76) (by decide), hG, show (k : Int) + 1 = ((k + 1 : Nat) : Int) by omega]
    · rw [a3, g 86 _ (by omega), g76]; exact fin _ _ _ j (fun h => by rw [h, show 20 * q + k - 20 * q = k by omega])
    · rw [a4, g 87 _ (by omega), g77]; exact fin _ _ _ j (fun h => by rw [h, show 20 * q + k - 20 * q = k by omega])
    · rw [a5, g 88 _ (by omega), g78]; exact fin _ _ _ j (fun h => by rw [h, show 20 * q + k - 20 * q = k by omega])
    · rw [a6, g 89 _ (by omega), g79]; exact fin _ _ _ j (fun h => by rw [h, show 20 * q + k - 20 * q = k by omega])
theorem r_c301 {q n : Nat} (hq : q < 4) (h20 : n ≤ 400) : ∀ (r k N : Nat) (D : Mem), k + r = n → r < N → D 71 34 = (n : Int) →
    ∃ D', lq2 (fn_X11_text_L301 71 q) N (k : Int) D = fn_X11_text_J351 71 q D' ∧ (∀ a j, (a < 80 ∨ 81 < a) → D' a j = D a j) ∧ (∀ j, D' 80 j = if 400 * q + k ≤ j ∧ j < 400 * q + n then D 90 (j - 400 * q) else D 80 j) ∧ (∀ j, D' 81 j = if 400 * q + k ≤ j ∧ j < 400 * q + n then D 91 (j - 400 * q) else D 81 j) := by
  intro r
  induction r with
  | zero =>
    intro k N D hk hN hc
    obtain ⟨N, rfl⟩ : ∃ N', N = N' + 1 := ⟨N - 1, by omega⟩
    refine ⟨D, ?_, fun _ _ _ => rfl, fun j => by rw [if_neg (by omega)], fun j => by rw [if_neg (by omega)]⟩
    show fn_X11_text_L301 71 q (lq2 (fn_X11_text_L301 71 q) N) (k : Int) D = _
    unfold fn_X11_text_L301
    rw [hc, cLt_if (by omega) (by omega) (by omega) (by omega), if_neg (by omega)]
  | succ r ih =>
    intro k N D hk hN hc
    obtain ⟨N, rfl⟩ : ∃ N', N = N' + 1 := ⟨N - 1, by omega⟩
    generalize hG : up (up D 80 (400 * q + k) (D 90 k)) 81 (400 * q + k) (D 91 k) = G
    have g : ∀ a j, (a < 80 ∨ 81 < a) → G a j = D a j := fun a j h => by rw [← hG, up_o (by omega), up_o (by omega)]
    have g80 : ∀ j, G 80 j = if j = 400 * q + k then D 90 k else D 80 j := fun j => by rw [← hG, up_o (by decide), up_i]
    have g81 : ∀ j, G 81 j = if j = 400 * q + k then D 91 k else D 81 j := fun j => by rw [← hG, up_i, up_o (by decide)]
    obtain ⟨D', a1, a2, a3, a4⟩ := ih (k + 1) N G (by omega) (by omega) (by rw [g 71 34 (by omega)]; exact hc)
    have fin : ∀ (x y z : Int) (j : Nat), (j = 400 * q + k → x = y) → (if 400 * q + (k + 1) ≤ j ∧ j < 400 * q + n then x else if j = 400 * q + k then y else z) = if 400 * q + k ≤ j ∧ j < 400 * q + n then x else z := fun x y z j h => by
      by_cases q1 : j = 400 * q + k
      · rw [if_neg (by omega), if_pos q1, if_pos (by omega), h q1]
      · rw [if_neg q1]
        by_cases q2 : 400 * q + (k + 1) ≤ j ∧ j < 400 * q + n
        · rw [if_pos q2, if_pos (by omega)]
        · rw [if_neg q2, if_neg (by omega)]
    refine ⟨D', ?_, fun a j h => by rw [a2 a j h, g a j h], fun j => ?_, fun j => ?_⟩
    · show fn_X11_text_L301 71 q (lq2 (fn_X11_text_L301 71 q) N) (k : Int) D = _
      rw [← a1]
      generalize lq2 (fn_X11_text_L301 71 q) N = rec
      unfold fn_X11_text_L301
      rw [hc, cLt_if (by omega) (by omega) (by omega) (by omega), if_pos (by omega), rd_eq (by omega) (by omega), Int.toNat_natCast, wr_eq (by omega) (by omega), rd_eq (by omega) (by omega), Int.toNat_natCast, wr_eq (by omega) (by omega), show (400 * (q : Int) + (k : Int)).toNat = 400 * q + k by omega, nm_eq]
      simp only [Nat.reduceAdd]
      rw [up_o (k := 80) (by decide), hG, show (k : Int) + 1 = ((k + 1 : Nat) : Int) by omega]
    · rw [a3, g 90 _ (by omega), g80]; exact fin _ _ _ j (fun h => by rw [h, show 400 * q + k - 400 * q = k by omega])
    · rw [a4, g 91 _ (by omega), g81]; exact fin _ _ _ j (fun h => by rw [h, show 400 * q + k - 400 * q = k by omega])
