/-! text: what is kept of a TEXT -/
theorem r_done {T : Tx} {D : Mem} {i c q N : Nat} {ord : List Int} (hR : Rf T D i 4 0 [] [] [] ord) (hk : tK T i = 0) (hc : D 71 28 = (c : Int)) (h20 : c ≤ 20) (hn : ord.length ≤ 400) (h5 : D 72 5 = (q : Int)) (hq : q < 4) :
    ∃ D', lq1 (fn_X11_text_L74 71) (N + 1) D = some ((q : Int), D') ∧ (D' 71 4 = 0 ∧ D' 71 5 = -1 ∧ D' 72 5 = (q : Int) + 1) ∧ (∀ j, D' 75 j = if j = q then (c : Int) else D 75 j) ∧ (∀ j, D' 76 j = if 20 * q ≤ j ∧ j < 20 * q + c then D 86 (j - 20 * q) else D 76 j) ∧ (∀ j, D' 77 j = if 20 * q ≤ j ∧ j < 20 * q + c then 400 * (q : Int) + D 87 (j - 20 * q) else D 77 j) ∧ (∀ j, D' 78 j = if 20 * q ≤ j ∧ j < 20 * q + c then D 88 (j - 20 * q) else D 78 j) ∧ (∀ j, D' 79 j = if 20 * q ≤ j ∧ j < 20 * q + c then D 89 (j - 20 * q) else D 79 j) ∧ (∀ j, D' 80 j = if 400 * q ≤ j ∧ j < 400 * q + ord.length then D 90 (j - 400 * q) else D 80 j) ∧ (∀ j, D' 81 j = if 400 * q ≤ j ∧ j < 400 * q + ord.length then D 91 (j - 400 * q) else D 81 j) ∧
      (∀ a j, ¬ (a = 71 ∧ (j = 4 ∨ j = 5)) → ¬ (a = 72 ∧ j = 5) → (a < 75 ∨ 81 < a) → D' a j = D a j) := by
  have hw := tr_wd hR.1.2.2.2
  have h16 : D 71 16 = 0 := hw.2.2.2.mpr hk
  have h18 : D 71 18 = 0 := hR.2.2.1
  have h19 : D 71 19 = -1 := hR.1.1.2.1
  have h34 : D 71 34 = (ord.length : Int) := hR.2.2.2.2.2.2.1
  generalize hG : up (up (up D 71 4 0) 71 5 (-1)) 75 q (c : Int) = G
  have g : ∀ a j, ¬ (a = 71 ∧ (j = 4 ∨ j = 5)) → a ≠ 75 → G a j = D a j := fun a j h h' => by rw [← hG, up_o h', up_k, if_neg (by omega), up_k, if_neg (by omega)]
  obtain ⟨D1, a1, a2, a3, a4, a5, a6⟩ := r_c211 hq h20 c 0 FU G (by omega) (lt_FU (by omega)) (by rw [g 71 28 (by omega) (by decide)]; exact hc)
  obtain ⟨D2, b1, b2', b3, b4⟩ := r_c301 hq hn ord.length 0 FU D1 (by omega) (lt_FU (by omega)) (by rw [a2 71 34 (by omega), g 71 34 (by omega) (by decide)]; exact h34)
  have d2g : ∀ a j, (a < 76 ∨ 81 < a) → D2 a j = G a j := fun a j h => by rw [b2' a j (by omega), a2 a j (by omega)]
  have e5 : D2 72 5 = (q : Int) := by rw [d2g 72 5 (by omega), g 72 5 (by omega) (by decide)]; exact h5
  refine ⟨up D2 72 5 ((q : Int) + 1), ?_, ⟨?_, ?_, by rw [up_i, if_pos rfl]⟩, fun j => ?_, fun j => ?_, fun j => ?_, fun j => ?_, fun j => ?_, fun j => ?_, fun j => ?_, fun a j h1 h2 h3 => ?_⟩
  · show fn_X11_text_L74 71 (lq1 (fn_X11_text_L74 71) N) D = _
    unfold fn_X11_text_L74 fn_X11_text_J167
    have e1 : up D 71 4 0 71 19 = -1 := by rw [up_i, if_neg (by decide)]; exact h19
    have e2 : up (up D 71 4 0) 71 5 (-1) 71 18 = 0 := by rw [up_i, if_neg (by decide), up_i, if_neg (by decide)]; exact h18
    have e3 : up (up D 71 4 0) 71 5 (-1) 72 5 = (q : Int) := by rw [up_o (by decide), up_o (by decide)]; exact h5
    have e4 : up (up D 71 4 0) 71 5 (-1) 71 28 = (c : Int) := by rw [up_i, if_neg (by decide), up_i, if_neg (by decide)]; exact hc
    rw [h18, cEq_if (x := 0) (y := 0) (by decide) (by decide) (by decide) (by decide), if_pos rfl, hR.2.1, cEq_if (x := 4) (y := 4) (by decide) (by decide) (by decide) (by decide), if_pos rfl, h16, cEq_if (x := 0) (y := 0) (by decide) (by decide) (by decide) (by decide), if_pos rfl, st_eq, e1, st_eq, e2, cLt_if (x := 0) (y := 0) (by decide) (by decide) (by decide) (by decide), if_neg (by decide), rd_eq (by decide) (by decide), show (71 + 1 : Nat) = 72 from rfl, show (5 : Int).toNat = 5 from rfl, e3, e4, wr_eq (by omega) (by omega), Int.toNat_natCast, show (71 + 4 : Nat) = 75 from rfl, hG]
    show lq2 (fn_X11_text_L211 71 q) FU ((0 : Nat) : Int) G = _
    rw [a1]
    show lq2 (fn_X11_text_L301 71 q) FU ((0 : Nat) : Int) D1 = _
    rw [b1]
    unfold fn_X11_text_J351
    rw [rd_eq (by decide) (by decide), show (71 + 1 : Nat) = 72 from rfl, show (5 : Int).toNat = 5 from rfl, e5, wr_eq (by decide) (by decide), show (5 : Int).toNat = 5 from rfl]
  · rw [up_o (by decide), d2g 71 4 (by omega), ← hG, up_o (by decide), up_i, if_neg (by decide), up_i, if_pos rfl]
  · rw [up_o (by decide), d2g 71 5 (by omega), ← hG, up_o (by decide), up_i, if_pos rfl]
  · rw [up_o (by decide), d2g 75 j (by omega), ← hG, up_i, up_o (by decide), up_o (by decide)]
  · rw [up_o (by decide), b2' 76 j (by omega), a3, g 86 _ (by omega) (by decide), g 76 _ (by omega) (by decide)]; rfl
  · rw [up_o (by decide), b2' 77 j (by omega), a4, g 87 _ (by omega) (by decide), g 77 _ (by omega) (by decide)]; rfl
  · rw [up_o (by decide), b2' 78 j (by omega), a5, g 88 _ (by omega) (by decide), g 78 _ (by omega) (by decide)]; rfl
  · rw [up_o (by decide), b2' 79 j (by omega), a6, g 89 _ (by omega) (by decide), g 79 _ (by omega) (by decide)]; rfl
  · rw [up_o (by decide), b3, a2 90 _ (by omega), g 90 _ (by omega) (by decide), a2 80 _ (by omega), g 80 _ (by omega) (by decide)]; rfl
  · rw [up_o (by decide), b4, a2 91 _ (by omega), g 91 _ (by omega) (by decide), a2 81 _ (by omega), g 81 _ (by omega) (by decide)]; rfl
  · rw [up_k, if_neg h2, d2g a j (by omega), g a j h1 (by omega)]
def LawG (b : Nat) (C D : Mem) (q f t : Nat) (w : Int) (bb : Bool) : Prop :=
  ((0 ≤ C b f ∧ C b f ≤ 300) ∧ 0 ≤ C b t ∧ C b t ≤ 300) ∧
  ((C b f < C b t ∧ ∃ (k p : Nat) (xs : List Int), (k : Int) < C b 9 ∧ (∀ k' : Nat, (k' : Int) < C b 9 → (D 76 (20 * q + k') = w ↔ k' = k)) ∧ C b t = C b f + (xs.length : Int) ∧ Cd C (b + 1) (C b f).toNat xs ∧ D 77 (20 * q + k) = (p : Int) ∧ p + xs.length < 400 * q + 400 ∧ Od D p xs ∧ wf xs [] [bb]) ∨
   (¬ C b f < C b t ∧ ∀ k' : Nat, (k' : Int) < C b 9 → D 76 (20 * q + k') ≠ w))
def TxG (b : Nat) (C D : Mem) (q : Nat) : Prop := ((0 ≤ C b 9 ∧ C b 9 ≤ 20) ∧ D 75 q = C b 9) ∧
  (∀ k : Nat, (k : Int) < C b 9 → (4 ≤ C (b + 2) k ∧ C (b + 2) k ≤ 8) ∧ D 76 (20 * q + k) = C (b + 2) k - 4 ∧ (6 ≤ C (b + 2) k → (0 ≤ C (b + 3) k ∧ C (b + 3) k ≤ 99) ∧ D 78 (20 * q + k) = C (b + 3) k) ∧ (C (b + 2) k = 6 → (0 ≤ C (b + 4) k ∧ C (b + 4) k ≤ 9) ∧ D 79 (20 * q + k) = C (b + 4) k)) ∧
  LawG b C D q 2 3 0 true ∧ LawG b C D q 4 5 1 false
theorem LawG_R {C D : Mem} {q f t : Nat} {w : Int} {bb : Bool} (hq : q < 4) (h : LawG (43 + 5 * q) C D q f t w bb) : LawR C D q f t w bb := by
  refine ⟨h.1, ?_⟩
  rcases h.2 with ⟨h1, k, p, xs, g1, g2, g3, g4, g5, g6, g7, g8⟩ | h
  · exact Or.inl ⟨h1, k, p, xs, g1, g2, g3, g4, g5, by omega, g7, g8⟩
  · exact Or.inr h
theorem TxG_R {C D : Mem} {q : Nat} (hq : q < 4) (h : TxG (43 + 5 * q) C D q) : TxR C D q := ⟨h.1, h.2.1, LawG_R hq h.2.2.1, LawG_R hq h.2.2.2⟩
theorem Cd_seg {M M' : Mem} {c c' n : Nat} (h : ∀ i, i < n → M' c' i = M c i) : ∀ {xs : List Int} {p : Nat}, p + xs.length ≤ n → Cd M c p xs → Cd M' c' p xs
  | [], _, _, _ => trivial
  | x :: xs, p, hp, hx => by
    rw [List.length_cons] at hp
    exact ⟨by rw [h p (by omega)]; exact hx.1, Cd_seg h (by omega) hx.2⟩
theorem Od_seg {M M' : Mem} {n : Nat} (h : ∀ i, i < n → M' 80 i = M 80 i ∧ M' 81 i = M 81 i) : ∀ {xs : List Int} {p : Nat}, p + xs.length < n → Od M p xs → Od M' p xs
  | [], p, hp, hx => by
    have hx : M 80 p = 408 := hx
    show M' 80 p = 408
    rw [(h p (by simpa using hp)).1]; exact hx
  | x :: xs, p, hp, hx => by
    rw [List.length_cons] at hp
    exact ⟨by rw [(h p (by omega)).1]; exact hx.1, by rw [(h p (by omega)).2]; exact hx.2.1, Od_seg h (by omega) hx.2.2⟩
theorem LawG_f {b b' : Nat} {C D C' D' : Mem} {q f t : Nat} {w : Int} {bb : Bool} (hf : C' b' f = C b f) (ht : C' b' t = C b t) (h9 : C' b' 9 = C b 9) (hc20 : C b 9 ≤ 20) (h1 : ∀ i, i < 300 → C' (b' + 1) i = C (b + 1) i) (hD : ∀ i, i < 20 → D' 76 (20 * q + i) = D 76 (20 * q + i) ∧ D' 77 (20 * q + i) = D 77 (20 * q + i)) (h80 : ∀ i, i < 400 * q + 400 → D' 80 i = D 80 i ∧ D' 81 i = D 81 i) (h : LawG b C D q f t w bb) : LawG b' C' D' q f t w bb := by
  obtain ⟨h0, h⟩ := h
  unfold LawG
  rw [hf, ht, h9]
  refine ⟨h0, ?_⟩
  rcases h with ⟨e1, k, p, xs, g1, g2, g3, g4, g5, g6, g7, g8⟩ | ⟨e1, e2⟩
  · exact Or.inl ⟨e1, k, p, xs, g1, fun k' hk' => by rw [(hD k' (by omega)).1]; exact g2 k' hk', g3, Cd_seg h1 (by omega) g4, by rw [(hD k (by omega)).2]; exact g5, g6, Od_seg h80 g6 g7, g8⟩
  · exact Or.inr ⟨e1, fun k' hk' => by rw [(hD k' (by omega)).1]; exact e2 k' hk'⟩
theorem TxG_f {b b' : Nat} {C D C' D' : Mem} {q : Nat} (h0 : ∀ i, (i = 2 ∨ i = 3 ∨ i = 4 ∨ i = 5 ∨ i = 9) → C' b' i = C b i) (h1 : ∀ i, i < 300 → C' (b' + 1) i = C (b + 1) i) (h2 : ∀ i, i < 20 → C' (b' + 2) i = C (b + 2) i ∧ C' (b' + 3) i = C (b + 3) i ∧ C' (b' + 4) i = C (b + 4) i) (h75 : D' 75 q = D 75 q) (hD : ∀ k i, 76 ≤ k → k ≤ 79 → i < 20 → D' k (20 * q + i) = D k (20 * q + i)) (h80 : ∀ i, i < 400 * q + 400 → D' 80 i = D 80 i ∧ D' 81 i = D 81 i) (h : TxG b C D q) : TxG b' C' D' q := by
  obtain ⟨⟨g1, g2⟩, g3, g4, g5⟩ := h
  have hd : ∀ i, i < 20 → D' 76 (20 * q + i) = D 76 (20 * q + i) ∧ D' 77 (20 * q + i) = D 77 (20 * q + i) := fun i hi => ⟨hD 76 i (by omega) (by omega) hi, hD 77 i (by omega) (by omega) hi⟩
  refine ⟨⟨by rw [h0 9 (by omega)]; exact g1, by rw [h0 9 (by omega), h75]; exact g2⟩, fun k hk => ?_, LawG_f (h0 2 (by omega)) (h0 3 (by omega)) (h0 9 (by omega)) g1.2 h1 hd h80 g4, LawG_f (h0 4 (by omega)) (h0 5 (by omega)) (h0 9 (by omega)) g1.2 h1 hd h80 g5⟩
  rw [h0 9 (by omega)] at hk
  have hk20 : k < 20 := by omega
  rw [(h2 k hk20).1, (h2 k hk20).2.1, (h2 k hk20).2.2, hD 76 k (by omega) (by omega) hk20, hD 78 k (by omega) (by omega) hk20, hD 79 k (by omega) (by omega) hk20]
  exact g3 k hk
