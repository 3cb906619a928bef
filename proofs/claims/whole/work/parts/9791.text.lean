/-! text: the new TEXT -/
theorem wf_99 : ∀ {xs : List Int} {s r : List Bool}, wf xs s r → ∀ x, x ∈ xs → x ≠ -99
  | [], _, _, _ => fun x hx => by cases hx
  | y :: ys, s, r, ⟨s', h1, h2, h3⟩ => fun x hx => by
    rcases List.mem_cons.mp hx with h | h
    · rw [h]; unfold stp at h1
      rcases h1 with h1 | h1 | h1 | h1 | h1 | h1 | h1 <;> omega
    · exact wf_99 h3 x h
theorem od_mk {D : Mem} : ∀ (xs : List Int) (p : Nat), (∀ j, j < xs.length → D 80 (p + j) = mo (xs.getD j 0) ∧ D 81 (p + j) = mv (xs.getD j 0)) → D 80 (p + xs.length) = 408 → Od D p xs
  | [], p, _, h => h
  | x :: xs, p, h, h' => by
    have h0 := h 0 (by rw [List.length_cons]; omega)
    refine ⟨h0.1, h0.2, od_mk xs (p + 1) (fun j hj => ?_) (by rw [List.length_cons] at h'; rw [show p + 1 + xs.length = p + (xs.length + 1) by omega]; exact h')⟩
    have := h (j + 1) (by rw [List.length_cons]; omega)
    rw [show p + 1 + j = p + (j + 1) by omega]
    exact this
theorem getD_app {a b : List Int} {j : Nat} : (a ++ b).getD (a.length + j) 0 = b.getD j 0 := by
  rw [List.getD_eq_getElem?_getD, List.getD_eq_getElem?_getD, List.getElem?_append_right (by omega), Nat.add_sub_cancel_left]
theorem getD_l {a b : List Int} {j : Nat} (h : j < a.length) : (a ++ b).getD j 0 = a.getD j 0 := by
  rw [List.getD_eq_getElem?_getD, List.getD_eq_getElem?_getD, List.getElem?_append_left h]
theorem getD_mem {a : List Int} {j : Nat} (h : j < a.length) : a.getD j 0 ∈ a := by
  rw [List.getD_eq_getElem?_getD, List.getElem?_eq_getElem h]; exact List.getElem_mem h
theorem LawG_new {C D N : Mem} {c q f t : Nat} {w : Int} {bb : Bool} {code ord : List Int} (hI : LawI C D c f t w bb code ord) (h9 : C 32 9 = (c : Int)) (hcl : code.length ≤ 300) (hol : ord.length ≤ 400) (hCd : Cd C 33 0 code) (hO : Oq D ord) (n76 : ∀ k, k < c → N 76 (20 * q + k) = D 86 k) (n77 : ∀ k, k < c → N 77 (20 * q + k) = 400 * (q : Int) + D 87 k) (n80 : ∀ j, j < ord.length → N 80 (400 * q + j) = D 90 j ∧ N 81 (400 * q + j) = D 91 j) : LawG 32 C N q f t w bb := by
  rcases hI with ⟨k, a, xs, z, a', z', g1, g2, g3, g4, g5, g6, g7, g8⟩ | ⟨g1, g2, g3⟩
  · have hne := wf_ne g8
    have hlc : code.length = a.length + (xs.length + z.length) := by rw [g5, List.length_append, List.length_append]
    have hlo : ord.length = a'.length + (xs.length + (z'.length + 1)) := by rw [g6, List.length_append, List.length_append, List.length_cons]
    refine ⟨by omega, Or.inl ⟨by omega, k, 400 * q + a'.length, xs, by omega, fun k' hk' => ?_, by omega, ?_, ?_, by omega, ?_, g8⟩⟩
    · rw [n76 k' (by omega)]; exact g2 k' (by omega)
    · rw [g3, Int.toNat_natCast, show 32 + 1 = 33 from rfl]
      rw [g5, Cd_app, Cd_app, Nat.zero_add] at hCd
      exact hCd.2.1
    · rw [n77 k g1, g7]; omega
    · refine od_mk xs _ (fun j hj => ?_) ?_
      · have h1 := hO (a'.length + j) (by omega)
        have h2 := n80 (a'.length + j) (by omega)
        have e : ord.getD (a'.length + j) 0 = xs.getD j 0 := by rw [g6, getD_app, getD_l hj]
        have hx : xs.getD j 0 ≠ -99 := wf_99 g8 _ (getD_mem hj)
        rw [e] at h1
        unfold oo ov at h1
        rw [if_neg hx, if_neg hx] at h1
        rw [Nat.add_assoc, h2.1, h2.2]; exact h1
      · have h1 := hO (a'.length + xs.length) (by omega)
        have h2 := n80 (a'.length + xs.length) (by omega)
        have e : ord.getD (a'.length + xs.length) 0 = -99 := by
          rw [g6, getD_app]
          have := getD_app (a := xs) (b := -99 :: z') (j := 0)
          rw [Nat.add_zero] at this
          rw [this]; rfl
        rw [e] at h1
        rw [Nat.add_assoc, h2.1, h1.1]; rfl
  · refine ⟨by omega, Or.inr ⟨by omega, fun k' hk' => ?_⟩⟩
    rw [n76 k' (by omega)]; exact g3 k' (by omega)
theorem TxG_new {T : Tx} {C D N : Mem} {i c q : Nat} {code ord : List Int} (hI : Iv T C D i code c ord) (n75 : N 75 q = (c : Int)) (n76 : ∀ k, k < c → N 76 (20 * q + k) = D 86 k) (n77 : ∀ k, k < c → N 77 (20 * q + k) = 400 * (q : Int) + D 87 k) (n78 : ∀ k, k < c → N 78 (20 * q + k) = D 88 k ∧ N 79 (20 * q + k) = D 89 k) (n80 : ∀ j, j < ord.length → N 80 (400 * q + j) = D 90 j ∧ N 81 (400 * q + j) = D 91 j) : TxG 32 C N q := by
  obtain ⟨hC, hR, hol, ⟨hc1, hc2, hc3⟩, hcl, hL1, hL2⟩ := hI
  have h300 : tN T ≤ 300 := hC.1.1
  have h1 := hC.2.2.2.2.1
  have h2 := hC.2.2.2.2.2
  have hCd := hC.2.2.2.1.1
  have hO := hR.2.2.2.2.2.2.2
  refine ⟨⟨by omega, by rw [n75, hc1]⟩, fun k hk => ?_, LawG_new hL1 hc1 (by omega) (by omega) hCd hO n76 n77 n80, LawG_new hL2 hc1 (by omega) (by omega) hCd hO n76 n77 n80⟩
  have hk' := hcl k (by omega)
  unfold Cl1 at hk'
  rw [n76 k (by omega), (n78 k (by omega)).1, (n78 k (by omega)).2]
  exact hk'
theorem p_parse0 {M : Mem} {B : Nat → Int} {len : Nat} (h : Tc1 M B len) : ∃ (T : Tx) (C0 : Mem), tB T = B ∧ tL T = len ∧ TkT T ∧ fn_X1_parse 31 29 M = lq2 (fn_X1_parse_L32 31) FU ((0 : Nat) : Int) C0 ∧ Cls T C0 0 [] ∧ (C0 32 9 = 0 ∧ C0 32 2 = 0 ∧ C0 32 3 = 0 ∧ C0 32 4 = 0 ∧ C0 32 5 = 0) ∧ C0 31 2 = 1 ∧ (∀ k i, (k < 31 ∨ 41 < k) → C0 k i = M k i) := by
  obtain ⟨C', n, P, E, K, V, a1, a2, a3, a4, a5⟩ := p_cut h
  refine ⟨((B, len, n), (P, E), (K, V)), up (up (up (up (up (up (up (up (up C' 32 1 0) 32 2 0) 32 3 0) 32 4 0) 32 5 0) 32 9 0) 31 2 1) 31 3 0) 31 4 (-1), rfl, rfl, a3, ?_, ?_, ?_, ?_, fun k i hk => ?_⟩
  · unfold fn_X1_parse fn_X7_clear
    rw [show (31 + 6 : Nat) = 37 from rfl, a1, cv_s]
    rfl
  · refine ⟨Tk1_f (C := C') (fun j _ => by simp [up_k]) (fun k j _ _ => by simp [up_k]; omega) a4, ?_, by simp [up_k], ⟨trivial, by simp [up_k], by simp [up_k]⟩, Nat.le_refl _, Nat.zero_le _⟩
    have e : ∀ j, up (up (up (up (up (up (up (up (up C' 32 1 0) 32 2 0) 32 3 0) 32 4 0) 32 5 0) 32 9 0) 31 2 1) 31 3 0) 31 4 (-1) 37 j = C' 37 j := fun j => by simp [up_k]
    unfold At1
    rw [e, e, e, e]; exact a5
  · simp [up_k]
  · simp [up_k]
  · rw [up_o (by omega), up_o (by omega), up_o (by omega), up_o (by omega), up_o (by omega), up_o (by omega), up_o (by omega), up_o (by omega), up_o (by omega), a2 k i (by omega)]
theorem iv_0 {T : Tx} {C0 D0 : Mem} (hC : Cls T C0 0 []) (h32 : C0 32 9 = 0 ∧ C0 32 2 = 0 ∧ C0 32 3 = 0 ∧ C0 32 4 = 0 ∧ C0 32 5 = 0) (hR : Rf T D0 0 4 0 [] [] [] []) (h28 : D0 71 28 = 0) : Iv T C0 D0 0 [] 0 [] :=
  ⟨hC, hR, Nat.le_refl _, ⟨h32.1, h28, Nat.zero_le _⟩, fun k hk => absurd hk (Nat.not_lt_zero _), Or.inr ⟨h32.2.1, h32.2.2.1, fun k hk => absurd hk (Nat.not_lt_zero _)⟩, Or.inr ⟨h32.2.2.2.1, h32.2.2.2.2, fun k hk => absurd hk (Nat.not_lt_zero _)⟩⟩
/-- both readers, the class from M, the reference from N -/
theorem t_both {M N : Mem} {B : Nat → Int} {len q : Nat} (h : Tc1 M B len) (hN : N 71 3 = (len : Int)) (hB : ∀ i, i < len → N 74 i = sg (B i)) (h5 : N 72 5 = (q : Int)) (hq : q < 4) :
    (∃ C' N', fn_X1_parse 31 29 M = some (1, C') ∧ FC2 M (up C' 31 2 (M 31 2)) ∧ C' 31 2 = 1 ∧ C' 31 3 = 0 ∧ C' 31 4 = -1 ∧ fn_X11_text 71 N = some ((q : Int), N') ∧ TxG 32 C' N' q ∧ (N' 71 4 = 0 ∧ N' 71 5 = -1 ∧ N' 71 3 = 0 ∧ N' 72 5 = (q : Int) + 1) ∧ (∀ j, j ≠ q → N' 75 j = N 75 j) ∧ (∀ k j, 76 ≤ k → k ≤ 79 → (j < 20 * q) → N' k j = N k j) ∧ (∀ j, j < 400 * q → N' 80 j = N 80 j ∧ N' 81 j = N 81 j) ∧ (∀ k j, (k = 71 → j < 3) → ¬ (k = 72 ∧ j = 5) → (k < 75 ∨ 91 < k) → N' k j = N k j)) ∨
    (∃ C' N' f p, fn_X1_parse 31 29 M = some (0, C') ∧ FC2 M (up C' 31 2 (M 31 2)) ∧ C' 31 2 = 1 ∧ C' 31 3 = f ∧ C' 31 4 = p ∧ (1 ≤ f ∧ f ≤ 5) ∧ (0 ≤ p ∧ p ≤ 300) ∧ fn_X11_text 71 N = some (-1, N') ∧ (N' 71 4 = f ∧ N' 71 5 = p ∧ N' 71 3 = 0) ∧ (∀ k j, (k = 71 → j < 3) → (k < 82 ∨ 91 < k) → N' k j = N k j)) := by
  have h300 := h.1
  obtain ⟨T, C0, rfl, rfl, hT, a1, a2, a3, a4, a5⟩ := p_parse0 h
  obtain ⟨D0, b1, b2', b3, b4, b5⟩ := r_start hT hN h300 (fun i hi => ⟨hB i hi, (h.2.2 i hi).2⟩) h5 hq
  have hn300 : tN T ≤ 300 := a2.1.1
  have fcm : ∀ C', FC2 C0 C' → C' 31 2 = 1 ∧ FC2 M (up C' 31 2 (M 31 2)) := fun C' hc => ⟨by rw [hc 31 2 (by omega)]; exact a4, fun k i hk => by
    rcases hk with hk | hk | ⟨rfl, rfl⟩
    · rw [up_o (by omega), hc k i (by omega), a5 k i (by omega)]
    · rw [up_o (by omega), hc k i (by omega), a5 k i (by omega)]
    · rw [up_i, if_pos rfl]⟩
  have hFU : 100000 < FU := lt_FU (by decide)
  rcases parse_ok hT (tN T) C0 D0 0 0 FU [] [] (by omega) (by omega) (iv_0 a2 a3 b2' b3) with ⟨C', D', i', code', c', ord', k, e1, e2, e3, e4, e5, e6, e7, e8⟩ | ⟨C', D', f, p, k, e1, e2, e3, e4, e5, e6, e7, e8⟩
  · have hin := e3.1.2.2.2.2.2
    obtain ⟨n, hn⟩ : ∃ n, FU = (n + 1) + k := ⟨FU - 1 - k, by omega⟩
    have f5 : D' 72 5 = (q : Int) := by rw [e6 72 5 (by omega) (by omega), b5 72 5 (by omega)]; exact h5
    obtain ⟨N', g1, g2, g3, g4, g5, g6, g7, g8, g9, g10⟩ := r_done (N := n) e3.2.1 e4 e3.2.2.2.1.2.1 e3.2.2.2.1.2.2 (by have := e3.2.2.1; omega) f5 hq
    have hfr : ∀ k j, (k = 71 → j < 3) → (k < 82 ∨ 91 < k) → D' k j = N k j := fun k j h1 h2 => by rw [e6 k j (by omega) (by omega), b5 k j (by omega)]
    refine Or.inl ⟨C', N', by rw [a1]; exact e1, (fcm C' e5).2, (fcm C' e5).1, e3.1.2.2.2.1.2.1, e3.1.2.2.2.1.2.2, by rw [b1, hn, e7]; exact g1, TxG_new e3 (by rw [g3, if_pos rfl]) (fun k hk => by rw [g4, if_pos (by omega), show 20 * q + k - 20 * q = k by omega]) (fun k hk => by rw [g5, if_pos (by omega), show 20 * q + k - 20 * q = k by omega]) (fun k hk => ⟨by rw [g6, if_pos (by omega), show 20 * q + k - 20 * q = k by omega], by rw [g7, if_pos (by omega), show 20 * q + k - 20 * q = k by omega]⟩) (fun j hj => ⟨by rw [g8, if_pos (by omega), show 400 * q + j - 400 * q = j by omega], by rw [g9, if_pos (by omega), show 400 * q + j - 400 * q = j by omega]⟩), ⟨g2.1, g2.2.1, ?_, g2.2.2⟩, fun j hj => ?_, fun k j hk1 hk2 hj => ?_, fun j hj => ⟨?_, ?_⟩, fun k j h1 h2 h3 => ?_⟩
    · rw [g10 71 3 (by omega) (by omega) (by omega), e6 71 3 (by omega) (by omega)]; exact b4
    · rw [g3, if_neg hj, hfr 75 j (by omega) (by omega)]
    · have : k = 76 ∨ k = 77 ∨ k = 78 ∨ k = 79 := by omega
      rcases this with rfl | rfl | rfl | rfl
      · rw [g4, if_neg (by omega), hfr 76 j (by omega) (by omega)]
      · rw [g5, if_neg (by omega), hfr 77 j (by omega) (by omega)]
      · rw [g6, if_neg (by omega), hfr 78 j (by omega) (by omega)]
      · rw [g7, if_neg (by omega), hfr 79 j (by omega) (by omega)]
    · rw [g8, if_neg (by omega), hfr 80 j (by omega) (by omega)]
    · rw [g9, if_neg (by omega), hfr 81 j (by omega) (by omega)]
    · rw [g10 k j (by omega) h2 (by omega), hfr k j h1 (by omega)]
  · obtain ⟨n, hn⟩ : ∃ n, FU = (n + 1) + k := ⟨FU - 1 - k, by omega⟩
    refine Or.inr ⟨C', _, f, p, by rw [a1]; exact e1, (fcm C' e2).2, (fcm C' e2).1, e3, e4, e7.2.1, e7.2.2.2, by rw [b1, hn, e5]; exact r_fail e7, ⟨?_, ?_, ?_⟩, fun k j h1 h2 => ?_⟩
    · rw [up_i, if_neg (by decide), up_i, if_pos rfl]
    · rw [up_i, if_pos rfl]
    · rw [up_i, if_neg (by decide), up_i, if_neg (by decide), e8 71 3 (by omega) (by omega)]; exact b4
    · rw [up_k, if_neg (by omega), up_k, if_neg (by omega), e8 k j (by omega) (by omega), b5 k j (by omega)]
