/-! text: a clause, on the reference's side -/
def FE (D D' : Mem) : Prop := ∀ k i, (k = 71 → i < 14) → (k < 82 ∨ 91 < k ∨ (86 ≤ k ∧ k ≤ 89)) → D' k i = D k i
def FX2 (D D' : Mem) : Prop := ∀ k i, (k = 71 → i < 14) → (k < 82 ∨ 91 < k) → D' k i = D k i
theorem FE.rf {D : Mem} : FE D D := fun _ _ _ _ => rfl
theorem FE.tr {D D' D'' : Mem} (h : FE D D') (h' : FE D' D'') : FE D D'' := fun k i a b => (h' k i a b).trans (h k i a b)
theorem FX2.rf {D : Mem} : FX2 D D := fun _ _ _ _ => rfl
theorem FX2.tr {D D' D'' : Mem} (h : FX2 D D') (h' : FX2 D' D'') : FX2 D D'' := fun k i a b => (h' k i a b).trans (h k i a b)
theorem FX2.fe {D D' : Mem} (h : FE D D') : FX2 D D' := fun k i a b => h k i a (by omega)
theorem FE.fd {D D' : Mem} (h : FD D D') : FE D D' := fun k i a b => h k i (fun q => Or.inl (a q)) (by omega) (by omega) (by omega) (by omega) (by omega) (by omega)
theorem FE.n4 {D D' : Mem} (h : N4 D D') : FE D D' := FE.fd (FD.n4 h)
theorem FE.u {D : Mem} {i : Nat} {v : Int} (hi : 14 ≤ i) : FE D (up D 71 i v) := fun k j a _ => by
  rw [up_k, if_neg (by rintro ⟨rfl, rfl⟩; have := a rfl; omega)]
theorem FX2.a {D D' : Mem} {k i : Nat} {v : Int} (h : FX2 D D') (hk : 82 ≤ k ∧ k ≤ 91) : FX2 D (up D' k i v) := fun k' j a b => by
  rw [up_o (by omega)]; exact h k' j a b
theorem Rst_u {D : Mem} {op j : Nat} {fr wo wf ord : List Int} {v : Int} (hR : Rst D op fr wo wf ord) (hj : j = 27 ∨ j = 28 ∨ j = 29) : Rst (up D 71 j v) op fr wo wf ord := by
  obtain ⟨r1, r2, ⟨r3, r4⟩, ⟨r5, r6, r7, r8⟩, r9, r10⟩ := hR
  have g1 : ∀ i, i ≠ j → up D 71 j v 71 i = D 71 i := fun i a => by rw [up_i, if_neg a]
  exact ⟨by rw [g1 18 (by omega)]; exact r1, by rw [g1 20 (by omega)]; exact r2, ⟨by rw [g1 21 (by omega)]; exact r3, Sk_same (fun j => up_o (by decide)) r4⟩, ⟨by rw [g1 24 (by omega)]; exact r5, r6, Sk_same (fun j => up_o (by decide)) r7, Sk_same (fun j => up_o (by decide)) r8⟩, by rw [g1 34 (by omega)]; exact r9, fun j hj => by rw [up_o (by decide), up_o (by decide)]; exact r10 j hj⟩
theorem Rst_a {D : Mem} {op k j : Nat} {fr wo wf ord : List Int} {v : Int} (hR : Rst D op fr wo wf ord) (hj : 86 ≤ k ∧ k ≤ 89) : Rst (up D k j v) op fr wo wf ord := by
  obtain ⟨r1, r2, ⟨r3, r4⟩, ⟨r5, r6, r7, r8⟩, r9, r10⟩ := hR
  have g1 : ∀ a i, a ≠ k → up D k j v a i = D a i := fun a i h => by rw [up_o h]
  exact ⟨by rw [g1 71 18 (by omega)]; exact r1, by rw [g1 71 20 (by omega)]; exact r2, ⟨by rw [g1 71 21 (by omega)]; exact r3, Sk_same (fun j => g1 82 j (by omega)) r4⟩, ⟨by rw [g1 71 24 (by omega)]; exact r5, r6, Sk_same (fun j => g1 84 j (by omega)) r7, Sk_same (fun j => g1 85 j (by omega)) r8⟩, by rw [g1 71 34 (by omega)]; exact r9, fun j hj => by rw [g1 90 j (by omega), g1 91 j (by omega)]; exact r10 j hj⟩
theorem Ts_a {D : Mem} {k j : Nat} {v : Int} (hj : 86 ≤ k ∧ k ≤ 89) : Ts D (up D k j v) := ⟨fun i _ => up_o (by omega), fun i => up_o (by omega)⟩
theorem Rf_a {T : Tx} {D : Mem} {i k j op : Nat} {s v : Int} {fr wo wf ord : List Int} (hR : Rf T D i s op fr wo wf ord) (hj : 86 ≤ k ∧ k ≤ 89) : Rf T (up D k j v) i s op fr wo wf ord := ⟨Rt0_f (Ts_a hj) hR.1, by rw [up_o (by omega)]; exact hR.2.1, Rst_a hR.2.2 hj⟩
theorem Rf_u {T : Tx} {D : Mem} {i j op : Nat} {s v : Int} {fr wo wf ord : List Int} (hR : Rf T D i s op fr wo wf ord) (hj : j = 28 ∨ j = 29) : Rf T (up D 71 j v) i s op fr wo wf ord := ⟨Rt0_f (Ts_u (by omega)) hR.1, by rw [up_i, if_neg (by omega)]; exact hR.2.1, Rst_u hR.2.2 (by omega)⟩
theorem Rf_n {T : Tx} {D : Mem} {i op : Nat} {s : Int} {fr wo wf ord : List Int} (hT : TkT T) (hR : Rf T D i s op fr wo wf ord) (hi : i < tN T) : ∃ D', fn_X11_next 71 D = some D' ∧ Rf T D' (i + 1) s op fr wo wf ord ∧ N4 D D' := by
  obtain ⟨D', a, b, c⟩ := r_next hT hR.1 hi
  exact ⟨D', a, ⟨c, by rw [b 71 27 (by omega)]; exact hR.2.1, Rst_n4 b hR.2.2⟩, b⟩
theorem r_cov {T : Tx} {D : Mem} {i : Nat} {s : Int} {fr ord mp : List Int} (hT : TkT T) (hR : Rf T D i s 0 fr (pm mp ++ []) (pf mp fr.length ++ []) ord) (hfr : fr.length ≤ 40) (hmp : ∀ x, x ∈ mp → isOp x ∧ 1 ≤ rk x) (h80 : mp.length ≤ 40) (h399 : ord.length + mp.length ≤ 399) (hi : i < tN T) :
    ∃ D', fn_X11_clauseIsOver 71 D = some D' ∧ Rf T D' (i + 1) 4 0 [] [] [] (ord ++ mp ++ [-99]) ∧ D' 71 28 = D 71 28 + 1 ∧ FE D D' := by
  obtain ⟨D1, w1, w2, w3, w4, w5, w6⟩ := r_works1 (r := 1) (fr := fr) (pd := mp) (wo := []) (wf := []) (by omega) hfr (Or.inl rfl) hR.2.2 hmp (by rw [List.length_nil]; omega) (by omega)
  obtain ⟨r1, r2, ⟨r3, r4⟩, ⟨r5, r6, r7, r8⟩, r9, r10⟩ := w2
  have g1 : ∀ i, i ≠ 21 → up D1 71 21 0 71 i = D1 71 i := fun i a => by rw [up_i, if_neg a]
  have hS1 : Rst (up D1 71 21 0) 0 [] [] [] (ord ++ mp) := ⟨by rw [g1 18 (by omega)]; exact r1, by rw [g1 20 (by omega)]; exact r2, ⟨by rw [up_i, if_pos rfl]; rfl, trivial⟩, ⟨by rw [g1 24 (by omega)]; exact r5, r6, trivial, trivial⟩, by rw [g1 34 (by omega)]; exact r9, fun j hj => by rw [up_o (by decide), up_o (by decide)]; exact r10 j hj⟩
  obtain ⟨D2, e1, e2, e3, e4, e5⟩ := r_emits (x := -99) (a := 408) (b := 0) hS1 (by rw [List.length_append]; omega) (by decide) (by decide)
  have tsA : Ts D1 D2 := (Ts_u (by omega)).tr ⟨fun j hj => e4 j (by omega), fun j => e5 74 j (by decide) (by decide) (by decide)⟩
  have hR2 : Rt0 T (up D2 71 28 (D2 71 28 + 1)) i := Rt0_f ((w4.tr tsA).tr (Ts_u (by omega))) hR.1
  obtain ⟨D3, n1, n2, n3⟩ := r_next hT hR2 hi
  have e28 : D2 71 28 = D 71 28 := by rw [e4 28 (by decide), g1 28 (by decide), w3 71 28 (fun _ => by omega) (by decide) (by decide) (by decide) (by decide) (by decide) (by decide)]
  refine ⟨up D3 71 27 4, ?_, ⟨Rt0_f (Ts_u (by omega)) n3, by rw [up_i, if_pos rfl], Rst_u (Rst_n4 n2 (Rst_u e2 (by omega))) (by omega)⟩, ?_, ?_⟩
  · unfold fn_X11_clauseIsOver
    rw [w1, cv_s, st_eq, e1, cv_s, st_eq, n1, cv_s, st_eq]
  · rw [up_i, if_neg (by decide), n2 71 28 (by omega), up_i, if_pos rfl, e28]
  · exact (((((FE.fd w3).tr (FE.u (by omega))).tr (FE.fd e3)).tr (FE.u (by omega))).tr (FE.n4 n2)).tr (FE.u (by omega))
theorem rc_4 {D D' : Mem} (h0 : D 71 18 = 0) (h27 : D 71 27 = 4) (h16 : D 71 16 ≠ 0 ∧ 0 ≤ D 71 16 ∧ D 71 16 ≤ 4) (h : fn_X11_clause 71 D = some D') : Rc 1 D D' := fun N => by
  show fn_X11_text_L74 71 (lq1 (fn_X11_text_L74 71) N) D = _
  unfold fn_X11_text_L74 fn_X11_text_J96
  rw [h0, cEq_if (x := 0) (y := 0) (by decide) (by decide) (by decide) (by decide), if_pos rfl, h27, cEq_if (x := 4) (y := 4) (by decide) (by decide) (by decide) (by decide), if_pos rfl, cEq_if (x := D 71 16) (y := 0) (by omega) (by omega) (by decide) (by decide), if_neg h16.1, ck_R3 (by decide) (by decide), if_neg (by decide), if_neg (by decide), if_neg (by decide), if_neg (by decide), h, cv_s]
/-- what was told already -/
theorem r_told {D : Mem} {c : Nat} {w : Int} (hc : D 71 28 = (c : Int)) (h20 : c ≤ 20) (hw : R3 w) (hd : ∀ k, k < c → R3 (D 86 k)) : ∃ v, fn_X11_wasTold 71 w D = some v ∧ ((v = 1 ∧ ∃ k, k < c ∧ D 86 k = w) ∨ (v = 0 ∧ ∀ k, k < c → D 86 k ≠ w)) := by
  unfold fn_X11_wasTold
  have key : ∀ (q k N : Nat) (v : Int), k + q = c → q < N → ((v = 1 ∧ ∃ k', k' < c ∧ D 86 k' = w) ∨ (v = 0 ∧ ∀ k', k' < k → D 86 k' ≠ w)) → ∃ r, lq2 (fn_X11_wasTold_L4 71 w D) N (k : Int) v = some r ∧ ((r = 1 ∧ ∃ k, k < c ∧ D 86 k = w) ∨ (r = 0 ∧ ∀ k, k < c → D 86 k ≠ w)) := by
    intro q
    induction q with
    | zero =>
      intro k N v hk hN hv
      obtain ⟨N, rfl⟩ : ∃ N', N = N' + 1 := ⟨N - 1, by omega⟩
      obtain rfl : k = c := by omega
      show ∃ r, fn_X11_wasTold_L4 71 w D _ _ _ = some r ∧ _
      unfold fn_X11_wasTold_L4
      rw [hc, cLt_if (by omega) (by omega) (by omega) (by omega), if_neg (by omega), ck_t (by rcases hv with h | h; exact Or.inr h.1; exact Or.inl h.1)]
      exact ⟨v, rfl, hv⟩
    | succ q ih =>
      intro k N v hk hN hv
      obtain ⟨N, rfl⟩ : ∃ N', N = N' + 1 := ⟨N - 1, by omega⟩
      have ih := fun v => ih (k + 1) N v (by omega) (by omega)
      show ∃ r, fn_X11_wasTold_L4 71 w D (lq2 (fn_X11_wasTold_L4 71 w D) N) (k : Int) v = some r ∧ _
      generalize lq2 (fn_X11_wasTold_L4 71 w D) N = rec at ih
      unfold fn_X11_wasTold_L4 fn_X11_wasTold_J26 fn_X11_wasTold_J31
      rw [hc, cLt_if (by omega) (by omega) (by omega) (by omega), if_pos (by omega), nm_eq, show (k : Int) + 1 = ((k + 1 : Nat) : Int) by omega]
      rcases hv with ⟨rfl, hv⟩ | ⟨rfl, hv⟩
      · rw [cEq_if (by decide) (by decide) (by decide) (by decide), if_neg (by decide)]
        exact ih 1 (Or.inl ⟨rfl, hv⟩)
      · have hk2 := hd k (by omega)
        rw [cEq_if (x := 0) (y := 0) (by decide) (by decide) (by decide) (by decide), if_pos rfl, rd_eq (by omega) (by omega), Int.toNat_natCast, show 71 + 15 = 86 from rfl, cEq_if hk2.1 hk2.2 hw.1 hw.2, nm_eq]
        by_cases q1 : D 86 k = w
        · rw [if_pos q1]
          exact ih 1 (Or.inl ⟨rfl, k, by omega, q1⟩)
        · rw [if_neg q1]
          exact ih 0 (Or.inr ⟨rfl, fun k' hk' => by
            by_cases h : k' = k
            · rw [h]; exact q1
            · exact hv k' (by omega)⟩)
  exact key c 0 FU 0 (by omega) (lt_FU (by omega)) (Or.inr ⟨rfl, fun k' hk' => by omega⟩)
