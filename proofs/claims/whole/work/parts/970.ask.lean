/-! text: asks -/
theorem stp_cmp {k : Int} (h : 20 ≤ k ∧ k ≤ 25) (s : List Bool) : stp (-k) (false :: false :: s) (true :: s) := Or.inr (Or.inr (Or.inr (Or.inr (Or.inr (Or.inl ⟨by omega, s, rfl, rfl⟩)))))
theorem r_ask {T : Tx} {D : Mem} {i o : Nat} {fr wo wq ord : List Int} (hR : Rf T D i 0 o fr wo wq ord) (hf : fr.length < 40) (hk : tK T i ≠ 12) : ∃ D', Rc 1 D D' ∧ Rf T D' i 1 o (4 :: fr) wo wq ord ∧ FD D D' := by
  obtain ⟨h0, h27, hS⟩ := hR
  obtain ⟨D1, a1, a2, a3, a4, a5, a6⟩ := r_frame (f := 4) hS hf
  refine ⟨up D1 71 27 1, rc_st hS.1 (Or.inl ⟨h27, ?_⟩), ⟨Rt0_f (a4.tr (Ts_u (by omega))) h0, by rw [up_i, if_pos rfl], Rst_27 a2⟩, a3.u (by omega)⟩
  unfold fn_X11_asks
  rw [r_isWord h0 (by omega), cu_s, b2_f (by omega), cEq_if (by decide) (by decide) (by decide) (by decide), if_pos rfl, a1, cv_s, st_eq]
theorem q_isAsking {x : Int} {M : Mem} (hx : R3 x) : fn_X11_isAsking x M = some (b2 (x = 60 ∨ x = 62 ∨ x = 61 ∨ x = 35 ∨ x = 300 ∨ x = 301)) := by
  unfold fn_X11_isAsking fn_X11_isAsking_J38
  rw [cEq_if (y := 60) hx.1 hx.2 (by decide) (by decide), cEq_if (y := 62) hx.1 hx.2 (by decide) (by decide), cEq_if (y := 61) hx.1 hx.2 (by decide) (by decide), cEq_if (y := 35) hx.1 hx.2 (by decide) (by decide), cEq_if (y := 300) hx.1 hx.2 (by decide) (by decide), cEq_if (y := 301) hx.1 hx.2 (by decide) (by decide)]
  by_cases q1 : x = 60
  · rw [if_pos q1, b2_t (Or.inl q1)]
  rw [if_neg q1]
  by_cases q2 : x = 62
  · rw [if_pos q2, b2_t (by omega)]
  rw [if_neg q2]
  by_cases q3 : x = 61
  · rw [if_pos q3, b2_t (by omega)]
  rw [if_neg q3]
  by_cases q4 : x = 35
  · rw [if_pos q4, b2_t (by omega)]
  rw [if_neg q4]
  by_cases q5 : x = 300
  · rw [if_pos q5, b2_t (by omega)]
  rw [if_neg q5]
  by_cases q6 : x = 301
  · rw [if_pos q6, b2_t (by omega)]
  rw [if_neg q6, b2_f (by omega)]
theorem Sk_top {M : Mem} {c : Nat} {a b : Int} {t : List Int} (h : Sk M c (a :: t)) : Sk (up M c t.length b) c (b :: t) := ⟨by rw [up_i, if_pos rfl], Sk_up h.2 (Nat.le_refl _)⟩
theorem r_cmp {T : Tx} {D : Mem} {i o : Nat} {fr wo wq ord mp : List Int} (hT : TkT T) (hR : Rf T D i 2 o (4 :: fr) (pm mp ++ wo) (pf mp (fr.length + 1) ++ wq) ord) (hfr : fr.length ≤ 12) (hst : Stq wo wq (fr.length + 1) 3) (hk : tK T i ≠ 26 ∧ tK T i ≠ 27 ∧ tK T i ≠ 28 ∧ tK T i ≠ 29) (hmp : ∀ x, x ∈ mp → isOp x ∧ 3 ≤ rk x) (h80 : mp.length + wo.length ≤ 80) (h399 : ord.length + mp.length ≤ 399) (hi : i ≤ tN T) (hn0 : tK T (tN T) = 0) :
    (20 ≤ tK T i ∧ tK T i ≤ 25 → ∃ D', Rc 1 D D' ∧ Rf T D' (i + 1) 1 o (5 :: fr) wo wq (ord ++ mp) ∧ D' 83 (fr.length + 1) = mo (-tK T i) ∧ FD D D') ∧ (¬ (20 ≤ tK T i ∧ tK T i ≤ 25) → ∃ D', Rc 1 D D' ∧ Er D' 1 (tP T i : Int) ∧ FD D D') := by
  have hgo := g_on hR (by omega) hk
  have h1 := tr_so hR.1.2.2.2
  have h2 := tr_op hR.1.2.2.2
  refine ⟨fun q => ?_, fun q => ?_⟩
  · have hin : i < tN T := by
      by_cases h : i < tN T
      · exact h
      · have : i = tN T := by omega
        rw [this, hn0] at q; exact absurd q (by decide)
    have hso := h2.2 (by omega)
    have hto : D 71 17 = mo (-tK T i) := by
      rw [(h2.1 hso).2]; unfold tv
      rw [if_neg (by omega), if_neg (by omega), if_neg (by omega), if_neg (by omega)]
    have h3 := h1.2 (by omega) (by omega)
    have h4 := (tr_v hR.1.2.2.2 hso).2.2.2.2.2.2.2.mpr q
    obtain ⟨D1, w1, w2, w3, w4, w5, w6⟩ := r_works1 (r := 3) (fr := 4 :: fr) (pd := mp) (wo := wo) (wf := wq) (by omega) (by rw [List.length_cons]; omega) hst hR.2.2 hmp h80 (by omega)
    have w417 : D1 71 17 = mo (-tK T i) := by rw [w4.1 17 (by omega)]; exact hto
    have hw2 := w2
    obtain ⟨r1, r2, ⟨r3, r4⟩, ⟨r5, r6, r7, r8⟩, r9, r10⟩ := w2
    rw [List.length_cons] at r3
    generalize hG : up (up D1 83 (fr.length + 1) (mo (-tK T i))) 82 fr.length 5 = G
    have g1 : ∀ k j, k ≠ 83 → k ≠ 82 → G k j = D1 k j := fun k j a b => by rw [← hG, up_o b, up_o a]
    have tsG : Ts D1 G := ⟨fun j _ => g1 71 j (by decide) (by decide), fun j => g1 74 j (by decide) (by decide)⟩
    have hSG : Rst G o (5 :: fr) wo wq (ord ++ mp) := by
      refine ⟨by rw [g1 71 18 (by decide) (by decide)]; exact r1, by rw [g1 71 20 (by decide) (by decide)]; exact r2, ⟨by rw [g1 71 21 (by decide) (by decide), List.length_cons]; exact r3, ?_⟩, ⟨by rw [g1 71 24 (by decide) (by decide)]; exact r5, r6, Sk_same (fun j => g1 84 j (by decide) (by decide)) r7, Sk_same (fun j => g1 85 j (by decide) (by decide)) r8⟩, by rw [g1 71 34 (by decide) (by decide)]; exact r9, fun j hj => by rw [g1 90 j (by decide) (by decide), g1 91 j (by decide) (by decide)]; exact r10 j hj⟩
      rw [← hG]; exact Sk_top (Sk_o (by decide) r4)
    obtain ⟨D2, n1, n2, n3⟩ := r_next hT (Rt0_f (w4.tr tsG) hR.1) hin
    refine ⟨up D2 71 27 1, rc_st hR.2.2.1 (Or.inr (Or.inr (Or.inl ⟨hR.2.1, ?_⟩))), ⟨Rt0_f (Ts_u (by omega)) n3, by rw [up_i, if_pos rfl], Rst_27 (Rst_n4 n2 hSG)⟩, ?_, ?_⟩
    · rw [hgo]; unfold fn_X11_goesOn_J65 fn_X11_goesOn_J116
      have e1 : up D1 83 (fr.length + 1) (mo (-tK T i)) 71 21 = ((fr.length + 1 : Nat) : Int) := by rw [up_o (by decide)]; exact r3
      rw [cEq_if (x := 4) (y := 6) (by decide) (by decide) (by decide) (by decide), if_neg (by decide), cEq_if (x := 4) (y := 4) (by decide) (by decide) (by decide) (by decide), if_pos rfl, hso, cEq_if (x := 3) (y := 3) (by decide) (by decide) (by decide) (by decide), if_pos rfl, q_isAsking ⟨h3.1, h3.2⟩, cu_s, b2_t h4, cEq_if (x := 1) (y := 0) (by decide) (by decide) (by decide) (by decide), if_neg (by decide), w1, cv_s, r3, wr_eq (by omega) (by omega), Int.toNat_natCast, w417]
      simp only [Nat.reduceAdd]
      rw [e1, wr_eq (by omega) (by omega), show (((fr.length + 1 : Nat) : Int) - 1).toNat = fr.length by omega, hG, n1, cv_s, st_eq]
    · rw [up_o (by decide), n2 83 _ (by omega), ← hG, up_o (by decide), up_i, if_pos rfl]
    · refine (((w3.tr ?_).tr (FD.n4 n2)).u (by omega))
      rw [← hG]; exact (FD.rf.a (by omega)).a (by omega)
  · obtain ⟨D1, a1, a2, a3⟩ := r_errs (f := 1) hR.1 hR.2.2.1 (by omega)
    refine ⟨D1, rc_st hR.2.2.1 (Or.inr (Or.inr (Or.inl ⟨hR.2.1, ?_⟩))), a2, a3⟩
    have h181 : fn_X11_goesOn_J181 71 D 4 = some D1 := by
      unfold fn_X11_goesOn_J181 fn_X11_goesOn_J245
      rw [cEq_if (x := 4) (y := 5) (by decide) (by decide) (by decide) (by decide), if_neg (by decide), cEq_if (x := 4) (y := 1) (by decide) (by decide) (by decide) (by decide), if_neg (by decide), a1, cv_s]
    rw [hgo]; unfold fn_X11_goesOn_J65 fn_X11_goesOn_J116
    rw [h181, cEq_if (x := 4) (y := 6) (by decide) (by decide) (by decide) (by decide), if_neg (by decide), cEq_if (x := 4) (y := 4) (by decide) (by decide) (by decide) (by decide), if_pos rfl, cEq_if (x := D 71 16) (y := 3) (by omega) (by omega) (by decide) (by decide)]
    by_cases q3 : D 71 16 = 3
    · have h3 := h1.2 (by omega) (by omega)
      rw [if_pos q3, q_isAsking ⟨h3.1, h3.2⟩, cu_s, b2_f (fun h => q ((tr_v hR.1.2.2.2 q3).2.2.2.2.2.2.2.mp h)), cEq_if (by decide) (by decide) (by decide) (by decide), if_pos rfl]
    · rw [if_neg q3]
theorem mo_cmp {k : Int} (h : 20 ≤ k ∧ k ≤ 25) : oo (-k) = mo (-k) ∧ ov (-k) = 0 := by
  unfold oo ov mv
  rw [if_neg (by omega), if_neg (by omega), if_neg (by omega), if_neg (by omega)]
  exact ⟨rfl, rfl⟩
theorem r_askend {T : Tx} {D : Mem} {i o m : Nat} {f0 k : Int} {fr wo wq ord mp : List Int} (hR : Rf T D i 2 o (5 :: (List.replicate m 3 ++ f0 :: fr)) (pm mp ++ wo) (pf mp ((List.replicate m (3 : Int) ++ f0 :: fr).length + 1) ++ wq) ord) (h83 : D 83 ((List.replicate m (3 : Int) ++ f0 :: fr).length + 1) = mo (-k)) (hkk : 20 ≤ k ∧ k ≤ 25) (h7 : f0 ≠ 3) (hf0 : 0 ≤ f0 ∧ f0 ≤ 9) (hm : m ≤ o) (ho : o ≤ 8) (hfr : fr.length + 1 + m ≤ o + 1) (hst : Stq wo wq ((List.replicate m (3 : Int) ++ f0 :: fr).length + 1) 3) (hk : tK T i ≠ 26 ∧ tK T i ≠ 27 ∧ tK T i ≠ 28 ∧ tK T i ≠ 29) (hmp : ∀ x, x ∈ mp → isOp x ∧ 3 ≤ rk x) (h80 : mp.length + wo.length ≤ 80) (h399 : ord.length + mp.length + m ≤ 398) :
    ∃ D', Rc 1 D D' ∧ Rf T D' i 3 (o - m) (f0 :: fr) wo wq (ord ++ mp ++ [-k] ++ List.replicate m (-12)) ∧ FD D D' := by
  have hlen : (List.replicate m (3 : Int) ++ f0 :: fr).length = m + fr.length + 1 := by rw [List.length_append, List.length_replicate, List.length_cons]; omega
  have hgo := g_on hR (by rw [hlen]; omega) hk
  obtain ⟨D1, w1, w2, w3, w4, w5, w6⟩ := r_works1 (r := 3) (fr := 5 :: (List.replicate m (3 : Int) ++ f0 :: fr)) (pd := mp) (wo := wo) (wf := wq) (by omega) (by rw [List.length_cons, hlen]; omega) hst hR.2.2 hmp h80 (by omega)
  obtain ⟨r1, r2, ⟨r3, r4⟩, ⟨r5, r6, r7, r8⟩, r9, r10⟩ := w2
  rw [List.length_cons, hlen] at r3
  rw [hlen] at h83
  generalize hG : up D1 71 21 ((m + fr.length + 1 : Nat) : Int) = G
  have g1 : ∀ j, j ≠ 21 → G 71 j = D1 71 j := fun j a => by rw [← hG, up_i, if_neg a]
  have g2 : ∀ k j, k ≠ 71 → G k j = D1 k j := fun k j a => by rw [← hG, up_o a]
  have hSG : Rst G o (List.replicate m 3 ++ f0 :: fr) wo wq (ord ++ mp) := ⟨by rw [g1 18 (by decide)]; exact r1, by rw [g1 20 (by decide)]; exact r2, ⟨by rw [← hG, up_i, if_pos rfl, hlen], Sk_same (fun j => g2 82 j (by decide)) r4.2⟩, ⟨by rw [g1 24 (by decide)]; exact r5, r6, Sk_same (fun j => g2 84 j (by decide)) r7, Sk_same (fun j => g2 85 j (by decide)) r8⟩, by rw [g1 34 (by decide)]; exact r9, fun j hj => by rw [g2 90 j (by decide), g2 91 j (by decide)]; exact r10 j hj⟩
  obtain ⟨D2, e1, e2, e3, e4, e5⟩ := r_emits (x := -k) (a := mo (-k)) (b := 0) hSG (by rw [List.length_append]; omega) (mo_cmp hkk).1.symm (mo_cmp hkk).2.symm
  rw [show o = (o - m) + m by omega] at e2
  obtain ⟨D', v1, v2, v3, v4, v5⟩ := r_over3 h7 ⟨by omega, by omega⟩ m D2 (ord ++ mp ++ [-k]) FU (lt_FU (by omega)) e2 (by omega) (by rw [List.length_append, List.length_append, List.length_singleton]; omega)
  have v1 : fn_X11_askIsOver 71 D2 = some D' := v1
  have tsG : Ts D1 G := ⟨fun j hj => g1 j (by omega), fun j => g2 74 j (by decide)⟩
  have ts2 : Ts G D2 := ⟨fun j hj => e4 j (by omega), fun j => e5 74 j (by decide) (by decide) (by decide)⟩
  refine ⟨D', rc_st hR.2.2.1 (Or.inr (Or.inr (Or.inl ⟨hR.2.1, ?_⟩))), ⟨Rt0_f (((w4.tr tsG).tr ts2).tr v4) hR.1, v5, v2⟩, ((w3.tr (by rw [← hG]; exact FD.rf.u (by omega))).tr e3).tr v3⟩
  rw [hgo]; unfold fn_X11_goesOn_J65 fn_X11_goesOn_J116 fn_X11_goesOn_J181
  rw [cEq_if (x := 5) (y := 6) (by decide) (by decide) (by decide) (by decide), if_neg (by decide), cEq_if (x := 5) (y := 4) (by decide) (by decide) (by decide) (by decide), if_neg (by decide), cEq_if (x := 5) (y := 5) (by decide) (by decide) (by decide) (by decide), if_pos rfl, w1, cv_s, r3, rd_eq (by omega) (by omega), Int.toNat_natCast]
  simp only [Nat.reduceAdd]
  rw [w6, h83, st_eq, show ((m + fr.length + 1 + 1 : Nat) : Int) - 1 = ((m + fr.length + 1 : Nat) : Int) by omega, hG, e1, cv_s, v1, cv_s]
theorem ops_as {T : Tx} {o : Nat} {r : Int} {isK : Int → Prop} (hT : TkT T) (hK : ∀ k, isK k → (k = 10 ∨ k = 11) ∧ rk (-k) = r) : Ops T FD 0 3 o r isK := by
  intro D i f0 fr wo wq ord pd hR hk hi hf0 hfr hst hpd h40 h399
  obtain ⟨h0, h27, hS⟩ := hR
  obtain ⟨k1, k2⟩ := hK _ hk
  have hop : isOp (-tK T i) := by unfold isOp; omega
  obtain ⟨D1, a1, a2, a3, a4, a5, a6⟩ := r_waits (y := -tK T i) (fr := f0 :: fr) hT hop (by rw [List.length_cons]; omega) (by rw [k2]; exact hst) hS h0 hi (by rw [k2]; exact hpd) (by omega) h399
  have w6 := r_isWord (w := 6) h0 (by omega)
  have w7 := r_isWord (w := 7) h0 (by omega)
  refine ⟨up D1 71 27 0, rc_st hS.1 (Or.inr (Or.inr (Or.inr ⟨h27, ?_⟩))), ⟨Rt0_f (Ts_u (by omega)) a4, by rw [up_i, if_pos rfl], Rst_27 a2⟩, a3.u (by omega)⟩
  unfold fn_X11_asksOn fn_X11_asksOn_J18 fn_X11_asksOn_J37
  rcases k1 with k1 | k1
  · rw [k1] at a1
    have a1 : fn_X11_waitsFor 71 407 D = some D1 := a1
    rw [w6, cu_s, b2_t (by omega), cEq_if (x := 1) (y := 0) (by decide) (by decide) (by decide) (by decide), if_neg (by decide), cu_s, cEq_if (x := 1) (y := 0) (by decide) (by decide) (by decide) (by decide), if_neg (by decide), a1, cv_s, st_eq]
  · rw [k1] at a1
    have a1 : fn_X11_waitsFor 71 406 D = some D1 := a1
    rw [w6, cu_s, b2_f (by omega), cEq_if (x := 0) (y := 0) (by decide) (by decide) (by decide) (by decide), if_pos rfl, w7, cu_s, b2_t (by omega), cEq_if (x := 1) (y := 0) (by decide) (by decide) (by decide) (by decide), if_neg (by decide), cu_s, cEq_if (x := 0) (y := 0) (by decide) (by decide) (by decide) (by decide), if_pos rfl, a1, cv_s, st_eq]
