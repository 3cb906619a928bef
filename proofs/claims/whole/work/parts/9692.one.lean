/-! text: one thing, the cases -/
theorem stq_new {wo wq : List Int} {n N : Nat} {r : Int} (hl : wo.length = wq.length) (hwq : ∀ b, b ∈ wq → 0 ≤ b ∧ b ≤ ((n : Nat) : Int)) (hn : n < N) (h100 : n ≤ 100) : Stq wo wq N r := by
  cases wo with
  | nil => exact Or.inl rfl
  | cons a t =>
    cases wq with
    | nil => rw [List.length_cons] at hl; exact absurd hl (by simp)
    | cons b u =>
      have := hwq b List.mem_cons_self
      exact Or.inr (Or.inl ⟨a, t, b, u, rfl, rfl, by omega, by omega⟩)
theorem r_close {T : Tx} {D : Mem} {i o m : Nat} {f0 : Int} {fr wo wq ord mp : List Int} (hT : TkT T) (hR : Rf T D i 2 (o + 1) (6 :: (List.replicate m 7 ++ f0 :: fr)) (pm mp ++ wo) (pf mp ((List.replicate m (7 : Int) ++ f0 :: fr).length + 1) ++ wq) ord) (h7 : f0 ≠ 7) (hf0 : 0 ≤ f0 ∧ f0 ≤ 9) (hm : m ≤ o) (ho : o ≤ 8) (hfr : fr.length + 1 + m ≤ o + 2) (hst : Stq wo wq ((List.replicate m (7 : Int) ++ f0 :: fr).length + 1) 3) (hk : tK T i ≠ 26 ∧ tK T i ≠ 27 ∧ tK T i ≠ 28 ∧ tK T i ≠ 29) (hmp : ∀ x, x ∈ mp → isOp x ∧ 3 ≤ rk x) (h80 : mp.length + wo.length ≤ 80) (h399 : ord.length + mp.length + m ≤ 399) (hi : i ≤ tN T) (hn0 : tK T (tN T) = 0) :
    (tK T i = 31 → ∃ D', Rc 1 D D' ∧ Rf T D' (i + 1) 2 (o - m) (f0 :: fr) wo wq (ord ++ mp ++ List.replicate m (-33)) ∧ FA D D') ∧ (tK T i ≠ 31 → ∃ D', Rc 1 D D' ∧ Er D' 1 (tP T i : Int) ∧ FD D D') := by
  have hlen : (List.replicate m (7 : Int) ++ f0 :: fr).length = m + fr.length + 1 := by rw [List.length_append, List.length_replicate, List.length_cons]; omega
  have hgo := g_on hR (by rw [hlen]; omega) hk
  have hsg := r_isSign (s := 41) (kk := 31) hR.1 (by omega)
  refine ⟨fun q => ?_, fun q => ?_⟩
  · have hin : i < tN T := by
      by_cases h : i < tN T
      · exact h
      · have : i = tN T := by omega
        rw [this, hn0] at q; exact absurd q (by decide)
    obtain ⟨D1, w1, w2, w3, w4, w5, w6⟩ := r_works1 (r := 3) (fr := 6 :: (List.replicate m (7 : Int) ++ f0 :: fr)) (pd := mp) (wo := wo) (wf := wq) (by omega) (by rw [List.length_cons, hlen]; omega) hst hR.2.2 hmp h80 (by omega)
    have r3 := w2.2.2.1.1
    have r2 := w2.2.1
    rw [List.length_cons, hlen] at r3
    have hP := Rst_pop w2
    rw [hlen] at hP
    have e1 : up D1 71 21 (((m + fr.length + 1 + 1 : Nat) : Int) - 1) 71 20 = ((o + 1 : Nat) : Int) := by rw [up_i, if_neg (by decide)]; exact r2
    generalize hG : up (up D1 71 21 ((m + fr.length + 1 : Nat) : Int)) 71 20 (o : Int) = G at hP
    have tsG : Ts D1 G := by rw [← hG]; exact (Ts_u (by omega)).tr (Ts_u (by omega))
    have faG : FA D1 G := by rw [← hG]; exact (FA.u (by omega)).tr (FA.u (by omega))
    obtain ⟨D2, n1, n2, n3⟩ := r_next hT (Rt0_f (w4.tr tsG) hR.1) hin
    have hS2 := Rst_n4 n2 hP
    rw [show o = (o - m) + m by omega] at hS2
    obtain ⟨D', v1, v2, v3, v4, v5, v6⟩ := r_over7 h7 ⟨by omega, by omega⟩ m D2 (ord ++ mp) FU (lt_FU (by omega)) hS2 (by omega) (by rw [List.length_append]; omega)
    have v1 : fn_X11_oneIsOver 71 D2 = some D' := v1
    refine ⟨D', rc_st hR.2.2.1 (Or.inr (Or.inr (Or.inl ⟨hR.2.1, ?_⟩))), ⟨Rt0_f v4 n3, v5, v2⟩, ((FA.tr ⟨w3, w6⟩ faG).tr (FA.n4 n2)).tr ⟨v3, v6⟩⟩
    rw [hgo]; unfold fn_X11_goesOn_J65
    rw [cEq_if (by decide) (by decide) (by decide) (by decide), if_pos rfl, hsg, cu_s, b2_t q, cEq_if (by decide) (by decide) (by decide) (by decide), if_neg (by decide), w1, cv_s, r3, st_eq, e1, st_eq, show ((m + fr.length + 1 + 1 : Nat) : Int) - 1 = ((m + fr.length + 1 : Nat) : Int) by omega, show ((o + 1 : Nat) : Int) - 1 = (o : Int) by omega, hG, n1, cv_s, v1, cv_s]
  · obtain ⟨D1, a1, a2, a3⟩ := r_errs (f := 1) hR.1 hR.2.2.1 (by omega)
    refine ⟨D1, rc_st hR.2.2.1 (Or.inr (Or.inr (Or.inl ⟨hR.2.1, ?_⟩))), a2, a3⟩
    rw [hgo]; unfold fn_X11_goesOn_J65 fn_X11_goesOn_J116 fn_X11_goesOn_J181 fn_X11_goesOn_J245
    rw [cEq_if (x := 6) (y := 6) (by decide) (by decide) (by decide) (by decide), if_pos rfl, hsg, cu_s, b2_f q, cEq_if (x := 0) (y := 0) (by decide) (by decide) (by decide) (by decide), if_pos rfl, cEq_if (x := 6) (y := 4) (by decide) (by decide) (by decide) (by decide), if_neg (by decide), cEq_if (x := 6) (y := 5) (by decide) (by decide) (by decide) (by decide), if_neg (by decide), cEq_if (x := 6) (y := 1) (by decide) (by decide) (by decide) (by decide), if_neg (by decide), a1, cv_s]
def nx3 (k : Int) : Prop := ((True ∧ ¬ (k = 28 ∨ k = 29)) ∧ ¬ (k = 26 ∨ k = 27))
set_option maxHeartbeats 1000000 in
theorem one_ok {T : Tx} {o : Nat} {fL : Nat → Int → Int → Mem → Option (Int × Mem)} {fA fO : Nat → Int → Mem → Option (Int × Mem)} (hT : TkT T) (ho : o ≤ 8) (hO : o < 8 → Ons T (o + 1) (fO 31 ((o + 1 : Nat) : Int))) (hL : o < 8 → Sbs T FA false 1 2 (o + 1) (3 + 2 * (8 - (o + 1))) 4 2 3 nx3 (fL 31 3 ((o + 1 : Nat) : Int))) : Ons T o (fn_X1_one_F fL fA fO 31 o) := by
  intro C D i code m f0 fr wo wq ord hC hR hf0 hm hfr hwq hwl hord
  have h300 : tN T ≤ 300 := hC.1.1
  have hk := tr_k hR.1.2.2.2
  have hin := hC.2.2.2.2.2
  have hcl := hC.2.2.2.2.1
  have h7 : C (31 + 6) 7 = tK T i := hC.2.1.2.1
  have h8 : C (31 + 6) 8 = tV T i := hC.2.1.2.2.1
  have hlen : (List.replicate m (7 : Int) ++ f0 :: fr).length = m + fr.length + 1 := by rw [List.length_append, List.length_replicate, List.length_cons]; omega
  unfold fn_X1_one_F
  rw [nm_eq, h7, cEq_if (x := tK T i) (y := 2) (by omega) (by omega) (by decide) (by decide)]
  by_cases q2 : tK T i = 2
  · have hi := cls_lt hC (by omega)
    have hk2 := hR.1.2.2.2
    rw [q2] at hk2
    obtain ⟨-, hv⟩ := tr_num hk2
    obtain ⟨b1, b3⟩ := beg_num hT hR hf0.1 hf0.2 hm ho hfr hi h300 hord q2
    have hv0 : 0 ≤ tV T i ∧ tV T i ≤ 10000 := by omega
    rw [if_pos q2, nm_eq, h8]
    by_cases qv : tV T i ≤ 9999
    · obtain ⟨C1, c1, c2, c3⟩ := (c_num (a := 9999) hC (by decide) hk (fun _ => hv0)).1 q2 qv
      obtain ⟨C2, p1, p2, p3⟩ := c_put (x := tV T i) c2 (by omega)
      obtain ⟨D', r1, r2, r3⟩ := b1 qv
      clear b1 b3
      rw [c1, cl_s, cEq_if (by decide) (by decide) (by decide) (by decide), if_neg (by decide), show 31 + 1 = 32 from rfl, p1, cl_s, cEq_if (by decide) (by decide) (by decide) (by decide), if_neg (by decide)]
      exact Or.inl ⟨C2, D', i + 1, [tV T i], 1, rfl, by omega, by rw [List.length_singleton]; omega, p2, c3.tr p3, r1, by omega, r3, wfx_leaf (by omega) (fun s => Or.inl ⟨by omega, qv, rfl⟩), r2⟩
    · obtain ⟨C1, c1, c2, c3, c4⟩ := (c_num (a := 9999) hC (by decide) hk (fun _ => hv0)).2.1 q2 (by omega)
      obtain ⟨D', r1, r2, r3⟩ := b3 (by omega)
      clear b1 b3
      rw [c1, cl_s, cEq_if (by decide) (by decide) (by decide) (by decide), if_pos rfl]
      exact Or.inr ⟨C1, D', _, _, 1, rfl, c2, c3, c4, r1, by omega, r2, r3⟩
  · rw [if_neg q2, p_isWithin (x := tK T i) ⟨by omega, by omega⟩ ⟨by decide, by decide⟩ ⟨by decide, by decide⟩, cu_s, cE_b2]
    by_cases qn : 13 ≤ tK T i ∧ tK T i ≤ 19
    · have hi := cls_lt hC (by omega)
      obtain ⟨D', r1, r2, r3⟩ := beg_name hT hR hf0.1 hf0.2 hm ho hfr hi h300 hord qn
      obtain ⟨C1, c1, c2, c3⟩ := c_next hC hi
      obtain ⟨C2, p1, p2, p3⟩ := c_put (x := -tK T i) c2 (by omega)
      rw [if_pos qn, show 31 + 6 = 37 from rfl, c1, cv_s, show 31 + 1 = 32 from rfl, p1, cl_s, ck_t (Or.inr rfl)]
      exact Or.inl ⟨C2, D', i + 1, [-tK T i], 1, rfl, by omega, by rw [List.length_singleton]; omega, p2, c3.tr p3, r1, by omega, r3, wfx_leaf (by omega) (fun s => Or.inr (Or.inl ⟨by omega, by omega, rfl⟩)), r2⟩
    · rw [if_neg qn, cEq_if (x := tK T i) (y := 30) (by omega) (by omega) (by decide) (by decide)]
      have hbg := beg_90 hR.1 ⟨q2, qn⟩
      have s40 := r_isSign (s := 40) (kk := 30) hR.1 (by omega)
      have s45 := r_isSign (s := 45) (kk := 27) hR.1 (by omega)
      by_cases q30 : tK T i = 30
      · have hi := cls_lt hC (by omega)
        have hro := r_opens (f := 6) hT hR hi (by rw [hlen]; omega) ho
        have hco := c_opens (o := o) hC hi ho
        rw [if_pos q30]
        by_cases q8 : o < 8
        · obtain ⟨D1, r1, r2, r3⟩ := hro.1 q8
          obtain ⟨C1, c1, c2, c3⟩ := hco.1 q8
          clear hro hco
          have rc1 : Rc 1 D D1 := rc_st hR.2.2.1 (Or.inr (Or.inl ⟨hR.2.1, by rw [hbg]; unfold fn_X11_begins_J90; rw [s40, cu_s, b2_t q30, cEq_if (by decide) (by decide) (by decide) (by decide), if_neg (by decide), r1, cl_s]⟩))
          have hst : Stq wo wq ((List.replicate m (7 : Int) ++ f0 :: fr).length + 1) 3 := stq_new hR.2.2.2.2.2.1.2.1 hwq (by rw [hlen]; omega) (by omega)
          rw [c1, cl_s, cEq_if (by decide) (by decide) (by decide) (by decide), if_neg (by decide), show (o : Int) + 1 = ((o + 1 : Nat) : Int) by omega]
          rcases hL q8 C1 D1 (i + 1) code 6 (List.replicate m 7 ++ f0 :: fr) wo wq ord c2 r2 (by decide) (by rw [hlen]; omega) hst (fun b hb => by have := hwq b hb; rw [hlen]; omega) (by rw [hlen]; omega) (by omega) with ⟨C3, D3, i3, ys, k3, a1, a2, a3, a4, a5, a6, a7, a8, a9, a10, mp3, ord3, a11, a12, a13, a14⟩ | ⟨C3, D3, f, p, k3, a1, a2, a3, a4, a5, a6, a7, a8⟩
          · have hin3 := a4.2.2.2.2.2
            have hk3 := tr_k a11.1.2.2.2
            have hel : ord3.length + mp3.length = ord.length + ys.length := by rw [← List.length_append, a12, List.length_append]
            unfold nx3 at a10
            have hrc := r_close hT a11 hf0.1 hf0.2 hm ho hfr hst (by omega) a13 (by omega) (by omega) hin3 hC.1.2.2.2.2.1
            rw [a1, cl_s, cEq_if (by decide) (by decide) (by decide) (by decide), if_neg (by decide)]
            by_cases q31 : tK T i3 = 31
            · obtain ⟨D4, d1, d2, d3⟩ := hrc.1 q31
              clear hrc
              obtain ⟨C4, e1, e2, e3⟩ := (c_pass (a := 31) a4 (by decide) hk3).1 q31
              rw [e1, cl_s, cEq_if (by decide) (by decide) (by decide) (by decide), if_neg (by decide)]
              rw [a12] at d2
              exact Or.inl ⟨C4, D4, i3 + 1, ys, 1 + (k3 + 1), rfl, by omega, by omega, e2, (c3.tr a5).tr e3, rc1.tr (a6.tr d1), by omega, (r3.tr a8).tr d3, wfx_mono a9 (by omega), d2⟩
            · obtain ⟨D4, d1, d2, d3⟩ := hrc.2 q31
              clear hrc
              obtain ⟨C4, e1, e2, e3, e4⟩ := (c_pass (a := 31) a4 (by decide) hk3).2 q31
              rw [e1, cl_s, cEq_if (by decide) (by decide) (by decide) (by decide), if_pos rfl]
              exact Or.inr ⟨C4, D4, _, _, 1 + (k3 + 1), rfl, (c3.tr a5).tr e2, e3, e4, rc1.tr (a6.tr d1), by omega, d2, (r3.1.tr a8.1).tr d3⟩
          · rw [a1, cl_s, cEq_if (by decide) (by decide) (by decide) (by decide), if_pos rfl]
            exact Or.inr ⟨C3, D3, f, p, 1 + k3, rfl, c3.tr a2, a3, a4, rc1.tr a5, by omega, a7, r3.1.tr a8⟩
        · obtain ⟨D1, r1, r2, r3⟩ := hro.2 q8
          obtain ⟨C1, c1, c2, c3, c4⟩ := hco.2 q8
          have rc1 : Rc 1 D D1 := rc_st hR.2.2.1 (Or.inr (Or.inl ⟨hR.2.1, by rw [hbg]; unfold fn_X11_begins_J90; rw [s40, cu_s, b2_t q30, cEq_if (by decide) (by decide) (by decide) (by decide), if_neg (by decide), r1, cl_s]⟩))
          rw [c1, cl_s, cEq_if (by decide) (by decide) (by decide) (by decide), if_pos rfl]
          exact Or.inr ⟨C1, D1, _, _, 1, rfl, c2, c3, c4, rc1, by omega, r2, r3⟩
      · rw [if_neg q30, cEq_if (x := tK T i) (y := 27) (by omega) (by omega) (by decide) (by decide)]
        by_cases q27 : tK T i = 27
        · have hi := cls_lt hC (by omega)
          have hro := r_opens (f := 7) hT hR hi (by rw [hlen]; omega) ho
          have hco := c_opens (o := o) hC hi ho
          rw [if_pos q27]
          by_cases q8 : o < 8
          · obtain ⟨D1, r1, r2, r3⟩ := hro.1 q8
            obtain ⟨C1, c1, c2, c3⟩ := hco.1 q8
            clear hro hco
            have rc1 : Rc 1 D D1 := rc_st hR.2.2.1 (Or.inr (Or.inl ⟨hR.2.1, by rw [hbg]; unfold fn_X11_begins_J90; rw [s40, cu_s, b2_f q30, cEq_if (x := 0) (by decide) (by decide) (by decide) (by decide), if_pos rfl, s45, cu_s, b2_t q27, cEq_if (by decide) (by decide) (by decide) (by decide), if_neg (by decide), r1, cl_s]⟩))
            rw [c1, cl_s, cEq_if (by decide) (by decide) (by decide) (by decide), if_neg (by decide), show (o : Int) + 1 = ((o + 1 : Nat) : Int) by omega]
            rcases hO q8 C1 D1 (i + 1) code (m + 1) f0 fr wo wq ord c2 r2 hf0 (by omega) (by omega) hwq hwl (by omega) with ⟨C3, D3, i3, ys, k3, a1, a2, a3, a4, a5, a6, a7, a8, a9, a10⟩ | ⟨C3, D3, f, p, k3, a1, a2, a3, a4, a5, a6, a7, a8⟩
            · obtain ⟨C4, p1, p2, p3⟩ := c_put (x := -33) a4 (by rw [List.length_append]; omega)
              rw [a1, cl_s, cEq_if (by decide) (by decide) (by decide) (by decide), if_neg (by decide), show 31 + 1 = 32 from rfl, p1, cl_s, cEq_if (by decide) (by decide) (by decide) (by decide), if_neg (by decide)]
              refine Or.inl ⟨C4, D3, i3, ys ++ [-33], 1 + k3, rfl, by omega, by rw [List.length_append, List.length_singleton]; omega, by rw [← List.append_assoc]; exact p2, (c3.tr a5).tr p3, rc1.tr a6, by omega, r3.tr a8, wfx_un (wfx_mono a9 (by omega)) (by omega) (fun s => Or.inr (Or.inr (Or.inl ⟨rfl, s, rfl, rfl⟩))), ?_⟩
              rw [show o + 1 - (m + 1) = o - m by omega, List.replicate_succ] at a10
              rw [show ord ++ (ys ++ [-33]) ++ List.replicate m (-33 : Int) = ord ++ ys ++ -33 :: List.replicate m (-33) by simp]
              exact a10
            · rw [a1, cl_s, cEq_if (by decide) (by decide) (by decide) (by decide), if_pos rfl]
              exact Or.inr ⟨C3, D3, f, p, 1 + k3, rfl, c3.tr a2, a3, a4, rc1.tr a5, by omega, a7, r3.1.tr a8⟩
          · obtain ⟨D1, r1, r2, r3⟩ := hro.2 q8
            obtain ⟨C1, c1, c2, c3, c4⟩ := hco.2 q8
            have rc1 : Rc 1 D D1 := rc_st hR.2.2.1 (Or.inr (Or.inl ⟨hR.2.1, by rw [hbg]; unfold fn_X11_begins_J90; rw [s40, cu_s, b2_f q30, cEq_if (x := 0) (by decide) (by decide) (by decide) (by decide), if_pos rfl, s45, cu_s, b2_t q27, cEq_if (by decide) (by decide) (by decide) (by decide), if_neg (by decide), r1, cl_s]⟩))
            rw [c1, cl_s, cEq_if (by decide) (by decide) (by decide) (by decide), if_pos rfl]
            exact Or.inr ⟨C1, D1, _, _, 1, rfl, c2, c3, c4, rc1, by omega, r2, r3⟩
        · obtain ⟨D1, r1, r2, r3⟩ := r_errs (f := 1) hR.1 hR.2.2.1 (by omega)
          obtain ⟨C1, c1, c2, c3, c4⟩ := c_ref (f := 1) hC
          have rc1 : Rc 1 D D1 := rc_st hR.2.2.1 (Or.inr (Or.inl ⟨hR.2.1, by rw [hbg]; unfold fn_X11_begins_J90; rw [s40, cu_s, b2_f q30, cEq_if (x := 0) (by decide) (by decide) (by decide) (by decide), if_pos rfl, s45, cu_s, b2_f q27, cEq_if (by decide) (by decide) (by decide) (by decide), if_pos rfl, r1, cv_s]⟩))
          rw [if_neg q27, c1, cl_s, ck_t (Or.inl rfl)]
          exact Or.inr ⟨C1, D1, _, _, 1, rfl, c2, c3, c4, rc1, by omega, r2, r3⟩
