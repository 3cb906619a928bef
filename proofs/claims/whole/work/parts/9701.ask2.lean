/-! text: one ask, and what is made of asks -/
def Asks (T : Tx) (o : Nat) (f1 : Mem → Option (Int × Mem)) : Prop :=
  ∀ (C D : Mem) (i : Nat) (code : List Int) (m : Nat) (f0 : Int) (fr wo wq ord : List Int), Cls T C i code → Rf T D i 0 o (List.replicate m 3 ++ f0 :: fr) wo wq ord → (f0 ≠ 3 ∧ 0 ≤ f0 ∧ f0 ≤ 9) → m ≤ o → fr.length + 1 + m ≤ o + 1 → (∀ b, b ∈ wq → 0 ≤ b ∧ b ≤ ((fr.length + 1 : Nat) : Int)) → wo.length ≤ 2 * (fr.length + 1) → ord.length + m ≤ i →
    Ok T FD true (4 + 2 * (8 - o)) 3 (f1 C) C D i code (fun D' i' xs => Rf T D' i' 3 (o - m) (f0 :: fr) wo wq (ord ++ xs ++ List.replicate m (-12)))
set_option maxHeartbeats 1000000 in
theorem ask_ok {T : Tx} {o : Nat} {fL : Nat → Int → Int → Mem → Option (Int × Mem)} {fA fO : Nat → Int → Mem → Option (Int × Mem)} (hT : TkT T) (ho : o ≤ 8) (hA : o < 8 → Asks T (o + 1) (fA 31 ((o + 1 : Nat) : Int))) (hL : Sbs T FA false 1 2 o (3 + 2 * (8 - o)) 4 2 3 nx3 (fL 31 3 (o : Int))) : Asks T o (fn_X1_ask_F fL fA fO 31 o) := by
  intro C D i code m f0 fr wo wq ord hC hR hf0 hm hfr hwq hwl hord
  have h300 : tN T ≤ 300 := hC.1.1
  have hk := tr_k hR.1.2.2.2
  have hin := hC.2.2.2.2.2
  have hcl := hC.2.2.2.2.1
  have h7 : C (31 + 6) 7 = tK T i := hC.2.1.2.1
  have hlen : (List.replicate m (3 : Int) ++ f0 :: fr).length = m + fr.length + 1 := by rw [List.length_append, List.length_replicate, List.length_cons]; omega
  unfold fn_X1_ask_F fn_X1_ask_J46 fn_X1_ask_J116
  rw [h7, cEq_if (x := tK T i) (y := 12) (by omega) (by omega) (by decide) (by decide)]
  by_cases q12 : tK T i = 12
  · have hi := cls_lt hC (by omega)
    have hw8 := r_isWord (w := 8) hR.1 (by omega)
    rw [if_pos q12]
    by_cases q8 : o < 8
    · obtain ⟨D1, r1, r2, r3⟩ := (r_opens (f := 3) hT hR hi (by rw [hlen]; omega) ho).1 q8
      obtain ⟨C1, c1, c2, c3⟩ := (c_opens (o := o) hC hi ho).1 q8
      have rc1 : Rc 1 D D1 := rc_st hR.2.2.1 (Or.inl ⟨hR.2.1, by unfold fn_X11_asks; rw [hw8, cu_s, b2_t (by omega), cEq_if (by decide) (by decide) (by decide) (by decide), if_neg (by decide), r1, cl_s]⟩)
      rw [c1, cl_s, cEq_if (by decide) (by decide) (by decide) (by decide), if_neg (by decide), show (o : Int) + 1 = ((o + 1 : Nat) : Int) by omega]
      rcases hA q8 C1 D1 (i + 1) code (m + 1) f0 fr wo wq ord c2 r2 hf0 (by omega) (by omega) hwq hwl (by omega) with ⟨C3, D3, i3, ys, k3, a1, a2, a3, a4, a5, a6, a7, a8, a9, a10⟩ | ⟨C3, D3, f, p, k3, a1, a2, a3, a4, a5, a6, a7, a8⟩
      · obtain ⟨C4, p1, p2, p3⟩ := c_put (x := -12) a4 (by rw [List.length_append]; omega)
        rw [a1, cl_s, cEq_if (by decide) (by decide) (by decide) (by decide), if_neg (by decide), show 31 + 1 = 32 from rfl, p1, cl_s, cEq_if (by decide) (by decide) (by decide) (by decide), if_neg (by decide)]
        refine Or.inl ⟨C4, D3, i3, ys ++ [-12], 1 + k3, rfl, by omega, by rw [List.length_append, List.length_singleton]; omega, by rw [← List.append_assoc]; exact p2, (c3.tr a5).tr p3, rc1.tr a6, by omega, r3.1.tr a8, wfx_un (wfx_mono a9 (by omega)) (by omega) (fun s => Or.inr (Or.inr (Or.inr (Or.inl ⟨rfl, s, rfl, rfl⟩)))), ?_⟩
        rw [show o + 1 - (m + 1) = o - m by omega, List.replicate_succ] at a10
        rw [show ord ++ (ys ++ [-12]) ++ List.replicate m (-12 : Int) = ord ++ ys ++ -12 :: List.replicate m (-12) by simp]
        exact a10
      · rw [a1, cl_s, cEq_if (by decide) (by decide) (by decide) (by decide), if_pos rfl]
        exact Or.inr ⟨C3, D3, f, p, 1 + k3, rfl, c3.tr a2, a3, a4, rc1.tr a5, by omega, a7, r3.1.tr a8⟩
    · obtain ⟨D1, r1, r2, r3⟩ := (r_opens (f := 3) hT hR hi (by rw [hlen]; omega) ho).2 q8
      obtain ⟨C1, c1, c2, c3, c4⟩ := (c_opens (o := o) hC hi ho).2 q8
      have rc1 : Rc 1 D D1 := rc_st hR.2.2.1 (Or.inl ⟨hR.2.1, by unfold fn_X11_asks; rw [hw8, cu_s, b2_t (by omega), cEq_if (by decide) (by decide) (by decide) (by decide), if_neg (by decide), r1, cl_s]⟩)
      rw [c1, cl_s, cEq_if (by decide) (by decide) (by decide) (by decide), if_pos rfl]
      exact Or.inr ⟨C1, D1, _, _, 1, rfl, c2, c3, c4, rc1, by omega, r2, r3⟩
  · rw [if_neg q12]
    obtain ⟨D1, rc1, r2, r3⟩ := r_ask hR (by rw [hlen]; omega) q12
    have hst : Stq wo wq ((List.replicate m (3 : Int) ++ f0 :: fr).length + 1) 3 := stq_new hR.2.2.2.2.2.1.2.1 hwq (by rw [hlen]; omega) (by omega)
    rcases hL C D1 i code 4 (List.replicate m 3 ++ f0 :: fr) wo wq ord hC r2 (by decide) (by rw [hlen]; omega) hst (fun b hb => by have := hwq b hb; rw [hlen]; omega) (by rw [hlen]; omega) (by omega) with ⟨C3, D3, i3, ys, k3, a1, a2, a3, a4, a5, a6, a7, a8, a9, a10, mp3, ord3, a11, a12, a13, a14⟩ | ⟨C3, D3, f, p, k3, a1, a2, a3, a4, a5, a6, a7, a8⟩
    · have hin3 := a4.2.2.2.2.2
      have hk3 := tr_k a11.1.2.2.2
      have h73 : C3 (31 + 6) 7 = tK T i3 := a4.2.1.2.1
      have hel : ord3.length + mp3.length = ord.length + ys.length := by rw [← List.length_append, a12, List.length_append]
      unfold nx3 at a10
      have hrc := r_cmp hT a11 (by rw [hlen]; omega) hst (by omega) a13 (by omega) (by omega) hin3 hC.1.2.2.2.2.1
      rw [a1, cl_s, cEq_if (by decide) (by decide) (by decide) (by decide), if_neg (by decide), nm_eq, h73, p_isWithin (x := tK T i3) ⟨by omega, by omega⟩ ⟨by decide, by decide⟩ ⟨by decide, by decide⟩, cu_s, cE_b2]
      by_cases qc : 20 ≤ tK T i3 ∧ tK T i3 ≤ 25
      · obtain ⟨D4, d1, d2, d3, d4⟩ := hrc.1 qc
        clear hrc
        obtain ⟨C4, e1, e2, e3⟩ := c_next a4 (cls_lt a4 (by omega))
        rw [a12] at d2
        rw [if_pos qc, show 31 + 6 = 37 from rfl, e1, cv_s]
        rcases hL C4 D4 (i3 + 1) (code ++ ys) 5 (List.replicate m 3 ++ f0 :: fr) wo wq (ord ++ ys) e2 d2 (by decide) (by rw [hlen]; omega) hst (fun b hb => by have := hwq b hb; rw [hlen]; omega) (by rw [hlen]; omega) (by rw [List.length_append]; omega) with ⟨C5, D5, i5, zs, k5, b1, b2', b3, b4, b5, b6, b7, b8, b9, b10, mp5, ord5, b11, b12, b13, b14⟩ | ⟨C5, D5, f, p, k5, b1, b2', b3, b4, b5, b6, b7, b8⟩
        · obtain ⟨C6, p1, p2, p3⟩ := c_put (x := -tK T i3) b4 (by rw [List.length_append, List.length_append]; omega)
          have hin5 := b4.2.2.2.2.2
          have hel5 : ord5.length + mp5.length = ord.length + ys.length + zs.length := by rw [← List.length_append, b12, List.length_append, List.length_append]
          unfold nx3 at b10
          obtain ⟨D6, g1, g2, g3⟩ := r_askend (k := tK T i3) b11 (by rw [b8.2]; exact d3) qc hf0.1 hf0.2 hm ho hfr hst (by omega) b13 (by omega) (by omega)
          rw [b12] at g2
          rw [b1, cl_s, cEq_if (by decide) (by decide) (by decide) (by decide), if_neg (by decide), show 31 + 1 = 32 from rfl, p1, cl_s, cEq_if (by decide) (by decide) (by decide) (by decide), if_neg (by decide)]
          refine Or.inl ⟨C6, D6, i5, ys ++ zs ++ [-tK T i3], 1 + (k3 + (1 + (k5 + 1))), rfl, by omega, by simp only [List.length_append, List.length_singleton]; omega, by rw [show code ++ (ys ++ zs ++ [-tK T i3]) = code ++ ys ++ zs ++ [-tK T i3] by simp]; exact p2, ((a5.tr e3).tr b5).tr p3, rc1.tr (a6.tr (d1.tr (b6.tr g1))), by omega, (((r3.tr a8.1).tr d4).tr b8.1).tr g3, ?_, ?_⟩
          · refine wfx_mono (wfx_op (c := true) (wfx_mono a9 (Nat.le_succ _)) b9 (by omega) (stp_cmp qc)) (by omega)
          · show Rf T D6 i5 3 (o - m) (f0 :: fr) wo wq (ord ++ (ys ++ zs ++ [-tK T i3]) ++ List.replicate m (-12))
            rw [show ord ++ (ys ++ zs ++ [-tK T i3]) ++ List.replicate m (-12 : Int) = ord ++ ys ++ zs ++ [-tK T i3] ++ List.replicate m (-12) by simp]
            exact g2
        · rw [b1, cl_s, cEq_if (by decide) (by decide) (by decide) (by decide), if_pos rfl]
          exact Or.inr ⟨C5, D5, f, p, 1 + (k3 + (1 + k5)), rfl, (a5.tr e3).tr b2', b3, b4, rc1.tr (a6.tr (d1.tr b5)), by omega, b7, ((r3.tr a8.1).tr d4).tr b8⟩
      · obtain ⟨D4, d1, d2, d3⟩ := hrc.2 qc
        clear hrc
        obtain ⟨C4, e1, e2, e3, e4⟩ := c_ref (f := 1) a4
        rw [if_neg qc, e1, cl_s, ck_t (Or.inl rfl)]
        exact Or.inr ⟨C4, D4, _, _, 1 + (k3 + 1), rfl, a5.tr e2, e3, e4, rc1.tr (a6.tr d1), by omega, d2, (r3.tr a8.1).tr d3⟩
    · rw [a1, cl_s, cEq_if (by decide) (by decide) (by decide) (by decide), if_pos rfl]
      exact Or.inr ⟨C3, D3, f, p, 1 + k3, rfl, a2, a3, a4, rc1.tr a5, by omega, a7, r3.tr a8⟩
theorem ask_all {T : Tx} (hT : TkT T) : ∀ (q o d : Nat), o + q = 8 → 4 * q + 5 ≤ d → Asks T o (fun C => fn_X1_rec d 1 31 o 0 C) := by
  intro q
  induction q with
  | zero =>
    intro o d ho hd
    obtain ⟨d, rfl⟩ : ∃ d', d = d' + 1 := ⟨d - 1, by omega⟩
    exact ask_ok (fL := fun t a b M => fn_X1_rec d 0 t a b M) (fA := fun t a M => fn_X1_rec d 1 t a 0 M) (fO := fun t a M => fn_X1_rec d 2 t a 0 M) hT (by omega) (fun h => by omega) (sum_all hT (by omega) (by omega))
  | succ q ih =>
    intro o d ho hd
    obtain ⟨d, rfl⟩ : ∃ d', d = d' + 1 := ⟨d - 1, by omega⟩
    exact ask_ok (fL := fun t a b M => fn_X1_rec d 0 t a b M) (fA := fun t a M => fn_X1_rec d 1 t a 0 M) (fO := fun t a M => fn_X1_rec d 2 t a 0 M) hT (by omega) (fun h => ih (o + 1) d (by omega) (by omega)) (sum_all hT (by omega) (by omega))
theorem lv_2 {T : Tx} {o d : Nat} (ho : o ≤ 8) (h : Asks T o (fun C => fn_X1_rec d 1 31 o 0 C)) : Sbs T FD true 0 3 o (4 + 2 * (8 - o)) 3 0 3 (fun _ => True) (fun C => fn_X1_rec (d + 1) 0 31 2 o C) := by
  intro C D i code f0 fr wo wq ord hC hR hf0 hfr hst hwq hwl hord
  have e : fn_X1_rec (d + 1) 0 31 2 o C = cl (fn_X1_rec d 1 31 o 0 C) fun x18 M18 => ck (x18 = 0 ∨ x18 = 1) (some (x18, M18)) := by
    show fn_X1_level_F (fun t a b M => fn_X1_rec d 0 t a b M) (fun t a M => fn_X1_rec d 1 t a 0 M) (fun t a M => fn_X1_rec d 2 t a 0 M) 31 2 o C = _
    unfold fn_X1_level_F
    rw [cEq_if (by decide) (by decide) (by decide) (by decide), if_pos (by decide)]
  show Ok T FD true (4 + 2 * (8 - o)) 3 (fn_X1_rec (d + 1) 0 31 2 o C) C D i code _
  rw [e]
  rcases h C D i code 0 f0 fr wo wq ord hC hR ⟨hf0.2.1, hf0.2.2⟩ (by omega) (by omega) hwq (by omega) (by omega) with ⟨C3, D3, i3, ys, k3, a1, a2, a3, a4, a5, a6, a7, a8, a9, a10⟩ | ⟨C3, D3, f, p, k3, a1, a2, a3, a4, a5, a6, a7, a8⟩
  · have a1 : fn_X1_rec d 1 31 o 0 C = some (1, C3) := a1
    rw [a1, cl_s, ck_t (Or.inr rfl)]
    have a10 : Rf T D3 i3 3 o (f0 :: fr) wo wq (ord ++ ys ++ []) := a10
    rw [List.append_nil] at a10
    exact Or.inl ⟨C3, D3, i3, ys, k3, rfl, a2, a3, a4, a5, a6, a7, a8, a9, trivial, [], ord ++ ys, a10, List.append_nil _, (fun x hx => by cases hx), Nat.le_refl 0⟩
  · have a1 : fn_X1_rec d 1 31 o 0 C = some (0, C3) := a1
    rw [a1, cl_s, ck_t (Or.inl rfl)]
    exact Or.inr ⟨C3, D3, f, p, k3, rfl, a2, a3, a4, a5, a6, a7, a8⟩
def nx0 (k : Int) : Prop := ((True ∧ ¬ k = 11) ∧ ¬ k = 10)
theorem either_all {T : Tx} (hT : TkT T) {o d : Nat} (ho : o ≤ 8) (hd : 4 * (8 - o) + 8 ≤ d) : Sbs T FD true 0 3 o (6 + 2 * (8 - o)) 3 2 1 nx0 (fun C => fn_X1_rec d 0 31 0 o C) := by
  obtain ⟨d, rfl⟩ : ∃ d', d = d' + 3 := ⟨d - 3, by omega⟩
  have h5 := lv_2 ho (ask_all hT (8 - o) o d (by omega) (by omega))
  have h4 := loop_ok (fL := fun t a b M => fn_X1_rec (d + 1) 0 t a b M) (lv := 1) (r := 2) (isK := fun k => k = 11) (fun _ => FD.rf) (fun a b => a.tr b) (fun a => a) ho (by omega) (by omega) (by omega) (by omega) (by omega) hK_1 sg_1 (ops_as hT (fun k hk => ⟨by omega, (hK_1 k hk).2.1⟩)) h5
  have h4' := Sbs_c h4 (g := fun C => fn_X1_rec (d + 2) 0 31 1 o C) (fun C => rec_lv (by omega))
  have h3 := loop_ok (fL := fun t a b M => fn_X1_rec (d + 2) 0 t a b M) (lv := 0) (r := 1) (isK := fun k => k = 10) (fun _ => FD.rf) (fun a b => a.tr b) (fun a => a) ho (by omega) (by omega) (by omega) (by omega) (by omega) hK_0 sg_0 (ops_as hT (fun k hk => ⟨by omega, (hK_0 k hk).2.1⟩)) h4'
  have h3' := Sbs_c h3 (g := fun C => fn_X1_rec (d + 3) 0 31 0 o C) (fun C => rec_lv (by omega))
  rw [show 4 + 2 * (8 - o) + 1 + 1 = 6 + 2 * (8 - o) by omega] at h3'
  exact h3'
