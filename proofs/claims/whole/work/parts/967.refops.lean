/-! text: the reference's operations -/
def Ts (D D' : Mem) : Prop := (∀ i, (i ≤ 17 ∨ i = 19) → D' 71 i = D 71 i) ∧ ∀ i, D' 74 i = D 74 i
theorem Ts.rf {D : Mem} : Ts D D := ⟨fun _ _ => rfl, fun _ => rfl⟩
theorem Ts.tr {D D' D'' : Mem} (h : Ts D D') (h' : Ts D' D'') : Ts D D'' := ⟨fun i hi => (h'.1 i hi).trans (h.1 i hi), fun i => (h'.2 i).trans (h.2 i)⟩
theorem Rt0_f {T : Tx} {D D' : Mem} {i : Nat} (h : Ts D D') (hR : Rt0 T D i) : Rt0 T D' i := by
  obtain ⟨⟨⟨a, b, c⟩, c2, c3⟩, d, e, f⟩ := hR
  exact ⟨⟨⟨a, by rw [h.1 13 (by omega)]; exact b, fun j hj => by rw [h.2 j]; exact c j hj⟩, by rw [h.1 19 (by omega)]; exact c2, c3⟩, by rw [h.1 14 (by omega)]; exact d, by rw [h.1 15 (by omega)]; exact e, by rw [h.1 16 (by omega), h.1 17 (by omega)]; exact f⟩
def Er (D : Mem) (f p : Int) : Prop := D 71 18 = f ∧ (1 ≤ f ∧ f ≤ 5) ∧ D 71 19 = p ∧ 0 ≤ p ∧ p ≤ 300
theorem r_errs {T : Tx} {D : Mem} {i : Nat} {f : Int} (hR : Rt0 T D i) (h0 : D 71 18 = 0) (hf : 1 ≤ f ∧ f ≤ 5) : ∃ D', fn_X11_errs 71 f D = some D' ∧ Er D' f (tP T i : Int) ∧ FD D D' := by
  unfold fn_X11_errs
  rw [h0, cEq_if (by decide) (by decide) (by decide) (by decide), if_pos rfl, st_eq, st_eq]
  refine ⟨_, rfl, ⟨?_, hf, ?_, by omega, by have := hR.1.2.2; omega⟩, (FD.rf.u (by omega)).u (by omega)⟩
  · rw [up_i, if_neg (by decide), up_i, if_pos rfl]
  · rw [up_i, if_pos rfl, up_i, if_neg (by decide)]; exact hR.2.2.1
def isOp (x : Int) : Prop := x = -10 ∨ x = -11 ∨ x = -26 ∨ x = -27 ∨ x = -28 ∨ x = -29
def rk (x : Int) : Int := if x = -10 then 1 else if x = -11 then 2 else if x = -26 ∨ x = -27 then 3 else 4
theorem r_rank {x : Int} {M : Mem} (h : isOp x) : fn_X11_rank (mo x) M = some (rk x) ∧ (1 ≤ rk x ∧ rk x ≤ 4) ∧ (0 ≤ mo x ∧ mo x ≤ 500) ∧ oo x = mo x ∧ ov x = 0 := by
  unfold isOp at h
  rcases h with rfl | rfl | rfl | rfl | rfl | rfl
  · exact ⟨rfl, by decide, by decide, by decide, by decide⟩
  · exact ⟨rfl, by decide, by decide, by decide, by decide⟩
  · exact ⟨rfl, by decide, by decide, by decide, by decide⟩
  · exact ⟨rfl, by decide, by decide, by decide, by decide⟩
  · exact ⟨rfl, by decide, by decide, by decide, by decide⟩
  · exact ⟨rfl, by decide, by decide, by decide, by decide⟩
/-- the working off stops here -/
def Stq (wo wf : List Int) (f : Nat) (r : Int) : Prop := wo = [] ∨ (∃ a t b u, wo = a :: t ∧ wf = b :: u ∧ (0 ≤ b ∧ b ≤ 100) ∧ b ≠ (f : Int)) ∨ (∃ x t u, wo = mo x :: t ∧ wf = (f : Int) :: u ∧ isOp x ∧ rk x < r)
def pf (pd : List Int) (f : Nat) : List Int := pd.map (fun _ => (f : Int))
def pm (pd : List Int) : List Int := pd.map mo
theorem pf_l {pd : List Int} {f : Nat} : (pf pd f).length = pd.length := List.length_map _
theorem pm_l {pd : List Int} : (pm pd).length = pd.length := List.length_map _
theorem r_works {op : Nat} {fr wo wf : List Int} {r : Int} {pd : List Int} (hr : 1 ≤ r ∧ r ≤ 4) (hf : fr.length ≤ 40) (hw : Stq wo wf fr.length r) : ∀ (D : Mem) (ord : List Int) (N : Nat), pd.length < N → Rst D op fr (pm pd ++ wo) (pf pd fr.length ++ wf) ord → (∀ x, x ∈ pd → isOp x ∧ r ≤ rk x) → pd.length + wo.length ≤ 80 → ord.length + pd.length ≤ 399 →
    ∃ D', lq1 (fn_X11_works_L0 71 r) N D = some D' ∧ Rst D' op fr wo wf (ord ++ pd) ∧ FD D D' ∧ Ts D D' ∧ D' 71 27 = D 71 27 ∧ (∀ i, D' 83 i = D 83 i) := by
  induction pd with
  | nil =>
    intro D ord N hN hR _ h80 _
    obtain ⟨N, rfl⟩ : ∃ N', N = N' + 1 := ⟨N - 1, by omega⟩
    have hR : Rst D op fr wo wf ord := hR
    refine ⟨D, ?_, by rw [List.append_nil]; exact hR, FD.rf, Ts.rf, rfl, fun _ => rfl⟩
    obtain ⟨r1, r2, ⟨r3, r4⟩, ⟨r5, r6, r7, r8⟩, r9, r10⟩ := hR
    show fn_X11_works_L0 71 r _ D = _
    unfold fn_X11_works_L0
    rw [List.length_nil] at h80
    rw [r5, cLt_if (by decide) (by decide) (by omega) (by omega)]
    rcases hw with rfl | ⟨a, t, b, u, rfl, rfl, hb, hne⟩ | ⟨x, t, u, rfl, rfl, hx, hlt⟩
    · rw [if_neg (by decide)]
    · rw [List.length_cons] at h80 ⊢
      rw [List.length_cons, List.length_cons] at r6
      have e1 : D 85 u.length = b := r8.1
      rw [if_pos (by omega), rd_eq (by omega) (by omega), show (((t.length + 1 : Nat) : Int) - 1).toNat = u.length by omega, show 71 + 14 = 85 from rfl, e1, r3, cEq_if (by omega) (by omega) (by omega) (by omega), if_neg hne]
    · rw [List.length_cons] at h80 ⊢
      rw [List.length_cons, List.length_cons] at r6
      have e1 : D 85 u.length = (fr.length : Int) := r8.1
      have e2 : D 84 t.length = mo x := r7.1
      have hk := r_rank (M := D) hx
      rw [if_pos (by omega), rd_eq (by omega) (by omega), show (((t.length + 1 : Nat) : Int) - 1).toNat = u.length by omega, show 71 + 14 = 85 from rfl, e1, r3, cEq_if (by omega) (by omega) (by omega) (by omega), if_pos rfl, rd_eq (by omega) (by omega), show (((t.length + 1 : Nat) : Int) - 1).toNat = t.length by omega, show 71 + 13 = 84 from rfl, e2, hk.1, cu_s, cLt_if (by omega) (by omega) (by omega) (by omega), if_pos hlt]
  | cons x pd ih =>
    intro D ord N hN hR hx h80 h399
    obtain ⟨N, rfl⟩ : ∃ N', N = N' + 1 := ⟨N - 1, by rw [List.length_cons] at hN; omega⟩
    rw [List.length_cons] at h80 h399 hN
    have hR0 : Rst D op fr (mo x :: (pm pd ++ wo)) ((fr.length : Int) :: (pf pd fr.length ++ wf)) ord := hR
    obtain ⟨r1, r2, ⟨r3, r4⟩, ⟨r5, r6, r7, r8⟩, r9, r10⟩ := hR0
    rw [List.length_cons, List.length_cons, List.length_append, List.length_append, pm_l, pf_l] at r6
    rw [List.length_cons, List.length_append, pm_l] at r5
    have hxo := hx x List.mem_cons_self
    have hk := r_rank (M := D) hxo.1
    have e1 : D 85 (pf pd fr.length ++ wf).length = (fr.length : Int) := r8.1
    have e2 : D 84 (pm pd ++ wo).length = mo x := r7.1
    rw [List.length_append, pf_l] at e1
    rw [List.length_append, pm_l] at e2
    generalize hG : up D 71 24 (((pd.length + wo.length + 1 : Nat) : Int) - 1) = G
    have g0 : ∀ k j, ¬ (k = 71 ∧ j = 24) → G k j = D k j := fun k j q => by rw [← hG, up_k, if_neg q]
    have g24 : G 71 24 = ((pd.length + wo.length : Nat) : Int) := by rw [← hG, up_i, if_pos rfl]; omega
    have hRG : Rst G op fr (pm pd ++ wo) (pf pd fr.length ++ wf) ord := by
      refine ⟨by rw [g0 71 18 (by omega)]; exact r1, by rw [g0 71 20 (by omega)]; exact r2, ⟨by rw [g0 71 21 (by omega)]; exact r3, Sk_same (fun i => g0 82 i (by omega)) r4⟩, ⟨by rw [g24, List.length_append, pm_l], by rw [List.length_append, List.length_append, pm_l, pf_l]; omega, Sk_same (fun i => g0 84 i (by omega)) r7.2, Sk_same (fun i => g0 85 i (by omega)) r8.2⟩, by rw [g0 71 34 (by omega)]; exact r9, fun j hj => by rw [g0 90 j (by omega), g0 91 j (by omega)]; exact r10 j hj⟩
    obtain ⟨D1, m1, m2, m3, m4, m5⟩ := r_emits (x := x) (a := mo x) (b := 0) hRG (by omega) hk.2.2.2.1.symm hk.2.2.2.2.symm
    obtain ⟨D', w1, w2, w3, w4, w5, w6⟩ := ih D1 (ord ++ [x]) N (by omega) m2 (fun y hy => hx y (List.mem_cons_of_mem _ hy)) (by omega) (by rw [List.length_append, List.length_singleton]; omega)
    have fG : FD D G := by rw [← hG]; exact FD.rf.u (by omega)
    refine ⟨D', ?_, by rw [show ord ++ x :: pd = ord ++ [x] ++ pd by simp]; exact w2, (fG.tr m3).tr w3, ⟨fun i hi => ?_, fun i => ?_⟩, ?_, fun i => ?_⟩
    · show fn_X11_works_L0 71 r _ D = _
      unfold fn_X11_works_L0
      rw [r5, cLt_if (by decide) (by decide) (by omega) (by omega), if_pos (by omega), rd_eq (by omega) (by omega), show (((pd.length + wo.length + 1 : Nat) : Int) - 1).toNat = pd.length + wf.length by omega, show 71 + 14 = 85 from rfl, e1, r3, cEq_if (by omega) (by omega) (by omega) (by omega), if_pos rfl, rd_eq (by omega) (by omega), show (((pd.length + wo.length + 1 : Nat) : Int) - 1).toNat = pd.length + wo.length by omega, show 71 + 13 = 84 from rfl, e2, hk.1, cu_s, cLt_if (by omega) (by omega) (by omega) (by omega), if_neg (by omega), st_eq, hG, g24, rd_eq (by omega) (by omega), Int.toNat_natCast, g0 84 _ (by omega), e2, m1, cv_s]
      exact w1
    · rw [w4.1 i hi, m4 i (by omega), g0 71 i (by omega)]
    · rw [w4.2 i, m5 74 i (by decide) (by decide) (by decide), g0 74 i (by omega)]
    · rw [w5, m4 27 (by decide), g0 71 27 (by omega)]
    · rw [w6, m5 83 i (by decide) (by decide) (by decide), g0 83 i (by omega)]
theorem r_works1 {D : Mem} {op : Nat} {fr wo wf ord pd : List Int} {r : Int} (hr : 1 ≤ r ∧ r ≤ 4) (hf : fr.length ≤ 40) (hw : Stq wo wf fr.length r) (hR : Rst D op fr (pm pd ++ wo) (pf pd fr.length ++ wf) ord) (hx : ∀ x, x ∈ pd → isOp x ∧ r ≤ rk x) (h80 : pd.length + wo.length ≤ 80) (h399 : ord.length + pd.length ≤ 399) :
    ∃ D', fn_X11_works 71 r D = some D' ∧ Rst D' op fr wo wf (ord ++ pd) ∧ FD D D' ∧ Ts D D' ∧ D' 71 27 = D 71 27 ∧ (∀ i, D' 83 i = D 83 i) := by
  unfold fn_X11_works
  exact r_works hr hf hw D ord FU (lt_FU (by omega)) hR hx h80 h399
/-- an operation waits -/
theorem r_waits {T : Tx} {D : Mem} {i : Nat} {op : Nat} {fr wo wf ord pd : List Int} {y : Int} (hT : TkT T) (hy : isOp y) (hf : fr.length ≤ 40) (hw : Stq wo wf fr.length (rk y)) (hR : Rst D op fr (pm pd ++ wo) (pf pd fr.length ++ wf) ord) (hR0 : Rt0 T D i) (hi : i < tN T) (hx : ∀ x, x ∈ pd → isOp x ∧ rk y ≤ rk x) (h80 : pd.length + wo.length ≤ 79) (h399 : ord.length + pd.length ≤ 399) :
    ∃ D', fn_X11_waitsFor 71 (mo y) D = some D' ∧ Rst D' op fr (mo y :: wo) ((fr.length : Int) :: wf) (ord ++ pd) ∧ FD D D' ∧ Rt0 T D' (i + 1) ∧ D' 71 27 = D 71 27 ∧ (∀ i, D' 83 i = D 83 i) := by
  have hk := r_rank (M := D) hy
  obtain ⟨D1, w1, w2, w3, w4, w5, w6⟩ := r_works1 hk.2.1 hf hw hR hx (by omega) h399
  obtain ⟨r1, r2, ⟨r3, r4⟩, ⟨r5, r6, r7, r8⟩, r9, r10⟩ := w2
  unfold fn_X11_waitsFor
  rw [hk.1, cu_s, w1, cv_s, r5, wr_eq (by omega) (by omega), Int.toNat_natCast]
  simp only [Nat.reduceAdd]
  have e1 : up D1 84 wo.length (mo y) 71 24 = (wo.length : Int) := by rw [up_o (by decide)]; exact r5
  have e2 : up D1 84 wo.length (mo y) 71 21 = (fr.length : Int) := by rw [up_o (by decide)]; exact r3
  rw [e1, e2, wr_eq (by omega) (by omega), Int.toNat_natCast, st_eq]
  have e3 : up (up D1 84 wo.length (mo y)) 85 wo.length (fr.length : Int) 71 24 = (wo.length : Int) := by rw [up_o (by decide)]; exact e1
  rw [e3]
  generalize hG : up (up (up D1 84 wo.length (mo y)) 85 wo.length (fr.length : Int)) 71 24 ((wo.length : Int) + 1) = G
  have g1 : ∀ j, j ≠ 24 → G 71 j = D1 71 j := fun j hj => by rw [← hG, up_i, if_neg hj, up_o (by decide), up_o (by decide)]
  have g2 : ∀ k j, k ≠ 71 → k ≠ 84 → k ≠ 85 → G k j = D1 k j := fun k j a b c => by rw [← hG, up_o a, up_o c, up_o b]
  have g84 : ∀ j, G 84 j = if j = wo.length then mo y else D1 84 j := fun j => by rw [← hG, up_o (by decide), up_o (by decide), up_i]
  have g85 : ∀ j, G 85 j = if j = wo.length then (fr.length : Int) else D1 85 j := fun j => by rw [← hG, up_o (by decide), up_i, up_o (by decide)]
  have tsG : Ts D G := w4.tr ⟨fun j hj => g1 j (by omega), fun j => g2 74 j (by decide) (by decide) (by decide)⟩
  obtain ⟨D', n1, n2, n3⟩ := r_next hT (Rt0_f tsG hR0) hi
  have sk84 : Sk G 84 (mo y :: wo) := by
    refine ⟨by rw [g84, if_pos rfl], ?_⟩
    have h9 : Sk (up D1 84 wo.length (mo y)) 84 wo := Sk_up r7 (Nat.le_refl _)
    exact Sk_same (fun j => by rw [g84, up_i]) h9
  have sk85 : Sk G 85 ((fr.length : Int) :: wf) := by
    refine ⟨by rw [← r6, g85, if_pos rfl], ?_⟩
    have h9 : Sk (up D1 85 wo.length (fr.length : Int)) 85 wf := Sk_up r8 (by omega)
    exact Sk_same (fun j => by rw [g85, up_i]) h9
  have hRG : Rst G op fr (mo y :: wo) ((fr.length : Int) :: wf) (ord ++ pd) := ⟨by rw [g1 18 (by decide)]; exact r1, by rw [g1 20 (by decide)]; exact r2, ⟨by rw [g1 21 (by decide)]; exact r3, Sk_same (fun j => g2 82 j (by decide) (by decide) (by decide)) r4⟩, ⟨by rw [← hG, up_i, if_pos rfl, List.length_cons]; omega, by rw [List.length_cons, List.length_cons, r6], sk84, sk85⟩, by rw [g1 34 (by decide)]; exact r9, fun j hj => by rw [g2 90 j (by decide) (by decide) (by decide), g2 91 j (by decide) (by decide) (by decide)]; exact r10 j hj⟩
  rw [n1, cv_s]
  refine ⟨D', rfl, Rst_n4 n2 hRG, (w3.tr ?_).tr (FD.n4 n2), n3, ?_⟩
  · rw [← hG]; exact ((FD.rf.a (by omega)).a (by omega)).u (by omega)
  · refine ⟨by rw [n2 71 27 (by omega), g1 27 (by decide), w5], fun j => by rw [n2 83 j (by omega), g2 83 j (by decide) (by decide) (by decide), w6]⟩
/-- a frame more -/
theorem r_frame {D : Mem} {op : Nat} {fr wo wf ord : List Int} {f : Int} (hR : Rst D op fr wo wf ord) (hf : fr.length < 40) : ∃ D', fn_X11_opensFrame 71 f D = some D' ∧ Rst D' op (f :: fr) wo wf ord ∧ FD D D' ∧ Ts D D' ∧ (∀ i, i ≠ 21 → D' 71 i = D 71 i) ∧ (∀ i, D' 83 i = D 83 i) := by
  obtain ⟨r1, r2, ⟨r3, r4⟩, ⟨r5, r6, r7, r8⟩, r9, r10⟩ := hR
  unfold fn_X11_opensFrame
  rw [r3, wr_eq (by omega) (by omega), Int.toNat_natCast]
  simp only [Nat.reduceAdd]
  have e1 : up D 82 fr.length f 71 21 = (fr.length : Int) := by rw [up_o (by decide)]; exact r3
  rw [st_eq, e1]
  have g1 : ∀ j, j ≠ 21 → up (up D 82 fr.length f) 71 21 ((fr.length : Int) + 1) 71 j = D 71 j := fun j hj => by rw [up_i, if_neg hj, up_o (by decide)]
  have g2 : ∀ k j, k ≠ 71 → k ≠ 82 → up (up D 82 fr.length f) 71 21 ((fr.length : Int) + 1) k j = D k j := fun k j a b => by rw [up_o a, up_o b]
  refine ⟨_, rfl, ⟨by rw [g1 18 (by decide)]; exact r1, by rw [g1 20 (by decide)]; exact r2, ⟨by rw [up_i, if_pos rfl, List.length_cons]; omega, by rw [up_o (by decide), up_i, if_pos rfl], Sk_o (by decide) (Sk_up r4 (Nat.le_refl _))⟩, ⟨by rw [g1 24 (by decide)]; exact r5, r6, Sk_same (fun j => g2 84 j (by decide) (by decide)) r7, Sk_same (fun j => g2 85 j (by decide) (by decide)) r8⟩, by rw [g1 34 (by decide)]; exact r9, fun j hj => by rw [g2 90 j (by decide) (by decide), g2 91 j (by decide) (by decide)]; exact r10 j hj⟩, (FD.rf.a (by omega)).u (by omega), ⟨fun j hj => g1 j (by omega), fun j => g2 74 j (by decide) (by decide)⟩, g1, fun j => g2 83 j (by decide) (by decide)⟩
theorem r_top {D : Mem} {op : Nat} {fr wo wf ord : List Int} {f : Int} (hR : Rst D op (f :: fr) wo wf ord) (hf : fr.length < 40) : fn_X11_top 71 D = some f := by
  obtain ⟨r1, r2, ⟨r3, r4⟩, -⟩ := hR
  unfold fn_X11_top
  rw [List.length_cons] at r3
  rw [r3, rd_eq (by omega) (by omega), show (((fr.length + 1 : Nat) : Int) - 1).toNat = fr.length by omega, show 71 + 11 = 82 from rfl, show D 82 fr.length = f from r4.1]
/-- one open thing is shut -/
theorem Rst_pop {D : Mem} {op : Nat} {fr wo wf ord : List Int} {f : Int} (hR : Rst D (op + 1) (f :: fr) wo wf ord) : Rst (up (up D 71 21 (fr.length : Int)) 71 20 (op : Int)) op fr wo wf ord := by
  obtain ⟨r1, r2, ⟨r3, r4⟩, ⟨r5, r6, r7, r8⟩, r9, r10⟩ := hR
  have g1 : ∀ j, j ≠ 20 → j ≠ 21 → up (up D 71 21 (fr.length : Int)) 71 20 (op : Int) 71 j = D 71 j := fun j a b => by rw [up_i, if_neg a, up_i, if_neg b]
  have g2 : ∀ k j, k ≠ 71 → up (up D 71 21 (fr.length : Int)) 71 20 (op : Int) k j = D k j := fun k j a => by rw [up_o a, up_o a]
  exact ⟨by rw [g1 18 (by decide) (by decide)]; exact r1, by rw [up_i, if_pos rfl], ⟨by rw [up_i, if_neg (by decide), up_i, if_pos rfl], Sk_same (fun j => g2 82 j (by decide)) r4.2⟩, ⟨by rw [g1 24 (by decide) (by decide)]; exact r5, r6, Sk_same (fun j => g2 84 j (by decide)) r7, Sk_same (fun j => g2 85 j (by decide)) r8⟩, by rw [g1 34 (by decide) (by decide)]; exact r9, fun j hj => by rw [g2 90 j (by decide), g2 91 j (by decide)]; exact r10 j hj⟩
theorem r_over7 {op : Nat} {fr wo wf : List Int} {f0 : Int} (h7 : f0 ≠ 7) (hR3 : R3 f0) : ∀ (m : Nat) (D : Mem) (ord : List Int) (N : Nat), m < N → Rst D (op + m) (List.replicate m 7 ++ f0 :: fr) wo wf ord → m + fr.length < 39 → ord.length + m ≤ 399 →
    ∃ D', lq1 (fn_X11_oneIsOver_L0 71) N D = some D' ∧ Rst D' op (f0 :: fr) wo wf (ord ++ List.replicate m (-33)) ∧ FD D D' ∧ Ts D D' ∧ D' 71 27 = 2 ∧ (∀ i, D' 83 i = D 83 i) := by
  intro m
  induction m with
  | zero =>
    intro D ord N hN hR hl h399
    obtain ⟨N, rfl⟩ : ∃ N', N = N' + 1 := ⟨N - 1, by omega⟩
    have hR : Rst D op (f0 :: fr) wo wf ord := hR
    show ∃ D', fn_X11_oneIsOver_L0 71 _ D = some D' ∧ _
    unfold fn_X11_oneIsOver_L0 fn_X11_oneIsOver_J40
    rw [r_top hR (by omega), cu_s, cEq_if hR3.1 hR3.2 (by decide) (by decide), if_neg h7, st_eq]
    obtain ⟨r1, r2, ⟨r3, r4⟩, ⟨r5, r6, r7, r8⟩, r9, r10⟩ := hR
    have g1 : ∀ j, j ≠ 27 → up D 71 27 2 71 j = D 71 j := fun j a => by rw [up_i, if_neg a]
    refine ⟨_, rfl, ⟨by rw [g1 18 (by decide)]; exact r1, by rw [g1 20 (by decide)]; exact r2, ⟨by rw [g1 21 (by decide)]; exact r3, Sk_same (fun j => up_o (by decide)) r4⟩, ⟨by rw [g1 24 (by decide)]; exact r5, r6, Sk_same (fun j => up_o (by decide)) r7, Sk_same (fun j => up_o (by decide)) r8⟩, by rw [g1 34 (by decide)]; simp [r9], ?_⟩, FD.rf.u (by omega), ⟨fun j hj => g1 j (by omega), fun j => up_o (by decide)⟩, by rw [up_i, if_pos rfl], fun j => up_o (by decide)⟩
    show Oq (up D 71 27 2) (ord ++ [])
    rw [List.append_nil]
    exact fun j hj => by rw [up_o (by decide), up_o (by decide)]; exact r10 j hj
  | succ m ih =>
    intro D ord N hN hR hl h399
    obtain ⟨N, rfl⟩ : ∃ N', N = N' + 1 := ⟨N - 1, by omega⟩
    have hR : Rst D (op + m + 1) (7 :: (List.replicate m 7 ++ f0 :: fr)) wo wf ord := hR
    have hlen : (List.replicate m (7 : Int) ++ f0 :: fr).length = m + fr.length + 1 := by rw [List.length_append, List.length_replicate, List.length_cons]; omega
    have r3 := hR.2.2.1.1
    have r2 := hR.2.1
    rw [List.length_cons, hlen] at r3
    have hP := Rst_pop hR
    rw [hlen] at hP
    obtain ⟨D1, m1, m2, m3, m4, m5⟩ := r_emits (x := -33) (a := 402) (b := 0) hP (by omega) (by decide) (by decide)
    obtain ⟨D', w1, w2, w3, w4, w5, w6⟩ := ih D1 (ord ++ [-33]) N (by omega) m2 (by omega) (by rw [List.length_append, List.length_singleton]; omega)
    refine ⟨D', ?_, ?_, ((((FD.rf.u (by omega)).u (by omega)) : FD D _).tr m3).tr w3, ⟨fun i hi => ?_, fun i => ?_⟩, w5, fun i => ?_⟩
    · show fn_X11_oneIsOver_L0 71 _ D = _
      unfold fn_X11_oneIsOver_L0
      rw [r_top hR (by rw [hlen]; omega), cu_s, cEq_if (by decide) (by decide) (by decide) (by decide), if_pos rfl, r3, st_eq, st_eq]
      have e1 : up D 71 21 (((m + fr.length + 1 + 1 : Nat) : Int) - 1) 71 20 = ((op + m + 1 : Nat) : Int) := by rw [up_i, if_neg (by decide)]; exact r2
      rw [e1, show ((m + fr.length + 1 + 1 : Nat) : Int) - 1 = ((m + fr.length + 1 : Nat) : Int) by omega, show ((op + m + 1 : Nat) : Int) - 1 = ((op + m : Nat) : Int) by omega, m1, cv_s]
      exact w1
    · rw [show ord ++ List.replicate (m + 1) (-33 : Int) = ord ++ [-33] ++ List.replicate m (-33) by rw [List.replicate_succ]; simp]; exact w2
    · rw [w4.1 i hi, m4 i (by omega), up_i, if_neg (by omega), up_i, if_neg (by omega)]
    · rw [w4.2 i, m5 74 i (by decide) (by decide) (by decide), up_o (by decide), up_o (by decide)]
    · rw [w6, m5 83 i (by decide) (by decide) (by decide), up_o (by decide), up_o (by decide)]
theorem r_over3 {op : Nat} {fr wo wf : List Int} {f0 : Int} (h7 : f0 ≠ 3) (hR3 : R3 f0) : ∀ (m : Nat) (D : Mem) (ord : List Int) (N : Nat), m < N → Rst D (op + m) (List.replicate m 3 ++ f0 :: fr) wo wf ord → m + fr.length < 39 → ord.length + m ≤ 399 →
    ∃ D', lq1 (fn_X11_askIsOver_L0 71) N D = some D' ∧ Rst D' op (f0 :: fr) wo wf (ord ++ List.replicate m (-12)) ∧ FD D D' ∧ Ts D D' ∧ D' 71 27 = 3 := by
  intro m
  induction m with
  | zero =>
    intro D ord N hN hR hl h399
    obtain ⟨N, rfl⟩ : ∃ N', N = N' + 1 := ⟨N - 1, by omega⟩
    have hR : Rst D op (f0 :: fr) wo wf ord := hR
    show ∃ D', fn_X11_askIsOver_L0 71 _ D = some D' ∧ _
    unfold fn_X11_askIsOver_L0 fn_X11_askIsOver_J39
    rw [r_top hR (by omega), cu_s, cEq_if hR3.1 hR3.2 (by decide) (by decide), if_neg h7, st_eq]
    obtain ⟨r1, r2, ⟨r3, r4⟩, ⟨r5, r6, r7, r8⟩, r9, r10⟩ := hR
    have g1 : ∀ j, j ≠ 27 → up D 71 27 3 71 j = D 71 j := fun j a => by rw [up_i, if_neg a]
    refine ⟨_, rfl, ⟨by rw [g1 18 (by decide)]; exact r1, by rw [g1 20 (by decide)]; exact r2, ⟨by rw [g1 21 (by decide)]; exact r3, Sk_same (fun j => up_o (by decide)) r4⟩, ⟨by rw [g1 24 (by decide)]; exact r5, r6, Sk_same (fun j => up_o (by decide)) r7, Sk_same (fun j => up_o (by decide)) r8⟩, by rw [g1 34 (by decide)]; simp [r9], ?_⟩, FD.rf.u (by omega), ⟨fun j hj => g1 j (by omega), fun j => up_o (by decide)⟩, by rw [up_i, if_pos rfl]⟩
    show Oq (up D 71 27 3) (ord ++ [])
    rw [List.append_nil]
    exact fun j hj => by rw [up_o (by decide), up_o (by decide)]; exact r10 j hj
  | succ m ih =>
    intro D ord N hN hR hl h399
    obtain ⟨N, rfl⟩ : ∃ N', N = N' + 1 := ⟨N - 1, by omega⟩
    have hR : Rst D (op + m + 1) (3 :: (List.replicate m 3 ++ f0 :: fr)) wo wf ord := hR
    have hlen : (List.replicate m (3 : Int) ++ f0 :: fr).length = m + fr.length + 1 := by rw [List.length_append, List.length_replicate, List.length_cons]; omega
    have r3 := hR.2.2.1.1
    have r2 := hR.2.1
    rw [List.length_cons, hlen] at r3
    have hP := Rst_pop hR
    rw [hlen] at hP
    obtain ⟨D1, m1, m2, m3, m4, m5⟩ := r_emits (x := -12) (a := 405) (b := 0) hP (by omega) (by decide) (by decide)
    obtain ⟨D', w1, w2, w3, w4, w5⟩ := ih D1 (ord ++ [-12]) N (by omega) m2 (by omega) (by rw [List.length_append, List.length_singleton]; omega)
    refine ⟨D', ?_, ?_, ((((FD.rf.u (by omega)).u (by omega)) : FD D _).tr m3).tr w3, ⟨fun i hi => ?_, fun i => ?_⟩, w5⟩
    · show fn_X11_askIsOver_L0 71 _ D = _
      unfold fn_X11_askIsOver_L0
      rw [r_top hR (by rw [hlen]; omega), cu_s, cEq_if (by decide) (by decide) (by decide) (by decide), if_pos rfl, r3, st_eq, st_eq]
      have e1 : up D 71 21 (((m + fr.length + 1 + 1 : Nat) : Int) - 1) 71 20 = ((op + m + 1 : Nat) : Int) := by rw [up_i, if_neg (by decide)]; exact r2
      rw [e1, show ((m + fr.length + 1 + 1 : Nat) : Int) - 1 = ((m + fr.length + 1 : Nat) : Int) by omega, show ((op + m + 1 : Nat) : Int) - 1 = ((op + m : Nat) : Int) by omega, m1, cv_s]
      exact w1
    · rw [show ord ++ List.replicate (m + 1) (-12 : Int) = ord ++ [-12] ++ List.replicate m (-12) by rw [List.replicate_succ]; simp]; exact w2
    · rw [w4.1 i hi, m4 i (by omega), up_i, if_neg (by omega), up_i, if_neg (by omega)]
    · rw [w4.2 i, m5 74 i (by decide) (by decide) (by decide), up_o (by decide), up_o (by decide)]
