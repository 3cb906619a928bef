/-! text: one thing of a sum -/
def Ons (T : Tx) (o : Nat) (f1 : Mem → Option (Int × Mem)) : Prop :=
  ∀ (C D : Mem) (i : Nat) (code : List Int) (m : Nat) (f0 : Int) (fr wo wq ord : List Int), Cls T C i code → Rf T D i 1 o (List.replicate m 7 ++ f0 :: fr) wo wq ord → (f0 ≠ 7 ∧ 0 ≤ f0 ∧ f0 ≤ 9) → m ≤ o → fr.length + 1 + m ≤ o + 2 → (∀ b, b ∈ wq → 0 ≤ b ∧ b ≤ ((fr.length + 1 : Nat) : Int)) → wo.length ≤ 2 * (fr.length + 1) → ord.length + m ≤ i →
    Ok T FA false (1 + 2 * (8 - o)) 4 (f1 C) C D i code (fun D' i' xs => Rf T D' i' 2 (o - m) (f0 :: fr) wo wq (ord ++ xs ++ List.replicate m (-33)))
theorem wfx_leaf {x : Int} {b : Bool} {dp : Nat} (hd : 1 ≤ dp) (hx : ∀ s, stp x s (b :: s)) : wfx [x] b dp := fun s ys r hs hw => ⟨b :: s, hx s, by rw [List.length_cons]; omega, hw⟩
theorem wfx_un {xs : List Int} {x : Int} {b : Bool} {dp : Nat} (h : wfx xs b dp) (hd : 1 ≤ dp) (hx : ∀ s, stp x (b :: s) (b :: s)) : wfx (xs ++ [x]) b dp := fun s ys r hs hw => by
  rw [List.append_assoc]
  exact h s _ r hs ⟨b :: s, hx s, by rw [List.length_cons]; omega, hw⟩
/-- after a leaf -/
theorem r_leaf {T : Tx} {D : Mem} {i o m : Nat} {f0 x a b : Int} {fr wo wq ord : List Int} (hT : TkT T) (hR : Rf T D i 1 o (List.replicate m 7 ++ f0 :: fr) wo wq ord) (h7 : f0 ≠ 7) (hf0 : 0 ≤ f0 ∧ f0 ≤ 9) (hm : m ≤ o) (ho : o ≤ 8) (hfr : fr.length + 1 + m ≤ o + 2) (hi : i < tN T) (hn : tN T ≤ 300) (hord : ord.length + m ≤ i) (ha : a = oo x) (hb : b = ov x) :
    ∃ D1 D2 D', fn_X11_emits 71 a b D = some D1 ∧ fn_X11_next 71 D1 = some D2 ∧ fn_X11_oneIsOver 71 D2 = some D' ∧ Rf T D' (i + 1) 2 (o - m) (f0 :: fr) wo wq (ord ++ [x] ++ List.replicate m (-33)) ∧ FA D D' := by
  obtain ⟨h0, h27, hS⟩ := hR
  obtain ⟨D1, a1, a2, a3, a4, a5⟩ := r_emits (x := x) (a := a) (b := b) hS (by omega) ha hb
  have hR1 : Rt0 T D1 i := Rt0_f ⟨fun j hj => a4 j (by omega), fun j => a5 74 j (by decide) (by decide) (by decide)⟩ h0
  obtain ⟨D2, n1, n2, n3⟩ := r_next hT hR1 hi
  have hS2 := Rst_n4 n2 a2
  rw [show o = (o - m) + m by omega] at hS2
  obtain ⟨D', w1, w2, w3, w4, w5, w6⟩ := r_over7 h7 ⟨by omega, by omega⟩ m D2 (ord ++ [x]) FU (lt_FU (by omega)) hS2 (by omega) (by rw [List.length_append, List.length_singleton]; omega)
  refine ⟨D1, D2, D', a1, n1, w1, ⟨Rt0_f w4 n3, w5, w2⟩, (FA.tr ⟨a3, fun j => a5 83 j (by decide) (by decide) (by decide)⟩ (FA.n4 n2)).tr ⟨w3, w6⟩⟩
theorem beg_num {T : Tx} {D : Mem} {i o : Nat} {f0 : Int} {m : Nat} {fr wo wq ord : List Int} (hT : TkT T) (hR : Rf T D i 1 o (List.replicate m 7 ++ f0 :: fr) wo wq ord) (h7 : f0 ≠ 7) (hf0 : 0 ≤ f0 ∧ f0 ≤ 9) (hm : m ≤ o) (ho : o ≤ 8) (hfr : fr.length + 1 + m ≤ o + 2) (hi : i < tN T) (hn : tN T ≤ 300) (hord : ord.length + m ≤ i) (hk : tK T i = 2) :
    (tV T i ≤ 9999 → ∃ D', Rc 1 D D' ∧ Rf T D' (i + 1) 2 (o - m) (f0 :: fr) wo wq (ord ++ [tV T i] ++ List.replicate m (-33)) ∧ FA D D') ∧ (9999 < tV T i → ∃ D', Rc 1 D D' ∧ Er D' 2 (tP T i : Int) ∧ FD D D') := by
  have hk2 := hR.1.2.2.2
  rw [hk] at hk2
  obtain ⟨hso, hv⟩ := tr_num hk2
  refine ⟨fun q => ?_, fun q => ?_⟩
  · have hto : D 71 17 = tV T i := by omega
    obtain ⟨D1, D2, D', a1, a2, a3, a4, a5⟩ := r_leaf (x := tV T i) (a := 400) (b := tV T i) hT hR h7 hf0 hm ho hfr hi hn hord (by unfold oo mo; rw [if_neg (by omega), if_pos (by omega)]) (by unfold ov mv; rw [if_neg (by omega), if_pos (by omega)])
    refine ⟨D', rc_st hR.2.2.1 (Or.inr (Or.inl ⟨hR.2.1, ?_⟩)), a4, a5⟩
    unfold fn_X11_begins
    rw [hso, hto, cEq_if (by decide) (by decide) (by decide) (by decide), if_pos rfl, cLt_if (by decide) (by decide) (by omega) (by omega), if_neg (by omega), a1, cv_s, a2, cv_s, a3, cv_s]
  · obtain ⟨D1, a1, a2, a3⟩ := r_errs (f := 2) hR.1 hR.2.2.1 (by omega)
    refine ⟨D1, rc_st hR.2.2.1 (Or.inr (Or.inl ⟨hR.2.1, ?_⟩)), a2, a3⟩
    unfold fn_X11_begins
    rw [hso, cEq_if (by decide) (by decide) (by decide) (by decide), if_pos rfl, cLt_if (by decide) (by decide) (by omega) (by omega), if_pos (by omega), a1, cv_s]
theorem beg_name {T : Tx} {D : Mem} {i o : Nat} {f0 : Int} {m : Nat} {fr wo wq ord : List Int} (hT : TkT T) (hR : Rf T D i 1 o (List.replicate m 7 ++ f0 :: fr) wo wq ord) (h7 : f0 ≠ 7) (hf0 : 0 ≤ f0 ∧ f0 ≤ 9) (hm : m ≤ o) (ho : o ≤ 8) (hfr : fr.length + 1 + m ≤ o + 2) (hi : i < tN T) (hn : tN T ≤ 300) (hord : ord.length + m ≤ i) (hk : 13 ≤ tK T i ∧ tK T i ≤ 19) :
    ∃ D', Rc 1 D D' ∧ Rf T D' (i + 1) 2 (o - m) (f0 :: fr) wo wq (ord ++ [-tK T i] ++ List.replicate m (-33)) ∧ FA D D' := by
  have hw := tr_wd hR.1.2.2.2
  have hso : D 71 16 = 1 := hw.1.mpr (by omega)
  have hto := hw.2.1 hso
  obtain ⟨D1, D2, D', a1, a2, a3, a4, a5⟩ := r_leaf (x := -tK T i) (a := 401) (b := tK T i - 4 - 8 - 1) hT hR h7 hf0 hm ho hfr hi hn hord (by unfold oo mo; rw [if_neg (by omega), if_neg (by omega), if_pos (by omega)]) (by unfold ov mv; rw [if_neg (by omega), if_neg (by omega), if_pos (by omega)]; omega)
  refine ⟨D', rc_st hR.2.2.1 (Or.inr (Or.inl ⟨hR.2.1, ?_⟩)), a4, a5⟩
  unfold fn_X11_begins
  rw [hso, hto, cEq_if (by decide) (by decide) (by decide) (by decide), if_neg (by decide), cEq_if (by decide) (by decide) (by decide) (by decide), if_pos rfl, cLt_if (by decide) (by decide) (by omega) (by omega), if_pos (by omega), a1, cv_s, a2, cv_s, a3, cv_s]
theorem beg_90 {T : Tx} {D : Mem} {i : Nat} (hR : Rt0 T D i) (hk : tK T i ≠ 2 ∧ ¬ (13 ≤ tK T i ∧ tK T i ≤ 19)) : fn_X11_begins 71 D = fn_X11_begins_J90 71 D := by
  have h1 := tr_so hR.2.2.2
  have hw := tr_wd hR.2.2.2
  unfold fn_X11_begins
  rw [cEq_if (x := D 71 16) (y := 2) (by omega) (by omega) (by decide) (by decide), if_neg (fun h => hk.1 (hw.2.2.1.mp h)), cEq_if (x := D 71 16) (y := 1) (by omega) (by omega) (by decide) (by decide)]
  by_cases q : D 71 16 = 1
  · have h3 := h1.2 (by omega) (by omega)
    have h5 := hw.2.1 q
    have h6 := hw.1.mp q
    rw [if_pos q, cLt_if (by decide) (by decide) h3.1 h3.2, if_neg (by omega)]
  · rw [if_neg q]
