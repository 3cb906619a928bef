/-! text: a clause, and all of them -/
theorem lawI_told {C D : Mem} {c f t : Nat} {w : Int} {b : Bool} {code ord : List Int} (h : LawI C D c f t w b code ord) (hl : code.length ≤ 300) : (R3 (C 32 f) ∧ R3 (C 32 t)) ∧ (((∃ k, k < c ∧ D 86 k = w) ∧ C 32 f < C 32 t) ∨ ((∀ k, k < c → D 86 k ≠ w) ∧ ¬ C 32 f < C 32 t)) := by
  rcases h with ⟨k, a, xs, z, a', z', g1, g2, g3, g4, g5, g6, g7, g8⟩ | ⟨g1, g2, g3⟩
  · have := wf_ne g8
    have h9 : code.length = a.length + (xs.length + z.length) := by rw [g5, List.length_append, List.length_append]
    exact ⟨⟨⟨by omega, by omega⟩, by omega, by omega⟩, Or.inl ⟨⟨k, g1, (g2 k g1).mpr rfl⟩, by omega⟩⟩
  · exact ⟨⟨⟨by omega, by omega⟩, by omega, by omega⟩, Or.inr ⟨g3, by omega⟩⟩
theorem clause_ok {T : Tx} {C D : Mem} {i c : Nat} {code ord : List Int} (hT : TkT T) (hI : Iv T C D i code c ord) (hk0 : tK T i ≠ 0) : Clr T C D i c (fn_X1_clause 31 C) := by
  have hI0 := hI
  obtain ⟨hC, hR, hol, ⟨hc1, hc2, hc3⟩, hcl, hL1, hL2⟩ := hI
  have h300 : tN T ≤ 300 := hC.1.1
  have hi := cls_lt hC hk0
  have hcd := hC.2.2.2.2.1
  have hk := tr_k hR.1.2.2.2
  have hso := tr_so hR.1.2.2.2
  have hwd := tr_wd hR.1.2.2.2
  have h16 : D 71 16 ≠ 0 ∧ 0 ≤ D 71 16 ∧ D 71 16 ≤ 4 := ⟨fun h => hk0 (hwd.2.2.2.mp h), hso.1⟩
  have hd86 : ∀ k, k < c → R3 (D 86 k) := fun k hk => by have := hcl k hk; unfold Cl1 at this; exact ⟨by omega, by omega⟩
  have h7 : C (31 + 6) 7 = tK T i := hC.2.1.2.1
  have hno := r_head_no hR hc2 hc3 hd86
  have t1 := lawI_told hL1 (by omega)
  have t2 := lawI_told hL2 (by omega)
  have fail : ∀ f, (∃ D', fn_X11_clause 71 D = some D' ∧ Er D' f (tP T i : Int) ∧ FE D D') → Clr T C D i c (cl (fn_X1_refuse 31 f C) fun x M => ck (x = 0 ∨ x = 1) (some (x, M))) := fun f ⟨D', a1, a2, a3⟩ => by
    obtain ⟨C1, e1, e2, e3, e4⟩ := c_ref (f := f) hC
    rw [e1, cl_s, ck_t (Or.inl rfl)]
    exact Or.inr ⟨C1, D', _, _, 1, rfl, FC2.fc e2, e3, e4, rc_4 hR.2.2.1 hR.2.1 h16 a1, by omega, a2, FX2.fe a3⟩
  have j60 : 4 ≤ tK T i ∧ tK T i ≤ 8 → (tK T i ≤ 5 → ∀ k, k < c → D 86 k ≠ tK T i - 4) → Clr T C D i c (fn_X1_clause_J60 31 C (tK T i)) := fun hk48 hnt => by
    unfold fn_X1_clause_J60
    rw [show 31 + 1 = 32 from rfl, hc1, cLt_if (x := (c : Int)) (by omega) (by omega) (by decide) (by decide)]
    by_cases q20 : c < 20
    · rw [if_pos (by omega), show 31 + 6 = 37 from rfl]
      by_cases q45 : tK T i = 4 ∨ tK T i = 5
      · have h := law_ok hT hI0 q45 (hnt (by omega)) q20
        obtain ⟨C1, c1, c2, c3⟩ := c_next hC hi
        rw [c1, cv_s] at h ⊢
        rw [cEq_if (x := tK T i) (y := 4) (by omega) (by omega) (by decide) (by decide), cEq_if (x := tK T i) (y := 5) (by omega) (by omega) (by decide) (by decide)]
        by_cases q4 : tK T i = 4
        · rw [if_pos q4]; exact h
        · rw [if_neg q4, if_pos (by omega)]; exact h
      · have h := deed_ok hT hI0 (by omega) q20
        obtain ⟨C1, c1, c2, c3⟩ := c_next hC hi
        rw [c1, cv_s] at h ⊢
        rw [cEq_if (x := tK T i) (y := 4) (by omega) (by omega) (by decide) (by decide), cEq_if (x := tK T i) (y := 5) (by omega) (by omega) (by decide) (by decide), if_neg (by omega), if_neg (by omega)]
        exact h
    · rw [if_neg (by omega)]
      exact fail 5 (hno.2.2 hk48 hnt (by omega))
  unfold fn_X1_clause fn_X1_clause_J39 fn_X1_clause_J54 fn_X7_hasGlove fn_X7_hasGrain
  rw [nm_eq, h7, p_isWithin (x := tK T i) ⟨by omega, by omega⟩ ⟨by decide, by decide⟩ ⟨by decide, by decide⟩, cu_s, cE_b2]
  by_cases q48 : 4 ≤ tK T i ∧ tK T i ≤ 8
  · rw [if_pos q48, cEq_if (x := tK T i) (y := 4) (by omega) (by omega) (by decide) (by decide), show 31 + 1 = 32 from rfl, cEq_if (x := tK T i) (y := 5) (by omega) (by omega) (by decide) (by decide), cLt_if t1.1.1.1 t1.1.1.2 t1.1.2.1 t1.1.2.2, cLt_if t2.1.1.1 t2.1.1.2 t2.1.2.1 t2.1.2.2]
    by_cases q4 : tK T i = 4
    · rw [if_pos q4]
      rcases t1.2 with ⟨a, b⟩ | ⟨a, b⟩
      · rw [if_pos b, cu_s, cEq_if (x := 1) (y := 0) (by decide) (by decide) (by decide) (by decide), if_neg (by decide)]
        exact fail 4 (hno.2.1 (Or.inl q4) (by rw [q4]; exact a))
      · rw [if_neg b, cu_s, cEq_if (x := 0) (y := 0) (by decide) (by decide) (by decide) (by decide), if_pos rfl, if_neg (by omega)]
        exact j60 q48 (fun _ => by rw [q4]; exact a)
    · rw [if_neg q4]
      by_cases q5 : tK T i = 5
      · rw [if_pos q5]
        rcases t2.2 with ⟨a, b⟩ | ⟨a, b⟩
        · rw [if_pos b, cu_s, cEq_if (x := 1) (y := 0) (by decide) (by decide) (by decide) (by decide), if_neg (by decide)]
          exact fail 4 (hno.2.1 (Or.inr q5) (by rw [q5]; exact a))
        · rw [if_neg b, cu_s, cEq_if (x := 0) (y := 0) (by decide) (by decide) (by decide) (by decide), if_pos rfl]
          exact j60 q48 (fun _ => by rw [q5]; exact a)
      · rw [if_neg q5]
        exact j60 q48 (fun h => by omega)
  · rw [if_neg q48]
    exact fail 1 (hno.1 q48)
def Prs (T : Tx) (C D : Mem) (i : Nat) (res : Option (Int × Mem)) : Prop :=
  (∃ C' D' i' code' c' ord' k, res = some (1, C') ∧ i ≤ i' ∧ Iv T C' D' i' code' c' ord' ∧ tK T i' = 0 ∧ FC2 C C' ∧ FX2 D D' ∧ Rc k D D' ∧ k ≤ 5 * (i' - i)) ∨
  (∃ C' D' f p k, res = some (0, C') ∧ FC2 C C' ∧ C' 31 3 = f ∧ C' 31 4 = p ∧ Rc k D D' ∧ k ≤ 5 * (tN T + 2 - i) ∧ Er D' f p ∧ FX2 D D')
theorem parse_ok {T : Tx} (hT : TkT T) : ∀ (q : Nat) (C D : Mem) (i c N : Nat) (code ord : List Int), i + q = tN T → q < N → Iv T C D i code c ord → Prs T C D i (lq2 (fn_X1_parse_L32 31) N (c : Int) C) := by
  intro q
  induction q using Nat.strongRecOn with
  | ind q ih =>
    intro C D i c N code ord hq hN hI
    obtain ⟨N, rfl⟩ : ∃ N', N = N' + 1 := ⟨N - 1, by omega⟩
    have h7 : C (31 + 6) 7 = tK T i := hI.1.2.1.2.1
    have hk := tr_k hI.2.1.1.2.2.2
    have hc := hI.2.2.2.1
    show Prs T C D i (fn_X1_parse_L32 31 (lq2 (fn_X1_parse_L32 31) N) (c : Int) C)
    have ih : ∀ (C' D' : Mem) (i' : Nat) (code' ord' : List Int), i < i' → i' ≤ tN T → Iv T C' D' i' code' (c + 1) ord' → Prs T C' D' i' (lq2 (fn_X1_parse_L32 31) N ((c + 1 : Nat) : Int) C') := fun C' D' i' code' ord' h1 h2 h3 => ih (tN T - i') (by omega) C' D' i' (c + 1) N code' ord' (by omega) (by omega) h3
    generalize lq2 (fn_X1_parse_L32 31) N = rec at ih
    unfold fn_X1_parse_L32
    rw [cLt_if (by decide) (by decide) (by omega) (by omega), if_neg (by omega), h7, cEq_if (by omega) (by omega) (by decide) (by decide)]
    by_cases q0 : tK T i = 0
    · rw [if_pos q0]
      exact Or.inl ⟨C, D, i, code, c, ord, 0, rfl, Nat.le_refl _, hI, q0, FC2.rf, FX2.rf, Rc.z, by omega⟩
    · rw [if_neg q0]
      rcases clause_ok hT hI q0 with ⟨C', D', i', code', ord', k, a1, a2, a3, a4, a5, a6, a7⟩ | ⟨C', D', f, p, k, a1, a2, a3, a4, a5, a6, a7, a8⟩
      · have hin' := a3.1.2.2.2.2.2
        rw [a1, cl_s, cEq_if (x := 1) (y := 0) (by decide) (by decide) (by decide) (by decide), if_neg (by decide), nm_eq, show (c : Int) + 1 = ((c + 1 : Nat) : Int) by omega]
        rcases ih C' D' i' code' ord' a2 hin' a3 with ⟨C2, D2, i2, code2, c2, ord2, k2, b1, b2', b3, b4, b5, b6, b7, b8⟩ | ⟨C2, D2, f, p, k2, b1, b2', b3, b4, b5, b6, b7, b8⟩
        · exact Or.inl ⟨C2, D2, i2, code2, c2, ord2, k + k2, b1, by omega, b3, b4, a4.tr b5, a5.tr b6, a6.tr b7, by omega⟩
        · exact Or.inr ⟨C2, D2, f, p, k + k2, b1, a4.tr b2', b3, b4, a6.tr b5, by omega, b7, a5.tr b8⟩
      · rw [a1, cl_s, cEq_if (x := 0) (y := 0) (by decide) (by decide) (by decide) (by decide), if_pos rfl]
        exact Or.inr ⟨C', D', f, p, k, rfl, a2, a3, a4, a5, a6, a7, a8⟩
