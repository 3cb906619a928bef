/-! text: a law's clause -/
def Clr (T : Tx) (C D : Mem) (i c : Nat) (res : Option (Int × Mem)) : Prop :=
  (∃ C' D' i' code' ord' k, res = some (1, C') ∧ i < i' ∧ Iv T C' D' i' code' (c + 1) ord' ∧ FC2 C C' ∧ FX2 D D' ∧ Rc k D D' ∧ k ≤ 5 * (i' - i)) ∨
  (∃ C' D' f p k, res = some (0, C') ∧ FC2 C C' ∧ C' 31 3 = f ∧ C' 31 4 = p ∧ Rc k D D' ∧ k ≤ 5 * (tN T + 2 - i) ∧ Er D' f p ∧ FX2 D D')
set_option maxHeartbeats 1000000 in
theorem law_gen {T : Tx} {C D : Mem} {i c : Nat} {code ord : List Int} {G : Mem → Mem → Prop} {b : Bool} {s0 s1 rs lv u : Int} {dp w : Nat} {NX : Int → Prop} (hT : TkT T) (hI : Iv T C D i code c ord) (hS : Sbs T G b s0 s1 0 dp w 2 rs NX (fun C => fn_X1_rec 100 0 31 lv 0 C)) (hG : ∀ {D D' : Mem}, G D D' → FD D D') (hdp : dp ≤ 32) (hrs : 1 ≤ rs)
    (hkk : (tK T i = 4 ∧ s0 = 0 ∧ s1 = 3 ∧ u = 2 ∧ lv = 0 ∧ b = true) ∨ (tK T i = 5 ∧ s0 = 1 ∧ s1 = 2 ∧ u = 1 ∧ lv = 3 ∧ b = false)) (hNX : ∀ k, NX k → (s1 = 3 ∧ u = 2 ∧ k ≠ 10 ∧ k ≠ 11) ∨ (s1 = 2 ∧ u = 1 ∧ (k ≠ 26 ∧ k ≠ 27 ∧ k ≠ 28 ∧ k ≠ 29)))
    (hnt : ∀ k, k < c → D 86 k ≠ tK T i - 4) (h20 : c < 20) : Clr T C D i c (cv (fn_X8_next 37 C) fun M82 => fn_X1_clause_J95 31 (tK T i) M82) := by
  obtain ⟨hC, hR, hol, ⟨hc1, hc2, -⟩, hcl, hL1, hL2⟩ := hI
  have hK45 : tK T i = 4 ∨ tK T i = 5 := by rcases hkk with h | h; exact Or.inl h.1; exact Or.inr h.1
  have h300 : tN T ≤ 300 := hC.1.1
  have hi := cls_lt hC (by omega)
  have hw := tr_wd hR.1.2.2.2
  have hso : D 71 16 = 1 := hw.1.mpr (by omega)
  obtain ⟨C1, c1, c2, c3⟩ := c_next hC hi
  obtain ⟨D4, d1, d2, d3, d4, d5, d6, d7, d8⟩ := r_head hT hR hc2 h20 (by omega) hi (fun _ => hnt) (fun k hk => by have := hcl k hk; unfold Cl1 at this; exact ⟨by omega, by omega⟩) (by omega)
  have hu : fn_X11_clause 71 D = fn_X11_clause_J150 71 D4 u := by
    rw [d8]
    rcases hkk with ⟨h1, h2, h3, h4, h5⟩ | ⟨h1, h2, h3, h4, h5⟩
    · rw [h1, h4, cLt_if (by decide) (by decide) (by decide) (by decide), if_neg (by decide), cEq_if (by decide) (by decide) (by decide) (by decide), if_pos (by decide)]
    · rw [h1, h4, cLt_if (by decide) (by decide) (by decide) (by decide), if_neg (by decide), cEq_if (by decide) (by decide) (by decide) (by decide), if_neg (by decide)]
  obtain ⟨D6, e1, e2, e3, e4⟩ := r_150 (u := u) (s0 := s0) d1 (by rw [d3]; rcases hkk with h | h; exact Or.inl ⟨by omega, h.2.1⟩; exact Or.inr ⟨by omega, h.2.1⟩)
  have rc1 : Rc 1 D D6 := rc_4 hR.2.2.1 hR.2.1 (by omega) (by rw [hu]; exact e1)
  have fx1 : FX2 D D6 := d7.tr (FX2.fe e4)
  have hlw : fn_X1_law 31 (tK T i) C1 = fn_X1_law_J19 31 (tK T i) C1 (code.length : Int) lv := by
    unfold fn_X1_law
    rw [nm_eq, show 31 + 1 = 32 from rfl, c2.2.2.1]
    rcases hkk with ⟨h1, h2, h3, h4, h5, h6⟩ | ⟨h1, h2, h3, h4, h5, h6⟩
    · rw [h1, h5, cEq_if (by decide) (by decide) (by decide) (by decide), if_pos rfl]
    · rw [h1, h5, cEq_if (by decide) (by decide) (by decide) (by decide), if_neg (by decide)]
  rw [c1, cv_s]
  unfold fn_X1_clause_J95 fn_X1_clause_J108 fn_X1_clause_J126
  rw [hlw]
  unfold fn_X1_law_J19 fn_X1_level
  have u9 : u ≠ 7 ∧ u ≠ 3 ∧ 0 ≤ u ∧ u ≤ 9 := by rcases hkk with h | h <;> omega
  have s9 : 0 ≤ s0 := by rcases hkk with h | h <;> omega
  rcases hS C1 D6 (i + 1) code u [] [] [] ord c2 e2 u9 (by rw [List.length_nil]; omega) (Or.inl rfl) (fun b hb => by cases hb) (by rw [List.length_nil]; omega) (by omega) with ⟨C3, D3, i3, xs, k3, a1, a2, a3, a4, a5, a6, a7, a8, a9, a10, mp3, ord3, a11, a12, a13, a14⟩ | ⟨C3, D3, f, p, k3, a1, a2, a3, a4, a5, a6, a7, a8⟩
  · have a1 : fn_X1_rec 100 0 31 lv 0 C1 = some (1, C3) := a1
    have hin3 := a4.2.2.2.2.2
    have hk3 := tr_k a11.1.2.2.2
    have hel : ord3.length + mp3.length = ord.length + xs.length := by rw [← List.length_append, a12, List.length_append]
    have n9 : C3 32 9 = (c : Int) := by rw [a5 32 9 (by omega) (by decide) (by omega) (by omega), c3 32 9 (by omega) (by decide) (by omega) (by omega)]; exact hc1
    obtain ⟨C4, l1, l2, l3, l4, l5, l6, l7⟩ := c_addl (K := tK T i) (a := (code.length : Int)) hK45 n9 h20 a4.2.2.1
    have hC4 : Cls T C4 i3 (code ++ xs) := Cls_f a4 (fun k j q => l6 k j (by omega) (by omega) (by omega) (by omega))
    rw [a1, cl_s, cEq_if (x := 1) (y := 0) (by decide) (by decide) (by decide) (by decide), if_neg (by decide), show 31 + 1 = 32 from rfl, l1, cv_s, cl_s, cEq_if (x := 1) (y := 0) (by decide) (by decide) (by decide) (by decide), if_neg (by decide)]
    have hle := r_lawend hT a11 (hNX _ a10) (fun x hx => ⟨(a13 x hx).1, by have := (a13 x hx).2; omega⟩) (by omega) (by omega) hin3 hC.1.2.2.2.2.1
    have fc4 : FC2 C C4 := ((FC2.fc c3).tr (FC2.fc a5)).tr (fun k j q => l6 k j (by omega) (by omega) (by omega) (by omega))
    by_cases q32 : tK T i3 = 32
    · obtain ⟨D7, g1, g2, g3, g4⟩ := hle.1 q32
      clear hle
      obtain ⟨C5, p1, p2, p3⟩ := (c_pass (a := 32) hC4 (by decide) hk3).1 q32
      rw [p1, cl_s, cEq_if (x := 1) (y := 0) (by decide) (by decide) (by decide) (by decide), if_neg (by decide)]
      rw [a12] at g2
      have x86 : ∀ k j, 86 ≤ k → k ≤ 89 → D7 k j = D4 k j := fun k j h1 h2 => by rw [g4 k j (by omega) (by omega), FE.fd (hG a8) k j (by omega) (by omega), e4 k j (by omega) (by omega)]
      have y86 : ∀ j, D7 86 j = if j = c then tK T i - 4 else D 86 j := fun j => by rw [x86 86 j (by omega) (by omega), d4]
      have y87 : ∀ j, D7 87 j = if j = c then (ord.length : Int) else D 87 j := fun j => by rw [x86 87 j (by omega) (by omega), d5]
      have o3 : ∀ k j, (k = 32 ∧ j ≠ 1) ∨ k = 34 ∨ k = 35 ∨ k = 36 → C3 k j = C k j := fun k j h => by rw [a5 k j (by omega) (by omega) (by omega) (by omega), c3 k j (by omega) (by omega) (by omega) (by omega)]
      have o5 : ∀ k j, (k = 32 ∧ j ≠ 1) ∨ k = 34 ∨ k = 35 ∨ k = 36 → C5 k j = C4 k j := fun k j h => p3 k j (by omega) (by omega) (by omega) (by omega)
      have hwf : wf xs [] [b] := by
        have := a9 [] [] [b] (by rw [List.length_nil]; omega) rfl
        rwa [List.append_nil] at this
      have z28 : D7 71 28 = ((c + 1 : Nat) : Int) := by rw [g3, hG a8 71 28 (fun _ => by omega) (by decide) (by decide) (by decide) (by decide) (by decide) (by decide), e3, d2]; omega
      rw [List.append_assoc] at g2
      refine Or.inl ⟨C5, D7, i3 + 1, code ++ xs, ord ++ (xs ++ [-99]), 1 + (k3 + 1), rfl, by omega, ⟨p2, g2, by simp only [List.length_append, List.length_singleton]; omega, ⟨by rw [o5 32 9 (by omega)]; exact l2, z28, by omega⟩, fun k hk => ?_, ?_, ?_⟩, fc4.tr (FC2.fc p3), (fx1.tr (FX2.fe (FE.fd (hG a8)))).tr (FX2.fe g4), rc1.tr (a6.tr g1), by omega⟩
      · by_cases q : k = c
        · have e34 : C5 34 k = tK T i := by rw [o5 34 k (by omega), l3, if_pos q]
          refine ⟨by omega, by rw [y86, if_pos q, e34], fun h => by omega, fun h => by omega⟩
        · have hk' := hcl k (by omega)
          unfold Cl1 at hk' ⊢
          rw [o5 34 k (by omega), l3, if_neg q, o3 34 k (by omega), o5 35 k (by omega), (l7 k q).1, o3 35 k (by omega), o5 36 k (by omega), (l7 k q).2, o3 36 k (by omega), y86, if_neg q, x86 88 k (by omega) (by omega), (d6 k q).1, x86 89 k (by omega) (by omega), (d6 k q).2]
          exact hk'
      · rcases hkk with ⟨h1, h2, h3, h4, h5, h6⟩ | ⟨h1, h2, h3, h4, h5, h6⟩
        · rw [h6] at hwf
          have l4 := l4 h1
          refine LawI_new (D := D) (fun k hk => by have := hnt k hk; rw [h1] at this; exact this) (by rw [o5 32 2 (by omega)]; exact l4.1) (by rw [o5 32 3 (by omega), l4.2.1, List.length_append]) (fun k hk => by rw [y86, if_neg (by omega)]) (by rw [y86, if_pos rfl, h1]; rfl) (by rw [y87, if_pos rfl]) hwf
        · have l5 := l5 h1
          refine LawI_mono hL1 (by rw [o5 32 2 (by omega), l5.2.2.1, o3 32 2 (by omega)]) (by rw [o5 32 3 (by omega), l5.2.2.2, o3 32 3 (by omega)]) (fun k hk => ⟨by rw [y86, if_neg (by omega)], by rw [y87, if_neg (by omega)]⟩) (by rw [y86, if_pos rfl, h1]; decide)
      · rcases hkk with ⟨h1, h2, h3, h4, h5, h6⟩ | ⟨h1, h2, h3, h4, h5, h6⟩
        · have l4 := l4 h1
          refine LawI_mono hL2 (by rw [o5 32 4 (by omega), l4.2.2.1, o3 32 4 (by omega)]) (by rw [o5 32 5 (by omega), l4.2.2.2, o3 32 5 (by omega)]) (fun k hk => ⟨by rw [y86, if_neg (by omega)], by rw [y87, if_neg (by omega)]⟩) (by rw [y86, if_pos rfl, h1]; decide)
        · rw [h6] at hwf
          have l5 := l5 h1
          refine LawI_new (D := D) (fun k hk => by have := hnt k hk; rw [h1] at this; exact this) (by rw [o5 32 4 (by omega)]; exact l5.1) (by rw [o5 32 5 (by omega), l5.2.1, List.length_append]) (fun k hk => by rw [y86, if_neg (by omega)]) (by rw [y86, if_pos rfl, h1]; rfl) (by rw [y87, if_pos rfl]) hwf
    · obtain ⟨D7, g1, g2, g3⟩ := hle.2 q32
      clear hle
      obtain ⟨C5, p1, p2, p3, p4⟩ := (c_pass (a := 32) hC4 (by decide) hk3).2 q32
      rw [p1, cl_s, cEq_if (x := 0) (y := 0) (by decide) (by decide) (by decide) (by decide), if_pos rfl]
      exact Or.inr ⟨C5, D7, _, _, 1 + (k3 + 1), rfl, fc4.tr (FC2.fc p2), p3, p4, rc1.tr (a6.tr g1), by omega, g2, (fx1.tr (FX2.fe (FE.fd (hG a8)))).tr (FX2.fe g3)⟩
  · have a1 : fn_X1_rec 100 0 31 lv 0 C1 = some (0, C3) := a1
    rw [a1, cl_s, cEq_if (x := 0) (y := 0) (by decide) (by decide) (by decide) (by decide), if_pos rfl, cl_s, cEq_if (x := 0) (y := 0) (by decide) (by decide) (by decide) (by decide), if_pos rfl]
    exact Or.inr ⟨C3, D3, f, p, 1 + k3, rfl, (FC2.fc c3).tr (FC2.fc a2), a3, a4, rc1.tr a5, by omega, a7, fx1.tr (FX2.fe (FE.fd a8))⟩
theorem law_ok {T : Tx} {C D : Mem} {i c : Nat} {code ord : List Int} (hT : TkT T) (hI : Iv T C D i code c ord) (hk : tK T i = 4 ∨ tK T i = 5) (hnt : ∀ k, k < c → D 86 k ≠ tK T i - 4) (h20 : c < 20) : Clr T C D i c (cv (fn_X8_next 37 C) fun M82 => fn_X1_clause_J95 31 (tK T i) M82) := by
  rcases hk with hk | hk
  · exact law_gen (u := 2) (lv := 0) hT hI (Sbs_c (either_all hT (o := 0) (d := 100) (by decide) (by decide)) (fun C => rfl)) (fun h => h) (by decide) (by decide) (Or.inl ⟨hk, rfl, rfl, rfl, rfl, rfl⟩) (fun k h => Or.inl ⟨rfl, rfl, h.2, h.1.2⟩) hnt h20
  · exact law_gen (u := 1) (lv := 3) hT hI (Sbs_c (sum_all hT (o := 0) (d := 100) (by decide) (by decide)) (fun C => rfl)) (fun h => h.1) (by decide) (by decide) (Or.inr ⟨hk, rfl, rfl, rfl, rfl, rfl⟩) (fun k h => Or.inr ⟨rfl, rfl, by unfold nx3 at h; omega⟩) hnt h20
