/-! text: the class's operations, and a level of the grammar -/
def FC (C C' : Mem) : Prop := ∀ k i, ¬ (k = 37 ∧ (i = 5 ∨ i = 7 ∨ i = 8 ∨ i = 9)) → k ≠ 33 → ¬ (k = 32 ∧ i = 1) → ¬ (k = 31 ∧ (i = 3 ∨ i = 4)) → C' k i = C k i
theorem FC.rf {C : Mem} : FC C C := fun _ _ _ _ _ _ => rfl
theorem FC.tr {C C' C'' : Mem} (h : FC C C') (h' : FC C' C'') : FC C C'' := fun k i a b c d => (h' k i a b c d).trans (h k i a b c d)
def Cls (T : Tx) (C : Mem) (i : Nat) (code : List Int) : Prop := Tk1 C (tN T) (tL T) (tK T) (tV T) (tP T) ∧ At1 C i (tK T) (tV T) (tP T) ∧ C 32 1 = (code.length : Int) ∧ (Cd C 33 0 code ∧ C 31 3 = 0 ∧ C 31 4 = -1) ∧ code.length ≤ i ∧ i ≤ tN T
theorem Cd_app {M : Mem} {c : Nat} : ∀ {xs ys : List Int} {p : Nat}, Cd M c p (xs ++ ys) ↔ Cd M c p xs ∧ Cd M c (p + xs.length) ys := by
  intro xs
  induction xs with
  | nil => intro ys p; exact ⟨fun h => ⟨trivial, h⟩, fun h => h.2⟩
  | cons x t ih =>
    intro ys p
    show M c p = x ∧ Cd M c (p + 1) (t ++ ys) ↔ (M c p = x ∧ Cd M c (p + 1) t) ∧ Cd M c (p + (t.length + 1)) ys
    rw [ih, show p + 1 + t.length = p + (t.length + 1) by omega, and_assoc]
theorem Cd_up {M : Mem} {c i : Nat} {v : Int} : ∀ {xs : List Int} {p : Nat}, Cd M c p xs → p + xs.length ≤ i → Cd (up M c i v) c p xs := by
  intro xs
  induction xs with
  | nil => intro p _ _; trivial
  | cons x t ih =>
    intro p h hi
    rw [List.length_cons] at hi
    exact ⟨by rw [up_i, if_neg (by omega)]; exact h.1, ih h.2 (by omega)⟩
theorem c_next {T : Tx} {C : Mem} {i : Nat} {code : List Int} (h : Cls T C i code) (hi : i < tN T) : ∃ C', fn_X8_next 37 C = some C' ∧ Cls T C' (i + 1) code ∧ FC C C' := by
  obtain ⟨h1, h2, h3, h4, h5, h6⟩ := h
  obtain ⟨C', a, b, c, d⟩ := p_nextT (i := i + 1) h1 (by rw [h2.1]; omega) (by omega)
  exact ⟨C', a, ⟨d, c, by rw [b 32 1 (by omega)]; exact h3, ⟨Cd_same (fun j => b 33 j (by omega)) h4.1, by rw [b 31 3 (by omega)]; exact h4.2.1, by rw [b 31 4 (by omega)]; exact h4.2.2⟩, by omega, by omega⟩, fun k j q _ _ _ => b k j q⟩
theorem c_put {T : Tx} {C : Mem} {i : Nat} {code : List Int} {x : Int} (h : Cls T C i code) (hl : code.length < i) : ∃ C', fn_X7_put 32 x C = some (1, C') ∧ Cls T C' i (code ++ [x]) ∧ FC C C' := by
  obtain ⟨h1, h2, h3, h4, h5, h6⟩ := h
  have h300 := h1.1
  unfold fn_X7_put
  rw [h3, cLt_if (by omega) (by omega) (by decide) (by decide), if_neg (by omega), cLt_if (by omega) (by omega) (by decide) (by decide), if_pos (by omega), wr_eq (by omega) (by omega), Int.toNat_natCast, st_eq, show 32 + 1 = 33 from rfl]
  have e1 : up C 33 code.length x 32 1 = (code.length : Int) := by rw [up_o (by decide)]; exact h3
  rw [e1]
  have g : ∀ k j, k ≠ 33 → ¬ (k = 32 ∧ j = 1) → up (up C 33 code.length x) 32 1 ((code.length : Int) + 1) k j = C k j := fun k j a b => by rw [up_k, if_neg b, up_o a]
  refine ⟨_, rfl, ⟨Tk1_f (fun j _ => g 37 j (by omega) (by omega)) (fun k j _ _ => g k j (by omega) (by omega)) h1, ?_, ?_, ?_, by rw [List.length_append, List.length_singleton]; omega, h6⟩, fun k j _ b c _ => g k j b c⟩
  · unfold At1
    rw [g 37 5 (by omega) (by omega), g 37 7 (by omega) (by omega), g 37 8 (by omega) (by omega), g 37 9 (by omega) (by omega)]; exact h2
  · rw [up_i, if_pos rfl, List.length_append, List.length_singleton]; omega
  · refine ⟨Cd_same (M := up C 33 code.length x) (fun j => by rw [up_o (by decide)]) ?_, by rw [g 31 3 (by omega) (by omega)]; exact h4.2.1, by rw [g 31 4 (by omega) (by omega)]; exact h4.2.2⟩
    rw [Cd_app]
    exact ⟨Cd_up h4.1 (by omega), by rw [Nat.zero_add, up_i, if_pos rfl], trivial⟩
theorem c_ref {T : Tx} {C : Mem} {i : Nat} {code : List Int} {f : Int} (h : Cls T C i code) : ∃ C', fn_X1_refuse 31 f C = some (0, C') ∧ FC C C' ∧ C' 31 3 = f ∧ C' 31 4 = (tP T i : Int) := by
  unfold fn_X1_refuse
  rw [st_eq, st_eq]
  refine ⟨_, rfl, fun k j _ _ _ d => by rw [up_k, if_neg (by omega), up_k, if_neg (by omega)], by rw [up_i, if_neg (by decide), up_i, if_pos rfl], ?_⟩
  rw [up_i, if_pos rfl, up_o (by decide)]; exact h.2.1.2.2.2
/-- the reference goes on, so many turns -/
def Rc (k : Nat) (D D' : Mem) : Prop := ∀ N, lq1 (fn_X11_text_L74 71) (N + k) D = lq1 (fn_X11_text_L74 71) N D'
theorem Rc.z {D : Mem} : Rc 0 D D := fun _ => rfl
theorem Rc.tr {k k' : Nat} {D D' D'' : Mem} (h : Rc k D D') (h' : Rc k' D' D'') : Rc (k + k') D D'' := fun N => by rw [show N + (k + k') = (N + k') + k by omega, h, h']
theorem rc_st {D D' : Mem} (h0 : D 71 18 = 0) (h : (D 71 27 = 0 ∧ fn_X11_asks 71 D = some D') ∨ (D 71 27 = 1 ∧ fn_X11_begins 71 D = some D') ∨ (D 71 27 = 2 ∧ fn_X11_goesOn 71 D = some D') ∨ (D 71 27 = 3 ∧ fn_X11_asksOn 71 D = some D')) : Rc 1 D D' := fun N => by
  show fn_X11_text_L74 71 (lq1 (fn_X11_text_L74 71) N) D = _
  unfold fn_X11_text_L74 fn_X11_text_J96
  rw [h0, cEq_if (by decide) (by decide) (by decide) (by decide), if_pos rfl]
  rcases h with ⟨a, b⟩ | ⟨a, b⟩ | ⟨a, b⟩ | ⟨a, b⟩
  · rw [a, cEq_if (by decide) (by decide) (by decide) (by decide), if_neg (by decide), ck_R3 (by decide) (by decide), if_pos rfl, b, cv_s]
  · rw [a, cEq_if (by decide) (by decide) (by decide) (by decide), if_neg (by decide), ck_R3 (by decide) (by decide), if_neg (by decide), if_pos rfl, b, cv_s]
  · rw [a, cEq_if (by decide) (by decide) (by decide) (by decide), if_neg (by decide), ck_R3 (by decide) (by decide), if_neg (by decide), if_neg (by decide), if_pos rfl, b, cv_s]
  · rw [a, cEq_if (by decide) (by decide) (by decide) (by decide), if_neg (by decide), ck_R3 (by decide) (by decide), if_neg (by decide), if_neg (by decide), if_neg (by decide), if_pos rfl, b, cv_s]
/-- items that leave one thing more, of a sort, and go so deep -/
def wfx (xs : List Int) (b : Bool) (dp : Nat) : Prop := ∀ (s : List Bool) (ys : List Int) (r : List Bool), s.length + dp ≤ 32 → wf ys (b :: s) r → wf (xs ++ ys) s r
theorem wfx_mono {xs : List Int} {b : Bool} {dp dp' : Nat} (h : wfx xs b dp) (hd : dp ≤ dp') : wfx xs b dp' := fun s ys r hs hw => h s ys r (by omega) hw
theorem wfx_op {xs ys : List Int} {b c : Bool} {dp : Nat} {y : Int} (h1 : wfx xs b (dp + 1)) (h2 : wfx ys b dp) (hd : 1 ≤ dp) (hy : ∀ s, stp y (b :: b :: s) (c :: s)) : wfx (xs ++ ys ++ [y]) c (dp + 1) := fun s zs r hs hw => by
  rw [List.append_assoc, List.append_assoc]
  refine h1 s _ r hs ?_
  refine h2 (b :: s) _ r (by rw [List.length_cons]; omega) ?_
  exact ⟨c :: s, hy s, by rw [List.length_cons]; omega, hw⟩
/-- what comes of a piece that is read -/
def Ok (T : Tx) (G : Mem → Mem → Prop) (b : Bool) (dp w : Nat) (res : Option (Int × Mem)) (C D : Mem) (i : Nat) (code : List Int) (post : Mem → Nat → List Int → Prop) : Prop :=
  (∃ C' D' i' xs k, res = some (1, C') ∧ i < i' ∧ xs.length ≤ i' - i ∧ Cls T C' i' (code ++ xs) ∧ FC C C' ∧ Rc k D D' ∧ k + 2 ≤ 5 * (i' - i) ∧ G D D' ∧ wfx xs b dp ∧ post D' i' xs) ∨
  (∃ C' D' f p k, res = some (0, C') ∧ FC C C' ∧ C' 31 3 = f ∧ C' 31 4 = p ∧ Rc k D D' ∧ k + w ≤ 5 * (tN T + 2 - i) ∧ Er D' f p ∧ FD D D')
/-- a level's piece: beginning at a state, ending at another, leaving what waits by rank -/
def Sbs (T : Tx) (G : Mem → Mem → Prop) (b : Bool) (s0 s1 : Int) (o dp w pl : Nat) (rs : Int) (NX : Int → Prop) (fS : Mem → Option (Int × Mem)) : Prop :=
  ∀ (C D : Mem) (i : Nat) (code : List Int) (f0 : Int) (fr wo wq ord : List Int), Cls T C i code → Rf T D i s0 o (f0 :: fr) wo wq ord → (f0 ≠ 7 ∧ f0 ≠ 3 ∧ 0 ≤ f0 ∧ f0 ≤ 9) → (fr.length : Int) + 1 ≤ o + 1 + s0 → Stq wo wq (fr.length + 1) rs → (∀ b, b ∈ wq → 0 ≤ b ∧ b ≤ ((fr.length + 1 : Nat) : Int)) → wo.length + pl ≤ 2 * (fr.length + 1) → ord.length ≤ i →
    Ok T G b dp w (fS C) C D i code (fun D' i' xs => NX (tK T i') ∧ ∃ mp ord', Rf T D' i' s1 o (f0 :: fr) (pm mp ++ wo) (pf mp (fr.length + 1) ++ wq) ord' ∧ ord' ++ mp = ord ++ xs ∧ (∀ x, x ∈ mp → isOp x ∧ rs ≤ rk x) ∧ mp.length ≤ pl)
/-- the reference takes an operation of a level -/
def Ops (T : Tx) (G : Mem → Mem → Prop) (s0 s1 : Int) (o : Nat) (r : Int) (isK : Int → Prop) : Prop :=
  ∀ (D : Mem) (i : Nat) (f0 : Int) (fr wo wq ord pd : List Int), Rf T D i s1 o (f0 :: fr) (pm pd ++ wo) (pf pd (fr.length + 1) ++ wq) ord → isK (tK T i) → i < tN T → (0 ≤ f0 ∧ f0 ≤ 9) → fr.length + 1 ≤ 10 → Stq wo wq (fr.length + 1) r → (∀ x, x ∈ pd → isOp x ∧ r ≤ rk x) → pd.length + wo.length ≤ 40 → ord.length + pd.length ≤ 399 →
    ∃ D', Rc 1 D D' ∧ Rf T D' (i + 1) s0 o (f0 :: fr) (mo (-tK T i) :: wo) (((fr.length + 1 : Nat) : Int) :: wq) (ord ++ pd) ∧ G D D'
set_option maxHeartbeats 1000000 in
theorem loop_ok {T : Tx} {G : Mem → Mem → Prop} {b : Bool} {s0 s1 : Int} {o dp w pl : Nat} {r rs : Int} {NX isK : Int → Prop} {fL : Nat → Int → Int → Mem → Option (Int × Mem)} {lv : Int} (hG0 : ∀ D, G D D) (hG : ∀ {D D' D'' : Mem}, G D D' → G D' D'' → G D D'') (hGF : ∀ {D D' : Mem}, G D D' → FD D D') (ho : o ≤ 8) (hs0 : s0 ≤ 1) (hw : w ≤ 4) (hdp : 1 ≤ dp) (hpl : pl ≤ 1) (hrs : r < rs)
    (hK : ∀ k, isK k → isOp (-k) ∧ rk (-k) = r ∧ k ≠ 0 ∧ ∀ s, stp (-k) (b :: b :: s) (b :: s)) (hsg : ∀ k M, 0 ≤ k → k ≤ 32 → ∃ v, fn_X1_isSignOf lv k M = some v ∧ ((v = 1 ∧ isK k) ∨ (v = 0 ∧ ¬ isK k)))
    (hop : Ops T G s0 s1 o r isK) (hsub : Sbs T G b s0 s1 o dp w pl rs NX (fL 31 (lv + 1) o)) :
    Sbs T G b s0 s1 o (dp + 1) w (pl + 1) r (fun k => NX k ∧ ¬ isK k) (fun C => cl (fL 31 (lv + 1) o C) fun x27 M27 => cEq x27 0 (some (0, M27)) (lq2 (fn_X1_level_L37 fL 31 lv o) FU 0 M27)) := by
  intro C D i code f0 fr wo wq ord hC hR hf0 hfr hst hwq hwl hord
  have h300 := hC.1.1
  -- the loop
  have loop : ∀ (q : Nat) (C1 D1 : Mem) (i1 : Nat) (xs mp ap ord1 : List Int) (k1 j N : Nat), i1 + q = tN T → q < N → Cls T C1 i1 (code ++ xs) → FC C C1 → i < i1 → xs.length ≤ i1 - i → j ≤ i1 → Rc k1 D D1 → k1 + 2 ≤ 5 * (i1 - i) → G D D1 → NX (tK T i1) → wfx xs b (dp + 1) → Rf T D1 i1 s1 o (f0 :: fr) (pm (mp ++ ap) ++ wo) (pf (mp ++ ap) (fr.length + 1) ++ wq) ord1 → ord1 ++ (mp ++ ap) = ord ++ xs → (∀ x, x ∈ mp ++ ap → isOp x ∧ r ≤ rk x) → mp.length ≤ pl → ap.length ≤ 1 →
      Ok T G b (dp + 1) w (lq2 (fn_X1_level_L37 fL 31 lv o) N j C1) C D i code (fun D' i' xs => (NX (tK T i') ∧ ¬ isK (tK T i')) ∧ ∃ mp ord', Rf T D' i' s1 o (f0 :: fr) (pm mp ++ wo) (pf mp (fr.length + 1) ++ wq) ord' ∧ ord' ++ mp = ord ++ xs ∧ (∀ x, x ∈ mp → isOp x ∧ r ≤ rk x) ∧ mp.length ≤ pl + 1) := by
    intro q
    induction q using Nat.strongRecOn with
    | ind q ih =>
      intro C1 D1 i1 xs mp ap ord1 k1 j N hq hN hC1 hFC hi hxs hj hRc hk1 hG1 hNX hwf hR1 he hpd hmp hap
      obtain ⟨N, rfl⟩ : ∃ N', N = N' + 1 := ⟨N - 1, by omega⟩
      have hkr := tr_k hR1.1.2.2.2
      have hk7 : C1 37 7 = tK T i1 := hC1.2.1.2.1
      obtain ⟨v, v1, v2⟩ := hsg (tK T i1) C1 hkr.1 hkr.2
      have stop : ¬ isK (tK T i1) → Ok T G b (dp + 1) w (some ((1 : Int), C1)) C D i code (fun D' i' xs => (NX (tK T i') ∧ ¬ isK (tK T i')) ∧ ∃ mp ord', Rf T D' i' s1 o (f0 :: fr) (pm mp ++ wo) (pf mp (fr.length + 1) ++ wq) ord' ∧ ord' ++ mp = ord ++ xs ∧ (∀ x, x ∈ mp → isOp x ∧ r ≤ rk x) ∧ mp.length ≤ pl + 1) := fun hn =>
        Or.inl ⟨C1, D1, i1, xs, k1, rfl, hi, hxs, hC1, hFC, hRc, hk1, hG1, hwf, ⟨hNX, hn⟩, mp ++ ap, ord1, hR1, he, hpd, by rw [List.length_append]; omega⟩
      show Ok T G b (dp + 1) w (fn_X1_level_L37 fL 31 lv o (lq2 (fn_X1_level_L37 fL 31 lv o) N) j C1) C D i code _
      unfold fn_X1_level_L37
      simp only [Nat.reduceAdd]
      rw [hk7, v1, cu_s]
      rcases v2 with ⟨rfl, v2⟩ | ⟨rfl, v2⟩
      · -- one more
        obtain ⟨o1, o2, o3, o4⟩ := hK _ v2
        have hin : i1 < tN T := by
          by_cases h : i1 < tN T
          · exact h
          · exfalso
            have h9 := hC1.1.2.2.2.2.1
            have : i1 = tN T := by have := hC1.2.2.2.2.2; omega
            rw [this] at o3; exact o3 h9
        have hel : ord1.length + (mp ++ ap).length = ord.length + xs.length := by rw [← List.length_append, he, List.length_append]
        rw [cLt_if (by omega) (by omega) (by decide) (by decide), if_pos (by omega), cEq_if (by decide) (by decide) (by decide) (by decide), if_neg (by decide), nm_eq]
        obtain ⟨D2, r1, r2, r3⟩ := hop D1 i1 f0 fr wo wq ord1 (mp ++ ap) hR1 v2 hin ⟨hf0.2.2.1, hf0.2.2.2⟩ (by omega) hst hpd (by rw [List.length_append]; omega) (by omega)
        obtain ⟨C2, c1, c2, c3⟩ := c_next hC1 hin
        rw [c1, cv_s]
        rw [he] at r2
        have hs := hsub C2 D2 (i1 + 1) (code ++ xs) f0 fr (mo (-tK T i1) :: wo) (((fr.length + 1 : Nat) : Int) :: wq) (ord ++ xs) c2 r2 hf0 hfr (Or.inr (Or.inr ⟨_, wo, wq, rfl, rfl, o1, by omega⟩)) (fun b' hb' => by rcases List.mem_cons.mp hb' with h | h; rw [h]; omega; exact hwq b' h) (by rw [List.length_cons]; omega) (by rw [List.length_append]; omega)
        rcases hs with ⟨C3, D3, i3, ys, k3, a1, a2, a3, a4, a5, a6, a7, a8, a9, a10, mp3, ord3, a11, a12, a13, a14⟩ | ⟨C3, D3, f, p, k3, a1, a2, a3, a4, a5, a6, a7, a8⟩
        · obtain ⟨C4, p1, p2, p3⟩ := c_put (x := -tK T i1) a4 (by have := hC1.2.2.2.2.1; rw [List.length_append] at this ⊢; rw [List.length_append] at *; omega)
          rw [a1, cl_s, cEq_if (by decide) (by decide) (by decide) (by decide), if_neg (by decide), p1, cl_s, nm_eq, show (j : Int) + 1 = ((j + 1 : Nat) : Int) by omega]
          have hin3 := a4.2.2.2.2.2
          refine ih (tN T - i3) (by omega) C4 D3 i3 (xs ++ ys ++ [-tK T i1]) mp3 [-tK T i1] ord3 (k1 + (1 + k3)) (j + 1) N (by omega) (by omega) (by rw [show code ++ (xs ++ ys ++ [-tK T i1]) = code ++ xs ++ ys ++ [-tK T i1] by simp]; exact p2) (((hFC.tr c3).tr a5).tr p3) (by omega) (by simp only [List.length_append, List.length_singleton]; omega) (by omega) (hRc.tr (r1.tr a6)) (by omega) (hG (hG hG1 r3) a8) a10 (wfx_op hwf a9 hdp o4) ?_ ?_ ?_ a14 (by simp)
          · rw [show pm (mp3 ++ [-tK T i1]) ++ wo = pm mp3 ++ (mo (-tK T i1) :: wo) by unfold pm; simp, show pf (mp3 ++ [-tK T i1]) (fr.length + 1) ++ wq = pf mp3 (fr.length + 1) ++ (((fr.length + 1 : Nat) : Int) :: wq) by unfold pf; simp]; exact a11
          · rw [← List.append_assoc, a12]; simp
          · intro x hx
            rcases List.mem_append.mp hx with h | h
            · have := a13 x h; exact ⟨this.1, by omega⟩
            · rw [List.mem_singleton.mp h]; exact ⟨o1, by omega⟩
        · rw [a1, cl_s, cEq_if (by decide) (by decide) (by decide) (by decide), if_pos rfl]
          exact Or.inr ⟨C3, D3, f, p, k1 + (1 + k3), rfl, (hFC.tr c3).tr a2, a3, a4, hRc.tr (r1.tr a5), by omega, a7, ((hGF hG1).tr (hGF r3)).tr a8⟩
      · by_cases q3 : (j : Int) < 300
        · rw [cLt_if (by omega) (by omega) (by decide) (by decide), if_pos q3, cEq_if (by decide) (by decide) (by decide) (by decide), if_pos rfl]; exact stop v2
        · rw [cLt_if (by omega) (by omega) (by decide) (by decide), if_neg q3]; exact stop v2
  rcases hsub C D i code f0 fr wo wq ord hC hR hf0 hfr (by
      rcases hst with h | ⟨a, t, b', u, h1, h2, h3, h4⟩ | ⟨x, t, u, h1, h2, h3, h4⟩
      · exact Or.inl h
      · exact Or.inr (Or.inl ⟨a, t, b', u, h1, h2, h3, h4⟩)
      · exact Or.inr (Or.inr ⟨x, t, u, h1, h2, h3, by omega⟩)) hwq (by omega) hord with ⟨C3, D3, i3, ys, k3, a1, a2, a3, a4, a5, a6, a7, a8, a9, a10, mp3, ord3, a11, a12, a13, a14⟩ | ⟨C3, D3, f, p, k3, a1, a2, a3, a4, a5, a6, a7, a8⟩
  · show Ok T G b (dp + 1) w (cl (fL 31 (lv + 1) o C) _) C D i code _
    rw [a1, cl_s, cEq_if (by decide) (by decide) (by decide) (by decide), if_neg (by decide)]
    have hin3 := a4.2.2.2.2.2
    exact loop (tN T - i3) C3 D3 i3 ys mp3 [] ord3 k3 0 FU (by omega) (lt_FU (by omega)) a4 a5 a2 a3 (by omega) a6 a7 a8 a10 (wfx_mono a9 (by omega)) (by rw [List.append_nil]; exact a11) (by rw [List.append_nil]; exact a12) (fun x hx => by rw [List.append_nil] at hx; have := a13 x hx; exact ⟨this.1, by omega⟩) a14 (by simp)
  · show Ok T G b (dp + 1) w (cl (fL 31 (lv + 1) o C) _) C D i code _
    rw [a1, cl_s, cEq_if (by decide) (by decide) (by decide) (by decide), if_pos rfl]
    exact Or.inr ⟨C3, D3, f, p, k3, rfl, a2, a3, a4, a5, a6, a7, a8⟩
