/-! the class works a law out -/
def nmv (C : Mem) (h c i : Nat) : Int := if i = 0 then (h : Int) else if i = 1 then C 2 h else if i = 2 then (C 1 8).tmod 24 else if i = 3 then b2 (((C 1 8).tdiv 24).tmod 7 = C 1 9) else if i = 4 then C 4 c else if i = 5 then C 6 c else C 5 c
theorem nmv_ok {n : Nat} {C : Mem} {h c : Nat} (hn : n ≤ 6336) (hO : OkS 1 n C) (hh : (h : Int) < C 1 1) (hc : (c : Int) < C 1 7) : nok (nmv C h c) := by
  obtain ⟨kH, kN, kC, kT, kP⟩ := hO
  have h0 := kH.1; have h1 := kH.2 h hh
  have c1 := kC.2 c hc
  have hr := kN.1
  simp only [Nat.reduceAdd] at h1 c1
  have hW : Wt n ≤ 627764 := by unfold Wt; omega
  have hT : Tt n ≤ 6336 := by unfold Tt; omega
  intro i
  unfold nmv
  by_cases q0 : i = 0
  · rw [if_pos q0]; omega
  rw [if_neg q0]
  by_cases q1 : i = 1
  · rw [if_pos q1]; omega
  rw [if_neg q1]
  by_cases q2 : i = 2
  · rw [if_pos q2, Int.tmod_eq_emod_of_nonneg hr.1]; omega
  rw [if_neg q2]
  by_cases q3 : i = 3
  · rw [if_pos q3]; rcases b2_01 (((C 1 8).tdiv 24).tmod 7 = C 1 9) with h | h <;> omega
  rw [if_neg q3]
  by_cases q4 : i = 4
  · rw [if_pos q4]; omega
  rw [if_neg q4]
  by_cases q5 : i = 5
  · rw [if_pos q5]; omega
  rw [if_neg q5]; omega
theorem p_named {n : Nat} {C M : Mem} {h c i : Nat} (hO : OkS 1 n C) (hh : (h : Int) < C 1 1) (hc : (c : Int) < C 1 7) (hS : S3k C M) (hi : i < 7) : fn_X3_named (13 + (i : Int)) 1 h c M = some (nmv C h c i) := by
  obtain ⟨kH, kN, kC, kT, kP⟩ := hO
  have h0 := kH.1
  have c0 := kC.1
  have hr := kN.1
  have hm := kN.2.1
  have e : ∀ k j, k < 63 → M k j = C k j := fun k j hk => hS k j (by omega) (by omega)
  have s1 : R3 (h : Int) := ⟨by omega, by omega⟩
  have s2 : R3 (c : Int) := ⟨by omega, by omega⟩
  have s3 : R3 (13 + (i : Int)) := ⟨by omega, by omega⟩
  have td : ((C 1 8).tdiv 24) = C 1 8 / 24 := Int.tdiv_eq_ediv_of_nonneg hr.1
  unfold fn_X3_named fn_X4_isMarketDay
  simp (disch := omega) only [p_isHand (t := 1) (M := M) s1 (by rw [e _ _ (by omega)]; exact h0.1) (by rw [e _ _ (by omega)]; exact h0.2), p_isCoin (t := 1) (M := M) s2 (by rw [e _ _ (by omega)]; exact c0.1) (by rw [e _ _ (by omega)]; exact c0.2), cu_s, cE_b2, e, if_pos, ck_t s3, Nat.reduceAdd]
  unfold nmv
  by_cases q0 : i = 0
  · simp (disch := omega) only [if_pos]
  by_cases q1 : i = 1
  · simp (disch := omega) only [if_pos, if_neg, rd_eq, e, Int.toNat_natCast]
  by_cases q2 : i = 2
  · simp (disch := omega) only [if_pos, if_neg, ck_R330]
  by_cases q3 : i = 3
  · simp (disch := omega) only [if_pos, if_neg, ck_R330, td]
    rw [cEq_if (by rw [Int.tmod_eq_emod_of_nonneg (by omega)]; omega) (by rw [Int.tmod_eq_emod_of_nonneg (by omega)]; omega) (by omega) (by omega)]
    by_cases g : (C 1 8 / 24).tmod 7 = C 1 9
    · rw [if_pos g, cu_s, b2_t g]; rfl
    · rw [if_neg g, cu_s, b2_f g]; rfl
  by_cases q4 : i = 4
  · simp (disch := omega) only [if_pos, if_neg, rd_eq, e, Int.toNat_natCast]
  by_cases q5 : i = 5
  · simp (disch := omega) only [if_pos, if_neg, rd_eq, e, Int.toNat_natCast]
  · simp (disch := omega) only [if_pos, if_neg, rd_eq, e, Int.toNat_natCast]
theorem bnd_id {v : Int} (h1 : -1000000 ≤ v) (h2 : v ≤ 1000000) : bnd v = v := by unfold bnd; omega
theorem mul_in {a b : Int} (h1 : -1000000 ≤ a ∧ a ≤ 1000000) (h2 : -1000000 ≤ b ∧ b ≤ 1000000) : -1000000000000 ≤ a * b ∧ a * b ≤ 1000000000000 := by
  have h : (a * b).natAbs ≤ 1000000 * 1000000 := by
    rw [Int.natAbs_mul]; exact Nat.mul_le_mul (by omega) (by omega)
  omega
theorem p_isSo {x a b : Int} {M : Mem} (h1 : -1000000 ≤ a ∧ a ≤ 1000000) (h2 : -1000000 ≤ b ∧ b ≤ 1000000) (hx : (-25 ≤ x ∧ x ≤ -20) ∨ x = -11 ∨ x = -10) : fn_X3_isSo (-x) a b M = some (bop x a b) := by
  unfold fn_X3_isSo fn_X3_isSo_J172 fn_X3_isSo_J88 fn_X3_isSo_J110 bop
  simp (disch := omega) only [ck_R3, dEq_if, dLt_if]
  by_cases q1 : x = -20
  · simp (disch := omega) only [if_pos, if_neg]; by_cases g : a < b
    · rw [if_pos g, b2_t g]
    · rw [if_neg g, b2_f g]
  by_cases q2 : x = -21
  · simp (disch := omega) only [if_pos, if_neg]; by_cases g : a ≤ b
    · rw [if_neg (by omega), b2_t g]
    · rw [if_pos (by omega), b2_f g]
  by_cases q3 : x = -22
  · simp (disch := omega) only [if_pos, if_neg]; by_cases g : b < a
    · rw [if_pos g, b2_t g]
    · rw [if_neg g, b2_f g]
  by_cases q4 : x = -23
  · simp (disch := omega) only [if_pos, if_neg]; by_cases g : b ≤ a
    · rw [if_neg (by omega), b2_t g]
    · rw [if_pos (by omega), b2_f g]
  by_cases q5 : x = -24
  · simp (disch := omega) only [if_pos, if_neg]; by_cases g : a = b
    · rw [if_pos g, b2_t g]
    · rw [if_neg g, b2_f g]
  by_cases q6 : x = -25
  · simp (disch := omega) only [if_pos, if_neg]; by_cases g : a = b
    · rw [if_pos g, b2_f (by omega)]
    · rw [if_neg g, b2_t g]
  by_cases q7 : x = -11
  · simp (disch := omega) only [if_pos, if_neg]; by_cases g : a = 0
    · rw [if_pos g, b2_f (by omega)]
    · by_cases g2 : b = 0
      · rw [if_neg g, if_pos g2, b2_f (by omega)]
      · rw [if_neg g, if_neg g2, b2_t (by omega)]
  · simp (disch := omega) only [if_pos, if_neg]; by_cases g : a = 0
    · by_cases g2 : b = 0
      · rw [if_pos g, if_pos g2, b2_f (by omega)]
      · rw [if_pos g, if_neg g2, b2_t (by omega)]
    · rw [if_neg g, b2_t (by omega)]
theorem p_reck {x a b : Int} {M : Mem} (h1 : -1000000 ≤ a ∧ a ≤ 1000000) (h2 : -1000000 ≤ b ∧ b ≤ 1000000) (hx : -29 ≤ x ∧ x ≤ -26) : ∃ v, fn_X3_reckoned (-x) a b M = some v ∧ bnd v = bop x a b ∧ -1000000000000 ≤ v ∧ v ≤ 1000000000000 := by
  unfold fn_X3_reckoned bop
  have hm := mul_in h1 h2
  rw [ck_R3 (by omega) (by omega)]
  by_cases q1 : x = -26
  · rw [if_pos q1, if_pos (by omega)]; exact ⟨_, rfl, rfl, by omega, by omega⟩
  by_cases q2 : x = -27
  · rw [if_neg q1, if_pos q2, if_neg (by omega), if_pos (by omega)]; exact ⟨_, rfl, rfl, by omega, by omega⟩
  by_cases q3 : x = -28
  · rw [if_neg q1, if_neg q2, if_pos q3, if_neg (by omega), if_neg (by omega), if_pos (by omega)]; exact ⟨_, rfl, rfl, by omega, by omega⟩
  · rw [if_neg (show ¬ (-x = 26) by omega), if_neg (show ¬ (-x = 27) by omega), if_neg (show ¬ (-x = 28) by omega), if_neg q1, if_neg q2, if_neg q3, if_pos (show x = -29 by omega), dEq_if (by omega) (by omega) (by decide) (by decide)]
    by_cases g : b = 0
    · simp only [if_pos g]; exact ⟨_, rfl, rfl, by omega, by omega⟩
    · simp only [if_neg g, ck_t (show R6 a ∧ R6 b ∧ b ≠ 0 from ⟨⟨by omega, by omega⟩, ⟨by omega, by omega⟩, g⟩)]
      have := tdiv_in (b := b) h1.1 h1.2
      exact ⟨_, rfl, bnd_id this.1 this.2, by omega, by omega⟩
theorem p_work1 {M : Mem} {a : Int} {t : List Int} {x : Int} (h : StC M (a :: t)) (hl : t.length < 32) (h1 : -1000000 ≤ a ∧ a ≤ 1000000) (hx : x = -33) : ∃ M', fn_X3_work 63 (-x) M = some M' ∧ StC M' (-a :: t) ∧ S3k M M' := by
  obtain ⟨M1, e1, e2, e3⟩ := p_spop h hl
  obtain ⟨M2, f1, f2, f3⟩ := p_spush (v := -a) e2 hl (by omega) (by omega)
  rw [bnd_id (by omega) (by omega)] at f2
  refine ⟨M2, ?_, f2, e3.tr f3⟩
  unfold fn_X3_work
  simp (disch := omega) only [e1, cl_s, ck_R3, cEq_if, if_pos, f1, cv_s]
theorem p_work2 {M : Mem} {a : Int} {t : List Int} {x : Int} (h : StC M (a :: t)) (hl : t.length < 32) (h1 : a = 0 ∨ a = 1) (hx : x = -12) : ∃ M', fn_X3_work 63 (-x) M = some M' ∧ StC M' (b2 (a = 0) :: t) ∧ S3k M M' := by
  obtain ⟨M1, e1, e2, e3⟩ := p_spop h hl
  have hb := b2_01 (a = 0)
  obtain ⟨M2, f1, f2, f3⟩ := p_spush (v := b2 (a = 0)) e2 hl (by omega) (by omega)
  rw [bnd_id (by omega) (by omega)] at f2
  refine ⟨M2, ?_, f2, e3.tr f3⟩
  unfold fn_X3_work fn_X3_work_J37
  simp (disch := omega) only [e1, cl_s, ck_R3, cEq_if, if_pos, if_neg, dEq_if]
  by_cases g : a = 0
  · rw [if_pos g]; rw [b2_t g] at f1; rw [f1, cv_s]
  · rw [if_neg g]; rw [b2_f g] at f1; rw [f1, cv_s]
theorem p_work3 {M : Mem} {a b : Int} {u : List Int} {x : Int} (h : StC M (b :: a :: u)) (hl : u.length < 31) (h1 : -1000000 ≤ a ∧ a ≤ 1000000) (h2 : -1000000 ≤ b ∧ b ≤ 1000000) (hx : (-29 ≤ x ∧ x ≤ -20) ∨ x = -11 ∨ x = -10) : ∃ M', fn_X3_work 63 (-x) M = some M' ∧ StC M' (bop x a b :: u) ∧ S3k M M' := by
  obtain ⟨M1, e1, e2, e3⟩ := p_spop h (by rw [List.length_cons]; omega)
  obtain ⟨M2, g1, g2, g3⟩ := p_spop e2 (by omega)
  unfold fn_X3_work fn_X3_work_J89
  simp (disch := omega) only [e1, cl_s, ck_R3, cEq_if (x := -x), if_neg, g1, p_isWithin (x := -x) (a := 26) (b := 29) ⟨by omega, by omega⟩ ⟨by decide, by decide⟩ ⟨by decide, by decide⟩, cu_s, cE_b2]
  by_cases g : 26 ≤ -x ∧ -x ≤ 29
  · rw [if_pos g]
    obtain ⟨v, r1, r2, r3, r4⟩ := p_reck (x := x) (M := M2) h1 h2 (by omega)
    obtain ⟨M3, f1, f2, f3⟩ := p_spush (v := v) g2 (by omega) (by omega) (by omega)
    rw [r2] at f2
    simp only [r1, cu_s, f1, cv_s]
    exact ⟨M3, rfl, f2, (e3.tr g3).tr f3⟩
  · rw [if_neg g, p_isSo h1 h2 (by omega), cu_s]
    have hb := bop_ok2 (x := x) (a := a) (b := b) (by omega)
    obtain ⟨M3, f1, f2, f3⟩ := p_spush (v := bop x a b) g2 (by omega) (by have := hb.1; omega) (by have := hb.1; omega)
    rw [bnd_id hb.1.1 hb.1.2] at f2
    refine ⟨M3, ?_, f2, (e3.tr g3).tr f3⟩
    rcases hb.2 rfl with hq | hq
    · rw [hq] at f1 ⊢; rw [cEq_if (by decide) (by decide) (by decide) (by decide), if_pos rfl, f1, cv_s]
    · rw [hq] at f1 ⊢; rw [cEq_if (by decide) (by decide) (by decide) (by decide), if_neg (by decide), f1, cv_s]
def Cd (M : Mem) (c : Nat) : Nat → List Int → Prop
  | _, [] => True
  | p, x :: xs => M c p = x ∧ Cd M c (p + 1) xs
theorem p_worthL {n : Nat} {C : Mem} {h c r : Nat} {bt : Bool} (hn : n ≤ 6336) (hO : OkS 1 n C) (hh : (h : Int) < C 1 1) (hc : (c : Int) < C 1 7) (hr : r + 1 < 63) {to : Nat} (hto : to ≤ 300) :
    ∀ (xs : List Int) (N p : Nat) (M : Mem) (s : List Int) (bs : List Bool), xs.length < N → p + xs.length = to → Cd C (r + 1) p xs → S3k C M → StC M s → sok bs s → bs.length ≤ 32 → wf xs bs [bt] →
      ∃ v M', lq2 (fn_X3_worth_L12 63 r to 1 h c) N p M = some (v, M') ∧ run (nmv C h c) xs s = [v] ∧ vok bt v ∧ S3k C M' := by
  have hnk := nmv_ok hn hO hh hc
  have h0 := hO.1.1
  have c0 := hO.2.2.1.1
  intro xs
  induction xs with
  | nil =>
    intro N p M s bs hN hp _ hS hst hs _ hw
    obtain ⟨N, rfl⟩ : ∃ N', N = N' + 1 := ⟨N - 1, by omega⟩
    rw [show bs = [bt] from hw] at hs
    obtain ⟨v, t, rfl, hv, ht⟩ := hs
    obtain rfl : t = [] := ht
    obtain ⟨M1, e1, e2, e3⟩ := p_spop hst (by decide)
    refine ⟨v, M1, ?_, rfl, hv, hS.tr e3⟩
    show fn_X3_worth_L12 63 r to 1 h c _ p M = _
    rw [List.length_nil] at hp
    unfold fn_X3_worth_L12 fn_X3_worth_J96
    simp (disch := omega) only [cLt_if (x := (p : Int)) (y := (to : Int)), if_neg, e1, cl_s]
  | cons x xs ih =>
    intro N p M s bs hN hp hC hS hst hs hbl hw
    obtain ⟨N, rfl⟩ : ∃ N', N = N' + 1 := ⟨N - 1, by omega⟩
    obtain ⟨bs', hx, hb32, hw⟩ := hw
    obtain ⟨hs', hcase⟩ := sem_cases hnk hx hs
    have ln := sok_len _ _ hs
    have ln' := sok_len _ _ hs'
    rw [List.length_cons] at hp hN
    have key : ∀ M', S3k M M' → StC M' (sem (nmv C h c) x s) → ∃ v M'', lq2 (fn_X3_worth_L12 63 r to 1 h c) N ((p + 1 : Nat) : Int) M' = some (v, M'') ∧ run (nmv C h c) (x :: xs) s = [v] ∧ vok bt v ∧ S3k C M'' := fun M' hM hst' => ih N (p + 1) M' _ bs' (by omega) (by omega) hC.2 (hS.tr hM) hst' hs' hb32 hw
    have hxr : x = M (r + 1) p := by rw [hS _ _ (by omega) (by omega)]; exact hC.1.symm
    show ∃ v M', fn_X3_worth_L12 63 r to 1 h c (lq2 (fn_X3_worth_L12 63 r to 1 h c) N) p M = some (v, M') ∧ _
    unfold fn_X3_worth_L12 fn_X3_worth_J90
    have ep : (p : Int) + 1 = ((p + 1 : Nat) : Int) := by omega
    have hx3 : -33 ≤ x ∧ x ≤ 9999 := by rcases hx with h | h | h | h | h | h | h <;> omega
    simp (disch := omega) only [cLt_if (x := (p : Int)), if_pos, rd_eq, Int.toNat_natCast, ← hxr, cLt_if (x := x), nm_eq, ep, ck_R3]
    rcases hcase with ⟨q1, q2, q3⟩ | ⟨q1, q2, q3⟩ | ⟨a, t, rfl, q1, q2, q3⟩ | ⟨a, t, rfl, q1, q2, q3⟩ | ⟨a, b, u, rfl, q1, q2, q4, q3⟩
    · rw [if_neg (by omega)]
      obtain ⟨M1, e1, e2, e3⟩ := p_spush (v := x) hst (by rw [q3, List.length_cons] at ln'; omega) (by omega) (by omega)
      rw [e1, cv_s]
      exact key M1 e3 (by rw [q3]; rwa [bnd_id (by omega) (by omega)] at e2)
    · rw [if_pos (by omega), p_isWithin (a := 13) (b := 19) ⟨by omega, by omega⟩ ⟨by decide, by decide⟩ ⟨by decide, by decide⟩, cu_s, cE_b2, if_pos (by omega)]
      have e0 : fn_X3_named (-x) 1 h c M = some (nmv C h c (-13 - x).toNat) := by
        have := p_named (i := (-13 - x).toNat) hO hh hc hS (by omega)
        rwa [show (13 + (((-13 - x).toNat : Nat) : Int)) = -x by omega] at this
      have hk := hnk (-13 - x).toNat
      rw [e0, cu_s, ck_R3 (by omega) (by omega)]
      obtain ⟨M1, e1, e2, e3⟩ := p_spush (v := nmv C h c (-13 - x).toNat) hst (by rw [q3, List.length_cons] at ln'; omega) (by omega) (by omega)
      rw [e1, cv_s]
      exact key M1 e3 (by rw [q3]; rwa [bnd_id (by omega) (by omega)] at e2)
    · rw [if_pos (by omega), p_isWithin (a := 13) (b := 19) ⟨by omega, by omega⟩ ⟨by decide, by decide⟩ ⟨by decide, by decide⟩, cu_s, cE_b2, if_neg (by omega)]
      obtain ⟨M1, e1, e2, e3⟩ := p_work1 hst (by rw [List.length_cons] at ln; omega) q2 q1
      rw [e1, cv_s]
      exact key M1 e3 (by rw [q3]; exact e2)
    · rw [if_pos (by omega), p_isWithin (a := 13) (b := 19) ⟨by omega, by omega⟩ ⟨by decide, by decide⟩ ⟨by decide, by decide⟩, cu_s, cE_b2, if_neg (by omega)]
      obtain ⟨M1, e1, e2, e3⟩ := p_work2 hst (by rw [List.length_cons] at ln; omega) q2 q1
      rw [e1, cv_s]
      exact key M1 e3 (by rw [q3]; exact e2)
    · rw [if_pos (by omega), p_isWithin (a := 13) (b := 19) ⟨by omega, by omega⟩ ⟨by decide, by decide⟩ ⟨by decide, by decide⟩, cu_s, cE_b2, if_neg (by omega)]
      obtain ⟨M1, e1, e2, e3⟩ := p_work3 (x := x) hst (by rw [List.length_cons, List.length_cons] at ln; omega) q1 q2 (by omega)
      rw [e1, cv_s]
      exact key M1 e3 (by rw [q3]; exact e2)
theorem p_worth {n : Nat} {C M : Mem} {h c r : Nat} {bt : Bool} (hn : n ≤ 6336) (hO : OkS 1 n C) (hh : (h : Int) < C 1 1) (hc : (c : Int) < C 1 7) (hr : r + 1 < 63) {fr to : Nat} {xs : List Int} (hto : to ≤ 300) (hl : fr + xs.length = to) (hC : Cd C (r + 1) fr xs) (hw : wf xs [] [bt]) (hS : S3k C M) :
    ∃ v M', fn_X3_worth 63 r fr to 1 h c M = some (v, M') ∧ run (nmv C h c) xs [] = [v] ∧ vok bt v ∧ S3k C M' := by
  unfold fn_X3_worth
  rw [st_eq, ck_R33 (by omega) (by omega) (by decide) (by decide), nm_eq, show max (fr : Int) 0 = (fr : Int) by omega]
  exact p_worthL hn hO hh hc hr hto xs FU fr (up M 63 1 0) [] [] (lt_FU (by omega)) hl hC hS.a ⟨by rw [up_i, if_pos rfl]; rfl, trivial⟩ rfl (by decide) hw
