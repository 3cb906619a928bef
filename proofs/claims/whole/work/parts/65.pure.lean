/-! the reference works a law out -/
def Od (M : Mem) : Nat → List Int → Prop
  | p, [] => M 80 p = 408
  | p, x :: xs => M 80 p = mo x ∧ M 81 p = mv x ∧ Od M (p + 1) xs
def S93 (D D' : Mem) : Prop := ∀ k i, k ≠ 93 → D' k i = D k i
theorem S93.rf {D : Mem} : S93 D D := fun _ _ _ => rfl
theorem S93.tr {D D' D'' : Mem} (h : S93 D D') (h' : S93 D' D'') : S93 D D'' := fun k i a => (h' k i a).trans (h k i a)
theorem S93.a {D D' : Mem} {i : Nat} {v : Int} (h : S93 D D') : S93 D (up D' 93 i v) := fun k j a => by rw [up_o a]; exact h k j a
theorem q_bound {v : Int} {M : Mem} (h1 : -9000000000000000000 ≤ v) (h2 : v ≤ 9000000000000000000) : fn_X11_bound v M = some (bnd v) := by
  unfold fn_X11_bound bnd
  rw [dLt_if (by decide) (by decide) (by omega) (by omega), dLt_if (by omega) (by omega) (by decide) (by decide)]
  by_cases g : 1000000 < v
  · rw [if_pos g]; congr 1; omega
  · rw [if_neg g]
    by_cases g2 : v < -1000000
    · rw [if_pos g2]; congr 1; omega
    · rw [if_neg g2]; congr 1; omega
theorem q_worked {x a b : Int} {M : Mem} (h1 : -1000000 ≤ a ∧ a ≤ 1000000) (h2 : -1000000 ≤ b ∧ b ≤ 1000000) (hx : (-29 ≤ x ∧ x ≤ -20) ∨ ((x = -11 ∨ x = -10) ∧ (a = 0 ∨ a = 1) ∧ (b = 0 ∨ b = 1))) : fn_X11_worked (mo x) a b M = some (bop x a b) := by
  have hm := mul_in h1 h2
  have hall : x = -26 ∨ x = -27 ∨ x = -28 ∨ x = -29 ∨ x = -20 ∨ x = -21 ∨ x = -22 ∨ x = -23 ∨ x = -24 ∨ x = -25 ∨ (x = -11 ∧ (a = 0 ∨ a = 1) ∧ (b = 0 ∨ b = 1)) ∨ (x = -10 ∧ (a = 0 ∨ a = 1) ∧ (b = 0 ∨ b = 1)) := by omega
  unfold fn_X11_worked
  rcases hall with rfl | rfl | rfl | rfl | rfl | rfl | rfl | rfl | rfl | rfl | ⟨rfl, ha, hb⟩ | ⟨rfl, ha, hb⟩
  · show ck (R3 43) (cu (fn_X11_bound (a + b) M) fun x => some x) = some (bnd (a + b))
    rw [ck_R3 (by decide) (by decide), q_bound (by omega) (by omega), cu_s]
  · show ck (R3 45) (cu (fn_X11_bound (a - b) M) fun x => some x) = some (bnd (a - b))
    rw [ck_R3 (by decide) (by decide), q_bound (by omega) (by omega), cu_s]
  · show ck (R3 42) (cu (fn_X11_bound (a * b) M) fun x => some x) = some (bnd (a * b))
    rw [ck_R3 (by decide) (by decide), q_bound (by omega) (by omega), cu_s]
  · show ck (R3 47) (dEq b 0 (some 0) (ck (R6 a ∧ R6 b ∧ b ≠ (0 : Int)) <| some (a.tdiv b))) = some (if b = 0 then 0 else a.tdiv b)
    rw [ck_R3 (by decide) (by decide), dEq_if (by omega) (by omega) (by decide) (by decide)]
    by_cases g : b = 0
    · rw [if_pos g, if_pos g]
    · rw [if_neg g, if_neg g, ck_t ⟨⟨by omega, by omega⟩, ⟨by omega, by omega⟩, g⟩]
  · show ck (R3 60) (dLt a b (some 1) (some 0)) = some (b2 (a < b))
    rw [ck_R3 (by decide) (by decide), dLt_if (by omega) (by omega) (by omega) (by omega)]
    by_cases g : a < b
    · rw [if_pos g, b2_t g]
    · rw [if_neg g, b2_f g]
  · show ck (R3 300) (dLt b a (some 0) (some 1)) = some (b2 (a ≤ b))
    rw [ck_R3 (by decide) (by decide), dLt_if (by omega) (by omega) (by omega) (by omega)]
    by_cases g : a ≤ b
    · rw [if_neg (by omega), b2_t g]
    · rw [if_pos (by omega), b2_f g]
  · show ck (R3 62) (dLt b a (some 1) (some 0)) = some (b2 (b < a))
    rw [ck_R3 (by decide) (by decide), dLt_if (by omega) (by omega) (by omega) (by omega)]
    by_cases g : b < a
    · rw [if_pos g, b2_t g]
    · rw [if_neg g, b2_f g]
  · show ck (R3 301) (dLt a b (some 0) (some 1)) = some (b2 (b ≤ a))
    rw [ck_R3 (by decide) (by decide), dLt_if (by omega) (by omega) (by omega) (by omega)]
    by_cases g : b ≤ a
    · rw [if_neg (by omega), b2_t g]
    · rw [if_pos (by omega), b2_f g]
  · show ck (R3 61) (dEq a b (some 1) (some 0)) = some (b2 (a = b))
    rw [ck_R3 (by decide) (by decide), dEq_if (by omega) (by omega) (by omega) (by omega)]
    by_cases g : a = b
    · rw [if_pos g, b2_t g]
    · rw [if_neg g, b2_f g]
  · show ck (R3 35) (dEq a b (some 0) (some 1)) = some (b2 (a ≠ b))
    rw [ck_R3 (by decide) (by decide), dEq_if (by omega) (by omega) (by omega) (by omega)]
    by_cases g : a = b
    · rw [if_pos g, b2_f (by omega)]
    · rw [if_neg g, b2_t g]
  · show ck (R3 406) (some (a * b)) = some (b2 (a ≠ 0 ∧ b ≠ 0))
    rw [ck_R3 (by decide) (by decide)]
    rcases ha with rfl | rfl <;> rcases hb with rfl | rfl <;> rfl
  · show ck (R3 407) (dLt 0 (a + b) (some 1) (some 0)) = some (b2 (a ≠ 0 ∨ b ≠ 0))
    rw [ck_R3 (by decide) (by decide), dLt_if (by decide) (by decide) (by omega) (by omega)]
    rcases ha with rfl | rfl <;> rcases hb with rfl | rfl <;> rfl
set_option maxRecDepth 8192 in
theorem q_saysL {D : Mem} {nm : Nat → Int} {bt : Bool} (hnk : nok nm) (hnm : ∀ i, i < 7 → D 92 i = nm i) :
    ∀ (xs : List Int) (N p : Nat) (M : Mem) (s : List Int) (bs : List Bool), xs.length < N → p + xs.length < 1600 → Od D p xs → S93 D M → Sk M 93 s → sok bs s → bs.length ≤ 32 → wf xs bs [bt] →
      ∃ v M', lq3 (fn_X11_saysOf_L4 71) N p s.length M = some (v, M') ∧ run nm xs s = [v] ∧ S93 D M' := by
  intro xs
  induction xs with
  | nil =>
    intro N p M s bs hN hp hO hS hst hs _ hw
    obtain ⟨N, rfl⟩ : ∃ N', N = N' + 1 := ⟨N - 1, by omega⟩
    rw [show bs = [bt] from hw] at hs
    obtain ⟨v, t, rfl, hv, ht⟩ := hs
    obtain rfl : t = [] := ht
    rw [List.length_nil] at hp
    refine ⟨v, M, ?_, rfl, hS⟩
    show fn_X11_saysOf_L4 71 _ p _ M = _
    have e : M 80 p = 408 := by rw [hS _ _ (by decide)]; exact hO
    unfold fn_X11_saysOf_L4
    simp (disch := omega) only [rd_eq, Nat.reduceAdd, Int.toNat_natCast, e, cEq_if (x := 408) (y := 408), if_true, Int.reduceToNat]
    rw [show M 93 0 = v from hst.1]
  | cons x xs ih =>
    intro N p M s bs hN hp hO hS hst hs hbl hw
    obtain ⟨N, rfl⟩ : ∃ N', N = N' + 1 := ⟨N - 1, by omega⟩
    obtain ⟨bs', hx, hb32, hw⟩ := hw
    obtain ⟨hs', hcase⟩ := sem_cases hnk hx hs
    have ln := sok_len _ _ hs
    have ln' := sok_len _ _ hs'
    rw [List.length_cons] at hp hN
    have e : M 80 p = mo x := by rw [hS _ _ (by decide)]; exact hO.1
    have e' : M 81 p = mv x := by rw [hS _ _ (by decide)]; exact hO.2.1
    have key : ∀ M' (m : Int), S93 M M' → Sk M' 93 (sem nm x s) → m = ((sem nm x s).length : Int) → ∃ v M'', lq3 (fn_X11_saysOf_L4 71) N ((p : Int) + 1) m M' = some (v, M'') ∧ run nm (x :: xs) s = [v] ∧ S93 D M'' := fun M' m hM hst' hm => by
      rw [hm, show (p : Int) + 1 = ((p + 1 : Nat) : Int) by omega]
      exact ih N (p + 1) M' _ bs' (by omega) (by omega) hO.2.2 (hS.tr hM) hst' hs' hb32 hw
    show ∃ v M', fn_X11_saysOf_L4 71 (lq3 (fn_X11_saysOf_L4 71) N) p s.length M = some (v, M') ∧ _
    unfold fn_X11_saysOf_L4 fn_X11_saysOf_J40 fn_X11_saysOf_J75 fn_X11_saysOf_J169
    have hx3 : -33 ≤ x ∧ x ≤ 9999 := by rcases hx with h | h | h | h | h | h | h <;> omega
    simp (disch := omega) only [rd_eq (k := 71 + 9), rd_eq (k := 71 + 10), Nat.reduceAdd, Int.toNat_natCast, e, e', nm_eq]
    have hcase2 := hcase
    clear hcase
    rcases hcase2 with ⟨q1, q2, q3⟩ | ⟨q1, q2, q3⟩ | ⟨a, t, rfl, q1, q2, q3⟩ | ⟨a, t, rfl, q1, q2, q3⟩ | ⟨a, b, u, rfl, q1, q2, q4, q3⟩
    · have m1 : mo x = 400 := by unfold mo; rw [if_pos q1]
      have m2 : mv x = x := by unfold mv; rw [if_pos q1]
      rw [m1, m2]
      simp (disch := omega) only [cEq_if (x := 400), if_neg, if_pos, if_true, ck_R3, wr_eq, Int.toNat_natCast]
      refine key _ _ S93.rf.a ?_ ?_
      · rw [q3]; exact ⟨by rw [up_i, if_pos rfl], Sk_up hst (Nat.le_refl _)⟩
      · rw [q3, List.length_cons]; omega
    · have m1 : mo x = 401 := by unfold mo; rw [if_neg (by omega), if_pos ⟨q1, q2⟩]
      have m2 : mv x = -13 - x := by unfold mv; rw [if_neg (by omega), if_pos ⟨q1, q2⟩]
      have m3 : M 92 (-13 - x).toNat = nm (-13 - x).toNat := by rw [hS _ _ (by decide)]; exact hnm _ (by omega)
      have hk := hnk (-13 - x).toNat
      rw [m1, m2]
      simp (disch := omega) only [cEq_if (x := 401), if_neg, if_pos, if_true, rd_eq, m3, ck_R3, wr_eq, Int.toNat_natCast]
      refine key _ _ S93.rf.a ?_ ?_
      · rw [q3]; exact ⟨by rw [up_i, if_pos rfl], Sk_up hst (Nat.le_refl _)⟩
      · rw [q3, List.length_cons]; omega
    · subst q1
      rw [show mo (-33) = 402 from rfl]
      rw [List.length_cons] at ln ⊢
      have z : (((t.length + 1 : Nat) : Int) - 1).toNat = t.length := by omega
      simp (disch := omega) only [cEq_if (x := 402), if_neg, if_pos, if_true, rd_eq, wr_eq, z, hst.1]
      refine key _ _ S93.rf.a ?_ ?_
      · rw [q3]; exact ⟨by rw [up_i, if_pos rfl], Sk_up hst.2 (Nat.le_refl _)⟩
      · rw [q3, List.length_cons]
    · subst q1
      rw [show mo (-12) = 405 from rfl]
      rw [List.length_cons] at ln ⊢
      have z : (((t.length + 1 : Nat) : Int) - 1).toNat = t.length := by omega
      simp (disch := omega) only [cEq_if (x := 405), if_neg, if_pos, if_true, rd_eq, wr_eq, z, hst.1]
      refine key _ _ S93.rf.a ?_ ?_
      · rw [q3]; exact ⟨by rw [up_i, if_pos rfl]; rcases q2 with rfl | rfl <;> rfl, Sk_up hst.2 (Nat.le_refl _)⟩
      · rw [q3, List.length_cons]
    · rw [List.length_cons, List.length_cons] at ln ⊢
      have mr : (mo x = 35 ∨ mo x = 42 ∨ mo x = 43 ∨ mo x = 45 ∨ mo x = 47 ∨ mo x = 60 ∨ mo x = 61 ∨ mo x = 62 ∨ mo x = 300 ∨ mo x = 301 ∨ mo x = 406 ∨ mo x = 407) := by
        have hall : x = -26 ∨ x = -27 ∨ x = -28 ∨ x = -29 ∨ x = -20 ∨ x = -21 ∨ x = -22 ∨ x = -23 ∨ x = -24 ∨ x = -25 ∨ x = -11 ∨ x = -10 := by omega
        rcases hall with rfl | rfl | rfl | rfl | rfl | rfl | rfl | rfl | rfl | rfl | rfl | rfl <;> decide
      have z1 : (((u.length + 1 + 1 : Nat) : Int) + -1 - 1).toNat = u.length := by omega
      have z2 : (((u.length + 1 + 1 : Nat) : Int) + -1).toNat = u.length + 1 := by omega
      have w1 : M 93 (u.length + 1) = b := hst.1
      have w2 : M 93 u.length = a := hst.2.1
      have m0 : -2147483648 ≤ mo x ∧ mo x ≤ 2147483647 := by omega
      have m1 : mo x ≠ 408 ∧ mo x ≠ 400 ∧ mo x ≠ 401 ∧ mo x ≠ 402 ∧ mo x ≠ 405 := by omega
      have hq := q_worked (M := M) q1 q2 q4
      clear mr
      rw [cEq_if m0.1 m0.2 (by decide) (by decide), if_neg m1.1, cEq_if m0.1 m0.2 (by decide) (by decide), if_neg m1.2.1, cEq_if m0.1 m0.2 (by decide) (by decide), if_neg m1.2.2.1, cEq_if m0.1 m0.2 (by decide) (by decide), if_neg m1.2.2.2.1, cEq_if m0.1 m0.2 (by decide) (by decide), if_neg m1.2.2.2.2]
      rw [rd_eq (by omega) (by omega), z1, w2, rd_eq (by omega) (by omega), z2, w1, hq, cu_s, wr_eq (by omega) (by omega), z1]
      refine key _ _ S93.rf.a ?_ ?_
      · rw [q3]; exact ⟨by rw [up_i, if_pos rfl], Sk_up hst.2.2 (Nat.le_refl _)⟩
      · rw [q3, List.length_cons]; omega
theorem q_says {D M : Mem} {nm : Nat → Int} {bt : Bool} (hnk : nok nm) (hnm : ∀ i, i < 7 → D 92 i = nm i) {xs : List Int} {p : Nat} (hp : p + xs.length < 1600) (hO : Od D p xs) (hw : wf xs [] [bt]) (hS : S93 D M) :
    ∃ v M', fn_X11_saysOf 71 p M = some (v, M') ∧ run nm xs [] = [v] ∧ S93 D M' := by
  unfold fn_X11_saysOf
  exact q_saysL hnk hnm xs FU p M [] [] (lt_FU (by omega)) hp hO hS trivial rfl (by decide) hw
