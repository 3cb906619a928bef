/-! told -/
def cn (p : Nat → Bool) : Nat → Nat
  | 0 => 0
  | n + 1 => cn p n + (if p n then 1 else 0)
def la (p : Nat → Bool) : Nat → Int
  | 0 => -1
  | n + 1 => if p n then (n : Int) else la p n
theorem cn_mono {p : Nat → Bool} {a b : Nat} (h : a ≤ b) : cn p a ≤ cn p b := by
  induction b with
  | zero => rw [show a = 0 by omega]; exact Nat.le_refl _
  | succ b ih =>
    by_cases q : a = b + 1
    · subst q; exact Nat.le_refl _
    · have := ih (by omega)
      show _ ≤ cn p b + _
      omega
theorem cn_out {p : Nat → Bool} {n b : Nat} (h : ∀ i, n ≤ i → p i = false) (hb : n ≤ b) : cn p b = cn p n ∧ la p b = la p n := by
  induction b with
  | zero => rw [show n = 0 by omega]; exact ⟨rfl, rfl⟩
  | succ b ih =>
    by_cases q : n = b + 1
    · subst q; exact ⟨rfl, rfl⟩
    · have h1 := ih (by omega)
      have h2 := h b (by omega)
      show cn p b + (if p b then 1 else 0) = _ ∧ (if p b then (b : Int) else la p b) = _
      rw [h2]; exact h1
theorem la_in {p : Nat → Bool} {j : Nat} : (-1 ≤ la p j ∧ la p j < j) ∧ (cn p j = 0 ↔ la p j = -1) := by
  induction j with
  | zero => exact ⟨⟨Int.le_refl _, show (-1 : Int) < 0 by decide⟩, fun _ => rfl, fun _ => rfl⟩
  | succ j ih =>
    show (-1 ≤ (if p j then (j : Int) else la p j) ∧ (if p j then (j : Int) else la p j) < ((j + 1 : Nat) : Int)) ∧ (cn p j + (if p j then 1 else 0) = 0 ↔ (if p j then (j : Int) else la p j) = -1)
    cases p j with
    | true => simp; omega
    | false => simp only [Bool.false_eq_true, if_false, Nat.add_zero]; exact ⟨by omega, ih.2⟩
theorem sm31 : ∀ j : Nat, j < 10 → (Int32.ofInt (j : Int) &&& 31).toBitVec.smod 32 = BitVec.ofNat 32 j := by decide +kernel
theorem tb_1 : ∀ i : Nat, i < 32 → tb 1 i = decide (i = 0) := by decide +kernel
theorem bit_at {x : Int} {j : Nat} (hj : j < 10) : andI (shrI x (j : Int)) 1 = if tb x j then 1 else 0 := by
  refine tb_ext andI_R (by split <;> exact ⟨by decide, by decide⟩) (fun i hi => ?_)
  rw [tb_and, tb_1 i hi]
  by_cases q : i = 0
  · subst q
    have e : tb (shrI x (j : Int)) 0 = tb x j := by
      unfold tb shrI
      rw [i3_to, Int32.toBitVec_shiftRight, sm31 j hj, BitVec.sshiftRight_eq', BitVec.getLsbD_sshiftRight]
      rw [show (BitVec.ofNat 32 j).toNat = j from by rw [BitVec.toNat_ofNat]; exact Nat.mod_eq_of_lt (by omega), if_pos (by omega), decide_eq_false (by omega)]
      rfl
    rw [e]
    cases tb x j with
    | true => rw [if_pos rfl, tb_1 0 (by decide)]; rfl
    | false => rw [if_neg (by decide), tb_0]; rfl
  · rw [decide_eq_false q, Bool.and_false]
    cases tb x j with
    | true => rw [if_pos rfl, tb_1 i hi, decide_eq_false q]
    | false => rw [if_neg (by decide), tb_0]
theorem p_onlyOne {x : Int} {M : Mem} : fn_X10_onlyOne x M = some (if cn (tb x) 10 = 1 then la (tb x) 10 else -1) := by
  unfold fn_X10_onlyOne
  refine lr2 (P := fun o => o = some (if cn (tb x) 10 = 1 then la (tb x) 10 else -1)) (I := fun q a v => ∃ j : Nat, j + q = 10 ∧ a = (j : Int) ∧ v = la (tb x) j ∧ cn (tb x) j ≤ 1) ?_ 10 FU 0 (-1) (lt_FU (by decide)) ⟨0, by omega, rfl, rfl, Nat.zero_le 1⟩
  rintro q a v rec ⟨j, e1, rfl, e2, e3⟩ ih
  have hl := la_in (p := tb x) (j := j)
  unfold fn_X10_onlyOne_L4 fn_X10_onlyOne_J28
  simp only [nm_eq]
  rw [cLt_if (by omega) (by omega) (by decide) (by decide)]
  by_cases q1 : (j : Int) < 10
  · obtain ⟨q, rfl⟩ : ∃ r', q = r' + 1 := ⟨q - 1, by omega⟩
    rw [if_pos q1, bit_at (by omega)]
    have s1 : cn (tb x) (j + 1) = cn (tb x) j + (if tb x j then 1 else 0) := rfl
    have s2 : la (tb x) (j + 1) = if tb x j then (j : Int) else la (tb x) j := rfl
    by_cases q2 : tb x j = true
    · rw [if_pos q2] at s1 s2 ⊢
      rw [cEq_if (by decide) (by decide) (by decide) (by decide), if_pos rfl, cEq_if (by omega) (by omega) (by decide) (by decide)]
      by_cases q3 : v = -1
      · rw [if_pos q3]
        exact ih q _ _ (by omega) ⟨j + 1, by omega, by omega, by rw [s2], by rw [s1, hl.2.mpr (by omega)]; decide⟩
      · rw [if_neg q3, if_neg (fun h => ?_)]
        have h1 := cn_mono (p := tb x) (show j + 1 ≤ 10 by omega)
        have h2 : cn (tb x) j ≠ 0 := fun h9 => q3 (by rw [e2]; exact hl.2.mp h9)
        omega
    · rw [if_neg q2] at s1 s2 ⊢
      rw [cEq_if (by decide) (by decide) (by decide) (by decide), if_neg (by decide)]
      exact ih q _ _ (by omega) ⟨j + 1, by omega, by omega, by rw [s2]; exact e2, by omega⟩
  · rw [if_neg q1]
    obtain rfl : j = 10 := by omega
    rw [e2]
    by_cases q2 : cn (tb x) 10 = 1
    · rw [if_pos q2]
    · rw [if_neg q2, hl.2.mp (by omega)]
theorem shl_m1 : ∀ n : Nat, n < 11 → R3 (shlI 1 (n : Int) - 1) ∧ ∀ i : Nat, i < 32 → tb (shlI 1 (n : Int) - 1) i = decide (i < n) := by decide +kernel
/-- the HANDS that are in each ROW of all WAYS -/
def gd (n : Nat) (g : Nat → Int) (e lo m' m : Nat) (bg : Nat → Nat) (gn : Nat → Int) (h : Nat) : Prop := h < n ∧ ∀ k, k < m → Ra n g h e lo m' (bg k) (gn k) = 0 ∧ 0 < Ra n g (-1) e lo m' (bg k) (gn k)
theorem p_toldL {M : Mem} {n e m lo hi : Nat} {g : Nat → Int} {bg : Nat → Nat} {gn : Nat → Int} (hS : Sg M n g e) (hP : Pu M n m bg gn) (hT : Ta M n g) (hlo : lo ≤ hi) (hhi : hi ≤ 4) :
    ∃ v M', lq3 (fn_X10_told_L32 lo hi) FU 0 (shlI 1 n - 1) M = fn_X10_told_J94 v M' ∧ (∀ h, h < 32 → (tb v h = true ↔ gd n g e lo (hi + 1 - lo) m bg gn h)) ∧ Ta M' n g ∧ Fq M M' := by
  have hn := hS.2.1
  have he := hS.2.2.2.2
  refine lr3 (P := fun o => ∃ v M', o = fn_X10_told_J94 v M' ∧ (∀ h, h < 32 → (tb v h = true ↔ gd n g e lo (hi + 1 - lo) m bg gn h)) ∧ Ta M' n g ∧ Fq M M') (I := fun q a v E => ∃ j : Nat, j + q = m ∧ a = (j : Int) ∧ (∀ h, h < 32 → (tb v h = true ↔ gd n g e lo (hi + 1 - lo) j bg gn h)) ∧ Ta E n g ∧ Fq M E) ?_ m FU 0 _ M (lt_FU (by have := hP.1.2.2; omega)) ⟨0, by omega, rfl, fun h hh => by
      rw [(shl_m1 n (by omega)).2 h hh, decide_eq_true_eq]
      exact ⟨fun a => ⟨a, fun k hk => by omega⟩, fun a => a.1⟩, hT, fun _ _ _ _ => rfl⟩
  rintro q a v E rec ⟨j, e1, rfl, e2, e3, e4⟩ ih
  have sE := Sg_q e4 hS
  obtain ⟨⟨p1, p2, p3⟩, p4⟩ := Pu_q e4 hP
  unfold fn_X10_told_L32
  simp only [nm_eq, Nat.zero_add, Nat.reduceAdd]
  rw [p1, cLt_if (by omega) (by omega) (by omega) (by omega)]
  by_cases q1 : (j : Int) < (m : Int)
  · obtain ⟨q, rfl⟩ : ∃ r', q = r' + 1 := ⟨q - 1, by omega⟩
    obtain ⟨⟨b1, b2⟩, -, b3, b4⟩ := p4 j (by omega)
    obtain ⟨B, hB⟩ := e3.1
    obtain ⟨v', E1, g1, gv, gb, g2, g3⟩ := p_inAll (l := (bg j : Int)) (x := gn j) (lo := lo) (hi := hi) (e := e) (Tc_all sE) hB hlo (by omega) (by omega) he (by omega)
    rw [if_pos q1, cLt_if (by omega) (by omega) (by decide) (by decide), if_pos (by omega), rd_eq (by omega) (by omega), rd_eq (by omega) (by omega), Int.toNat_natCast, b1, b2, sE.2.2.2.1, g1, cl_s]
    refine ih q _ _ _ (by omega) ⟨j + 1, by omega, by omega, fun h hh => ?_, Ta_26 g3 g2 e3, e4.tr (Fq_26 g3)⟩
    rw [tb_and, Bool.and_eq_true, e2 h hh, gb h hh]
    constructor
    · rintro ⟨⟨a1, a2⟩, a3, a4⟩
      refine ⟨a1, fun k hk => ?_⟩
      by_cases q3 : k = j
      · subst q3; exact a4
      · exact a2 k (by omega)
    · rintro ⟨a1, a2⟩
      exact ⟨⟨a1, fun k hk => a2 k (by omega)⟩, a1, a2 j (by omega)⟩
  · rw [if_neg q1]
    obtain rfl : j = m := by omega
    exact ⟨v, E, rfl, e2, e3, e4⟩
/-- one HAND, on the reference's side -/
theorem q_toldI {M : Mem} {n e m : Nat} {bg : Nat → Nat} {gn : Nat → Int} {A B : Nat → Int} {c1 c2 c3 : Int} {rec39 : Int → Int → Int → Mem → Option (Int × Mem)} (hP : Pu M n m bg gn) (h95 : ∀ k, k < m → M 95 k = A k) (h96 : ∀ k, k < m → M 96 k = A k - B k) (hb : ∀ k, k < m → (0 ≤ A k ∧ A k ≤ 50000) ∧ (0 ≤ B k ∧ B k ≤ 50000)) (v : Bool) (hv : v = true ↔ ∀ k, k < m → B k = 0) :
    lq2 (fn_X11_told_L66 71 c1 c2 c3 rec39 M) FU 0 1 = fn_X11_told_J114 c1 c2 c3 rec39 M (if v then 1 else 0) := by
  obtain ⟨⟨p1, p2, p3⟩, p4⟩ := hP
  refine lr2 (P := fun o => o = fn_X11_told_J114 c1 c2 c3 rec39 M (if v then 1 else 0)) (I := fun q a w => ∃ j : Nat, j + q = m ∧ a = (j : Int) ∧ ((w = 1 ∧ ∀ k, k < j → B k = 0) ∨ (w = 0 ∧ ∃ k, k < j ∧ B k ≠ 0))) ?_ m FU 0 1 (lt_FU (by omega)) ⟨0, by omega, rfl, Or.inl ⟨rfl, fun k hk => by omega⟩⟩
  rintro q a w rec ⟨j, e1, rfl, e2⟩ ih
  unfold fn_X11_told_L66 fn_X11_told_J105 fn_X11_told_J106
  simp only [nm_eq]
  rw [rd_eq (by decide) (by decide), show (8 : Int).toNat = 8 from rfl, show 71 + 1 = 72 from rfl, p2, cLt_if (by omega) (by omega) (by omega) (by omega)]
  by_cases q1 : (j : Int) < (m : Int)
  · obtain ⟨q, rfl⟩ : ∃ r', q = r' + 1 := ⟨q - 1, by omega⟩
    rw [if_pos q1]
    rcases e2 with ⟨rfl, e3⟩ | ⟨rfl, k, k1, k2⟩
    · have b1 := hb j (by omega)
      rw [cEq_if (by decide) (by decide) (by decide) (by decide), if_neg (by decide), rd_eq (by omega) (by omega), rd_eq (by omega) (by omega), Int.toNat_natCast, show 71 + 25 = 96 from rfl, show 71 + 24 = 95 from rfl, h96 j (by omega), h95 j (by omega), dEq_if (by omega) (by omega) (by omega) (by omega)]
      by_cases q2 : B j = 0
      · rw [if_pos (by omega)]
        refine ih q _ _ (by omega) ⟨j + 1, by omega, by omega, Or.inl ⟨rfl, fun k hk => ?_⟩⟩
        by_cases q3 : k = j
        · subst q3; exact q2
        · exact e3 k (by omega)
      · rw [if_neg (by omega)]
        exact ih q _ _ (by omega) ⟨j + 1, by omega, by omega, Or.inr ⟨rfl, j, by omega, q2⟩⟩
    · rw [cEq_if (by decide) (by decide) (by decide) (by decide), if_pos rfl]
      exact ih q _ _ (by omega) ⟨j + 1, by omega, by omega, Or.inr ⟨rfl, k, by omega, k2⟩⟩
  · rw [if_neg q1]
    obtain rfl : j = m := by omega
    rcases e2 with ⟨rfl, e3⟩ | ⟨rfl, k, k1, k2⟩
    · rw [if_pos (hv.mpr e3)]
    · rw [if_neg (fun h => k2 (hv.mp h k k1))]
theorem q_toldL {M : Mem} {n e m lo hi : Nat} {g : Nat → Int} {bg : Nat → Nat} {gn : Nat → Int} {p : Nat → Bool} (hD : Hd M n g e) (hP : Pu M n m bg gn) (hlo : lo ≤ hi) (hhi : hi ≤ 4) (hw : ∀ k, k < m → M 95 k = Ra n g (-1) e lo (hi + 1 - lo) (bg k) (gn k)) (hp : ∀ h, h < n → (p h = true ↔ ∀ k, k < m → Ra n g h e lo (hi + 1 - lo) (bg k) (gn k) = 0)) :
    ∃ M', lq4 (fn_X11_told_L39 71 lo hi) FU 0 0 (-1) M = some (if cn p n = 1 then la p n else -1, M') ∧ S96 M M' := by
  have hn := hD.2.1
  refine lr4 (P := fun o => ∃ M', o = some (if cn p n = 1 then la p n else -1, M') ∧ S96 M M') (I := fun q a b c E => ∃ j : Nat, j + q = n ∧ a = (j : Int) ∧ b = (cn p j : Int) ∧ c = la p j ∧ cn p j ≤ j ∧ S96 M E ∧ ∀ i, E 95 i = M 95 i) ?_ n FU 0 0 (-1) M (lt_FU (by omega)) ⟨0, by omega, rfl, rfl, rfl, Nat.le_refl _, fun _ _ _ _ _ => rfl, fun _ => rfl⟩
  rintro q a b c E rec ⟨j, e1, rfl, e2, e3, e7, e4, e5⟩ ih
  have dE := Hd_q (Fq_96 e4) hD
  have pE := Pu_q (Fq_96 e4) hP
  unfold fn_X11_told_L39
  rw [rd_eq (by decide) (by decide), show (0 : Int).toNat = 0 from rfl, show 71 + 1 = 72 from rfl, dE.1, cLt_if (by omega) (by omega) (by omega) (by omega)]
  by_cases q1 : (j : Int) < (n : Int)
  · obtain ⟨q, rfl⟩ : ∃ r', q = r' + 1 := ⟨q - 1, by omega⟩
    obtain ⟨E1, v1, v2, v3, v4⟩ := q_part (h := j) dE pE hlo hhi (by omega) (fun k hk => by rw [e5]; exact hw k hk)
    have hp1 := hp j (by omega)
    rw [if_pos q1, v1, cl_s, q_toldI (e := e) (A := fun k => Ra n g (-1) e lo (hi + 1 - lo) (bg k) (gn k)) (B := fun k => Ra n g j e lo (hi + 1 - lo) (bg k) (gn k)) (Pu_q (Fq_96 v2) pE) (fun k hk => by rw [v3, e5]; exact hw k hk) v4 (fun k hk => ⟨Ra_bd4 hn hlo hhi, Ra_bd4 hn hlo hhi⟩) (p j) hp1]
    have s1 : cn p (j + 1) = cn p j + (if p j then 1 else 0) := rfl
    have s2 : la p (j + 1) = if p j then (j : Int) else la p j := rfl
    unfold fn_X11_told_J114 fn_X11_told_J126 fn_X11_told_J140
    simp only [nm_eq]
    by_cases q2 : p j = true
    · rw [if_pos q2] at s1 s2 ⊢
      rw [cEq_if (by decide) (by decide) (by decide) (by decide), if_neg (by decide), cEq_if (by decide) (by decide) (by decide) (by decide), if_neg (by decide)]
      exact ih q _ _ _ _ (by omega) ⟨j + 1, by omega, by omega, by omega, s2.symm, by omega, e4.tr v2, fun i => by rw [v3, e5]⟩
    · rw [if_neg q2] at s1 s2 ⊢
      rw [cEq_if (by decide) (by decide) (by decide) (by decide), if_pos rfl, cEq_if (by decide) (by decide) (by decide) (by decide), if_pos rfl]
      exact ih q _ _ _ _ (by omega) ⟨j + 1, by omega, by omega, by omega, by rw [s2]; exact e3, by omega, e4.tr v2, fun i => by rw [v3, e5]⟩
  · rw [if_neg q1]
    obtain rfl : j = n := by omega
    unfold fn_X11_told_J147
    rw [cEq_if (by omega) (by omega) (by decide) (by decide)]
    refine ⟨E, ?_, e4⟩
    by_cases q2 : cn p j = 1
    · rw [if_pos (by omega), if_pos q2, e3]
    · rw [if_neg (by omega), if_neg q2]
theorem cn_ext {p p' : Nat → Bool} {n : Nat} (h : ∀ i, i < n → p i = p' i) : cn p n = cn p' n ∧ la p n = la p' n := by
  induction n with
  | zero => exact ⟨rfl, rfl⟩
  | succ n ih =>
    have h1 := ih (fun i hi => h i (by omega))
    have h2 := h n (by omega)
    show cn p n + (if p n then 1 else 0) = cn p' n + (if p' n then 1 else 0) ∧ (if p n then (n : Int) else la p n) = (if p' n then (n : Int) else la p' n)
    rw [h1.1, h1.2, h2]; exact ⟨rfl, rfl⟩
theorem d_told {M : Mem} {n e m : Nat} {g : Nat → Int} {bg : Nat → Nat} {gn : Nat → Int} {a1 a2 : Int} (h1 : R3 a1) (h2 : R3 a2) (hS : Sg M n g e) (hD : Hd M n g e) (hP : Pu M n m bg gn) (hV : TV M) :
    ∃ (r : Int) (M1 M2 : Mem), fn_X10_told a1 a2 M = some (r, M1) ∧ fn_X11_told 71 a1 a2 M1 = some (r, M2) ∧ Fq M M2 ∧ TV M2 := by
  have hn := hS.2.1
  have hm := hP.1.2.2
  unfold fn_X10_told fn_X11_told
  rw [p_areLengths h1 h2 ⟨by decide, by decide⟩, cu_s, cE_b2]
  by_cases q : 0 ≤ a1 ∧ a1 ≤ a2 ∧ a2 ≤ 4
  · rw [if_pos q]
    obtain ⟨lo, hlo⟩ := Int.eq_ofNat_of_zero_le q.1
    obtain ⟨hi, hhi⟩ := Int.eq_ofNat_of_zero_le (show 0 ≤ a2 by omega)
    subst hlo; subst hhi
    obtain ⟨M1, f1, f2, f3⟩ := p_tabAll hS hV
    have s1 := Sg_q (Fq_t f3) hS
    obtain ⟨v, M2, t1, t2, t3, t4⟩ := p_toldL (lo := lo) (hi := hi) s1 (Pu_q (Fq_t f3) hP) f2 (by omega) (by omega)
    have hF2 := (Fq_t f3).tr t4
    have d2 := Hd_q hF2 hD
    have hP2 := Pu_q hF2 hP
    have hV2 := Ta_TV (Sg_q hF2 hS) t3
    obtain ⟨M3, w1, w2, w3⟩ := q_whole (lo := lo) (hi := hi) d2 hP2 (by omega) (by omega)
    have bA := pr_bd4 (f := fun k => Ra n g (-1) e lo (hi + 1 - lo) (bg k) (gn k)) hm (fun i _ => Ra_bd4 hn (by omega) (by omega))
    rw [f1, cv_s, ck_t (nOf_1 f2.2.1), nm_eq]
    simp only [Nat.zero_add]
    rw [s1.1, t1]
    unfold fn_X10_told_J94
    rw [p_onlyOne, cu_s]
    have hq : ∀ o, (cu (fn_X11_in (lo : Int) 0 4 M2) fun x3 => cEq x3 0 (some ((-1), M2)) (cu (fn_X11_in (hi : Int) (lo : Int) 4 M2) fun x12 => cEq x12 0 (some ((-1), M2)) o)) = o := fun o => by
      rw [p_in h1 ⟨by decide, by decide⟩ ⟨by decide, by decide⟩, cu_s, cE_b2, if_pos (by omega), p_in h2 h1 ⟨by decide, by decide⟩, cu_s, cE_b2, if_pos (by omega)]
    have hout : ∀ i, i < 32 → n ≤ i → tb v i = false := fun i hi hn => by
      have h9 := (t2 i hi)
      cases h8 : tb v i with
      | false => rfl
      | true => have := (h9.mp h8).1; omega
    by_cases q5 : pr m (fun k => Ra n g (-1) e lo (hi + 1 - lo) (bg k) (gn k)) = 0
    · obtain ⟨k, k1, k2⟩ := pr_z.mp q5
      have hz : cn (tb v) 10 = 0 := by
        have : ∀ j, j ≤ 10 → cn (tb v) j = 0 := by
          intro j
          induction j with
          | zero => intro _; rfl
          | succ j ih =>
            intro hj
            show cn (tb v) j + (if tb v j then 1 else 0) = 0
            have h8 : tb v j = false := by
              cases h8 : tb v j with
              | false => rfl
              | true => have := (((t2 j (by omega)).mp h8).2 k k1).2; omega
            rw [ih (by omega), h8]; rfl
        exact this 10 (by decide)
      rw [if_neg (by omega)]
      refine ⟨_, _, M3, rfl, ?_, hF2.tr (Fq_96 w2), TV_96 w2 hV2⟩
      rw [hq, w1, cl_s, dEq_if (by omega) (by omega) (by decide) (by decide), if_pos q5]
    · have hpos : ∀ k, k < m → 0 < Ra n g (-1) e lo (hi + 1 - lo) (bg k) (gn k) := fun k hk => by
        have a1 := Ra_nn (n := n) (g := g) (wo := -1) (e := e) (lo := lo) (m := hi + 1 - lo) (l := (bg k : Int)) (x := gn k)
        rcases Int.lt_or_eq_of_le a1 with h | h
        · exact h
        · exact absurd (pr_z.mpr ⟨k, hk, h.symm⟩) q5
      obtain ⟨M4, x1, x2⟩ := q_toldL (p := tb v) (Hd_q (Fq_96 w2) d2) (Pu_q (Fq_96 w2) hP2) (show lo ≤ hi by omega) (show hi ≤ 4 by omega) w3 (fun h hh => by
        rw [t2 h (by omega)]
        exact ⟨fun a k hk => (a.2 k hk).1, fun a => ⟨hh, fun k hk => ⟨a k hk, hpos k hk⟩⟩⟩)
      have hc := cn_out (p := fun i => if i < 32 then tb v i else false) (n := n) (b := 10) (fun i hi => by
        show (if i < 32 then tb v i else false) = false
        split
        · exact hout i (by assumption) hi
        · rfl) (by omega)
      have e1 := cn_ext (p := fun i => if i < 32 then tb v i else false) (p' := tb v) (n := 10) (fun i hi => if_pos (by omega))
      have e2 := cn_ext (p := fun i => if i < 32 then tb v i else false) (p' := tb v) (n := n) (fun i hi => if_pos (by omega))
      rw [e1.1, e1.2, e2.1, e2.2] at hc
      rw [hc.1, hc.2]
      refine ⟨_, _, M4, rfl, ?_, (hF2.tr (Fq_96 w2)).tr (Fq_96 x2), TV_96 x2 (TV_96 w2 hV2)⟩
      rw [hq, w1, cl_s, dEq_if (by omega) (by omega) (by decide) (by decide), if_neg q5, x1]
  · rw [if_neg q]
    refine ⟨_, _, M, rfl, ?_, fun _ _ _ _ => rfl, hV⟩
    rw [p_in h1 ⟨by decide, by decide⟩ ⟨by decide, by decide⟩, cu_s, cE_b2]
    by_cases q2 : 0 ≤ a1 ∧ a1 ≤ 4
    · rw [if_pos q2, p_in h2 h1 ⟨by decide, by decide⟩, cu_s, cE_b2, if_neg (by omega)]
    · rw [if_neg q2]
