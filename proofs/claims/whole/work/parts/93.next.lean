/-! text: the reference's next -/
/-- blanks are passed over -/
theorem q_skip {D : Mem} {B : Nat → Int} {len q p : Nat} (hT : Tq D B len) (hq : D 71 14 = (q : Int)) (hqp : q ≤ p) (hp : p ≤ len) (hb : ∀ j, q ≤ j → j < p → isB (B j)) (hn : p < len → ¬ isB (B p)) :
    ∃ M, fn_X11_next 71 D = fn_X11_next_J52 71 M ∧ N4 D M ∧ M 71 14 = (p : Int) := by
  unfold fn_X11_next
  refine lr1 (P := fun o => ∃ M, o = fn_X11_next_J52 71 M ∧ N4 D M ∧ M 71 14 = (p : Int)) (I := fun r M => ∃ j : Nat, j + r = p ∧ q ≤ j ∧ N4 D M ∧ M 71 14 = (j : Int)) ?_ (p - q) FU D (lt_FU (by have := hT.1; omega)) ⟨q, by omega, Nat.le_refl _, N4.rf, hq⟩
  rintro r M rec ⟨j, e1, e2, e3, e4⟩ ih
  have h300 := hT.1
  obtain ⟨-, t1, t2⟩ := Tq_f e3 hT
  unfold fn_X11_next_L0 fn_X11_next_J39
  rw [e4, t1, cLt_if (by omega) (by omega) (by omega) (by omega)]
  by_cases q1 : (j : Int) < (len : Int)
  · obtain ⟨b1, b2, b3⟩ := t2 j (by omega)
    rw [if_pos q1, rd_eq (by omega) (by omega), rd_eq (by omega) (by omega), Int.toNat_natCast, show 71 + 3 = 74 from rfl, b1]
    have hs : R3 (sg (B j)) := by unfold sg; split <;> exact ⟨by omega, by omega⟩
    rw [cEq_if hs.1 hs.2 (by decide) (by decide), cEq_if hs.1 hs.2 (by decide) (by decide)]
    by_cases q2 : j = p
    · subst q2
      have hnb := hn (by omega)
      unfold isB at hnb
      rw [if_neg (by unfold sg; split <;> omega), if_neg (by unfold sg; split <;> omega)]
      exact ⟨M, rfl, e3, e4⟩
    · obtain ⟨r, rfl⟩ : ∃ r', r = r' + 1 := ⟨r - 1, by omega⟩
      have hbj := hb j e2 (by omega)
      have key : ∃ M', rec (up M 71 14 ((j : Int) + 1)) = fn_X11_next_J52 71 M' ∧ N4 D M' ∧ M' 71 14 = (p : Int) := ih r _ (by omega) ⟨j + 1, by omega, by omega, e3.up (by omega), by rw [up_i, if_pos rfl]; omega⟩
      rw [st_eq]
      rcases hbj with h | h
      · rw [if_pos (by unfold sg; rw [if_pos (by omega)]; exact h)]; exact key
      · rw [if_neg (by unfold sg; rw [if_pos (by omega)]; omega), if_pos (by unfold sg; rw [if_pos (by omega)]; exact h)]; exact key
  · rw [if_neg q1]
    obtain rfl : j = p := by omega
    exact ⟨M, rfl, e3, e4⟩
theorem q_end {D : Mem} {B : Nat → Int} {len q : Nat} (hT : Tq D B len) (hq : D 71 14 = (q : Int)) (hql : q ≤ len) (hb : ∀ j, q ≤ j → j < len → isB (B j)) :
    ∃ M, fn_X11_next 71 D = some M ∧ N4 D M ∧ M 71 14 = (len : Int) ∧ M 71 15 = (len : Int) ∧ M 71 16 = 0 := by
  have h300 := hT.1
  obtain ⟨M, e1, e2, e3⟩ := q_skip hT hq hql (Nat.le_refl _) hb (fun h => by omega)
  obtain ⟨-, t1, t2⟩ := Tq_f e2 hT
  rw [e1]
  unfold fn_X11_next_J52
  have e4 : up M 71 15 (M 71 14) 71 14 = (len : Int) := by rw [up_i, if_neg (by decide), e3]
  have e5 : up M 71 15 (M 71 14) 71 13 = (len : Int) := by rw [up_i, if_neg (by decide), t1]
  rw [st_eq, e4, e5, cEq_if (by omega) (by omega) (by omega) (by omega), if_pos rfl, st_eq]
  refine ⟨_, rfl, (e2.up (by omega)).up (by omega), ?_, ?_, ?_⟩
  · rw [up_i, if_neg (by decide), e4]
  · rw [up_i, if_neg (by decide), up_i, if_pos rfl, e3]
  · rw [up_i, if_pos rfl]
theorem q_word {M : Mem} {B : Nat → Int} {len p e : Nat} (hT : Tq M B len) (hp : M 71 14 = (p : Int)) (he : p < e ∧ e ≤ len) (hl : ∀ j, p ≤ j → j < e → isL (B j)) (hn : e < len → ¬ isL (B e)) :
    ∃ M', lq3 (fn_X11_next_L99 71) FU 0 0 M = some M' ∧ (∀ k i, ¬ (k = 71 ∧ (i = 14 ∨ i = 16 ∨ i = 17)) → M' k i = M k i) ∧ M' 71 14 = (e : Int) ∧ M' 71 17 = wi (bl B p (e - p)) ∧ M' 71 16 = if wi (bl B p (e - p)) < 0 then 4 else 1 := by
  have h300 := hT.1
  have hh : ∀ m, m ≤ e - p → ∀ x, x ∈ bl B p m → isL x := fun m hm x hx => by
    obtain ⟨j, a, b, c⟩ := bl_mem hx
    rw [c]; exact hl j a (by omega)
  have fin : ∀ G : Mem, (∀ k i, ¬ (k = 71 ∧ i = 14) → G k i = M k i) → G 71 14 = (e : Int) → ∃ M', fn_X11_next_J173 71 (hs (bl B p (min (e - p) 8))) ((e - p : Nat) : Int) G = some M' ∧ (∀ k i, ¬ (k = 71 ∧ (i = 14 ∨ i = 16 ∨ i = 17)) → M' k i = M k i) ∧ M' 71 14 = (e : Int) ∧ M' 71 17 = wi (bl B p (e - p)) ∧ M' 71 16 = if wi (bl B p (e - p)) < 0 then 4 else 1 := by
    intro G g1 g2
    have hw := wi_in (l := bl B p (e - p))
    have j1 : ∃ M', fn_X11_next_J189 71 G (wi (bl B p (e - p))) = some M' ∧ (∀ k i, ¬ (k = 71 ∧ (i = 14 ∨ i = 16 ∨ i = 17)) → M' k i = M k i) ∧ M' 71 14 = (e : Int) ∧ M' 71 17 = wi (bl B p (e - p)) ∧ M' 71 16 = if wi (bl B p (e - p)) < 0 then 4 else 1 := by
      unfold fn_X11_next_J189 fn_X11_next_J205
      rw [st_eq, up_i, if_pos rfl, cLt_if (by omega) (by omega) (by decide) (by decide)]
      have fr : ∀ v k i, ¬ (k = 71 ∧ (i = 14 ∨ i = 16 ∨ i = 17)) → up (up G 71 17 (wi (bl B p (e - p)))) 71 16 v k i = M k i := fun v k i q => by
        rw [up_k, if_neg (by omega), up_k, if_neg (by omega)]; exact g1 k i (by omega)
      by_cases q : wi (bl B p (e - p)) < 0
      · rw [if_pos q, if_pos q, st_eq]
        exact ⟨_, rfl, fr 4, by rw [up_i, if_neg (by decide), up_i, if_neg (by decide)]; exact g2, by rw [up_i, if_neg (by decide), up_i, if_pos rfl], by rw [up_i, if_pos rfl]⟩
      · rw [if_neg q, if_neg q, st_eq]
        exact ⟨_, rfl, fr 1, by rw [up_i, if_neg (by decide), up_i, if_neg (by decide)]; exact g2, by rw [up_i, if_neg (by decide), up_i, if_pos rfl], by rw [up_i, if_pos rfl]⟩
    unfold fn_X11_next_J173
    rw [cLt_if (by decide) (by decide) (by omega) (by omega)]
    by_cases q : (7 : Int) < ((e - p : Nat) : Int)
    · rw [if_pos q]
      rw [wi_long (l := bl B p (e - p)) (by rw [bl_len]; omega)] at j1 ⊢
      exact j1
    · rw [if_neg q, show min (e - p) 8 = e - p by omega, q_wordOf (hh _ (Nat.le_refl _)) (by rw [bl_len]; omega), cu_s]
      exact j1
  refine lr3 (P := fun o => ∃ M' : Mem, o = some M' ∧ (∀ k i, ¬ (k = 71 ∧ (i = 14 ∨ i = 16 ∨ i = 17)) → M' k i = M k i) ∧ M' 71 14 = (e : Int) ∧ M' 71 17 = wi (bl B p (e - p)) ∧ M' 71 16 = if wi (bl B p (e - p)) < 0 then 4 else 1) (I := fun r a v G => ∃ j : Nat, p + j + r = e ∧ a = (j : Int) ∧ v = hs (bl B p (min j 8)) ∧ (∀ k i, ¬ (k = 71 ∧ i = 14) → G k i = M k i) ∧ G 71 14 = ((p + j : Nat) : Int)) ?_ (e - p) FU 0 0 M (lt_FU (by omega)) ⟨0, by omega, rfl, rfl, fun _ _ _ => rfl, hp⟩
  rintro r a v G rec ⟨j, e1, rfl, e2, e3, e4⟩ ih
  have t1 : G 71 13 = (len : Int) := by rw [e3 71 13 (by omega)]; exact hT.2.1
  have t2 : ∀ i, i < len → G 74 i = sg (B i) ∧ 0 ≤ B i ∧ B i ≤ 255 := fun i hi => by rw [e3 74 i (by omega)]; exact hT.2.2 i hi
  unfold fn_X11_next_L99 fn_X11_next_J156
  rw [e4, t1, cLt_if (by omega) (by omega) (by omega) (by omega)]
  by_cases q1 : ((p + j : Nat) : Int) < (len : Int)
  · obtain ⟨b1, b2, b3⟩ := t2 (p + j) (by omega)
    obtain ⟨x, x1, x2⟩ := q_isL (M := G) b2 b3
    rw [if_pos q1, rd_eq (by omega) (by omega), Int.toNat_natCast, show 71 + 3 = 74 from rfl, b1, x1, cu_s]
    rcases x2 with ⟨rfl, x2⟩ | ⟨rfl, x2⟩
    · have hj : p + j < e := by
        by_cases q : p + j < e
        · exact q
        · exact absurd x2 (by have := hn (by omega); rw [show p + j = e by omega]; exact this)
      obtain ⟨r, rfl⟩ : ∃ r', r = r' + 1 := ⟨r - 1, by omega⟩
      have hs3 : R3 (sg (B (p + j))) := by unfold sg; split <;> exact ⟨by omega, by omega⟩
      rw [cEq_if (by decide) (by decide) (by decide) (by decide), if_neg (by decide), cLt_if (by omega) (by omega) (by decide) (by decide)]
      have nxt : ∀ v', v' = hs (bl B p (min (j + 1) 8)) → ∃ M', (nm ((j : Int) + 1) fun v4_157 => st G 71 14 (((p + j : Nat) : Int) + 1) fun M167 => rec v4_157 v' M167) = some M' ∧ (∀ k i, ¬ (k = 71 ∧ (i = 14 ∨ i = 16 ∨ i = 17)) → M' k i = M k i) ∧ M' 71 14 = (e : Int) ∧ M' 71 17 = wi (bl B p (e - p)) ∧ M' 71 16 = if wi (bl B p (e - p)) < 0 then 4 else 1 := fun v' hv => by
        rw [nm_eq, st_eq]
        exact ih r _ _ _ (by omega) ⟨j + 1, by omega, by omega, hv, fun k i q => by rw [up_k, if_neg (by omega)]; exact e3 k i q, by rw [up_i, if_pos rfl]; omega⟩
      by_cases q2 : (j : Int) < 8
      · rw [if_pos q2, rd_eq (by omega) (by omega), Int.toNat_natCast, b1, ck_t hs3]
        refine nxt _ ?_
        rw [show min (j + 1) 8 = j + 1 by omega, bl_s, hs_s, e2, show min j 8 = j by omega]
        have : sg (B (p + j)) = B (p + j) := by unfold sg; unfold isL at x2; rw [if_pos (by omega)]
        rw [this]
      · rw [if_neg q2]
        exact nxt _ (by rw [e2, show min (j + 1) 8 = 8 by omega, show min j 8 = 8 by omega])
    · have hj : p + j = e := by
        by_cases q : p + j < e
        · exact absurd (hl (p + j) (by omega) q) x2
        · omega
      rw [cEq_if (by decide) (by decide) (by decide) (by decide), if_pos rfl, e2, show j = e - p by omega]
      exact fin G e3 (by rw [e4, hj])
  · have hj : p + j = e := by omega
    rw [if_neg q1, e2, show j = e - p by omega]
    exact fin G e3 (by rw [e4, hj])
/-- digits: the reference's value beside the class's -/
def nq (l : List Int) (x : Int) : Prop := (0 ≤ nv l ∧ nv l ≤ 9999 ∧ x = nv l) ∨ (nv l = 10000 ∧ 9999 < x ∧ x ≤ 2000000)
theorem nq_s {l : List Int} {x d : Int} (hd : 48 ≤ d ∧ d ≤ 57) (h : nq l x) : nq (d :: l) (if 99999 < x then x else 10 * x + d - 48) := by
  have hn : nv (d :: l) = min (nv l * 10 + d - 48) 10000 := rfl
  unfold nq at h ⊢
  rw [hn]
  split <;> omega
theorem q_num {M : Mem} {B : Nat → Int} {len p e : Nat} (hT : Tq M B len) (hp : M 71 14 = (p : Int)) (he : p < e ∧ e ≤ len) (hl : ∀ j, p ≤ j → j < e → isD (B j)) (hn : e < len → ¬ isD (B e)) (h0 : M 71 17 = 0) :
    ∃ M', lq1 (fn_X11_next_L232 71) FU M = some M' ∧ (∀ k i, ¬ (k = 71 ∧ (i = 14 ∨ i = 17)) → M' k i = M k i) ∧ M' 71 14 = (e : Int) ∧ nq (bl B p (e - p)).reverse (M' 71 17) := by
  have h300 := hT.1
  refine lr1 (P := fun o => ∃ M' : Mem, o = some M' ∧ (∀ k i, ¬ (k = 71 ∧ (i = 14 ∨ i = 17)) → M' k i = M k i) ∧ M' 71 14 = (e : Int) ∧ nq (bl B p (e - p)).reverse (M' 71 17)) (I := fun r G => ∃ j : Nat, p + j + r = e ∧ (∀ k i, ¬ (k = 71 ∧ (i = 14 ∨ i = 17)) → G k i = M k i) ∧ G 71 14 = ((p + j : Nat) : Int) ∧ nq (bl B p j).reverse (G 71 17)) ?_ (e - p) FU M (lt_FU (by omega)) ⟨0, by omega, fun _ _ _ => rfl, hp, by rw [h0]; exact Or.inl ⟨show (0 : Int) ≤ 0 by decide, show (0 : Int) ≤ 9999 by decide, rfl⟩⟩
  rintro r G rec ⟨j, e1, e3, e4, e5⟩ ih
  have t1 : G 71 13 = (len : Int) := by rw [e3 71 13 (by omega)]; exact hT.2.1
  have t2 : ∀ i, i < len → G 74 i = sg (B i) ∧ 0 ≤ B i ∧ B i ≤ 255 := fun i hi => by rw [e3 74 i (by omega)]; exact hT.2.2 i hi
  unfold fn_X11_next_L232 fn_X11_next_J299
  rw [e4, t1, cLt_if (by omega) (by omega) (by omega) (by omega)]
  by_cases q1 : ((p + j : Nat) : Int) < (len : Int)
  · obtain ⟨b1, b2, b3⟩ := t2 (p + j) (by omega)
    rw [if_pos q1, rd_eq (by omega) (by omega), Int.toNat_natCast, show 71 + 3 = 74 from rfl, b1, q_isD b2 b3, cu_s, cE_b2]
    by_cases q2 : 48 ≤ B (p + j) ∧ B (p + j) ≤ 57
    · have hj : p + j < e := by
        by_cases q : p + j < e
        · exact q
        · exact absurd q2 (by have := hn (by omega); rw [show p + j = e by omega]; exact this)
      obtain ⟨r, rfl⟩ : ∃ r', r = r' + 1 := ⟨r - 1, by omega⟩
      have hb : 0 ≤ G 71 17 ∧ G 71 17 ≤ 2000000 := by rcases e5 with h | h <;> omega
      have es : sg (B (p + j)) = B (p + j) := by unfold sg; rw [if_pos (by omega)]
      have nn := nq_s q2 e5
      have el : (bl B p (j + 1)).reverse = B (p + j) :: (bl B p j).reverse := by rw [bl_s, List.reverse_append]; rfl
      rw [← el] at nn
      rw [if_pos q2, cLt_if (by decide) (by decide) (by omega) (by omega)]
      have nxt : ∀ x, nq (bl B p (j + 1)).reverse x → ∃ M', (st G 71 17 x fun M299 => st M299 71 14 ((M299 71 14) + 1) fun M309 => rec M309) = some M' ∧ (∀ k i, ¬ (k = 71 ∧ (i = 14 ∨ i = 17)) → M' k i = M k i) ∧ M' 71 14 = (e : Int) ∧ nq (bl B p (e - p)).reverse (M' 71 17) := fun x hx => by
        rw [st_eq, st_eq]
        refine ih r _ (by omega) ⟨j + 1, by omega, fun k i q => by rw [up_k, if_neg (by omega), up_k, if_neg (by omega)]; exact e3 k i q, ?_, ?_⟩
        · rw [up_i, if_pos rfl, up_i, if_neg (by decide), e4]; omega
        · rw [up_i, if_neg (by decide), up_i, if_pos rfl]; exact hx
      by_cases q3 : 99999 < G 71 17
      · rw [if_pos q3] at nn ⊢
        exact nxt _ nn
      · rw [if_neg q3] at nn
        rw [if_neg q3, rd_eq (by omega) (by omega), Int.toNat_natCast, b1, es]
        exact nxt _ nn
    · have hj : p + j = e := by
        by_cases q : p + j < e
        · exact absurd (hl (p + j) (by omega) q) q2
        · omega
      rw [if_neg q2]
      rw [show j = e - p by omega] at e5
      exact ⟨G, rfl, e3, by rw [e4, hj], e5⟩
  · have hj : p + j = e := by omega
    rw [if_neg q1]
    rw [show j = e - p by omega] at e5
    exact ⟨G, rfl, e3, by rw [e4, hj], e5⟩
