theorem and255 (v : Int32) : (v &&& 255).toInt = v.toInt % 256 := by
  rw [← Int32.toInt_toBitVec, Int32.toBitVec_and]
  have h : (v.toBitVec &&& (255 : Int32).toBitVec).toNat = v.toBitVec.toNat % 256 := by
    rw [BitVec.toNat_and]
    exact Nat.and_two_pow_sub_one_eq_mod _ 8
  have h2 : (v.toBitVec &&& (255 : Int32).toBitVec).toInt = ((v.toBitVec.toNat % 256 : Nat) : Int) := by
    rw [BitVec.toInt_eq_toNat_of_lt (by rw [h]; omega), h]
  rw [h2, ← Int32.toInt_toBitVec, BitVec.toInt_eq_toNat_cond]
  have := v.toBitVec.isLt
  split <;> omega
theorem shr_go (v : Int32) (w : Int32) (n : Nat) (hw : w.toBitVec.smod 32 = BitVec.ofNat 32 n) (hn : n < 32) : (v >>> w).toInt = v.toInt / 2 ^ n := by
  rw [← Int32.toInt_toBitVec, Int32.toBitVec_shiftRight, hw]
  rw [BitVec.sshiftRight_eq', BitVec.toInt_sshiftRight, Int.shiftRight_eq_div_pow, BitVec.toNat_ofNat, Nat.mod_eq_of_lt (by omega), Int32.toInt_toBitVec]
  simp
theorem ushr_go (v : Int32) (w : UInt32) (n : Nat) (hw : w.toNat % 32 = n) (h0 : n < 32) : (v.toUInt32 >>> w).toInt32.toInt % 256 = (v.toInt % 4294967296) / 2 ^ n % 256 := by
  have e1 : (v.toUInt32 >>> w).toNat = v.toUInt32.toNat / 2 ^ n := by
    rw [UInt32.toNat_shiftRight, hw, Nat.shiftRight_eq_div_pow]
  have e2 : (v.toUInt32 >>> w).toInt32.toInt % 256 = (((v.toUInt32 >>> w).toNat : Nat) : Int) % 256 := by
    rw [← Int32.toInt_toBitVec, BitVec.toInt_eq_toNat_cond]
    have e3 : (v.toUInt32 >>> w).toInt32.toBitVec.toNat = (v.toUInt32 >>> w).toNat := rfl
    rw [e3]
    split <;> omega
  have e4 : ((v.toUInt32.toNat : Nat) : Int) = v.toInt % 4294967296 := by
    rw [← Int32.toInt_toBitVec, BitVec.toInt_eq_toNat_cond]
    have e3 : v.toUInt32.toNat = v.toBitVec.toNat := rfl
    rw [e3]
    have := v.toBitVec.isLt
    split <;> omega
  rw [e2, e1, ← e4]
  simp
theorem byte_go (a : Int) (y : Int) (n : Nat) (hn : n = 24 ∨ n = 16 ∨ n = 8 ∨ n = 0) (hy : y = (n : Int)) : (0 ≤ andI (ushrI a y) 255 ∧ andI (ushrI a y) 255 ≤ 255) ∧ i2bI (i2bI (shrI a y)) = if andI (ushrI a y) 255 < 128 then andI (ushrI a y) 255 else andI (ushrI a y) 255 - 256 := by
  have e : andI (ushrI a y) 255 = (((Int32.ofInt a).toInt % 4294967296) / 2 ^ n % 256) := by
    unfold andI ushrI
    rw [i3_to, show Int32.ofInt 255 = 255 from rfl, and255]
    refine ushr_go _ _ n ?_ (by omega)
    rcases hn with h | h | h | h <;> subst h <;> subst hy <;> decide
  have e2 : i2bI (i2bI (shrI a y)) = ((Int32.ofInt a).toInt / 2 ^ n).bmod 256 := by
    unfold i2bI
    rw [Int8.toInt_toInt32, Int32.toInt_toInt8, i3_to, Int8.toInt_toInt32, Int32.toInt_toInt8]
    unfold shrI
    rw [i3_to, shr_go _ _ n ?_ (by omega)]
    · simp
    · rcases hn with h | h | h | h <;> subst h <;> subst hy <;> decide
  rw [e, e2]
  generalize (Int32.ofInt a).toInt = x
  have hb : ∀ z : Int, z.bmod 256 = if z % 256 < 128 then z % 256 else z % 256 - 256 := fun z => by rw [Int.bmod_def]; rfl
  rw [hb]
  refine ⟨⟨by omega, by omega⟩, ?_⟩
  have : (x % 4294967296) / 2 ^ n % 256 = x / 2 ^ n % 256 := by
    rcases hn with h | h | h | h <;> subst h <;> simp <;> omega
  rw [this]
/-! feed -/
def TapR (C D : Mem) : Prop := D 71 3 = C 29 1 ∧ (0 ≤ C 29 1 ∧ C 29 1 ≤ 300) ∧ ∀ i : Nat, (i : Int) < C 29 1 → (0 ≤ C 30 i ∧ C 30 i ≤ 255) ∧ D 74 i = (if C 30 i < 128 then C 30 i else C 30 i - 256)
def bq (a : Int) (q : Nat) : Int := andI (ushrI a (24 - 8 * (q : Int))) 255
def sq (a : Int) (q : Nat) : Int := i2bI (i2bI (shrI a (24 - 8 * (q : Int))))
theorem p_put {C : Mem} {a : Int} {l : Nat} (hl : C 29 1 = (l : Int)) (h4 : l + 4 ≤ 300) : ∃ C', fn_X6_put 29 a C = some C' ∧ C' 29 1 = ((l + 4 : Nat) : Int) ∧ (∀ k i, k ≠ 29 → k ≠ 30 → C' k i = C k i) ∧ (∀ i, C' 30 i = if l ≤ i ∧ i < l + 4 then bq a (i - l) else C 30 i) := by
  unfold fn_X6_put
  refine lr2 (P := fun o => ∃ C' : Mem, o = some C' ∧ C' 29 1 = ((l + 4 : Nat) : Int) ∧ (∀ k i, k ≠ 29 → k ≠ 30 → C' k i = C k i) ∧ (∀ i, C' 30 i = if l ≤ i ∧ i < l + 4 then bq a (i - l) else C 30 i)) (I := fun k v E => v = 8 * (k : Int) - 8 ∧ k ≤ 4 ∧ E 29 1 = ((l + (4 - k) : Nat) : Int) ∧ (∀ k i, k ≠ 29 → k ≠ 30 → E k i = C k i) ∧ (∀ i, E 30 i = if l ≤ i ∧ i < l + (4 - k) then bq a (i - l) else C 30 i)) ?_ 4 FU 24 C (lt_FU (by decide)) ⟨by decide, by decide, by simpa using hl, fun _ _ _ _ => rfl, fun i => by rw [if_neg (by omega)]⟩
  intro k v E rec ⟨h1, h2, h3, h5, h6⟩ ih
  unfold fn_X6_put_L3 fn_X6_put_J50
  simp (disch := omega) only [cLt_if, h3]
  by_cases q : v < 0
  · rw [if_pos q]
    obtain rfl : k = 0 := by omega
    exact ⟨E, rfl, h3, h5, h6⟩
  · obtain ⟨k, rfl⟩ : ∃ k', k = k' + 1 := ⟨k - 1, by omega⟩
    simp (disch := omega) only [if_neg, if_pos, wr_eq, st_eq, nm_eq, Nat.reduceAdd, up_o, h3]
    refine ih k _ _ (by omega) ⟨by omega, by omega, ?_, fun k i a b => ?_, fun i => ?_⟩
    · simp only [up_i, if_true]; omega
    · rw [up_o a, up_o b]; exact h5 k i a b
    · rw [up_o (by decide), up_i, h6]
      by_cases q2 : i = ((l + (4 - (k + 1)) : Nat) : Int).toNat
      · rw [if_pos q2, if_pos (by omega)]
        unfold bq; rw [show v = 24 - 8 * ((i - l : Nat) : Int) by omega]
      · rw [if_neg q2]
        by_cases q3 : l ≤ i ∧ i < l + (4 - (k + 1))
        · rw [if_pos q3, if_pos (by omega)]
        · rw [if_neg q3, if_neg (by omega)]
theorem q_put {D : Mem} {a : Int} {l : Nat} (hl : D 71 3 = (l : Int)) (h4 : l + 4 ≤ 300) : ∃ D', fn_X11_put 71 a D = some D' ∧ D' 71 3 = ((l + 4 : Nat) : Int) ∧ (∀ k i, k ≠ 71 → k ≠ 74 → D' k i = D k i) ∧ (∀ i, i ≠ 3 → D' 71 i = D 71 i) ∧ (∀ i, D' 74 i = if l ≤ i ∧ i < l + 4 then sq a (i - l) else D 74 i) := by
  unfold fn_X11_put
  refine lr2 (P := fun o => ∃ D' : Mem, o = some D' ∧ D' 71 3 = ((l + 4 : Nat) : Int) ∧ (∀ k i, k ≠ 71 → k ≠ 74 → D' k i = D k i) ∧ (∀ i, i ≠ 3 → D' 71 i = D 71 i) ∧ (∀ i, D' 74 i = if l ≤ i ∧ i < l + 4 then sq a (i - l) else D 74 i)) (I := fun k v E => v = 8 * (k : Int) - 8 ∧ k ≤ 4 ∧ E 71 3 = ((l + (4 - k) : Nat) : Int) ∧ (∀ k i, k ≠ 71 → k ≠ 74 → E k i = D k i) ∧ (∀ i, i ≠ 3 → E 71 i = D 71 i) ∧ (∀ i, E 74 i = if l ≤ i ∧ i < l + (4 - k) then sq a (i - l) else D 74 i)) ?_ 4 FU 24 D (lt_FU (by decide)) ⟨by decide, by decide, by simpa using hl, fun _ _ _ _ => rfl, fun _ _ => rfl, fun i => by rw [if_neg (by omega)]⟩
  intro k v E rec ⟨h1, h2, h3, h5, h55, h6⟩ ih
  unfold fn_X11_put_L3
  simp (disch := omega) only [cLt_if, h3]
  by_cases q : v < 0
  · rw [if_pos q]
    obtain rfl : k = 0 := by omega
    exact ⟨E, rfl, h3, h5, h55, h6⟩
  · obtain ⟨k, rfl⟩ : ∃ k', k = k' + 1 := ⟨k - 1, by omega⟩
    simp (disch := omega) only [if_neg, if_pos, wr_eq, st_eq, nm_eq, Nat.reduceAdd, up_o, h3]
    refine ih k _ _ (by omega) ⟨by omega, by omega, ?_, fun k i a b => ?_, fun i hi => ?_, fun i => ?_⟩
    · simp only [up_i, if_true]; omega
    · rw [up_o a, up_o b]; exact h5 k i a b
    · rw [up_i, if_neg hi, up_o (by decide)]; exact h55 i hi
    · rw [up_o (by decide), up_i, h6]
      by_cases q2 : i = ((l + (4 - (k + 1)) : Nat) : Int).toNat
      · rw [if_pos q2, if_pos (by omega)]
        unfold sq; rw [show v = 24 - 8 * ((i - l : Nat) : Int) by omega]
      · rw [if_neg q2]
        by_cases q3 : l ≤ i ∧ i < l + (4 - (k + 1))
        · rw [if_pos q3, if_pos (by omega)]
        · rw [if_neg q3, if_neg (by omega)]
theorem bs_q {a : Int} {q : Nat} (h : q < 4) : (0 ≤ bq a q ∧ bq a q ≤ 255) ∧ sq a q = if bq a q < 128 then bq a q else bq a q - 256 := by
  unfold bq sq
  exact byte_go a _ (24 - 8 * q) (by omega) (by omega)
def FrC (C C' : Mem) : Prop := ∀ k i, k ≠ 29 → k ≠ 30 → C' k i = C k i
def FrD (D D' : Mem) : Prop := (∀ k i, k ≠ 71 → k ≠ 74 → D' k i = D k i) ∧ (∀ i, i ≠ 3 → D' 71 i = D 71 i)
theorem d_put {C D : Mem} {a : Int} {l : Nat} (hT : TapR C D) (hl : C 29 1 = (l : Int)) (h4 : l + 4 ≤ 300) : ∃ C' D', fn_X6_put 29 a C = some C' ∧ fn_X11_put 71 a D = some D' ∧ TapR C' D' ∧ C' 29 1 = ((l + 4 : Nat) : Int) ∧ FrC C C' ∧ FrD D D' := by
  obtain ⟨t1, t2, t3⟩ := hT
  obtain ⟨C', a1, a2, a3, a4⟩ := p_put (a := a) hl h4
  obtain ⟨D', b1, b2, b3, b4, b5⟩ := q_put (D := D) (a := a) (l := l) (by omega) h4
  refine ⟨C', D', a1, b1, ⟨by omega, by omega, fun i hi => ?_⟩, a2, a3, b3, b4⟩
  rw [a4, b5]
  by_cases q : l ≤ i ∧ i < l + 4
  · simp only [if_pos q]; exact bs_q (by omega)
  · simp only [if_neg q]; exact t3 i (by omega)
theorem d_feed {C D : Mem} {a1 a2 a3 a4 a5 : Int} (hT : TapR C D) : ∃ (r : Int) (C' D' : Mem), fn_X10_feed 0 a1 a2 a3 a4 a5 C = some (r, C') ∧ fn_X11_feed 71 a1 a2 a3 a4 a5 D = some (r, D') ∧ TapR C' D' ∧ FrC C C' ∧ FrD D D' := by
  have hT0 := hT
  obtain ⟨t1, t2, t3⟩ := hT
  obtain ⟨l, hl⟩ := Int.eq_ofNat_of_zero_le t2.1
  unfold fn_X10_feed fn_X11_feed
  simp (disch := omega) only [Nat.zero_add, cLt_if]
  by_cases g : 280 < C 29 1
  · rw [if_pos g, if_pos (by omega)]
    exact ⟨_, _, _, rfl, rfl, hT0, fun _ _ _ _ => rfl, fun _ _ _ _ => rfl, fun _ _ => rfl⟩
  · rw [if_neg g, if_neg (by omega)]
    obtain ⟨C1, D1, p1, q1, T1, l1, f1, g1⟩ := d_put (a := a1) hT0 hl (by omega)
    obtain ⟨C2, D2, p2, q2, T2, l2, f2, g2⟩ := d_put (a := a2) T1 l1 (by omega)
    obtain ⟨C3, D3, p3, q3, T3, l3, f3, g3⟩ := d_put (a := a3) T2 l2 (by omega)
    obtain ⟨C4, D4, p4, q4, T4, l4, f4, g4⟩ := d_put (a := a4) T3 l3 (by omega)
    obtain ⟨C5, D5, p5, q5, T5, l5, f5, g5⟩ := d_put (a := a5) T4 l4 (by omega)
    simp only [p1, p2, p3, p4, p5, q1, q2, q3, q4, q5, cv_s]
    refine ⟨C5 29 1, C5, D5, rfl, by rw [T5.1], T5, fun k i a b => ?_, fun k i a b => ?_, fun i a => ?_⟩
    · rw [f5 k i a b, f4 k i a b, f3 k i a b, f2 k i a b, f1 k i a b]
    · rw [g5.1 k i a b, g4.1 k i a b, g3.1 k i a b, g2.1 k i a b, g1.1 k i a b]
    · rw [g5.2 i a, g4.2 i a, g3.2 i a, g2.2 i a, g1.2 i a]
theorem s_feed {j : Nat} {M : Mem} {a1 a2 a3 a4 a5 : Int} (hc : Core j M) : ∃ (r : Int) (M1 M2 : Mem), fn_X10_feed 0 a1 a2 a3 a4 a5 M = some (r, M1) ∧ fn_X11_feed 71 a1 a2 a3 a4 a5 M1 = some (r, M2) ∧ Core (j + 1) M2 ∧ KX M M2 := by
  have hm := Core_mono hc
  obtain ⟨r, C1, D1, e1, -, -, f1, -⟩ := d_feed (a1 := a1) (a2 := a2) (a3 := a3) (a4 := a4) (a5 := a5) (C := M) (D := M) hm.2.2.1
  have hT : TapR M C1 := by
    have h0 := hm.2.2.1
    simp only [TapR, Tap, f1 71 _ (by decide) (by decide), f1 74 _ (by decide) (by decide)] at h0 ⊢; exact h0
  obtain ⟨r', C2, D2, e2, e3, T2, f2, g2⟩ := d_feed (a1 := a1) (a2 := a2) (a3 := a3) (a4 := a4) (a5 := a5) hT
  rw [e1] at e2
  cases e2
  have o : ∀ k i, k ≠ 29 → k ≠ 30 → k ≠ 71 → k ≠ 74 → D2 k i = M k i := fun k i a b c d => by rw [g2.1 k i c d, f1 k i a b]
  refine ⟨r, C1, D2, e1, e3, ⟨?_, ?_, ?_, ?_⟩, ?_, ?_⟩
  · exact now_frame (fun k hk i => o k i (by rintro rfl; revert hk; decide) (by rintro rfl; revert hk; decide) (by rintro rfl; revert hk; decide) (by rintro rfl; revert hk; decide)) hm.1
  · exact kept_frame (fun k hk i => o k i (by rintro rfl; revert hk; decide) (by rintro rfl; revert hk; decide) (by rintro rfl; revert hk; decide) (by rintro rfl; revert hk; decide)) hm.2.1
  · simp only [TapR, Tap, g2.1 29 _ (by decide) (by decide), g2.1 30 _ (by decide) (by decide)] at T2 ⊢
    exact T2
  · exact flt_frame (o _ _ (by decide) (by decide) (by decide) (by decide)) (o _ _ (by decide) (by decide) (by decide) (by decide)) (o _ _ (by decide) (by decide) (by decide) (by decide)) ((g2.2 4 (by decide)).trans (f1 71 4 (by decide) (by decide))) ((g2.2 5 (by decide)).trans (f1 71 5 (by decide) (by decide))) hm.2.2.2
  · exact fun k hk i => o k i (by rintro rfl; revert hk; decide) (by rintro rfl; revert hk; decide) (by rintro rfl; revert hk; decide) (by rintro rfl; revert hk; decide)
  · rw [o 1 11 (by decide) (by decide) (by decide) (by decide), o 15 11 (by decide) (by decide) (by decide) (by decide)]; exact ⟨Int.le_refl _, id⟩
