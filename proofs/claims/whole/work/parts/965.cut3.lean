theorem wd_len : ∀ w, w < 16 → sln w = ((wd w).length : Int) := by decide +kernel
theorem bl_get {B : Nat → Int} : ∀ {m p j : Nat}, j < m → (bl B p m).getD j 0 = B (p + j) := by
  intro m
  induction m with
  | zero => intro p j h; omega
  | succ m ih =>
    intro p j h
    cases j with
    | zero => rfl
    | succ j =>
      show (bl B (p + 1) m).getD j 0 = _
      rw [ih (by omega), show p + 1 + j = p + (j + 1) by omega]
theorem bl_eq {B : Nat → Int} : ∀ {m p : Nat} {l : List Int}, l.length = m → (bl B p m = l ↔ ∀ j, j < m → B (p + j) = l.getD j 0) := by
  intro m
  induction m with
  | zero => intro p l h; rw [List.length_eq_zero_iff.mp h]; exact ⟨fun _ j hj => by omega, fun _ => rfl⟩
  | succ m ih =>
    intro p l h
    cases l with
    | nil => cases h
    | cons y u =>
      have h' : u.length = m := by simpa using h
      show B p :: bl B (p + 1) m = y :: u ↔ _
      rw [List.cons.injEq, ih h']
      constructor
      · rintro ⟨a, b⟩ j hj
        cases j with
        | zero => exact a
        | succ j =>
          have := b j (by omega)
          rw [show p + (j + 1) = p + 1 + j by omega, this]; rfl
      · intro hh
        refine ⟨hh 0 (by omega), fun j hj => ?_⟩
        have := hh (j + 1) (by omega)
        rw [show p + 1 + j = p + (j + 1) by omega, this]; rfl
theorem p_spells {C : Mem} {B : Nat → Int} {len i m p s w : Nat} (hT : Tc1 C B len) (hm : C 37 4 = (m : Int)) (hi : i < m) (hm3 : m ≤ 300) (hp : C 40 i = (p : Int)) (hs : C 41 i = (s : Int)) (hps : p + s ≤ len) (hw : w < 16) : fn_X8_spells 37 29 i w C = some (b2 (bl B p s = wd w)) := by
  have h300 := hT.1
  have hl := wd_len w hw
  unfold fn_X8_spells fn_X8_isToken fn_X8_isToken_J23
  rw [hm, cLt_if (by omega) (by omega) (by decide) (by decide), if_neg (by omega), cLt_if (by omega) (by omega) (by omega) (by omega), if_pos (by omega), cLt_if (by omega) (by omega) (by decide) (by decide), if_pos (by omega), cu_s, cEq_if (by decide) (by decide) (by decide) (by decide), if_neg (by decide), rd_eq (by omega) (by omega), Int.toNat_natCast, show 37 + 4 = 41 from rfl, hs, hl]
  have h7 := (WC_ok w hw).2.1
  rw [cEq_if (by omega) (by omega) (by omega) (by omega)]
  by_cases q : (s : Int) = ((wd w).length : Int)
  · rw [if_pos q]
    have hls : (wd w).length = s := by omega
    refine lr1 (P := fun o => o = some (b2 (bl B p s = wd w))) (I := fun r a => ∃ j : Nat, j + r = s ∧ a = (j : Int) ∧ ∀ y, y < j → B (p + y) = (wd w).getD y 0) ?_ s FU 0 (lt_FU (by omega)) ⟨0, by omega, rfl, fun y hy => by omega⟩
    rintro r a rec ⟨j, e1, rfl, e2⟩ ih
    unfold fn_X8_spells_L26
    rw [hl, cLt_if (by omega) (by omega) (by omega) (by omega)]
    by_cases q1 : (j : Int) < ((wd w).length : Int)
    · obtain ⟨r, rfl⟩ : ∃ r', r = r' + 1 := ⟨r - 1, by omega⟩
      obtain ⟨b1, b2', b3⟩ := hT.2.2 (p + j) (by omega)
      have hsc : sch w (j : Int) = (wd w).getD j 0 := by unfold sch wd; rw [Int.toNat_natCast]
      have hwl : 0 ≤ (wd w).getD j 0 ∧ (wd w).getD j 0 ≤ 255 := by
        have hj : j < (wd w).length := by omega
        have := (WC_ok w hw).2.2 ((wd w).getD j 0) (by
          rw [List.getD_eq_getElem?_getD, List.getElem?_eq_getElem hj]
          exact List.getElem_mem hj)
        omega
      rw [if_pos q1, rd_eq (by omega) (by omega), Int.toNat_natCast, show 37 + 3 = 40 from rfl, hp, p_byteAt hT (by omega), if_pos (by omega), cu_s, show ((p : Int) + (j : Int)).toNat = p + j by omega, ck_t (by omega), hsc, cEq_if (by omega) (by omega) (by omega) (by omega)]
      by_cases q2 : B (p + j) = (wd w).getD j 0
      · rw [if_pos q2, nm_eq]
        refine ih r _ (by omega) ⟨j + 1, by omega, by omega, fun y hy => ?_⟩
        by_cases q3 : y = j
        · rw [q3]; exact q2
        · exact e2 y (by omega)
      · rw [if_neg q2, b2_f (fun h => q2 ((bl_eq hls).mp h j (by omega)))]
    · rw [if_neg q1, b2_t ((bl_eq hls).mpr (fun y hy => e2 y (by omega)))]
  · rw [if_neg q, b2_f (fun h => q (by rw [← h, bl_len]))]
/-- a word's kind -/
def wk (l : List Int) : Int := if wi l < 0 then 1 else wi l + 4
theorem p_wordKind {C : Mem} {B : Nat → Int} {len i m p s : Nat} (hT : Tc1 C B len) (hm : C 37 4 = (m : Int)) (hi : i < m) (hm3 : m ≤ 300) (hp : C 40 i = (p : Int)) (hs : C 41 i = (s : Int)) (hps : p + s ≤ len) : fn_X8_wordKind 37 29 i C = some (wk (bl B p s)) := by
  have sp : ∀ w, w < 16 → fn_X8_spells 37 29 i w C = some (b2 (bl B p s = wd w)) := fun w hw => p_spells hT hm hi hm3 hp hs hps hw
  unfold fn_X8_wordKind fn_X8_nameKind
  simp only [sp 0 (by decide), sp 1 (by decide), sp 2 (by decide), sp 3 (by decide), sp 4 (by decide), sp 5 (by decide), sp 6 (by decide), sp 7 (by decide), sp 8 (by decide), sp 9 (by decide), sp 10 (by decide), sp 11 (by decide), sp 12 (by decide), sp 13 (by decide), sp 14 (by decide), sp 15 (by decide), cu_s, cE_b2]
  generalize bl B p s = l
  unfold wk wi
  by_cases h0 : l = wd 0
  · simp only [if_pos h0]; decide
  by_cases h1 : l = wd 1
  · simp only [if_neg h0, if_pos h1]; decide
  by_cases h2 : l = wd 2
  · simp only [if_neg h0, if_neg h1, if_pos h2]; decide
  by_cases h3 : l = wd 3
  · simp only [if_neg h0, if_neg h1, if_neg h2, if_pos h3]; decide
  by_cases h4 : l = wd 4
  · simp only [if_neg h0, if_neg h1, if_neg h2, if_neg h3, if_pos h4]; decide
  by_cases h5 : l = wd 5
  · simp only [if_neg h0, if_neg h1, if_neg h2, if_neg h3, if_neg h4, if_pos h5]; decide
  by_cases h6 : l = wd 6
  · simp only [if_neg h0, if_neg h1, if_neg h2, if_neg h3, if_neg h4, if_neg h5, if_pos h6]; decide
  by_cases h7 : l = wd 7
  · simp only [if_neg h0, if_neg h1, if_neg h2, if_neg h3, if_neg h4, if_neg h5, if_neg h6, if_pos h7]; decide
  by_cases h8 : l = wd 8
  · simp only [if_neg h0, if_neg h1, if_neg h2, if_neg h3, if_neg h4, if_neg h5, if_neg h6, if_neg h7, if_pos h8]; decide
  simp only [if_neg h0, if_neg h1, if_neg h2, if_neg h3, if_neg h4, if_neg h5, if_neg h6, if_neg h7, if_neg h8]
  by_cases h9 : l = wd 9
  · simp only [if_pos h9, cu_s]; decide
  by_cases h10 : l = wd 10
  · simp only [if_neg h9, if_pos h10, cu_s]; decide
  by_cases h11 : l = wd 11
  · simp only [if_neg h9, if_neg h10, if_pos h11, cu_s]; decide
  by_cases h12 : l = wd 12
  · simp only [if_neg h9, if_neg h10, if_neg h11, if_pos h12, cu_s]; decide
  by_cases h13 : l = wd 13
  · simp only [if_neg h9, if_neg h10, if_neg h11, if_neg h12, if_pos h13, cu_s]; decide
  by_cases h14 : l = wd 14
  · simp only [if_neg h9, if_neg h10, if_neg h11, if_neg h12, if_neg h13, if_pos h14, cu_s]; decide
  by_cases h15 : l = wd 15
  · simp only [if_neg h9, if_neg h10, if_neg h11, if_neg h12, if_neg h13, if_neg h14, if_pos h15, cu_s]; decide
  simp only [if_neg h9, if_neg h10, if_neg h11, if_neg h12, if_neg h13, if_neg h14, if_neg h15, cu_s]; decide
/-- the kinds, once words are known -/
def kf (B : Nat → Int) (P E : Nat → Nat) (K : Nat → Int) (i : Nat) : Int := if K i = 3 then wk (bl B (P i) (E i - P i)) else K i
theorem sk_in (x : Int) : sk x = 1 ∨ (20 ≤ sk x ∧ sk x ≤ 32) := by
  unfold sk
  repeat (first | (split; omega) | omega)
theorem Rt_Tkn {B : Nat → Int} {len p e : Nat} {k v : Int} (h : Rt B len p e k v) : Tkn B len p e (if k = 3 then wk (bl B p (e - p)) else k) v := by
  obtain ⟨h1, h2, h3⟩ := h
  refine ⟨h1, h2, ?_⟩
  rcases h3 with ⟨a, b, rfl, c⟩ | ⟨a, b, rfl, c⟩ | ⟨a, b, c, d, rfl, g, h⟩ | ⟨a, b, c, rfl, g⟩
  · rw [if_pos rfl]; exact Or.inl ⟨a, b, rfl, c⟩
  · rw [if_neg (by decide)]; exact Or.inr (Or.inl ⟨a, b, rfl, c⟩)
  · have := sk_in (B p)
    rw [if_neg (by omega)]; exact Or.inr (Or.inr (Or.inl ⟨a, b, c, d, rfl, g, h⟩))
  · have := sk_in (B p)
    rw [if_neg (by omega)]; exact Or.inr (Or.inr (Or.inr ⟨a, b, c, rfl, g⟩))
theorem p_pass2 {C : Mem} {B : Nat → Int} {len m : Nat} {P E : Nat → Nat} {K V : Nat → Int} (hT : Tc1 C B len) (hA : Ar C m P E K V) (hS : TS B len m P E K V) (hm3 : m ≤ 300) :
    ∃ G, fn_X8_cut_J66 37 29 C = fn_X8_cut_J111 37 G ∧ F37 C G ∧ (∀ k i, k ≠ 38 → G k i = C k i) ∧ Ar G m P E (kf B P E K) V := by
  unfold fn_X8_cut_J66
  refine lr2 (P := fun o => ∃ G, o = fn_X8_cut_J111 37 G ∧ F37 C G ∧ (∀ k i, k ≠ 38 → G k i = C k i) ∧ Ar G m P E (kf B P E K) V) (I := fun r a G => ∃ j : Nat, j + r = m ∧ a = (j : Int) ∧ F37 C G ∧ (∀ k i, k ≠ 38 → G k i = C k i) ∧ ∀ i, i < m → G 38 i = if i < j then kf B P E K i else K i) ?_ m FU 0 C (lt_FU (by omega)) ⟨0, by omega, rfl, F37.rf, fun _ _ _ => rfl, fun i hi => by rw [if_neg (by omega)]; exact (hA.2 i hi).1⟩
  rintro r a G rec ⟨j, e1, rfl, e2, e3, e4⟩ ih
  have g4 : G 37 4 = (m : Int) := by rw [e3 37 4 (by decide)]; exact hA.1
  unfold fn_X8_cut_L68 fn_X8_cut_J105
  simp only [nm_eq]
  rw [g4, cLt_if (by omega) (by omega) (by omega) (by omega)]
  by_cases q1 : (j : Int) < (m : Int)
  · obtain ⟨r, rfl⟩ : ∃ r', r = r' + 1 := ⟨r - 1, by omega⟩
    have hk := e4 j (by omega)
    rw [if_neg (by omega)] at hk
    have hR := hS.1 j (by omega)
    have hkr : 1 ≤ K j ∧ K j ≤ 33 := by
      rcases hR.2.2 with ⟨_, _, h, _⟩ | ⟨_, _, h, _⟩ | ⟨_, _, _, _, h, _, _⟩ | ⟨_, _, _, h, _⟩
      · omega
      · omega
      · have := sk_in (B (P j)); omega
      · have := sk_in (B (P j)); omega
    rw [if_pos q1, cLt_if (by omega) (by omega) (by decide) (by decide), if_pos (by omega), rd_eq (by omega) (by omega), Int.toNat_natCast, show 37 + 1 = 38 from rfl, hk, cEq_if (by omega) (by omega) (by decide) (by decide)]
    by_cases q2 : K j = 3
    · rw [if_pos q2, p_wordKind (p := P j) (s := E j - P j) (Tc1_f e2 hT) g4 (by omega) hm3 (by rw [e3 40 j (by decide)]; exact (hA.2 j (by omega)).2.2.1) (by rw [e3 41 j (by decide)]; exact (hA.2 j (by omega)).2.2.2) (by have := hR.1; have := hR.2.1; omega), cu_s, wr_eq (by omega) (by omega), Int.toNat_natCast]
      refine ih r _ _ (by omega) ⟨j + 1, by omega, by omega, e2.up (by omega), fun k i hk => by rw [up_o hk]; exact e3 k i hk, fun i hi => ?_⟩
      rw [up_i]
      by_cases q3 : i = j
      · rw [if_pos q3, if_pos (by omega), q3]; unfold kf; rw [if_pos q2]
      · rw [if_neg q3, e4 i hi]
        by_cases q4 : i < j
        · rw [if_pos q4, if_pos (by omega)]
        · rw [if_neg q4, if_neg (by omega)]
    · rw [if_neg q2]
      refine ih r _ _ (by omega) ⟨j + 1, by omega, by omega, e2, e3, fun i hi => ?_⟩
      rw [e4 i hi]
      by_cases q3 : i = j
      · rw [if_neg (by omega), if_pos (by omega), q3]; unfold kf; rw [if_neg q2]
      · by_cases q4 : i < j
        · rw [if_pos q4, if_pos (by omega)]
        · rw [if_neg q4, if_neg (by omega)]
  · rw [if_neg q1]
    obtain rfl : j = m := by omega
    refine ⟨G, rfl, e2, e3, g4, fun i hi => ?_⟩
    have h9 := e4 i hi
    rw [if_pos hi] at h9
    rw [h9, e3 39 i (by decide), e3 40 i (by decide), e3 41 i (by decide)]
    exact ⟨rfl, (hA.2 i hi).2⟩
/-- the TOKENS lie in the class -/
def Tk1 (C : Mem) (n len : Nat) (K V : Nat → Int) (P : Nat → Nat) : Prop := n ≤ 300 ∧ C 37 4 = (n : Int) ∧ C 37 6 = (len : Int) ∧ (∀ i, i < n → C 38 i = K i ∧ C 39 i = V i ∧ C 40 i = (P i : Int)) ∧ K n = 0 ∧ V n = 0 ∧ P n = len
def At1 (C : Mem) (i : Nat) (K V : Nat → Int) (P : Nat → Nat) : Prop := C 37 5 = (i : Int) ∧ C 37 7 = K i ∧ C 37 8 = V i ∧ C 37 9 = (P i : Int)
def F57 (C C' : Mem) : Prop := ∀ k i, ¬ (k = 37 ∧ (i = 5 ∨ i = 7 ∨ i = 8 ∨ i = 9)) → C' k i = C k i
theorem Tk1_f {C C' : Mem} {n len : Nat} {K V : Nat → Int} {P : Nat → Nat} (h : ∀ i, (i = 4 ∨ i = 6) → C' 37 i = C 37 i) (h' : ∀ k i, 38 ≤ k → k ≤ 40 → C' k i = C k i) (hT : Tk1 C n len K V P) : Tk1 C' n len K V P := by
  obtain ⟨a, b, c, d, e⟩ := hT
  exact ⟨a, by rw [h 4 (by omega)]; exact b, by rw [h 6 (by omega)]; exact c, fun i hi => by rw [h' 38 i (by omega) (by omega), h' 39 i (by omega) (by omega), h' 40 i (by omega) (by omega)]; exact d i hi, e⟩
theorem p_nextT {C : Mem} {n len i : Nat} {K V : Nat → Int} {P : Nat → Nat} (hT : Tk1 C n len K V P) (h5 : C 37 5 = (i : Int) - 1) (hi : i ≤ n) : ∃ C', fn_X8_next 37 C = some C' ∧ F57 C C' ∧ At1 C' i K V P ∧ Tk1 C' n len K V P := by
  obtain ⟨a, b, c, d, e1, e2, e3⟩ := id hT
  unfold fn_X8_next
  rw [st_eq, h5, show (i : Int) - 1 + 1 = (i : Int) by omega]
  generalize hG : up C 37 5 (i : Int) = G
  have g0 : ∀ k j, ¬ (k = 37 ∧ j = 5) → G k j = C k j := fun k j q => by rw [← hG, up_k, if_neg q]
  have g5 : G 37 5 = (i : Int) := by rw [← hG, up_i, if_pos rfl]
  have g4 : G 37 4 = (n : Int) := by rw [g0 37 4 (by omega)]; exact b
  have g6 : G 37 6 = (len : Int) := by rw [g0 37 6 (by omega)]; exact c
  have fin : ∀ x y z : Int, x = K i → y = V i → z = (P i : Int) → ∃ C', some (up (up (up G 37 7 x) 37 8 y) 37 9 z) = some C' ∧ F57 C C' ∧ At1 C' i K V P ∧ Tk1 C' n len K V P := by
    intro x y z hx hy hz
    have fr : F57 C (up (up (up G 37 7 x) 37 8 y) 37 9 z) := fun k j q => by
      rw [up_k, if_neg (by omega), up_k, if_neg (by omega), up_k, if_neg (by omega)]; exact g0 k j (by omega)
    refine ⟨_, rfl, fr, ⟨?_, ?_, ?_, ?_⟩, Tk1_f (fun j hj => fr 37 j (by omega)) (fun k j _ _ => fr k j (by omega)) hT⟩
    · rw [up_i, if_neg (by decide), up_i, if_neg (by decide), up_i, if_neg (by decide)]; exact g5
    · rw [up_i, if_neg (by decide), up_i, if_neg (by decide), up_i, if_pos rfl, hx]
    · rw [up_i, if_neg (by decide), up_i, if_pos rfl, hy]
    · rw [up_i, if_pos rfl, hz]
  rw [g5, g4, cLt_if (by omega) (by omega) (by decide) (by decide), if_neg (by omega), cLt_if (by omega) (by omega) (by omega) (by omega)]
  unfold fn_X8_next_J42 fn_X8_next_J43 fn_X8_next_J62 fn_X8_next_J83 fn_X8_next_J107
  by_cases q : i < n
  · obtain ⟨d1, d2, d3⟩ := d i q
    rw [if_pos (by omega), cLt_if (by omega) (by omega) (by decide) (by decide), if_pos (by omega), cEq_if (x := 1) (y := 0) (by decide) (by decide) (by decide) (by decide), if_neg (by decide), g5, rd_eq (by omega) (by omega), Int.toNat_natCast, show 37 + 1 = 38 from rfl, g0 38 i (by omega), d1, st_eq, cEq_if (x := 1) (y := 0) (by decide) (by decide) (by decide) (by decide), if_neg (by decide)]
    have u1 : up G 37 7 (K i) 37 5 = (i : Int) := by rw [up_i, if_neg (by decide)]; exact g5
    rw [u1, rd_eq (by omega) (by omega), Int.toNat_natCast, show 37 + 2 = 39 from rfl, up_o (by decide), g0 39 i (by omega), d2, st_eq, cEq_if (x := 1) (y := 0) (by decide) (by decide) (by decide) (by decide), if_neg (by decide)]
    have u2 : up (up G 37 7 (K i)) 37 8 (V i) 37 5 = (i : Int) := by rw [up_i, if_neg (by decide)]; exact u1
    rw [u2, rd_eq (by omega) (by omega), Int.toNat_natCast, show 37 + 3 = 40 from rfl, up_o (by decide), up_o (by decide), g0 40 i (by omega), d3, st_eq]
    exact fin _ _ _ rfl rfl rfl
  · obtain rfl : i = n := by omega
    rw [if_neg (by omega), cEq_if (x := 0) (y := 0) (by decide) (by decide) (by decide) (by decide), if_pos rfl, st_eq, cEq_if (x := 0) (y := 0) (by decide) (by decide) (by decide) (by decide), if_pos rfl, st_eq, cEq_if (x := 0) (y := 0) (by decide) (by decide) (by decide) (by decide), if_pos rfl, st_eq]
    have u3 : up (up G 37 7 0) 37 8 0 37 6 = (len : Int) := by rw [up_i, if_neg (by decide), up_i, if_neg (by decide)]; exact g6
    rw [u3]
    exact fin _ _ _ e1.symm e2.symm (by rw [e3])
/-- the TOKENS of a tape -/
def TkL (B : Nat → Int) (len n : Nat) (P E : Nat → Nat) (K V : Nat → Int) : Prop := n ≤ 300 ∧ (∀ i, i < n → Tkn B len (P i) (E i) (K i) (V i)) ∧ (∀ i, i < n → (if i = 0 then 0 else E (i - 1)) ≤ P i ∧ ∀ x, (if i = 0 then 0 else E (i - 1)) ≤ x → x < P i → isB (B x)) ∧ ((if n = 0 then 0 else E (n - 1)) ≤ len ∧ ∀ x, (if n = 0 then 0 else E (n - 1)) ≤ x → x < len → isB (B x)) ∧ K n = 0 ∧ V n = 0 ∧ P n = len
theorem p_cut {C : Mem} {B : Nat → Int} {len : Nat} (hT : Tc1 C B len) : ∃ C' n P E K V, fn_X8_cut 37 29 C = some C' ∧ F37 C C' ∧ TkL B len n P E K V ∧ Tk1 C' n len K V P ∧ At1 C' 0 K V P := by
  unfold fn_X8_cut
  have e1 : up C 37 4 0 29 1 = (len : Int) := by rw [up_o (by decide)]; exact hT.2.1
  rw [st_eq, st_eq, e1]
  generalize hG : up (up C 37 4 0) 37 6 (len : Int) = G
  have fG : F37 C G := by rw [← hG]; exact (F37.rf.up (by omega)).up (by omega)
  have hTG := Tc1_f fG hT
  obtain ⟨G1, m, P, E, K, V, f1, f2, f3, f4, f5⟩ := p_pass1 hTG (by rw [← hG, up_i, if_pos rfl]) (by rw [← hG, up_i, if_neg (by decide), up_i, if_pos rfl])
  have hm3 : m ≤ 300 := by have := f5.2.2.2; have := hT.1; omega
  obtain ⟨G2, g1, g2, g3, g4⟩ := p_pass2 (Tc1_f f2 hTG) f4 f5 hm3
  rw [f1, g1]
  unfold fn_X8_cut_J111
  rw [st_eq]
  generalize hG3 : up G2 37 5 (-1) = G3
  have h30 : ∀ k j, ¬ (k = 37 ∧ j = 5) → G3 k j = G2 k j := fun k j q => by rw [← hG3, up_k, if_neg q]
  have hTk : Tk1 G3 m len (fun i => if i < m then kf B P E K i else 0) (fun i => if i < m then V i else 0) (fun i => if i < m then P i else len) := by
    refine ⟨hm3, by rw [h30 37 4 (by omega)]; exact g4.1, by rw [h30 37 6 (by omega), g3 37 6 (by decide)]; exact f3, fun i hi => ?_, ?_, ?_, ?_⟩
    · show G3 38 i = (if i < m then kf B P E K i else 0) ∧ G3 39 i = (if i < m then V i else 0) ∧ G3 40 i = ((if i < m then P i else len : Nat) : Int)
      rw [if_pos hi, if_pos hi, if_pos hi, h30 38 i (by omega), h30 39 i (by omega), h30 40 i (by omega)]
      exact ⟨(g4.2 i hi).1, (g4.2 i hi).2.1, (g4.2 i hi).2.2.1⟩
    · show (if m < m then kf B P E K m else 0) = 0; rw [if_neg (by omega)]
    · show (if m < m then V m else 0) = 0; rw [if_neg (by omega)]
    · show (if m < m then P m else len) = len; rw [if_neg (by omega)]
  obtain ⟨C', n1, n2, n3, n4⟩ := p_nextT (i := 0) hTk (by rw [← hG3, up_i, if_pos rfl]; rfl) (by omega)
  rw [n1, cv_s]
  refine ⟨C', m, _, E, _, _, rfl, ((fG.tr f2).tr g2).tr (fun k i q => by rw [n2 k i (by omega), h30 k i (by omega)]), ⟨hm3, fun i hi => ?_, fun i hi => ?_, f5.2.2.1, hTk.2.2.2.2⟩, n4, n3⟩
  · show Tkn B len (if i < m then P i else len) (E i) (if i < m then kf B P E K i else 0) (if i < m then V i else 0)
    rw [if_pos hi, if_pos hi, if_pos hi]
    exact Rt_Tkn (f5.1 i hi)
  · show (if i = 0 then 0 else E (i - 1)) ≤ (if i < m then P i else len) ∧ ∀ x, (if i = 0 then 0 else E (i - 1)) ≤ x → x < (if i < m then P i else len) → isB (B x)
    rw [if_pos hi]; exact f5.2.1 i hi
