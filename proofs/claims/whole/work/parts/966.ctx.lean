/-! text: the two readers side by side -/
abbrev Tx : Type := ((Nat → Int) × Nat × Nat) × ((Nat → Nat) × (Nat → Nat)) × ((Nat → Int) × (Nat → Int))
def tB (T : Tx) : Nat → Int := T.1.1
def tL (T : Tx) : Nat := T.1.2.1
def tN (T : Tx) : Nat := T.1.2.2
def tP (T : Tx) : Nat → Nat := T.2.1.1
def tE (T : Tx) : Nat → Nat := T.2.1.2
def tK (T : Tx) : Nat → Int := T.2.2.1
def tV (T : Tx) : Nat → Int := T.2.2.2
def TkT (T : Tx) : Prop := TkL (tB T) (tL T) (tN T) (tP T) (tE T) (tK T) (tV T)
def qe (T : Tx) (i : Nat) : Nat := if i < tN T then tE T i else tL T
/-- what the reference writes down of an item; -99 ends a law -/
def oo (x : Int) : Int := if x = -99 then 408 else mo x
def ov (x : Int) : Int := if x = -99 then 0 else mv x
def Oq (D : Mem) (ord : List Int) : Prop := ∀ j, j < ord.length → D 90 j = oo (ord.getD j 0) ∧ D 91 j = ov (ord.getD j 0)
/-- the reference has come to the i-th TOKEN -/
def Rt0 (T : Tx) (D : Mem) (i : Nat) : Prop := (Tq D (tB T) (tL T) ∧ D 71 19 = -1 ∧ tP T i ≤ 300) ∧ D 71 14 = (qe T i : Int) ∧ D 71 15 = (tP T i : Int) ∧ TR (tK T i) (tV T i) (D 71 16) (D 71 17)
def Rst (D : Mem) (op : Nat) (fr wo wf ord : List Int) : Prop := D 71 18 = 0 ∧ D 71 20 = (op : Int) ∧ (D 71 21 = (fr.length : Int) ∧ Sk D 82 fr) ∧ (D 71 24 = (wo.length : Int) ∧ wo.length = wf.length ∧ Sk D 84 wo ∧ Sk D 85 wf) ∧ (D 71 34 = (ord.length : Int) ∧ Oq D ord)
def Rf (T : Tx) (D : Mem) (i : Nat) (st : Int) (op : Nat) (fr wo wf ord : List Int) : Prop := Rt0 T D i ∧ D 71 27 = st ∧ Rst D op fr wo wf ord
/-- what a reader of laws may change of the reference -/
def FD (D D' : Mem) : Prop := ∀ k i, (k = 71 → i < 14 ∨ i = 28 ∨ i = 29) → k ≠ 82 → k ≠ 83 → k ≠ 84 → k ≠ 85 → k ≠ 90 → k ≠ 91 → D' k i = D k i
theorem FD.rf {D : Mem} : FD D D := fun _ _ _ _ _ _ _ _ _ => rfl
theorem FD.tr {D D' D'' : Mem} (h : FD D D') (h' : FD D' D'') : FD D D'' := fun k i a b c d e f g => (h' k i a b c d e f g).trans (h k i a b c d e f g)
theorem FD.u {D D' : Mem} {i : Nat} {v : Int} (h : FD D D') (hi : 14 ≤ i ∧ i ≠ 28 ∧ i ≠ 29) : FD D (up D' 71 i v) := fun k j a b c d e f g => by
  rw [up_k, if_neg (by rintro ⟨rfl, rfl⟩; have := a rfl; omega)]; exact h k j a b c d e f g
theorem FD.a {D D' : Mem} {k i : Nat} {v : Int} (h : FD D D') (hk : k = 82 ∨ k = 83 ∨ k = 84 ∨ k = 85 ∨ k = 90 ∨ k = 91) : FD D (up D' k i v) := fun k' j a b c d e f g => by
  rw [up_o (by omega)]; exact h k' j a b c d e f g
theorem FD.n4 {D D' : Mem} (h : N4 D D') : FD D D' := fun k i a b c d e f g => h k i (by omega)
theorem Rst_n4 {D D' : Mem} {op : Nat} {fr wo wf ord : List Int} (h : N4 D D') (hR : Rst D op fr wo wf ord) : Rst D' op fr wo wf ord := by
  obtain ⟨a, b, ⟨c, d⟩, ⟨e, f, g, k⟩, l, m⟩ := hR
  have o : ∀ i, ¬ (14 ≤ i ∧ i ≤ 17) → D' 71 i = D 71 i := fun i hi => h 71 i (by omega)
  have o2 : ∀ k i, k ≠ 71 → D' k i = D k i := fun k i hk => h k i (by omega)
  refine ⟨by rw [o 18 (by omega)]; exact a, by rw [o 20 (by omega)]; exact b, ⟨by rw [o 21 (by omega)]; exact c, Sk_same (fun i => o2 82 i (by decide)) d⟩, ⟨by rw [o 24 (by omega)]; exact e, f, Sk_same (fun i => o2 84 i (by decide)) g, Sk_same (fun i => o2 85 i (by decide)) k⟩, by rw [o 34 (by omega)]; exact l, fun j hj => by rw [o2 90 j (by decide), o2 91 j (by decide)]; exact m j hj⟩
theorem r_next0 {T : Tx} {D : Mem} {i : Nat} (hT : TkT T) (hD : Tq D (tB T) (tL T) ∧ D 71 19 = -1) (hq : D 71 14 = ((if i = 0 then 0 else tE T (i - 1) : Nat) : Int)) (hi : i ≤ tN T) : ∃ D', fn_X11_next 71 D = some D' ∧ N4 D D' ∧ Rt0 T D' i := by
  obtain ⟨h1, h2, h3, h4, h5, h6, h7⟩ := hT
  by_cases q : i < tN T
  · obtain ⟨D', a, b, c, d, e⟩ := q_next hD.1 hq (h3 i q).1 (h3 i q).2 (h2 i q)
    exact ⟨D', a, b, ⟨Tq_f b hD.1, by rw [b 71 19 (by omega)]; exact hD.2, by have := (h2 i q).1; have := (h2 i q).2.1; have := hD.1.1; omega⟩, by rw [c]; unfold qe; rw [if_pos q], d, e⟩
  · obtain rfl : i = tN T := by omega
    obtain ⟨D', a, b, c, d, e⟩ := q_end hD.1 hq h4.1 h4.2
    refine ⟨D', a, b, ⟨Tq_f b hD.1, by rw [b 71 19 (by omega)]; exact hD.2, by rw [h7]; exact hD.1.1⟩, by rw [c]; unfold qe; rw [if_neg q], by rw [d, h7], ?_⟩
    rw [h5, h6, e]; exact Or.inl ⟨rfl, rfl⟩
theorem r_next {T : Tx} {D : Mem} {i : Nat} (hT : TkT T) (hR : Rt0 T D i) (hi : i < tN T) : ∃ D', fn_X11_next 71 D = some D' ∧ N4 D D' ∧ Rt0 T D' (i + 1) := by
  refine r_next0 hT ⟨hR.1.1, hR.1.2.1⟩ ?_ (by omega)
  rw [if_neg (by omega), Nat.add_sub_cancel, hR.2.1]
  unfold qe; rw [if_pos hi]
/-! what a TOKEN is, on the reference's side -/
theorem tr_so {k v so to : Int} (h : TR k v so to) : (0 ≤ so ∧ so ≤ 4) ∧ (so ≠ 0 → so ≠ 4 → -2147483648 ≤ to ∧ to ≤ 2147483647) := by
  unfold TR at h
  have hm : ∀ x : Int, -29 ≤ x → x ≤ -20 → 0 ≤ mo x ∧ mo x ≤ 1000 := fun x h1 h2 => by
    have : x = -20 ∨ x = -21 ∨ x = -22 ∨ x = -23 ∨ x = -24 ∨ x = -25 ∨ x = -26 ∨ x = -27 ∨ x = -28 ∨ x = -29 := by omega
    rcases this with rfl | rfl | rfl | rfl | rfl | rfl | rfl | rfl | rfl | rfl <;> decide
  rcases h with h | h | h | h | ⟨h1, h2, h3⟩ | h | h | h
  · omega
  · omega
  · omega
  · omega
  · have := hm (-k) (by omega) (by omega); omega
  · omega
  · omega
  · omega
def tv (k : Int) : Int := if k = 1 then 44 else if k = 30 then 40 else if k = 31 then 41 else if k = 32 then 59 else mo (-k)
theorem tv_v1 : ∀ k : Nat, k < 33 → (k = 1 ∨ 20 ≤ k) → (tv k = 40 ↔ k = 30) ∧ (tv k = 41 ↔ k = 31) ∧ (tv k = 59 ↔ k = 32) ∧ (tv k = 45 ↔ k = 27) := by decide +kernel
theorem tv_v2 : ∀ k : Nat, k < 33 → (k = 1 ∨ 20 ≤ k) → (tv k = 43 ↔ k = 26) ∧ (tv k = 42 ↔ k = 28) ∧ (tv k = 47 ↔ k = 29) := by decide +kernel
theorem tv_v3 : ∀ k : Nat, k < 33 → (k = 1 ∨ 20 ≤ k) → ((tv k = 60 ∨ tv k = 62 ∨ tv k = 61 ∨ tv k = 35 ∨ tv k = 300 ∨ tv k = 301) ↔ (20 ≤ k ∧ k ≤ 25)) := by decide +kernel
theorem tr_op {k v so to : Int} (h : TR k v so to) : (so = 3 → (k = 1 ∨ (20 ≤ k ∧ k ≤ 32)) ∧ to = tv k) ∧ (20 ≤ k → so = 3) := by
  unfold TR at h
  rcases h with h | ⟨rfl, h, -⟩ | ⟨rfl, h, -⟩ | h | ⟨h1, h2, h3⟩ | ⟨rfl, h⟩ | ⟨rfl, h⟩ | ⟨rfl, h⟩
  · exact ⟨fun q => by omega, fun q => by omega⟩
  · refine ⟨fun q => ⟨Or.inl rfl, ?_⟩, fun q => by omega⟩
    rcases h with h | h
    · omega
    · rw [h.2]; rfl
  · exact ⟨fun q => by omega, fun q => by omega⟩
  · exact ⟨fun q => by omega, fun q => by omega⟩
  · refine ⟨fun _ => ⟨Or.inr ⟨h1.1, by omega⟩, ?_⟩, fun _ => h2⟩
    rw [h3]; unfold tv; rw [if_neg (by omega), if_neg (by omega), if_neg (by omega), if_neg (by omega)]
  · exact ⟨fun _ => ⟨Or.inr (by omega), by rw [h.2]; rfl⟩, fun _ => h.1⟩
  · exact ⟨fun _ => ⟨Or.inr (by omega), by rw [h.2]; rfl⟩, fun _ => h.1⟩
  · exact ⟨fun _ => ⟨Or.inr (by omega), by rw [h.2]; rfl⟩, fun _ => h.1⟩
theorem tr_v {k v so to : Int} (h : TR k v so to) (hs : so = 3) : (to = 40 ↔ k = 30) ∧ (to = 41 ↔ k = 31) ∧ (to = 59 ↔ k = 32) ∧ (to = 45 ↔ k = 27) ∧ (to = 43 ↔ k = 26) ∧ (to = 42 ↔ k = 28) ∧ (to = 47 ↔ k = 29) ∧ ((to = 60 ∨ to = 62 ∨ to = 61 ∨ to = 35 ∨ to = 300 ∨ to = 301) ↔ (20 ≤ k ∧ k ≤ 25)) := by
  obtain ⟨h1, h2⟩ := (tr_op h).1 hs
  obtain ⟨m, rfl⟩ := Int.eq_ofNat_of_zero_le (show 0 ≤ k by omega)
  have h3 := tv_v1 m (by omega) (by omega)
  have h4 := tv_v2 m (by omega) (by omega)
  have h5 := tv_v3 m (by omega) (by omega)
  rw [h2]
  exact ⟨h3.1.trans (by omega), h3.2.1.trans (by omega), h3.2.2.1.trans (by omega), h3.2.2.2.trans (by omega), h4.1.trans (by omega), h4.2.1.trans (by omega), h4.2.2.trans (by omega), h5.trans (by omega)⟩
theorem tr_wd {k v so to : Int} (h : TR k v so to) : (so = 1 ↔ 4 ≤ k ∧ k ≤ 19) ∧ (so = 1 → to = k - 4) ∧ (so = 2 ↔ k = 2) ∧ (so = 0 ↔ k = 0) := by
  unfold TR at h
  rcases h with h | h | h | h | ⟨h1, h2, h3⟩ | h | h | h <;> omega
theorem tr_num {v so to : Int} (h : TR 2 v so to) : so = 2 ∧ ((0 ≤ v ∧ v ≤ 9999 ∧ to = v) ∨ (v = 10000 ∧ 9999 < to ∧ to ≤ 2000000)) := by
  unfold TR at h
  rcases h with h | h | h | h | ⟨h1, h2, h3⟩ | h | h | h <;> omega
theorem tr_k {k v so to : Int} (h : TR k v so to) : 0 ≤ k ∧ k ≤ 32 := by
  unfold TR at h
  rcases h with h | h | h | h | ⟨h1, h2, h3⟩ | h | h | h <;> omega
theorem r_isSign {T : Tx} {D : Mem} {i : Nat} {s kk : Int} (hR : Rt0 T D i) (hs : (s = 40 ∧ kk = 30) ∨ (s = 41 ∧ kk = 31) ∨ (s = 59 ∧ kk = 32) ∨ (s = 45 ∧ kk = 27)) : fn_X11_isSign 71 s D = some (b2 (tK T i = kk)) := by
  have h1 := tr_so hR.2.2.2
  have h2 := tr_op hR.2.2.2
  have hk : 20 ≤ kk := by rcases hs with h | h | h | h <;> omega
  have hs3 : R3 s := by rcases hs with h | h | h | h <;> exact ⟨by omega, by omega⟩
  unfold fn_X11_isSign fn_X11_isSign_J20
  rw [cEq_if (by omega) (by omega) (by decide) (by decide)]
  by_cases q : D 71 16 = 3
  · have h3 := h1.2 (by omega) (by omega)
    have h4 := tr_v hR.2.2.2 q
    have h5 : D 71 17 = s ↔ tK T i = kk := by
      rcases hs with ⟨rfl, rfl⟩ | ⟨rfl, rfl⟩ | ⟨rfl, rfl⟩ | ⟨rfl, rfl⟩
      · exact h4.1
      · exact h4.2.1
      · exact h4.2.2.1
      · exact h4.2.2.2.1
    rw [if_pos q, cEq_if h3.1 h3.2 hs3.1 hs3.2]
    by_cases q2 : D 71 17 = s
    · rw [if_pos q2, b2_t (h5.mp q2)]
    · rw [if_neg q2, b2_f (fun h => q2 (h5.mpr h))]
  · rw [if_neg q, b2_f (fun h => q (h2.2 (by omega)))]
theorem r_isWord {T : Tx} {D : Mem} {i : Nat} {w : Int} (hR : Rt0 T D i) (hw : 0 ≤ w ∧ w ≤ 15) : fn_X11_isWord 71 w D = some (b2 (tK T i = w + 4)) := by
  have h1 := tr_so hR.2.2.2
  have h2 := tr_wd hR.2.2.2
  unfold fn_X11_isWord fn_X11_isWord_J20
  rw [cEq_if (by omega) (by omega) (by decide) (by decide)]
  by_cases q : D 71 16 = 1
  · have h3 := h1.2 (by omega) (by omega)
    have h4 := h2.2.1 q
    rw [if_pos q, cEq_if h3.1 h3.2 (by omega) (by omega)]
    by_cases q2 : D 71 17 = w
    · rw [if_pos q2, b2_t (by omega)]
    · rw [if_neg q2, b2_f (by omega)]
  · have h5 := h2.1
    rw [if_neg q, b2_f (by omega)]
/-! the reference's small steps -/
theorem Oq_s {D : Mem} {ord : List Int} {x : Int} (h : Oq D ord) (h0 : D 90 ord.length = oo x) (h1 : D 91 ord.length = ov x) : Oq D (ord ++ [x]) := fun j hj => by
  rw [List.length_append, List.length_singleton] at hj
  by_cases q : j = ord.length
  · rw [q, show (ord ++ [x]).getD ord.length 0 = x by simp]; exact ⟨h0, h1⟩
  · have := h j (by omega)
    rw [show (ord ++ [x]).getD j 0 = ord.getD j 0 by rw [List.getD_eq_getElem?_getD, List.getD_eq_getElem?_getD, List.getElem?_append_left (by omega)]]
    exact this
theorem r_emits {D : Mem} {op : Nat} {fr wo wf ord : List Int} {x a b : Int} (hR : Rst D op fr wo wf ord) (hl : ord.length < 400) (ha : a = oo x) (hb : b = ov x) : ∃ D', fn_X11_emits 71 a b D = some D' ∧ Rst D' op fr wo wf (ord ++ [x]) ∧ FD D D' ∧ (∀ i, i ≠ 34 → D' 71 i = D 71 i) ∧ (∀ k i, k ≠ 71 → k ≠ 90 → k ≠ 91 → D' k i = D k i) := by
  obtain ⟨r1, r2, ⟨r3, r4⟩, ⟨r5, r6, r7, r8⟩, r9, r10⟩ := hR
  unfold fn_X11_emits
  rw [r9, wr_eq (by omega) (by omega), Int.toNat_natCast]
  simp only [Nat.reduceAdd]
  have e1 : up D 90 ord.length a 71 34 = (ord.length : Int) := by rw [up_o (by decide)]; exact r9
  rw [e1, wr_eq (by omega) (by omega), Int.toNat_natCast, st_eq]
  have e2 : up (up D 90 ord.length a) 91 ord.length b 71 34 = (ord.length : Int) := by rw [up_o (by decide)]; exact e1
  rw [e2]
  generalize hG : up (up (up D 90 ord.length a) 91 ord.length b) 71 34 ((ord.length : Int) + 1) = G
  have o1 : ∀ i, i ≠ 34 → G 71 i = D 71 i := fun i hi => by rw [← hG, up_i, if_neg hi, up_o (by decide), up_o (by decide)]
  have o2 : ∀ k i, k ≠ 71 → k ≠ 90 → k ≠ 91 → G k i = D k i := fun k i h1 h2 h3 => by rw [← hG, up_o h1, up_o h3, up_o h2]
  have g90 : ∀ i, G 90 i = if i = ord.length then a else D 90 i := fun i => by rw [← hG, up_o (by decide), up_o (by decide), up_i]
  have g91 : ∀ i, G 91 i = if i = ord.length then b else D 91 i := fun i => by rw [← hG, up_o (by decide), up_i, up_o (by decide)]
  refine ⟨G, rfl, ⟨by rw [o1 18 (by decide)]; exact r1, by rw [o1 20 (by decide)]; exact r2, ⟨by rw [o1 21 (by decide)]; exact r3, Sk_same (fun i => o2 82 i (by decide) (by decide) (by decide)) r4⟩, ⟨by rw [o1 24 (by decide)]; exact r5, r6, Sk_same (fun i => o2 84 i (by decide) (by decide) (by decide)) r7, Sk_same (fun i => o2 85 i (by decide) (by decide) (by decide)) r8⟩, ?_, ?_⟩, ?_, o1, o2⟩
  · rw [← hG, up_i, if_pos rfl, List.length_append, List.length_singleton]; omega
  · refine Oq_s (fun j hj => ?_) (by rw [g90, if_pos rfl, ha]) (by rw [g91, if_pos rfl, hb])
    rw [g90, g91, if_neg (by omega), if_neg (by omega)]; exact r10 j hj
  · rw [← hG]; exact ((FD.rf.a (by omega)).a (by omega)).u (by omega)
