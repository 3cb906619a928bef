/-! ROWS of the reference -/
def Hd (M : Mem) (n : Nat) (g : Nat → Int) (e : Nat) : Prop := M 72 0 = (n : Int) ∧ n ≤ 10 ∧ (∀ h, h < n → M 72 (10 + h) = g h ∧ 1 ≤ g h ∧ g h ≤ 30) ∧ M 72 4 = (e : Int) ∧ e ≤ 9
theorem Hd_f {M M' : Mem} {n e : Nat} {g : Nat → Int} (h : ∀ i, M' 72 i = M 72 i) (hH : Hd M n g e) : Hd M' n g e := by
  unfold Hd at hH ⊢; simp only [h]; exact hH
def Wi (n : Nat) (g : Nat → Int) (wo : Int) (x : Nat) : Int := Wn n g wo (x / 3971) ((x / 361 % 11 : Nat) : Int) ((x % 361 : Nat) : Int)
set_option maxRecDepth 20000 in
theorem q_lay47 {n e : Nat} {g : Nat → Int} {wo u : Int} {M : Mem} {k l s : Nat} {rec20 : Int → Mem → Option Mem} (hH : Hd M n g e) (hk : k ≤ 12) (hl : l < 11) (hs : s < 361) (hwo : -1 ≤ wo ∧ wo ≤ 10) (hM : ∀ x, x < k * 3971 → M 94 x = Wi n g wo x) (hu : k = 0 ∨ u = 0) :
    lq2 (fn_X11_laysRows_L47 71 wo k l s M rec20) FU 0 u = fn_X11_laysRows_J123 71 k l s M rec20 (if k = 0 then u else Wn n g wo k l s) := by
  obtain ⟨h0, hn, hg, he, he9⟩ := hH
  by_cases qk : k = 0
  · subst qk
    rw [if_pos rfl]
    show fn_X11_laysRows_L47 71 wo _ l s M rec20 _ 0 u = _
    unfold fn_X11_laysRows_L47
    simp (disch := omega) only [rd_eq (i := 0), Nat.reduceAdd, Int.reduceToNat, h0, cLt_if]
    split
    · rw [if_neg (by omega)]
    · rfl
  · rw [if_neg qk]
    obtain ⟨k, rfl⟩ : ∃ k', k = k' + 1 := ⟨k - 1, by omega⟩
    have hu : u = 0 := by omega
    refine lr2 (P := fun o => o = fn_X11_laysRows_J123 71 ((k + 1 : Nat) : Int) l s M rec20 (Wn n g wo (k + 1) l s)) (I := fun r a v => ∃ h : Nat, h + r = n ∧ a = (h : Int) ∧ v = sm h (fun h => if (h : Int) = l ∨ (h : Int) = wo then 0 else Wn n g wo k h (s - g h))) ?_ n FU 0 u (lt_FU (by omega)) ⟨0, by omega, rfl, hu⟩
    rintro r a v rec ⟨h, e1, rfl, e2⟩ ih
    unfold fn_X11_laysRows_L47 fn_X11_laysRows_J117
    simp (disch := omega) only [rd_eq (i := 0), Nat.reduceAdd, Int.reduceToNat, h0, cLt_if (y := (n : Int)), nm_eq]
    by_cases q : (h : Int) < (n : Int)
    · rw [if_pos q]
      obtain ⟨r, rfl⟩ : ∃ r', r = r' + 1 := ⟨r - 1, by omega⟩
      obtain ⟨g1, g2, g3⟩ := hg h (by omega)
      have key : ∀ v', v' = v + (if (h : Int) = l ∨ (h : Int) = wo then 0 else Wn n g wo k h (s - g h)) → rec ((h : Int) + 1) v' = fn_X11_laysRows_J123 71 ((k + 1 : Nat) : Int) l s M rec20 (Wn n g wo (k + 1) l s) := fun v' hv => ih r _ _ (by omega) ⟨h + 1, by omega, by omega, by rw [hv, e2]; rfl⟩
      rw [cLt_if (by decide) (by decide) (by omega) (by omega), if_pos (by omega), rd_eq (by omega) (by omega), show (10 + (h : Int)).toNat = 10 + h by omega, g1, cEq_if (by omega) (by omega) (by omega) (by omega)]
      by_cases q1 : (h : Int) = l
      · rw [if_pos q1]; exact key _ (by rw [if_pos (Or.inl q1)]; omega)
      rw [if_neg q1, cEq_if (by omega) (by omega) (by omega) (by omega)]
      by_cases q2 : (h : Int) = wo
      · rw [if_pos q2]; exact key _ (by rw [if_pos (Or.inr q2)]; omega)
      rw [if_neg q2, cLt_if (by omega) (by omega) (by omega) (by omega)]
      by_cases q3 : (s : Int) < g h
      · rw [if_pos q3]; exact key _ (by rw [if_neg (by omega), Wn_neg (fun h hh => (hg h hh).2.1) (by omega)]; omega)
      rw [if_neg q3]
      obtain ⟨gn, hgn⟩ := Int.eq_ofNat_of_zero_le (show 0 ≤ g h by omega)
      have hx := hM ((k * 11 + h) * 361 + (s - gn)) (by omega)
      unfold fn_X11_cell
      rw [cu_s, rd_eq (by omega) (by omega), show ((((((k + 1 : Nat) : Int) - 1) * 11) + (h : Int)) * 361 + ((s : Int) - g h)).toNat = (k * 11 + h) * 361 + (s - gn) by omega, hx]
      refine key _ ?_
      rw [if_neg (by omega)]
      unfold Wi
      rw [show ((k * 11 + h) * 361 + (s - gn)) / 3971 = k by omega, show ((k * 11 + h) * 361 + (s - gn)) / 361 % 11 = h by omega, show ((k * 11 + h) * 361 + (s - gn)) % 361 = s - gn by omega, show ((s - gn : Nat) : Int) = (s : Int) - g h by omega]
    · rw [if_neg q]
      obtain rfl : h = n := by omega
      rw [e2]; rfl
set_option maxRecDepth 20000 in
theorem q_lay20 {n e : Nat} {g : Nat → Int} {wo : Int} {M : Mem} {k l : Nat} {rec10 : Int → Mem → Option Mem} (hH : Hd M n g e) (hk : k ≤ 12) (hl : l < 11) (hwo : -1 ≤ wo ∧ wo ≤ 10) (hM : ∀ x, x < (k * 11 + l) * 361 → M 94 x = Wi n g wo x) :
    ∃ M', lq2 (fn_X11_laysRows_L20 71 wo k l rec10) FU 0 M = fn_X11_laysRows_J144 l rec10 M' ∧ (∀ c i, c ≠ 94 → M' c i = M c i) ∧ ∀ x, x < (k * 11 + l + 1) * 361 → M' 94 x = Wi n g wo x := by
  refine lr2 (P := fun o => ∃ M', o = fn_X11_laysRows_J144 l rec10 M' ∧ (∀ c i, c ≠ 94 → M' c i = M c i) ∧ ∀ x, x < (k * 11 + l + 1) * 361 → M' 94 x = Wi n g wo x) (I := fun r a E => ∃ s : Nat, s + r = 361 ∧ a = (s : Int) ∧ (∀ c i, c ≠ 94 → E c i = M c i) ∧ ∀ x, x < (k * 11 + l) * 361 + s → E 94 x = Wi n g wo x) ?_ 361 FU 0 M (lt_FU (by omega)) ⟨0, by omega, rfl, fun _ _ _ => rfl, fun x hx => hM x (by omega)⟩
  rintro r a E rec ⟨s, e1, rfl, e2, e3⟩ ih
  unfold fn_X11_laysRows_L20
  rw [cLt_if (by omega) (by omega) (by decide) (by decide)]
  by_cases q : (s : Int) < 361
  · rw [if_pos q]
    obtain ⟨r, rfl⟩ : ∃ r', r = r' + 1 := ⟨r - 1, by omega⟩
    have hE : Hd E n g e := Hd_f (fun i => e2 72 i (by decide)) hH
    have key : fn_X11_laysRows_J123 71 k l s E rec (Wn n g wo k l s) = rec ((s : Int) + 1) (up E 94 ((k * 11 + l) * 361 + s) (Wn n g wo k l s)) := by
      unfold fn_X11_laysRows_J123 fn_X11_cell
      rw [cu_s, wr_eq (by omega) (by omega), nm_eq]
      rw [show ((((k : Int) * 11) + (l : Int)) * 361 + (s : Int)).toNat = (k * 11 + l) * 361 + s by omega]
    have fin : ∃ M', rec ((s : Int) + 1) (up E 94 ((k * 11 + l) * 361 + s) (Wn n g wo k l s)) = fn_X11_laysRows_J144 l rec10 M' ∧ (∀ c i, c ≠ 94 → M' c i = M c i) ∧ ∀ x, x < (k * 11 + l + 1) * 361 → M' 94 x = Wi n g wo x := by
      refine ih r _ _ (by omega) ⟨s + 1, by omega, by omega, fun c i hc => by rw [up_o hc]; exact e2 c i hc, fun x hx => ?_⟩
      rw [up_i]
      by_cases q2 : x = (k * 11 + l) * 361 + s
      · rw [if_pos q2, q2]; unfold Wi
        rw [show ((k * 11 + l) * 361 + s) / 3971 = k by omega, show ((k * 11 + l) * 361 + s) / 361 % 11 = l by omega, show ((k * 11 + l) * 361 + s) % 361 = s by omega]
      · rw [if_neg q2]; exact e3 x (by omega)
    have hsub : ∀ x, x < k * 3971 → E 94 x = Wi n g wo x := fun x hx => e3 x (by omega)
    rw [cEq_if (by omega) (by omega) (by decide) (by decide)]
    by_cases q1 : k = 0
    · rw [if_pos (by omega), cEq_if (by omega) (by omega) (by decide) (by decide)]
      by_cases q2 : s = 0
      · rw [if_pos (by omega)]
        unfold fn_X11_laysRows_J42
        rw [q_lay47 hE hk hl (by omega) hwo hsub (Or.inl q1), if_pos q1, show (1 : Int) = Wn n g wo k l s by rw [q1]; unfold Wn; rw [if_pos (by omega)], key]
        exact fin
      · rw [if_neg (by omega)]
        unfold fn_X11_laysRows_J41 fn_X11_laysRows_J42
        rw [q_lay47 hE hk hl (by omega) hwo hsub (Or.inl q1), if_pos q1, show (0 : Int) = Wn n g wo k l s by rw [q1]; unfold Wn; rw [if_neg (by omega)], key]
        exact fin
    · rw [if_neg (by omega)]
      unfold fn_X11_laysRows_J41 fn_X11_laysRows_J42
      rw [q_lay47 hE hk hl (by omega) hwo hsub (Or.inr rfl), if_neg q1, key]
      exact fin
  · rw [if_neg q]
    exact ⟨E, rfl, e2, fun x hx => e3 x (by omega)⟩
set_option maxRecDepth 20000 in
theorem q_lay10 {n e : Nat} {g : Nat → Int} {wo : Int} {M : Mem} {k : Nat} {rec2 : Int → Mem → Option Mem} (hH : Hd M n g e) (hk : k ≤ 12) (hwo : -1 ≤ wo ∧ wo ≤ 10) (hM : ∀ x, x < k * 3971 → M 94 x = Wi n g wo x) :
    ∃ M', lq2 (fn_X11_laysRows_L10 71 wo k rec2) FU 0 M = fn_X11_laysRows_J150 k rec2 M' ∧ (∀ c i, c ≠ 94 → M' c i = M c i) ∧ ∀ x, x < (k + 1) * 3971 → M' 94 x = Wi n g wo x := by
  refine lr2 (P := fun o => ∃ M', o = fn_X11_laysRows_J150 k rec2 M' ∧ (∀ c i, c ≠ 94 → M' c i = M c i) ∧ ∀ x, x < (k + 1) * 3971 → M' 94 x = Wi n g wo x) (I := fun r a E => ∃ l : Nat, l + r = 11 ∧ a = (l : Int) ∧ (∀ c i, c ≠ 94 → E c i = M c i) ∧ ∀ x, x < (k * 11 + l) * 361 → E 94 x = Wi n g wo x) ?_ 11 FU 0 M (lt_FU (by omega)) ⟨0, by omega, rfl, fun _ _ _ => rfl, fun x hx => hM x (by omega)⟩
  rintro r a E rec ⟨l, e1, rfl, e2, e3⟩ ih
  unfold fn_X11_laysRows_L10
  rw [cLt_if (by omega) (by omega) (by decide) (by decide)]
  by_cases q : (l : Int) < 11
  · rw [if_pos q]
    obtain ⟨r, rfl⟩ : ∃ r', r = r' + 1 := ⟨r - 1, by omega⟩
    obtain ⟨E', f1, f2, f3⟩ := q_lay20 (rec10 := rec) (Hd_f (fun i => e2 72 i (by decide)) hH) hk (show l < 11 by omega) hwo e3
    rw [f1]
    unfold fn_X11_laysRows_J144
    rw [nm_eq]
    exact ih r _ _ (by omega) ⟨l + 1, by omega, by omega, fun c i hc => by rw [f2 c i hc]; exact e2 c i hc, fun x hx => f3 x (by omega)⟩
  · rw [if_neg q]
    exact ⟨E, rfl, e2, fun x hx => e3 x (by omega)⟩
/-- the reference's table -/
def La (M : Mem) (n : Nat) (g : Nat → Int) (wo : Int) (K : Nat) : Prop := ∀ x, x < K * 3971 → M 94 x = Wi n g wo x
def S94 (M M' : Mem) : Prop := ∀ c i, c ≠ 94 → M' c i = M c i
set_option maxRecDepth 20000 in
theorem q_laysRows {n e : Nat} {g : Nat → Int} {wo : Int} {M : Mem} {k : Nat} (hH : Hd M n g e) (hk : k ≤ 12) (hwo : -1 ≤ wo ∧ wo ≤ 10) :
    ∃ M', fn_X11_laysRows 71 k wo M = some M' ∧ S94 M M' ∧ La M' n g wo (k + 1) := by
  unfold fn_X11_laysRows
  refine lr2 (P := fun o => ∃ M', o = some M' ∧ S94 M M' ∧ La M' n g wo (k + 1)) (I := fun r a E => ∃ l : Nat, l + r = k + 1 ∧ a = (l : Int) ∧ S94 M E ∧ La E n g wo l) ?_ (k + 1) FU 0 M (lt_FU (by omega)) ⟨0, by omega, rfl, fun _ _ _ => rfl, fun x hx => by omega⟩
  rintro r a E rec ⟨l, e1, rfl, e2, e3⟩ ih
  unfold fn_X11_laysRows_L2
  rw [cLt_if (by omega) (by omega) (by omega) (by omega)]
  by_cases q : (k : Int) < (l : Int)
  · rw [if_pos q]
    obtain rfl : l = k + 1 := by omega
    exact ⟨E, rfl, e2, e3⟩
  · rw [if_neg q]
    obtain ⟨r, rfl⟩ : ∃ r', r = r' + 1 := ⟨r - 1, by omega⟩
    obtain ⟨E', f1, f2, f3⟩ := q_lay10 (rec2 := rec) (Hd_f (fun i => e2 72 i (by decide)) hH) (show l ≤ 12 by omega) hwo e3
    rw [f1]
    unfold fn_X11_laysRows_J150
    rw [nm_eq]
    exact ih r _ _ (by omega) ⟨l + 1, by omega, by omega, fun c i hc => by rw [f2 c i hc]; exact e2 c i hc, f3⟩
set_option maxRecDepth 20000 in
theorem q_rowsOf {n e : Nat} {g : Nat → Int} {wo x : Int} {M : Mem} {K k l : Nat} (hH : Hd M n g e) (hM : La M n g wo K) (hk : k < K) (hK : K ≤ 13) (hl : l < 11) (hx : -100000 ≤ x ∧ x ≤ 1000000) : fn_X11_rowsOf 71 k l x M = some (Ro n g wo e k l x) := by
  obtain ⟨h0, hn, hg, he, he9⟩ := hH
  unfold fn_X11_rowsOf
  rw [rd_eq (by decide) (by decide), show (4 : Int).toNat = 4 from rfl, show 71 + 1 = 72 from rfl, he, nm_eq]
  refine lr2 (P := fun o => o = some (Ro n g wo e k l x)) (I := fun r a v => ∃ i : Nat, i + r = 2 * e + 1 ∧ a = x - e + (i : Int) ∧ v = sm i (fun i => Wn n g wo k l (x - e + (i : Int)))) ?_ (2 * e + 1) FU _ 0 (lt_FU (by omega)) ⟨0, by omega, by omega, rfl⟩
  rintro r a v rec ⟨i, e1, e2, e3⟩ ih
  unfold fn_X11_rowsOf_L13 fn_X11_rowsOf_J56
  simp only [nm_eq]
  rw [rd_eq (by decide) (by decide), show (4 : Int).toNat = 4 from rfl, show 71 + 1 = 72 from rfl, he, cLt_if (by omega) (by omega) (by omega) (by omega)]
  by_cases q : x + (e : Int) < a
  · rw [if_pos q]
    obtain rfl : i = 2 * e + 1 := by omega
    rw [e3]; rfl
  · rw [if_neg q]
    obtain ⟨r, rfl⟩ : ∃ r', r = r' + 1 := ⟨r - 1, by omega⟩
    have key : ∀ v', v' = v + Wn n g wo k l a → rec (a + 1) v' = some (Ro n g wo e k l x) := fun v' hv => ih r _ _ (by omega) ⟨i + 1, by omega, by omega, by rw [hv, e3, e2]; rfl⟩
    rw [p_in ⟨by omega, by omega⟩ ⟨by decide, by decide⟩ ⟨by decide, by decide⟩, cu_s, cE_b2]
    by_cases q1 : 0 ≤ a ∧ a ≤ 360
    · rw [if_pos q1]
      unfold fn_X11_cell
      obtain ⟨b, hb⟩ := Int.eq_ofNat_of_zero_le q1.1
      rw [cu_s, rd_eq (by omega) (by omega), show ((((k : Int) * 11) + (l : Int)) * 361 + a).toNat = (k * 11 + l) * 361 + b by omega, hM _ (by omega)]
      refine key _ ?_
      unfold Wi
      rw [show ((k * 11 + l) * 361 + b) / 3971 = k by omega, show ((k * 11 + l) * 361 + b) / 361 % 11 = l by omega, show ((k * 11 + l) * 361 + b) % 361 = b by omega, ← hb]
    · rw [if_neg q1]
      refine key _ ?_
      by_cases q2 : a < 0
      · rw [Wn_neg (fun h hh => (hg h hh).2.1) q2]
      · rw [Wn_big (fun h hh => (hg h hh).2.2) (by omega)]
theorem q_rowsAll {n e : Nat} {g : Nat → Int} {wo x : Int} {M : Mem} {K l lo hi : Nat} (hH : Hd M n g e) (hM : La M n g wo K) (hk : hi < K) (hlo : lo ≤ hi) (hK : K ≤ 13) (hl : l < 11) (hx : -100000 ≤ x ∧ x ≤ 1000000) : fn_X11_rowsAll 71 l x lo hi M = some (Ra n g wo e lo (hi + 1 - lo) l x) := by
  unfold fn_X11_rowsAll
  refine lr2 (P := fun o => o = some (Ra n g wo e lo (hi + 1 - lo) l x)) (I := fun r a v => ∃ i : Nat, i + r = hi + 1 - lo ∧ a = ((lo + i : Nat) : Int) ∧ v = sm i (fun i => Ro n g wo e (lo + i) l x)) ?_ (hi + 1 - lo) FU _ 0 (lt_FU (by omega)) ⟨0, by omega, by omega, rfl⟩
  rintro r a v rec ⟨i, e1, e2, e3⟩ ih
  unfold fn_X11_rowsAll_L6
  simp only [nm_eq]
  rw [cLt_if (by omega) (by omega) (by omega) (by omega)]
  by_cases q : (hi : Int) < a
  · rw [if_pos q]
    obtain rfl : i = hi + 1 - lo := by omega
    rw [e3]; rfl
  · rw [if_neg q]
    obtain ⟨r, rfl⟩ : ∃ r', r = r' + 1 := ⟨r - 1, by omega⟩
    rw [e2, q_rowsOf hH hM (by omega) hK hl hx, cu_s]
    exact ih r _ _ (by omega) ⟨i + 1, by omega, by omega, by rw [e3]; rfl⟩
