/-! odds, told -/
def pr : Nat → (Nat → Int) → Int
  | 0, _ => 1
  | n + 1, f => pr n f * f n
theorem pr_s {n : Nat} {f : Nat → Int} : pr (n + 1) f = pr n f * f n := rfl
theorem pr_bd {k : Nat} {f : Nat → Int} (h : ∀ i, i < k → 0 ≤ f i ∧ f i ≤ 50000) : 0 ≤ pr k f ∧ pr k f ≤ 50000 ^ k := by
  induction k with
  | zero => exact ⟨show (0 : Int) ≤ 1 by decide, show (1 : Int) ≤ 50000 ^ 0 by decide⟩
  | succ k ih =>
    have h1 := ih (fun i hi => h i (by omega))
    have h2 := h k (by omega)
    rw [pr_s, Int.pow_succ]
    exact ⟨Int.mul_nonneg h1.1 h2.1, Int.mul_le_mul h1.2 h2.2 h2.1 (Int.pow_nonneg (by decide))⟩
theorem pr_bd4 {k : Nat} {f : Nat → Int} (hk : k ≤ 4) (h : ∀ i, i < k → 0 ≤ f i ∧ f i ≤ 50000) : 0 ≤ pr k f ∧ pr k f ≤ 6250000000000000000 := by
  have h1 := pr_bd h
  refine ⟨h1.1, Int.le_trans h1.2 ?_⟩
  have : k = 0 ∨ k = 1 ∨ k = 2 ∨ k = 3 ∨ k = 4 := by omega
  rcases this with rfl | rfl | rfl | rfl | rfl <;> decide
theorem pr_z {k : Nat} {f : Nat → Int} : pr k f = 0 ↔ ∃ i, i < k ∧ f i = 0 := by
  induction k with
  | zero => exact ⟨fun h => absurd (show (1 : Int) = 0 from h) (by decide), fun ⟨i, hi, _⟩ => by omega⟩
  | succ k ih =>
    rw [pr_s, Int.mul_eq_zero, ih]
    constructor
    · rintro (⟨i, a, b⟩ | h)
      · exact ⟨i, by omega, b⟩
      · exact ⟨k, by omega, h⟩
    · rintro ⟨i, a, b⟩
      by_cases q : i = k
      · subst q; exact Or.inr b
      · exact Or.inl ⟨i, by omega, b⟩
/-- the PURSE on both sides -/
def Pu (M : Mem) (n m : Nat) (bg : Nat → Nat) (gn : Nat → Int) : Prop := (M 1 16 = (m : Int) ∧ M 72 8 = (m : Int) ∧ m ≤ 4) ∧ ∀ k, k < m → (M 13 k = (bg k : Int) ∧ M 14 k = gn k) ∧ (M 72 (280 + 2 * k) = (bg k : Int) ∧ M 72 (281 + 2 * k) = gn k) ∧ bg k < n ∧ 0 ≤ gn k ∧ gn k ≤ 999
theorem Pu_q {M M' : Mem} {n m : Nat} {bg : Nat → Nat} {gn : Nat → Int} (h : Fq M M') (hP : Pu M n m bg gn) : Pu M' n m bg gn := by
  unfold Pu at hP ⊢
  rw [h 1 16 (by decide) (by decide), h 72 8 (by decide) (by decide)]
  refine ⟨hP.1, fun k hk => ?_⟩
  rw [h 13 _ (by decide) (by decide), h 14 _ (by decide) (by decide), h 72 _ (by decide) (by decide), h 72 _ (by decide) (by decide)]
  exact hP.2 k hk
def S96 (M M' : Mem) : Prop := ∀ c i, c ≠ 94 → c ≠ 95 → c ≠ 96 → M' c i = M c i
theorem Fq_96 {M M' : Mem} (h : S96 M M') : Fq M M' := fun k i a b => h k i (by omega) (by omega) (by omega)
theorem TV_96 {M M' : Mem} (h : S96 M M') (hV : TV M) : TV M' := TV_f (fun i => h 0 i (by decide) (by decide) (by decide)) (fun k i a b => h k i (by omega) (by omega) (by omega)) hV
theorem S96.tr {M M' M'' : Mem} (h : S96 M M') (h' : S96 M' M'') : S96 M M'' := fun k i a b c => (h' k i a b c).trans (h k i a b c)
theorem S96_94 {M M' : Mem} (h : S94 M M') : S96 M M' := fun k i a _ _ => h k i a
theorem q_whole {M : Mem} {n e m lo hi : Nat} {g : Nat → Int} {bg : Nat → Nat} {gn : Nat → Int} (hD : Hd M n g e) (hP : Pu M n m bg gn) (hlo : lo ≤ hi) (hhi : hi ≤ 4) :
    ∃ M', fn_X11_laysWhole 71 lo hi M = some (pr m (fun k => Ra n g (-1) e lo (hi + 1 - lo) (bg k) (gn k)), M') ∧ S96 M M' ∧ ∀ k, k < m → M' 95 k = Ra n g (-1) e lo (hi + 1 - lo) (bg k) (gn k) := by
  have hn := hD.2.1
  obtain ⟨M1, l1, l2, l3⟩ := q_laysRows (wo := -1) (k := hi) hD (by omega) (by omega)
  unfold fn_X11_laysWhole
  rw [l1, cv_s]
  refine lr3 (P := fun o => ∃ M', o = some (pr m (fun k => Ra n g (-1) e lo (hi + 1 - lo) (bg k) (gn k)), M') ∧ S96 M M' ∧ ∀ k, k < m → M' 95 k = Ra n g (-1) e lo (hi + 1 - lo) (bg k) (gn k)) (I := fun q a v E => ∃ j : Nat, j + q = m ∧ a = (j : Int) ∧ v = pr j (fun k => Ra n g (-1) e lo (hi + 1 - lo) (bg k) (gn k)) ∧ (∀ c i, c ≠ 95 → E c i = M1 c i) ∧ ∀ k, k < j → E 95 k = Ra n g (-1) e lo (hi + 1 - lo) (bg k) (gn k)) ?_ m FU 0 1 M1 (lt_FU (by have := hP.1.2.2; omega)) ⟨0, by omega, rfl, rfl, fun _ _ _ => rfl, fun k hk => by omega⟩
  rintro q a v E rec ⟨j, e1, rfl, e2, e3, e4⟩ ih
  have hF : Fq M E := (Fq_94 l2).tr (fun k i a b => e3 k i (by omega))
  obtain ⟨⟨p1, p2, p3⟩, p4⟩ := Pu_q hF hP
  have hE : Hd E n g e := Hd_q hF hD
  have lE : La E n g (-1) (hi + 1) := fun x hx => by rw [e3 94 x (by decide)]; exact l3 x hx
  unfold fn_X11_laysWhole_L11
  simp only [nm_eq]
  rw [rd_eq (by decide) (by decide), show (8 : Int).toNat = 8 from rfl, show 71 + 1 = 72 from rfl, p2, cLt_if (by omega) (by omega) (by omega) (by omega)]
  by_cases q1 : (j : Int) < (m : Int)
  · obtain ⟨q, rfl⟩ : ∃ r', q = r' + 1 := ⟨q - 1, by omega⟩
    obtain ⟨-, ⟨b1, b2⟩, b3, b4⟩ := p4 j (by omega)
    rw [if_pos q1, rd_eq (by omega) (by omega), rd_eq (by omega) (by omega), show (280 + 2 * (j : Int)).toNat = 280 + 2 * j by omega, show (280 + 2 * (j : Int) + 1).toNat = 281 + 2 * j by omega, b1, b2, q_rowsAll hE lE (by omega) hlo (by omega) (by omega) (by omega), cu_s, wr_eq (by omega) (by omega), rd_eq (by omega) (by omega), Int.toNat_natCast, show 71 + 24 = 95 from rfl, up_i, if_pos rfl]
    refine ih q _ _ _ (by omega) ⟨j + 1, by omega, by omega, by rw [e2, pr_s], fun c i hc => by rw [up_o hc]; exact e3 c i hc, fun k hk => ?_⟩
    rw [up_i]
    by_cases q2 : k = j
    · rw [if_pos q2, q2]
    · rw [if_neg q2]; exact e4 k (by omega)
  · rw [if_neg q1]
    obtain rfl : j = m := by omega
    exact ⟨E, by rw [e2], fun c i a b c' => by rw [e3 c i b]; exact l2 c i a, e4⟩
theorem q_part {M : Mem} {n e m lo hi h : Nat} {g : Nat → Int} {bg : Nat → Nat} {gn : Nat → Int} (hD : Hd M n g e) (hP : Pu M n m bg gn) (hlo : lo ≤ hi) (hhi : hi ≤ 4) (hh : h < 10) (hw : ∀ k, k < m → M 95 k = Ra n g (-1) e lo (hi + 1 - lo) (bg k) (gn k)) :
    ∃ M', fn_X11_laysPart 71 h lo hi M = some (pr m (fun k => Ra n g (-1) e lo (hi + 1 - lo) (bg k) (gn k) - Ra n g h e lo (hi + 1 - lo) (bg k) (gn k)), M') ∧ S96 M M' ∧ (∀ i, M' 95 i = M 95 i) ∧ ∀ k, k < m → M' 96 k = Ra n g (-1) e lo (hi + 1 - lo) (bg k) (gn k) - Ra n g h e lo (hi + 1 - lo) (bg k) (gn k) := by
  have hn := hD.2.1
  obtain ⟨M1, l1, l2, l3⟩ := q_laysRows (wo := (h : Int)) (k := hi) hD (by omega) (by omega)
  unfold fn_X11_laysPart
  rw [l1, cv_s]
  refine lr3 (P := fun o => ∃ M', o = some (pr m (fun k => Ra n g (-1) e lo (hi + 1 - lo) (bg k) (gn k) - Ra n g h e lo (hi + 1 - lo) (bg k) (gn k)), M') ∧ S96 M M' ∧ (∀ i, M' 95 i = M 95 i) ∧ ∀ k, k < m → M' 96 k = Ra n g (-1) e lo (hi + 1 - lo) (bg k) (gn k) - Ra n g h e lo (hi + 1 - lo) (bg k) (gn k)) (I := fun q a v E => ∃ j : Nat, j + q = m ∧ a = (j : Int) ∧ v = pr j (fun k => Ra n g (-1) e lo (hi + 1 - lo) (bg k) (gn k) - Ra n g h e lo (hi + 1 - lo) (bg k) (gn k)) ∧ (∀ c i, c ≠ 96 → E c i = M1 c i) ∧ ∀ k, k < j → E 96 k = Ra n g (-1) e lo (hi + 1 - lo) (bg k) (gn k) - Ra n g h e lo (hi + 1 - lo) (bg k) (gn k)) ?_ m FU 0 1 M1 (lt_FU (by have := hP.1.2.2; omega)) ⟨0, by omega, rfl, rfl, fun _ _ _ => rfl, fun k hk => by omega⟩
  rintro q a v E rec ⟨j, e1, rfl, e2, e3, e4⟩ ih
  have hF : Fq M E := (Fq_94 l2).tr (fun k i a b => e3 k i (by omega))
  obtain ⟨⟨p1, p2, p3⟩, p4⟩ := Pu_q hF hP
  have hE : Hd E n g e := Hd_q hF hD
  have lE : La E n g h (hi + 1) := fun x hx => by rw [e3 94 x (by decide)]; exact l3 x hx
  unfold fn_X11_laysPart_L12
  simp only [nm_eq]
  rw [rd_eq (by decide) (by decide), show (8 : Int).toNat = 8 from rfl, show 71 + 1 = 72 from rfl, p2, cLt_if (by omega) (by omega) (by omega) (by omega)]
  by_cases q1 : (j : Int) < (m : Int)
  · obtain ⟨q, rfl⟩ : ∃ r', q = r' + 1 := ⟨q - 1, by omega⟩
    obtain ⟨-, ⟨b1, b2⟩, b3, b4⟩ := p4 j (by omega)
    have w1 : E 95 j = Ra n g (-1) e lo (hi + 1 - lo) (bg j) (gn j) := by rw [e3 95 j (by decide), l2 95 j (by decide)]; exact hw j (by omega)
    rw [if_pos q1, rd_eq (by omega) (by omega), rd_eq (by omega) (by omega), rd_eq (by omega) (by omega), show (280 + 2 * (j : Int)).toNat = 280 + 2 * j by omega, show (280 + 2 * (j : Int) + 1).toNat = 281 + 2 * j by omega, b1, b2, Int.toNat_natCast, show 71 + 24 = 95 from rfl, w1, q_rowsAll hE lE (by omega) hlo (by omega) (by omega) (by omega), cu_s, wr_eq (by omega) (by omega), rd_eq (by omega) (by omega), Int.toNat_natCast, show 71 + 25 = 96 from rfl, up_i, if_pos rfl]
    refine ih q _ _ _ (by omega) ⟨j + 1, by omega, by omega, by rw [e2, pr_s], fun c i hc => by rw [up_o hc]; exact e3 c i hc, fun k hk => ?_⟩
    rw [up_i]
    by_cases q2 : k = j
    · rw [if_pos q2, q2]
    · rw [if_neg q2]; exact e4 k (by omega)
  · rw [if_neg q1]
    obtain rfl : j = m := by omega
    exact ⟨E, by rw [e2], fun c i a b c' => by rw [e3 c i c']; exact l2 c i a, fun i => by rw [e3 95 i (by decide)]; exact l2 95 i (by decide), e4⟩
/-! the greatest common divisor -/
theorem tmod_nat {x y : Nat} : ((x : Int)).tmod (y : Int) = ((x % y : Nat) : Int) := by
  rw [Int.tmod_eq_emod_of_nonneg (by omega)]; omega
theorem eu_b {X Y b : Nat} (h : Y < X) (h2 : X < 2 ^ (b + 1)) (h0 : 0 < Y) : X % Y < 2 ^ b := by
  have h3 := Nat.mod_lt X h0
  have h4 : X % Y ≤ X - Y := by
    have := Nat.mod_eq_sub_mod (Nat.le_of_lt h)
    rw [this]; exact Nat.mod_le _ _
  rw [Nat.pow_succ] at h2
  omega
/-- the state of the division: under way with b doublings left -/
def Eu (G : Nat) (q X Y : Nat) : Prop := Nat.gcd X Y = G ∧ ((∃ b, q = 2 * b + 1 ∧ Y < 2 ^ b) ∨ (∃ b, q = 2 * b + 2 ∧ Y < X ∧ X < 2 ^ (b + 1)))
theorem Eu_s {G q X Y : Nat} (h : Eu G q X Y) (h0 : Y ≠ 0) : 1 ≤ q ∧ ∃ q', q' < q ∧ q' + 1 = q ∧ Eu G q' Y (X % Y) := by
  obtain ⟨h1, h2⟩ := h
  have hg : Nat.gcd Y (X % Y) = G := by rw [← h1, Nat.gcd_comm X Y, Nat.gcd_rec Y X, Nat.gcd_comm]
  rcases h2 with ⟨b, rfl, h3⟩ | ⟨b, rfl, h3, h4⟩
  · cases b with
    | zero => simp at h3; omega
    | succ b => exact ⟨by omega, 2 * b + 2, by omega, by omega, hg, Or.inr ⟨b, rfl, Nat.mod_lt _ (by omega), h3⟩⟩
  · exact ⟨by omega, 2 * b + 1, by omega, by omega, hg, Or.inl ⟨b, rfl, eu_b h3 h4 (by omega)⟩⟩
theorem Eu_0 {G q X : Nat} (h : Eu G q X 0) : X = G := by rw [← h.1, Nat.gcd_zero_right]
theorem p_gcd {U V : Nat} {M : Mem} (hU : U < 9000000000000000000) (hV : V < 9000000000000000000) : fn_X10_commonDivisor U V M = some ((Nat.gcd U V : Nat) : Int) := by
  unfold fn_X10_commonDivisor
  refine lr3 (P := fun o => o = some ((Nat.gcd U V : Nat) : Int)) (I := fun q a b c => ∃ X Y i : Nat, a = (i : Int) ∧ b = (Y : Int) ∧ c = (X : Int) ∧ (X < 9000000000000000000 ∧ Y < 9000000000000000000) ∧ Eu (Nat.gcd U V) q X Y ∧ i + q ≤ 200) ?_ 127 FU 0 V U (lt_FU (by decide)) ⟨U, V, 0, rfl, rfl, rfl, ⟨hU, hV⟩, ⟨rfl, Or.inl ⟨63, rfl, by omega⟩⟩, by decide⟩
  rintro q a b c rec ⟨X, Y, i, rfl, rfl, rfl, e1, e2, e3⟩ ih
  unfold fn_X10_commonDivisor_L9
  simp only [nm_eq]
  have hq : 1 ≤ q := by rcases e2.2 with ⟨b, h, _⟩ | ⟨b, h, _⟩ <;> omega
  rw [cLt_if (by omega) (by omega) (by decide) (by decide), if_pos (by omega), dEq_if (by omega) (by omega) (by decide) (by decide)]
  by_cases q1 : Y = 0
  · subst q1
    rw [if_pos (by omega), Eu_0 e2]
  · obtain ⟨-, q', h1, h2, h3⟩ := Eu_s e2 q1
    have h4 := Nat.mod_lt X (show 0 < Y by omega)
    rw [if_neg (by omega), ck_t ⟨⟨by omega, by omega⟩, ⟨by omega, by omega⟩, by omega⟩, tmod_nat]
    exact ih q' _ _ _ h1 ⟨Y, X % Y, i + 1, by omega, rfl, rfl, by omega, h3, by omega⟩
theorem q_gcd {U V : Nat} {a4 : Int} {M : Mem} (hU : U < 9000000000000000000) (hV : V < 9000000000000000000) : lq2 (fn_X11_odds_L76 a4 V U M) FU U V = fn_X11_odds_J101 a4 V U M ((Nat.gcd U V : Nat) : Int) := by
  refine lr2 (P := fun o => o = fn_X11_odds_J101 a4 V U M ((Nat.gcd U V : Nat) : Int)) (I := fun q a b => ∃ X Y : Nat, a = (Y : Int) ∧ b = (X : Int) ∧ (X < 9000000000000000000 ∧ Y < 9000000000000000000) ∧ Eu (Nat.gcd U V) q X Y) ?_ 127 FU U V (lt_FU (by decide)) ⟨V, U, rfl, rfl, ⟨hV, hU⟩, ⟨Nat.gcd_comm V U, Or.inl ⟨63, rfl, by omega⟩⟩⟩
  rintro q a b rec ⟨X, Y, rfl, rfl, e1, e2⟩ ih
  unfold fn_X11_odds_L76
  simp only [nm_eq]
  rw [dEq_if (by omega) (by omega) (by decide) (by decide)]
  by_cases q1 : Y = 0
  · subst q1
    rw [if_pos (by omega), Eu_0 e2]
  · obtain ⟨-, q', h1, h2, h3⟩ := Eu_s e2 q1
    have h4 := Nat.mod_lt X (show 0 < Y by omega)
    rw [if_neg (by omega), ck_t ⟨⟨by omega, by omega⟩, ⟨by omega, by omega⟩, by omega⟩, tmod_nat]
    exact ih q' _ _ h1 ⟨Y, X % Y, rfl, rfl, by omega, h3⟩
/-! the second table -/
def Tw (M : Mem) (n : Nat) (g : Nat → Int) (h : Nat) : Prop := (∃ B, Tb 102 12 M n g (-1) B) ∧ (∃ B, Tb 106 4 M n g h B) ∧ M 0 8 ≠ 0 ∧ M 0 9 ≠ 0
theorem Tw_TV {M : Mem} {n e h : Nat} {g : Nat → Int} (hS : Sg M n g e) (hh : h < 10) (hT : Tw M n g h) : TV M := by
  obtain ⟨⟨B, h1⟩, ⟨B', h2⟩, h3, h4⟩ := hT
  exact Or.inr ⟨h3, ⟨n, g, -1, B, Tc_all hS, h1⟩, Or.inr ⟨n, g, h, B', Tc_wo hS (by omega), h2⟩⟩
theorem p_tabWo {n e h : Nat} {g : Nat → Int} {M : Mem} (hS : Sg M n g e) (hT : Ta M n g) (hh : h < 10) : ∃ M', fn_X10_tableWithout h M = some M' ∧ Tw M' n g h ∧ (∀ k i, k ≠ 0 → k < 102 → M' k i = M k i) := by
  have hc := Tc_wo (wo := (h : Int)) hS (by omega)
  obtain ⟨⟨B, hB⟩, h8, h9⟩ := hT
  unfold fn_X10_tableWithout
  rw [if_neg h8]
  by_cases q : M 0 9 = 0
  · rw [if_pos q]
    generalize hM1 : mc_X2_init_106 (up (zr M 106) 0 9 1) = M1
    have k1 : ∀ k i, k ≠ 0 → k < 106 → M1 k i = M k i := fun k i a b => by
      rw [← hM1]; unfold mc_X2_init_106
      simp only [up_k, zr]
      simp (disch := omega) only [if_neg]
    have k8 : M1 0 8 = M 0 8 := by rw [← hM1]; rfl
    have k9 : M1 0 9 = 1 := by rw [← hM1]; rfl
    have hO : Ok1 106 4 M1 := by
      refine ⟨0, g, -1, 0, ⟨by omega, fun h hh => by omega, by omega, ln_all.2.1, ln_all.2.2, by omega⟩, ⟨?_, ?_, ?_, fun h hh => by omega⟩, ?_, by omega, fun k f s a => by omega⟩
      · rw [← hM1]; rfl
      · rw [← hM1]; rfl
      · rw [← hM1]; rfl
      · rw [← hM1]; rfl
    obtain ⟨M', B', f1, f2, f3⟩ := p_suit (M := M1) (by decide) (Sg_f (fun i => k1 1 i (by decide) (by decide)) (fun i => k1 2 i (by decide) (by decide)) hS) hc hO
    refine ⟨M', f1, ⟨⟨B, Tb_f (fun k i a b => ?_) hB⟩, ⟨B', f2⟩, ?_, ?_⟩, fun k i a b => ?_⟩
    · rw [f3 k i (by omega) (by omega), k1 k i (by omega) (by omega)]
    · rw [f3 0 8 (by decide) (by decide), k8]; exact h8
    · rw [f3 0 9 (by decide) (by decide), k9]; decide
    · rw [f3 k i (by omega) (by omega), k1 k i a (by omega)]
  · rw [if_neg q]
    have hO : Ok1 106 4 M := by
      rcases h9 with h9 | h9
      · exact absurd h9 q
      · exact h9
    obtain ⟨M', B', f1, f2, f3⟩ := p_suit (M := M) (by decide) hS hc hO
    refine ⟨M', f1, ⟨⟨B, Tb_f (fun k i a b => ?_) hB⟩, ⟨B', f2⟩, ?_, ?_⟩, fun k i a b => ?_⟩
    · rw [f3 k i (by omega) (by omega)]
    · rw [f3 0 8 (by decide) (by decide)]; exact h8
    · rw [f3 0 9 (by decide) (by decide)]; exact q
    · rw [f3 k i (by omega) (by omega)]
theorem nOf_2 {M : Mem} (h : M 0 8 ≠ 0) (h' : M 0 9 ≠ 0) : 106 < nOf M := by
  unfold nOf; rw [if_neg h, if_neg h']; decide
theorem Ra_bd4 {n : Nat} {g : Nat → Int} {wo : Int} {e lo hi : Nat} {l x : Int} (hn : n ≤ 10) (hlo : lo ≤ hi) (hhi : hi ≤ 4) : 0 ≤ Ra n g wo e lo (hi + 1 - lo) l x ∧ Ra n g wo e lo (hi + 1 - lo) l x ≤ 50000 := by
  refine ⟨Ra_nn, ?_⟩
  have h := sm_bd (n := hi + 1 - lo) (f := fun i => Ro n g wo e (lo + i) l x) (B := 10000) (fun i h => Ro_bd4 hn (by omega))
  unfold Ra; omega
theorem p_oddsL {M : Mem} {n e m lo hi h : Nat} {g : Nat → Int} {bg : Nat → Nat} {gn : Nat → Int} {a4 : Int} (hS : Sg M n g e) (hP : Pu M n m bg gn) (hT : Tw M n g h) (hlo : lo ≤ hi) (hhi : hi ≤ 4) (hh : h < 10) :
    ∃ M', lq4 (fn_X10_odds_L56 lo hi a4) FU 0 1 1 M = fn_X10_odds_J157 a4 (pr m (fun k => Ra n g (-1) e lo (hi + 1 - lo) (bg k) (gn k) - Ra n g h e lo (hi + 1 - lo) (bg k) (gn k))) (pr m (fun k => Ra n g (-1) e lo (hi + 1 - lo) (bg k) (gn k))) M' ∧ Tw M' n g h ∧ Fq M M' := by
  have hn := hS.2.1
  have he := hS.2.2.2.2
  refine lr4 (P := fun o => ∃ M', o = fn_X10_odds_J157 a4 (pr m (fun k => Ra n g (-1) e lo (hi + 1 - lo) (bg k) (gn k) - Ra n g h e lo (hi + 1 - lo) (bg k) (gn k))) (pr m (fun k => Ra n g (-1) e lo (hi + 1 - lo) (bg k) (gn k))) M' ∧ Tw M' n g h ∧ Fq M M') (I := fun q a b c E => ∃ j : Nat, j + q = m ∧ a = (j : Int) ∧ b = pr j (fun k => Ra n g (-1) e lo (hi + 1 - lo) (bg k) (gn k)) ∧ c = pr j (fun k => Ra n g (-1) e lo (hi + 1 - lo) (bg k) (gn k) - Ra n g h e lo (hi + 1 - lo) (bg k) (gn k)) ∧ Tw E n g h ∧ Fq M E) ?_ m FU 0 1 1 M (lt_FU (by have := hP.1.2.2; omega)) ⟨0, by omega, rfl, rfl, rfl, hT, fun _ _ _ _ => rfl⟩
  rintro q a b c E rec ⟨j, e1, rfl, e2, e3, e4, e5⟩ ih
  have sE := Sg_q e5 hS
  obtain ⟨⟨p1, p2, p3⟩, p4⟩ := Pu_q e5 hP
  unfold fn_X10_odds_L56
  simp only [nm_eq, Nat.zero_add, Nat.reduceAdd]
  rw [p1, cLt_if (by omega) (by omega) (by omega) (by omega)]
  by_cases q1 : (j : Int) < (m : Int)
  · obtain ⟨q, rfl⟩ : ∃ r', q = r' + 1 := ⟨q - 1, by omega⟩
    obtain ⟨⟨b1, b2⟩, -, b3, b4⟩ := p4 j (by omega)
    obtain ⟨⟨B, hB⟩, ⟨B', hB'⟩, h8, h9⟩ := e4
    obtain ⟨E1, g1, g2, g3⟩ := p_total (l := (bg j : Int)) (x := gn j) (lo := lo) (hi := hi) (e := e) (Tc_all sE) hB hlo (by omega) (by omega) he (by omega)
    have s1 := Sg_q (Fq_26 g3) sE
    have hB1 : Tb 106 4 E1 n g h B' := Tb_f (fun k i a b => g3.1 k i (by omega) (by omega) (by omega)) hB'
    obtain ⟨E2, k1, k2, k3⟩ := p_total (l := (bg j : Int)) (x := gn j) (lo := lo) (hi := hi) (e := e) (Tc_wo s1 (by omega)) hB1 hlo hhi (by omega) he (by omega)
    have hF2 : Fq E1 E2 := fun k i a b => k3.1 k i (by omega) (by omega) (by omega)
    rw [if_pos q1, cLt_if (by omega) (by omega) (by decide) (by decide), if_pos (by omega), rd_eq (by omega) (by omega), rd_eq (by omega) (by omega), Int.toNat_natCast, b1, b2, sE.2.2.2.1, g1, cl_s, s1.2.2.2.1, k1, cl_s]
    refine ih q _ _ _ _ (by omega) ⟨j + 1, by omega, by omega, by rw [e2, pr_s], by rw [e3, pr_s], ⟨⟨_, Tb_f (fun k i a b => k3.1 k i (by omega) (by omega) (by omega)) g2⟩, ⟨_, k2⟩, ?_, ?_⟩, (e5.tr (Fq_26 g3)).tr hF2⟩
    · rw [k3.1 0 8 (by decide) (by decide) (by decide), g3.1 0 8 (by decide) (by decide) (by decide)]; exact h8
    · rw [k3.1 0 9 (by decide) (by decide) (by decide), g3.1 0 9 (by decide) (by decide) (by decide)]; exact h9
  · rw [if_neg q1]
    obtain rfl : j = m := by omega
    exact ⟨E, by rw [e2, e3], e4, e5⟩
theorem d_odds {M : Mem} {n e m : Nat} {g : Nat → Int} {bg : Nat → Nat} {gn : Nat → Int} {a1 a2 a3 a4 : Int} (h1 : R3 a1) (h2 : R3 a2) (h3 : R3 a3) (h4 : R3 a4) (hS : Sg M n g e) (hD : Hd M n g e) (hP : Pu M n m bg gn) (hV : TV M) :
    ∃ (r : Int) (M1 M2 : Mem), fn_X10_odds a1 a2 a3 a4 M = some (r, M1) ∧ fn_X11_odds 71 a1 a2 a3 a4 M1 = some (r, M2) ∧ Fq M M2 ∧ TV M2 := by
  have hn := hS.2.1
  have hm := hP.1.2.2
  have qh : ∀ M' o, Hd M' n g e → (0 ≤ a1 ∧ a1 < (n : Int)) ∧ (0 ≤ a2 ∧ a2 ≤ a3 ∧ a3 ≤ 4) ∧ (0 ≤ a4 ∧ a4 ≤ 1) → (cu (fn_X11_isHand 71 a1 M') fun x2 => cEq x2 0 (some ((-1), M')) (cu (fn_X11_in a2 0 4 M') fun x11 => cEq x11 0 (some ((-1), M')) (cu (fn_X11_in a3 a2 4 M') fun x20 => cEq x20 0 (some ((-1), M')) (cu (fn_X11_in a4 0 1 M') fun x30 => cEq x30 0 (some ((-1), M')) o)))) = o := fun M' o hD' hc => by
    rw [q_isHand h1 (by rw [hD'.1]; omega) (by rw [hD'.1]; omega), cu_s, cE_b2, hD'.1, if_pos hc.1, p_in h2 ⟨by decide, by decide⟩ ⟨by decide, by decide⟩, cu_s, cE_b2, if_pos (by omega), p_in h3 h2 ⟨by decide, by decide⟩, cu_s, cE_b2, if_pos (by omega), p_in h4 ⟨by decide, by decide⟩ ⟨by decide, by decide⟩, cu_s, cE_b2, if_pos hc.2.2]
  have qn : ∀ o, ¬ ((0 ≤ a1 ∧ a1 < (n : Int)) ∧ (0 ≤ a2 ∧ a2 ≤ a3 ∧ a3 ≤ 4) ∧ (0 ≤ a4 ∧ a4 ≤ 1)) → (cu (fn_X11_isHand 71 a1 M) fun x2 => cEq x2 0 (some ((-1), M)) (cu (fn_X11_in a2 0 4 M) fun x11 => cEq x11 0 (some ((-1), M)) (cu (fn_X11_in a3 a2 4 M) fun x20 => cEq x20 0 (some ((-1), M)) (cu (fn_X11_in a4 0 1 M) fun x30 => cEq x30 0 (some ((-1), M)) o)))) = some (-1, M) := fun o hc => by
    rw [q_isHand h1 (by rw [hD.1]; omega) (by rw [hD.1]; omega), cu_s, cE_b2, hD.1]
    by_cases q1 : 0 ≤ a1 ∧ a1 < (n : Int)
    · rw [if_pos q1, p_in h2 ⟨by decide, by decide⟩ ⟨by decide, by decide⟩, cu_s, cE_b2]
      by_cases q2 : 0 ≤ a2 ∧ a2 ≤ 4
      · rw [if_pos q2, p_in h3 h2 ⟨by decide, by decide⟩, cu_s, cE_b2]
        by_cases q3 : a2 ≤ a3 ∧ a3 ≤ 4
        · rw [if_pos q3, p_in h4 ⟨by decide, by decide⟩ ⟨by decide, by decide⟩, cu_s, cE_b2, if_neg (by omega)]
        · rw [if_neg q3]
      · rw [if_neg q2]
    · rw [if_neg q1]
  unfold fn_X10_odds
  simp only [Nat.zero_add]
  rw [p_isHand h1 (by rw [hS.1]; omega) (by rw [hS.1]; omega), cu_s, cE_b2, hS.1, p_areLengths h2 h3 ⟨by decide, by decide⟩, cu_s, cE_b2, p_isWithin h4 ⟨by decide, by decide⟩ ⟨by decide, by decide⟩, cu_s, cE_b2]
  by_cases q : (0 ≤ a1 ∧ a1 < (n : Int)) ∧ (0 ≤ a2 ∧ a2 ≤ a3 ∧ a3 ≤ 4) ∧ (0 ≤ a4 ∧ a4 ≤ 1)
  · rw [if_pos q.1, if_pos q.2.1, if_pos q.2.2]
    obtain ⟨h, hh⟩ := Int.eq_ofNat_of_zero_le q.1.1
    obtain ⟨lo, hlo⟩ := Int.eq_ofNat_of_zero_le q.2.1.1
    obtain ⟨hi, hhi⟩ := Int.eq_ofNat_of_zero_le (show 0 ≤ a3 by omega)
    subst hh; subst hlo; subst hhi
    obtain ⟨M1, f1, f2, f3⟩ := p_tabAll hS hV
    have s1 := Sg_q (Fq_t f3) hS
    obtain ⟨M2, k1, k2, k3⟩ := p_tabWo (h := h) s1 f2 (by omega)
    have hF2 := (Fq_t f3).tr (Fq_t k3)
    obtain ⟨M3, o1, o2, o3⟩ := p_oddsL (a4 := a4) (lo := lo) (hi := hi) (h := h) (Sg_q hF2 hS) (Pu_q hF2 hP) k2 (by omega) (by omega) (by omega)
    have hF3 := hF2.tr o3
    have d3 := Hd_q hF3 hD
    have hP3 := Pu_q hF3 hP
    obtain ⟨M4, w1, w2, w3⟩ := q_whole (lo := lo) (hi := hi) d3 hP3 (by omega) (by omega)
    have d4 := Hd_q (Fq_96 w2) d3
    obtain ⟨M5, v1, v2, v3, v4⟩ := q_part (h := h) d4 (Pu_q (Fq_96 w2) hP3) (show lo ≤ hi by omega) (show hi ≤ 4 by omega) (by omega) w3
    have hV3 := Tw_TV (Sg_q hF3 hS) (show h < 10 by omega) o2
    have bA := pr_bd4 (f := fun k => Ra n g (-1) e lo (hi + 1 - lo) (bg k) (gn k)) hm (fun i _ => Ra_bd4 hn (by omega) (by omega))
    have bB := pr_bd4 (f := fun k => Ra n g (-1) e lo (hi + 1 - lo) (bg k) (gn k) - Ra n g h e lo (hi + 1 - lo) (bg k) (gn k)) hm (fun i _ => by
      have a1 := Ra_bd4 (g := g) (wo := -1) (e := e) (lo := lo) (hi := hi) (l := (bg i : Int)) (x := gn i) hn (by omega) (by omega)
      have a2 := Ra_bd4 (g := g) (wo := (h : Int)) (e := e) (lo := lo) (hi := hi) (l := (bg i : Int)) (x := gn i) hn (by omega) (by omega)
      have a3 := Ra_mono (n := n) (g := g) (wo := (h : Int)) (e := e) (lo := lo) (m := hi + 1 - lo) (l := (bg i : Int)) (x := gn i)
      omega)
    rw [f1, cv_s, ck_t (nOf_1 f2.2.1), k1, cv_s, ck_t (nOf_2 k2.2.2.1 k2.2.2.2), o1]
    unfold fn_X10_odds_J157
    obtain ⟨V, hVV⟩ := Int.eq_ofNat_of_zero_le bA.1
    obtain ⟨U, hUU⟩ := Int.eq_ofNat_of_zero_le bB.1
    rw [hVV] at w1 bA
    rw [hUU] at v1 bB
    rw [hVV, hUU, dLt_if (by omega) (by omega) (by decide) (by decide)]
    by_cases q5 : V = 0
    · rw [if_pos (by omega)]
      refine ⟨_, _, M4, rfl, ?_, hF3.tr (Fq_96 w2), TV_96 w2 hV3⟩
      unfold fn_X11_odds
      rw [qh M3 _ d3 q, w1, cl_s, dEq_if (by omega) (by omega) (by decide) (by decide), if_pos (by omega)]
    · rw [if_neg (by omega), p_gcd (by omega) (by omega), cu_s]
      have hG0 : 0 < Nat.gcd U V := Nat.gcd_pos_of_pos_right U (by omega)
      have hG1 : Nat.gcd U V ≤ V := Nat.gcd_le_right U (by omega)
      rw [dLt_if (by omega) (by omega) (by decide) (by decide), if_neg (by omega), cEq_if h4.1 h4.2 (by decide) (by decide)]
      have fin : fn_X11_odds 71 h lo hi a4 M3 = fn_X11_odds_J101 a4 V U M5 ((Nat.gcd U V : Nat) : Int) := by
        unfold fn_X11_odds
        rw [qh M3 _ d3 q, w1, cl_s, dEq_if (by omega) (by omega) (by decide) (by decide), if_neg (by omega), v1, cl_s, q_gcd (by omega) (by omega)]
      have hTV5 := TV_96 v2 (TV_96 w2 hV3)
      have hF5 := (hF3.tr (Fq_96 w2)).tr (Fq_96 v2)
      unfold fn_X11_odds_J101 at fin
      rw [cEq_if h4.1 h4.2 (by decide) (by decide)] at fin
      by_cases q6 : a4 = 0
      · rw [if_pos q6, ck_t ⟨⟨by omega, by omega⟩, ⟨by omega, by omega⟩, by omega⟩] at fin ⊢
        exact ⟨_, _, M5, rfl, fin, hF5, hTV5⟩
      · rw [if_neg q6, ck_t ⟨⟨by omega, by omega⟩, ⟨by omega, by omega⟩, by omega⟩] at fin ⊢
        exact ⟨_, _, M5, rfl, fin, hF5, hTV5⟩
  · refine ⟨-1, M, M, ?_, ?_, fun _ _ _ _ => rfl, hV⟩
    · by_cases q1 : 0 ≤ a1 ∧ a1 < (n : Int)
      · rw [if_pos q1]
        by_cases q2 : 0 ≤ a2 ∧ a2 ≤ a3 ∧ a3 ≤ 4
        · rw [if_pos q2, if_neg (fun q3 => q ⟨q1, q2, q3⟩)]
        · rw [if_neg q2]
      · rw [if_neg q1]
    · unfold fn_X11_odds
      exact qn _ q
