/-! sorted: the reference -/
def wbw (nc : Nat) (wt tr : Nat → Int) (t w : Nat) : Int := sm nc (fun c => if tr c ≠ -1 ∧ tr c ≠ (t : Int) ∧ (w = 1000 ∨ wt c < (w : Int)) then 1 else 0)
theorem wbw_bd {nc : Nat} {wt tr : Nat → Int} {t w : Nat} (hn : nc ≤ 20) : 0 ≤ wbw nc wt tr t w ∧ wbw nc wt tr t w ≤ 20 := by
  constructor
  · refine sm_nn (fun c _ => ?_)
    split <;> decide
  · have h := sm_bd (n := nc) (f := fun c => if tr c ≠ -1 ∧ tr c ≠ (t : Int) ∧ (w = 1000 ∨ wt c < (w : Int)) then 1 else 0) (B := 1) (fun c _ => by split <;> decide)
    unfold wbw; omega
theorem wbw_mono {nc : Nat} {wt tr : Nat → Int} {t w w' : Nat} (h : w ≤ w') (hw : w' ≤ 1000) : wbw nc wt tr t w ≤ wbw nc wt tr t w' := by
  refine sm_le (fun c _ => ?_)
  by_cases q : tr c ≠ -1 ∧ tr c ≠ (t : Int) ∧ (w = 1000 ∨ wt c < (w : Int))
  · rw [if_pos q, if_pos ⟨q.1, q.2.1, by have := q.2.2; omega⟩]; exact Int.le_refl _
  · rw [if_neg q]; split <;> decide
def Cn (M : Mem) (nc : Nat) (wt tr : Nat → Int) : Prop := M 72 1 = (nc : Int) ∧ nc ≤ 20 ∧ ∀ c, c < nc → M 72 (21 + 5 * c) = wt c ∧ M 72 (24 + 5 * c) = tr c ∧ (0 ≤ wt c ∧ wt c ≤ 1000000) ∧ (-1 ≤ tr c ∧ tr c ≤ 5)
theorem Cn_f {M M' : Mem} {nc : Nat} {wt tr : Nat → Int} (h : ∀ i, M' 72 i = M 72 i) (hC : Cn M nc wt tr) : Cn M' nc wt tr := by
  unfold Cn at hC ⊢; simp only [h]; exact hC
theorem q_lw22 {M : Mem} {nc t w : Nat} {wt tr : Nat → Int} {rec10 : Int → Mem → Option Mem} (hC : Cn M nc wt tr) (ht : t < 6) (hw : w ≤ 1000) : lq2 (fn_X11_laysWrong_L22 71 t w M rec10) FU 0 0 = fn_X11_laysWrong_J86 71 t w M rec10 (wbw nc wt tr t w) := by
  obtain ⟨c0, c1, c2⟩ := hC
  refine lr2 (P := fun o => o = fn_X11_laysWrong_J86 71 t w M rec10 (wbw nc wt tr t w)) (I := fun q a v => ∃ j : Nat, j + q = nc ∧ a = (j : Int) ∧ v = sm j (fun c => if tr c ≠ -1 ∧ tr c ≠ (t : Int) ∧ (w = 1000 ∨ wt c < (w : Int)) then 1 else 0)) ?_ nc FU 0 0 (lt_FU (by omega)) ⟨0, by omega, rfl, rfl⟩
  rintro q a v rec ⟨j, e1, rfl, e2⟩ ih
  unfold fn_X11_laysWrong_L22 fn_X11_laysWrong_J77 fn_X11_laysWrong_J73 fn_X11_laysWrong_J78
  simp only [nm_eq]
  rw [rd_eq (by decide) (by decide), show (1 : Int).toNat = 1 from rfl, show 71 + 1 = 72 from rfl, c0, cLt_if (by omega) (by omega) (by omega) (by omega)]
  by_cases q1 : (j : Int) < (nc : Int)
  · obtain ⟨q, rfl⟩ : ∃ r', q = r' + 1 := ⟨q - 1, by omega⟩
    obtain ⟨d1, d2, d3, d4⟩ := c2 j (by omega)
    have key : ∀ u, u = (if tr j ≠ -1 ∧ tr j ≠ (t : Int) ∧ (w = 1000 ∨ wt j < (w : Int)) then 1 else 0) → rec ((j : Int) + 1) (v + u) = fn_X11_laysWrong_J86 71 t w M rec10 (wbw nc wt tr t w) := fun u hu => ih q _ _ (by omega) ⟨j + 1, by omega, by omega, by rw [hu, e2, sm_s]⟩
    rw [if_pos q1, q_coinOf (by omega) (by omega) (by decide) (by decide), cu_s, show (20 + 5 * (j : Int) + 4).toNat = 24 + 5 * j by omega, d2, cEq_if (by omega) (by omega) (by decide) (by decide)]
    by_cases q2 : tr j = -1
    · rw [if_pos q2]; exact key 0 (by rw [if_neg (fun h => h.1 q2)])
    rw [if_neg q2, cEq_if (by omega) (by omega) (by omega) (by omega)]
    by_cases q3 : tr j = (t : Int)
    · rw [if_pos q3]; exact key 0 (by rw [if_neg (fun h => h.2.1 q3)])
    rw [if_neg q3, cEq_if (by omega) (by omega) (by decide) (by decide)]
    by_cases q4 : w = 1000
    · rw [if_pos (by omega)]; exact key 1 (by rw [if_pos ⟨q2, q3, Or.inl q4⟩])
    rw [if_neg (by omega), q_coinOf (by omega) (by omega) (by decide) (by decide), cu_s, show (20 + 5 * (j : Int) + 1).toNat = 21 + 5 * j by omega, d1, cLt_if (by omega) (by omega) (by omega) (by omega)]
    by_cases q5 : wt j < (w : Int)
    · rw [if_pos q5]; exact key 1 (by rw [if_pos ⟨q2, q3, Or.inr q5⟩])
    · rw [if_neg q5]; exact key 0 (by rw [if_neg (fun h => by have := h.2.2; omega)])
  · rw [if_neg q1]
    obtain rfl : j = nc := by omega
    rw [e2]; rfl
def WL (M : Mem) (nc : Nat) (wt tr : Nat → Int) (B : Nat) : Prop := ∀ x, x < B → M 100 x = wbw nc wt tr (x / 1001) (x % 1001)
set_option maxRecDepth 20000 in
theorem q_laysWrong {M : Mem} {nc : Nat} {wt tr : Nat → Int} (hC : Cn M nc wt tr) : ∃ M', fn_X11_laysWrong 71 M = some M' ∧ (∀ k i, k ≠ 100 → M' k i = M k i) ∧ WL M' nc wt tr 6006 := by
  unfold fn_X11_laysWrong
  refine lr2 (P := fun o => ∃ M', o = some M' ∧ (∀ k i, k ≠ 100 → M' k i = M k i) ∧ WL M' nc wt tr 6006) (I := fun q a E => ∃ t : Nat, t + q = 6 ∧ a = (t : Int) ∧ (∀ k i, k ≠ 100 → E k i = M k i) ∧ WL E nc wt tr (1001 * t)) ?_ 6 FU 0 M (lt_FU (by omega)) ⟨0, by omega, rfl, fun _ _ _ => rfl, fun x hx => by omega⟩
  rintro q a E rec ⟨t, e1, rfl, e2, e3⟩ ih
  unfold fn_X11_laysWrong_L2
  rw [cLt_if (by omega) (by omega) (by decide) (by decide)]
  by_cases q1 : (t : Int) < 6
  · rw [if_pos q1]
    obtain ⟨q, rfl⟩ : ∃ r', q = r' + 1 := ⟨q - 1, by omega⟩
    have hin : ∃ E', lq2 (fn_X11_laysWrong_L10 71 t rec) FU 0 E = fn_X11_laysWrong_J105 t rec E' ∧ (∀ k i, k ≠ 100 → E' k i = M k i) ∧ WL E' nc wt tr (1001 * (t + 1)) := by
      refine lr2 (P := fun o => ∃ E', o = fn_X11_laysWrong_J105 t rec E' ∧ (∀ k i, k ≠ 100 → E' k i = M k i) ∧ WL E' nc wt tr (1001 * (t + 1))) (I := fun q a E => ∃ w : Nat, w + q = 1001 ∧ a = (w : Int) ∧ (∀ k i, k ≠ 100 → E k i = M k i) ∧ WL E nc wt tr (1001 * t + w)) ?_ 1001 FU 0 E (lt_FU (by omega)) ⟨0, by omega, rfl, e2, e3⟩
      rintro q a E rec' ⟨w, e1, rfl, e2, e3⟩ ih
      unfold fn_X11_laysWrong_L10
      rw [cLt_if (by decide) (by decide) (by omega) (by omega)]
      by_cases q2 : (1000 : Int) < (w : Int)
      · rw [if_pos q2]
        obtain rfl : w = 1001 := by omega
        exact ⟨E, rfl, e2, fun x hx => e3 x (by omega)⟩
      · obtain ⟨q, rfl⟩ : ∃ r', q = r' + 1 := ⟨q - 1, by omega⟩
        rw [if_neg q2, q_lw22 (Cn_f (fun i => e2 72 i (by decide)) hC) (by omega) (by omega)]
        unfold fn_X11_laysWrong_J86
        rw [wr_eq (by omega) (by omega), nm_eq, show (1001 * (t : Int) + (w : Int)).toNat = 1001 * t + w by omega]
        refine ih q _ _ (by omega) ⟨w + 1, by omega, by omega, fun k i hk => by rw [up_o hk]; exact e2 k i hk, fun x hx => ?_⟩
        rw [show 71 + 29 = 100 from rfl, up_i]
        by_cases q3 : x = 1001 * t + w
        · rw [if_pos q3, q3, show (1001 * t + w) / 1001 = t by omega, show (1001 * t + w) % 1001 = w by omega]
        · rw [if_neg q3]; exact e3 x (by omega)
    obtain ⟨E', f1, f2, f3⟩ := hin
    rw [f1]
    unfold fn_X11_laysWrong_J105
    rw [nm_eq]
    exact ih q _ _ (by omega) ⟨t + 1, by omega, by omega, f2, f3⟩
  · rw [if_neg q1]
    obtain rfl : t = 6 := by omega
    exact ⟨E, rfl, e2, e3⟩
theorem q_wbt {M : Mem} {nc t a b : Nat} {wt tr : Nat → Int} (hW : WL M nc wt tr 6006) (ht : t < 6) (ha : a ≤ 1000) (hb : b ≤ 1000) : fn_X11_wrongBetween 71 t a b M = some (wbw nc wt tr t b - wbw nc wt tr t a) := by
  unfold fn_X11_wrongBetween
  rw [rd_eq (by omega) (by omega), rd_eq (by omega) (by omega), show (1001 * (t : Int) + (b : Int)).toNat = 1001 * t + b by omega, show (1001 * (t : Int) + (a : Int)).toNat = 1001 * t + a by omega, show 71 + 29 = 100 from rfl, hW _ (by omega), hW _ (by omega), show (1001 * t + b) / 1001 = t by omega, show (1001 * t + b) % 1001 = b by omega, show (1001 * t + a) / 1001 = t by omega, show (1001 * t + a) % 1001 = a by omega]
/-- what the reference's best is -/
def RP (b W : Nat → Nat → Int) (T j w : Nat) : Prop := (0 ≤ b j w ∧ b j w ≤ 20) ∧ (j + 1 = T → b j w = W j 1000 - W j w) ∧ (j + 1 < T → (∀ c, w ≤ c → c < 1000 → b j w ≤ W j c - W j w + b (j + 1) c) ∧ ∃ c, w ≤ c ∧ c < 1000 ∧ b j w = W j c - W j w + b (j + 1) c)
def bm (M : Mem) (j w : Nat) : Int := M 101 (1001 * j + w)
theorem RP_f {b b' W : Nat → Nat → Int} {T j w : Nat} (h0 : b' j w = b j w) (h1 : ∀ c, c < 1000 → b' (j + 1) c = b (j + 1) c) (h : RP b W T j w) : RP b' W T j w := by
  refine ⟨by rw [h0]; exact h.1, fun q => by rw [h0]; exact h.2.1 q, fun q => ⟨fun c a b => by rw [h0, h1 c b]; exact (h.2.2 q).1 c a b, ?_⟩⟩
  obtain ⟨c, k1, k2, k3⟩ := (h.2.2 q).2
  exact ⟨c, k1, k2, by rw [h0, h1 c k2]; exact k3⟩
set_option maxRecDepth 20000 in
theorem q_b0 {M : Mem} {nc T : Nat} {wt tr : Nat → Int} {a2 : Int} (hn : nc ≤ 20) (hT : 2 ≤ T ∧ T ≤ 6) (hW : WL M nc wt tr 6006) : ∃ M', lq2 (fn_X11_sorted_L29 71 T a2) FU 0 M = fn_X11_sorted_J67 71 T a2 M' ∧ (∀ k i, k ≠ 101 → M' k i = M k i) ∧ ∀ w, w < 1000 → RP (bm M') (wbw nc wt tr) T (T - 1) w := by
  refine lr2 (P := fun o => ∃ M', o = fn_X11_sorted_J67 71 T a2 M' ∧ (∀ k i, k ≠ 101 → M' k i = M k i) ∧ ∀ w, w < 1000 → RP (bm M') (wbw nc wt tr) T (T - 1) w) (I := fun q a E => ∃ w : Nat, w + q = 1000 ∧ a = (w : Int) ∧ (∀ k i, k ≠ 101 → E k i = M k i) ∧ ∀ w', w' < w → bm E (T - 1) w' = wbw nc wt tr (T - 1) 1000 - wbw nc wt tr (T - 1) w') ?_ 1000 FU 0 M (lt_FU (by omega)) ⟨0, by omega, rfl, fun _ _ _ => rfl, fun w hw => by omega⟩
  rintro q a E rec ⟨w, e1, rfl, e2, e3⟩ ih
  unfold fn_X11_sorted_L29
  rw [cLt_if (by omega) (by omega) (by decide) (by decide)]
  by_cases q1 : (w : Int) < 1000
  · obtain ⟨q, rfl⟩ : ∃ r', q = r' + 1 := ⟨q - 1, by omega⟩
    have hWE : WL E nc wt tr 6006 := fun x hx => by rw [e2 100 x (by decide)]; exact hW x hx
    rw [if_pos q1, show (T : Int) - 1 = ((T - 1 : Nat) : Int) by omega, show (1000 : Int) = ((1000 : Nat) : Int) from rfl, q_wbt hWE (by omega) (by omega) (by omega), cu_s, wr_eq (by omega) (by omega), nm_eq, show (1001 * ((T - 1 : Nat) : Int) + (w : Int)).toNat = 1001 * (T - 1) + w by omega]
    refine ih q _ _ (by omega) ⟨w + 1, by omega, by omega, fun k i hk => by rw [up_o hk]; exact e2 k i hk, fun w' hw' => ?_⟩
    unfold bm
    rw [show 71 + 30 = 101 from rfl, up_i]
    by_cases q2 : w' = w
    · rw [if_pos (by omega), q2]
    · rw [if_neg (by omega)]; exact e3 w' (by omega)
  · rw [if_neg q1]
    obtain rfl : w = 1000 := by omega
    refine ⟨E, rfl, e2, fun w hw => ⟨?_, fun _ => ?_, fun h => by omega⟩⟩
    · have b1 := wbw_bd (wt := wt) (tr := tr) (t := T - 1) (w := 1000) hn
      have b2 := wbw_bd (wt := wt) (tr := tr) (t := T - 1) (w := w) hn
      have b3 := wbw_mono (nc := nc) (wt := wt) (tr := tr) (t := T - 1) (w := w) (w' := 1000) (by omega) (by omega)
      rw [e3 w hw]; omega
    · exact e3 w hw
set_option maxRecDepth 20000 in
theorem q_b95 {M : Mem} {nc T j w : Nat} {wt tr : Nat → Int} {rec78 : Int → Mem → Option (Int × Mem)} (hn : nc ≤ 20) (hT : T ≤ 6) (hj : j + 1 < T) (hw : w < 1000) (hW : WL M nc wt tr 6006) (hb : ∀ c, c < 1000 → RP (bm M) (wbw nc wt tr) T (j + 1) c) :
    ∃ v, lq2 (fn_X11_sorted_L95 71 j w M rec78) FU w 100000 = fn_X11_sorted_J152 71 j w M rec78 v ∧ (0 ≤ v ∧ v ≤ 20) ∧ (∀ c, w ≤ c → c < 1000 → v ≤ wbw nc wt tr j c - wbw nc wt tr j w + bm M (j + 1) c) ∧ ∃ c, w ≤ c ∧ c < 1000 ∧ v = wbw nc wt tr j c - wbw nc wt tr j w + bm M (j + 1) c := by
  refine lr2 (P := fun o => ∃ v, o = fn_X11_sorted_J152 71 j w M rec78 v ∧ (0 ≤ v ∧ v ≤ 20) ∧ (∀ c, w ≤ c → c < 1000 → v ≤ wbw nc wt tr j c - wbw nc wt tr j w + bm M (j + 1) c) ∧ ∃ c, w ≤ c ∧ c < 1000 ∧ v = wbw nc wt tr j c - wbw nc wt tr j w + bm M (j + 1) c) (I := fun q a v => ∃ c : Nat, c + q = 1000 ∧ w ≤ c ∧ a = (c : Int) ∧ (∀ c', w ≤ c' → c' < c → v ≤ wbw nc wt tr j c' - wbw nc wt tr j w + bm M (j + 1) c') ∧ ((v = 100000 ∧ c = w) ∨ ∃ c', w ≤ c' ∧ c' < c ∧ v = wbw nc wt tr j c' - wbw nc wt tr j w + bm M (j + 1) c')) ?_ (1000 - w) FU w 100000 (lt_FU (by omega)) ⟨w, by omega, Nat.le_refl _, rfl, fun c' a b => by omega, Or.inl ⟨rfl, rfl⟩⟩
  rintro q a v rec ⟨c, e1, e0, rfl, e2, e3⟩ ih
  have vb : ∀ c', w ≤ c' → c' < 1000 → 0 ≤ wbw nc wt tr j c' - wbw nc wt tr j w + bm M (j + 1) c' ∧ wbw nc wt tr j c' - wbw nc wt tr j w + bm M (j + 1) c' ≤ 40 := fun c' a b => by
    have b1 := wbw_bd (wt := wt) (tr := tr) (t := j) (w := c') hn
    have b2 := wbw_bd (wt := wt) (tr := tr) (t := j) (w := w) hn
    have b3 := wbw_mono (nc := nc) (wt := wt) (tr := tr) (t := j) (w := w) (w' := c') a (by omega)
    have b4 := (hb c' b).1
    omega
  unfold fn_X11_sorted_L95 fn_X11_sorted_J144
  simp only [nm_eq]
  rw [cLt_if (by omega) (by omega) (by decide) (by decide)]
  by_cases q1 : (c : Int) < 1000
  · obtain ⟨q, rfl⟩ : ∃ r', q = r' + 1 := ⟨q - 1, by omega⟩
    have v1 := vb c e0 (by omega)
    have v2 : 0 ≤ v ∧ v ≤ 100000 := by
      rcases e3 with ⟨h, _⟩ | ⟨c', h1, h2, h3⟩
      · omega
      · have := vb c' h1 (by omega); omega
    rw [if_pos q1, q_wbt hW (by omega) (by omega) (by omega), cu_s, rd_eq (by omega) (by omega), show (1001 * ((j : Int) + 1) + (c : Int)).toNat = 1001 * (j + 1) + c by omega, show 71 + 30 = 101 from rfl, show M 101 (1001 * (j + 1) + c) = bm M (j + 1) c from rfl, cLt_if (by omega) (by omega) (by omega) (by omega)]
    by_cases q2 : wbw nc wt tr j c - wbw nc wt tr j w + bm M (j + 1) c < v
    · rw [if_pos q2]
      refine ih q _ _ (by omega) ⟨c + 1, by omega, by omega, by omega, fun c' a b => ?_, Or.inr ⟨c, e0, by omega, rfl⟩⟩
      by_cases q3 : c' = c
      · subst q3; exact Int.le_refl _
      · have := e2 c' a (by omega); omega
    · rw [if_neg q2]
      refine ih q _ _ (by omega) ⟨c + 1, by omega, by omega, by omega, fun c' a b => ?_, Or.inr ?_⟩
      · by_cases q3 : c' = c
        · subst q3; omega
        · exact e2 c' a (by omega)
      · rcases e3 with ⟨h, rfl⟩ | ⟨c', h1, h2, h3⟩
        · omega
        · exact ⟨c', h1, by omega, h3⟩
  · rw [if_neg q1]
    obtain rfl : c = 1000 := by omega
    rcases e3 with ⟨h, h'⟩ | ⟨c', h1, h2, h3⟩
    · omega
    · refine ⟨v, rfl, ?_, e2, c', h1, h2, h3⟩
      have a1 := vb c' h1 h2
      have a2 := e2 w (Nat.le_refl _) hw
      have a3 := (hb w hw).1
      omega
set_option maxRecDepth 20000 in
theorem q_b78 {M : Mem} {nc T j : Nat} {wt tr : Nat → Int} {rec71 : Int → Mem → Option (Int × Mem)} (hn : nc ≤ 20) (hT : T ≤ 6) (hj : j + 1 < T) (hW : WL M nc wt tr 6006) (hb : ∀ c, c < 1000 → RP (bm M) (wbw nc wt tr) T (j + 1) c) :
    ∃ M', lq2 (fn_X11_sorted_L78 71 j rec71) FU 0 M = fn_X11_sorted_J173 j rec71 M' ∧ (∀ k i, k ≠ 101 → M' k i = M k i) ∧ (∀ i, 1001 * (j + 1) ≤ i → M' 101 i = M 101 i) ∧ ∀ w, w < 1000 → RP (bm M') (wbw nc wt tr) T j w := by
  refine lr2 (P := fun o => ∃ M', o = fn_X11_sorted_J173 j rec71 M' ∧ (∀ k i, k ≠ 101 → M' k i = M k i) ∧ (∀ i, 1001 * (j + 1) ≤ i → M' 101 i = M 101 i) ∧ ∀ w, w < 1000 → RP (bm M') (wbw nc wt tr) T j w) (I := fun q a E => ∃ w : Nat, w + q = 1000 ∧ a = (w : Int) ∧ (∀ k i, k ≠ 101 → E k i = M k i) ∧ (∀ i, 1001 * (j + 1) ≤ i → E 101 i = M 101 i) ∧ ∀ w', w' < w → RP (bm E) (wbw nc wt tr) T j w') ?_ 1000 FU 0 M (lt_FU (by omega)) ⟨0, by omega, rfl, fun _ _ _ => rfl, fun _ _ => rfl, fun w hw => by omega⟩
  rintro q a E rec ⟨w, e1, rfl, e2, e3, e4⟩ ih
  unfold fn_X11_sorted_L78
  rw [cLt_if (by omega) (by omega) (by decide) (by decide)]
  by_cases q1 : (w : Int) < 1000
  · obtain ⟨q, rfl⟩ : ∃ r', q = r' + 1 := ⟨q - 1, by omega⟩
    have hWE : WL E nc wt tr 6006 := fun x hx => by rw [e2 100 x (by decide)]; exact hW x hx
    have hbE : ∀ c, c < 1000 → RP (bm E) (wbw nc wt tr) T (j + 1) c := fun c hc => RP_f (b := bm M) (e3 (1001 * (j + 1) + c) (by omega)) (fun c' _ => e3 (1001 * (j + 1 + 1) + c') (by omega)) (hb c hc)
    obtain ⟨v, f1, f2, f3, f4⟩ := q_b95 (rec78 := rec) hn hT hj (show w < 1000 by omega) hWE hbE
    rw [if_pos q1, f1]
    unfold fn_X11_sorted_J152
    rw [wr_eq (by omega) (by omega), nm_eq, show (1001 * (j : Int) + (w : Int)).toNat = 1001 * j + w by omega, show 71 + 30 = 101 from rfl]
    have hup : ∀ j' w', ¬ (1001 * j' + w' = 1001 * j + w) → bm (up E 101 (1001 * j + w) v) j' w' = bm E j' w' := fun j' w' h => by unfold bm; rw [up_i, if_neg h]
    refine ih q _ _ (by omega) ⟨w + 1, by omega, by omega, fun k i hk => by rw [up_o hk]; exact e2 k i hk, fun i hi => by rw [up_i, if_neg (by omega)]; exact e3 i hi, fun w' hw' => ?_⟩
    by_cases q2 : w' = w
    · subst q2
      have e9 : bm (up E 101 (1001 * j + w') v) j w' = v := by unfold bm; rw [up_i, if_pos rfl]
      refine ⟨by rw [e9]; exact f2, fun h => by omega, fun _ => ⟨fun c a b => ?_, ?_⟩⟩
      · rw [e9, hup _ _ (by omega)]; exact f3 c a b
      · obtain ⟨c, k1, k2, k3⟩ := f4
        exact ⟨c, k1, k2, by rw [e9, hup _ _ (by omega)]; exact k3⟩
    · exact RP_f (hup _ _ (by omega)) (fun c hc => hup _ _ (by omega)) (e4 w' (by omega))
  · rw [if_neg q1]
    obtain rfl : w = 1000 := by omega
    exact ⟨E, rfl, e2, e3, e4⟩
theorem q_best {M : Mem} {nc T : Nat} {wt tr : Nat → Int} {a2 : Int} (hn : nc ≤ 20) (hT : 2 ≤ T ∧ T ≤ 6) (hW : WL M nc wt tr 6006) : ∃ M', lq2 (fn_X11_sorted_L29 71 T a2) FU 0 M = fn_X11_sorted_J179 71 a2 M' ∧ (∀ k i, k ≠ 101 → M' k i = M k i) ∧ ∀ j w, j < T → w < 1000 → RP (bm M') (wbw nc wt tr) T j w := by
  obtain ⟨M1, f1, f2, f3⟩ := q_b0 (a2 := a2) hn hT hW
  rw [f1]
  unfold fn_X11_sorted_J67
  rw [nm_eq]
  refine lr2 (P := fun o => ∃ M', o = fn_X11_sorted_J179 71 a2 M' ∧ (∀ k i, k ≠ 101 → M' k i = M k i) ∧ ∀ j w, j < T → w < 1000 → RP (bm M') (wbw nc wt tr) T j w) (I := fun q a E => q ≤ T - 1 ∧ a = (q : Int) - 1 ∧ (∀ k i, k ≠ 101 → E k i = M k i) ∧ ∀ j w, q ≤ j → j < T → w < 1000 → RP (bm E) (wbw nc wt tr) T j w) ?_ (T - 1) FU _ M1 (lt_FU (by omega)) ⟨Nat.le_refl _, by omega, f2, fun j w a b c => by rw [show j = T - 1 by omega]; exact f3 w c⟩
  rintro q a E rec ⟨e1, e2, e3, e4⟩ ih
  unfold fn_X11_sorted_L71
  rw [cLt_if (by omega) (by omega) (by decide) (by decide)]
  by_cases q1 : a < 0
  · rw [if_pos q1]
    exact ⟨E, rfl, e3, fun j w b c => e4 j w (by omega) b c⟩
  · rw [if_neg q1]
    obtain ⟨q, rfl⟩ : ∃ r', q = r' + 1 := ⟨q - 1, by omega⟩
    have hWE : WL E nc wt tr 6006 := fun x hx => by rw [e3 100 x (by decide)]; exact hW x hx
    obtain ⟨E', g1, g2, g3, g4⟩ := q_b78 (j := q) (rec71 := rec) hn hT.2 (show q + 1 < T by omega) hWE (fun c hc => e4 (q + 1) c (by omega) (by omega) hc)
    rw [show a = (q : Int) by omega, g1]
    unfold fn_X11_sorted_J173
    rw [nm_eq]
    refine ih q _ _ (by omega) ⟨by omega, by omega, fun k i hk => by rw [g2 k i hk]; exact e3 k i hk, fun j w a b c => ?_⟩
    by_cases q2 : j = q
    · subst q2; exact g4 w c
    · exact RP_f (b := bm E) (g3 (1001 * j + w) (by omega)) (fun c' _ => g3 (1001 * (j + 1) + c') (by omega)) (e4 j w (by omega) b c)
/-- the next CUT -/
def Qc (b W : Nat → Nat → Int) (j a c : Nat) : Prop := W j c - W j a + b (j + 1) c = b j a
def Nx (b W : Nat → Nat → Int) (j a c : Nat) : Prop := a ≤ c ∧ c < 1000 ∧ Qc b W j a c ∧ ∀ c', a ≤ c' → c' < c → ¬ Qc b W j a c'
theorem q_cut {M : Mem} {nc T j a c : Nat} {wt tr : Nat → Int} {rec192 : Int → Int → Int → Option (Int × Mem)} (hn : nc ≤ 20) (hT : T ≤ 6) (hj : j + 1 < T) (hW : WL M nc wt tr 6006) (hb : ∀ j w, j < T → w < 1000 → RP (bm M) (wbw nc wt tr) T j w) (hN : Nx (bm M) (wbw nc wt tr) j a c) :
    lq1 (fn_X11_sorted_L216 71 M j a rec192 (bm M j a)) FU a = fn_X11_sorted_J253 j rec192 c := by
  obtain ⟨n1, n2, n3, n4⟩ := hN
  unfold Qc at n3 n4
  refine lr1 (P := fun o => o = fn_X11_sorted_J253 j rec192 c) (I := fun q x => ∃ d : Nat, d + q = c ∧ a ≤ d ∧ x = (d : Int)) ?_ (c - a) FU a (lt_FU (by omega)) ⟨a, by omega, Nat.le_refl _, rfl⟩
  rintro q x rec ⟨d, e1, e2, rfl⟩ ih
  have b1 := wbw_bd (wt := wt) (tr := tr) (t := j) (w := d) hn
  have b2 := wbw_bd (wt := wt) (tr := tr) (t := j) (w := a) hn
  have b3 := (hb (j + 1) d (by omega) (by omega)).1
  have b4 := (hb j a (by omega) (by omega)).1
  unfold fn_X11_sorted_L216
  rw [q_wbt hW (by omega) (by omega) (by omega), cu_s, rd_eq (by omega) (by omega), show (1001 * ((j : Int) + 1) + (d : Int)).toNat = 1001 * (j + 1) + d by omega, show 71 + 30 = 101 from rfl, show M 101 (1001 * (j + 1) + d) = bm M (j + 1) d from rfl, cEq_if (by omega) (by omega) (by omega) (by omega)]
  by_cases q1 : d = c
  · subst q1
    rw [if_pos n3]
  · rw [if_neg (n4 d e2 (by omega)), nm_eq]
    exact ih (q - 1) _ (by omega) ⟨d + 1, by omega, by omega, by omega⟩
theorem q_cuts {M : Mem} {nc T : Nat} {wt tr : Nat → Int} {cu0 : Nat → Nat} (hn : nc ≤ 20) (hT : T ≤ 6) (hW : WL M nc wt tr 6006) (hb : ∀ j w, j < T → w < 1000 → RP (bm M) (wbw nc wt tr) T j w) (h0 : cu0 0 = 0) (hN : ∀ j, j + 1 < T → Nx (bm M) (wbw nc wt tr) j (cu0 j) (cu0 (j + 1))) {i : Nat} (hi : i < T) (hT2 : 2 ≤ T) :
    fn_X11_sorted_J179 71 i M = some (if i = 0 then bm M 0 0 else (cu0 i : Int), M) := by
  unfold fn_X11_sorted_J179
  rw [rd_eq (by decide) (by decide), show (0 : Int).toNat = 0 from rfl, show 71 + 30 = 101 from rfl, show M 101 0 = bm M 0 0 from rfl]
  refine lr3 (P := fun o => o = some (if i = 0 then bm M 0 0 else (cu0 i : Int), M)) (I := fun q a v f => ∃ j : Nat, j + q = i ∧ a = (j : Int) ∧ f = (cu0 j : Int) ∧ v = if j = 0 then bm M 0 0 else (cu0 j : Int)) ?_ i FU 0 _ 0 (lt_FU (by omega)) ⟨0, by omega, rfl, by rw [h0]; rfl, by rw [if_pos rfl]⟩
  rintro q a v f rec ⟨j, e1, rfl, rfl, e2⟩ ih
  unfold fn_X11_sorted_L192
  rw [cLt_if (by omega) (by omega) (by omega) (by omega)]
  by_cases q1 : (j : Int) < (i : Int)
  · obtain ⟨q, rfl⟩ : ∃ r', q = r' + 1 := ⟨q - 1, by omega⟩
    have hNj := hN j (by omega)
    have hlt : cu0 j < 1000 := by have := hNj.1; have := hNj.2.1; omega
    rw [if_pos q1, rd_eq (by omega) (by omega), show (1001 * (j : Int) + (cu0 j : Int)).toNat = 1001 * j + cu0 j by omega, show M 101 (1001 * j + cu0 j) = bm M j (cu0 j) from rfl, q_cut hn hT (by omega) hW hb hNj]
    unfold fn_X11_sorted_J253
    rw [nm_eq]
    exact ih q _ _ _ (by omega) ⟨j + 1, by omega, by omega, rfl, by rw [if_neg (by omega)]⟩
  · rw [if_neg q1]
    obtain rfl : j = i := by omega
    rw [e2]
