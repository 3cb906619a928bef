/-! sorted: edges are enough -/
def Eg (m : Nat) (E : Nat → Nat) : Prop := 1 ≤ m ∧ E 0 = 0 ∧ (∀ i, i + 1 < m → E i < E (i + 1)) ∧ ∀ i, i < m → E i < 1000
theorem Eg_lt {m : Nat} {E : Nat → Nat} (h : Eg m E) : ∀ {j i : Nat}, i < j → j < m → E i < E j := by
  intro j
  induction j with
  | zero => intro i a; omega
  | succ j ih =>
    intro i a b
    have h1 := h.2.2.1 j b
    by_cases q : i = j
    · subst q; exact h1
    · have := ih (show i < j by omega) (by omega); omega
def SA (W : Nat → Nat → Int) (T m : Nat) (E : Nat → Nat) (wr : Nat → Nat → Int) : Prop := Eg m E ∧ (∀ a t, a + 1 < m → t < T → wr a t = W t (E (a + 1)) - W t (E a)) ∧ (∀ t, t < T → wr (m - 1) t = W t 1000 - W t (E (m - 1))) ∧ (∀ a t c, a < m → t < T → E a ≤ c → c < 1000 → (a + 1 < m → c < E (a + 1)) → W t c = W t (E a)) ∧ ∀ a t, a < m → t < T → 0 ≤ wr a t
def Xw (wr lst : Nat → Nat → Int) (a th : Nat) : Int := min (wr a th + lst (a + 1) th) 1000
def CP (wr lst : Nat → Nat → Int) (T m : Nat) : Prop := (∀ j, j < T → lst m j = if j + 1 = T then 0 else 1000) ∧ ∀ a j, a < m → j < T → (∀ th, j ≤ th → th < T → lst a j ≤ Xw wr lst a th) ∧ ∃ th, j ≤ th ∧ th < T ∧ lst a j = Xw wr lst a th
def RA (b W : Nat → Nat → Int) (T : Nat) : Prop := ∀ j w, j < T → w < 1000 → RP b W T j w
theorem b_down {b W : Nat → Nat → Int} {T : Nat} (hb : RA b W T) {j w : Nat} (hj : j + 1 < T) (hw : w < 1000) : b j w ≤ b (j + 1) w := by
  have h := ((hb j w (by omega) hw).2.2 hj).1 w (Nat.le_refl _) hw
  omega
theorem b_downs {b W : Nat → Nat → Int} {T : Nat} (hb : RA b W T) {j w : Nat} (hw : w < 1000) : ∀ {th : Nat}, j ≤ th → th < T → b j w ≤ b th w := by
  intro th
  induction th with
  | zero => intro a b; rw [show j = 0 by omega]; exact Int.le_refl _
  | succ th ih =>
    intro a c
    by_cases q : j = th + 1
    · subst q; exact Int.le_refl _
    · exact Int.le_trans (ih (by omega) (by omega)) (b_down hb c hw)
theorem b_const {b W : Nat → Nat → Int} {T m : Nat} {E : Nat → Nat} {wr : Nat → Nat → Int} (hb : RA b W T) (hs : SA W T m E wr) {a : Nat} (ha : a < m) : ∀ (d j : Nat), j + d + 1 = T → ∀ c, E a ≤ c → c < 1000 → (a + 1 < m → c < E (a + 1)) → b j c = b j (E a) := by
  obtain ⟨hE, -, -, hW, -⟩ := hs
  intro d
  induction d with
  | zero =>
    intro j hj c h1 h2 h3
    rw [(hb j c (by omega) h2).2.1 (by omega), (hb j (E a) (by omega) (by omega)).2.1 (by omega), hW a j c ha (by omega) h1 h2 h3]
  | succ d ih =>
    intro j hj c h1 h2 h3
    have p1 := (hb j c (by omega) h2).2.2 (by omega)
    have p2 := (hb j (E a) (by omega) (by omega)).2.2 (by omega)
    have w1 := hW a j c ha (by omega) h1 h2 h3
    obtain ⟨c0, k1, k2, k3⟩ := p2.2
    obtain ⟨c1, k4, k5, k6⟩ := p1.2
    have g1 := p2.1 c1 (by omega) k5
    by_cases q : c ≤ c0
    · have := p1.1 c0 q k2; omega
    · have w0 := hW a j c0 ha (by omega) k1 k2 (fun h => by have := h3 h; omega)
      have g2 := b_down hb (j := j) (w := c) (by omega) h2
      have i1 := ih (j + 1) (by omega) c h1 h2 h3
      have i2 := ih (j + 1) (by omega) c0 k1 k2 (fun h => by have := h3 h; omega)
      omega
/-- one EDGE on -/
theorem b_step {b W : Nat → Nat → Int} {T m : Nat} {E : Nat → Nat} {wr : Nat → Nat → Int} (hb : RA b W T) (hs : SA W T m E wr) {a th : Nat} (ha : a + 1 < m) (hth : th < T) : b th (E a) ≤ wr a th + b th (E (a + 1)) := by
  obtain ⟨hE, hw1, -, -, -⟩ := hs
  have e1 := hE.2.2.1 a ha
  have e2 := hE.2.2.2 (a + 1) ha
  have w1 := hw1 a th ha hth
  have p1 := hb th (E a) hth (by omega)
  have p2 := hb th (E (a + 1)) hth e2
  by_cases q : th + 1 = T
  · have := p1.2.1 q; have := p2.2.1 q; omega
  · obtain ⟨c, k1, k2, k3⟩ := (p2.2.2 (by omega)).2
    have := (p1.2.2 (by omega)).1 c (by omega) k2
    omega
theorem x_of {b W : Nat → Nat → Int} {T m : Nat} {E : Nat → Nat} {wr lst : Nat → Nat → Int} (hb : RA b W T) (hs : SA W T m E wr) (hc : CP wr lst T m) {a : Nat} (ha : a < m) (ih : a + 1 < m → ∀ j, j < T → b j (E (a + 1)) = lst (a + 1) j) {th : Nat} (hth : th < T) : b th (E a) ≤ Xw wr lst a th ∧ (th + 1 = T → Xw wr lst a th = b th (E a)) ∧ (a + 1 < m → Xw wr lst a th ≤ wr a th + b th (E (a + 1))) := by
  obtain ⟨hE, hw1, hw2, hW, hw0⟩ := id hs
  have he := hE.2.2.2
  have b0 := hb th (E a) hth (he _ ha)
  have w0 := hw0 a th ha hth
  have b01 := b0.1
  unfold Xw
  by_cases q : a + 1 < m
  · have b1 := hb th (E (a + 1)) hth (he _ q)
    have b2 := b_step hb hs q hth
    have w1 := hw1 a th q hth
    rw [← ih q th hth]
    refine ⟨by omega, fun h => ?_, fun _ => by omega⟩
    have := b0.2.1 h; have := b1.2.1 h; omega
  · obtain rfl : a = m - 1 := by omega
    rw [show m - 1 + 1 = m by omega, hc.1 th hth]
    have w2 := hw2 th hth
    refine ⟨?_, fun h => ?_, fun h => by omega⟩
    · split
      · have := b0.2.1 (by assumption); omega
      · omega
    · rw [if_pos h]
      have := b0.2.1 h; omega
theorem eqv1 {b W : Nat → Nat → Int} {T m : Nat} {E : Nat → Nat} {wr lst : Nat → Nat → Int} (hb : RA b W T) (hs : SA W T m E wr) (hc : CP wr lst T m) {a : Nat} (ha : a < m) (ih : a + 1 < m → ∀ j, j < T → b j (E (a + 1)) = lst (a + 1) j) : ∀ (d j : Nat), j + d + 1 = T → b j (E a) = lst a j := by
  obtain ⟨hE, hw1, hw2, hW, hw0⟩ := id hs
  have he := hE.2.2.2
  have up1 : ∀ j, j < T → b j (E a) ≤ lst a j := fun j hj => by
    obtain ⟨th, k1, k2, k3⟩ := (hc.2 a j ha hj).2
    have h1 := (x_of hb hs hc ha ih k2).1
    have h2 := b_downs hb (j := j) (w := E a) (he _ ha) k1 k2
    omega
  intro d
  induction d with
  | zero =>
    intro j hj
    have h1 := up1 j (by omega)
    have h2 := (hc.2 a j ha (by omega)).1 j (Nat.le_refl _) (by omega)
    have h3 := (x_of hb hs hc ha ih (th := j) (by omega)).2.1 (by omega)
    omega
  | succ d ihd =>
    intro j hj
    have h1 := up1 j (by omega)
    refine Int.le_antisymm h1 ?_
    obtain ⟨c, k1, k2, k3⟩ := ((hb j (E a) (by omega) (he _ ha)).2.2 (by omega)).2
    have h4 := ihd (j + 1) (by omega)
    by_cases q : a + 1 < m → c < E (a + 1)
    · have w1 := hW a j c ha (by omega) k1 k2 q
      have w2 := b_const hb hs ha d (j + 1) (by omega) c k1 k2 q
      obtain ⟨th, l1, l2, l3⟩ := (hc.2 a (j + 1) ha (by omega)).2
      have h5 := (hc.2 a j ha (by omega)).1 th (by omega) l2
      omega
    · have q1 : a + 1 < m := Classical.byContradiction (fun h => q (fun h' => absurd h' h))
      have q2 : E (a + 1) ≤ c := Classical.byContradiction (fun h => q (fun _ => by omega))
      have w1 := hw1 a j q1 (by omega)
      have p1 := ((hb j (E (a + 1)) (by omega) (he _ q1)).2.2 (by omega)).1 c q2 k2
      have h5 := (hc.2 a j ha (by omega)).1 j (Nat.le_refl _) (by omega)
      have h6 := (x_of hb hs hc ha ih (th := j) (by omega)).2.2 q1
      omega
theorem eqv {b W : Nat → Nat → Int} {T m : Nat} {E : Nat → Nat} {wr lst : Nat → Nat → Int} (hb : RA b W T) (hs : SA W T m E wr) (hc : CP wr lst T m) : ∀ (r a : Nat), a + r + 1 = m → ∀ j, j < T → b j (E a) = lst a j := by
  intro r
  induction r with
  | zero => intro a ha j hj; exact eqv1 hb hs hc (by omega) (fun h => by omega) (T - 1 - j) j (by omega)
  | succ r ih => intro a ha j hj; exact eqv1 hb hs hc (by omega) (fun _ => ih (a + 1) (by omega)) (T - 1 - j) j (by omega)
/-- the CUTS so far -/
def PI (b W : Nat → Nat → Int) (T m : Nat) (E : Nat → Nat) (a u : Nat) (cu0 : Nat → Nat) : Prop := u < T ∧ cu0 0 = 0 ∧ (∀ j, j < u → Nx b W j (cu0 j) (cu0 (j + 1))) ∧ (a < m → cu0 u ≤ E a ∧ b u (cu0 u) = W u (E a) - W u (cu0 u) + b u (E a) ∧ (u + 1 < T → ∀ c, cu0 u ≤ c → c < E a → ¬ Qc b W u (cu0 u) c)) ∧ (a = m → u + 1 = T)
theorem PI_0 {b W : Nat → Nat → Int} {T m : Nat} {E : Nat → Nat} (hT : 0 < T) (hE : Eg m E) : PI b W T m E 0 0 (fun _ => 0) := by
  refine ⟨hT, rfl, fun j hj => by omega, fun _ => ⟨Nat.zero_le _, ?_, fun _ c a b => ?_⟩, fun h => by have := hE.1; omega⟩
  · show b 0 0 = W 0 (E 0) - W 0 0 + b 0 (E 0)
    rw [hE.2.1]; omega
  · rw [hE.2.1] at b; omega
theorem PI_s {b W : Nat → Nat → Int} {T m : Nat} {E : Nat → Nat} {wr lst : Nat → Nat → Int} (hb : RA b W T) (hs : SA W T m E wr) (hc : CP wr lst T m) {a u th : Nat} {cu0 : Nat → Nat} (ha : a < m) (h : PI b W T m E a u cu0) (ht1 : u ≤ th) (ht2 : th < T) (hm1 : ∀ x, u ≤ x → x < T → Xw wr lst a th ≤ Xw wr lst a x) (hm2 : ∀ x, th < x → x < T → Xw wr lst a th < Xw wr lst a x) :
    PI b W T m E (a + 1) th (fun i => if u < i ∧ i ≤ th then E a else cu0 i) := by
  obtain ⟨hE, hw1, hw2, hW, hw0⟩ := id hs
  have he := hE.2.2.2 a ha
  obtain ⟨p1, p2, p3, p4, -⟩ := h
  obtain ⟨q1, q2, q3⟩ := p4 ha
  have eqa : ∀ j, j < T → b j (E a) = lst a j := eqv hb hs hc (m - 1 - a) a (by omega)
  -- the value at this EDGE, by how many CUTS
  have val : ∀ x, u ≤ x → x ≤ th → b x (E a) = Xw wr lst a th := by
    intro x x1 x2
    rw [eqa x (by omega)]
    obtain ⟨y, y1, y2, y3⟩ := (hc.2 a x ha (by omega)).2
    have a1 := (hc.2 a x ha (by omega)).1 th x2 ht2
    have a2 := hm1 y (by omega) y2
    omega
  have val2 : th + 1 < T → Xw wr lst a th < b (th + 1) (E a) := by
    intro hx
    rw [eqa (th + 1) hx]
    obtain ⟨y, y1, y2, y3⟩ := (hc.2 a (th + 1) ha hx).2
    have a2 := hm2 y (by omega) y2
    omega
  have vth := val th ht1 (Nat.le_refl _)
  have bth := (hb th (E a) ht2 he).1
  -- the new CUTS
  have ce0 : ∀ i, i ≤ u → (if u < i ∧ i ≤ th then E a else cu0 i) = cu0 i := fun i hi => if_neg (by omega)
  have ce1 : ∀ i, u < i → i ≤ th → (if u < i ∧ i ≤ th then E a else cu0 i) = E a := fun i h1 h2 => if_pos ⟨h1, h2⟩
  have hcu : cu0 u < 1000 := by omega
  refine ⟨ht2, ?_, fun j hj => ?_, fun ha1 => ?_, fun hm => ?_⟩
  · show (if u < 0 ∧ 0 ≤ th then E a else cu0 0) = 0
    rw [ce0 0 (by omega)]; exact p2
  · show Nx b W j (if u < j ∧ j ≤ th then E a else cu0 j) (if u < j + 1 ∧ j + 1 ≤ th then E a else cu0 (j + 1))
    by_cases x1 : j < u
    · rw [ce0 j (by omega), ce0 (j + 1) (by omega)]; exact p3 j x1
    · rw [ce1 (j + 1) (by omega) (by omega)]
      have v0 := val j (by omega) (by omega)
      have v1 := val (j + 1) (by omega) (by omega)
      by_cases x2 : j = u
      · subst x2
        rw [ce0 j (Nat.le_refl _)]
        refine ⟨q1, he, ?_, fun c' a1 a2 => q3 (by omega) c' a1 a2⟩
        unfold Qc; omega
      · rw [ce1 j (by omega) (by omega)]
        refine ⟨Nat.le_refl _, he, ?_, fun c' a1 a2 => by omega⟩
        unfold Qc; omega
  · show (if u < th ∧ th ≤ th then E a else cu0 th) ≤ E (a + 1) ∧ b th (if u < th ∧ th ≤ th then E a else cu0 th) = W th (E (a + 1)) - W th (if u < th ∧ th ≤ th then E a else cu0 th) + b th (E (a + 1)) ∧ (th + 1 < T → ∀ c, (if u < th ∧ th ≤ th then E a else cu0 th) ≤ c → c < E (a + 1) → ¬ Qc b W th (if u < th ∧ th ≤ th then E a else cu0 th) c)
    have e1 := hE.2.2.1 a ha1
    have e2 := hE.2.2.2 (a + 1) ha1
    have w1 := hw1 a th ha1 ht2
    have eq1 : b th (E (a + 1)) = lst (a + 1) th := eqv hb hs hc (m - 2 - a) (a + 1) (by omega) th ht2
    have vx : b th (E a) = wr a th + b th (E (a + 1)) := by
      rw [vth, eq1]; unfold Xw
      rw [vth] at bth; unfold Xw at bth
      omega
    -- no CUT more in this piece
    have none : th + 1 < T → ∀ z, b th z = W th (E a) - W th z + b th (E a) → ∀ c, E a ≤ c → c < E (a + 1) → ¬ Qc b W th z c := by
      intro hx z hz c c1 c2 hq
      unfold Qc at hq
      have w2 := hW a th c ha ht2 c1 (by omega) (fun _ => c2)
      have w3 := b_const hb hs ha (T - 2 - th) (th + 1) (by omega) c c1 (by omega) (fun _ => c2)
      have := val2 hx
      omega
    by_cases x1 : u < th
    · rw [if_pos ⟨x1, Nat.le_refl _⟩]
      exact ⟨by omega, by omega, fun hx c c1 c2 => none hx (E a) (by omega) c c1 c2⟩
    · obtain rfl : u = th := by omega
      rw [if_neg (by omega)]
      refine ⟨by omega, by omega, fun hx c c1 c2 => ?_⟩
      by_cases x2 : c < E a
      · exact q3 hx c c1 x2
      · exact none hx (cu0 u) q2 c (by omega) c2
  · by_cases x1 : th + 1 = T
    · exact x1
    · exfalso
      have h9 := hm2 (T - 1) (by omega) (by omega)
      unfold Xw at h9
      rw [hm, hc.1 th ht2, hc.1 (T - 1) (by omega), if_neg x1, if_pos (by omega)] at h9
      have h10 := (hm1 (T - 1) (by omega) (by omega))
      unfold Xw at h10
      rw [hm, hc.1 th ht2, hc.1 (T - 1) (by omega), if_neg x1, if_pos (by omega)] at h10
      have h11 := hw0 a th ha ht2
      have h12 := (hb (T - 1) (E a) (by omega) he)
      have h13 := (x_of hb hs hc ha (fun h => by omega) (th := T - 1) (by omega)).2.1 (by omega)
      unfold Xw at h13
      rw [hm, hc.1 (T - 1) (by omega), if_pos (by omega)] at h13
      have h14 := h12.1
      omega
