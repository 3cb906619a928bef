/-! chosen: heaps, counted by their weight -/
def c1 : List Nat → Int → Nat
  | [], _ => 0
  | x :: t, v => (if v = (x : Int) then 1 else 0) + c1 t v
def c2 : List Nat → Int → Nat
  | [], _ => 0
  | x :: t, v => c1 (x :: t) (v - x) + c2 t v
def c3 : List Nat → Int → Nat
  | [], _ => 0
  | x :: t, v => c2 (x :: t) (v - x) + c3 t v
theorem c1_c {x : Nat} {t : List Nat} {v : Int} : c1 (x :: t) v = (if v = (x : Int) then 1 else 0) + c1 t v := rfl
theorem c2_c {x : Nat} {t : List Nat} {v : Int} : c2 (x :: t) v = c1 (x :: t) (v - x) + c2 t v := rfl
theorem c3_c {x : Nat} {t : List Nat} {v : Int} : c3 (x :: t) v = c2 (x :: t) (v - x) + c3 t v := rfl
def tk (k : Nat) (l : List Nat) (v : Int) : Nat := c1 l v + (if 2 ≤ k then c2 l v else 0) + (if 3 ≤ k then c3 l v else 0)
def Un1 (k : Nat) (l : List Nat) : Prop := ∀ v, tk k l v ≤ 1
theorem ins1 {x : Nat} {s : List Nat} : ∀ {p : List Nat} {v : Int}, c1 (p ++ x :: s) v = (if v = (x : Int) then 1 else 0) + c1 (p ++ s) v := by
  intro p
  induction p with
  | nil => intro v; rfl
  | cons y p ih => intro v; rw [List.cons_append, List.cons_append, c1_c, c1_c, ih]; omega
theorem ins2 {x : Nat} {s : List Nat} : ∀ {p : List Nat} {v : Int}, c2 (p ++ x :: s) v = c1 (p ++ x :: s) (v - x) + c2 (p ++ s) v := by
  intro p
  induction p with
  | nil => intro v; rfl
  | cons y p ih =>
    intro v
    have e1 := ih (v := v)
    have e2 := ins1 (x := x) (s := s) (p := p) (v := v - y)
    have e3 : (if v - (y : Int) = (x : Int) then 1 else 0 : Nat) = if v - (x : Int) = (y : Int) then 1 else 0 := by split <;> split <;> omega
    rw [List.cons_append, List.cons_append, c2_c, c2_c, c1_c, c1_c, c1_c, e1, e2, e3]; omega
theorem ins3 {x : Nat} {s : List Nat} : ∀ {p : List Nat} {v : Int}, c3 (p ++ x :: s) v = c2 (p ++ x :: s) (v - x) + c3 (p ++ s) v := by
  intro p
  induction p with
  | nil => intro v; rfl
  | cons y p ih =>
    intro v
    have e1 := ih (v := v)
    have e2 := ins2 (x := x) (s := s) (p := y :: p) (v := v - y)
    have e3 : c2 (y :: (p ++ x :: s)) (v - x) = c1 (y :: (p ++ x :: s)) (v - x - y) + c2 (p ++ x :: s) (v - x) := c2_c
    rw [List.cons_append, List.cons_append] at e2
    rw [List.cons_append, List.cons_append, c3_c, c3_c, e1, e2, e3, show v - (y : Int) - x = v - x - y by omega]; omega
theorem c1_neg : ∀ {l : List Nat} {v : Int}, v < 0 → c1 l v = 0 := by
  intro l
  induction l with
  | nil => intro v _; rfl
  | cons x t ih => intro v h; rw [c1_c, ih h, if_neg (by omega)]
theorem c2_neg : ∀ {l : List Nat} {v : Int}, v < 0 → c2 l v = 0 := by
  intro l
  induction l with
  | nil => intro v _; rfl
  | cons x t ih => intro v h; rw [c2_c, ih h, c1_neg (by omega)]
/-- masks that hold the counts -/
def Rp (k : Nat) (l : List Nat) (S1 S2 W : Nat) : Prop := (∀ v : Nat, Nat.testBit S1 v = true ↔ c1 l v = 1) ∧ (2 ≤ k → ∀ v : Nat, Nat.testBit S2 v = true ↔ c2 l v = 1) ∧ (∀ v : Nat, Nat.testBit W v = true ↔ tk k l v = 1) ∧ Un1 k l
def adm {ρ : Type} (k S1 S2 W x : Nat) (f : Nat → Nat → Nat → ρ) (z : ρ) : ρ :=
  cond (Nat.beq (Nat.land W (Nat.shiftLeft 1 x)) 0)
    (cond (Nat.ble 2 k)
      (cond (Nat.beq (Nat.land (Nat.lor W (Nat.shiftLeft 1 x)) (Nat.shiftLeft (Nat.lor S1 (Nat.shiftLeft 1 x)) x)) 0)
        (cond (Nat.ble 3 k)
          (cond (Nat.beq (Nat.land (Nat.lor (Nat.lor W (Nat.shiftLeft 1 x)) (Nat.shiftLeft (Nat.lor S1 (Nat.shiftLeft 1 x)) x)) (Nat.shiftLeft (Nat.lor S2 (Nat.shiftLeft (Nat.lor S1 (Nat.shiftLeft 1 x)) x)) x)) 0)
            (f (Nat.lor S1 (Nat.shiftLeft 1 x)) (Nat.lor S2 (Nat.shiftLeft (Nat.lor S1 (Nat.shiftLeft 1 x)) x)) (Nat.lor (Nat.lor (Nat.lor W (Nat.shiftLeft 1 x)) (Nat.shiftLeft (Nat.lor S1 (Nat.shiftLeft 1 x)) x)) (Nat.shiftLeft (Nat.lor S2 (Nat.shiftLeft (Nat.lor S1 (Nat.shiftLeft 1 x)) x)) x))) z)
          (f (Nat.lor S1 (Nat.shiftLeft 1 x)) (Nat.lor S2 (Nat.shiftLeft (Nat.lor S1 (Nat.shiftLeft 1 x)) x)) (Nat.lor (Nat.lor W (Nat.shiftLeft 1 x)) (Nat.shiftLeft (Nat.lor S1 (Nat.shiftLeft 1 x)) x)))) z)
      (f (Nat.lor S1 (Nat.shiftLeft 1 x)) S2 (Nat.lor W (Nat.shiftLeft 1 x)))) z
theorem tl_or {a b v : Nat} : Nat.testBit (Nat.lor a b) v = (Nat.testBit a v || Nat.testBit b v) := Nat.testBit_or a b v
theorem tl_sh {a x v : Nat} : Nat.testBit (Nat.shiftLeft a x) v = (decide (x ≤ v) && Nat.testBit a (v - x)) := by
  have := Nat.testBit_shiftLeft (i := x) (j := v) a
  exact this
theorem tl_1 {x v : Nat} : Nat.testBit (Nat.shiftLeft 1 x) v = true ↔ v = x := by
  rw [tl_sh, Bool.and_eq_true, decide_eq_true_eq]
  constructor
  · rintro ⟨a, b⟩
    have := Nat.testBit_one_eq_true_iff_self_eq_zero.mp b; omega
  · rintro rfl; exact ⟨Nat.le_refl _, by rw [Nat.sub_self]; rfl⟩
theorem tl_and {a b : Nat} : Nat.beq (Nat.land a b) 0 = true ↔ ∀ v, ¬ (Nat.testBit a v = true ∧ Nat.testBit b v = true) := by
  rw [Nat.beq_eq]
  constructor
  · intro h v hv
    have h2 : Nat.testBit (Nat.land a b) v = (Nat.testBit a v && Nat.testBit b v) := Nat.testBit_and a b v
    rw [h, hv.1, hv.2, Nat.zero_testBit] at h2; cases h2
  · intro h
    refine Nat.eq_of_testBit_eq (fun v => ?_)
    have h2 : Nat.testBit (Nat.land a b) v = (Nat.testBit a v && Nat.testBit b v) := Nat.testBit_and a b v
    rw [h2, Nat.zero_testBit]
    cases ha : Nat.testBit a v with
    | false => rfl
    | true => cases hb : Nat.testBit b v with
      | false => rfl
      | true => exact absurd ⟨ha, hb⟩ (h v)
theorem tk_ins {k x : Nat} {p s : List Nat} {v : Int} : tk k (p ++ x :: s) v = tk k (p ++ s) v + (if v = (x : Int) then 1 else 0) + (if 2 ≤ k then c1 (p ++ x :: s) (v - x) else 0) + (if 3 ≤ k then c2 (p ++ x :: s) (v - x) else 0) := by
  unfold tk
  rw [ins1 (v := v), ins2 (v := v), ins3 (v := v)]
  by_cases k2 : 2 ≤ k
  · by_cases k3 : 3 ≤ k
    · simp only [if_pos k2, if_pos k3]; omega
    · simp only [if_pos k2, if_neg k3]; omega
  · simp only [if_neg k2, if_neg (show ¬ 3 ≤ k by omega)]; omega
theorem adm_ok {k x : Nat} {p s : List Nat} {S1 S2 W : Nat} (h : Rp k (p ++ s) S1 S2 W) : (Un1 k (p ++ x :: s) ∧ ∃ S1' S2' W', Rp k (p ++ x :: s) S1' S2' W' ∧ ∀ (f : Nat → Nat → Nat → Option (List Nat)) z, adm k S1 S2 W x f z = f S1' S2' W') ∨ (¬ Un1 k (p ++ x :: s) ∧ ∀ (f : Nat → Nat → Nat → Option (List Nat)) z, adm k S1 S2 W x f z = z) := by
  obtain ⟨h1, h2, h3, h4⟩ := h
  have t1 : ∀ v, c1 (p ++ s) v ≤ tk k (p ++ s) v := fun v => by unfold tk; omega
  have t2 : 2 ≤ k → ∀ v, c1 (p ++ s) v + c2 (p ++ s) v ≤ tk k (p ++ s) v := fun hk v => by unfold tk; rw [if_pos hk]; omega
  have w1 : ∀ v : Nat, Nat.testBit (Nat.lor W (Nat.shiftLeft 1 x)) v = true ↔ tk k (p ++ s) v = 1 ∨ v = x := fun v => by rw [tl_or, Bool.or_eq_true, h3, tl_1]
  have s1 : ∀ v : Nat, Nat.testBit (Nat.lor S1 (Nat.shiftLeft 1 x)) v = true ↔ c1 (p ++ s) v = 1 ∨ v = x := fun v => by rw [tl_or, Bool.or_eq_true, h1, tl_1]
  unfold adm
  by_cases q1 : Nat.beq (Nat.land W (Nat.shiftLeft 1 x)) 0 = true
  · rw [q1]
    have hx : tk k (p ++ s) x = 0 := by
      have := (tl_and.mp q1) x
      have h9 := h4 x
      rw [h3, tl_1] at this
      have : ¬ tk k (p ++ s) x = 1 := fun h => this ⟨h, rfl⟩
      omega
    have hc1 : ∀ v, c1 (p ++ x :: s) v ≤ 1 := fun v => by
      rw [ins1]
      have := t1 v; have := h4 v; have := t1 x
      by_cases q : v = (x : Int)
      · subst q; rw [if_pos rfl]; omega
      · rw [if_neg q]; omega
    have s1' : ∀ v : Nat, Nat.testBit (Nat.lor S1 (Nat.shiftLeft 1 x)) v = true ↔ c1 (p ++ x :: s) v = 1 := fun v => by
      rw [s1, ins1]
      have := t1 v; have := h4 v; have := t1 x
      by_cases q : (v : Int) = (x : Int)
      · have : v = x := by omega
        subst this; rw [if_pos rfl]; omega
      · rw [if_neg q]; omega
    by_cases k2 : 2 ≤ k
    · rw [show Nat.ble 2 k = true from Nat.ble_eq.mpr k2]
      have n2 : ∀ v : Nat, Nat.testBit (Nat.shiftLeft (Nat.lor S1 (Nat.shiftLeft 1 x)) x) v = true ↔ c1 (p ++ x :: s) ((v : Int) - x) = 1 := fun v => by
        rw [tl_sh, Bool.and_eq_true, decide_eq_true_eq, s1']
        by_cases q : x ≤ v
        · rw [show ((v - x : Nat) : Int) = (v : Int) - x by omega]; exact ⟨fun a => a.2, fun a => ⟨q, a⟩⟩
        · rw [c1_neg (show (v : Int) - x < 0 by omega)]; omega
      by_cases q2 : Nat.beq (Nat.land (Nat.lor W (Nat.shiftLeft 1 x)) (Nat.shiftLeft (Nat.lor S1 (Nat.shiftLeft 1 x)) x)) 0 = true
      · rw [q2]
        have d2 : ∀ v : Nat, tk k (p ++ s) v + (if (v : Int) = (x : Int) then 1 else 0) + c1 (p ++ x :: s) ((v : Int) - x) ≤ 1 := fun v => by
          have a1 := (tl_and.mp q2) v
          rw [w1, n2] at a1
          have a2 := h4 v
          have a3 := hc1 ((v : Int) - x)
          by_cases q : (v : Int) = (x : Int)
          · have : v = x := by omega
            subst this; rw [if_pos rfl]
            have : ¬ c1 (p ++ v :: s) ((v : Int) - v) = 1 := fun h => a1 ⟨Or.inr rfl, h⟩
            omega
          · rw [if_neg q]
            by_cases q5 : c1 (p ++ x :: s) ((v : Int) - x) = 1
            · have : ¬ tk k (p ++ s) v = 1 := fun h => a1 ⟨Or.inl h, q5⟩
              omega
            · omega
        have hc2 : ∀ v : Nat, c2 (p ++ x :: s) v ≤ 1 := fun v => by
          rw [ins2]
          have := d2 v; have := t2 k2 v; omega
        have s2' : ∀ v : Nat, Nat.testBit (Nat.lor S2 (Nat.shiftLeft (Nat.lor S1 (Nat.shiftLeft 1 x)) x)) v = true ↔ c2 (p ++ x :: s) v = 1 := fun v => by
          rw [tl_or, Bool.or_eq_true, h2 k2, n2, ins2 (v := v)]
          have := d2 v; have := t2 k2 v; omega
        have w2 : ∀ v : Nat, Nat.testBit (Nat.lor (Nat.lor W (Nat.shiftLeft 1 x)) (Nat.shiftLeft (Nat.lor S1 (Nat.shiftLeft 1 x)) x)) v = true ↔ tk k (p ++ s) v + (if (v : Int) = (x : Int) then 1 else 0) + c1 (p ++ x :: s) ((v : Int) - x) = 1 := fun v => by
          rw [tl_or, Bool.or_eq_true, w1, n2]
          have a1 := d2 v
          by_cases q : (v : Int) = (x : Int)
          · rw [if_pos q] at a1 ⊢; omega
          · rw [if_neg q] at a1 ⊢; omega
        by_cases k3 : 3 ≤ k
        · rw [show Nat.ble 3 k = true from Nat.ble_eq.mpr k3]
          have n3 : ∀ v : Nat, Nat.testBit (Nat.shiftLeft (Nat.lor S2 (Nat.shiftLeft (Nat.lor S1 (Nat.shiftLeft 1 x)) x)) x) v = true ↔ c2 (p ++ x :: s) ((v : Int) - x) = 1 := fun v => by
            rw [tl_sh, Bool.and_eq_true, decide_eq_true_eq, s2']
            by_cases q : x ≤ v
            · rw [show ((v - x : Nat) : Int) = (v : Int) - x by omega]; exact ⟨fun a => a.2, fun a => ⟨q, a⟩⟩
            · rw [c2_neg (show (v : Int) - x < 0 by omega)]; omega
          have b3 : ∀ v : Nat, c2 (p ++ x :: s) ((v : Int) - x) ≤ 1 := fun v => by
            by_cases q : x ≤ v
            · have := hc2 (v - x); rw [show ((v - x : Nat) : Int) = (v : Int) - x by omega] at this; exact this
            · rw [c2_neg (by omega)]; omega
          by_cases q3 : Nat.beq (Nat.land (Nat.lor (Nat.lor W (Nat.shiftLeft 1 x)) (Nat.shiftLeft (Nat.lor S1 (Nat.shiftLeft 1 x)) x)) (Nat.shiftLeft (Nat.lor S2 (Nat.shiftLeft (Nat.lor S1 (Nat.shiftLeft 1 x)) x)) x)) 0 = true
          · rw [q3]
            have d3 : ∀ v : Nat, tk k (p ++ x :: s) v ≤ 1 := fun v => by
              have a1 := (tl_and.mp q3) v
              rw [w2, n3] at a1
              have a2 := d2 v
              have a3 := b3 v
              rw [tk_ins, if_pos k2, if_pos k3]
              by_cases q5 : c2 (p ++ x :: s) ((v : Int) - x) = 1
              · have := fun h => a1 ⟨h, q5⟩
                omega
              · omega
            have d3' : Un1 k (p ++ x :: s) := fun v => by
              by_cases q : 0 ≤ v
              · obtain ⟨u, rfl⟩ := Int.eq_ofNat_of_zero_le q; exact d3 u
              · rw [tk_ins, if_pos k2, if_pos k3, c1_neg (by omega), c2_neg (by omega), if_neg (by omega)]
                have := h4 v; omega
            refine Or.inl ⟨d3', _, _, _, ⟨s1', fun _ => s2', fun v => ?_, d3'⟩, fun f z => rfl⟩
            rw [tl_or, Bool.or_eq_true, w2, n3, tk_ins, if_pos k2, if_pos k3]
            have a1 := d3 v
            rw [tk_ins, if_pos k2, if_pos k3] at a1
            omega
          · rw [show Nat.beq (Nat.land (Nat.lor (Nat.lor W (Nat.shiftLeft 1 x)) (Nat.shiftLeft (Nat.lor S1 (Nat.shiftLeft 1 x)) x)) (Nat.shiftLeft (Nat.lor S2 (Nat.shiftLeft (Nat.lor S1 (Nat.shiftLeft 1 x)) x)) x)) 0 = false from Bool.eq_false_iff.mpr q3]
            refine Or.inr ⟨fun hu => q3 (tl_and.mpr (fun v hv => ?_)), fun f z => rfl⟩
            rw [w2, n3] at hv
            have := hu v
            rw [tk_ins, if_pos k2, if_pos k3] at this
            omega
        · rw [show Nat.ble 3 k = false by cases hb : Nat.ble 3 k with | false => rfl | true => exact absurd (Nat.ble_eq.mp hb) k3]
          have d2' : Un1 k (p ++ x :: s) := fun v => by
            rw [tk_ins, if_pos k2, if_neg k3]
            by_cases q : 0 ≤ v
            · obtain ⟨u, rfl⟩ := Int.eq_ofNat_of_zero_le q; have := d2 u; omega
            · rw [c1_neg (by omega), if_neg (by omega)]
              have := h4 v; omega
          refine Or.inl ⟨d2', _, _, _, ⟨s1', fun _ => s2', fun v => ?_, d2'⟩, fun f z => rfl⟩
          rw [w2, tk_ins, if_pos k2, if_neg k3, Nat.add_zero]
      · rw [show Nat.beq (Nat.land (Nat.lor W (Nat.shiftLeft 1 x)) (Nat.shiftLeft (Nat.lor S1 (Nat.shiftLeft 1 x)) x)) 0 = false from Bool.eq_false_iff.mpr q2]
        refine Or.inr ⟨fun hu => q2 (tl_and.mpr (fun v hv => ?_)), fun f z => rfl⟩
        rw [w1, n2] at hv
        have := hu v
        rw [tk_ins, if_pos k2] at this
        rcases hv with ⟨h | h, h'⟩
        · omega
        · subst h; rw [if_pos rfl] at this; omega
    · rw [show Nat.ble 2 k = false by cases hb : Nat.ble 2 k with | false => rfl | true => exact absurd (Nat.ble_eq.mp hb) k2]
      have d1 : ∀ v, tk k (p ++ x :: s) v = tk k (p ++ s) v + (if v = (x : Int) then 1 else 0) := fun v => by
        rw [tk_ins, if_neg k2, if_neg (show ¬ 3 ≤ k by omega), Nat.add_zero]
      have d1' : Un1 k (p ++ x :: s) := fun v => by
        rw [d1]
        have := h4 v
        by_cases q : v = (x : Int)
        · subst q; rw [if_pos rfl]; omega
        · rw [if_neg q]; omega
      refine Or.inl ⟨d1', _, _, _, ⟨s1', fun h => absurd h k2, fun v => ?_, d1'⟩, fun f z => rfl⟩
      rw [w1, d1]
      have := h4 v
      by_cases q : (v : Int) = (x : Int)
      · have : v = x := by omega
        subst this; rw [if_pos rfl]; omega
      · rw [if_neg q]; omega
  · rw [show Nat.beq (Nat.land W (Nat.shiftLeft 1 x)) 0 = false from Bool.eq_false_iff.mpr q1]
    refine Or.inr ⟨fun hu => q1 (tl_and.mpr (fun v hv => ?_)), fun f z => rfl⟩
    rw [h3, tl_1] at hv
    obtain ⟨a, rfl⟩ := hv
    have := hu v
    rw [tk_ins, if_pos rfl] at this
    omega
