/-! chosen: the reference weighs heaps -/
theorem wz_eq {ρ : Type} {M : Mem} {k N : Nat} {i x : Int} {f : Mem → Option ρ} (h0 : 0 ≤ i) (h1 : i < (N : Int)) (hx : x = 0 ∨ x = 1) : wz M k N i x f = f (up M k i.toNat x) := by unfold wz; rw [if_pos ⟨⟨h0, h1⟩, hx⟩]
def sf (h : Nat → Nat) (i : Nat) : Nat → List Nat
  | 0 => []
  | m + 1 => h i :: sf h (i + 1) m
def Qn (is : Int) (E : Mem) (pc : Int → Nat) : Prop := (is = 1 ∧ (∀ v, pc v ≤ 1) ∧ ∀ v : Nat, v < 181 → E 99 v = if pc v = 0 then 0 else 1) ∨ (is = 0 ∧ ∃ v, 2 ≤ pc v)
theorem Qn_01 {is : Int} {E : Mem} {pc : Int → Nat} (h : Qn is E pc) : is = 0 ∨ is = 1 := by
  rcases h with ⟨h, _⟩ | ⟨h, _⟩
  · exact Or.inr h
  · exact Or.inl h
theorem Qn_0 {E E' : Mem} {pc pc' : Int → Nat} (h : Qn 0 E pc) (hle : ∀ v, pc v ≤ pc' v) : Qn 0 E' pc' := by
  rcases h with ⟨h, _⟩ | ⟨_, v, hv⟩
  · cases h
  · exact Or.inr ⟨rfl, v, Nat.le_trans hv (hle v)⟩
theorem Qn_e {is : Int} {E : Mem} {pc pc' : Int → Nat} (h : Qn is E pc) (he : ∀ v, pc v = pc' v) : Qn is E pc' := by
  rw [show pc' = pc from funext (fun v => (he v).symm)]; exact h
theorem q_new {E : Mem} {pc : Int → Nat} {s : Int} (h : Qn 1 E pc) (h0 : 0 ≤ s) (h1 : s < 181) : ∃ is E', fn_X11_isNew 71 s E = some (is, E') ∧ (∀ k i, k ≠ 99 → E' k i = E k i) ∧ Qn is E' (fun v => pc v + if v = s then 1 else 0) := by
  obtain ⟨u, rfl⟩ := Int.eq_ofNat_of_zero_le h0
  rcases h with ⟨_, ha, hb⟩ | ⟨h, _⟩
  · have hu := hb u (by omega)
    have hu1 := ha u
    unfold fn_X11_isNew fn_X11_isNew_J14
    rw [rd_eq h0 (by omega), Int.toNat_natCast, show 71 + 28 = 99 from rfl, hu]
    by_cases q : pc u = 0
    · rw [if_pos q, cEq_if (by decide) (by decide) (by decide) (by decide), if_pos rfl, wz_eq (by omega) (by omega) (Or.inr rfl), ck_t (Or.inr rfl), Int.toNat_natCast]
      refine ⟨_, _, rfl, fun k i hk => by rw [up_o hk], Or.inl ⟨rfl, fun v => ?_, fun v hv => ?_⟩⟩
      · show pc v + (if v = (u : Int) then 1 else 0) ≤ 1
        by_cases q2 : v = (u : Int)
        · rw [if_pos q2, q2, q]; decide
        · rw [if_neg q2]; exact ha v
      · show _ = if pc v + (if (v : Int) = (u : Int) then 1 else 0) = 0 then 0 else 1
        rw [up_i]
        by_cases q2 : v = u
        · subst q2; rw [if_pos rfl, if_pos rfl, if_neg (by omega)]
        · rw [if_neg q2, if_neg (show ¬ (v : Int) = (u : Int) by omega), Nat.add_zero]; exact hb v hv
    · rw [if_neg q, cEq_if (by decide) (by decide) (by decide) (by decide), if_neg (by decide), wz_eq (by omega) (by omega) (Or.inr rfl), ck_t (Or.inl rfl), Int.toNat_natCast]
      refine ⟨_, _, rfl, fun k i hk => by rw [up_o hk], Or.inr ⟨rfl, (u : Int), ?_⟩⟩
      show 2 ≤ pc u + (if (u : Int) = (u : Int) then 1 else 0)
      rw [if_pos rfl]; omega
  · cases h
/-- what the heaps' places are -/
def Hp (E : Mem) (h : Nat → Nat) (N : Nat) : Prop := N ≤ 5 ∧ ∀ i, i ≤ N → E 98 i = (h i : Int) ∧ h i ≤ 60
theorem Hp_f {E E' : Mem} {h : Nat → Nat} {N : Nat} (he : ∀ i, E' 98 i = E 98 i) (hp : Hp E h N) : Hp E' h N := ⟨hp.1, fun i hi => by rw [he]; exact hp.2 i hi⟩
theorem q_z {E : Mem} {h : Nat → Nat} {N k x y : Nat} {is : Int} {pc : Int → Nat} {rec95 : Int → Int → Mem → Option (Int × Mem)} (hp : Hp E h N) (hx : x ≤ y) (hy : y ≤ N) (hk : k ≤ 3) (hq : Qn is E pc) :
    ∃ is' E', lq3 (fn_X11_areUnlike_L136 71 N k x y rec95) FU y is E = fn_X11_areUnlike_J187 y rec95 is' E' ∧ (∀ k i, k ≠ 99 → E' k i = E k i) ∧ Qn is' E' (fun v => pc v + if 3 ≤ k then c1 (sf h y (N + 1 - y)) (v - h x - h y) else 0) := by
  refine lr3 (P := fun o => ∃ is' E', o = fn_X11_areUnlike_J187 y rec95 is' E' ∧ (∀ k i, k ≠ 99 → E' k i = E k i) ∧ Qn is' E' (fun v => pc v + if 3 ≤ k then c1 (sf h y (N + 1 - y)) (v - h x - h y) else 0)) (I := fun q a b G => ∃ (z : Nat) (pc' : Int → Nat), z + q = N + 1 ∧ y ≤ z ∧ a = (z : Int) ∧ (∀ k i, k ≠ 99 → G k i = E k i) ∧ Qn b G pc' ∧ ∀ v, pc' v + (if 3 ≤ k then c1 (sf h z (N + 1 - z)) (v - h x - h y) else 0) = pc v + if 3 ≤ k then c1 (sf h y (N + 1 - y)) (v - h x - h y) else 0) ?_ (N + 1 - y) FU y is E (lt_FU (by have := hp.1; omega)) ⟨y, pc, by omega, Nat.le_refl _, rfl, fun _ _ _ => rfl, hq, fun v => rfl⟩
  rintro q a b G rec ⟨z, pc', e1, e2, rfl, e3, e4, e5⟩ ih
  have h5 := hp.1
  have hb := Qn_01 e4
  unfold fn_X11_areUnlike_L136
  simp only [nm_eq]
  rw [cLt_if (by omega) (by omega) (by omega) (by omega)]
  by_cases q1 : (N : Int) < (z : Int)
  · rw [if_pos q1]
    refine ⟨b, G, rfl, e3, Qn_e e4 (fun v => ?_)⟩
    rw [← e5 v, show N + 1 - z = 0 by omega]
    show _ = pc' v + (if 3 ≤ k then 0 else 0)
    split <;> rfl
  · rw [if_neg q1, cEq_if (by omega) (by omega) (by decide) (by decide)]
    by_cases q2 : b = 0
    · rw [if_pos q2]
      subst q2
      exact ⟨0, G, rfl, e3, Qn_0 e4 (fun v => by rw [← e5 v]; omega)⟩
    · rw [if_neg q2, cLt_if (by decide) (by decide) (by omega) (by omega)]
      obtain rfl : b = 1 := by omega
      by_cases q3 : (2 : Int) < (k : Int)
      · have k3 : 3 ≤ k := by omega
        obtain ⟨q, rfl⟩ : ∃ r', q = r' + 1 := ⟨q - 1, by omega⟩
        obtain ⟨a1, a2⟩ := hp.2 x (by omega)
        obtain ⟨b1, b2⟩ := hp.2 y (by omega)
        obtain ⟨d1, d2⟩ := hp.2 z (by omega)
        obtain ⟨is2, G2, f1, f2, f3⟩ := q_new (s := (h x : Int) + h y + h z) e4 (by omega) (by omega)
        rw [if_pos q3, rd_eq (by omega) (by omega), rd_eq (by omega) (by omega), rd_eq (by omega) (by omega), Int.toNat_natCast, Int.toNat_natCast, Int.toNat_natCast, show 71 + 27 = 98 from rfl, e3 98 x (by decide), e3 98 y (by decide), e3 98 z (by decide), a1, b1, d1, f1, cl_s]
        refine ih q _ _ _ (by omega) ⟨z + 1, _, by omega, by omega, by omega, fun k i hk => by rw [f2 k i hk]; exact e3 k i hk, f3, fun v => ?_⟩
        rw [← e5 v, if_pos k3, if_pos k3, show N + 1 - z = (N + 1 - (z + 1)) + 1 by omega]
        show pc' v + (if v = (h x : Int) + h y + h z then 1 else 0) + c1 (sf h (z + 1) (N + 1 - (z + 1))) (v - h x - h y) = pc' v + ((if v - h x - h y = (h z : Int) then 1 else 0) + c1 (sf h (z + 1) (N + 1 - (z + 1))) (v - h x - h y))
        by_cases q4 : v = (h x : Int) + h y + h z
        · rw [if_pos q4, if_pos (by omega)]; omega
        · rw [if_neg q4, if_neg (by omega)]; omega
      · rw [if_neg q3]
        refine ⟨1, G, rfl, e3, Qn_e e4 (fun v => ?_)⟩
        rw [← e5 v, if_neg (by omega)]; rfl
theorem q_y {E : Mem} {h : Nat → Nat} {N k x : Nat} {is : Int} {pc : Int → Nat} {rec67 : Int → Int → Mem → Option (Int × Mem)} (hp : Hp E h N) (hx : x ≤ N) (hk : k ≤ 3) (hq : Qn is E pc) :
    ∃ is' E', lq3 (fn_X11_areUnlike_L95 71 N k x rec67) FU x is E = fn_X11_areUnlike_J193 x rec67 is' E' ∧ (∀ k i, k ≠ 99 → E' k i = E k i) ∧ Qn is' E' (fun v => pc v + ((if 2 ≤ k then c1 (sf h x (N + 1 - x)) (v - h x) else 0) + if 3 ≤ k then c2 (sf h x (N + 1 - x)) (v - h x) else 0)) := by
  refine lr3 (P := fun o => ∃ is' E', o = fn_X11_areUnlike_J193 x rec67 is' E' ∧ (∀ k i, k ≠ 99 → E' k i = E k i) ∧ Qn is' E' (fun v => pc v + ((if 2 ≤ k then c1 (sf h x (N + 1 - x)) (v - h x) else 0) + if 3 ≤ k then c2 (sf h x (N + 1 - x)) (v - h x) else 0))) (I := fun q a b G => ∃ (y : Nat) (pc' : Int → Nat), y + q = N + 1 ∧ x ≤ y ∧ a = (y : Int) ∧ (∀ k i, k ≠ 99 → G k i = E k i) ∧ Qn b G pc' ∧ ∀ v, pc' v + ((if 2 ≤ k then c1 (sf h y (N + 1 - y)) (v - h x) else 0) + if 3 ≤ k then c2 (sf h y (N + 1 - y)) (v - h x) else 0) = pc v + ((if 2 ≤ k then c1 (sf h x (N + 1 - x)) (v - h x) else 0) + if 3 ≤ k then c2 (sf h x (N + 1 - x)) (v - h x) else 0)) ?_ (N + 1 - x) FU x is E (lt_FU (by have := hp.1; omega)) ⟨x, pc, by omega, Nat.le_refl _, rfl, fun _ _ _ => rfl, hq, fun v => rfl⟩
  rintro q a b G rec ⟨y, pc', e1, e2, rfl, e3, e4, e5⟩ ih
  have h5 := hp.1
  have hb := Qn_01 e4
  unfold fn_X11_areUnlike_L95
  rw [cLt_if (by omega) (by omega) (by omega) (by omega)]
  by_cases q1 : (N : Int) < (y : Int)
  · rw [if_pos q1]
    refine ⟨b, G, rfl, e3, Qn_e e4 (fun v => ?_)⟩
    rw [← e5 v, show N + 1 - y = 0 by omega]
    show _ = pc' v + ((if 2 ≤ k then 0 else 0) + if 3 ≤ k then 0 else 0)
    split <;> split <;> rfl
  · rw [if_neg q1, cEq_if (by omega) (by omega) (by decide) (by decide)]
    by_cases q2 : b = 0
    · rw [if_pos q2]
      subst q2
      exact ⟨0, G, rfl, e3, Qn_0 e4 (fun v => by rw [← e5 v]; omega)⟩
    · rw [if_neg q2, cLt_if (by decide) (by decide) (by omega) (by omega)]
      obtain rfl : b = 1 := by omega
      by_cases q3 : (1 : Int) < (k : Int)
      · have k2 : 2 ≤ k := by omega
        obtain ⟨q, rfl⟩ : ∃ r', q = r' + 1 := ⟨q - 1, by omega⟩
        obtain ⟨a1, a2⟩ := hp.2 x (by omega)
        obtain ⟨b1, b2⟩ := hp.2 y (by omega)
        obtain ⟨is2, G2, f1, f2, f3⟩ := q_new (s := (h x : Int) + h y) e4 (by omega) (by omega)
        obtain ⟨is3, G3, g1, g2, g3⟩ := q_z (rec95 := rec) (x := x) (y := y) (k := k) (Hp_f (fun i => by rw [f2 98 i (by decide)]; exact e3 98 i (by decide)) hp) e2 (by omega) hk f3
        rw [if_pos q3, rd_eq (by omega) (by omega), rd_eq (by omega) (by omega), Int.toNat_natCast, Int.toNat_natCast, show 71 + 27 = 98 from rfl, e3 98 x (by decide), e3 98 y (by decide), a1, b1, f1, cl_s, g1]
        unfold fn_X11_areUnlike_J187
        rw [nm_eq]
        refine ih q _ _ _ (by omega) ⟨y + 1, _, by omega, by omega, by omega, fun k i hk => by rw [g2 k i hk, f2 k i hk]; exact e3 k i hk, g3, fun v => ?_⟩
        rw [← e5 v, if_pos k2, if_pos k2, show N + 1 - y = (N + 1 - (y + 1)) + 1 by omega]
        show pc' v + (if v = (h x : Int) + h y then 1 else 0) + (if 3 ≤ k then c1 (sf h y ((N + 1 - (y + 1)) + 1)) (v - h x - h y) else 0) + (c1 (sf h (y + 1) (N + 1 - (y + 1))) (v - h x) + if 3 ≤ k then c2 (sf h (y + 1) (N + 1 - (y + 1))) (v - h x) else 0) = pc' v + (((if v - h x = (h y : Int) then 1 else 0) + c1 (sf h (y + 1) (N + 1 - (y + 1))) (v - h x)) + if 3 ≤ k then c1 (sf h y ((N + 1 - (y + 1)) + 1)) (v - h x - h y) + c2 (sf h (y + 1) (N + 1 - (y + 1))) (v - h x) else 0)
        by_cases q4 : v = (h x : Int) + h y
        · rw [if_pos q4, if_pos (show v - h x = (h y : Int) by omega)]
          by_cases k3 : 3 ≤ k
          · simp only [if_pos k3]; omega
          · simp only [if_neg k3]; omega
        · rw [if_neg q4, if_neg (show ¬ v - h x = (h y : Int) by omega)]
          by_cases k3 : 3 ≤ k
          · simp only [if_pos k3]; omega
          · simp only [if_neg k3]; omega
      · rw [if_neg q3]
        refine ⟨1, G, rfl, e3, Qn_e e4 (fun v => ?_)⟩
        rw [← e5 v, if_neg (show ¬ 2 ≤ k by omega), if_neg (show ¬ 3 ≤ k by omega)]; rfl
theorem q_x {E : Mem} {h : Nat → Nat} {N k : Nat} (hp : Hp E h N) (hk : k ≤ 3) (hq : Qn 1 E (fun _ => 0)) :
    ∃ is E', lq3 (fn_X11_areUnlike_L67 71 N k) FU 0 1 E = some (is, E') ∧ (∀ k i, k ≠ 99 → E' k i = E k i) ∧ ((is = 1 ∧ Un1 k (sf h 0 (N + 1))) ∨ (is = 0 ∧ ¬ Un1 k (sf h 0 (N + 1)))) := by
  have fin : ∀ is G, Qn is G (tk k (sf h 0 (N + 1))) → ((is = 1 ∧ Un1 k (sf h 0 (N + 1))) ∨ (is = 0 ∧ ¬ Un1 k (sf h 0 (N + 1)))) := by
    rintro is G (⟨a, b, c⟩ | ⟨a, v, b⟩)
    · exact Or.inl ⟨a, b⟩
    · exact Or.inr ⟨a, fun hu => by have := hu v; omega⟩
  refine lr3 (P := fun o => ∃ (is : Int) (E' : Mem), o = some (is, E') ∧ (∀ k i, k ≠ 99 → E' k i = E k i) ∧ ((is = 1 ∧ Un1 k (sf h 0 (N + 1))) ∨ (is = 0 ∧ ¬ Un1 k (sf h 0 (N + 1))))) (I := fun q a b G => ∃ (x : Nat) (pc' : Int → Nat), x + q = N + 1 ∧ a = (x : Int) ∧ (∀ k i, k ≠ 99 → G k i = E k i) ∧ Qn b G pc' ∧ ∀ v, pc' v + tk k (sf h x (N + 1 - x)) v = tk k (sf h 0 (N + 1)) v) ?_ (N + 1) FU 0 1 E (lt_FU (by have := hp.1; omega)) ⟨0, fun _ => 0, by omega, rfl, fun _ _ _ => rfl, hq, fun v => by rw [Nat.zero_add]; rfl⟩
  rintro q a b G rec ⟨x, pc', e1, rfl, e3, e4, e5⟩ ih
  have h5 := hp.1
  have hb := Qn_01 e4
  unfold fn_X11_areUnlike_L67
  rw [cLt_if (by omega) (by omega) (by omega) (by omega)]
  by_cases q1 : (N : Int) < (x : Int)
  · rw [if_pos q1, ck_t hb]
    refine ⟨b, G, rfl, e3, fin b G (Qn_e e4 (fun v => ?_))⟩
    rw [← e5 v, show N + 1 - x = 0 by omega]
    show _ = pc' v + (0 + (if 2 ≤ k then 0 else 0) + if 3 ≤ k then 0 else 0)
    split <;> split <;> rfl
  · rw [if_neg q1, cEq_if (by omega) (by omega) (by decide) (by decide)]
    by_cases q2 : b = 0
    · rw [if_pos q2, ck_t hb]
      subst q2
      exact ⟨0, G, rfl, e3, fin 0 G (Qn_0 e4 (fun v => by rw [← e5 v]; omega))⟩
    · rw [if_neg q2]
      obtain rfl : b = 1 := by omega
      obtain ⟨q, rfl⟩ : ∃ r', q = r' + 1 := ⟨q - 1, by omega⟩
      obtain ⟨a1, a2⟩ := hp.2 x (by omega)
      obtain ⟨is2, G2, f1, f2, f3⟩ := q_new (s := (h x : Int)) e4 (by omega) (by omega)
      obtain ⟨is3, G3, g1, g2, g3⟩ := q_y (rec67 := rec) (x := x) (k := k) (Hp_f (fun i => by rw [f2 98 i (by decide)]; exact e3 98 i (by decide)) hp) (by omega) hk f3
      rw [rd_eq (by omega) (by omega), Int.toNat_natCast, show 71 + 27 = 98 from rfl, e3 98 x (by decide), a1, f1, cl_s, g1]
      unfold fn_X11_areUnlike_J193
      rw [nm_eq]
      refine ih q _ _ _ (by omega) ⟨x + 1, _, by omega, by omega, fun k i hk => by rw [g2 k i hk, f2 k i hk]; exact e3 k i hk, g3, fun v => ?_⟩
      rw [← e5 v, show N + 1 - x = (N + 1 - (x + 1)) + 1 by omega]
      unfold tk
      show pc' v + (if v = (h x : Int) then 1 else 0) + ((if 2 ≤ k then c1 (sf h x ((N + 1 - (x + 1)) + 1)) (v - h x) else 0) + if 3 ≤ k then c2 (sf h x ((N + 1 - (x + 1)) + 1)) (v - h x) else 0) + (c1 (sf h (x + 1) (N + 1 - (x + 1))) v + (if 2 ≤ k then c2 (sf h (x + 1) (N + 1 - (x + 1))) v else 0) + if 3 ≤ k then c3 (sf h (x + 1) (N + 1 - (x + 1))) v else 0) = pc' v + (((if v = (h x : Int) then 1 else 0) + c1 (sf h (x + 1) (N + 1 - (x + 1))) v) + (if 2 ≤ k then c1 (sf h x ((N + 1 - (x + 1)) + 1)) (v - h x) + c2 (sf h (x + 1) (N + 1 - (x + 1))) v else 0) + if 3 ≤ k then c2 (sf h x ((N + 1 - (x + 1)) + 1)) (v - h x) + c3 (sf h (x + 1) (N + 1 - (x + 1))) v else 0)
      by_cases k2 : 2 ≤ k
      · by_cases k3 : 3 ≤ k
        · simp only [if_pos k2, if_pos k3]; omega
        · simp only [if_pos k2, if_neg k3]; omega
      · simp only [if_neg k2, if_neg (show ¬ 3 ≤ k by omega)]; omega
theorem sf_l {l : List Nat} : ∀ {h : Nat → Nat} {i : Nat}, (∀ j, j < l.length → h (i + j) = l.getD j 0) → sf h i l.length = l := by
  induction l with
  | nil => intro h i _; rfl
  | cons x t ih =>
    intro h i hh
    show h i :: sf h (i + 1) t.length = x :: t
    rw [show h i = x from hh 0 (by simp), ih (fun j hj => by
      have := hh (j + 1) (by simp; omega)
      rw [show i + 1 + j = i + (j + 1) by omega, this]; rfl)]
def Gm (M : Mem) (p : List Nat) : Prop := ∀ i, i < p.length → M 97 i = (p.getD i 0 : Int)
theorem q_unlike {M : Mem} {p : List Nat} {k most : Nat} (hG : Gm M p) (hl : p.length ≤ 5) (hp : ∀ i, i < p.length → p.getD i 0 ≤ 60) (hm : most ≤ 60) (hk : k ≤ 3) :
    ∃ is M', fn_X11_areUnlike 71 (p.length : Int) k most M = some (is, M') ∧ (∀ k i, k ≠ 98 → k ≠ 99 → M' k i = M k i) ∧ ((is = 1 ∧ Un1 k (p ++ [most])) ∨ (is = 0 ∧ ¬ Un1 k (p ++ [most]))) := by
  have h1 : ∃ M1, fn_X11_areUnlike 71 (p.length : Int) k most M = fn_X11_areUnlike_J25 71 (p.length : Int) k most M1 ∧ (∀ k i, k ≠ 99 → M1 k i = M k i) ∧ ∀ i, i < 181 → M1 99 i = 0 := by
    unfold fn_X11_areUnlike
    refine lr2 (P := fun o => ∃ M1, o = fn_X11_areUnlike_J25 71 (p.length : Int) k most M1 ∧ (∀ k i, k ≠ 99 → M1 k i = M k i) ∧ ∀ i, i < 181 → M1 99 i = 0) (I := fun q x G => ∃ j : Nat, j + q = 181 ∧ x = (j : Int) ∧ (∀ k i, k ≠ 99 → G k i = M k i) ∧ ∀ i, i < j → G 99 i = 0) ?_ 181 FU 0 M (lt_FU (by decide)) ⟨0, by omega, rfl, fun _ _ _ => rfl, fun i hi => by omega⟩
    rintro q x G rec ⟨j, e1, rfl, e2, e3⟩ ih
    unfold fn_X11_areUnlike_L3
    rw [cLt_if (by omega) (by omega) (by decide) (by decide)]
    by_cases q1 : (j : Int) < 181
    · obtain ⟨q, rfl⟩ : ∃ r', q = r' + 1 := ⟨q - 1, by omega⟩
      rw [if_pos q1, wz_eq (by omega) (by omega) (Or.inl rfl), nm_eq, Int.toNat_natCast]
      refine ih q _ _ (by omega) ⟨j + 1, by omega, by omega, fun k i hk => by rw [up_o hk]; exact e2 k i hk, fun i hi => ?_⟩
      rw [show 71 + 28 = 99 from rfl, up_i]
      by_cases q2 : i = j
      · rw [if_pos q2]
      · rw [if_neg q2]; exact e3 i (by omega)
    · rw [if_neg q1]
      obtain rfl : j = 181 := by omega
      exact ⟨G, rfl, e2, e3⟩
  obtain ⟨M1, f1, f2, f3⟩ := h1
  have h2 : ∃ M2, fn_X11_areUnlike_J25 71 (p.length : Int) k most M1 = fn_X11_areUnlike_J54 71 (p.length : Int) k most M2 ∧ (∀ k i, k ≠ 98 → M2 k i = M1 k i) ∧ ∀ i, i < p.length → M2 98 i = (p.getD i 0 : Int) := by
    unfold fn_X11_areUnlike_J25
    refine lr2 (P := fun o => ∃ M2, o = fn_X11_areUnlike_J54 71 (p.length : Int) k most M2 ∧ (∀ k i, k ≠ 98 → M2 k i = M1 k i) ∧ ∀ i, i < p.length → M2 98 i = (p.getD i 0 : Int)) (I := fun q x G => ∃ j : Nat, j + q = p.length ∧ x = (j : Int) ∧ (∀ k i, k ≠ 98 → G k i = M1 k i) ∧ ∀ i, i < j → G 98 i = (p.getD i 0 : Int)) ?_ p.length FU 0 M1 (lt_FU (by omega)) ⟨0, by omega, rfl, fun _ _ _ => rfl, fun i hi => by omega⟩
    rintro q x G rec ⟨j, e1, rfl, e2, e3⟩ ih
    unfold fn_X11_areUnlike_L28
    rw [cLt_if (by omega) (by omega) (by omega) (by omega)]
    by_cases q1 : (j : Int) < (p.length : Int)
    · obtain ⟨q, rfl⟩ : ∃ r', q = r' + 1 := ⟨q - 1, by omega⟩
      rw [if_pos q1, rd_eq (by omega) (by omega), wr_eq (by omega) (by omega), nm_eq, Int.toNat_natCast, show 71 + 26 = 97 from rfl, show 71 + 27 = 98 from rfl, e2 97 j (by decide), f2 97 j (by decide), hG j (by omega)]
      refine ih q _ _ (by omega) ⟨j + 1, by omega, by omega, fun k i hk => by rw [up_o hk]; exact e2 k i hk, fun i hi => ?_⟩
      rw [up_i]
      by_cases q2 : i = j
      · rw [if_pos q2, q2]
      · rw [if_neg q2]; exact e3 i (by omega)
    · rw [if_neg q1]
      obtain rfl : j = p.length := by omega
      exact ⟨G, rfl, e2, e3⟩
  obtain ⟨M2, g1, g2, g3⟩ := h2
  rw [f1, g1]
  unfold fn_X11_areUnlike_J54
  rw [wr_eq (by omega) (by omega), Int.toNat_natCast, show 71 + 27 = 98 from rfl]
  have hg : ∀ i, i ≤ p.length → (p ++ [most]).getD i 0 = if i = p.length then most else p.getD i 0 := fun i hi => by
    by_cases q : i = p.length
    · rw [if_pos q, q]; simp
    · rw [if_neg q]
      rw [List.getD_eq_getElem?_getD, List.getD_eq_getElem?_getD, List.getElem?_append_left (by omega)]
  have hH : Hp (up M2 98 p.length (most : Int)) (fun i => (p ++ [most]).getD i 0) p.length := by
    refine ⟨hl, fun i hi => ?_⟩
    show up M2 98 p.length (most : Int) 98 i = (((p ++ [most]).getD i 0 : Nat) : Int) ∧ (p ++ [most]).getD i 0 ≤ 60
    rw [up_i, hg i hi]
    by_cases q : i = p.length
    · rw [if_pos q, if_pos q]; exact ⟨rfl, hm⟩
    · rw [if_neg q, if_neg q]; exact ⟨g3 i (by omega), hp i (by omega)⟩
  obtain ⟨is, M3, k1, k2, k3⟩ := q_x (k := k) hH hk (Or.inl ⟨rfl, fun _ => Nat.zero_le 1, fun v hv => by rw [up_o (by decide), g2 99 v (by decide), f3 v hv]; rfl⟩)
  have hs : sf (fun i => (p ++ [most]).getD i 0) 0 (p.length + 1) = p ++ [most] := by
    have := sf_l (l := p ++ [most]) (h := fun i => (p ++ [most]).getD i 0) (i := 0) (fun j hj => by rw [Nat.zero_add])
    rw [List.length_append, List.length_singleton] at this; exact this
  rw [hs] at k3
  exact ⟨is, M3, k1, fun k i a b => by rw [k2 k i b, up_o a, g2 k i a, f2 k i b], k3⟩
