/-! LAWS: the code's meaning -/
def bnd (v : Int) : Int := max (-1000000) (min v 1000000)
def mo (x : Int) : Int := if 0 ≤ x then 400 else if -19 ≤ x ∧ x ≤ -13 then 401 else if x = -33 then 402 else if x = -12 then 405 else if x = -26 then 43 else if x = -27 then 45 else if x = -28 then 42 else if x = -29 then 47 else if x = -20 then 60 else if x = -21 then 300 else if x = -22 then 62 else if x = -23 then 301 else if x = -24 then 61 else if x = -25 then 35 else if x = -11 then 406 else 407
def mv (x : Int) : Int := if 0 ≤ x then x else if -19 ≤ x ∧ x ≤ -13 then -13 - x else 0
def bop (x a b : Int) : Int := if x = -26 then bnd (a + b) else if x = -27 then bnd (a - b) else if x = -28 then bnd (a * b) else if x = -29 then (if b = 0 then 0 else a.tdiv b) else if x = -20 then b2 (a < b) else if x = -21 then b2 (a ≤ b) else if x = -22 then b2 (b < a) else if x = -23 then b2 (b ≤ a) else if x = -24 then b2 (a = b) else if x = -25 then b2 (a ≠ b) else if x = -11 then b2 (a ≠ 0 ∧ b ≠ 0) else b2 (a ≠ 0 ∨ b ≠ 0)
def sem (nm : Nat → Int) (x : Int) (s : List Int) : List Int := if 0 ≤ x then x :: s else if -19 ≤ x ∧ x ≤ -13 then nm (-13 - x).toNat :: s else match s with
  | [] => []
  | a :: t => if x = -33 then -a :: t else if x = -12 then b2 (a = 0) :: t else match t with
    | [] => []
    | b :: u => bop x b a :: u
def run (nm : Nat → Int) : List Int → List Int → List Int
  | [], s => s
  | x :: xs, s => run nm xs (sem nm x s)
/-- one item on the sorts (true: an ask) -/
def stp (x : Int) (s s' : List Bool) : Prop := (0 ≤ x ∧ x ≤ 9999 ∧ s' = false :: s) ∨ (-19 ≤ x ∧ x ≤ -13 ∧ s' = false :: s) ∨ (x = -33 ∧ ∃ t, s = false :: t ∧ s' = false :: t) ∨ (x = -12 ∧ ∃ t, s = true :: t ∧ s' = true :: t) ∨ ((-29 ≤ x ∧ x ≤ -26) ∧ ∃ t, s = false :: false :: t ∧ s' = false :: t) ∨ ((-25 ≤ x ∧ x ≤ -20) ∧ ∃ t, s = false :: false :: t ∧ s' = true :: t) ∨ ((x = -11 ∨ x = -10) ∧ ∃ t, s = true :: true :: t ∧ s' = true :: t)
def wf : List Int → List Bool → List Bool → Prop
  | [], s, r => s = r
  | x :: xs, s, r => ∃ s', stp x s s' ∧ s'.length ≤ 32 ∧ wf xs s' r
def vok (b : Bool) (v : Int) : Prop := (-1000000 ≤ v ∧ v ≤ 1000000) ∧ (b = true → v = 0 ∨ v = 1)
def sok : List Bool → List Int → Prop
  | [], s => s = []
  | b :: bs, s => ∃ v t, s = v :: t ∧ vok b v ∧ sok bs t
theorem sok_len : ∀ (bs : List Bool) (s : List Int), sok bs s → s.length = bs.length
  | [], s, h => by rw [show s = [] from h]; rfl
  | b :: bs, s, ⟨v, t, h1, _, h3⟩ => by rw [h1, List.length_cons, List.length_cons, sok_len bs t h3]
theorem b2_vok {P : Prop} [Decidable P] : vok true (b2 P) := by
  rcases b2_01 P with h | h <;> rw [h] <;> exact ⟨by omega, fun _ => by omega⟩
theorem vok_f {b : Bool} {v : Int} (h1 : -1000000 ≤ v) (h2 : v ≤ 1000000) (h : b = false) : vok b v := ⟨⟨h1, h2⟩, fun q => by rw [h] at q; cases q⟩
theorem tdiv_in {a b : Int} (h1 : -1000000 ≤ a) (h2 : a ≤ 1000000) : -1000000 ≤ a.tdiv b ∧ a.tdiv b ≤ 1000000 := by
  have h := Int.natAbs_tdiv_le_natAbs a b
  omega
theorem bop_ok {x a b : Int} (ha : vok false a) (hb : vok false b) : (-29 ≤ x ∧ x ≤ -26 → vok false (bop x a b)) := by
  intro hx
  have h1 := ha.1; have h2 := hb.1
  unfold bop
  by_cases q1 : x = -26
  · rw [if_pos q1]; unfold bnd; exact vok_f (by omega) (by omega) rfl
  by_cases q2 : x = -27
  · rw [if_neg q1, if_pos q2]; unfold bnd; exact vok_f (by omega) (by omega) rfl
  by_cases q3 : x = -28
  · rw [if_neg q1, if_neg q2, if_pos q3]; unfold bnd; exact vok_f (by omega) (by omega) rfl
  rw [if_neg q1, if_neg q2, if_neg q3, if_pos (by omega)]
  by_cases q5 : b = 0
  · rw [if_pos q5]; exact vok_f (by omega) (by omega) rfl
  · rw [if_neg q5]; have := tdiv_in (b := b) h1.1 h1.2; exact vok_f (by omega) (by omega) rfl
theorem bop_ok2 {x a b : Int} (hx : x = -11 ∨ x = -10 ∨ (-25 ≤ x ∧ x ≤ -20)) : vok true (bop x a b) := by
  unfold bop
  rw [if_neg (by omega), if_neg (by omega), if_neg (by omega), if_neg (by omega)]
  by_cases q1 : x = -20
  · rw [if_pos q1]; exact b2_vok
  rw [if_neg q1]
  by_cases q1 : x = -21
  · rw [if_pos q1]; exact b2_vok
  rw [if_neg q1]
  by_cases q1 : x = -22
  · rw [if_pos q1]; exact b2_vok
  rw [if_neg q1]
  by_cases q1 : x = -23
  · rw [if_pos q1]; exact b2_vok
  rw [if_neg q1]
  by_cases q1 : x = -24
  · rw [if_pos q1]; exact b2_vok
  rw [if_neg q1]
  by_cases q1 : x = -25
  · rw [if_pos q1]; exact b2_vok
  rw [if_neg q1]
  by_cases q1 : x = -11
  · rw [if_pos q1]; exact b2_vok
  rw [if_neg q1]; exact b2_vok
def nok (nm : Nat → Int) : Prop := ∀ i, 0 ≤ nm i ∧ nm i ≤ 1000000
/-- one item: what it does, told apart -/
theorem sem_cases {nm : Nat → Int} {x : Int} {bs bs' : List Bool} {s : List Int} (hn : nok nm) (h : stp x bs bs') (hs : sok bs s) : sok bs' (sem nm x s) ∧
    ((0 ≤ x ∧ x ≤ 9999 ∧ sem nm x s = x :: s) ∨ (-19 ≤ x ∧ x ≤ -13 ∧ sem nm x s = nm (-13 - x).toNat :: s) ∨
     (∃ a t, s = a :: t ∧ x = -33 ∧ (-1000000 ≤ a ∧ a ≤ 1000000) ∧ sem nm x s = -a :: t) ∨ (∃ a t, s = a :: t ∧ x = -12 ∧ (a = 0 ∨ a = 1) ∧ sem nm x s = b2 (a = 0) :: t) ∨
     (∃ a b u, s = b :: a :: u ∧ (-1000000 ≤ a ∧ a ≤ 1000000) ∧ (-1000000 ≤ b ∧ b ≤ 1000000) ∧ ((-29 ≤ x ∧ x ≤ -20) ∨ ((x = -11 ∨ x = -10) ∧ (a = 0 ∨ a = 1) ∧ (b = 0 ∨ b = 1))) ∧ sem nm x s = bop x a b :: u)) := by
  rcases h with ⟨h1, h2, rfl⟩ | ⟨h1, h2, rfl⟩ | ⟨rfl, t, rfl, rfl⟩ | ⟨rfl, t, rfl, rfl⟩ | ⟨h1, t, rfl, rfl⟩ | ⟨h1, t, rfl, rfl⟩ | ⟨h1, t, rfl, rfl⟩
  · have e : sem nm x s = x :: s := by unfold sem; rw [if_pos h1]
    rw [e]
    exact ⟨⟨x, s, rfl, vok_f (by omega) (by omega) rfl, hs⟩, Or.inl ⟨h1, h2, rfl⟩⟩
  · have e : sem nm x s = nm (-13 - x).toNat :: s := by unfold sem; rw [if_neg (by omega), if_pos ⟨h1, h2⟩]
    rw [e]
    have := hn (-13 - x).toNat
    exact ⟨⟨_, s, rfl, vok_f (by omega) (by omega) rfl, hs⟩, Or.inr (Or.inl ⟨h1, h2, rfl⟩)⟩
  · obtain ⟨v, u, rfl, hv, hu⟩ := hs
    have hv1 := hv.1
    have e : sem nm (-33) (v :: u) = -v :: u := rfl
    rw [e]
    exact ⟨⟨_, u, rfl, vok_f (by omega) (by omega) rfl, hu⟩, Or.inr (Or.inr (Or.inl ⟨v, u, rfl, rfl, hv1, rfl⟩))⟩
  · obtain ⟨v, u, rfl, hv, hu⟩ := hs
    have e : sem nm (-12) (v :: u) = b2 (v = 0) :: u := rfl
    rw [e]
    exact ⟨⟨_, u, rfl, b2_vok, hu⟩, Or.inr (Or.inr (Or.inr (Or.inl ⟨v, u, rfl, rfl, hv.2 rfl, rfl⟩)))⟩
  · obtain ⟨b, u, rfl, hb, a, u, rfl, ha, hu⟩ := hs
    have e : sem nm x (b :: a :: u) = bop x a b :: u := by unfold sem; rw [if_neg (by omega), if_neg (by omega)]; simp only []; rw [if_neg (by omega), if_neg (by omega)]
    rw [e]
    exact ⟨⟨_, u, rfl, bop_ok ha hb h1, hu⟩, Or.inr (Or.inr (Or.inr (Or.inr ⟨a, b, u, rfl, ha.1, hb.1, Or.inl (by omega), rfl⟩)))⟩
  · obtain ⟨b, u, rfl, hb, a, u, rfl, ha, hu⟩ := hs
    have e : sem nm x (b :: a :: u) = bop x a b :: u := by unfold sem; rw [if_neg (by omega), if_neg (by omega)]; simp only []; rw [if_neg (by omega), if_neg (by omega)]
    rw [e]
    exact ⟨⟨_, u, rfl, bop_ok2 (by omega), hu⟩, Or.inr (Or.inr (Or.inr (Or.inr ⟨a, b, u, rfl, ha.1, hb.1, Or.inl (by omega), rfl⟩)))⟩
  · obtain ⟨b, u, rfl, hb, a, u, rfl, ha, hu⟩ := hs
    have e : sem nm x (b :: a :: u) = bop x a b :: u := by unfold sem; rw [if_neg (by omega), if_neg (by omega)]; simp only []; rw [if_neg (by omega), if_neg (by omega)]
    rw [e]
    exact ⟨⟨_, u, rfl, bop_ok2 (by omega), hu⟩, Or.inr (Or.inr (Or.inr (Or.inr ⟨a, b, u, rfl, ha.1, hb.1, Or.inr ⟨h1, ha.2 rfl, hb.2 rfl⟩, rfl⟩)))⟩
/-- a stack in a cell: its top behind the rest -/
def Sk (M : Mem) (k : Nat) : List Int → Prop
  | [] => True
  | a :: t => M k t.length = a ∧ Sk M k t
theorem Sk_up {M : Mem} {k i : Nat} {v : Int} : ∀ {t : List Int}, Sk M k t → t.length ≤ i → Sk (up M k i v) k t
  | [], _, _ => trivial
  | a :: t, h, hi => by
    rw [List.length_cons] at hi
    exact ⟨by rw [up_i, if_neg (by omega)]; exact h.1, Sk_up h.2 (by omega)⟩
theorem Sk_o {M : Mem} {k k' i : Nat} {v : Int} (hk : k ≠ k') : ∀ {t : List Int}, Sk M k t → Sk (up M k' i v) k t
  | [], _ => trivial
  | a :: t, h => ⟨by rw [up_o hk]; exact h.1, Sk_o hk h.2⟩
theorem Sk_same {M M' : Mem} {k : Nat} (he : ∀ i, M' k i = M k i) : ∀ {t : List Int}, Sk M k t → Sk M' k t
  | [], _ => trivial
  | a :: t, h => ⟨by rw [he]; exact h.1, Sk_same he h.2⟩
/-! the class's stack -/
def S3k (C C' : Mem) : Prop := ∀ k i, k ≠ 63 → k ≠ 64 → C' k i = C k i
theorem S3k.rf {C : Mem} : S3k C C := fun _ _ _ _ => rfl
theorem S3k.tr {C C' C'' : Mem} (h : S3k C C') (h' : S3k C' C'') : S3k C C'' := fun k i a b => (h' k i a b).trans (h k i a b)
theorem S3k.a {C C' : Mem} {i : Nat} {v : Int} (h : S3k C C') : S3k C (up C' 63 i v) := fun k j a b => by rw [up_o a]; exact h k j a b
theorem S3k.b {C C' : Mem} {i : Nat} {v : Int} (h : S3k C C') : S3k C (up C' 64 i v) := fun k j a b => by rw [up_o b]; exact h k j a b
def StC (M : Mem) (s : List Int) : Prop := M 63 1 = (s.length : Int) ∧ Sk M 64 s
theorem p_spush {M : Mem} {s : List Int} {v : Int} (h : StC M s) (hl : s.length < 32) (h1 : -9000000000000000000 ≤ v) (h2 : v ≤ 9000000000000000000) : ∃ M', fn_X3_push 63 v M = some M' ∧ StC M' (bnd v :: s) ∧ S3k M M' := by
  unfold fn_X3_push
  have hb : max (-1000000) (min v 1000000) = bnd v := rfl
  simp (disch := omega) only [h.1, cLt_if, if_neg, if_pos, ck_t (show R6 v ∧ R6 1000000 from ⟨⟨by omega, by omega⟩, by decide, by decide⟩), ck_t (show R6 (-1000000) ∧ R6 (min v 1000000) from ⟨⟨by decide, by decide⟩, by omega, by omega⟩), wr_eq, st_eq, Nat.reduceAdd, hb, Int.toNat_natCast]
  refine ⟨_, rfl, ⟨?_, ?_⟩, (S3k.rf.b).a⟩
  · simp only [up_i, if_true, up_o (show (63 : Nat) ≠ 64 by decide), h.1, List.length_cons]; omega
  · refine Sk_o (by decide) ⟨by rw [up_i, if_pos rfl], Sk_up h.2 (Nat.le_refl _)⟩
theorem p_spop {M : Mem} {s : List Int} {v : Int} (h : StC M (v :: s)) (hl : s.length < 32) : ∃ M', fn_X3_pop 63 M = some (v, M') ∧ StC M' s ∧ S3k M M' := by
  unfold fn_X3_pop
  have h1 := h.1
  rw [List.length_cons] at h1
  simp (disch := omega) only [h1, cLt_if, if_neg, st_eq, Nat.reduceAdd, up_i, if_true, rd_eq, up_o]
  have e : (((s.length + 1 : Nat) : Int) - 1).toNat = s.length := by omega
  rw [e, h.2.1]
  refine ⟨_, rfl, ⟨?_, Sk_o (by decide) h.2.2⟩, S3k.rf.a⟩
  rw [up_i, if_pos rfl]; omega
