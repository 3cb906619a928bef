/-! text: TOKENS, and how the reference comes to them -/
def isL (x : Int) : Prop := (97 ≤ x ∧ x ≤ 122) ∨ (65 ≤ x ∧ x ≤ 90)
def isD (x : Int) : Prop := 48 ≤ x ∧ x ≤ 57
def isB (x : Int) : Prop := x = 32 ∨ x = 10
def bl (B : Nat → Int) (p : Nat) : Nat → List Int
  | 0 => []
  | m + 1 => B p :: bl B (p + 1) m
def wd (w : Nat) : List Int := sBytN.getD w []
def hr : List Int → Int
  | [] => 0
  | x :: t => 64 * hr t + (x - 64)
def hs (l : List Int) : Int := hr l.reverse
theorem hs_s {l : List Int} {x : Int} : hs (l ++ [x]) = 64 * hs l + x - 64 := by
  unfold hs; rw [List.reverse_append]; show 64 * hr l.reverse + (x - 64) = _; omega
theorem hr_nn : ∀ {l : List Int}, (∀ x, x ∈ l → isL x) → 0 ≤ hr l ∧ (l ≠ [] → 1 ≤ hr l) := by
  intro l
  induction l with
  | nil => intro _; exact ⟨Int.le_refl _, fun h => absurd rfl h⟩
  | cons x t ih =>
    intro h
    have h1 := ih (fun y hy => h y (List.mem_cons_of_mem _ hy))
    have h2 := h x List.mem_cons_self
    unfold isL at h2
    show 0 ≤ 64 * hr t + (x - 64) ∧ (_ → 1 ≤ 64 * hr t + (x - 64))
    exact ⟨by omega, fun _ => by omega⟩
theorem hr_inj : ∀ {l l' : List Int}, (∀ x, x ∈ l → isL x) → (∀ x, x ∈ l' → isL x) → hr l = hr l' → l = l' := by
  intro l
  induction l with
  | nil =>
    intro l' _ h' he
    cases l' with
    | nil => rfl
    | cons y u => have := (hr_nn h').2 (by simp); rw [← he] at this; exact absurd this (by decide)
  | cons x t ih =>
    intro l' h h' he
    cases l' with
    | nil => have := (hr_nn h).2 (by simp); rw [he] at this; exact absurd this (by decide)
    | cons y u =>
      have h1 := h x List.mem_cons_self
      have h2 := h' y List.mem_cons_self
      unfold isL at h1 h2
      have he : 64 * hr t + (x - 64) = 64 * hr u + (y - 64) := he
      have e1 : x = y := by omega
      have e2 : hr t = hr u := by omega
      rw [e1, ih (fun z hz => h z (List.mem_cons_of_mem _ hz)) (fun z hz => h' z (List.mem_cons_of_mem _ hz)) e2]
theorem hs_inj {l l' : List Int} (h : ∀ x, x ∈ l → isL x) (h' : ∀ x, x ∈ l' → isL x) (he : hs l = hs l') : l = l' := by
  have := hr_inj (l := l.reverse) (l' := l'.reverse) (fun x hx => h x (List.mem_reverse.mp hx)) (fun x hx => h' x (List.mem_reverse.mp hx)) he
  rw [← List.reverse_reverse l, this, List.reverse_reverse]
theorem hs_bd {l : List Int} (h : ∀ x, x ∈ l → isL x) : 0 ≤ hs l ∧ hs l < 64 ^ l.length := by
  unfold hs
  rw [← List.length_reverse]
  have h' : ∀ x, x ∈ l.reverse → isL x := fun x hx => h x (List.mem_reverse.mp hx)
  revert h'
  generalize l.reverse = r
  induction r with
  | nil => intro _; exact ⟨by decide, by decide⟩
  | cons x t ih =>
    intro h'
    have h1 := ih (fun y hy => h' y (List.mem_cons_of_mem _ hy))
    have h2 := h' x List.mem_cons_self
    unfold isL at h2
    show 0 ≤ 64 * hr t + (x - 64) ∧ 64 * hr t + (x - 64) < 64 ^ (t.length + 1)
    rw [Int.pow_succ]; omega
def WC : List Int := [666041765, 667556462, 198777, 14556392, 14555764, 3375, 3058, 138148, 191476, 10623908, 196078, 10681714, 48885315956, 59687467572, 883349875, 10169325]
theorem WC_ok : ∀ w, w < 16 → hs (wd w) = WC.getD w 0 ∧ (wd w).length < 7 ∧ ∀ x, x ∈ wd w → (97 ≤ x ∧ x ≤ 122) ∨ (65 ≤ x ∧ x ≤ 90) := by decide +kernel
/-- a word's number -/
def wi (l : List Int) : Int := if l = wd 0 then 0 else if l = wd 1 then 1 else if l = wd 2 then 2 else if l = wd 3 then 3 else if l = wd 4 then 4 else if l = wd 5 then 5 else if l = wd 6 then 6 else if l = wd 7 then 7 else if l = wd 8 then 8 else if l = wd 9 then 9 else if l = wd 10 then 10 else if l = wd 11 then 11 else if l = wd 12 then 12 else if l = wd 13 then 13 else if l = wd 14 then 14 else if l = wd 15 then 15 else -1
theorem wi_in {l : List Int} : -1 ≤ wi l ∧ wi l ≤ 15 := by
  unfold wi
  repeat (first | (split; omega) | omega)
theorem wi_long {l : List Int} (h : 7 < l.length) : wi l = -1 := by
  have hn : ∀ w, w < 16 → ¬ l = wd w := fun w hw e => by have := (WC_ok w hw).2.1; rw [e] at h; omega
  unfold wi
  rw [if_neg (hn 0 (by decide)), if_neg (hn 1 (by decide)), if_neg (hn 2 (by decide)), if_neg (hn 3 (by decide)), if_neg (hn 4 (by decide)), if_neg (hn 5 (by decide)), if_neg (hn 6 (by decide)), if_neg (hn 7 (by decide)), if_neg (hn 8 (by decide)), if_neg (hn 9 (by decide)), if_neg (hn 10 (by decide)), if_neg (hn 11 (by decide)), if_neg (hn 12 (by decide)), if_neg (hn 13 (by decide)), if_neg (hn 14 (by decide)), if_neg (hn 15 (by decide))]
theorem pow64 {n : Nat} (h : n ≤ 7) : (64 : Int) ^ n ≤ 64 ^ 7 := by
  have : n = 0 ∨ n = 1 ∨ n = 2 ∨ n = 3 ∨ n = 4 ∨ n = 5 ∨ n = 6 ∨ n = 7 := by omega
  rcases this with rfl | rfl | rfl | rfl | rfl | rfl | rfl | rfl <;> decide
theorem q_wordOf {l : List Int} {M : Mem} (h : ∀ x, x ∈ l → isL x) (hl : l.length ≤ 7) : fn_X11_wordOf (hs l) M = some (wi l) := by
  have hb := hs_bd h
  have hb2 : (64 : Int) ^ l.length ≤ 64 ^ 7 := pow64 hl
  have hb3 : (64 : Int) ^ 7 = 4398046511104 := by decide
  have key : ∀ {A A' : Option Int} (w : Nat) (c : Int), w < 16 → WC.getD w 0 = c → A = A' → dEq (hs l) c (some (w : Int)) A = if l = wd w then some (w : Int) else A' := by
    intro A A' w c hw hc hA
    have h1 := WC_ok w hw
    have h2 := hs_bd (l := wd w) h1.2.2
    have h3 : (64 : Int) ^ (wd w).length ≤ 64 ^ 7 := pow64 (by omega)
    rw [h1.1, hc] at h2
    rw [dEq_if (by omega) (by omega) (by omega) (by omega), hA]
    by_cases q : l = wd w
    · rw [if_pos q, if_pos (by rw [q, h1.1, hc])]
    · rw [if_neg q, if_neg (fun e => q (hs_inj h h1.2.2 (by rw [e, h1.1, hc])))]
  unfold fn_X11_wordOf wi
  have kf : ∀ {c : Prop} [Decidable c] {a b : Int}, (if c then some a else some b) = some (if c then a else b) := fun {c} _ {a b} => by split <;> rfl
  rw [← kf, ← kf, ← kf, ← kf, ← kf, ← kf, ← kf, ← kf, ← kf, ← kf, ← kf, ← kf, ← kf, ← kf, ← kf, ← kf]
  exact key 0 _ (by decide) rfl (key 1 _ (by decide) rfl (key 2 _ (by decide) rfl (key 3 _ (by decide) rfl (key 4 _ (by decide) rfl (key 5 _ (by decide) rfl (key 6 _ (by decide) rfl (key 7 _ (by decide) rfl (key 8 _ (by decide) rfl (key 9 _ (by decide) rfl (key 10 _ (by decide) rfl (key 11 _ (by decide) rfl (key 12 _ (by decide) rfl (key 13 _ (by decide) rfl (key 14 _ (by decide) rfl (key 15 _ (by decide) rfl rfl)))))))))))))))
/-- the kind of a sign (one byte that is no letter, no digit, no blank) -/
def sk (x : Int) : Int := if x = 35 then 25 else if x = 40 then 30 else if x = 41 then 31 else if x = 42 then 28 else if x = 43 then 26 else if x = 45 then 27 else if x = 47 then 29 else if x = 59 then 32 else if x = 60 then 20 else if x = 61 then 24 else if x = 62 then 22 else 1
/-- a number's value, up to a bound -/
def nv : List Int → Int
  | [] => 0
  | x :: t => min (nv t * 10 + x - 48) 10000
/-- a TOKEN from p to e -/
def Tkn (B : Nat → Int) (len p e : Nat) (k v : Int) : Prop := p < e ∧ e ≤ len ∧
  (((∀ j, p ≤ j → j < e → isL (B j)) ∧ (e < len → ¬ isL (B e)) ∧ k = (if wi (bl B p (e - p)) < 0 then 1 else wi (bl B p (e - p)) + 4) ∧ v = 0) ∨
   ((∀ j, p ≤ j → j < e → isD (B j)) ∧ (e < len → ¬ isD (B e)) ∧ k = 2 ∧ v = nv (bl B p (e - p)).reverse) ∨
   (¬ isL (B p) ∧ ¬ isD (B p) ∧ ¬ isB (B p) ∧ e = p + 1 ∧ k = sk (B p) ∧ v = 0 ∧ (B p = 60 ∨ B p = 62 → e < len → B e ≠ 61)) ∨
   ((B p = 60 ∨ B p = 62) ∧ e = p + 2 ∧ B (p + 1) = 61 ∧ k = sk (B p) + 1 ∧ v = 0))
/-- what the reference says of a TOKEN -/
def TR (k v so to : Int) : Prop := (k = 0 ∧ so = 0) ∨ (k = 1 ∧ (so = 4 ∨ (so = 3 ∧ to = 44)) ∧ R3 to) ∨ (k = 2 ∧ so = 2 ∧ ((0 ≤ v ∧ v ≤ 9999 ∧ to = v) ∨ (v = 10000 ∧ 9999 < to ∧ to ≤ 2000000))) ∨ ((4 ≤ k ∧ k ≤ 19) ∧ so = 1 ∧ to = k - 4) ∨ ((20 ≤ k ∧ k ≤ 29) ∧ so = 3 ∧ to = mo (-k)) ∨ (k = 30 ∧ so = 3 ∧ to = 40) ∨ (k = 31 ∧ so = 3 ∧ to = 41) ∨ (k = 32 ∧ so = 3 ∧ to = 59)
def sg (x : Int) : Int := if x < 128 then x else x - 256
def Tq (D : Mem) (B : Nat → Int) (len : Nat) : Prop := len ≤ 300 ∧ D 71 13 = (len : Int) ∧ ∀ i, i < len → D 74 i = sg (B i) ∧ 0 ≤ B i ∧ B i ≤ 255
def N4 (D M : Mem) : Prop := ∀ k i, ¬ (k = 71 ∧ 14 ≤ i ∧ i ≤ 17) → M k i = D k i
theorem N4.rf {D : Mem} : N4 D D := fun _ _ _ => rfl
theorem N4.up {D M : Mem} {i : Nat} {v : Int} (h : N4 D M) (hi : 14 ≤ i ∧ i ≤ 17) : N4 D (up M 71 i v) := fun k j q => by
  rw [up_k, if_neg (by rintro ⟨rfl, rfl⟩; exact q ⟨rfl, hi⟩)]; exact h k j q
theorem N4.tr {D M M' : Mem} (h : N4 D M) (h' : N4 M M') : N4 D M' := fun k i q => (h' k i q).trans (h k i q)
theorem Tq_f {D M : Mem} {B : Nat → Int} {len : Nat} (h : N4 D M) (hT : Tq D B len) : Tq M B len := ⟨hT.1, by rw [h 71 13 (by omega)]; exact hT.2.1, fun i hi => by rw [h 74 i (by omega)]; exact hT.2.2 i hi⟩
theorem q_isL {x : Int} {M : Mem} (h0 : 0 ≤ x) (h1 : x ≤ 255) : ∃ v, fn_X11_isLetter (sg x) M = some v ∧ ((v = 1 ∧ isL x) ∨ (v = 0 ∧ ¬ isL x)) := by
  have hs : R3 (sg x) := by unfold sg; split <;> exact ⟨by omega, by omega⟩
  unfold fn_X11_isLetter fn_X11_isLetter_J22
  rw [p_in hs ⟨by decide, by decide⟩ ⟨by decide, by decide⟩, cu_s, cE_b2, p_in hs ⟨by decide, by decide⟩ ⟨by decide, by decide⟩, cu_s, cE_b2]
  unfold sg isL
  by_cases q : x < 128
  · simp only [if_pos q]
    by_cases q1 : 97 ≤ x ∧ x ≤ 122
    · rw [if_pos q1]; exact ⟨_, rfl, Or.inl ⟨rfl, Or.inl q1⟩⟩
    · rw [if_neg q1]
      by_cases q2 : 65 ≤ x ∧ x ≤ 90
      · rw [if_pos q2]; exact ⟨_, rfl, Or.inl ⟨rfl, Or.inr q2⟩⟩
      · rw [if_neg q2]; exact ⟨_, rfl, Or.inr ⟨rfl, by omega⟩⟩
  · simp only [if_neg q]
    rw [if_neg (by omega), if_neg (by omega)]; exact ⟨_, rfl, Or.inr ⟨rfl, by omega⟩⟩
theorem q_isD {x : Int} {M : Mem} (h0 : 0 ≤ x) (h1 : x ≤ 255) : fn_X11_in (sg x) 48 57 M = some (b2 (48 ≤ x ∧ x ≤ 57)) := by
  have hs : R3 (sg x) := by unfold sg; split <;> exact ⟨by omega, by omega⟩
  rw [p_in hs ⟨by decide, by decide⟩ ⟨by decide, by decide⟩]
  congr 1
  unfold sg
  by_cases q : 48 ≤ x ∧ x ≤ 57
  · rw [b2_t q, b2_t (by rw [if_pos (by omega)]; exact q)]
  · rw [b2_f q, b2_f (by split <;> omega)]
theorem bl_s {B : Nat → Int} : ∀ {m p : Nat}, bl B p (m + 1) = bl B p m ++ [B (p + m)] := by
  intro m
  induction m with
  | zero => intro p; rfl
  | succ m ih => intro p; show B p :: bl B (p + 1) (m + 1) = _; rw [ih]; show _ = B p :: (bl B (p + 1) m ++ [B (p + (m + 1))]); rw [show p + 1 + m = p + (m + 1) by omega]
theorem bl_len {B : Nat → Int} : ∀ {m p : Nat}, (bl B p m).length = m := by
  intro m
  induction m with
  | zero => intro p; rfl
  | succ m ih => intro p; show (bl B (p + 1) m).length + 1 = _; rw [ih]
theorem bl_mem {B : Nat → Int} {x : Int} : ∀ {m p : Nat}, x ∈ bl B p m → ∃ j, p ≤ j ∧ j < p + m ∧ x = B j := by
  intro m
  induction m with
  | zero => intro p h; cases h
  | succ m ih =>
    intro p h
    rcases List.mem_cons.mp h with h | h
    · exact ⟨p, by omega, by omega, h⟩
    · obtain ⟨j, a, b, c⟩ := ih h
      exact ⟨j, by omega, by omega, c⟩
