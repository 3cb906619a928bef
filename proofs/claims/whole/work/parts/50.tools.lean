/-! PURE PART: tools -/
theorem cLt_if {ρ : Type} {x y : Int} {A B : Option ρ} (h1 : -2147483648 ≤ x) (h2 : x ≤ 2147483647) (h3 : -2147483648 ≤ y) (h4 : y ≤ 2147483647) : cLt x y A B = if x < y then A else B := by unfold cLt; rw [if_pos ⟨⟨h1, h2⟩, h3, h4⟩]
theorem cEq_if {ρ : Type} {x y : Int} {A B : Option ρ} (h1 : -2147483648 ≤ x) (h2 : x ≤ 2147483647) (h3 : -2147483648 ≤ y) (h4 : y ≤ 2147483647) : cEq x y A B = if x = y then A else B := by unfold cEq; rw [if_pos ⟨⟨h1, h2⟩, h3, h4⟩]
theorem dLt_if {ρ : Type} {x y : Int} {A B : Option ρ} (h1 : -9223372036854775808 ≤ x) (h2 : x ≤ 9223372036854775807) (h3 : -9223372036854775808 ≤ y) (h4 : y ≤ 9223372036854775807) : dLt x y A B = if x < y then A else B := by unfold dLt; rw [if_pos ⟨⟨h1, h2⟩, h3, h4⟩]
theorem dEq_if {ρ : Type} {x y : Int} {A B : Option ρ} (h1 : -9223372036854775808 ≤ x) (h2 : x ≤ 9223372036854775807) (h3 : -9223372036854775808 ≤ y) (h4 : y ≤ 9223372036854775807) : dEq x y A B = if x = y then A else B := by unfold dEq; rw [if_pos ⟨⟨h1, h2⟩, h3, h4⟩]
theorem rd_eq {ρ : Type} {M : Mem} {k N : Nat} {i : Int} {f : Int → Option ρ} (h0 : 0 ≤ i) (h1 : i < (N : Int)) : rd M k N i f = f (M k i.toNat) := by unfold rd; rw [if_pos ⟨h0, h1⟩]
theorem wr_eq {ρ : Type} {M : Mem} {k N : Nat} {i x : Int} {f : Mem → Option ρ} (h0 : 0 ≤ i) (h1 : i < (N : Int)) : wr M k N i x f = f (up M k i.toNat x) := by unfold wr; rw [if_pos ⟨h0, h1⟩]
theorem rt_eq {ρ : Type} {k : Nat} {i : Int} {f : Nat → Option ρ} (h0 : 0 ≤ i) (h1 : i < 4) : rt k i f = f (k + (1 + 5 * i.toNat)) := by unfold rt; rw [if_pos ⟨h0, h1⟩]
theorem ck_t {ρ : Type} {P : Prop} [Decidable P] {A : Option ρ} (h : P) : ck P A = A := by unfold ck; rw [if_pos h]
theorem ck_R3 {ρ : Type} {x : Int} {A : Option ρ} (h1 : -2147483648 ≤ x) (h2 : x ≤ 2147483647) : ck (R3 x) A = A := ck_t ⟨h1, h2⟩
theorem ck_R33 {ρ : Type} {x y : Int} {A : Option ρ} (h1 : -2147483648 ≤ x) (h2 : x ≤ 2147483647) (h3 : -2147483648 ≤ y) (h4 : y ≤ 2147483647) : ck (R3 x ∧ R3 y) A = A := ck_t ⟨⟨h1, h2⟩, h3, h4⟩
theorem ck_R330 {ρ : Type} {x y : Int} {A : Option ρ} (h1 : -2147483648 ≤ x) (h2 : x ≤ 2147483647) (h3 : -2147483648 ≤ y) (h4 : y ≤ 2147483647) (h5 : y ≠ 0) : ck (R3 x ∧ R3 y ∧ y ≠ 0) A = A := ck_t ⟨⟨h1, h2⟩, ⟨h3, h4⟩, h5⟩
theorem st_eq {ρ : Type} {M : Mem} {k i : Nat} {x : Int} {f : Mem → Option ρ} : st M k i x f = f (up M k i x) := rfl
theorem nm_eq {α ρ : Type} {x : α} {f : α → Option ρ} : nm x f = f x := rfl
theorem cmm_eq {ρ : Type} {M : Mem} {a b N : Nat} {f : Mem → Option ρ} : cm M a b N f = f (cp M a b N) := rfl
theorem cl_s {α ρ : Type} {x : α} {M : Mem} {f : α → Mem → Option ρ} : cl (some (x, M)) f = f x M := rfl
theorem cv_s {ρ : Type} {M : Mem} {f : Mem → Option ρ} : cv (some M) f = f M := rfl
theorem cu_s {α ρ : Type} {x : α} {f : α → Option ρ} : cu (some x) f = f x := rfl
theorem sz_1 {ρ : Type} {M : Mem} {k i : Nat} {f : Mem → Option ρ} : sz M k i 1 f = f (up M k i 1) := by unfold sz; simp
theorem sz_0 {ρ : Type} {M : Mem} {k i : Nat} {f : Mem → Option ρ} : sz M k i 0 f = f (up M k i 0) := by unfold sz; simp
def b2 (P : Prop) [Decidable P] : Int := if P then 1 else 0
theorem b2_t {P : Prop} [Decidable P] (h : P) : b2 P = 1 := if_pos h
theorem b2_f {P : Prop} [Decidable P] (h : ¬ P) : b2 P = 0 := if_neg h
theorem b2_01 (P : Prop) [Decidable P] : b2 P = 0 ∨ b2 P = 1 := by unfold b2; split <;> simp
theorem up_k {M : Mem} {k i a b : Nat} {v : Int} : up M k i v a b = if a = k ∧ b = i then v else M a b := rfl
theorem up_o {M : Mem} {k i a b : Nat} {v : Int} (h : a ≠ k) : up M k i v a b = M a b := by simp [up, h]
theorem up_i {M : Mem} {k i b : Nat} {v : Int} : up M k i v k b = if b = i then v else M k b := by simp [up]
/-! the smallest methods -/
theorem p_isWithin {x a b : Int} {M : Mem} (hx : R3 x) (ha : R3 a) (hb : R3 b) : fn_X10_isWithin x a b M = some (b2 (a ≤ x ∧ x ≤ b)) := by
  unfold fn_X10_isWithin fn_X10_isWithin_J14
  rw [cLt_if hx.1 hx.2 ha.1 ha.2, cLt_if hb.1 hb.2 hx.1 hx.2]
  by_cases h1 : x < a
  · rw [if_pos h1, b2_f (by omega)]
  · by_cases h2 : b < x
    · rw [if_neg h1, if_pos h2, b2_f (by omega)]
    · rw [if_neg h1, if_neg h2, b2_t (by omega)]
theorem p_in {x a b : Int} {M : Mem} (hx : R3 x) (ha : R3 a) (hb : R3 b) : fn_X11_in x a b M = some (b2 (a ≤ x ∧ x ≤ b)) := by
  unfold fn_X11_in fn_X11_in_J14
  rw [cLt_if hx.1 hx.2 ha.1 ha.2, cLt_if hb.1 hb.2 hx.1 hx.2]
  by_cases h1 : x < a
  · rw [if_pos h1, b2_f (by omega)]
  · by_cases h2 : b < x
    · rw [if_neg h1, if_pos h2, b2_f (by omega)]
    · rw [if_neg h1, if_neg h2, b2_t (by omega)]
theorem p_areLengths {x y z : Int} {M : Mem} (hx : R3 x) (hy : R3 y) (hz : R3 z) : fn_X10_areLengths x y z M = some (b2 (0 ≤ x ∧ x ≤ y ∧ y ≤ z)) := by
  unfold fn_X10_areLengths fn_X10_areLengths_J18
  rw [cLt_if hx.1 hx.2 (by omega) (by omega), cLt_if hy.1 hy.2 hx.1 hx.2, cLt_if hz.1 hz.2 hy.1 hy.2]
  by_cases h1 : x < 0
  · rw [if_pos h1, b2_f (by omega)]
  · by_cases h2 : y < x
    · rw [if_neg h1, if_pos h2, b2_f (by omega)]
    · by_cases h3 : z < y
      · rw [if_neg h1, if_neg h2, if_pos h3, b2_f (by omega)]
      · rw [if_neg h1, if_neg h2, if_neg h3, b2_t (by omega)]
theorem p_isHand {t : Nat} {x : Int} {M : Mem} (hx : R3 x) (h0 : 0 ≤ M t 1) (h1 : M t 1 ≤ 10) : fn_X4_isHand t x M = some (b2 (0 ≤ x ∧ x < M t 1)) := by
  unfold fn_X4_isHand fn_X4_isHand_J22
  rw [cLt_if hx.1 hx.2 (by omega) (by omega), cLt_if hx.1 hx.2 (by omega) (by omega), cLt_if hx.1 hx.2 (by omega) (by omega)]
  by_cases h1 : x < 0
  · rw [if_pos h1, b2_f (by omega)]
  · by_cases h2 : x < M t 1
    · rw [if_neg h1, if_pos h2, if_pos (by omega), b2_t (by omega)]
    · rw [if_neg h1, if_neg h2, b2_f (by omega)]
theorem p_isCoin {t : Nat} {x : Int} {M : Mem} (hx : R3 x) (h0 : 0 ≤ M t 7) (h1 : M t 7 ≤ 20) : fn_X4_isCoin t x M = some (b2 (0 ≤ x ∧ x < M t 7)) := by
  unfold fn_X4_isCoin fn_X4_isCoin_J22
  rw [cLt_if hx.1 hx.2 (by omega) (by omega), cLt_if hx.1 hx.2 (by omega) (by omega), cLt_if hx.1 hx.2 (by omega) (by omega)]
  by_cases h1 : x < 0
  · rw [if_pos h1, b2_f (by omega)]
  · by_cases h2 : x < M t 7
    · rw [if_neg h1, if_pos h2, if_pos (by omega), b2_t (by omega)]
    · rw [if_neg h1, if_neg h2, b2_f (by omega)]
theorem p_isText {t : Nat} {x : Int} {M : Mem} (hx : R3 x) (h0 : 0 ≤ M t 11) (h1 : M t 11 ≤ 4) : fn_X4_isText t x M = some (b2 (0 ≤ x ∧ x < M t 11)) := by
  unfold fn_X4_isText fn_X4_isText_J21
  rw [cLt_if hx.1 hx.2 (by omega) (by omega), cLt_if hx.1 hx.2 (by omega) (by omega), cLt_if hx.1 hx.2 (by omega) (by omega)]
  by_cases h1 : x < 0
  · rw [if_pos h1, b2_f (by omega)]
  · by_cases h2 : x < M t 11
    · rw [if_neg h1, if_pos h2, if_pos (by omega), b2_t (by omega)]
    · rw [if_neg h1, if_neg h2, b2_f (by omega)]
theorem q_isHand {x : Int} {M : Mem} (hx : R3 x) (h0 : 0 ≤ M 72 0) (h1 : M 72 0 ≤ 10) : fn_X11_isHand 71 x M = some (b2 (0 ≤ x ∧ x < M 72 0)) := by
  unfold fn_X11_isHand
  rw [rd_eq (by omega) (by decide), show (0 : Int).toNat = 0 from rfl, p_in hx ⟨by omega, by omega⟩ ⟨by show _ ≤ M 72 0 - 1; omega, by show M 72 0 - 1 ≤ _; omega⟩, cu_s, ck_t (b2_01 _)]
  congr 1
  show b2 (0 ≤ x ∧ x ≤ M 72 0 - 1) = _
  by_cases h : 0 ≤ x ∧ x < M 72 0
  · rw [b2_t h, b2_t (by omega)]
  · rw [b2_f h, b2_f (by omega)]
theorem q_isCoin {x : Int} {M : Mem} (hx : R3 x) (h0 : 0 ≤ M 72 1) (h1 : M 72 1 ≤ 20) : fn_X11_isCoin 71 x M = some (b2 (0 ≤ x ∧ x < M 72 1)) := by
  unfold fn_X11_isCoin
  rw [rd_eq (by omega) (by decide), show (1 : Int).toNat = 1 from rfl, p_in hx ⟨by omega, by omega⟩ ⟨by show _ ≤ M 72 1 - 1; omega, by show M 72 1 - 1 ≤ _; omega⟩, cu_s, ck_t (b2_01 _)]
  congr 1
  show b2 (0 ≤ x ∧ x ≤ M 72 1 - 1) = _
  by_cases h : 0 ≤ x ∧ x < M 72 1
  · rw [b2_t h, b2_t (by omega)]
  · rw [b2_f h, b2_f (by omega)]
