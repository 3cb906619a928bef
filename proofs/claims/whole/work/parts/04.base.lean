/-! pure words: numbers are Ints; a word of the machine is Int32.ofInt or Int64.ofInt of it -/
abbrev Mem : Type := Nat → Nat → Int
abbrev i3 (x : Int) : Value := .int (Int32.ofInt x)
abbrev l6 (x : Int) : Value := .long (Int64.ofInt x)
abbrev R3 (x : Int) : Prop := -2147483648 ≤ x ∧ x ≤ 2147483647
abbrev R6 (x : Int) : Prop := -9223372036854775808 ≤ x ∧ x ≤ 9223372036854775807
def ck {ρ : Type} (P : Prop) [Decidable P] (A : Option ρ) : Option ρ := if P then A else none
def cLt {ρ : Type} (x y : Int) (A B : Option ρ) : Option ρ := if R3 x ∧ R3 y then (if x < y then A else B) else none
def cEq {ρ : Type} (x y : Int) (A B : Option ρ) : Option ρ := if R3 x ∧ R3 y then (if x = y then A else B) else none
def dLt {ρ : Type} (x y : Int) (A B : Option ρ) : Option ρ := if R6 x ∧ R6 y then (if x < y then A else B) else none
def dEq {ρ : Type} (x y : Int) (A B : Option ρ) : Option ρ := if R6 x ∧ R6 y then (if x = y then A else B) else none
def up (M : Mem) (k i : Nat) (v : Int) : Mem := fun a b => if a = k ∧ b = i then v else M a b
def cp (M : Mem) (src dst n : Nat) : Mem := fun a b => if a = dst ∧ b < n then M src b else M a b
def zr (M : Mem) (k : Nat) : Mem := fun a b => if a = k then 0 else M a b
def lp {σ ρ : Type} (F : (σ → Option ρ) → σ → Option ρ) : Nat → σ → Option ρ
  | 0, _ => none
  | n + 1, s => F (lp F n) s
def FU : Nat := 1000000000
def andI (x y : Int) : Int := (Int32.ofInt x &&& Int32.ofInt y).toInt
def orI (x y : Int) : Int := (Int32.ofInt x ||| Int32.ofInt y).toInt
def xorI (x y : Int) : Int := (Int32.ofInt x ^^^ Int32.ofInt y).toInt
def shlI (x y : Int) : Int := (Int32.ofInt x <<< (Int32.ofInt y &&& 31)).toInt
def shrI (x y : Int) : Int := (Int32.ofInt x >>> (Int32.ofInt y &&& 31)).toInt
def ushrI (x y : Int) : Int := ((Int32.ofInt x).toUInt32 >>> ((Int32.ofInt y).toUInt32 &&& Int32.toUInt32 31)).toInt32.toInt
def i2bI (x : Int) : Int := (Int32.ofInt x).toInt8.toInt32.toInt
/-! rows on numbers -/
theorem r3_to {x : Int} (h : R3 x) : (Int32.ofInt x).toInt = x := by
  rw [Int32.toInt_ofInt]; exact Int.bmod_eq_of_le (by simp; omega) (by simp; omega)
theorem r6_to {x : Int} (h : R6 x) : (Int64.ofInt x).toInt = x := by
  rw [Int64.toInt_ofInt]; exact Int.bmod_eq_of_le (by simp; omega) (by simp; omega)
theorem r3_inj {x y : Int} (hx : R3 x) (hy : R3 y) : Int32.ofInt x = Int32.ofInt y ↔ x = y := by
  constructor
  · intro h; have := congrArg Int32.toInt h; rwa [r3_to hx, r3_to hy] at this
  · intro h; rw [h]
theorem r3_lt {x y : Int} (hx : R3 x) (hy : R3 y) : Int32.ofInt x < Int32.ofInt y ↔ x < y := by
  rw [Int32.lt_iff_toInt_lt, r3_to hx, r3_to hy]
theorem r3_le {x y : Int} (hx : R3 x) (hy : R3 y) : Int32.ofInt x ≤ Int32.ofInt y ↔ x ≤ y := by
  rw [Int32.le_iff_toInt_le, r3_to hx, r3_to hy]
theorem r6_inj {x y : Int} (hx : R6 x) (hy : R6 y) : Int64.ofInt x = Int64.ofInt y ↔ x = y := by
  constructor
  · intro h; have := congrArg Int64.toInt h; rwa [r6_to hx, r6_to hy] at this
  · intro h; rw [h]
theorem r6_lt {x y : Int} (hx : R6 x) (hy : R6 y) : Int64.ofInt x < Int64.ofInt y ↔ x < y := by
  rw [Int64.lt_iff_toInt_lt, r6_to hx, r6_to hy]
theorem i3_to (a : Int32) : Int32.ofInt a.toInt = a := by simp
theorem r3_nat {x : Int} {n : Nat} (h0 : 0 ≤ x) (h1 : x < n) (hn : n < 2147483648) : (Int32.ofInt x).toNatClampNeg = x.toNat := by
  show (Int32.ofInt x).toInt.toNat = x.toNat
  rw [r3_to ⟨by omega, by omega⟩]
theorem r3_in {x : Int} {n : Nat} (h0 : 0 ≤ x) (h1 : x < n) (hn : n < 2147483648) : vp_in (Int32.ofInt x) n := by
  rw [vp_in_iff, r3_to ⟨by omega, by omega⟩]; exact ⟨h0, h1⟩
theorem r3_div {x y : Int} (hx : R3 x) (hy : R3 y) : Int32.ofInt x / Int32.ofInt y = Int32.ofInt (x.tdiv y) := by
  apply Int32.toInt_inj.mp
  rw [Int32.toInt_div, r3_to hx, r3_to hy, Int32.toInt_ofInt]
theorem r3_rem {x y : Int} (hx : R3 x) (hy : R3 y) : Int32.ofInt x - Int32.ofInt x / Int32.ofInt y * Int32.ofInt y = Int32.ofInt (x.tmod y) := by
  rw [r3_div hx hy, ← Int32.ofInt_mul, ← Int32.ofInt_sub]
  congr 1
  have := Int.tmod_add_mul_tdiv x y
  rw [Int.mul_comm] at this; omega
theorem r6_div {x y : Int} (hx : R6 x) (hy : R6 y) : Int64.ofInt x / Int64.ofInt y = Int64.ofInt (x.tdiv y) := by
  apply Int64.toInt_inj.mp
  rw [Int64.toInt_div, r6_to hx, r6_to hy, Int64.toInt_ofInt]
theorem r6_rem {x y : Int} (hx : R6 x) (hy : R6 y) : Int64.ofInt x - Int64.ofInt x / Int64.ofInt y * Int64.ofInt y = Int64.ofInt (x.tmod y) := by
  rw [r6_div hx hy, ← Int64.ofInt_mul, ← Int64.ofInt_sub]
  congr 1
  have := Int.tmod_add_mul_tdiv x y
  rw [Int.mul_comm] at this; omega
theorem r3_i2l {x : Int} (hx : R3 x) : (Int32.ofInt x).toInt64 = Int64.ofInt x := by
  apply Int64.toInt_inj.mp
  rw [Int32.toInt_toInt64, r3_to hx, r6_to ⟨by omega, by omega⟩]
theorem r6_l2i {x : Int} : (Int64.ofInt x).toInt32 = Int32.ofInt x := by
  apply Int32.toInt_inj.mp
  rw [Int64.toInt_toInt32, Int64.toInt_ofInt, Int32.toInt_ofInt]
  rw [Int.bmod_bmod_of_dvd]; decide
/-! what a step of the pure text says -/
theorem ck_of {ρ : Type} {P : Prop} [Decidable P] {A : Option ρ} {o : ρ} (h : ck P A = some o) : P ∧ A = some o := by
  unfold ck at h; split at h
  · exact ⟨by assumption, h⟩
  · cases h
theorem cLt_of {ρ : Type} {x y : Int} {A B : Option ρ} {o : ρ} (h : cLt x y A B = some o) : (R3 x ∧ R3 y) ∧ (x < y → A = some o) ∧ (¬ x < y → B = some o) := by
  unfold cLt at h; split at h
  · refine ⟨by assumption, fun q => by rwa [if_pos q] at h, fun q => by rwa [if_neg q] at h⟩
  · cases h
theorem cEq_of {ρ : Type} {x y : Int} {A B : Option ρ} {o : ρ} (h : cEq x y A B = some o) : (R3 x ∧ R3 y) ∧ (x = y → A = some o) ∧ (¬ x = y → B = some o) := by
  unfold cEq at h; split at h
  · refine ⟨by assumption, fun q => by rwa [if_pos q] at h, fun q => by rwa [if_neg q] at h⟩
  · cases h
theorem dLt_of {ρ : Type} {x y : Int} {A B : Option ρ} {o : ρ} (h : dLt x y A B = some o) : (R6 x ∧ R6 y) ∧ (x < y → A = some o) ∧ (¬ x < y → B = some o) := by
  unfold dLt at h; split at h
  · refine ⟨by assumption, fun q => by rwa [if_pos q] at h, fun q => by rwa [if_neg q] at h⟩
  · cases h
theorem dEq_of {ρ : Type} {x y : Int} {A B : Option ρ} {o : ρ} (h : dEq x y A B = some o) : (R6 x ∧ R6 y) ∧ (x = y → A = some o) ∧ (¬ x = y → B = some o) := by
  unfold dEq at h; split at h
  · refine ⟨by assumption, fun q => by rwa [if_pos q] at h, fun q => by rwa [if_neg q] at h⟩
  · cases h
theorem bd_of {α ρ : Type} {a : Option α} {f : α → Option ρ} {o : ρ} (h : a.bind f = some o) : ∃ x, a = some x ∧ f x = some o := Option.bind_eq_some_iff.mp h
/-- the words that ride along into every call -/
def tblG : List Cond := lw_tbl.filter goodWord
theorem tg_good : ∀ w ∈ tblG, (w.onTables && w.keeps) = true ∨ ∃ ty, w = .arrayClass ty := fun w hw => good_of_word (List.mem_filter.mp hw).2
theorem tg_in {w : Cond} (h : w ∈ lw_tbl) (g : goodWord w = true) : w ∈ tblG := List.mem_filter.mpr ⟨h, g⟩
theorem tg_lw {w : Cond} (h : w ∈ tblG) : w ∈ lw_tbl := (List.mem_filter.mp h).1
theorem tg_at (i : Nat) {w : Cond} (h : lw_tbl[i]? = some w) (g : goodWord w = true) : w ∈ tblG := tg_in (List.mem_of_getElem? h) g
