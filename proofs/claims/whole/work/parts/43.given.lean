/-! what the Statement gives of the start: classes, arrays' classes, Strings, statics -/
def fl1 : List Cond := flatC (Jvm.Cond.and given_1 narrow_1)
def sTm (i : Nat) : Term := .string "HeavierByHand$Tokens" (sIx.getD i 0)
def sVa (i : Nat) : Term := .field (sTm i) "java/lang/String" "value" "[B"
def cTm : Term := .static "HeavierByHand" "CHOSEN_GRAINS" "[I"
set_option maxRecDepth 100000 in
theorem f_ex : ∀ i, i < 16 → Cond.exactly (sTm i) "java/lang/String" ∈ fl1 := by decide +kernel
set_option maxRecDepth 100000 in
theorem f_co : ∀ i, i < 16 → Cond.eq (.field (sTm i) "java/lang/String" "coder" "B") (.int 0) ∈ fl1 := by decide +kernel
set_option maxRecDepth 100000 in
theorem f_ar : ∀ i, i < 16 → Cond.arrayOf (sVa i) .byte ∈ fl1 := by decide +kernel
set_option maxRecDepth 100000 in
theorem f_le : ∀ i, i < 16 → Cond.eq (.length (sVa i)) (.int (Int32.ofNat (sLen.getD i 0))) ∈ fl1 := by decide +kernel
set_option maxRecDepth 100000 in
theorem f_el : ∀ i, i < 16 → ∀ j, j < sLen.getD i 0 → Cond.eq (.elem (sVa i) (.int (Int32.ofNat j))) (.int ((sByt.getD i []).getD j 0)) ∈ fl1 := by decide +kernel
set_option maxRecDepth 100000 in
theorem f_ce : ∀ j, j < 60 → Cond.eq (.elem cTm (.int (Int32.ofNat j))) (.int (Int32.ofInt (chL.getD j 0))) ∈ fl1 := by decide +kernel
set_option maxRecDepth 100000 in
theorem f_ca : Cond.arrayOf cTm .int ∈ fl1 := by decide +kernel
set_option maxRecDepth 100000 in
theorem f_cl : Cond.eq (.length cTm) (.int (Int32.ofNat 60)) ∈ fl1 := by decide +kernel
set_option maxRecDepth 100000 in
theorem f_cs : Cond.eq (.static "java/lang/String" "COMPACT_STRINGS" "Z") (.int 1) ∈ fl1 := by decide +kernel
set_option maxRecDepth 100000 in
theorem f_si : Cond.isRef (.static "jdk/internal/util/Preconditions" "SIOOBE_FORMATTER" "Ljava/util/function/BiFunction;") ∈ fl1 := by decide +kernel
theorem t_sr : ∀ i, i < 16 → Cond.stringRef "HeavierByHand$Tokens" (sIx.getD i 0) (sTx.getD i "") ∈ lw_tbl := by decide +kernel
theorem t_l1 : Cond.laysStatic "java/lang/String" "COMPACT_STRINGS" "Z" ∈ lw_tbl := by decide +kernel
theorem t_l2 : Cond.laysStatic "HeavierByHand" "CHOSEN_GRAINS" "[I" ∈ lw_tbl := by decide +kernel
theorem t_l3 : Cond.laysStatic "jdk/internal/util/Preconditions" "SIOOBE_FORMATTER" "Ljava/util/function/BiFunction;" ∈ lw_tbl := by decide +kernel
theorem t_ao : Cond.arrayOver (.object "HeavierByHand$Text") ∈ lw_tbl := by decide +kernel
theorem t_i1 : Cond.initialized "java/lang/String" ∈ lw_tbl := by decide +kernel
theorem t_i2 : Cond.initialized "HeavierByHand" ∈ lw_tbl := by decide +kernel
theorem t_i3 : Cond.initialized "jdk/internal/util/Preconditions" ∈ lw_tbl := by decide +kernel
