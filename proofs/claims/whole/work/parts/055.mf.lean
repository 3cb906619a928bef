def MF (y : MethodName) (cc : ByteArray) (ml : Nat) (rt : Option FieldType) (np : Nat) : Prop :=
  Cond.code y cc ml rt ∈ tblG ∧ Cond.initialized y.cls ∈ tblG ∧ (y.cls ≠ "java/lang/invoke/MethodHandle" ∧ y.cls ≠ "java/lang/invoke/VarHandle" ∧ (parseMethodDescriptor y.desc).map (fun d => d.parameters.length) = some np)
def MI (y : MethodName) : Prop := Cond.instanceMethod y ∈ tblG ∧ Cond.selects y.cls y y ∈ tblG
def isNest : Cond → Bool
  | .methodLinkNest .. => true
  | _ => false
def nestL : List Cond := lw_tbl.filter isNest
