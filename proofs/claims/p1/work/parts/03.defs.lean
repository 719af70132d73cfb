/-- a method: its name, bytes, number of locals, type -/
abbrev cp_M : Type := MethodName × ByteArray × Nat × Option FieldType
def cp_nest : List Cond := [.methodLinkNest "ConditionedProofs$Reader" 79 ⟨"ConditionedProofs", "isVariable", "(C)Z"⟩ "ConditionedProofs", .methodLinkNest "ConditionedProofs$Reader" 82 ⟨"ConditionedProofs", "isDigit", "(C)Z"⟩ "ConditionedProofs", .methodLinkNest "ConditionedProofs$Reader" 76 ⟨"ConditionedProofs", "isLetter", "(C)Z"⟩ "ConditionedProofs"]
/-- a field's entry: of the class own, at idx: field k of class ci -/
def cp_fl (own : String) (idx ci k : Nat) : Prop := cp_ok ci ∧ k < cp_N ci ∧ Cond.fieldLink own idx (cp_F ci k).1 (cp_F ci k).2.1 (cp_F ci k).2.2.1 ∈ cp_WS
/-- what every call needs of the tables -/
def cp_cd (mk : cp_M) (n : Nat) : Prop := Cond.code mk.1 mk.2.1 mk.2.2.1 mk.2.2.2 ∈ cp_WS ∧ Cond.initialized mk.1.cls ∈ cp_WS ∧ mk.2.2.1 ≤ 45 ∧ mk.1.cls ≠ "java/lang/invoke/MethodHandle" ∧ mk.1.cls ≠ "java/lang/invoke/VarHandle" ∧ (parseMethodDescriptor mk.1.desc).map (fun d => d.parameters.length) = some n
/-- entries of methods: virtual, static, constructor -/
def cp_lv (own : String) (idx : Nat) (mk : cp_M) (ci : Nat) : Prop := ci < 14 ∧ mk.1.cls = cp_R ci ∧ Cond.methodLink own idx mk.1 ∈ cp_WS ∧ Cond.instanceMethod mk.1 ∈ cp_WS ∧ Cond.selects mk.1.cls mk.1 mk.1 ∈ cp_WS
def cp_ls (own : String) (idx : Nat) (mk : cp_M) : Prop := Cond.methodLink own idx mk.1 ∈ cp_WS ∧ Cond.static mk.1 ∈ cp_WS
def cp_li (own : String) (idx : Nat) (mk : cp_M) : Prop := mk.2.2.2 = none ∧ mk.1.name = "<init>" ∧ Cond.methodLink own idx mk.1 ∈ cp_WS ∧ Cond.instanceMethod mk.1 ∈ cp_WS
