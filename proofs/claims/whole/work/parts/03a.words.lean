/-! words of the facts -/
abbrev gz_M : Type := MethodName × ByteArray × Nat × Option FieldType
def gz_fl (own : String) (ix ci k : Nat) : Prop := ci < 13 ∧ k < gz_nf ci ∧ Cond.fieldLink own ix (gz_kT ci k).1 (gz_kT ci k).2.1 (gz_kT ci k).2.2.1 ∈ gz_U
def gz_mk (M : gz_M) (n : Nat) : Prop := plainFor M.1 = true ∧ (M.1.cls ≠ "java/lang/invoke/MethodHandle" ∧ M.1.cls ≠ "java/lang/invoke/VarHandle" ∧ (parseMethodDescriptor M.1.desc).map (fun d => d.parameters.length) = some n) ∧ Cond.code M.1 M.2.1 M.2.2.1 M.2.2.2 ∈ gz_U ∧ M.2.2.1 ≤ 45 ∧ Cond.initialized M.1.cls ∈ gz_U
def gz_mv (own : String) (ix : Nat) (M : gz_M) (n : Nat) : Prop := gz_mk M n ∧ Cond.methodLink own ix M.1 ∈ gz_U ∧ Cond.instanceMethod M.1 ∈ gz_U ∧ Cond.selects M.1.cls M.1 M.1 ∈ gz_U
def gz_ms (own : String) (ix : Nat) (M : gz_M) (n : Nat) : Prop := gz_mk M n ∧ Cond.methodLink own ix M.1 ∈ gz_U ∧ Cond.static M.1 ∈ gz_U
def gz_fi (ci k : Nat) : Prop := gz_ft ci k = 0 ∧ gz_kY ci k = .int ∧ (gz_kT ci k).2.2.2 = false
def gz_fz (ci k : Nat) : Prop := gz_ft ci k = 0 ∧ gz_kY ci k = .boolean ∧ (gz_kT ci k).2.2.2 = false
abbrev gz_ok (i : Int32) (n : Nat) : Prop := ¬ (i < 0 ∨ n ≤ i.toNatClampNeg)
def gz_FU : Nat := 100000
def gz_ln (j : Nat) : Nat := (gz_st.getD j (9, 0)).2
