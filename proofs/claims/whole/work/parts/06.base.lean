abbrev mx_M : Type := MethodName × ByteArray × Nat × Option FieldType
def mx_g : List Cond := lw_tbl.filter goodWord
theorem mx_in {w : Cond} (i : Nat) (h : lw_tbl[i]? = some w) (hg : goodWord w = true) : w ∈ mx_g := List.mem_filter.mpr ⟨List.mem_of_getElem? h, hg⟩
theorem mx_g_good {w : Cond} (h : w ∈ mx_g) : (w.onTables && w.keeps) = true ∨ ∃ ty, w = .arrayClass ty := good_of_word (List.mem_filter.mp h).2
/-- what a method that is called gives of the tables -/
def mx_ok (M : mx_M) (n : Nat) : Prop := Cond.code M.1 M.2.1 M.2.2.1 M.2.2.2 ∈ mx_g ∧ Cond.initialized M.1.cls ∈ mx_g ∧ (M.1.cls ≠ "java/lang/invoke/MethodHandle" ∧ M.1.cls ≠ "java/lang/invoke/VarHandle" ∧ (parseMethodDescriptor M.1.desc).map (fun d => d.parameters.length) = some n)
def mx_okV (M : mx_M) (n : Nat) : Prop := mx_ok M n ∧ Cond.instanceMethod M.1 ∈ mx_g ∧ Cond.selects M.1.cls M.1 M.1 ∈ mx_g
