/-! ===== the law's two cases of word and except ===== -/
abbrev zl3 : List (Nat × Bool) := [(1, false), (2, false), (3, false)]
def zlStk (k1 : Nat) (f : zLf) : Prop := Jvm.Cond.methodLink "ToldNetLaw" k1 f.1 ∈ zWS ∧ Jvm.Cond.static f.1 ∈ zWS ∧ Jvm.Cond.initialized f.1.cls ∈ zWS ∧ f.1.cls ≠ "java/lang/invoke/MethodHandle" ∧ f.1.cls ≠ "java/lang/invoke/VarHandle" ∧ (parseMethodDescriptor f.1.desc).map (fun d => d.parameters.length) = some 5 ∧ Jvm.Cond.codeWith f.1 f.2.1 6 (some .int) zlHh ∈ zWS
theorem zlStk_w : zlStk 95 zLw := ⟨zInW_mem (pl := 1572) (by decide +kernel), zInW_mem (pl := 1573) (by decide +kernel), zInW_mem (pl := 156) (by decide +kernel), by decide, by decide, by decide +kernel, zLw_in⟩
theorem zlStk_e : zlStk 101 zLe := ⟨zInW_mem (pl := 1666) (by decide +kernel), zInW_mem (pl := 1667) (by decide +kernel), zInW_mem (pl := 156) (by decide +kernel), by decide, by decide, by decide +kernel, zLe_in⟩
