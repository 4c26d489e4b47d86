theorem v_back_0 : zxSame (zmS zC0) 3000 8 4 208 [(0, 0)] zC0 = true := by decide +kernel
theorem q_back {O : zOm} (hO : zWld O) (hS : zS O = zmS zC0) (a : Int) : zSame O 4 208 [(0, a)] (zmM zC0) := by
  by_cases h : a = 0
  · subst h; exact zx_same hO hS.symm (by rw [hS]; exact v_back_0)
  · exact g_ToldNet_back hO hS zC0_f6 h (g_Model_back hO hS zC0_f5 h ⟨_, rfl, rfl, trivial⟩)

theorem v_coarsest_0 : zxSame (zmS zC0) 3000 8 37 297 [(0, 0)] zC0 = true := by decide +kernel
theorem v_coarsest_1 : zxSame (zmS zC0) 3000 8 37 297 [(0, 1)] zC0 = true := by decide +kernel
theorem q_coarsest {O : zOm} (hO : zWld O) (hS : zS O = zmS zC0) (a : Int) : zSame O 37 297 [(0, a)] (zmM zC0) := by
  by_cases h : a = 0 ∨ a = 1
  · rcases h with rfl | rfl
    · exact zx_same hO hS.symm (by rw [hS]; exact v_coarsest_0)
    · exact zx_same hO hS.symm (by rw [hS]; exact v_coarsest_1)
  · exact g_ToldNet_coarsest hO hS zC0_f1 h (g_Model_coarsest hO hS zC0_f3 h ⟨_, rfl, rfl, trivial⟩)

theorem v_mark_00 : zxSame (zmS zC0) 3000 8 8 214 [(0, 0), (0, 0)] zC0 = true := by decide +kernel
theorem v_mark_01 : zxSame (zmS zC0) 3000 8 8 214 [(0, 0), (0, 1)] zC0 = true := by decide +kernel
theorem v_mark_02 : zxSame (zmS zC0) 3000 8 8 214 [(0, 0), (0, 2)] zC0 = true := by decide +kernel
theorem v_mark_03 : zxSame (zmS zC0) 3000 8 8 214 [(0, 0), (0, 3)] zC0 = true := by decide +kernel
theorem v_mark_10 : zxSame (zmS zC0) 3000 8 8 214 [(0, 1), (0, 0)] zC0 = true := by decide +kernel
theorem v_mark_11 : zxSame (zmS zC0) 3000 8 8 214 [(0, 1), (0, 1)] zC0 = true := by decide +kernel
theorem v_mark_12 : zxSame (zmS zC0) 3000 8 8 214 [(0, 1), (0, 2)] zC0 = true := by decide +kernel
theorem v_mark_13 : zxSame (zmS zC0) 3000 8 8 214 [(0, 1), (0, 3)] zC0 = true := by decide +kernel
theorem q_mark {O : zOm} (hO : zWld O) (hS : zS O = zmS zC0) (a v : Int) : zSame O 8 214 [(0, a), (0, v)] (zmM zC0) := by
  by_cases h : (a = 0 ∨ a = 1) ∧ 0 ≤ v ∧ v ≤ 3
  · obtain ⟨h1, h2, h3⟩ := h
    have h4 : v = 0 ∨ v = 1 ∨ v = 2 ∨ v = 3 := by omega
    rcases h1 with rfl | rfl
    · rcases h4 with rfl | rfl | rfl | rfl
      · exact zx_same hO hS.symm (by rw [hS]; exact v_mark_00)
      · exact zx_same hO hS.symm (by rw [hS]; exact v_mark_01)
      · exact zx_same hO hS.symm (by rw [hS]; exact v_mark_02)
      · exact zx_same hO hS.symm (by rw [hS]; exact v_mark_03)
    · rcases h4 with rfl | rfl | rfl | rfl
      · exact zx_same hO hS.symm (by rw [hS]; exact v_mark_10)
      · exact zx_same hO hS.symm (by rw [hS]; exact v_mark_11)
      · exact zx_same hO hS.symm (by rw [hS]; exact v_mark_12)
      · exact zx_same hO hS.symm (by rw [hS]; exact v_mark_13)
  · exact g_ToldNet_mark hO hS zC0_f1 h (g_Model_mark hO hS zC0_f3 h ⟨_, rfl, rfl, trivial⟩)
