/-! ===== calls of the fresh house, run to their ends ===== -/
theorem zC0_p2 : zmM zC0 ((1 : Nat) : Int) ((2 : Nat) : Int) = 2 := by decide +kernel
theorem zC0_c4 : zmM zC0 ((1 : Nat) : Int) ((4 : Nat) : Int) = 0 := by decide +kernel
theorem zC0_c5 : zmM zC0 249 ((5 : Nat) : Int) = 0 := by decide +kernel
theorem v_tie_0_0 : zySameB 24 6 212 [(0, 0), (0, 1), (0, 0)] = true := by decide +kernel
theorem v_tie_0_1 : zySameB 24 6 212 [(0, 0), (0, 1), (0, 1)] = true := by decide +kernel
theorem v_tie_1_0 : zySameB 24 6 212 [(0, 1), (0, 0), (0, 0)] = true := by decide +kernel
theorem v_tie_1_1 : zySameB 24 6 212 [(0, 1), (0, 0), (0, 1)] = true := by decide +kernel
theorem q_tie {O : zOm} (hO : zWld O) (hS : zS O = zmS zC0) (a b is : Int) (his : is = 0 ∨ is = 1) : zSame O 6 212 [(0, a), (0, b), (0, is)] (zmM zC0) := by
  by_cases h : (a = 0 ∧ b = 1) ∨ (a = 1 ∧ b = 0)
  · rcases h with ⟨rfl, rfl⟩ | ⟨rfl, rfl⟩ <;> rcases his with rfl | rfl
    · exact zy_same hO hS rfl v_tie_0_0
    · exact zy_same hO hS rfl v_tie_0_1
    · exact zy_same hO hS rfl v_tie_1_0
    · exact zy_same hO hS rfl v_tie_1_1
  · exact g_ToldNet_tie hO hS zC0_p2 zC0_c4 h (g_Model_tie hO hS zC0_f3 zC0_c5 h ⟨_, rfl, rfl, trivial⟩)
theorem v_ties_0 : zySameB 24 9 217 [(0, 0), (0, 0)] = true := by decide +kernel
theorem v_ties_1 : zySameB 24 9 217 [(0, 1), (0, 0)] = true := by decide +kernel
theorem q_ties {O : zOm} (hO : zWld O) (hS : zS O = zmS zC0) (a d : Int) : zSame O 9 217 [(0, a), (0, d)] (zmM zC0) := by
  by_cases hd : d = 0
  · subst hd
    by_cases h : a = 0 ∨ a = 1
    · rcases h with rfl | rfl
      · exact zy_same hO hS rfl v_ties_0
      · exact zy_same hO hS rfl v_ties_1
    · exact g_ToldNet_ties0 hO hS h (g_Model_ties hO hS zC0_f3 zC0_f4 (fun q => h q.1) ⟨_, rfl, rfl, trivial⟩)
  · exact g_ToldNet_ties hO hS zC0_f2 hd (g_Model_ties hO hS zC0_f3 zC0_f4 (fun q => hd q.2) ⟨_, rfl, rfl, trivial⟩)
theorem v_tied_0 : zySameB 24 10 218 [(0, 0), (0, 1), (0, 0)] = true := by decide +kernel
theorem v_tied_1 : zySameB 24 10 218 [(0, 1), (0, 0), (0, 0)] = true := by decide +kernel
theorem q_tied {O : zOm} (hO : zWld O) (hS : zS O = zmS zC0) (a b d : Int) : zSame O 10 218 [(0, a), (0, b), (0, d)] (zmM zC0) := by
  by_cases hd : d = 0
  · subst hd
    by_cases h : (a = 0 ∧ b = 1) ∨ (a = 1 ∧ b = 0)
    · rcases h with ⟨rfl, rfl⟩ | ⟨rfl, rfl⟩
      · exact zy_same hO hS rfl v_tied_0
      · exact zy_same hO hS rfl v_tied_1
    · exact g_ToldNet_tied0 hO hS h (g_Model_tied hO hS zC0_f3 zC0_f4 (fun q => h q.1) ⟨_, rfl, rfl, trivial⟩)
  · exact g_ToldNet_tied hO hS zC0_f2 hd (g_Model_tied hO hS zC0_f3 zC0_f4 (fun q => hd q.2) ⟨_, rfl, rfl, trivial⟩)
theorem v_nearly_0_0 : zySameB 24 38 299 [(0, 0), (0, 0)] = true := by decide +kernel
theorem v_nearly_0_1 : zySameB 24 38 299 [(0, 0), (0, 1)] = true := by decide +kernel
theorem v_nearly_1_0 : zySameB 24 38 299 [(0, 1), (0, 0)] = true := by decide +kernel
theorem v_nearly_1_1 : zySameB 24 38 299 [(0, 1), (0, 1)] = true := by decide +kernel
theorem v_nearly_2_0 : zySameB 24 38 299 [(0, 2), (0, 0)] = true := by decide +kernel
theorem v_nearly_2_1 : zySameB 24 38 299 [(0, 2), (0, 1)] = true := by decide +kernel
theorem v_nearly_3_0 : zySameB 24 38 299 [(0, 3), (0, 0)] = true := by decide +kernel
theorem v_nearly_3_1 : zySameB 24 38 299 [(0, 3), (0, 1)] = true := by decide +kernel
theorem v_nearly_4_0 : zySameB 24 38 299 [(0, 4), (0, 0)] = true := by decide +kernel
theorem v_nearly_4_1 : zySameB 24 38 299 [(0, 4), (0, 1)] = true := by decide +kernel
theorem v_nearly_5_0 : zySameB 24 38 299 [(0, 5), (0, 0)] = true := by decide +kernel
theorem v_nearly_5_1 : zySameB 24 38 299 [(0, 5), (0, 1)] = true := by decide +kernel
theorem v_nearly_6_0 : zySameB 24 38 299 [(0, 6), (0, 0)] = true := by decide +kernel
theorem v_nearly_6_1 : zySameB 24 38 299 [(0, 6), (0, 1)] = true := by decide +kernel
theorem v_nearly_7_0 : zySameB 24 38 299 [(0, 7), (0, 0)] = true := by decide +kernel
theorem v_nearly_7_1 : zySameB 24 38 299 [(0, 7), (0, 1)] = true := by decide +kernel
theorem v_nearly_8_0 : zySameB 24 38 299 [(0, 8), (0, 0)] = true := by decide +kernel
theorem v_nearly_8_1 : zySameB 24 38 299 [(0, 8), (0, 1)] = true := by decide +kernel
theorem v_nearly_9_0 : zySameB 24 38 299 [(0, 9), (0, 0)] = true := by decide +kernel
theorem v_nearly_9_1 : zySameB 24 38 299 [(0, 9), (0, 1)] = true := by decide +kernel
theorem v_nearly_10_0 : zySameB 24 38 299 [(0, 10), (0, 0)] = true := by decide +kernel
theorem v_nearly_10_1 : zySameB 24 38 299 [(0, 10), (0, 1)] = true := by decide +kernel
theorem v_nearly_11_0 : zySameB 24 38 299 [(0, 11), (0, 0)] = true := by decide +kernel
theorem v_nearly_11_1 : zySameB 24 38 299 [(0, 11), (0, 1)] = true := by decide +kernel
theorem v_nearly_12_0 : zySameB 24 38 299 [(0, 12), (0, 0)] = true := by decide +kernel
theorem v_nearly_12_1 : zySameB 24 38 299 [(0, 12), (0, 1)] = true := by decide +kernel
theorem v_nearly_13_0 : zySameB 24 38 299 [(0, 13), (0, 0)] = true := by decide +kernel
theorem v_nearly_13_1 : zySameB 24 38 299 [(0, 13), (0, 1)] = true := by decide +kernel
theorem v_nearly_14_0 : zySameB 24 38 299 [(0, 14), (0, 0)] = true := by decide +kernel
theorem v_nearly_14_1 : zySameB 24 38 299 [(0, 14), (0, 1)] = true := by decide +kernel
theorem q_nearly {O : zOm} (hO : zWld O) (hS : zS O = zmS zC0) (k a : Int) : zSame O 38 299 [(0, k), (0, a)] (zmM zC0) := by
  by_cases h : (a = 0 ∨ a = 1) ∧ 0 ≤ k ∧ k ≤ 14
  · obtain ⟨h1, h2, h3⟩ := h
    have h4 : k = 0 ∨ k = 1 ∨ k = 2 ∨ k = 3 ∨ k = 4 ∨ k = 5 ∨ k = 6 ∨ k = 7 ∨ k = 8 ∨ k = 9 ∨ k = 10 ∨ k = 11 ∨ k = 12 ∨ k = 13 ∨ k = 14 := by omega
    rcases h1 with rfl | rfl
    · rcases h4 with rfl | rfl | rfl | rfl | rfl | rfl | rfl | rfl | rfl | rfl | rfl | rfl | rfl | rfl | rfl
      · exact zy_same hO hS rfl v_nearly_0_0
      · exact zy_same hO hS rfl v_nearly_1_0
      · exact zy_same hO hS rfl v_nearly_2_0
      · exact zy_same hO hS rfl v_nearly_3_0
      · exact zy_same hO hS rfl v_nearly_4_0
      · exact zy_same hO hS rfl v_nearly_5_0
      · exact zy_same hO hS rfl v_nearly_6_0
      · exact zy_same hO hS rfl v_nearly_7_0
      · exact zy_same hO hS rfl v_nearly_8_0
      · exact zy_same hO hS rfl v_nearly_9_0
      · exact zy_same hO hS rfl v_nearly_10_0
      · exact zy_same hO hS rfl v_nearly_11_0
      · exact zy_same hO hS rfl v_nearly_12_0
      · exact zy_same hO hS rfl v_nearly_13_0
      · exact zy_same hO hS rfl v_nearly_14_0
    · rcases h4 with rfl | rfl | rfl | rfl | rfl | rfl | rfl | rfl | rfl | rfl | rfl | rfl | rfl | rfl | rfl
      · exact zy_same hO hS rfl v_nearly_0_1
      · exact zy_same hO hS rfl v_nearly_1_1
      · exact zy_same hO hS rfl v_nearly_2_1
      · exact zy_same hO hS rfl v_nearly_3_1
      · exact zy_same hO hS rfl v_nearly_4_1
      · exact zy_same hO hS rfl v_nearly_5_1
      · exact zy_same hO hS rfl v_nearly_6_1
      · exact zy_same hO hS rfl v_nearly_7_1
      · exact zy_same hO hS rfl v_nearly_8_1
      · exact zy_same hO hS rfl v_nearly_9_1
      · exact zy_same hO hS rfl v_nearly_10_1
      · exact zy_same hO hS rfl v_nearly_11_1
      · exact zy_same hO hS rfl v_nearly_12_1
      · exact zy_same hO hS rfl v_nearly_13_1
      · exact zy_same hO hS rfl v_nearly_14_1
  · exact g_ToldNet_nearly hO hS zC0_p2 h (g_Model_nearly hO hS zC0_f3 h ⟨_, rfl, rfl, trivial⟩)
theorem v_count_0 : zySameB 24 48 354 [(0, 0)] = true := by decide +kernel
theorem v_count_1 : zySameB 24 48 354 [(0, 1)] = true := by decide +kernel
theorem v_count_2 : zySameB 24 48 354 [(0, 2)] = true := by decide +kernel
theorem v_count_3 : zySameB 24 48 354 [(0, 3)] = true := by decide +kernel
theorem v_count_4 : zySameB 24 48 354 [(0, 4)] = true := by decide +kernel
theorem v_count_5 : zySameB 24 48 354 [(0, 5)] = true := by decide +kernel
theorem v_count_6 : zySameB 24 48 354 [(0, 6)] = true := by decide +kernel
theorem q_count {O : zOm} (hO : zWld O) (hS : zS O = zmS zC0) (w : Int) : zSame O 48 354 [(0, w)] (zmM zC0) := by
  by_cases h : w < 0 ∨ 6 < w
  · exact g_ToldNet_count hO hS zC0_told h (g_Model_count hO hS zC0_tellings h ⟨_, rfl, rfl, trivial⟩)
  · have h4 : w = 0 ∨ w = 1 ∨ w = 2 ∨ w = 3 ∨ w = 4 ∨ w = 5 ∨ w = 6 := by omega
    rcases h4 with rfl | rfl | rfl | rfl | rfl | rfl | rfl
    · exact zy_same hO hS rfl v_count_0
    · exact zy_same hO hS rfl v_count_1
    · exact zy_same hO hS rfl v_count_2
    · exact zy_same hO hS rfl v_count_3
    · exact zy_same hO hS rfl v_count_4
    · exact zy_same hO hS rfl v_count_5
    · exact zy_same hO hS rfl v_count_6
theorem v_net_2 : zySameB 24 5 211 [(0, 2)] = true := by decide +kernel
theorem v_net_3 : zySameB 24 5 211 [(0, 3)] = true := by decide +kernel
theorem v_net_4 : zySameB 24 5 211 [(0, 4)] = true := by decide +kernel
theorem v_net_5 : zySameB 24 5 211 [(0, 5)] = true := by decide +kernel
theorem v_net_6 : zySameB 24 5 211 [(0, 6)] = true := by decide +kernel
theorem v_net_7 : zySameB 24 5 211 [(0, 7)] = true := by decide +kernel
theorem v_net_8 : zySameB 24 5 211 [(0, 8)] = true := by decide +kernel
theorem v_net_9 : zySameB 24 5 211 [(0, 9)] = true := by decide +kernel
theorem v_net_10 : zySameB 24 5 211 [(0, 10)] = true := by decide +kernel
theorem v_net_11 : zySameB 24 5 211 [(0, 11)] = true := by decide +kernel
theorem v_net_12 : zySameB 24 5 211 [(0, 12)] = true := by decide +kernel
theorem v_net_13 : zySameB 24 5 211 [(0, 13)] = true := by decide +kernel
theorem v_net_14 : zySameB 24 5 211 [(0, 14)] = true := by decide +kernel
theorem v_net_15 : zySameB 24 5 211 [(0, 15)] = true := by decide +kernel
theorem v_net_16 : zySameB 24 5 211 [(0, 16)] = true := by decide +kernel
theorem v_bound : zySameB 24 25 248 [] = true := by decide +kernel
theorem q_bound {O : zOm} (hO : zWld O) (hS : zS O = zmS zC0) : zSame O 25 248 [] (zmM zC0) := zy_same hO hS rfl v_bound
theorem v_compare_0 : zySameB 24 45 219 [(0, 0), (0, 0), (0, 0)] = true := by decide +kernel
theorem v_compare_1 : zySameB 24 45 219 [(0, 0), (0, 0), (0, 1)] = true := by decide +kernel
theorem v_compare_2 : zySameB 24 45 219 [(0, 0), (0, 0), (0, 2)] = true := by decide +kernel
