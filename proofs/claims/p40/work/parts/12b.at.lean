/-! ===== a word by its place, sublist by sublist ===== -/
def zAt (pl : Nat) : Option Jvm.Cond :=
  if pl < 156 then lw_tbl[pl]? else if pl < 396 then tables_1_1[pl - 156]? else if pl < 636 then tables_1_2[pl - 396]? else if pl < 876 then tables_1_3[pl - 636]? else if pl < 1116 then tables_1_4[pl - 876]? else if pl < 1356 then tables_1_5[pl - 1116]? else if pl < 1596 then tables_1_6[pl - 1356]? else if pl < 1836 then tables_1_7[pl - 1596]? else if pl < 2076 then tables_1_8[pl - 1836]? else if pl < 2316 then tables_1_9[pl - 2076]? else if pl < 2556 then tables_1_10[pl - 2316]? else if pl < 2560 then tables_1_11[pl - 2556]? else none
theorem zAt_mem {pl : Nat} {w : Jvm.Cond} (h : zAt pl = some w) (hg : goodWord w = true) : w ∈ zWS := by
  unfold zAt at h
  by_cases h0 : pl < 156
  · rw [if_pos h0] at h
    exact List.mem_filter.mpr ⟨List.mem_of_getElem? h, hg⟩
  rw [if_neg h0] at h
  by_cases h1 : pl < 396
  · rw [if_pos h1] at h
    exact zw_1 (List.mem_of_getElem? h) hg
  rw [if_neg h1] at h
  by_cases h2 : pl < 636
  · rw [if_pos h2] at h
    exact zw_2 (List.mem_of_getElem? h) hg
  rw [if_neg h2] at h
  by_cases h3 : pl < 876
  · rw [if_pos h3] at h
    exact zw_3 (List.mem_of_getElem? h) hg
  rw [if_neg h3] at h
  by_cases h4 : pl < 1116
  · rw [if_pos h4] at h
    exact zw_4 (List.mem_of_getElem? h) hg
  rw [if_neg h4] at h
  by_cases h5 : pl < 1356
  · rw [if_pos h5] at h
    exact zw_5 (List.mem_of_getElem? h) hg
  rw [if_neg h5] at h
  by_cases h6 : pl < 1596
  · rw [if_pos h6] at h
    exact zw_6 (List.mem_of_getElem? h) hg
  rw [if_neg h6] at h
  by_cases h7 : pl < 1836
  · rw [if_pos h7] at h
    exact zw_7 (List.mem_of_getElem? h) hg
  rw [if_neg h7] at h
  by_cases h8 : pl < 2076
  · rw [if_pos h8] at h
    exact zw_8 (List.mem_of_getElem? h) hg
  rw [if_neg h8] at h
  by_cases h9 : pl < 2316
  · rw [if_pos h9] at h
    exact zw_9 (List.mem_of_getElem? h) hg
  rw [if_neg h9] at h
  by_cases h10 : pl < 2556
  · rw [if_pos h10] at h
    exact zw_10 (List.mem_of_getElem? h) hg
  rw [if_neg h10] at h
  by_cases h11 : pl < 2560
  · rw [if_pos h11] at h
    exact zw_11 (List.mem_of_getElem? h) hg
  rw [if_neg h11] at h
  cases h
