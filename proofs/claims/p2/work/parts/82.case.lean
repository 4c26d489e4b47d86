/-! ===== a case of the law's switch; its loop ===== -/
abbrev zlE : Type := Nat × Nat × List (Nat × Bool) × Nat × Nat × Nat × Nat
def zlRoom (f : Nat) : Bool := decide ((zFn f).2.2.2.2.1 + 1 ≤ 10 ∧ 8 + ((zFn f).2.2.1 + 11) + (zFn f).2.2.2.2.2 ≤ 406)
def zlLink (k f ci na : Nat) : Bool := decide (zpmF zpm_Law k = some (0, f, ci, na)) && zlRoom f
/-- cases whose two answers are compared; the others are only made -/
def zlCm : List Nat := [0]
def zlIsC (n : Nat) : Bool := zlCm.contains n
def zlCaseC (e : zlE) : Bool := match e with
  | (_, pc, specs, k1, fx, k2, fm) => decide (decode code pc = .ok (.aload_n 1, 1)) && (match zlChk (pc + 1) specs with
    | some p1 => decide (decode code p1 = .ok (.invokevirtual k1, 3)) && (decide (decode code (p1 + 3) = .ok (.aload_n 2, 1)) && (match zlChk (p1 + 4) specs with
      | some p2 => decide (decode code p2 = .ok (.invokevirtual k2, 3)) && decide (decode code (p2 + 3) = .ok (.if_icmp .eq (2072 - ((p2 + 3 : Nat) : Int)), 3))
      | none => false))
    | none => false) && (zlLink k1 fx 0 specs.length && (zlLink k2 fm 12 specs.length && specs.all (fun q => decide (q.1 ≤ 5))))
def zlCaseN (e : zlE) : Bool := match e with
  | (_, pc, specs, k1, fx, k2, fm) => decide (decode code pc = .ok (.aload_n 1, 1)) && (match zlChk (pc + 1) specs with
    | some p1 => decide (decode code p1 = .ok (.invokevirtual k1, 3)) && (decide (decode code (p1 + 3) = .ok (.pop, 1)) && (decide (decode code (p1 + 4) = .ok (.aload_n 2, 1)) && (match zlChk (p1 + 5) specs with
      | some p2 => decide (decode code p2 = .ok (.invokevirtual k2, 3)) && (decide (decode code (p2 + 3) = .ok (.pop, 1)) && decide (decode code (p2 + 4) = .ok (.goto (2072 - ((p2 + 4 : Nat) : Int)), 3)))
      | none => false)))
    | none => false) && (zlLink k1 fx 0 specs.length && (zlLink k2 fm 12 specs.length && specs.all (fun q => decide (q.1 ≤ 5))))
def zlCase (e : zlE) : Bool := if zlIsC e.1 = true then zlCaseC e else zlCaseN e
theorem zlT_0 : zlCase (0, 240, [(1, false), (2, false), (3, false), (4, false), (5, false)], 24, 3, 28, 205) = true := by decide +kernel
theorem zlT_1 : zlCase (1, 313, [(1, false)], 29, 4, 33, 207) = true := by decide +kernel
theorem zlT_2 : zlCase (2, 338, [(1, false)], 34, 5, 38, 210) = true := by decide +kernel
theorem zlT_3 : zlCase (3, 363, [(1, false), (2, false), (3, true)], 39, 6, 43, 211) = true := by decide +kernel
theorem zlT_4 : zlCase (4, 428, [], 44, 7, 48, 212) = true := by decide +kernel
theorem zlT_5 : zlCase (5, 441, [(1, false), (2, false)], 49, 8, 53, 213) = true := by decide +kernel
theorem zlT_6 : zlCase (6, 478, [(1, false), (2, false)], 54, 9, 58, 216) = true := by decide +kernel
theorem zlT_7 : zlCase (7, 515, [(1, false), (2, false), (3, false)], 59, 10, 62, 217) = true := by decide +kernel
theorem zlT_8 : zlCase (8, 564, [], 63, 11, 66, 351) = true := by decide +kernel
theorem zlT_9 : zlCase (9, 577, [], 67, 12, 70, 352) = true := by decide +kernel
theorem zlT_10 : zlCase (10, 590, [(1, false)], 71, 13, 74, 248) = true := by decide +kernel
theorem zlT_11 : zlCase (11, 615, [(1, false)], 75, 14, 78, 249) = true := by decide +kernel
theorem zlT_12 : zlCase (12, 640, [], 79, 15, 82, 250) = true := by decide +kernel
theorem zlT_13 : zlCase (13, 653, [(1, false)], 83, 16, 86, 251) = true := by decide +kernel
theorem zlT_14 : zlCase (14, 678, [(1, false), (2, false)], 87, 17, 90, 252) = true := by decide +kernel
theorem zlT_15 : zlCase (15, 715, [(1, false), (2, false), (3, false)], 91, 18, 94, 254) = true := by decide +kernel
theorem zlT_16 : zlCase (18, 868, [(1, false), (2, false), (3, false)], 104, 21, 107, 264) = true := by decide +kernel
theorem zlT_17 : zlCase (19, 917, [(1, false), (2, false)], 108, 22, 111, 266) = true := by decide +kernel
theorem zlT_18 : zlCase (20, 954, [(1, false), (2, false), (3, false)], 112, 23, 115, 267) = true := by decide +kernel
theorem zlT_19 : zlCase (21, 1003, [(1, false), (2, false)], 116, 24, 119, 268) = true := by decide +kernel
theorem zlT_20 : zlCase (22, 1040, [], 120, 25, 123, 247) = true := by decide +kernel
theorem zlT_21 : zlCase (23, 1053, [], 124, 26, 127, 244) = true := by decide +kernel
theorem zlT_22 : zlCase (24, 1066, [(1, false), (2, false), (3, true)], 128, 27, 132, 269) = true := by decide +kernel
theorem zlT_23 : zlCase (25, 1131, [(1, false), (2, false), (3, false), (4, true), (5, false)], 133, 28, 137, 270) = true := by decide +kernel
theorem zlT_24 : zlCase (26, 1220, [(1, false), (2, false), (3, false), (4, false), (5, true)], 138, 29, 142, 281) = true := by decide +kernel
theorem zlT_25 : zlCase (27, 1309, [(1, false), (2, false), (3, false), (4, false)], 143, 30, 147, 282) = true := by decide +kernel
theorem zlT_26 : zlCase (28, 1370, [(1, false), (2, false), (3, false), (4, false)], 148, 31, 151, 284) = true := by decide +kernel
theorem zlT_27 : zlCase (29, 1431, [(1, false), (2, false), (3, false), (4, false), (5, false)], 152, 32, 155, 285) = true := by decide +kernel
theorem zlT_28 : zlCase (30, 1504, [(1, false), (2, false), (3, false), (4, false)], 156, 33, 159, 286) = true := by decide +kernel
theorem zlT_29 : zlCase (31, 1565, [(1, false)], 160, 34, 163, 288) = true := by decide +kernel
theorem zlT_30 : zlCase (32, 1590, [(1, false), (2, false)], 164, 35, 167, 292) = true := by decide +kernel
theorem zlT_31 : zlCase (33, 1627, [], 168, 36, 171, 295) = true := by decide +kernel
theorem zlT_32 : zlCase (34, 1640, [(1, false)], 172, 37, 175, 296) = true := by decide +kernel
theorem zlT_33 : zlCase (35, 1665, [(1, false), (2, false)], 176, 38, 179, 298) = true := by decide +kernel
theorem zlT_34 : zlCase (36, 1702, [(1, false)], 180, 39, 183, 299) = true := by decide +kernel
theorem zlT_35 : zlCase (37, 1727, [(1, false), (2, false)], 184, 40, 187, 304) = true := by decide +kernel
theorem zlT_36 : zlCase (38, 1764, [(1, false)], 188, 41, 191, 309) = true := by decide +kernel
theorem zlT_37 : zlCase (39, 1789, [(1, false), (2, false)], 192, 42, 195, 310) = true := by decide +kernel
theorem zlT_38 : zlCase (40, 1826, [(1, false), (2, false)], 196, 43, 199, 314) = true := by decide +kernel
theorem zlT_39 : zlCase (41, 1863, [(1, false), (2, false)], 200, 44, 203, 315) = true := by decide +kernel
theorem zlT_40 : zlCase (42, 1900, [(1, false), (2, false), (3, false)], 204, 45, 207, 218) = true := by decide +kernel
theorem zlT_41 : zlCase (43, 1949, [(1, false), (2, false), (3, false)], 208, 46, 211, 324) = true := by decide +kernel
theorem zlT_42 : zlCase (44, 1998, [(1, false), (2, false), (3, false)], 212, 47, 215, 322) = true := by decide +kernel
theorem zlT_43 : zlCase (45, 2047, [(1, false)], 216, 48, 219, 353) = true := by decide +kernel
theorem zlT_ok : ∀ e ∈ zlT, zlCase e = true := List.forall_mem_cons.mpr ⟨zlT_0, List.forall_mem_cons.mpr ⟨zlT_1, List.forall_mem_cons.mpr ⟨zlT_2, List.forall_mem_cons.mpr ⟨zlT_3, List.forall_mem_cons.mpr ⟨zlT_4, List.forall_mem_cons.mpr ⟨zlT_5, List.forall_mem_cons.mpr ⟨zlT_6, List.forall_mem_cons.mpr ⟨zlT_7, List.forall_mem_cons.mpr ⟨zlT_8, List.forall_mem_cons.mpr ⟨zlT_9, List.forall_mem_cons.mpr ⟨zlT_10, List.forall_mem_cons.mpr ⟨zlT_11, List.forall_mem_cons.mpr ⟨zlT_12, List.forall_mem_cons.mpr ⟨zlT_13, List.forall_mem_cons.mpr ⟨zlT_14, List.forall_mem_cons.mpr ⟨zlT_15, List.forall_mem_cons.mpr ⟨zlT_16, List.forall_mem_cons.mpr ⟨zlT_17, List.forall_mem_cons.mpr ⟨zlT_18, List.forall_mem_cons.mpr ⟨zlT_19, List.forall_mem_cons.mpr ⟨zlT_20, List.forall_mem_cons.mpr ⟨zlT_21, List.forall_mem_cons.mpr ⟨zlT_22, List.forall_mem_cons.mpr ⟨zlT_23, List.forall_mem_cons.mpr ⟨zlT_24, List.forall_mem_cons.mpr ⟨zlT_25, List.forall_mem_cons.mpr ⟨zlT_26, List.forall_mem_cons.mpr ⟨zlT_27, List.forall_mem_cons.mpr ⟨zlT_28, List.forall_mem_cons.mpr ⟨zlT_29, List.forall_mem_cons.mpr ⟨zlT_30, List.forall_mem_cons.mpr ⟨zlT_31, List.forall_mem_cons.mpr ⟨zlT_32, List.forall_mem_cons.mpr ⟨zlT_33, List.forall_mem_cons.mpr ⟨zlT_34, List.forall_mem_cons.mpr ⟨zlT_35, List.forall_mem_cons.mpr ⟨zlT_36, List.forall_mem_cons.mpr ⟨zlT_37, List.forall_mem_cons.mpr ⟨zlT_38, List.forall_mem_cons.mpr ⟨zlT_39, List.forall_mem_cons.mpr ⟨zlT_40, List.forall_mem_cons.mpr ⟨zlT_41, List.forall_mem_cons.mpr ⟨zlT_42, List.forall_mem_cons.mpr ⟨zlT_43, (fun _ h => by cases h)⟩⟩⟩⟩⟩⟩⟩⟩⟩⟩⟩⟩⟩⟩⟩⟩⟩⟩⟩⟩⟩⟩⟩⟩⟩⟩⟩⟩⟩⟩⟩⟩⟩⟩⟩⟩⟩⟩⟩⟩⟩⟩⟩⟩
def zlLv (O : zOm) (b i x mo out : Nat) : List (Nat × Value) := [(4, .int (nI i)), (3, .ref (zB O + out)), (2, .ref (zB O + mo)), (1, .ref (zB O + x)), (0, .ref b)]
theorem zcat_le (O : zOm) (v : Option zV) : (((v.map (zWv O)).toList).map fun w => w.category).sum ≤ 8 := by
  cases v with
  | none => exact Nat.zero_le _
  | some w =>
    show (zWv O w).category + 0 ≤ 8
    rw [zcat_wv]
    unfold zcat
    split <;> omega
section ZL2
variable {p : Program} {e : Env} {s : State} {m : MethodId} {below : List Frame} {meth : Method} {c : Code} {Q : State → Prop} {O : zOm} {b L : Nat} {xs : Nat → Int32} {H : Heap} {locs : List Loc} {nc ns pc : Nat} {ls : Array Slot} {rest : List Value} {M : zMem}
theorem zl_caseC (X : zlX p s m meth c O b L xs) {i x mo out : Nat} (hi : i + 6 ≤ L) (hl : lv_has ls 7 (zlLv O b i x mo out)) {n k1 fx k2 fm : Nat} {specs : List (Nat × Bool)} (hT : (n, pc, specs, k1, fx, k2, fm) ∈ zlT) (hcm : zlIsC n = true) (hox : zxObj (zS O) (x : Int) 0 = true) (hom : zxObj (zS O) (mo : Int) 12 = true) (hH : zlH s O M H locs) (hnc : nc ≤ 601024 ∧ ns ≤ 7293034)
    {J : zMem → Prop} (h : zR O (zFn fx) ((2, (x : Int)) :: zlArgs xs i specs) M (fun v M1 => zR O (zFn fm) ((2, (mo : Int)) :: zlArgs xs i specs) M1 (fun v' M2 => ∃ r, v = some (0, r) ∧ v' = some (0, r) ∧ J M2)))
    (kk : ∀ M2 H' locs', J M2 → zlH s O M2 H' locs' → W p (zLn O) e room_1 s m #[Value.ref b] below meth c H' locs' nc ns Q (F0 m 2072 ls [])) : W p (zLn O) e room_1 s m #[Value.ref b] below meth c H locs nc ns Q (F0 m pc ls []) := by
  have hc := zlT_ok _ hT
  unfold zlCase at hc
  rw [if_pos hcm] at hc
  unfold zlCaseC at hc
  simp only [Bool.and_eq_true, decide_eq_true_eq] at hc
  obtain ⟨⟨d0, hc⟩, hl1, hl2, hsp⟩ := hc
  unfold zlLink zlRoom at hl1 hl2
  simp only [Bool.and_eq_true, decide_eq_true_eq] at hl1 hl2
  have hq : ∀ q ∈ specs, i + q.1 < L := fun q hq => by
    have := of_decide_eq_true (List.all_eq_true.mp hsp q hq)
    omega
  have has : ∀ v ∈ zlArgs xs i specs, zok v := fun v hv => by
    obtain ⟨q, -, rfl⟩ := List.mem_map.mp hv
    exact zlArg_in xs i q
  have hna : (zlArgs xs i specs).length = specs.length := List.length_map ..
  have hx := X.1
  have hb := X.2.1
  split at hc
  next p1 e1 =>
    simp only [Bool.and_eq_true, decide_eq_true_eq] at hc
    obtain ⟨d1, d2, hc⟩ := hc
    split at hc
    next p2 e2 =>
      simp only [Bool.and_eq_true, decide_eq_true_eq] at hc
      obtain ⟨d3, d4⟩ := hc
      refine lv_aload_n (k := 1) (i := 1) hx hb d0 rfl (lv_at hl 3 rfl) ?_
      refine zl_args X hH.2.1 hl 4 0 rfl rfl specs (pc + 1) p1 _ hq e1 ?_
      have hoe : ∀ z : Nat, Value.ref (zB O + z) = zWv O (2, (z : Int)) := fun z => (zWv_nn O (Int.natCast_nonneg z)).symm
      rw [hoe]
      refine zl_call X hl1.1 hna d1 hox has hl1.2 hH hl.1 (by decide) hnc h (fun v u hK hok H' locs' hH' => ?_)
      rw [List.append_nil]
      refine lv_aload_n (k := 2) (i := 2) hx hb d2 rfl (lv_at hl 2 rfl) ?_
      refine zl_args X hH'.2.1 hl 4 0 rfl rfl specs (p1 + 3 + 1) p2 _ hq e2 ?_
      rw [hoe]
      refine zl_call X hl2.1 hna d3 hom has hl2.2 hH' hl.1 (zcat_le O v) hnc hK (fun v' u' hK' hok' H2 locs2 hH2 => ?_)
      obtain ⟨r, rfl, rfl, hJ⟩ := hK'
      refine lv_icmp_eq (tgt := 2072) hx hb d4 (by omega) (fun _ => ?_) (fun q => absurd rfl q)
      exact kk u' H2 locs2 hJ hH2
    next => cases hc
  next => cases hc
theorem zl_caseN (X : zlX p s m meth c O b L xs) {i x mo out : Nat} (hi : i + 6 ≤ L) (hl : lv_has ls 7 (zlLv O b i x mo out)) {n k1 fx k2 fm : Nat} {specs : List (Nat × Bool)} (hT : (n, pc, specs, k1, fx, k2, fm) ∈ zlT) (hcm : ¬ zlIsC n = true) (hox : zxObj (zS O) (x : Int) 0 = true) (hom : zxObj (zS O) (mo : Int) 12 = true) (hH : zlH s O M H locs) (hnc : nc ≤ 601024 ∧ ns ≤ 7293034)
    {J : zMem → Prop} (h : zR O (zFn fx) ((2, (x : Int)) :: zlArgs xs i specs) M (fun v M1 => (∃ r, v = some (0, r)) ∧ zR O (zFn fm) ((2, (mo : Int)) :: zlArgs xs i specs) M1 (fun v' M2 => (∃ r, v' = some (0, r)) ∧ J M2)))
    (kk : ∀ M2 H' locs', J M2 → zlH s O M2 H' locs' → W p (zLn O) e room_1 s m #[Value.ref b] below meth c H' locs' nc ns Q (F0 m 2072 ls [])) : W p (zLn O) e room_1 s m #[Value.ref b] below meth c H locs nc ns Q (F0 m pc ls []) := by
  have hc := zlT_ok _ hT
  unfold zlCase at hc
  rw [if_neg hcm] at hc
  unfold zlCaseN at hc
  simp only [Bool.and_eq_true, decide_eq_true_eq] at hc
  obtain ⟨⟨d0, hc⟩, hl1, hl2, hsp⟩ := hc
  unfold zlLink zlRoom at hl1 hl2
  simp only [Bool.and_eq_true, decide_eq_true_eq] at hl1 hl2
  have hq : ∀ q ∈ specs, i + q.1 < L := fun q hq => by
    have := of_decide_eq_true (List.all_eq_true.mp hsp q hq)
    omega
  have has : ∀ v ∈ zlArgs xs i specs, zok v := fun v hv => by
    obtain ⟨q, -, rfl⟩ := List.mem_map.mp hv
    exact zlArg_in xs i q
  have hna : (zlArgs xs i specs).length = specs.length := List.length_map ..
  have hx := X.1
  have hb := X.2.1
  split at hc
  next p1 e1 =>
    simp only [Bool.and_eq_true, decide_eq_true_eq] at hc
    obtain ⟨d1, d9, d2, hc⟩ := hc
    split at hc
    next p2 e2 =>
      simp only [Bool.and_eq_true, decide_eq_true_eq] at hc
      obtain ⟨d3, d8, d4⟩ := hc
      refine lv_aload_n (k := 1) (i := 1) hx hb d0 rfl (lv_at hl 3 rfl) ?_
      refine zl_args X hH.2.1 hl 4 0 rfl rfl specs (pc + 1) p1 _ hq e1 ?_
      have hoe : ∀ z : Nat, Value.ref (zB O + z) = zWv O (2, (z : Int)) := fun z => (zWv_nn O (Int.natCast_nonneg z)).symm
      rw [hoe]
      refine zl_call X hl1.1 hna d1 hox has hl1.2 hH hl.1 (by decide) hnc h (fun v u hK hok H' locs' hH' => ?_)
      obtain ⟨⟨r, rfl⟩, hK⟩ := hK
      rw [List.append_nil]
      refine lv_pop hx hb d9 rfl ?_
      refine lv_aload_n (k := 2) (i := 2) hx hb d2 rfl (lv_at hl 2 rfl) ?_
      refine zl_args X hH'.2.1 hl 4 0 rfl rfl specs (p1 + 4 + 1) p2 _ hq e2 ?_
      rw [hoe]
      refine zl_call X hl2.1 hna d3 hom has hl2.2 hH' hl.1 (by decide) hnc hK (fun v' u' hK' hok' H2 locs2 hH2 => ?_)
      obtain ⟨⟨r', rfl⟩, hJ⟩ := hK'
      refine lv_pop hx hb d8 rfl ?_
      refine lv_goto (tgt := 2072) hx hb d4 (by omega) ?_
      exact kk u' H2 locs2 hJ hH2
    next => cases hc
  next => cases hc
end ZL2
