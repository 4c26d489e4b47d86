/-! ===== a case of the law's switch; its loop ===== -/
abbrev zlE : Type := Nat × Nat × List (Nat × Bool) × Nat × Nat × Nat × Nat
def zlRoom (f : Nat) : Bool := decide ((zFn f).2.2.2.2.1 + 1 ≤ 10 ∧ 8 + ((zFn f).2.2.1 + 11) + (zFn f).2.2.2.2.2 ≤ 404)
def zlLink (k f ci na : Nat) : Bool := decide (zpmF zpm_Law k = some (0, f, ci, na)) && zlRoom f
/-- cases whose two answers are compared; the others are only made -/
def zlCm : List Nat := [38]
def zlIsC (n : Nat) : Bool := zlCm.contains n
def zlCaseC (e : zlE) : Bool := match e with
  | (_, pc, specs, k1, fx, k2, fm) => zqT code pc (.aload_n 1) 1 && (match zlChk (pc + 1) specs with
    | some p1 => zqT code p1 (.invokevirtual k1) 3 && (zqT code (p1 + 3) (.aload_n 2) 1 && (match zlChk (p1 + 4) specs with
      | some p2 => zqT code p2 (.invokevirtual k2) 3 && zqT code (p2 + 3) (.if_icmp .eq (2072 - ((p2 + 3 : Nat) : Int))) 3
      | none => false))
    | none => false) && (zlLink k1 fx 0 specs.length && (zlLink k2 fm 12 specs.length && specs.all (fun q => decide (q.1 ≤ 5))))
def zlCaseN (e : zlE) : Bool := match e with
  | (_, pc, specs, k1, fx, k2, fm) => zqT code pc (.aload_n 1) 1 && (match zlChk (pc + 1) specs with
    | some p1 => zqT code p1 (.invokevirtual k1) 3 && (zqT code (p1 + 3) .pop 1 && (zqT code (p1 + 4) (.aload_n 2) 1 && (match zlChk (p1 + 5) specs with
      | some p2 => zqT code p2 (.invokevirtual k2) 3 && (zqT code (p2 + 3) .pop 1 && zqT code (p2 + 4) (.goto (2072 - ((p2 + 4 : Nat) : Int))) 3)
      | none => false)))
    | none => false) && (zlLink k1 fx 0 specs.length && (zlLink k2 fm 12 specs.length && specs.all (fun q => decide (q.1 ≤ 5))))
def zlCase (e : zlE) : Bool := if zlIsC e.1 = true then zlCaseC e else zlCaseN e
theorem zlT_all : zlT.all zlCase = true := by decide +kernel
theorem zlT_ok : ∀ e ∈ zlT, zlCase e = true := fun e h => List.all_eq_true.mp zlT_all e h
def zlLv (O : zOm) (b i x mo out : Nat) : List (Nat × Value) := [(4, .int (nI i)), (3, .ref (zB O + out)), (2, .ref (zB O + mo)), (1, .ref (zB O + x)), (0, .ref b)]
theorem zcat_le (O : zOm) (v : Option zV) : (((v.map (zWv O)).toList).map fun w => w.category).sum ≤ 8 := by
  cases v with
  | none => exact Nat.zero_le _
  | some w =>
    show (zWv O w).category + 0 ≤ 8
    rw [zcat_wv]
    unfold zcat
    split <;> omega
section ZL2
variable {p : Program} {e : Env} {s : State} {m : MethodId} {below : List Frame} {meth : Method} {c : Code} {Q : State → Prop} {O : zOm} {b L : Nat} {xs : Nat → Int32} {H : Heap} {locs : List Loc} {nc ns pc : Nat} {ls : Array Slot} {rest : List Value} {M : zMem}
theorem zl_caseC (X : zlX p s m meth c O b L xs) {i x mo out : Nat} (hi : i + 6 ≤ L) (hl : lv_has ls 7 (zlLv O b i x mo out)) {n k1 fx k2 fm : Nat} {specs : List (Nat × Bool)} (hT : (n, pc, specs, k1, fx, k2, fm) ∈ zlT) (hcm : zlIsC n = true) (hox : zxObj (zS O) (x : Int) 0 = true) (hom : zxObj (zS O) (mo : Int) 12 = true) (hH : zlH s O M H locs) (hnc : nc ≤ 601024 ∧ ns ≤ 7293034)
    {J : zMem → Prop} (h : zR O (zFn fx) ((2, (x : Int)) :: zlArgs xs i specs) M (fun v M1 => zR O (zFn fm) ((2, (mo : Int)) :: zlArgs xs i specs) M1 (fun v' M2 => ∃ r, v = some (0, r) ∧ v' = some (0, r) ∧ J M2)))
    (kk : ∀ M2 H' locs', J M2 → zlH s O M2 H' locs' → W p (zLn O) e room_1 s m #[Value.ref b] below meth c H' locs' nc ns Q (F0 m 2072 ls [])) : W p (zLn O) e room_1 s m #[Value.ref b] below meth c H locs nc ns Q (F0 m pc ls []) := by
  have hc := zlT_ok _ hT
  unfold zlCase at hc
  rw [if_pos hcm] at hc
  unfold zlCaseC at hc
  simp only [Bool.and_eq_true, decide_eq_true_eq] at hc
  obtain ⟨⟨d0, hc⟩, hl1, hl2, hsp⟩ := hc
  have d0 := zqT_d d0
  unfold zlLink zlRoom at hl1 hl2
  simp only [Bool.and_eq_true, decide_eq_true_eq] at hl1 hl2
  have hq : ∀ q ∈ specs, i + q.1 < L := fun q hq => by
    have := of_decide_eq_true (List.all_eq_true.mp hsp q hq)
    omega
  have has : ∀ v ∈ zlArgs xs i specs, zok v := fun v hv => by
    obtain ⟨q, -, rfl⟩ := List.mem_map.mp hv
    exact zlArg_in xs i q
  have hna : (zlArgs xs i specs).length = specs.length := List.length_map ..
  have hx := X.1
  have hb := X.2.1
  split at hc
  next p1 e1 =>
    simp only [Bool.and_eq_true, decide_eq_true_eq] at hc
    obtain ⟨d1, d2, hc⟩ := hc
    have d1 := zqT_d d1
    have d2 := zqT_d d2
    split at hc
    next p2 e2 =>
      simp only [Bool.and_eq_true, decide_eq_true_eq] at hc
      obtain ⟨d3, d4⟩ := hc
      have d3 := zqT_d d3
      have d4 := zqT_d d4
      refine lv_aload_n (k := 1) (i := 1) hx hb d0 rfl (lv_at hl 3 rfl) ?_
      refine zl_args X hH.2.1 hl 4 0 rfl rfl specs (pc + 1) p1 _ hq e1 ?_
      have hoe : ∀ z : Nat, Value.ref (zB O + z) = zWv O (2, (z : Int)) := fun z => (zWv_nn O (Int.natCast_nonneg z)).symm
      rw [hoe]
      refine zl_call X hl1.1 hna d1 hox has hl1.2 hH hl.1 (by decide) hnc h (fun v u hK hok H' locs' hH' => ?_)
      rw [List.append_nil]
      refine lv_aload_n (k := 2) (i := 2) hx hb d2 rfl (lv_at hl 2 rfl) ?_
      refine zl_args X hH'.2.1 hl 4 0 rfl rfl specs (p1 + 3 + 1) p2 _ hq e2 ?_
      rw [hoe]
      refine zl_call X hl2.1 hna d3 hom has hl2.2 hH' hl.1 (zcat_le O v) hnc hK (fun v' u' hK' hok' H2 locs2 hH2 => ?_)
      obtain ⟨r, rfl, rfl, hJ⟩ := hK'
      refine lv_icmp_eq (tgt := 2072) hx hb d4 (by omega) (fun _ => ?_) (fun q => absurd rfl q)
      exact kk u' H2 locs2 hJ hH2
    next => cases hc
  next => cases hc
theorem zl_caseN (X : zlX p s m meth c O b L xs) {i x mo out : Nat} (hi : i + 6 ≤ L) (hl : lv_has ls 7 (zlLv O b i x mo out)) {n k1 fx k2 fm : Nat} {specs : List (Nat × Bool)} (hT : (n, pc, specs, k1, fx, k2, fm) ∈ zlT) (hcm : ¬ zlIsC n = true) (hox : zxObj (zS O) (x : Int) 0 = true) (hom : zxObj (zS O) (mo : Int) 12 = true) (hH : zlH s O M H locs) (hnc : nc ≤ 601024 ∧ ns ≤ 7293034)
    {J : zMem → Prop} (h : zR O (zFn fx) ((2, (x : Int)) :: zlArgs xs i specs) M (fun v M1 => (∃ r, v = some (0, r)) ∧ zR O (zFn fm) ((2, (mo : Int)) :: zlArgs xs i specs) M1 (fun v' M2 => (∃ r, v' = some (0, r)) ∧ J M2)))
    (kk : ∀ M2 H' locs', J M2 → zlH s O M2 H' locs' → W p (zLn O) e room_1 s m #[Value.ref b] below meth c H' locs' nc ns Q (F0 m 2072 ls [])) : W p (zLn O) e room_1 s m #[Value.ref b] below meth c H locs nc ns Q (F0 m pc ls []) := by
  have hc := zlT_ok _ hT
  unfold zlCase at hc
  rw [if_neg hcm] at hc
  unfold zlCaseN at hc
  simp only [Bool.and_eq_true, decide_eq_true_eq] at hc
  obtain ⟨⟨d0, hc⟩, hl1, hl2, hsp⟩ := hc
  have d0 := zqT_d d0
  unfold zlLink zlRoom at hl1 hl2
  simp only [Bool.and_eq_true, decide_eq_true_eq] at hl1 hl2
  have hq : ∀ q ∈ specs, i + q.1 < L := fun q hq => by
    have := of_decide_eq_true (List.all_eq_true.mp hsp q hq)
    omega
  have has : ∀ v ∈ zlArgs xs i specs, zok v := fun v hv => by
    obtain ⟨q, -, rfl⟩ := List.mem_map.mp hv
    exact zlArg_in xs i q
  have hna : (zlArgs xs i specs).length = specs.length := List.length_map ..
  have hx := X.1
  have hb := X.2.1
  split at hc
  next p1 e1 =>
    simp only [Bool.and_eq_true, decide_eq_true_eq] at hc
    obtain ⟨d1, d9, d2, hc⟩ := hc
    have d1 := zqT_d d1
    have d9 := zqT_d d9
    have d2 := zqT_d d2
    split at hc
    next p2 e2 =>
      simp only [Bool.and_eq_true, decide_eq_true_eq] at hc
      obtain ⟨d3, d8, d4⟩ := hc
      have d3 := zqT_d d3
      have d8 := zqT_d d8
      have d4 := zqT_d d4
      refine lv_aload_n (k := 1) (i := 1) hx hb d0 rfl (lv_at hl 3 rfl) ?_
      refine zl_args X hH.2.1 hl 4 0 rfl rfl specs (pc + 1) p1 _ hq e1 ?_
      have hoe : ∀ z : Nat, Value.ref (zB O + z) = zWv O (2, (z : Int)) := fun z => (zWv_nn O (Int.natCast_nonneg z)).symm
      rw [hoe]
      refine zl_call X hl1.1 hna d1 hox has hl1.2 hH hl.1 (by decide) hnc h (fun v u hK hok H' locs' hH' => ?_)
      obtain ⟨⟨r, rfl⟩, hK⟩ := hK
      rw [List.append_nil]
      refine lv_pop hx hb d9 rfl ?_
      refine lv_aload_n (k := 2) (i := 2) hx hb d2 rfl (lv_at hl 2 rfl) ?_
      refine zl_args X hH'.2.1 hl 4 0 rfl rfl specs (p1 + 4 + 1) p2 _ hq e2 ?_
      rw [hoe]
      refine zl_call X hl2.1 hna d3 hom has hl2.2 hH' hl.1 (by decide) hnc hK (fun v' u' hK' hok' H2 locs2 hH2 => ?_)
      obtain ⟨⟨r', rfl⟩, hJ⟩ := hK'
      refine lv_pop hx hb d8 rfl ?_
      refine lv_goto (tgt := 2072) hx hb d4 (by omega) ?_
      exact kk u' H2 locs2 hJ hH2
    next => cases hc
  next => cases hc
end ZL2
