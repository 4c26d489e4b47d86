/-! ===== the law's loop ===== -/
def zlOffs : Array Int := #[200, 273, 298, 323, 388, 401, 438, 475, 524, 537, 550, 575, 600, 613, 638, 675, 724, 776, 828, 877, 914, 963, 1000, 1013, 1026, 1091, 1180, 1269, 1330, 1391, 1464, 1525, 1550, 1587, 1600, 1625, 1662, 1687, 1724, 1749, 1786, 1823, 1860, 1909, 1958, 2007]
theorem zl_d40 : decode code 40 = .ok (.tableswitch 2032 0 45 zlOffs, 200) := by decide +kernel
theorem zl_d23 : decode code 23 = .ok (.iload 4, 2) := by decide +kernel
theorem zl_d25 : decode code 25 = .ok (.aload_n 0, 1) := by decide +kernel
theorem zl_d26 : decode code 26 = .ok (.arraylength, 1) := by decide +kernel
theorem zl_d27 : decode code 27 = .ok (.bipush 6, 2) := by decide +kernel
theorem zl_d29 : decode code 29 = .ok (.isub, 1) := by decide +kernel
theorem zl_d30 : decode code 30 = .ok (.if_icmp .gt 2048, 3) := by decide +kernel
theorem zl_d33 : decode code 33 = .ok (.aload_n 0, 1) := by decide +kernel
theorem zl_d34 : decode code 34 = .ok (.iload 4, 2) := by decide +kernel
theorem zl_d36 : decode code 36 = .ok (.iaload, 1) := by decide +kernel
theorem zl_d37 : decode code 37 = .ok (.bipush 63, 2) := by decide +kernel
theorem zl_d39 : decode code 39 = .ok (.iand, 1) := by decide +kernel
theorem zl_dE : decode code 2072 = .ok (.iinc 4 6, 3) := by decide +kernel
theorem zl_dG : decode code (2072 + 3) = .ok (.goto (-2052), 3) := by decide +kernel
theorem zl_dR : decode code 2078 = .ok (.iconst 1, 1) := by decide +kernel
theorem zl_dS : decode code (2078 + 1) = .ok (.ireturn, 1) := by decide +kernel
def zlOffOk : Bool := (List.range 46).all fun n => match zlOffs[n]? with
  | some off => (decide (n = 16) && decide (40 + off = 764)) || ((decide (n = 17) && decide (40 + off = 816)) || zlT.any (fun e => decide (e.1 = n) && decide (40 + off = ((e.2.1 : Nat) : Int))))
  | none => false
theorem zlOffOk_ok : zlOffOk = true := by decide +kernel
theorem zl_off {n : Nat} (h : n < 46) : ∃ off : Int, zlOffs[n]? = some off ∧ ((n = 16 ∧ 40 + off = 764) ∨ (n = 17 ∧ 40 + off = 816) ∨ ∃ e ∈ zlT, e.1 = n ∧ 40 + off = ((e.2.1 : Nat) : Int)) := by
  have h1 := List.all_eq_true.mp zlOffOk_ok n (List.mem_range.mpr h)
  split at h1
  next off he =>
    refine ⟨off, he, ?_⟩
    simp only [Bool.or_eq_true, Bool.and_eq_true, decide_eq_true_eq, List.any_eq_true] at h1
    rcases h1 with h1 | h1 | ⟨e, h2, h3⟩
    · exact Or.inl h1
    · exact Or.inr (Or.inl h1)
    · exact Or.inr (Or.inr ⟨e, h2, h3⟩)
  next => cases h1
theorem z63 (x : Int32) : 0 ≤ (x &&& 63).toInt ∧ (x &&& 63).toInt ≤ 63 := by
  have h1 : (x.toBitVec &&& 63#32).toNat ≤ 63 := by
    rw [BitVec.toNat_and]
    exact Nat.and_le_right
  have h2 : (x &&& 63).toInt = (x.toBitVec &&& 63#32).toInt := rfl
  rw [h2, BitVec.toInt_eq_toNat_of_lt (by omega)]
  omega
def zlOb (O : zOm) (xs : Nat → Int32) (i x mo : Nat) (M : zMem) (J : zMem → Prop) : Prop := ∀ (n pc : Nat) (specs : List (Nat × Bool)) (k1 fx k2 fm : Nat), (n, pc, specs, k1, fx, k2, fm) ∈ zlT → (xs i &&& 63).toInt = (n : Int) →
  (zlIsC n = true → zR O (zFn fx) ((2, (x : Int)) :: zlArgs xs i specs) M (fun v M1 => zR O (zFn fm) ((2, (mo : Int)) :: zlArgs xs i specs) M1 (fun v' M2 => ∃ r, v = some (0, r) ∧ v' = some (0, r) ∧ J M2))) ∧
  (¬ zlIsC n = true → zR O (zFn fx) ((2, (x : Int)) :: zlArgs xs i specs) M (fun v M1 => (∃ r, v = some (0, r)) ∧ zR O (zFn fm) ((2, (mo : Int)) :: zlArgs xs i specs) M1 (fun v' M2 => (∃ r, v' = some (0, r)) ∧ J M2)))
section ZL3
variable {p : Program} {e : Env} {s : State} {m : MethodId} {below : List Frame} {meth : Method} {c : Code} {Q : State → Prop} {O : zOm} {b L : Nat} {xs : Nat → Int32}
theorem zl_loop (X : zlX p s m meth c O b L xs) {x mo out : Nat} (hox : zxObj (zS O) (x : Int) 0 = true) (hom : zxObj (zS O) (mo : Int) 12 = true) (Inv : Nat → zMem → Prop)
    (hob : ∀ i M, i + 6 ≤ L → Inv i M → zMok (zS O) M → zlOb O xs i x mo M (Inv (i + 6))) (hother : ∀ i M, i + 6 ≤ L → Inv i M → zMok (zS O) M → 46 ≤ (xs i &&& 63).toInt → Inv (i + 6) M)
    (hsp : ∀ (n pc : Nat), (n = 16 ∧ pc = 764) ∨ (n = 17 ∧ pc = 816) → ∀ (i : Nat) (M : zMem) (H : Heap) (locs : List Loc) (nc ns : Nat) (ls : Array Slot), i + 6 ≤ L → (xs i &&& 63).toInt = (n : Int) → Inv i M → lv_has ls 7 (zlLv O b i x mo out) → zlH s O M H locs → nc + 1 ≤ 601024 → ns + 6 ≤ 7293034 →
      (∀ M2 H' locs' nc' ns' ls', Inv (i + 6) M2 → nc' ≤ nc + 1 → ns' ≤ ns + 6 → lv_has ls' 7 (zlLv O b i x mo out) → zlH s O M2 H' locs' → W p (zLn O) e room_1 s m #[Value.ref b] below meth c H' locs' nc' ns' Q (F0 m 2072 ls' [])) → W p (zLn O) e room_1 s m #[Value.ref b] below meth c H locs nc ns Q (F0 m pc ls []))
    (hend : ∀ H locs nc ns ls, va_S (zlA s) s.heap H locs → nc ≤ 601024 → ns ≤ 7293034 → W p (zLn O) e room_1 s m #[Value.ref b] below meth c H locs nc ns Q (F0 m 2078 ls [])) :
    ∀ (n i : Nat) (M : zMem) (H : Heap) (locs : List Loc) (nc ns : Nat) (ls : Array Slot), L + 6 ≤ i + n → i ≤ L + 5 → Inv i M → nc ≤ 1000 + i → ns ≤ 100000 + 6 * i → lv_has ls 7 (zlLv O b i x mo out) → zlH s O M H locs → W p (zLn O) e room_1 s m #[Value.ref b] below meth c H locs nc ns Q (F0 m 23 ls []) := by
  have hx := X.1
  have hb := X.2.1
  have hX := X.2.2.2.2.2.2.2.2.1
  have hbl := X.2.2.2.2.2.2.2.2.2.1
  have hL : L ≤ 3072 := X.2.2.2.2.2.2.2.2.2.2.2.2.2.2
  have hbA : ¬ zlA s b := fun q => absurd q (by unfold zlA; omega)
  intro n
  induction n with
  | zero =>
    intro i M H locs nc ns ls h1 h2 hI hnc hns hl hH
    omega
  | succ n ih =>
    intro i M H locs nc ns ls h1 h2 hI hnc hns hl hH
    refine lv_iload hx hb zl_d23 (lv_at hl 0 rfl) ?_
    refine lv_aload_n (k := 0) (i := 0) hx hb zl_d25 rfl (lv_at hl 4 rfl) ?_
    refine va_slen hx hb hX hbl hbA hH.2.1 zl_d26 ?_
    refine lv_bipush (v := 6) hx hb zl_d27 rfl ?_
    refine lv_isub hx hb zl_d29 ?_
    have e1 : Int32.ofNat L - 6 = zi ((L : Int) - 6) := zi_ext (by
      rw [Int32.toInt_sub]
      have : (Int32.ofNat L).toInt = (L : Int) := nI_toInt (n := L) (by omega)
      rw [this]
      show Int.bmod ((L : Int) - 6) 4294967296 = _
      rw [Int.bmod_eq_of_le] <;> omega)
    have e2 : nI i = zi (i : Int) := zi_ext (nI_toInt (by omega))
    have hlt : zi ((L : Int) - 6) < zi (i : Int) ↔ (L : Int) - 6 < (i : Int) := zi_lt ⟨by omega, by omega⟩ ⟨by omega, by omega⟩
    rw [e1, e2]
    refine lv_icmp_gt (tgt := 2078) hx hb zl_d30 (by omega) (fun q => hend H locs nc ns ls hH.2.1 (by omega) (by omega)) (fun q => ?_)
    have hi : i + 6 ≤ L := by
      have h9 : ¬ ((L : Int) - 6 < (i : Int)) := fun z => q (hlt.mpr z)
      omega
    refine lv_aload_n (k := 0) (i := 0) hx hb zl_d33 rfl (lv_at hl 4 rfl) ?_
    refine lv_iload hx hb zl_d34 (lv_at hl 0 rfl) ?_
    obtain ⟨a1, a2⟩ := znat_in (i := i) (by omega)
    refine va_sld hx hb hX hbl hbA hH.2.1 (fun q => q.elim a2 (by rw [a1]; omega)) zl_d36 ?_
    rw [a1]
    refine lv_bipush (v := 63) hx hb zl_d37 rfl ?_
    refine lv_iand hx hb zl_d39 ?_
    have fin : ∀ M2 H' locs' nc' ns' ls', Inv (i + 6) M2 → nc' ≤ nc + 1 → ns' ≤ ns + 6 → lv_has ls' 7 (zlLv O b i x mo out) → zlH s O M2 H' locs' → W p (zLn O) e room_1 s m #[Value.ref b] below meth c H' locs' nc' ns' Q (F0 m 2072 ls' []) := by
      intro M2 H' locs' nc' ns' ls' hI2 hc2 hs2 hl2 hH2
      refine lv_iinc (k := 0) (n := 6) (v := nI (i + 6)) (lv' := zlLv O b (i + 6) x mo out) hx hb zl_dE hl2 rfl (by unfold nI; rw [Int32.ofNat_add]; rfl) (by decide) rfl (fun ls3 hl3 => ?_)
      refine lv_goto (tgt := 23) hx hb zl_dG (by omega) ?_
      exact ih (i + 6) M2 H' locs' nc' ns' ls3 (by omega) (by omega) hI2 (by omega) (by omega) hl3 hH2
    obtain ⟨b1, b2⟩ := z63 (xs i)
    by_cases h45 : 45 < (xs i &&& 63).toInt
    · refine lv_tableOut (tgt := 2072) hx hb zl_d40 (Or.inr h45) (by omega) ?_
      exact fin M H locs nc ns ls (hother i M hi hI hH.2.2 (by omega)) (by omega) (by omega) hl hH
    · obtain ⟨k, hk⟩ : ∃ k : Nat, (xs i &&& 63).toInt = (k : Int) := ⟨(xs i &&& 63).toInt.toNat, by omega⟩
      obtain ⟨off, ho, hcase⟩ := zl_off (n := k) (by omega)
      have ho' : zlOffs[((xs i &&& 63).toInt - 0).toNat]? = some off := by
        rw [hk, Int.sub_zero]
        exact ho
      rcases hcase with ⟨c1, c2⟩ | ⟨c1, c2⟩ | ⟨en, hT, c1, c2⟩
      · refine lv_tableIn (tgt := 764) hx hb zl_d40 (by omega) (by omega) ho' (by omega) ?_
        exact hsp 16 764 (Or.inl ⟨rfl, rfl⟩) i M H locs nc ns ls hi (by rw [hk, c1]) hI hl hH (by omega) (by omega) fin
      · refine lv_tableIn (tgt := 816) hx hb zl_d40 (by omega) (by omega) ho' (by omega) ?_
        exact hsp 17 816 (Or.inr ⟨rfl, rfl⟩) i M H locs nc ns ls hi (by rw [hk, c1]) hI hl hH (by omega) (by omega) fin
      · obtain ⟨n0, pc0, specs, k1, fx, k2, fm⟩ := en
        dsimp only at c1 c2
        refine lv_tableIn (tgt := pc0) hx hb zl_d40 (by omega) (by omega) ho' (by omega) ?_
        obtain ⟨o1, o2⟩ := hob i M hi hI hH.2.2 n0 pc0 specs k1 fx k2 fm hT (by rw [hk, c1])
        by_cases hcm : zlIsC n0 = true
        · exact zl_caseC X hi hl hT hcm hox hom hH ⟨by omega, by omega⟩ (o1 hcm) (fun M2 H' locs' hJ hH' => fin M2 H' locs' nc ns ls hJ (by omega) (by omega) hl hH')
        · exact zl_caseN X hi hl hT hcm hox hom hH ⟨by omega, by omega⟩ (o2 hcm) (fun M2 H' locs' hJ hH' => fin M2 H' locs' nc ns ls hJ (by omega) (by omega) hl hH')
end ZL3
