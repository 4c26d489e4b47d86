/-! ===== the law's special cases: all their roads; the walk ===== -/
def zlSpOkN (b0 k1 k2 : Nat) : Bool := decide (decode code b0 = .ok (.aload_n 1, 1)) && (decide (zlChk (b0 + 1) [(1, false), (2, false), (3, false)] = some (b0 + 19)) && (decide (decode code (b0 + 19) = .ok (.aload_n 3, 1)) && (decide (decode code (b0 + 20) = .ok (.invokestatic k1, 3)) && (decide (decode code (b0 + 23) = .ok (.istore 5, 2)) && (decide (decode code (b0 + 25) = .ok (.aload_n 2, 1)) && (decide (zlChk (b0 + 26) [(1, false), (2, false), (3, false)] = some (b0 + 44)) && (decide (decode code (b0 + 44) = .ok (.invokevirtual k2, 3)) && (decide (decode code (b0 + 47) = .ok (.istore 6, 2)) && decide (decode code (b0 + 49) = .ok (.goto (2072 - ((b0 + 49 : Nat) : Int)), 3))))))))))
theorem zlSp16n : zlSpOkN 764 95 100 = true := by decide +kernel
theorem zlSp17n : zlSpOkN 816 101 103 = true := by decide +kernel
section ZS2
variable {p : Program} {e : Env} {s : State} {m : MethodId} {below : List Frame} {meth : Method} {c : Code} {Q : State → Prop} {O : zOm} {b L : Nat} {xs : Nat → Int32} {H : Heap} {locs : List Loc} {nc ns : Nat} {ls : Array Slot} {M : zMem}
theorem zl_specialN (X : zlX p s m meth c O b L xs) (hT : zThr (zlA s) s s.heap) (hC : zCat s) (hD : zNc s) {b0 k1 k2 fm : Nat} {f : zLf} (hsp : zlSpOkN b0 k1 k2 = true) (hst : zlStk k1 f) (hlk2 : zlLink k2 fm 12 3 = true) (hb0 : b0 ≤ 2000)
    {i x mo out : Nat} (hi : i + 6 ≤ L) (hl : lv_has ls 7 (zlLv O b i x mo out)) (hom : zxObj (zS O) (mo : Int) 12 = true) (hH : zlH s O M H locs) (hnc : nc + 1 ≤ 601024 ∧ ns + 6 ≤ 7293034) {J : zMem → Prop}
    (h : zLM2 O f ((2, (x : Int)) :: (zlArgs xs i zl3 ++ [(2, (out : Int))])) M (fun v u => ∃ kc : Int, (kc = 0 ∨ kc = 1 ∨ kc = 2) ∧ v = some (0, kc) ∧ zR O (zFn fm) ((2, (mo : Int)) :: zlArgs xs i zl3) u (fun v2 u2 => (∃ r2, v2 = some (0, r2)) ∧ J u2)))
    (kk : ∀ M2 H' locs' ls', J M2 → lv_has ls' 7 (zlLv O b i x mo out) → zlH s O M2 H' locs' → W p (zLn O) e room_1 s m #[Value.ref b] below meth c H' locs' (nc + 1) (ns + 6) Q (F0 m 2072 ls' [])) : W p (zLn O) e room_1 s m #[Value.ref b] below meth c H locs nc ns Q (F0 m b0 ls []) := by
  unfold zlSpOkN at hsp
  simp only [Bool.and_eq_true, decide_eq_true_eq] at hsp
  obtain ⟨d0, c1, d19, d20, d23, d25, c2, d44, d47, d49⟩ := hsp
  unfold zlLink zlRoom at hlk2
  simp only [Bool.and_eq_true, decide_eq_true_eq] at hlk2
  have hx := X.1
  have hb := X.2.1
  have hml := X.2.2.1
  have hown := X.2.2.2.2.1
  have hts := X.2.2.2.2.2.1
  have hK := X.2.2.2.2.2.2.1
  have hN := X.2.2.2.2.2.2.2.1
  have hB := X.2.2.2.2.2.2.2.2.2.2.1
  have h0 := X.2.2.2.2.2.2.2.2.2.2.2.2.2.1
  have hz2 := hH.size h0
  have hq : ∀ q ∈ zl3, i + q.1 < L := fun q hq => by
    simp only [zl3, List.mem_cons, List.not_mem_nil, or_false] at hq
    rcases hq with rfl | rfl | rfl <;> (dsimp only; omega)
  have has : ∀ v ∈ zlArgs xs i zl3, zok v := fun v hv => by
    obtain ⟨q, -, rfl⟩ := List.mem_map.mp hv
    exact zlArg_in xs i q
  refine lv_aload_n (k := 1) (i := 1) hx hb d0 rfl (lv_at hl 3 rfl) ?_
  refine zl_args X hH.2.1 hl 4 0 rfl rfl zl3 (b0 + 1) (b0 + 19) _ hq c1 ?_
  refine lv_aload_n (k := 3) (i := 3) hx hb d19 rfl (lv_at hl 1 rfl) ?_
  have hasx : ∀ v ∈ (2, (x : Int)) :: (zlArgs xs i zl3 ++ [(2, (out : Int))]), zok v := fun v hv => by
    rcases List.mem_cons.mp hv with rfl | hv
    · show (-2 : Int) ≤ (x : Int); omega
    · rcases List.mem_append.mp hv with hv | hv
      · exact has v hv
      · cases List.mem_singleton.mp hv
        show (-2 : Int) ≤ (out : Int); omega
  have hMet := h hasx hH.2.2 H.size hz2
  obtain ⟨w1, w2, w3, w4, w5, w6, w7⟩ := hst
  have hG : GoodIn zWS (va_wsS "ToldNetLaw" k1 f.1 (zLWs f)) := by
    intro w hw
    have hw' : w ∈ zWS := by
      rcases List.mem_append.mp hw with h1 | h1
      · simp only [List.mem_cons, List.not_mem_nil, or_false] at h1
        rcases h1 with rfl | rfl | rfl
        · exact w1
        · exact w2
        · exact w3
      · rcases List.mem_cons.mp h1 with rfl | h1
        · exact w7
        · exact h1
    exact ⟨hw', good_of_word (List.mem_filter.mp hw').2⟩
  have cw := vx_cwSW (R := room_1) (rm := zLRm) (mc := 1) (ms := 6) (ws' := zWS) (hh := zlHh) (bytes := f.2.1) (maxL := 6) (ret := some .int) 5 hts hG rfl rfl rfl ⟨w4, w5, w6⟩ ⟨by decide, by decide⟩
  have hA : ∀ q, zA O H.size q → zlA s q := fun q hq => hq.elim (fun z => by unfold zlA; omega) (fun z => by unfold zlA; have := hH.2.1.1; omega)
  have hPS : PreS s H (zPcM O M H.size ((2, (x : Int)) :: (zlArgs xs i zl3 ++ [(2, (out : Int))]))) (((2, (x : Int)) :: (zlArgs xs i zl3 ++ [(2, (out : Int))])).map (zWv O)) :=
    ⟨zPcM_blind _ _ _ _, fun U hU hW => ⟨rfl, by rw [hU], by rw [hU]; exact hH.1, va_K.moved hW.alike hK, fun q hq => va_Nw.warmM hW (hN q hq), by rw [hU]; exact hT.to hW hH.2.1.2.1 hA, hC.warm hW, va_Nc.moved hW.alike hD⟩⟩
  have hstk : Value.ref (zB O + out) :: (((zlArgs xs i zl3).map (zWv O)).reverse ++ [Value.ref (zB O + x)]) = (((2, (x : Int)) :: (zlArgs xs i zl3 ++ [(2, (out : Int))])).map (zWv O)).reverse ++ [] := by
    rw [List.map_cons, List.map_append, List.map_cons, List.map_nil, List.reverse_cons, List.reverse_append, zWv_nn O (Int.natCast_nonneg _), zWv_nn O (Int.natCast_nonneg _), List.append_nil]
    rfl
  rw [hstk]
  have hr := vx_runSX (As := ((2, (x : Int)) :: (zlArgs xs i zl3 ++ [(2, (out : Int))])).map (zWv O)) (rest := []) (locs := locs) (cells := nc) (slots := ns) (nL := 7) (g := F0 m (b0 + 20) ls ((((2, (x : Int)) :: (zlArgs xs i zl3 ++ [(2, (out : Int))])).map (zWv O)).reverse ++ [])) (p := p) (e := e) (below := below) (meth := meth) ⟨hx, hb, hml, hown, hts⟩ hMet cw hPS rfl rfl hl.1 rfl (lv_room (by decide)) d20 ⟨hnc.1, hnc.2⟩
  have after : ∀ (kc : Int) (u : zMem) (H' : Heap) (locs' : List Loc), (kc = 0 ∨ kc = 1 ∨ kc = 2) → zlH s O u H' locs' → zR O (zFn fm) ((2, (mo : Int)) :: zlArgs xs i zl3) u (fun v2 u2 => (∃ r2, v2 = some (0, r2)) ∧ J u2) → W p (zLn O) e room_1 s m #[Value.ref b] below meth c H' locs' (nc + 1) (ns + 6) Q (F0 m (b0 + 23) ls [.int (zi kc)]) := by
    intro kc u H' locs' hkc hH' hR
    have hoe : ∀ z : Nat, Value.ref (zB O + z) = zWv O (2, (z : Int)) := fun z => (zWv_nn O (Int.natCast_nonneg z)).symm
    refine lv_istore (lv' := (5, .int (zi kc)) :: zlLv O b i x mo out) hx hb d23 hl (by decide) rfl (fun ls2 hl2 => ?_)
    refine lv_aload_n (k := 2) (i := 2) hx hb d25 rfl (lv_at hl2 3 rfl) ?_
    refine zl_args X hH'.2.1 hl2 5 1 rfl rfl zl3 (b0 + 26) (b0 + 44) _ hq c2 ?_
    rw [hoe]
    refine zl_call X hlk2.1 (List.length_map ..) d44 hom has hlk2.2 hH' hl2.1 (by decide) ⟨hnc.1, hnc.2⟩ hR (fun v2 u2 hv2 hok2 H2 locs2 hH2 => ?_)
    obtain ⟨⟨r2, rfl⟩, hJ⟩ := hv2
    refine lv_istore (lv' := (6, .int (zi r2)) :: (5, .int (zi kc)) :: zlLv O b i x mo out) hx hb d47 hl2 (by decide) rfl (fun ls3 hl3 => ?_)
    refine lv_goto (tgt := 2072) hx hb d49 (by omega) ?_
    exact kk u2 H2 locs2 ls3 hJ (lv_sub hl3 [2, 3, 4, 5, 6] rfl) hH2
  intro T hTh XT
  rcases hr T hTh XT with ⟨v, st₀, t, T', Lc, g0, X', hLc, e1, e2, ⟨⟨r, u, hv, hok, hMu, ⟨kc, hkc, hr1, hR⟩, hPu⟩, hz⟩, st⟩ | ⟨q, st₀, t, T', Lc, E, ce, g0, X', hLc, e1, e2, hF, -⟩
  · subst hr1
    cases hv
    obtain ⟨hz1, hk1⟩ := hz
    rw [g0] at hz1 hk1
    have hS' : va_S (zlA s) s.heap T'.heap (locs ++ Lc) := ⟨Nat.le_trans hH.2.1.1 (by rw [e1]; exact hz1), fun q h1 h2 => by rw [e1, hk1 q (Nat.lt_of_lt_of_le h1 hH.2.1.1) (fun z => h2 (hA q z))]; exact hH.2.1.2.1 q h1 h2, fun q hq => by
        rcases List.mem_append.mp hq with h | h
        · exact hH.2.1.2.2 q h
        · exact hA _ (hLc q h)⟩
    obtain ⟨t2, a1, b1⟩ := after kc u T'.heap (locs ++ Lc) hkc ⟨by rw [e1]; exact hPu, hS', hMu⟩ hR T' rfl X'
    exact ⟨t2, st t2 a1, b1⟩
  · exact hF.elim
end ZS2
/-- of word and except: what is owed where their answers are compared, where not -/
def zObN (O : zOm) (f : zLf) (fm : Nat) (as : List zV) (M : zMem) (J : zMem → Prop) : Prop := zLM2 O f ((2, ((0 : Nat) : Int)) :: (as ++ [(2, ((311 : Nat) : Int))])) M (fun v u => ∃ kc : Int, (kc = 0 ∨ kc = 1 ∨ kc = 2) ∧ v = some (0, kc) ∧ zR O (zFn fm) ((2, ((250 : Nat) : Int)) :: as) u (fun v2 u2 => (∃ r2, v2 = some (0, r2)) ∧ J u2))
/-- what the law's walk owes of the class and the reference, at a script's place i, over contents M -/
def zObl2 (O : zOm) (xs : Nat → Int32) (i : Nat) (M : zMem) (J : zMem → Prop) : Prop :=
  zlOb O xs i 0 250 M J ∧
  ((xs i &&& 63).toInt = 16 → zObN O zLw 258 (zlArgs xs i zl3) M J) ∧
  ((xs i &&& 63).toInt = 17 → zObN O zLe 261 (zlArgs xs i zl3) M J) ∧
  (46 ≤ (xs i &&& 63).toInt → J M)
theorem zlk_16 : zlLink 100 258 12 3 = true := by decide +kernel
theorem zlk_17 : zlLink 103 261 12 3 = true := by decide +kernel
theorem zl_whole2 {p : Program} {l : Launch} {e : Env} {s : State} {m : MethodId} {below : List Frame} {meth : Method} {c : Code} {Q : State → Prop} {b L : Nat} {xs : Nat → Int32} (hL : L ≤ 3072) (hx : p.tables.exec = Jvm.exec) (hb : c.code = code) (hr : meth.sig.returnType = ret) (hml : c.maxLocals = 7) (hown : s.vm.findClass "ToldNetLaw" = some m.cls) (hts : ∀ w ∈ lw_tbl, w.before #[Value.ref b] s = true) (hX : va_X b L xs s s.heap) (hbl : b < s.heap.size) (hgv : (Jvm.Cond.and given_1 narrow_1).before #[Value.ref b] s = true)
    (Inv : Nat → zMem → Prop) (h0 : Inv 0 (zmM zC0)) (hob : ∀ O : zOm, zLn O = l → zWld O → zS O = zmS zC0 → ∀ i M, i + 6 ≤ L → Inv i M → zMok (zS O) M → zObl2 O xs i M (Inv (i + 6)))
    (hend : ∀ H locs nc ns ls, va_S (zlA s) s.heap H locs → nc ≤ 601024 → ns ≤ 7293034 → W p l e room_1 s m #[Value.ref b] below meth c H locs nc ns Q (F0 m 2078 ls [])) :
    W p l e room_1 s m #[Value.ref b] below meth c s.heap [] 0 0 Q (entryFrame m ([Value.ref b] : List Value).toArray 7) := by
  refine zl_begin hL hx hb hr hml hown hts hX hbl hgv (fun O hLn X hS H locs ls hl hH => ?_)
  subst hLn
  have hO : zWld O := X.2.2.2.2.2.2.2.2.2.2.2.2.1
  have hT : zThr (zlA s) s s.heap := zThr_start hts hgv
  have hC : zCat s := zCat_start hts
  have hD : zNc s := va_Nc.of (flat_of_before _ hgv _ (by decide +kernel))
  have hoa : zArr (zS O) ((311 : Nat) : Int) .long 1 := zMA (a := 311) (ty := .long) (n := 1) hS rfl
  have hox : zxObj (zS O) ((0 : Nat) : Int) 0 = true := by rw [hS]; exact zC0_x
  have hom : zxObj (zS O) ((250 : Nat) : Int) 12 = true := by rw [hS]; exact zC0_m
  refine zl_loop X hox hom Inv (fun i M hi hI hM => (hob O rfl hO hS i M hi hI hM).1) (fun i M hi hI hM h46 => (hob O rfl hO hS i M hi hI hM).2.2.2 h46) ?_ hend (L + 6) 0 (zmM zC0) H locs 312 38469 ls (by omega) (by omega) h0 (by decide) (by decide) hl hH
  intro n pc hn i M H2 locs2 nc ns ls2 hi hc hI hl2 hH2 hnc hns kk
  have ho := hob O rfl hO hS i M hi hI hH2.2.2
  rcases hn with ⟨rfl, rfl⟩ | ⟨rfl, rfl⟩
  · exact zl_specialN X hT hC hD zlSp16n zlStk_w zlk_16 (by decide) hi hl2 hom hH2 ⟨hnc, hns⟩ (ho.2.1 hc) (fun M2 H' locs' ls' hJ hl' hH' => kk M2 H' locs' (nc + 1) (ns + 6) ls' hJ (Nat.le_refl _) (Nat.le_refl _) hl' hH')
  · exact zl_specialN X hT hC hD zlSp17n zlStk_e zlk_17 (by decide) hi hl2 hom hH2 ⟨hnc, hns⟩ (ho.2.2.1 hc) (fun M2 H' locs' ls' hJ hl' hH' => kk M2 H' locs' (nc + 1) (ns + 6) ls' hJ (Nat.le_refl _) (Nat.le_refl _) hl' hH')
