section
-- part 92.lword.lean.txt
/-! ===== the law's own word and except, where the class throws ===== -/
def zCat (U : State) : Prop := va_Nw (.castable "java/util/NoSuchElementException" "java/util/NoSuchElementException") U ∧ va_Nw (.castable "java/lang/IllegalArgumentException" "java/lang/IllegalArgumentException") U
theorem zCat.warm {s U : State} (hW : s.WarmedH U.vm) (h : zCat s) : zCat U := ⟨va_Nw.warmC hW h.1, va_Nw.warmC hW h.2⟩
theorem zCat.same {s U : State} (hv : U.vm = s.vm) (h : zCat s) : zCat U := ⟨va_Nw.same rfl hv.symm h.1, va_Nw.same rfl hv.symm h.2⟩
abbrev zlHh : List (Nat × Nat × Nat × Nat) := [(0, 12, 15, 13), (0, 12, 19, 15)]
def zPcL (O : zOm) (M : zMem) (sz : Nat) (as : List zV) : Array Value → State → Prop := va_Pc (as.map (zWv O)) (fun U => U.heap.size = sz ∧ va_P (zD O) (zcl O) (zWorld O M) U.heap ∧ va_K (zD O) (zcl O) (zTys O) U ∧ zNw U ∧ zThr (zA O sz) U U.heap ∧ zCat U)
/-- a law's helper: its name, its code, the place of the call in the law's pool, the method called -/
abbrev zLf : Type := MethodName × ByteArray × Nat × Nat
def zLw : zLf := (⟨"ToldNetLaw", "word", "(LToldNet;III[J)I"⟩, method_3_code, 7, 19)
def zLe : zLf := (⟨"ToldNetLaw", "except", "(LToldNet;III[J)I"⟩, method_4_code, 17, 20)
def zLWs (f : zLf) : List Jvm.Cond := Jvm.Cond.codeWith f.1 f.2.1 6 (some .int) zlHh :: zWS
def zLRm : Room := { frames := 8, cells := 1, slots := 6, locals := 131 }
theorem zLw_in : Jvm.Cond.codeWith zLw.1 zLw.2.1 6 (some .int) zlHh ∈ zWS := zInW_mem (pl := 1574) (by decide +kernel)
theorem zLe_in : Jvm.Cond.codeWith zLe.1 zLe.2.1 6 (some .int) zlHh ∈ zWS := zInW_mem (pl := 1668) (by decide +kernel)
theorem zl_c13 : Jvm.Cond.classLink "ToldNetLaw" 13 "java/util/NoSuchElementException" ∈ zWS := zInW_mem (pl := 1575) (by decide +kernel)
def zLfOk (f : zLf) : Bool := decide (decode f.2.1 0 = .ok (.aload 4, 2)) && (decide (decode f.2.1 2 = .ok (.iconst 0, 1)) && (decide (decode f.2.1 3 = .ok (.aload_n 0, 1)) && (decide (decode f.2.1 4 = .ok (.iload_n 1, 1)) && (decide (decode f.2.1 5 = .ok (.iload_n 2, 1)) && (decide (decode f.2.1 6 = .ok (.iload_n 3, 1)) && (decide (decode f.2.1 7 = .ok (.invokevirtual f.2.2.1, 3)) && (decide (decode f.2.1 15 = .ok (.astore 5, 2)) && (decide (decode f.2.1 17 = .ok (.iconst 1, 1)) && decide (decode f.2.1 18 = .ok (.ireturn, 1))))))))))
theorem zLw_ok : zLfOk zLw = true := by decide +kernel
theorem zLe_ok : zLfOk zLe = true := by decide +kernel
def zLkOk (f : zLf) : Prop := Jvm.Cond.codeWith f.1 f.2.1 6 (some .int) zlHh ∈ zWS ∧ zLfOk f = true ∧ plainName f.1.cls = true ∧ f.1.cls = "ToldNetLaw" ∧ f.2.2.2 < zFnL.length ∧ (zFn f.2.2.2).1.cls = "ToldNet" ∧ (parseMethodDescriptor (zFn f.2.2.2).1.desc).map (fun d => d.parameters.length) = some 3 ∧ Jvm.Cond.methodLink "ToldNetLaw" f.2.2.1 (zFn f.2.2.2).1 ∈ zWS ∧ Jvm.Cond.instanceMethod (zFn f.2.2.2).1 ∈ zWS ∧ Jvm.Cond.selects (zFn f.2.2.2).1.cls (zFn f.2.2.2).1 (zFn f.2.2.2).1 ∈ zWS ∧ Jvm.Cond.initialized (zFn f.2.2.2).1.cls ∈ zWS ∧ (zFn f.2.2.2).2.2.2.2.1 + 1 ≤ 8 ∧ 8 + ((zFn f.2.2.2).2.2.1 + 11) + (zFn f.2.2.2).2.2.2.2.2 ≤ 131
theorem zLw_lk : zLkOk zLw := ⟨zLw_in, zLw_ok, by decide +kernel, rfl, by decide +kernel, by decide +kernel, by decide +kernel, zInW_mem (pl := 1577) (by decide +kernel), zInW_mem (pl := 1578) (by decide +kernel), zInW_mem (pl := 1579) (by decide +kernel), zl_n0, by decide +kernel, by decide +kernel⟩
theorem zLe_lk : zLkOk zLe := ⟨zLe_in, zLe_ok, by decide +kernel, rfl, by decide +kernel, by decide +kernel, by decide +kernel, zInW_mem (pl := 1669) (by decide +kernel), zInW_mem (pl := 1670) (by decide +kernel), zInW_mem (pl := 1671) (by decide +kernel), zl_n0, by decide +kernel, by decide +kernel⟩
def zLM (O : zOm) (f : zLf) (as : List zV) (M : zMem) (K : Option zV → zMem → Prop) : Prop := (∀ v ∈ as, zok v) → zMok (zS O) M → ∀ sz, zB O + (zS O).length ≤ sz → vx_Met (zLn O) f.1 (zLWs f) zLRm (zPcL O M sz as) (zQ O K sz) (fun _ _ _ => False) 1 6 (zA O sz)
theorem zPcX_blind (O : zOm) (M : zMem) (sz : Nat) (as : List zV) : FrameBlind (zPcX O M sz as) := by
  intro a U g mk h
  obtain ⟨h1, h2, h3, h4, h5, h6⟩ := h
  exact ⟨h1, h2, h3, va_K.moved (Vm.Alike.refl _) h4, fun q hq => va_Nw.same rfl rfl (h5 q hq), h6.same (U := U) rfl⟩
theorem zPcL_blind (O : zOm) (M : zMem) (sz : Nat) (as : List zV) : FrameBlind (zPcL O M sz as) := by
  intro a U g mk h
  obtain ⟨h1, h2, h3, h4, h5, h6, h7⟩ := h
  exact ⟨h1, h2, h3, va_K.moved (Vm.Alike.refl _) h4, fun q hq => va_Nw.same rfl rfl (h5 q hq), h6.same (U := U) rfl, h7.same (s := U) rfl⟩
set_option maxHeartbeats 1000000 in
theorem zlW1 {O : zOm} (hO : zWld O) {f : zLf} (hlk : zLkOk f) {x p0 p1 p2 out : Int} {M : zMem} {K : Option zV → zMem → Prop} (hx0 : 0 ≤ x) (ho0 : 0 ≤ out) (hob : zxObj (zS O) x 0 = true)
    (hw : zRX O (zFn f.2.2.2) [(2, x), (0, p0), (0, p1), (0, p2)] M (fun _ _ => False) (fun E M1 => E = "java/util/NoSuchElementException" ∧ K (some (0, 1)) M1)) : zLM O f [(2, x), (0, p0), (0, p1), (0, p2), (2, out)] M K := by
  obtain ⟨k1, k2, k3, k4, k5, k6, k7, k8, k9, k10, k11, k12, k13⟩ := hlk
  intro has hM sz hsz
  unfold zLfOk at k2
  simp only [Bool.and_eq_true, decide_eq_true_eq] at k2
  obtain ⟨d0, d2, d3, d4, d5, d6, d7, d15, d17, d18⟩ := k2
  refine vx_ofWH (cc := f.2.1) (maxL := 6) (ret := some .int) (hh := zlHh) k3 rfl ?_
  intro p e s m args below meth c s₁ B hml hv
  obtain ⟨rfl, rfl, hP, hK, hN, hT, hC⟩ := hv
  have hx := B.exec
  have hb := B.bytes
  have hlocks := B.notSynchronized
  have htsA : ∀ w ∈ zLWs f, w.before (([(2, x), (0, p0), (0, p1), (0, p2), (2, out)] : List zV).map (zWv O)).toArray s = true := atoms_spec (ws := zLWs f) B.pre
  have hts : ∀ w ∈ zWS, w.before (([(2, x), (0, p0), (0, p1), (0, p2), (2, out)] : List zV).map (zWv O)).toArray s = true := fun w hw => htsA w (List.mem_cons_of_mem _ hw)
  have htab := vx_table (x := f.1) B (htsA _ List.mem_cons_self)
  have hown : s.vm.findClass "ToldNetLaw" = some m.cls := by rw [← k4]; exact findClass_of_methodNamed B.named
  have hl := lv_entry (([(2, x), (0, p0), (0, p1), (0, p2), (2, out)] : List zV).map (zWv O)) (n := 6) (by rw [zlg]; exact Nat.le_of_ble_eq_true rfl)
  rw [zlvargs] at hl
  rw [lg_entry_eq]
  generalize (lg_sl (([(2, x), (0, p0), (0, p1), (0, p2), (2, out)] : List zV).map (zWv O)) ++ List.replicate (6 - (lg_sl (([(2, x), (0, p0), (0, p1), (0, p2), (2, out)] : List zV).map (zWv O))).length) Slot.unset).toArray = ls at hl ⊢
  have hl : lv_has ls 6 [(0, .ref (zB O + x.toNat)), (1, .int (zi p0)), (2, .int (zi p1)), (3, .int (zi p2)), (4, .ref (zB O + out.toNat))] := by
    have e1 := zWv_nn O hx0
    have e2 := zWv_nn O ho0
    have : (zArgs 0 ([(2, x), (0, p0), (0, p1), (0, p2), (2, out)] : List zV)).map (fun q => (q.1, zWv O q.2)) = [(0, .ref (zB O + x.toNat)), (1, .int (zi p0)), (2, .int (zi p1)), (3, .int (zi p2)), (4, .ref (zB O + out.toNat))] := by
      show [(0, zWv O (2, x)), (1, zWv O (0, p0)), (2, zWv O (0, p1)), (3, zWv O (0, p2)), (4, zWv O (2, out))] = _
      rw [e1, e2]
      rfl
    rw [← this]
    exact hl
  refine lv_aload hx hb d0 (lv_at hl 4 rfl) ?_
  refine lv_iconst (v := 0) hx hb d2 rfl ?_
  refine lv_aload_n (k := 0) (i := 0) hx hb d3 rfl (lv_at hl 0 rfl) ?_
  refine lv_iload_n (k := 1) (i := 1) hx hb d4 rfl (lv_at hl 1 rfl) ?_
  refine lv_iload_n (k := 2) (i := 2) hx hb d5 rfl (lv_at hl 2 rfl) ?_
  refine lv_iload_n (k := 3) (i := 3) hx hb d6 rfl (lv_at hl 3 rfl) ?_
  have has2 : ∀ v ∈ ([(2, x), (0, p0), (0, p1), (0, p2)] : List zV), zok v := fun v hv => has v (by
    simp only [List.mem_cons, List.not_mem_nil, or_false] at hv ⊢
    rcases hv with h | h | h | h
    · exact Or.inl h
    · exact Or.inr (Or.inl h)
    · exact Or.inr (Or.inr (Or.inl h))
    · exact Or.inr (Or.inr (Or.inr (Or.inl h))))
  have hMet := hw has2 hM s.heap.size hsz
  have hcode : Jvm.Cond.code (zFn f.2.2.2).1 (zFn f.2.2.2).2.1 (zFn f.2.2.2).2.2.1 (zFn f.2.2.2).2.2.2.1 ∈ zWS := by
    refine zFnL_ok _ ?_
    unfold zFn
    rw [List.getD_eq_getElem?_getD, List.getElem?_eq_getElem k5]
    exact List.getElem_mem k5
  generalize zFn f.2.2.2 = g at k6 k7 k8 k9 k10 k11 k12 k13 hMet hcode
  have hG : GoodIn zWS (wsV "ToldNetLaw" f.2.2.1 g.1.cls g.1 (zWs g)) := by
    intro w hw
    have hw' : w ∈ zWS := by
      rcases List.mem_append.mp hw with h1 | h1
      · simp only [List.mem_cons, List.not_mem_nil, or_false] at h1
        rcases h1 with rfl | rfl | rfl | rfl
        · exact k8
        · exact k9
        · exact k10
        · exact k11
      · exact (zGood g hcode w h1).1
    exact ⟨hw', good_of_word (List.mem_filter.mp hw').2⟩
  have cw := cwV (R := zLRm) (rm := zRmX g) (mc := 1) (ms := 6) (ws' := zWS) 3 hts hG rfl rfl rfl ⟨rfl, by rw [k6]; decide, by rw [k6]; decide, k7⟩ ⟨k12, k13⟩
  obtain ⟨-, fks, hs⟩ := zxObj_ok hob
  obtain ⟨rC, hrC, cell, q1, q2, q3, q4⟩ := hP _ _ (zWorld_at (M := M) hs)
  have hrC : (zcl O)[0]? = some rC := hrC
  rw [hO.1] at hrC
  cases hrC
  have hcls : s.vm.findClass g.1.cls = some cell.cls := by rw [q2, k6]; exact (hK.1 0 _ (by rw [hO.1]; rfl)).2.1
  have hPV : PreV s s.heap g.1.cls (zB O + x.toNat) (zPcX O M s.heap.size [(2, x), (0, p0), (0, p1), (0, p2)]) [.int (zi p0), .int (zi p1), .int (zi p2)] := by
    refine ⟨zPcX_blind _ _ _ _, ⟨cell, q1, by rw [q3]; rfl, hcls⟩, fun U hU hW => ⟨?_, by rw [hU], by rw [hU]; exact hP, va_K.moved hW.alike hK, fun q hq => va_Nw.warmM hW (hN q hq), by rw [hU]; exact hT.to hW (fun _ _ _ => rfl) (fun _ z => z)⟩⟩
    show _ = (([(2, x), (0, p0), (0, p1), (0, p2)] : List zV).map (zWv O)).toArray
    rw [List.map_cons, zWv_nn O hx0]
    rfl
  have hr := vx_runV (As := [.int (zi p0), .int (zi p1), .int (zi p2)]) (rest := [.int 0, .ref (zB O + out.toNat)]) (locs := []) (cells := 0) (slots := 0) (nL := 6) (g := F0 m 7 ls [.int (zi p2), .int (zi p1), .int (zi p0), .ref (zB O + x.toNat), .int 0, .ref (zB O + out.toNat)]) (p := p) (e := e) (below := below) (meth := meth) ⟨hx, hb, hml, hown, hts⟩ hMet cw hPV rfl rfl hl.1 rfl (lv_room (Nat.le_of_ble_eq_true rfl)) d7 ⟨Nat.le_refl _, Nat.le_refl _⟩
  intro T hTh XT
  rcases hr T hTh XT with ⟨v, st₀, t, T', L, h0, X', hL, e1, e2, ⟨⟨r, u, hv, hok, hMu, hKu, hPu⟩, hz⟩, st⟩ | ⟨q, st₀, t, T', L, E, ce, h0, X', hL, e1, e2, ⟨u, hMu, ⟨hE, hKu⟩, hPu, hF⟩, hce, hcv, hcl, st⟩
  · exact hKu.elim
  · subst hE
    have hS' : va_S (zA O s.heap.size) s.heap T'.heap L := by
      obtain ⟨f1, f2⟩ := hF
      rw [h0] at f1 f2
      exact ⟨by rw [e1]; exact f1, fun q h1 h2 => by rw [e1]; exact f2 q h1 h2, hL⟩
    have hcatch : vx_W p (zLn O) e zLRm s m (([(2, x), (0, p0), (0, p1), (0, p2), (2, out)] : List zV).map (zWv O)).toArray below meth c T'.heap ([] ++ L) (0 + 1) (0 + 6) (vx_MQ below (zQ O K s.heap.size) (fun _ _ _ => False) (([(2, x), (0, p0), (0, p1), (0, p2), (2, out)] : List zV).map (zWv O)).toArray s 1 6 (zA O s.heap.size)) (F0 m 7 ls [.int 0, .ref (zB O + out.toNat)]) q := by
      refine vx_catch (E := "java/util/NoSuchElementException") (name := "java/util/NoSuchElementException") hown [] _ _ (by rw [htab]; rfl) (fun z hz => by cases hz) (by decide) (by decide) (hts _ zl_c13) (va_Nw.use rfl hC.1) (by rw [e1]; exact hce) hcv hcl ?_
      refine lv_astore (lv' := [(5, .ref q), (0, .ref (zB O + x.toNat)), (1, .int (zi p0)), (2, .int (zi p1)), (3, .int (zi p2)), (4, .ref (zB O + out.toNat))]) hx hb d15 hl (by decide) rfl (fun ls2 hl2 => ?_)
      refine lv_iconst (v := 1) hx hb d17 rfl ?_
      refine vx_ret ?_
      exact W.iret (v := 1) hx hb B.returns (fun t2 ht2 hW2 => ⟨⟨some (0, 1), u, rfl, fun v hv => by cases hv; exact ⟨by decide, by decide⟩, hMu, hKu, by rw [ht2, e1]; exact hPu⟩, by exact hS'.F ht2⟩) hS'.2.2 d18
    obtain ⟨t2, a1, b1⟩ := hcatch T' rfl X'
    exact ⟨t2, st.trans a1, b1⟩
end
section
-- part 93.spec.lean.txt
/-! ===== the law's two cases of word and except ===== -/
abbrev zl3 : List (Nat × Bool) := [(1, false), (2, false), (3, false)]
def zlStk (k1 : Nat) (f : zLf) : Prop := Jvm.Cond.methodLink "ToldNetLaw" k1 f.1 ∈ zWS ∧ Jvm.Cond.static f.1 ∈ zWS ∧ Jvm.Cond.initialized f.1.cls ∈ zWS ∧ f.1.cls ≠ "java/lang/invoke/MethodHandle" ∧ f.1.cls ≠ "java/lang/invoke/VarHandle" ∧ (parseMethodDescriptor f.1.desc).map (fun d => d.parameters.length) = some 5 ∧ Jvm.Cond.codeWith f.1 f.2.1 6 (some .int) zlHh ∈ zWS
theorem zlStk_w : zlStk 95 zLw := ⟨zInW_mem (pl := 1572) (by decide +kernel), zInW_mem (pl := 1573) (by decide +kernel), zInW_mem (pl := 156) (by decide +kernel), by decide, by decide, by decide +kernel, zLw_in⟩
theorem zlStk_e : zlStk 101 zLe := ⟨zInW_mem (pl := 1666) (by decide +kernel), zInW_mem (pl := 1667) (by decide +kernel), zInW_mem (pl := 156) (by decide +kernel), by decide, by decide, by decide +kernel, zLe_in⟩
end
section
-- part 94.start.lean.txt
/-! ===== the exceptions' classes at the start ===== -/
theorem zCat_start {s : State} {b : Nat} (hts : ∀ w ∈ lw_tbl, w.before #[Value.ref b] s = true) : zCat s :=
  ⟨va_Nw.of rfl (hts _ (List.mem_of_getElem? (i := 1583) (by decide +kernel))), va_Nw.of rfl (hts _ (List.mem_of_getElem? (i := 1649) (by decide +kernel)))⟩
end
section
-- part 95.tabs.lean.txt
/-! ===== the fixed cells: their fields and lengths ===== -/
def zObL : List (Nat × Nat × List (Option (Option Nat))) := [(0, 0, [some (some 1), some (some 86), some (some 92), some (some 105), none, none, some (some 106), some (some 108), some (some 134), some (some 148), some (some 156), some (some 166), some (some 179), some (some 183)]), (1, 1, [some (some 2), some (some 3), none, none, none]), (4, 2, [some (some 5), none]), (6, 2, [some (some 7), none]), (8, 2, [some (some 9), none]), (10, 2, [some (some 11), none]), (12, 2, [some (some 13), none]), (14, 2, [some (some 15), none]), (16, 2, [some (some 17), none]), (18, 2, [some (some 19), none]), (20, 2, [some (some 21), none]), (22, 2, [some (some 23), none]), (24, 2, [some (some 25), none]), (26, 2, [some (some 27), none]), (28, 2, [some (some 29), none]), (30, 2, [some (some 31), none]), (32, 2, [some (some 33), none]), (34, 2, [some (some 35), none]), (36, 2, [some (some 37), none]), (38, 2, [some (some 39), none]), (40, 2, [some (some 41), none]), (42, 2, [some (some 43), none]), (44, 2, [some (some 45), none]), (46, 2, [some (some 47), none]), (48, 2, [some (some 49), none]), (50, 2, [some (some 51), none]), (52, 2, [some (some 53), none]), (54, 2, [some (some 55), none]), (56, 2, [some (some 57), none]), (58, 2, [some (some 59), none]), (60, 2, [some (some 61), none]), (62, 2, [some (some 63), none]), (64, 2, [some (some 65), none]), (66, 2, [some (some 67), none]), (68, 2, [some (some 69), none]), (70, 2, [some (some 71), none]), (72, 2, [some (some 73), none]), (74, 2, [some (some 75), none]), (76, 2, [some (some 77), none]), (78, 2, [some (some 79), none]), (80, 2, [some (some 81), none]), (82, 2, [some (some 83), none]), (84, 2, [some (some 85), none]), (86, 5, [some (some 87), some (some 88), some (some 89), some (some 90), some (some 91), none, none, none, none]), (92, 6, [some (some 93), some (some 94), some (some 95), some (some 97), some (some 98), some (some 99), some (some 100), some (some 101), some (some 103), none, none, none, none, none, none, none, some (some 96)]), (101, 2, [some (some 102), none]), (103, 2, [some (some 104), none]), (106, 7, [some (some 107), none, none, none]), (108, 8, [some (some 109), some (some 111), some (some 124), some (some 128), some (some 132), some (some 133), none]), (109, 7, [some (some 110), none, none, none]), (111, 4, [some (some 112), some (some 116), some (some 117), some (some 118), some (some 120), some (some 122), none]), (112, 3, [some (some 113), some (some 114), some (some 115), none, none]), (118, 2, [some (some 119), none]), (120, 2, [some (some 121), none]), (122, 2, [some (some 123), none]), (124, 3, [some (some 125), some (some 126), some (some 127), none, none]), (128, 3, [some (some 129), some (some 130), some (some 131), none, none]), (134, 9, [some (some 135), some (some 136), some (some 137), some (some 138), some (some 139), some (some 140), none, none, some (some 141), some (some 143), some (some 145), some (some 147), none]), (141, 2, [some (some 142), none]), (143, 2, [some (some 144), none]), (145, 2, [some (some 146), none]), (148, 10, [some (some 149), some (some 150), some (some 151), some (some 152), some (some 153), some (some 154), none, none]), (154, 2, [some (some 155), none]), (156, 11, [some (some 157), some (some 158), some (some 160), some (some 162), some (some 164), some (some 165), none, none]), (158, 2, [some (some 159), none]), (160, 2, [some (some 161), none]), (162, 2, [some (some 163), none]), (166, 4, [some (some 167), some (some 171), some (some 172), some (some 173), some (some 175), some (some 177), none]), (167, 3, [some (some 168), some (some 169), some (some 170), none, none]), (173, 2, [some (some 174), none]), (175, 2, [some (some 176), none]), (177, 2, [some (some 178), none]), (179, 3, [some (some 180), some (some 181), some (some 182), none, none]), (183, 2, [some (some 184), none]), (185, 4, [some (some 186), some (some 190), some (some 191), some (some 192), some (some 194), some (some 196), none]), (186, 3, [some (some 187), some (some 188), some (some 189), none, none]), (192, 2, [some (some 193), none]), (194, 2, [some (some 195), none]), (196, 2, [some (some 197), none]), (198, 4, [some (some 199), some (some 203), some (some 204), some (some 205), some (some 207), some (some 209), none]), (199, 3, [some (some 200), some (some 201), some (some 202), none, none]), (205, 2, [some (some 206), none]), (207, 2, [some (some 208), none]), (209, 2, [some (some 210), none]), (211, 4, [some (some 212), some (some 216), some (some 217), some (some 218), some (some 220), some (some 222), none]), (212, 3, [some (some 213), some (some 214), some (some 215), none, none]), (218, 2, [some (some 219), none]), (220, 2, [some (some 221), none]), (222, 2, [some (some 223), none]), (224, 4, [some (some 225), some (some 229), some (some 230), some (some 231), some (some 233), some (some 235), none]), (225, 3, [some (some 226), some (some 227), some (some 228), none, none]), (231, 2, [some (some 232), none]), (233, 2, [some (some 234), none]), (235, 2, [some (some 236), none]), (237, 4, [some (some 238), some (some 242), some (some 243), some (some 244), some (some 246), some (some 248), none]), (238, 3, [some (some 239), some (some 240), some (some 241), none, none]), (244, 2, [some (some 245), none]), (246, 2, [some (some 247), none]), (248, 2, [some (some 249), none]), (250, 12, [none, none, some (some 251), some (some 252), none, none, some (some 253), some (some 254), some (some 255), some (some 256), some (some 257), none, some (some 258), some (some 259), some (some 260), some (some 261), some (some 262), some (some 263), some (some 264), some (some 265), some (some 266), some (some 267), some (some 268), some (some 269), some (some 270), some (some 271), some (some 272), some (some 273), none, some (some 274), some (some 275), some (some 276), some (some 277), none, some (some 278), none, some (some 279), some (some 280), some (some 281), some (some 282), none, some (some 283), some (some 284), some (some 285), none, some (some 286), some (some 287), none, none, none, none, some (some 288), none, some (some 289), some (some 290), none, some (some 291), some (some 292), some (some 293), some (some 294), some (some 295), some (some 296), some (some 297), some (some 298), none, some (some 299), none, none, none, some (some 300), some (some 301), some (some 302), some (some 303), none, some (some 304), some (some 305), some (some 306), none, some (some 307), some (some 308), some (some 309), some (some 310)])]
def zMdF : List (Option (Option Nat)) := [none, none, some (some 251), some (some 252), none, none, some (some 253), some (some 254), some (some 255), some (some 256), some (some 257), none, some (some 258), some (some 259), some (some 260), some (some 261), some (some 262), some (some 263), some (some 264), some (some 265), some (some 266), some (some 267), some (some 268), some (some 269), some (some 270), some (some 271), some (some 272), some (some 273), none, some (some 274), some (some 275), some (some 276), some (some 277), none, some (some 278), none, some (some 279), some (some 280), some (some 281), some (some 282), none, some (some 283), some (some 284), some (some 285), none, some (some 286), some (some 287), none, none, none, none, some (some 288), none, some (some 289), some (some 290), none, some (some 291), some (some 292), some (some 293), some (some 294), some (some 295), some (some 296), some (some 297), some (some 298), none, some (some 299), none, none, none, some (some 300), some (some 301), some (some 302), some (some 303), none, some (some 304), some (some 305), some (some 306), none, some (some 307), some (some 308), some (some 309), some (some 310)]
def zTdF : List (Option (Option Nat)) := [some (some 1), some (some 86), some (some 92), some (some 105), none, none, some (some 106), some (some 108), some (some 134), some (some 148), some (some 156), some (some 166), some (some 179), some (some 183)]
def zMdA : List (FieldType × Nat) := [(.char, 0), (.boolean, 256), (.int, 16), (.int, 300), (.int, 300), (.boolean, 300), (.int, 300), (.boolean, 256), (.int, 7), (.int, 112), (.int, 112), (.int, 1792), (.boolean, 112), (.boolean, 112), (.boolean, 1792), (.boolean, 1792), (.int, 1792), (.boolean, 256), (.boolean, 256), (.int, 512), (.int, 512), (.int, 17), (.int, 16), (.int, 16), (.int, 10), (.int, 10), (.int, 10), (.int, 10), (.int, 2000), (.int, 2001), (.int, 2001), (.int, 2001), (.int, 2001), (.int, 256), (.boolean, 16), (.int, 16), (.int, 6), (.int, 6), (.int, 512), (.boolean, 256), (.int, 16), (.int, 256), (.int, 16), (.int, 16), (.int, 64), (.int, 8), (.int, 8), (.boolean, 256), (.boolean, 512), (.long, 2001), (.long, 110), (.int, 110), (.int, 16), (.int, 16), (.int, 41), (.int, 41), (.int, 41), (.int, 140), (.int, 140), (.boolean, 140), (.int, 140), (.long, 1)]
theorem zMd_ok : ((zmS zC0)[250]?) = some (.inr (12, zMdF)) := by decide +kernel
theorem zTd_ok : ((zmS zC0)[0]?) = some (.inr (0, zTdF)) := by decide +kernel
def zMdAok : Bool := (List.range zMdA.length).all fun i => match zMdA[i]?, (zmS zC0)[250 + i]? with
  | some q, some (.inl w) => decide (w.1 = q.1) && decide (w.2.1 = q.2)
  | some q, some (.inr _) => decide (q.1 = .char)
  | _, _ => false
theorem zMdAok_ok : zMdAok = true := by decide +kernel
theorem zMF {S : List zSh} (hS : S = zmS zC0) {k : Nat} {v : Option (Option Nat)} (h : zMdF[k]? = some v) : zFld S 250 12 k = some v := by
  subst hS
  unfold zFld
  rw [if_pos (by decide), show (250 : Int).toNat = 250 from rfl, zMd_ok]
  show (if 12 = 12 then zMdF[k]? else none) = some v
  rw [if_pos rfl, h]
theorem zTF {S : List zSh} (hS : S = zmS zC0) {k : Nat} {v : Option (Option Nat)} (h : zTdF[k]? = some v) : zFld S 0 0 k = some v := by
  subst hS
  unfold zFld
  rw [if_pos (by decide), show (0 : Int).toNat = 0 from rfl, zTd_ok]
  show (if 0 = 0 then zTdF[k]? else none) = some v
  rw [if_pos rfl, h]
theorem zMA {S : List zSh} (hS : S = zmS zC0) {a n : Nat} {ty : FieldType} (h : zMdA[a - 250]? = some (ty, n)) (ha : 250 ≤ a := by decide) (hty : ty ≠ .char := by decide) : zArr S ((a : Nat) : Int) ty n := by
  subst hS
  have h1 := List.all_eq_true.mp zMdAok_ok (a - 250) (List.mem_range.mpr (List.getElem?_eq_some_iff.mp h).1)
  rw [h, show 250 + (a - 250) = a by omega] at h1
  split at h1
  next q w e1 e2 =>
    cases e1
    simp only [Bool.and_eq_true, decide_eq_true_eq] at h1
    obtain ⟨w1, w2, w3⟩ := w
    obtain ⟨rfl, rfl⟩ := h1
    exact ⟨Int.natCast_nonneg _, w3, e2⟩
  next q w e1 e2 =>
    cases e1
    exact absurd (of_decide_eq_true h1) hty
  next => cases h1
theorem zMO {S : List zSh} (hS : S = zmS zC0) : zObj S 250 12 := by subst hS; exact ⟨by decide, _, zMd_ok⟩
theorem zTO {S : List zSh} (hS : S = zmS zC0) : zObj S 0 0 := by subst hS; exact ⟨by decide, _, zTd_ok⟩
def zObG (o ci k : Nat) : Option (Option (Option Nat)) := match zObL.find? (fun q => q.1 == o) with
  | some q => if q.2.1 = ci then q.2.2[k]? else none
  | none => none
def zObLok : Bool := zObL.all fun q => decide ((zmS zC0)[q.1]? = some (.inr (q.2.1, q.2.2)))
theorem zObLok_ok : zObLok = true := by decide +kernel
theorem zOF {S : List zSh} (hS : S = zmS zC0) {o ci k : Nat} {v : Option (Option Nat)} (h : zObG o ci k = some v) : zFld S ((o : Nat) : Int) ci k = some v := by
  subst hS
  unfold zObG at h
  split at h
  next q hq =>
    have h1 := of_decide_eq_true (List.all_eq_true.mp zObLok_ok _ (List.mem_of_find?_eq_some hq))
    have h2 : q.1 = o := by simpa using List.find?_some hq
    split at h
    next h3 =>
      unfold zFld
      rw [if_pos (Int.natCast_nonneg _), show ((o : Nat) : Int).toNat = o from rfl, ← h2, h1]
      dsimp only
      rw [if_pos h3, h]
    next => cases h
  next => cases h
theorem zOO {S : List zSh} (hS : S = zmS zC0) {o ci : Nat} {v : Option (Option Nat)} (h : zObG o ci 0 = some v) : zObj S ((o : Nat) : Int) ci := by
  subst hS
  unfold zObG at h
  split at h
  next q hq =>
    have h1 := of_decide_eq_true (List.all_eq_true.mp zObLok_ok _ (List.mem_of_find?_eq_some hq))
    have h2 : q.1 = o := by simpa using List.find?_some hq
    split at h
    next h3 => exact ⟨Int.natCast_nonneg _, q.2.2, by rw [show ((o : Nat) : Int).toNat = o from rfl, ← h2, h1, h3]⟩
    next => cases h
  next => cases h
end
section
-- part 96.mguard.lean.txt
/-! ===== the reference's small methods ===== -/
theorem s_Model_isPost {O : zOm} (hO : zWld O) (hS : zS O = zmS zC0) {a : Int} {M : zMem} {K : Option zV → zMem → Prop} (hk : K (some (0, if 0 ≤ a ∧ a < M 250 ((1 : Nat) : Int) then 1 else 0)) M) : zR O F_Model_isPost [(2, 250), (0, a)] M K := by
  apply r_Model_isPost hO
  unfold B_Model_isPost
  have f1 := zMF (k := 1) hS rfl; have zo := zMO hS
  by_cases h1 : 0 ≤ a
  · by_cases h2 : a < M 250 ((1 : Nat) : Int)
    · rw [if_pos ⟨h1, h2⟩] at hk
      repeat (first | (with_reducible first | (show zew _ _ _ _ _ _; first | (show zew (zeL _) _ _ _ _ _; first | refine i_L0 ?_ | refine i_L1 ?_ | refine i_L2 ?_ | refine i_L3 ?_ | refine i_L4 ?_ | refine i_L5 ?_ | refine i_L6 ?_ | refine i_L7 ?_ | refine i_L8 ?_ | refine i_L9 ?_ | refine i_L10 ?_ | refine i_L11 ?_ | refine i_L12 ?_ | refine i_L13 ?_ | refine i_L14 ?_) | (show zew (zeA _) _ _ _ _ _; first | refine i_A0 ?_ | refine i_A1 ?_ | refine i_A2 ?_ | refine i_A3 ?_ | refine i_A4 ?_ | refine i_A5 ?_ | refine i_A6 ?_ | refine i_A7 ?_ | refine i_A8 ?_ | refine i_A9 ?_ | refine i_A10 ?_ | refine i_A11 ?_ | refine i_A12 ?_ | refine i_A13 ?_ | refine i_A14 ?_) | refine i_I ?_ | refine i_F ?_ | refine i_FR ?_ | refine i_IA ?_ | refine i_Add ?_ | refine i_Sub ?_ | refine i_And ?_ | refine i_Len ?_ | refine i_Call ?_ | refine i_RA ?_ | refine i_Ldc ?_ | refine i_LdcL ?_ | refine i_IL ?_ | refine i_Null ?_ | refine i_Mul ?_ | refine i_Div ?_ | refine i_Rem ?_ | refine i_Or ?_ | refine i_Xor ?_ | refine i_Shl ?_ | refine i_Shr ?_ | refine i_Ushr ?_ | refine i_AddL ?_ | refine i_SubL ?_ | refine i_MulL ?_ | refine i_CmpL ?_ | refine i_Neg ?_ | refine i_I2L ?_ | refine i_L2I ?_ | refine i_I2B ?_ | refine i_ZA ?_ | refine i_BA ?_ | refine i_LA ?_ | refine i_MM ?_ | refine i_eIf ?_ | refine i_Ll0 ?_ | refine i_Ll1 ?_ | refine i_Ll2 ?_ | refine i_Ll3 ?_ | refine i_Ll4 ?_ | refine i_Ll5 ?_ | refine i_Ll6 ?_ | refine i_Ll7 ?_ | refine i_Ll8 ?_ | refine i_Ll9 ?_ | refine i_Ll10 ?_ | refine i_Ll11 ?_ | refine i_Ll12 ?_ | refine i_Ll13 ?_ | refine i_Ll14 ?_) | (show zsw _ _ _ _ _ _ _ _; first | refine i_Seq ?_ | refine i_Blk ?_ | refine i_Set ?_ | refine i_If ?_ | refine i_sCall ?_ | refine i_RetV ?_ | refine i_RetI ?_ | refine i_sIA ?_ | refine i_sF ?_ | refine i_Skip ?_ | refine i_FO ?_ | refine i_sLA ?_ | refine i_sZA ?_ | refine i_sBA ?_ | refine i_IO ?_ | refine i_Pop ?_ | refine i_Copy ?_ | refine i_RetZ ?_ | refine i_RetL ?_ | refine i_RetR ?_ | refine i_Ite ?_ | refine i_IteD ?_ | refine i_IfR ?_ | refine i_Brk ?_ | refine i_IfBrk ?_ | refine i_Sw ?_ | refine i_Inc0 ?_ | refine i_Inc1 ?_ | refine i_Inc2 ?_ | refine i_Inc3 ?_ | refine i_Inc4 ?_ | refine i_Inc5 ?_ | refine i_Inc6 ?_ | refine i_Inc7 ?_ | refine i_Inc8 ?_ | refine i_Inc9 ?_ | refine i_Inc10 ?_ | refine i_Inc11 ?_ | refine i_Inc12 ?_ | refine i_Inc13 ?_ | refine i_Inc14 ?_) | (show zcw _ _ _ _ _ _ _; first | refine i_cN ?_ | refine i_cNot ?_ | refine i_cAnd ?_ | refine i_cOr ?_ | refine i_cIf ?_ | refine i_cI_eq ?_ | refine i_cI_ne ?_ | refine i_cI_lt ?_ | refine i_cI_ge ?_ | refine i_cI_gt ?_ | refine i_cI_le ?_ | refine i_cZ_eq ?_ | refine i_cZ_ne ?_ | refine i_cZ_lt ?_ | refine i_cZ_ge ?_ | refine i_cZ_gt ?_ | refine i_cZ_le ?_) | refine i_as0 ?_ | refine i_as1 ?_ | refine i_sw0 ?_ | refine i_sw1 ?_ | refine i_lab0 ?_ | refine i_lab1 ?_ | refine i_lab2 ?_ | refine i_lb0 ?_ | refine i_lb1 ?_ | refine i_recv1 ?_ | refine i_recv2 ?_ | refine i_turn ?_ | refine i_up ?_) | (with_reducible refine i_recv0 (by assumption) ?_) | (with_reducible refine i_fld (by assumption) ?_) | (with_reducible refine i_fldR (by assumption) ?_) | (with_reducible refine i_in (by assumption) (by omega) (by omega) ?_) | (with_reducible refine i_copy (by assumption) (by assumption) (by omega) ?_) | (with_reducible refine i_len (by assumption) (by omega) ?_) | simp only [w_set0, w_set1, w_setn0, w_setn1] | rw [w_setT] | rw [zx_inc (by omega)] | rw [zx_addc (by omega)] | rw [zx_cadd (by omega)] | rw [zx_add (by omega)] | rw [zx_subc (by omega) (by omega)] | rw [zx_sub (by omega) (by omega)] | rw [zx_mulc (by omega)] | rw [zx_cmul (by omega)] | rw [zx_divc (by omega)] | rw [zx_modc] | rw [zx_s (by omega) (by omega)] | (with_reducible refine i_t (by omega) ?_) | (with_reducible refine i_f (by omega) ?_) | (with_reducible refine i_z (Or.inl rfl) ?_) | (with_reducible refine i_z (Or.inr rfl) ?_) | (with_reducible refine i_nn (by decide) ?_) | (with_reducible refine And.intro (Or.inr trivial) ?_) | (with_reducible refine And.intro (Or.inl trivial) ?_) | (with_reducible refine i_t trivial ?_) | (with_reducible refine i_f not_false ?_))
      exact hk
    · rw [if_neg (fun q => h2 q.2)] at hk
      repeat (first | (with_reducible first | (show zew _ _ _ _ _ _; first | (show zew (zeL _) _ _ _ _ _; first | refine i_L0 ?_ | refine i_L1 ?_ | refine i_L2 ?_ | refine i_L3 ?_ | refine i_L4 ?_ | refine i_L5 ?_ | refine i_L6 ?_ | refine i_L7 ?_ | refine i_L8 ?_ | refine i_L9 ?_ | refine i_L10 ?_ | refine i_L11 ?_ | refine i_L12 ?_ | refine i_L13 ?_ | refine i_L14 ?_) | (show zew (zeA _) _ _ _ _ _; first | refine i_A0 ?_ | refine i_A1 ?_ | refine i_A2 ?_ | refine i_A3 ?_ | refine i_A4 ?_ | refine i_A5 ?_ | refine i_A6 ?_ | refine i_A7 ?_ | refine i_A8 ?_ | refine i_A9 ?_ | refine i_A10 ?_ | refine i_A11 ?_ | refine i_A12 ?_ | refine i_A13 ?_ | refine i_A14 ?_) | refine i_I ?_ | refine i_F ?_ | refine i_FR ?_ | refine i_IA ?_ | refine i_Add ?_ | refine i_Sub ?_ | refine i_And ?_ | refine i_Len ?_ | refine i_Call ?_ | refine i_RA ?_ | refine i_Ldc ?_ | refine i_LdcL ?_ | refine i_IL ?_ | refine i_Null ?_ | refine i_Mul ?_ | refine i_Div ?_ | refine i_Rem ?_ | refine i_Or ?_ | refine i_Xor ?_ | refine i_Shl ?_ | refine i_Shr ?_ | refine i_Ushr ?_ | refine i_AddL ?_ | refine i_SubL ?_ | refine i_MulL ?_ | refine i_CmpL ?_ | refine i_Neg ?_ | refine i_I2L ?_ | refine i_L2I ?_ | refine i_I2B ?_ | refine i_ZA ?_ | refine i_BA ?_ | refine i_LA ?_ | refine i_MM ?_ | refine i_eIf ?_ | refine i_Ll0 ?_ | refine i_Ll1 ?_ | refine i_Ll2 ?_ | refine i_Ll3 ?_ | refine i_Ll4 ?_ | refine i_Ll5 ?_ | refine i_Ll6 ?_ | refine i_Ll7 ?_ | refine i_Ll8 ?_ | refine i_Ll9 ?_ | refine i_Ll10 ?_ | refine i_Ll11 ?_ | refine i_Ll12 ?_ | refine i_Ll13 ?_ | refine i_Ll14 ?_) | (show zsw _ _ _ _ _ _ _ _; first | refine i_Seq ?_ | refine i_Blk ?_ | refine i_Set ?_ | refine i_If ?_ | refine i_sCall ?_ | refine i_RetV ?_ | refine i_RetI ?_ | refine i_sIA ?_ | refine i_sF ?_ | refine i_Skip ?_ | refine i_FO ?_ | refine i_sLA ?_ | refine i_sZA ?_ | refine i_sBA ?_ | refine i_IO ?_ | refine i_Pop ?_ | refine i_Copy ?_ | refine i_RetZ ?_ | refine i_RetL ?_ | refine i_RetR ?_ | refine i_Ite ?_ | refine i_IteD ?_ | refine i_IfR ?_ | refine i_Brk ?_ | refine i_IfBrk ?_ | refine i_Sw ?_ | refine i_Inc0 ?_ | refine i_Inc1 ?_ | refine i_Inc2 ?_ | refine i_Inc3 ?_ | refine i_Inc4 ?_ | refine i_Inc5 ?_ | refine i_Inc6 ?_ | refine i_Inc7 ?_ | refine i_Inc8 ?_ | refine i_Inc9 ?_ | refine i_Inc10 ?_ | refine i_Inc11 ?_ | refine i_Inc12 ?_ | refine i_Inc13 ?_ | refine i_Inc14 ?_) | (show zcw _ _ _ _ _ _ _; first | refine i_cN ?_ | refine i_cNot ?_ | refine i_cAnd ?_ | refine i_cOr ?_ | refine i_cIf ?_ | refine i_cI_eq ?_ | refine i_cI_ne ?_ | refine i_cI_lt ?_ | refine i_cI_ge ?_ | refine i_cI_gt ?_ | refine i_cI_le ?_ | refine i_cZ_eq ?_ | refine i_cZ_ne ?_ | refine i_cZ_lt ?_ | refine i_cZ_ge ?_ | refine i_cZ_gt ?_ | refine i_cZ_le ?_) | refine i_as0 ?_ | refine i_as1 ?_ | refine i_sw0 ?_ | refine i_sw1 ?_ | refine i_lab0 ?_ | refine i_lab1 ?_ | refine i_lab2 ?_ | refine i_lb0 ?_ | refine i_lb1 ?_ | refine i_recv1 ?_ | refine i_recv2 ?_ | refine i_turn ?_ | refine i_up ?_) | (with_reducible refine i_recv0 (by assumption) ?_) | (with_reducible refine i_fld (by assumption) ?_) | (with_reducible refine i_fldR (by assumption) ?_) | (with_reducible refine i_in (by assumption) (by omega) (by omega) ?_) | (with_reducible refine i_copy (by assumption) (by assumption) (by omega) ?_) | (with_reducible refine i_len (by assumption) (by omega) ?_) | simp only [w_set0, w_set1, w_setn0, w_setn1] | rw [w_setT] | rw [zx_inc (by omega)] | rw [zx_addc (by omega)] | rw [zx_cadd (by omega)] | rw [zx_add (by omega)] | rw [zx_subc (by omega) (by omega)] | rw [zx_sub (by omega) (by omega)] | rw [zx_mulc (by omega)] | rw [zx_cmul (by omega)] | rw [zx_divc (by omega)] | rw [zx_modc] | rw [zx_s (by omega) (by omega)] | (with_reducible refine i_t (by omega) ?_) | (with_reducible refine i_f (by omega) ?_) | (with_reducible refine i_z (Or.inl rfl) ?_) | (with_reducible refine i_z (Or.inr rfl) ?_) | (with_reducible refine i_nn (by decide) ?_) | (with_reducible refine And.intro (Or.inr trivial) ?_) | (with_reducible refine And.intro (Or.inl trivial) ?_) | (with_reducible refine i_t trivial ?_) | (with_reducible refine i_f not_false ?_))
      exact hk
  · rw [if_neg (fun q => h1 q.1)] at hk
    repeat (first | (with_reducible first | (show zew _ _ _ _ _ _; first | (show zew (zeL _) _ _ _ _ _; first | refine i_L0 ?_ | refine i_L1 ?_ | refine i_L2 ?_ | refine i_L3 ?_ | refine i_L4 ?_ | refine i_L5 ?_ | refine i_L6 ?_ | refine i_L7 ?_ | refine i_L8 ?_ | refine i_L9 ?_ | refine i_L10 ?_ | refine i_L11 ?_ | refine i_L12 ?_ | refine i_L13 ?_ | refine i_L14 ?_) | (show zew (zeA _) _ _ _ _ _; first | refine i_A0 ?_ | refine i_A1 ?_ | refine i_A2 ?_ | refine i_A3 ?_ | refine i_A4 ?_ | refine i_A5 ?_ | refine i_A6 ?_ | refine i_A7 ?_ | refine i_A8 ?_ | refine i_A9 ?_ | refine i_A10 ?_ | refine i_A11 ?_ | refine i_A12 ?_ | refine i_A13 ?_ | refine i_A14 ?_) | refine i_I ?_ | refine i_F ?_ | refine i_FR ?_ | refine i_IA ?_ | refine i_Add ?_ | refine i_Sub ?_ | refine i_And ?_ | refine i_Len ?_ | refine i_Call ?_ | refine i_RA ?_ | refine i_Ldc ?_ | refine i_LdcL ?_ | refine i_IL ?_ | refine i_Null ?_ | refine i_Mul ?_ | refine i_Div ?_ | refine i_Rem ?_ | refine i_Or ?_ | refine i_Xor ?_ | refine i_Shl ?_ | refine i_Shr ?_ | refine i_Ushr ?_ | refine i_AddL ?_ | refine i_SubL ?_ | refine i_MulL ?_ | refine i_CmpL ?_ | refine i_Neg ?_ | refine i_I2L ?_ | refine i_L2I ?_ | refine i_I2B ?_ | refine i_ZA ?_ | refine i_BA ?_ | refine i_LA ?_ | refine i_MM ?_ | refine i_eIf ?_ | refine i_Ll0 ?_ | refine i_Ll1 ?_ | refine i_Ll2 ?_ | refine i_Ll3 ?_ | refine i_Ll4 ?_ | refine i_Ll5 ?_ | refine i_Ll6 ?_ | refine i_Ll7 ?_ | refine i_Ll8 ?_ | refine i_Ll9 ?_ | refine i_Ll10 ?_ | refine i_Ll11 ?_ | refine i_Ll12 ?_ | refine i_Ll13 ?_ | refine i_Ll14 ?_) | (show zsw _ _ _ _ _ _ _ _; first | refine i_Seq ?_ | refine i_Blk ?_ | refine i_Set ?_ | refine i_If ?_ | refine i_sCall ?_ | refine i_RetV ?_ | refine i_RetI ?_ | refine i_sIA ?_ | refine i_sF ?_ | refine i_Skip ?_ | refine i_FO ?_ | refine i_sLA ?_ | refine i_sZA ?_ | refine i_sBA ?_ | refine i_IO ?_ | refine i_Pop ?_ | refine i_Copy ?_ | refine i_RetZ ?_ | refine i_RetL ?_ | refine i_RetR ?_ | refine i_Ite ?_ | refine i_IteD ?_ | refine i_IfR ?_ | refine i_Brk ?_ | refine i_IfBrk ?_ | refine i_Sw ?_ | refine i_Inc0 ?_ | refine i_Inc1 ?_ | refine i_Inc2 ?_ | refine i_Inc3 ?_ | refine i_Inc4 ?_ | refine i_Inc5 ?_ | refine i_Inc6 ?_ | refine i_Inc7 ?_ | refine i_Inc8 ?_ | refine i_Inc9 ?_ | refine i_Inc10 ?_ | refine i_Inc11 ?_ | refine i_Inc12 ?_ | refine i_Inc13 ?_ | refine i_Inc14 ?_) | (show zcw _ _ _ _ _ _ _; first | refine i_cN ?_ | refine i_cNot ?_ | refine i_cAnd ?_ | refine i_cOr ?_ | refine i_cIf ?_ | refine i_cI_eq ?_ | refine i_cI_ne ?_ | refine i_cI_lt ?_ | refine i_cI_ge ?_ | refine i_cI_gt ?_ | refine i_cI_le ?_ | refine i_cZ_eq ?_ | refine i_cZ_ne ?_ | refine i_cZ_lt ?_ | refine i_cZ_ge ?_ | refine i_cZ_gt ?_ | refine i_cZ_le ?_) | refine i_as0 ?_ | refine i_as1 ?_ | refine i_sw0 ?_ | refine i_sw1 ?_ | refine i_lab0 ?_ | refine i_lab1 ?_ | refine i_lab2 ?_ | refine i_lb0 ?_ | refine i_lb1 ?_ | refine i_recv1 ?_ | refine i_recv2 ?_ | refine i_turn ?_ | refine i_up ?_) | (with_reducible refine i_recv0 (by assumption) ?_) | (with_reducible refine i_fld (by assumption) ?_) | (with_reducible refine i_fldR (by assumption) ?_) | (with_reducible refine i_in (by assumption) (by omega) (by omega) ?_) | (with_reducible refine i_copy (by assumption) (by assumption) (by omega) ?_) | (with_reducible refine i_len (by assumption) (by omega) ?_) | simp only [w_set0, w_set1, w_setn0, w_setn1] | rw [w_setT] | rw [zx_inc (by omega)] | rw [zx_addc (by omega)] | rw [zx_cadd (by omega)] | rw [zx_add (by omega)] | rw [zx_subc (by omega) (by omega)] | rw [zx_sub (by omega) (by omega)] | rw [zx_mulc (by omega)] | rw [zx_cmul (by omega)] | rw [zx_divc (by omega)] | rw [zx_modc] | rw [zx_s (by omega) (by omega)] | (with_reducible refine i_t (by omega) ?_) | (with_reducible refine i_f (by omega) ?_) | (with_reducible refine i_z (Or.inl rfl) ?_) | (with_reducible refine i_z (Or.inr rfl) ?_) | (with_reducible refine i_nn (by decide) ?_) | (with_reducible refine And.intro (Or.inr trivial) ?_) | (with_reducible refine And.intro (Or.inl trivial) ?_) | (with_reducible refine i_t trivial ?_) | (with_reducible refine i_f not_false ?_))
    exact hk
def zbi (c : Prop) [Decidable c] : Int := if c then 1 else 0
theorem zbi_t {c : Prop} [Decidable c] (h : c) : zbi c = 1 := if_pos h
theorem zbi_f {c : Prop} [Decidable c] (h : ¬ c) : zbi c = 0 := if_neg h
/-- the reference on a fresh house: two posts, nothing else -/
def zFresh (M : zMem) : Prop := M 250 ((1 : Nat) : Int) = 2 ∧ M 250 ((4 : Nat) : Int) = 0 ∧ M 250 ((5 : Nat) : Int) = 0 ∧ M 250 ((11 : Nat) : Int) = 0 ∧ M 250 ((28 : Nat) : Int) = 0 ∧ M 250 ((33 : Nat) : Int) = 0 ∧ M 250 ((40 : Nat) : Int) = -1 ∧ (∀ j, M 251 j = 0)
theorem s_Model_isTelling {O : zOm} (hO : zWld O) (hS : zS O = zmS zC0) {t : Int} {M : zMem} {K : Option zV → zMem → Prop} (h0 : M 250 ((11 : Nat) : Int) = 0) (hk : K (some (0, 0)) M) : zR O F_Model_isTelling [(2, 250), (0, t)] M K := by
  apply r_Model_isTelling hO
  unfold B_Model_isTelling
  have f11 := zMF (k := 11) hS rfl; have zo := zMO hS
  by_cases h1 : 0 ≤ t
  · repeat (first | (with_reducible first | (show zew _ _ _ _ _ _; first | (show zew (zeL _) _ _ _ _ _; first | refine i_L0 ?_ | refine i_L1 ?_ | refine i_L2 ?_ | refine i_L3 ?_ | refine i_L4 ?_ | refine i_L5 ?_ | refine i_L6 ?_ | refine i_L7 ?_ | refine i_L8 ?_ | refine i_L9 ?_ | refine i_L10 ?_ | refine i_L11 ?_ | refine i_L12 ?_ | refine i_L13 ?_ | refine i_L14 ?_) | (show zew (zeA _) _ _ _ _ _; first | refine i_A0 ?_ | refine i_A1 ?_ | refine i_A2 ?_ | refine i_A3 ?_ | refine i_A4 ?_ | refine i_A5 ?_ | refine i_A6 ?_ | refine i_A7 ?_ | refine i_A8 ?_ | refine i_A9 ?_ | refine i_A10 ?_ | refine i_A11 ?_ | refine i_A12 ?_ | refine i_A13 ?_ | refine i_A14 ?_) | refine i_I ?_ | refine i_F ?_ | refine i_FR ?_ | refine i_IA ?_ | refine i_Add ?_ | refine i_Sub ?_ | refine i_And ?_ | refine i_Len ?_ | refine i_Call ?_ | refine i_RA ?_ | refine i_Ldc ?_ | refine i_LdcL ?_ | refine i_IL ?_ | refine i_Null ?_ | refine i_Mul ?_ | refine i_Div ?_ | refine i_Rem ?_ | refine i_Or ?_ | refine i_Xor ?_ | refine i_Shl ?_ | refine i_Shr ?_ | refine i_Ushr ?_ | refine i_AddL ?_ | refine i_SubL ?_ | refine i_MulL ?_ | refine i_CmpL ?_ | refine i_Neg ?_ | refine i_I2L ?_ | refine i_L2I ?_ | refine i_I2B ?_ | refine i_ZA ?_ | refine i_BA ?_ | refine i_LA ?_ | refine i_MM ?_ | refine i_eIf ?_ | refine i_Ll0 ?_ | refine i_Ll1 ?_ | refine i_Ll2 ?_ | refine i_Ll3 ?_ | refine i_Ll4 ?_ | refine i_Ll5 ?_ | refine i_Ll6 ?_ | refine i_Ll7 ?_ | refine i_Ll8 ?_ | refine i_Ll9 ?_ | refine i_Ll10 ?_ | refine i_Ll11 ?_ | refine i_Ll12 ?_ | refine i_Ll13 ?_ | refine i_Ll14 ?_) | (show zsw _ _ _ _ _ _ _ _; first | refine i_Seq ?_ | refine i_Blk ?_ | refine i_Set ?_ | refine i_If ?_ | refine i_sCall ?_ | refine i_RetV ?_ | refine i_RetI ?_ | refine i_sIA ?_ | refine i_sF ?_ | refine i_Skip ?_ | refine i_FO ?_ | refine i_sLA ?_ | refine i_sZA ?_ | refine i_sBA ?_ | refine i_IO ?_ | refine i_Pop ?_ | refine i_Copy ?_ | refine i_RetZ ?_ | refine i_RetL ?_ | refine i_RetR ?_ | refine i_Ite ?_ | refine i_IteD ?_ | refine i_IfR ?_ | refine i_Brk ?_ | refine i_IfBrk ?_ | refine i_Sw ?_ | refine i_Inc0 ?_ | refine i_Inc1 ?_ | refine i_Inc2 ?_ | refine i_Inc3 ?_ | refine i_Inc4 ?_ | refine i_Inc5 ?_ | refine i_Inc6 ?_ | refine i_Inc7 ?_ | refine i_Inc8 ?_ | refine i_Inc9 ?_ | refine i_Inc10 ?_ | refine i_Inc11 ?_ | refine i_Inc12 ?_ | refine i_Inc13 ?_ | refine i_Inc14 ?_) | (show zcw _ _ _ _ _ _ _; first | refine i_cN ?_ | refine i_cNot ?_ | refine i_cAnd ?_ | refine i_cOr ?_ | refine i_cIf ?_ | refine i_cI_eq ?_ | refine i_cI_ne ?_ | refine i_cI_lt ?_ | refine i_cI_ge ?_ | refine i_cI_gt ?_ | refine i_cI_le ?_ | refine i_cZ_eq ?_ | refine i_cZ_ne ?_ | refine i_cZ_lt ?_ | refine i_cZ_ge ?_ | refine i_cZ_gt ?_ | refine i_cZ_le ?_) | refine i_as0 ?_ | refine i_as1 ?_ | refine i_sw0 ?_ | refine i_sw1 ?_ | refine i_lab0 ?_ | refine i_lab1 ?_ | refine i_lab2 ?_ | refine i_lb0 ?_ | refine i_lb1 ?_ | refine i_recv1 ?_ | refine i_recv2 ?_ | refine i_turn ?_ | refine i_up ?_) | (with_reducible refine i_recv0 (by assumption) ?_) | (with_reducible refine i_fld (by assumption) ?_) | (with_reducible refine i_fldR (by assumption) ?_) | (with_reducible refine i_in (by assumption) (by omega) (by omega) ?_) | (with_reducible refine i_copy (by assumption) (by assumption) (by omega) ?_) | (with_reducible refine i_len (by assumption) (by omega) ?_) | simp only [w_set0, w_set1, w_setn0, w_setn1] | rw [w_setT] | rw [zx_inc (by omega)] | rw [zx_addc (by omega)] | rw [zx_cadd (by omega)] | rw [zx_add (by omega)] | rw [zx_subc (by omega) (by omega)] | rw [zx_sub (by omega) (by omega)] | rw [zx_mulc (by omega)] | rw [zx_cmul (by omega)] | rw [zx_divc (by omega)] | rw [zx_modc] | rw [zx_s (by omega) (by omega)] | (with_reducible refine i_t (by omega) ?_) | (with_reducible refine i_f (by omega) ?_) | (with_reducible refine i_z (Or.inl rfl) ?_) | (with_reducible refine i_z (Or.inr rfl) ?_) | (with_reducible refine i_nn (by decide) ?_) | (with_reducible refine And.intro (Or.inr trivial) ?_) | (with_reducible refine And.intro (Or.inl trivial) ?_) | (with_reducible refine i_t trivial ?_) | (with_reducible refine i_f not_false ?_))
    exact hk
  · repeat (first | (with_reducible first | (show zew _ _ _ _ _ _; first | (show zew (zeL _) _ _ _ _ _; first | refine i_L0 ?_ | refine i_L1 ?_ | refine i_L2 ?_ | refine i_L3 ?_ | refine i_L4 ?_ | refine i_L5 ?_ | refine i_L6 ?_ | refine i_L7 ?_ | refine i_L8 ?_ | refine i_L9 ?_ | refine i_L10 ?_ | refine i_L11 ?_ | refine i_L12 ?_ | refine i_L13 ?_ | refine i_L14 ?_) | (show zew (zeA _) _ _ _ _ _; first | refine i_A0 ?_ | refine i_A1 ?_ | refine i_A2 ?_ | refine i_A3 ?_ | refine i_A4 ?_ | refine i_A5 ?_ | refine i_A6 ?_ | refine i_A7 ?_ | refine i_A8 ?_ | refine i_A9 ?_ | refine i_A10 ?_ | refine i_A11 ?_ | refine i_A12 ?_ | refine i_A13 ?_ | refine i_A14 ?_) | refine i_I ?_ | refine i_F ?_ | refine i_FR ?_ | refine i_IA ?_ | refine i_Add ?_ | refine i_Sub ?_ | refine i_And ?_ | refine i_Len ?_ | refine i_Call ?_ | refine i_RA ?_ | refine i_Ldc ?_ | refine i_LdcL ?_ | refine i_IL ?_ | refine i_Null ?_ | refine i_Mul ?_ | refine i_Div ?_ | refine i_Rem ?_ | refine i_Or ?_ | refine i_Xor ?_ | refine i_Shl ?_ | refine i_Shr ?_ | refine i_Ushr ?_ | refine i_AddL ?_ | refine i_SubL ?_ | refine i_MulL ?_ | refine i_CmpL ?_ | refine i_Neg ?_ | refine i_I2L ?_ | refine i_L2I ?_ | refine i_I2B ?_ | refine i_ZA ?_ | refine i_BA ?_ | refine i_LA ?_ | refine i_MM ?_ | refine i_eIf ?_ | refine i_Ll0 ?_ | refine i_Ll1 ?_ | refine i_Ll2 ?_ | refine i_Ll3 ?_ | refine i_Ll4 ?_ | refine i_Ll5 ?_ | refine i_Ll6 ?_ | refine i_Ll7 ?_ | refine i_Ll8 ?_ | refine i_Ll9 ?_ | refine i_Ll10 ?_ | refine i_Ll11 ?_ | refine i_Ll12 ?_ | refine i_Ll13 ?_ | refine i_Ll14 ?_) | (show zsw _ _ _ _ _ _ _ _; first | refine i_Seq ?_ | refine i_Blk ?_ | refine i_Set ?_ | refine i_If ?_ | refine i_sCall ?_ | refine i_RetV ?_ | refine i_RetI ?_ | refine i_sIA ?_ | refine i_sF ?_ | refine i_Skip ?_ | refine i_FO ?_ | refine i_sLA ?_ | refine i_sZA ?_ | refine i_sBA ?_ | refine i_IO ?_ | refine i_Pop ?_ | refine i_Copy ?_ | refine i_RetZ ?_ | refine i_RetL ?_ | refine i_RetR ?_ | refine i_Ite ?_ | refine i_IteD ?_ | refine i_IfR ?_ | refine i_Brk ?_ | refine i_IfBrk ?_ | refine i_Sw ?_ | refine i_Inc0 ?_ | refine i_Inc1 ?_ | refine i_Inc2 ?_ | refine i_Inc3 ?_ | refine i_Inc4 ?_ | refine i_Inc5 ?_ | refine i_Inc6 ?_ | refine i_Inc7 ?_ | refine i_Inc8 ?_ | refine i_Inc9 ?_ | refine i_Inc10 ?_ | refine i_Inc11 ?_ | refine i_Inc12 ?_ | refine i_Inc13 ?_ | refine i_Inc14 ?_) | (show zcw _ _ _ _ _ _ _; first | refine i_cN ?_ | refine i_cNot ?_ | refine i_cAnd ?_ | refine i_cOr ?_ | refine i_cIf ?_ | refine i_cI_eq ?_ | refine i_cI_ne ?_ | refine i_cI_lt ?_ | refine i_cI_ge ?_ | refine i_cI_gt ?_ | refine i_cI_le ?_ | refine i_cZ_eq ?_ | refine i_cZ_ne ?_ | refine i_cZ_lt ?_ | refine i_cZ_ge ?_ | refine i_cZ_gt ?_ | refine i_cZ_le ?_) | refine i_as0 ?_ | refine i_as1 ?_ | refine i_sw0 ?_ | refine i_sw1 ?_ | refine i_lab0 ?_ | refine i_lab1 ?_ | refine i_lab2 ?_ | refine i_lb0 ?_ | refine i_lb1 ?_ | refine i_recv1 ?_ | refine i_recv2 ?_ | refine i_turn ?_ | refine i_up ?_) | (with_reducible refine i_recv0 (by assumption) ?_) | (with_reducible refine i_fld (by assumption) ?_) | (with_reducible refine i_fldR (by assumption) ?_) | (with_reducible refine i_in (by assumption) (by omega) (by omega) ?_) | (with_reducible refine i_copy (by assumption) (by assumption) (by omega) ?_) | (with_reducible refine i_len (by assumption) (by omega) ?_) | simp only [w_set0, w_set1, w_setn0, w_setn1] | rw [w_setT] | rw [zx_inc (by omega)] | rw [zx_addc (by omega)] | rw [zx_cadd (by omega)] | rw [zx_add (by omega)] | rw [zx_subc (by omega) (by omega)] | rw [zx_sub (by omega) (by omega)] | rw [zx_mulc (by omega)] | rw [zx_cmul (by omega)] | rw [zx_divc (by omega)] | rw [zx_modc] | rw [zx_s (by omega) (by omega)] | (with_reducible refine i_t (by omega) ?_) | (with_reducible refine i_f (by omega) ?_) | (with_reducible refine i_z (Or.inl rfl) ?_) | (with_reducible refine i_z (Or.inr rfl) ?_) | (with_reducible refine i_nn (by decide) ?_) | (with_reducible refine And.intro (Or.inr trivial) ?_) | (with_reducible refine And.intro (Or.inl trivial) ?_) | (with_reducible refine i_t trivial ?_) | (with_reducible refine i_f not_false ?_))
    exact hk
end
section
-- part a0.lib.lean.txt
/-! ===== more rules; truth values in cells; views of the reference's cells ===== -/
def zbI (b : Bool) : Int := if b = true then 1 else 0
theorem zbI_01 (b : Bool) : zbI b = 0 ∨ zbI b = 1 := by cases b; exact Or.inl rfl; exact Or.inr rfl
theorem zbI_ne {b : Bool} : zbI b ≠ 0 ↔ b = true := by cases b <;> simp [zbI]
theorem zbI_eq {b : Bool} : zbI b = 0 ↔ b = false := by cases b <;> simp [zbI]
theorem zbI_in {b c : Bool} : zbI b = zbI c ↔ b = c := by cases b <;> cases c <;> simp [zbI]
theorem zbI_t : zbI true = 1 := rfl
theorem zbI_f : zbI false = 0 := rfl
theorem i_br {c A B : Prop} (h1 : c → A) (h2 : ¬ c → B) : (c → A) ∧ (¬ c → B) := ⟨h1, h2⟩
theorem i_bne {b : Bool} {A B : Prop} (h1 : b = true → A) (h2 : b = false → B) : (zbI b ≠ 0 → A) ∧ (¬ zbI b ≠ 0 → B) := ⟨fun q => h1 (zbI_ne.mp q), fun q => h2 (zbI_eq.mp (Classical.not_not.mp q))⟩
theorem i_beq {b : Bool} {A B : Prop} (h1 : b = false → A) (h2 : b = true → B) : (zbI b = 0 → A) ∧ (¬ zbI b = 0 → B) := ⟨fun q => h1 (zbI_eq.mp q), fun q => h2 (zbI_ne.mp q)⟩
theorem i_dne {P : Prop} [Decidable P] {A B : Prop} (h1 : P → A) (h2 : ¬ P → B) : (zbI (decide P) ≠ 0 → A) ∧ (¬ zbI (decide P) ≠ 0 → B) := i_bne (fun q => h1 (of_decide_eq_true q)) (fun q => h2 (of_decide_eq_false q))
theorem i_deq {P : Prop} [Decidable P] {A B : Prop} (h1 : ¬ P → A) (h2 : P → B) : (zbI (decide P) = 0 → A) ∧ (¬ zbI (decide P) = 0 → B) := i_beq (fun q => h1 (of_decide_eq_false q)) (fun q => h2 (of_decide_eq_true q))
theorem i_bb {b c : Bool} {A B : Prop} (h : (b = c → A) ∧ (¬ b = c → B)) : (zbI b = zbI c → A) ∧ (¬ zbI b = zbI c → B) := by rw [zbI_in]; exact h
theorem i_zin {S : List zSh} {a j y : Int} {n : Nat} {P : Prop} (hy : y = 0 ∨ y = 1) (h : zArr S a .boolean n) (h1 : 0 ≤ j) (h2 : j < (n : Nat)) (k : P) : ((y = 0 ∨ y = 1) ∧ zIn S a .boolean j) ∧ P := ⟨⟨hy, n, h, h1, h2⟩, k⟩
theorem zg_s (M : zMem) (a : Int) (f : Int → Int) (j v : Int) : zput M a (zup f j v) a j = v := by rw [zput_self, zup_self]
theorem zg_n (M : zMem) {a b : Int} (f : Int → Int) (k : Int) (h : b ≠ a) : zput M a f b k = M b k := by rw [zput_ne _ _ h]
theorem zg_m (M : zMem) (a : Int) (f : Int → Int) (j v : Int) {k : Int} (h : k ≠ j) : zput M a (zup f j v) a k = f k := by rw [zput_self, zup_ne _ _ h]
theorem zg_i (M : zMem) (a b : Int) (j v k : Int) : zput M a (zup (M a) j v) b k = if b = a ∧ k = j then v else M b k := by
  unfold zput zup
  by_cases h : b = a
  · subst h; by_cases q : k = j <;> simp [q]
  · simp [h]
theorem zget_ap (p x : zLoc) (k : Nat) : zget (p ++ x) (p.length + k) = zget x k := by
  induction p with
  | nil => simp
  | cons a p ih => rw [List.cons_append, List.length_cons, show p.length + 1 + k = (p.length + k) + 1 by omega]; exact ih
theorem zsetl_ap (p x : zLoc) (k : Nat) (v : Int) : zsetl (p ++ x) (p.length + k) v = p ++ zsetl x k v := by
  induction p with
  | nil => simp
  | cons a p ih => rw [List.cons_append, List.length_cons, show p.length + 1 + k = (p.length + k) + 1 by omega, List.cons_append]; rw [← ih]; rfl
theorem w_ltP {S : List zSh} {Rn : zRnT} {kt kf : zK} {ρ : zLoc} {M : zMem} {k x n : Nat} (h1 : zget ρ k = ((x : Nat) : Int)) (h2 : zget ρ 0 = 250) (hF : zFld S 250 12 1 = some none) (h3 : M 250 ((1 : Nat) : Int) = ((n : Nat) : Int)) (a : x < n → kt ρ M) (b : ¬ x < n → kf ρ M) : zcw (zcI .lt (zeL k) (zeF 7 12 1 (zeA 0))) S Rn kt kf ρ M := by
  refine i_cI_lt ?_
  rw [w_L]
  refine i_F ?_
  rw [w_A, h2]
  refine ⟨hF, ?_⟩
  rw [h1, h3]
  exact ⟨fun q => a (by omega), fun q => b (by omega)⟩
/-- the reference's two loops over pairs of posts -/
theorem w_Pairs {S : List zSh} {Rn : zRnT} {kn : zK} {kb : Nat → zK} {kr : Option zV → zMem → Prop} {U1 D1 U2 D2 ka : Nat} {BODY : zSt} {ρ : zLoc} {M : zMem} {n : Nat} (pre : Nat → Nat → zLoc) (I : Nat → Nat → zMem → Prop)
    (hpre : ∀ a b, ∃ q, pre a b = 250 :: q ∧ q.length + 1 = ka) (hF : zFld S 250 12 1 = some none) (hn : ∀ a b M, I a b M → M 250 ((1 : Nat) : Int) = ((n : Nat) : Int)) (hn2 : n ≤ 16) (hρ : ∃ l, ρ = pre 0 0 ++ ((0 : Nat) : Int) :: l) (h0 : I 0 0 M)
    (hrow : ∀ a M, a < n → I a 0 M → I a (a + 1) M ∧ pre a 0 = pre a (a + 1)) (hnx : ∀ a M, a < n → I a n M → I (a + 1) 0 M ∧ pre a n = pre (a + 1) 0)
    (hbody : ∀ a b l M (Y Z : zK), a < b → b < n → I a b M → (∀ l M', I a (b + 1) M' → Y (pre a (b + 1) ++ ((a : Nat) : Int) :: ((b : Nat) : Int) :: l) M') → zsw BODY S Rn Y (zlab Z Y (zlab kn Z kb)) kr (pre a b ++ ((a : Nat) : Int) :: ((b : Nat) : Int) :: l) M)
    (he : ∀ l M, I n 0 M → kn (pre n 0 ++ ((n : Nat) : Int) :: l) M) :
    zsw (zsFor U1 D1 (zcI .lt (zeL ka) (zeF 7 12 1 (zeA 0))) (zsBlk (zsSeq (zsSet (ka + 1) (zeAdd (zeL ka) (zeI 1))) (zsFor U2 D2 (zcI .lt (zeL (ka + 1)) (zeF 7 12 1 (zeA 0))) BODY (zsInc (ka + 1) 1)))) (zsInc ka 1)) S Rn kn kb kr ρ M := by
  have hlen : ∀ a b, (pre a b).length = ka := fun a b => by
    obtain ⟨q, h1, h2⟩ := hpre a b
    rw [h1, List.length_cons]; exact h2
  have hz : ∀ a b x k, zget (pre a b ++ x) (ka + k) = zget x k := fun a b x k => by rw [← hlen a b]; exact zget_ap _ _ _
  have hs : ∀ a b x k v, zsetl (pre a b ++ x) (ka + k) v = pre a b ++ zsetl x k v := fun a b x k v => by rw [← hlen a b]; exact zsetl_ap _ _ _ _
  have h00 : ∀ a b x, zget (pre a b ++ x) 0 = 250 := fun a b x => by
    obtain ⟨q, h1, h2⟩ := hpre a b
    rw [h1]; rfl
  refine w_ForN n (fun a ρ M => (∃ l, ρ = pre a 0 ++ ((a : Nat) : Int) :: l) ∧ I a 0 M) ⟨hρ, h0⟩ ?_ ?_
  · rintro a ρ M X ha ⟨⟨l, rfl⟩, hI⟩ hX
    refine i_turn ?_
    refine w_ltP (x := a) (hz a 0 _ 0) (h00 a 0 _) hF (hn _ _ _ hI) (fun _ => ?_) (fun q => absurd ha q)
    refine i_Blk (i_Seq (i_Set (i_Add ?_)))
    rw [w_L, show zget (pre a 0 ++ ((a : Nat) : Int) :: l) ka = ((a : Nat) : Int) from hz a 0 _ 0]
    refine i_I ?_
    rw [show zw32 (((a : Nat) : Int) + 1) = ((a + 1 : Nat) : Int) from zx_inc (by omega), hs a 0 _ 1]
    obtain ⟨h1, h2⟩ := hrow a M ha hI
    refine w_ForN (n - (a + 1)) (fun k ρ M => (∃ l, ρ = pre a (a + 1 + k) ++ ((a : Nat) : Int) :: ((a + 1 + k : Nat) : Int) :: l) ∧ I a (a + 1 + k) M) ⟨⟨l.tail, by rw [h2]; show pre a (a + 1) ++ ((a : Nat) : Int) :: zsetl l 0 _ = _; rw [w_setT]⟩, h1⟩ ?_ ?_
    · rintro k ρ M2 X1 hk ⟨⟨l2, rfl⟩, hI2⟩ hX1
      refine i_turn ?_
      refine w_ltP (x := a + 1 + k) (hz a _ _ 1) (h00 a _ _) hF (hn _ _ _ hI2) (fun _ => ?_) (fun q => absurd (by omega) q)
      refine hbody a (a + 1 + k) l2 M2 _ _ (by omega) (by omega) hI2 (fun l3 M3 hI3 => ?_)
      refine i_up ?_
      rw [w_Inc, hz a _ _ 1, hs a _ _ 1]
      show X1 (pre a (a + 1 + k + 1) ++ ((a : Nat) : Int) :: zsetl (((a + 1 + k : Nat) : Int) :: l3) 0 (zw32 (((a + 1 + k : Nat) : Int) + 1))) M3
      rw [w_set0, show zw32 (((a + 1 + k : Nat) : Int) + 1) = ((a + 1 + k + 1 : Nat) : Int) from zx_inc (by omega)]
      exact hX1 _ _ ⟨⟨l3, rfl⟩, hI3⟩
    · rintro ρ M2 X1 ⟨⟨l2, rfl⟩, hI2⟩
      rw [show a + 1 + (n - (a + 1)) = n by omega] at hI2 ⊢
      obtain ⟨h3, h4⟩ := hnx a M2 ha hI2
      refine i_turn ?_
      refine w_ltP (x := n) (hz a _ _ 1) (h00 a _ _) hF (hn _ _ _ hI2) (fun q => absurd q (Nat.lt_irrefl _)) (fun _ => ?_)
      refine i_up ?_
      rw [w_Inc, show zget (pre a n ++ ((a : Nat) : Int) :: ((n : Nat) : Int) :: l2) ka = ((a : Nat) : Int) from hz a n _ 0, show zsetl (pre a n ++ ((a : Nat) : Int) :: ((n : Nat) : Int) :: l2) ka (zw32 (((a : Nat) : Int) + 1)) = pre a n ++ zsetl (((a : Nat) : Int) :: ((n : Nat) : Int) :: l2) 0 (zw32 (((a : Nat) : Int) + 1)) from hs a n _ 0 _, w_set0, show zw32 (((a : Nat) : Int) + 1) = ((a + 1 : Nat) : Int) from zx_inc (by omega), h4]
      exact hX _ _ ⟨⟨_, rfl⟩, h3⟩
  · rintro ρ M X ⟨⟨l, rfl⟩, hI⟩
    refine i_turn ?_
    refine w_ltP (x := n) (hz n 0 _ 0) (h00 n 0 _) hF (hn _ _ _ hI) (fun q => absurd q (Nat.lt_irrefl _)) (fun _ => ?_)
    exact he _ _ hI
theorem s_joins {O : zOm} (hO : zWld O) {n a b P : Nat} {T : Nat → Nat → Bool} {M : zMem} {K : Option zV → zMem → Prop} (hn : zNet (zS O) n) (hM : zNR M n P T) (ha : a < 16) (hb : b < 16) (hk : K (some (0, zbI (T a b))) M) : zR O F_Net_joins [(2, (n : Int)), (0, (a : Int)), (0, (b : Int))] M K := s_Net_joins hO hn hM ha hb hk
theorem zg_o (M : zMem) {a b : Int} {j k : Int} (v : Int) (h : ¬ (b = a ∧ k = j)) : zput M a (zup (M a) j v) b k = M b k := by rw [zg_i, if_neg h]
end
section
-- part a1.mday.lean.txt
/-! ===== the reference: nets of days ===== -/
theorem m_isPost {O : zOm} (hO : zWld O) (hS : zS O = zmS zC0) {a : Int} {P : Nat} {M : zMem} {K : Option zV → zMem → Prop} (hP : M 250 ((1 : Nat) : Int) = ((P : Nat) : Int)) (hk : K (some (0, zbI (decide (0 ≤ a ∧ a < ((P : Nat) : Int))))) M) : zR O F_Model_isPost [(2, 250), (0, a)] M K := by
  apply r_Model_isPost hO
  unfold B_Model_isPost
  have f1 := zMF (k := 1) hS rfl; have zo := zMO hS
  (focus ((with_reducible refine i_RetZ (i_eIf (i_cAnd (i_cZ_ge (i_L1 ?_))))); (with_reducible refine i_br ?_ ?_ <;> intro hc); (focus ((with_reducible refine i_cI_lt (i_L1 (i_F (i_A0 ?_)))); (with_reducible refine i_fld (by assumption) ?_); (rw [hP]); (with_reducible refine i_br ?_ ?_ <;> intro hc); (focus ((with_reducible refine i_I ?_); (with_reducible refine i_z (Or.inr rfl) ?_))); rotate_left; (focus ((with_reducible refine i_I ?_); (with_reducible refine i_z (Or.inl rfl) ?_))); rotate_right)); rotate_left 2; (focus ((with_reducible refine i_I ?_); (with_reducible refine i_z (Or.inl rfl) ?_))); rotate_right 2))
  · rw [decide_eq_true (by omega)] at hk; exact hk
  · rw [decide_eq_false (by omega)] at hk; exact hk
  · rw [decide_eq_false (by omega)] at hk; exact hk
theorem m_isPair {O : zOm} (hO : zWld O) (hS : zS O = zmS zC0) {a b : Int} {P : Nat} {M : zMem} {K : Option zV → zMem → Prop} (hP : M 250 ((1 : Nat) : Int) = ((P : Nat) : Int)) (hk : K (some (0, zbI (decide ((0 ≤ a ∧ a < ((P : Nat) : Int)) ∧ (0 ≤ b ∧ b < ((P : Nat) : Int)) ∧ a ≠ b)))) M) : zR O F_Model_isPair [(2, 250), (0, a), (0, b)] M K := by
  apply r_Model_isPair hO
  unfold B_Model_isPair
  have zo := zMO hS
  (focus ((with_reducible refine i_RetZ (i_eIf (i_cAnd (i_cAnd (i_cZ_ne (i_Call (i_as1 (i_A0 (i_as1 (i_L1 (i_as0 ?_))))))))))); (with_reducible refine i_recv0 (by assumption) ?_); (refine m_isPost hO hS hP ⟨_, rfl, ?_⟩); (with_reducible refine i_dne ?_ ?_ <;> intro hc); (focus ((with_reducible refine i_cZ_ne (i_Call (i_as1 (i_A0 (i_as1 (i_L2 (i_as0 ?_))))))); (with_reducible refine i_recv0 (by assumption) ?_); (refine m_isPost hO hS hP ⟨_, rfl, ?_⟩); (with_reducible refine i_dne ?_ ?_ <;> intro hc); (focus ((with_reducible refine i_cI_ne (i_L1 (i_L2 ?_))); (with_reducible refine i_br ?_ ?_ <;> intro hc); (focus ((with_reducible refine i_I ?_); (with_reducible refine i_z (Or.inr rfl) ?_))); rotate_left; (focus ((with_reducible refine i_I ?_); (with_reducible refine i_z (Or.inl rfl) ?_))); rotate_right)); rotate_left 2; (focus ((with_reducible refine i_I ?_); (with_reducible refine i_z (Or.inl rfl) ?_))); rotate_right 2)); rotate_left 3; (focus ((with_reducible refine i_I ?_); (with_reducible refine i_z (Or.inl rfl) ?_))); rotate_right 3))
  all_goals first | (rw [decide_eq_true (by omega)] at hk; exact hk) | (rw [decide_eq_false (by omega)] at hk; exact hk)
theorem m_isDay {O : zOm} (hO : zWld O) (hS : zS O = zmS zC0) {a : Int} {P : Nat} {M : zMem} {K : Option zV → zMem → Prop} (hP : M 250 ((4 : Nat) : Int) = ((P : Nat) : Int)) (hk : K (some (0, zbI (decide (0 ≤ a ∧ a ≤ ((P : Nat) : Int))))) M) : zR O F_Model_isDay [(2, 250), (0, a)] M K := by
  apply r_Model_isDay hO
  unfold B_Model_isDay
  have f4 := zMF (k := 4) hS rfl; have zo := zMO hS
  (focus ((with_reducible refine i_RetZ (i_eIf (i_cAnd (i_cZ_ge (i_L1 ?_))))); (with_reducible refine i_br ?_ ?_ <;> intro hc); (focus ((with_reducible refine i_cI_le (i_L1 (i_F (i_A0 ?_)))); (with_reducible refine i_fld (by assumption) ?_); (rw [hP]); (with_reducible refine i_br ?_ ?_ <;> intro hc); (focus ((with_reducible refine i_I ?_); (with_reducible refine i_z (Or.inr rfl) ?_))); rotate_left; (focus ((with_reducible refine i_I ?_); (with_reducible refine i_z (Or.inl rfl) ?_))); rotate_right)); rotate_left 2; (focus ((with_reducible refine i_I ?_); (with_reducible refine i_z (Or.inl rfl) ?_))); rotate_right 2))
  all_goals first | (rw [decide_eq_true (by omega)] at hk; exact hk) | (rw [decide_eq_false (by omega)] at hk; exact hk)
theorem m_isTelling {O : zOm} (hO : zWld O) (hS : zS O = zmS zC0) {a : Int} {P : Nat} {M : zMem} {K : Option zV → zMem → Prop} (hP : M 250 ((11 : Nat) : Int) = ((P : Nat) : Int)) (hk : K (some (0, zbI (decide (0 ≤ a ∧ a < ((P : Nat) : Int))))) M) : zR O F_Model_isTelling [(2, 250), (0, a)] M K := by
  apply r_Model_isTelling hO
  unfold B_Model_isTelling
  have f11 := zMF (k := 11) hS rfl; have zo := zMO hS
  (focus ((with_reducible refine i_RetZ (i_eIf (i_cAnd (i_cZ_ge (i_L1 ?_))))); (with_reducible refine i_br ?_ ?_ <;> intro hc); (focus ((with_reducible refine i_cI_lt (i_L1 (i_F (i_A0 ?_)))); (with_reducible refine i_fld (by assumption) ?_); (rw [hP]); (with_reducible refine i_br ?_ ?_ <;> intro hc); (focus ((with_reducible refine i_I ?_); (with_reducible refine i_z (Or.inr rfl) ?_))); rotate_left; (focus ((with_reducible refine i_I ?_); (with_reducible refine i_z (Or.inl rfl) ?_))); rotate_right)); rotate_left 2; (focus ((with_reducible refine i_I ?_); (with_reducible refine i_z (Or.inl rfl) ?_))); rotate_right 2))
  all_goals first | (rw [decide_eq_true (by omega)] at hk; exact hk) | (rw [decide_eq_false (by omega)] at hk; exact hk)
theorem m_bitsOf {O : zOm} (hO : zWld O) (hS : zS O = zmS zC0) {k : Nat} (hk1 : k ≤ 128) {M : zMem} {K : Option zV → zMem → Prop} (hk : K (some (0, ((zBits k : Nat) : Int))) M) : zR O F_Model_bitsOf [(0, ((k : Nat) : Int))] M K := by
  apply r_Model_bitsOf hO
  have hin := zBits_in k
  unfold B_Model_bitsOf
  ((with_reducible refine i_Seq (i_Set (i_I (i_Seq ?_)))); simp only [w_set0, w_set1, w_setn0, w_setn1])
  refine w_WhileN (zBits k - 1) (fun b ρ M' => ρ = [((k : Nat) : Int), ((b + 1 : Nat) : Int)] ∧ M' = M) ⟨rfl, rfl⟩ ?_ ?_
  · rintro b ρ M1 X hb ⟨rfl, rfl⟩ hX
    have h1 := (zBits_lt (b := b + 1) hk1 (by omega) (by omega)).mpr (by omega)
    ((with_reducible refine i_turn (i_cI_lt (i_Shl (i_I (i_L1 (i_L0 ?_)))))); (rw [yshl_1 (by omega)]); (with_reducible refine i_t (by omega) ?_); (with_reducible refine i_Inc1 ?_); rw [zx_inc (by omega)]; simp only [w_set0, w_set1, w_setn0, w_setn1])
    exact hX _ _ ⟨rfl, rfl⟩
  · rintro ρ M1 X ⟨rfl, rfl⟩
    have h1 := zBits_lt (b := zBits k) hk1 (by omega) (by omega)
    rw [show zBits k - 1 + 1 = zBits k by omega]
    ((with_reducible refine i_turn (i_cI_lt (i_Shl (i_I (i_L1 (i_L0 ?_)))))); (rw [yshl_1 (by omega)]); (with_reducible refine i_f (by omega) ?_); (with_reducible refine i_RetI (i_L1 ?_)))
    exact hk
theorem m_exceptBits {O : zOm} (hO : zWld O) (hS : zS O = zmS zC0) {P : Nat} {M : zMem} {K : Option zV → zMem → Prop} (hP : M 250 ((1 : Nat) : Int) = ((P : Nat) : Int)) (hP2 : P ≤ 16) (hk : K (some (0, ((2 + 2 * zBits P : Nat) : Int))) M) : zR O F_Model_exceptBits [(2, 250)] M K := by
  have hin := zBits_in P
  apply r_Model_exceptBits hO
  unfold B_Model_exceptBits
  have f1 := zMF (k := 1) hS rfl; have zo := zMO hS
  ((with_reducible refine i_RetI (i_Add (i_I (i_Mul (i_I (i_Call (i_as1 (i_F (i_A0 ?_))))))))); (with_reducible refine i_fld (by assumption) ?_); (with_reducible refine i_as0 (i_recv1 ?_)); (rw [hP]); (refine m_bitsOf hO hS (by omega) ⟨_, rfl, ?_⟩); rw [zx_cmul (by omega)]; rw [zx_cadd (by omega)])
  exact hk
/-- a table of pairs of posts in a cell of the reference -/
def rMx (M : zMem) (c : Nat) (T : Nat → Nat → Bool) : Prop := ∀ a b : Nat, a < 16 → b < 16 → M ((c : Nat) : Int) ((16 * a + b : Nat) : Int) = zbI (T a b)
theorem rMx.to {M M' : zMem} {c : Nat} {T : Nat → Nat → Bool} (h : rMx M c T) (e : ∀ j : Int, M' ((c : Nat) : Int) j = M ((c : Nat) : Int) j) : rMx M' c T := fun a b ha hb => by rw [e]; exact h a b ha hb
theorem rMx.cp {M M' : zMem} {c c' : Nat} {T : Nat → Nat → Bool} (h : rMx M c T) (e : ∀ j : Nat, j < 256 → M' ((c' : Nat) : Int) j = M ((c : Nat) : Int) j) : rMx M' c' T := fun a b ha hb => by rw [e _ (by omega)]; exact h a b ha hb
theorem m_aimAtNet {O : zOm} (hO : zWld O) (hS : zS O = zmS zC0) {T : Nat → Nat → Bool} {M : zMem} {K : Option zV → zMem → Prop} (hT : rMx M 251 T) (hb : ∀ j : Nat, j < 256 → M ((251 : Nat) : Int) j = 0 ∨ M ((251 : Nat) : Int) j = 1) (hk : ∀ M', (∀ b j, ¬ b = 267 → M' b j = M b j) → rMx M' 267 T → K none M') : zR O F_Model_aimAtNet [(2, 250)] M K := by
  apply r_Model_aimAtNet hO
  unfold B_Model_aimAtNet
  have f21 := zMF (k := 21) hS rfl; have a267 := zMA (a := 267) (ty := .boolean) (n := 256) hS rfl; have f2 := zMF (k := 2) hS rfl; have a251 := zMA (a := 251) (ty := .boolean) (n := 256) hS rfl; have zo := zMO hS
  ((with_reducible refine i_Seq (i_Blk (i_Seq (i_Set (i_I ?_))))); simp only [w_set0, w_set1, w_setn0, w_setn1])
  refine w_ForN 256 (fun k ρ M' => ρ = [250, ((k : Nat) : Int)] ∧ (∀ b j, ¬ b = 267 → M' b j = M b j) ∧ ∀ j : Nat, j < k → M' ((267 : Nat) : Int) j = M ((251 : Nat) : Int) j) ⟨rfl, fun _ _ _ => rfl, fun j hj => absurd hj (by omega)⟩ ?_ ?_
  · rintro k ρ M1 X hk1 ⟨rfl, hf, h⟩ hX
    have hb1 : M1 ((251 : Nat) : Int) ((k : Nat) : Int) = 0 ∨ M1 ((251 : Nat) : Int) ((k : Nat) : Int) = 1 := by rw [hf _ _ (by omega)]; exact hb k hk1
    ((with_reducible refine i_turn (i_cI_lt (i_L1 (i_I ?_)))); (with_reducible refine i_t (by omega) ?_); (with_reducible refine i_sZA (i_FR (i_A0 ?_))); (with_reducible refine i_fldR (by assumption) ?_); (with_reducible refine i_L1 (i_ZA (i_FR (i_A0 ?_)))); (with_reducible refine i_fldR (by assumption) ?_); (with_reducible refine i_L1 ?_); (with_reducible refine i_in (by assumption) (by omega) (by omega) ?_); (with_reducible refine i_zin (by assumption) (by assumption) (by omega) (by omega) ?_); (with_reducible refine i_up (i_Inc1 ?_)); rw [zx_inc (by omega)]; simp only [w_set0, w_set1, w_setn0, w_setn1])
    refine hX _ _ ⟨rfl, fun b j q => ?_, fun j hj => ?_⟩
    · rw [zg_n _ _ _ (by omega)]; exact hf b j q
    · by_cases e : j = k
      · subst e; rw [zg_s]; exact hf _ _ (by omega)
      · rw [zg_m _ _ _ _ _ (by omega)]; exact h j (by omega)
  · rintro ρ M1 X ⟨rfl, hf, h⟩
    ((with_reducible refine i_turn (i_cI_lt (i_L1 (i_I ?_)))); (with_reducible refine i_f (by omega) ?_); (with_reducible refine i_RetV ?_))
    exact hk _ hf (hT.cp h)
/-- a table with one place put anew -/
def zmu (T : Nat → Nat → Bool) (a b : Nat) (v : Bool) : Nat → Nat → Bool := fun p q => if p = a ∧ q = b then v else T p q
theorem rMx.up {M : zMem} {c a b : Nat} {T : Nat → Nat → Bool} (h : rMx M c T) (ha : a < 16) (hb : b < 16) {x : Int} {v : Bool} (hx : x = zbI v) : rMx (zput M ((c : Nat) : Int) (zup (M ((c : Nat) : Int)) ((16 * a + b : Nat) : Int) x)) c (zmu T a b v) := fun p q hp hq => by
  unfold zmu
  by_cases e : p = a ∧ q = b
  · obtain ⟨rfl, rfl⟩ := e
    rw [zg_s, if_pos ⟨rfl, rfl⟩, hx]
  · rw [zg_m _ _ _ _ _ (by omega), if_neg e]; exact h p q hp hq
theorem rMx.ext {M : zMem} {c : Nat} {T U : Nat → Nat → Bool} (h : rMx M c T) (e : ∀ p q, p < 16 → q < 16 → T p q = U p q) : rMx M c U := fun p q hp hq => by rw [← e p q hp hq]; exact h p q hp hq
theorem rMx.ne {M : zMem} {c d : Nat} {T : Nat → Nat → Bool} (h : rMx M c T) (e : c ≠ d) (f : Int → Int) : rMx (zput M ((d : Nat) : Int) f) c T := fun p q hp hq => by rw [zg_n _ _ _ (by omega)]; exact h p q hp hq
/-- the net behind the first k changes that came up to a day -/
def zrep (A B : Nat → Nat) (I : Nat → Bool) (D : Nat → Nat) (d : Nat) : Nat → Nat → Nat → Bool
  | 0 => fun _ _ => false
  | k + 1 => if D k ≤ d then zmu (zmu (zrep A B I D d k) (A k) (B k) (I k)) (B k) (A k) (I k) else zrep A B I D d k
/-- the changes as the reference keeps them -/
def rCh (M : zMem) (c : Nat) (A B : Nat → Nat) (I : Nat → Bool) (D : Nat → Nat) : Prop := M 250 ((5 : Nat) : Int) = ((c : Nat) : Int) ∧ c ≤ 300 ∧ ∀ k : Nat, k < c → M ((253 : Nat) : Int) k = ((A k : Nat) : Int) ∧ M ((254 : Nat) : Int) k = ((B k : Nat) : Int) ∧ M ((255 : Nat) : Int) k = zbI (I k) ∧ M ((256 : Nat) : Int) k = ((D k : Nat) : Int) ∧ A k < 16 ∧ B k < 16
theorem m_asOf {O : zOm} (hO : zWld O) (hS : zS O = zmS zC0) {c d : Nat} {A B : Nat → Nat} {I : Nat → Bool} {D : Nat → Nat} {M : zMem} {K : Option zV → zMem → Prop} (hC : rCh M c A B I D) (hk : ∀ M', (∀ b j, ¬ b = 257 → M' b j = M b j) → rMx M' 257 (zrep A B I D d c) → K none M') : zR O F_Model_asOf [(2, 250), (0, ((d : Nat) : Int))] M K := by
  obtain ⟨h5, h300, hC⟩ := hC
  apply r_Model_asOf hO
  unfold B_Model_asOf
  have f10 := zMF (k := 10) hS rfl; have a257 := zMA (a := 257) (ty := .boolean) (n := 256) hS rfl; have f5 := zMF (k := 5) hS rfl; have f9 := zMF (k := 9) hS rfl; have a256 := zMA (a := 256) (ty := .int) (n := 300) hS rfl; have f6 := zMF (k := 6) hS rfl; have a253 := zMA (a := 253) (ty := .int) (n := 300) hS rfl; have f7 := zMF (k := 7) hS rfl; have a254 := zMA (a := 254) (ty := .int) (n := 300) hS rfl; have f8 := zMF (k := 8) hS rfl; have a255 := zMA (a := 255) (ty := .boolean) (n := 300) hS rfl; have zo := zMO hS
  ((with_reducible refine i_Seq (i_Seq (i_Blk (i_Seq (i_Set (i_I ?_)))))); simp only [w_set0, w_set1, w_setn0, w_setn1])
  refine w_ForN 256 (fun k ρ M' => ρ = [250, ((d : Nat) : Int), ((k : Nat) : Int)] ∧ (∀ b j, ¬ b = 257 → M' b j = M b j) ∧ ∀ j : Nat, j < k → M' ((257 : Nat) : Int) j = 0) ⟨rfl, fun _ _ _ => rfl, fun j hj => absurd hj (by omega)⟩ ?_ ?_
  · rintro k ρ M1 X hk1 ⟨rfl, hf, h⟩ hX
    ((with_reducible refine i_turn (i_cI_lt (i_L2 (i_I ?_)))); (with_reducible refine i_t (by omega) ?_); (with_reducible refine i_sZA (i_FR (i_A0 ?_))); (with_reducible refine i_fldR (by assumption) ?_); (with_reducible refine i_L2 (i_I ?_)); (with_reducible refine i_zin (Or.inl rfl) (by assumption) (by omega) (by omega) ?_); (with_reducible refine i_up (i_Inc2 ?_)); rw [zx_inc (by omega)]; simp only [w_set0, w_set1, w_setn0, w_setn1])
    refine hX _ _ ⟨rfl, (by intro b j q; ((rw [zg_n _ _ _ (by omega)])); first | done | rfl | exact hf b j (by omega)), fun j hj => ?_⟩
    by_cases e : j = k
    · subst e; rw [zg_s]
    · rw [zg_m _ _ _ _ _ (by omega)]; exact h j (by omega)
  · rintro ρ M1 X ⟨rfl, hf, h⟩
    ((with_reducible refine i_turn (i_cI_lt (i_L2 (i_I ?_)))); (with_reducible refine i_f (by omega) ?_); (with_reducible refine i_Blk (i_Seq (i_Set (i_I ?_)))); simp only [w_set0, w_set1, w_setn0, w_setn1])
    refine w_ForN c (fun k ρ M' => ρ = [250, ((d : Nat) : Int), ((k : Nat) : Int)] ∧ (∀ b j, ¬ b = 257 → M' b j = M b j) ∧ rMx M' 257 (zrep A B I D d k)) ⟨rfl, hf, fun a b ha hb => h _ (by omega)⟩ ?_ ?_
    · rintro k ρ M2 X hk1 ⟨rfl, hf, h⟩ hX
      obtain ⟨e1, e2, e3, e4, e5, e6⟩ := hC k hk1
      have g5 : M2 250 ((5 : Nat) : Int) = ((c : Nat) : Int) := (hf _ _ (by omega)).trans h5
      have g1 : M2 ((253 : Nat) : Int) k = ((A k : Nat) : Int) := (hf _ _ (by omega)).trans e1
      have g2 : M2 ((254 : Nat) : Int) k = ((B k : Nat) : Int) := (hf _ _ (by omega)).trans e2
      have g3 : M2 ((255 : Nat) : Int) k = zbI (I k) := (hf _ _ (by omega)).trans e3
      have g4 : M2 ((256 : Nat) : Int) k = ((D k : Nat) : Int) := (hf _ _ (by omega)).trans e4
      by_cases hd : D k ≤ d
      · ((with_reducible refine i_turn (i_cI_lt (i_L2 (i_F (i_A0 ?_))))); (with_reducible refine i_fld (by assumption) ?_); (rw [g5]); (with_reducible refine i_t (by omega) ?_); (with_reducible refine i_Seq (i_IfBrk (i_cI_gt (i_IA (i_FR (i_A0 ?_)))))); (with_reducible refine i_fldR (by assumption) ?_); (with_reducible refine i_L2 ?_); (with_reducible refine i_in (by assumption) (by omega) (by omega) ?_); (with_reducible refine i_L1 ?_); (rw [g4]); (with_reducible refine i_f (by omega) ?_); (with_reducible refine i_Seq (i_sZA (i_FR (i_A0 ?_)))); (with_reducible refine i_fldR (by assumption) ?_); (with_reducible refine i_Add (i_Mul (i_I (i_IA (i_FR (i_A0 ?_)))))); (with_reducible refine i_fldR (by assumption) ?_); (with_reducible refine i_L2 ?_); (with_reducible refine i_in (by assumption) (by omega) (by omega) ?_); (with_reducible refine i_IA (i_FR (i_A0 ?_))); (with_reducible refine i_fldR (by assumption) ?_); (with_reducible refine i_L2 ?_); (with_reducible refine i_in (by assumption) (by omega) (by omega) ?_); (with_reducible refine i_ZA (i_FR (i_A0 ?_))); (with_reducible refine i_fldR (by assumption) ?_); (with_reducible refine i_L2 ?_); (with_reducible refine i_in (by assumption) (by omega) (by omega) ?_); (rw [g1]); (rw [g2]); (rw [g3]); rw [zx_cmul (by omega)]; rw [zx_add (by omega)]; (with_reducible refine i_zin (zbI_01 _) (by assumption) (by omega) (by omega) ?_); (with_reducible refine i_sZA (i_FR (i_A0 ?_))); (with_reducible refine i_fldR (by assumption) ?_); (with_reducible refine i_Add (i_Mul (i_I (i_IA (i_FR (i_A0 ?_)))))); (with_reducible refine i_fldR (by assumption) ?_); (with_reducible refine i_L2 ?_); (with_reducible refine i_in (by assumption) (by omega) (by omega) ?_); (with_reducible refine i_IA (i_FR (i_A0 ?_))); (with_reducible refine i_fldR (by assumption) ?_); (with_reducible refine i_L2 ?_); (with_reducible refine i_in (by assumption) (by omega) (by omega) ?_); (with_reducible refine i_ZA (i_FR (i_A0 ?_))); (with_reducible refine i_fldR (by assumption) ?_); (with_reducible refine i_L2 ?_); (with_reducible refine i_in (by assumption) (by omega) (by omega) ?_); rw [zg_n _ _ _ (by omega)]; rw [zg_n _ _ _ (by omega)]; rw [zg_n _ _ _ (by omega)]; (rw [g1]); (rw [g2]); (rw [g3]); rw [zx_cmul (by omega)]; rw [zx_add (by omega)]; (with_reducible refine i_zin (zbI_01 _) (by assumption) (by omega) (by omega) ?_); (with_reducible refine i_up (i_Inc2 ?_)); rw [zx_inc (by omega)]; simp only [w_set0, w_set1, w_setn0, w_setn1])
        refine hX _ _ ⟨rfl, (by intro b j q; ((rw [zg_n _ _ _ (by omega)]; rw [zg_n _ _ _ (by omega)])); first | done | rfl | exact hf b j (by omega)), ?_⟩
        unfold zrep
        rw [if_pos hd]
        exact (h.up e5 e6 rfl).up e6 e5 rfl
      · ((with_reducible refine i_turn (i_cI_lt (i_L2 (i_F (i_A0 ?_))))); (with_reducible refine i_fld (by assumption) ?_); (rw [g5]); (with_reducible refine i_t (by omega) ?_); (with_reducible refine i_Seq (i_IfBrk (i_cI_gt (i_IA (i_FR (i_A0 ?_)))))); (with_reducible refine i_fldR (by assumption) ?_); (with_reducible refine i_L2 ?_); (with_reducible refine i_in (by assumption) (by omega) (by omega) ?_); (with_reducible refine i_L1 ?_); (rw [g4]); (with_reducible refine i_t (by omega) ?_); (with_reducible refine i_lab1 (i_up (i_Inc2 ?_))); rw [zx_inc (by omega)]; simp only [w_set0, w_set1, w_setn0, w_setn1])
        refine hX _ _ ⟨rfl, hf, ?_⟩
        unfold zrep
        rw [if_neg hd]
        exact h
    · rintro ρ M2 X ⟨rfl, hf, h⟩
      have g5 : M2 250 ((5 : Nat) : Int) = ((c : Nat) : Int) := (hf _ _ (by omega)).trans h5
      ((with_reducible refine i_turn (i_cI_lt (i_L2 (i_F (i_A0 ?_))))); (with_reducible refine i_fld (by assumption) ?_); (rw [g5]); (with_reducible refine i_f (by omega) ?_); (with_reducible refine i_RetV ?_))
      exact hk _ hf h
theorem m_ties_bad {O : zOm} (hO : zWld O) (hS : zS O = zmS zC0) {a d : Int} {P td : Nat} {M : zMem} {K : Option zV → zMem → Prop} (hP : M 250 ((1 : Nat) : Int) = ((P : Nat) : Int)) (hT : M 250 ((4 : Nat) : Int) = ((td : Nat) : Int)) (hb : ¬ ((0 ≤ a ∧ a < ((P : Nat) : Int)) ∧ 0 ≤ d ∧ d ≤ ((td : Nat) : Int))) (hk : K (some (0, -1)) M) : zR O F_Model_ties [(2, 250), (0, a), (0, d)] M K := by
  apply r_Model_ties hO
  unfold B_Model_ties
  have f1 := zMF (k := 1) hS rfl; have f10 := zMF (k := 10) hS rfl; have a257 := zMA (a := 257) (ty := .boolean) (n := 256) hS rfl; have zo := zMO hS
  (focus ((with_reducible refine i_Seq (i_If (i_cOr (i_cNot (i_cZ_ne (i_Call (i_as1 (i_A0 (i_as1 (i_L1 (i_as0 ?_))))))))))); (with_reducible refine i_recv0 (by assumption) ?_); (refine m_isPost hO hS hP ⟨_, rfl, ?_⟩); (with_reducible refine i_dne ?_ ?_ <;> intro hc); (focus ((with_reducible refine i_cNot (i_cZ_ne (i_Call (i_as1 (i_A0 (i_as1 (i_L2 (i_as0 ?_)))))))); (with_reducible refine i_recv0 (by assumption) ?_); (refine m_isDay hO hS hT ⟨_, rfl, ?_⟩); (with_reducible refine i_dne ?_ ?_ <;> intro hc); (focus ((with_reducible refine i_Seq (i_sCall (i_as1 (i_A0 (i_as1 (i_L2 (i_as0 ?_))))))); (with_reducible refine i_recv0 (by assumption) ?_))); rotate_left; (focus ((with_reducible refine i_RetI (i_I ?_)))); rotate_right)); rotate_left 2; (focus ((with_reducible refine i_RetI (i_I ?_)))); rotate_right 2))
  all_goals first | exact hk | (exfalso; omega)
theorem m_ties {O : zOm} (hO : zWld O) (hS : zS O = zmS zC0) {a d P td c : Nat} {A B : Nat → Nat} {I : Nat → Bool} {D : Nat → Nat} {M : zMem} {K : Option zV → zMem → Prop} (hP : M 250 ((1 : Nat) : Int) = ((P : Nat) : Int)) (hP2 : P ≤ 16) (hT : M 250 ((4 : Nat) : Int) = ((td : Nat) : Int)) (ha : a < P) (hd : d ≤ td) (hC : rCh M c A B I D)
    (hk : ∀ M', (∀ b j, ¬ b = 257 → M' b j = M b j) → K (some (0, ((zcnt (zrep A B I D d c a) P : Nat) : Int))) M') : zR O F_Model_ties [(2, 250), (0, ((a : Nat) : Int)), (0, ((d : Nat) : Int))] M K := by
  apply r_Model_ties hO
  unfold B_Model_ties
  have f1 := zMF (k := 1) hS rfl; have f10 := zMF (k := 10) hS rfl; have a257 := zMA (a := 257) (ty := .boolean) (n := 256) hS rfl; have zo := zMO hS
  ((with_reducible refine i_Seq (i_If (i_cOr (i_cNot (i_cZ_ne (i_Call (i_as1 (i_A0 (i_as1 (i_L1 (i_as0 ?_))))))))))); (with_reducible refine i_recv0 (by assumption) ?_); (refine m_isPost hO hS hP ⟨_, rfl, ?_⟩); (rw [decide_eq_true (by omega), zbI_t]); (with_reducible refine i_t (by omega) ?_); (with_reducible refine i_cNot (i_cZ_ne (i_Call (i_as1 (i_A0 (i_as1 (i_L2 (i_as0 ?_)))))))); (with_reducible refine i_recv0 (by assumption) ?_); (refine m_isDay hO hS hT ⟨_, rfl, ?_⟩); (rw [decide_eq_true (by omega), zbI_t]); (with_reducible refine i_t (by omega) ?_); (with_reducible refine i_Seq (i_sCall (i_as1 (i_A0 (i_as1 (i_L2 (i_as0 ?_))))))); (with_reducible refine i_recv0 (by assumption) ?_))
  refine m_asOf hO hS hC (fun M1 hf h => ⟨rfl, ?_⟩)
  have g1 : M1 250 ((1 : Nat) : Int) = ((P : Nat) : Int) := (hf _ _ (by omega)).trans hP
  ((with_reducible refine i_Seq (i_Set (i_I (i_Seq (i_Blk (i_Seq (i_Set (i_I ?_)))))))); simp only [w_set0, w_set1, w_setn0, w_setn1])
  refine w_ForN P (fun k ρ M' => ρ = [250, ((a : Nat) : Int), ((d : Nat) : Int), ((zcnt (zrep A B I D d c a) k : Nat) : Int), ((k : Nat) : Int)] ∧ M' = M1) ⟨rfl, rfl⟩ ?_ ?_
  · rintro k ρ M1 X hk1 ⟨rfl, rfl⟩ hX
    have h2 := zcnt_le (zrep A B I D d c a) k
    ((with_reducible refine i_turn (i_cI_lt (i_L4 (i_F (i_A0 ?_))))); (with_reducible refine i_fld (by assumption) ?_); (rw [g1]); (with_reducible refine i_t (by omega) ?_); (with_reducible refine i_Set (i_Add (i_L3 (i_eIf (i_cZ_ne (i_ZA (i_FR (i_A0 ?_)))))))); (with_reducible refine i_fldR (by assumption) ?_); (with_reducible refine i_Add (i_Mul (i_I (i_L1 (i_L4 ?_))))); rw [zx_cmul (by omega)]; rw [zx_add (by omega)]; (with_reducible refine i_in (by assumption) (by omega) (by omega) ?_))
    rw [h a k (by omega) (by omega)]
    cases hb : zrep A B I D d c a k
    · (rw [zbI_f]; (with_reducible refine i_f (by omega) ?_); (with_reducible refine i_I (i_up ?_)); rw [zx_addc (by omega)]; simp only [w_set0, w_set1, w_setn0, w_setn1]; (with_reducible refine i_Inc4 ?_); rw [zx_inc (by omega)]; simp only [w_set0, w_set1, w_setn0, w_setn1])
      exact hX _ _ ⟨by simp [zcnt, hb], rfl⟩
    · (rw [zbI_t]; (with_reducible refine i_t (by omega) ?_); (with_reducible refine i_I (i_up ?_)); rw [zx_inc (by omega)]; simp only [w_set0, w_set1, w_setn0, w_setn1]; (with_reducible refine i_Inc4 ?_); rw [zx_inc (by omega)]; simp only [w_set0, w_set1, w_setn0, w_setn1])
      exact hX _ _ ⟨by simp [zcnt, hb], rfl⟩
  · rintro ρ M1 X ⟨rfl, rfl⟩
    ((with_reducible refine i_turn (i_cI_lt (i_L4 (i_F (i_A0 ?_))))); (with_reducible refine i_fld (by assumption) ?_); (rw [g1]); (with_reducible refine i_f (by omega) ?_); (with_reducible refine i_RetI (i_L3 ?_)))
    exact hk _ hf
theorem m_tied_bad {O : zOm} (hO : zWld O) (hS : zS O = zmS zC0) {a b d : Int} {P td : Nat} {M : zMem} {K : Option zV → zMem → Prop} (hP : M 250 ((1 : Nat) : Int) = ((P : Nat) : Int)) (hT : M 250 ((4 : Nat) : Int) = ((td : Nat) : Int)) (hb : ¬ (((0 ≤ a ∧ a < ((P : Nat) : Int)) ∧ (0 ≤ b ∧ b < ((P : Nat) : Int)) ∧ a ≠ b) ∧ 0 ≤ d ∧ d ≤ ((td : Nat) : Int))) (hk : K (some (0, -1)) M) : zR O F_Model_tied [(2, 250), (0, a), (0, b), (0, d)] M K := by
  apply r_Model_tied hO
  unfold B_Model_tied
  have f10 := zMF (k := 10) hS rfl; have a257 := zMA (a := 257) (ty := .boolean) (n := 256) hS rfl; have zo := zMO hS
  (focus ((with_reducible refine i_Seq (i_If (i_cOr (i_cNot (i_cZ_ne (i_Call (i_as1 (i_A0 (i_as1 (i_L1 (i_as1 (i_L2 (i_as0 ?_))))))))))))); (with_reducible refine i_recv0 (by assumption) ?_); (refine m_isPair hO hS hP ⟨_, rfl, ?_⟩); (with_reducible refine i_dne ?_ ?_ <;> intro hc); (focus ((with_reducible refine i_cNot (i_cZ_ne (i_Call (i_as1 (i_A0 (i_as1 (i_L3 (i_as0 ?_)))))))); (with_reducible refine i_recv0 (by assumption) ?_); (refine m_isDay hO hS hT ⟨_, rfl, ?_⟩); (with_reducible refine i_dne ?_ ?_ <;> intro hc); (focus ((with_reducible refine i_Seq (i_sCall (i_as1 (i_A0 (i_as1 (i_L3 (i_as0 ?_))))))); (with_reducible refine i_recv0 (by assumption) ?_))); rotate_left; (focus ((with_reducible refine i_RetI (i_I ?_)))); rotate_right)); rotate_left 2; (focus ((with_reducible refine i_RetI (i_I ?_)))); rotate_right 2))
  all_goals first | exact hk | (exfalso; omega)
theorem m_tied {O : zOm} (hO : zWld O) (hS : zS O = zmS zC0) {a b d P td c : Nat} {A B : Nat → Nat} {I : Nat → Bool} {D : Nat → Nat} {M : zMem} {K : Option zV → zMem → Prop} (hP : M 250 ((1 : Nat) : Int) = ((P : Nat) : Int)) (hP2 : P ≤ 16) (hT : M 250 ((4 : Nat) : Int) = ((td : Nat) : Int)) (ha : a < P) (hb : b < P) (hab : a ≠ b) (hd : d ≤ td) (hC : rCh M c A B I D)
    (hk : ∀ M', (∀ b j, ¬ b = 257 → M' b j = M b j) → K (some (0, zbI (zrep A B I D d c a b))) M') : zR O F_Model_tied [(2, 250), (0, ((a : Nat) : Int)), (0, ((b : Nat) : Int)), (0, ((d : Nat) : Int))] M K := by
  apply r_Model_tied hO
  unfold B_Model_tied
  have f10 := zMF (k := 10) hS rfl; have a257 := zMA (a := 257) (ty := .boolean) (n := 256) hS rfl; have zo := zMO hS
  ((with_reducible refine i_Seq (i_If (i_cOr (i_cNot (i_cZ_ne (i_Call (i_as1 (i_A0 (i_as1 (i_L1 (i_as1 (i_L2 (i_as0 ?_))))))))))))); (with_reducible refine i_recv0 (by assumption) ?_); (refine m_isPair hO hS hP ⟨_, rfl, ?_⟩); (rw [decide_eq_true (by omega), zbI_t]); (with_reducible refine i_t (by omega) ?_); (with_reducible refine i_cNot (i_cZ_ne (i_Call (i_as1 (i_A0 (i_as1 (i_L3 (i_as0 ?_)))))))); (with_reducible refine i_recv0 (by assumption) ?_); (refine m_isDay hO hS hT ⟨_, rfl, ?_⟩); (rw [decide_eq_true (by omega), zbI_t]); (with_reducible refine i_t (by omega) ?_); (with_reducible refine i_Seq (i_sCall (i_as1 (i_A0 (i_as1 (i_L3 (i_as0 ?_))))))); (with_reducible refine i_recv0 (by assumption) ?_))
  refine m_asOf hO hS hC (fun M1 hf h => ⟨rfl, ?_⟩)
  have h2 := hk _ hf
  ((with_reducible refine i_RetI (i_eIf (i_cZ_ne (i_ZA (i_FR (i_A0 ?_)))))); (with_reducible refine i_fldR (by assumption) ?_); (with_reducible refine i_Add (i_Mul (i_I (i_L1 (i_L2 ?_))))); rw [zx_cmul (by omega)]; rw [zx_add (by omega)]; (with_reducible refine i_in (by assumption) (by omega) (by omega) ?_))
  rw [h a b (by omega) (by omega)]
  cases hc : zrep A B I D d c a b
  · rw [hc] at h2
    (rw [zbI_f]; (with_reducible refine i_f (by omega) ?_); (with_reducible refine i_I ?_))
    exact h2
  · rw [hc] at h2
    (rw [zbI_t]; (with_reducible refine i_t (by omega) ?_); (with_reducible refine i_I ?_))
    exact h2
end
