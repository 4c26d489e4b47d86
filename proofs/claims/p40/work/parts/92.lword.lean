/-! ===== the law's own word and except, where the class throws ===== -/
def zCat (U : State) : Prop := va_Nw (.castable "java/util/NoSuchElementException" "java/util/NoSuchElementException") U ∧ va_Nw (.castable "java/lang/IllegalArgumentException" "java/lang/IllegalArgumentException") U
theorem zCat.warm {s U : State} (hW : s.WarmedH U.vm) (h : zCat s) : zCat U := ⟨va_Nw.warmC hW h.1, va_Nw.warmC hW h.2⟩
theorem zCat.same {s U : State} (hv : U.vm = s.vm) (h : zCat s) : zCat U := ⟨va_Nw.same rfl hv.symm h.1, va_Nw.same rfl hv.symm h.2⟩
abbrev zlHh : List (Nat × Nat × Nat × Nat) := [(0, 12, 15, 13), (0, 12, 19, 15)]
def zPcL (O : zOm) (M : zMem) (sz : Nat) (as : List zV) : Array Value → State → Prop := va_Pc (as.map (zWv O)) (fun U => U.heap.size = sz ∧ va_P (zD O) (zcl O) (zWorld O M) U.heap ∧ va_K (zD O) (zcl O) (zTys O) U ∧ zNw U ∧ zThr (zA O sz) U U.heap ∧ zCat U)
/-- a law's helper: its name, its code, the place of the call in the law's pool, the method called -/
abbrev zLf : Type := MethodName × ByteArray × Nat × Nat
def zLw : zLf := (⟨"ToldNetLaw", "word", "(LToldNet;III[J)I"⟩, method_3_code, 7, 19)
def zLe : zLf := (⟨"ToldNetLaw", "except", "(LToldNet;III[J)I"⟩, method_4_code, 17, 20)
def zLWs (f : zLf) : List Jvm.Cond := Jvm.Cond.codeWith f.1 f.2.1 6 (some .int) zlHh :: zWS
def zLRm : Room := { frames := 8, cells := 1, slots := 6, locals := 131 }
theorem zLw_in : Jvm.Cond.codeWith zLw.1 zLw.2.1 6 (some .int) zlHh ∈ zWS := zInW_mem (pl := 1574) (by decide +kernel)
theorem zLe_in : Jvm.Cond.codeWith zLe.1 zLe.2.1 6 (some .int) zlHh ∈ zWS := zInW_mem (pl := 1668) (by decide +kernel)
theorem zl_c13 : Jvm.Cond.classLink "ToldNetLaw" 13 "java/util/NoSuchElementException" ∈ zWS := zInW_mem (pl := 1575) (by decide +kernel)
def zLfOk (f : zLf) : Bool := decide (decode f.2.1 0 = .ok (.aload 4, 2)) && (decide (decode f.2.1 2 = .ok (.iconst 0, 1)) && (decide (decode f.2.1 3 = .ok (.aload_n 0, 1)) && (decide (decode f.2.1 4 = .ok (.iload_n 1, 1)) && (decide (decode f.2.1 5 = .ok (.iload_n 2, 1)) && (decide (decode f.2.1 6 = .ok (.iload_n 3, 1)) && (decide (decode f.2.1 7 = .ok (.invokevirtual f.2.2.1, 3)) && (decide (decode f.2.1 15 = .ok (.astore 5, 2)) && (decide (decode f.2.1 17 = .ok (.iconst 1, 1)) && decide (decode f.2.1 18 = .ok (.ireturn, 1))))))))))
theorem zLw_ok : zLfOk zLw = true := by decide +kernel
theorem zLe_ok : zLfOk zLe = true := by decide +kernel
def zLkOk (f : zLf) : Prop := Jvm.Cond.codeWith f.1 f.2.1 6 (some .int) zlHh ∈ zWS ∧ zLfOk f = true ∧ plainName f.1.cls = true ∧ f.1.cls = "ToldNetLaw" ∧ f.2.2.2 < zFnL.length ∧ (zFn f.2.2.2).1.cls = "ToldNet" ∧ (parseMethodDescriptor (zFn f.2.2.2).1.desc).map (fun d => d.parameters.length) = some 3 ∧ Jvm.Cond.methodLink "ToldNetLaw" f.2.2.1 (zFn f.2.2.2).1 ∈ zWS ∧ Jvm.Cond.instanceMethod (zFn f.2.2.2).1 ∈ zWS ∧ Jvm.Cond.selects (zFn f.2.2.2).1.cls (zFn f.2.2.2).1 (zFn f.2.2.2).1 ∈ zWS ∧ Jvm.Cond.initialized (zFn f.2.2.2).1.cls ∈ zWS ∧ (zFn f.2.2.2).2.2.2.2.1 + 1 ≤ 8 ∧ 8 + ((zFn f.2.2.2).2.2.1 + 11) + (zFn f.2.2.2).2.2.2.2.2 ≤ 131
theorem zLw_lk : zLkOk zLw := ⟨zLw_in, zLw_ok, by decide +kernel, rfl, by decide +kernel, by decide +kernel, by decide +kernel, zInW_mem (pl := 1577) (by decide +kernel), zInW_mem (pl := 1578) (by decide +kernel), zInW_mem (pl := 1579) (by decide +kernel), zl_n0, by decide +kernel, by decide +kernel⟩
theorem zLe_lk : zLkOk zLe := ⟨zLe_in, zLe_ok, by decide +kernel, rfl, by decide +kernel, by decide +kernel, by decide +kernel, zInW_mem (pl := 1669) (by decide +kernel), zInW_mem (pl := 1670) (by decide +kernel), zInW_mem (pl := 1671) (by decide +kernel), zl_n0, by decide +kernel, by decide +kernel⟩
def zLM (O : zOm) (f : zLf) (as : List zV) (M : zMem) (K : Option zV → zMem → Prop) : Prop := (∀ v ∈ as, zok v) → zMok (zS O) M → ∀ sz, zB O + (zS O).length ≤ sz → vx_Met (zLn O) f.1 (zLWs f) zLRm (zPcL O M sz as) (zQ O K sz) (fun _ _ _ => False) 1 6 (zA O sz)
theorem zPcX_blind (O : zOm) (M : zMem) (sz : Nat) (as : List zV) : FrameBlind (zPcX O M sz as) := by
  intro a U g mk h
  obtain ⟨h1, h2, h3, h4, h5, h6⟩ := h
  exact ⟨h1, h2, h3, va_K.moved (Vm.Alike.refl _) h4, fun q hq => va_Nw.same rfl rfl (h5 q hq), h6.same (U := U) rfl⟩
theorem zPcL_blind (O : zOm) (M : zMem) (sz : Nat) (as : List zV) : FrameBlind (zPcL O M sz as) := by
  intro a U g mk h
  obtain ⟨h1, h2, h3, h4, h5, h6, h7⟩ := h
  exact ⟨h1, h2, h3, va_K.moved (Vm.Alike.refl _) h4, fun q hq => va_Nw.same rfl rfl (h5 q hq), h6.same (U := U) rfl, h7.same (s := U) rfl⟩
set_option maxHeartbeats 1000000 in
theorem zlW1 {O : zOm} (hO : zWld O) {f : zLf} (hlk : zLkOk f) {x p0 p1 p2 out : Int} {M : zMem} {K : Option zV → zMem → Prop} (hx0 : 0 ≤ x) (ho0 : 0 ≤ out) (hob : zxObj (zS O) x 0 = true)
    (hw : zRX O (zFn f.2.2.2) [(2, x), (0, p0), (0, p1), (0, p2)] M (fun _ _ => False) (fun E M1 => E = "java/util/NoSuchElementException" ∧ K (some (0, 1)) M1)) : zLM O f [(2, x), (0, p0), (0, p1), (0, p2), (2, out)] M K := by
  obtain ⟨k1, k2, k3, k4, k5, k6, k7, k8, k9, k10, k11, k12, k13⟩ := hlk
  intro has hM sz hsz
  unfold zLfOk at k2
  simp only [Bool.and_eq_true, decide_eq_true_eq] at k2
  obtain ⟨d0, d2, d3, d4, d5, d6, d7, d15, d17, d18⟩ := k2
  refine vx_ofWH (cc := f.2.1) (maxL := 6) (ret := some .int) (hh := zlHh) k3 rfl ?_
  intro p e s m args below meth c s₁ B hml hv
  obtain ⟨rfl, rfl, hP, hK, hN, hT, hC⟩ := hv
  have hx := B.exec
  have hb := B.bytes
  have hlocks := B.notSynchronized
  have htsA : ∀ w ∈ zLWs f, w.before (([(2, x), (0, p0), (0, p1), (0, p2), (2, out)] : List zV).map (zWv O)).toArray s = true := atoms_spec (ws := zLWs f) B.pre
  have hts : ∀ w ∈ zWS, w.before (([(2, x), (0, p0), (0, p1), (0, p2), (2, out)] : List zV).map (zWv O)).toArray s = true := fun w hw => htsA w (List.mem_cons_of_mem _ hw)
  have htab := vx_table (x := f.1) B (htsA _ List.mem_cons_self)
  have hown : s.vm.findClass "ToldNetLaw" = some m.cls := by rw [← k4]; exact findClass_of_methodNamed B.named
  have hl := lv_entry (([(2, x), (0, p0), (0, p1), (0, p2), (2, out)] : List zV).map (zWv O)) (n := 6) (by rw [zlg]; exact Nat.le_of_ble_eq_true rfl)
  rw [zlvargs] at hl
  rw [lg_entry_eq]
  generalize (lg_sl (([(2, x), (0, p0), (0, p1), (0, p2), (2, out)] : List zV).map (zWv O)) ++ List.replicate (6 - (lg_sl (([(2, x), (0, p0), (0, p1), (0, p2), (2, out)] : List zV).map (zWv O))).length) Slot.unset).toArray = ls at hl ⊢
  have hl : lv_has ls 6 [(0, .ref (zB O + x.toNat)), (1, .int (zi p0)), (2, .int (zi p1)), (3, .int (zi p2)), (4, .ref (zB O + out.toNat))] := by
    have e1 := zWv_nn O hx0
    have e2 := zWv_nn O ho0
    have : (zArgs 0 ([(2, x), (0, p0), (0, p1), (0, p2), (2, out)] : List zV)).map (fun q => (q.1, zWv O q.2)) = [(0, .ref (zB O + x.toNat)), (1, .int (zi p0)), (2, .int (zi p1)), (3, .int (zi p2)), (4, .ref (zB O + out.toNat))] := by
      show [(0, zWv O (2, x)), (1, zWv O (0, p0)), (2, zWv O (0, p1)), (3, zWv O (0, p2)), (4, zWv O (2, out))] = _
      rw [e1, e2]
      rfl
    rw [← this]
    exact hl
  refine lv_aload hx hb d0 (lv_at hl 4 rfl) ?_
  refine lv_iconst (v := 0) hx hb d2 rfl ?_
  refine lv_aload_n (k := 0) (i := 0) hx hb d3 rfl (lv_at hl 0 rfl) ?_
  refine lv_iload_n (k := 1) (i := 1) hx hb d4 rfl (lv_at hl 1 rfl) ?_
  refine lv_iload_n (k := 2) (i := 2) hx hb d5 rfl (lv_at hl 2 rfl) ?_
  refine lv_iload_n (k := 3) (i := 3) hx hb d6 rfl (lv_at hl 3 rfl) ?_
  have has2 : ∀ v ∈ ([(2, x), (0, p0), (0, p1), (0, p2)] : List zV), zok v := fun v hv => has v (by
    simp only [List.mem_cons, List.not_mem_nil, or_false] at hv ⊢
    rcases hv with h | h | h | h
    · exact Or.inl h
    · exact Or.inr (Or.inl h)
    · exact Or.inr (Or.inr (Or.inl h))
    · exact Or.inr (Or.inr (Or.inr (Or.inl h))))
  have hMet := hw has2 hM s.heap.size hsz
  have hcode : Jvm.Cond.code (zFn f.2.2.2).1 (zFn f.2.2.2).2.1 (zFn f.2.2.2).2.2.1 (zFn f.2.2.2).2.2.2.1 ∈ zWS := by
    refine zFnL_ok _ ?_
    unfold zFn
    rw [List.getD_eq_getElem?_getD, List.getElem?_eq_getElem k5]
    exact List.getElem_mem k5
  generalize zFn f.2.2.2 = g at k6 k7 k8 k9 k10 k11 k12 k13 hMet hcode
  have hG : GoodIn zWS (wsV "ToldNetLaw" f.2.2.1 g.1.cls g.1 (zWs g)) := by
    intro w hw
    have hw' : w ∈ zWS := by
      rcases List.mem_append.mp hw with h1 | h1
      · simp only [List.mem_cons, List.not_mem_nil, or_false] at h1
        rcases h1 with rfl | rfl | rfl | rfl
        · exact k8
        · exact k9
        · exact k10
        · exact k11
      · exact (zGood g hcode w h1).1
    exact ⟨hw', good_of_word (List.mem_filter.mp hw').2⟩
  have cw := cwV (R := zLRm) (rm := zRmX g) (mc := 1) (ms := 6) (ws' := zWS) 3 hts hG rfl rfl rfl ⟨rfl, by rw [k6]; decide, by rw [k6]; decide, k7⟩ ⟨k12, k13⟩
  obtain ⟨-, fks, hs⟩ := zxObj_ok hob
  obtain ⟨rC, hrC, cell, q1, q2, q3, q4⟩ := hP _ _ (zWorld_at (M := M) hs)
  have hrC : (zcl O)[0]? = some rC := hrC
  rw [hO.1] at hrC
  cases hrC
  have hcls : s.vm.findClass g.1.cls = some cell.cls := by rw [q2, k6]; exact (hK.1 0 _ (by rw [hO.1]; rfl)).2.1
  have hPV : PreV s s.heap g.1.cls (zB O + x.toNat) (zPcX O M s.heap.size [(2, x), (0, p0), (0, p1), (0, p2)]) [.int (zi p0), .int (zi p1), .int (zi p2)] := by
    refine ⟨zPcX_blind _ _ _ _, ⟨cell, q1, by rw [q3]; rfl, hcls⟩, fun U hU hW => ⟨?_, by rw [hU], by rw [hU]; exact hP, va_K.moved hW.alike hK, fun q hq => va_Nw.warmM hW (hN q hq), by rw [hU]; exact hT.to hW (fun _ _ _ => rfl) (fun _ z => z)⟩⟩
    show _ = (([(2, x), (0, p0), (0, p1), (0, p2)] : List zV).map (zWv O)).toArray
    rw [List.map_cons, zWv_nn O hx0]
    rfl
  have hr := vx_runV (As := [.int (zi p0), .int (zi p1), .int (zi p2)]) (rest := [.int 0, .ref (zB O + out.toNat)]) (locs := []) (cells := 0) (slots := 0) (nL := 6) (g := F0 m 7 ls [.int (zi p2), .int (zi p1), .int (zi p0), .ref (zB O + x.toNat), .int 0, .ref (zB O + out.toNat)]) (p := p) (e := e) (below := below) (meth := meth) ⟨hx, hb, hml, hown, hts⟩ hMet cw hPV rfl rfl hl.1 rfl (lv_room (Nat.le_of_ble_eq_true rfl)) d7 ⟨Nat.le_refl _, Nat.le_refl _⟩
  intro T hTh XT
  rcases hr T hTh XT with ⟨v, st₀, t, T', L, h0, X', hL, e1, e2, ⟨⟨r, u, hv, hok, hMu, hKu, hPu⟩, hz⟩, st⟩ | ⟨q, st₀, t, T', L, E, ce, h0, X', hL, e1, e2, ⟨u, hMu, ⟨hE, hKu⟩, hPu, hF⟩, hce, hcv, hcl, st⟩
  · exact hKu.elim
  · subst hE
    have hS' : va_S (zA O s.heap.size) s.heap T'.heap L := by
      obtain ⟨f1, f2⟩ := hF
      rw [h0] at f1 f2
      exact ⟨by rw [e1]; exact f1, fun q h1 h2 => by rw [e1]; exact f2 q h1 h2, hL⟩
    have hcatch : vx_W p (zLn O) e zLRm s m (([(2, x), (0, p0), (0, p1), (0, p2), (2, out)] : List zV).map (zWv O)).toArray below meth c T'.heap ([] ++ L) (0 + 1) (0 + 6) (vx_MQ below (zQ O K s.heap.size) (fun _ _ _ => False) (([(2, x), (0, p0), (0, p1), (0, p2), (2, out)] : List zV).map (zWv O)).toArray s 1 6 (zA O s.heap.size)) (F0 m 7 ls [.int 0, .ref (zB O + out.toNat)]) q := by
      refine vx_catch (E := "java/util/NoSuchElementException") (name := "java/util/NoSuchElementException") hown [] _ _ (by rw [htab]; rfl) (fun z hz => by cases hz) (by decide) (by decide) (hts _ zl_c13) (va_Nw.use rfl hC.1) (by rw [e1]; exact hce) hcv hcl ?_
      refine lv_astore (lv' := [(5, .ref q), (0, .ref (zB O + x.toNat)), (1, .int (zi p0)), (2, .int (zi p1)), (3, .int (zi p2)), (4, .ref (zB O + out.toNat))]) hx hb d15 hl (by decide) rfl (fun ls2 hl2 => ?_)
      refine lv_iconst (v := 1) hx hb d17 rfl ?_
      refine vx_ret ?_
      exact W.iret (v := 1) hx hb B.returns (fun t2 ht2 hW2 => ⟨⟨some (0, 1), u, rfl, fun v hv => by cases hv; exact ⟨by decide, by decide⟩, hMu, hKu, by rw [ht2, e1]; exact hPu⟩, by exact hS'.F ht2⟩) hS'.2.2 d18
    obtain ⟨t2, a1, b1⟩ := hcatch T' rfl X'
    exact ⟨t2, st.trans a1, b1⟩
