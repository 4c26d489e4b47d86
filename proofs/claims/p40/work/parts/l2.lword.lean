/-! ===== the law's word and except: all their roads ===== -/
def zNc (U : State) : Prop := va_Nc "java/lang/IllegalArgumentException" "java/util/NoSuchElementException" U
def zPcM (O : zOm) (M : zMem) (sz : Nat) (as : List zV) : Array Value → State → Prop := va_Pc (as.map (zWv O)) (fun U => U.heap.size = sz ∧ va_P (zD O) (zcl O) (zWorld O M) U.heap ∧ va_K (zD O) (zcl O) (zTys O) U ∧ zNw U ∧ zThr (zA O sz) U U.heap ∧ zCat U ∧ zNc U)
theorem zPcM_blind (O : zOm) (M : zMem) (sz : Nat) (as : List zV) : FrameBlind (zPcM O M sz as) := by
  intro a U g mk h
  obtain ⟨h1, h2, h3, h4, h5, h6, h7, h8⟩ := h
  exact ⟨h1, h2, h3, va_K.moved (Vm.Alike.refl _) h4, fun q hq => va_Nw.same rfl rfl (h5 q hq), h6.same (U := U) rfl, h7.same (s := U) rfl, va_Nc.moved (Vm.Alike.refl _) h8⟩
def zLM2 (O : zOm) (f : zLf) (as : List zV) (M : zMem) (K : Option zV → zMem → Prop) : Prop := (∀ v ∈ as, zok v) → zMok (zS O) M → ∀ sz, zB O + (zS O).length ≤ sz → vx_Met (zLn O) f.1 (zLWs f) zLRm (zPcM O M sz as) (zQ O K sz) (fun _ _ _ => False) 1 6 (zA O sz)
theorem zl_c15 : Jvm.Cond.classLink "ToldNetLaw" 15 "java/lang/IllegalArgumentException" ∈ zWS := zInW_mem (pl := 1576) (by decide +kernel)
def zLfOk2 (f : zLf) : Bool := decide (decode f.2.1 10 = .ok (.i2l, 1)) && (decide (decode f.2.1 11 = .ok (.lastore, 1)) && (decide (decode f.2.1 12 = .ok (.goto 11, 3)) && (decide (decode f.2.1 19 = .ok (.astore 5, 2)) && (decide (decode f.2.1 21 = .ok (.iconst 2, 1)) && (decide (decode f.2.1 22 = .ok (.ireturn, 1)) && (decide (decode f.2.1 23 = .ok (.iconst 0, 1)) && decide (decode f.2.1 24 = .ok (.ireturn, 1))))))))
theorem zLw_ok2 : zLfOk2 zLw = true := by decide +kernel
theorem zLe_ok2 : zLfOk2 zLe = true := by decide +kernel
set_option maxHeartbeats 1000000 in
theorem zlW2 {O : zOm} (hO : zWld O) {f : zLf} (hlk : zLkOk f) (hlk2 : zLfOk2 f = true) {x p0 p1 p2 out : Int} {M : zMem} {K : Option zV → zMem → Prop} (hx0 : 0 ≤ x) (ho0 : 0 ≤ out) (hoa : zArr (zS O) out .long 1) (hob : zxObj (zS O) x 0 = true)
    (hw : zRX O (zFn f.2.2.2) [(2, x), (0, p0), (0, p1), (0, p2)] M (fun v M1 => ∃ r, v = some (0, r) ∧ K (some (0, 0)) (zput M1 out (zup (M1 out) 0 r))) (fun E M1 => E = "java/util/NoSuchElementException" ∧ K (some (0, 1)) M1 ∨ E = "java/lang/IllegalArgumentException" ∧ K (some (0, 2)) M1)) : zLM2 O f [(2, x), (0, p0), (0, p1), (0, p2), (2, out)] M K := by
  obtain ⟨k1, k2, k3, k4, k5, k6, k7, k8, k9, k10, k11, k12, k13⟩ := hlk
  unfold zLfOk2 at hlk2
  simp only [Bool.and_eq_true, decide_eq_true_eq] at hlk2
  obtain ⟨d10, d11, d12, d19, d21, d22, d23, d24⟩ := hlk2
  intro has hM sz hsz
  unfold zLfOk at k2
  simp only [Bool.and_eq_true, decide_eq_true_eq] at k2
  obtain ⟨d0, d2, d3, d4, d5, d6, d7, d15, d17, d18⟩ := k2
  refine vx_ofWH (cc := f.2.1) (maxL := 6) (ret := some .int) (hh := zlHh) k3 rfl ?_
  intro p e s m args below meth c s₁ B hml hv
  obtain ⟨rfl, rfl, hP, hK, hN, hT, hC, hD⟩ := hv
  have hx := B.exec
  have hb := B.bytes
  have hlocks := B.notSynchronized
  have htsA : ∀ w ∈ zLWs f, w.before (([(2, x), (0, p0), (0, p1), (0, p2), (2, out)] : List zV).map (zWv O)).toArray s = true := atoms_spec (ws := zLWs f) B.pre
  have hts : ∀ w ∈ zWS, w.before (([(2, x), (0, p0), (0, p1), (0, p2), (2, out)] : List zV).map (zWv O)).toArray s = true := fun w hw => htsA w (List.mem_cons_of_mem _ hw)
  have htab := vx_table (x := f.1) B (htsA _ List.mem_cons_self)
  have hown : s.vm.findClass "ToldNetLaw" = some m.cls := by rw [← k4]; exact findClass_of_methodNamed B.named
  have hl := lv_entry (([(2, x), (0, p0), (0, p1), (0, p2), (2, out)] : List zV).map (zWv O)) (n := 6) (by rw [zlg]; exact Nat.le_of_ble_eq_true rfl)
  rw [zlvargs] at hl
  rw [lg_entry_eq]
  generalize (lg_sl (([(2, x), (0, p0), (0, p1), (0, p2), (2, out)] : List zV).map (zWv O)) ++ List.replicate (6 - (lg_sl (([(2, x), (0, p0), (0, p1), (0, p2), (2, out)] : List zV).map (zWv O))).length) Slot.unset).toArray = ls at hl ⊢
  have hl : lv_has ls 6 [(0, .ref (zB O + x.toNat)), (1, .int (zi p0)), (2, .int (zi p1)), (3, .int (zi p2)), (4, .ref (zB O + out.toNat))] := by
    have e1 := zWv_nn O hx0
    have e2 := zWv_nn O ho0
    have : (zArgs 0 ([(2, x), (0, p0), (0, p1), (0, p2), (2, out)] : List zV)).map (fun q => (q.1, zWv O q.2)) = [(0, .ref (zB O + x.toNat)), (1, .int (zi p0)), (2, .int (zi p1)), (3, .int (zi p2)), (4, .ref (zB O + out.toNat))] := by
      show [(0, zWv O (2, x)), (1, zWv O (0, p0)), (2, zWv O (0, p1)), (3, zWv O (0, p2)), (4, zWv O (2, out))] = _
      rw [e1, e2]
      rfl
    rw [← this]
    exact hl
  refine lv_aload hx hb d0 (lv_at hl 4 rfl) ?_
  refine lv_iconst (v := 0) hx hb d2 rfl ?_
  refine lv_aload_n (k := 0) (i := 0) hx hb d3 rfl (lv_at hl 0 rfl) ?_
  refine lv_iload_n (k := 1) (i := 1) hx hb d4 rfl (lv_at hl 1 rfl) ?_
  refine lv_iload_n (k := 2) (i := 2) hx hb d5 rfl (lv_at hl 2 rfl) ?_
  refine lv_iload_n (k := 3) (i := 3) hx hb d6 rfl (lv_at hl 3 rfl) ?_
  have has2 : ∀ v ∈ ([(2, x), (0, p0), (0, p1), (0, p2)] : List zV), zok v := fun v hv => has v (by
    simp only [List.mem_cons, List.not_mem_nil, or_false] at hv ⊢
    rcases hv with h | h | h | h
    · exact Or.inl h
    · exact Or.inr (Or.inl h)
    · exact Or.inr (Or.inr (Or.inl h))
    · exact Or.inr (Or.inr (Or.inr (Or.inl h))))
  have hMet := hw has2 hM s.heap.size hsz
  have hcode : Jvm.Cond.code (zFn f.2.2.2).1 (zFn f.2.2.2).2.1 (zFn f.2.2.2).2.2.1 (zFn f.2.2.2).2.2.2.1 ∈ zWS := by
    refine zFnL_ok _ ?_
    unfold zFn
    rw [List.getD_eq_getElem?_getD, List.getElem?_eq_getElem k5]
    exact List.getElem_mem k5
  generalize zFn f.2.2.2 = g at k6 k7 k8 k9 k10 k11 k12 k13 hMet hcode
  have hG : GoodIn zWS (wsV "ToldNetLaw" f.2.2.1 g.1.cls g.1 (zWs g)) := by
    intro w hw
    have hw' : w ∈ zWS := by
      rcases List.mem_append.mp hw with h1 | h1
      · simp only [List.mem_cons, List.not_mem_nil, or_false] at h1
        rcases h1 with rfl | rfl | rfl | rfl
        · exact k8
        · exact k9
        · exact k10
        · exact k11
      · exact (zGood g hcode w h1).1
    exact ⟨hw', good_of_word (List.mem_filter.mp hw').2⟩
  have cw := cwV (R := zLRm) (rm := zRmX g) (mc := 1) (ms := 6) (ws' := zWS) 3 hts hG rfl rfl rfl ⟨rfl, by rw [k6]; decide, by rw [k6]; decide, k7⟩ ⟨k12, k13⟩
  obtain ⟨-, fks, hs⟩ := zxObj_ok hob
  obtain ⟨rC, hrC, cell, q1, q2, q3, q4⟩ := hP _ _ (zWorld_at (M := M) hs)
  have hrC : (zcl O)[0]? = some rC := hrC
  rw [hO.1] at hrC
  cases hrC
  have hcls : s.vm.findClass g.1.cls = some cell.cls := by rw [q2, k6]; exact (hK.1 0 _ (by rw [hO.1]; rfl)).2.1
  have hPV : PreV s s.heap g.1.cls (zB O + x.toNat) (zPcX O M s.heap.size [(2, x), (0, p0), (0, p1), (0, p2)]) [.int (zi p0), .int (zi p1), .int (zi p2)] := by
    refine ⟨zPcX_blind _ _ _ _, ⟨cell, q1, by rw [q3]; rfl, hcls⟩, fun U hU hW => ⟨?_, by rw [hU], by rw [hU]; exact hP, va_K.moved hW.alike hK, fun q hq => va_Nw.warmM hW (hN q hq), by rw [hU]; exact hT.to hW (fun _ _ _ => rfl) (fun _ z => z)⟩⟩
    show _ = (([(2, x), (0, p0), (0, p1), (0, p2)] : List zV).map (zWv O)).toArray
    rw [List.map_cons, zWv_nn O hx0]
    rfl
  have hr := vx_runV (As := [.int (zi p0), .int (zi p1), .int (zi p2)]) (rest := [.int 0, .ref (zB O + out.toNat)]) (locs := []) (cells := 0) (slots := 0) (nL := 6) (g := F0 m 7 ls [.int (zi p2), .int (zi p1), .int (zi p0), .ref (zB O + x.toNat), .int 0, .ref (zB O + out.toNat)]) (p := p) (e := e) (below := below) (meth := meth) ⟨hx, hb, hml, hown, hts⟩ hMet cw hPV rfl rfl hl.1 rfl (lv_room (Nat.le_of_ble_eq_true rfl)) d7 ⟨Nat.le_refl _, Nat.le_refl _⟩
  have goal3 : ∀ (T' : State) (L : List Loc) (x' : Int) (u : zMem), zin32 x' → zMok (zS O) u → K (some (0, 0)) (zput u out (zup (u out) 0 x')) → va_P (zD O) (zcl O) (zWorld O u) T'.heap → va_S (zA O s.heap.size) s.heap T'.heap L →
      W p (zLn O) e zLRm s m (([(2, x), (0, p0), (0, p1), (0, p2), (2, out)] : List zV).map (zWv O)).toArray below meth c T'.heap L (0 + 1) (0 + 6) (vx_MQ below (zQ O K s.heap.size) (fun _ _ _ => False) (([(2, x), (0, p0), (0, p1), (0, p2), (2, out)] : List zV).map (zWv O)).toArray s 1 6 (zA O s.heap.size)) (F0 m 10 ls [.int (zi x'), .int 0, .ref (zB O + out.toNat)]) := by
    intro T' L x' u hx' hMu hKK hPu hS'
    obtain ⟨-, rs, hs⟩ := hoa
    obtain ⟨t0, ht0⟩ := zTy_at O (ty := .long) (by decide)
    have ha : ((out.toNat : Nat) : Int) = out := by omega
    have hj1 : zin32 0 := by unfold zin32; omega
    refine lv_i2l (v := zl x') hx hb d10 (zi_64 hx') ?_
    refine va_last (i := zi 0) hx hb hK hPu (zWorld_D O u _) hS' out.toNat t0 (zWorld_at (M := u) hs) ht0 (zi_vin (Int.le_refl 0) (by decide) hj1) d11 (fun H1 locs1 hP1 hD1 hS1 => ?_)
    have hw2 := zWorld_set (O := O) (M := u) hs (zup (u out) 0 x') (e := .inl (zcA O .long, 1, .inr (.inl (vp_updL (fun i : Nat => zl (u (out.toNat : Nat) i)) (zi 0).toNatClampNeg (zl x'))))) (by rw [zi_cl hj1, ha, ← zupd_l (Int.le_refl 0)]; rfl)
    rw [ha] at hw2 hP1
    rw [hw2] at hP1
    have hM1 : zMok (zS O) (zput u out (zup (u out) 0 x')) := by
      have h3 := hMu _ _ hs
      rw [ha] at h3
      have := zMok_put (f := zup (u out) 0 x') hMu hs (zShOk_up h3 (zin32_64 hx'))
      rw [ha] at this
      exact this
    refine lv_goto (tgt := 23) hx hb d12 (by omega) ?_
    refine lv_iconst (v := 0) hx hb d23 rfl ?_
    refine vx_ret ?_
    exact W.iret (v := 0) hx hb B.returns (fun t2 ht2 hW2 => ⟨⟨some (0, 0), _, rfl, fun v hv => by cases hv; exact ⟨by decide, by decide⟩, hM1, hKK, by rw [ht2]; exact hP1⟩, by exact hS1.F ht2⟩) hS1.2.2 d24
  intro T hTh XT
  rcases hr T hTh XT with ⟨v, st₀, t, T', L, h0, X', hL, e1, e2, ⟨⟨r, u, hv, hok, hMu, hKu, hPu⟩, hz⟩, st⟩ | ⟨q, st₀, t, T', L, E, ce, h0, X', hL, e1, e2, ⟨u, hMu, hEK, hPu, hF⟩, hce, hcv, hcl, st⟩
  · obtain ⟨x', rfl, hKK⟩ := hKu
    cases hv
    obtain ⟨hz1, hk1⟩ := hz
    rw [h0] at hz1 hk1
    have hS' : va_S (zA O s.heap.size) s.heap T'.heap ([] ++ L) := ⟨by rw [e1]; exact hz1, fun q h1 h2 => by rw [e1]; exact hk1 q h1 h2, hL⟩
    obtain ⟨t2, a1, b1⟩ := goal3 T' ([] ++ L) x' u (hok _ rfl) hMu hKK (by rw [e1]; exact hPu) hS' T' rfl X'
    exact ⟨t2, st t2 a1, b1⟩
  · rcases hEK with ⟨rfl, hKu⟩ | ⟨rfl, hKu⟩
    · have hS' : va_S (zA O s.heap.size) s.heap T'.heap L := by
        obtain ⟨f1, f2⟩ := hF
        rw [h0] at f1 f2
        exact ⟨by rw [e1]; exact f1, fun q h1 h2 => by rw [e1]; exact f2 q h1 h2, hL⟩
      have hcatch : vx_W p (zLn O) e zLRm s m (([(2, x), (0, p0), (0, p1), (0, p2), (2, out)] : List zV).map (zWv O)).toArray below meth c T'.heap ([] ++ L) (0 + 1) (0 + 6) (vx_MQ below (zQ O K s.heap.size) (fun _ _ _ => False) (([(2, x), (0, p0), (0, p1), (0, p2), (2, out)] : List zV).map (zWv O)).toArray s 1 6 (zA O s.heap.size)) (F0 m 7 ls [.int 0, .ref (zB O + out.toNat)]) q := by
        refine vx_catch (E := "java/util/NoSuchElementException") (name := "java/util/NoSuchElementException") hown [] _ _ (by rw [htab]; rfl) (fun z hz => by cases hz) (by decide) (by decide) (hts _ zl_c13) (va_Nw.use rfl hC.1) (by rw [e1]; exact hce) hcv hcl ?_
        refine lv_astore (lv' := [(5, .ref q), (0, .ref (zB O + x.toNat)), (1, .int (zi p0)), (2, .int (zi p1)), (3, .int (zi p2)), (4, .ref (zB O + out.toNat))]) hx hb d15 hl (by decide) rfl (fun ls2 hl2 => ?_)
        refine lv_iconst (v := 1) hx hb d17 rfl ?_
        refine vx_ret ?_
        exact W.iret (v := 1) hx hb B.returns (fun t2 ht2 hW2 => ⟨⟨some (0, 1), u, rfl, fun v hv => by cases hv; exact ⟨by decide, by decide⟩, hMu, hKu, by rw [ht2, e1]; exact hPu⟩, by exact hS'.F ht2⟩) hS'.2.2 d18
      obtain ⟨t2, a1, b1⟩ := hcatch T' rfl X'
      exact ⟨t2, st.trans a1, b1⟩
    · have hS' : va_S (zA O s.heap.size) s.heap T'.heap L := by
        obtain ⟨f1, f2⟩ := hF
        rw [h0] at f1 f2
        exact ⟨by rw [e1]; exact f1, fun q h1 h2 => by rw [e1]; exact f2 q h1 h2, hL⟩
      have hcatch : vx_W p (zLn O) e zLRm s m (([(2, x), (0, p0), (0, p1), (0, p2), (2, out)] : List zV).map (zWv O)).toArray below meth c T'.heap ([] ++ L) (0 + 1) (0 + 6) (vx_MQ below (zQ O K s.heap.size) (fun _ _ _ => False) (([(2, x), (0, p0), (0, p1), (0, p2), (2, out)] : List zV).map (zWv O)).toArray s 1 6 (zA O s.heap.size)) (F0 m 7 ls [.int 0, .ref (zB O + out.toNat)]) q := by
        refine vx_catch (E := "java/lang/IllegalArgumentException") (name := "java/lang/IllegalArgumentException") hown [_] _ _ (by rw [htab]; rfl) (fun z hz => by cases List.mem_singleton.mp hz; exact Or.inr ⟨by decide, "java/util/NoSuchElementException", hts _ zl_c13, hD⟩) (by decide) (by decide) (hts _ zl_c15) (va_Nw.use rfl hC.2) (by rw [e1]; exact hce) hcv hcl ?_
        refine lv_astore (lv' := [(5, .ref q), (0, .ref (zB O + x.toNat)), (1, .int (zi p0)), (2, .int (zi p1)), (3, .int (zi p2)), (4, .ref (zB O + out.toNat))]) hx hb d19 hl (by decide) rfl (fun ls2 hl2 => ?_)
        refine lv_iconst (v := 2) hx hb d21 rfl ?_
        refine vx_ret ?_
        exact W.iret (v := 2) hx hb B.returns (fun t2 ht2 hW2 => ⟨⟨some (0, 2), u, rfl, fun v hv => by cases hv; exact ⟨by decide, by decide⟩, hMu, hKu, by rw [ht2, e1]; exact hPu⟩, by exact hS'.F ht2⟩) hS'.2.2 d22
      obtain ⟨t2, a1, b1⟩ := hcatch T' rfl X'
      exact ⟨t2, st.trans a1, b1⟩
