/-! ===== the law's own makings ===== -/
theorem zn_newL {p : Program} {e : Env} {R : Room} {s : State} {m : MethodId} {args : Array Value} {below : List Frame} {meth : Method} {c : Code} {Q : State → Prop} {O : zOm} {own Cn : String} {T : u_T} {N : Nat} {code : ByteArray} {nL pc : Nat} {st : List zV} {lv : zLv} {C : zmC} {nc ns k ci : Nat} (X : zmX p R s m args c O own code nL) (h13 : ci < 13) (hc : zCl[ci]? = some (Cn, T, N)) (w1 : Jvm.Cond.classLink own k Cn ∈ zWS) (w2 : Jvm.Cond.instantiable Cn N ∈ zWS) (w3 : Jvm.Cond.initialized Cn ∈ zWS)
    (hsz : s.heap.size + nc = zB O + C.length) (hd : decode code pc = .ok (.new k, 3)) (hR : nc + 1 ≤ R.cells) (hRs : ns + (zFks ci).length ≤ R.slots)
    (h : zmGo p e R s m args below meth c Q O nL (pc + 3) ((2, (C.length : Int)) :: st) lv (C ++ [(.inr (ci, zFks ci), [])]) (nc + 1) (ns + (zFks ci).length)) : zmGo p e R s m args below meth c Q O nL pc st lv C nc ns := by
  obtain ⟨hx, hb, hml, hown, hts, hK, hN, hcl, hB, hAO, hSt⟩ := X
  intro H locs ls hP hS hl
  have hc' : (zcl O)[ci]? = some (Cn, T, N) := by rw [hcl]; exact hc
  obtain ⟨hw, -, -⟩ := zCl_ok ci Cn T N hc
  have hf := List.all_eq_true.mp zFksOk_ok ci (List.mem_range.mpr h13)
  rw [hc] at hf
  simp only [Bool.and_eq_true, decide_eq_true_eq, List.all_eq_true, List.mem_range] at hf
  obtain ⟨hlen, hf⟩ := hf
  rw [hlen] at hRs h
  refine va_new (D := zD O) (ci := ci) (T := T) (N := N) (fs := (zFks ci).mapIdx (zFv O (zrg []))) hx hb hts hw (fun k => (parseFieldDescriptor (T k).2.2.1).getD .int) (fun j hj => ?_) hown (hts _ w1) (hts _ w2) (hts _ w3) hK hP (zmW_D O C) hS (fun q hq => Nat.le_trans hB hq) hc' (fun j hj => ?_) hR hRs hd (fun q H1 hP1 hD1 hS1 => ?_)
  · have := hf j hj
    split at this
    next ty fk e1 e2 => rw [e1]; rfl
    next => cases this
  · have := hf j hj
    split at this
    next ty fk e1 e2 =>
      rw [e1]
      unfold vp_V
      rw [List.getD_eq_getElem?_getD, List.getElem?_mapIdx, e2]
      exact zdefB_ok (k := j) (fun _ => rfl) this
    next => cases this
  · refine zW_sz fun hz => ?_
    have hq := zm_last (fun _ z => z) hP1 hD1 (by omega)
    subst hq
    have := h H1 locs ls (by rw [zmW_app]; exact hP1) hS1 hl
    rw [List.map_cons, zWv_nn O (Int.natCast_nonneg _)] at this
    exact this
theorem zn_initL {p : Program} {e : Env} {R : Room} {s : State} {m : MethodId} {args : Array Value} {below : List Frame} {meth : Method} {c : Code} {Q : State → Prop} {O : zOm} {own : String} {code : ByteArray} {nL pc : Nat} {st : List zV} {lv : zLv} {C D : zmC} {nc ns k ci o a b : Nat} (X : zmX p R s m args c O own code nL)
    (hsz : s.heap.size + nc = zB O + C.length) (hd : decode code pc = .ok (.invokespecial k, 3)) (hk : zkFi ci < zFnL.length ∧ Jvm.Cond.initialized (zFn (zkFi ci)).1.cls ∈ zWS ∧ Jvm.Cond.instanceMethod (zFn (zkFi ci)).1 ∈ zWS ∧ (zFn (zkFi ci)).1.name = "<init>" ∧ (zFn (zkFi ci)).2.2.2.1 = none ∧ (zFn (zkFi ci)).1.cls ≠ "java/lang/invoke/MethodHandle" ∧ (zFn (zkFi ci)).1.cls ≠ "java/lang/invoke/VarHandle" ∧ (parseMethodDescriptor (zFn (zkFi ci)).1.desc).map (fun d => d.parameters.length) = some 0 ∧ Jvm.Cond.methodLink own k (zFn (zkFi ci)).1 ∈ zWS) (hR : nc + a ≤ R.cells) (hRs : ns + b ≤ R.slots) (ho : C.length = o + 1) (hfr0 : C[o]? = some (zmFresh ci)) (hcat : zcats st ≤ 8)
    (hfr : (zFn (zkFi ci)).2.2.2.2.1 + 1 ≤ R.frames ∧ 8 + ((zFn (zkFi ci)).2.2.1 + 11) + (zFn (zkFi ci)).2.2.2.2.2 ≤ R.locals)
    (hrec : ∀ O' : zOm, zcl O' = zCl → zmR O' (zFn (zkFi ci)) ci D a b)
    (h : zmGo p e R s m args below meth c Q O nL (pc + 3) st lv (C.take o ++ D.map (zmSh o)) (nc + a) (ns + b)) : zmGo p e R s m args below meth c Q O nL pc ((2, (o : Int)) :: st) lv C nc ns := by
  obtain ⟨hx, hb, hml, hown, hts, hK, hN, hcl, hB, hAO, hSt⟩ := X
  intro H locs ls hP hS hl
  refine zW_sz fun hz => ?_
  have hz2 := zm_size hP (by omega) (by omega)
  obtain ⟨hf, hini, hinst, hname, hret, hd1, hd2, hd3, hlk⟩ := hk
  have hcode : Jvm.Cond.code (zFn (zkFi ci)).1 (zFn (zkFi ci)).2.1 (zFn (zkFi ci)).2.2.1 (zFn (zkFi ci)).2.2.2.1 ∈ zWS := by
    refine zFnL_ok _ ?_
    unfold zFn
    rw [List.getD_eq_getElem?_getD, List.getElem?_eq_getElem hf]
    exact List.getElem_mem hf
  have hrec := hrec (zOB O o) hcl
  generalize zFn (zkFi ci) = f at hini hinst hname hret hd1 hd2 hd3 hlk hfr hrec hcode
  have hG := zGood f hcode
  obtain ⟨y, bc, mL, ret, fr, lo⟩ := f
  dsimp only at hini hinst hname hret hd1 hd2 hd3 hlk hfr
  subst hret
  rw [List.map_cons, zWv_nn O (Int.natCast_nonneg _)]
  have hP1 : va_P (zD O) (zcl O) (zmW (zOB O o) [zmFresh ci]) H := by
    intro j q hq
    obtain ⟨c1, hc1, rfl⟩ := zmW_inv hq
    cases j with
    | zero =>
      cases hc1
      have h9 := hP o _ (zmW_at hfr0)
      rw [← zmSh_enc, zmSh_fresh]
      exact h9
    | succ j => cases hc1
  have hPS : PreS s H (zmPc (zOB O o) [zmFresh ci] 0) (.ref (zB O + o) :: []) := ⟨zmPc_blind _ _ _, fun U hU hW => ⟨rfl, by rw [hU, hz2, ho]; rfl, by rw [hU]; exact hP1, va_K.moved hW.alike hK, fun q hq => va_Nw.warmM hW (hN q hq), hAO.moved hW.alike, by rw [hU]; exact hSt.to hW hS.2.1 (fun q (hq : zB O + o ≤ q) => by omega)⟩⟩
  have hW8 : 2 * (F0 m pc ls (.ref (zB O + o) :: st.map (zWv O))).monitorRoom + ((st.map (zWv O)).map fun v => v.category).sum ≤ 8 := lv_room (by rw [zcats_wv]; exact hcat)
  exact zmcall (zm_run2 hP (va_runI (As := []) (rest := st.map (zWv O)) ⟨hx, hb, hml, hown, hts⟩ hrec (cwI 0 hts hG rfl rfl rfl (hts _ hini) (hts _ hlk) (hts _ hinst) hname ⟨hd1, hd2, hd3⟩ hfr) hPS rfl rfl hl.1 rfl hW8 hd ⟨hR, hRs⟩) (by omega)) hS hl h
theorem zl_cl8 : Jvm.Cond.classLink "ToldNetLaw" 8 "ToldNet" ∈ zWS := zInW_mem (pl := 183) (by decide +kernel)
theorem zl_cl21 : Jvm.Cond.classLink "ToldNetLaw" 21 "ToldNetModel" ∈ zWS := zInW_mem (pl := 1677) (by decide +kernel)
theorem zl_i0 : Jvm.Cond.instantiable "ToldNet" 14 ∈ zWS := zInW_mem (pl := 184) (by decide +kernel)
theorem zl_i12 : Jvm.Cond.instantiable "ToldNetModel" 82 ∈ zWS := zInW_mem (pl := 1678) (by decide +kernel)
theorem zl_n0 : Jvm.Cond.initialized "ToldNet" ∈ zWS := zInW_mem (pl := 157) (by decide +kernel)
theorem zl_n12 : Jvm.Cond.initialized "ToldNetModel" ∈ zWS := zInW_mem (pl := 174) (by decide +kernel)
theorem zl_m20 : zkFi 0 < zFnL.length ∧ Jvm.Cond.initialized (zFn (zkFi 0)).1.cls ∈ zWS ∧ Jvm.Cond.instanceMethod (zFn (zkFi 0)).1 ∈ zWS ∧ (zFn (zkFi 0)).1.name = "<init>" ∧ (zFn (zkFi 0)).2.2.2.1 = none ∧ (zFn (zkFi 0)).1.cls ≠ "java/lang/invoke/MethodHandle" ∧ (zFn (zkFi 0)).1.cls ≠ "java/lang/invoke/VarHandle" ∧ (parseMethodDescriptor (zFn (zkFi 0)).1.desc).map (fun d => d.parameters.length) = some 0 ∧ Jvm.Cond.methodLink "ToldNetLaw" 20 (zFn (zkFi 0)).1 ∈ zWS :=
  ⟨by decide +kernel, zl_n0, zInW_mem (pl := 186) (by decide +kernel), by decide +kernel, by decide +kernel, by decide +kernel, by decide +kernel, by decide +kernel, zInW_mem (pl := 185) (by decide +kernel)⟩
theorem zl_m23 : zkFi 12 < zFnL.length ∧ Jvm.Cond.initialized (zFn (zkFi 12)).1.cls ∈ zWS ∧ Jvm.Cond.instanceMethod (zFn (zkFi 12)).1 ∈ zWS ∧ (zFn (zkFi 12)).1.name = "<init>" ∧ (zFn (zkFi 12)).2.2.2.1 = none ∧ (zFn (zkFi 12)).1.cls ≠ "java/lang/invoke/MethodHandle" ∧ (zFn (zkFi 12)).1.cls ≠ "java/lang/invoke/VarHandle" ∧ (parseMethodDescriptor (zFn (zkFi 12)).1.desc).map (fun d => d.parameters.length) = some 0 ∧ Jvm.Cond.methodLink "ToldNetLaw" 23 (zFn (zkFi 12)).1 ∈ zWS :=
  ⟨by decide +kernel, zl_n12, zInW_mem (pl := 1680) (by decide +kernel), by decide +kernel, by decide +kernel, by decide +kernel, by decide +kernel, by decide +kernel, zInW_mem (pl := 1679) (by decide +kernel)⟩
def zkJok : Bool := (List.range 13).all fun ci => match zCl[ci]?, zkJ[ci]? with
  | some (C, _, N), some (a, _, _) => zInW a (.instantiable C N)
  | _, _ => false
theorem zkJok_ok : zkJok = true := by decide +kernel
theorem zkJ_at {ci N : Nat} {C : String} {T : u_T} (hc : zCl[ci]? = some (C, T, N)) : Jvm.Cond.instantiable C N ∈ zWS := by
  have h := List.all_eq_true.mp zkJok_ok ci (List.mem_range.mpr (zCl_13 hc))
  rw [hc] at h
  split at h
  next e1 e2 => cases e1; exact zInW_mem h
  next => cases h
/-- the classes and the arrays' classes, at the law's entry -/
theorem zK_start {s : State} {b : Nat} (hts : ∀ w ∈ lw_tbl, w.before #[Value.ref b] s = true) : ∃ (D : va_G) (cA : FieldType → ClassId), va_K D zCl (zTy.map fun t => (cA t, t)) s := by
  have hWS : ∀ w ∈ zWS, w.before #[Value.ref b] s = true := fun w hw => hts w (List.mem_filter.mp hw).1
  have h0 : ∀ ci : Nat, ∃ q : ClassId × (Nat → Nat), ∀ (C : String) (T : u_T) (N : Nat), zCl[ci]? = some (C, T, N) → u_Kn s C T N q.1 q.2 := by
    intro ci
    cases hc : zCl[ci]? with
    | none => exact ⟨(0, fun _ => 0), fun C T N h => by cases h⟩
    | some r =>
      obtain ⟨C, T, N⟩ := r
      obtain ⟨hw, -, -⟩ := zCl_ok ci C T N hc
      obtain ⟨cC, iS, h⟩ := u_known hWS hw (hWS _ (zkJ_at hc))
      exact ⟨(cC, iS), fun C' T' N' h' => by cases h'; exact h⟩
  obtain ⟨ad, had⟩ := Classical.axiomOfChoice h0
  have h1 : ∀ ty : FieldType, ∃ cA : ClassId, ty ∈ zTy → ArrOfT s cA ty ∧ va_RA s cA ty := by
    intro ty
    by_cases hty : ty ∈ zTy
    · have hw := zkAok_ok
      unfold zkAok at hw
      simp only [Bool.and_eq_true] at hw
      have ar : ∀ t : FieldType, (Cond.arrayClass t).before #[Value.ref b] s = true → (∀ C, t ≠ .object C) → ∃ cA : ClassId, ArrOfT s cA t ∧ va_RA s cA t := by
        intro t ht hno
        obtain ⟨c, k, comp, g1, g2, g3⟩ := Cond.arrayClass_spec ht
        refine ⟨c, fun n z => ⟨fun k h => (by cases h), k, g2, comp, g3⟩, ?_⟩
        cases t with
        | object C => exact absurd rfl (hno C)
        | _ => exact g1
      have ob : ∀ C : String, (Cond.arrayOver (.object C)).before #[Value.ref b] s = true → ∃ cA : ClassId, ArrOfT s cA (.object C) ∧ va_RA s cA (.object C) := by
        intro C ht
        obtain ⟨comp, c, k, f1, f2, f3, f4, f5⟩ := Cond.arrayOver_spec ht
        exact ⟨c, fun n z => ⟨fun k h => (by cases h), k, f3, comp, f4⟩, k, comp, f3, f4, f1, f5⟩
      have : ∃ cA : ClassId, ArrOfT s cA ty ∧ va_RA s cA ty := by
        simp only [zTy, List.mem_cons, List.not_mem_nil, or_false] at hty
        rcases hty with rfl | rfl | rfl | rfl | rfl | rfl
        · exact ar _ (hWS _ (zInW_mem hw.1)) (fun C h => by cases h)
        · exact ar _ (hWS _ (zInW_mem hw.2.1)) (fun C h => by cases h)
        · exact ar _ (hWS _ (zInW_mem hw.2.2.1)) (fun C h => by cases h)
        · exact ar _ (hWS _ (zInW_mem hw.2.2.2)) (fun C h => by cases h)
        · exact ob _ (hts _ (List.mem_of_getElem? (i := 198) (by decide +kernel)))
        · exact ob _ (hts _ (List.mem_of_getElem? (i := 422) (by decide +kernel)))
      obtain ⟨cA, h⟩ := this
      exact ⟨cA, fun _ => h⟩
    · exact ⟨0, fun h => absurd h hty⟩
  obtain ⟨cA, hcA⟩ := Classical.axiomOfChoice h1
  refine ⟨(fun ci => (ad ci).1, fun ci => (ad ci).2), cA, fun ci q hq => ?_, fun k q hq => ?_⟩
  · obtain ⟨C, T, N⟩ := q
    exact had ci C T N hq
  · rw [List.getElem?_map] at hq
    obtain ⟨ty, g1, g2⟩ := Option.map_eq_some_iff.mp hq
    subst g2
    exact hcA ty (List.mem_of_getElem? g1)
def zNwOk : Bool := (List.range zNest.length).all fun i => match zNest[i]?, zNestP[i]? with
  | some q, some pl => zInL pl (.methodLinkNest q.1 q.2.1 q.2.2 "ToldNet")
  | _, _ => false
  where zInL (pl : Nat) (w : Jvm.Cond) : Bool := decide (lw_tbl[pl]? = some w)
theorem zNwOk_ok : zNwOk = true := by decide +kernel
theorem zNw_start {s : State} {b : Nat} (hts : ∀ w ∈ lw_tbl, w.before #[Value.ref b] s = true) : zNw s := by
  intro q hq
  obtain ⟨i, hi⟩ := List.getElem?_of_mem hq
  have h := List.all_eq_true.mp zNwOk_ok i (List.mem_range.mpr (List.getElem?_eq_some_iff.mp hi).1)
  split at h
  next q' pl e1 e2 =>
    rw [hi] at e1
    cases e1
    exact va_Nw.of rfl (hts _ (List.mem_of_getElem? (of_decide_eq_true h)))
  next => cases h
theorem zAOs_start {s : State} {b : Nat} (hts : ∀ w ∈ lw_tbl, w.before #[Value.ref b] s = true) : zAOs s :=
  ⟨va_AO.of (hts _ (List.mem_of_getElem? (i := 198) (by decide +kernel))), va_AO.of (hts _ (List.mem_of_getElem? (i := 422) (by decide +kernel)))⟩
