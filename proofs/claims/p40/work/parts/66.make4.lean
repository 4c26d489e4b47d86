def zmQ (O : zOm) (C' : zmC) : Array Value → State → Outcome → State → Prop := fun _ st oc t => oc = .returned none ∧ va_P (zD O) (zcl O) (zmW O C') t.heap ∧ va_F (fun q => zB O ≤ q) st t
def zmPc (O : zOm) (C : zmC) (self : Nat) : Array Value → State → Prop := va_Pc [.ref (zB O + self)] (fun U => U.heap.size = zB O + C.length ∧ va_P (zD O) (zcl O) (zmW O C) U.heap ∧ va_K (zD O) (zcl O) (zTys O) U ∧ zNw U ∧ zAOs U ∧ zTxt (fun q => zB O ≤ q) U U.heap)
/-- a constructor of the class ci makes C' out of a new object -/
def zmFresh (ci : Nat) : zSh × zRow := (.inr (ci, zFks ci), [])
def zmR (O : zOm) (f : zMR) (ci : Nat) (C' : zmC) (nc ns : Nat) : Prop :=
  Met (zLn O) f.1 (zWs f) { frames := f.2.2.2.2.1, cells := nc, slots := ns, locals := f.2.2.2.2.2 } (zmPc O [zmFresh ci] 0) (zmQ O C') nc ns (fun q => zB O ≤ q)
def zOB (O : zOm) (k : Nat) : zOm := (O.1, O.2.1, O.2.2.1, O.2.2.2.1, O.2.2.2.2.1 + k, O.2.2.2.2.2.1, O.2.2.2.2.2.2)
def zmSh (k : Nat) (c : zSh × zRow) : zSh × zRow := match c.1 with
  | .inl (ty, n, rs) => (.inl (ty, n, rs.map (Option.map (· + k))), c.2)
  | .inr (ci, fks) => (.inr (ci, fks.map (Option.map (Option.map (· + k)))), c.2)
theorem zmSh_enc (O : zOm) (k : Nat) (c : zSh × zRow) : zEnc O (zrg (zmSh k c).2) (zmSh k c).1 = zEnc (zOB O k) (zrg c.2) c.1 := by
  obtain ⟨sh, r⟩ := c
  have hf : ∀ x : Option Nat, (x.map (· + k)).map (zB O + ·) = x.map (zB (zOB O k) + ·) := fun x => by
    cases x with
    | none => rfl
    | some v =>
      show some (zB O + (v + k)) = some (zB O + k + v)
      congr 1
      omega
  cases sh with
  | inl q =>
    obtain ⟨ty, n, rs⟩ := q
    cases ty <;> first | rfl | skip
    refine congrArg (fun z => Sum.inl (zcA O _, n, Sum.inr (Sum.inr (Sum.inr (Sum.inr z))))) (funext fun j => ?_)
    rw [List.getD_eq_getElem?_getD, List.getD_eq_getElem?_getD, List.getElem?_map]
    cases rs[j]? with
    | none => rfl
    | some x => exact hf x
  | inr q =>
    obtain ⟨ci, fks⟩ := q
    refine congrArg (fun z => Sum.inr (ci, z)) ?_
    refine List.ext_getElem? fun i => ?_
    rw [List.getElem?_mapIdx, List.getElem?_mapIdx, List.getElem?_map]
    cases fks[i]? with
    | none => rfl
    | some x =>
      cases x with
      | none => rfl
      | some y =>
        cases y with
        | none => rfl
        | some v =>
          show some (Value.ref (zB O + (v + k))) = some (Value.ref (zB O + k + v))
          rw [show zB O + (v + k) = zB O + k + v by omega]
theorem zmSh_fresh (k ci : Nat) : zmSh k (zmFresh ci) = zmFresh ci := by
  show (Sum.inr (ci, (zFks ci).map (Option.map (Option.map (· + k)))), ([] : zRow)) = (Sum.inr (ci, zFks ci), [])
  congr 3
  unfold zFks
  rw [List.map_map]
  refine List.map_congr_left fun b _ => ?_
  cases b <;> rfl
theorem zAOs.moved {u U : State} (hvm : u.vm.Alike U.vm) (h : zAOs u) : zAOs U := ⟨h.1.moved hvm, h.2.moved hvm⟩
theorem zmPc_blind (O : zOm) (C : zmC) (self : Nat) : FrameBlind (zmPc O C self) := by
  intro a U g mk h
  obtain ⟨h1, h2, h3, h4, h5, h6, h7⟩ := h
  exact ⟨h1, h2, h3, va_K.moved (Vm.Alike.refl _) h4, fun q hq => va_Nw.same rfl rfl (h5 q hq), zAOs.moved (u := U) (Vm.Alike.refl _) h6, h7.same (U := U) rfl⟩
theorem zmcall {p : Program} {e : Env} {R : Room} {s : State} {m : MethodId} {args : Array Value} {below : List Frame} {meth : Method} {c : Code} {Q : State → Prop} {O : zOm} {nL pc : Nat} {rest : List zV} {lv : zLv} {C' : zmC} {H : Heap} {locs : List Loc} {ls : Array Slot} {g0 : List Value} {ar : Array Value} {nc ns a b : Nat}
    (hr : va_Run p (zLn O) e R s m args below meth c H locs nc ns a b (F0 m pc ls g0) (rest.map (zWv O)) (zmQ O C' ar) (fun q => zB O ≤ q)) (hS : va_S (fun q => zB O ≤ q) s.heap H locs) (hl : lv_has ls nL (lv.map fun q => (q.1, zWv O q.2)))
    (kk : zmGo p e R s m args below meth c Q O nL (pc + 3) rest lv C' (nc + a) (ns + b)) : W p (zLn O) e R s m args below meth c H locs nc ns Q (F0 m pc ls g0) := by
  intro T hT X
  obtain ⟨v, st₀, t, T', L, h0, X', hL, e1, e2, ⟨hv, hP, hz, hk⟩, st⟩ := hr T hT X
  cases hv
  rw [h0] at hz hk
  have hS' : va_S (fun q => zB O ≤ q) s.heap T'.heap (locs ++ L) := ⟨Nat.le_trans hS.1 (by rw [e1]; exact hz), fun q h1 h2 => by rw [e1, hk q (Nat.lt_of_lt_of_le h1 hS.1) h2]; exact hS.2.1 q h1 h2, fun q hq => by
      rcases List.mem_append.mp hq with h | h
      · exact hS.2.2 q h
      · exact hL q h⟩
  obtain ⟨t2, a1, b1⟩ := kk T'.heap (locs ++ L) ls (by rw [e1]; exact hP) hS' hl T' rfl X'
  exact ⟨t2, st t2 a1, b1⟩
theorem zm_size {O : zOm} {C : zmC} {H : Heap} (hP : va_P (zD O) (zcl O) (zmW O C) H) (h : 0 < C.length) (hz : H.size ≤ zB O + C.length) : H.size = zB O + C.length := by
  have h1 : C.length - 1 < C.length := by omega
  have h2 : zB O + (C.length - 1) < H.size := (hP _ _ (zmW_at (O := O) (List.getElem?_eq_getElem h1))).lt
  omega
def zkiok : Bool := (List.range 13).all fun c => (zki.getD c []).all fun e => match zkJ[e.2.1]? with
  | some (_, b, f) => decide (f < zFnL.length) && (zInW b (.initialized (zFn f).1.cls) && (zInW e.2.2.2.2 (.instanceMethod (zFn f).1) && (decide ((zFn f).1.name = "<init>" ∧ (zFn f).2.2.2.1 = none ∧ (zFn f).1.cls ≠ "java/lang/invoke/MethodHandle" ∧ (zFn f).1.cls ≠ "java/lang/invoke/VarHandle" ∧ (parseMethodDescriptor (zFn f).1.desc).map (fun d => d.parameters.length) = some 0)
      && (if e.2.2.1 = 0 then zInW e.2.2.2.1 (.methodLink (zCn c) e.1 (zFn f).1) else decide (zNest[e.2.2.2.1]? = some (zCn c, e.1, (zFn f).1))))))
  | none => false
theorem zkiok_ok : zkiok = true := by decide +kernel
def zkFi (ci : Nat) : Nat := match zkJ[ci]? with
  | some (_, _, f) => f
  | none => 0
theorem zki_at {c k ci kd pl pim : Nat} (hc : c < 13) (h : (k, ci, kd, pl, pim) ∈ zki.getD c []) : zkFi ci < zFnL.length ∧ Jvm.Cond.initialized (zFn (zkFi ci)).1.cls ∈ zWS ∧ Jvm.Cond.instanceMethod (zFn (zkFi ci)).1 ∈ zWS ∧ (zFn (zkFi ci)).1.name = "<init>" ∧ (zFn (zkFi ci)).2.2.2.1 = none ∧ (zFn (zkFi ci)).1.cls ≠ "java/lang/invoke/MethodHandle" ∧ (zFn (zkFi ci)).1.cls ≠ "java/lang/invoke/VarHandle" ∧ (parseMethodDescriptor (zFn (zkFi ci)).1.desc).map (fun d => d.parameters.length) = some 0 ∧
    (Jvm.Cond.methodLink (zCn c) k (zFn (zkFi ci)).1 ∈ zWS ∨ (zCn c, k, (zFn (zkFi ci)).1) ∈ zNest) := by
  have h1 := List.all_eq_true.mp (List.all_eq_true.mp zkiok_ok c (List.mem_range.mpr hc)) _ h
  split at h1
  next x b f e1 =>
    have hf : zkFi ci = f := by unfold zkFi; rw [show zkJ[ci]? = _ from e1]
    rw [hf]
    simp only [Bool.and_eq_true, decide_eq_true_eq] at h1
    obtain ⟨h2, h3, h4, h5, h6⟩ := h1
    refine ⟨h2, zInW_mem h3, zInW_mem h4, h5.1, h5.2.1, h5.2.2.1, h5.2.2.2.1, h5.2.2.2.2, ?_⟩
    split at h6
    · exact Or.inl (zInW_mem h6)
    · exact Or.inr (List.mem_of_getElem? (of_decide_eq_true h6))
  next => cases h1
theorem zm_run2 {p : Program} {e : Env} {R : Room} {s : State} {m : MethodId} {args : Array Value} {below : List Frame} {meth : Method} {c : Code} {O : zOm} {H : Heap} {locs : List Loc} {nc ns a b : Nat} {g : JFrame} {rest : List Value} {C D : zmC} {ar : Array Value} {k : Nat} (hP : va_P (zD O) (zcl O) (zmW O C) H)
    (hr : va_Run p (zLn O) e R s m args below meth c H locs nc ns a b g rest (zmQ (zOB O k) D ar) (fun q => zB (zOB O k) ≤ q)) (hk : k ≤ C.length) : va_Run p (zLn O) e R s m args below meth c H locs nc ns a b g rest (zmQ O (C.take k ++ D.map (zmSh k)) ar) (fun q => zB O ≤ q) := by
  have hB : zB (zOB O k) = zB O + k := rfl
  intro T hT X
  obtain ⟨v, st₀, t, T', L, h0, X', hL, e1, e2, ⟨hv, hP2, hz, hk2⟩, st⟩ := hr T hT X
  refine ⟨v, st₀, t, T', L, h0, X', fun q hq => by have := hL q hq; rw [hB] at this; omega, e1, e2, ⟨hv, ?_, hz, fun q h1 h2 => hk2 q h1 (by rw [hB]; omega)⟩, st⟩
  have hlen : (C.take k).length = k := by rw [List.length_take]; omega
  have hw : zmW O (C.take k ++ D.map (zmSh k)) = zmW O (C.take k) ++ zmW (zOB O k) D := by
    refine List.ext_getElem? fun i => ?_
    by_cases h : i < k
    · rw [List.getElem?_append_left (by rw [zmW_len, hlen]; exact h)]
      have h1 : i < (C.take k).length := by omega
      have h2 := List.getElem?_eq_getElem h1
      rw [zmW_at h2, zmW_at (c := (C.take k)[i]) (by rw [List.getElem?_append_left h1]; exact h2)]
    · rw [List.getElem?_append_right (by rw [zmW_len, hlen]; omega), zmW_len, hlen]
      unfold zmW
      rw [List.getElem?_mapIdx, List.getElem?_mapIdx, List.getElem?_append_right (by omega), hlen, List.getElem?_map]
      cases D[i - k]? with
      | none => rfl
      | some c =>
        show some (zB O + i, _) = some (zB O + k + (i - k), _)
        rw [show zB O + k + (i - k) = zB O + i by omega, zmSh_enc]
  rw [hw]
  refine va_P.app (fun i q hq => ?_) hP2
  obtain ⟨c, hc, rfl⟩ := zmW_inv hq
  have hi := (List.getElem?_eq_some_iff.mp hc).1
  have hc' : C[i]? = some c := by rw [List.getElem?_take] at hc; split at hc; exact hc; cases hc
  have hq2 := hP i _ (zmW_at hc')
  have hlt := hq2.lt
  have hsame : t.heap[zB O + i]? = H[zB O + i]? := by
    rw [← h0] at hlt ⊢
    exact hk2 _ hlt (by rw [hB]; omega)
  have h9 := va_P.kept (D := zD O) (cl := zcl O) (ws := [(zB O + i, zEnc O (zrg c.2) c.1)]) (H := H) (H1 := t.heap) (fun j x hx => by
    cases j with
    | zero => cases hx; exact hq2
    | succ j => cases hx) (fun j x hx => by
    cases j with
    | zero => cases hx; exact hsame
    | succ j => cases hx)
  exact h9 0 _ rfl
theorem zn_init {p : Program} {e : Env} {R : Room} {s : State} {m : MethodId} {args : Array Value} {below : List Frame} {meth : Method} {c : Code} {Q : State → Prop} {O : zOm} {c0 : Nat} {code : ByteArray} {nL pc : Nat} {st : List zV} {lv : zLv} {C D : zmC} {nc ns k ci kd pl pim o a b : Nat} (X : zmX p R s m args c O (zCn c0) code nL) (hc0 : c0 < 13)
    (hsz : s.heap.size + nc = zB O + C.length) (hd : decode code pc = .ok (.invokespecial k, 3)) (hk : (k, ci, kd, pl, pim) ∈ zki.getD c0 []) (hR : nc + a ≤ R.cells) (hRs : ns + b ≤ R.slots) (ho : C.length = o + 1) (hfr0 : C[o]? = some (zmFresh ci)) (hcat : zcats st ≤ 8)
    (hfr : (zFn (zkFi ci)).2.2.2.2.1 + 1 ≤ R.frames ∧ 8 + ((zFn (zkFi ci)).2.2.1 + 11) + (zFn (zkFi ci)).2.2.2.2.2 ≤ R.locals)
    (hrec : ∀ O' : zOm, zcl O' = zCl → zmR O' (zFn (zkFi ci)) ci D a b)
    (h : zmGo p e R s m args below meth c Q O nL (pc + 3) st lv (C.take o ++ D.map (zmSh o)) (nc + a) (ns + b)) : zmGo p e R s m args below meth c Q O nL pc ((2, (o : Int)) :: st) lv C nc ns := by
  obtain ⟨hx, hb, hml, hown, hts, hK, hN, hcl, hB, hAO, hSt⟩ := X
  intro H locs ls hP hS hl
  refine zW_sz fun hz => ?_
  have hz2 := zm_size hP (by omega) (by omega)
  obtain ⟨hf, hini, hinst, hname, hret, hd1, hd2, hd3, hlk⟩ := zki_at hc0 hk
  have hcode : Jvm.Cond.code (zFn (zkFi ci)).1 (zFn (zkFi ci)).2.1 (zFn (zkFi ci)).2.2.1 (zFn (zkFi ci)).2.2.2.1 ∈ zWS := by
    refine zFnL_ok _ ?_
    unfold zFn
    rw [List.getD_eq_getElem?_getD, List.getElem?_eq_getElem hf]
    exact List.getElem_mem hf
  have hrec := hrec (zOB O o) hcl
  generalize zFn (zkFi ci) = f at hini hinst hname hret hd1 hd2 hd3 hlk hfr hrec hcode
  have hG := zGood f hcode
  obtain ⟨y, bc, mL, ret, fr, lo⟩ := f
  dsimp only at hini hinst hname hret hd1 hd2 hd3 hlk hfr
  subst hret
  rw [List.map_cons, zWv_nn O (Int.natCast_nonneg _)]
  have hP1 : va_P (zD O) (zcl O) (zmW (zOB O o) [zmFresh ci]) H := by
    intro j q hq
    obtain ⟨c1, hc1, rfl⟩ := zmW_inv hq
    cases j with
    | zero =>
      cases hc1
      have h9 := hP o _ (zmW_at hfr0)
      rw [← zmSh_enc, zmSh_fresh]
      exact h9
    | succ j => cases hc1
  have hPS : PreS s H (zmPc (zOB O o) [zmFresh ci] 0) (.ref (zB O + o) :: []) := ⟨zmPc_blind _ _ _, fun U hU hW => ⟨rfl, by rw [hU, hz2, ho]; rfl, by rw [hU]; exact hP1, va_K.moved hW.alike hK, fun q hq => va_Nw.warmM hW (hN q hq), hAO.moved hW.alike, by rw [hU]; exact hSt.to hW hS.2.1 (fun q (hq : zB O + o ≤ q) => by omega)⟩⟩
  have hW8 : 2 * (F0 m pc ls (.ref (zB O + o) :: st.map (zWv O))).monitorRoom + ((st.map (zWv O)).map fun v => v.category).sum ≤ 8 := lv_room (by rw [zcats_wv]; exact hcat)
  rcases hlk with hlk | hlk
  · exact zmcall (zm_run2 hP (va_runI (As := []) (rest := st.map (zWv O)) ⟨hx, hb, hml, hown, hts⟩ hrec (cwI 0 hts hG rfl rfl rfl (hts _ hini) (hts _ hlk) (hts _ hinst) hname ⟨hd1, hd2, hd3⟩ hfr) hPS rfl rfl hl.1 rfl hW8 hd ⟨hR, hRs⟩) (by omega)) hS hl h
  · have q0 : va_Nw (.methodLinkNest (zCn c0) k y "ToldNet") s := hN (zCn c0, k, y) hlk
    exact zmcall (zm_run2 hP (va_runIN (As := []) (rest := st.map (zWv O)) ⟨hx, hb, hml, hown, hts⟩ hrec ⟨va_cnB 0 hts hG rfl rfl rfl q0 (hts _ hini) ⟨hd1, hd2, hd3⟩ hfr, hname, hts _ hinst⟩ hPS rfl rfl hl.1 rfl hW8 hd ⟨hR, hRs⟩) (by omega)) hS hl h
