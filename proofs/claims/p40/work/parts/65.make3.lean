theorem zmW_put {O : zOm} {C : zmC} {o : Nat} {sh : zSh} {r0 : zRow} (h : C[o]? = some (sh, r0)) (c : zSh × zRow) {x : va_E} (he : x = zEnc O (zrg c.2) c.1) : (zmW O C).set o (zB O + o, x) = zmW O (C.set o c) := by
  rw [zmW_set (List.getElem?_eq_some_iff.mp h).1, he]
theorem zenc_putI {O : zOm} {row : Int → Int} {ci j : Nat} {x : Int} {fks : List (Option (Option Nat))} (hf : fks[j]? = some none) : (fks.mapIdx (zFv O row)).set j (.int (zi x)) = fks.mapIdx (zFv O (zup row j x)) := by
  have hlt := (List.getElem?_eq_some_iff.mp hf).1
  refine List.ext_getElem? fun i => ?_
  rw [List.getElem?_set]
  by_cases hij : j = i
  · subst hij
    rw [if_pos rfl, if_pos (by rw [List.length_mapIdx]; exact hlt), List.getElem?_mapIdx, hf]
    show _ = some (Value.int (zi (zup row j x j)))
    unfold zup
    rw [if_pos rfl]
  · rw [if_neg hij, List.getElem?_mapIdx, List.getElem?_mapIdx]
    congr 1
    funext fk
    unfold zFv
    cases fk with
    | none => show Value.int (zi (row i)) = Value.int (zi (zup row j x i)); unfold zup; rw [if_neg (by omega)]
    | some q => cases q <;> rfl
theorem zenc_putF {O : zOm} {row : Int → Int} {j v : Nat} {fks : List (Option (Option Nat))} (hl : j < fks.length) : (fks.mapIdx (zFv O row)).set j (.ref (zB O + v)) = (fks.set j (some (some v))).mapIdx (zFv O row) := by
  refine List.ext_getElem? fun i => ?_
  rw [List.getElem?_set, List.getElem?_mapIdx, List.getElem?_mapIdx, List.getElem?_set, List.length_mapIdx]
  by_cases hij : j = i
  · subst hij
    rw [if_pos rfl, if_pos rfl, if_pos hl, if_pos hl]
    rfl
  · rw [if_neg hij, if_neg hij]
def zrefB : Option FieldType → Bool
  | some (.object _) => true
  | some (.array _) => true
  | _ => false
def zfkOk : Bool := (List.range 13).all fun ci => match zCl[ci]? with
  | some (C, T, N) => (List.range N).all fun k => if (T k).2.2.2 = true then decide ((T k).1 = C) && zrefB (parseFieldDescriptor (T k).2.2.1) else decide ((T k).2.2.1 = "I")
  | none => false
theorem zfkOk_ok : zfkOk = true := by decide +kernel
theorem zfk_at {ci k N : Nat} {C : String} {T : u_T} (h13 : ci < 13) (hc : zCl[ci]? = some (C, T, N)) (hk : k < N) : if (T k).2.2.2 = true then (T k).1 = C ∧ zrefB (parseFieldDescriptor (T k).2.2.1) = true else (T k).2.2.1 = "I" := by
  have h := List.all_eq_true.mp zfkOk_ok ci (List.mem_range.mpr h13)
  rw [hc] at h
  have h1 := List.all_eq_true.mp h k (List.mem_range.mpr hk)
  split at h1
  next q => rw [if_pos q]; rw [Bool.and_eq_true, decide_eq_true_eq] at h1; exact h1
  next q => rw [if_neg q]; exact of_decide_eq_true h1
theorem zCl_13 {ci : Nat} {q : vw_C} (h : zCl[ci]? = some q) : ci < 13 := (List.getElem?_eq_some_iff.mp h).1
def zPfOk (c0 : Nat) (pf : Nat → Option (Nat × Nat)) : Prop := ∀ k ci j, pf k = some (ci, j) → ∃ (C : String) (T : u_T) (N : Nat), zCl[ci]? = some (C, T, N) ∧ j < N ∧ Jvm.Cond.fieldLink (zCn c0) k (T j).1 (T j).2.1 (T j).2.2.1 ∈ zWS
theorem zn_putI {p : Program} {e : Env} {R : Room} {s : State} {m : MethodId} {args : Array Value} {below : List Frame} {meth : Method} {c : Code} {Q : State → Prop} {O : zOm} {c0 : Nat} {code : ByteArray} {nL pc : Nat} {st : List zV} {lv : zLv} {C : zmC} {nc ns k ci j o : Nat} {x : Int} {pf : Nat → Option (Nat × Nat)} {fks : List (Option (Option Nat))} {r : zRow} (X : zmX p R s m args c O (zCn c0) code nL) (hF : zPfOk c0 pf)
    (hd : decode code pc = .ok (.putfield k, 3)) (hk : pf k = some (ci, j)) (ho : C[o]? = some (.inr (ci, fks), r)) (hf : fks[j]? = some none) (hfin : (match zCl[ci]? with
      | some (_, T, _) => !(T j).2.2.2
      | none => false) = true)
    (h : zmGo p e R s m args below meth c Q O nL (pc + 3) st lv (C.set o (.inr (ci, fks), zrs r j x)) nc ns) : zmGo p e R s m args below meth c Q O nL pc ((0, x) :: (2, (o : Int)) :: st) lv C nc ns := by
  obtain ⟨hx, hb, hml, hown, hts, hK, hN, hcl, hB, hAO, hSt⟩ := X
  intro H locs ls hP hS hl
  obtain ⟨Cn, T, N, hc, hj, hlk⟩ := hF k ci j hk
  rw [hc] at hfin
  have hfin : (T j).2.2.2 = false := by simpa using hfin
  have hc' : (zcl O)[ci]? = some (Cn, T, N) := by rw [hcl]; exact hc
  obtain ⟨hw, ⟨ty0, hty⟩, hnm⟩ := zCl_ok ci Cn T N hc
  have hI := zfk_at (zCl_13 hc) hc hj
  rw [if_neg (by rw [hfin]; decide)] at hI
  rw [List.map_cons, List.map_cons, zWv_nn O (Int.natCast_nonneg _)]
  have hlt := (List.getElem?_eq_some_iff.mp hf).1
  refine va_put (D := zD O) (v := .int (zi x)) (ty := .int) hx hb hts hw ty0 hty hnm hown hK hP (zmW_D O C) hS o (zmW_at ho) hc' j hj (hts _ hlk) (fun _ h9 => h9) hfin (by rw [hI]; decide) rfl rfl (by rw [List.length_mapIdx]; exact hlt) hd (fun H1 locs1 hP1 hD1 hS1 => ?_)
  refine h H1 locs1 ls ?_ hS1 hl
  have he : Sum.inr (ci, (fks.mapIdx (zFv O (zrg r))).set j (.int (zi x))) = zEnc O (zrg (zrs r j x)) (.inr (ci, fks)) := by
    rw [zenc_putI (ci := ci) hf, zrg_set]
    rfl
  rw [← zmW_put ho (.inr (ci, fks), zrs r j x) he]
  exact hP1
theorem zn_putF {p : Program} {e : Env} {R : Room} {s : State} {m : MethodId} {args : Array Value} {below : List Frame} {meth : Method} {c : Code} {Q : State → Prop} {O : zOm} {c0 : Nat} {code : ByteArray} {nL pc : Nat} {st : List zV} {lv : zLv} {C : zmC} {nc ns k j o v : Nat} {pf : Nat → Option (Nat × Nat)} {fks : List (Option (Option Nat))} {r : zRow} (X : zmX p R s m args c O (zCn c0) code nL) (hF : zPfOk c0 pf) (hin : meth.name = "<init>")
    (hd : decode code pc = .ok (.putfield k, 3)) (hk : pf k = some (c0, j)) (ho : C[o]? = some (.inr (c0, fks), r)) (hl2 : j < fks.length) (hfin : (match zCl[c0]? with
      | some (_, T, _) => (T j).2.2.2
      | none => false) = true)
    (h : zmGo p e R s m args below meth c Q O nL (pc + 3) st lv (C.set o (.inr (c0, fks.set j (some (some v))), r)) nc ns) : zmGo p e R s m args below meth c Q O nL pc ((2, (v : Int)) :: (2, (o : Int)) :: st) lv C nc ns := by
  obtain ⟨hx, hb, hml, hown, hts, hK, hN, hcl, hB, hAO, hSt⟩ := X
  intro H locs ls hP hS hl
  obtain ⟨Cn, T, N, hc, hj, hlk⟩ := hF k c0 j hk
  rw [hc] at hfin
  have hfin : (T j).2.2.2 = true := hfin
  have hc' : (zcl O)[c0]? = some (Cn, T, N) := by rw [hcl]; exact hc
  obtain ⟨hw, ⟨ty0, hty⟩, hnm⟩ := zCl_ok c0 Cn T N hc
  have hI := zfk_at (zCl_13 hc) hc hj
  rw [if_pos hfin] at hI
  have hCn : zCn c0 = Cn := by unfold zCn; rw [hc]
  rw [List.map_cons, List.map_cons, zWv_nn O (Int.natCast_nonneg _), zWv_nn O (Int.natCast_nonneg _)]
  have hds : ∃ ty, parseFieldDescriptor (T j).2.2.1 = some ty ∧ narrow ty (.ref (zB O + v)) = .ref (zB O + v) ∧ fits ty (.ref (zB O + v)) = true := by
    have h2 := hI.2
    unfold zrefB at h2
    split at h2
    next e1 => exact ⟨_, e1, rfl, rfl⟩
    next e1 => exact ⟨_, e1, rfl, rfl⟩
    next => cases h2
  obtain ⟨ty, d1, d2, d3⟩ := hds
  refine va_putF (D := zD O) (v := .ref (zB O + v)) (ty := ty) hx hb hts hw ty0 hty hnm hown hK hP (zmW_D O C) hS o (zmW_at ho) hc' j hj (hts _ hlk) (fun _ h9 => h9) hfin hin (by rw [hCn]; exact hI.1) d1 d2 d3 (by rw [List.length_mapIdx]; exact hl2) hd (fun H1 locs1 hP1 hD1 hS1 => ?_)
  refine h H1 locs1 ls ?_ hS1 hl
  have he : Sum.inr (c0, (fks.mapIdx (zFv O (zrg r))).set j (.ref (zB O + v))) = zEnc O (zrg r) (.inr (c0, fks.set j (some (some v)))) := by
    rw [zenc_putF hl2]
    rfl
  rw [← zmW_put ho (.inr (c0, fks.set j (some (some v))), r) he]
  exact hP1
theorem zn_getF {p : Program} {e : Env} {R : Room} {s : State} {m : MethodId} {args : Array Value} {below : List Frame} {meth : Method} {c : Code} {Q : State → Prop} {O : zOm} {c0 : Nat} {code : ByteArray} {nL pc : Nat} {st : List zV} {lv : zLv} {C : zmC} {nc ns k ci j o v : Nat} {pf : Nat → Option (Nat × Nat)} {fks : List (Option (Option Nat))} {r : zRow} (X : zmX p R s m args c O (zCn c0) code nL) (hF : zPfOk c0 pf)
    (hd : decode code pc = .ok (.getfield k, 3)) (hk : pf k = some (ci, j)) (ho : C[o]? = some (.inr (ci, fks), r)) (hf : fks[j]? = some (some (some v)))
    (h : zmGo p e R s m args below meth c Q O nL (pc + 3) ((2, (v : Int)) :: st) lv C nc ns) : zmGo p e R s m args below meth c Q O nL pc ((2, (o : Int)) :: st) lv C nc ns := by
  obtain ⟨hx, hb, hml, hown, hts, hK, hN, hcl, hB, hAO, hSt⟩ := X
  intro H locs ls hP hS hl
  obtain ⟨Cn, T, N, hc, hj, hlk⟩ := hF k ci j hk
  have hc' : (zcl O)[ci]? = some (Cn, T, N) := by rw [hcl]; exact hc
  obtain ⟨hw, -, -⟩ := zCl_ok ci Cn T N hc
  have h1 := h H locs ls hP hS hl
  rw [List.map_cons, zWv_nn O (Int.natCast_nonneg _)] at h1 ⊢
  exact va_get (D := zD O) hx hb hts hw hown hK hP o (zmW_at ho) hc' j hj (hts _ hlk) (fun _ h9 => h9) (v := .ref (zB O + v)) (by rw [List.getElem?_mapIdx, hf]; rfl) hd h1
theorem zn_aast {p : Program} {e : Env} {R : Room} {s : State} {m : MethodId} {args : Array Value} {below : List Frame} {meth : Method} {c : Code} {Q : State → Prop} {O : zOm} {own : String} {code : ByteArray} {nL pc : Nat} {st : List zV} {lv : zLv} {C : zmC} {nc ns n i a v ci : Nat} {Cn : String} {T : u_T} {N : Nat} {rs : List (Option Nat)} {fks : List (Option (Option Nat))} {r r2 : zRow} (X : zmX p R s m args c O own code nL)
    (hd : decode code pc = .ok (.aastore, 1)) (hc : zCl[ci]? = some (Cn, T, N)) (hty : FieldType.object Cn ∈ zTy) (ha : C[a]? = some (.inl (.object Cn, n, rs), r)) (hv : C[v]? = some (.inr (ci, fks), r2)) (hi : i < n) (hn : n < 1048576) (hrs : i < rs.length)
    (h : zmGo p e R s m args below meth c Q O nL (pc + 1) st lv (C.set a (.inl (.object Cn, n, rs.set i (some v)), r)) nc ns) : zmGo p e R s m args below meth c Q O nL pc ((2, (v : Int)) :: (0, (i : Int)) :: (2, (a : Int)) :: st) lv C nc ns := by
  obtain ⟨hx, hb, hml, hown, hts, hK, hN, hcl, hB, hAO, hSt⟩ := X
  intro H locs ls hP hS hl
  obtain ⟨n1, n2⟩ := znat_i (n := i) (by omega)
  obtain ⟨t0, ht0⟩ := zTy_at O hty
  have hc' : (zcl O)[ci]? = some (Cn, T, N) := by rw [hcl]; exact hc
  rw [List.map_cons, List.map_cons, List.map_cons, zWv_nn O (Int.natCast_nonneg _), zWv_nn O (Int.natCast_nonneg _)]
  refine va_astq (D := zD O) (r := (Cn, T, N)) hx hb hK hP (zmW_D O C) hS a t0 v ci (zmW_at ha) ht0 (zmW_at hv) hc' (i := zi (i : Int)) (fun q => q.elim n1 (by rw [n2]; omega)) hd (fun H1 locs1 hP1 hD1 hS1 => ?_)
  refine h H1 locs1 ls ?_ hS1 hl
  refine (zmW_put ha (.inl (.object Cn, n, rs.set i (some v)), r) ?_) ▸ hP1
  refine congrArg (fun z => Sum.inl (zcA O (.object Cn), n, Sum.inr (Sum.inr (Sum.inr (Sum.inr z))))) (funext fun j => ?_)
  rw [n2]
  unfold va_up
  rw [List.getD_eq_getElem?_getD, List.getElem?_set]
  by_cases hj : j = i
  · subst hj
    rw [if_pos rfl, if_pos rfl, if_pos hrs]
    rfl
  · rw [if_neg hj, if_neg (fun q => hj q.symm)]
    show Option.map _ (rs.getD j none) = _
    rw [List.getD_eq_getElem?_getD]
theorem zn_last {p : Program} {e : Env} {R : Room} {s : State} {m : MethodId} {args : Array Value} {below : List Frame} {meth : Method} {c : Code} {Q : State → Prop} {O : zOm} {own : String} {code : ByteArray} {nL pc : Nat} {st : List zV} {lv : zLv} {C : zmC} {nc ns n i a : Nat} {x : Int} {rs : List (Option Nat)} {r : zRow} (X : zmX p R s m args c O own code nL)
    (hd : decode code pc = .ok (.lastore, 1)) (ha : C[a]? = some (.inl (.long, n, rs), r)) (hi : i < n) (hn : n < 1048576)
    (h : zmGo p e R s m args below meth c Q O nL (pc + 1) st lv (C.set a (.inl (.long, n, rs), zrs r i x)) nc ns) : zmGo p e R s m args below meth c Q O nL pc ((1, x) :: (0, (i : Int)) :: (2, (a : Int)) :: st) lv C nc ns := by
  obtain ⟨hx, hb, hml, hown, hts, hK, hN, hcl, hB, hAO, hSt⟩ := X
  intro H locs ls hP hS hl
  obtain ⟨n1, n2⟩ := znat_i (n := i) (by omega)
  obtain ⟨t0, ht0⟩ := zTy_at O (ty := .long) (by decide)
  rw [List.map_cons, List.map_cons, List.map_cons, zWv_nn O (Int.natCast_nonneg _)]
  refine va_last (D := zD O) hx hb hK hP (zmW_D O C) hS a t0 (zmW_at ha) ht0 (i := zi (i : Int)) (x := zl x) (fun q => q.elim n1 (by rw [n2]; omega)) hd (fun H1 locs1 hP1 hD1 hS1 => ?_)
  refine h H1 locs1 ls ?_ hS1 hl
  refine (zmW_put ha (.inl (.long, n, rs), zrs r i x) ?_) ▸ hP1
  refine congrArg (fun z => Sum.inl (zcA O .long, n, Sum.inr (Sum.inl z))) (funext fun j => ?_)
  rw [n2]
  unfold vp_updL
  rw [zrg_set]
  unfold zup
  by_cases hj : j = i
  · subst hj
    rw [if_pos rfl, if_pos rfl]
  · rw [if_neg hj, if_neg (by omega)]
