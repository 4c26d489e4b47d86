theorem zcall {p : Program} {e : Env} {R : Room} {s : State} {m : MethodId} {args : Array Value} {below : List Frame} {meth : Method} {c : Code} {Q : State → Prop} {O : zOm} {nL pc : Nat} {rest : List zV} {lv : zLv} {K : Option zV → zMem → Prop} {H : Heap} {locs : List Loc} {ls : Array Slot} {g0 : List Value} {a : Array Value}
    (hr : va_Run p (zLn O) e R s m args below meth c H locs 0 0 0 0 (F0 m pc ls g0) (rest.map (zWv O)) (zQ O K H.size a) (zA O H.size)) (hS : va_S (zA O s.heap.size) s.heap H locs) (hrest : ∀ v ∈ rest, zok v) (hlv : ∀ q ∈ lv, zok q.2) (hl : lv_has ls nL (lv.map fun q => (q.1, zWv O q.2)))
    (kk : ∀ v u, K v u → zGo p e R s m args below meth c Q O nL (pc + 3) (v.toList ++ rest) lv u) : W p (zLn O) e R s m args below meth c H locs 0 0 Q (F0 m pc ls g0) := by
  intro T hT X
  obtain ⟨v, st₀, t, T', L, h0, X', hL, e1, e2, ⟨⟨r, u, hv, hok, hM, hK, hP⟩, hz, hk⟩, st⟩ := hr T hT X
  cases hv
  rw [h0] at hz hk
  have hA := zA_mono (O := O) hS.1
  have hS' : va_S (zA O s.heap.size) s.heap T'.heap (locs ++ L) := ⟨Nat.le_trans hS.1 (by rw [e1]; exact hz), fun q h1 h2 => by rw [e1, hk q (Nat.lt_of_lt_of_le h1 hS.1) (fun z => h2 (hA q z))]; exact hS.2.1 q h1 h2, fun q hq => by
      rcases List.mem_append.mp hq with h | h
      · exact hS.2.2 q h
      · exact hA _ (hL q h)⟩
  have hst : ∀ w ∈ r.toList ++ rest, zok w := fun w hw => by
    rcases List.mem_append.mp hw with h | h
    · cases r with
      | none => cases h
      | some r0 =>
        have : w = r0 := by simpa using h
        subst this
        exact hok _ rfl
    · exact hrest w h
  have hstk : (r.toList ++ rest).map (zWv O) = (r.map (zWv O)).toList ++ rest.map (zWv O) := by cases r <;> rfl
  have k := kk r u hK hst hlv hM T'.heap (locs ++ L) ls (by rw [e1]; exact hP) hS' hl
  rw [hstk] at k
  obtain ⟨t2, a1, b1⟩ := k T' rfl X'
  exact ⟨t2, st t2 a1, b1⟩
theorem zPc_blind (O : zOm) (M : zMem) (sz : Nat) (as : List zV) : FrameBlind (zPc O M sz as) := by
  intro a U g mk h
  obtain ⟨h1, h2, h3, h4, h5⟩ := h
  exact ⟨h1, h2, h3, va_K.moved (Vm.Alike.refl _) h4, fun q hq => va_Nw.same rfl rfl (h5 q hq)⟩
theorem zPc_at {O : zOm} {M : zMem} {as : List zV} {s U : State} {H : Heap} (hP : va_P (zD O) (zcl O) (zWorld O M) H) (hK : va_K (zD O) (zcl O) (zTys O) s) (hN : zNw s) (hU : U.heap = H) (hW : s.WarmedH U.vm) : zPc O M H.size as (as.map (zWv O)).toArray U :=
  ⟨rfl, by rw [hU], by rw [hU]; exact hP, va_K.moved hW.alike hK, fun q hq => va_Nw.warmM hW (hN q hq)⟩
theorem zGood (f : zMR) (h : Jvm.Cond.code f.1 f.2.1 f.2.2.1 f.2.2.2.1 ∈ zWS) : GoodIn zWS (zWs f) := by
  intro w hw
  have hw : w ∈ zWS := by
    rcases List.mem_cons.mp hw with rfl | hw
    · exact h
    · exact hw
  exact ⟨hw, good_of_word (List.mem_filter.mp hw).2⟩
theorem zFld_inv {S : List zSh} {o : Int} {ci k : Nat} {q : Option (Option Nat)} (h : zFld S o ci k = some q) : 0 ≤ o ∧ ∃ fks, S[o.toNat]? = some (.inr (ci, fks)) ∧ fks[k]? = some q := by
  unfold zFld at h
  split at h
  next h0 =>
    refine ⟨h0, ?_⟩
    split at h
    next c fks hs =>
      split at h
      next hc => subst hc; exact ⟨fks, hs, h⟩
      next => cases h
    next => cases h
  next => cases h
theorem zEnc_inr (O : zOm) (row : Int → Int) (ci : Nat) (fks : List (Option (Option Nat))) : zEnc O row (.inr (ci, fks)) = .inr (ci, fks.mapIdx (zFv O row)) := rfl
theorem zrv_wv (O : zOm) (q : Option Nat) : zWv O (zrv q) = va_rf (q.map (zB O + ·)) := by
  cases q with
  | none => rfl
  | some r =>
    show zWv O (2, (r : Int)) = _
    rw [zWv_nn O (Int.natCast_nonneg r)]
    rfl
theorem zrv_ok (q : Option Nat) : zok (zrv q) := by
  cases q with
  | none => show (-2 : Int) ≤ -1; decide
  | some r => show (-2 : Int) ≤ (r : Int); omega
theorem zfk_ref (O : zOm) (row : Int → Int) (k : Nat) (q : Option Nat) : zFv O row k (some q) = zWv O (zrv q) := by
  rw [zrv_wv]
  cases q <;> rfl
theorem zand_i (x y : Int) : zi x &&& zi y = zi (zand x y) := (zi_of _).symm
theorem zor_i (x y : Int) : zi x ||| zi y = zi (zor x y) := (zi_of _).symm
theorem zxor_i (x y : Int) : zi x ^^^ zi y = zi (zxor x y) := (zi_of _).symm
theorem zshl_i (x y : Int) : zi x <<< (zi y &&& 31) = zi (zshl x y) := (zi_of _).symm
theorem zshr_i (x y : Int) : zi x >>> (zi y &&& 31) = zi (zshr x y) := (zi_of _).symm
theorem zcmp_i {x y : Int} (hx : zin64 x) (hy : zin64 y) : lg_cmp (zl x) (zl y) = zi (zcmp x y) := by
  unfold lg_cmp zcmp
  simp only [zl_lt hx hy, zl_lt hy hx, zl_eq hx hy]
  by_cases h1 : x < y
  · simp [h1, show ¬ y < x by omega, show ¬ x = y by omega]; rfl
  · by_cases h2 : x = y
    · simp [h2]; rfl
    · simp [h1, h2, show y < x by omega]; rfl
theorem zcmp_in (x y : Int) : zin32 (zcmp x y) := by
  unfold zcmp zin32
  split
  · omega
  · split <;> omega
theorem zupd_i {f : Int → Int} {j x : Int} (hj : 0 ≤ j) : (fun k : Nat => zi (zup f j x (k : Int))) = upd (fun k : Nat => zi (f (k : Int))) j.toNat (zi x) := by
  funext k
  unfold zup upd
  by_cases h : (k : Int) = j
  · rw [if_pos h, if_pos (by omega)]
  · rw [if_neg h, if_neg (by omega)]
theorem zupd_l {f : Int → Int} {j x : Int} (hj : 0 ≤ j) : (fun k : Nat => zl (zup f j x (k : Int))) = vp_updL (fun k : Nat => zl (f (k : Int))) j.toNat (zl x) := by
  funext k
  unfold zup vp_updL
  by_cases h : (k : Int) = j
  · rw [if_pos h, if_pos (by omega)]
  · rw [if_neg h, if_neg (by omega)]
theorem zShOk_up {row : Int → Int} {ty : FieldType} {n : Nat} {rs : List (Option Nat)} {j x : Int} (h : zShOk row (.inl (ty, n, rs))) (hx : zfit ty x) : zShOk (zup row j x) (.inl (ty, n, rs)) := by
  intro k hk
  unfold zup
  by_cases hkj : (k : Int) = j
  · rw [if_pos hkj]; exact hx
  · rw [if_neg hkj]; exact h k hk
theorem zShOk_upF {row : Int → Int} {ci : Nat} {fks : List (Option (Option Nat))} {j x : Int} (h : zShOk row (.inr (ci, fks))) (hx : zin32 x) : zShOk (zup row j x) (.inr (ci, fks)) := by
  intro k hk
  unfold zup
  by_cases hkj : (k : Int) = j
  · rw [if_pos hkj]; exact hx
  · rw [if_neg hkj]; exact h k hk
theorem zfit_int {ty : FieldType} {x : Int} (h : zfit ty x) (ht : ty = .boolean ∨ ty = .byte ∨ ty = .int) : zin32 x := by
  rcases ht with rfl | rfl | rfl
  · rcases h with h | h <;> (subst h; exact ⟨by decide, by decide⟩)
  · obtain ⟨h1, h2⟩ := h
    exact ⟨by omega, by omega⟩
  · exact h
theorem zcl_i {n : Int} (h0 : 0 ≤ n) : ∃ k : Nat, n = k := ⟨n.toNat, by omega⟩
theorem zcpy_i {f g : Int → Int} {sp dp cn : Int} (h1 : 0 ≤ sp) (h2 : 0 ≤ dp) (h3 : 0 ≤ cn) : (fun k : Nat => zi (zcpy f g sp dp cn (k : Int))) = va_cpy (fun k : Nat => zi (f (k : Int))) (fun k : Nat => zi (g (k : Int))) sp.toNat dp.toNat cn.toNat := by
  funext k
  unfold zcpy va_cpy
  by_cases h : dp ≤ (k : Int) ∧ (k : Int) < dp + cn
  · rw [if_pos h, if_pos (by omega)]
    have : sp + ((k : Int) - dp) = ((sp.toNat + (k - dp.toNat) : Nat) : Int) := by omega
    rw [this]
  · rw [if_neg h, if_neg (by omega)]

set_option maxHeartbeats 4000000 in
set_option maxRecDepth 100000 in
theorem zg_iconst {p : Program} {e : Env} {R : Room} {s : State} {m : MethodId} {args : Array Value} {below : List Frame} {meth : Method} {c : Code} {Q : State → Prop} {O : zOm} {ev : zEv} (X : zCx p R s m args meth c O ev) {rt : Option zV → zMem → Prop} {n pc : Nat} {st : List zV} {lv : zLv} {M : zMem} {v : Int}
    (hd : decode ev.2.1 pc = .ok (.iconst v, n)) (h : zStep ev (zS O) (zR O) rt (.iconst v) n pc st lv M (zGo p e R s m args below meth c Q O ev.2.2.1)) : zGo p e R s m args below meth c Q O ev.2.2.1 pc st lv M := by
  obtain ⟨own, code, nL, ret, pf, pm, pk, fr, lo, fn⟩ := ev
  obtain ⟨hx, hb, hml, hret, hown, hts, hK, hN, hfr, hlo, hszB, hSo, hCl, hF, hM0, hM1, hM2, hM5, hk0, hk1, hM3, hM4⟩ := X
  dsimp only at hb hml hret hown hfr hlo hF hM0 hM1 hM2 hM5 hk0 hk1 hM3 hM4 hd
  intro hst hlv hM H locs ls hP hS hl
  obtain ⟨rfl, hv, h⟩ := h
  exact lv_iconst (v := zi v) hx hb hd rfl (h (zok_cons ⟨by omega, by omega⟩ hst) hlv hM H locs ls hP hS hl)

set_option maxHeartbeats 4000000 in
set_option maxRecDepth 100000 in
theorem zg_bipush {p : Program} {e : Env} {R : Room} {s : State} {m : MethodId} {args : Array Value} {below : List Frame} {meth : Method} {c : Code} {Q : State → Prop} {O : zOm} {ev : zEv} (X : zCx p R s m args meth c O ev) {rt : Option zV → zMem → Prop} {n pc : Nat} {st : List zV} {lv : zLv} {M : zMem} {v : Int}
    (hd : decode ev.2.1 pc = .ok (.bipush v, n)) (h : zStep ev (zS O) (zR O) rt (.bipush v) n pc st lv M (zGo p e R s m args below meth c Q O ev.2.2.1)) : zGo p e R s m args below meth c Q O ev.2.2.1 pc st lv M := by
  obtain ⟨own, code, nL, ret, pf, pm, pk, fr, lo, fn⟩ := ev
  obtain ⟨hx, hb, hml, hret, hown, hts, hK, hN, hfr, hlo, hszB, hSo, hCl, hF, hM0, hM1, hM2, hM5, hk0, hk1, hM3, hM4⟩ := X
  dsimp only at hb hml hret hown hfr hlo hF hM0 hM1 hM2 hM5 hk0 hk1 hM3 hM4 hd
  intro hst hlv hM H locs ls hP hS hl
  obtain ⟨rfl, hv, h⟩ := h
  exact lv_bipush (v := zi v) hx hb hd (zi_i8 hv) (h (zok_cons ⟨by omega, by omega⟩ hst) hlv hM H locs ls hP hS hl)

set_option maxHeartbeats 4000000 in
set_option maxRecDepth 100000 in
theorem zg_sipush {p : Program} {e : Env} {R : Room} {s : State} {m : MethodId} {args : Array Value} {below : List Frame} {meth : Method} {c : Code} {Q : State → Prop} {O : zOm} {ev : zEv} (X : zCx p R s m args meth c O ev) {rt : Option zV → zMem → Prop} {n pc : Nat} {st : List zV} {lv : zLv} {M : zMem} {v : Int}
    (hd : decode ev.2.1 pc = .ok (.sipush v, n)) (h : zStep ev (zS O) (zR O) rt (.sipush v) n pc st lv M (zGo p e R s m args below meth c Q O ev.2.2.1)) : zGo p e R s m args below meth c Q O ev.2.2.1 pc st lv M := by
  obtain ⟨own, code, nL, ret, pf, pm, pk, fr, lo, fn⟩ := ev
  obtain ⟨hx, hb, hml, hret, hown, hts, hK, hN, hfr, hlo, hszB, hSo, hCl, hF, hM0, hM1, hM2, hM5, hk0, hk1, hM3, hM4⟩ := X
  dsimp only at hb hml hret hown hfr hlo hF hM0 hM1 hM2 hM5 hk0 hk1 hM3 hM4 hd
  intro hst hlv hM H locs ls hP hS hl
  obtain ⟨rfl, hv, h⟩ := h
  exact lv_sipush (v := zi v) hx hb hd (zi_i16 hv) (h (zok_cons ⟨by omega, by omega⟩ hst) hlv hM H locs ls hP hS hl)

set_option maxHeartbeats 4000000 in
set_option maxRecDepth 100000 in
theorem zg_lconst {p : Program} {e : Env} {R : Room} {s : State} {m : MethodId} {args : Array Value} {below : List Frame} {meth : Method} {c : Code} {Q : State → Prop} {O : zOm} {ev : zEv} (X : zCx p R s m args meth c O ev) {rt : Option zV → zMem → Prop} {n pc : Nat} {st : List zV} {lv : zLv} {M : zMem} {v : Fin 2}
    (hd : decode ev.2.1 pc = .ok (.lconst v, n)) (h : zStep ev (zS O) (zR O) rt (.lconst v) n pc st lv M (zGo p e R s m args below meth c Q O ev.2.2.1)) : zGo p e R s m args below meth c Q O ev.2.2.1 pc st lv M := by
  obtain ⟨own, code, nL, ret, pf, pm, pk, fr, lo, fn⟩ := ev
  obtain ⟨hx, hb, hml, hret, hown, hts, hK, hN, hfr, hlo, hszB, hSo, hCl, hF, hM0, hM1, hM2, hM5, hk0, hk1, hM3, hM4⟩ := X
  dsimp only at hb hml hret hown hfr hlo hF hM0 hM1 hM2 hM5 hk0 hk1 hM3 hM4 hd
  intro hst hlv hM H locs ls hP hS hl
  obtain ⟨rfl, h⟩ := h
  exact lv_lconst (v := zl ((v : Nat) : Int)) hx hb hd (by unfold zl; rw [Int64.ofInt_eq_ofNat]) (h (zok_cons ⟨by omega, by have := v.isLt; show ((v : Nat) : Int) < 9223372036854775808; omega⟩ hst) hlv hM H locs ls hP hS hl)

set_option maxHeartbeats 4000000 in
set_option maxRecDepth 100000 in
theorem zg_aconst_null {p : Program} {e : Env} {R : Room} {s : State} {m : MethodId} {args : Array Value} {below : List Frame} {meth : Method} {c : Code} {Q : State → Prop} {O : zOm} {ev : zEv} (X : zCx p R s m args meth c O ev) {rt : Option zV → zMem → Prop} {n pc : Nat} {st : List zV} {lv : zLv} {M : zMem} 
    (hd : decode ev.2.1 pc = .ok (.aconst_null, n)) (h : zStep ev (zS O) (zR O) rt (.aconst_null) n pc st lv M (zGo p e R s m args below meth c Q O ev.2.2.1)) : zGo p e R s m args below meth c Q O ev.2.2.1 pc st lv M := by
  obtain ⟨own, code, nL, ret, pf, pm, pk, fr, lo, fn⟩ := ev
  obtain ⟨hx, hb, hml, hret, hown, hts, hK, hN, hfr, hlo, hszB, hSo, hCl, hF, hM0, hM1, hM2, hM5, hk0, hk1, hM3, hM4⟩ := X
  dsimp only at hb hml hret hown hfr hlo hF hM0 hM1 hM2 hM5 hk0 hk1 hM3 hM4 hd
  intro hst hlv hM H locs ls hP hS hl
  obtain ⟨rfl, h⟩ := h
  exact lv_null hx hb hd (h (zok_cons (by show (-2 : Int) ≤ -1; decide) hst) hlv hM H locs ls hP hS hl)

set_option maxHeartbeats 4000000 in
set_option maxRecDepth 100000 in
theorem zg_ldc {p : Program} {e : Env} {R : Room} {s : State} {m : MethodId} {args : Array Value} {below : List Frame} {meth : Method} {c : Code} {Q : State → Prop} {O : zOm} {ev : zEv} (X : zCx p R s m args meth c O ev) {rt : Option zV → zMem → Prop} {n pc : Nat} {st : List zV} {lv : zLv} {M : zMem} {k : Nat}
    (hd : decode ev.2.1 pc = .ok (.ldc k, n)) (h : zStep ev (zS O) (zR O) rt (.ldc k) n pc st lv M (zGo p e R s m args below meth c Q O ev.2.2.1)) : zGo p e R s m args below meth c Q O ev.2.2.1 pc st lv M := by
  obtain ⟨own, code, nL, ret, pf, pm, pk, fr, lo, fn⟩ := ev
  obtain ⟨hx, hb, hml, hret, hown, hts, hK, hN, hfr, hlo, hszB, hSo, hCl, hF, hM0, hM1, hM2, hM5, hk0, hk1, hM3, hM4⟩ := X
  dsimp only at hb hml hret hown hfr hlo hF hM0 hM1 hM2 hM5 hk0 hk1 hM3 hM4 hd
  intro hst hlv hM H locs ls hP hS hl
  obtain ⟨rfl, v, hv, hin, h⟩ := h
  exact lv_ldc (v := zi v) hx hb hown (hts _ (hk0 k v hv)) hd (h (zok_cons hin hst) hlv hM H locs ls hP hS hl)

set_option maxHeartbeats 4000000 in
set_option maxRecDepth 100000 in
theorem zg_ldc_w {p : Program} {e : Env} {R : Room} {s : State} {m : MethodId} {args : Array Value} {below : List Frame} {meth : Method} {c : Code} {Q : State → Prop} {O : zOm} {ev : zEv} (X : zCx p R s m args meth c O ev) {rt : Option zV → zMem → Prop} {n pc : Nat} {st : List zV} {lv : zLv} {M : zMem} {k : Nat}
    (hd : decode ev.2.1 pc = .ok (.ldc_w k, n)) (h : zStep ev (zS O) (zR O) rt (.ldc_w k) n pc st lv M (zGo p e R s m args below meth c Q O ev.2.2.1)) : zGo p e R s m args below meth c Q O ev.2.2.1 pc st lv M := by
  obtain ⟨own, code, nL, ret, pf, pm, pk, fr, lo, fn⟩ := ev
  obtain ⟨hx, hb, hml, hret, hown, hts, hK, hN, hfr, hlo, hszB, hSo, hCl, hF, hM0, hM1, hM2, hM5, hk0, hk1, hM3, hM4⟩ := X
  dsimp only at hb hml hret hown hfr hlo hF hM0 hM1 hM2 hM5 hk0 hk1 hM3 hM4 hd
  intro hst hlv hM H locs ls hP hS hl
  obtain ⟨rfl, v, hv, hin, h⟩ := h
  exact lv_ldcw (v := zi v) hx hb hown (hts _ (hk0 k v hv)) hd (h (zok_cons hin hst) hlv hM H locs ls hP hS hl)

set_option maxHeartbeats 4000000 in
set_option maxRecDepth 100000 in
theorem zg_ldc2_w {p : Program} {e : Env} {R : Room} {s : State} {m : MethodId} {args : Array Value} {below : List Frame} {meth : Method} {c : Code} {Q : State → Prop} {O : zOm} {ev : zEv} (X : zCx p R s m args meth c O ev) {rt : Option zV → zMem → Prop} {n pc : Nat} {st : List zV} {lv : zLv} {M : zMem} {k : Nat}
    (hd : decode ev.2.1 pc = .ok (.ldc2_w k, n)) (h : zStep ev (zS O) (zR O) rt (.ldc2_w k) n pc st lv M (zGo p e R s m args below meth c Q O ev.2.2.1)) : zGo p e R s m args below meth c Q O ev.2.2.1 pc st lv M := by
  obtain ⟨own, code, nL, ret, pf, pm, pk, fr, lo, fn⟩ := ev
  obtain ⟨hx, hb, hml, hret, hown, hts, hK, hN, hfr, hlo, hszB, hSo, hCl, hF, hM0, hM1, hM2, hM5, hk0, hk1, hM3, hM4⟩ := X
  dsimp only at hb hml hret hown hfr hlo hF hM0 hM1 hM2 hM5 hk0 hk1 hM3 hM4 hd
  intro hst hlv hM H locs ls hP hS hl
  obtain ⟨rfl, v, hv, hin, h⟩ := h
  exact lv_ldc2 (v := zl v) hx hb hown (hts _ (hk1 k v hv)) hd (h (zok_cons hin hst) hlv hM H locs ls hP hS hl)

set_option maxHeartbeats 4000000 in
set_option maxRecDepth 100000 in
theorem zg_iload {p : Program} {e : Env} {R : Room} {s : State} {m : MethodId} {args : Array Value} {below : List Frame} {meth : Method} {c : Code} {Q : State → Prop} {O : zOm} {ev : zEv} (X : zCx p R s m args meth c O ev) {rt : Option zV → zMem → Prop} {n pc : Nat} {st : List zV} {lv : zLv} {M : zMem} {k : Nat}
    (hd : decode ev.2.1 pc = .ok (.iload k, n)) (h : zStep ev (zS O) (zR O) rt (.iload k) n pc st lv M (zGo p e R s m args below meth c Q O ev.2.2.1)) : zGo p e R s m args below meth c Q O ev.2.2.1 pc st lv M := by
  obtain ⟨own, code, nL, ret, pf, pm, pk, fr, lo, fn⟩ := ev
  obtain ⟨hx, hb, hml, hret, hown, hts, hK, hN, hfr, hlo, hszB, hSo, hCl, hF, hM0, hM1, hM2, hM5, hk0, hk1, hM3, hM4⟩ := X
  dsimp only at hb hml hret hown hfr hlo hF hM0 hM1 hM2 hM5 hk0 hk1 hM3 hM4 hd
  intro hst hlv hM H locs ls hP hS hl
  obtain ⟨rfl, x, hv, h⟩ := h
  have hm := zLook_mem hv
  exact lv_iload hx hb hd (hl.2.2 _ (List.mem_map.mpr ⟨_, hm, rfl⟩)) (h (zok_cons (hlv _ hm) hst) hlv hM H locs ls hP hS hl)

set_option maxHeartbeats 4000000 in
set_option maxRecDepth 100000 in
theorem zg_iload_n {p : Program} {e : Env} {R : Room} {s : State} {m : MethodId} {args : Array Value} {below : List Frame} {meth : Method} {c : Code} {Q : State → Prop} {O : zOm} {ev : zEv} (X : zCx p R s m args meth c O ev) {rt : Option zV → zMem → Prop} {n pc : Nat} {st : List zV} {lv : zLv} {M : zMem} {k : Fin 4}
    (hd : decode ev.2.1 pc = .ok (.iload_n k, n)) (h : zStep ev (zS O) (zR O) rt (.iload_n k) n pc st lv M (zGo p e R s m args below meth c Q O ev.2.2.1)) : zGo p e R s m args below meth c Q O ev.2.2.1 pc st lv M := by
  obtain ⟨own, code, nL, ret, pf, pm, pk, fr, lo, fn⟩ := ev
  obtain ⟨hx, hb, hml, hret, hown, hts, hK, hN, hfr, hlo, hszB, hSo, hCl, hF, hM0, hM1, hM2, hM5, hk0, hk1, hM3, hM4⟩ := X
  dsimp only at hb hml hret hown hfr hlo hF hM0 hM1 hM2 hM5 hk0 hk1 hM3 hM4 hd
  intro hst hlv hM H locs ls hP hS hl
  obtain ⟨rfl, x, hv, h⟩ := h
  have hm := zLook_mem hv
  exact lv_iload_n hx hb hd rfl (hl.2.2 _ (List.mem_map.mpr ⟨_, hm, rfl⟩)) (h (zok_cons (hlv _ hm) hst) hlv hM H locs ls hP hS hl)

set_option maxHeartbeats 4000000 in
set_option maxRecDepth 100000 in
theorem zg_lload {p : Program} {e : Env} {R : Room} {s : State} {m : MethodId} {args : Array Value} {below : List Frame} {meth : Method} {c : Code} {Q : State → Prop} {O : zOm} {ev : zEv} (X : zCx p R s m args meth c O ev) {rt : Option zV → zMem → Prop} {n pc : Nat} {st : List zV} {lv : zLv} {M : zMem} {k : Nat}
    (hd : decode ev.2.1 pc = .ok (.lload k, n)) (h : zStep ev (zS O) (zR O) rt (.lload k) n pc st lv M (zGo p e R s m args below meth c Q O ev.2.2.1)) : zGo p e R s m args below meth c Q O ev.2.2.1 pc st lv M := by
  obtain ⟨own, code, nL, ret, pf, pm, pk, fr, lo, fn⟩ := ev
  obtain ⟨hx, hb, hml, hret, hown, hts, hK, hN, hfr, hlo, hszB, hSo, hCl, hF, hM0, hM1, hM2, hM5, hk0, hk1, hM3, hM4⟩ := X
  dsimp only at hb hml hret hown hfr hlo hF hM0 hM1 hM2 hM5 hk0 hk1 hM3 hM4 hd
  intro hst hlv hM H locs ls hP hS hl
  obtain ⟨rfl, x, hv, h⟩ := h
  have hm := zLook_mem hv
  exact lv_lload hx hb hd (hl.2.2 _ (List.mem_map.mpr ⟨_, hm, rfl⟩)) (h (zok_cons (hlv _ hm) hst) hlv hM H locs ls hP hS hl)

set_option maxHeartbeats 4000000 in
set_option maxRecDepth 100000 in
theorem zg_lload_n {p : Program} {e : Env} {R : Room} {s : State} {m : MethodId} {args : Array Value} {below : List Frame} {meth : Method} {c : Code} {Q : State → Prop} {O : zOm} {ev : zEv} (X : zCx p R s m args meth c O ev) {rt : Option zV → zMem → Prop} {n pc : Nat} {st : List zV} {lv : zLv} {M : zMem} {k : Fin 4}
    (hd : decode ev.2.1 pc = .ok (.lload_n k, n)) (h : zStep ev (zS O) (zR O) rt (.lload_n k) n pc st lv M (zGo p e R s m args below meth c Q O ev.2.2.1)) : zGo p e R s m args below meth c Q O ev.2.2.1 pc st lv M := by
  obtain ⟨own, code, nL, ret, pf, pm, pk, fr, lo, fn⟩ := ev
  obtain ⟨hx, hb, hml, hret, hown, hts, hK, hN, hfr, hlo, hszB, hSo, hCl, hF, hM0, hM1, hM2, hM5, hk0, hk1, hM3, hM4⟩ := X
  dsimp only at hb hml hret hown hfr hlo hF hM0 hM1 hM2 hM5 hk0 hk1 hM3 hM4 hd
  intro hst hlv hM H locs ls hP hS hl
  obtain ⟨rfl, x, hv, h⟩ := h
  have hm := zLook_mem hv
  exact lv_lload_n hx hb hd rfl (hl.2.2 _ (List.mem_map.mpr ⟨_, hm, rfl⟩)) (h (zok_cons (hlv _ hm) hst) hlv hM H locs ls hP hS hl)

set_option maxHeartbeats 4000000 in
set_option maxRecDepth 100000 in
theorem zg_aload {p : Program} {e : Env} {R : Room} {s : State} {m : MethodId} {args : Array Value} {below : List Frame} {meth : Method} {c : Code} {Q : State → Prop} {O : zOm} {ev : zEv} (X : zCx p R s m args meth c O ev) {rt : Option zV → zMem → Prop} {n pc : Nat} {st : List zV} {lv : zLv} {M : zMem} {k : Nat}
    (hd : decode ev.2.1 pc = .ok (.aload k, n)) (h : zStep ev (zS O) (zR O) rt (.aload k) n pc st lv M (zGo p e R s m args below meth c Q O ev.2.2.1)) : zGo p e R s m args below meth c Q O ev.2.2.1 pc st lv M := by
  obtain ⟨own, code, nL, ret, pf, pm, pk, fr, lo, fn⟩ := ev
  obtain ⟨hx, hb, hml, hret, hown, hts, hK, hN, hfr, hlo, hszB, hSo, hCl, hF, hM0, hM1, hM2, hM5, hk0, hk1, hM3, hM4⟩ := X
  dsimp only at hb hml hret hown hfr hlo hF hM0 hM1 hM2 hM5 hk0 hk1 hM3 hM4 hd
  intro hst hlv hM H locs ls hP hS hl
  obtain ⟨rfl, x, hv, h⟩ := h
  have hm := zLook_mem hv
  have hg := hl.2.2 _ (List.mem_map.mpr ⟨_, hm, rfl⟩)
  have h2 := h (zok_cons (hlv _ hm) hst) hlv hM H locs ls hP hS hl
  rw [List.map_cons] at h2
  dsimp only at hg
  rcases zWv_ref O x with hw | ⟨a, hw⟩
  · rw [hw] at hg h2
    exact lv_aloadN hx hb hd hg h2
  · rw [hw] at hg h2
    exact lv_aload hx hb hd hg h2

set_option maxHeartbeats 4000000 in
set_option maxRecDepth 100000 in
theorem zg_aload_n {p : Program} {e : Env} {R : Room} {s : State} {m : MethodId} {args : Array Value} {below : List Frame} {meth : Method} {c : Code} {Q : State → Prop} {O : zOm} {ev : zEv} (X : zCx p R s m args meth c O ev) {rt : Option zV → zMem → Prop} {n pc : Nat} {st : List zV} {lv : zLv} {M : zMem} {k : Fin 4}
    (hd : decode ev.2.1 pc = .ok (.aload_n k, n)) (h : zStep ev (zS O) (zR O) rt (.aload_n k) n pc st lv M (zGo p e R s m args below meth c Q O ev.2.2.1)) : zGo p e R s m args below meth c Q O ev.2.2.1 pc st lv M := by
  obtain ⟨own, code, nL, ret, pf, pm, pk, fr, lo, fn⟩ := ev
  obtain ⟨hx, hb, hml, hret, hown, hts, hK, hN, hfr, hlo, hszB, hSo, hCl, hF, hM0, hM1, hM2, hM5, hk0, hk1, hM3, hM4⟩ := X
  dsimp only at hb hml hret hown hfr hlo hF hM0 hM1 hM2 hM5 hk0 hk1 hM3 hM4 hd
  intro hst hlv hM H locs ls hP hS hl
  obtain ⟨rfl, x, hv, h⟩ := h
  have hm := zLook_mem hv
  have hg := hl.2.2 _ (List.mem_map.mpr ⟨_, hm, rfl⟩)
  have h2 := h (zok_cons (hlv _ hm) hst) hlv hM H locs ls hP hS hl
  rw [List.map_cons] at h2
  dsimp only at hg
  rcases zWv_ref O x with hw | ⟨a, hw⟩
  · rw [hw] at hg h2
    exact lv_aload_nN hx hb hd rfl hg h2
  · rw [hw] at hg h2
    exact lv_aload_n hx hb hd rfl hg h2

set_option maxHeartbeats 4000000 in
set_option maxRecDepth 100000 in
theorem zg_istore {p : Program} {e : Env} {R : Room} {s : State} {m : MethodId} {args : Array Value} {below : List Frame} {meth : Method} {c : Code} {Q : State → Prop} {O : zOm} {ev : zEv} (X : zCx p R s m args meth c O ev) {rt : Option zV → zMem → Prop} {n pc : Nat} {st : List zV} {lv : zLv} {M : zMem} {k : Nat}
    (hd : decode ev.2.1 pc = .ok (.istore k, n)) (h : zStep ev (zS O) (zR O) rt (.istore k) n pc st lv M (zGo p e R s m args below meth c Q O ev.2.2.1)) : zGo p e R s m args below meth c Q O ev.2.2.1 pc st lv M := by
  obtain ⟨own, code, nL, ret, pf, pm, pk, fr, lo, fn⟩ := ev
  obtain ⟨hx, hb, hml, hret, hown, hts, hK, hN, hfr, hlo, hszB, hSo, hCl, hF, hM0, hM1, hM2, hM5, hk0, hk1, hM3, hM4⟩ := X
  dsimp only at hb hml hret hown hfr hlo hF hM0 hM1 hM2 hM5 hk0 hk1 hM3 hM4 hd
  intro hst hlv hM H locs ls hP hS hl
  obtain ⟨rfl, hk, x, r, rfl, h⟩ := h
  exact lv_istore hx hb hd hl hk (zSt1_map O lv k (0, x)) (fun ls' hl' => h (zok_tl hst) (zSt1_ok hlv (zok_hd hst)) hM H locs ls' hP hS hl')

set_option maxHeartbeats 4000000 in
set_option maxRecDepth 100000 in
theorem zg_istore_n {p : Program} {e : Env} {R : Room} {s : State} {m : MethodId} {args : Array Value} {below : List Frame} {meth : Method} {c : Code} {Q : State → Prop} {O : zOm} {ev : zEv} (X : zCx p R s m args meth c O ev) {rt : Option zV → zMem → Prop} {n pc : Nat} {st : List zV} {lv : zLv} {M : zMem} {k : Fin 4}
    (hd : decode ev.2.1 pc = .ok (.istore_n k, n)) (h : zStep ev (zS O) (zR O) rt (.istore_n k) n pc st lv M (zGo p e R s m args below meth c Q O ev.2.2.1)) : zGo p e R s m args below meth c Q O ev.2.2.1 pc st lv M := by
  obtain ⟨own, code, nL, ret, pf, pm, pk, fr, lo, fn⟩ := ev
  obtain ⟨hx, hb, hml, hret, hown, hts, hK, hN, hfr, hlo, hszB, hSo, hCl, hF, hM0, hM1, hM2, hM5, hk0, hk1, hM3, hM4⟩ := X
  dsimp only at hb hml hret hown hfr hlo hF hM0 hM1 hM2 hM5 hk0 hk1 hM3 hM4 hd
  intro hst hlv hM H locs ls hP hS hl
  obtain ⟨rfl, hk, x, r, rfl, h⟩ := h
  exact lv_istore_n hx hb hd rfl hl hk (zSt1_map O lv k (0, x)) (fun ls' hl' => h (zok_tl hst) (zSt1_ok hlv (zok_hd hst)) hM H locs ls' hP hS hl')

set_option maxHeartbeats 4000000 in
set_option maxRecDepth 100000 in
theorem zg_lstore {p : Program} {e : Env} {R : Room} {s : State} {m : MethodId} {args : Array Value} {below : List Frame} {meth : Method} {c : Code} {Q : State → Prop} {O : zOm} {ev : zEv} (X : zCx p R s m args meth c O ev) {rt : Option zV → zMem → Prop} {n pc : Nat} {st : List zV} {lv : zLv} {M : zMem} {k : Nat}
    (hd : decode ev.2.1 pc = .ok (.lstore k, n)) (h : zStep ev (zS O) (zR O) rt (.lstore k) n pc st lv M (zGo p e R s m args below meth c Q O ev.2.2.1)) : zGo p e R s m args below meth c Q O ev.2.2.1 pc st lv M := by
  obtain ⟨own, code, nL, ret, pf, pm, pk, fr, lo, fn⟩ := ev
  obtain ⟨hx, hb, hml, hret, hown, hts, hK, hN, hfr, hlo, hszB, hSo, hCl, hF, hM0, hM1, hM2, hM5, hk0, hk1, hM3, hM4⟩ := X
  dsimp only at hb hml hret hown hfr hlo hF hM0 hM1 hM2 hM5 hk0 hk1 hM3 hM4 hd
  intro hst hlv hM H locs ls hP hS hl
  obtain ⟨rfl, hk, x, r, rfl, h⟩ := h
  exact lv_lstore hx hb hd hl hk (zSt2_map O lv k (1, x)) (fun ls' hl' => h (zok_tl hst) (zSt2_ok hlv (zok_hd hst)) hM H locs ls' hP hS hl')

set_option maxHeartbeats 4000000 in
set_option maxRecDepth 100000 in
theorem zg_lstore_n {p : Program} {e : Env} {R : Room} {s : State} {m : MethodId} {args : Array Value} {below : List Frame} {meth : Method} {c : Code} {Q : State → Prop} {O : zOm} {ev : zEv} (X : zCx p R s m args meth c O ev) {rt : Option zV → zMem → Prop} {n pc : Nat} {st : List zV} {lv : zLv} {M : zMem} {k : Fin 4}
    (hd : decode ev.2.1 pc = .ok (.lstore_n k, n)) (h : zStep ev (zS O) (zR O) rt (.lstore_n k) n pc st lv M (zGo p e R s m args below meth c Q O ev.2.2.1)) : zGo p e R s m args below meth c Q O ev.2.2.1 pc st lv M := by
  obtain ⟨own, code, nL, ret, pf, pm, pk, fr, lo, fn⟩ := ev
  obtain ⟨hx, hb, hml, hret, hown, hts, hK, hN, hfr, hlo, hszB, hSo, hCl, hF, hM0, hM1, hM2, hM5, hk0, hk1, hM3, hM4⟩ := X
  dsimp only at hb hml hret hown hfr hlo hF hM0 hM1 hM2 hM5 hk0 hk1 hM3 hM4 hd
  intro hst hlv hM H locs ls hP hS hl
  obtain ⟨rfl, hk, x, r, rfl, h⟩ := h
  exact lv_lstore_n hx hb hd rfl hl hk (zSt2_map O lv k (1, x)) (fun ls' hl' => h (zok_tl hst) (zSt2_ok hlv (zok_hd hst)) hM H locs ls' hP hS hl')

set_option maxHeartbeats 4000000 in
set_option maxRecDepth 100000 in
theorem zg_astore {p : Program} {e : Env} {R : Room} {s : State} {m : MethodId} {args : Array Value} {below : List Frame} {meth : Method} {c : Code} {Q : State → Prop} {O : zOm} {ev : zEv} (X : zCx p R s m args meth c O ev) {rt : Option zV → zMem → Prop} {n pc : Nat} {st : List zV} {lv : zLv} {M : zMem} {k : Nat}
    (hd : decode ev.2.1 pc = .ok (.astore k, n)) (h : zStep ev (zS O) (zR O) rt (.astore k) n pc st lv M (zGo p e R s m args below meth c Q O ev.2.2.1)) : zGo p e R s m args below meth c Q O ev.2.2.1 pc st lv M := by
  obtain ⟨own, code, nL, ret, pf, pm, pk, fr, lo, fn⟩ := ev
  obtain ⟨hx, hb, hml, hret, hown, hts, hK, hN, hfr, hlo, hszB, hSo, hCl, hF, hM0, hM1, hM2, hM5, hk0, hk1, hM3, hM4⟩ := X
  dsimp only at hb hml hret hown hfr hlo hF hM0 hM1 hM2 hM5 hk0 hk1 hM3 hM4 hd
  intro hst hlv hM H locs ls hP hS hl
  obtain ⟨rfl, hk, x, r, rfl, h⟩ := h
  have hm := zSt1_map O lv k (2, x)
  have h2 := fun ls' hl' => h (zok_tl hst) (zSt1_ok hlv (zok_hd hst)) hM H locs ls' hP hS hl'
  rw [List.map_cons]
  rcases zWv_ref O x with hw | ⟨a, hw⟩
  · rw [hw] at hm ⊢
    exact lv_astoreN hx hb hd hl hk hm h2
  · rw [hw] at hm ⊢
    exact lv_astore hx hb hd hl hk hm h2

set_option maxHeartbeats 4000000 in
set_option maxRecDepth 100000 in
theorem zg_astore_n {p : Program} {e : Env} {R : Room} {s : State} {m : MethodId} {args : Array Value} {below : List Frame} {meth : Method} {c : Code} {Q : State → Prop} {O : zOm} {ev : zEv} (X : zCx p R s m args meth c O ev) {rt : Option zV → zMem → Prop} {n pc : Nat} {st : List zV} {lv : zLv} {M : zMem} {k : Fin 4}
    (hd : decode ev.2.1 pc = .ok (.astore_n k, n)) (h : zStep ev (zS O) (zR O) rt (.astore_n k) n pc st lv M (zGo p e R s m args below meth c Q O ev.2.2.1)) : zGo p e R s m args below meth c Q O ev.2.2.1 pc st lv M := by
  obtain ⟨own, code, nL, ret, pf, pm, pk, fr, lo, fn⟩ := ev
  obtain ⟨hx, hb, hml, hret, hown, hts, hK, hN, hfr, hlo, hszB, hSo, hCl, hF, hM0, hM1, hM2, hM5, hk0, hk1, hM3, hM4⟩ := X
  dsimp only at hb hml hret hown hfr hlo hF hM0 hM1 hM2 hM5 hk0 hk1 hM3 hM4 hd
  intro hst hlv hM H locs ls hP hS hl
  obtain ⟨rfl, hk, x, r, rfl, h⟩ := h
  have hm := zSt1_map O lv k (2, x)
  have h2 := fun ls' hl' => h (zok_tl hst) (zSt1_ok hlv (zok_hd hst)) hM H locs ls' hP hS hl'
  rw [List.map_cons]
  rcases zWv_ref O x with hw | ⟨a, hw⟩
  · rw [hw] at hm ⊢
    exact lv_astore_nN hx hb hd rfl hl hk hm h2
  · rw [hw] at hm ⊢
    exact lv_astore_n hx hb hd rfl hl hk hm h2

set_option maxHeartbeats 4000000 in
set_option maxRecDepth 100000 in
theorem zg_iinc {p : Program} {e : Env} {R : Room} {s : State} {m : MethodId} {args : Array Value} {below : List Frame} {meth : Method} {c : Code} {Q : State → Prop} {O : zOm} {ev : zEv} (X : zCx p R s m args meth c O ev) {rt : Option zV → zMem → Prop} {n pc : Nat} {st : List zV} {lv : zLv} {M : zMem} {k : Nat} {d : Int}
    (hd : decode ev.2.1 pc = .ok (.iinc k d, n)) (h : zStep ev (zS O) (zR O) rt (.iinc k d) n pc st lv M (zGo p e R s m args below meth c Q O ev.2.2.1)) : zGo p e R s m args below meth c Q O ev.2.2.1 pc st lv M := by
  obtain ⟨own, code, nL, ret, pf, pm, pk, fr, lo, fn⟩ := ev
  obtain ⟨hx, hb, hml, hret, hown, hts, hK, hN, hfr, hlo, hszB, hSo, hCl, hF, hM0, hM1, hM2, hM5, hk0, hk1, hM3, hM4⟩ := X
  dsimp only at hb hml hret hown hfr hlo hF hM0 hM1 hM2 hM5 hk0 hk1 hM3 hM4 hd
  intro hst hlv hM H locs ls hP hS hl
  obtain ⟨rfl, hk, x, hv, h⟩ := h
  have hm := zLook_mem hv
  obtain ⟨j, hj⟩ := List.getElem?_of_mem hm
  exact lv_iinc (v := zi (zw32 (x + d))) (k := j) hx hb hd hl (by rw [List.getElem?_map, hj]; rfl) (zi_addc (hlv _ hm) d) hk (zSt1_map O lv k (0, zw32 (x + d))) (fun ls' hl' => h hst (zSt1_ok hlv (zw32_in _)) hM H locs ls' hP hS hl')

set_option maxHeartbeats 4000000 in
set_option maxRecDepth 100000 in
theorem zg_iadd {p : Program} {e : Env} {R : Room} {s : State} {m : MethodId} {args : Array Value} {below : List Frame} {meth : Method} {c : Code} {Q : State → Prop} {O : zOm} {ev : zEv} (X : zCx p R s m args meth c O ev) {rt : Option zV → zMem → Prop} {n pc : Nat} {st : List zV} {lv : zLv} {M : zMem} 
    (hd : decode ev.2.1 pc = .ok (.iadd, n)) (h : zStep ev (zS O) (zR O) rt (.iadd) n pc st lv M (zGo p e R s m args below meth c Q O ev.2.2.1)) : zGo p e R s m args below meth c Q O ev.2.2.1 pc st lv M := by
  obtain ⟨own, code, nL, ret, pf, pm, pk, fr, lo, fn⟩ := ev
  obtain ⟨hx, hb, hml, hret, hown, hts, hK, hN, hfr, hlo, hszB, hSo, hCl, hF, hM0, hM1, hM2, hM5, hk0, hk1, hM3, hM4⟩ := X
  dsimp only at hb hml hret hown hfr hlo hF hM0 hM1 hM2 hM5 hk0 hk1 hM3 hM4 hd
  intro hst hlv hM H locs ls hP hS hl
  obtain ⟨rfl, x, y, r, rfl, h⟩ := h
  have hy : zin32 y := zok_hd hst
  have hx1 : zin32 x := zok_hd (zok_tl hst)
  have h2 := h (zok_cons (zw32_in _) (zok_tl (zok_tl hst))) hlv hM H locs ls hP hS hl
  rw [List.map_cons, show zWv O (0, zw32 (x + y)) = _ from congrArg Value.int (zi_add hx1 hy).symm] at h2
  exact lv_iadd hx hb hd h2

set_option maxHeartbeats 4000000 in
set_option maxRecDepth 100000 in
theorem zg_isub {p : Program} {e : Env} {R : Room} {s : State} {m : MethodId} {args : Array Value} {below : List Frame} {meth : Method} {c : Code} {Q : State → Prop} {O : zOm} {ev : zEv} (X : zCx p R s m args meth c O ev) {rt : Option zV → zMem → Prop} {n pc : Nat} {st : List zV} {lv : zLv} {M : zMem} 
    (hd : decode ev.2.1 pc = .ok (.isub, n)) (h : zStep ev (zS O) (zR O) rt (.isub) n pc st lv M (zGo p e R s m args below meth c Q O ev.2.2.1)) : zGo p e R s m args below meth c Q O ev.2.2.1 pc st lv M := by
  obtain ⟨own, code, nL, ret, pf, pm, pk, fr, lo, fn⟩ := ev
  obtain ⟨hx, hb, hml, hret, hown, hts, hK, hN, hfr, hlo, hszB, hSo, hCl, hF, hM0, hM1, hM2, hM5, hk0, hk1, hM3, hM4⟩ := X
  dsimp only at hb hml hret hown hfr hlo hF hM0 hM1 hM2 hM5 hk0 hk1 hM3 hM4 hd
  intro hst hlv hM H locs ls hP hS hl
  obtain ⟨rfl, x, y, r, rfl, h⟩ := h
  have hy : zin32 y := zok_hd hst
  have hx1 : zin32 x := zok_hd (zok_tl hst)
  have h2 := h (zok_cons (zw32_in _) (zok_tl (zok_tl hst))) hlv hM H locs ls hP hS hl
  rw [List.map_cons, show zWv O (0, zw32 (x - y)) = _ from congrArg Value.int (zi_sub hx1 hy).symm] at h2
  exact lv_isub hx hb hd h2

set_option maxHeartbeats 4000000 in
set_option maxRecDepth 100000 in
theorem zg_imul {p : Program} {e : Env} {R : Room} {s : State} {m : MethodId} {args : Array Value} {below : List Frame} {meth : Method} {c : Code} {Q : State → Prop} {O : zOm} {ev : zEv} (X : zCx p R s m args meth c O ev) {rt : Option zV → zMem → Prop} {n pc : Nat} {st : List zV} {lv : zLv} {M : zMem} 
    (hd : decode ev.2.1 pc = .ok (.imul, n)) (h : zStep ev (zS O) (zR O) rt (.imul) n pc st lv M (zGo p e R s m args below meth c Q O ev.2.2.1)) : zGo p e R s m args below meth c Q O ev.2.2.1 pc st lv M := by
  obtain ⟨own, code, nL, ret, pf, pm, pk, fr, lo, fn⟩ := ev
  obtain ⟨hx, hb, hml, hret, hown, hts, hK, hN, hfr, hlo, hszB, hSo, hCl, hF, hM0, hM1, hM2, hM5, hk0, hk1, hM3, hM4⟩ := X
  dsimp only at hb hml hret hown hfr hlo hF hM0 hM1 hM2 hM5 hk0 hk1 hM3 hM4 hd
  intro hst hlv hM H locs ls hP hS hl
  obtain ⟨rfl, x, y, r, rfl, h⟩ := h
  have hy : zin32 y := zok_hd hst
  have hx1 : zin32 x := zok_hd (zok_tl hst)
  have h2 := h (zok_cons (zw32_in _) (zok_tl (zok_tl hst))) hlv hM H locs ls hP hS hl
  rw [List.map_cons, show zWv O (0, zw32 (x * y)) = _ from congrArg Value.int (zi_mul hx1 hy).symm] at h2
  exact lv_imul hx hb hd h2

set_option maxHeartbeats 4000000 in
set_option maxRecDepth 100000 in
theorem zg_idiv {p : Program} {e : Env} {R : Room} {s : State} {m : MethodId} {args : Array Value} {below : List Frame} {meth : Method} {c : Code} {Q : State → Prop} {O : zOm} {ev : zEv} (X : zCx p R s m args meth c O ev) {rt : Option zV → zMem → Prop} {n pc : Nat} {st : List zV} {lv : zLv} {M : zMem} 
    (hd : decode ev.2.1 pc = .ok (.idiv, n)) (h : zStep ev (zS O) (zR O) rt (.idiv) n pc st lv M (zGo p e R s m args below meth c Q O ev.2.2.1)) : zGo p e R s m args below meth c Q O ev.2.2.1 pc st lv M := by
  obtain ⟨own, code, nL, ret, pf, pm, pk, fr, lo, fn⟩ := ev
  obtain ⟨hx, hb, hml, hret, hown, hts, hK, hN, hfr, hlo, hszB, hSo, hCl, hF, hM0, hM1, hM2, hM5, hk0, hk1, hM3, hM4⟩ := X
  dsimp only at hb hml hret hown hfr hlo hF hM0 hM1 hM2 hM5 hk0 hk1 hM3 hM4 hd
  intro hst hlv hM H locs ls hP hS hl
  obtain ⟨rfl, x, y, r, rfl, hne, h⟩ := h
  have hy : zin32 y := zok_hd hst
  have hx1 : zin32 x := zok_hd (zok_tl hst)
  have h2 := h (zok_cons (zw32_in _) (zok_tl (zok_tl hst))) hlv hM H locs ls hP hS hl
  rw [List.map_cons, show zWv O (0, zw32 (x.tdiv y)) = _ from congrArg Value.int (zi_div hx1 hy).symm] at h2
  exact lv_idiv hx hb hd (fun q => hne ((zi_eq hy ⟨by decide, by decide⟩).mp q)) h2

set_option maxHeartbeats 4000000 in
set_option maxRecDepth 100000 in
theorem zg_irem {p : Program} {e : Env} {R : Room} {s : State} {m : MethodId} {args : Array Value} {below : List Frame} {meth : Method} {c : Code} {Q : State → Prop} {O : zOm} {ev : zEv} (X : zCx p R s m args meth c O ev) {rt : Option zV → zMem → Prop} {n pc : Nat} {st : List zV} {lv : zLv} {M : zMem} 
    (hd : decode ev.2.1 pc = .ok (.irem, n)) (h : zStep ev (zS O) (zR O) rt (.irem) n pc st lv M (zGo p e R s m args below meth c Q O ev.2.2.1)) : zGo p e R s m args below meth c Q O ev.2.2.1 pc st lv M := by
  obtain ⟨own, code, nL, ret, pf, pm, pk, fr, lo, fn⟩ := ev
  obtain ⟨hx, hb, hml, hret, hown, hts, hK, hN, hfr, hlo, hszB, hSo, hCl, hF, hM0, hM1, hM2, hM5, hk0, hk1, hM3, hM4⟩ := X
  dsimp only at hb hml hret hown hfr hlo hF hM0 hM1 hM2 hM5 hk0 hk1 hM3 hM4 hd
  intro hst hlv hM H locs ls hP hS hl
  obtain ⟨rfl, x, y, r, rfl, hne, h⟩ := h
  have hy : zin32 y := zok_hd hst
  have hx1 : zin32 x := zok_hd (zok_tl hst)
  have h2 := h (zok_cons (ztmod_in hx1 hy hne) (zok_tl (zok_tl hst))) hlv hM H locs ls hP hS hl
  rw [List.map_cons, show zWv O (0, x.tmod y) = _ from congrArg Value.int (zi_rem hx1 hy hne).symm] at h2
  exact lv_irem hx hb hd (fun q => hne ((zi_eq hy ⟨by decide, by decide⟩).mp q)) h2

set_option maxHeartbeats 4000000 in
set_option maxRecDepth 100000 in
theorem zg_iand {p : Program} {e : Env} {R : Room} {s : State} {m : MethodId} {args : Array Value} {below : List Frame} {meth : Method} {c : Code} {Q : State → Prop} {O : zOm} {ev : zEv} (X : zCx p R s m args meth c O ev) {rt : Option zV → zMem → Prop} {n pc : Nat} {st : List zV} {lv : zLv} {M : zMem} 
    (hd : decode ev.2.1 pc = .ok (.iand, n)) (h : zStep ev (zS O) (zR O) rt (.iand) n pc st lv M (zGo p e R s m args below meth c Q O ev.2.2.1)) : zGo p e R s m args below meth c Q O ev.2.2.1 pc st lv M := by
  obtain ⟨own, code, nL, ret, pf, pm, pk, fr, lo, fn⟩ := ev
  obtain ⟨hx, hb, hml, hret, hown, hts, hK, hN, hfr, hlo, hszB, hSo, hCl, hF, hM0, hM1, hM2, hM5, hk0, hk1, hM3, hM4⟩ := X
  dsimp only at hb hml hret hown hfr hlo hF hM0 hM1 hM2 hM5 hk0 hk1 hM3 hM4 hd
  intro hst hlv hM H locs ls hP hS hl
  obtain ⟨rfl, x, y, r, rfl, h⟩ := h
  have hy : zin32 y := zok_hd hst
  have hx1 : zin32 x := zok_hd (zok_tl hst)
  have h2 := h (zok_cons (zi_in _) (zok_tl (zok_tl hst))) hlv hM H locs ls hP hS hl
  rw [List.map_cons, show zWv O (0, zand x y) = _ from congrArg Value.int (zand_i x y).symm] at h2
  exact lv_iand hx hb hd h2

set_option maxHeartbeats 4000000 in
set_option maxRecDepth 100000 in
theorem zg_ior {p : Program} {e : Env} {R : Room} {s : State} {m : MethodId} {args : Array Value} {below : List Frame} {meth : Method} {c : Code} {Q : State → Prop} {O : zOm} {ev : zEv} (X : zCx p R s m args meth c O ev) {rt : Option zV → zMem → Prop} {n pc : Nat} {st : List zV} {lv : zLv} {M : zMem} 
    (hd : decode ev.2.1 pc = .ok (.ior, n)) (h : zStep ev (zS O) (zR O) rt (.ior) n pc st lv M (zGo p e R s m args below meth c Q O ev.2.2.1)) : zGo p e R s m args below meth c Q O ev.2.2.1 pc st lv M := by
  obtain ⟨own, code, nL, ret, pf, pm, pk, fr, lo, fn⟩ := ev
  obtain ⟨hx, hb, hml, hret, hown, hts, hK, hN, hfr, hlo, hszB, hSo, hCl, hF, hM0, hM1, hM2, hM5, hk0, hk1, hM3, hM4⟩ := X
  dsimp only at hb hml hret hown hfr hlo hF hM0 hM1 hM2 hM5 hk0 hk1 hM3 hM4 hd
  intro hst hlv hM H locs ls hP hS hl
  obtain ⟨rfl, x, y, r, rfl, h⟩ := h
  have hy : zin32 y := zok_hd hst
  have hx1 : zin32 x := zok_hd (zok_tl hst)
  have h2 := h (zok_cons (zi_in _) (zok_tl (zok_tl hst))) hlv hM H locs ls hP hS hl
  rw [List.map_cons, show zWv O (0, zor x y) = _ from congrArg Value.int (zor_i x y).symm] at h2
  exact lv_ior hx hb hd h2

set_option maxHeartbeats 4000000 in
set_option maxRecDepth 100000 in
theorem zg_ixor {p : Program} {e : Env} {R : Room} {s : State} {m : MethodId} {args : Array Value} {below : List Frame} {meth : Method} {c : Code} {Q : State → Prop} {O : zOm} {ev : zEv} (X : zCx p R s m args meth c O ev) {rt : Option zV → zMem → Prop} {n pc : Nat} {st : List zV} {lv : zLv} {M : zMem} 
    (hd : decode ev.2.1 pc = .ok (.ixor, n)) (h : zStep ev (zS O) (zR O) rt (.ixor) n pc st lv M (zGo p e R s m args below meth c Q O ev.2.2.1)) : zGo p e R s m args below meth c Q O ev.2.2.1 pc st lv M := by
  obtain ⟨own, code, nL, ret, pf, pm, pk, fr, lo, fn⟩ := ev
  obtain ⟨hx, hb, hml, hret, hown, hts, hK, hN, hfr, hlo, hszB, hSo, hCl, hF, hM0, hM1, hM2, hM5, hk0, hk1, hM3, hM4⟩ := X
  dsimp only at hb hml hret hown hfr hlo hF hM0 hM1 hM2 hM5 hk0 hk1 hM3 hM4 hd
  intro hst hlv hM H locs ls hP hS hl
  obtain ⟨rfl, x, y, r, rfl, h⟩ := h
  have hy : zin32 y := zok_hd hst
  have hx1 : zin32 x := zok_hd (zok_tl hst)
  have h2 := h (zok_cons (zi_in _) (zok_tl (zok_tl hst))) hlv hM H locs ls hP hS hl
  rw [List.map_cons, show zWv O (0, zxor x y) = _ from congrArg Value.int (zxor_i x y).symm] at h2
  exact lv_ixor hx hb hd h2

set_option maxHeartbeats 4000000 in
set_option maxRecDepth 100000 in
theorem zg_ishl {p : Program} {e : Env} {R : Room} {s : State} {m : MethodId} {args : Array Value} {below : List Frame} {meth : Method} {c : Code} {Q : State → Prop} {O : zOm} {ev : zEv} (X : zCx p R s m args meth c O ev) {rt : Option zV → zMem → Prop} {n pc : Nat} {st : List zV} {lv : zLv} {M : zMem} 
    (hd : decode ev.2.1 pc = .ok (.ishl, n)) (h : zStep ev (zS O) (zR O) rt (.ishl) n pc st lv M (zGo p e R s m args below meth c Q O ev.2.2.1)) : zGo p e R s m args below meth c Q O ev.2.2.1 pc st lv M := by
  obtain ⟨own, code, nL, ret, pf, pm, pk, fr, lo, fn⟩ := ev
  obtain ⟨hx, hb, hml, hret, hown, hts, hK, hN, hfr, hlo, hszB, hSo, hCl, hF, hM0, hM1, hM2, hM5, hk0, hk1, hM3, hM4⟩ := X
  dsimp only at hb hml hret hown hfr hlo hF hM0 hM1 hM2 hM5 hk0 hk1 hM3 hM4 hd
  intro hst hlv hM H locs ls hP hS hl
  obtain ⟨rfl, x, y, r, rfl, h⟩ := h
  have hy : zin32 y := zok_hd hst
  have hx1 : zin32 x := zok_hd (zok_tl hst)
  have h2 := h (zok_cons (zi_in _) (zok_tl (zok_tl hst))) hlv hM H locs ls hP hS hl
  rw [List.map_cons, show zWv O (0, zshl x y) = _ from congrArg Value.int (zshl_i x y).symm] at h2
  exact lv_ishl hx hb hd h2

set_option maxHeartbeats 4000000 in
set_option maxRecDepth 100000 in
theorem zg_ishr {p : Program} {e : Env} {R : Room} {s : State} {m : MethodId} {args : Array Value} {below : List Frame} {meth : Method} {c : Code} {Q : State → Prop} {O : zOm} {ev : zEv} (X : zCx p R s m args meth c O ev) {rt : Option zV → zMem → Prop} {n pc : Nat} {st : List zV} {lv : zLv} {M : zMem} 
    (hd : decode ev.2.1 pc = .ok (.ishr, n)) (h : zStep ev (zS O) (zR O) rt (.ishr) n pc st lv M (zGo p e R s m args below meth c Q O ev.2.2.1)) : zGo p e R s m args below meth c Q O ev.2.2.1 pc st lv M := by
  obtain ⟨own, code, nL, ret, pf, pm, pk, fr, lo, fn⟩ := ev
  obtain ⟨hx, hb, hml, hret, hown, hts, hK, hN, hfr, hlo, hszB, hSo, hCl, hF, hM0, hM1, hM2, hM5, hk0, hk1, hM3, hM4⟩ := X
  dsimp only at hb hml hret hown hfr hlo hF hM0 hM1 hM2 hM5 hk0 hk1 hM3 hM4 hd
  intro hst hlv hM H locs ls hP hS hl
  obtain ⟨rfl, x, y, r, rfl, h⟩ := h
  have hy : zin32 y := zok_hd hst
  have hx1 : zin32 x := zok_hd (zok_tl hst)
  have h2 := h (zok_cons (zi_in _) (zok_tl (zok_tl hst))) hlv hM H locs ls hP hS hl
  rw [List.map_cons, show zWv O (0, zshr x y) = _ from congrArg Value.int (zshr_i x y).symm] at h2
  exact lv_ishr hx hb hd h2

set_option maxHeartbeats 4000000 in
set_option maxRecDepth 100000 in
theorem zg_iushr {p : Program} {e : Env} {R : Room} {s : State} {m : MethodId} {args : Array Value} {below : List Frame} {meth : Method} {c : Code} {Q : State → Prop} {O : zOm} {ev : zEv} (X : zCx p R s m args meth c O ev) {rt : Option zV → zMem → Prop} {n pc : Nat} {st : List zV} {lv : zLv} {M : zMem} 
    (hd : decode ev.2.1 pc = .ok (.iushr, n)) (h : zStep ev (zS O) (zR O) rt (.iushr) n pc st lv M (zGo p e R s m args below meth c Q O ev.2.2.1)) : zGo p e R s m args below meth c Q O ev.2.2.1 pc st lv M := by
  obtain ⟨own, code, nL, ret, pf, pm, pk, fr, lo, fn⟩ := ev
  obtain ⟨hx, hb, hml, hret, hown, hts, hK, hN, hfr, hlo, hszB, hSo, hCl, hF, hM0, hM1, hM2, hM5, hk0, hk1, hM3, hM4⟩ := X
  dsimp only at hb hml hret hown hfr hlo hF hM0 hM1 hM2 hM5 hk0 hk1 hM3 hM4 hd
  intro hst hlv hM H locs ls hP hS hl
  obtain ⟨rfl, x, y, r, rfl, h⟩ := h
  exact lv_iushr (v := zi (zushr x y)) hx hb hd (zi_of _).symm (h (zok_cons (zi_in _) (zok_tl (zok_tl hst))) hlv hM H locs ls hP hS hl)

set_option maxHeartbeats 4000000 in
set_option maxRecDepth 100000 in
theorem zg_ineg {p : Program} {e : Env} {R : Room} {s : State} {m : MethodId} {args : Array Value} {below : List Frame} {meth : Method} {c : Code} {Q : State → Prop} {O : zOm} {ev : zEv} (X : zCx p R s m args meth c O ev) {rt : Option zV → zMem → Prop} {n pc : Nat} {st : List zV} {lv : zLv} {M : zMem} 
    (hd : decode ev.2.1 pc = .ok (.ineg, n)) (h : zStep ev (zS O) (zR O) rt (.ineg) n pc st lv M (zGo p e R s m args below meth c Q O ev.2.2.1)) : zGo p e R s m args below meth c Q O ev.2.2.1 pc st lv M := by
  obtain ⟨own, code, nL, ret, pf, pm, pk, fr, lo, fn⟩ := ev
  obtain ⟨hx, hb, hml, hret, hown, hts, hK, hN, hfr, hlo, hszB, hSo, hCl, hF, hM0, hM1, hM2, hM5, hk0, hk1, hM3, hM4⟩ := X
  dsimp only at hb hml hret hown hfr hlo hF hM0 hM1 hM2 hM5 hk0 hk1 hM3 hM4 hd
  intro hst hlv hM H locs ls hP hS hl
  obtain ⟨rfl, x, r, rfl, h⟩ := h
  have h2 := h (zok_cons (zw32_in _) (zok_tl hst)) hlv hM H locs ls hP hS hl
  have hx1 : zin32 x := zok_hd hst
  rw [List.map_cons, show zWv O (0, zw32 (-x)) = _ from congrArg Value.int (zi_neg hx1).symm] at h2
  exact lv_ineg hx hb hd h2

set_option maxHeartbeats 4000000 in
set_option maxRecDepth 100000 in
theorem zg_i2l {p : Program} {e : Env} {R : Room} {s : State} {m : MethodId} {args : Array Value} {below : List Frame} {meth : Method} {c : Code} {Q : State → Prop} {O : zOm} {ev : zEv} (X : zCx p R s m args meth c O ev) {rt : Option zV → zMem → Prop} {n pc : Nat} {st : List zV} {lv : zLv} {M : zMem} 
    (hd : decode ev.2.1 pc = .ok (.i2l, n)) (h : zStep ev (zS O) (zR O) rt (.i2l) n pc st lv M (zGo p e R s m args below meth c Q O ev.2.2.1)) : zGo p e R s m args below meth c Q O ev.2.2.1 pc st lv M := by
  obtain ⟨own, code, nL, ret, pf, pm, pk, fr, lo, fn⟩ := ev
  obtain ⟨hx, hb, hml, hret, hown, hts, hK, hN, hfr, hlo, hszB, hSo, hCl, hF, hM0, hM1, hM2, hM5, hk0, hk1, hM3, hM4⟩ := X
  dsimp only at hb hml hret hown hfr hlo hF hM0 hM1 hM2 hM5 hk0 hk1 hM3 hM4 hd
  intro hst hlv hM H locs ls hP hS hl
  obtain ⟨rfl, x, r, rfl, h⟩ := h
  have hx1 : zin32 x := zok_hd hst
  exact lv_i2l (v := zl x) hx hb hd (zi_64 hx1) (h (zok_cons (zin32_64 hx1) (zok_tl hst)) hlv hM H locs ls hP hS hl)

set_option maxHeartbeats 4000000 in
set_option maxRecDepth 100000 in
theorem zg_l2i {p : Program} {e : Env} {R : Room} {s : State} {m : MethodId} {args : Array Value} {below : List Frame} {meth : Method} {c : Code} {Q : State → Prop} {O : zOm} {ev : zEv} (X : zCx p R s m args meth c O ev) {rt : Option zV → zMem → Prop} {n pc : Nat} {st : List zV} {lv : zLv} {M : zMem} 
    (hd : decode ev.2.1 pc = .ok (.l2i, n)) (h : zStep ev (zS O) (zR O) rt (.l2i) n pc st lv M (zGo p e R s m args below meth c Q O ev.2.2.1)) : zGo p e R s m args below meth c Q O ev.2.2.1 pc st lv M := by
  obtain ⟨own, code, nL, ret, pf, pm, pk, fr, lo, fn⟩ := ev
  obtain ⟨hx, hb, hml, hret, hown, hts, hK, hN, hfr, hlo, hszB, hSo, hCl, hF, hM0, hM1, hM2, hM5, hk0, hk1, hM3, hM4⟩ := X
  dsimp only at hb hml hret hown hfr hlo hF hM0 hM1 hM2 hM5 hk0 hk1 hM3 hM4 hd
  intro hst hlv hM H locs ls hP hS hl
  obtain ⟨rfl, x, r, rfl, h⟩ := h
  have hx1 : zin64 x := zok_hd hst
  exact lv_l2i (v := zi (zw32 x)) hx hb hd (zl_32 hx1) (h (zok_cons (zw32_in _) (zok_tl hst)) hlv hM H locs ls hP hS hl)

set_option maxHeartbeats 4000000 in
set_option maxRecDepth 100000 in
theorem zg_i2b {p : Program} {e : Env} {R : Room} {s : State} {m : MethodId} {args : Array Value} {below : List Frame} {meth : Method} {c : Code} {Q : State → Prop} {O : zOm} {ev : zEv} (X : zCx p R s m args meth c O ev) {rt : Option zV → zMem → Prop} {n pc : Nat} {st : List zV} {lv : zLv} {M : zMem} 
    (hd : decode ev.2.1 pc = .ok (.i2b, n)) (h : zStep ev (zS O) (zR O) rt (.i2b) n pc st lv M (zGo p e R s m args below meth c Q O ev.2.2.1)) : zGo p e R s m args below meth c Q O ev.2.2.1 pc st lv M := by
  obtain ⟨own, code, nL, ret, pf, pm, pk, fr, lo, fn⟩ := ev
  obtain ⟨hx, hb, hml, hret, hown, hts, hK, hN, hfr, hlo, hszB, hSo, hCl, hF, hM0, hM1, hM2, hM5, hk0, hk1, hM3, hM4⟩ := X
  dsimp only at hb hml hret hown hfr hlo hF hM0 hM1 hM2 hM5 hk0 hk1 hM3 hM4 hd
  intro hst hlv hM H locs ls hP hS hl
  obtain ⟨rfl, x, r, rfl, h⟩ := h
  exact lv_i2b (v := zi (zi2b x)) hx hb hd (zi_of _).symm (h (zok_cons (zi_in _) (zok_tl hst)) hlv hM H locs ls hP hS hl)

set_option maxHeartbeats 4000000 in
set_option maxRecDepth 100000 in
theorem zg_ladd {p : Program} {e : Env} {R : Room} {s : State} {m : MethodId} {args : Array Value} {below : List Frame} {meth : Method} {c : Code} {Q : State → Prop} {O : zOm} {ev : zEv} (X : zCx p R s m args meth c O ev) {rt : Option zV → zMem → Prop} {n pc : Nat} {st : List zV} {lv : zLv} {M : zMem} 
    (hd : decode ev.2.1 pc = .ok (.ladd, n)) (h : zStep ev (zS O) (zR O) rt (.ladd) n pc st lv M (zGo p e R s m args below meth c Q O ev.2.2.1)) : zGo p e R s m args below meth c Q O ev.2.2.1 pc st lv M := by
  obtain ⟨own, code, nL, ret, pf, pm, pk, fr, lo, fn⟩ := ev
  obtain ⟨hx, hb, hml, hret, hown, hts, hK, hN, hfr, hlo, hszB, hSo, hCl, hF, hM0, hM1, hM2, hM5, hk0, hk1, hM3, hM4⟩ := X
  dsimp only at hb hml hret hown hfr hlo hF hM0 hM1 hM2 hM5 hk0 hk1 hM3 hM4 hd
  intro hst hlv hM H locs ls hP hS hl
  obtain ⟨rfl, x, y, r, rfl, h⟩ := h
  have hy : zin64 y := zok_hd hst
  have hx1 : zin64 x := zok_hd (zok_tl hst)
  have h2 := h (zok_cons (zw64_in _) (zok_tl (zok_tl hst))) hlv hM H locs ls hP hS hl
  rw [List.map_cons, show zWv O (1, zw64 (x + y)) = _ from congrArg Value.long (zl_add hx1 hy).symm] at h2
  exact lv_ladd hx hb hd h2

set_option maxHeartbeats 4000000 in
set_option maxRecDepth 100000 in
theorem zg_lsub {p : Program} {e : Env} {R : Room} {s : State} {m : MethodId} {args : Array Value} {below : List Frame} {meth : Method} {c : Code} {Q : State → Prop} {O : zOm} {ev : zEv} (X : zCx p R s m args meth c O ev) {rt : Option zV → zMem → Prop} {n pc : Nat} {st : List zV} {lv : zLv} {M : zMem} 
    (hd : decode ev.2.1 pc = .ok (.lsub, n)) (h : zStep ev (zS O) (zR O) rt (.lsub) n pc st lv M (zGo p e R s m args below meth c Q O ev.2.2.1)) : zGo p e R s m args below meth c Q O ev.2.2.1 pc st lv M := by
  obtain ⟨own, code, nL, ret, pf, pm, pk, fr, lo, fn⟩ := ev
  obtain ⟨hx, hb, hml, hret, hown, hts, hK, hN, hfr, hlo, hszB, hSo, hCl, hF, hM0, hM1, hM2, hM5, hk0, hk1, hM3, hM4⟩ := X
  dsimp only at hb hml hret hown hfr hlo hF hM0 hM1 hM2 hM5 hk0 hk1 hM3 hM4 hd
  intro hst hlv hM H locs ls hP hS hl
  obtain ⟨rfl, x, y, r, rfl, h⟩ := h
  have hy : zin64 y := zok_hd hst
  have hx1 : zin64 x := zok_hd (zok_tl hst)
  have h2 := h (zok_cons (zw64_in _) (zok_tl (zok_tl hst))) hlv hM H locs ls hP hS hl
  rw [List.map_cons, show zWv O (1, zw64 (x - y)) = _ from congrArg Value.long (zl_sub hx1 hy).symm] at h2
  exact lv_lsub hx hb hd h2

set_option maxHeartbeats 4000000 in
set_option maxRecDepth 100000 in
theorem zg_lmul {p : Program} {e : Env} {R : Room} {s : State} {m : MethodId} {args : Array Value} {below : List Frame} {meth : Method} {c : Code} {Q : State → Prop} {O : zOm} {ev : zEv} (X : zCx p R s m args meth c O ev) {rt : Option zV → zMem → Prop} {n pc : Nat} {st : List zV} {lv : zLv} {M : zMem} 
    (hd : decode ev.2.1 pc = .ok (.lmul, n)) (h : zStep ev (zS O) (zR O) rt (.lmul) n pc st lv M (zGo p e R s m args below meth c Q O ev.2.2.1)) : zGo p e R s m args below meth c Q O ev.2.2.1 pc st lv M := by
  obtain ⟨own, code, nL, ret, pf, pm, pk, fr, lo, fn⟩ := ev
  obtain ⟨hx, hb, hml, hret, hown, hts, hK, hN, hfr, hlo, hszB, hSo, hCl, hF, hM0, hM1, hM2, hM5, hk0, hk1, hM3, hM4⟩ := X
  dsimp only at hb hml hret hown hfr hlo hF hM0 hM1 hM2 hM5 hk0 hk1 hM3 hM4 hd
  intro hst hlv hM H locs ls hP hS hl
  obtain ⟨rfl, x, y, r, rfl, h⟩ := h
  have hy : zin64 y := zok_hd hst
  have hx1 : zin64 x := zok_hd (zok_tl hst)
  have h2 := h (zok_cons (zw64_in _) (zok_tl (zok_tl hst))) hlv hM H locs ls hP hS hl
  rw [List.map_cons, show zWv O (1, zw64 (x * y)) = _ from congrArg Value.long (zl_mul hx1 hy).symm] at h2
  exact lv_lmul hx hb hd h2

set_option maxHeartbeats 4000000 in
set_option maxRecDepth 100000 in
theorem zg_lcmp {p : Program} {e : Env} {R : Room} {s : State} {m : MethodId} {args : Array Value} {below : List Frame} {meth : Method} {c : Code} {Q : State → Prop} {O : zOm} {ev : zEv} (X : zCx p R s m args meth c O ev) {rt : Option zV → zMem → Prop} {n pc : Nat} {st : List zV} {lv : zLv} {M : zMem} 
    (hd : decode ev.2.1 pc = .ok (.lcmp, n)) (h : zStep ev (zS O) (zR O) rt (.lcmp) n pc st lv M (zGo p e R s m args below meth c Q O ev.2.2.1)) : zGo p e R s m args below meth c Q O ev.2.2.1 pc st lv M := by
  obtain ⟨own, code, nL, ret, pf, pm, pk, fr, lo, fn⟩ := ev
  obtain ⟨hx, hb, hml, hret, hown, hts, hK, hN, hfr, hlo, hszB, hSo, hCl, hF, hM0, hM1, hM2, hM5, hk0, hk1, hM3, hM4⟩ := X
  dsimp only at hb hml hret hown hfr hlo hF hM0 hM1 hM2 hM5 hk0 hk1 hM3 hM4 hd
  intro hst hlv hM H locs ls hP hS hl
  obtain ⟨rfl, x, y, r, rfl, h⟩ := h
  have hy : zin64 y := zok_hd hst
  have hx1 : zin64 x := zok_hd (zok_tl hst)
  have h2 := h (zok_cons (zcmp_in _ _) (zok_tl (zok_tl hst))) hlv hM H locs ls hP hS hl
  rw [List.map_cons, show zWv O (0, zcmp x y) = _ from congrArg Value.int (zcmp_i hx1 hy).symm] at h2
  exact W.lcmp hx hb hd h2

set_option maxHeartbeats 4000000 in
set_option maxRecDepth 100000 in
theorem zg_dup {p : Program} {e : Env} {R : Room} {s : State} {m : MethodId} {args : Array Value} {below : List Frame} {meth : Method} {c : Code} {Q : State → Prop} {O : zOm} {ev : zEv} (X : zCx p R s m args meth c O ev) {rt : Option zV → zMem → Prop} {n pc : Nat} {st : List zV} {lv : zLv} {M : zMem} 
    (hd : decode ev.2.1 pc = .ok (.dup, n)) (h : zStep ev (zS O) (zR O) rt (.dup) n pc st lv M (zGo p e R s m args below meth c Q O ev.2.2.1)) : zGo p e R s m args below meth c Q O ev.2.2.1 pc st lv M := by
  obtain ⟨own, code, nL, ret, pf, pm, pk, fr, lo, fn⟩ := ev
  obtain ⟨hx, hb, hml, hret, hown, hts, hK, hN, hfr, hlo, hszB, hSo, hCl, hF, hM0, hM1, hM2, hM5, hk0, hk1, hM3, hM4⟩ := X
  dsimp only at hb hml hret hown hfr hlo hF hM0 hM1 hM2 hM5 hk0 hk1 hM3 hM4 hd
  intro hst hlv hM H locs ls hP hS hl
  obtain ⟨rfl, v, r, rfl, hc, h⟩ := h
  exact lv_dup hx hb hd ((zcat_wv O v).trans hc) (h (zok_cons (zok_hd hst) hst) hlv hM H locs ls hP hS hl)

set_option maxHeartbeats 4000000 in
set_option maxRecDepth 100000 in
theorem zg_dup2 {p : Program} {e : Env} {R : Room} {s : State} {m : MethodId} {args : Array Value} {below : List Frame} {meth : Method} {c : Code} {Q : State → Prop} {O : zOm} {ev : zEv} (X : zCx p R s m args meth c O ev) {rt : Option zV → zMem → Prop} {n pc : Nat} {st : List zV} {lv : zLv} {M : zMem} 
    (hd : decode ev.2.1 pc = .ok (.dup2, n)) (h : zStep ev (zS O) (zR O) rt (.dup2) n pc st lv M (zGo p e R s m args below meth c Q O ev.2.2.1)) : zGo p e R s m args below meth c Q O ev.2.2.1 pc st lv M := by
  obtain ⟨own, code, nL, ret, pf, pm, pk, fr, lo, fn⟩ := ev
  obtain ⟨hx, hb, hml, hret, hown, hts, hK, hN, hfr, hlo, hszB, hSo, hCl, hF, hM0, hM1, hM2, hM5, hk0, hk1, hM3, hM4⟩ := X
  dsimp only at hb hml hret hown hfr hlo hF hM0 hM1 hM2 hM5 hk0 hk1 hM3 hM4 hd
  intro hst hlv hM H locs ls hP hS hl
  obtain ⟨rfl, v, w, r, rfl, hc, hc2, h⟩ := h
  exact lv_dup2_11 hx hb hd ((zcat_wv O v).trans hc) ((zcat_wv O w).trans hc2) (h (zok_cons (zok_hd hst) (zok_cons (zok_hd (zok_tl hst)) hst)) hlv hM H locs ls hP hS hl)

set_option maxHeartbeats 4000000 in
set_option maxRecDepth 100000 in
theorem zg_pop {p : Program} {e : Env} {R : Room} {s : State} {m : MethodId} {args : Array Value} {below : List Frame} {meth : Method} {c : Code} {Q : State → Prop} {O : zOm} {ev : zEv} (X : zCx p R s m args meth c O ev) {rt : Option zV → zMem → Prop} {n pc : Nat} {st : List zV} {lv : zLv} {M : zMem} 
    (hd : decode ev.2.1 pc = .ok (.pop, n)) (h : zStep ev (zS O) (zR O) rt (.pop) n pc st lv M (zGo p e R s m args below meth c Q O ev.2.2.1)) : zGo p e R s m args below meth c Q O ev.2.2.1 pc st lv M := by
  obtain ⟨own, code, nL, ret, pf, pm, pk, fr, lo, fn⟩ := ev
  obtain ⟨hx, hb, hml, hret, hown, hts, hK, hN, hfr, hlo, hszB, hSo, hCl, hF, hM0, hM1, hM2, hM5, hk0, hk1, hM3, hM4⟩ := X
  dsimp only at hb hml hret hown hfr hlo hF hM0 hM1 hM2 hM5 hk0 hk1 hM3 hM4 hd
  intro hst hlv hM H locs ls hP hS hl
  obtain ⟨rfl, v, r, rfl, hc, h⟩ := h
  exact lv_pop hx hb hd ((zcat_wv O v).trans hc) (h (zok_tl hst) hlv hM H locs ls hP hS hl)

set_option maxHeartbeats 4000000 in
set_option maxRecDepth 100000 in
theorem zg_if {p : Program} {e : Env} {R : Room} {s : State} {m : MethodId} {args : Array Value} {below : List Frame} {meth : Method} {c : Code} {Q : State → Prop} {O : zOm} {ev : zEv} (X : zCx p R s m args meth c O ev) {rt : Option zV → zMem → Prop} {n pc : Nat} {st : List zV} {lv : zLv} {M : zMem} {cd : Jvm.ClassFile.Cond} {off : Int}
    (hd : decode ev.2.1 pc = .ok (.ifCond cd off, n)) (h : zStep ev (zS O) (zR O) rt (.ifCond cd off) n pc st lv M (zGo p e R s m args below meth c Q O ev.2.2.1)) : zGo p e R s m args below meth c Q O ev.2.2.1 pc st lv M := by
  obtain ⟨own, code, nL, ret, pf, pm, pk, fr, lo, fn⟩ := ev
  obtain ⟨hx, hb, hml, hret, hown, hts, hK, hN, hfr, hlo, hszB, hSo, hCl, hF, hM0, hM1, hM2, hM5, hk0, hk1, hM3, hM4⟩ := X
  dsimp only at hb hml hret hown hfr hlo hF hM0 hM1 hM2 hM5 hk0 hk1 hM3 hM4 hd
  intro hst hlv hM H locs ls hP hS hl
  obtain ⟨rfl, x, r, t, rfl, ht, h1, h2⟩ := h
  have hx1 : zin32 x := zok_hd hst
  have hy : zin32 0 := ⟨by decide, by decide⟩
  have kt := fun q => h1 q (zok_tl hst) hlv hM H locs ls hP hS hl
  have kf := fun q => h2 q (zok_tl hst) hlv hM H locs ls hP hS hl
  cases cd
  · exact lv_if_eq hx hb hd ht (fun q => kt ((zi_eq hx1 hy).mp q)) (fun q => kf (fun z => q ((zi_eq hx1 hy).mpr z)))
  · exact lv_if_ne hx hb hd ht (fun q => kt (fun z => q ((zi_eq hx1 hy).mpr z))) (fun q => kf (fun z => z ((zi_eq hx1 hy).mp q)))
  · exact lv_if_lt hx hb hd ht (fun q => kt ((zi_lt hx1 hy).mp q)) (fun q => kf (fun z => q ((zi_lt hx1 hy).mpr z)))
  · exact lv_if_ge hx hb hd ht (fun q => kt ((zi_le hy hx1).mp q)) (fun q => kf (fun z => q ((zi_le hy hx1).mpr z)))
  · exact lv_if_gt hx hb hd ht (fun q => kt ((zi_lt hy hx1).mp q)) (fun q => kf (fun z => q ((zi_lt hy hx1).mpr z)))
  · exact lv_if_le hx hb hd ht (fun q => kt ((zi_le hx1 hy).mp q)) (fun q => kf (fun z => q ((zi_le hx1 hy).mpr z)))

set_option maxHeartbeats 4000000 in
set_option maxRecDepth 100000 in
theorem zg_icmp {p : Program} {e : Env} {R : Room} {s : State} {m : MethodId} {args : Array Value} {below : List Frame} {meth : Method} {c : Code} {Q : State → Prop} {O : zOm} {ev : zEv} (X : zCx p R s m args meth c O ev) {rt : Option zV → zMem → Prop} {n pc : Nat} {st : List zV} {lv : zLv} {M : zMem} {cd : Jvm.ClassFile.Cond} {off : Int}
    (hd : decode ev.2.1 pc = .ok (.if_icmp cd off, n)) (h : zStep ev (zS O) (zR O) rt (.if_icmp cd off) n pc st lv M (zGo p e R s m args below meth c Q O ev.2.2.1)) : zGo p e R s m args below meth c Q O ev.2.2.1 pc st lv M := by
  obtain ⟨own, code, nL, ret, pf, pm, pk, fr, lo, fn⟩ := ev
  obtain ⟨hx, hb, hml, hret, hown, hts, hK, hN, hfr, hlo, hszB, hSo, hCl, hF, hM0, hM1, hM2, hM5, hk0, hk1, hM3, hM4⟩ := X
  dsimp only at hb hml hret hown hfr hlo hF hM0 hM1 hM2 hM5 hk0 hk1 hM3 hM4 hd
  intro hst hlv hM H locs ls hP hS hl
  obtain ⟨rfl, x, y, r, t, rfl, ht, h1, h2⟩ := h
  have hy : zin32 y := zok_hd hst
  have hx1 : zin32 x := zok_hd (zok_tl hst)
  have kt := fun q => h1 q (zok_tl (zok_tl hst)) hlv hM H locs ls hP hS hl
  have kf := fun q => h2 q (zok_tl (zok_tl hst)) hlv hM H locs ls hP hS hl
  cases cd
  · exact lv_icmp_eq hx hb hd ht (fun q => kt ((zi_eq hx1 hy).mp q)) (fun q => kf (fun z => q ((zi_eq hx1 hy).mpr z)))
  · exact lv_icmp_ne hx hb hd ht (fun q => kt (fun z => q ((zi_eq hx1 hy).mpr z))) (fun q => kf (fun z => z ((zi_eq hx1 hy).mp q)))
  · exact lv_icmp_lt hx hb hd ht (fun q => kt ((zi_lt hx1 hy).mp q)) (fun q => kf (fun z => q ((zi_lt hx1 hy).mpr z)))
  · exact lv_icmp_ge hx hb hd ht (fun q => kt ((zi_le hy hx1).mp q)) (fun q => kf (fun z => q ((zi_le hy hx1).mpr z)))
  · exact lv_icmp_gt hx hb hd ht (fun q => kt ((zi_lt hy hx1).mp q)) (fun q => kf (fun z => q ((zi_lt hy hx1).mpr z)))
  · exact lv_icmp_le hx hb hd ht (fun q => kt ((zi_le hx1 hy).mp q)) (fun q => kf (fun z => q ((zi_le hx1 hy).mpr z)))

set_option maxHeartbeats 4000000 in
set_option maxRecDepth 100000 in
theorem zg_ifnull {p : Program} {e : Env} {R : Room} {s : State} {m : MethodId} {args : Array Value} {below : List Frame} {meth : Method} {c : Code} {Q : State → Prop} {O : zOm} {ev : zEv} (X : zCx p R s m args meth c O ev) {rt : Option zV → zMem → Prop} {n pc : Nat} {st : List zV} {lv : zLv} {M : zMem} {off : Int}
    (hd : decode ev.2.1 pc = .ok (.ifnull off, n)) (h : zStep ev (zS O) (zR O) rt (.ifnull off) n pc st lv M (zGo p e R s m args below meth c Q O ev.2.2.1)) : zGo p e R s m args below meth c Q O ev.2.2.1 pc st lv M := by
  obtain ⟨own, code, nL, ret, pf, pm, pk, fr, lo, fn⟩ := ev
  obtain ⟨hx, hb, hml, hret, hown, hts, hK, hN, hfr, hlo, hszB, hSo, hCl, hF, hM0, hM1, hM2, hM5, hk0, hk1, hM3, hM4⟩ := X
  dsimp only at hb hml hret hown hfr hlo hF hM0 hM1 hM2 hM5 hk0 hk1 hM3 hM4 hd
  intro hst hlv hM H locs ls hP hS hl
  obtain ⟨rfl, x, r, t, rfl, ht, h1, h2⟩ := h
  rw [List.map_cons]
  by_cases hn : x = -1
  · subst hn
    exact lv_ifnullN hx hb hd ht (h1 rfl (zok_tl hst) hlv hM H locs ls hP hS hl)
  · obtain ⟨a, ha⟩ := zWv_ref' O hn
    rw [ha]
    exact lv_ifnull hx hb hd (h2 hn (zok_tl hst) hlv hM H locs ls hP hS hl)

set_option maxHeartbeats 4000000 in
set_option maxRecDepth 100000 in
theorem zg_ifnonnull {p : Program} {e : Env} {R : Room} {s : State} {m : MethodId} {args : Array Value} {below : List Frame} {meth : Method} {c : Code} {Q : State → Prop} {O : zOm} {ev : zEv} (X : zCx p R s m args meth c O ev) {rt : Option zV → zMem → Prop} {n pc : Nat} {st : List zV} {lv : zLv} {M : zMem} {off : Int}
    (hd : decode ev.2.1 pc = .ok (.ifnonnull off, n)) (h : zStep ev (zS O) (zR O) rt (.ifnonnull off) n pc st lv M (zGo p e R s m args below meth c Q O ev.2.2.1)) : zGo p e R s m args below meth c Q O ev.2.2.1 pc st lv M := by
  obtain ⟨own, code, nL, ret, pf, pm, pk, fr, lo, fn⟩ := ev
  obtain ⟨hx, hb, hml, hret, hown, hts, hK, hN, hfr, hlo, hszB, hSo, hCl, hF, hM0, hM1, hM2, hM5, hk0, hk1, hM3, hM4⟩ := X
  dsimp only at hb hml hret hown hfr hlo hF hM0 hM1 hM2 hM5 hk0 hk1 hM3 hM4 hd
  intro hst hlv hM H locs ls hP hS hl
  obtain ⟨rfl, x, r, t, rfl, ht, h1, h2⟩ := h
  rw [List.map_cons]
  by_cases hn : x = -1
  · subst hn
    exact lv_ifnonnullN hx hb hd (h2 rfl (zok_tl hst) hlv hM H locs ls hP hS hl)
  · obtain ⟨a, ha⟩ := zWv_ref' O hn
    rw [ha]
    exact lv_ifnonnull hx hb hd ht (h1 hn (zok_tl hst) hlv hM H locs ls hP hS hl)

set_option maxHeartbeats 4000000 in
set_option maxRecDepth 100000 in
theorem zg_goto {p : Program} {e : Env} {R : Room} {s : State} {m : MethodId} {args : Array Value} {below : List Frame} {meth : Method} {c : Code} {Q : State → Prop} {O : zOm} {ev : zEv} (X : zCx p R s m args meth c O ev) {rt : Option zV → zMem → Prop} {n pc : Nat} {st : List zV} {lv : zLv} {M : zMem} {off : Int}
    (hd : decode ev.2.1 pc = .ok (.goto off, n)) (h : zStep ev (zS O) (zR O) rt (.goto off) n pc st lv M (zGo p e R s m args below meth c Q O ev.2.2.1)) : zGo p e R s m args below meth c Q O ev.2.2.1 pc st lv M := by
  obtain ⟨own, code, nL, ret, pf, pm, pk, fr, lo, fn⟩ := ev
  obtain ⟨hx, hb, hml, hret, hown, hts, hK, hN, hfr, hlo, hszB, hSo, hCl, hF, hM0, hM1, hM2, hM5, hk0, hk1, hM3, hM4⟩ := X
  dsimp only at hb hml hret hown hfr hlo hF hM0 hM1 hM2 hM5 hk0 hk1 hM3 hM4 hd
  intro hst hlv hM H locs ls hP hS hl
  obtain ⟨rfl, t, ht, h⟩ := h
  exact lv_goto hx hb hd ht (h hst hlv hM H locs ls hP hS hl)

set_option maxHeartbeats 4000000 in
set_option maxRecDepth 100000 in
theorem zg_tableswitch {p : Program} {e : Env} {R : Room} {s : State} {m : MethodId} {args : Array Value} {below : List Frame} {meth : Method} {c : Code} {Q : State → Prop} {O : zOm} {ev : zEv} (X : zCx p R s m args meth c O ev) {rt : Option zV → zMem → Prop} {n pc : Nat} {st : List zV} {lv : zLv} {M : zMem} {dflt lw hi : Int} {offs : Array Int}
    (hd : decode ev.2.1 pc = .ok (.tableswitch dflt lw hi offs, n)) (h : zStep ev (zS O) (zR O) rt (.tableswitch dflt lw hi offs) n pc st lv M (zGo p e R s m args below meth c Q O ev.2.2.1)) : zGo p e R s m args below meth c Q O ev.2.2.1 pc st lv M := by
  obtain ⟨own, code, nL, ret, pf, pm, pk, fr, lo, fn⟩ := ev
  obtain ⟨hx, hb, hml, hret, hown, hts, hK, hN, hfr, hlo, hszB, hSo, hCl, hF, hM0, hM1, hM2, hM5, hk0, hk1, hM3, hM4⟩ := X
  dsimp only at hb hml hret hown hfr hlo hF hM0 hM1 hM2 hM5 hk0 hk1 hM3 hM4 hd
  intro hst hlv hM H locs ls hP hS hl
  obtain ⟨x, r, rfl, h1, h2⟩ := h
  have hx1 : zin32 x := zok_hd hst
  by_cases ho : x < lw ∨ hi < x
  · obtain ⟨t, ht, h⟩ := h1 ho
    exact lv_tableOut hx hb hd (by rw [zi_toInt hx1]; exact ho) ht (h (zok_tl hst) hlv hM H locs ls hP hS hl)
  · obtain ⟨off, t, hof, ht, h⟩ := h2 ho
    exact lv_tableIn hx hb hd (by rw [zi_toInt hx1]; omega) (by rw [zi_toInt hx1]; omega) (by rw [zi_toInt hx1]; exact hof) ht (h (zok_tl hst) hlv hM H locs ls hP hS hl)

set_option maxHeartbeats 4000000 in
set_option maxRecDepth 100000 in
theorem zg_lookupswitch {p : Program} {e : Env} {R : Room} {s : State} {m : MethodId} {args : Array Value} {below : List Frame} {meth : Method} {c : Code} {Q : State → Prop} {O : zOm} {ev : zEv} (X : zCx p R s m args meth c O ev) {rt : Option zV → zMem → Prop} {n pc : Nat} {st : List zV} {lv : zLv} {M : zMem} {dflt : Int} {ps : Array (Int × Int)}
    (hd : decode ev.2.1 pc = .ok (.lookupswitch dflt ps, n)) (h : zStep ev (zS O) (zR O) rt (.lookupswitch dflt ps) n pc st lv M (zGo p e R s m args below meth c Q O ev.2.2.1)) : zGo p e R s m args below meth c Q O ev.2.2.1 pc st lv M := by
  obtain ⟨own, code, nL, ret, pf, pm, pk, fr, lo, fn⟩ := ev
  obtain ⟨hx, hb, hml, hret, hown, hts, hK, hN, hfr, hlo, hszB, hSo, hCl, hF, hM0, hM1, hM2, hM5, hk0, hk1, hM3, hM4⟩ := X
  dsimp only at hb hml hret hown hfr hlo hF hM0 hM1 hM2 hM5 hk0 hk1 hM3 hM4 hd
  intro hst hlv hM H locs ls hP hS hl
  obtain ⟨hp, x, r, t, rfl, ht, h⟩ := h
  have hx1 : zin32 x := zok_hd hst
  exact lv_lookup hx hb hd hp (by rw [zi_toInt hx1]) ht (h (zok_tl hst) hlv hM H locs ls hP hS hl)

set_option maxHeartbeats 4000000 in
set_option maxRecDepth 100000 in
theorem zg_getfield {p : Program} {e : Env} {R : Room} {s : State} {m : MethodId} {args : Array Value} {below : List Frame} {meth : Method} {c : Code} {Q : State → Prop} {O : zOm} {ev : zEv} (X : zCx p R s m args meth c O ev) {rt : Option zV → zMem → Prop} {n pc : Nat} {st : List zV} {lv : zLv} {M : zMem} {k : Nat}
    (hd : decode ev.2.1 pc = .ok (.getfield k, n)) (h : zStep ev (zS O) (zR O) rt (.getfield k) n pc st lv M (zGo p e R s m args below meth c Q O ev.2.2.1)) : zGo p e R s m args below meth c Q O ev.2.2.1 pc st lv M := by
  obtain ⟨own, code, nL, ret, pf, pm, pk, fr, lo, fn⟩ := ev
  obtain ⟨hx, hb, hml, hret, hown, hts, hK, hN, hfr, hlo, hszB, hSo, hCl, hF, hM0, hM1, hM2, hM5, hk0, hk1, hM3, hM4⟩ := X
  dsimp only at hb hml hret hown hfr hlo hF hM0 hM1 hM2 hM5 hk0 hk1 hM3 hM4 hd
  intro hst hlv hM H locs ls hP hS hl
  obtain ⟨rfl, o, r, ci, j, rfl, hpf, h⟩ := h
  obtain ⟨C, T, N, hc, hj, hlk⟩ := hF k ci j hpf
  obtain ⟨hw, -, -⟩ := hCl ci C T N hc
  have key : ∀ q, zFld (zS O) o ci j = some q → ∃ fks, (zWorld O M)[o.toNat]? = some (zB O + o.toNat, .inr (ci, fks.mapIdx (zFv O (M (o.toNat : Nat))))) ∧ 0 ≤ o ∧ fks[j]? = some q ∧ (zS O)[o.toNat]? = some (.inr (ci, fks)) := by
    intro q hq
    obtain ⟨h0, fks, h1, h2⟩ := zFld_inv hq
    exact ⟨fks, zWorld_at h1, h0, h2, h1⟩
  rw [List.map_cons]
  rcases h with ⟨hq, h⟩ | ⟨q, hq, h⟩
  · obtain ⟨fks, he, h0, hf, hs⟩ := key _ hq
    have ho : ((o.toNat : Nat) : Int) = o := by omega
    rw [zWv_nn O h0]
    refine va_get (D := zD O) hx hb hts hw hown hK hP o.toNat he hc j hj (hts _ hlk) (fun _ h9 => h9) (v := .int (zi (M o j))) (by rw [List.getElem?_mapIdx, hf]; show some (Value.int (zi (M (o.toNat : Nat) j))) = _; rw [ho]) hd ?_
    have hlt := (List.getElem?_eq_some_iff.mp hf).1
    have hin : zin32 (M o j) := by have := hM _ _ hs j hlt; rw [ho] at this; exact this
    exact h (zok_cons hin (zok_tl hst)) hlv hM H locs ls hP hS hl
  · obtain ⟨fks, he, h0, hf, hs⟩ := key _ hq
    rw [zWv_nn O h0]
    refine va_get (D := zD O) hx hb hts hw hown hK hP o.toNat he hc j hj (hts _ hlk) (fun _ h9 => h9) (v := zWv O (zrv q)) (by rw [List.getElem?_mapIdx, hf]; show some (zFv O _ j (some q)) = _; rw [zfk_ref]) hd ?_
    exact h (zok_cons (zrv_ok q) (zok_tl hst)) hlv hM H locs ls hP hS hl

set_option maxHeartbeats 4000000 in
set_option maxRecDepth 100000 in
theorem zg_putfield {p : Program} {e : Env} {R : Room} {s : State} {m : MethodId} {args : Array Value} {below : List Frame} {meth : Method} {c : Code} {Q : State → Prop} {O : zOm} {ev : zEv} (X : zCx p R s m args meth c O ev) {rt : Option zV → zMem → Prop} {n pc : Nat} {st : List zV} {lv : zLv} {M : zMem} {k : Nat}
    (hd : decode ev.2.1 pc = .ok (.putfield k, n)) (h : zStep ev (zS O) (zR O) rt (.putfield k) n pc st lv M (zGo p e R s m args below meth c Q O ev.2.2.1)) : zGo p e R s m args below meth c Q O ev.2.2.1 pc st lv M := by
  obtain ⟨own, code, nL, ret, pf, pm, pk, fr, lo, fn⟩ := ev
  obtain ⟨hx, hb, hml, hret, hown, hts, hK, hN, hfr, hlo, hszB, hSo, hCl, hF, hM0, hM1, hM2, hM5, hk0, hk1, hM3, hM4⟩ := X
  dsimp only at hb hml hret hown hfr hlo hF hM0 hM1 hM2 hM5 hk0 hk1 hM3 hM4 hd
  intro hst hlv hM H locs ls hP hS hl
  obtain ⟨rfl, o, x, r, ci, j, rfl, hpf, hq, h⟩ := h
  obtain ⟨C, T, N, hc, hj, hlk⟩ := hF k ci j hpf
  obtain ⟨hw, ⟨ty0, hty⟩, hnm⟩ := hCl ci C T N hc
  obtain ⟨h0, fks, hs, hf⟩ := zFld_inv hq
  obtain ⟨C', T', N', hc', hlen, hfin⟩ := hSo _ _ hs
  rw [hc] at hc'
  cases hc'
  obtain ⟨hI, hfn⟩ := hfin j hf
  have ho : ((o.toNat : Nat) : Int) = o := by omega
  have hx1 : zin32 x := zok_hd hst
  rw [List.map_cons, List.map_cons, zWv_nn O h0]
  have hlt := (List.getElem?_eq_some_iff.mp hf).1
  refine va_put (D := zD O) (v := .int (zi x)) (ty := .int) hx hb hts hw ty0 hty hnm hown hK hP (zWorld_D O M _) hS o.toNat (zWorld_at hs) hc j hj (hts _ hlk) (fun _ h9 => h9) hfn (by rw [hI]; decide) rfl rfl (by rw [List.length_mapIdx]; exact hlt) hd (fun H1 locs1 hP1 hD1 hS1 => ?_)
  have hset : (fks.mapIdx (zFv O (M (o.toNat : Nat)))).set j (.int (zi x)) = fks.mapIdx (zFv O (zup (M o) j x)) := by
    refine List.ext_getElem? fun i => ?_
    rw [List.getElem?_set]
    by_cases hij : j = i
    · subst hij
      rw [if_pos rfl, if_pos (by rw [List.length_mapIdx]; exact hlt), List.getElem?_mapIdx, hf]
      show _ = some (Value.int (zi (zup (M o) j x j)))
      unfold zup
      rw [if_pos rfl]
    · rw [if_neg hij, List.getElem?_mapIdx, List.getElem?_mapIdx]
      congr 1
      funext fk
      unfold zFv
      cases fk with
      | none => show Value.int (zi (M (o.toNat : Nat) i)) = Value.int (zi (zup (M o) j x i)); unfold zup; rw [if_neg (by omega), ho]
      | some q => cases q <;> rfl
  have hw2 := zWorld_set (O := O) (M := M) hs (zup (M o) j x) (e := .inr (ci, (fks.mapIdx (zFv O (M (o.toNat : Nat)))).set j (.int (zi x)))) (by rw [hset]; rfl)
  rw [ho] at hw2 hP1
  rw [hw2] at hP1
  have hM1 : zMok (zS O) (zput M o (zup (M o) j x)) := by
    have h3 := hM _ _ hs
    rw [ho] at h3
    have := zMok_put (f := zup (M o) j x) hM hs (zShOk_upF h3 hx1)
    rw [ho] at this
    exact this
  exact h (zok_tl (zok_tl hst)) hlv hM1 H1 locs1 ls hP1 hS1 hl

set_option maxHeartbeats 4000000 in
set_option maxRecDepth 100000 in
theorem zg_arraylength {p : Program} {e : Env} {R : Room} {s : State} {m : MethodId} {args : Array Value} {below : List Frame} {meth : Method} {c : Code} {Q : State → Prop} {O : zOm} {ev : zEv} (X : zCx p R s m args meth c O ev) {rt : Option zV → zMem → Prop} {n pc : Nat} {st : List zV} {lv : zLv} {M : zMem} 
    (hd : decode ev.2.1 pc = .ok (.arraylength, n)) (h : zStep ev (zS O) (zR O) rt (.arraylength) n pc st lv M (zGo p e R s m args below meth c Q O ev.2.2.1)) : zGo p e R s m args below meth c Q O ev.2.2.1 pc st lv M := by
  obtain ⟨own, code, nL, ret, pf, pm, pk, fr, lo, fn⟩ := ev
  obtain ⟨hx, hb, hml, hret, hown, hts, hK, hN, hfr, hlo, hszB, hSo, hCl, hF, hM0, hM1, hM2, hM5, hk0, hk1, hM3, hM4⟩ := X
  dsimp only at hb hml hret hown hfr hlo hF hM0 hM1 hM2 hM5 hk0 hk1 hM3 hM4 hd
  intro hst hlv hM H locs ls hP hS hl
  obtain ⟨rfl, a, r, ty, k, rfl, ⟨h0, rs, hs⟩, hk, h⟩ := h
  obtain ⟨hty, -⟩ := hSo _ _ hs
  obtain ⟨t0, ht0⟩ := zTy_at O hty
  have he := zWorld_at (M := M) hs
  have h2 := h (zok_cons ⟨by omega, by show (k : Int) < _; omega⟩ (zok_tl hst)) hlv hM H locs ls hP hS hl
  rw [List.map_cons, zWv_nn O h0]
  obtain ⟨y, hy1, hy2⟩ : ∃ y : vp_A, zEnc O (M (a.toNat : Nat)) (.inl (ty, k, rs)) = .inl (zcA O ty, y) ∧ y.1 = k := by
    cases ty <;> exact ⟨_, rfl, rfl⟩
  rw [hy1] at he
  exact va_alen hx hb hK hP a.toNat t0 he ht0 (v := zi k) (by rw [hy2]; unfold zi; rw [Int32.ofInt_eq_ofNat]) hd h2

set_option maxHeartbeats 4000000 in
set_option maxRecDepth 100000 in
theorem zg_iaload {p : Program} {e : Env} {R : Room} {s : State} {m : MethodId} {args : Array Value} {below : List Frame} {meth : Method} {c : Code} {Q : State → Prop} {O : zOm} {ev : zEv} (X : zCx p R s m args meth c O ev) {rt : Option zV → zMem → Prop} {n pc : Nat} {st : List zV} {lv : zLv} {M : zMem} 
    (hd : decode ev.2.1 pc = .ok (.iaload, n)) (h : zStep ev (zS O) (zR O) rt (.iaload) n pc st lv M (zGo p e R s m args below meth c Q O ev.2.2.1)) : zGo p e R s m args below meth c Q O ev.2.2.1 pc st lv M := by
  obtain ⟨own, code, nL, ret, pf, pm, pk, fr, lo, fn⟩ := ev
  obtain ⟨hx, hb, hml, hret, hown, hts, hK, hN, hfr, hlo, hszB, hSo, hCl, hF, hM0, hM1, hM2, hM5, hk0, hk1, hM3, hM4⟩ := X
  dsimp only at hb hml hret hown hfr hlo hF hM0 hM1 hM2 hM5 hk0 hk1 hM3 hM4 hd
  intro hst hlv hM H locs ls hP hS hl
  obtain ⟨rfl, j, a, r, k, rfl, ⟨h0, rs, hs⟩, hj0, hjk, h⟩ := h
  obtain ⟨t0, ht0⟩ := zTy_at O (ty := .int) (by decide)
  have hj1 : zin32 j := zok_hd hst
  have ha : ((a.toNat : Nat) : Int) = a := by omega
  have hjj : ((j.toNat : Nat) : Int) = j := by omega
  rw [List.map_cons, List.map_cons, zWv_nn O h0]
  have hin : zin32 (M a j) := by have := hM _ _ hs j.toNat (by omega); rw [ha, hjj] at this; exact this
  have h2 := h (zok_cons hin (zok_tl (zok_tl hst))) hlv hM H locs ls hP hS hl
  refine va_iald hx hb hK hP a.toNat t0 (zWorld_at (M := M) hs) ht0 (zi_vin hj0 hjk hj1) hd ?_
  rw [zi_cl hj1, hjj, ha]
  exact h2

set_option maxHeartbeats 4000000 in
set_option maxRecDepth 100000 in
theorem zg_laload {p : Program} {e : Env} {R : Room} {s : State} {m : MethodId} {args : Array Value} {below : List Frame} {meth : Method} {c : Code} {Q : State → Prop} {O : zOm} {ev : zEv} (X : zCx p R s m args meth c O ev) {rt : Option zV → zMem → Prop} {n pc : Nat} {st : List zV} {lv : zLv} {M : zMem} 
    (hd : decode ev.2.1 pc = .ok (.laload, n)) (h : zStep ev (zS O) (zR O) rt (.laload) n pc st lv M (zGo p e R s m args below meth c Q O ev.2.2.1)) : zGo p e R s m args below meth c Q O ev.2.2.1 pc st lv M := by
  obtain ⟨own, code, nL, ret, pf, pm, pk, fr, lo, fn⟩ := ev
  obtain ⟨hx, hb, hml, hret, hown, hts, hK, hN, hfr, hlo, hszB, hSo, hCl, hF, hM0, hM1, hM2, hM5, hk0, hk1, hM3, hM4⟩ := X
  dsimp only at hb hml hret hown hfr hlo hF hM0 hM1 hM2 hM5 hk0 hk1 hM3 hM4 hd
  intro hst hlv hM H locs ls hP hS hl
  obtain ⟨rfl, j, a, r, k, rfl, ⟨h0, rs, hs⟩, hj0, hjk, h⟩ := h
  obtain ⟨t0, ht0⟩ := zTy_at O (ty := .long) (by decide)
  have hj1 : zin32 j := zok_hd hst
  have ha : ((a.toNat : Nat) : Int) = a := by omega
  have hjj : ((j.toNat : Nat) : Int) = j := by omega
  rw [List.map_cons, List.map_cons, zWv_nn O h0]
  have hin : zin64 (M a j) := by have := hM _ _ hs j.toNat (by omega); rw [ha, hjj] at this; exact this
  have h2 := h (zok_cons hin (zok_tl (zok_tl hst))) hlv hM H locs ls hP hS hl
  refine va_lald hx hb hK hP a.toNat t0 (zWorld_at (M := M) hs) ht0 (zi_vin hj0 hjk hj1) hd ?_
  rw [zi_cl hj1, hjj, ha]
  exact h2

set_option maxHeartbeats 4000000 in
set_option maxRecDepth 100000 in
theorem zg_baload {p : Program} {e : Env} {R : Room} {s : State} {m : MethodId} {args : Array Value} {below : List Frame} {meth : Method} {c : Code} {Q : State → Prop} {O : zOm} {ev : zEv} (X : zCx p R s m args meth c O ev) {rt : Option zV → zMem → Prop} {n pc : Nat} {st : List zV} {lv : zLv} {M : zMem} 
    (hd : decode ev.2.1 pc = .ok (.baload, n)) (h : zStep ev (zS O) (zR O) rt (.baload) n pc st lv M (zGo p e R s m args below meth c Q O ev.2.2.1)) : zGo p e R s m args below meth c Q O ev.2.2.1 pc st lv M := by
  obtain ⟨own, code, nL, ret, pf, pm, pk, fr, lo, fn⟩ := ev
  obtain ⟨hx, hb, hml, hret, hown, hts, hK, hN, hfr, hlo, hszB, hSo, hCl, hF, hM0, hM1, hM2, hM5, hk0, hk1, hM3, hM4⟩ := X
  dsimp only at hb hml hret hown hfr hlo hF hM0 hM1 hM2 hM5 hk0 hk1 hM3 hM4 hd
  intro hst hlv hM H locs ls hP hS hl
  obtain ⟨rfl, j, a, r, k, rfl, hor, hj0, hjk, h⟩ := h
  have hj1 : zin32 j := zok_hd hst
  have hjj : ((j.toNat : Nat) : Int) = j := by omega
  rw [List.map_cons, List.map_cons]
  rcases hor with ⟨h0, rs, hs⟩ | ⟨h0, rs, hs⟩
  · obtain ⟨t0, ht0⟩ := zTy_at O (ty := .boolean) (by decide)
    have ha : ((a.toNat : Nat) : Int) = a := by omega
    rw [zWv_nn O h0]
    have hin : zin32 (M a j) := by have := hM _ _ hs j.toNat (by omega); rw [ha, hjj] at this; exact zfit_int this (by simp)
    have h2 := h (zok_cons hin (zok_tl (zok_tl hst))) hlv hM H locs ls hP hS hl
    refine va_zald hx hb hK hP a.toNat t0 (zWorld_at (M := M) hs) ht0 (zi_vin hj0 hjk hj1) hd ?_
    rw [zi_cl hj1, hjj, ha]
    exact h2
  · obtain ⟨t0, ht0⟩ := zTy_at O (ty := .byte) (by decide)
    have ha : ((a.toNat : Nat) : Int) = a := by omega
    rw [zWv_nn O h0]
    have hin : zin32 (M a j) := by have := hM _ _ hs j.toNat (by omega); rw [ha, hjj] at this; exact zfit_int this (by simp)
    have h2 := h (zok_cons hin (zok_tl (zok_tl hst))) hlv hM H locs ls hP hS hl
    refine va_bald hx hb hK hP a.toNat t0 (zWorld_at (M := M) hs) ht0 (zi_vin hj0 hjk hj1) hd ?_
    rw [zi_cl hj1, hjj, ha]
    exact h2

set_option maxHeartbeats 4000000 in
set_option maxRecDepth 100000 in
theorem zg_aaload {p : Program} {e : Env} {R : Room} {s : State} {m : MethodId} {args : Array Value} {below : List Frame} {meth : Method} {c : Code} {Q : State → Prop} {O : zOm} {ev : zEv} (X : zCx p R s m args meth c O ev) {rt : Option zV → zMem → Prop} {n pc : Nat} {st : List zV} {lv : zLv} {M : zMem} 
    (hd : decode ev.2.1 pc = .ok (.aaload, n)) (h : zStep ev (zS O) (zR O) rt (.aaload) n pc st lv M (zGo p e R s m args below meth c Q O ev.2.2.1)) : zGo p e R s m args below meth c Q O ev.2.2.1 pc st lv M := by
  obtain ⟨own, code, nL, ret, pf, pm, pk, fr, lo, fn⟩ := ev
  obtain ⟨hx, hb, hml, hret, hown, hts, hK, hN, hfr, hlo, hszB, hSo, hCl, hF, hM0, hM1, hM2, hM5, hk0, hk1, hM3, hM4⟩ := X
  dsimp only at hb hml hret hown hfr hlo hF hM0 hM1 hM2 hM5 hk0 hk1 hM3 hM4 hd
  intro hst hlv hM H locs ls hP hS hl
  obtain ⟨rfl, j, a, r, C, k, rs, rfl, ⟨h0, hs⟩, hj0, hjk, h⟩ := h
  obtain ⟨hty, -⟩ := hSo _ _ hs
  obtain ⟨t0, ht0⟩ := zTy_at O hty
  have hj1 : zin32 j := zok_hd hst
  rw [List.map_cons, List.map_cons, zWv_nn O h0]
  have h2 := h (zok_cons (zrv_ok _) (zok_tl (zok_tl hst))) hlv hM H locs ls hP hS hl
  refine va_aldq hx hb hK hP a.toNat t0 (zWorld_at (M := M) hs) ht0 (zi_vin hj0 hjk hj1) hd ?_
  rw [zi_cl hj1, ← zrv_wv]
  exact h2

set_option maxHeartbeats 4000000 in
set_option maxRecDepth 100000 in
theorem zg_iastore {p : Program} {e : Env} {R : Room} {s : State} {m : MethodId} {args : Array Value} {below : List Frame} {meth : Method} {c : Code} {Q : State → Prop} {O : zOm} {ev : zEv} (X : zCx p R s m args meth c O ev) {rt : Option zV → zMem → Prop} {n pc : Nat} {st : List zV} {lv : zLv} {M : zMem} 
    (hd : decode ev.2.1 pc = .ok (.iastore, n)) (h : zStep ev (zS O) (zR O) rt (.iastore) n pc st lv M (zGo p e R s m args below meth c Q O ev.2.2.1)) : zGo p e R s m args below meth c Q O ev.2.2.1 pc st lv M := by
  obtain ⟨own, code, nL, ret, pf, pm, pk, fr, lo, fn⟩ := ev
  obtain ⟨hx, hb, hml, hret, hown, hts, hK, hN, hfr, hlo, hszB, hSo, hCl, hF, hM0, hM1, hM2, hM5, hk0, hk1, hM3, hM4⟩ := X
  dsimp only at hb hml hret hown hfr hlo hF hM0 hM1 hM2 hM5 hk0 hk1 hM3 hM4 hd
  intro hst hlv hM H locs ls hP hS hl
  obtain ⟨rfl, x, j, a, r, k, rfl, ⟨h0, rs, hs⟩, hj0, hjk, h⟩ := h
  have hj1 : zin32 j := zok_hd (zok_tl hst)
  rw [List.map_cons, List.map_cons, List.map_cons]
  obtain ⟨t0, ht0⟩ := zTy_at O (ty := .int) (by decide)
  have ha : ((a.toNat : Nat) : Int) = a := by omega
  rw [zWv_nn O h0]
  refine va_iast hx hb hK hP (zWorld_D O M _) hS a.toNat t0 (zWorld_at (M := M) hs) ht0 (zi_vin hj0 hjk hj1) hd (fun H1 locs1 hP1 hD1 hS1 => ?_)
  have hw2 := zWorld_set (O := O) (M := M) hs (zup (M a) j x) (e := .inl (zcA O .int, k, .inl (upd (fun i : Nat => zi (M (a.toNat : Nat) i)) (zi j).toNatClampNeg (zi x)))) (by rw [zi_cl hj1, ha, ← zupd_i hj0]; rfl)
  rw [ha] at hw2 hP1
  rw [hw2] at hP1
  have hM1 : zMok (zS O) (zput M a (zup (M a) j x)) := by
    have h3 := hM _ _ hs
    rw [ha] at h3
    have := zMok_put (f := zup (M a) j x) hM hs (zShOk_up h3 (zok_hd hst))
    rw [ha] at this
    exact this
  exact h (zok_tl (zok_tl (zok_tl hst))) hlv hM1 H1 locs1 ls hP1 hS1 hl

set_option maxHeartbeats 4000000 in
set_option maxRecDepth 100000 in
theorem zg_lastore {p : Program} {e : Env} {R : Room} {s : State} {m : MethodId} {args : Array Value} {below : List Frame} {meth : Method} {c : Code} {Q : State → Prop} {O : zOm} {ev : zEv} (X : zCx p R s m args meth c O ev) {rt : Option zV → zMem → Prop} {n pc : Nat} {st : List zV} {lv : zLv} {M : zMem} 
    (hd : decode ev.2.1 pc = .ok (.lastore, n)) (h : zStep ev (zS O) (zR O) rt (.lastore) n pc st lv M (zGo p e R s m args below meth c Q O ev.2.2.1)) : zGo p e R s m args below meth c Q O ev.2.2.1 pc st lv M := by
  obtain ⟨own, code, nL, ret, pf, pm, pk, fr, lo, fn⟩ := ev
  obtain ⟨hx, hb, hml, hret, hown, hts, hK, hN, hfr, hlo, hszB, hSo, hCl, hF, hM0, hM1, hM2, hM5, hk0, hk1, hM3, hM4⟩ := X
  dsimp only at hb hml hret hown hfr hlo hF hM0 hM1 hM2 hM5 hk0 hk1 hM3 hM4 hd
  intro hst hlv hM H locs ls hP hS hl
  obtain ⟨rfl, x, j, a, r, k, rfl, ⟨h0, rs, hs⟩, hj0, hjk, h⟩ := h
  have hj1 : zin32 j := zok_hd (zok_tl hst)
  rw [List.map_cons, List.map_cons, List.map_cons]
  obtain ⟨t0, ht0⟩ := zTy_at O (ty := .long) (by decide)
  have ha : ((a.toNat : Nat) : Int) = a := by omega
  rw [zWv_nn O h0]
  refine va_last hx hb hK hP (zWorld_D O M _) hS a.toNat t0 (zWorld_at (M := M) hs) ht0 (zi_vin hj0 hjk hj1) hd (fun H1 locs1 hP1 hD1 hS1 => ?_)
  have hw2 := zWorld_set (O := O) (M := M) hs (zup (M a) j x) (e := .inl (zcA O .long, k, .inr (.inl (vp_updL (fun i : Nat => zl (M (a.toNat : Nat) i)) (zi j).toNatClampNeg (zl x))))) (by rw [zi_cl hj1, ha, ← zupd_l hj0]; rfl)
  rw [ha] at hw2 hP1
  rw [hw2] at hP1
  have hM1 : zMok (zS O) (zput M a (zup (M a) j x)) := by
    have h3 := hM _ _ hs
    rw [ha] at h3
    have := zMok_put (f := zup (M a) j x) hM hs (zShOk_up h3 (zok_hd hst))
    rw [ha] at this
    exact this
  exact h (zok_tl (zok_tl (zok_tl hst))) hlv hM1 H1 locs1 ls hP1 hS1 hl

set_option maxHeartbeats 4000000 in
set_option maxRecDepth 100000 in
theorem zg_bastore {p : Program} {e : Env} {R : Room} {s : State} {m : MethodId} {args : Array Value} {below : List Frame} {meth : Method} {c : Code} {Q : State → Prop} {O : zOm} {ev : zEv} (X : zCx p R s m args meth c O ev) {rt : Option zV → zMem → Prop} {n pc : Nat} {st : List zV} {lv : zLv} {M : zMem} 
    (hd : decode ev.2.1 pc = .ok (.bastore, n)) (h : zStep ev (zS O) (zR O) rt (.bastore) n pc st lv M (zGo p e R s m args below meth c Q O ev.2.2.1)) : zGo p e R s m args below meth c Q O ev.2.2.1 pc st lv M := by
  obtain ⟨own, code, nL, ret, pf, pm, pk, fr, lo, fn⟩ := ev
  obtain ⟨hx, hb, hml, hret, hown, hts, hK, hN, hfr, hlo, hszB, hSo, hCl, hF, hM0, hM1, hM2, hM5, hk0, hk1, hM3, hM4⟩ := X
  dsimp only at hb hml hret hown hfr hlo hF hM0 hM1 hM2 hM5 hk0 hk1 hM3 hM4 hd
  intro hst hlv hM H locs ls hP hS hl
  obtain ⟨rfl, x, j, a, r, k, rfl, hor, hj0, hjk, h⟩ := h
  have hj1 : zin32 j := zok_hd (zok_tl hst)
  rw [List.map_cons, List.map_cons, List.map_cons]
  rcases hor with ⟨⟨h0, rs, hs⟩, hx2⟩ | ⟨⟨h0, rs, hs⟩, hx2⟩
  · have hnr : vp_nar .boolean (zi x) = zi x := by rcases hx2 with rfl | rfl <;> decide
    obtain ⟨t0, ht0⟩ := zTy_at O (ty := .boolean) (by decide)
    have ha : ((a.toNat : Nat) : Int) = a := by omega
    rw [zWv_nn O h0]
    refine va_zast hx hb hK hP (zWorld_D O M _) hS a.toNat t0 (zWorld_at (M := M) hs) ht0 (zi_vin hj0 hjk hj1) hd (fun H1 locs1 hP1 hD1 hS1 => ?_)
    have hw2 := zWorld_set (O := O) (M := M) hs (zup (M a) j x) (e := .inl (zcA O .boolean, k, .inl (upd (fun i : Nat => zi (M (a.toNat : Nat) i)) (zi j).toNatClampNeg (vp_nar .boolean (zi x))))) (by rw [zi_cl hj1, ha, hnr, ← zupd_i hj0]; rfl)
    rw [ha] at hw2 hP1
    rw [hw2] at hP1
    have hM1 : zMok (zS O) (zput M a (zup (M a) j x)) := by
      have h3 := hM _ _ hs
      rw [ha] at h3
      have := zMok_put (f := zup (M a) j x) hM hs (zShOk_up h3 hx2)
      rw [ha] at this
      exact this
    exact h (zok_tl (zok_tl (zok_tl hst))) hlv hM1 H1 locs1 ls hP1 hS1 hl
  · have hnr : vp_nar .byte (zi x) = zi x := by
      rw [vp_nar_byte]
      refine zi_ext ?_
      rw [Int8.toInt_toInt32, Int32.toInt_toInt8, zi_toInt (zok_hd hst)]
      show Int.bmod x 256 = x
      rw [Int.bmod_eq_of_le] <;> omega
    obtain ⟨t0, ht0⟩ := zTy_at O (ty := .byte) (by decide)
    have ha : ((a.toNat : Nat) : Int) = a := by omega
    rw [zWv_nn O h0]
    refine va_bast hx hb hK hP (zWorld_D O M _) hS a.toNat t0 (zWorld_at (M := M) hs) ht0 (zi_vin hj0 hjk hj1) hd (fun H1 locs1 hP1 hD1 hS1 => ?_)
    have hw2 := zWorld_set (O := O) (M := M) hs (zup (M a) j x) (e := .inl (zcA O .byte, k, .inl (upd (fun i : Nat => zi (M (a.toNat : Nat) i)) (zi j).toNatClampNeg (vp_nar .byte (zi x))))) (by rw [zi_cl hj1, ha, hnr, ← zupd_i hj0]; rfl)
    rw [ha] at hw2 hP1
    rw [hw2] at hP1
    have hM1 : zMok (zS O) (zput M a (zup (M a) j x)) := by
      have h3 := hM _ _ hs
      rw [ha] at h3
      have := zMok_put (f := zup (M a) j x) hM hs (zShOk_up h3 hx2)
      rw [ha] at this
      exact this
    exact h (zok_tl (zok_tl (zok_tl hst))) hlv hM1 H1 locs1 ls hP1 hS1 hl
