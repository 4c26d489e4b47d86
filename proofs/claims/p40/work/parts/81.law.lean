/-! ===== the law's walk ===== -/
def zlB (O : zOm) : zB O = zB O := rfl
/-- what stands fixed in the law's frame -/
def zlX (p : Program) (s : State) (m : MethodId) (meth : Method) (c : Code) (O : zOm) (b L : Nat) (xs : Nat → Int32) : Prop :=
  p.tables.exec = Jvm.exec ∧ c.code = code ∧ c.maxLocals = 7 ∧ meth.sig.returnType = ret ∧ s.vm.findClass "ToldNetLaw" = some m.cls ∧ (∀ w ∈ zWS, w.before #[Value.ref b] s = true) ∧ va_K (zD O) (zcl O) (zTys O) s ∧ zNw s ∧ va_X b L xs s s.heap ∧ b < s.heap.size ∧ zB O = s.heap.size ∧ zb O = b ∧ zWld O ∧ 0 < (zS O).length ∧ L ≤ 3072
def zlA (s : State) : Nat → Prop := fun q => s.heap.size ≤ q
/-- a state of the heap in the law's frame -/
def zlH (s : State) (O : zOm) (M : zMem) (H : Heap) (locs : List Loc) : Prop := va_P (zD O) (zcl O) (zWorld O M) H ∧ va_S (zlA s) s.heap H locs ∧ zMok (zS O) M
theorem zlH.size {s : State} {O : zOm} {M : zMem} {H : Heap} {locs : List Loc} (h : zlH s O M H locs) (h0 : 0 < (zS O).length) : zB O + (zS O).length ≤ H.size := by
  have h1 : (zS O).length - 1 < (zS O).length := by omega
  have h2 : zB O + ((zS O).length - 1) < H.size := (h.1 _ _ (zWorld_at (M := M) (List.getElem?_eq_getElem h1))).lt
  omega
section ZL
variable {p : Program} {e : Env} {s : State} {m : MethodId} {below : List Frame} {meth : Method} {c : Code} {Q : State → Prop} {O : zOm} {b L : Nat} {xs : Nat → Int32} {H : Heap} {locs : List Loc} {nc ns pc : Nat} {ls : Array Slot} {rest : List Value} {M : zMem}
theorem znat_in {i : Nat} (h : i < 2147483648) : (nI i).toNatClampNeg = i ∧ ¬ nI i < 0 := ⟨nI_clamp (by omega), nI_pos (by omega)⟩
/-- one argument out of the script -/
theorem zl_arg (X : zlX p s m meth c O b L xs) {i k : Nat} {kk : Int} {lv : List (Nat × Value)} (hS : va_S (zlA s) s.heap H locs) (hl : lv_has ls 7 lv) (j0 j4 : Nat) (hj0 : lv[j0]? = some (0, .ref b)) (hj4 : lv[j4]? = some (4, .int (nI i)))
    (d0 : decode code pc = .ok (.aload_n 0, 1)) (d1 : decode code (pc + 1) = .ok (.iload 4, 2)) (d3 : decode code (pc + 3) = .ok (.iconst kk, 1)) (d4 : decode code (pc + 4) = .ok (.iadd, 1)) (d5 : decode code (pc + 5) = .ok (.iaload, 1)) (hk : kk = (k : Int)) (hi : i + k < L)
    (g : W p (zLn O) e room_1 s m #[Value.ref b] below meth c H locs nc ns Q (F0 m (pc + 6) ls (.int (xs (i + k)) :: rest))) : W p (zLn O) e room_1 s m #[Value.ref b] below meth c H locs nc ns Q (F0 m pc ls rest) := by
  obtain ⟨hx, hb, hml, hret, hown, hts, hK, hN, hX, hbl, hB, hb0, hO, h0, hL⟩ := X
  subst hk
  refine lv_aload_n (k := 0) (i := 0) hx hb d0 rfl (lv_at hl j0 hj0) ?_
  refine lv_iload hx hb d1 (lv_at hl j4 hj4) ?_
  refine lv_iconst (v := nI k) hx hb d3 (by unfold nI; rw [Int32.ofInt_eq_ofNat]) ?_
  refine lv_iadd hx hb d4 ?_
  have e1 : nI i + nI k = nI (i + k) := by unfold nI; rw [Int32.ofNat_add]
  rw [e1]
  obtain ⟨a1, a2⟩ := znat_in (i := i + k) (by omega)
  refine va_sld hx hb hX hbl (fun q => absurd q (by unfold zlA; omega)) hS (fun q => q.elim a2 (by rw [a1]; omega)) d5 ?_
  rw [a1]
  exact g
def zlChk : Nat → List (Nat × Bool) → Option Nat
  | pc, [] => some pc
  | pc, (k, fl) :: r => if zqT code pc (.aload_n 0) 1 = true ∧ zqT code (pc + 1) (.iload 4) 2 = true ∧ zqT code (pc + 3) (.iconst (k : Int)) 1 = true ∧ zqT code (pc + 4) .iadd 1 = true ∧ zqT code (pc + 5) .iaload 1 = true then
      (if fl = true then (if zqT code (pc + 6) (.ifCond .eq 7) 3 = true ∧ zqT code (pc + 9) (.iconst 1) 1 = true ∧ zqT code (pc + 10) (.goto 4) 3 = true ∧ zqT code (pc + 13) (.iconst 0) 1 = true then zlChk (pc + 14) r else none) else zlChk (pc + 6) r) else none
def zlArg (xs : Nat → Int32) (i : Nat) (q : Nat × Bool) : Int := if q.2 = true then (if xs (i + q.1) = 0 then 0 else 1) else (xs (i + q.1)).toInt
def zlArgs (xs : Nat → Int32) (i : Nat) (specs : List (Nat × Bool)) : List zV := specs.map fun q => (0, zlArg xs i q)
theorem zlArg_in (xs : Nat → Int32) (i : Nat) (q : Nat × Bool) : zin32 (zlArg xs i q) := by
  unfold zlArg
  split
  · split
    · exact ⟨by decide, by decide⟩
    · exact ⟨by decide, by decide⟩
  · exact zi_in _
theorem zl_args (X : zlX p s m meth c O b L xs) {i : Nat} {lv : List (Nat × Value)} (hS : va_S (zlA s) s.heap H locs) (hl : lv_has ls 7 lv) (j0 j4 : Nat) (hj0 : lv[j0]? = some (0, .ref b)) (hj4 : lv[j4]? = some (4, .int (nI i))) : ∀ (specs : List (Nat × Bool)) (pc pc' : Nat) (rest : List Value), (∀ q ∈ specs, i + q.1 < L) → zlChk pc specs = some pc' →
    W p (zLn O) e room_1 s m #[Value.ref b] below meth c H locs nc ns Q (F0 m pc' ls (((zlArgs xs i specs).map (zWv O)).reverse ++ rest)) → W p (zLn O) e room_1 s m #[Value.ref b] below meth c H locs nc ns Q (F0 m pc ls rest) := by
  intro specs
  induction specs with
  | nil => intro pc pc' rest hq h g; cases h; exact g
  | cons q r ih =>
    intro pc pc' rest hq h g
    obtain ⟨k, fl⟩ := q
    unfold zlChk at h
    split at h
    next d =>
      obtain ⟨d0, d1, d3, d4, d5⟩ := d
      have d0 := zqT_d d0
      have d1 := zqT_d d1
      have d3 := zqT_d d3
      have d4 := zqT_d d4
      have d5 := zqT_d d5
      refine zl_arg X hS hl j0 j4 hj0 hj4 d0 d1 d3 d4 d5 rfl (hq (k, fl) List.mem_cons_self) ?_
      have e1 : ((zlArgs xs i ((k, fl) :: r)).map (zWv O)).reverse ++ rest = ((zlArgs xs i r).map (zWv O)).reverse ++ (.int (zi (zlArg xs i (k, fl))) :: rest) := by
        unfold zlArgs
        rw [List.map_cons, List.map_cons, List.reverse_cons, List.append_assoc]
        rfl
      rw [e1] at g
      obtain ⟨hx, hb, -⟩ := X
      split at h
      next hfl =>
        subst hfl
        split at h
        next d =>
          obtain ⟨d6, d9, d10, d13⟩ := d
          have d6 := zqT_d d6
          have d9 := zqT_d d9
          have d10 := zqT_d d10
          have d13 := zqT_d d13
          have g2 := ih (pc + 14) pc' _ (fun q hq2 => hq q (List.mem_cons_of_mem _ hq2)) h g
          refine lv_if_eq (tgt := pc + 13) hx hb d6 (by omega) (fun hz => ?_) (fun hz => ?_)
          · refine lv_iconst (v := 0) hx hb d13 rfl ?_
            have : zi (zlArg xs i (k, true)) = 0 := by unfold zlArg; rw [if_pos rfl, if_pos hz]; rfl
            rw [this] at g2
            exact g2
          · refine lv_iconst (v := 1) hx hb d9 rfl ?_
            refine lv_goto (tgt := pc + 14) hx hb d10 (by omega) ?_
            have : zi (zlArg xs i (k, true)) = 1 := by unfold zlArg; rw [if_pos rfl, if_neg hz]; rfl
            rw [this] at g2
            exact g2
        next => cases h
      next hfl =>
        have g2 := ih (pc + 6) pc' _ (fun q hq2 => hq q (List.mem_cons_of_mem _ hq2)) h g
        have : zi (zlArg xs i (k, fl)) = xs (i + k) := by unfold zlArg; rw [if_neg hfl]; exact zi_of _
        rw [this] at g2
        exact g2
    next => cases h
theorem zl_call (X : zlX p s m meth c O b L xs) {k f ci na : Nat} {o : Int} {as : List zV} {K : Option zV → zMem → Prop} (hpm : zpmF zpm_Law k = some (0, f, ci, na)) (hna : as.length = na) (hd : decode code pc = .ok (.invokevirtual k, 3)) (hob : zxObj (zS O) o ci = true) (has : ∀ v ∈ as, zok v)
    (hR : (zFn f).2.2.2.2.1 + 1 ≤ 10 ∧ 8 + ((zFn f).2.2.1 + 11) + (zFn f).2.2.2.2.2 ≤ 404) (hH : zlH s O M H locs) (hsz : ls.size = 7) (hcat : (rest.map fun v => v.category).sum ≤ 8) (hnc : nc ≤ 601024 ∧ ns ≤ 7293034)
    (h : zR O (zFn f) ((2, o) :: as) M K) (kk : ∀ v u, K v u → (∀ w, v = some w → zok w) → ∀ H' locs', zlH s O u H' locs' → W p (zLn O) e room_1 s m #[Value.ref b] below meth c H' locs' nc ns Q (F0 m (pc + 3) ls ((v.map (zWv O)).toList ++ rest))) :
    W p (zLn O) e room_1 s m #[Value.ref b] below meth c H locs nc ns Q (F0 m pc ls ((as.map (zWv O)).reverse ++ zWv O (2, o) :: rest)) := by
  obtain ⟨hx, hb, hml, hret, hown, hts, hK, hN, hX, hbl, hB, hb0, hO, h0, hL⟩ := X
  have hz2 := hH.size h0
  obtain ⟨hP, hS, hM⟩ := hH
  obtain ⟨ho0, fks, hs⟩ := zxObj_ok hob
  obtain ⟨⟨hcode, hini, hd1, hd2, hd3⟩, ⟨T, N, hc⟩, hlk, hin, hsel⟩ := (zEvOk_Law (zFn 0)).2.1 k f ci na hpm
  have hMet := h (fun v hv => by
    rcases List.mem_cons.mp hv with rfl | hv
    · show (-2 : Int) ≤ o; omega
    · exact has v hv) hM H.size hz2
  have hcode : Jvm.Cond.code (zFn f).1 (zFn f).2.1 (zFn f).2.2.1 (zFn f).2.2.2.1 ∈ zWS := hcode
  have hlk : Jvm.Cond.methodLink "ToldNetLaw" k (zFn f).1 ∈ zWS := hlk
  have hin : Jvm.Cond.instanceMethod (zFn f).1 ∈ zWS := hin
  have hsel : Jvm.Cond.selects (zFn f).1.cls (zFn f).1 (zFn f).1 ∈ zWS := hsel
  have hini : Jvm.Cond.initialized (zFn f).1.cls ∈ zWS := hini
  have hc : zCl[ci]? = some ((zFn f).1.cls, T, N) := hc
  have hd1 : (zFn f).1.cls ≠ "java/lang/invoke/MethodHandle" := hd1
  have hd2 : (zFn f).1.cls ≠ "java/lang/invoke/VarHandle" := hd2
  have hd3 : (parseMethodDescriptor (zFn f).1.desc).map (fun d => d.parameters.length) = some na := hd3
  generalize zFn f = f at hcode hini hd1 hd2 hd3 hc hlk hin hsel hR hMet
  have hG : GoodIn zWS (wsV "ToldNetLaw" k f.1.cls f.1 (zWs f)) := by
    intro w hw
    have hw' : w ∈ zWS := by
      rcases List.mem_append.mp hw with h1 | h1
      · simp only [List.mem_cons, List.not_mem_nil, or_false] at h1
        rcases h1 with rfl | rfl | rfl | rfl
        · exact hlk
        · exact hin
        · exact hsel
        · exact hini
      · exact (zGood f hcode w h1).1
    exact ⟨hw', good_of_word (List.mem_filter.mp hw').2⟩
  have cw := cwV (R := room_1) (rm := zRm f) (mc := 0) (ms := 0) (ws' := zWS) na hts hG rfl rfl rfl ⟨rfl, hd1, hd2, hd3⟩ hR
  have he := zWorld_at (M := M) hs
  obtain ⟨rC, hrC, cell, q1, q2, q3, q4⟩ := hP _ _ he
  have hrC : (zcl O)[ci]? = some rC := hrC
  rw [hO.1, hc] at hrC
  cases hrC
  have hcls : s.vm.findClass f.1.cls = some cell.cls := by rw [q2]; exact (hK.1 ci _ (by rw [hO.1]; exact hc)).2.1
  have hPV : PreV s H f.1.cls (zB O + o.toNat) (zPc O M H.size ((2, o) :: as)) (as.map (zWv O)) := by
    refine ⟨zPc_blind O M H.size _, ⟨cell, q1, by rw [q3]; rfl, hcls⟩, fun U hU hW => ?_⟩
    have := zPc_at (as := (2, o) :: as) hP hK hN hU hW
    rw [List.map_cons, zWv_nn O ho0] at this
    exact this
  rw [zWv_nn O ho0]
  have hA : ∀ q, zA O H.size q → zlA s q := fun q hq => hq.elim (fun z => by unfold zlA; omega) (fun z => by unfold zlA; have := hS.1; omega)
  have hr := va_runV (As := as.map (zWv O)) (rest := rest) (locs := locs) (nL := 7) (slots := ns) (cells := nc) (meth := meth) (p := p) (e := e) (below := below) (g := F0 m pc ls ((as.map (zWv O)).reverse ++ .ref (zB O + o.toNat) :: rest)) ⟨hx, hb, hml, hown, hts⟩ hMet cw hPV rfl (by rw [List.length_map]; exact hna) hsz rfl (lv_room hcat) hd ⟨hnc.1, hnc.2⟩
  intro T hT XT
  obtain ⟨v, st₀, t, T', Lc, g0, X', hLc, e1, e2, ⟨⟨r, u, hv, hok, hMu, hKu, hPu⟩, hz, hk⟩, st⟩ := hr T hT XT
  cases hv
  rw [g0] at hz hk
  have hS' : va_S (zlA s) s.heap T'.heap (locs ++ Lc) := ⟨Nat.le_trans hS.1 (by rw [e1]; exact hz), fun q h1 h2 => by rw [e1, hk q (Nat.lt_of_lt_of_le h1 hS.1) (fun z => h2 (hA q z))]; exact hS.2.1 q h1 h2, fun q hq => by
      rcases List.mem_append.mp hq with h | h
      · exact hS.2.2 q h
      · exact hA _ (hLc q h)⟩
  obtain ⟨t2, a1, b1⟩ := kk r u hKu hok T'.heap (locs ++ Lc) ⟨by rw [e1]; exact hPu, hS', hMu⟩ T' rfl X'
  exact ⟨t2, st t2 a1, b1⟩
end ZL
