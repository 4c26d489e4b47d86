/-! ===== String's own methods: contracts over the words' texts ===== -/
def zsPc (adK adV : Nat → Nat) (A : Nat → Prop) (args : List Value) : Array Value → State → Prop := va_Pc args (fun U => zStr adK adV A U U.heap)
def zsQ (r : Option Value) : Array Value → State → Outcome → State → Prop := fun _ st oc t => oc = .returned r ∧ t.heap = st.heap
def zsM (l : Launch) (adK adV : Nat → Nat) (A : Nat → Prop) (f : zMR) (args : List Value) (r : Option Value) : Prop := Met l f.1 (zWs f) (zRm f) (zsPc adK adV A args) (zsQ r) 0 0 (fun _ => False)
def zsX (p : Program) (s : State) (m : MethodId) (args : Array Value) (meth : Method) (c : Code) (f : zMR) (adK adV : Nat → Nat) (A : Nat → Prop) : Prop :=
  p.tables.exec = Jvm.exec ∧ c.code = f.2.1 ∧ c.maxLocals = f.2.2.1 ∧ meth.sig.returnType = f.2.2.2.1 ∧ s.vm.findClass f.1.cls = some m.cls ∧ (∀ w ∈ zWS, w.before args s = true) ∧ zStr adK adV A s s.heap ∧ meth.locks = false
abbrev zsW (p : Program) (l : Launch) (e : Env) (R : Room) (s : State) (m : MethodId) (args : Array Value) (below : List Frame) (meth : Method) (c : Code) (r : Option Value) (g : JFrame) : Prop := W p l e R s m args below meth c s.heap [] 0 0 (MQ below (zsQ r) args s 0 0 (fun _ => False)) g
theorem zsM.of {l : Launch} {adK adV : Nat → Nat} {A : Nat → Prop} {f : zMR} (hpl : plainName f.1.cls = true) {args : List Value} (hn : (lg_sl args).length ≤ f.2.2.1) {r : Option Value}
    (h : ∀ (p : Program) (e : Env) (s : State) (m : MethodId) (below : List Frame) (meth : Method) (c : Code) (ls : Array Slot), zsX p s m args.toArray meth c f adK adV A → lv_has ls f.2.2.1 (lv_args 0 args) → zsW p l e (zRm f) s m args.toArray below meth c r (F0 m 0 ls [])) : zsM l adK adV A f args r := by
  refine Met.ofW (cc := f.2.1) (maxL := f.2.2.1) (ret := f.2.2.2.1) hpl rfl ?_
  intro p e s m args' below meth c s₁ B hml hv
  obtain ⟨rfl, hs⟩ := hv
  have hts : ∀ w ∈ zWs f, w.before args.toArray s = true := atoms_spec (ws := zWs f) B.pre
  rw [lg_entry_eq]
  exact h p e s m below meth c _ ⟨B.exec, B.bytes, hml, B.returns, findClass_of_methodNamed B.named, fun w hw => hts w (List.mem_cons_of_mem _ hw), hs, B.notSynchronized⟩ (lv_entry args (n := f.2.2.1) hn)
theorem zsPc_blind (adK adV : Nat → Nat) (A : Nat → Prop) (args : List Value) : FrameBlind (zsPc adK adV A args) := by
  intro a U g mk h
  exact ⟨h.1, h.2.to (U := U) (Vm.Alike.refl _) (fun _ _ _ => rfl) (fun _ z => z)⟩
theorem zscall {p : Program} {l : Launch} {e : Env} {R : Room} {s : State} {m : MethodId} {args : Array Value} {below : List Frame} {meth : Method} {c : Code} {Q : State → Prop} {H : Heap} {locs : List Loc} {nc ns pc : Nat} {ls : Array Slot} {g0 rest : List Value} {ar : Array Value} {r : Option Value}
    (hr : va_Run p l e R s m args below meth c H locs nc ns 0 0 (F0 m pc ls g0) rest (zsQ r ar) (fun _ => False)) (kk : W p l e R s m args below meth c H locs nc ns Q (F0 m (pc + 3) ls (r.toList ++ rest))) : W p l e R s m args below meth c H locs nc ns Q (F0 m pc ls g0) := by
  intro T hT X
  obtain ⟨v, st₀, t, T', L, h0, X', hL, e1, e2, ⟨hv, hh⟩, st⟩ := hr T hT X
  cases hv
  have hL0 : L = [] := List.eq_nil_iff_forall_not_mem.mpr (fun q hq => hL q hq)
  subst hL0
  rw [List.append_nil] at X'
  obtain ⟨t2, a1, b1⟩ := kk T' (by rw [e1, hh, h0]) X'
  exact ⟨t2, st t2 a1, b1⟩
theorem zsS {p : Program} {l : Launch} {e : Env} {R : Room} {s : State} {m : MethodId} {args : Array Value} {below : List Frame} {meth : Method} {c : Code} {Q : State → Prop} {H : Heap} {locs : List Loc} {nc ns pc k nL : Nat} {cc : ByteArray} {own : String} {ls : Array Slot} {as rest : List Value} {r : Option Value} {f : zMR} {adK adV : Nat → Nat} {A : Nat → Prop}
    (hM : zsM l adK adV A f as r) (na : Nat) (hlk : Jvm.Cond.methodLink own k f.1 ∈ zWS) (hst : Jvm.Cond.static f.1 ∈ zWS) (hin : Jvm.Cond.initialized f.1.cls ∈ zWS) (hcd : Jvm.Cond.code f.1 f.2.1 f.2.2.1 f.2.2.2.1 ∈ zWS) (hd : f.1.cls ≠ "java/lang/invoke/MethodHandle" ∧ f.1.cls ≠ "java/lang/invoke/VarHandle" ∧ (parseMethodDescriptor f.1.desc).map (fun d => d.parameters.length) = some na) (hna : as.length = na)
    (hx : p.tables.exec = Jvm.exec) (hb : c.code = cc) (hml : c.maxLocals = nL) (hown : s.vm.findClass own = some m.cls) (hts : ∀ w ∈ zWS, w.before args s = true) (hz : ∀ U : State, U.heap = H → s.WarmedH U.vm → zStr adK adV A U U.heap) (hsize : ls.size = nL) (hcat : (rest.map fun v => v.category).sum ≤ 8)
    (hR : f.2.2.2.2.1 + 1 ≤ R.frames ∧ 8 + (f.2.2.1 + 11) + f.2.2.2.2.2 ≤ R.locals) (hnc : nc ≤ R.cells ∧ ns ≤ R.slots) (hdg : decode cc pc = .ok (.invokestatic k, 3)) (kk : W p l e R s m args below meth c H locs nc ns Q (F0 m (pc + 3) ls (r.toList ++ rest))) : W p l e R s m args below meth c H locs nc ns Q (F0 m pc ls (as.reverse ++ rest)) := by
  have hG : GoodIn zWS (va_wsS own k f.1 (zWs f)) := by
    intro w hw
    have hw' : w ∈ zWS := by
      rcases List.mem_append.mp hw with h1 | h1
      · simp only [List.mem_cons, List.not_mem_nil, or_false] at h1
        rcases h1 with rfl | rfl | rfl
        · exact hlk
        · exact hst
        · exact hin
      · exact (zGood f hcd w h1).1
    exact ⟨hw', good_of_word (List.mem_filter.mp hw').2⟩
  have cw := va_cwS (R := R) (rm := zRm f) (mc := 0) (ms := 0) (ws' := zWS) na hts hG rfl rfl rfl hd hR
  have hPS : PreS s H (zsPc adK adV A as) as := ⟨zsPc_blind adK adV A as, fun U hU hW => ⟨rfl, hz U hU hW⟩⟩
  exact zscall (va_runS (As := as) (rest := rest) ⟨hx, hb, hml, hown, hts⟩ hM cw hPS rfl hna hsize rfl (lv_room hcat) hdg ⟨hnc.1, hnc.2⟩) kk
theorem zsV {p : Program} {l : Launch} {e : Env} {R : Room} {s : State} {m : MethodId} {args : Array Value} {below : List Frame} {meth : Method} {c : Code} {Q : State → Prop} {pc k nL i : Nat} {cc : ByteArray} {own : String} {ls : Array Slot} {as rest : List Value} {r : Option Value} {f : zMR} {adK adV : Nat → Nat} {A : Nat → Prop} (hi : i < 7)
    (hM : zsM l adK adV A f (.ref (adK i) :: as) r) (na : Nat) (hlk : Jvm.Cond.methodLink own k f.1 ∈ zWS) (hst : Jvm.Cond.instanceMethod f.1 ∈ zWS) (hse : Jvm.Cond.selects f.1.cls f.1 f.1 ∈ zWS) (hin : Jvm.Cond.initialized f.1.cls ∈ zWS) (hcd : Jvm.Cond.code f.1 f.2.1 f.2.2.1 f.2.2.2.1 ∈ zWS) (hd : f.1.cls ≠ "java/lang/invoke/MethodHandle" ∧ f.1.cls ≠ "java/lang/invoke/VarHandle" ∧ (parseMethodDescriptor f.1.desc).map (fun d => d.parameters.length) = some na) (hna : as.length = na) (hstr : f.1.cls = "java/lang/String")
    (hx : p.tables.exec = Jvm.exec) (hb : c.code = cc) (hml : c.maxLocals = nL) (hown : s.vm.findClass own = some m.cls) (hts : ∀ w ∈ zWS, w.before args s = true) (hz : zStr adK adV A s s.heap) (hsize : ls.size = nL) (hcat : (rest.map fun v => v.category).sum ≤ 8)
    (hR : f.2.2.2.2.1 + 1 ≤ R.frames ∧ 8 + (f.2.2.1 + 11) + f.2.2.2.2.2 ≤ R.locals) (hdg : decode cc pc = .ok (.invokevirtual k, 3)) (kk : W p l e R s m args below meth c s.heap [] 0 0 Q (F0 m (pc + 3) ls (r.toList ++ rest))) : W p l e R s m args below meth c s.heap [] 0 0 Q (F0 m pc ls (as.reverse ++ .ref (adK i) :: rest)) := by
  have hG : GoodIn zWS (wsV own k f.1.cls f.1 (zWs f)) := by
    intro w hw
    have hw' : w ∈ zWS := by
      rcases List.mem_append.mp hw with h1 | h1
      · simp only [List.mem_cons, List.not_mem_nil, or_false] at h1
        rcases h1 with rfl | rfl | rfl | rfl
        · exact hlk
        · exact hst
        · exact hse
        · exact hin
      · exact (zGood f hcd w h1).1
    exact ⟨hw', good_of_word (List.mem_filter.mp hw').2⟩
  have cw := cwV (R := R) (rm := zRm f) (mc := 0) (ms := 0) (ws' := zWS) na hts hG rfl rfl rfl ⟨rfl, hd.1, hd.2.1, hd.2.2⟩ hR
  obtain ⟨cell, g1, g2, g3⟩ := vk_recv (locs := []) hz.1 hi va_S.rf
  have hPV : PreV s s.heap f.1.cls (adK i) (zsPc adK adV A (.ref (adK i) :: as)) as := ⟨zsPc_blind adK adV A _, ⟨cell, g1, g2, by rw [hstr]; exact g3⟩, fun U hU hW => ⟨rfl, by show zStr adK adV A U U.heap; rw [hU]; exact hz.to hW.alike (fun _ _ _ => rfl) (fun _ z => z)⟩⟩
  exact zscall (va_runV (As := as) (rest := rest) ⟨hx, hb, hml, hown, hts⟩ hM cw hPV rfl hna hsize rfl (lv_room hcat) hdg ⟨Nat.zero_le _, Nat.zero_le _⟩) kk
theorem zs_coder {l : Launch} {adK adV : Nat → Nat} {A : Nat → Prop} {i : Nat} (hi : i < 7) : zsM l adK adV A J_coder [.ref (adK i)] (some (.int 0)) := by
  refine zsM.of rfl (Nat.le_of_ble_eq_true rfl) (fun p e s m below meth c ls X hl => ?_)
  obtain ⟨hx, hb, hml, hret, hown, hts, hz, hlocks⟩ := X
  refine va_gets hx hb hz.2.1 va_S.rf hown (hts _ jf_compact) (fun _ h => h) (by decide +kernel) ?_
  refine lv_if_eq (off := 10) (tgt := 13) hx hb (by decide +kernel) rfl (fun q => absurd q (by decide)) (fun _ => ?_)
  refine lv_aload_n (k := 0) (i := 0) hx hb (by decide +kernel) rfl (lv_at hl 0 rfl) ?_
  refine vk_getf hx hb (hz.1.1 i hi).2.1 va_S.rf hown (hts _ jf_coder) (fun _ h => h) (by decide +kernel) ?_
  refine lv_goto (off := 4) (tgt := 14) hx hb (by decide +kernel) rfl ?_
  exact W.zret (v := 0) (ty := .byte) hx hb hret (by decide) (fun t ht hW => ⟨rfl, ht⟩) (fun _ h => by cases h) (by decide +kernel)
theorem zs_latin {l : Launch} {adK adV : Nat → Nat} {A : Nat → Prop} {i : Nat} (hi : i < 7) : zsM l adK adV A J_latin [.ref (adK i)] (some (.int 1)) := by
  refine zsM.of rfl (Nat.le_of_ble_eq_true rfl) (fun p e s m below meth c ls X hl => ?_)
  obtain ⟨hx, hb, hml, hret, hown, hts, hz, hlocks⟩ := X
  refine va_gets hx hb hz.2.1 va_S.rf hown (hts _ jf_compact) (fun _ h => h) (by decide +kernel) ?_
  refine lv_if_eq (off := 14) (tgt := 17) hx hb (by decide +kernel) rfl (fun q => absurd q (by decide)) (fun _ => ?_)
  refine lv_aload_n (k := 0) (i := 0) hx hb (by decide +kernel) rfl (lv_at hl 0 rfl) ?_
  refine vk_getf hx hb (hz.1.1 i hi).2.1 va_S.rf hown (hts _ jf_coder) (fun _ h => h) (by decide +kernel) ?_
  refine lv_if_ne (off := 7) (tgt := 17) hx hb (by decide +kernel) rfl (fun q => absurd rfl q) (fun _ => ?_)
  refine lv_iconst (n := 1) (v := 1) hx hb (by decide +kernel) rfl ?_
  refine lv_goto (off := 4) (tgt := 18) hx hb (by decide +kernel) rfl ?_
  exact W.zret (v := 1) (ty := .boolean) hx hb hret (by decide) (fun t ht hW => ⟨rfl, ht⟩) (fun _ h => by cases h) (by decide +kernel)
def zsN (i : Nat) : Int32 := Int32.ofNat (zsL.getD i 0)
theorem zsN_sh : ∀ i, i < 7 → zsN i >>> ((0 : Int32) &&& 31) = zsN i := by decide
theorem zs_length {l : Launch} {adK adV : Nat → Nat} {A : Nat → Prop} {i : Nat} (hi : i < 7) : zsM l adK adV A J_length [.ref (adK i)] (some (.int (zsN i))) := by
  refine zsM.of rfl (Nat.le_of_ble_eq_true rfl) (fun p e s m below meth c ls X hl => ?_)
  obtain ⟨hx, hb, hml, hret, hown, hts, hz, hlocks⟩ := X
  refine lv_aload_n (k := 0) (i := 0) hx hb (by decide +kernel) rfl (lv_at hl 0 rfl) ?_
  refine vk_getf hx hb (hz.1.1 i hi).2.2.1 va_S.rf hown (hts _ jf_value) (fun _ h => h) (by decide +kernel) ?_
  refine va_tlen (v := zsN i) hx hb (hz.1.1 i hi).2.2.2 va_S.rf rfl (by decide +kernel) ?_
  refine lv_aload_n (k := 0) (i := 0) hx hb (by decide +kernel) rfl (lv_at hl 0 rfl) ?_
  refine zsV (as := []) hi (zs_coder hi) 0 jl_coder jm_coder js_coder ji_coder jc_coder (by decide +kernel) rfl rfl hx hb hml hown hts hz hl.1 (Nat.le_of_ble_eq_true rfl) (by decide) (by decide +kernel) ?_
  refine lv_ishr hx hb (by decide +kernel) ?_
  rw [zsN_sh i hi]
  exact W.iret (v := zsN i) hx hb hret (fun t ht hW => ⟨rfl, ht⟩) (fun _ h => by cases h) (by decide +kernel)
theorem zs_pre {l : Launch} {adK adV : Nat → Nat} {A : Nat → Prop} {k n : Int32} {w : Value} (h0 : ¬ k < 0) (h1 : k < n) (hw : w = .null ∨ ∃ t, w = .ref t) : zsM l adK adV A J_pre [.int k, .int n, w] (some (.int k)) := by
  have hl3 : (lg_sl [.int k, .int n, w]).length ≤ J_pre.2.2.1 := by
    rcases hw with rfl | ⟨t, rfl⟩ <;> exact Nat.le_of_ble_eq_true rfl
  have hl0 : lv_args 0 [.int k, .int n, w] = [(0, .int k), (1, .int n), (2, w)] := by
    rcases hw with rfl | ⟨t, rfl⟩ <;> rfl
  refine zsM.of rfl hl3 (fun p e s m below meth c ls X hl => ?_)
  rw [hl0] at hl
  obtain ⟨hx, hb, hml, hret, hown, hts, hz, hlocks⟩ := X
  refine lv_iload_n (k := 0) (i := 0) hx hb (by decide +kernel) rfl (lv_at hl 0 rfl) ?_
  refine lv_if_lt (off := 8) (tgt := 9) hx hb (by decide +kernel) rfl (fun q => absurd q h0) (fun _ => ?_)
  refine lv_iload_n (k := 0) (i := 0) hx hb (by decide +kernel) rfl (lv_at hl 0 rfl) ?_
  refine lv_iload_n (k := 1) (i := 1) hx hb (by decide +kernel) rfl (lv_at hl 1 rfl) ?_
  refine lv_icmp_lt (off := 10) (tgt := 16) hx hb (by decide +kernel) rfl (fun _ => ?_) (fun q => absurd h1 q)
  refine lv_iload_n (k := 0) (i := 0) hx hb (by decide +kernel) rfl (lv_at hl 0 rfl) ?_
  exact W.iret (v := k) hx hb hret (fun t ht hW => ⟨rfl, ht⟩) (fun _ h => by cases h) (by decide +kernel)
theorem zs_check {l : Launch} {adK adV : Nat → Nat} {A : Nat → Prop} {k n : Int32} (h0 : ¬ k < 0) (h1 : k < n) : zsM l adK adV A J_check [.int k, .int n] none := by
  refine zsM.of rfl (Nat.le_of_ble_eq_true rfl) (fun p e s m below meth c ls X hl => ?_)
  obtain ⟨hx, hb, hml, hret, hown, hts, hz, hlocks⟩ := X
  refine lv_iload_n (k := 0) (i := 0) hx hb (by decide +kernel) rfl (lv_at hl 0 rfl) ?_
  refine lv_iload_n (k := 1) (i := 1) hx hb (by decide +kernel) rfl (lv_at hl 1 rfl) ?_
  have fin : ∀ w : Value, (w = .null ∨ ∃ t, w = .ref t) → zsW p l e (zRm J_check) s m ([.int k, .int n] : List Value).toArray below meth c none (F0 m 5 ls [w, .int n, .int k]) := by
    intro w hw
    refine zsS (as := [.int k, .int n, w]) (rest := []) (zs_pre h0 h1 hw) 3 jl_pre js_pre ji_pre jc_pre (by decide +kernel) rfl hx hb hml hown hts (fun U hU hW => by rw [hU]; exact hz.to hW.alike (fun _ _ _ => rfl) (fun _ z => z)) hl.1 (by decide) (by decide) ⟨Nat.zero_le _, Nat.zero_le _⟩ (by decide +kernel) ?_
    refine lv_pop hx hb (by decide +kernel) rfl ?_
    exact W.vret hx hb hret (fun t ht hW => ⟨rfl, ht⟩) (fun _ h => by cases h) (by decide +kernel)
  rcases hz.2.2 with h | ⟨t, h⟩
  · exact va_gets hx hb h va_S.rf hown (hts _ jf_sioobe) (fun _ h => h) (by decide +kernel) (fin _ (Or.inl rfl))
  · exact va_gets hx hb h va_S.rf hown (hts _ jf_sioobe) (fun _ h => h) (by decide +kernel) (fin _ (Or.inr ⟨_, rfl⟩))
def zsC (i j : Nat) : Int32 := (zsB.getD i []).getD j 0
theorem zsC_ok : ∀ i, i < 7 → ∀ j, j < zsL.getD i 0 → (zsC i j &&& 255 = zsC i j ∧ ((zsC i j).toUInt32 % 65536).toInt32 = zsC i j ∧ narrow .char (.int (zsC i j)) = .int (zsC i j) ∧ ¬ Int32.ofNat j < 0 ∧ Int32.ofNat j < zsN i ∧ (Int32.ofNat j).toNatClampNeg = j) := by decide
theorem zs_lchar {l : Launch} {adK adV : Nat → Nat} {A : Nat → Prop} {i j : Nat} (hi : i < 7) (hj : j < zsL.getD i 0) : zsM l adK adV A J_lchar [.ref (adV i), .int (Int32.ofNat j)] (some (.int (zsC i j))) := by
  obtain ⟨e1, e2, e3, e4, e5, e6⟩ := zsC_ok i hi j hj
  refine zsM.of rfl (Nat.le_of_ble_eq_true rfl) (fun p e s m below meth c ls X hl => ?_)
  obtain ⟨hx, hb, hml, hret, hown, hts, hz, hlocks⟩ := X
  refine lv_iload_n (k := 1) (i := 1) hx hb (by decide +kernel) rfl (lv_at hl 1 rfl) ?_
  refine lv_aload_n (k := 0) (i := 0) hx hb (by decide +kernel) rfl (lv_at hl 0 rfl) ?_
  refine va_tlen (v := zsN i) hx hb (hz.1.1 i hi).2.2.2 va_S.rf rfl (by decide +kernel) ?_
  refine zsS (as := [.int (Int32.ofNat j), .int (zsN i)]) (rest := []) (zs_check e4 e5) 2 jl_check js_check ji_check jc_check (by decide +kernel) rfl hx hb hml hown hts (fun U hU hW => by rw [hU]; exact hz.to hW.alike (fun _ _ _ => rfl) (fun _ z => z)) hl.1 (by decide) (by decide) ⟨Nat.zero_le _, Nat.zero_le _⟩ (by decide +kernel) ?_
  refine lv_aload_n (k := 0) (i := 0) hx hb (by decide +kernel) rfl (lv_at hl 0 rfl) ?_
  refine lv_iload_n (k := 1) (i := 1) hx hb (by decide +kernel) rfl (lv_at hl 1 rfl) ?_
  refine va_tb (v := .int (zsC i j)) hx hb (hz.1.1 i hi).2.2.2 va_S.rf (fun q => q.elim e4 (by rw [e6]; omega)) (by rw [e6]; rfl) (by decide +kernel) ?_
  refine lv_sipush (n := 255) (v := 255) hx hb (by decide +kernel) rfl ?_
  refine lv_iand hx hb (by decide +kernel) ?_
  rw [e1]
  refine lv_i2c (v := zsC i j) hx hb (by decide +kernel) e2 ?_
  exact W.zret (v := zsC i j) (ty := .char) hx hb hret e3 (fun t ht hW => ⟨rfl, ht⟩) (fun _ h => by cases h) (by decide +kernel)
theorem zs_char {l : Launch} {adK adV : Nat → Nat} {A : Nat → Prop} {i j : Nat} (hi : i < 7) (hj : j < zsL.getD i 0) : zsM l adK adV A J_char [.ref (adK i), .int (Int32.ofNat j)] (some (.int (zsC i j))) := by
  obtain ⟨e1, e2, e3, e4, e5, e6⟩ := zsC_ok i hi j hj
  refine zsM.of rfl (Nat.le_of_ble_eq_true rfl) (fun p e s m below meth c ls X hl => ?_)
  obtain ⟨hx, hb, hml, hret, hown, hts, hz, hlocks⟩ := X
  refine lv_aload_n (k := 0) (i := 0) hx hb (by decide +kernel) rfl (lv_at hl 0 rfl) ?_
  refine zsV (as := []) hi (zs_latin hi) 0 jl_latin jm_latin js_latin ji_latin jc_latin (by decide +kernel) rfl rfl hx hb hml hown hts hz hl.1 (Nat.le_of_ble_eq_true rfl) (by decide) (by decide +kernel) ?_
  refine lv_if_eq (off := 12) (tgt := 16) hx hb (by decide +kernel) rfl (fun q => absurd q (by decide)) (fun _ => ?_)
  refine lv_aload_n (k := 0) (i := 0) hx hb (by decide +kernel) rfl (lv_at hl 0 rfl) ?_
  refine vk_getf hx hb (hz.1.1 i hi).2.2.1 va_S.rf hown (hts _ jf_value) (fun _ h => h) (by decide +kernel) ?_
  refine lv_iload_n (k := 1) (i := 1) hx hb (by decide +kernel) rfl (lv_at hl 1 rfl) ?_
  refine zsS (as := [.ref (adV i), .int (Int32.ofNat j)]) (rest := []) (zs_lchar hi hj) 2 jl_lchar js_lchar ji_lchar jc_lchar (by decide +kernel) rfl hx hb hml hown hts (fun U hU hW => by rw [hU]; exact hz.to hW.alike (fun _ _ _ => rfl) (fun _ z => z)) hl.1 (by decide) (by decide) ⟨Nat.zero_le _, Nat.zero_le _⟩ (by decide +kernel) ?_
  exact W.zret (v := zsC i j) (ty := .char) hx hb hret e3 (fun t ht hW => ⟨rfl, ht⟩) (fun _ h => by cases h) (by decide +kernel)
/-- what spell has behind j letters -/
def zsP (i : Nat) : Nat → Int64
  | 0 => 0
  | j + 1 => zsP i j * zl 27 + (zsC i j).toInt64 - zl 97 + 1
theorem zsP_ok : ∀ i, i < 7 → zsP i (zsL.getD i 0) = zl ((zkS.getD i (0, 0)).2) := by decide
theorem zsJ_ok : ∀ i, i < 7 → ∀ j, j ≤ zsL.getD i 0 → (zsN i ≤ Int32.ofNat j → j = zsL.getD i 0) ∧ Int32.ofNat j + 1 = Int32.ofNat (j + 1) := by decide
theorem zs_spell {l : Launch} {adK adV : Nat → Nat} {A : Nat → Prop} {i : Nat} (hi : i < 7) : zsM l adK adV A F_Tape_spell [.ref (adK i)] (some (.long (zl ((zkS.getD i (0, 0)).2)))) := by
  refine zsM.of rfl (Nat.le_of_ble_eq_true rfl) (fun p e s m below meth c ls X hl => ?_)
  obtain ⟨hx, hb, hml, hret, hown, hts, hz, hlocks⟩ := X
  have loop : ∀ (n j : Nat), j + n = zsL.getD i 0 → ∀ ls : Array Slot, lv_has ls 4 [(3, .int (Int32.ofNat j)), (1, .long (zsP i j)), (0, .ref (adK i))] → zsW p l e (zRm F_Tape_spell) s m ([.ref (adK i)] : List Value).toArray below meth c (some (.long (zl ((zkS.getD i (0, 0)).2)))) (F0 m 4 ls []) := by
    intro n
    induction n with
    | zero =>
      intro j hj ls hl
      have hj : j = zsL.getD i 0 := by omega
      refine lv_iload_n (k := 3) (i := 3) hx hb (by decide +kernel) rfl (lv_at hl 0 rfl) ?_
      refine lv_aload_n (k := 0) (i := 0) hx hb (by decide +kernel) rfl (lv_at hl 2 rfl) ?_
      refine zsV (as := []) hi (zs_length hi) 0 jl_length jm_length js_length ji_length jc_length (by decide +kernel) rfl rfl hx hb hml hown hts hz hl.1 (Nat.le_of_ble_eq_true rfl) (by decide) (by decide +kernel) ?_
      refine lv_icmp_ge (off := 28) (tgt := 37) hx hb (by decide +kernel) rfl (fun _ => ?_) (fun q => absurd (by rw [hj]; exact Int32.le_refl _) q)
      refine lv_lload_n (k := 1) (i := 1) hx hb (by decide +kernel) rfl (lv_at hl 1 rfl) ?_
      rw [hj, zsP_ok i hi]
      exact W.lret (v := zl ((zkS.getD i (0, 0)).2)) hx hb hret (fun t ht hW => ⟨rfl, ht⟩) (fun _ h => by cases h) (by decide +kernel)
    | succ n ih =>
      intro j hj ls hl
      obtain ⟨k1, k2⟩ := zsJ_ok i hi j (by omega)
      refine lv_iload_n (k := 3) (i := 3) hx hb (by decide +kernel) rfl (lv_at hl 0 rfl) ?_
      refine lv_aload_n (k := 0) (i := 0) hx hb (by decide +kernel) rfl (lv_at hl 2 rfl) ?_
      refine zsV (as := []) hi (zs_length hi) 0 jl_length jm_length js_length ji_length jc_length (by decide +kernel) rfl rfl hx hb hml hown hts hz hl.1 (Nat.le_of_ble_eq_true rfl) (by decide) (by decide +kernel) ?_
      refine lv_icmp_ge (off := 28) (tgt := 37) hx hb (by decide +kernel) rfl (fun q => absurd (k1 q) (by omega)) (fun _ => ?_)
      refine lv_lload_n (k := 1) (i := 1) hx hb (by decide +kernel) rfl (lv_at hl 1 rfl) ?_
      refine lv_ldc2 (v := zl 27) hx hb hown (hts _ jk_27) (by decide +kernel) ?_
      refine lv_lmul hx hb (by decide +kernel) ?_
      refine lv_aload_n (k := 0) (i := 0) hx hb (by decide +kernel) rfl (lv_at hl 2 rfl) ?_
      refine lv_iload_n (k := 3) (i := 3) hx hb (by decide +kernel) rfl (lv_at hl 0 rfl) ?_
      refine zsV (as := [.int (Int32.ofNat j)]) hi (zs_char hi (by omega)) 1 jl_char jm_char js_char ji_char jc_char (by decide +kernel) rfl rfl hx hb hml hown hts hz hl.1 (Nat.le_of_ble_eq_true rfl) (by decide) (by decide +kernel) ?_
      refine lv_i2l (v := (zsC i j).toInt64) hx hb (by decide +kernel) rfl ?_
      refine lv_ladd hx hb (by decide +kernel) ?_
      refine lv_ldc2 (v := zl 97) hx hb hown (hts _ jk_97) (by decide +kernel) ?_
      refine lv_lsub hx hb (by decide +kernel) ?_
      refine lv_lconst (n := 1) (v := 1) hx hb (by decide +kernel) rfl ?_
      refine lv_ladd hx hb (by decide +kernel) ?_
      refine lv_lstore_n (k := 1) (i := 1) (lv' := [(1, .long (zsP i (j + 1))), (3, .int (Int32.ofNat j)), (0, .ref (adK i))]) hx hb (by decide +kernel) rfl hl (by decide) rfl (fun ls1 hl1 => ?_)
      refine lv_iinc (k := 1) (n := 1) (v := Int32.ofNat (j + 1)) (lv' := [(3, .int (Int32.ofNat (j + 1))), (1, .long (zsP i (j + 1))), (0, .ref (adK i))]) hx hb (by decide +kernel) hl1 rfl (by rw [show Int32.ofInt 1 = 1 from rfl]; exact k2) (by decide) rfl (fun ls2 hl2 => ?_)
      refine lv_goto (off := -30) (tgt := 4) hx hb (by decide +kernel) rfl ?_
      exact ih (j + 1) (by omega) ls2 hl2
  refine lv_lconst (n := 0) (v := 0) hx hb (by decide +kernel) rfl ?_
  refine lv_lstore_n (k := 1) (i := 1) (lv' := [(1, .long 0), (0, .ref (adK i))]) hx hb (by decide +kernel) rfl hl (by decide) rfl (fun ls1 hl1 => ?_)
  refine lv_iconst (n := 0) (v := 0) hx hb (by decide +kernel) rfl ?_
  refine lv_istore_n (k := 3) (i := 3) (lv' := [(3, .int 0), (1, .long 0), (0, .ref (adK i))]) hx hb (by decide +kernel) rfl hl1 (by decide) rfl (fun ls2 hl2 => ?_)
  exact loop (zsL.getD i 0) 0 (by omega) ls2 hl2
