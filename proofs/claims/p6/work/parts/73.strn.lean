section
-- part 73.strn.lean.txt
/-! ===== String's own methods: names and words ===== -/
def J_coder : zMR := (⟨"java/lang/String", "coder", "()B"⟩, prog_23_method_152_code, 1, some .byte, 0, 0)
theorem jc_coder : Jvm.Cond.code J_coder.1 J_coder.2.1 J_coder.2.2.1 J_coder.2.2.2.1 ∈ zWS := zInW_mem (pl := 272) (by decide +kernel)
theorem ji_coder : Jvm.Cond.initialized J_coder.1.cls ∈ zWS := zInW_mem (pl := 162) (by decide +kernel)
theorem jm_coder : Jvm.Cond.instanceMethod J_coder.1 ∈ zWS := zInW_mem (pl := 270) (by decide +kernel)
theorem js_coder : Jvm.Cond.selects J_coder.1.cls J_coder.1 J_coder.1 ∈ zWS := zInW_mem (pl := 271) (by decide +kernel)
def J_latin : zMR := (⟨"java/lang/String", "isLatin1", "()Z"⟩, prog_23_method_154_code, 1, some .boolean, 0, 0)
theorem jc_latin : Jvm.Cond.code J_latin.1 J_latin.2.1 J_latin.2.2.1 J_latin.2.2.2.1 ∈ zWS := zInW_mem (pl := 283) (by decide +kernel)
theorem ji_latin : Jvm.Cond.initialized J_latin.1.cls ∈ zWS := zInW_mem (pl := 162) (by decide +kernel)
theorem jm_latin : Jvm.Cond.instanceMethod J_latin.1 ∈ zWS := zInW_mem (pl := 281) (by decide +kernel)
theorem js_latin : Jvm.Cond.selects J_latin.1.cls J_latin.1 J_latin.1 ∈ zWS := zInW_mem (pl := 282) (by decide +kernel)
def J_length : zMR := (⟨"java/lang/String", "length", "()I"⟩, prog_23_method_54_code, 1, some .int, 1, 20)
theorem jc_length : Jvm.Cond.code J_length.1 J_length.2.1 J_length.2.2.1 J_length.2.2.2.1 ∈ zWS := zInW_mem (pl := 268) (by decide +kernel)
theorem ji_length : Jvm.Cond.initialized J_length.1.cls ∈ zWS := zInW_mem (pl := 162) (by decide +kernel)
theorem jm_length : Jvm.Cond.instanceMethod J_length.1 ∈ zWS := zInW_mem (pl := 266) (by decide +kernel)
theorem js_length : Jvm.Cond.selects J_length.1.cls J_length.1 J_length.1 ∈ zWS := zInW_mem (pl := 267) (by decide +kernel)
def J_pre : zMR := (⟨"jdk/internal/util/Preconditions", "checkIndex", "(IILjava/util/function/BiFunction;)I"⟩, prog_32_method_11_code, 3, some .int, 0, 0)
theorem jc_pre : Jvm.Cond.code J_pre.1 J_pre.2.1 J_pre.2.2.1 J_pre.2.2.2.1 ∈ zWS := zInW_mem (pl := 294) (by decide +kernel)
theorem ji_pre : Jvm.Cond.initialized J_pre.1.cls ∈ zWS := zInW_mem (pl := 164) (by decide +kernel)
theorem js_pre : Jvm.Cond.static J_pre.1 ∈ zWS := zInW_mem (pl := 293) (by decide +kernel)
def J_check : zMR := (⟨"java/lang/String", "checkIndex", "(II)V"⟩, prog_23_method_155_code, 2, none, 1, 22)
theorem jc_check : Jvm.Cond.code J_check.1 J_check.2.1 J_check.2.2.1 J_check.2.2.2.1 ∈ zWS := zInW_mem (pl := 289) (by decide +kernel)
theorem ji_check : Jvm.Cond.initialized J_check.1.cls ∈ zWS := zInW_mem (pl := 162) (by decide +kernel)
theorem js_check : Jvm.Cond.static J_check.1 ∈ zWS := zInW_mem (pl := 288) (by decide +kernel)
def J_lchar : zMR := (⟨"java/lang/StringLatin1", "charAt", "([BI)C"⟩, prog_24_method_2_code, 2, some .char, 2, 43)
theorem jc_lchar : Jvm.Cond.code J_lchar.1 J_lchar.2.1 J_lchar.2.2.1 J_lchar.2.2.2.1 ∈ zWS := zInW_mem (pl := 286) (by decide +kernel)
theorem ji_lchar : Jvm.Cond.initialized J_lchar.1.cls ∈ zWS := zInW_mem (pl := 163) (by decide +kernel)
theorem js_lchar : Jvm.Cond.static J_lchar.1 ∈ zWS := zInW_mem (pl := 285) (by decide +kernel)
def J_char : zMR := (⟨"java/lang/String", "charAt", "(I)C"⟩, prog_23_method_56_code, 2, some .char, 3, 64)
theorem jc_char : Jvm.Cond.code J_char.1 J_char.2.1 J_char.2.2.1 J_char.2.2.2.1 ∈ zWS := zInW_mem (pl := 279) (by decide +kernel)
theorem ji_char : Jvm.Cond.initialized J_char.1.cls ∈ zWS := zInW_mem (pl := 162) (by decide +kernel)
theorem jm_char : Jvm.Cond.instanceMethod J_char.1 ∈ zWS := zInW_mem (pl := 277) (by decide +kernel)
theorem js_char : Jvm.Cond.selects J_char.1.cls J_char.1 J_char.1 ∈ zWS := zInW_mem (pl := 278) (by decide +kernel)
theorem jl_length : Jvm.Cond.methodLink "ToldNet$Tape" 60 J_length.1 ∈ zWS := zInW_mem (pl := 265) (by decide +kernel)
theorem jl_char : Jvm.Cond.methodLink "ToldNet$Tape" 68 J_char.1 ∈ zWS := zInW_mem (pl := 276) (by decide +kernel)
theorem jl_coder : Jvm.Cond.methodLink "java/lang/String" 335 J_coder.1 ∈ zWS := zInW_mem (pl := 269) (by decide +kernel)
theorem jl_latin : Jvm.Cond.methodLink "java/lang/String" 492 J_latin.1 ∈ zWS := zInW_mem (pl := 280) (by decide +kernel)
theorem jl_lchar : Jvm.Cond.methodLink "java/lang/String" 495 J_lchar.1 ∈ zWS := zInW_mem (pl := 284) (by decide +kernel)
theorem jl_check : Jvm.Cond.methodLink "java/lang/StringLatin1" 9 J_check.1 ∈ zWS := zInW_mem (pl := 287) (by decide +kernel)
theorem jl_pre : Jvm.Cond.methodLink "java/lang/String" 1059 J_pre.1 ∈ zWS := zInW_mem (pl := 292) (by decide +kernel)
theorem jf_value : Jvm.Cond.fieldLink "java/lang/String" 9 "java/lang/String" "value" "[B" ∈ zWS := zInW_mem (pl := 2558) (by decide +kernel)
theorem jf_coder : Jvm.Cond.fieldLink "java/lang/String" 15 "java/lang/String" "coder" "B" ∈ zWS := zInW_mem (pl := 2559) (by decide +kernel)
theorem jf_compact : Jvm.Cond.fieldLink "java/lang/String" 38 "java/lang/String" "COMPACT_STRINGS" "Z" ∈ zWS := zInW_mem (pl := 273) (by decide +kernel)
theorem jf_sioobe : Jvm.Cond.fieldLink "java/lang/String" 1053 "jdk/internal/util/Preconditions" "SIOOBE_FORMATTER" "Ljava/util/function/BiFunction;" ∈ zWS := zInW_mem (pl := 290) (by decide +kernel)
theorem jc_spell : Jvm.Cond.code F_Tape_spell.1 F_Tape_spell.2.1 F_Tape_spell.2.2.1 F_Tape_spell.2.2.2.1 ∈ zWS := zInW_mem (pl := 264) (by decide +kernel)
theorem ji_spell : Jvm.Cond.initialized F_Tape_spell.1.cls ∈ zWS := zInW_mem (pl := 161) (by decide +kernel)
theorem js_spell : Jvm.Cond.static F_Tape_spell.1 ∈ zWS := zInW_mem (pl := 263) (by decide +kernel)
theorem jl_spell : Jvm.Cond.methodLink "ToldNet$Tape" 44 F_Tape_spell.1 ∈ zWS := zInW_mem (pl := 262) (by decide +kernel)
theorem jk_27 : Jvm.Cond.constantLong "ToldNet$Tape" 66 (zl 27) ∈ zWS := zInW_mem (pl := 275) (by decide +kernel)
theorem jk_97 : Jvm.Cond.constantLong "ToldNet$Tape" 72 (zl 97) ∈ zWS := zInW_mem (pl := 314) (by decide +kernel)
end
section
-- part 74.strc.lean.txt
/-! ===== String's own methods: contracts over the words' texts ===== -/
def zsPc (adK adV : Nat → Nat) (A : Nat → Prop) (args : List Value) : Array Value → State → Prop := va_Pc args (fun U => zStr adK adV A U U.heap)
def zsQ (r : Option Value) : Array Value → State → Outcome → State → Prop := fun _ st oc t => oc = .returned r ∧ t.heap = st.heap
def zsM (l : Launch) (adK adV : Nat → Nat) (A : Nat → Prop) (f : zMR) (args : List Value) (r : Option Value) : Prop := Met l f.1 (zWs f) (zRm f) (zsPc adK adV A args) (zsQ r) 0 0 (fun _ => False)
def zsX (p : Program) (s : State) (m : MethodId) (args : Array Value) (meth : Method) (c : Code) (f : zMR) (adK adV : Nat → Nat) (A : Nat → Prop) : Prop :=
  p.tables.exec = Jvm.exec ∧ c.code = f.2.1 ∧ c.maxLocals = f.2.2.1 ∧ meth.sig.returnType = f.2.2.2.1 ∧ s.vm.findClass f.1.cls = some m.cls ∧ (∀ w ∈ zWS, w.before args s = true) ∧ zStr adK adV A s s.heap ∧ meth.locks = false
abbrev zsW (p : Program) (l : Launch) (e : Env) (R : Room) (s : State) (m : MethodId) (args : Array Value) (below : List Frame) (meth : Method) (c : Code) (r : Option Value) (g : JFrame) : Prop := W p l e R s m args below meth c s.heap [] 0 0 (MQ below (zsQ r) args s 0 0 (fun _ => False)) g
theorem zsM.of {l : Launch} {adK adV : Nat → Nat} {A : Nat → Prop} {f : zMR} (hpl : plainName f.1.cls = true) {args : List Value} (hn : (lg_sl args).length ≤ f.2.2.1) {r : Option Value}
    (h : ∀ (p : Program) (e : Env) (s : State) (m : MethodId) (below : List Frame) (meth : Method) (c : Code) (ls : Array Slot), zsX p s m args.toArray meth c f adK adV A → lv_has ls f.2.2.1 (lv_args 0 args) → zsW p l e (zRm f) s m args.toArray below meth c r (F0 m 0 ls [])) : zsM l adK adV A f args r := by
  refine Met.ofW (cc := f.2.1) (maxL := f.2.2.1) (ret := f.2.2.2.1) hpl rfl ?_
  intro p e s m args' below meth c s₁ B hml hv
  obtain ⟨rfl, hs⟩ := hv
  have hts : ∀ w ∈ zWs f, w.before args.toArray s = true := atoms_spec (ws := zWs f) B.pre
  rw [lg_entry_eq]
  exact h p e s m below meth c _ ⟨B.exec, B.bytes, hml, B.returns, findClass_of_methodNamed B.named, fun w hw => hts w (List.mem_cons_of_mem _ hw), hs, B.notSynchronized⟩ (lv_entry args (n := f.2.2.1) hn)
theorem zsPc_blind (adK adV : Nat → Nat) (A : Nat → Prop) (args : List Value) : FrameBlind (zsPc adK adV A args) := by
  intro a U g mk h
  exact ⟨h.1, h.2.to (U := U) (Vm.Alike.refl _) (fun _ _ _ => rfl) (fun _ z => z)⟩
theorem zscall {p : Program} {l : Launch} {e : Env} {R : Room} {s : State} {m : MethodId} {args : Array Value} {below : List Frame} {meth : Method} {c : Code} {Q : State → Prop} {H : Heap} {locs : List Loc} {nc ns pc : Nat} {ls : Array Slot} {g0 rest : List Value} {ar : Array Value} {r : Option Value}
    (hr : va_Run p l e R s m args below meth c H locs nc ns 0 0 (F0 m pc ls g0) rest (zsQ r ar) (fun _ => False)) (kk : W p l e R s m args below meth c H locs nc ns Q (F0 m (pc + 3) ls (r.toList ++ rest))) : W p l e R s m args below meth c H locs nc ns Q (F0 m pc ls g0) := by
  intro T hT X
  obtain ⟨v, st₀, t, T', L, h0, X', hL, e1, e2, ⟨hv, hh⟩, st⟩ := hr T hT X
  cases hv
  have hL0 : L = [] := List.eq_nil_iff_forall_not_mem.mpr (fun q hq => hL q hq)
  subst hL0
  rw [List.append_nil] at X'
  obtain ⟨t2, a1, b1⟩ := kk T' (by rw [e1, hh, h0]) X'
  exact ⟨t2, st t2 a1, b1⟩
theorem zsS {p : Program} {l : Launch} {e : Env} {R : Room} {s : State} {m : MethodId} {args : Array Value} {below : List Frame} {meth : Method} {c : Code} {Q : State → Prop} {H : Heap} {locs : List Loc} {nc ns pc k nL : Nat} {cc : ByteArray} {own : String} {ls : Array Slot} {as rest : List Value} {r : Option Value} {f : zMR} {adK adV : Nat → Nat} {A : Nat → Prop}
    (hM : zsM l adK adV A f as r) (na : Nat) (hlk : Jvm.Cond.methodLink own k f.1 ∈ zWS) (hst : Jvm.Cond.static f.1 ∈ zWS) (hin : Jvm.Cond.initialized f.1.cls ∈ zWS) (hcd : Jvm.Cond.code f.1 f.2.1 f.2.2.1 f.2.2.2.1 ∈ zWS) (hd : f.1.cls ≠ "java/lang/invoke/MethodHandle" ∧ f.1.cls ≠ "java/lang/invoke/VarHandle" ∧ (parseMethodDescriptor f.1.desc).map (fun d => d.parameters.length) = some na) (hna : as.length = na)
    (hx : p.tables.exec = Jvm.exec) (hb : c.code = cc) (hml : c.maxLocals = nL) (hown : s.vm.findClass own = some m.cls) (hts : ∀ w ∈ zWS, w.before args s = true) (hz : ∀ U : State, U.heap = H → s.WarmedH U.vm → zStr adK adV A U U.heap) (hsize : ls.size = nL) (hcat : (rest.map fun v => v.category).sum ≤ 8)
    (hR : f.2.2.2.2.1 + 1 ≤ R.frames ∧ 8 + (f.2.2.1 + 11) + f.2.2.2.2.2 ≤ R.locals) (hnc : nc ≤ R.cells ∧ ns ≤ R.slots) (hdg : decode cc pc = .ok (.invokestatic k, 3)) (kk : W p l e R s m args below meth c H locs nc ns Q (F0 m (pc + 3) ls (r.toList ++ rest))) : W p l e R s m args below meth c H locs nc ns Q (F0 m pc ls (as.reverse ++ rest)) := by
  have hG : GoodIn zWS (va_wsS own k f.1 (zWs f)) := by
    intro w hw
    have hw' : w ∈ zWS := by
      rcases List.mem_append.mp hw with h1 | h1
      · simp only [List.mem_cons, List.not_mem_nil, or_false] at h1
        rcases h1 with rfl | rfl | rfl
        · exact hlk
        · exact hst
        · exact hin
      · exact (zGood f hcd w h1).1
    exact ⟨hw', good_of_word (List.mem_filter.mp hw').2⟩
  have cw := va_cwS (R := R) (rm := zRm f) (mc := 0) (ms := 0) (ws' := zWS) na hts hG rfl rfl rfl hd hR
  have hPS : PreS s H (zsPc adK adV A as) as := ⟨zsPc_blind adK adV A as, fun U hU hW => ⟨rfl, hz U hU hW⟩⟩
  exact zscall (va_runS (As := as) (rest := rest) ⟨hx, hb, hml, hown, hts⟩ hM cw hPS rfl hna hsize rfl (lv_room hcat) hdg ⟨hnc.1, hnc.2⟩) kk
theorem zsV {p : Program} {l : Launch} {e : Env} {R : Room} {s : State} {m : MethodId} {args : Array Value} {below : List Frame} {meth : Method} {c : Code} {Q : State → Prop} {pc k nL i : Nat} {cc : ByteArray} {own : String} {ls : Array Slot} {as rest : List Value} {r : Option Value} {f : zMR} {adK adV : Nat → Nat} {A : Nat → Prop} (hi : i < 7)
    (hM : zsM l adK adV A f (.ref (adK i) :: as) r) (na : Nat) (hlk : Jvm.Cond.methodLink own k f.1 ∈ zWS) (hst : Jvm.Cond.instanceMethod f.1 ∈ zWS) (hse : Jvm.Cond.selects f.1.cls f.1 f.1 ∈ zWS) (hin : Jvm.Cond.initialized f.1.cls ∈ zWS) (hcd : Jvm.Cond.code f.1 f.2.1 f.2.2.1 f.2.2.2.1 ∈ zWS) (hd : f.1.cls ≠ "java/lang/invoke/MethodHandle" ∧ f.1.cls ≠ "java/lang/invoke/VarHandle" ∧ (parseMethodDescriptor f.1.desc).map (fun d => d.parameters.length) = some na) (hna : as.length = na) (hstr : f.1.cls = "java/lang/String")
    (hx : p.tables.exec = Jvm.exec) (hb : c.code = cc) (hml : c.maxLocals = nL) (hown : s.vm.findClass own = some m.cls) (hts : ∀ w ∈ zWS, w.before args s = true) (hz : zStr adK adV A s s.heap) (hsize : ls.size = nL) (hcat : (rest.map fun v => v.category).sum ≤ 8)
    (hR : f.2.2.2.2.1 + 1 ≤ R.frames ∧ 8 + (f.2.2.1 + 11) + f.2.2.2.2.2 ≤ R.locals) (hdg : decode cc pc = .ok (.invokevirtual k, 3)) (kk : W p l e R s m args below meth c s.heap [] 0 0 Q (F0 m (pc + 3) ls (r.toList ++ rest))) : W p l e R s m args below meth c s.heap [] 0 0 Q (F0 m pc ls (as.reverse ++ .ref (adK i) :: rest)) := by
  have hG : GoodIn zWS (wsV own k f.1.cls f.1 (zWs f)) := by
    intro w hw
    have hw' : w ∈ zWS := by
      rcases List.mem_append.mp hw with h1 | h1
      · simp only [List.mem_cons, List.not_mem_nil, or_false] at h1
        rcases h1 with rfl | rfl | rfl | rfl
        · exact hlk
        · exact hst
        · exact hse
        · exact hin
      · exact (zGood f hcd w h1).1
    exact ⟨hw', good_of_word (List.mem_filter.mp hw').2⟩
  have cw := cwV (R := R) (rm := zRm f) (mc := 0) (ms := 0) (ws' := zWS) na hts hG rfl rfl rfl ⟨rfl, hd.1, hd.2.1, hd.2.2⟩ hR
  obtain ⟨cell, g1, g2, g3⟩ := vk_recv (locs := []) hz.1 hi va_S.rf
  have hPV : PreV s s.heap f.1.cls (adK i) (zsPc adK adV A (.ref (adK i) :: as)) as := ⟨zsPc_blind adK adV A _, ⟨cell, g1, g2, by rw [hstr]; exact g3⟩, fun U hU hW => ⟨rfl, by show zStr adK adV A U U.heap; rw [hU]; exact hz.to hW.alike (fun _ _ _ => rfl) (fun _ z => z)⟩⟩
  exact zscall (va_runV (As := as) (rest := rest) ⟨hx, hb, hml, hown, hts⟩ hM cw hPV rfl hna hsize rfl (lv_room hcat) hdg ⟨Nat.zero_le _, Nat.zero_le _⟩) kk
theorem zs_coder {l : Launch} {adK adV : Nat → Nat} {A : Nat → Prop} {i : Nat} (hi : i < 7) : zsM l adK adV A J_coder [.ref (adK i)] (some (.int 0)) := by
  refine zsM.of rfl (Nat.le_of_ble_eq_true rfl) (fun p e s m below meth c ls X hl => ?_)
  obtain ⟨hx, hb, hml, hret, hown, hts, hz, hlocks⟩ := X
  refine va_gets hx hb hz.2.1 va_S.rf hown (hts _ jf_compact) (fun _ h => h) (by decide +kernel) ?_
  refine lv_if_eq (off := 10) (tgt := 13) hx hb (by decide +kernel) rfl (fun q => absurd q (by decide)) (fun _ => ?_)
  refine lv_aload_n (k := 0) (i := 0) hx hb (by decide +kernel) rfl (lv_at hl 0 rfl) ?_
  refine vk_getf hx hb (hz.1.1 i hi).2.1 va_S.rf hown (hts _ jf_coder) (fun _ h => h) (by decide +kernel) ?_
  refine lv_goto (off := 4) (tgt := 14) hx hb (by decide +kernel) rfl ?_
  exact W.zret (v := 0) (ty := .byte) hx hb hret (by decide) (fun t ht hW => ⟨rfl, ht⟩) (fun _ h => by cases h) (by decide +kernel)
theorem zs_latin {l : Launch} {adK adV : Nat → Nat} {A : Nat → Prop} {i : Nat} (hi : i < 7) : zsM l adK adV A J_latin [.ref (adK i)] (some (.int 1)) := by
  refine zsM.of rfl (Nat.le_of_ble_eq_true rfl) (fun p e s m below meth c ls X hl => ?_)
  obtain ⟨hx, hb, hml, hret, hown, hts, hz, hlocks⟩ := X
  refine va_gets hx hb hz.2.1 va_S.rf hown (hts _ jf_compact) (fun _ h => h) (by decide +kernel) ?_
  refine lv_if_eq (off := 14) (tgt := 17) hx hb (by decide +kernel) rfl (fun q => absurd q (by decide)) (fun _ => ?_)
  refine lv_aload_n (k := 0) (i := 0) hx hb (by decide +kernel) rfl (lv_at hl 0 rfl) ?_
  refine vk_getf hx hb (hz.1.1 i hi).2.1 va_S.rf hown (hts _ jf_coder) (fun _ h => h) (by decide +kernel) ?_
  refine lv_if_ne (off := 7) (tgt := 17) hx hb (by decide +kernel) rfl (fun q => absurd rfl q) (fun _ => ?_)
  refine lv_iconst (n := 1) (v := 1) hx hb (by decide +kernel) rfl ?_
  refine lv_goto (off := 4) (tgt := 18) hx hb (by decide +kernel) rfl ?_
  exact W.zret (v := 1) (ty := .boolean) hx hb hret (by decide) (fun t ht hW => ⟨rfl, ht⟩) (fun _ h => by cases h) (by decide +kernel)
def zsN (i : Nat) : Int32 := Int32.ofNat (zsL.getD i 0)
theorem zsN_sh : ∀ i, i < 7 → zsN i >>> ((0 : Int32) &&& 31) = zsN i := by decide
theorem zs_length {l : Launch} {adK adV : Nat → Nat} {A : Nat → Prop} {i : Nat} (hi : i < 7) : zsM l adK adV A J_length [.ref (adK i)] (some (.int (zsN i))) := by
  refine zsM.of rfl (Nat.le_of_ble_eq_true rfl) (fun p e s m below meth c ls X hl => ?_)
  obtain ⟨hx, hb, hml, hret, hown, hts, hz, hlocks⟩ := X
  refine lv_aload_n (k := 0) (i := 0) hx hb (by decide +kernel) rfl (lv_at hl 0 rfl) ?_
  refine vk_getf hx hb (hz.1.1 i hi).2.2.1 va_S.rf hown (hts _ jf_value) (fun _ h => h) (by decide +kernel) ?_
  refine va_tlen (v := zsN i) hx hb (hz.1.1 i hi).2.2.2 va_S.rf rfl (by decide +kernel) ?_
  refine lv_aload_n (k := 0) (i := 0) hx hb (by decide +kernel) rfl (lv_at hl 0 rfl) ?_
  refine zsV (as := []) hi (zs_coder hi) 0 jl_coder jm_coder js_coder ji_coder jc_coder (by decide +kernel) rfl rfl hx hb hml hown hts hz hl.1 (Nat.le_of_ble_eq_true rfl) (by decide) (by decide +kernel) ?_
  refine lv_ishr hx hb (by decide +kernel) ?_
  rw [zsN_sh i hi]
  exact W.iret (v := zsN i) hx hb hret (fun t ht hW => ⟨rfl, ht⟩) (fun _ h => by cases h) (by decide +kernel)
theorem zs_pre {l : Launch} {adK adV : Nat → Nat} {A : Nat → Prop} {k n : Int32} {w : Value} (h0 : ¬ k < 0) (h1 : k < n) (hw : w = .null ∨ ∃ t, w = .ref t) : zsM l adK adV A J_pre [.int k, .int n, w] (some (.int k)) := by
  have hl3 : (lg_sl [.int k, .int n, w]).length ≤ J_pre.2.2.1 := by
    rcases hw with rfl | ⟨t, rfl⟩ <;> exact Nat.le_of_ble_eq_true rfl
  have hl0 : lv_args 0 [.int k, .int n, w] = [(0, .int k), (1, .int n), (2, w)] := by
    rcases hw with rfl | ⟨t, rfl⟩ <;> rfl
  refine zsM.of rfl hl3 (fun p e s m below meth c ls X hl => ?_)
  rw [hl0] at hl
  obtain ⟨hx, hb, hml, hret, hown, hts, hz, hlocks⟩ := X
  refine lv_iload_n (k := 0) (i := 0) hx hb (by decide +kernel) rfl (lv_at hl 0 rfl) ?_
  refine lv_if_lt (off := 8) (tgt := 9) hx hb (by decide +kernel) rfl (fun q => absurd q h0) (fun _ => ?_)
  refine lv_iload_n (k := 0) (i := 0) hx hb (by decide +kernel) rfl (lv_at hl 0 rfl) ?_
  refine lv_iload_n (k := 1) (i := 1) hx hb (by decide +kernel) rfl (lv_at hl 1 rfl) ?_
  refine lv_icmp_lt (off := 10) (tgt := 16) hx hb (by decide +kernel) rfl (fun _ => ?_) (fun q => absurd h1 q)
  refine lv_iload_n (k := 0) (i := 0) hx hb (by decide +kernel) rfl (lv_at hl 0 rfl) ?_
  exact W.iret (v := k) hx hb hret (fun t ht hW => ⟨rfl, ht⟩) (fun _ h => by cases h) (by decide +kernel)
theorem zs_check {l : Launch} {adK adV : Nat → Nat} {A : Nat → Prop} {k n : Int32} (h0 : ¬ k < 0) (h1 : k < n) : zsM l adK adV A J_check [.int k, .int n] none := by
  refine zsM.of rfl (Nat.le_of_ble_eq_true rfl) (fun p e s m below meth c ls X hl => ?_)
  obtain ⟨hx, hb, hml, hret, hown, hts, hz, hlocks⟩ := X
  refine lv_iload_n (k := 0) (i := 0) hx hb (by decide +kernel) rfl (lv_at hl 0 rfl) ?_
  refine lv_iload_n (k := 1) (i := 1) hx hb (by decide +kernel) rfl (lv_at hl 1 rfl) ?_
  have fin : ∀ w : Value, (w = .null ∨ ∃ t, w = .ref t) → zsW p l e (zRm J_check) s m ([.int k, .int n] : List Value).toArray below meth c none (F0 m 5 ls [w, .int n, .int k]) := by
    intro w hw
    refine zsS (as := [.int k, .int n, w]) (rest := []) (zs_pre h0 h1 hw) 3 jl_pre js_pre ji_pre jc_pre (by decide +kernel) rfl hx hb hml hown hts (fun U hU hW => by rw [hU]; exact hz.to hW.alike (fun _ _ _ => rfl) (fun _ z => z)) hl.1 (by decide) (by decide) ⟨Nat.zero_le _, Nat.zero_le _⟩ (by decide +kernel) ?_
    refine lv_pop hx hb (by decide +kernel) rfl ?_
    exact W.vret hx hb hret (fun t ht hW => ⟨rfl, ht⟩) (fun _ h => by cases h) (by decide +kernel)
  rcases hz.2.2 with h | ⟨t, h⟩
  · exact va_gets hx hb h va_S.rf hown (hts _ jf_sioobe) (fun _ h => h) (by decide +kernel) (fin _ (Or.inl rfl))
  · exact va_gets hx hb h va_S.rf hown (hts _ jf_sioobe) (fun _ h => h) (by decide +kernel) (fin _ (Or.inr ⟨_, rfl⟩))
def zsC (i j : Nat) : Int32 := (zsB.getD i []).getD j 0
theorem zsC_ok : ∀ i, i < 7 → ∀ j, j < zsL.getD i 0 → (zsC i j &&& 255 = zsC i j ∧ ((zsC i j).toUInt32 % 65536).toInt32 = zsC i j ∧ narrow .char (.int (zsC i j)) = .int (zsC i j) ∧ ¬ Int32.ofNat j < 0 ∧ Int32.ofNat j < zsN i ∧ (Int32.ofNat j).toNatClampNeg = j) := by decide
theorem zs_lchar {l : Launch} {adK adV : Nat → Nat} {A : Nat → Prop} {i j : Nat} (hi : i < 7) (hj : j < zsL.getD i 0) : zsM l adK adV A J_lchar [.ref (adV i), .int (Int32.ofNat j)] (some (.int (zsC i j))) := by
  obtain ⟨e1, e2, e3, e4, e5, e6⟩ := zsC_ok i hi j hj
  refine zsM.of rfl (Nat.le_of_ble_eq_true rfl) (fun p e s m below meth c ls X hl => ?_)
  obtain ⟨hx, hb, hml, hret, hown, hts, hz, hlocks⟩ := X
  refine lv_iload_n (k := 1) (i := 1) hx hb (by decide +kernel) rfl (lv_at hl 1 rfl) ?_
  refine lv_aload_n (k := 0) (i := 0) hx hb (by decide +kernel) rfl (lv_at hl 0 rfl) ?_
  refine va_tlen (v := zsN i) hx hb (hz.1.1 i hi).2.2.2 va_S.rf rfl (by decide +kernel) ?_
  refine zsS (as := [.int (Int32.ofNat j), .int (zsN i)]) (rest := []) (zs_check e4 e5) 2 jl_check js_check ji_check jc_check (by decide +kernel) rfl hx hb hml hown hts (fun U hU hW => by rw [hU]; exact hz.to hW.alike (fun _ _ _ => rfl) (fun _ z => z)) hl.1 (by decide) (by decide) ⟨Nat.zero_le _, Nat.zero_le _⟩ (by decide +kernel) ?_
  refine lv_aload_n (k := 0) (i := 0) hx hb (by decide +kernel) rfl (lv_at hl 0 rfl) ?_
  refine lv_iload_n (k := 1) (i := 1) hx hb (by decide +kernel) rfl (lv_at hl 1 rfl) ?_
  refine va_tb (v := .int (zsC i j)) hx hb (hz.1.1 i hi).2.2.2 va_S.rf (fun q => q.elim e4 (by rw [e6]; omega)) (by rw [e6]; rfl) (by decide +kernel) ?_
  refine lv_sipush (n := 255) (v := 255) hx hb (by decide +kernel) rfl ?_
  refine lv_iand hx hb (by decide +kernel) ?_
  rw [e1]
  refine lv_i2c (v := zsC i j) hx hb (by decide +kernel) e2 ?_
  exact W.zret (v := zsC i j) (ty := .char) hx hb hret e3 (fun t ht hW => ⟨rfl, ht⟩) (fun _ h => by cases h) (by decide +kernel)
theorem zs_char {l : Launch} {adK adV : Nat → Nat} {A : Nat → Prop} {i j : Nat} (hi : i < 7) (hj : j < zsL.getD i 0) : zsM l adK adV A J_char [.ref (adK i), .int (Int32.ofNat j)] (some (.int (zsC i j))) := by
  obtain ⟨e1, e2, e3, e4, e5, e6⟩ := zsC_ok i hi j hj
  refine zsM.of rfl (Nat.le_of_ble_eq_true rfl) (fun p e s m below meth c ls X hl => ?_)
  obtain ⟨hx, hb, hml, hret, hown, hts, hz, hlocks⟩ := X
  refine lv_aload_n (k := 0) (i := 0) hx hb (by decide +kernel) rfl (lv_at hl 0 rfl) ?_
  refine zsV (as := []) hi (zs_latin hi) 0 jl_latin jm_latin js_latin ji_latin jc_latin (by decide +kernel) rfl rfl hx hb hml hown hts hz hl.1 (Nat.le_of_ble_eq_true rfl) (by decide) (by decide +kernel) ?_
  refine lv_if_eq (off := 12) (tgt := 16) hx hb (by decide +kernel) rfl (fun q => absurd q (by decide)) (fun _ => ?_)
  refine lv_aload_n (k := 0) (i := 0) hx hb (by decide +kernel) rfl (lv_at hl 0 rfl) ?_
  refine vk_getf hx hb (hz.1.1 i hi).2.2.1 va_S.rf hown (hts _ jf_value) (fun _ h => h) (by decide +kernel) ?_
  refine lv_iload_n (k := 1) (i := 1) hx hb (by decide +kernel) rfl (lv_at hl 1 rfl) ?_
  refine zsS (as := [.ref (adV i), .int (Int32.ofNat j)]) (rest := []) (zs_lchar hi hj) 2 jl_lchar js_lchar ji_lchar jc_lchar (by decide +kernel) rfl hx hb hml hown hts (fun U hU hW => by rw [hU]; exact hz.to hW.alike (fun _ _ _ => rfl) (fun _ z => z)) hl.1 (by decide) (by decide) ⟨Nat.zero_le _, Nat.zero_le _⟩ (by decide +kernel) ?_
  exact W.zret (v := zsC i j) (ty := .char) hx hb hret e3 (fun t ht hW => ⟨rfl, ht⟩) (fun _ h => by cases h) (by decide +kernel)
/-- what spell has behind j letters -/
def zsP (i : Nat) : Nat → Int64
  | 0 => 0
  | j + 1 => zsP i j * zl 27 + (zsC i j).toInt64 - zl 97 + 1
theorem zsP_ok : ∀ i, i < 7 → zsP i (zsL.getD i 0) = zl ((zkS.getD i (0, 0)).2) := by decide
theorem zsJ_ok : ∀ i, i < 7 → ∀ j, j ≤ zsL.getD i 0 → (zsN i ≤ Int32.ofNat j → j = zsL.getD i 0) ∧ Int32.ofNat j + 1 = Int32.ofNat (j + 1) := by decide
theorem zs_spell {l : Launch} {adK adV : Nat → Nat} {A : Nat → Prop} {i : Nat} (hi : i < 7) : zsM l adK adV A F_Tape_spell [.ref (adK i)] (some (.long (zl ((zkS.getD i (0, 0)).2)))) := by
  refine zsM.of rfl (Nat.le_of_ble_eq_true rfl) (fun p e s m below meth c ls X hl => ?_)
  obtain ⟨hx, hb, hml, hret, hown, hts, hz, hlocks⟩ := X
  have loop : ∀ (n j : Nat), j + n = zsL.getD i 0 → ∀ ls : Array Slot, lv_has ls 4 [(3, .int (Int32.ofNat j)), (1, .long (zsP i j)), (0, .ref (adK i))] → zsW p l e (zRm F_Tape_spell) s m ([.ref (adK i)] : List Value).toArray below meth c (some (.long (zl ((zkS.getD i (0, 0)).2)))) (F0 m 4 ls []) := by
    intro n
    induction n with
    | zero =>
      intro j hj ls hl
      have hj : j = zsL.getD i 0 := by omega
      refine lv_iload_n (k := 3) (i := 3) hx hb (by decide +kernel) rfl (lv_at hl 0 rfl) ?_
      refine lv_aload_n (k := 0) (i := 0) hx hb (by decide +kernel) rfl (lv_at hl 2 rfl) ?_
      refine zsV (as := []) hi (zs_length hi) 0 jl_length jm_length js_length ji_length jc_length (by decide +kernel) rfl rfl hx hb hml hown hts hz hl.1 (Nat.le_of_ble_eq_true rfl) (by decide) (by decide +kernel) ?_
      refine lv_icmp_ge (off := 28) (tgt := 37) hx hb (by decide +kernel) rfl (fun _ => ?_) (fun q => absurd (by rw [hj]; exact Int32.le_refl _) q)
      refine lv_lload_n (k := 1) (i := 1) hx hb (by decide +kernel) rfl (lv_at hl 1 rfl) ?_
      rw [hj, zsP_ok i hi]
      exact W.lret (v := zl ((zkS.getD i (0, 0)).2)) hx hb hret (fun t ht hW => ⟨rfl, ht⟩) (fun _ h => by cases h) (by decide +kernel)
    | succ n ih =>
      intro j hj ls hl
      obtain ⟨k1, k2⟩ := zsJ_ok i hi j (by omega)
      refine lv_iload_n (k := 3) (i := 3) hx hb (by decide +kernel) rfl (lv_at hl 0 rfl) ?_
      refine lv_aload_n (k := 0) (i := 0) hx hb (by decide +kernel) rfl (lv_at hl 2 rfl) ?_
      refine zsV (as := []) hi (zs_length hi) 0 jl_length jm_length js_length ji_length jc_length (by decide +kernel) rfl rfl hx hb hml hown hts hz hl.1 (Nat.le_of_ble_eq_true rfl) (by decide) (by decide +kernel) ?_
      refine lv_icmp_ge (off := 28) (tgt := 37) hx hb (by decide +kernel) rfl (fun q => absurd (k1 q) (by omega)) (fun _ => ?_)
      refine lv_lload_n (k := 1) (i := 1) hx hb (by decide +kernel) rfl (lv_at hl 1 rfl) ?_
      refine lv_ldc2 (v := zl 27) hx hb hown (hts _ jk_27) (by decide +kernel) ?_
      refine lv_lmul hx hb (by decide +kernel) ?_
      refine lv_aload_n (k := 0) (i := 0) hx hb (by decide +kernel) rfl (lv_at hl 2 rfl) ?_
      refine lv_iload_n (k := 3) (i := 3) hx hb (by decide +kernel) rfl (lv_at hl 0 rfl) ?_
      refine zsV (as := [.int (Int32.ofNat j)]) hi (zs_char hi (by omega)) 1 jl_char jm_char js_char ji_char jc_char (by decide +kernel) rfl rfl hx hb hml hown hts hz hl.1 (Nat.le_of_ble_eq_true rfl) (by decide) (by decide +kernel) ?_
      refine lv_i2l (v := (zsC i j).toInt64) hx hb (by decide +kernel) rfl ?_
      refine lv_ladd hx hb (by decide +kernel) ?_
      refine lv_ldc2 (v := zl 97) hx hb hown (hts _ jk_97) (by decide +kernel) ?_
      refine lv_lsub hx hb (by decide +kernel) ?_
      refine lv_lconst (n := 1) (v := 1) hx hb (by decide +kernel) rfl ?_
      refine lv_ladd hx hb (by decide +kernel) ?_
      refine lv_lstore_n (k := 1) (i := 1) (lv' := [(1, .long (zsP i (j + 1))), (3, .int (Int32.ofNat j)), (0, .ref (adK i))]) hx hb (by decide +kernel) rfl hl (by decide) rfl (fun ls1 hl1 => ?_)
      refine lv_iinc (k := 1) (n := 1) (v := Int32.ofNat (j + 1)) (lv' := [(3, .int (Int32.ofNat (j + 1))), (1, .long (zsP i (j + 1))), (0, .ref (adK i))]) hx hb (by decide +kernel) hl1 rfl (by rw [show Int32.ofInt 1 = 1 from rfl]; exact k2) (by decide) rfl (fun ls2 hl2 => ?_)
      refine lv_goto (off := -30) (tgt := 4) hx hb (by decide +kernel) rfl ?_
      exact ih (j + 1) (by omega) ls2 hl2
  refine lv_lconst (n := 0) (v := 0) hx hb (by decide +kernel) rfl ?_
  refine lv_lstore_n (k := 1) (i := 1) (lv' := [(1, .long 0), (0, .ref (adK i))]) hx hb (by decide +kernel) rfl hl (by decide) rfl (fun ls1 hl1 => ?_)
  refine lv_iconst (n := 0) (v := 0) hx hb (by decide +kernel) rfl ?_
  refine lv_istore_n (k := 3) (i := 3) (lv' := [(3, .int 0), (1, .long 0), (0, .ref (adK i))]) hx hb (by decide +kernel) rfl hl1 (by decide) rfl (fun ls2 hl2 => ?_)
  exact loop (zsL.getD i 0) 0 (by omega) ls2 hl2
end
section
-- part 75.strd.lean.txt
theorem zSpell_ok : zSpell := by
  intro k v hkv p e R s m args below meth c Q O code nL pc st lv C nc ns X hd hd2 hcat hfr hlo hnc hns g
  obtain ⟨hx, hb, hml, hown, hts, hK, hN, hcl, hB, hAO, adK, adV, hz, hR⟩ := X
  obtain ⟨i, hi⟩ := List.getElem?_of_mem hkv
  have hi7 : i < 7 := (List.getElem?_eq_some_iff.mp hi).1
  have hks : ∃ tx, zsK[i]? = some (k, tx) := by
    have : ∀ i, i < 7 → (zsK[i]?).map (·.1) = (zkS[i]?).map (·.1) := by decide
    have h1 := this i hi7
    rw [hi] at h1
    obtain ⟨q, h2, h3⟩ := Option.map_eq_some_iff.mp h1
    obtain ⟨a, b⟩ := q
    cases h3
    exact ⟨b, h2⟩
  obtain ⟨tx, htx⟩ := hks
  have hv : (zkS.getD i (0, 0)).2 = v := by rw [List.getD_eq_getElem?_getD, hi]; rfl
  intro H locs ls hP hS hl
  refine va_ldcS hx hb hown (hR i k tx htx) hd ?_
  have h1 := g H locs ls hP hS hl
  refine zsS (as := [.ref (adK i)]) (rest := st.map (zWv O)) (zs_spell hi7) 1 jl_spell js_spell ji_spell jc_spell (by decide +kernel) rfl hx hb hml hown hts (fun U hU hW => by rw [hU]; exact hz.to hW.alike hS.2.1 (fun _ z => z)) hl.1 (by rw [zcats_wv]; exact hcat) ⟨hfr, hlo⟩ ⟨hnc, hns⟩ hd2 ?_
  rw [hv]
  exact h1
end
section
-- part 80.lawt.lean.txt
/-! ===== the law's calls ===== -/
def zpm_Law : List (Nat × Nat × Nat × Nat × Nat × Nat × Nat × Nat) := [(24, 0, 3, 0, 5, 750, 751, 752), (28, 0, 205, 12, 5, 1930, 1931, 1932), (29, 0, 4, 0, 1, 758, 759, 760), (33, 0, 207, 12, 1, 1938, 1939, 1940), (34, 0, 5, 0, 1, 762, 763, 764), (38, 0, 210, 12, 1, 1942, 1943, 1944), (39, 0, 6, 0, 3, 767, 768, 769), (43, 0, 211, 12, 3, 1946, 1947, 1948), (44, 0, 7, 0, 0, 791, 792, 793), (48, 0, 212, 12, 0, 1958, 1959, 1960), (49, 0, 8, 0, 2, 806, 807, 808), (53, 0, 213, 12, 2, 1962, 1963, 1964), (54, 0, 9, 0, 2, 811, 812, 813), (58, 0, 216, 12, 2, 1966, 1967, 1968), (59, 0, 10, 0, 3, 825, 826, 827), (62, 0, 217, 12, 3, 1978, 1979, 1980), (63, 0, 11, 0, 0, 829, 830, 831), (66, 0, 351, 12, 0, 2412, 2413, 2414), (67, 0, 12, 0, 0, 993, 994, 995), (70, 0, 352, 12, 0, 2528, 2529, 2530), (71, 0, 13, 0, 1, 997, 998, 999), (74, 0, 248, 12, 1, 2077, 2078, 2079), (75, 0, 14, 0, 1, 1140, 1141, 1142), (78, 0, 249, 12, 1, 2109, 2110, 2111), (79, 0, 15, 0, 0, 1155, 1156, 1157), (82, 0, 250, 12, 0, 2117, 2118, 2119), (83, 0, 16, 0, 1, 1159, 1160, 1161), (86, 0, 251, 12, 1, 2121, 2122, 2123), (87, 0, 17, 0, 2, 1200, 1201, 1202), (90, 0, 252, 12, 2, 2125, 2126, 2127), (91, 0, 18, 0, 3, 1204, 1205, 1206), (94, 0, 254, 12, 3, 2129, 2130, 2131), (100, 0, 258, 12, 3, 2137, 2138, 2139), (103, 0, 261, 12, 3, 2153, 2154, 2155), (104, 0, 21, 0, 3, 1214, 1215, 1216), (107, 0, 264, 12, 3, 2161, 2162, 2163), (108, 0, 22, 0, 2, 1218, 1219, 1220), (111, 0, 266, 12, 2, 2172, 2173, 2174), (112, 0, 23, 0, 3, 1228, 1229, 1230), (115, 0, 267, 12, 3, 2176, 2177, 2178), (116, 0, 24, 0, 2, 1233, 1234, 1235), (119, 0, 268, 12, 2, 2184, 2185, 2186), (120, 0, 25, 0, 0, 1242, 1243, 1244), (123, 0, 247, 12, 0, 2065, 2066, 2067), (124, 0, 26, 0, 0, 1263, 1264, 1265), (127, 0, 244, 12, 0, 1986, 1987, 1988), (128, 0, 27, 0, 3, 1267, 1268, 1269), (132, 0, 269, 12, 3, 2188, 2189, 2190), (133, 0, 28, 0, 5, 1295, 1296, 1297), (137, 0, 270, 12, 5, 2192, 2193, 2194), (138, 0, 29, 0, 5, 1301, 1302, 1303), (142, 0, 281, 12, 5, 2196, 2197, 2198), (143, 0, 30, 0, 4, 1344, 1345, 1346), (147, 0, 282, 12, 4, 2236, 2237, 2238), (148, 0, 31, 0, 4, 1348, 1349, 1350), (151, 0, 284, 12, 4, 2240, 2241, 2242), (152, 0, 32, 0, 5, 1365, 1366, 1367), (155, 0, 285, 12, 5, 2256, 2257, 2258), (156, 0, 33, 0, 4, 1369, 1370, 1371), (159, 0, 286, 12, 4, 2260, 2261, 2262), (160, 0, 34, 0, 1, 1377, 1378, 1379), (163, 0, 288, 12, 1, 2264, 2265, 2266), (164, 0, 35, 0, 2, 1386, 1387, 1388), (167, 0, 292, 12, 2, 2272, 2273, 2274), (168, 0, 36, 0, 0, 1414, 1415, 1416), (171, 0, 295, 12, 0, 2288, 2289, 2290), (172, 0, 37, 0, 1, 1418, 1419, 1420), (175, 0, 296, 12, 1, 2292, 2293, 2294), (176, 0, 38, 0, 2, 1422, 1423, 1424), (179, 0, 298, 12, 2, 2296, 2297, 2298), (180, 0, 39, 0, 1, 1433, 1434, 1435), (183, 0, 299, 12, 1, 2304, 2305, 2306), (184, 0, 40, 0, 2, 1439, 1440, 1441), (187, 0, 304, 12, 2, 2308, 2309, 2310), (188, 0, 41, 0, 1, 1467, 1468, 1469), (191, 0, 309, 12, 1, 2332, 2333, 2334), (192, 0, 42, 0, 2, 1482, 1483, 1484), (195, 0, 310, 12, 2, 2352, 2353, 2354), (196, 0, 43, 0, 2, 1494, 1495, 1496), (199, 0, 314, 12, 2, 2356, 2357, 2358), (200, 0, 44, 0, 2, 1520, 1521, 1522), (203, 0, 315, 12, 2, 2372, 2373, 2374), (204, 0, 45, 0, 3, 1525, 1526, 1527), (207, 0, 218, 12, 3, 1982, 1983, 1984), (208, 0, 46, 0, 3, 1533, 1534, 1535), (211, 0, 324, 12, 3, 2404, 2405, 2406), (212, 0, 47, 0, 3, 1560, 1561, 1562), (215, 0, 322, 12, 3, 2377, 2378, 2379), (216, 0, 48, 0, 1, 1564, 1565, 1566), (219, 0, 353, 12, 1, 2532, 2533, 2534)]
def zlT : List (Nat × Nat × List (Nat × Bool) × Nat × Nat × Nat × Nat) := [(0, 240, [(1, false), (2, false), (3, false), (4, false), (5, false)], 24, 3, 28, 205), (1, 313, [(1, false)], 29, 4, 33, 207), (2, 338, [(1, false)], 34, 5, 38, 210), (3, 363, [(1, false), (2, false), (3, true)], 39, 6, 43, 211), (4, 428, [], 44, 7, 48, 212), (5, 441, [(1, false), (2, false)], 49, 8, 53, 213), (6, 478, [(1, false), (2, false)], 54, 9, 58, 216), (7, 515, [(1, false), (2, false), (3, false)], 59, 10, 62, 217), (8, 564, [], 63, 11, 66, 351), (9, 577, [], 67, 12, 70, 352), (10, 590, [(1, false)], 71, 13, 74, 248), (11, 615, [(1, false)], 75, 14, 78, 249), (12, 640, [], 79, 15, 82, 250), (13, 653, [(1, false)], 83, 16, 86, 251), (14, 678, [(1, false), (2, false)], 87, 17, 90, 252), (15, 715, [(1, false), (2, false), (3, false)], 91, 18, 94, 254), (18, 868, [(1, false), (2, false), (3, false)], 104, 21, 107, 264), (19, 917, [(1, false), (2, false)], 108, 22, 111, 266), (20, 954, [(1, false), (2, false), (3, false)], 112, 23, 115, 267), (21, 1003, [(1, false), (2, false)], 116, 24, 119, 268), (22, 1040, [], 120, 25, 123, 247), (23, 1053, [], 124, 26, 127, 244), (24, 1066, [(1, false), (2, false), (3, true)], 128, 27, 132, 269), (25, 1131, [(1, false), (2, false), (3, false), (4, true), (5, false)], 133, 28, 137, 270), (26, 1220, [(1, false), (2, false), (3, false), (4, false), (5, true)], 138, 29, 142, 281), (27, 1309, [(1, false), (2, false), (3, false), (4, false)], 143, 30, 147, 282), (28, 1370, [(1, false), (2, false), (3, false), (4, false)], 148, 31, 151, 284), (29, 1431, [(1, false), (2, false), (3, false), (4, false), (5, false)], 152, 32, 155, 285), (30, 1504, [(1, false), (2, false), (3, false), (4, false)], 156, 33, 159, 286), (31, 1565, [(1, false)], 160, 34, 163, 288), (32, 1590, [(1, false), (2, false)], 164, 35, 167, 292), (33, 1627, [], 168, 36, 171, 295), (34, 1640, [(1, false)], 172, 37, 175, 296), (35, 1665, [(1, false), (2, false)], 176, 38, 179, 298), (36, 1702, [(1, false)], 180, 39, 183, 299), (37, 1727, [(1, false), (2, false)], 184, 40, 187, 304), (38, 1764, [(1, false)], 188, 41, 191, 309), (39, 1789, [(1, false), (2, false)], 192, 42, 195, 310), (40, 1826, [(1, false), (2, false)], 196, 43, 199, 314), (41, 1863, [(1, false), (2, false)], 200, 44, 203, 315), (42, 1900, [(1, false), (2, false), (3, false)], 204, 45, 207, 218), (43, 1949, [(1, false), (2, false), (3, false)], 208, 46, 211, 324), (44, 1998, [(1, false), (2, false), (3, false)], 212, 47, 215, 322), (45, 2047, [(1, false)], 216, 48, 219, 353)]
theorem zEvOk_Law (f : zMR) : zEvOk zCl (zEvC "ToldNetLaw" f [] zpm_Law []) := zEvOk_of (by decide +kernel) (by decide +kernel) (by decide +kernel)
end
section
-- part 81.law.lean.txt
/-! ===== the law's walk ===== -/
def zlB (O : zOm) : zB O = zB O := rfl
/-- what stands fixed in the law's frame -/
def zlX (p : Program) (s : State) (m : MethodId) (meth : Method) (c : Code) (O : zOm) (b L : Nat) (xs : Nat → Int32) : Prop :=
  p.tables.exec = Jvm.exec ∧ c.code = code ∧ c.maxLocals = 7 ∧ meth.sig.returnType = ret ∧ s.vm.findClass "ToldNetLaw" = some m.cls ∧ (∀ w ∈ zWS, w.before #[Value.ref b] s = true) ∧ va_K (zD O) (zcl O) (zTys O) s ∧ zNw s ∧ va_X b L xs s s.heap ∧ b < s.heap.size ∧ zB O = s.heap.size ∧ zb O = b ∧ zWld O ∧ 0 < (zS O).length ∧ L ≤ 3072
def zlA (s : State) : Nat → Prop := fun q => s.heap.size ≤ q
/-- a state of the heap in the law's frame -/
def zlH (s : State) (O : zOm) (M : zMem) (H : Heap) (locs : List Loc) : Prop := va_P (zD O) (zcl O) (zWorld O M) H ∧ va_S (zlA s) s.heap H locs ∧ zMok (zS O) M
theorem zlH.size {s : State} {O : zOm} {M : zMem} {H : Heap} {locs : List Loc} (h : zlH s O M H locs) (h0 : 0 < (zS O).length) : zB O + (zS O).length ≤ H.size := by
  have h1 : (zS O).length - 1 < (zS O).length := by omega
  have h2 : zB O + ((zS O).length - 1) < H.size := (h.1 _ _ (zWorld_at (M := M) (List.getElem?_eq_getElem h1))).lt
  omega
section ZL
variable {p : Program} {e : Env} {s : State} {m : MethodId} {below : List Frame} {meth : Method} {c : Code} {Q : State → Prop} {O : zOm} {b L : Nat} {xs : Nat → Int32} {H : Heap} {locs : List Loc} {nc ns pc : Nat} {ls : Array Slot} {rest : List Value} {M : zMem}
theorem znat_in {i : Nat} (h : i < 2147483648) : (nI i).toNatClampNeg = i ∧ ¬ nI i < 0 := ⟨nI_clamp (by omega), nI_pos (by omega)⟩
/-- one argument out of the script -/
theorem zl_arg (X : zlX p s m meth c O b L xs) {i k : Nat} {kk : Int} {lv : List (Nat × Value)} (hS : va_S (zlA s) s.heap H locs) (hl : lv_has ls 7 lv) (j0 j4 : Nat) (hj0 : lv[j0]? = some (0, .ref b)) (hj4 : lv[j4]? = some (4, .int (nI i)))
    (d0 : decode code pc = .ok (.aload_n 0, 1)) (d1 : decode code (pc + 1) = .ok (.iload 4, 2)) (d3 : decode code (pc + 3) = .ok (.iconst kk, 1)) (d4 : decode code (pc + 4) = .ok (.iadd, 1)) (d5 : decode code (pc + 5) = .ok (.iaload, 1)) (hk : kk = (k : Int)) (hi : i + k < L)
    (g : W p (zLn O) e room_1 s m #[Value.ref b] below meth c H locs nc ns Q (F0 m (pc + 6) ls (.int (xs (i + k)) :: rest))) : W p (zLn O) e room_1 s m #[Value.ref b] below meth c H locs nc ns Q (F0 m pc ls rest) := by
  obtain ⟨hx, hb, hml, hret, hown, hts, hK, hN, hX, hbl, hB, hb0, hO, h0, hL⟩ := X
  subst hk
  refine lv_aload_n (k := 0) (i := 0) hx hb d0 rfl (lv_at hl j0 hj0) ?_
  refine lv_iload hx hb d1 (lv_at hl j4 hj4) ?_
  refine lv_iconst (v := nI k) hx hb d3 (by unfold nI; rw [Int32.ofInt_eq_ofNat]) ?_
  refine lv_iadd hx hb d4 ?_
  have e1 : nI i + nI k = nI (i + k) := by unfold nI; rw [Int32.ofNat_add]
  rw [e1]
  obtain ⟨a1, a2⟩ := znat_in (i := i + k) (by omega)
  refine va_sld hx hb hX hbl (fun q => absurd q (by unfold zlA; omega)) hS (fun q => q.elim a2 (by rw [a1]; omega)) d5 ?_
  rw [a1]
  exact g
def zlChk : Nat → List (Nat × Bool) → Option Nat
  | pc, [] => some pc
  | pc, (k, fl) :: r => if zqT code pc (.aload_n 0) 1 = true ∧ zqT code (pc + 1) (.iload 4) 2 = true ∧ zqT code (pc + 3) (.iconst (k : Int)) 1 = true ∧ zqT code (pc + 4) .iadd 1 = true ∧ zqT code (pc + 5) .iaload 1 = true then
      (if fl = true then (if zqT code (pc + 6) (.ifCond .eq 7) 3 = true ∧ zqT code (pc + 9) (.iconst 1) 1 = true ∧ zqT code (pc + 10) (.goto 4) 3 = true ∧ zqT code (pc + 13) (.iconst 0) 1 = true then zlChk (pc + 14) r else none) else zlChk (pc + 6) r) else none
def zlArg (xs : Nat → Int32) (i : Nat) (q : Nat × Bool) : Int := if q.2 = true then (if xs (i + q.1) = 0 then 0 else 1) else (xs (i + q.1)).toInt
def zlArgs (xs : Nat → Int32) (i : Nat) (specs : List (Nat × Bool)) : List zV := specs.map fun q => (0, zlArg xs i q)
theorem zlArg_in (xs : Nat → Int32) (i : Nat) (q : Nat × Bool) : zin32 (zlArg xs i q) := by
  unfold zlArg
  split
  · split
    · exact ⟨by decide, by decide⟩
    · exact ⟨by decide, by decide⟩
  · exact zi_in _
theorem zl_args (X : zlX p s m meth c O b L xs) {i : Nat} {lv : List (Nat × Value)} (hS : va_S (zlA s) s.heap H locs) (hl : lv_has ls 7 lv) (j0 j4 : Nat) (hj0 : lv[j0]? = some (0, .ref b)) (hj4 : lv[j4]? = some (4, .int (nI i))) : ∀ (specs : List (Nat × Bool)) (pc pc' : Nat) (rest : List Value), (∀ q ∈ specs, i + q.1 < L) → zlChk pc specs = some pc' →
    W p (zLn O) e room_1 s m #[Value.ref b] below meth c H locs nc ns Q (F0 m pc' ls (((zlArgs xs i specs).map (zWv O)).reverse ++ rest)) → W p (zLn O) e room_1 s m #[Value.ref b] below meth c H locs nc ns Q (F0 m pc ls rest) := by
  intro specs
  induction specs with
  | nil => intro pc pc' rest hq h g; cases h; exact g
  | cons q r ih =>
    intro pc pc' rest hq h g
    obtain ⟨k, fl⟩ := q
    unfold zlChk at h
    split at h
    next d =>
      obtain ⟨d0, d1, d3, d4, d5⟩ := d
      have d0 := zqT_d d0
      have d1 := zqT_d d1
      have d3 := zqT_d d3
      have d4 := zqT_d d4
      have d5 := zqT_d d5
      refine zl_arg X hS hl j0 j4 hj0 hj4 d0 d1 d3 d4 d5 rfl (hq (k, fl) List.mem_cons_self) ?_
      have e1 : ((zlArgs xs i ((k, fl) :: r)).map (zWv O)).reverse ++ rest = ((zlArgs xs i r).map (zWv O)).reverse ++ (.int (zi (zlArg xs i (k, fl))) :: rest) := by
        unfold zlArgs
        rw [List.map_cons, List.map_cons, List.reverse_cons, List.append_assoc]
        rfl
      rw [e1] at g
      obtain ⟨hx, hb, -⟩ := X
      split at h
      next hfl =>
        subst hfl
        split at h
        next d =>
          obtain ⟨d6, d9, d10, d13⟩ := d
          have d6 := zqT_d d6
          have d9 := zqT_d d9
          have d10 := zqT_d d10
          have d13 := zqT_d d13
          have g2 := ih (pc + 14) pc' _ (fun q hq2 => hq q (List.mem_cons_of_mem _ hq2)) h g
          refine lv_if_eq (tgt := pc + 13) hx hb d6 (by omega) (fun hz => ?_) (fun hz => ?_)
          · refine lv_iconst (v := 0) hx hb d13 rfl ?_
            have : zi (zlArg xs i (k, true)) = 0 := by unfold zlArg; rw [if_pos rfl, if_pos hz]; rfl
            rw [this] at g2
            exact g2
          · refine lv_iconst (v := 1) hx hb d9 rfl ?_
            refine lv_goto (tgt := pc + 14) hx hb d10 (by omega) ?_
            have : zi (zlArg xs i (k, true)) = 1 := by unfold zlArg; rw [if_pos rfl, if_neg hz]; rfl
            rw [this] at g2
            exact g2
        next => cases h
      next hfl =>
        have g2 := ih (pc + 6) pc' _ (fun q hq2 => hq q (List.mem_cons_of_mem _ hq2)) h g
        have : zi (zlArg xs i (k, fl)) = xs (i + k) := by unfold zlArg; rw [if_neg hfl]; exact zi_of _
        rw [this] at g2
        exact g2
    next => cases h
theorem zl_call (X : zlX p s m meth c O b L xs) {k f ci na : Nat} {o : Int} {as : List zV} {K : Option zV → zMem → Prop} (hpm : zpmF zpm_Law k = some (0, f, ci, na)) (hna : as.length = na) (hd : decode code pc = .ok (.invokevirtual k, 3)) (hob : zxObj (zS O) o ci = true) (has : ∀ v ∈ as, zok v)
    (hR : (zFn f).2.2.2.2.1 + 1 ≤ 10 ∧ 8 + ((zFn f).2.2.1 + 11) + (zFn f).2.2.2.2.2 ≤ 404) (hH : zlH s O M H locs) (hsz : ls.size = 7) (hcat : (rest.map fun v => v.category).sum ≤ 8) (hnc : nc ≤ 601024 ∧ ns ≤ 7293034)
    (h : zR O (zFn f) ((2, o) :: as) M K) (kk : ∀ v u, K v u → (∀ w, v = some w → zok w) → ∀ H' locs', zlH s O u H' locs' → W p (zLn O) e room_1 s m #[Value.ref b] below meth c H' locs' nc ns Q (F0 m (pc + 3) ls ((v.map (zWv O)).toList ++ rest))) :
    W p (zLn O) e room_1 s m #[Value.ref b] below meth c H locs nc ns Q (F0 m pc ls ((as.map (zWv O)).reverse ++ zWv O (2, o) :: rest)) := by
  obtain ⟨hx, hb, hml, hret, hown, hts, hK, hN, hX, hbl, hB, hb0, hO, h0, hL⟩ := X
  have hz2 := hH.size h0
  obtain ⟨hP, hS, hM⟩ := hH
  obtain ⟨ho0, fks, hs⟩ := zxObj_ok hob
  obtain ⟨⟨hcode, hini, hd1, hd2, hd3⟩, ⟨T, N, hc⟩, hlk, hin, hsel⟩ := (zEvOk_Law (zFn 0)).2.1 k f ci na hpm
  have hMet := h (fun v hv => by
    rcases List.mem_cons.mp hv with rfl | hv
    · show (-2 : Int) ≤ o; omega
    · exact has v hv) hM H.size hz2
  have hcode : Jvm.Cond.code (zFn f).1 (zFn f).2.1 (zFn f).2.2.1 (zFn f).2.2.2.1 ∈ zWS := hcode
  have hlk : Jvm.Cond.methodLink "ToldNetLaw" k (zFn f).1 ∈ zWS := hlk
  have hin : Jvm.Cond.instanceMethod (zFn f).1 ∈ zWS := hin
  have hsel : Jvm.Cond.selects (zFn f).1.cls (zFn f).1 (zFn f).1 ∈ zWS := hsel
  have hini : Jvm.Cond.initialized (zFn f).1.cls ∈ zWS := hini
  have hc : zCl[ci]? = some ((zFn f).1.cls, T, N) := hc
  have hd1 : (zFn f).1.cls ≠ "java/lang/invoke/MethodHandle" := hd1
  have hd2 : (zFn f).1.cls ≠ "java/lang/invoke/VarHandle" := hd2
  have hd3 : (parseMethodDescriptor (zFn f).1.desc).map (fun d => d.parameters.length) = some na := hd3
  generalize zFn f = f at hcode hini hd1 hd2 hd3 hc hlk hin hsel hR hMet
  have hG : GoodIn zWS (wsV "ToldNetLaw" k f.1.cls f.1 (zWs f)) := by
    intro w hw
    have hw' : w ∈ zWS := by
      rcases List.mem_append.mp hw with h1 | h1
      · simp only [List.mem_cons, List.not_mem_nil, or_false] at h1
        rcases h1 with rfl | rfl | rfl | rfl
        · exact hlk
        · exact hin
        · exact hsel
        · exact hini
      · exact (zGood f hcode w h1).1
    exact ⟨hw', good_of_word (List.mem_filter.mp hw').2⟩
  have cw := cwV (R := room_1) (rm := zRm f) (mc := 0) (ms := 0) (ws' := zWS) na hts hG rfl rfl rfl ⟨rfl, hd1, hd2, hd3⟩ hR
  have he := zWorld_at (M := M) hs
  obtain ⟨rC, hrC, cell, q1, q2, q3, q4⟩ := hP _ _ he
  have hrC : (zcl O)[ci]? = some rC := hrC
  rw [hO.1, hc] at hrC
  cases hrC
  have hcls : s.vm.findClass f.1.cls = some cell.cls := by rw [q2]; exact (hK.1 ci _ (by rw [hO.1]; exact hc)).2.1
  have hPV : PreV s H f.1.cls (zB O + o.toNat) (zPc O M H.size ((2, o) :: as)) (as.map (zWv O)) := by
    refine ⟨zPc_blind O M H.size _, ⟨cell, q1, by rw [q3]; rfl, hcls⟩, fun U hU hW => ?_⟩
    have := zPc_at (as := (2, o) :: as) hP hK hN hU hW
    rw [List.map_cons, zWv_nn O ho0] at this
    exact this
  rw [zWv_nn O ho0]
  have hA : ∀ q, zA O H.size q → zlA s q := fun q hq => hq.elim (fun z => by unfold zlA; omega) (fun z => by unfold zlA; have := hS.1; omega)
  have hr := va_runV (As := as.map (zWv O)) (rest := rest) (locs := locs) (nL := 7) (slots := ns) (cells := nc) (meth := meth) (p := p) (e := e) (below := below) (g := F0 m pc ls ((as.map (zWv O)).reverse ++ .ref (zB O + o.toNat) :: rest)) ⟨hx, hb, hml, hown, hts⟩ hMet cw hPV rfl (by rw [List.length_map]; exact hna) hsz rfl (lv_room hcat) hd ⟨hnc.1, hnc.2⟩
  intro T hT XT
  obtain ⟨v, st₀, t, T', Lc, g0, X', hLc, e1, e2, ⟨⟨r, u, hv, hok, hMu, hKu, hPu⟩, hz, hk⟩, st⟩ := hr T hT XT
  cases hv
  rw [g0] at hz hk
  have hS' : va_S (zlA s) s.heap T'.heap (locs ++ Lc) := ⟨Nat.le_trans hS.1 (by rw [e1]; exact hz), fun q h1 h2 => by rw [e1, hk q (Nat.lt_of_lt_of_le h1 hS.1) (fun z => h2 (hA q z))]; exact hS.2.1 q h1 h2, fun q hq => by
      rcases List.mem_append.mp hq with h | h
      · exact hS.2.2 q h
      · exact hA _ (hLc q h)⟩
  obtain ⟨t2, a1, b1⟩ := kk r u hKu hok T'.heap (locs ++ Lc) ⟨by rw [e1]; exact hPu, hS', hMu⟩ T' rfl X'
  exact ⟨t2, st t2 a1, b1⟩
end ZL
end
section
-- part 82.case.lean.txt
/-! ===== a case of the law's switch; its loop ===== -/
abbrev zlE : Type := Nat × Nat × List (Nat × Bool) × Nat × Nat × Nat × Nat
def zlRoom (f : Nat) : Bool := decide ((zFn f).2.2.2.2.1 + 1 ≤ 10 ∧ 8 + ((zFn f).2.2.1 + 11) + (zFn f).2.2.2.2.2 ≤ 404)
def zlLink (k f ci na : Nat) : Bool := decide (zpmF zpm_Law k = some (0, f, ci, na)) && zlRoom f
/-- cases whose two answers are compared; the others are only made -/
def zlCm : List Nat := [4]
def zlIsC (n : Nat) : Bool := zlCm.contains n
def zlCaseC (e : zlE) : Bool := match e with
  | (_, pc, specs, k1, fx, k2, fm) => zqT code pc (.aload_n 1) 1 && (match zlChk (pc + 1) specs with
    | some p1 => zqT code p1 (.invokevirtual k1) 3 && (zqT code (p1 + 3) (.aload_n 2) 1 && (match zlChk (p1 + 4) specs with
      | some p2 => zqT code p2 (.invokevirtual k2) 3 && zqT code (p2 + 3) (.if_icmp .eq (2072 - ((p2 + 3 : Nat) : Int))) 3
      | none => false))
    | none => false) && (zlLink k1 fx 0 specs.length && (zlLink k2 fm 12 specs.length && specs.all (fun q => decide (q.1 ≤ 5))))
def zlCaseN (e : zlE) : Bool := match e with
  | (_, pc, specs, k1, fx, k2, fm) => zqT code pc (.aload_n 1) 1 && (match zlChk (pc + 1) specs with
    | some p1 => zqT code p1 (.invokevirtual k1) 3 && (zqT code (p1 + 3) .pop 1 && (zqT code (p1 + 4) (.aload_n 2) 1 && (match zlChk (p1 + 5) specs with
      | some p2 => zqT code p2 (.invokevirtual k2) 3 && (zqT code (p2 + 3) .pop 1 && zqT code (p2 + 4) (.goto (2072 - ((p2 + 4 : Nat) : Int))) 3)
      | none => false)))
    | none => false) && (zlLink k1 fx 0 specs.length && (zlLink k2 fm 12 specs.length && specs.all (fun q => decide (q.1 ≤ 5))))
def zlCase (e : zlE) : Bool := if zlIsC e.1 = true then zlCaseC e else zlCaseN e
theorem zlT_all : zlT.all zlCase = true := by decide +kernel
theorem zlT_ok : ∀ e ∈ zlT, zlCase e = true := fun e h => List.all_eq_true.mp zlT_all e h
def zlLv (O : zOm) (b i x mo out : Nat) : List (Nat × Value) := [(4, .int (nI i)), (3, .ref (zB O + out)), (2, .ref (zB O + mo)), (1, .ref (zB O + x)), (0, .ref b)]
theorem zcat_le (O : zOm) (v : Option zV) : (((v.map (zWv O)).toList).map fun w => w.category).sum ≤ 8 := by
  cases v with
  | none => exact Nat.zero_le _
  | some w =>
    show (zWv O w).category + 0 ≤ 8
    rw [zcat_wv]
    unfold zcat
    split <;> omega
section ZL2
variable {p : Program} {e : Env} {s : State} {m : MethodId} {below : List Frame} {meth : Method} {c : Code} {Q : State → Prop} {O : zOm} {b L : Nat} {xs : Nat → Int32} {H : Heap} {locs : List Loc} {nc ns pc : Nat} {ls : Array Slot} {rest : List Value} {M : zMem}
theorem zl_caseC (X : zlX p s m meth c O b L xs) {i x mo out : Nat} (hi : i + 6 ≤ L) (hl : lv_has ls 7 (zlLv O b i x mo out)) {n k1 fx k2 fm : Nat} {specs : List (Nat × Bool)} (hT : (n, pc, specs, k1, fx, k2, fm) ∈ zlT) (hcm : zlIsC n = true) (hox : zxObj (zS O) (x : Int) 0 = true) (hom : zxObj (zS O) (mo : Int) 12 = true) (hH : zlH s O M H locs) (hnc : nc ≤ 601024 ∧ ns ≤ 7293034)
    {J : zMem → Prop} (h : zR O (zFn fx) ((2, (x : Int)) :: zlArgs xs i specs) M (fun v M1 => zR O (zFn fm) ((2, (mo : Int)) :: zlArgs xs i specs) M1 (fun v' M2 => ∃ r, v = some (0, r) ∧ v' = some (0, r) ∧ J M2)))
    (kk : ∀ M2 H' locs', J M2 → zlH s O M2 H' locs' → W p (zLn O) e room_1 s m #[Value.ref b] below meth c H' locs' nc ns Q (F0 m 2072 ls [])) : W p (zLn O) e room_1 s m #[Value.ref b] below meth c H locs nc ns Q (F0 m pc ls []) := by
  have hc := zlT_ok _ hT
  unfold zlCase at hc
  rw [if_pos hcm] at hc
  unfold zlCaseC at hc
  simp only [Bool.and_eq_true, decide_eq_true_eq] at hc
  obtain ⟨⟨d0, hc⟩, hl1, hl2, hsp⟩ := hc
  have d0 := zqT_d d0
  unfold zlLink zlRoom at hl1 hl2
  simp only [Bool.and_eq_true, decide_eq_true_eq] at hl1 hl2
  have hq : ∀ q ∈ specs, i + q.1 < L := fun q hq => by
    have := of_decide_eq_true (List.all_eq_true.mp hsp q hq)
    omega
  have has : ∀ v ∈ zlArgs xs i specs, zok v := fun v hv => by
    obtain ⟨q, -, rfl⟩ := List.mem_map.mp hv
    exact zlArg_in xs i q
  have hna : (zlArgs xs i specs).length = specs.length := List.length_map ..
  have hx := X.1
  have hb := X.2.1
  split at hc
  next p1 e1 =>
    simp only [Bool.and_eq_true, decide_eq_true_eq] at hc
    obtain ⟨d1, d2, hc⟩ := hc
    have d1 := zqT_d d1
    have d2 := zqT_d d2
    split at hc
    next p2 e2 =>
      simp only [Bool.and_eq_true, decide_eq_true_eq] at hc
      obtain ⟨d3, d4⟩ := hc
      have d3 := zqT_d d3
      have d4 := zqT_d d4
      refine lv_aload_n (k := 1) (i := 1) hx hb d0 rfl (lv_at hl 3 rfl) ?_
      refine zl_args X hH.2.1 hl 4 0 rfl rfl specs (pc + 1) p1 _ hq e1 ?_
      have hoe : ∀ z : Nat, Value.ref (zB O + z) = zWv O (2, (z : Int)) := fun z => (zWv_nn O (Int.natCast_nonneg z)).symm
      rw [hoe]
      refine zl_call X hl1.1 hna d1 hox has hl1.2 hH hl.1 (by decide) hnc h (fun v u hK hok H' locs' hH' => ?_)
      rw [List.append_nil]
      refine lv_aload_n (k := 2) (i := 2) hx hb d2 rfl (lv_at hl 2 rfl) ?_
      refine zl_args X hH'.2.1 hl 4 0 rfl rfl specs (p1 + 3 + 1) p2 _ hq e2 ?_
      rw [hoe]
      refine zl_call X hl2.1 hna d3 hom has hl2.2 hH' hl.1 (zcat_le O v) hnc hK (fun v' u' hK' hok' H2 locs2 hH2 => ?_)
      obtain ⟨r, rfl, rfl, hJ⟩ := hK'
      refine lv_icmp_eq (tgt := 2072) hx hb d4 (by omega) (fun _ => ?_) (fun q => absurd rfl q)
      exact kk u' H2 locs2 hJ hH2
    next => cases hc
  next => cases hc
theorem zl_caseN (X : zlX p s m meth c O b L xs) {i x mo out : Nat} (hi : i + 6 ≤ L) (hl : lv_has ls 7 (zlLv O b i x mo out)) {n k1 fx k2 fm : Nat} {specs : List (Nat × Bool)} (hT : (n, pc, specs, k1, fx, k2, fm) ∈ zlT) (hcm : ¬ zlIsC n = true) (hox : zxObj (zS O) (x : Int) 0 = true) (hom : zxObj (zS O) (mo : Int) 12 = true) (hH : zlH s O M H locs) (hnc : nc ≤ 601024 ∧ ns ≤ 7293034)
    {J : zMem → Prop} (h : zR O (zFn fx) ((2, (x : Int)) :: zlArgs xs i specs) M (fun v M1 => (∃ r, v = some (0, r)) ∧ zR O (zFn fm) ((2, (mo : Int)) :: zlArgs xs i specs) M1 (fun v' M2 => (∃ r, v' = some (0, r)) ∧ J M2)))
    (kk : ∀ M2 H' locs', J M2 → zlH s O M2 H' locs' → W p (zLn O) e room_1 s m #[Value.ref b] below meth c H' locs' nc ns Q (F0 m 2072 ls [])) : W p (zLn O) e room_1 s m #[Value.ref b] below meth c H locs nc ns Q (F0 m pc ls []) := by
  have hc := zlT_ok _ hT
  unfold zlCase at hc
  rw [if_neg hcm] at hc
  unfold zlCaseN at hc
  simp only [Bool.and_eq_true, decide_eq_true_eq] at hc
  obtain ⟨⟨d0, hc⟩, hl1, hl2, hsp⟩ := hc
  have d0 := zqT_d d0
  unfold zlLink zlRoom at hl1 hl2
  simp only [Bool.and_eq_true, decide_eq_true_eq] at hl1 hl2
  have hq : ∀ q ∈ specs, i + q.1 < L := fun q hq => by
    have := of_decide_eq_true (List.all_eq_true.mp hsp q hq)
    omega
  have has : ∀ v ∈ zlArgs xs i specs, zok v := fun v hv => by
    obtain ⟨q, -, rfl⟩ := List.mem_map.mp hv
    exact zlArg_in xs i q
  have hna : (zlArgs xs i specs).length = specs.length := List.length_map ..
  have hx := X.1
  have hb := X.2.1
  split at hc
  next p1 e1 =>
    simp only [Bool.and_eq_true, decide_eq_true_eq] at hc
    obtain ⟨d1, d9, d2, hc⟩ := hc
    have d1 := zqT_d d1
    have d9 := zqT_d d9
    have d2 := zqT_d d2
    split at hc
    next p2 e2 =>
      simp only [Bool.and_eq_true, decide_eq_true_eq] at hc
      obtain ⟨d3, d8, d4⟩ := hc
      have d3 := zqT_d d3
      have d8 := zqT_d d8
      have d4 := zqT_d d4
      refine lv_aload_n (k := 1) (i := 1) hx hb d0 rfl (lv_at hl 3 rfl) ?_
      refine zl_args X hH.2.1 hl 4 0 rfl rfl specs (pc + 1) p1 _ hq e1 ?_
      have hoe : ∀ z : Nat, Value.ref (zB O + z) = zWv O (2, (z : Int)) := fun z => (zWv_nn O (Int.natCast_nonneg z)).symm
      rw [hoe]
      refine zl_call X hl1.1 hna d1 hox has hl1.2 hH hl.1 (by decide) hnc h (fun v u hK hok H' locs' hH' => ?_)
      obtain ⟨⟨r, rfl⟩, hK⟩ := hK
      rw [List.append_nil]
      refine lv_pop hx hb d9 rfl ?_
      refine lv_aload_n (k := 2) (i := 2) hx hb d2 rfl (lv_at hl 2 rfl) ?_
      refine zl_args X hH'.2.1 hl 4 0 rfl rfl specs (p1 + 4 + 1) p2 _ hq e2 ?_
      rw [hoe]
      refine zl_call X hl2.1 hna d3 hom has hl2.2 hH' hl.1 (by decide) hnc hK (fun v' u' hK' hok' H2 locs2 hH2 => ?_)
      obtain ⟨⟨r', rfl⟩, hJ⟩ := hK'
      refine lv_pop hx hb d8 rfl ?_
      refine lv_goto (tgt := 2072) hx hb d4 (by omega) ?_
      exact kk u' H2 locs2 hJ hH2
    next => cases hc
  next => cases hc
end ZL2
end
