/-- every instruction of the abstract machine but a return -/
theorem zGo_step {p : Program} {e : Env} {R : Room} {s : State} {m : MethodId} {args : Array Value} {below : List Frame} {meth : Method} {c : Code} {Q : State → Prop} {O : zOm} {ev : zEv} (X : zCx p R s m args meth c O ev) {rt : Option zV → zMem → Prop} {i : Instr} {n pc : Nat} {st : List zV} {lv : zLv} {M : zMem}
    (hd : decode ev.2.1 pc = .ok (i, n)) (h : zStep ev (zS O) (zR O) rt i n pc st lv M (zGo p e R s m args below meth c Q O ev.2.2.1))
    (hret : i = .ireturn ∨ i = .lreturn ∨ i = .areturn ∨ i = .return_ → zGo p e R s m args below meth c Q O ev.2.2.1 pc st lv M) : zGo p e R s m args below meth c Q O ev.2.2.1 pc st lv M := by
  cases i
  case iconst => exact zg_iconst X hd h
  case bipush => exact zg_bipush X hd h
  case sipush => exact zg_sipush X hd h
  case lconst => exact zg_lconst X hd h
  case aconst_null => exact zg_aconst_null X hd h
  case ldc => exact zg_ldc X hd h
  case ldc_w => exact zg_ldc_w X hd h
  case ldc2_w => exact zg_ldc2_w X hd h
  case iload => exact zg_iload X hd h
  case iload_n => exact zg_iload_n X hd h
  case lload => exact zg_lload X hd h
  case lload_n => exact zg_lload_n X hd h
  case aload => exact zg_aload X hd h
  case aload_n => exact zg_aload_n X hd h
  case istore => exact zg_istore X hd h
  case istore_n => exact zg_istore_n X hd h
  case lstore => exact zg_lstore X hd h
  case lstore_n => exact zg_lstore_n X hd h
  case astore => exact zg_astore X hd h
  case astore_n => exact zg_astore_n X hd h
  case iinc => exact zg_iinc X hd h
  case iadd => exact zg_iadd X hd h
  case isub => exact zg_isub X hd h
  case imul => exact zg_imul X hd h
  case idiv => exact zg_idiv X hd h
  case irem => exact zg_irem X hd h
  case iand => exact zg_iand X hd h
  case ior => exact zg_ior X hd h
  case ixor => exact zg_ixor X hd h
  case ishl => exact zg_ishl X hd h
  case ishr => exact zg_ishr X hd h
  case iushr => exact zg_iushr X hd h
  case ineg => exact zg_ineg X hd h
  case i2l => exact zg_i2l X hd h
  case l2i => exact zg_l2i X hd h
  case i2b => exact zg_i2b X hd h
  case ladd => exact zg_ladd X hd h
  case lsub => exact zg_lsub X hd h
  case lmul => exact zg_lmul X hd h
  case lcmp => exact zg_lcmp X hd h
  case dup => exact zg_dup X hd h
  case dup2 => exact zg_dup2 X hd h
  case pop => exact zg_pop X hd h
  case ifCond => exact zg_if X hd h
  case if_icmp => exact zg_icmp X hd h
  case ifnull => exact zg_ifnull X hd h
  case ifnonnull => exact zg_ifnonnull X hd h
  case goto => exact zg_goto X hd h
  case tableswitch => exact zg_tableswitch X hd h
  case lookupswitch => exact zg_lookupswitch X hd h
  case getfield => exact zg_getfield X hd h
  case putfield => exact zg_putfield X hd h
  case arraylength => exact zg_arraylength X hd h
  case iaload => exact zg_iaload X hd h
  case baload => exact zg_baload X hd h
  case laload => exact zg_laload X hd h
  case aaload => exact zg_aaload X hd h
  case iastore => exact zg_iastore X hd h
  case bastore => exact zg_bastore X hd h
  case lastore => exact zg_lastore X hd h
  case invokevirtual => exact zg_invokevirtual X hd h
  case invokestatic => exact zg_invokestatic X hd h
  case ireturn => exact hret (Or.inl rfl)
  case lreturn => exact hret (Or.inr (Or.inl rfl))
  case areturn => exact hret (Or.inr (Or.inr (Or.inl rfl)))
  case return_ => exact hret (Or.inr (Or.inr (Or.inr rfl)))
  all_goals exact False.elim h
set_option maxHeartbeats 4000000 in
theorem zGo_ret {p : Program} {e : Env} {R : Room} {s : State} {m : MethodId} {args : Array Value} {below : List Frame} {meth : Method} {c : Code} {O : zOm} {ev : zEv} (X : zCx p R s m args meth c O ev) (hlocks : meth.locks = false) {rt : Option zV → zMem → Prop} {i : Instr} {n pc : Nat} {st : List zV} {lv : zLv} {M : zMem} {G : Nat → List zV → zLv → zMem → Prop}
    (hi : i = .ireturn ∨ i = .lreturn ∨ i = .areturn ∨ i = .return_) (hd : decode ev.2.1 pc = .ok (i, n)) (h : zStep ev (zS O) (zR O) rt i n pc st lv M G) :
    zGo p e R s m args below meth c (MQ below (zQ O rt s.heap.size) args s 0 0 (zA O s.heap.size)) O ev.2.2.1 pc st lv M := by
  obtain ⟨own, code, nL, ret, pf, pm, pk, fr, lo, fn⟩ := ev
  obtain ⟨hx, hb, hml, hret, hown, hts, hK, hN, hfr, hlo, hszB, hSo, hCl, hF, hM0, hM1, hM2, hM5, hk0, hk1, hM3, hM4⟩ := X
  dsimp only at hb hml hret hd
  intro hst hlv hM H locs ls hP hS hl
  have hq : ∀ (r : Option zV), (∀ v, r = some v → zok v) → rt r M → ∀ t : State, t.heap = H → s.WarmedH t.vm → zQ O rt s.heap.size args s (.returned (r.map (zWv O))) t :=
    fun r hr hk t ht hW => ⟨⟨r, M, rfl, hr, hM, hk, by rw [ht]; exact hP⟩, hS.F ht⟩
  rcases hi with rfl | rfl | rfl | rfl
  · obtain ⟨rfl, x, rfl, hty, hk⟩ := h
    have h2 := hq (some (0, x)) (fun v hv => by cases hv; exact zok_hd hst) hk
    rcases hty with ⟨hty, hx01⟩ | hty
    · exact W.zret (v := zi x) (ty := .boolean) hx hb (hret.trans hty) (by rcases hx01 with rfl | rfl <;> decide) h2 hS.2.2 hd
    · exact W.iret (v := zi x) hx hb (hret.trans hty) h2 hS.2.2 hd
  · obtain ⟨rfl, x, rfl, hty, hk⟩ := h
    have h2 := hq (some (1, x)) (fun v hv => by cases hv; exact zok_hd hst) hk
    exact W.lret (v := zl x) hx hb (hret.trans hty) h2 hS.2.2 hd
  · obtain ⟨rfl, x, C, rfl, hty, hk⟩ := h
    have h2 := hq (some (2, x)) (fun v hv => by cases hv; exact zok_hd hst) hk
    exact W.aret (v := zWv O (2, x)) hx hb (hret.trans hty) (Or.inl ⟨C, rfl⟩) (zWv_ref O x) h2 hS.2.2 hd
  · obtain ⟨rfl, rfl, hty, hk⟩ := h
    have h2 := hq none (fun v hv => by cases hv) hk
    exact W.vret hx hb (hret.trans hty) h2 hS.2.2 hd
/-- what is closed under the instructions of the abstract machine -/
def zClosed (ev : zEv) (S : List zSh) (Rn : zRnT) (rt : Option zV → zMem → Prop) (G : Nat → List zV → zLv → zMem → Prop) : Prop :=
  (∀ (i : Instr) (n pc : Nat) (st : List zV) (lv : zLv) (M : zMem), decode ev.2.1 pc = .ok (i, n) → zStep ev S Rn rt i n pc st lv M G → G pc st lv M) ∧ ev.2.2.2.2.2.2.2.2.2 = zFn ∧ ∀ f as M (K K' : Option zV → zMem → Prop), (∀ v u, K v u → K' v u) → Rn f as M K → Rn f as M K'
def zEvOf (own : String) (f : zMR) (pf : Nat → Option (Nat × Nat)) (pm : Nat → Option zMI) (pk : Nat → Option zV) : zEv := (own, f.2.1, f.2.2.1, f.2.2.2.1, pf, pm, pk, f.2.2.2.2.1, f.2.2.2.2.2, zFn)
/-- the values of a method's arguments in its locals -/
def zArgs : Nat → List zV → zLv
  | _, [] => []
  | i, v :: r => (i, v) :: zArgs (i + zcat v) r
def zOmOk (O : zOm) : Prop := zSok O ∧ zClOk (zcl O)
theorem zlg (O : zOm) (as : List zV) : (lg_sl (as.map (zWv O))).length = zcats as := by
  induction as with
  | nil => rfl
  | cons v r ih =>
    unfold lg_sl zcats at *
    rw [List.map_cons, List.flatMap_cons, List.length_append, ih, List.map_cons, List.sum_cons]
    congr 1
    rw [zcat_wv]
    have : zcat v = 1 ∨ zcat v = 2 := by unfold zcat; split <;> simp
    rcases this with h | h <;> simp [h]
theorem zlvargs (O : zOm) (as : List zV) : ∀ k, lv_args k (as.map (zWv O)) = (zArgs k as).map fun q => (q.1, zWv O q.2) := by
  induction as with
  | nil => intro k; rfl
  | cons v r ih =>
    intro k
    show lv_args k (zWv O v :: r.map (zWv O)) = (k, zWv O v) :: (zArgs (k + zcat v) r).map _
    rw [← ih]
    show (k, zWv O v) :: lv_args (if (zWv O v).category = 2 then k + 2 else k + 1) (r.map (zWv O)) = _
    rw [zcat_wv]
    have : (if zcat v = 2 then k + 2 else k + 1) = k + zcat v := by
      have : zcat v = 1 ∨ zcat v = 2 := by unfold zcat; split <;> simp
      rcases this with h | h <;> simp [h]
    rw [this]
theorem zArgs_ok (as : List zV) (h : ∀ v ∈ as, zok v) : ∀ k, ∀ q ∈ zArgs k as, zok q.2 := by
  induction as with
  | nil => intro k q hq; cases hq
  | cons v r ih =>
    intro k q hq
    rcases List.mem_cons.mp hq with rfl | hq
    · exact zok_hd h
    · exact ih (zok_tl h) _ q hq
theorem zR.mono {O : zOm} {f : zMR} {as : List zV} {M : zMem} {K K' : Option zV → zMem → Prop} (h : zR O f as M K) (hk : ∀ v u, K v u → K' v u) : zR O f as M K' := by
  intro has hM sz hsz p e ha hc hk2 s m args below hf happ hP hT
  obtain ⟨n, o, h1, h2, h3, ⟨⟨r, u, e1, e2, e3, e4, e5⟩, hF⟩, hL⟩ := h has hM sz hsz p e ha hc hk2 s m args below hf happ hP hT
  exact ⟨n, o, h1, h2, h3, ⟨⟨r, u, e1, e2, e3, hk _ _ e4, e5⟩, hF⟩, hL⟩
/-- a method by its code: any G that is closed under its instructions holds at its start -/
theorem zR.of {O : zOm} (hO : zOmOk O) {own : String} {f : zMR} {pf : Nat → Option (Nat × Nat)} {pm : Nat → Option zMI} {pk : Nat → Option zV} (hev : zEvOk (zcl O) (zEvOf own f pf pm pk)) (hown : f.1.cls = own) (hpl : plainName f.1.cls = true) {as : List zV} (hn : zcats as ≤ f.2.2.1) {M : zMem} {K : Option zV → zMem → Prop}
    (h : ∀ G, zClosed (zEvOf own f pf pm pk) (zS O) (zR O) K G → G 0 [] (zArgs 0 as) M) : zR O f as M K := by
  intro has hM sz hsz
  refine Met.ofW (cc := f.2.1) (maxL := f.2.2.1) (ret := f.2.2.2.1) hpl rfl ?_
  intro p e s m args below meth c s₁ B hml hv
  obtain ⟨rfl, hsz', hP, hK, hN⟩ := hv
  have hlocks := B.notSynchronized
  have hts : ∀ w ∈ zWs f, w.before (as.map (zWv O)).toArray s = true := atoms_spec (ws := zWs f) B.pre
  have X : zCx p (headSpec (zWs f) (zRm f)).room s m (as.map (zWv O)).toArray meth c O (zEvOf own f pf pm pk) :=
    ⟨B.exec, B.bytes, hml, B.returns, by rw [← hown]; exact findClass_of_methodNamed B.named, fun w hw => hts w (List.mem_cons_of_mem _ hw), hK, hN, rfl, rfl, by rw [hsz']; exact hsz, hO.1, hO.2, hev⟩
  subst hsz'
  have hlen : (lg_sl (as.map (zWv O))).length ≤ f.2.2.1 := by rw [zlg]; exact hn
  have hl := lv_entry (as.map (zWv O)) (n := f.2.2.1) hlen
  rw [zlvargs] at hl
  rw [lg_entry_eq]
  have hcl : zClosed (zEvOf own f pf pm pk) (zS O) (zR O) K (zGo p e (headSpec (zWs f) (zRm f)).room s m (as.map (zWv O)).toArray below meth c (MQ below (zQ O K s.heap.size) (as.map (zWv O)).toArray s 0 0 (zA O s.heap.size)) O f.2.2.1) :=
    ⟨fun i n pc st lv M' hd hs => zGo_step X hd hs (fun hi => zGo_ret X hlocks hi hd hs), rfl, fun f as M K K' hk h => zR.mono h hk⟩
  exact h _ hcl (fun v hv => by cases hv) (zArgs_ok as has 0) hM s.heap [] _ hP va_S.rf hl
