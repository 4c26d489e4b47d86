section
-- part 90.word.lean.txt
section ZX2
variable {p : Program} {l : Launch} {e : Env} {R : Room} {s : State} {m : MethodId} {args : Array Value} {below : List Frame} {meth : Method} {c : Code} {H : Heap} {locs : List Loc} {cells slots : Nat} {pc : Nat} {ls : Array Slot} {rest : List Value}
variable {Qc : Array Value → State → Outcome → State → Prop} {XC : String → State → State → Prop} {free : Addr → Prop}
theorem zx_throwW {cc : ByteArray} (hexec : p.tables.exec = Jvm.exec) (hb : c.code = cc) (hl : l.stackTraces = false) {own cls Yn text : String} {names : List String} {ik is ic ix mc ms sa : Nat} {by0 : ByteArray} {A : Nat → Prop}
    (b0 : decode by0 0 = .ok (.aload_n 0, 1)) (b1 : decode by0 1 = .ok (.aload_n 1, 1)) (b2 : decode by0 2 = .ok (.invokespecial ix, 3)) (b5 : decode by0 5 = .ok (.return_, 1))
    (hown : s.vm.findClass own = some m.cls) (hcls : Bundle.fit cls = true) (hYn : Bundle.fit Yn = true) (hnames : ∀ n ∈ names, Bundle.fit n = true)
    (hk : (Cond.classLink own ik cls).before args s = true) (hini : (Cond.initialized cls).before args s = true) (hstr : vk_R own is text sa s) (hat : ∀ w ∈ (zxAt own ic cls ix by0 Yn names).filter vx_no, w.before args s = true)
    (hgood : ∀ w ∈ Cond.classLink own ik cls :: Cond.initialized cls :: (zxAt own ic cls ix by0 Yn names).filter vx_no, vx_ot w = true)
    (hU : vx_Zq Bundle.tN "UNASSIGNED_STACK" Bundle.steD A s s.heap) (hN : vx_Zq Bundle.tN "SUPPRESSED_SENTINEL" Bundle.listD A s s.heap) (hS : va_S A s.heap H locs) (hsize : ls.size = c.maxLocals)
    (d0 : decode cc pc = .ok (.new ik, 3)) (d3 : decode cc (pc + 3) = .ok (.dup, 1)) (d4 : decode cc (pc + 4) = .ok (.ldc_w is, 3)) (d6 : decode cc (pc + 7) = .ok (.invokespecial ic, 3)) (d9 : decode cc (pc + 10) = .ok (.athrow, 1))
    (hout : ∀ x ∈ c.exceptionTable.toList, covers x (pc + 10) = false)
    (hRframes : names.length + 4 < R.frames) (hRlocals : (rest.map fun v => v.category).sum + (13 * (names.length + 2) + 43) ≤ R.locals) (hRcells : cells + 1 ≤ R.cells) (hRslots : slots + 6 ≤ R.slots) (hlocks : meth.locks = false)
    (hx : ∀ t : State, s.vm.Alike t.vm → H.size ≤ t.heap.size → (∀ q : Nat, q < H.size → t.heap[q]? = H[q]?) → XC cls s t)
    (hf : ∀ z ∈ locs, free z.base) (hc : cells + 1 ≤ mc) (hs : slots + 6 ≤ ms) :
    W p l e R s m args below meth c H locs cells slots (vx_MQ below Qc XC args s mc ms free) (F0 m pc ls rest) := by
  intro T hT X
  have htr : e.platform.stackTraces = false := (show e.platform.stackTraces = l.stackTraces by rw [X.admits.platform]).trans hl
  have Y := vx_rebase X (R' := { frames := R.frames, locals := R.locals, cells := 1, slots := 6 }) (Nat.le_refl _) (Nat.le_refl _) hRcells hRslots
  obtain ⟨s', hA⟩ : ∃ z, z = (T.setVm s.vm).setFrames (.invoking m args :: below) := ⟨_, rfl⟩
  rw [← hA] at Y
  have hvm : s'.vm = s.vm := by rw [hA]; rfl
  have hhp : s'.heap = H := by rw [hA]; exact hT
  have hW0 : s.WarmedH s'.vm := by rw [hvm]; exact State.WarmedH.refl s
  have up : ∀ w, w ∈ Cond.classLink own ik cls :: Cond.initialized cls :: (zxAt own ic cls ix by0 Yn names).filter vx_no → w.before args s = true → w.before args s' = true := fun w hw h => vx_ot_at hW0 hvm.symm (hgood w hw) h
  have hU' : vx_Zq Bundle.tN "UNASSIGNED_STACK" Bundle.steD A s' s'.heap := by rw [hhp]; exact vx_Zq.moved hW0.alike (hU.kept hS.2.1)
  have hN' : vx_Zq Bundle.tN "SUPPRESSED_SENTINEL" Bundle.listD A s' s'.heap := by rw [hhp]; exact vx_Zq.moved hW0.alike (hN.kept hS.2.1)
  have h : ∀ w ∈ zxAt own ic cls ix by0 Yn names, w.before args s' = true := vx_own (fun w hw => up w (List.mem_cons_of_mem _ (List.mem_cons_of_mem _ hw)) (hat w hw)) (vx_isRefq hU'.1) (vx_isRefq hN'.1) hU'.2.word hN'.2.word
  have hown' : s'.vm.findClass own = some m.cls := by rw [hvm]; exact hown
  have hins : (Cond.instantiable cls 6).before args s' = true := h _ (by simp [zxAt])
  obtain ⟨vm₁, cX, kX, hfX, hkX, -, -, X₁, st1⟩ := Y.newCold hexec (own := own) (C := cls) (index := ik) (n := 6) hown' (up _ List.mem_cons_self hk) hins (up _ (List.mem_cons_of_mem _ List.mem_cons_self) hini)
    (g := F0 m pc ls rest) rfl (by rw [hb]; exact d0) (Nat.le_refl _) (Nat.le_refl _)
  generalize hT1 : (T.setVm vm₁).pushCell { cls := cX, slots := kX.instanceTypes.map defaultValue, vm := .none } = T1 at X₁ st1
  have hcat : (Value.ref T.heap.size).category = 1 := rfl
  have hcellA : T1.heap[T.heap.size]? = some (freshCell cX kX) := by rw [← hT1]; exact State.heap_pushCell_size _ _
  have d3' : decode c.code (pc + 3) = .ok (.dup, 1) := by rw [hb]; exact d3
  have d4' : decode c.code (pc + 4) = .ok (.ldc_w is, 3) := by rw [hb]; exact d4
  have hstr' : vk_R own is text sa s' := vk_R.warm hW0 hstr
  obtain ⟨U, hsteps, hrun, hend, hW, hsame, ce, hce, hO1, hO2⟩ := zx_ctor X₁ hexec htr (ic := ic) b0 b1 b2 b5 hown' hcls hYn hnames h (fun x hx => nomatch hx) hfX hkX hcellA (by rw [hhp, hT]; exact Nat.le_refl _) (msg := .ref sa) rfl
    (g := { method := m, pc := pc + 7, locals := ls, stack := .ref sa :: .ref T.heap.size :: .ref T.heap.size :: rest, locked := none }) rfl hsize rfl rfl (rest := rest) rfl
    (by rw [hb]; exact d6) (by rw [hb]; exact d9) hout hRframes (by simp only [List.map_cons, List.sum_cons, hcat]; omega) hlocks
  obtain ⟨f1, f2⟩ := vx_frame hsame
  rw [hhp] at f1 f2
  have hWs : s.WarmedH U.vm := State.WarmedH.trans hW0 hW
  have hcl : s.vm.findClass cls = some ce.cls := by rw [hvm] at hO1; exact hO1
  have hall : s.sameButNew ({ U with vm := s.vm } : State) locs mc ms := by
    subst hA
    obtain ⟨e1, e2⟩ := hsame
    rw [State.setFrames_setFrames] at e1
    have h2 : (T.setVm s.vm).sameButNew ({ U with vm := s.vm } : State) [] (0 + 1) (0 + 6) := ⟨e1, e2⟩
    have h3 := X.same.trans h2
    rw [List.append_nil] at h3
    exact h3.mono hc hs
  refine ⟨U, ?_, .threw T.heap.size, hrun, hend, Or.inr ⟨T.heap.size, rfl, cls, ce, locs, hx U hWs.alike f1 (fun q hq => f2 q hq (fun z hz => nomatch hz)), hce, hO2, hcl, hWs, hall, hf⟩⟩
  refine st1 _ ?_
  show Steps p.tables e below (T1.setTop { method := m, pc := pc + 3, locals := ls, stack := .ref T.heap.size :: rest, locked := none }) _
  jvm_step X₁.here [X₁.here.top, hexec, d3', Value.category]
  exact X₁.ldcStringW hexec (own := own) (text := text) (index := is) (a := sa) hown' hstr'.1 hstr'.2
    (g := { method := m, pc := pc + 4, locals := ls, stack := .ref T.heap.size :: .ref T.heap.size :: rest, locked := none }) rfl d4' _ hsteps
end ZX2
def zxD (w : Cond) : Bool := match w with
  | .declares _ => true
  | _ => false
def zxIn : List Cond → List Nat → Bool
  | [], [] => true
  | w :: r, p :: q => decide (lw_tbl[p]? = some w) && zxIn r q
  | _, _ => false
theorem zxIn_ok : ∀ {ws : List Cond} {ps : List Nat}, zxIn ws ps = true → ∀ w ∈ ws, w ∈ lw_tbl := by
  intro ws
  induction ws with
  | nil => intro ps _ w hw; cases hw
  | cons w r ih =>
    intro ps h x hx
    cases ps with
    | nil => cases h
    | cons p q =>
      simp only [zxIn, Bool.and_eq_true, decide_eq_true_eq] at h
      rcases List.mem_cons.mp hx with rfl | hx
      · exact List.mem_of_getElem? h.1
      · exact ih h.2 x hx
theorem zxW1_in : ∀ w ∈ zxW1, w ∈ lw_tbl := zxIn_ok (ps := [178, 1603, 1612, 1615, 1618, 1620, 1604, 1605, 189, 190, 1606, 1611, 1616, 1636, 1593, 1637, 1595, 1638, 1597, 1607, 1609, 1599, 1632, 1633, 1635, 1599, 1623, 1624, 1625, 1626, 1585, 1626, 1627, 1628, 1629, 1587, 1629, 1630, 1631, 1632, 1589, 1622, 1582, 1590, 1591, 1592, 1594, 1596, 1598, 1602, 1601, 1600]) (by decide +kernel)
theorem zxW2_in : ∀ w ∈ zxW2, w ∈ lw_tbl := zxIn_ok (ps := [178, 1603, 1612, 1615, 1618, 1620, 1604, 1605, 189, 190, 1606, 1611, 1616, 1636, 1593, 1637, 1595, 1638, 1597, 1607, 1609, 1599, 1632, 1633, 1635, 1599, 1658, 1659, 1660, 1626, 1585, 1626, 1627, 1628, 1629, 1587, 1629, 1630, 1631, 1632, 1589, 1657, 1648, 1650, 1614, 1651, 1652, 1653, 1654, 1602, 1601, 1655]) (by decide +kernel)
theorem zxW1_gd : zxW1.all (fun w => goodWord w || zxD w) = true := by decide +kernel
theorem zxW2_gd : zxW2.all (fun w => goodWord w || zxD w) = true := by decide +kernel
def zxDecl : List Cond := (zxW1 ++ zxW2).filter zxD
/-- what a throw reads of the old heap and the tables -/
def zThr (A : Nat → Prop) (U : State) (H : Heap) : Prop := (∃ a, vk_R "ToldNet" 233 "no such telling or word" a U) ∧ (∃ a, vk_R "ToldNet" 240 "no such what" a U) ∧ (∃ a, vk_R "ToldNet" 261 "no such telling or except" a U) ∧ vx_Zq Bundle.tN "UNASSIGNED_STACK" Bundle.steD A U H ∧ vx_Zq Bundle.tN "SUPPRESSED_SENTINEL" Bundle.listD A U H ∧ ∀ w ∈ zxDecl, va_Nw w U
theorem zxDecl_kind {w : Cond} (h : w ∈ zxDecl) : ∃ x, w = .declares x := by
  have h1 := (List.mem_filter.mp h).2
  unfold zxD at h1
  split at h1
  next x => exact ⟨x, rfl⟩
  next => cases h1
theorem zThr.to {A A' : Nat → Prop} {U U' : State} {H H' : Heap} (h : zThr A U H) (hW : U.WarmedH U'.vm) (hk : ∀ a : Nat, a < H.size → ¬ A a → H'[a]? = H[a]?) (hA : ∀ q, A' q → A q) : zThr A' U' H' := by
  obtain ⟨⟨a1, h1⟩, ⟨a2, h2⟩, ⟨a3, h3⟩, h4, h5, h6⟩ := h
  refine ⟨⟨a1, h1.warm hW⟩, ⟨a2, h2.warm hW⟩, ⟨a3, h3.warm hW⟩, ((h4.moved hW.alike).kept hk).narrow hA, ((h5.moved hW.alike).kept hk).narrow hA, fun w hw => ?_⟩
  obtain ⟨x, rfl⟩ := zxDecl_kind hw
  exact va_Nw.warmD hW (h6 _ hw)
theorem zThr.same {A : Nat → Prop} {U U' : State} {H : Heap} (h : zThr A U H) (hv : U'.vm = U.vm) : zThr A U' H := by
  obtain ⟨⟨a1, h1⟩, ⟨a2, h2⟩, ⟨a3, h3⟩, h4, h5, h6⟩ := h
  have hal : U.vm.Alike U'.vm := by rw [hv]; exact Vm.Alike.refl _
  refine ⟨⟨a1, h1.same hv⟩, ⟨a2, h2.same hv⟩, ⟨a3, h3.same hv⟩, h4.moved hal, h5.moved hal, fun w hw => ?_⟩
  obtain ⟨x, rfl⟩ := zxDecl_kind hw
  exact va_Nw.same rfl hv.symm (h6 _ hw)
/-- the words of a throw, out of the good ones and the declarations -/
theorem zThr.words {A : Nat → Prop} {s : State} {args : Array Value} (h : zThr A s s.heap) (hts : ∀ w ∈ zWS, w.before args s = true) : (∀ w ∈ zxW1, w.before args s = true) ∧ ∀ w ∈ zxW2, w.before args s = true := by
  have key : ∀ (W : List Cond), W.all (fun w => goodWord w || zxD w) = true → (∀ w ∈ W, w ∈ lw_tbl) → (∀ w ∈ W, w ∈ zxW1 ++ zxW2) → ∀ w ∈ W, w.before args s = true := by
    intro W hg hin hsub w hw
    have h1 := List.all_eq_true.mp hg w hw
    rw [Bool.or_eq_true] at h1
    rcases h1 with h1 | h1
    · exact hts w (List.mem_filter.mpr ⟨hin w hw, h1⟩)
    · have h2 : w ∈ zxDecl := List.mem_filter.mpr ⟨hsub w hw, h1⟩
      obtain ⟨x, rfl⟩ := zxDecl_kind h2
      exact va_Nw.use rfl (h.2.2.2.2.2 _ h2)
  exact ⟨key zxW1 zxW1_gd zxW1_in (fun w hw => List.mem_append_left _ hw), key zxW2 zxW2_gd zxW2_in (fun w hw => List.mem_append_right _ hw)⟩
theorem zThr_start {s : State} {b : Nat} (hts : ∀ w ∈ lw_tbl, w.before #[Value.ref b] s = true) (hgv : (Jvm.Cond.and given_1 narrow_1).before #[Value.ref b] s = true) : zThr (fun q => s.heap.size ≤ q) s s.heap := by
  have hs := flat_of_before _ hgv
  have hA : ∀ a : Nat, a < s.heap.size → ¬ (fun q => s.heap.size ≤ q) a := fun a h q => absurd h (Nat.not_lt.mpr q)
  have str : ∀ (k : Nat) (tx : String), (Cond.stringRef "ToldNet" k tx).before #[Value.ref b] s = true → (Cond.exactly (.string "ToldNet" k) "java/lang/String").before #[Value.ref b] s = true → ∃ a, vk_R "ToldNet" k tx a s := by
    intro k tx h1 h2
    obtain ⟨a, c, cA, kA, q1, -⟩ := Cond.exactly_spec (args := #[Value.ref b]) (first := s) (o := none) (s := s) (idx := []) (t := .string "ToldNet" k) (cls := "java/lang/String") h2
    exact ⟨a, vk_R.of h1 q1⟩
  refine ⟨str 233 _ (hts _ (List.mem_of_getElem? (i := 1621) (by decide +kernel))) (hs _ (by decide +kernel)), str 240 _ (hts _ (List.mem_of_getElem? (i := 1656) (by decide +kernel))) (hs _ (by decide +kernel)), str 261 _ (hts _ (List.mem_of_getElem? (i := 1673) (by decide +kernel))) (hs _ (by decide +kernel)), ?_, ?_, fun w hw => ?_⟩
  · exact vx_Zqof (args := #[Value.ref b]) (hts _ (List.mem_of_getElem? (i := 1608) (by decide +kernel))) (hts _ (List.mem_of_getElem? (i := 178) (by decide +kernel))) (hs _ (by decide +kernel)) hA
  · exact vx_Zqof (args := #[Value.ref b]) (hts _ (List.mem_of_getElem? (i := 1610) (by decide +kernel))) (hts _ (List.mem_of_getElem? (i := 178) (by decide +kernel))) (hs _ (by decide +kernel)) hA
  · obtain ⟨x, rfl⟩ := zxDecl_kind hw
    refine va_Nw.of rfl (hts _ ?_)
    rcases List.mem_append.mp (List.mem_filter.mp hw).1 with h | h
    · exact zxW1_in _ h
    · exact zxW2_in _ h
end
section
-- part 91.word2.lean.txt
/-! ===== methods that return or throw ===== -/
def zPcX (O : zOm) (M : zMem) (sz : Nat) (as : List zV) : Array Value → State → Prop := va_Pc (as.map (zWv O)) (fun U => U.heap.size = sz ∧ va_P (zD O) (zcl O) (zWorld O M) U.heap ∧ va_K (zD O) (zcl O) (zTys O) U ∧ zNw U ∧ zThr (zA O sz) U U.heap)
def zXC (O : zOm) (KX : String → zMem → Prop) (sz : Nat) : String → State → State → Prop := fun E st t => ∃ u, zMok (zS O) u ∧ KX E u ∧ va_P (zD O) (zcl O) (zWorld O u) t.heap ∧ va_F (zA O sz) st t
def zRmX (f : zMR) : Room := { frames := f.2.2.2.2.1, cells := 1, slots := 6, locals := f.2.2.2.2.2 }
def zRX (O : zOm) (f : zMR) (as : List zV) (M : zMem) (K : Option zV → zMem → Prop) (KX : String → zMem → Prop) : Prop := (∀ v ∈ as, zok v) → zMok (zS O) M → ∀ sz, zB O + (zS O).length ≤ sz → vx_Met (zLn O) f.1 (zWs f) (zRmX f) (zPcX O M sz as) (zQ O K sz) (zXC O KX sz) 1 6 (zA O sz)
abbrev zXQ (O : zOm) (K : Option zV → zMem → Prop) (KX : String → zMem → Prop) (below : List Frame) (args : Array Value) (s : State) : State → Prop := vx_MQ below (zQ O K s.heap.size) (zXC O KX s.heap.size) args s 1 6 (zA O s.heap.size)
theorem zRX.of {O : zOm} (hO : zOmOk O) {own : String} {f : zMR} {pf : Nat → Option (Nat × Nat)} {pm : Nat → Option zMI} {pk : Nat → Option zV} (hev : zEvOk (zcl O) (zEvOf own f pf pm pk)) (hown : f.1.cls = own) (hpl : plainName f.1.cls = true) {as : List zV} (hn : zcats as ≤ f.2.2.1) {M : zMem} {K : Option zV → zMem → Prop} {KX : String → zMem → Prop}
    (h : ∀ (p : Program) (e : Env) (s : State) (m : MethodId) (below : List Frame) (meth : Method) (c : Code), zCx p (zRmX f) s m (as.map (zWv O)).toArray meth c O (zEvOf own f pf pm pk) → zThr (zA O s.heap.size) s s.heap → meth.locks = false → (∀ x ∈ c.exceptionTable.toList, False) →
      zGo p e (zRmX f) s m (as.map (zWv O)).toArray below meth c (zXQ O K KX below (as.map (zWv O)).toArray s) O f.2.2.1 0 [] (zArgs 0 as) M) : zRX O f as M K KX := by
  intro has hM sz hsz
  refine vx_ofW (cc := f.2.1) (maxL := f.2.2.1) (ret := f.2.2.2.1) hpl rfl ?_
  intro p e s m args below meth c s₁ B hml hno hv
  obtain ⟨rfl, hsz', hP, hK, hN, hT⟩ := hv
  have hts : ∀ w ∈ zWs f, w.before (as.map (zWv O)).toArray s = true := atoms_spec (ws := zWs f) B.pre
  have X : zCx p (zRmX f) s m (as.map (zWv O)).toArray meth c O (zEvOf own f pf pm pk) :=
    ⟨B.exec, B.bytes, hml, B.returns, by rw [← hown]; exact findClass_of_methodNamed B.named, fun w hw => hts w (List.mem_cons_of_mem _ hw), hK, hN, rfl, rfl, by rw [hsz']; exact hsz, hO.1, hO.2, hev⟩
  subst hsz'
  have hlen : (lg_sl (as.map (zWv O))).length ≤ f.2.2.1 := by rw [zlg]; exact hn
  have hl := lv_entry (as.map (zWv O)) (n := f.2.2.1) hlen
  rw [zlvargs] at hl
  rw [lg_entry_eq]
  exact h p e s m below meth c X hT B.notSynchronized hno (fun v hv => by cases hv) (zArgs_ok as has 0) hM s.heap [] _ hP va_S.rf hl
section ZT
variable {p : Program} {e : Env} {f : zMR} {s : State} {m : MethodId} {args : Array Value} {below : List Frame} {meth : Method} {c : Code} {O : zOm} {K : Option zV → zMem → Prop} {KX : String → zMem → Prop} {pf : Nat → Option (Nat × Nat)} {pm : Nat → Option zMI} {pk : Nat → Option zV}
theorem zw1_cl : Jvm.Cond.classLink "ToldNet" 231 "java/util/NoSuchElementException" ∈ zWS := zInW_mem (pl := 1581) (by decide +kernel)
theorem zw1_in : Jvm.Cond.initialized "java/util/NoSuchElementException" ∈ zWS := zInW_mem (pl := 181) (by decide +kernel)
theorem zw2_cl : Jvm.Cond.classLink "ToldNet" 238 "java/lang/IllegalArgumentException" ∈ zWS := zInW_mem (pl := 1647) (by decide +kernel)
theorem zw2_in : Jvm.Cond.initialized "java/lang/IllegalArgumentException" ∈ zWS := zInW_mem (pl := 182) (by decide +kernel)
theorem zw_ot {w : Jvm.Cond} (h : w ∈ zWS) : vx_ot w = true := by
  unfold vx_ot
  rw [(List.mem_filter.mp h).2, Bool.or_true]
theorem zw1_gd : ∀ w ∈ Cond.classLink "ToldNet" 231 "java/util/NoSuchElementException" :: Cond.initialized "java/util/NoSuchElementException" :: zxW1, vx_ot w = true := by
  intro w hw
  rcases List.mem_cons.mp hw with rfl | hw
  · exact zw_ot zw1_cl
  · rcases List.mem_cons.mp hw with rfl | hw
    · exact zw_ot zw1_in
    · exact List.all_eq_true.mp zxW1_ot w hw
theorem zw2_gd : ∀ w ∈ Cond.classLink "ToldNet" 238 "java/lang/IllegalArgumentException" :: Cond.initialized "java/lang/IllegalArgumentException" :: zxW2, vx_ot w = true := by
  intro w hw
  rcases List.mem_cons.mp hw with rfl | hw
  · exact zw_ot zw2_cl
  · rcases List.mem_cons.mp hw with rfl | hw
    · exact zw_ot zw2_in
    · exact List.all_eq_true.mp zxW2_ot w hw
theorem zx_hx {H : Heap} {locs : List Loc} {M : zMem} {E : String} (hM : zMok (zS O) M) (hKX : KX E M) (hP : va_P (zD O) (zcl O) (zWorld O M) H) (hS : va_S (zA O s.heap.size) s.heap H locs) : ∀ t : State, s.vm.Alike t.vm → H.size ≤ t.heap.size → (∀ q : Nat, q < H.size → t.heap[q]? = H[q]?) → zXC O KX s.heap.size E s t := by
  intro t _ h1 h2
  refine ⟨M, hM, hKX, hP.kept (fun k x hx => h2 x.1 ((hP k x hx).lt)), Nat.le_trans hS.1 h1, fun q h3 h4 => ?_⟩
  rw [h2 q (Nat.lt_of_lt_of_le h3 hS.1)]
  exact hS.2.1 q h3 h4
theorem zx_go1 (X : zCx p (zRmX f) s m args meth c O (zEvOf "ToldNet" f pf pm pk)) (hl : (zLn O).stackTraces = false) (hT : zThr (zA O s.heap.size) s s.heap) (hlocks : meth.locks = false) (hno : ∀ x ∈ c.exceptionTable.toList, False) (hfr : 5 < f.2.2.2.2.1) (hlo : 82 ≤ f.2.2.2.2.2) {pc : Nat} {lv : zLv} {M : zMem} (hKX : KX "java/util/NoSuchElementException" M)
    (d0 : decode f.2.1 pc = .ok (.new 231, 3)) (d3 : decode f.2.1 (pc + 3) = .ok (.dup, 1)) (d : (decode f.2.1 (pc + 4) = .ok (.ldc 233, 2) ∧ decode f.2.1 (pc + 6) = .ok (.invokespecial 235, 3) ∧ decode f.2.1 (pc + 9) = .ok (.athrow, 1)) ∨ (decode f.2.1 (pc + 4) = .ok (.ldc_w 261, 3) ∧ decode f.2.1 (pc + 7) = .ok (.invokespecial 235, 3) ∧ decode f.2.1 (pc + 10) = .ok (.athrow, 1))) :
    zGo p e (zRmX f) s m args below meth c (zXQ O K KX below args s) O f.2.2.1 pc [] lv M := by
  obtain ⟨hx, hb, hml, hret, hown, hts, hK, hN, hfr', hlo', hszB, hSo, hCl, hF⟩ := X
  have hW := hT.words hts
  intro hst hlv hM H locs ls hP hS hl2
  obtain ⟨⟨a1, h1⟩, -, ⟨a3, h3⟩, h4, h5, -⟩ := id hT
  rcases d with ⟨d4, d6, d9⟩ | ⟨d4, d6, d9⟩
  · exact zx_throw (A := zA O s.heap.size) (by0 := prog_31_method_4_code) (ix := 13) (Yn := "java/lang/RuntimeException") (names := ["java/lang/Exception"]) hx hb hl (by decide +kernel) (by decide +kernel) (by decide +kernel) (by decide +kernel) hown (by decide +kernel) (by decide +kernel) (by decide +kernel) (hts _ zw1_cl) (hts _ zw1_in) h1 hW.1 zw1_gd h4 h5 hS (by rw [hml]; exact hl2.1) d0 d3 d4 d6 d9 (fun x hx => (hno x hx).elim) hfr hlo (Nat.le_refl _) (Nat.le_refl _) hlocks (zx_hx hM hKX hP hS) hS.2.2 (Nat.le_refl _) (Nat.le_refl _)
  · exact zx_throwW (A := zA O s.heap.size) (by0 := prog_31_method_4_code) (ix := 13) (Yn := "java/lang/RuntimeException") (names := ["java/lang/Exception"]) hx hb hl (by decide +kernel) (by decide +kernel) (by decide +kernel) (by decide +kernel) hown (by decide +kernel) (by decide +kernel) (by decide +kernel) (hts _ zw1_cl) (hts _ zw1_in) h3 hW.1 zw1_gd h4 h5 hS (by rw [hml]; exact hl2.1) d0 d3 d4 d6 d9 (fun x hx => (hno x hx).elim) hfr hlo (Nat.le_refl _) (Nat.le_refl _) hlocks (zx_hx hM hKX hP hS) hS.2.2 (Nat.le_refl _) (Nat.le_refl _)
end ZT
/-- word, of no telling -/
theorem zx_word1 {O : zOm} (hO : zWld O) (hl : (zLn O).stackTraces = false) {x t k w : Int} {M : zMem} {K : Option zV → zMem → Prop} {KX : String → zMem → Prop} (hob : zxObj (zS O) x 0 = true) (hfind : zR O F_ToldNet_find [(2, x), (0, t)] M (fun v M' => v = some (2, -1) ∧ KX "java/util/NoSuchElementException" M')) : zRX O F_ToldNet_word [(2, x), (0, t), (0, k), (0, w)] M K KX := by
  refine zRX.of hO.ok (pf := zpfF zpf_ToldNet) (pm := zpmF zpm_ToldNet) (pk := zpkF zpk_ToldNet) (by rw [hO.1]; exact zEvOk_ToldNet _) rfl rfl (Nat.le_of_ble_eq_true rfl) (fun p e s m below meth c X hT hlocks hno => ?_)
  have nr : ∀ {i : Instr} {P : Prop}, (i ≠ .ireturn ∧ i ≠ .lreturn ∧ i ≠ .areturn ∧ i ≠ .return_) → (i = .ireturn ∨ i = .lreturn ∨ i = .areturn ∨ i = .return_ → P) := fun h q => (q.elim h.1 (fun q => q.elim h.2.1 (fun q => q.elim h.2.2.1 h.2.2.2))).elim
  refine zGo_step (rt := K) (i := .aload_n 0) (n := 1) X (by decide +kernel) ⟨rfl, x, rfl, ?_⟩ (nr (by decide))
  refine zGo_step (rt := K) (i := .iload_n 1) (n := 1) X (by decide +kernel) ⟨rfl, t, rfl, ?_⟩ (nr (by decide))
  refine zGo_step (rt := K) (i := .invokevirtual 202) (n := 3) X (by decide +kernel) ⟨rfl, x, [(0, t)], [], 50, 0, 1, rfl, by decide +kernel, rfl, zxObj_ok hob, by decide, by decide +kernel, by decide +kernel, ?_⟩ (nr (by decide))
  refine hfind.mono (fun v M' hv => ?_)
  obtain ⟨rfl, hKX⟩ := hv
  refine zGo_step (rt := K) (i := .astore 4) (n := 2) X (by decide +kernel) ⟨rfl, by decide, -1, [], rfl, ?_⟩ (nr (by decide))
  refine zGo_step (rt := K) (i := .aload 4) (n := 2) X (by decide +kernel) ⟨rfl, -1, rfl, ?_⟩ (nr (by decide))
  refine zGo_step (rt := K) (i := .ifnull 16) (n := 3) X (by decide +kernel) ⟨rfl, -1, [], 25, rfl, rfl, fun _ => ?_, fun q => absurd rfl q⟩ (nr (by decide))
  exact zx_go1 X hl hT hlocks hno (by decide) (by decide) hKX (by decide +kernel) (by decide +kernel) (Or.inl ⟨by decide +kernel, by decide +kernel, by decide +kernel⟩)
/-- except, of no telling -/
theorem zx_except1 {O : zOm} (hO : zWld O) (hl : (zLn O).stackTraces = false) {x t k w : Int} {M : zMem} {K : Option zV → zMem → Prop} {KX : String → zMem → Prop} (hob : zxObj (zS O) x 0 = true) (hfind : zR O F_ToldNet_find [(2, x), (0, t)] M (fun v M' => v = some (2, -1) ∧ KX "java/util/NoSuchElementException" M')) : zRX O F_ToldNet_except [(2, x), (0, t), (0, k), (0, w)] M K KX := by
  refine zRX.of hO.ok (pf := zpfF zpf_ToldNet) (pm := zpmF zpm_ToldNet) (pk := zpkF zpk_ToldNet) (by rw [hO.1]; exact zEvOk_ToldNet _) rfl rfl (Nat.le_of_ble_eq_true rfl) (fun p e s m below meth c X hT hlocks hno => ?_)
  have nr : ∀ {i : Instr} {P : Prop}, (i ≠ .ireturn ∧ i ≠ .lreturn ∧ i ≠ .areturn ∧ i ≠ .return_) → (i = .ireturn ∨ i = .lreturn ∨ i = .areturn ∨ i = .return_ → P) := fun h q => (q.elim h.1 (fun q => q.elim h.2.1 (fun q => q.elim h.2.2.1 h.2.2.2))).elim
  refine zGo_step (rt := K) (i := .aload_n 0) (n := 1) X (by decide +kernel) ⟨rfl, x, rfl, ?_⟩ (nr (by decide))
  refine zGo_step (rt := K) (i := .iload_n 1) (n := 1) X (by decide +kernel) ⟨rfl, t, rfl, ?_⟩ (nr (by decide))
  refine zGo_step (rt := K) (i := .invokevirtual 202) (n := 3) X (by decide +kernel) ⟨rfl, x, [(0, t)], [], 50, 0, 1, rfl, by decide +kernel, rfl, zxObj_ok hob, by decide, by decide +kernel, by decide +kernel, ?_⟩ (nr (by decide))
  refine hfind.mono (fun v M' hv => ?_)
  obtain ⟨rfl, hKX⟩ := hv
  refine zGo_step (rt := K) (i := .astore 4) (n := 2) X (by decide +kernel) ⟨rfl, by decide, -1, [], rfl, ?_⟩ (nr (by decide))
  refine zGo_step (rt := K) (i := .aload 4) (n := 2) X (by decide +kernel) ⟨rfl, -1, rfl, ?_⟩ (nr (by decide))
  refine zGo_step (rt := K) (i := .ifnonnull 7) (n := 3) X (by decide +kernel) ⟨rfl, -1, [], 16, rfl, rfl, fun q => absurd rfl q, fun _ => ?_⟩ (nr (by decide))
  refine zGo_step (rt := K) (i := .iconst (-1)) (n := 1) X (by decide +kernel) ⟨rfl, by decide, ?_⟩ (nr (by decide))
  refine zGo_step (rt := K) (i := .goto 12) (n := 3) X (by decide +kernel) ⟨rfl, 25, rfl, ?_⟩ (nr (by decide))
  refine zGo_step (rt := K) (i := .istore 5) (n := 2) X (by decide +kernel) ⟨rfl, by decide, -1, [], rfl, ?_⟩ (nr (by decide))
  refine zGo_step (rt := K) (i := .aload 4) (n := 2) X (by decide +kernel) ⟨rfl, -1, rfl, ?_⟩ (nr (by decide))
  refine zGo_step (rt := K) (i := .ifnull 9) (n := 3) X (by decide +kernel) ⟨rfl, -1, [], 38, rfl, rfl, fun _ => ?_, fun q => absurd rfl q⟩ (nr (by decide))
  exact zx_go1 X hl hT hlocks hno (by decide) (by decide) hKX (by decide +kernel) (by decide +kernel) (Or.inr ⟨by decide +kernel, by decide +kernel, by decide +kernel⟩)
end
