section ZX2
variable {p : Program} {l : Launch} {e : Env} {R : Room} {s : State} {m : MethodId} {args : Array Value} {below : List Frame} {meth : Method} {c : Code} {H : Heap} {locs : List Loc} {cells slots : Nat} {pc : Nat} {ls : Array Slot} {rest : List Value}
variable {Qc : Array Value → State → Outcome → State → Prop} {XC : String → State → State → Prop} {free : Addr → Prop}
theorem zx_throwW {cc : ByteArray} (hexec : p.tables.exec = Jvm.exec) (hb : c.code = cc) (hl : l.stackTraces = false) {own cls Yn text : String} {names : List String} {ik is ic ix mc ms sa : Nat} {by0 : ByteArray} {A : Nat → Prop}
    (b0 : decode by0 0 = .ok (.aload_n 0, 1)) (b1 : decode by0 1 = .ok (.aload_n 1, 1)) (b2 : decode by0 2 = .ok (.invokespecial ix, 3)) (b5 : decode by0 5 = .ok (.return_, 1))
    (hown : s.vm.findClass own = some m.cls) (hcls : Bundle.fit cls = true) (hYn : Bundle.fit Yn = true) (hnames : ∀ n ∈ names, Bundle.fit n = true)
    (hk : (Cond.classLink own ik cls).before args s = true) (hini : (Cond.initialized cls).before args s = true) (hstr : vk_R own is text sa s) (hat : ∀ w ∈ (zxAt own ic cls ix by0 Yn names).filter vx_no, w.before args s = true)
    (hgood : ∀ w ∈ Cond.classLink own ik cls :: Cond.initialized cls :: (zxAt own ic cls ix by0 Yn names).filter vx_no, vx_ot w = true)
    (hU : vx_Zq Bundle.tN "UNASSIGNED_STACK" Bundle.steD A s s.heap) (hN : vx_Zq Bundle.tN "SUPPRESSED_SENTINEL" Bundle.listD A s s.heap) (hS : va_S A s.heap H locs) (hsize : ls.size = c.maxLocals)
    (d0 : decode cc pc = .ok (.new ik, 3)) (d3 : decode cc (pc + 3) = .ok (.dup, 1)) (d4 : decode cc (pc + 4) = .ok (.ldc_w is, 3)) (d6 : decode cc (pc + 7) = .ok (.invokespecial ic, 3)) (d9 : decode cc (pc + 10) = .ok (.athrow, 1))
    (hout : ∀ x ∈ c.exceptionTable.toList, covers x (pc + 10) = false)
    (hRframes : names.length + 4 < R.frames) (hRlocals : (rest.map fun v => v.category).sum + (13 * (names.length + 2) + 43) ≤ R.locals) (hRcells : cells + 1 ≤ R.cells) (hRslots : slots + 6 ≤ R.slots) (hlocks : meth.locks = false)
    (hx : ∀ t : State, s.vm.Alike t.vm → H.size ≤ t.heap.size → (∀ q : Nat, q < H.size → t.heap[q]? = H[q]?) → XC cls s t)
    (hf : ∀ z ∈ locs, free z.base) (hc : cells + 1 ≤ mc) (hs : slots + 6 ≤ ms) :
    W p l e R s m args below meth c H locs cells slots (vx_MQ below Qc XC args s mc ms free) (F0 m pc ls rest) := by
  intro T hT X
  have htr : e.platform.stackTraces = false := (show e.platform.stackTraces = l.stackTraces by rw [X.admits.platform]).trans hl
  have Y := vx_rebase X (R' := { frames := R.frames, locals := R.locals, cells := 1, slots := 6 }) (Nat.le_refl _) (Nat.le_refl _) hRcells hRslots
  obtain ⟨s', hA⟩ : ∃ z, z = (T.setVm s.vm).setFrames (.invoking m args :: below) := ⟨_, rfl⟩
  rw [← hA] at Y
  have hvm : s'.vm = s.vm := by rw [hA]; rfl
  have hhp : s'.heap = H := by rw [hA]; exact hT
  have hW0 : s.WarmedH s'.vm := by rw [hvm]; exact State.WarmedH.refl s
  have up : ∀ w, w ∈ Cond.classLink own ik cls :: Cond.initialized cls :: (zxAt own ic cls ix by0 Yn names).filter vx_no → w.before args s = true → w.before args s' = true := fun w hw h => vx_ot_at hW0 hvm.symm (hgood w hw) h
  have hU' : vx_Zq Bundle.tN "UNASSIGNED_STACK" Bundle.steD A s' s'.heap := by rw [hhp]; exact vx_Zq.moved hW0.alike (hU.kept hS.2.1)
  have hN' : vx_Zq Bundle.tN "SUPPRESSED_SENTINEL" Bundle.listD A s' s'.heap := by rw [hhp]; exact vx_Zq.moved hW0.alike (hN.kept hS.2.1)
  have h : ∀ w ∈ zxAt own ic cls ix by0 Yn names, w.before args s' = true := vx_own (fun w hw => up w (List.mem_cons_of_mem _ (List.mem_cons_of_mem _ hw)) (hat w hw)) (vx_isRefq hU'.1) (vx_isRefq hN'.1) hU'.2.word hN'.2.word
  have hown' : s'.vm.findClass own = some m.cls := by rw [hvm]; exact hown
  have hins : (Cond.instantiable cls 6).before args s' = true := h _ (by simp [zxAt])
  obtain ⟨vm₁, cX, kX, hfX, hkX, -, -, X₁, st1⟩ := Y.newCold hexec (own := own) (C := cls) (index := ik) (n := 6) hown' (up _ List.mem_cons_self hk) hins (up _ (List.mem_cons_of_mem _ List.mem_cons_self) hini)
    (g := F0 m pc ls rest) rfl (by rw [hb]; exact d0) (Nat.le_refl _) (Nat.le_refl _)
  generalize hT1 : (T.setVm vm₁).pushCell { cls := cX, slots := kX.instanceTypes.map defaultValue, vm := .none } = T1 at X₁ st1
  have hcat : (Value.ref T.heap.size).category = 1 := rfl
  have hcellA : T1.heap[T.heap.size]? = some (freshCell cX kX) := by rw [← hT1]; exact State.heap_pushCell_size _ _
  have d3' : decode c.code (pc + 3) = .ok (.dup, 1) := by rw [hb]; exact d3
  have d4' : decode c.code (pc + 4) = .ok (.ldc_w is, 3) := by rw [hb]; exact d4
  have hstr' : vk_R own is text sa s' := vk_R.warm hW0 hstr
  obtain ⟨U, hsteps, hrun, hend, hW, hsame, ce, hce, hO1, hO2⟩ := zx_ctor X₁ hexec htr (ic := ic) b0 b1 b2 b5 hown' hcls hYn hnames h (fun x hx => nomatch hx) hfX hkX hcellA (by rw [hhp, hT]; exact Nat.le_refl _) (msg := .ref sa) rfl
    (g := { method := m, pc := pc + 7, locals := ls, stack := .ref sa :: .ref T.heap.size :: .ref T.heap.size :: rest, locked := none }) rfl hsize rfl rfl (rest := rest) rfl
    (by rw [hb]; exact d6) (by rw [hb]; exact d9) hout hRframes (by simp only [List.map_cons, List.sum_cons, hcat]; omega) hlocks
  obtain ⟨f1, f2⟩ := vx_frame hsame
  rw [hhp] at f1 f2
  have hWs : s.WarmedH U.vm := State.WarmedH.trans hW0 hW
  have hcl : s.vm.findClass cls = some ce.cls := by rw [hvm] at hO1; exact hO1
  have hall : s.sameButNew ({ U with vm := s.vm } : State) locs mc ms := by
    subst hA
    obtain ⟨e1, e2⟩ := hsame
    rw [State.setFrames_setFrames] at e1
    have h2 : (T.setVm s.vm).sameButNew ({ U with vm := s.vm } : State) [] (0 + 1) (0 + 6) := ⟨e1, e2⟩
    have h3 := X.same.trans h2
    rw [List.append_nil] at h3
    exact h3.mono hc hs
  refine ⟨U, ?_, .threw T.heap.size, hrun, hend, Or.inr ⟨T.heap.size, rfl, cls, ce, locs, hx U hWs.alike f1 (fun q hq => f2 q hq (fun z hz => nomatch hz)), hce, hO2, hcl, hWs, hall, hf⟩⟩
  refine st1 _ ?_
  show Steps p.tables e below (T1.setTop { method := m, pc := pc + 3, locals := ls, stack := .ref T.heap.size :: rest, locked := none }) _
  jvm_step X₁.here [X₁.here.top, hexec, d3', Value.category]
  exact X₁.ldcStringW hexec (own := own) (text := text) (index := is) (a := sa) hown' hstr'.1 hstr'.2
    (g := { method := m, pc := pc + 4, locals := ls, stack := .ref T.heap.size :: .ref T.heap.size :: rest, locked := none }) rfl d4' _ hsteps
end ZX2
def zxD (w : Cond) : Bool := match w with
  | .declares _ => true
  | _ => false
def zxIn : List Cond → List Nat → Bool
  | [], [] => true
  | w :: r, p :: q => decide (lw_tbl[p]? = some w) && zxIn r q
  | _, _ => false
theorem zxIn_ok : ∀ {ws : List Cond} {ps : List Nat}, zxIn ws ps = true → ∀ w ∈ ws, w ∈ lw_tbl := by
  intro ws
  induction ws with
  | nil => intro ps _ w hw; cases hw
  | cons w r ih =>
    intro ps h x hx
    cases ps with
    | nil => cases h
    | cons p q =>
      simp only [zxIn, Bool.and_eq_true, decide_eq_true_eq] at h
      rcases List.mem_cons.mp hx with rfl | hx
      · exact List.mem_of_getElem? h.1
      · exact ih h.2 x hx
theorem zxW1_in : ∀ w ∈ zxW1, w ∈ lw_tbl := zxIn_ok (ps := [178, 1603, 1612, 1615, 1618, 1620, 1604, 1605, 189, 190, 1606, 1611, 1616, 1636, 1593, 1637, 1595, 1638, 1597, 1607, 1609, 1599, 1632, 1633, 1635, 1599, 1623, 1624, 1625, 1626, 1585, 1626, 1627, 1628, 1629, 1587, 1629, 1630, 1631, 1632, 1589, 1622, 1582, 1590, 1591, 1592, 1594, 1596, 1598, 1602, 1601, 1600]) (by decide +kernel)
theorem zxW2_in : ∀ w ∈ zxW2, w ∈ lw_tbl := zxIn_ok (ps := [178, 1603, 1612, 1615, 1618, 1620, 1604, 1605, 189, 190, 1606, 1611, 1616, 1636, 1593, 1637, 1595, 1638, 1597, 1607, 1609, 1599, 1632, 1633, 1635, 1599, 1658, 1659, 1660, 1626, 1585, 1626, 1627, 1628, 1629, 1587, 1629, 1630, 1631, 1632, 1589, 1657, 1648, 1650, 1614, 1651, 1652, 1653, 1654, 1602, 1601, 1655]) (by decide +kernel)
theorem zxW1_gd : zxW1.all (fun w => goodWord w || zxD w) = true := by decide +kernel
theorem zxW2_gd : zxW2.all (fun w => goodWord w || zxD w) = true := by decide +kernel
def zxDecl : List Cond := (zxW1 ++ zxW2).filter zxD
/-- what a throw reads of the old heap and the tables -/
def zThr (A : Nat → Prop) (U : State) (H : Heap) : Prop := (∃ a, vk_R "ToldNet" 233 "no such telling or word" a U) ∧ (∃ a, vk_R "ToldNet" 240 "no such what" a U) ∧ (∃ a, vk_R "ToldNet" 261 "no such telling or except" a U) ∧ vx_Zq Bundle.tN "UNASSIGNED_STACK" Bundle.steD A U H ∧ vx_Zq Bundle.tN "SUPPRESSED_SENTINEL" Bundle.listD A U H ∧ ∀ w ∈ zxDecl, va_Nw w U
theorem zxDecl_kind {w : Cond} (h : w ∈ zxDecl) : ∃ x, w = .declares x := by
  have h1 := (List.mem_filter.mp h).2
  unfold zxD at h1
  split at h1
  next x => exact ⟨x, rfl⟩
  next => cases h1
theorem zThr.to {A A' : Nat → Prop} {U U' : State} {H H' : Heap} (h : zThr A U H) (hW : U.WarmedH U'.vm) (hk : ∀ a : Nat, a < H.size → ¬ A a → H'[a]? = H[a]?) (hA : ∀ q, A' q → A q) : zThr A' U' H' := by
  obtain ⟨⟨a1, h1⟩, ⟨a2, h2⟩, ⟨a3, h3⟩, h4, h5, h6⟩ := h
  refine ⟨⟨a1, h1.warm hW⟩, ⟨a2, h2.warm hW⟩, ⟨a3, h3.warm hW⟩, ((h4.moved hW.alike).kept hk).narrow hA, ((h5.moved hW.alike).kept hk).narrow hA, fun w hw => ?_⟩
  obtain ⟨x, rfl⟩ := zxDecl_kind hw
  exact va_Nw.warmD hW (h6 _ hw)
theorem zThr.same {A : Nat → Prop} {U U' : State} {H : Heap} (h : zThr A U H) (hv : U'.vm = U.vm) : zThr A U' H := by
  obtain ⟨⟨a1, h1⟩, ⟨a2, h2⟩, ⟨a3, h3⟩, h4, h5, h6⟩ := h
  have hal : U.vm.Alike U'.vm := by rw [hv]; exact Vm.Alike.refl _
  refine ⟨⟨a1, h1.same hv⟩, ⟨a2, h2.same hv⟩, ⟨a3, h3.same hv⟩, h4.moved hal, h5.moved hal, fun w hw => ?_⟩
  obtain ⟨x, rfl⟩ := zxDecl_kind hw
  exact va_Nw.same rfl hv.symm (h6 _ hw)
/-- the words of a throw, out of the good ones and the declarations -/
theorem zThr.words {A : Nat → Prop} {s : State} {args : Array Value} (h : zThr A s s.heap) (hts : ∀ w ∈ zWS, w.before args s = true) : (∀ w ∈ zxW1, w.before args s = true) ∧ ∀ w ∈ zxW2, w.before args s = true := by
  have key : ∀ (W : List Cond), W.all (fun w => goodWord w || zxD w) = true → (∀ w ∈ W, w ∈ lw_tbl) → (∀ w ∈ W, w ∈ zxW1 ++ zxW2) → ∀ w ∈ W, w.before args s = true := by
    intro W hg hin hsub w hw
    have h1 := List.all_eq_true.mp hg w hw
    rw [Bool.or_eq_true] at h1
    rcases h1 with h1 | h1
    · exact hts w (List.mem_filter.mpr ⟨hin w hw, h1⟩)
    · have h2 : w ∈ zxDecl := List.mem_filter.mpr ⟨hsub w hw, h1⟩
      obtain ⟨x, rfl⟩ := zxDecl_kind h2
      exact va_Nw.use rfl (h.2.2.2.2.2 _ h2)
  exact ⟨key zxW1 zxW1_gd zxW1_in (fun w hw => List.mem_append_left _ hw), key zxW2 zxW2_gd zxW2_in (fun w hw => List.mem_append_right _ hw)⟩
theorem zThr_start {s : State} {b : Nat} (hts : ∀ w ∈ lw_tbl, w.before #[Value.ref b] s = true) (hgv : (Jvm.Cond.and given_1 narrow_1).before #[Value.ref b] s = true) : zThr (fun q => s.heap.size ≤ q) s s.heap := by
  have hs := flat_of_before _ hgv
  have hA : ∀ a : Nat, a < s.heap.size → ¬ (fun q => s.heap.size ≤ q) a := fun a h q => absurd h (Nat.not_lt.mpr q)
  have str : ∀ (k : Nat) (tx : String), (Cond.stringRef "ToldNet" k tx).before #[Value.ref b] s = true → (Cond.exactly (.string "ToldNet" k) "java/lang/String").before #[Value.ref b] s = true → ∃ a, vk_R "ToldNet" k tx a s := by
    intro k tx h1 h2
    obtain ⟨a, c, cA, kA, q1, -⟩ := Cond.exactly_spec (args := #[Value.ref b]) (first := s) (o := none) (s := s) (idx := []) (t := .string "ToldNet" k) (cls := "java/lang/String") h2
    exact ⟨a, vk_R.of h1 q1⟩
  refine ⟨str 233 _ (hts _ (List.mem_of_getElem? (i := 1621) (by decide +kernel))) (hs _ (by decide +kernel)), str 240 _ (hts _ (List.mem_of_getElem? (i := 1656) (by decide +kernel))) (hs _ (by decide +kernel)), str 261 _ (hts _ (List.mem_of_getElem? (i := 1673) (by decide +kernel))) (hs _ (by decide +kernel)), ?_, ?_, fun w hw => ?_⟩
  · exact vx_Zqof (args := #[Value.ref b]) (hts _ (List.mem_of_getElem? (i := 1608) (by decide +kernel))) (hts _ (List.mem_of_getElem? (i := 178) (by decide +kernel))) (hs _ (by decide +kernel)) hA
  · exact vx_Zqof (args := #[Value.ref b]) (hts _ (List.mem_of_getElem? (i := 1610) (by decide +kernel))) (hts _ (List.mem_of_getElem? (i := 178) (by decide +kernel))) (hs _ (by decide +kernel)) hA
  · obtain ⟨x, rfl⟩ := zxDecl_kind hw
    refine va_Nw.of rfl (hts _ ?_)
    rcases List.mem_append.mp (List.mem_filter.mp hw).1 with h | h
    · exact zxW1_in _ h
    · exact zxW2_in _ h
