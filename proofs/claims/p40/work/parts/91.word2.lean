/-! ===== methods that return or throw ===== -/
def zPcX (O : zOm) (M : zMem) (sz : Nat) (as : List zV) : Array Value → State → Prop := va_Pc (as.map (zWv O)) (fun U => U.heap.size = sz ∧ va_P (zD O) (zcl O) (zWorld O M) U.heap ∧ va_K (zD O) (zcl O) (zTys O) U ∧ zNw U ∧ zThr (zA O sz) U U.heap)
def zXC (O : zOm) (KX : String → zMem → Prop) (sz : Nat) : String → State → State → Prop := fun E st t => ∃ u, zMok (zS O) u ∧ KX E u ∧ va_P (zD O) (zcl O) (zWorld O u) t.heap ∧ va_F (zA O sz) st t
def zRmX (f : zMR) : Room := { frames := f.2.2.2.2.1, cells := 1, slots := 6, locals := f.2.2.2.2.2 }
def zRX (O : zOm) (f : zMR) (as : List zV) (M : zMem) (K : Option zV → zMem → Prop) (KX : String → zMem → Prop) : Prop := (∀ v ∈ as, zok v) → zMok (zS O) M → ∀ sz, zB O + (zS O).length ≤ sz → vx_Met (zLn O) f.1 (zWs f) (zRmX f) (zPcX O M sz as) (zQ O K sz) (zXC O KX sz) 1 6 (zA O sz)
abbrev zXQ (O : zOm) (K : Option zV → zMem → Prop) (KX : String → zMem → Prop) (below : List Frame) (args : Array Value) (s : State) : State → Prop := vx_MQ below (zQ O K s.heap.size) (zXC O KX s.heap.size) args s 1 6 (zA O s.heap.size)
theorem zRX.of {O : zOm} (hO : zOmOk O) {own : String} {f : zMR} {pf : Nat → Option (Nat × Nat)} {pm : Nat → Option zMI} {pk : Nat → Option zV} (hev : zEvOk (zcl O) (zEvOf own f pf pm pk)) (hown : f.1.cls = own) (hpl : plainName f.1.cls = true) {as : List zV} (hn : zcats as ≤ f.2.2.1) {M : zMem} {K : Option zV → zMem → Prop} {KX : String → zMem → Prop}
    (h : ∀ (p : Program) (e : Env) (s : State) (m : MethodId) (below : List Frame) (meth : Method) (c : Code), zCx p (zRmX f) s m (as.map (zWv O)).toArray meth c O (zEvOf own f pf pm pk) → zThr (zA O s.heap.size) s s.heap → meth.locks = false → (∀ x ∈ c.exceptionTable.toList, False) →
      zGo p e (zRmX f) s m (as.map (zWv O)).toArray below meth c (zXQ O K KX below (as.map (zWv O)).toArray s) O f.2.2.1 0 [] (zArgs 0 as) M) : zRX O f as M K KX := by
  intro has hM sz hsz
  refine vx_ofW (cc := f.2.1) (maxL := f.2.2.1) (ret := f.2.2.2.1) hpl rfl ?_
  intro p e s m args below meth c s₁ B hml hno hv
  obtain ⟨rfl, hsz', hP, hK, hN, hT⟩ := hv
  have hts : ∀ w ∈ zWs f, w.before (as.map (zWv O)).toArray s = true := atoms_spec (ws := zWs f) B.pre
  have X : zCx p (zRmX f) s m (as.map (zWv O)).toArray meth c O (zEvOf own f pf pm pk) :=
    ⟨B.exec, B.bytes, hml, B.returns, by rw [← hown]; exact findClass_of_methodNamed B.named, fun w hw => hts w (List.mem_cons_of_mem _ hw), hK, hN, rfl, rfl, by rw [hsz']; exact hsz, hO.1, hO.2, hev⟩
  subst hsz'
  have hlen : (lg_sl (as.map (zWv O))).length ≤ f.2.2.1 := by rw [zlg]; exact hn
  have hl := lv_entry (as.map (zWv O)) (n := f.2.2.1) hlen
  rw [zlvargs] at hl
  rw [lg_entry_eq]
  exact h p e s m below meth c X hT B.notSynchronized hno (fun v hv => by cases hv) (zArgs_ok as has 0) hM s.heap [] _ hP va_S.rf hl
section ZT
variable {p : Program} {e : Env} {f : zMR} {s : State} {m : MethodId} {args : Array Value} {below : List Frame} {meth : Method} {c : Code} {O : zOm} {K : Option zV → zMem → Prop} {KX : String → zMem → Prop} {pf : Nat → Option (Nat × Nat)} {pm : Nat → Option zMI} {pk : Nat → Option zV}
theorem zw1_cl : Jvm.Cond.classLink "ToldNet" 231 "java/util/NoSuchElementException" ∈ zWS := zInW_mem (pl := 1581) (by decide +kernel)
theorem zw1_in : Jvm.Cond.initialized "java/util/NoSuchElementException" ∈ zWS := zInW_mem (pl := 181) (by decide +kernel)
theorem zw2_cl : Jvm.Cond.classLink "ToldNet" 238 "java/lang/IllegalArgumentException" ∈ zWS := zInW_mem (pl := 1647) (by decide +kernel)
theorem zw2_in : Jvm.Cond.initialized "java/lang/IllegalArgumentException" ∈ zWS := zInW_mem (pl := 182) (by decide +kernel)
theorem zw_ot {w : Jvm.Cond} (h : w ∈ zWS) : vx_ot w = true := by
  unfold vx_ot
  rw [(List.mem_filter.mp h).2, Bool.or_true]
theorem zw1_gd : ∀ w ∈ Cond.classLink "ToldNet" 231 "java/util/NoSuchElementException" :: Cond.initialized "java/util/NoSuchElementException" :: zxW1, vx_ot w = true := by
  intro w hw
  rcases List.mem_cons.mp hw with rfl | hw
  · exact zw_ot zw1_cl
  · rcases List.mem_cons.mp hw with rfl | hw
    · exact zw_ot zw1_in
    · exact List.all_eq_true.mp zxW1_ot w hw
theorem zw2_gd : ∀ w ∈ Cond.classLink "ToldNet" 238 "java/lang/IllegalArgumentException" :: Cond.initialized "java/lang/IllegalArgumentException" :: zxW2, vx_ot w = true := by
  intro w hw
  rcases List.mem_cons.mp hw with rfl | hw
  · exact zw_ot zw2_cl
  · rcases List.mem_cons.mp hw with rfl | hw
    · exact zw_ot zw2_in
    · exact List.all_eq_true.mp zxW2_ot w hw
theorem zx_hx {H : Heap} {locs : List Loc} {M : zMem} {E : String} (hM : zMok (zS O) M) (hKX : KX E M) (hP : va_P (zD O) (zcl O) (zWorld O M) H) (hS : va_S (zA O s.heap.size) s.heap H locs) : ∀ t : State, s.vm.Alike t.vm → H.size ≤ t.heap.size → (∀ q : Nat, q < H.size → t.heap[q]? = H[q]?) → zXC O KX s.heap.size E s t := by
  intro t _ h1 h2
  refine ⟨M, hM, hKX, hP.kept (fun k x hx => h2 x.1 ((hP k x hx).lt)), Nat.le_trans hS.1 h1, fun q h3 h4 => ?_⟩
  rw [h2 q (Nat.lt_of_lt_of_le h3 hS.1)]
  exact hS.2.1 q h3 h4
theorem zx_go1 (X : zCx p (zRmX f) s m args meth c O (zEvOf "ToldNet" f pf pm pk)) (hl : (zLn O).stackTraces = false) (hT : zThr (zA O s.heap.size) s s.heap) (hlocks : meth.locks = false) (hno : ∀ x ∈ c.exceptionTable.toList, False) (hfr : 5 < f.2.2.2.2.1) (hlo : 82 ≤ f.2.2.2.2.2) {pc : Nat} {lv : zLv} {M : zMem} (hKX : KX "java/util/NoSuchElementException" M)
    (d0 : decode f.2.1 pc = .ok (.new 231, 3)) (d3 : decode f.2.1 (pc + 3) = .ok (.dup, 1)) (d : (decode f.2.1 (pc + 4) = .ok (.ldc 233, 2) ∧ decode f.2.1 (pc + 6) = .ok (.invokespecial 235, 3) ∧ decode f.2.1 (pc + 9) = .ok (.athrow, 1)) ∨ (decode f.2.1 (pc + 4) = .ok (.ldc_w 261, 3) ∧ decode f.2.1 (pc + 7) = .ok (.invokespecial 235, 3) ∧ decode f.2.1 (pc + 10) = .ok (.athrow, 1))) :
    zGo p e (zRmX f) s m args below meth c (zXQ O K KX below args s) O f.2.2.1 pc [] lv M := by
  obtain ⟨hx, hb, hml, hret, hown, hts, hK, hN, hfr', hlo', hszB, hSo, hCl, hF⟩ := X
  have hW := hT.words hts
  intro hst hlv hM H locs ls hP hS hl2
  obtain ⟨⟨a1, h1⟩, -, ⟨a3, h3⟩, h4, h5, -⟩ := id hT
  rcases d with ⟨d4, d6, d9⟩ | ⟨d4, d6, d9⟩
  · exact zx_throw (A := zA O s.heap.size) (by0 := prog_31_method_4_code) (ix := 13) (Yn := "java/lang/RuntimeException") (names := ["java/lang/Exception"]) hx hb hl (by decide +kernel) (by decide +kernel) (by decide +kernel) (by decide +kernel) hown (by decide +kernel) (by decide +kernel) (by decide +kernel) (hts _ zw1_cl) (hts _ zw1_in) h1 hW.1 zw1_gd h4 h5 hS (by rw [hml]; exact hl2.1) d0 d3 d4 d6 d9 (fun x hx => (hno x hx).elim) hfr hlo (Nat.le_refl _) (Nat.le_refl _) hlocks (zx_hx hM hKX hP hS) hS.2.2 (Nat.le_refl _) (Nat.le_refl _)
  · exact zx_throwW (A := zA O s.heap.size) (by0 := prog_31_method_4_code) (ix := 13) (Yn := "java/lang/RuntimeException") (names := ["java/lang/Exception"]) hx hb hl (by decide +kernel) (by decide +kernel) (by decide +kernel) (by decide +kernel) hown (by decide +kernel) (by decide +kernel) (by decide +kernel) (hts _ zw1_cl) (hts _ zw1_in) h3 hW.1 zw1_gd h4 h5 hS (by rw [hml]; exact hl2.1) d0 d3 d4 d6 d9 (fun x hx => (hno x hx).elim) hfr hlo (Nat.le_refl _) (Nat.le_refl _) hlocks (zx_hx hM hKX hP hS) hS.2.2 (Nat.le_refl _) (Nat.le_refl _)
end ZT
/-- word, of no telling -/
theorem zx_word1 {O : zOm} (hO : zWld O) (hl : (zLn O).stackTraces = false) {x t k w : Int} {M : zMem} {K : Option zV → zMem → Prop} {KX : String → zMem → Prop} (hob : zxObj (zS O) x 0 = true) (hfind : zR O F_ToldNet_find [(2, x), (0, t)] M (fun v M' => v = some (2, -1) ∧ KX "java/util/NoSuchElementException" M')) : zRX O F_ToldNet_word [(2, x), (0, t), (0, k), (0, w)] M K KX := by
  refine zRX.of hO.ok (pf := zpfF zpf_ToldNet) (pm := zpmF zpm_ToldNet) (pk := zpkF zpk_ToldNet) (by rw [hO.1]; exact zEvOk_ToldNet _) rfl rfl (Nat.le_of_ble_eq_true rfl) (fun p e s m below meth c X hT hlocks hno => ?_)
  have nr : ∀ {i : Instr} {P : Prop}, (i ≠ .ireturn ∧ i ≠ .lreturn ∧ i ≠ .areturn ∧ i ≠ .return_) → (i = .ireturn ∨ i = .lreturn ∨ i = .areturn ∨ i = .return_ → P) := fun h q => (q.elim h.1 (fun q => q.elim h.2.1 (fun q => q.elim h.2.2.1 h.2.2.2))).elim
  refine zGo_step (rt := K) (i := .aload_n 0) (n := 1) X (by decide +kernel) ⟨rfl, x, rfl, ?_⟩ (nr (by decide))
  refine zGo_step (rt := K) (i := .iload_n 1) (n := 1) X (by decide +kernel) ⟨rfl, t, rfl, ?_⟩ (nr (by decide))
  refine zGo_step (rt := K) (i := .invokevirtual 202) (n := 3) X (by decide +kernel) ⟨rfl, x, [(0, t)], [], 50, 0, 1, rfl, by decide +kernel, rfl, zxObj_ok hob, by decide, by decide +kernel, by decide +kernel, ?_⟩ (nr (by decide))
  refine hfind.mono (fun v M' hv => ?_)
  obtain ⟨rfl, hKX⟩ := hv
  refine zGo_step (rt := K) (i := .astore 4) (n := 2) X (by decide +kernel) ⟨rfl, by decide, -1, [], rfl, ?_⟩ (nr (by decide))
  refine zGo_step (rt := K) (i := .aload 4) (n := 2) X (by decide +kernel) ⟨rfl, -1, rfl, ?_⟩ (nr (by decide))
  refine zGo_step (rt := K) (i := .ifnull 16) (n := 3) X (by decide +kernel) ⟨rfl, -1, [], 25, rfl, rfl, fun _ => ?_, fun q => absurd rfl q⟩ (nr (by decide))
  exact zx_go1 X hl hT hlocks hno (by decide) (by decide) hKX (by decide +kernel) (by decide +kernel) (Or.inl ⟨by decide +kernel, by decide +kernel, by decide +kernel⟩)
/-- except, of no telling -/
theorem zx_except1 {O : zOm} (hO : zWld O) (hl : (zLn O).stackTraces = false) {x t k w : Int} {M : zMem} {K : Option zV → zMem → Prop} {KX : String → zMem → Prop} (hob : zxObj (zS O) x 0 = true) (hfind : zR O F_ToldNet_find [(2, x), (0, t)] M (fun v M' => v = some (2, -1) ∧ KX "java/util/NoSuchElementException" M')) : zRX O F_ToldNet_except [(2, x), (0, t), (0, k), (0, w)] M K KX := by
  refine zRX.of hO.ok (pf := zpfF zpf_ToldNet) (pm := zpmF zpm_ToldNet) (pk := zpkF zpk_ToldNet) (by rw [hO.1]; exact zEvOk_ToldNet _) rfl rfl (Nat.le_of_ble_eq_true rfl) (fun p e s m below meth c X hT hlocks hno => ?_)
  have nr : ∀ {i : Instr} {P : Prop}, (i ≠ .ireturn ∧ i ≠ .lreturn ∧ i ≠ .areturn ∧ i ≠ .return_) → (i = .ireturn ∨ i = .lreturn ∨ i = .areturn ∨ i = .return_ → P) := fun h q => (q.elim h.1 (fun q => q.elim h.2.1 (fun q => q.elim h.2.2.1 h.2.2.2))).elim
  refine zGo_step (rt := K) (i := .aload_n 0) (n := 1) X (by decide +kernel) ⟨rfl, x, rfl, ?_⟩ (nr (by decide))
  refine zGo_step (rt := K) (i := .iload_n 1) (n := 1) X (by decide +kernel) ⟨rfl, t, rfl, ?_⟩ (nr (by decide))
  refine zGo_step (rt := K) (i := .invokevirtual 202) (n := 3) X (by decide +kernel) ⟨rfl, x, [(0, t)], [], 50, 0, 1, rfl, by decide +kernel, rfl, zxObj_ok hob, by decide, by decide +kernel, by decide +kernel, ?_⟩ (nr (by decide))
  refine hfind.mono (fun v M' hv => ?_)
  obtain ⟨rfl, hKX⟩ := hv
  refine zGo_step (rt := K) (i := .astore 4) (n := 2) X (by decide +kernel) ⟨rfl, by decide, -1, [], rfl, ?_⟩ (nr (by decide))
  refine zGo_step (rt := K) (i := .aload 4) (n := 2) X (by decide +kernel) ⟨rfl, -1, rfl, ?_⟩ (nr (by decide))
  refine zGo_step (rt := K) (i := .ifnonnull 7) (n := 3) X (by decide +kernel) ⟨rfl, -1, [], 16, rfl, rfl, fun q => absurd rfl q, fun _ => ?_⟩ (nr (by decide))
  refine zGo_step (rt := K) (i := .iconst (-1)) (n := 1) X (by decide +kernel) ⟨rfl, by decide, ?_⟩ (nr (by decide))
  refine zGo_step (rt := K) (i := .goto 12) (n := 3) X (by decide +kernel) ⟨rfl, 25, rfl, ?_⟩ (nr (by decide))
  refine zGo_step (rt := K) (i := .istore 5) (n := 2) X (by decide +kernel) ⟨rfl, by decide, -1, [], rfl, ?_⟩ (nr (by decide))
  refine zGo_step (rt := K) (i := .aload 4) (n := 2) X (by decide +kernel) ⟨rfl, -1, rfl, ?_⟩ (nr (by decide))
  refine zGo_step (rt := K) (i := .ifnull 9) (n := 3) X (by decide +kernel) ⟨rfl, -1, [], 38, rfl, rfl, fun _ => ?_, fun q => absurd rfl q⟩ (nr (by decide))
  exact zx_go1 X hl hT hlocks hno (by decide) (by decide) hKX (by decide +kernel) (by decide +kernel) (Or.inr ⟨by decide +kernel, by decide +kernel, by decide +kernel⟩)
