/-! ===== making cells: rows over a growing list ===== -/
def zCn (c : Nat) : String := match zCl[c]? with
  | some q => q.1
  | none => ""
def zmW (O : zOm) (C : zmC) : va_W := C.mapIdx fun i c => (zB O + i, zEnc O (zrg c.2) c.1)
def zmO (O : zOm) (S : List zSh) : zOm := (O.1, O.2.1, O.2.2.1, O.2.2.2.1, O.2.2.2.2.1, O.2.2.2.2.2.1, S)
theorem zmM_at {C : zmC} {i : Nat} {c : zSh × zRow} (h : C[i]? = some c) : zmM C (i : Int) = zrg c.2 := by
  unfold zmM zmRow
  rw [if_neg (by omega), show ((i : Int).toNat) = i from rfl, h]
theorem zmW_at {O : zOm} {C : zmC} {i : Nat} {c : zSh × zRow} (h : C[i]? = some c) : (zmW O C)[i]? = some (zB O + i, zEnc O (zrg c.2) c.1) := by
  unfold zmW
  rw [List.getElem?_mapIdx, h]
  rfl
theorem zmW_inv {O : zOm} {C : zmC} {i : Nat} {q : Nat × va_E} (h : (zmW O C)[i]? = some q) : ∃ c, C[i]? = some c ∧ q = (zB O + i, zEnc O (zrg c.2) c.1) := by
  unfold zmW at h
  rw [List.getElem?_mapIdx] at h
  cases hc : C[i]? with
  | none => rw [hc] at h; cases h
  | some c => rw [hc] at h; exact ⟨c, rfl, (Option.some.inj h).symm⟩
theorem zmW_len (O : zOm) (C : zmC) : (zmW O C).length = C.length := List.length_mapIdx ..
theorem zmW_eq (O : zOm) (C : zmC) : zmW O C = zWorld (zmO O (zmS C)) (zmM C) := by
  refine List.ext_getElem? fun i => ?_
  unfold zmW zWorld
  rw [List.getElem?_mapIdx, List.getElem?_mapIdx]
  show Option.map _ C[i]? = Option.map _ (zmS C)[i]?
  unfold zmS
  rw [List.getElem?_map]
  cases h : C[i]? with
  | none => rfl
  | some c =>
    show some (zB O + i, zEnc O (zrg c.2) c.1) = some (zB O + i, zEnc O (zmM C (i : Int)) c.1)
    rw [zmM_at h]
theorem zmW_app (O : zOm) (C : zmC) (c : zSh × zRow) : zmW O (C ++ [c]) = zmW O C ++ [(zB O + C.length, zEnc O (zrg c.2) c.1)] := by
  refine List.ext_getElem? fun i => ?_
  by_cases h : i < C.length
  · rw [List.getElem?_append_left (by rw [zmW_len]; exact h)]
    have h1 := List.getElem?_eq_getElem h
    rw [zmW_at h1, zmW_at (c := C[i]) (by rw [List.getElem?_append_left h]; exact h1)]
  · by_cases h2 : i = C.length
    · subst h2
      rw [zmW_at (c := c) (by rw [List.getElem?_append_right (Nat.le_refl _), Nat.sub_self]; rfl), List.getElem?_append_right (by rw [zmW_len]; exact Nat.le_refl _), zmW_len, Nat.sub_self]
      rfl
    · rw [List.getElem?_eq_none (by rw [zmW_len, List.length_append]; show C.length + 1 ≤ i; omega), List.getElem?_eq_none (by rw [List.length_append, zmW_len]; show C.length + 1 ≤ i; omega)]
theorem zmW_set {O : zOm} {C : zmC} {i : Nat} (hl : i < C.length) (c : zSh × zRow) : zmW O (C.set i c) = (zmW O C).set i (zB O + i, zEnc O (zrg c.2) c.1) := by
  refine List.ext_getElem? fun j => ?_
  rw [List.getElem?_set, zmW_len]
  unfold zmW
  rw [List.getElem?_mapIdx, List.getElem?_mapIdx, List.getElem?_set]
  by_cases h : i = j
  · subst h
    rw [if_pos rfl, if_pos rfl, if_pos hl, if_pos hl]
    rfl
  · rw [if_neg h, if_neg h]
theorem zmW_D (O : zOm) (C : zmC) : va_D (fun q => zB O ≤ q) (zmW O C) := by
  refine ⟨fun i j p q hp hq he => ?_, fun k q hk => ?_⟩
  · obtain ⟨_, -, rfl⟩ := zmW_inv hp
    obtain ⟨_, -, rfl⟩ := zmW_inv hq
    have : zB O + i = zB O + j := he
    omega
  · obtain ⟨c, h, rfl⟩ := zmW_inv hk
    exact Nat.le_add_right _ _
def zAOs (U : State) : Prop := va_AO "ToldNet$Net" U ∧ va_AO "ToldNet$Telling" U
/-- the words' texts, and the two statics that String's methods read -/
def zsL : List Nat := [3, 5, 5, 5, 4, 3, 4]
def zsB : List (List Int32) := [[98, 111, 120], [99, 114, 111, 119, 100], [99, 104, 97, 105, 110], [115, 105, 100, 101, 115], [115, 116, 97, 114], [110, 111, 116], [97, 108, 115, 111]]
def zsK : List (Nat × String) := [(42, "box"), (48, "crowd"), (50, "chain"), (52, "sides"), (54, "star"), (56, "not"), (58, "also")]
def zStr (adK adV : Nat → Nat) (A : Nat → Prop) (U : State) (H : Heap) : Prop := vk_S 7 zsL zsB adK adV A U H ∧ va_Z "java/lang/String" "COMPACT_STRINGS" "Z" (.int 1) A U H ∧ va_Zq "jdk/internal/util/Preconditions" "SIOOBE_FORMATTER" "Ljava/util/function/BiFunction;" A U H
def zTxt (A : Nat → Prop) (U : State) (H : Heap) : Prop := ∃ adK adV : Nat → Nat, zStr adK adV A U H ∧ ∀ (i k : Nat) (tx : String), zsK[i]? = some (k, tx) → vk_R "ToldNet$Tape" k tx (adK i) U
theorem zStr.to {adK adV : Nat → Nat} {A A' : Nat → Prop} {U U' : State} {H H' : Heap} (h : zStr adK adV A U H) (hvm : U.vm.Alike U'.vm) (hk : ∀ a : Nat, a < H.size → ¬ A a → H'[a]? = H[a]?) (hA : ∀ q, A' q → A q) : zStr adK adV A' U' H' :=
  ⟨((h.1.moved hvm).kept hk).narrow hA, ((h.2.1.moved hvm).kept hk).narrow hA, ((h.2.2.moved hvm).kept hk).narrow hA⟩
theorem zTxt.to {A A' : Nat → Prop} {U U' : State} {H H' : Heap} (h : zTxt A U H) (hW : U.WarmedH U'.vm) (hk : ∀ a : Nat, a < H.size → ¬ A a → H'[a]? = H[a]?) (hA : ∀ q, A' q → A q) : zTxt A' U' H' := by
  obtain ⟨adK, adV, h1, h2⟩ := h
  exact ⟨adK, adV, h1.to hW.alike hk hA, fun i k tx hi => (h2 i k tx hi).warm hW⟩
theorem zTxt.same {A : Nat → Prop} {U U' : State} {H : Heap} (h : zTxt A U H) (hv : U'.vm = U.vm) : zTxt A U' H := by
  obtain ⟨adK, adV, h1, h2⟩ := h
  exact ⟨adK, adV, h1.to (by rw [hv]; exact Vm.Alike.refl _) (fun _ _ _ => rfl) (fun _ z => z), fun i k tx hi => (h2 i k tx hi).same hv⟩
/-- what is fixed in a frame that makes cells -/
def zmX (p : Program) (R : Room) (s : State) (m : MethodId) (args : Array Value) (c : Code) (O : zOm) (own : String) (code : ByteArray) (nL : Nat) : Prop :=
  p.tables.exec = Jvm.exec ∧ c.code = code ∧ c.maxLocals = nL ∧ s.vm.findClass own = some m.cls ∧ (∀ w ∈ zWS, w.before args s = true) ∧ va_K (zD O) (zcl O) (zTys O) s ∧ zNw s ∧ zcl O = zCl ∧ zB O ≤ s.heap.size ∧ zAOs s ∧ zTxt (fun q => zB O ≤ q) s s.heap
def zmGo (p : Program) (e : Env) (R : Room) (s : State) (m : MethodId) (args : Array Value) (below : List Frame) (meth : Method) (c : Code) (Q : State → Prop) (O : zOm) (nL : Nat) (pc : Nat) (st : List zV) (lv : zLv) (C : zmC) (nc ns : Nat) : Prop :=
  ∀ (H : Heap) (locs : List Loc) (ls : Array Slot), va_P (zD O) (zcl O) (zmW O C) H → va_S (fun q => zB O ≤ q) s.heap H locs → lv_has ls nL (lv.map fun q => (q.1, zWv O q.2)) →
    W p (zLn O) e R s m args below meth c H locs nc ns Q (F0 m pc ls (st.map (zWv O)))
/-- the place of a cell that has just been made -/
theorem zm_last {O : zOm} {C : zmC} {H : Heap} {q : Nat} {x : va_E} {A : Nat → Prop} (hA : ∀ q, A q → zB O ≤ q) (hP : va_P (zD O) (zcl O) (zmW O C ++ [(q, x)]) H) (hD : va_D A (zmW O C ++ [(q, x)])) (hz : H.size ≤ zB O + C.length + 1) : q = zB O + C.length := by
  have h0 : (zmW O C ++ [(q, x)])[C.length]? = some (q, x) := by
    rw [List.getElem?_append_right (by rw [zmW_len]; exact Nat.le_refl _), zmW_len, Nat.sub_self]
    rfl
  have h1 := hA _ (hD.2 _ _ h0)
  have h2 : q < H.size := (hP _ _ h0).lt
  dsimp only at h1
  rcases Nat.lt_or_ge q (zB O + C.length) with h | h
  · exfalso
    have h3 : q - zB O < C.length := by omega
    have h4 : (zmW O C ++ [(q, x)])[q - zB O]? = some (zB O + (q - zB O), zEnc O (zrg C[q - zB O].2) C[q - zB O].1) := by
      rw [List.getElem?_append_left (by rw [zmW_len]; exact h3)]
      exact zmW_at (List.getElem?_eq_getElem h3)
    have := hD.1 _ _ _ _ h4 h0 (by show zB O + (q - zB O) = q; omega)
    omega
  · omega
theorem zW_sz {p : Program} {l : Launch} {e : Env} {R : Room} {s : State} {m : MethodId} {args : Array Value} {below : List Frame} {meth : Method} {c : Code} {H : Heap} {locs : List Loc} {cells slots : Nat} {Q : State → Prop} {g : JFrame} (h : H.size ≤ s.heap.size + cells → W p l e R s m args below meth c H locs cells slots Q g) : W p l e R s m args below meth c H locs cells slots Q g := by
  intro T hT X
  refine h ?_ T hT X
  have := X.same.2.2.1
  rw [← hT]
  exact this
/-- the fields of a new object -/
def zFkL : List (List Bool) := [[false, false, false, false, true, true, false, false, false, false, false, false, false, false], [false, false, true, true, true], [false, true], [false, false, false, true, true], [false, false, false, false, false, false, true], [false, false, false, false, false, true, true, true, true], [false, false, false, false, false, false, false, false, false, true, true, true, true, true, true, true, false], [false, true, true, true], [false, false, false, false, false, false, true], [false, false, false, false, false, false, true, true, false, false, false, false, true], [false, false, false, false, false, false, true, true], [false, false, false, false, false, false, true, true], [true, true, false, false, true, true, false, false, false, false, false, true, false, false, false, false, false, false, false, false, false, false, false, false, false, false, false, false, true, false, false, false, false, true, false, true, false, false, false, false, true, false, false, false, true, false, false, true, true, true, true, false, true, false, false, true, false, false, false, false, false, false, false, false, true, false, true, true, true, false, false, false, false, true, false, false, false, true, false, false, false, false]]
def zFks (ci : Nat) : List (Option (Option Nat)) := (zFkL.getD ci []).map fun b => if b = true then none else some none
def zdefB : FieldType → Option (Option Nat) → Bool
  | .int, none => true
  | .object _, some none => true
  | .array _, some none => true
  | _, _ => false
theorem zdefB_ok {O : zOm} {row : Int → Int} (h0 : ∀ j, row j = 0) {k : Nat} {ty : FieldType} {fk : Option (Option Nat)} (h : zdefB ty fk = true) : defaultValue ty = zFv O row k fk := by
  cases ty <;> (cases fk with
    | none => first | (cases h; done) | (show _ = Value.int (zi (row k)); rw [h0]; rfl)
    | some q => cases q with
      | none => first | (cases h; done) | rfl
      | some r => cases h)
def zFksOk : Bool := (List.range 13).all fun ci => match zCl[ci]? with
  | some (_, T, N) => decide ((zFks ci).length = N) && (List.range N).all fun k => match parseFieldDescriptor (T k).2.2.1, (zFks ci)[k]? with
    | some ty, some fk => zdefB ty fk
    | _, _ => false
  | none => false
theorem zFksOk_ok : zFksOk = true := by decide +kernel
def zkNok : Bool := (List.range 13).all fun c => (zkN.getD c []).all fun e => decide (e.2.1 < 13) && match zCl[e.2.1]?, zkJ[e.2.1]? with
  | some (C, _, N), some (a, b, _) => zInW e.2.2 (.classLink (zCn c) e.1 C) && (zInW a (.instantiable C N) && zInW b (.initialized C))
  | _, _ => false
theorem zkNok_ok : zkNok = true := by decide +kernel
theorem zkN_at {c k ci pl : Nat} (hc : c < 13) (h : (k, ci, pl) ∈ zkN.getD c []) : ci < 13 ∧ ∃ C T N, zCl[ci]? = some (C, T, N) ∧ Jvm.Cond.classLink (zCn c) k C ∈ zWS ∧ Jvm.Cond.instantiable C N ∈ zWS ∧ Jvm.Cond.initialized C ∈ zWS := by
  have h1 := List.all_eq_true.mp (List.all_eq_true.mp zkNok_ok c (List.mem_range.mpr hc)) _ h
  rw [Bool.and_eq_true, decide_eq_true_eq] at h1
  obtain ⟨h0, h1⟩ := h1
  refine ⟨h0, ?_⟩
  split at h1
  next C T N a b d e1 e2 =>
    rw [Bool.and_eq_true, Bool.and_eq_true] at h1
    exact ⟨C, T, N, e1, zInW_mem h1.1, zInW_mem h1.2.1, zInW_mem h1.2.2⟩
  next => cases h1
theorem zn_new {p : Program} {e : Env} {R : Room} {s : State} {m : MethodId} {args : Array Value} {below : List Frame} {meth : Method} {c : Code} {Q : State → Prop} {O : zOm} {c0 : Nat} {code : ByteArray} {nL pc : Nat} {st : List zV} {lv : zLv} {C : zmC} {nc ns k ci pl : Nat} (X : zmX p R s m args c O (zCn c0) code nL) (hc0 : c0 < 13)
    (hsz : s.heap.size + nc = zB O + C.length) (hd : decode code pc = .ok (.new k, 3)) (hk : (k, ci, pl) ∈ zkN.getD c0 []) (hR : nc + 1 ≤ R.cells) (hRs : ns + (zFks ci).length ≤ R.slots)
    (h : zmGo p e R s m args below meth c Q O nL (pc + 3) ((2, (C.length : Int)) :: st) lv (C ++ [(.inr (ci, zFks ci), [])]) (nc + 1) (ns + (zFks ci).length)) : zmGo p e R s m args below meth c Q O nL pc st lv C nc ns := by
  obtain ⟨hx, hb, hml, hown, hts, hK, hN, hcl, hB, hAO, hSt⟩ := X
  intro H locs ls hP hS hl
  obtain ⟨h13, Cn, T, N, hc, w1, w2, w3⟩ := zkN_at hc0 hk
  have hc' : (zcl O)[ci]? = some (Cn, T, N) := by rw [hcl]; exact hc
  obtain ⟨hw, -, -⟩ := zCl_ok ci Cn T N hc
  have hf := List.all_eq_true.mp zFksOk_ok ci (List.mem_range.mpr h13)
  rw [hc] at hf
  simp only [Bool.and_eq_true, decide_eq_true_eq, List.all_eq_true, List.mem_range] at hf
  obtain ⟨hlen, hf⟩ := hf
  rw [hlen] at hRs h
  refine va_new (D := zD O) (ci := ci) (T := T) (N := N) (fs := (zFks ci).mapIdx (zFv O (zrg []))) hx hb hts hw (fun k => (parseFieldDescriptor (T k).2.2.1).getD .int) (fun j hj => ?_) hown (hts _ w1) (hts _ w2) (hts _ w3) hK hP (zmW_D O C) hS (fun q hq => Nat.le_trans hB hq) hc' (fun j hj => ?_) hR hRs hd (fun q H1 hP1 hD1 hS1 => ?_)
  · have := hf j hj
    split at this
    next ty fk e1 e2 => rw [e1]; rfl
    next => cases this
  · have := hf j hj
    split at this
    next ty fk e1 e2 =>
      rw [e1]
      unfold vp_V
      rw [List.getD_eq_getElem?_getD, List.getElem?_mapIdx, e2]
      exact zdefB_ok (k := j) (fun _ => rfl) this
    next => cases this
  · refine zW_sz fun hz => ?_
    have hq := zm_last (fun _ z => z) hP1 hD1 (by omega)
    subst hq
    have := h H1 locs ls (by rw [zmW_app]; exact hP1) hS1 hl
    rw [List.map_cons, zWv_nn O (Int.natCast_nonneg _)] at this
    exact this
