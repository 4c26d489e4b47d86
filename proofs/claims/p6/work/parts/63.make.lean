section
-- part 63.make.lean.txt
/-! ===== making cells: rows over a growing list ===== -/
def zCn (c : Nat) : String := match zCl[c]? with
  | some q => q.1
  | none => ""
def zmW (O : zOm) (C : zmC) : va_W := C.mapIdx fun i c => (zB O + i, zEnc O (zrg c.2) c.1)
def zmO (O : zOm) (S : List zSh) : zOm := (O.1, O.2.1, O.2.2.1, O.2.2.2.1, O.2.2.2.2.1, O.2.2.2.2.2.1, S)
theorem zmM_at {C : zmC} {i : Nat} {c : zSh × zRow} (h : C[i]? = some c) : zmM C (i : Int) = zrg c.2 := by
  unfold zmM zmRow
  rw [if_neg (by omega), show ((i : Int).toNat) = i from rfl, h]
theorem zmW_at {O : zOm} {C : zmC} {i : Nat} {c : zSh × zRow} (h : C[i]? = some c) : (zmW O C)[i]? = some (zB O + i, zEnc O (zrg c.2) c.1) := by
  unfold zmW
  rw [List.getElem?_mapIdx, h]
  rfl
theorem zmW_inv {O : zOm} {C : zmC} {i : Nat} {q : Nat × va_E} (h : (zmW O C)[i]? = some q) : ∃ c, C[i]? = some c ∧ q = (zB O + i, zEnc O (zrg c.2) c.1) := by
  unfold zmW at h
  rw [List.getElem?_mapIdx] at h
  cases hc : C[i]? with
  | none => rw [hc] at h; cases h
  | some c => rw [hc] at h; exact ⟨c, rfl, (Option.some.inj h).symm⟩
theorem zmW_len (O : zOm) (C : zmC) : (zmW O C).length = C.length := List.length_mapIdx ..
theorem zmW_eq (O : zOm) (C : zmC) : zmW O C = zWorld (zmO O (zmS C)) (zmM C) := by
  refine List.ext_getElem? fun i => ?_
  unfold zmW zWorld
  rw [List.getElem?_mapIdx, List.getElem?_mapIdx]
  show Option.map _ C[i]? = Option.map _ (zmS C)[i]?
  unfold zmS
  rw [List.getElem?_map]
  cases h : C[i]? with
  | none => rfl
  | some c =>
    show some (zB O + i, zEnc O (zrg c.2) c.1) = some (zB O + i, zEnc O (zmM C (i : Int)) c.1)
    rw [zmM_at h]
theorem zmW_app (O : zOm) (C : zmC) (c : zSh × zRow) : zmW O (C ++ [c]) = zmW O C ++ [(zB O + C.length, zEnc O (zrg c.2) c.1)] := by
  refine List.ext_getElem? fun i => ?_
  by_cases h : i < C.length
  · rw [List.getElem?_append_left (by rw [zmW_len]; exact h)]
    have h1 := List.getElem?_eq_getElem h
    rw [zmW_at h1, zmW_at (c := C[i]) (by rw [List.getElem?_append_left h]; exact h1)]
  · by_cases h2 : i = C.length
    · subst h2
      rw [zmW_at (c := c) (by rw [List.getElem?_append_right (Nat.le_refl _), Nat.sub_self]; rfl), List.getElem?_append_right (by rw [zmW_len]; exact Nat.le_refl _), zmW_len, Nat.sub_self]
      rfl
    · rw [List.getElem?_eq_none (by rw [zmW_len, List.length_append]; show C.length + 1 ≤ i; omega), List.getElem?_eq_none (by rw [List.length_append, zmW_len]; show C.length + 1 ≤ i; omega)]
theorem zmW_set {O : zOm} {C : zmC} {i : Nat} (hl : i < C.length) (c : zSh × zRow) : zmW O (C.set i c) = (zmW O C).set i (zB O + i, zEnc O (zrg c.2) c.1) := by
  refine List.ext_getElem? fun j => ?_
  rw [List.getElem?_set, zmW_len]
  unfold zmW
  rw [List.getElem?_mapIdx, List.getElem?_mapIdx, List.getElem?_set]
  by_cases h : i = j
  · subst h
    rw [if_pos rfl, if_pos rfl, if_pos hl, if_pos hl]
    rfl
  · rw [if_neg h, if_neg h]
theorem zmW_D (O : zOm) (C : zmC) : va_D (fun q => zB O ≤ q) (zmW O C) := by
  refine ⟨fun i j p q hp hq he => ?_, fun k q hk => ?_⟩
  · obtain ⟨_, -, rfl⟩ := zmW_inv hp
    obtain ⟨_, -, rfl⟩ := zmW_inv hq
    have : zB O + i = zB O + j := he
    omega
  · obtain ⟨c, h, rfl⟩ := zmW_inv hk
    exact Nat.le_add_right _ _
def zAOs (U : State) : Prop := va_AO "ToldNet$Net" U ∧ va_AO "ToldNet$Telling" U
/-- the words' texts, and the two statics that String's methods read -/
def zsL : List Nat := [3, 5, 5, 5, 4, 3, 4]
def zsB : List (List Int32) := [[98, 111, 120], [99, 114, 111, 119, 100], [99, 104, 97, 105, 110], [115, 105, 100, 101, 115], [115, 116, 97, 114], [110, 111, 116], [97, 108, 115, 111]]
def zsK : List (Nat × String) := [(42, "box"), (48, "crowd"), (50, "chain"), (52, "sides"), (54, "star"), (56, "not"), (58, "also")]
def zStr (adK adV : Nat → Nat) (A : Nat → Prop) (U : State) (H : Heap) : Prop := vk_S 7 zsL zsB adK adV A U H ∧ va_Z "java/lang/String" "COMPACT_STRINGS" "Z" (.int 1) A U H ∧ va_Zq "jdk/internal/util/Preconditions" "SIOOBE_FORMATTER" "Ljava/util/function/BiFunction;" A U H
def zTxt (A : Nat → Prop) (U : State) (H : Heap) : Prop := ∃ adK adV : Nat → Nat, zStr adK adV A U H ∧ ∀ (i k : Nat) (tx : String), zsK[i]? = some (k, tx) → vk_R "ToldNet$Tape" k tx (adK i) U
theorem zStr.to {adK adV : Nat → Nat} {A A' : Nat → Prop} {U U' : State} {H H' : Heap} (h : zStr adK adV A U H) (hvm : U.vm.Alike U'.vm) (hk : ∀ a : Nat, a < H.size → ¬ A a → H'[a]? = H[a]?) (hA : ∀ q, A' q → A q) : zStr adK adV A' U' H' :=
  ⟨((h.1.moved hvm).kept hk).narrow hA, ((h.2.1.moved hvm).kept hk).narrow hA, ((h.2.2.moved hvm).kept hk).narrow hA⟩
theorem zTxt.to {A A' : Nat → Prop} {U U' : State} {H H' : Heap} (h : zTxt A U H) (hW : U.WarmedH U'.vm) (hk : ∀ a : Nat, a < H.size → ¬ A a → H'[a]? = H[a]?) (hA : ∀ q, A' q → A q) : zTxt A' U' H' := by
  obtain ⟨adK, adV, h1, h2⟩ := h
  exact ⟨adK, adV, h1.to hW.alike hk hA, fun i k tx hi => (h2 i k tx hi).warm hW⟩
theorem zTxt.same {A : Nat → Prop} {U U' : State} {H : Heap} (h : zTxt A U H) (hv : U'.vm = U.vm) : zTxt A U' H := by
  obtain ⟨adK, adV, h1, h2⟩ := h
  exact ⟨adK, adV, h1.to (by rw [hv]; exact Vm.Alike.refl _) (fun _ _ _ => rfl) (fun _ z => z), fun i k tx hi => (h2 i k tx hi).same hv⟩
/-- what is fixed in a frame that makes cells -/
def zmX (p : Program) (R : Room) (s : State) (m : MethodId) (args : Array Value) (c : Code) (O : zOm) (own : String) (code : ByteArray) (nL : Nat) : Prop :=
  p.tables.exec = Jvm.exec ∧ c.code = code ∧ c.maxLocals = nL ∧ s.vm.findClass own = some m.cls ∧ (∀ w ∈ zWS, w.before args s = true) ∧ va_K (zD O) (zcl O) (zTys O) s ∧ zNw s ∧ zcl O = zCl ∧ zB O ≤ s.heap.size ∧ zAOs s ∧ zTxt (fun q => zB O ≤ q) s s.heap
def zmGo (p : Program) (e : Env) (R : Room) (s : State) (m : MethodId) (args : Array Value) (below : List Frame) (meth : Method) (c : Code) (Q : State → Prop) (O : zOm) (nL : Nat) (pc : Nat) (st : List zV) (lv : zLv) (C : zmC) (nc ns : Nat) : Prop :=
  ∀ (H : Heap) (locs : List Loc) (ls : Array Slot), va_P (zD O) (zcl O) (zmW O C) H → va_S (fun q => zB O ≤ q) s.heap H locs → lv_has ls nL (lv.map fun q => (q.1, zWv O q.2)) →
    W p (zLn O) e R s m args below meth c H locs nc ns Q (F0 m pc ls (st.map (zWv O)))
/-- the place of a cell that has just been made -/
theorem zm_last {O : zOm} {C : zmC} {H : Heap} {q : Nat} {x : va_E} {A : Nat → Prop} (hA : ∀ q, A q → zB O ≤ q) (hP : va_P (zD O) (zcl O) (zmW O C ++ [(q, x)]) H) (hD : va_D A (zmW O C ++ [(q, x)])) (hz : H.size ≤ zB O + C.length + 1) : q = zB O + C.length := by
  have h0 : (zmW O C ++ [(q, x)])[C.length]? = some (q, x) := by
    rw [List.getElem?_append_right (by rw [zmW_len]; exact Nat.le_refl _), zmW_len, Nat.sub_self]
    rfl
  have h1 := hA _ (hD.2 _ _ h0)
  have h2 : q < H.size := (hP _ _ h0).lt
  dsimp only at h1
  rcases Nat.lt_or_ge q (zB O + C.length) with h | h
  · exfalso
    have h3 : q - zB O < C.length := by omega
    have h4 : (zmW O C ++ [(q, x)])[q - zB O]? = some (zB O + (q - zB O), zEnc O (zrg C[q - zB O].2) C[q - zB O].1) := by
      rw [List.getElem?_append_left (by rw [zmW_len]; exact h3)]
      exact zmW_at (List.getElem?_eq_getElem h3)
    have := hD.1 _ _ _ _ h4 h0 (by show zB O + (q - zB O) = q; omega)
    omega
  · omega
theorem zW_sz {p : Program} {l : Launch} {e : Env} {R : Room} {s : State} {m : MethodId} {args : Array Value} {below : List Frame} {meth : Method} {c : Code} {H : Heap} {locs : List Loc} {cells slots : Nat} {Q : State → Prop} {g : JFrame} (h : H.size ≤ s.heap.size + cells → W p l e R s m args below meth c H locs cells slots Q g) : W p l e R s m args below meth c H locs cells slots Q g := by
  intro T hT X
  refine h ?_ T hT X
  have := X.same.2.2.1
  rw [← hT]
  exact this
/-- the fields of a new object -/
def zFkL : List (List Bool) := [[false, false, false, false, true, true, false, false, false, false, false, false, false, false], [false, false, true, true, true], [false, true], [false, false, false, true, true], [false, false, false, false, false, false, true], [false, false, false, false, false, true, true, true, true], [false, false, false, false, false, false, false, false, false, true, true, true, true, true, true, true, false], [false, true, true, true], [false, false, false, false, false, false, true], [false, false, false, false, false, false, true, true, false, false, false, false, true], [false, false, false, false, false, false, true, true], [false, false, false, false, false, false, true, true], [true, true, false, false, true, true, false, false, false, false, false, true, false, false, false, false, false, false, false, false, false, false, false, false, false, false, false, false, true, false, false, false, false, true, false, true, false, false, false, false, true, false, false, false, true, false, false, true, true, true, true, false, true, false, false, true, false, false, false, false, false, false, false, false, true, false, true, true, true, false, false, false, false, true, false, false, false, true, false, false, false, false]]
def zFks (ci : Nat) : List (Option (Option Nat)) := (zFkL.getD ci []).map fun b => if b = true then none else some none
def zdefB : FieldType → Option (Option Nat) → Bool
  | .int, none => true
  | .object _, some none => true
  | .array _, some none => true
  | _, _ => false
theorem zdefB_ok {O : zOm} {row : Int → Int} (h0 : ∀ j, row j = 0) {k : Nat} {ty : FieldType} {fk : Option (Option Nat)} (h : zdefB ty fk = true) : defaultValue ty = zFv O row k fk := by
  cases ty <;> (cases fk with
    | none => first | (cases h; done) | (show _ = Value.int (zi (row k)); rw [h0]; rfl)
    | some q => cases q with
      | none => first | (cases h; done) | rfl
      | some r => cases h)
def zFksOk : Bool := (List.range 13).all fun ci => match zCl[ci]? with
  | some (_, T, N) => decide ((zFks ci).length = N) && (List.range N).all fun k => match parseFieldDescriptor (T k).2.2.1, (zFks ci)[k]? with
    | some ty, some fk => zdefB ty fk
    | _, _ => false
  | none => false
theorem zFksOk_ok : zFksOk = true := by decide +kernel
def zkNok : Bool := (List.range 13).all fun c => (zkN.getD c []).all fun e => decide (e.2.1 < 13) && match zCl[e.2.1]?, zkJ[e.2.1]? with
  | some (C, _, N), some (a, b, _) => zInW e.2.2 (.classLink (zCn c) e.1 C) && (zInW a (.instantiable C N) && zInW b (.initialized C))
  | _, _ => false
theorem zkNok_ok : zkNok = true := by decide +kernel
theorem zkN_at {c k ci pl : Nat} (hc : c < 13) (h : (k, ci, pl) ∈ zkN.getD c []) : ci < 13 ∧ ∃ C T N, zCl[ci]? = some (C, T, N) ∧ Jvm.Cond.classLink (zCn c) k C ∈ zWS ∧ Jvm.Cond.instantiable C N ∈ zWS ∧ Jvm.Cond.initialized C ∈ zWS := by
  have h1 := List.all_eq_true.mp (List.all_eq_true.mp zkNok_ok c (List.mem_range.mpr hc)) _ h
  rw [Bool.and_eq_true, decide_eq_true_eq] at h1
  obtain ⟨h0, h1⟩ := h1
  refine ⟨h0, ?_⟩
  split at h1
  next C T N a b d e1 e2 =>
    rw [Bool.and_eq_true, Bool.and_eq_true] at h1
    exact ⟨C, T, N, e1, zInW_mem h1.1, zInW_mem h1.2.1, zInW_mem h1.2.2⟩
  next => cases h1
theorem zn_new {p : Program} {e : Env} {R : Room} {s : State} {m : MethodId} {args : Array Value} {below : List Frame} {meth : Method} {c : Code} {Q : State → Prop} {O : zOm} {c0 : Nat} {code : ByteArray} {nL pc : Nat} {st : List zV} {lv : zLv} {C : zmC} {nc ns k ci pl : Nat} (X : zmX p R s m args c O (zCn c0) code nL) (hc0 : c0 < 13)
    (hsz : s.heap.size + nc = zB O + C.length) (hd : decode code pc = .ok (.new k, 3)) (hk : (k, ci, pl) ∈ zkN.getD c0 []) (hR : nc + 1 ≤ R.cells) (hRs : ns + (zFks ci).length ≤ R.slots)
    (h : zmGo p e R s m args below meth c Q O nL (pc + 3) ((2, (C.length : Int)) :: st) lv (C ++ [(.inr (ci, zFks ci), [])]) (nc + 1) (ns + (zFks ci).length)) : zmGo p e R s m args below meth c Q O nL pc st lv C nc ns := by
  obtain ⟨hx, hb, hml, hown, hts, hK, hN, hcl, hB, hAO, hSt⟩ := X
  intro H locs ls hP hS hl
  obtain ⟨h13, Cn, T, N, hc, w1, w2, w3⟩ := zkN_at hc0 hk
  have hc' : (zcl O)[ci]? = some (Cn, T, N) := by rw [hcl]; exact hc
  obtain ⟨hw, -, -⟩ := zCl_ok ci Cn T N hc
  have hf := List.all_eq_true.mp zFksOk_ok ci (List.mem_range.mpr h13)
  rw [hc] at hf
  simp only [Bool.and_eq_true, decide_eq_true_eq, List.all_eq_true, List.mem_range] at hf
  obtain ⟨hlen, hf⟩ := hf
  rw [hlen] at hRs h
  refine va_new (D := zD O) (ci := ci) (T := T) (N := N) (fs := (zFks ci).mapIdx (zFv O (zrg []))) hx hb hts hw (fun k => (parseFieldDescriptor (T k).2.2.1).getD .int) (fun j hj => ?_) hown (hts _ w1) (hts _ w2) (hts _ w3) hK hP (zmW_D O C) hS (fun q hq => Nat.le_trans hB hq) hc' (fun j hj => ?_) hR hRs hd (fun q H1 hP1 hD1 hS1 => ?_)
  · have := hf j hj
    split at this
    next ty fk e1 e2 => rw [e1]; rfl
    next => cases this
  · have := hf j hj
    split at this
    next ty fk e1 e2 =>
      rw [e1]
      unfold vp_V
      rw [List.getD_eq_getElem?_getD, List.getElem?_mapIdx, e2]
      exact zdefB_ok (k := j) (fun _ => rfl) this
    next => cases this
  · refine zW_sz fun hz => ?_
    have hq := zm_last (fun _ z => z) hP1 hD1 (by omega)
    subst hq
    have := h H1 locs ls (by rw [zmW_app]; exact hP1) hS1 hl
    rw [List.map_cons, zWv_nn O (Int.natCast_nonneg _)] at this
    exact this
end
section
-- part 64.make2.lean.txt
theorem zcA_eq {O : zOm} {s : State} (hK : va_K (zD O) (zcl O) (zTys O) s) {ty : FieldType} (hty : ty ∈ zTy) {cA : ClassId} (h : va_RA s cA ty) : cA = zcA O ty := by
  obtain ⟨t0, ht⟩ := zTy_at O hty
  have h2 := (hK.2 t0 _ ht).2
  cases ty with
  | object C =>
    obtain ⟨-, -, -, -, -, h3⟩ := h
    obtain ⟨-, -, -, -, -, h4⟩ := h2
    exact Option.some.inj (h3.symm.trans h4)
  | _ => exact Option.some.inj (Eq.trans (Eq.symm h) h2)
theorem zmK_last {D : va_G} {cl : List vw_C} {tys : List (ClassId × FieldType)} {x : ClassId × FieldType} {s : State} (h : va_K D cl (tys ++ [x]) s) : va_RA s x.1 x.2 :=
  (h.2 tys.length x (by rw [List.getElem?_append_right (Nat.le_refl _), Nat.sub_self]; rfl)).2
def zkAok : Bool := zInW (zkA.getD 0 0) (.arrayClass .int) && (zInW (zkA.getD 1 0) (.arrayClass .boolean) && (zInW (zkA.getD 2 0) (.arrayClass .byte) && zInW (zkA.getD 3 0) (.arrayClass .long)))
theorem zkAok_ok : zkAok = true := by decide +kernel
theorem znat_i {n : Nat} (h : n < 2147483648) : ¬ zi (n : Int) < 0 ∧ (zi (n : Int)).toNatClampNeg = n := by
  have hin : zin32 (n : Int) := ⟨by omega, by omega⟩
  refine ⟨fun q => ?_, by rw [zi_cl hin]; rfl⟩
  have := (zi_lt hin (⟨by decide, by decide⟩ : zin32 0)).mp q
  omega
theorem zn_newa {p : Program} {e : Env} {R : Room} {s : State} {m : MethodId} {args : Array Value} {below : List Frame} {meth : Method} {c : Code} {Q : State → Prop} {O : zOm} {own : String} {code : ByteArray} {nL pc : Nat} {st : List zV} {lv : zLv} {C : zmC} {nc ns n : Nat} {at_ : ArrayType} {ty : FieldType} (X : zmX p R s m args c O own code nL)
    (hty : (at_ = .int ∧ ty = .int) ∨ (at_ = .boolean ∧ ty = .boolean) ∨ (at_ = .byte ∧ ty = .byte) ∨ (at_ = .long ∧ ty = .long)) (hn : n < 1048576)
    (hsz : s.heap.size + nc = zB O + C.length) (hd : decode code pc = .ok (.newarray at_, 2)) (hR : nc + 1 ≤ R.cells) (hRs : ns + n ≤ R.slots)
    (h : zmGo p e R s m args below meth c Q O nL (pc + 2) ((2, (C.length : Int)) :: st) lv (C ++ [(.inl (ty, n, []), [])]) (nc + 1) (ns + n)) : zmGo p e R s m args below meth c Q O nL pc ((0, (n : Int)) :: st) lv C nc ns := by
  obtain ⟨hx, hb, hml, hown, hts, hK, hN, hcl, hB, hAO, hSt⟩ := X
  intro H locs ls hP hS hl
  obtain ⟨n1, n2⟩ := znat_i (n := n) (by omega)
  have hw := zkAok_ok
  unfold zkAok at hw
  simp only [Bool.and_eq_true] at hw
  have fin : ∀ (q : Nat) (cA : ClassId) (H1 : Heap) (a0 : vp_A), va_RA s cA ty → ty ∈ zTy → zEnc O (zrg []) (.inl (ty, n, [])) = .inl (zcA O ty, a0) → va_P (zD O) (zcl O) (zmW O C ++ [(q, .inl (cA, a0))]) H1 → va_D (fun q => zB O ≤ q) (zmW O C ++ [(q, .inl (cA, a0))]) → va_S (fun q => zB O ≤ q) s.heap H1 locs → W p (zLn O) e R s m args below meth c H1 locs (nc + 1) (ns + n) Q (F0 m (pc + 2) ls (.ref q :: st.map (zWv O))) := by
    intro q cA H1 a0 hra hz he hP1 hD1 hS1
    have hA := zcA_eq hK hz hra
    subst hA
    refine zW_sz fun hz => ?_
    have hq := zm_last (fun _ z => z) hP1 hD1 (by omega)
    subst hq
    have := h H1 locs ls (by rw [zmW_app]; dsimp only; rw [he]; exact hP1) hS1 hl
    rw [List.map_cons, zWv_nn O (Int.natCast_nonneg _)] at this
    exact this
  show W _ _ _ _ _ _ _ _ _ _ _ _ _ _ _ (F0 m pc ls (.int (zi (n : Int)) :: st.map (zWv O)))
  rcases hty with ⟨rfl, rfl⟩ | ⟨rfl, rfl⟩ | ⟨rfl, rfl⟩ | ⟨rfl, rfl⟩
  · exact va_newa (atype := .int) (a0 := (n, .inl (fun j => zi (zrg [] j)))) hx hb (hts _ (zInW_mem hw.1)) rfl hK hP (zmW_D O C) hS (fun q hq => Nat.le_trans hB hq) (fun cA => rfl) n1 n2 (by show n * 4 ≤ _; omega) hR hRs hd (fun q cA H1 hK1 hP1 hD1 hS1 => fin q cA H1 _ (zmK_last hK1) (by decide) rfl hP1 hD1 hS1)
  · exact va_newa (atype := .boolean) (a0 := (n, .inl (fun j => zi (zrg [] j)))) hx hb (hts _ (zInW_mem hw.2.1)) rfl hK hP (zmW_D O C) hS (fun q hq => Nat.le_trans hB hq) (fun cA => rfl) n1 n2 (by show n * 1 ≤ _; omega) hR hRs hd (fun q cA H1 hK1 hP1 hD1 hS1 => fin q cA H1 _ (zmK_last hK1) (by decide) rfl hP1 hD1 hS1)
  · exact va_newa (atype := .byte) (a0 := (n, .inl (fun j => zi (zrg [] j)))) hx hb (hts _ (zInW_mem hw.2.2.1)) rfl hK hP (zmW_D O C) hS (fun q hq => Nat.le_trans hB hq) (fun cA => rfl) n1 n2 (by show n * 1 ≤ _; omega) hR hRs hd (fun q cA H1 hK1 hP1 hD1 hS1 => fin q cA H1 _ (zmK_last hK1) (by decide) rfl hP1 hD1 hS1)
  · exact va_newa (atype := .long) (a0 := (n, .inr (.inl (fun j => zl (zrg [] j))))) hx hb (hts _ (zInW_mem hw.2.2.2)) rfl hK hP (zmW_D O C) hS (fun q hq => Nat.le_trans hB hq) (fun cA => rfl) n1 n2 (by show n * 8 ≤ _; omega) hR hRs hd (fun q cA H1 hK1 hP1 hD1 hS1 => fin q cA H1 _ (zmK_last hK1) (by decide) rfl hP1 hD1 hS1)
def zkaok : Bool := (List.range 13).all fun c => (zka.getD c []).all fun e => zInW e.2.2.1 (.classLink (zCn c) e.1 (zCn e.2.1)) && decide (e.2.1 = 2 ∨ e.2.1 = 4)
theorem zkaok_ok : zkaok = true := by decide +kernel
theorem zn_anew {p : Program} {e : Env} {R : Room} {s : State} {m : MethodId} {args : Array Value} {below : List Frame} {meth : Method} {c : Code} {Q : State → Prop} {O : zOm} {c0 : Nat} {code : ByteArray} {nL pc : Nat} {st : List zV} {lv : zLv} {C : zmC} {nc ns n k ci p1 p2 : Nat} (X : zmX p R s m args c O (zCn c0) code nL) (hc0 : c0 < 13) (hk : (k, ci, p1, p2) ∈ zka.getD c0 [])
    (hn : n < 1048576) (hsz : s.heap.size + nc = zB O + C.length) (hd : decode code pc = .ok (.anewarray k, 3)) (hR : nc + 1 ≤ R.cells) (hRs : ns + n ≤ R.slots)
    (h : zmGo p e R s m args below meth c Q O nL (pc + 3) ((2, (C.length : Int)) :: st) lv (C ++ [(.inl (.object (zCn ci), n, List.replicate n none), [])]) (nc + 1) (ns + n)) : zmGo p e R s m args below meth c Q O nL pc ((0, (n : Int)) :: st) lv C nc ns := by
  obtain ⟨hx, hb, hml, hown, hts, hK, hN, hcl, hB, hAO, hSt⟩ := X
  intro H locs ls hP hS hl
  obtain ⟨n1, n2⟩ := znat_i (n := n) (by omega)
  have h1 := List.all_eq_true.mp (List.all_eq_true.mp zkaok_ok c0 (List.mem_range.mpr hc0)) _ hk
  rw [Bool.and_eq_true, decide_eq_true_eq] at h1
  obtain ⟨w1, w2⟩ := h1
  have w2 : va_AO (zCn ci) s ∧ FieldType.object (zCn ci) ∈ zTy := by
    rcases (show ci = 2 ∨ ci = 4 from w2) with rfl | rfl
    · exact ⟨hAO.1, by decide⟩
    · exact ⟨hAO.2, by decide⟩
  obtain ⟨w2, w3⟩ := w2
  show W _ _ _ _ _ _ _ _ _ _ _ _ _ _ _ (F0 m pc ls (.int (zi (n : Int)) :: st.map (zWv O)))
  refine va_newq hx hb hown (hts _ (zInW_mem w1)) w2 hK hP (zmW_D O C) hS (fun q hq => Nat.le_trans hB hq) n1 n2 (by omega) hR hRs hd (fun q cA H1 hK1 hP1 hD1 hS1 => ?_)
  have hA := zcA_eq hK w3 (zmK_last hK1)
  subst hA
  refine zW_sz fun hz => ?_
  have hq := zm_last (fun _ z => z) hP1 hD1 (by omega)
  subst hq
  have := h H1 locs ls (by
    rw [zmW_app]
    have he : zEnc O (zrg []) (.inl (.object (zCn ci), n, List.replicate n none)) = .inl (zcA O (.object (zCn ci)), n, .inr (.inr (.inr (.inr (fun _ => none))))) := by
      refine congrArg (fun z => Sum.inl (zcA O (.object (zCn ci)), n, Sum.inr (Sum.inr (Sum.inr (Sum.inr z))))) (funext fun j => ?_)
      rw [List.getD_eq_getElem?_getD, List.getElem?_replicate]
      split <;> rfl
    dsimp only
    rw [he]
    exact hP1) hS1 hl
  rw [List.map_cons, zWv_nn O (Int.natCast_nonneg _)] at this
  exact this
end
section
-- part 65.make3.lean.txt
theorem zmW_put {O : zOm} {C : zmC} {o : Nat} {sh : zSh} {r0 : zRow} (h : C[o]? = some (sh, r0)) (c : zSh × zRow) {x : va_E} (he : x = zEnc O (zrg c.2) c.1) : (zmW O C).set o (zB O + o, x) = zmW O (C.set o c) := by
  rw [zmW_set (List.getElem?_eq_some_iff.mp h).1, he]
theorem zenc_putI {O : zOm} {row : Int → Int} {ci j : Nat} {x : Int} {fks : List (Option (Option Nat))} (hf : fks[j]? = some none) : (fks.mapIdx (zFv O row)).set j (.int (zi x)) = fks.mapIdx (zFv O (zup row j x)) := by
  have hlt := (List.getElem?_eq_some_iff.mp hf).1
  refine List.ext_getElem? fun i => ?_
  rw [List.getElem?_set]
  by_cases hij : j = i
  · subst hij
    rw [if_pos rfl, if_pos (by rw [List.length_mapIdx]; exact hlt), List.getElem?_mapIdx, hf]
    show _ = some (Value.int (zi (zup row j x j)))
    unfold zup
    rw [if_pos rfl]
  · rw [if_neg hij, List.getElem?_mapIdx, List.getElem?_mapIdx]
    congr 1
    funext fk
    unfold zFv
    cases fk with
    | none => show Value.int (zi (row i)) = Value.int (zi (zup row j x i)); unfold zup; rw [if_neg (by omega)]
    | some q => cases q <;> rfl
theorem zenc_putF {O : zOm} {row : Int → Int} {j v : Nat} {fks : List (Option (Option Nat))} (hl : j < fks.length) : (fks.mapIdx (zFv O row)).set j (.ref (zB O + v)) = (fks.set j (some (some v))).mapIdx (zFv O row) := by
  refine List.ext_getElem? fun i => ?_
  rw [List.getElem?_set, List.getElem?_mapIdx, List.getElem?_mapIdx, List.getElem?_set, List.length_mapIdx]
  by_cases hij : j = i
  · subst hij
    rw [if_pos rfl, if_pos rfl, if_pos hl, if_pos hl]
    rfl
  · rw [if_neg hij, if_neg hij]
def zrefB : Option FieldType → Bool
  | some (.object _) => true
  | some (.array _) => true
  | _ => false
def zfkOk : Bool := (List.range 13).all fun ci => match zCl[ci]? with
  | some (C, T, N) => (List.range N).all fun k => if (T k).2.2.2 = true then decide ((T k).1 = C) && zrefB (parseFieldDescriptor (T k).2.2.1) else decide ((T k).2.2.1 = "I")
  | none => false
theorem zfkOk_ok : zfkOk = true := by decide +kernel
theorem zfk_at {ci k N : Nat} {C : String} {T : u_T} (h13 : ci < 13) (hc : zCl[ci]? = some (C, T, N)) (hk : k < N) : if (T k).2.2.2 = true then (T k).1 = C ∧ zrefB (parseFieldDescriptor (T k).2.2.1) = true else (T k).2.2.1 = "I" := by
  have h := List.all_eq_true.mp zfkOk_ok ci (List.mem_range.mpr h13)
  rw [hc] at h
  have h1 := List.all_eq_true.mp h k (List.mem_range.mpr hk)
  split at h1
  next q => rw [if_pos q]; rw [Bool.and_eq_true, decide_eq_true_eq] at h1; exact h1
  next q => rw [if_neg q]; exact of_decide_eq_true h1
theorem zCl_13 {ci : Nat} {q : vw_C} (h : zCl[ci]? = some q) : ci < 13 := (List.getElem?_eq_some_iff.mp h).1
def zPfOk (c0 : Nat) (pf : Nat → Option (Nat × Nat)) : Prop := ∀ k ci j, pf k = some (ci, j) → ∃ (C : String) (T : u_T) (N : Nat), zCl[ci]? = some (C, T, N) ∧ j < N ∧ Jvm.Cond.fieldLink (zCn c0) k (T j).1 (T j).2.1 (T j).2.2.1 ∈ zWS
theorem zn_putI {p : Program} {e : Env} {R : Room} {s : State} {m : MethodId} {args : Array Value} {below : List Frame} {meth : Method} {c : Code} {Q : State → Prop} {O : zOm} {c0 : Nat} {code : ByteArray} {nL pc : Nat} {st : List zV} {lv : zLv} {C : zmC} {nc ns k ci j o : Nat} {x : Int} {pf : Nat → Option (Nat × Nat)} {fks : List (Option (Option Nat))} {r : zRow} (X : zmX p R s m args c O (zCn c0) code nL) (hF : zPfOk c0 pf)
    (hd : decode code pc = .ok (.putfield k, 3)) (hk : pf k = some (ci, j)) (ho : C[o]? = some (.inr (ci, fks), r)) (hf : fks[j]? = some none) (hfin : (match zCl[ci]? with
      | some (_, T, _) => !(T j).2.2.2
      | none => false) = true)
    (h : zmGo p e R s m args below meth c Q O nL (pc + 3) st lv (C.set o (.inr (ci, fks), zrs r j x)) nc ns) : zmGo p e R s m args below meth c Q O nL pc ((0, x) :: (2, (o : Int)) :: st) lv C nc ns := by
  obtain ⟨hx, hb, hml, hown, hts, hK, hN, hcl, hB, hAO, hSt⟩ := X
  intro H locs ls hP hS hl
  obtain ⟨Cn, T, N, hc, hj, hlk⟩ := hF k ci j hk
  rw [hc] at hfin
  have hfin : (T j).2.2.2 = false := by simpa using hfin
  have hc' : (zcl O)[ci]? = some (Cn, T, N) := by rw [hcl]; exact hc
  obtain ⟨hw, ⟨ty0, hty⟩, hnm⟩ := zCl_ok ci Cn T N hc
  have hI := zfk_at (zCl_13 hc) hc hj
  rw [if_neg (by rw [hfin]; decide)] at hI
  rw [List.map_cons, List.map_cons, zWv_nn O (Int.natCast_nonneg _)]
  have hlt := (List.getElem?_eq_some_iff.mp hf).1
  refine va_put (D := zD O) (v := .int (zi x)) (ty := .int) hx hb hts hw ty0 hty hnm hown hK hP (zmW_D O C) hS o (zmW_at ho) hc' j hj (hts _ hlk) (fun _ h9 => h9) hfin (by rw [hI]; decide) rfl rfl (by rw [List.length_mapIdx]; exact hlt) hd (fun H1 locs1 hP1 hD1 hS1 => ?_)
  refine h H1 locs1 ls ?_ hS1 hl
  have he : Sum.inr (ci, (fks.mapIdx (zFv O (zrg r))).set j (.int (zi x))) = zEnc O (zrg (zrs r j x)) (.inr (ci, fks)) := by
    rw [zenc_putI (ci := ci) hf, zrg_set]
    rfl
  rw [← zmW_put ho (.inr (ci, fks), zrs r j x) he]
  exact hP1
theorem zn_putF {p : Program} {e : Env} {R : Room} {s : State} {m : MethodId} {args : Array Value} {below : List Frame} {meth : Method} {c : Code} {Q : State → Prop} {O : zOm} {c0 : Nat} {code : ByteArray} {nL pc : Nat} {st : List zV} {lv : zLv} {C : zmC} {nc ns k j o v : Nat} {pf : Nat → Option (Nat × Nat)} {fks : List (Option (Option Nat))} {r : zRow} (X : zmX p R s m args c O (zCn c0) code nL) (hF : zPfOk c0 pf) (hin : meth.name = "<init>")
    (hd : decode code pc = .ok (.putfield k, 3)) (hk : pf k = some (c0, j)) (ho : C[o]? = some (.inr (c0, fks), r)) (hl2 : j < fks.length) (hfin : (match zCl[c0]? with
      | some (_, T, _) => (T j).2.2.2
      | none => false) = true)
    (h : zmGo p e R s m args below meth c Q O nL (pc + 3) st lv (C.set o (.inr (c0, fks.set j (some (some v))), r)) nc ns) : zmGo p e R s m args below meth c Q O nL pc ((2, (v : Int)) :: (2, (o : Int)) :: st) lv C nc ns := by
  obtain ⟨hx, hb, hml, hown, hts, hK, hN, hcl, hB, hAO, hSt⟩ := X
  intro H locs ls hP hS hl
  obtain ⟨Cn, T, N, hc, hj, hlk⟩ := hF k c0 j hk
  rw [hc] at hfin
  have hfin : (T j).2.2.2 = true := hfin
  have hc' : (zcl O)[c0]? = some (Cn, T, N) := by rw [hcl]; exact hc
  obtain ⟨hw, ⟨ty0, hty⟩, hnm⟩ := zCl_ok c0 Cn T N hc
  have hI := zfk_at (zCl_13 hc) hc hj
  rw [if_pos hfin] at hI
  have hCn : zCn c0 = Cn := by unfold zCn; rw [hc]
  rw [List.map_cons, List.map_cons, zWv_nn O (Int.natCast_nonneg _), zWv_nn O (Int.natCast_nonneg _)]
  have hds : ∃ ty, parseFieldDescriptor (T j).2.2.1 = some ty ∧ narrow ty (.ref (zB O + v)) = .ref (zB O + v) ∧ fits ty (.ref (zB O + v)) = true := by
    have h2 := hI.2
    unfold zrefB at h2
    split at h2
    next e1 => exact ⟨_, e1, rfl, rfl⟩
    next e1 => exact ⟨_, e1, rfl, rfl⟩
    next => cases h2
  obtain ⟨ty, d1, d2, d3⟩ := hds
  refine va_putF (D := zD O) (v := .ref (zB O + v)) (ty := ty) hx hb hts hw ty0 hty hnm hown hK hP (zmW_D O C) hS o (zmW_at ho) hc' j hj (hts _ hlk) (fun _ h9 => h9) hfin hin (by rw [hCn]; exact hI.1) d1 d2 d3 (by rw [List.length_mapIdx]; exact hl2) hd (fun H1 locs1 hP1 hD1 hS1 => ?_)
  refine h H1 locs1 ls ?_ hS1 hl
  have he : Sum.inr (c0, (fks.mapIdx (zFv O (zrg r))).set j (.ref (zB O + v))) = zEnc O (zrg r) (.inr (c0, fks.set j (some (some v)))) := by
    rw [zenc_putF hl2]
    rfl
  rw [← zmW_put ho (.inr (c0, fks.set j (some (some v))), r) he]
  exact hP1
theorem zn_getF {p : Program} {e : Env} {R : Room} {s : State} {m : MethodId} {args : Array Value} {below : List Frame} {meth : Method} {c : Code} {Q : State → Prop} {O : zOm} {c0 : Nat} {code : ByteArray} {nL pc : Nat} {st : List zV} {lv : zLv} {C : zmC} {nc ns k ci j o v : Nat} {pf : Nat → Option (Nat × Nat)} {fks : List (Option (Option Nat))} {r : zRow} (X : zmX p R s m args c O (zCn c0) code nL) (hF : zPfOk c0 pf)
    (hd : decode code pc = .ok (.getfield k, 3)) (hk : pf k = some (ci, j)) (ho : C[o]? = some (.inr (ci, fks), r)) (hf : fks[j]? = some (some (some v)))
    (h : zmGo p e R s m args below meth c Q O nL (pc + 3) ((2, (v : Int)) :: st) lv C nc ns) : zmGo p e R s m args below meth c Q O nL pc ((2, (o : Int)) :: st) lv C nc ns := by
  obtain ⟨hx, hb, hml, hown, hts, hK, hN, hcl, hB, hAO, hSt⟩ := X
  intro H locs ls hP hS hl
  obtain ⟨Cn, T, N, hc, hj, hlk⟩ := hF k ci j hk
  have hc' : (zcl O)[ci]? = some (Cn, T, N) := by rw [hcl]; exact hc
  obtain ⟨hw, -, -⟩ := zCl_ok ci Cn T N hc
  have h1 := h H locs ls hP hS hl
  rw [List.map_cons, zWv_nn O (Int.natCast_nonneg _)] at h1 ⊢
  exact va_get (D := zD O) hx hb hts hw hown hK hP o (zmW_at ho) hc' j hj (hts _ hlk) (fun _ h9 => h9) (v := .ref (zB O + v)) (by rw [List.getElem?_mapIdx, hf]; rfl) hd h1
theorem zn_aast {p : Program} {e : Env} {R : Room} {s : State} {m : MethodId} {args : Array Value} {below : List Frame} {meth : Method} {c : Code} {Q : State → Prop} {O : zOm} {own : String} {code : ByteArray} {nL pc : Nat} {st : List zV} {lv : zLv} {C : zmC} {nc ns n i a v ci : Nat} {Cn : String} {T : u_T} {N : Nat} {rs : List (Option Nat)} {fks : List (Option (Option Nat))} {r r2 : zRow} (X : zmX p R s m args c O own code nL)
    (hd : decode code pc = .ok (.aastore, 1)) (hc : zCl[ci]? = some (Cn, T, N)) (hty : FieldType.object Cn ∈ zTy) (ha : C[a]? = some (.inl (.object Cn, n, rs), r)) (hv : C[v]? = some (.inr (ci, fks), r2)) (hi : i < n) (hn : n < 1048576) (hrs : i < rs.length)
    (h : zmGo p e R s m args below meth c Q O nL (pc + 1) st lv (C.set a (.inl (.object Cn, n, rs.set i (some v)), r)) nc ns) : zmGo p e R s m args below meth c Q O nL pc ((2, (v : Int)) :: (0, (i : Int)) :: (2, (a : Int)) :: st) lv C nc ns := by
  obtain ⟨hx, hb, hml, hown, hts, hK, hN, hcl, hB, hAO, hSt⟩ := X
  intro H locs ls hP hS hl
  obtain ⟨n1, n2⟩ := znat_i (n := i) (by omega)
  obtain ⟨t0, ht0⟩ := zTy_at O hty
  have hc' : (zcl O)[ci]? = some (Cn, T, N) := by rw [hcl]; exact hc
  rw [List.map_cons, List.map_cons, List.map_cons, zWv_nn O (Int.natCast_nonneg _), zWv_nn O (Int.natCast_nonneg _)]
  refine va_astq (D := zD O) (r := (Cn, T, N)) hx hb hK hP (zmW_D O C) hS a t0 v ci (zmW_at ha) ht0 (zmW_at hv) hc' (i := zi (i : Int)) (fun q => q.elim n1 (by rw [n2]; omega)) hd (fun H1 locs1 hP1 hD1 hS1 => ?_)
  refine h H1 locs1 ls ?_ hS1 hl
  refine (zmW_put ha (.inl (.object Cn, n, rs.set i (some v)), r) ?_) ▸ hP1
  refine congrArg (fun z => Sum.inl (zcA O (.object Cn), n, Sum.inr (Sum.inr (Sum.inr (Sum.inr z))))) (funext fun j => ?_)
  rw [n2]
  unfold va_up
  rw [List.getD_eq_getElem?_getD, List.getElem?_set]
  by_cases hj : j = i
  · subst hj
    rw [if_pos rfl, if_pos rfl, if_pos hrs]
    rfl
  · rw [if_neg hj, if_neg (fun q => hj q.symm)]
    show Option.map _ (rs.getD j none) = _
    rw [List.getD_eq_getElem?_getD]
theorem zn_last {p : Program} {e : Env} {R : Room} {s : State} {m : MethodId} {args : Array Value} {below : List Frame} {meth : Method} {c : Code} {Q : State → Prop} {O : zOm} {own : String} {code : ByteArray} {nL pc : Nat} {st : List zV} {lv : zLv} {C : zmC} {nc ns n i a : Nat} {x : Int} {rs : List (Option Nat)} {r : zRow} (X : zmX p R s m args c O own code nL)
    (hd : decode code pc = .ok (.lastore, 1)) (ha : C[a]? = some (.inl (.long, n, rs), r)) (hi : i < n) (hn : n < 1048576)
    (h : zmGo p e R s m args below meth c Q O nL (pc + 1) st lv (C.set a (.inl (.long, n, rs), zrs r i x)) nc ns) : zmGo p e R s m args below meth c Q O nL pc ((1, x) :: (0, (i : Int)) :: (2, (a : Int)) :: st) lv C nc ns := by
  obtain ⟨hx, hb, hml, hown, hts, hK, hN, hcl, hB, hAO, hSt⟩ := X
  intro H locs ls hP hS hl
  obtain ⟨n1, n2⟩ := znat_i (n := i) (by omega)
  obtain ⟨t0, ht0⟩ := zTy_at O (ty := .long) (by decide)
  rw [List.map_cons, List.map_cons, List.map_cons, zWv_nn O (Int.natCast_nonneg _)]
  refine va_last (D := zD O) hx hb hK hP (zmW_D O C) hS a t0 (zmW_at ha) ht0 (i := zi (i : Int)) (x := zl x) (fun q => q.elim n1 (by rw [n2]; omega)) hd (fun H1 locs1 hP1 hD1 hS1 => ?_)
  refine h H1 locs1 ls ?_ hS1 hl
  refine (zmW_put ha (.inl (.long, n, rs), zrs r i x) ?_) ▸ hP1
  refine congrArg (fun z => Sum.inl (zcA O .long, n, Sum.inr (Sum.inl z))) (funext fun j => ?_)
  rw [n2]
  unfold vp_updL
  rw [zrg_set]
  unfold zup
  by_cases hj : j = i
  · subst hj
    rw [if_pos rfl, if_pos rfl]
  · rw [if_neg hj, if_neg (by omega)]
end
