/-! ===== the machine's own worlds behind the abstract one ===== -/
def zLn (O : zOm) : Launch := O.1
def zD (O : zOm) : va_G := O.2.1
def zcl (O : zOm) : List vw_C := O.2.2.1
def zcA (O : zOm) : FieldType → ClassId := O.2.2.2.1
def zB (O : zOm) : Nat := O.2.2.2.2.1
def zb (O : zOm) : Nat := O.2.2.2.2.2.1
def zTy : List FieldType := [.int, .boolean, .byte, .long, .object "ToldNet$Net", .object "ToldNet$Telling"]
def zTys (O : zOm) : List (ClassId × FieldType) := zTy.map fun t => (zcA O t, t)
def zWv (O : zOm) (v : zV) : Value := match v.1 with
  | 0 => .int (zi v.2)
  | 1 => .long (zl v.2)
  | _ => if 0 ≤ v.2 then .ref (zB O + v.2.toNat) else if v.2 = -1 then .null else .ref (zb O)
def zFv (O : zOm) (row : Int → Int) (k : Nat) (fk : Option (Option Nat)) : Value := match fk with
  | none => .int (zi (row k))
  | some none => .null
  | some (some r) => .ref (zB O + r)
def zEnc (O : zOm) (row : Int → Int) : zSh → va_E
  | .inl (ty, n, rs) => match ty with
    | .long => .inl (zcA O ty, n, .inr (.inl (fun j => zl (row j))))
    | .object _ => .inl (zcA O ty, n, .inr (.inr (.inr (.inr (fun j => (rs.getD j none).map (zB O + ·))))))
    | _ => .inl (zcA O ty, n, .inl (fun j => zi (row j)))
  | .inr (ci, fks) => .inr (ci, fks.mapIdx (zFv O row))
def zWorld (O : zOm) (M : zMem) : va_W := (zS O).mapIdx fun i sh => (zB O + i, zEnc O (M i) sh)
def zA (O : zOm) (sz : Nat) : Nat → Prop := fun q => (zB O ≤ q ∧ q < zB O + (zS O).length) ∨ sz ≤ q
def zWS : List Jvm.Cond := lw_tbl.filter goodWord
def zNw (U : State) : Prop := ∀ q ∈ zNest, va_Nw (.methodLinkNest q.1 q.2.1 q.2.2 "ToldNet") U
def zWs (f : zMR) : List Jvm.Cond := Jvm.Cond.code f.1 f.2.1 f.2.2.1 f.2.2.2.1 :: zWS
def zRm (f : zMR) : Room := { frames := f.2.2.2.2.1, cells := 0, slots := 0, locals := f.2.2.2.2.2 }
def zQ (O : zOm) (K : Option zV → zMem → Prop) (sz : Nat) : Array Value → State → Outcome → State → Prop := fun _ st oc t =>
  (∃ (r : Option zV) (u : zMem), oc = .returned (r.map (zWv O)) ∧ (∀ v, r = some v → zok v) ∧ zMok (zS O) u ∧ K r u ∧ va_P (zD O) (zcl O) (zWorld O u) t.heap) ∧ va_F (zA O sz) st t
def zPc (O : zOm) (M : zMem) (sz : Nat) (as : List zV) : Array Value → State → Prop :=
  va_Pc (as.map (zWv O)) (fun U => U.heap.size = sz ∧ va_P (zD O) (zcl O) (zWorld O M) U.heap ∧ va_K (zD O) (zcl O) (zTys O) U ∧ zNw U)
/-- method f, begun with these arguments over these contents, returns, and K holds of its answer and the contents behind it -/
def zR (O : zOm) (f : zMR) (as : List zV) (M : zMem) (K : Option zV → zMem → Prop) : Prop :=
  (∀ v ∈ as, zok v) → zMok (zS O) M → ∀ sz, zB O + (zS O).length ≤ sz → Met (zLn O) f.1 (zWs f) (zRm f) (zPc O M sz as) (zQ O K sz) 0 0 (zA O sz)
def zGo (p : Program) (e : Env) (R : Room) (s : State) (m : MethodId) (args : Array Value) (below : List Frame) (meth : Method) (c : Code) (Q : State → Prop) (O : zOm) (nL : Nat) (pc : Nat) (st : List zV) (lv : zLv) (M : zMem) : Prop :=
  (∀ v ∈ st, zok v) → (∀ q ∈ lv, zok q.2) → zMok (zS O) M → ∀ (H : Heap) (locs : List Loc) (ls : Array Slot), va_P (zD O) (zcl O) (zWorld O M) H → va_S (zA O s.heap.size) s.heap H locs → lv_has ls nL (lv.map fun q => (q.1, zWv O q.2)) →
    W p (zLn O) e R s m args below meth c H locs 0 0 Q (F0 m pc ls (st.map (zWv O)))
def zClOk (cl : List vw_C) : Prop := ∀ (ci : Nat) (C : String) (T : u_T) (N : Nat), cl[ci]? = some (C, T, N) → (∀ w ∈ u_ws C T N, w ∈ zWS) ∧ (∃ ty : Nat → FieldType, ∀ k, k < N → parseFieldDescriptor (T k).2.2.1 = some (ty k)) ∧ (∀ a, a < N → ∀ b, b < N → a ≠ b → (T a).2.1 ≠ (T b).2.1)
def zSok (O : zOm) : Prop := ∀ (i : Nat) (sh : zSh), (zS O)[i]? = some sh → match sh with
  | .inl (ty, n, _) => ty ∈ zTy ∧ n < 2147483648
  | .inr (ci, fks) => ∃ (C : String) (T : u_T) (N : Nat), (zcl O)[ci]? = some (C, T, N) ∧ fks.length = N ∧ ∀ k, fks[k]? = some none → (T k).2.2.1 = "I" ∧ (T k).2.2.2 = false
def zMW (f : zMR) (na : Nat) : Prop := Jvm.Cond.code f.1 f.2.1 f.2.2.1 f.2.2.2.1 ∈ zWS ∧ Jvm.Cond.initialized f.1.cls ∈ zWS ∧ f.1.cls ≠ "java/lang/invoke/MethodHandle" ∧ f.1.cls ≠ "java/lang/invoke/VarHandle" ∧ (parseMethodDescriptor f.1.desc).map (fun d => d.parameters.length) = some na
def zEvOk (cl : List vw_C) (ev : zEv) : Prop :=
  (∀ k ci j, ev.2.2.2.2.1 k = some (ci, j) → ∃ (C : String) (T : u_T) (N : Nat), cl[ci]? = some (C, T, N) ∧ j < N ∧ Jvm.Cond.fieldLink ev.1 k (T j).1 (T j).2.1 (T j).2.2.1 ∈ zWS) ∧
  (∀ k f ci na, ev.2.2.2.2.2.1 k = some (0, f, ci, na) → zMW (ev.2.2.2.2.2.2.2.2.2 f) na ∧ (∃ (T : u_T) (N : Nat), cl[ci]? = some ((ev.2.2.2.2.2.2.2.2.2 f).1.cls, T, N)) ∧ Jvm.Cond.methodLink ev.1 k (ev.2.2.2.2.2.2.2.2.2 f).1 ∈ zWS ∧ Jvm.Cond.instanceMethod (ev.2.2.2.2.2.2.2.2.2 f).1 ∈ zWS ∧ Jvm.Cond.selects (ev.2.2.2.2.2.2.2.2.2 f).1.cls (ev.2.2.2.2.2.2.2.2.2 f).1 (ev.2.2.2.2.2.2.2.2.2 f).1 ∈ zWS) ∧
  (∀ k f ci na, ev.2.2.2.2.2.1 k = some (1, f, ci, na) → zMW (ev.2.2.2.2.2.2.2.2.2 f) na ∧ Jvm.Cond.methodLink ev.1 k (ev.2.2.2.2.2.2.2.2.2 f).1 ∈ zWS ∧ Jvm.Cond.static (ev.2.2.2.2.2.2.2.2.2 f).1 ∈ zWS) ∧
  (∀ k f ci na, ev.2.2.2.2.2.1 k = some (2, f, ci, na) → zMW (ev.2.2.2.2.2.2.2.2.2 f) na ∧ (ev.1, k, (ev.2.2.2.2.2.2.2.2.2 f).1) ∈ zNest ∧ Jvm.Cond.static (ev.2.2.2.2.2.2.2.2.2 f).1 ∈ zWS) ∧
  (∀ k f ci na, ev.2.2.2.2.2.1 k = some (5, f, ci, na) → Jvm.Cond.methodLink ev.1 k arraycopyName ∈ zWS ∧ Jvm.Cond.native arraycopyName ∈ zWS ∧ Jvm.Cond.static arraycopyName ∈ zWS ∧ Jvm.Cond.initialized "java/lang/System" ∈ zWS) ∧
  (∀ k v, ev.2.2.2.2.2.2.1 k = some (0, v) → Jvm.Cond.constant ev.1 k (zi v) ∈ zWS) ∧
  (∀ k v, ev.2.2.2.2.2.2.1 k = some (1, v) → Jvm.Cond.constantLong ev.1 k (zl v) ∈ zWS) ∧
  (∀ k f ci na, ev.2.2.2.2.2.1 k = some (3, f, ci, na) → Jvm.Cond.methodLink ev.1 k Lib.Math.max.name ∈ zWS ∧ Jvm.Cond.static Lib.Math.max.name ∈ zWS ∧ Jvm.Cond.initialized "java/lang/Math" ∈ zWS ∧ Jvm.Cond.code Lib.Math.max.name Lib.Math.max.code 2 (some .int) ∈ zWS) ∧
  (∀ k f ci na, ev.2.2.2.2.2.1 k = some (4, f, ci, na) → Jvm.Cond.methodLink ev.1 k Lib.Math.min.name ∈ zWS ∧ Jvm.Cond.static Lib.Math.min.name ∈ zWS ∧ Jvm.Cond.initialized "java/lang/Math" ∈ zWS ∧ Jvm.Cond.code Lib.Math.min.name Lib.Math.min.code 2 (some .int) ∈ zWS)
def zCx (p : Program) (R : Room) (s : State) (m : MethodId) (args : Array Value) (meth : Method) (c : Code) (O : zOm) (ev : zEv) : Prop :=
  p.tables.exec = Jvm.exec ∧ c.code = ev.2.1 ∧ c.maxLocals = ev.2.2.1 ∧ meth.sig.returnType = ev.2.2.2.1 ∧ s.vm.findClass ev.1 = some m.cls ∧ (∀ w ∈ zWS, w.before args s = true) ∧ va_K (zD O) (zcl O) (zTys O) s ∧ zNw s ∧
  R.frames = ev.2.2.2.2.2.2.2.1 ∧ R.locals = ev.2.2.2.2.2.2.2.2.1 ∧ zB O + (zS O).length ≤ s.heap.size ∧ zSok O ∧ zClOk (zcl O) ∧ zEvOk (zcl O) ev
-- numbers
theorem zi_toInt {x : Int} (h : zin32 x) : (zi x).toInt = x := by
  unfold zi
  rw [Int32.toInt_ofInt]
  obtain ⟨h1, h2⟩ := h
  show Int.bmod x 4294967296 = x
  rw [Int.bmod_eq_of_le] <;> omega
theorem zi_of (a : Int32) : zi a.toInt = a := by unfold zi; simp
theorem zl_toInt {x : Int} (h : zin64 x) : (zl x).toInt = x := by
  unfold zl
  rw [Int64.toInt_ofInt]
  obtain ⟨h1, h2⟩ := h
  show Int.bmod x 18446744073709551616 = x
  rw [Int.bmod_eq_of_le] <;> omega
theorem zl_of (a : Int64) : zl a.toInt = a := by unfold zl; simp
theorem zi_in (a : Int32) : zin32 a.toInt := ⟨by have := Int32.le_toInt a; omega, by have := Int32.toInt_lt a; omega⟩
theorem zl_in (a : Int64) : zin64 a.toInt := ⟨by have := Int64.le_toInt a; omega, by have := Int64.toInt_lt a; omega⟩
theorem zw32_in (x : Int) : zin32 (zw32 x) := by
  unfold zw32 zin32
  constructor
  · have := Int.le_bmod (x := x) (m := 4294967296) (by decide); omega
  · have := Int.bmod_lt (x := x) (m := 4294967296) (by decide); omega
theorem zw64_in (x : Int) : zin64 (zw64 x) := by
  unfold zw64 zin64
  constructor
  · have := Int.le_bmod (x := x) (m := 18446744073709551616) (by decide); omega
  · have := Int.bmod_lt (x := x) (m := 18446744073709551616) (by decide); omega
theorem zi_eq {x y : Int} (hx : zin32 x) (hy : zin32 y) : zi x = zi y ↔ x = y := by
  rw [← Int32.toInt_inj, zi_toInt hx, zi_toInt hy]
theorem zi_lt {x y : Int} (hx : zin32 x) (hy : zin32 y) : zi x < zi y ↔ x < y := by
  rw [Int32.lt_iff_toInt_lt, zi_toInt hx, zi_toInt hy]
theorem zi_le {x y : Int} (hx : zin32 x) (hy : zin32 y) : zi x ≤ zi y ↔ x ≤ y := by
  rw [Int32.le_iff_toInt_le, zi_toInt hx, zi_toInt hy]
theorem zi_ext {x : Int} {a : Int32} (h : a.toInt = x) : a = zi x := by rw [← h, zi_of]
theorem zl_ext {x : Int} {a : Int64} (h : a.toInt = x) : a = zl x := by rw [← h, zl_of]
theorem zi_add {x y : Int} (hx : zin32 x) (hy : zin32 y) : zi x + zi y = zi (zw32 (x + y)) := zi_ext (by rw [Int32.toInt_add, zi_toInt hx, zi_toInt hy]; rfl)
theorem zi_sub {x y : Int} (hx : zin32 x) (hy : zin32 y) : zi x - zi y = zi (zw32 (x - y)) := zi_ext (by rw [Int32.toInt_sub, zi_toInt hx, zi_toInt hy]; rfl)
theorem zi_mul {x y : Int} (hx : zin32 x) (hy : zin32 y) : zi x * zi y = zi (zw32 (x * y)) := zi_ext (by rw [Int32.toInt_mul, zi_toInt hx, zi_toInt hy]; rfl)
theorem zi_neg {x : Int} (hx : zin32 x) : -zi x = zi (zw32 (-x)) := zi_ext (by rw [Int32.toInt_neg, zi_toInt hx]; rfl)
theorem zi_div {x y : Int} (hx : zin32 x) (hy : zin32 y) : zi x / zi y = zi (zw32 (x.tdiv y)) := zi_ext (by rw [Int32.toInt_div, zi_toInt hx, zi_toInt hy]; rfl)
theorem zl_add {x y : Int} (hx : zin64 x) (hy : zin64 y) : zl x + zl y = zl (zw64 (x + y)) := zl_ext (by rw [Int64.toInt_add, zl_toInt hx, zl_toInt hy]; rfl)
theorem zl_sub {x y : Int} (hx : zin64 x) (hy : zin64 y) : zl x - zl y = zl (zw64 (x - y)) := zl_ext (by rw [Int64.toInt_sub, zl_toInt hx, zl_toInt hy]; rfl)
theorem zl_mul {x y : Int} (hx : zin64 x) (hy : zin64 y) : zl x * zl y = zl (zw64 (x * y)) := zl_ext (by rw [Int64.toInt_mul, zl_toInt hx, zl_toInt hy]; rfl)
theorem zw32_id {x : Int} (h : zin32 x) : zw32 x = x := by
  unfold zw32
  obtain ⟨h1, h2⟩ := h
  rw [Int.bmod_eq_of_le] <;> omega
theorem zw64_id {x : Int} (h : zin64 x) : zw64 x = x := by
  unfold zw64
  obtain ⟨h1, h2⟩ := h
  rw [Int.bmod_eq_of_le] <;> omega
theorem ztmod_in {x y : Int} (hx : zin32 x) (hy : zin32 y) (h0 : y ≠ 0) : zin32 (x.tmod y) := by
  obtain ⟨a1, a2⟩ := hx
  obtain ⟨b1, b2⟩ := hy
  have h1 := Int.natAbs_tmod x y
  have h2 : x.natAbs % y.natAbs < y.natAbs := Nat.mod_lt _ (by omega)
  unfold zin32
  omega
theorem zi_rem {x y : Int} (hx : zin32 x) (hy : zin32 y) (h0 : y ≠ 0) : zi x - zi x / zi y * zi y = zi (x.tmod y) := by
  refine zi_ext ?_
  rw [Int32.toInt_sub, Int32.toInt_mul, Int32.toInt_div, zi_toInt hx, zi_toInt hy, Int.bmod_mul_bmod, Int.sub_bmod_bmod]
  have h1 : x - x.tdiv y * y = x.tmod y := by rw [Int.tmod_def, Int.mul_comm]
  rw [h1]
  exact zw32_id (ztmod_in hx hy h0)
theorem zi_vin {j : Int} {k : Nat} (h0 : 0 ≤ j) (h1 : j < k) (hj : zin32 j) : vp_in (zi j) k := by
  rw [vp_in_iff, zi_toInt hj]; exact ⟨h0, h1⟩
theorem zi_cl {j : Int} (hj : zin32 j) : (zi j).toNatClampNeg = j.toNat := by
  rw [← Int32.toNat_toInt, zi_toInt hj]
theorem zi_addc {x : Int} (hx : zin32 x) (d : Int) : zi x + Int32.ofInt d = zi (zw32 (x + d)) := zi_ext (by rw [Int32.toInt_add, zi_toInt hx, Int32.toInt_ofInt]; show Int.bmod (x + Int.bmod d 4294967296) 4294967296 = _; rw [Int.add_bmod_bmod]; rfl)
theorem zi_i8 {v : Int} (h : -128 ≤ v ∧ v ≤ 127) : (Int8.ofInt v).toInt32 = zi v := zi_ext (by rw [Int8.toInt_toInt32, Int8.toInt_ofInt]; show Int.bmod v 256 = v; rw [Int.bmod_eq_of_le] <;> omega)
theorem zi_i16 {v : Int} (h : -32768 ≤ v ∧ v ≤ 32767) : (Int16.ofInt v).toInt32 = zi v := zi_ext (by rw [Int16.toInt_toInt32, Int16.toInt_ofInt]; show Int.bmod v 65536 = v; rw [Int.bmod_eq_of_le] <;> omega)
theorem zi_64 {x : Int} (hx : zin32 x) : (zi x).toInt64 = zl x := zl_ext (by rw [Int32.toInt_toInt64, zi_toInt hx])
theorem zl_32 {x : Int} (hx : zin64 x) : (zl x).toInt32 = zi (zw32 x) := zi_ext (by rw [Int64.toInt_toInt32, zl_toInt hx]; rfl)
theorem zin32_64 {x : Int} (hx : zin32 x) : zin64 x := by unfold zin32 at hx; unfold zin64; omega
theorem zl_lt {x y : Int} (hx : zin64 x) (hy : zin64 y) : zl x < zl y ↔ x < y := by
  rw [Int64.lt_iff_toInt_lt, zl_toInt hx, zl_toInt hy]
theorem zl_eq {x y : Int} (hx : zin64 x) (hy : zin64 y) : zl x = zl y ↔ x = y := by
  rw [← Int64.toInt_inj, zl_toInt hx, zl_toInt hy]
-- locals
theorem zcat_wv (O : zOm) (v : zV) : (zWv O v).category = zcat v := by
  obtain ⟨t, x⟩ := v
  rcases t with _ | _ | t
  · rfl
  · rfl
  · have h : zcat (t + 2, x) = 1 := by unfold zcat; simp
    rw [h]
    show (if 0 ≤ x then Value.ref (zB O + x.toNat) else if x = -1 then Value.null else Value.ref (zb O)).category = 1
    split
    · rfl
    · split <;> rfl
theorem zcats_wv (O : zOm) (st : List zV) : ((st.map (zWv O)).map fun v => v.category).sum = zcats st := by
  unfold zcats
  rw [List.map_map]
  congr 1
  exact List.map_congr_left fun v _ => zcat_wv O v
theorem zLook_mem {lv : zLv} {k : Nat} {v : zV} (h : zLook lv k = some v) : (k, v) ∈ lv := by
  unfold zLook at h
  cases hf : lv.find? (fun q => q.1 == k) with
  | none => rw [hf] at h; cases h
  | some q =>
    rw [hf] at h
    have h1 := List.find?_some hf
    have h2 := List.mem_of_find?_eq_some hf
    obtain ⟨a, b⟩ := q
    simp at h h1
    subst h; subst h1
    exact h2
theorem zSt1_map (O : zOm) (lv : zLv) (i : Nat) (v : zV) : (i, zWv O v) :: (lv.map fun q => (q.1, zWv O q.2)).filter (fun q => !(q.1 == i) && !(q.1 + 1 == i && q.2.category == 2)) = (zSt1 lv i v).map fun q => (q.1, zWv O q.2) := by
  unfold zSt1
  rw [List.map_cons, List.filter_map]
  congr 2
  refine List.filter_congr fun q _ => ?_
  simp only [Function.comp, zcat_wv]
theorem zSt2_map (O : zOm) (lv : zLv) (i : Nat) (v : zV) : (i, zWv O v) :: (lv.map fun q => (q.1, zWv O q.2)).filter (fun q => !(q.1 == i) && (!(q.1 == i + 1) && !(q.1 + 1 == i && q.2.category == 2))) = (zSt2 lv i v).map fun q => (q.1, zWv O q.2) := by
  unfold zSt2
  rw [List.map_cons, List.filter_map]
  congr 2
  refine List.filter_congr fun q _ => ?_
  simp only [Function.comp, zcat_wv]
theorem zSt1_ok {lv : zLv} {i : Nat} {v : zV} (h : ∀ q ∈ lv, zok q.2) (hv : zok v) : ∀ q ∈ zSt1 lv i v, zok q.2 := by
  intro q hq
  unfold zSt1 at hq
  rcases List.mem_cons.mp hq with rfl | hq
  · exact hv
  · exact h q (List.mem_filter.mp hq).1
theorem zSt2_ok {lv : zLv} {i : Nat} {v : zV} (h : ∀ q ∈ lv, zok q.2) (hv : zok v) : ∀ q ∈ zSt2 lv i v, zok q.2 := by
  intro q hq
  unfold zSt2 at hq
  rcases List.mem_cons.mp hq with rfl | hq
  · exact hv
  · exact h q (List.mem_filter.mp hq).1
theorem zok_cons {v : zV} {st : List zV} (hv : zok v) (h : ∀ w ∈ st, zok w) : ∀ w ∈ v :: st, zok w := List.forall_mem_cons.mpr ⟨hv, h⟩
theorem zok_hd {v : zV} {st : List zV} (h : ∀ w ∈ v :: st, zok w) : zok v := h v List.mem_cons_self
theorem zok_tl {v : zV} {st : List zV} (h : ∀ w ∈ v :: st, zok w) : ∀ w ∈ st, zok w := fun w hw => h w (List.mem_cons_of_mem _ hw)
theorem zWv_ref (O : zOm) (x : Int) : zWv O (2, x) = .null ∨ ∃ a, zWv O (2, x) = .ref a := by
  show (if 0 ≤ x then Value.ref (zB O + x.toNat) else if x = -1 then Value.null else Value.ref (zb O)) = .null ∨ ∃ a, (if 0 ≤ x then Value.ref (zB O + x.toNat) else if x = -1 then Value.null else Value.ref (zb O)) = .ref a
  split
  · exact Or.inr ⟨_, rfl⟩
  · split
    · exact Or.inl rfl
    · exact Or.inr ⟨_, rfl⟩
theorem zWv_nn (O : zOm) {x : Int} (h : 0 ≤ x) : zWv O (2, x) = .ref (zB O + x.toNat) := by
  show (if 0 ≤ x then Value.ref (zB O + x.toNat) else if x = -1 then Value.null else Value.ref (zb O)) = _
  rw [if_pos h]
theorem zWv_null (O : zOm) : zWv O (2, -1) = .null := rfl
theorem zWv_ref' (O : zOm) {x : Int} (h : ¬ x = -1) : ∃ a, zWv O (2, x) = .ref a := by
  show ∃ a, (if 0 ≤ x then Value.ref (zB O + x.toNat) else if x = -1 then Value.null else Value.ref (zb O)) = .ref a
  split
  · exact ⟨_, rfl⟩
  · exact ⟨_, rfl⟩
-- worlds
theorem zWorld_at {O : zOm} {M : zMem} {i : Nat} {sh : zSh} (h : (zS O)[i]? = some sh) : (zWorld O M)[i]? = some (zB O + i, zEnc O (M i) sh) := by
  unfold zWorld
  rw [List.getElem?_mapIdx, h]
  rfl
theorem zWorld_inv {O : zOm} {M : zMem} {i : Nat} {q : Nat × va_E} (h : (zWorld O M)[i]? = some q) : ∃ sh, (zS O)[i]? = some sh ∧ q = (zB O + i, zEnc O (M i) sh) := by
  unfold zWorld at h
  rw [List.getElem?_mapIdx] at h
  cases hs : (zS O)[i]? with
  | none => rw [hs] at h; cases h
  | some sh => rw [hs] at h; exact ⟨sh, rfl, (Option.some.inj h).symm⟩
theorem zWorld_D (O : zOm) (M : zMem) (sz : Nat) : va_D (zA O sz) (zWorld O M) := by
  refine ⟨fun i j p q hp hq he => ?_, fun k q hk => ?_⟩
  · obtain ⟨_, -, rfl⟩ := zWorld_inv hp
    obtain ⟨_, -, rfl⟩ := zWorld_inv hq
    have : zB O + i = zB O + j := he
    omega
  · obtain ⟨sh, h, rfl⟩ := zWorld_inv hk
    have := (List.getElem?_eq_some_iff.mp h).1
    exact Or.inl ⟨Nat.le_add_right _ _, Nat.add_lt_add_left this _⟩
/-- one cell's contents are changed -/
theorem zWorld_set {O : zOm} {M : zMem} {i : Nat} {sh : zSh} (h : (zS O)[i]? = some sh) (f : Int → Int) {e : va_E} (he : e = zEnc O f sh) : (zWorld O M).set i (zB O + i, e) = zWorld O (zput M i f) := by
  subst he
  refine List.ext_getElem? fun j => ?_
  rw [List.getElem?_set]
  have hl := (List.getElem?_eq_some_iff.mp h).1
  by_cases hij : i = j
  · subst hij
    rw [if_pos rfl, if_pos (by unfold zWorld; rw [List.length_mapIdx]; exact hl), zWorld_at h]
    unfold zput
    rw [if_pos rfl]
  · rw [if_neg hij]
    unfold zWorld
    rw [List.getElem?_mapIdx, List.getElem?_mapIdx]
    have : zput M i f (j : Int) = M (j : Int) := by unfold zput; rw [if_neg (by omega)]
    rw [this]
theorem zTy_at (O : zOm) {ty : FieldType} (h : ty ∈ zTy) : ∃ t0 : Nat, (zTys O)[t0]? = some (zcA O ty, ty) := by
  obtain ⟨t0, ht⟩ := List.getElem?_of_mem h
  exact ⟨t0, by unfold zTys; rw [List.getElem?_map, ht]; rfl⟩
theorem zMok_put {S : List zSh} {M : zMem} {i : Nat} {sh : zSh} (hM : zMok S M) (h : S[i]? = some sh) {f : Int → Int} (hf : zShOk f sh) : zMok S (zput M i f) := by
  intro j sh' hj
  unfold zput
  by_cases hij : (j : Int) = i
  · rw [if_pos hij]
    have : j = i := by omega
    subst this
    rw [h] at hj
    cases hj
    exact hf
  · rw [if_neg hij]
    exact hM j sh' hj
theorem zA_mono {O : zOm} {sz sz' : Nat} (h : sz ≤ sz') : ∀ q, zA O sz' q → zA O sz q := fun q hq => hq.imp id (fun h2 => Nat.le_trans h h2)
