section
-- part 03.sound.lean.txt
/-! ===== the machine's own worlds behind the abstract one ===== -/
def zLn (O : zOm) : Launch := O.1
def zD (O : zOm) : va_G := O.2.1
def zcl (O : zOm) : List vw_C := O.2.2.1
def zcA (O : zOm) : FieldType → ClassId := O.2.2.2.1
def zB (O : zOm) : Nat := O.2.2.2.2.1
def zb (O : zOm) : Nat := O.2.2.2.2.2.1
def zTy : List FieldType := [.int, .boolean, .byte, .long, .object "ToldNet$Net", .object "ToldNet$Telling"]
def zTys (O : zOm) : List (ClassId × FieldType) := zTy.map fun t => (zcA O t, t)
def zWv (O : zOm) (v : zV) : Value := match v.1 with
  | 0 => .int (zi v.2)
  | 1 => .long (zl v.2)
  | _ => if 0 ≤ v.2 then .ref (zB O + v.2.toNat) else if v.2 = -1 then .null else .ref (zb O)
def zFv (O : zOm) (row : Int → Int) (k : Nat) (fk : Option (Option Nat)) : Value := match fk with
  | none => .int (zi (row k))
  | some none => .null
  | some (some r) => .ref (zB O + r)
def zEnc (O : zOm) (row : Int → Int) : zSh → va_E
  | .inl (ty, n, rs) => match ty with
    | .long => .inl (zcA O ty, n, .inr (.inl (fun j => zl (row j))))
    | .object _ => .inl (zcA O ty, n, .inr (.inr (.inr (.inr (fun j => (rs.getD j none).map (zB O + ·))))))
    | _ => .inl (zcA O ty, n, .inl (fun j => zi (row j)))
  | .inr (ci, fks) => .inr (ci, fks.mapIdx (zFv O row))
def zWorld (O : zOm) (M : zMem) : va_W := (zS O).mapIdx fun i sh => (zB O + i, zEnc O (M i) sh)
def zA (O : zOm) (sz : Nat) : Nat → Prop := fun q => (zB O ≤ q ∧ q < zB O + (zS O).length) ∨ sz ≤ q
def zWS : List Jvm.Cond := lw_tbl.filter goodWord
def zNw (U : State) : Prop := ∀ q ∈ zNest, va_Nw (.methodLinkNest q.1 q.2.1 q.2.2 "ToldNet") U
def zWs (f : zMR) : List Jvm.Cond := Jvm.Cond.code f.1 f.2.1 f.2.2.1 f.2.2.2.1 :: zWS
def zRm (f : zMR) : Room := { frames := f.2.2.2.2.1, cells := 0, slots := 0, locals := f.2.2.2.2.2 }
def zQ (O : zOm) (K : Option zV → zMem → Prop) (sz : Nat) : Array Value → State → Outcome → State → Prop := fun _ st oc t =>
  (∃ (r : Option zV) (u : zMem), oc = .returned (r.map (zWv O)) ∧ (∀ v, r = some v → zok v) ∧ zMok (zS O) u ∧ K r u ∧ va_P (zD O) (zcl O) (zWorld O u) t.heap) ∧ va_F (zA O sz) st t
def zPc (O : zOm) (M : zMem) (sz : Nat) (as : List zV) : Array Value → State → Prop :=
  va_Pc (as.map (zWv O)) (fun U => U.heap.size = sz ∧ va_P (zD O) (zcl O) (zWorld O M) U.heap ∧ va_K (zD O) (zcl O) (zTys O) U ∧ zNw U)
/-- method f, begun with these arguments over these contents, returns, and K holds of its answer and the contents behind it -/
def zR (O : zOm) (f : zMR) (as : List zV) (M : zMem) (K : Option zV → zMem → Prop) : Prop :=
  (∀ v ∈ as, zok v) → zMok (zS O) M → ∀ sz, zB O + (zS O).length ≤ sz → Met (zLn O) f.1 (zWs f) (zRm f) (zPc O M sz as) (zQ O K sz) 0 0 (zA O sz)
def zGo (p : Program) (e : Env) (R : Room) (s : State) (m : MethodId) (args : Array Value) (below : List Frame) (meth : Method) (c : Code) (Q : State → Prop) (O : zOm) (nL : Nat) (pc : Nat) (st : List zV) (lv : zLv) (M : zMem) : Prop :=
  (∀ v ∈ st, zok v) → (∀ q ∈ lv, zok q.2) → zMok (zS O) M → ∀ (H : Heap) (locs : List Loc) (ls : Array Slot), va_P (zD O) (zcl O) (zWorld O M) H → va_S (zA O s.heap.size) s.heap H locs → lv_has ls nL (lv.map fun q => (q.1, zWv O q.2)) →
    W p (zLn O) e R s m args below meth c H locs 0 0 Q (F0 m pc ls (st.map (zWv O)))
def zClOk (cl : List vw_C) : Prop := ∀ (ci : Nat) (C : String) (T : u_T) (N : Nat), cl[ci]? = some (C, T, N) → (∀ w ∈ u_ws C T N, w ∈ zWS) ∧ (∃ ty : Nat → FieldType, ∀ k, k < N → parseFieldDescriptor (T k).2.2.1 = some (ty k)) ∧ (∀ a, a < N → ∀ b, b < N → a ≠ b → (T a).2.1 ≠ (T b).2.1)
def zSok (O : zOm) : Prop := ∀ (i : Nat) (sh : zSh), (zS O)[i]? = some sh → match sh with
  | .inl (ty, n, _) => ty ∈ zTy ∧ n < 2147483648
  | .inr (ci, fks) => ∃ (C : String) (T : u_T) (N : Nat), (zcl O)[ci]? = some (C, T, N) ∧ fks.length = N ∧ ∀ k, fks[k]? = some none → (T k).2.2.1 = "I" ∧ (T k).2.2.2 = false
def zMW (f : zMR) (na : Nat) : Prop := Jvm.Cond.code f.1 f.2.1 f.2.2.1 f.2.2.2.1 ∈ zWS ∧ Jvm.Cond.initialized f.1.cls ∈ zWS ∧ f.1.cls ≠ "java/lang/invoke/MethodHandle" ∧ f.1.cls ≠ "java/lang/invoke/VarHandle" ∧ (parseMethodDescriptor f.1.desc).map (fun d => d.parameters.length) = some na
def zEvOk (cl : List vw_C) (ev : zEv) : Prop :=
  (∀ k ci j, ev.2.2.2.2.1 k = some (ci, j) → ∃ (C : String) (T : u_T) (N : Nat), cl[ci]? = some (C, T, N) ∧ j < N ∧ Jvm.Cond.fieldLink ev.1 k (T j).1 (T j).2.1 (T j).2.2.1 ∈ zWS) ∧
  (∀ k f ci na, ev.2.2.2.2.2.1 k = some (0, f, ci, na) → zMW (ev.2.2.2.2.2.2.2.2.2 f) na ∧ (∃ (T : u_T) (N : Nat), cl[ci]? = some ((ev.2.2.2.2.2.2.2.2.2 f).1.cls, T, N)) ∧ Jvm.Cond.methodLink ev.1 k (ev.2.2.2.2.2.2.2.2.2 f).1 ∈ zWS ∧ Jvm.Cond.instanceMethod (ev.2.2.2.2.2.2.2.2.2 f).1 ∈ zWS ∧ Jvm.Cond.selects (ev.2.2.2.2.2.2.2.2.2 f).1.cls (ev.2.2.2.2.2.2.2.2.2 f).1 (ev.2.2.2.2.2.2.2.2.2 f).1 ∈ zWS) ∧
  (∀ k f ci na, ev.2.2.2.2.2.1 k = some (1, f, ci, na) → zMW (ev.2.2.2.2.2.2.2.2.2 f) na ∧ Jvm.Cond.methodLink ev.1 k (ev.2.2.2.2.2.2.2.2.2 f).1 ∈ zWS ∧ Jvm.Cond.static (ev.2.2.2.2.2.2.2.2.2 f).1 ∈ zWS) ∧
  (∀ k f ci na, ev.2.2.2.2.2.1 k = some (2, f, ci, na) → zMW (ev.2.2.2.2.2.2.2.2.2 f) na ∧ (ev.1, k, (ev.2.2.2.2.2.2.2.2.2 f).1) ∈ zNest ∧ Jvm.Cond.static (ev.2.2.2.2.2.2.2.2.2 f).1 ∈ zWS) ∧
  (∀ k f ci na, ev.2.2.2.2.2.1 k = some (5, f, ci, na) → Jvm.Cond.methodLink ev.1 k arraycopyName ∈ zWS ∧ Jvm.Cond.native arraycopyName ∈ zWS ∧ Jvm.Cond.static arraycopyName ∈ zWS ∧ Jvm.Cond.initialized "java/lang/System" ∈ zWS) ∧
  (∀ k v, ev.2.2.2.2.2.2.1 k = some (0, v) → Jvm.Cond.constant ev.1 k (zi v) ∈ zWS) ∧
  (∀ k v, ev.2.2.2.2.2.2.1 k = some (1, v) → Jvm.Cond.constantLong ev.1 k (zl v) ∈ zWS) ∧
  (∀ k f ci na, ev.2.2.2.2.2.1 k = some (3, f, ci, na) → Jvm.Cond.methodLink ev.1 k Lib.Math.max.name ∈ zWS ∧ Jvm.Cond.static Lib.Math.max.name ∈ zWS ∧ Jvm.Cond.initialized "java/lang/Math" ∈ zWS ∧ Jvm.Cond.code Lib.Math.max.name Lib.Math.max.code 2 (some .int) ∈ zWS) ∧
  (∀ k f ci na, ev.2.2.2.2.2.1 k = some (4, f, ci, na) → Jvm.Cond.methodLink ev.1 k Lib.Math.min.name ∈ zWS ∧ Jvm.Cond.static Lib.Math.min.name ∈ zWS ∧ Jvm.Cond.initialized "java/lang/Math" ∈ zWS ∧ Jvm.Cond.code Lib.Math.min.name Lib.Math.min.code 2 (some .int) ∈ zWS)
def zCx (p : Program) (R : Room) (s : State) (m : MethodId) (args : Array Value) (meth : Method) (c : Code) (O : zOm) (ev : zEv) : Prop :=
  p.tables.exec = Jvm.exec ∧ c.code = ev.2.1 ∧ c.maxLocals = ev.2.2.1 ∧ meth.sig.returnType = ev.2.2.2.1 ∧ s.vm.findClass ev.1 = some m.cls ∧ (∀ w ∈ zWS, w.before args s = true) ∧ va_K (zD O) (zcl O) (zTys O) s ∧ zNw s ∧
  R.frames = ev.2.2.2.2.2.2.2.1 ∧ R.locals = ev.2.2.2.2.2.2.2.2.1 ∧ zB O + (zS O).length ≤ s.heap.size ∧ zSok O ∧ zClOk (zcl O) ∧ zEvOk (zcl O) ev
-- numbers
theorem zi_toInt {x : Int} (h : zin32 x) : (zi x).toInt = x := by
  unfold zi
  rw [Int32.toInt_ofInt]
  obtain ⟨h1, h2⟩ := h
  show Int.bmod x 4294967296 = x
  rw [Int.bmod_eq_of_le] <;> omega
theorem zi_of (a : Int32) : zi a.toInt = a := by unfold zi; simp
theorem zl_toInt {x : Int} (h : zin64 x) : (zl x).toInt = x := by
  unfold zl
  rw [Int64.toInt_ofInt]
  obtain ⟨h1, h2⟩ := h
  show Int.bmod x 18446744073709551616 = x
  rw [Int.bmod_eq_of_le] <;> omega
theorem zl_of (a : Int64) : zl a.toInt = a := by unfold zl; simp
theorem zi_in (a : Int32) : zin32 a.toInt := ⟨by have := Int32.le_toInt a; omega, by have := Int32.toInt_lt a; omega⟩
theorem zl_in (a : Int64) : zin64 a.toInt := ⟨by have := Int64.le_toInt a; omega, by have := Int64.toInt_lt a; omega⟩
theorem zw32_in (x : Int) : zin32 (zw32 x) := by
  unfold zw32 zin32
  constructor
  · have := Int.le_bmod (x := x) (m := 4294967296) (by decide); omega
  · have := Int.bmod_lt (x := x) (m := 4294967296) (by decide); omega
theorem zw64_in (x : Int) : zin64 (zw64 x) := by
  unfold zw64 zin64
  constructor
  · have := Int.le_bmod (x := x) (m := 18446744073709551616) (by decide); omega
  · have := Int.bmod_lt (x := x) (m := 18446744073709551616) (by decide); omega
theorem zi_eq {x y : Int} (hx : zin32 x) (hy : zin32 y) : zi x = zi y ↔ x = y := by
  rw [← Int32.toInt_inj, zi_toInt hx, zi_toInt hy]
theorem zi_lt {x y : Int} (hx : zin32 x) (hy : zin32 y) : zi x < zi y ↔ x < y := by
  rw [Int32.lt_iff_toInt_lt, zi_toInt hx, zi_toInt hy]
theorem zi_le {x y : Int} (hx : zin32 x) (hy : zin32 y) : zi x ≤ zi y ↔ x ≤ y := by
  rw [Int32.le_iff_toInt_le, zi_toInt hx, zi_toInt hy]
theorem zi_ext {x : Int} {a : Int32} (h : a.toInt = x) : a = zi x := by rw [← h, zi_of]
theorem zl_ext {x : Int} {a : Int64} (h : a.toInt = x) : a = zl x := by rw [← h, zl_of]
theorem zi_add {x y : Int} (hx : zin32 x) (hy : zin32 y) : zi x + zi y = zi (zw32 (x + y)) := zi_ext (by rw [Int32.toInt_add, zi_toInt hx, zi_toInt hy]; rfl)
theorem zi_sub {x y : Int} (hx : zin32 x) (hy : zin32 y) : zi x - zi y = zi (zw32 (x - y)) := zi_ext (by rw [Int32.toInt_sub, zi_toInt hx, zi_toInt hy]; rfl)
theorem zi_mul {x y : Int} (hx : zin32 x) (hy : zin32 y) : zi x * zi y = zi (zw32 (x * y)) := zi_ext (by rw [Int32.toInt_mul, zi_toInt hx, zi_toInt hy]; rfl)
theorem zi_neg {x : Int} (hx : zin32 x) : -zi x = zi (zw32 (-x)) := zi_ext (by rw [Int32.toInt_neg, zi_toInt hx]; rfl)
theorem zi_div {x y : Int} (hx : zin32 x) (hy : zin32 y) : zi x / zi y = zi (zw32 (x.tdiv y)) := zi_ext (by rw [Int32.toInt_div, zi_toInt hx, zi_toInt hy]; rfl)
theorem zl_add {x y : Int} (hx : zin64 x) (hy : zin64 y) : zl x + zl y = zl (zw64 (x + y)) := zl_ext (by rw [Int64.toInt_add, zl_toInt hx, zl_toInt hy]; rfl)
theorem zl_sub {x y : Int} (hx : zin64 x) (hy : zin64 y) : zl x - zl y = zl (zw64 (x - y)) := zl_ext (by rw [Int64.toInt_sub, zl_toInt hx, zl_toInt hy]; rfl)
theorem zl_mul {x y : Int} (hx : zin64 x) (hy : zin64 y) : zl x * zl y = zl (zw64 (x * y)) := zl_ext (by rw [Int64.toInt_mul, zl_toInt hx, zl_toInt hy]; rfl)
theorem zw32_id {x : Int} (h : zin32 x) : zw32 x = x := by
  unfold zw32
  obtain ⟨h1, h2⟩ := h
  rw [Int.bmod_eq_of_le] <;> omega
theorem zw64_id {x : Int} (h : zin64 x) : zw64 x = x := by
  unfold zw64
  obtain ⟨h1, h2⟩ := h
  rw [Int.bmod_eq_of_le] <;> omega
theorem ztmod_in {x y : Int} (hx : zin32 x) (hy : zin32 y) (h0 : y ≠ 0) : zin32 (x.tmod y) := by
  obtain ⟨a1, a2⟩ := hx
  obtain ⟨b1, b2⟩ := hy
  have h1 := Int.natAbs_tmod x y
  have h2 : x.natAbs % y.natAbs < y.natAbs := Nat.mod_lt _ (by omega)
  unfold zin32
  omega
theorem zi_rem {x y : Int} (hx : zin32 x) (hy : zin32 y) (h0 : y ≠ 0) : zi x - zi x / zi y * zi y = zi (x.tmod y) := by
  refine zi_ext ?_
  rw [Int32.toInt_sub, Int32.toInt_mul, Int32.toInt_div, zi_toInt hx, zi_toInt hy, Int.bmod_mul_bmod, Int.sub_bmod_bmod]
  have h1 : x - x.tdiv y * y = x.tmod y := by rw [Int.tmod_def, Int.mul_comm]
  rw [h1]
  exact zw32_id (ztmod_in hx hy h0)
theorem zi_vin {j : Int} {k : Nat} (h0 : 0 ≤ j) (h1 : j < k) (hj : zin32 j) : vp_in (zi j) k := by
  rw [vp_in_iff, zi_toInt hj]; exact ⟨h0, h1⟩
theorem zi_cl {j : Int} (hj : zin32 j) : (zi j).toNatClampNeg = j.toNat := by
  rw [← Int32.toNat_toInt, zi_toInt hj]
theorem zi_addc {x : Int} (hx : zin32 x) (d : Int) : zi x + Int32.ofInt d = zi (zw32 (x + d)) := zi_ext (by rw [Int32.toInt_add, zi_toInt hx, Int32.toInt_ofInt]; show Int.bmod (x + Int.bmod d 4294967296) 4294967296 = _; rw [Int.add_bmod_bmod]; rfl)
theorem zi_i8 {v : Int} (h : -128 ≤ v ∧ v ≤ 127) : (Int8.ofInt v).toInt32 = zi v := zi_ext (by rw [Int8.toInt_toInt32, Int8.toInt_ofInt]; show Int.bmod v 256 = v; rw [Int.bmod_eq_of_le] <;> omega)
theorem zi_i16 {v : Int} (h : -32768 ≤ v ∧ v ≤ 32767) : (Int16.ofInt v).toInt32 = zi v := zi_ext (by rw [Int16.toInt_toInt32, Int16.toInt_ofInt]; show Int.bmod v 65536 = v; rw [Int.bmod_eq_of_le] <;> omega)
theorem zi_64 {x : Int} (hx : zin32 x) : (zi x).toInt64 = zl x := zl_ext (by rw [Int32.toInt_toInt64, zi_toInt hx])
theorem zl_32 {x : Int} (hx : zin64 x) : (zl x).toInt32 = zi (zw32 x) := zi_ext (by rw [Int64.toInt_toInt32, zl_toInt hx]; rfl)
theorem zin32_64 {x : Int} (hx : zin32 x) : zin64 x := by unfold zin32 at hx; unfold zin64; omega
theorem zl_lt {x y : Int} (hx : zin64 x) (hy : zin64 y) : zl x < zl y ↔ x < y := by
  rw [Int64.lt_iff_toInt_lt, zl_toInt hx, zl_toInt hy]
theorem zl_eq {x y : Int} (hx : zin64 x) (hy : zin64 y) : zl x = zl y ↔ x = y := by
  rw [← Int64.toInt_inj, zl_toInt hx, zl_toInt hy]
-- locals
theorem zcat_wv (O : zOm) (v : zV) : (zWv O v).category = zcat v := by
  obtain ⟨t, x⟩ := v
  rcases t with _ | _ | t
  · rfl
  · rfl
  · have h : zcat (t + 2, x) = 1 := by unfold zcat; simp
    rw [h]
    show (if 0 ≤ x then Value.ref (zB O + x.toNat) else if x = -1 then Value.null else Value.ref (zb O)).category = 1
    split
    · rfl
    · split <;> rfl
theorem zcats_wv (O : zOm) (st : List zV) : ((st.map (zWv O)).map fun v => v.category).sum = zcats st := by
  unfold zcats
  rw [List.map_map]
  congr 1
  exact List.map_congr_left fun v _ => zcat_wv O v
theorem zLook_mem {lv : zLv} {k : Nat} {v : zV} (h : zLook lv k = some v) : (k, v) ∈ lv := by
  unfold zLook at h
  cases hf : lv.find? (fun q => q.1 == k) with
  | none => rw [hf] at h; cases h
  | some q =>
    rw [hf] at h
    have h1 := List.find?_some hf
    have h2 := List.mem_of_find?_eq_some hf
    obtain ⟨a, b⟩ := q
    simp at h h1
    subst h; subst h1
    exact h2
theorem zSt1_map (O : zOm) (lv : zLv) (i : Nat) (v : zV) : (i, zWv O v) :: (lv.map fun q => (q.1, zWv O q.2)).filter (fun q => !(q.1 == i) && !(q.1 + 1 == i && q.2.category == 2)) = (zSt1 lv i v).map fun q => (q.1, zWv O q.2) := by
  unfold zSt1
  rw [List.map_cons, List.filter_map]
  congr 2
  refine List.filter_congr fun q _ => ?_
  simp only [Function.comp, zcat_wv]
theorem zSt2_map (O : zOm) (lv : zLv) (i : Nat) (v : zV) : (i, zWv O v) :: (lv.map fun q => (q.1, zWv O q.2)).filter (fun q => !(q.1 == i) && (!(q.1 == i + 1) && !(q.1 + 1 == i && q.2.category == 2))) = (zSt2 lv i v).map fun q => (q.1, zWv O q.2) := by
  unfold zSt2
  rw [List.map_cons, List.filter_map]
  congr 2
  refine List.filter_congr fun q _ => ?_
  simp only [Function.comp, zcat_wv]
theorem zSt1_ok {lv : zLv} {i : Nat} {v : zV} (h : ∀ q ∈ lv, zok q.2) (hv : zok v) : ∀ q ∈ zSt1 lv i v, zok q.2 := by
  intro q hq
  unfold zSt1 at hq
  rcases List.mem_cons.mp hq with rfl | hq
  · exact hv
  · exact h q (List.mem_filter.mp hq).1
theorem zSt2_ok {lv : zLv} {i : Nat} {v : zV} (h : ∀ q ∈ lv, zok q.2) (hv : zok v) : ∀ q ∈ zSt2 lv i v, zok q.2 := by
  intro q hq
  unfold zSt2 at hq
  rcases List.mem_cons.mp hq with rfl | hq
  · exact hv
  · exact h q (List.mem_filter.mp hq).1
theorem zok_cons {v : zV} {st : List zV} (hv : zok v) (h : ∀ w ∈ st, zok w) : ∀ w ∈ v :: st, zok w := List.forall_mem_cons.mpr ⟨hv, h⟩
theorem zok_hd {v : zV} {st : List zV} (h : ∀ w ∈ v :: st, zok w) : zok v := h v List.mem_cons_self
theorem zok_tl {v : zV} {st : List zV} (h : ∀ w ∈ v :: st, zok w) : ∀ w ∈ st, zok w := fun w hw => h w (List.mem_cons_of_mem _ hw)
theorem zWv_ref (O : zOm) (x : Int) : zWv O (2, x) = .null ∨ ∃ a, zWv O (2, x) = .ref a := by
  show (if 0 ≤ x then Value.ref (zB O + x.toNat) else if x = -1 then Value.null else Value.ref (zb O)) = .null ∨ ∃ a, (if 0 ≤ x then Value.ref (zB O + x.toNat) else if x = -1 then Value.null else Value.ref (zb O)) = .ref a
  split
  · exact Or.inr ⟨_, rfl⟩
  · split
    · exact Or.inl rfl
    · exact Or.inr ⟨_, rfl⟩
theorem zWv_nn (O : zOm) {x : Int} (h : 0 ≤ x) : zWv O (2, x) = .ref (zB O + x.toNat) := by
  show (if 0 ≤ x then Value.ref (zB O + x.toNat) else if x = -1 then Value.null else Value.ref (zb O)) = _
  rw [if_pos h]
theorem zWv_null (O : zOm) : zWv O (2, -1) = .null := rfl
theorem zWv_ref' (O : zOm) {x : Int} (h : ¬ x = -1) : ∃ a, zWv O (2, x) = .ref a := by
  show ∃ a, (if 0 ≤ x then Value.ref (zB O + x.toNat) else if x = -1 then Value.null else Value.ref (zb O)) = .ref a
  split
  · exact ⟨_, rfl⟩
  · exact ⟨_, rfl⟩
-- worlds
theorem zWorld_at {O : zOm} {M : zMem} {i : Nat} {sh : zSh} (h : (zS O)[i]? = some sh) : (zWorld O M)[i]? = some (zB O + i, zEnc O (M i) sh) := by
  unfold zWorld
  rw [List.getElem?_mapIdx, h]
  rfl
theorem zWorld_inv {O : zOm} {M : zMem} {i : Nat} {q : Nat × va_E} (h : (zWorld O M)[i]? = some q) : ∃ sh, (zS O)[i]? = some sh ∧ q = (zB O + i, zEnc O (M i) sh) := by
  unfold zWorld at h
  rw [List.getElem?_mapIdx] at h
  cases hs : (zS O)[i]? with
  | none => rw [hs] at h; cases h
  | some sh => rw [hs] at h; exact ⟨sh, rfl, (Option.some.inj h).symm⟩
theorem zWorld_D (O : zOm) (M : zMem) (sz : Nat) : va_D (zA O sz) (zWorld O M) := by
  refine ⟨fun i j p q hp hq he => ?_, fun k q hk => ?_⟩
  · obtain ⟨_, -, rfl⟩ := zWorld_inv hp
    obtain ⟨_, -, rfl⟩ := zWorld_inv hq
    have : zB O + i = zB O + j := he
    omega
  · obtain ⟨sh, h, rfl⟩ := zWorld_inv hk
    have := (List.getElem?_eq_some_iff.mp h).1
    exact Or.inl ⟨Nat.le_add_right _ _, Nat.add_lt_add_left this _⟩
/-- one cell's contents are changed -/
theorem zWorld_set {O : zOm} {M : zMem} {i : Nat} {sh : zSh} (h : (zS O)[i]? = some sh) (f : Int → Int) {e : va_E} (he : e = zEnc O f sh) : (zWorld O M).set i (zB O + i, e) = zWorld O (zput M i f) := by
  subst he
  refine List.ext_getElem? fun j => ?_
  rw [List.getElem?_set]
  have hl := (List.getElem?_eq_some_iff.mp h).1
  by_cases hij : i = j
  · subst hij
    rw [if_pos rfl, if_pos (by unfold zWorld; rw [List.length_mapIdx]; exact hl), zWorld_at h]
    unfold zput
    rw [if_pos rfl]
  · rw [if_neg hij]
    unfold zWorld
    rw [List.getElem?_mapIdx, List.getElem?_mapIdx]
    have : zput M i f (j : Int) = M (j : Int) := by unfold zput; rw [if_neg (by omega)]
    rw [this]
theorem zTy_at (O : zOm) {ty : FieldType} (h : ty ∈ zTy) : ∃ t0 : Nat, (zTys O)[t0]? = some (zcA O ty, ty) := by
  obtain ⟨t0, ht⟩ := List.getElem?_of_mem h
  exact ⟨t0, by unfold zTys; rw [List.getElem?_map, ht]; rfl⟩
theorem zMok_put {S : List zSh} {M : zMem} {i : Nat} {sh : zSh} (hM : zMok S M) (h : S[i]? = some sh) {f : Int → Int} (hf : zShOk f sh) : zMok S (zput M i f) := by
  intro j sh' hj
  unfold zput
  by_cases hij : (j : Int) = i
  · rw [if_pos hij]
    have : j = i := by omega
    subst this
    rw [h] at hj
    cases hj
    exact hf
  · rw [if_neg hij]
    exact hM j sh' hj
theorem zA_mono {O : zOm} {sz sz' : Nat} (h : sz ≤ sz') : ∀ q, zA O sz' q → zA O sz q := fun q hq => hq.imp id (fun h2 => Nat.le_trans h h2)
end
section
-- part 04.step.lean.txt
theorem zcall {p : Program} {e : Env} {R : Room} {s : State} {m : MethodId} {args : Array Value} {below : List Frame} {meth : Method} {c : Code} {Q : State → Prop} {O : zOm} {nL pc : Nat} {rest : List zV} {lv : zLv} {K : Option zV → zMem → Prop} {H : Heap} {locs : List Loc} {ls : Array Slot} {g0 : List Value} {a : Array Value}
    (hr : va_Run p (zLn O) e R s m args below meth c H locs 0 0 0 0 (F0 m pc ls g0) (rest.map (zWv O)) (zQ O K H.size a) (zA O H.size)) (hS : va_S (zA O s.heap.size) s.heap H locs) (hrest : ∀ v ∈ rest, zok v) (hlv : ∀ q ∈ lv, zok q.2) (hl : lv_has ls nL (lv.map fun q => (q.1, zWv O q.2)))
    (kk : ∀ v u, K v u → zGo p e R s m args below meth c Q O nL (pc + 3) (v.toList ++ rest) lv u) : W p (zLn O) e R s m args below meth c H locs 0 0 Q (F0 m pc ls g0) := by
  intro T hT X
  obtain ⟨v, st₀, t, T', L, h0, X', hL, e1, e2, ⟨⟨r, u, hv, hok, hM, hK, hP⟩, hz, hk⟩, st⟩ := hr T hT X
  cases hv
  rw [h0] at hz hk
  have hA := zA_mono (O := O) hS.1
  have hS' : va_S (zA O s.heap.size) s.heap T'.heap (locs ++ L) := ⟨Nat.le_trans hS.1 (by rw [e1]; exact hz), fun q h1 h2 => by rw [e1, hk q (Nat.lt_of_lt_of_le h1 hS.1) (fun z => h2 (hA q z))]; exact hS.2.1 q h1 h2, fun q hq => by
      rcases List.mem_append.mp hq with h | h
      · exact hS.2.2 q h
      · exact hA _ (hL q h)⟩
  have hst : ∀ w ∈ r.toList ++ rest, zok w := fun w hw => by
    rcases List.mem_append.mp hw with h | h
    · cases r with
      | none => cases h
      | some r0 =>
        have : w = r0 := by simpa using h
        subst this
        exact hok _ rfl
    · exact hrest w h
  have hstk : (r.toList ++ rest).map (zWv O) = (r.map (zWv O)).toList ++ rest.map (zWv O) := by cases r <;> rfl
  have k := kk r u hK hst hlv hM T'.heap (locs ++ L) ls (by rw [e1]; exact hP) hS' hl
  rw [hstk] at k
  obtain ⟨t2, a1, b1⟩ := k T' rfl X'
  exact ⟨t2, st t2 a1, b1⟩
theorem zPc_blind (O : zOm) (M : zMem) (sz : Nat) (as : List zV) : FrameBlind (zPc O M sz as) := by
  intro a U g mk h
  obtain ⟨h1, h2, h3, h4, h5⟩ := h
  exact ⟨h1, h2, h3, va_K.moved (Vm.Alike.refl _) h4, fun q hq => va_Nw.same rfl rfl (h5 q hq)⟩
theorem zPc_at {O : zOm} {M : zMem} {as : List zV} {s U : State} {H : Heap} (hP : va_P (zD O) (zcl O) (zWorld O M) H) (hK : va_K (zD O) (zcl O) (zTys O) s) (hN : zNw s) (hU : U.heap = H) (hW : s.WarmedH U.vm) : zPc O M H.size as (as.map (zWv O)).toArray U :=
  ⟨rfl, by rw [hU], by rw [hU]; exact hP, va_K.moved hW.alike hK, fun q hq => va_Nw.warmM hW (hN q hq)⟩
theorem zGood (f : zMR) (h : Jvm.Cond.code f.1 f.2.1 f.2.2.1 f.2.2.2.1 ∈ zWS) : GoodIn zWS (zWs f) := by
  intro w hw
  have hw : w ∈ zWS := by
    rcases List.mem_cons.mp hw with rfl | hw
    · exact h
    · exact hw
  exact ⟨hw, good_of_word (List.mem_filter.mp hw).2⟩
theorem zFld_inv {S : List zSh} {o : Int} {ci k : Nat} {q : Option (Option Nat)} (h : zFld S o ci k = some q) : 0 ≤ o ∧ ∃ fks, S[o.toNat]? = some (.inr (ci, fks)) ∧ fks[k]? = some q := by
  unfold zFld at h
  split at h
  next h0 =>
    refine ⟨h0, ?_⟩
    split at h
    next c fks hs =>
      split at h
      next hc => subst hc; exact ⟨fks, hs, h⟩
      next => cases h
    next => cases h
  next => cases h
theorem zEnc_inr (O : zOm) (row : Int → Int) (ci : Nat) (fks : List (Option (Option Nat))) : zEnc O row (.inr (ci, fks)) = .inr (ci, fks.mapIdx (zFv O row)) := rfl
theorem zrv_wv (O : zOm) (q : Option Nat) : zWv O (zrv q) = va_rf (q.map (zB O + ·)) := by
  cases q with
  | none => rfl
  | some r =>
    show zWv O (2, (r : Int)) = _
    rw [zWv_nn O (Int.natCast_nonneg r)]
    rfl
theorem zrv_ok (q : Option Nat) : zok (zrv q) := by
  cases q with
  | none => show (-2 : Int) ≤ -1; decide
  | some r => show (-2 : Int) ≤ (r : Int); omega
theorem zfk_ref (O : zOm) (row : Int → Int) (k : Nat) (q : Option Nat) : zFv O row k (some q) = zWv O (zrv q) := by
  rw [zrv_wv]
  cases q <;> rfl
theorem zand_i (x y : Int) : zi x &&& zi y = zi (zand x y) := (zi_of _).symm
theorem zor_i (x y : Int) : zi x ||| zi y = zi (zor x y) := (zi_of _).symm
theorem zxor_i (x y : Int) : zi x ^^^ zi y = zi (zxor x y) := (zi_of _).symm
theorem zshl_i (x y : Int) : zi x <<< (zi y &&& 31) = zi (zshl x y) := (zi_of _).symm
theorem zshr_i (x y : Int) : zi x >>> (zi y &&& 31) = zi (zshr x y) := (zi_of _).symm
theorem zcmp_i {x y : Int} (hx : zin64 x) (hy : zin64 y) : lg_cmp (zl x) (zl y) = zi (zcmp x y) := by
  unfold lg_cmp zcmp
  simp only [zl_lt hx hy, zl_lt hy hx, zl_eq hx hy]
  by_cases h1 : x < y
  · simp [h1, show ¬ y < x by omega, show ¬ x = y by omega]; rfl
  · by_cases h2 : x = y
    · simp [h2]; rfl
    · simp [h1, h2, show y < x by omega]; rfl
theorem zcmp_in (x y : Int) : zin32 (zcmp x y) := by
  unfold zcmp zin32
  split
  · omega
  · split <;> omega
theorem zupd_i {f : Int → Int} {j x : Int} (hj : 0 ≤ j) : (fun k : Nat => zi (zup f j x (k : Int))) = upd (fun k : Nat => zi (f (k : Int))) j.toNat (zi x) := by
  funext k
  unfold zup upd
  by_cases h : (k : Int) = j
  · rw [if_pos h, if_pos (by omega)]
  · rw [if_neg h, if_neg (by omega)]
theorem zupd_l {f : Int → Int} {j x : Int} (hj : 0 ≤ j) : (fun k : Nat => zl (zup f j x (k : Int))) = vp_updL (fun k : Nat => zl (f (k : Int))) j.toNat (zl x) := by
  funext k
  unfold zup vp_updL
  by_cases h : (k : Int) = j
  · rw [if_pos h, if_pos (by omega)]
  · rw [if_neg h, if_neg (by omega)]
theorem zShOk_up {row : Int → Int} {ty : FieldType} {n : Nat} {rs : List (Option Nat)} {j x : Int} (h : zShOk row (.inl (ty, n, rs))) (hx : zfit ty x) : zShOk (zup row j x) (.inl (ty, n, rs)) := by
  intro k hk
  unfold zup
  by_cases hkj : (k : Int) = j
  · rw [if_pos hkj]; exact hx
  · rw [if_neg hkj]; exact h k hk
theorem zShOk_upF {row : Int → Int} {ci : Nat} {fks : List (Option (Option Nat))} {j x : Int} (h : zShOk row (.inr (ci, fks))) (hx : zin32 x) : zShOk (zup row j x) (.inr (ci, fks)) := by
  intro k hk
  unfold zup
  by_cases hkj : (k : Int) = j
  · rw [if_pos hkj]; exact hx
  · rw [if_neg hkj]; exact h k hk
theorem zfit_int {ty : FieldType} {x : Int} (h : zfit ty x) (ht : ty = .boolean ∨ ty = .byte ∨ ty = .int) : zin32 x := by
  rcases ht with rfl | rfl | rfl
  · rcases h with h | h <;> (subst h; exact ⟨by decide, by decide⟩)
  · obtain ⟨h1, h2⟩ := h
    exact ⟨by omega, by omega⟩
  · exact h
theorem zcl_i {n : Int} (h0 : 0 ≤ n) : ∃ k : Nat, n = k := ⟨n.toNat, by omega⟩
theorem zcpy_i {f g : Int → Int} {sp dp cn : Int} (h1 : 0 ≤ sp) (h2 : 0 ≤ dp) (h3 : 0 ≤ cn) : (fun k : Nat => zi (zcpy f g sp dp cn (k : Int))) = va_cpy (fun k : Nat => zi (f (k : Int))) (fun k : Nat => zi (g (k : Int))) sp.toNat dp.toNat cn.toNat := by
  funext k
  unfold zcpy va_cpy
  by_cases h : dp ≤ (k : Int) ∧ (k : Int) < dp + cn
  · rw [if_pos h, if_pos (by omega)]
    have : sp + ((k : Int) - dp) = ((sp.toNat + (k - dp.toNat) : Nat) : Int) := by omega
    rw [this]
  · rw [if_neg h, if_neg (by omega)]

set_option maxHeartbeats 4000000 in
set_option maxRecDepth 100000 in
theorem zg_iconst {p : Program} {e : Env} {R : Room} {s : State} {m : MethodId} {args : Array Value} {below : List Frame} {meth : Method} {c : Code} {Q : State → Prop} {O : zOm} {ev : zEv} (X : zCx p R s m args meth c O ev) {rt : Option zV → zMem → Prop} {n pc : Nat} {st : List zV} {lv : zLv} {M : zMem} {v : Int}
    (hd : decode ev.2.1 pc = .ok (.iconst v, n)) (h : zStep ev (zS O) (zR O) rt (.iconst v) n pc st lv M (zGo p e R s m args below meth c Q O ev.2.2.1)) : zGo p e R s m args below meth c Q O ev.2.2.1 pc st lv M := by
  obtain ⟨own, code, nL, ret, pf, pm, pk, fr, lo, fn⟩ := ev
  obtain ⟨hx, hb, hml, hret, hown, hts, hK, hN, hfr, hlo, hszB, hSo, hCl, hF, hM0, hM1, hM2, hM5, hk0, hk1, hM3, hM4⟩ := X
  dsimp only at hb hml hret hown hfr hlo hF hM0 hM1 hM2 hM5 hk0 hk1 hM3 hM4 hd
  intro hst hlv hM H locs ls hP hS hl
  obtain ⟨rfl, hv, h⟩ := h
  exact lv_iconst (v := zi v) hx hb hd rfl (h (zok_cons ⟨by omega, by omega⟩ hst) hlv hM H locs ls hP hS hl)

set_option maxHeartbeats 4000000 in
set_option maxRecDepth 100000 in
theorem zg_bipush {p : Program} {e : Env} {R : Room} {s : State} {m : MethodId} {args : Array Value} {below : List Frame} {meth : Method} {c : Code} {Q : State → Prop} {O : zOm} {ev : zEv} (X : zCx p R s m args meth c O ev) {rt : Option zV → zMem → Prop} {n pc : Nat} {st : List zV} {lv : zLv} {M : zMem} {v : Int}
    (hd : decode ev.2.1 pc = .ok (.bipush v, n)) (h : zStep ev (zS O) (zR O) rt (.bipush v) n pc st lv M (zGo p e R s m args below meth c Q O ev.2.2.1)) : zGo p e R s m args below meth c Q O ev.2.2.1 pc st lv M := by
  obtain ⟨own, code, nL, ret, pf, pm, pk, fr, lo, fn⟩ := ev
  obtain ⟨hx, hb, hml, hret, hown, hts, hK, hN, hfr, hlo, hszB, hSo, hCl, hF, hM0, hM1, hM2, hM5, hk0, hk1, hM3, hM4⟩ := X
  dsimp only at hb hml hret hown hfr hlo hF hM0 hM1 hM2 hM5 hk0 hk1 hM3 hM4 hd
  intro hst hlv hM H locs ls hP hS hl
  obtain ⟨rfl, hv, h⟩ := h
  exact lv_bipush (v := zi v) hx hb hd (zi_i8 hv) (h (zok_cons ⟨by omega, by omega⟩ hst) hlv hM H locs ls hP hS hl)

set_option maxHeartbeats 4000000 in
set_option maxRecDepth 100000 in
theorem zg_sipush {p : Program} {e : Env} {R : Room} {s : State} {m : MethodId} {args : Array Value} {below : List Frame} {meth : Method} {c : Code} {Q : State → Prop} {O : zOm} {ev : zEv} (X : zCx p R s m args meth c O ev) {rt : Option zV → zMem → Prop} {n pc : Nat} {st : List zV} {lv : zLv} {M : zMem} {v : Int}
    (hd : decode ev.2.1 pc = .ok (.sipush v, n)) (h : zStep ev (zS O) (zR O) rt (.sipush v) n pc st lv M (zGo p e R s m args below meth c Q O ev.2.2.1)) : zGo p e R s m args below meth c Q O ev.2.2.1 pc st lv M := by
  obtain ⟨own, code, nL, ret, pf, pm, pk, fr, lo, fn⟩ := ev
  obtain ⟨hx, hb, hml, hret, hown, hts, hK, hN, hfr, hlo, hszB, hSo, hCl, hF, hM0, hM1, hM2, hM5, hk0, hk1, hM3, hM4⟩ := X
  dsimp only at hb hml hret hown hfr hlo hF hM0 hM1 hM2 hM5 hk0 hk1 hM3 hM4 hd
  intro hst hlv hM H locs ls hP hS hl
  obtain ⟨rfl, hv, h⟩ := h
  exact lv_sipush (v := zi v) hx hb hd (zi_i16 hv) (h (zok_cons ⟨by omega, by omega⟩ hst) hlv hM H locs ls hP hS hl)

set_option maxHeartbeats 4000000 in
set_option maxRecDepth 100000 in
theorem zg_lconst {p : Program} {e : Env} {R : Room} {s : State} {m : MethodId} {args : Array Value} {below : List Frame} {meth : Method} {c : Code} {Q : State → Prop} {O : zOm} {ev : zEv} (X : zCx p R s m args meth c O ev) {rt : Option zV → zMem → Prop} {n pc : Nat} {st : List zV} {lv : zLv} {M : zMem} {v : Fin 2}
    (hd : decode ev.2.1 pc = .ok (.lconst v, n)) (h : zStep ev (zS O) (zR O) rt (.lconst v) n pc st lv M (zGo p e R s m args below meth c Q O ev.2.2.1)) : zGo p e R s m args below meth c Q O ev.2.2.1 pc st lv M := by
  obtain ⟨own, code, nL, ret, pf, pm, pk, fr, lo, fn⟩ := ev
  obtain ⟨hx, hb, hml, hret, hown, hts, hK, hN, hfr, hlo, hszB, hSo, hCl, hF, hM0, hM1, hM2, hM5, hk0, hk1, hM3, hM4⟩ := X
  dsimp only at hb hml hret hown hfr hlo hF hM0 hM1 hM2 hM5 hk0 hk1 hM3 hM4 hd
  intro hst hlv hM H locs ls hP hS hl
  obtain ⟨rfl, h⟩ := h
  exact lv_lconst (v := zl ((v : Nat) : Int)) hx hb hd (by unfold zl; rw [Int64.ofInt_eq_ofNat]) (h (zok_cons ⟨by omega, by have := v.isLt; show ((v : Nat) : Int) < 9223372036854775808; omega⟩ hst) hlv hM H locs ls hP hS hl)

set_option maxHeartbeats 4000000 in
set_option maxRecDepth 100000 in
theorem zg_aconst_null {p : Program} {e : Env} {R : Room} {s : State} {m : MethodId} {args : Array Value} {below : List Frame} {meth : Method} {c : Code} {Q : State → Prop} {O : zOm} {ev : zEv} (X : zCx p R s m args meth c O ev) {rt : Option zV → zMem → Prop} {n pc : Nat} {st : List zV} {lv : zLv} {M : zMem} 
    (hd : decode ev.2.1 pc = .ok (.aconst_null, n)) (h : zStep ev (zS O) (zR O) rt (.aconst_null) n pc st lv M (zGo p e R s m args below meth c Q O ev.2.2.1)) : zGo p e R s m args below meth c Q O ev.2.2.1 pc st lv M := by
  obtain ⟨own, code, nL, ret, pf, pm, pk, fr, lo, fn⟩ := ev
  obtain ⟨hx, hb, hml, hret, hown, hts, hK, hN, hfr, hlo, hszB, hSo, hCl, hF, hM0, hM1, hM2, hM5, hk0, hk1, hM3, hM4⟩ := X
  dsimp only at hb hml hret hown hfr hlo hF hM0 hM1 hM2 hM5 hk0 hk1 hM3 hM4 hd
  intro hst hlv hM H locs ls hP hS hl
  obtain ⟨rfl, h⟩ := h
  exact lv_null hx hb hd (h (zok_cons (by show (-2 : Int) ≤ -1; decide) hst) hlv hM H locs ls hP hS hl)

set_option maxHeartbeats 4000000 in
set_option maxRecDepth 100000 in
theorem zg_ldc {p : Program} {e : Env} {R : Room} {s : State} {m : MethodId} {args : Array Value} {below : List Frame} {meth : Method} {c : Code} {Q : State → Prop} {O : zOm} {ev : zEv} (X : zCx p R s m args meth c O ev) {rt : Option zV → zMem → Prop} {n pc : Nat} {st : List zV} {lv : zLv} {M : zMem} {k : Nat}
    (hd : decode ev.2.1 pc = .ok (.ldc k, n)) (h : zStep ev (zS O) (zR O) rt (.ldc k) n pc st lv M (zGo p e R s m args below meth c Q O ev.2.2.1)) : zGo p e R s m args below meth c Q O ev.2.2.1 pc st lv M := by
  obtain ⟨own, code, nL, ret, pf, pm, pk, fr, lo, fn⟩ := ev
  obtain ⟨hx, hb, hml, hret, hown, hts, hK, hN, hfr, hlo, hszB, hSo, hCl, hF, hM0, hM1, hM2, hM5, hk0, hk1, hM3, hM4⟩ := X
  dsimp only at hb hml hret hown hfr hlo hF hM0 hM1 hM2 hM5 hk0 hk1 hM3 hM4 hd
  intro hst hlv hM H locs ls hP hS hl
  obtain ⟨rfl, v, hv, hin, h⟩ := h
  exact lv_ldc (v := zi v) hx hb hown (hts _ (hk0 k v hv)) hd (h (zok_cons hin hst) hlv hM H locs ls hP hS hl)

set_option maxHeartbeats 4000000 in
set_option maxRecDepth 100000 in
theorem zg_ldc_w {p : Program} {e : Env} {R : Room} {s : State} {m : MethodId} {args : Array Value} {below : List Frame} {meth : Method} {c : Code} {Q : State → Prop} {O : zOm} {ev : zEv} (X : zCx p R s m args meth c O ev) {rt : Option zV → zMem → Prop} {n pc : Nat} {st : List zV} {lv : zLv} {M : zMem} {k : Nat}
    (hd : decode ev.2.1 pc = .ok (.ldc_w k, n)) (h : zStep ev (zS O) (zR O) rt (.ldc_w k) n pc st lv M (zGo p e R s m args below meth c Q O ev.2.2.1)) : zGo p e R s m args below meth c Q O ev.2.2.1 pc st lv M := by
  obtain ⟨own, code, nL, ret, pf, pm, pk, fr, lo, fn⟩ := ev
  obtain ⟨hx, hb, hml, hret, hown, hts, hK, hN, hfr, hlo, hszB, hSo, hCl, hF, hM0, hM1, hM2, hM5, hk0, hk1, hM3, hM4⟩ := X
  dsimp only at hb hml hret hown hfr hlo hF hM0 hM1 hM2 hM5 hk0 hk1 hM3 hM4 hd
  intro hst hlv hM H locs ls hP hS hl
  obtain ⟨rfl, v, hv, hin, h⟩ := h
  exact lv_ldcw (v := zi v) hx hb hown (hts _ (hk0 k v hv)) hd (h (zok_cons hin hst) hlv hM H locs ls hP hS hl)

set_option maxHeartbeats 4000000 in
set_option maxRecDepth 100000 in
theorem zg_ldc2_w {p : Program} {e : Env} {R : Room} {s : State} {m : MethodId} {args : Array Value} {below : List Frame} {meth : Method} {c : Code} {Q : State → Prop} {O : zOm} {ev : zEv} (X : zCx p R s m args meth c O ev) {rt : Option zV → zMem → Prop} {n pc : Nat} {st : List zV} {lv : zLv} {M : zMem} {k : Nat}
    (hd : decode ev.2.1 pc = .ok (.ldc2_w k, n)) (h : zStep ev (zS O) (zR O) rt (.ldc2_w k) n pc st lv M (zGo p e R s m args below meth c Q O ev.2.2.1)) : zGo p e R s m args below meth c Q O ev.2.2.1 pc st lv M := by
  obtain ⟨own, code, nL, ret, pf, pm, pk, fr, lo, fn⟩ := ev
  obtain ⟨hx, hb, hml, hret, hown, hts, hK, hN, hfr, hlo, hszB, hSo, hCl, hF, hM0, hM1, hM2, hM5, hk0, hk1, hM3, hM4⟩ := X
  dsimp only at hb hml hret hown hfr hlo hF hM0 hM1 hM2 hM5 hk0 hk1 hM3 hM4 hd
  intro hst hlv hM H locs ls hP hS hl
  obtain ⟨rfl, v, hv, hin, h⟩ := h
  exact lv_ldc2 (v := zl v) hx hb hown (hts _ (hk1 k v hv)) hd (h (zok_cons hin hst) hlv hM H locs ls hP hS hl)

set_option maxHeartbeats 4000000 in
set_option maxRecDepth 100000 in
theorem zg_iload {p : Program} {e : Env} {R : Room} {s : State} {m : MethodId} {args : Array Value} {below : List Frame} {meth : Method} {c : Code} {Q : State → Prop} {O : zOm} {ev : zEv} (X : zCx p R s m args meth c O ev) {rt : Option zV → zMem → Prop} {n pc : Nat} {st : List zV} {lv : zLv} {M : zMem} {k : Nat}
    (hd : decode ev.2.1 pc = .ok (.iload k, n)) (h : zStep ev (zS O) (zR O) rt (.iload k) n pc st lv M (zGo p e R s m args below meth c Q O ev.2.2.1)) : zGo p e R s m args below meth c Q O ev.2.2.1 pc st lv M := by
  obtain ⟨own, code, nL, ret, pf, pm, pk, fr, lo, fn⟩ := ev
  obtain ⟨hx, hb, hml, hret, hown, hts, hK, hN, hfr, hlo, hszB, hSo, hCl, hF, hM0, hM1, hM2, hM5, hk0, hk1, hM3, hM4⟩ := X
  dsimp only at hb hml hret hown hfr hlo hF hM0 hM1 hM2 hM5 hk0 hk1 hM3 hM4 hd
  intro hst hlv hM H locs ls hP hS hl
  obtain ⟨rfl, x, hv, h⟩ := h
  have hm := zLook_mem hv
  exact lv_iload hx hb hd (hl.2.2 _ (List.mem_map.mpr ⟨_, hm, rfl⟩)) (h (zok_cons (hlv _ hm) hst) hlv hM H locs ls hP hS hl)

set_option maxHeartbeats 4000000 in
set_option maxRecDepth 100000 in
theorem zg_iload_n {p : Program} {e : Env} {R : Room} {s : State} {m : MethodId} {args : Array Value} {below : List Frame} {meth : Method} {c : Code} {Q : State → Prop} {O : zOm} {ev : zEv} (X : zCx p R s m args meth c O ev) {rt : Option zV → zMem → Prop} {n pc : Nat} {st : List zV} {lv : zLv} {M : zMem} {k : Fin 4}
    (hd : decode ev.2.1 pc = .ok (.iload_n k, n)) (h : zStep ev (zS O) (zR O) rt (.iload_n k) n pc st lv M (zGo p e R s m args below meth c Q O ev.2.2.1)) : zGo p e R s m args below meth c Q O ev.2.2.1 pc st lv M := by
  obtain ⟨own, code, nL, ret, pf, pm, pk, fr, lo, fn⟩ := ev
  obtain ⟨hx, hb, hml, hret, hown, hts, hK, hN, hfr, hlo, hszB, hSo, hCl, hF, hM0, hM1, hM2, hM5, hk0, hk1, hM3, hM4⟩ := X
  dsimp only at hb hml hret hown hfr hlo hF hM0 hM1 hM2 hM5 hk0 hk1 hM3 hM4 hd
  intro hst hlv hM H locs ls hP hS hl
  obtain ⟨rfl, x, hv, h⟩ := h
  have hm := zLook_mem hv
  exact lv_iload_n hx hb hd rfl (hl.2.2 _ (List.mem_map.mpr ⟨_, hm, rfl⟩)) (h (zok_cons (hlv _ hm) hst) hlv hM H locs ls hP hS hl)

set_option maxHeartbeats 4000000 in
set_option maxRecDepth 100000 in
theorem zg_lload {p : Program} {e : Env} {R : Room} {s : State} {m : MethodId} {args : Array Value} {below : List Frame} {meth : Method} {c : Code} {Q : State → Prop} {O : zOm} {ev : zEv} (X : zCx p R s m args meth c O ev) {rt : Option zV → zMem → Prop} {n pc : Nat} {st : List zV} {lv : zLv} {M : zMem} {k : Nat}
    (hd : decode ev.2.1 pc = .ok (.lload k, n)) (h : zStep ev (zS O) (zR O) rt (.lload k) n pc st lv M (zGo p e R s m args below meth c Q O ev.2.2.1)) : zGo p e R s m args below meth c Q O ev.2.2.1 pc st lv M := by
  obtain ⟨own, code, nL, ret, pf, pm, pk, fr, lo, fn⟩ := ev
  obtain ⟨hx, hb, hml, hret, hown, hts, hK, hN, hfr, hlo, hszB, hSo, hCl, hF, hM0, hM1, hM2, hM5, hk0, hk1, hM3, hM4⟩ := X
  dsimp only at hb hml hret hown hfr hlo hF hM0 hM1 hM2 hM5 hk0 hk1 hM3 hM4 hd
  intro hst hlv hM H locs ls hP hS hl
  obtain ⟨rfl, x, hv, h⟩ := h
  have hm := zLook_mem hv
  exact lv_lload hx hb hd (hl.2.2 _ (List.mem_map.mpr ⟨_, hm, rfl⟩)) (h (zok_cons (hlv _ hm) hst) hlv hM H locs ls hP hS hl)

set_option maxHeartbeats 4000000 in
set_option maxRecDepth 100000 in
theorem zg_lload_n {p : Program} {e : Env} {R : Room} {s : State} {m : MethodId} {args : Array Value} {below : List Frame} {meth : Method} {c : Code} {Q : State → Prop} {O : zOm} {ev : zEv} (X : zCx p R s m args meth c O ev) {rt : Option zV → zMem → Prop} {n pc : Nat} {st : List zV} {lv : zLv} {M : zMem} {k : Fin 4}
    (hd : decode ev.2.1 pc = .ok (.lload_n k, n)) (h : zStep ev (zS O) (zR O) rt (.lload_n k) n pc st lv M (zGo p e R s m args below meth c Q O ev.2.2.1)) : zGo p e R s m args below meth c Q O ev.2.2.1 pc st lv M := by
  obtain ⟨own, code, nL, ret, pf, pm, pk, fr, lo, fn⟩ := ev
  obtain ⟨hx, hb, hml, hret, hown, hts, hK, hN, hfr, hlo, hszB, hSo, hCl, hF, hM0, hM1, hM2, hM5, hk0, hk1, hM3, hM4⟩ := X
  dsimp only at hb hml hret hown hfr hlo hF hM0 hM1 hM2 hM5 hk0 hk1 hM3 hM4 hd
  intro hst hlv hM H locs ls hP hS hl
  obtain ⟨rfl, x, hv, h⟩ := h
  have hm := zLook_mem hv
  exact lv_lload_n hx hb hd rfl (hl.2.2 _ (List.mem_map.mpr ⟨_, hm, rfl⟩)) (h (zok_cons (hlv _ hm) hst) hlv hM H locs ls hP hS hl)

set_option maxHeartbeats 4000000 in
set_option maxRecDepth 100000 in
theorem zg_aload {p : Program} {e : Env} {R : Room} {s : State} {m : MethodId} {args : Array Value} {below : List Frame} {meth : Method} {c : Code} {Q : State → Prop} {O : zOm} {ev : zEv} (X : zCx p R s m args meth c O ev) {rt : Option zV → zMem → Prop} {n pc : Nat} {st : List zV} {lv : zLv} {M : zMem} {k : Nat}
    (hd : decode ev.2.1 pc = .ok (.aload k, n)) (h : zStep ev (zS O) (zR O) rt (.aload k) n pc st lv M (zGo p e R s m args below meth c Q O ev.2.2.1)) : zGo p e R s m args below meth c Q O ev.2.2.1 pc st lv M := by
  obtain ⟨own, code, nL, ret, pf, pm, pk, fr, lo, fn⟩ := ev
  obtain ⟨hx, hb, hml, hret, hown, hts, hK, hN, hfr, hlo, hszB, hSo, hCl, hF, hM0, hM1, hM2, hM5, hk0, hk1, hM3, hM4⟩ := X
  dsimp only at hb hml hret hown hfr hlo hF hM0 hM1 hM2 hM5 hk0 hk1 hM3 hM4 hd
  intro hst hlv hM H locs ls hP hS hl
  obtain ⟨rfl, x, hv, h⟩ := h
  have hm := zLook_mem hv
  have hg := hl.2.2 _ (List.mem_map.mpr ⟨_, hm, rfl⟩)
  have h2 := h (zok_cons (hlv _ hm) hst) hlv hM H locs ls hP hS hl
  rw [List.map_cons] at h2
  dsimp only at hg
  rcases zWv_ref O x with hw | ⟨a, hw⟩
  · rw [hw] at hg h2
    exact lv_aloadN hx hb hd hg h2
  · rw [hw] at hg h2
    exact lv_aload hx hb hd hg h2

set_option maxHeartbeats 4000000 in
set_option maxRecDepth 100000 in
theorem zg_aload_n {p : Program} {e : Env} {R : Room} {s : State} {m : MethodId} {args : Array Value} {below : List Frame} {meth : Method} {c : Code} {Q : State → Prop} {O : zOm} {ev : zEv} (X : zCx p R s m args meth c O ev) {rt : Option zV → zMem → Prop} {n pc : Nat} {st : List zV} {lv : zLv} {M : zMem} {k : Fin 4}
    (hd : decode ev.2.1 pc = .ok (.aload_n k, n)) (h : zStep ev (zS O) (zR O) rt (.aload_n k) n pc st lv M (zGo p e R s m args below meth c Q O ev.2.2.1)) : zGo p e R s m args below meth c Q O ev.2.2.1 pc st lv M := by
  obtain ⟨own, code, nL, ret, pf, pm, pk, fr, lo, fn⟩ := ev
  obtain ⟨hx, hb, hml, hret, hown, hts, hK, hN, hfr, hlo, hszB, hSo, hCl, hF, hM0, hM1, hM2, hM5, hk0, hk1, hM3, hM4⟩ := X
  dsimp only at hb hml hret hown hfr hlo hF hM0 hM1 hM2 hM5 hk0 hk1 hM3 hM4 hd
  intro hst hlv hM H locs ls hP hS hl
  obtain ⟨rfl, x, hv, h⟩ := h
  have hm := zLook_mem hv
  have hg := hl.2.2 _ (List.mem_map.mpr ⟨_, hm, rfl⟩)
  have h2 := h (zok_cons (hlv _ hm) hst) hlv hM H locs ls hP hS hl
  rw [List.map_cons] at h2
  dsimp only at hg
  rcases zWv_ref O x with hw | ⟨a, hw⟩
  · rw [hw] at hg h2
    exact lv_aload_nN hx hb hd rfl hg h2
  · rw [hw] at hg h2
    exact lv_aload_n hx hb hd rfl hg h2

set_option maxHeartbeats 4000000 in
set_option maxRecDepth 100000 in
theorem zg_istore {p : Program} {e : Env} {R : Room} {s : State} {m : MethodId} {args : Array Value} {below : List Frame} {meth : Method} {c : Code} {Q : State → Prop} {O : zOm} {ev : zEv} (X : zCx p R s m args meth c O ev) {rt : Option zV → zMem → Prop} {n pc : Nat} {st : List zV} {lv : zLv} {M : zMem} {k : Nat}
    (hd : decode ev.2.1 pc = .ok (.istore k, n)) (h : zStep ev (zS O) (zR O) rt (.istore k) n pc st lv M (zGo p e R s m args below meth c Q O ev.2.2.1)) : zGo p e R s m args below meth c Q O ev.2.2.1 pc st lv M := by
  obtain ⟨own, code, nL, ret, pf, pm, pk, fr, lo, fn⟩ := ev
  obtain ⟨hx, hb, hml, hret, hown, hts, hK, hN, hfr, hlo, hszB, hSo, hCl, hF, hM0, hM1, hM2, hM5, hk0, hk1, hM3, hM4⟩ := X
  dsimp only at hb hml hret hown hfr hlo hF hM0 hM1 hM2 hM5 hk0 hk1 hM3 hM4 hd
  intro hst hlv hM H locs ls hP hS hl
  obtain ⟨rfl, hk, x, r, rfl, h⟩ := h
  exact lv_istore hx hb hd hl hk (zSt1_map O lv k (0, x)) (fun ls' hl' => h (zok_tl hst) (zSt1_ok hlv (zok_hd hst)) hM H locs ls' hP hS hl')

set_option maxHeartbeats 4000000 in
set_option maxRecDepth 100000 in
theorem zg_istore_n {p : Program} {e : Env} {R : Room} {s : State} {m : MethodId} {args : Array Value} {below : List Frame} {meth : Method} {c : Code} {Q : State → Prop} {O : zOm} {ev : zEv} (X : zCx p R s m args meth c O ev) {rt : Option zV → zMem → Prop} {n pc : Nat} {st : List zV} {lv : zLv} {M : zMem} {k : Fin 4}
    (hd : decode ev.2.1 pc = .ok (.istore_n k, n)) (h : zStep ev (zS O) (zR O) rt (.istore_n k) n pc st lv M (zGo p e R s m args below meth c Q O ev.2.2.1)) : zGo p e R s m args below meth c Q O ev.2.2.1 pc st lv M := by
  obtain ⟨own, code, nL, ret, pf, pm, pk, fr, lo, fn⟩ := ev
  obtain ⟨hx, hb, hml, hret, hown, hts, hK, hN, hfr, hlo, hszB, hSo, hCl, hF, hM0, hM1, hM2, hM5, hk0, hk1, hM3, hM4⟩ := X
  dsimp only at hb hml hret hown hfr hlo hF hM0 hM1 hM2 hM5 hk0 hk1 hM3 hM4 hd
  intro hst hlv hM H locs ls hP hS hl
  obtain ⟨rfl, hk, x, r, rfl, h⟩ := h
  exact lv_istore_n hx hb hd rfl hl hk (zSt1_map O lv k (0, x)) (fun ls' hl' => h (zok_tl hst) (zSt1_ok hlv (zok_hd hst)) hM H locs ls' hP hS hl')

set_option maxHeartbeats 4000000 in
set_option maxRecDepth 100000 in
theorem zg_lstore {p : Program} {e : Env} {R : Room} {s : State} {m : MethodId} {args : Array Value} {below : List Frame} {meth : Method} {c : Code} {Q : State → Prop} {O : zOm} {ev : zEv} (X : zCx p R s m args meth c O ev) {rt : Option zV → zMem → Prop} {n pc : Nat} {st : List zV} {lv : zLv} {M : zMem} {k : Nat}
    (hd : decode ev.2.1 pc = .ok (.lstore k, n)) (h : zStep ev (zS O) (zR O) rt (.lstore k) n pc st lv M (zGo p e R s m args below meth c Q O ev.2.2.1)) : zGo p e R s m args below meth c Q O ev.2.2.1 pc st lv M := by
  obtain ⟨own, code, nL, ret, pf, pm, pk, fr, lo, fn⟩ := ev
  obtain ⟨hx, hb, hml, hret, hown, hts, hK, hN, hfr, hlo, hszB, hSo, hCl, hF, hM0, hM1, hM2, hM5, hk0, hk1, hM3, hM4⟩ := X
  dsimp only at hb hml hret hown hfr hlo hF hM0 hM1 hM2 hM5 hk0 hk1 hM3 hM4 hd
  intro hst hlv hM H locs ls hP hS hl
  obtain ⟨rfl, hk, x, r, rfl, h⟩ := h
  exact lv_lstore hx hb hd hl hk (zSt2_map O lv k (1, x)) (fun ls' hl' => h (zok_tl hst) (zSt2_ok hlv (zok_hd hst)) hM H locs ls' hP hS hl')

set_option maxHeartbeats 4000000 in
set_option maxRecDepth 100000 in
theorem zg_lstore_n {p : Program} {e : Env} {R : Room} {s : State} {m : MethodId} {args : Array Value} {below : List Frame} {meth : Method} {c : Code} {Q : State → Prop} {O : zOm} {ev : zEv} (X : zCx p R s m args meth c O ev) {rt : Option zV → zMem → Prop} {n pc : Nat} {st : List zV} {lv : zLv} {M : zMem} {k : Fin 4}
    (hd : decode ev.2.1 pc = .ok (.lstore_n k, n)) (h : zStep ev (zS O) (zR O) rt (.lstore_n k) n pc st lv M (zGo p e R s m args below meth c Q O ev.2.2.1)) : zGo p e R s m args below meth c Q O ev.2.2.1 pc st lv M := by
  obtain ⟨own, code, nL, ret, pf, pm, pk, fr, lo, fn⟩ := ev
  obtain ⟨hx, hb, hml, hret, hown, hts, hK, hN, hfr, hlo, hszB, hSo, hCl, hF, hM0, hM1, hM2, hM5, hk0, hk1, hM3, hM4⟩ := X
  dsimp only at hb hml hret hown hfr hlo hF hM0 hM1 hM2 hM5 hk0 hk1 hM3 hM4 hd
  intro hst hlv hM H locs ls hP hS hl
  obtain ⟨rfl, hk, x, r, rfl, h⟩ := h
  exact lv_lstore_n hx hb hd rfl hl hk (zSt2_map O lv k (1, x)) (fun ls' hl' => h (zok_tl hst) (zSt2_ok hlv (zok_hd hst)) hM H locs ls' hP hS hl')

set_option maxHeartbeats 4000000 in
set_option maxRecDepth 100000 in
theorem zg_astore {p : Program} {e : Env} {R : Room} {s : State} {m : MethodId} {args : Array Value} {below : List Frame} {meth : Method} {c : Code} {Q : State → Prop} {O : zOm} {ev : zEv} (X : zCx p R s m args meth c O ev) {rt : Option zV → zMem → Prop} {n pc : Nat} {st : List zV} {lv : zLv} {M : zMem} {k : Nat}
    (hd : decode ev.2.1 pc = .ok (.astore k, n)) (h : zStep ev (zS O) (zR O) rt (.astore k) n pc st lv M (zGo p e R s m args below meth c Q O ev.2.2.1)) : zGo p e R s m args below meth c Q O ev.2.2.1 pc st lv M := by
  obtain ⟨own, code, nL, ret, pf, pm, pk, fr, lo, fn⟩ := ev
  obtain ⟨hx, hb, hml, hret, hown, hts, hK, hN, hfr, hlo, hszB, hSo, hCl, hF, hM0, hM1, hM2, hM5, hk0, hk1, hM3, hM4⟩ := X
  dsimp only at hb hml hret hown hfr hlo hF hM0 hM1 hM2 hM5 hk0 hk1 hM3 hM4 hd
  intro hst hlv hM H locs ls hP hS hl
  obtain ⟨rfl, hk, x, r, rfl, h⟩ := h
  have hm := zSt1_map O lv k (2, x)
  have h2 := fun ls' hl' => h (zok_tl hst) (zSt1_ok hlv (zok_hd hst)) hM H locs ls' hP hS hl'
  rw [List.map_cons]
  rcases zWv_ref O x with hw | ⟨a, hw⟩
  · rw [hw] at hm ⊢
    exact lv_astoreN hx hb hd hl hk hm h2
  · rw [hw] at hm ⊢
    exact lv_astore hx hb hd hl hk hm h2

set_option maxHeartbeats 4000000 in
set_option maxRecDepth 100000 in
theorem zg_astore_n {p : Program} {e : Env} {R : Room} {s : State} {m : MethodId} {args : Array Value} {below : List Frame} {meth : Method} {c : Code} {Q : State → Prop} {O : zOm} {ev : zEv} (X : zCx p R s m args meth c O ev) {rt : Option zV → zMem → Prop} {n pc : Nat} {st : List zV} {lv : zLv} {M : zMem} {k : Fin 4}
    (hd : decode ev.2.1 pc = .ok (.astore_n k, n)) (h : zStep ev (zS O) (zR O) rt (.astore_n k) n pc st lv M (zGo p e R s m args below meth c Q O ev.2.2.1)) : zGo p e R s m args below meth c Q O ev.2.2.1 pc st lv M := by
  obtain ⟨own, code, nL, ret, pf, pm, pk, fr, lo, fn⟩ := ev
  obtain ⟨hx, hb, hml, hret, hown, hts, hK, hN, hfr, hlo, hszB, hSo, hCl, hF, hM0, hM1, hM2, hM5, hk0, hk1, hM3, hM4⟩ := X
  dsimp only at hb hml hret hown hfr hlo hF hM0 hM1 hM2 hM5 hk0 hk1 hM3 hM4 hd
  intro hst hlv hM H locs ls hP hS hl
  obtain ⟨rfl, hk, x, r, rfl, h⟩ := h
  have hm := zSt1_map O lv k (2, x)
  have h2 := fun ls' hl' => h (zok_tl hst) (zSt1_ok hlv (zok_hd hst)) hM H locs ls' hP hS hl'
  rw [List.map_cons]
  rcases zWv_ref O x with hw | ⟨a, hw⟩
  · rw [hw] at hm ⊢
    exact lv_astore_nN hx hb hd rfl hl hk hm h2
  · rw [hw] at hm ⊢
    exact lv_astore_n hx hb hd rfl hl hk hm h2

set_option maxHeartbeats 4000000 in
set_option maxRecDepth 100000 in
theorem zg_iinc {p : Program} {e : Env} {R : Room} {s : State} {m : MethodId} {args : Array Value} {below : List Frame} {meth : Method} {c : Code} {Q : State → Prop} {O : zOm} {ev : zEv} (X : zCx p R s m args meth c O ev) {rt : Option zV → zMem → Prop} {n pc : Nat} {st : List zV} {lv : zLv} {M : zMem} {k : Nat} {d : Int}
    (hd : decode ev.2.1 pc = .ok (.iinc k d, n)) (h : zStep ev (zS O) (zR O) rt (.iinc k d) n pc st lv M (zGo p e R s m args below meth c Q O ev.2.2.1)) : zGo p e R s m args below meth c Q O ev.2.2.1 pc st lv M := by
  obtain ⟨own, code, nL, ret, pf, pm, pk, fr, lo, fn⟩ := ev
  obtain ⟨hx, hb, hml, hret, hown, hts, hK, hN, hfr, hlo, hszB, hSo, hCl, hF, hM0, hM1, hM2, hM5, hk0, hk1, hM3, hM4⟩ := X
  dsimp only at hb hml hret hown hfr hlo hF hM0 hM1 hM2 hM5 hk0 hk1 hM3 hM4 hd
  intro hst hlv hM H locs ls hP hS hl
  obtain ⟨rfl, hk, x, hv, h⟩ := h
  have hm := zLook_mem hv
  obtain ⟨j, hj⟩ := List.getElem?_of_mem hm
  exact lv_iinc (v := zi (zw32 (x + d))) (k := j) hx hb hd hl (by rw [List.getElem?_map, hj]; rfl) (zi_addc (hlv _ hm) d) hk (zSt1_map O lv k (0, zw32 (x + d))) (fun ls' hl' => h hst (zSt1_ok hlv (zw32_in _)) hM H locs ls' hP hS hl')

set_option maxHeartbeats 4000000 in
set_option maxRecDepth 100000 in
theorem zg_iadd {p : Program} {e : Env} {R : Room} {s : State} {m : MethodId} {args : Array Value} {below : List Frame} {meth : Method} {c : Code} {Q : State → Prop} {O : zOm} {ev : zEv} (X : zCx p R s m args meth c O ev) {rt : Option zV → zMem → Prop} {n pc : Nat} {st : List zV} {lv : zLv} {M : zMem} 
    (hd : decode ev.2.1 pc = .ok (.iadd, n)) (h : zStep ev (zS O) (zR O) rt (.iadd) n pc st lv M (zGo p e R s m args below meth c Q O ev.2.2.1)) : zGo p e R s m args below meth c Q O ev.2.2.1 pc st lv M := by
  obtain ⟨own, code, nL, ret, pf, pm, pk, fr, lo, fn⟩ := ev
  obtain ⟨hx, hb, hml, hret, hown, hts, hK, hN, hfr, hlo, hszB, hSo, hCl, hF, hM0, hM1, hM2, hM5, hk0, hk1, hM3, hM4⟩ := X
  dsimp only at hb hml hret hown hfr hlo hF hM0 hM1 hM2 hM5 hk0 hk1 hM3 hM4 hd
  intro hst hlv hM H locs ls hP hS hl
  obtain ⟨rfl, x, y, r, rfl, h⟩ := h
  have hy : zin32 y := zok_hd hst
  have hx1 : zin32 x := zok_hd (zok_tl hst)
  have h2 := h (zok_cons (zw32_in _) (zok_tl (zok_tl hst))) hlv hM H locs ls hP hS hl
  rw [List.map_cons, show zWv O (0, zw32 (x + y)) = _ from congrArg Value.int (zi_add hx1 hy).symm] at h2
  exact lv_iadd hx hb hd h2

set_option maxHeartbeats 4000000 in
set_option maxRecDepth 100000 in
theorem zg_isub {p : Program} {e : Env} {R : Room} {s : State} {m : MethodId} {args : Array Value} {below : List Frame} {meth : Method} {c : Code} {Q : State → Prop} {O : zOm} {ev : zEv} (X : zCx p R s m args meth c O ev) {rt : Option zV → zMem → Prop} {n pc : Nat} {st : List zV} {lv : zLv} {M : zMem} 
    (hd : decode ev.2.1 pc = .ok (.isub, n)) (h : zStep ev (zS O) (zR O) rt (.isub) n pc st lv M (zGo p e R s m args below meth c Q O ev.2.2.1)) : zGo p e R s m args below meth c Q O ev.2.2.1 pc st lv M := by
  obtain ⟨own, code, nL, ret, pf, pm, pk, fr, lo, fn⟩ := ev
  obtain ⟨hx, hb, hml, hret, hown, hts, hK, hN, hfr, hlo, hszB, hSo, hCl, hF, hM0, hM1, hM2, hM5, hk0, hk1, hM3, hM4⟩ := X
  dsimp only at hb hml hret hown hfr hlo hF hM0 hM1 hM2 hM5 hk0 hk1 hM3 hM4 hd
  intro hst hlv hM H locs ls hP hS hl
  obtain ⟨rfl, x, y, r, rfl, h⟩ := h
  have hy : zin32 y := zok_hd hst
  have hx1 : zin32 x := zok_hd (zok_tl hst)
  have h2 := h (zok_cons (zw32_in _) (zok_tl (zok_tl hst))) hlv hM H locs ls hP hS hl
  rw [List.map_cons, show zWv O (0, zw32 (x - y)) = _ from congrArg Value.int (zi_sub hx1 hy).symm] at h2
  exact lv_isub hx hb hd h2

set_option maxHeartbeats 4000000 in
set_option maxRecDepth 100000 in
theorem zg_imul {p : Program} {e : Env} {R : Room} {s : State} {m : MethodId} {args : Array Value} {below : List Frame} {meth : Method} {c : Code} {Q : State → Prop} {O : zOm} {ev : zEv} (X : zCx p R s m args meth c O ev) {rt : Option zV → zMem → Prop} {n pc : Nat} {st : List zV} {lv : zLv} {M : zMem} 
    (hd : decode ev.2.1 pc = .ok (.imul, n)) (h : zStep ev (zS O) (zR O) rt (.imul) n pc st lv M (zGo p e R s m args below meth c Q O ev.2.2.1)) : zGo p e R s m args below meth c Q O ev.2.2.1 pc st lv M := by
  obtain ⟨own, code, nL, ret, pf, pm, pk, fr, lo, fn⟩ := ev
  obtain ⟨hx, hb, hml, hret, hown, hts, hK, hN, hfr, hlo, hszB, hSo, hCl, hF, hM0, hM1, hM2, hM5, hk0, hk1, hM3, hM4⟩ := X
  dsimp only at hb hml hret hown hfr hlo hF hM0 hM1 hM2 hM5 hk0 hk1 hM3 hM4 hd
  intro hst hlv hM H locs ls hP hS hl
  obtain ⟨rfl, x, y, r, rfl, h⟩ := h
  have hy : zin32 y := zok_hd hst
  have hx1 : zin32 x := zok_hd (zok_tl hst)
  have h2 := h (zok_cons (zw32_in _) (zok_tl (zok_tl hst))) hlv hM H locs ls hP hS hl
  rw [List.map_cons, show zWv O (0, zw32 (x * y)) = _ from congrArg Value.int (zi_mul hx1 hy).symm] at h2
  exact lv_imul hx hb hd h2

set_option maxHeartbeats 4000000 in
set_option maxRecDepth 100000 in
theorem zg_idiv {p : Program} {e : Env} {R : Room} {s : State} {m : MethodId} {args : Array Value} {below : List Frame} {meth : Method} {c : Code} {Q : State → Prop} {O : zOm} {ev : zEv} (X : zCx p R s m args meth c O ev) {rt : Option zV → zMem → Prop} {n pc : Nat} {st : List zV} {lv : zLv} {M : zMem} 
    (hd : decode ev.2.1 pc = .ok (.idiv, n)) (h : zStep ev (zS O) (zR O) rt (.idiv) n pc st lv M (zGo p e R s m args below meth c Q O ev.2.2.1)) : zGo p e R s m args below meth c Q O ev.2.2.1 pc st lv M := by
  obtain ⟨own, code, nL, ret, pf, pm, pk, fr, lo, fn⟩ := ev
  obtain ⟨hx, hb, hml, hret, hown, hts, hK, hN, hfr, hlo, hszB, hSo, hCl, hF, hM0, hM1, hM2, hM5, hk0, hk1, hM3, hM4⟩ := X
  dsimp only at hb hml hret hown hfr hlo hF hM0 hM1 hM2 hM5 hk0 hk1 hM3 hM4 hd
  intro hst hlv hM H locs ls hP hS hl
  obtain ⟨rfl, x, y, r, rfl, hne, h⟩ := h
  have hy : zin32 y := zok_hd hst
  have hx1 : zin32 x := zok_hd (zok_tl hst)
  have h2 := h (zok_cons (zw32_in _) (zok_tl (zok_tl hst))) hlv hM H locs ls hP hS hl
  rw [List.map_cons, show zWv O (0, zw32 (x.tdiv y)) = _ from congrArg Value.int (zi_div hx1 hy).symm] at h2
  exact lv_idiv hx hb hd (fun q => hne ((zi_eq hy ⟨by decide, by decide⟩).mp q)) h2

set_option maxHeartbeats 4000000 in
set_option maxRecDepth 100000 in
theorem zg_irem {p : Program} {e : Env} {R : Room} {s : State} {m : MethodId} {args : Array Value} {below : List Frame} {meth : Method} {c : Code} {Q : State → Prop} {O : zOm} {ev : zEv} (X : zCx p R s m args meth c O ev) {rt : Option zV → zMem → Prop} {n pc : Nat} {st : List zV} {lv : zLv} {M : zMem} 
    (hd : decode ev.2.1 pc = .ok (.irem, n)) (h : zStep ev (zS O) (zR O) rt (.irem) n pc st lv M (zGo p e R s m args below meth c Q O ev.2.2.1)) : zGo p e R s m args below meth c Q O ev.2.2.1 pc st lv M := by
  obtain ⟨own, code, nL, ret, pf, pm, pk, fr, lo, fn⟩ := ev
  obtain ⟨hx, hb, hml, hret, hown, hts, hK, hN, hfr, hlo, hszB, hSo, hCl, hF, hM0, hM1, hM2, hM5, hk0, hk1, hM3, hM4⟩ := X
  dsimp only at hb hml hret hown hfr hlo hF hM0 hM1 hM2 hM5 hk0 hk1 hM3 hM4 hd
  intro hst hlv hM H locs ls hP hS hl
  obtain ⟨rfl, x, y, r, rfl, hne, h⟩ := h
  have hy : zin32 y := zok_hd hst
  have hx1 : zin32 x := zok_hd (zok_tl hst)
  have h2 := h (zok_cons (ztmod_in hx1 hy hne) (zok_tl (zok_tl hst))) hlv hM H locs ls hP hS hl
  rw [List.map_cons, show zWv O (0, x.tmod y) = _ from congrArg Value.int (zi_rem hx1 hy hne).symm] at h2
  exact lv_irem hx hb hd (fun q => hne ((zi_eq hy ⟨by decide, by decide⟩).mp q)) h2

set_option maxHeartbeats 4000000 in
set_option maxRecDepth 100000 in
theorem zg_iand {p : Program} {e : Env} {R : Room} {s : State} {m : MethodId} {args : Array Value} {below : List Frame} {meth : Method} {c : Code} {Q : State → Prop} {O : zOm} {ev : zEv} (X : zCx p R s m args meth c O ev) {rt : Option zV → zMem → Prop} {n pc : Nat} {st : List zV} {lv : zLv} {M : zMem} 
    (hd : decode ev.2.1 pc = .ok (.iand, n)) (h : zStep ev (zS O) (zR O) rt (.iand) n pc st lv M (zGo p e R s m args below meth c Q O ev.2.2.1)) : zGo p e R s m args below meth c Q O ev.2.2.1 pc st lv M := by
  obtain ⟨own, code, nL, ret, pf, pm, pk, fr, lo, fn⟩ := ev
  obtain ⟨hx, hb, hml, hret, hown, hts, hK, hN, hfr, hlo, hszB, hSo, hCl, hF, hM0, hM1, hM2, hM5, hk0, hk1, hM3, hM4⟩ := X
  dsimp only at hb hml hret hown hfr hlo hF hM0 hM1 hM2 hM5 hk0 hk1 hM3 hM4 hd
  intro hst hlv hM H locs ls hP hS hl
  obtain ⟨rfl, x, y, r, rfl, h⟩ := h
  have hy : zin32 y := zok_hd hst
  have hx1 : zin32 x := zok_hd (zok_tl hst)
  have h2 := h (zok_cons (zi_in _) (zok_tl (zok_tl hst))) hlv hM H locs ls hP hS hl
  rw [List.map_cons, show zWv O (0, zand x y) = _ from congrArg Value.int (zand_i x y).symm] at h2
  exact lv_iand hx hb hd h2

set_option maxHeartbeats 4000000 in
set_option maxRecDepth 100000 in
theorem zg_ior {p : Program} {e : Env} {R : Room} {s : State} {m : MethodId} {args : Array Value} {below : List Frame} {meth : Method} {c : Code} {Q : State → Prop} {O : zOm} {ev : zEv} (X : zCx p R s m args meth c O ev) {rt : Option zV → zMem → Prop} {n pc : Nat} {st : List zV} {lv : zLv} {M : zMem} 
    (hd : decode ev.2.1 pc = .ok (.ior, n)) (h : zStep ev (zS O) (zR O) rt (.ior) n pc st lv M (zGo p e R s m args below meth c Q O ev.2.2.1)) : zGo p e R s m args below meth c Q O ev.2.2.1 pc st lv M := by
  obtain ⟨own, code, nL, ret, pf, pm, pk, fr, lo, fn⟩ := ev
  obtain ⟨hx, hb, hml, hret, hown, hts, hK, hN, hfr, hlo, hszB, hSo, hCl, hF, hM0, hM1, hM2, hM5, hk0, hk1, hM3, hM4⟩ := X
  dsimp only at hb hml hret hown hfr hlo hF hM0 hM1 hM2 hM5 hk0 hk1 hM3 hM4 hd
  intro hst hlv hM H locs ls hP hS hl
  obtain ⟨rfl, x, y, r, rfl, h⟩ := h
  have hy : zin32 y := zok_hd hst
  have hx1 : zin32 x := zok_hd (zok_tl hst)
  have h2 := h (zok_cons (zi_in _) (zok_tl (zok_tl hst))) hlv hM H locs ls hP hS hl
  rw [List.map_cons, show zWv O (0, zor x y) = _ from congrArg Value.int (zor_i x y).symm] at h2
  exact lv_ior hx hb hd h2

set_option maxHeartbeats 4000000 in
set_option maxRecDepth 100000 in
theorem zg_ixor {p : Program} {e : Env} {R : Room} {s : State} {m : MethodId} {args : Array Value} {below : List Frame} {meth : Method} {c : Code} {Q : State → Prop} {O : zOm} {ev : zEv} (X : zCx p R s m args meth c O ev) {rt : Option zV → zMem → Prop} {n pc : Nat} {st : List zV} {lv : zLv} {M : zMem} 
    (hd : decode ev.2.1 pc = .ok (.ixor, n)) (h : zStep ev (zS O) (zR O) rt (.ixor) n pc st lv M (zGo p e R s m args below meth c Q O ev.2.2.1)) : zGo p e R s m args below meth c Q O ev.2.2.1 pc st lv M := by
  obtain ⟨own, code, nL, ret, pf, pm, pk, fr, lo, fn⟩ := ev
  obtain ⟨hx, hb, hml, hret, hown, hts, hK, hN, hfr, hlo, hszB, hSo, hCl, hF, hM0, hM1, hM2, hM5, hk0, hk1, hM3, hM4⟩ := X
  dsimp only at hb hml hret hown hfr hlo hF hM0 hM1 hM2 hM5 hk0 hk1 hM3 hM4 hd
  intro hst hlv hM H locs ls hP hS hl
  obtain ⟨rfl, x, y, r, rfl, h⟩ := h
  have hy : zin32 y := zok_hd hst
  have hx1 : zin32 x := zok_hd (zok_tl hst)
  have h2 := h (zok_cons (zi_in _) (zok_tl (zok_tl hst))) hlv hM H locs ls hP hS hl
  rw [List.map_cons, show zWv O (0, zxor x y) = _ from congrArg Value.int (zxor_i x y).symm] at h2
  exact lv_ixor hx hb hd h2

set_option maxHeartbeats 4000000 in
set_option maxRecDepth 100000 in
theorem zg_ishl {p : Program} {e : Env} {R : Room} {s : State} {m : MethodId} {args : Array Value} {below : List Frame} {meth : Method} {c : Code} {Q : State → Prop} {O : zOm} {ev : zEv} (X : zCx p R s m args meth c O ev) {rt : Option zV → zMem → Prop} {n pc : Nat} {st : List zV} {lv : zLv} {M : zMem} 
    (hd : decode ev.2.1 pc = .ok (.ishl, n)) (h : zStep ev (zS O) (zR O) rt (.ishl) n pc st lv M (zGo p e R s m args below meth c Q O ev.2.2.1)) : zGo p e R s m args below meth c Q O ev.2.2.1 pc st lv M := by
  obtain ⟨own, code, nL, ret, pf, pm, pk, fr, lo, fn⟩ := ev
  obtain ⟨hx, hb, hml, hret, hown, hts, hK, hN, hfr, hlo, hszB, hSo, hCl, hF, hM0, hM1, hM2, hM5, hk0, hk1, hM3, hM4⟩ := X
  dsimp only at hb hml hret hown hfr hlo hF hM0 hM1 hM2 hM5 hk0 hk1 hM3 hM4 hd
  intro hst hlv hM H locs ls hP hS hl
  obtain ⟨rfl, x, y, r, rfl, h⟩ := h
  have hy : zin32 y := zok_hd hst
  have hx1 : zin32 x := zok_hd (zok_tl hst)
  have h2 := h (zok_cons (zi_in _) (zok_tl (zok_tl hst))) hlv hM H locs ls hP hS hl
  rw [List.map_cons, show zWv O (0, zshl x y) = _ from congrArg Value.int (zshl_i x y).symm] at h2
  exact lv_ishl hx hb hd h2

set_option maxHeartbeats 4000000 in
set_option maxRecDepth 100000 in
theorem zg_ishr {p : Program} {e : Env} {R : Room} {s : State} {m : MethodId} {args : Array Value} {below : List Frame} {meth : Method} {c : Code} {Q : State → Prop} {O : zOm} {ev : zEv} (X : zCx p R s m args meth c O ev) {rt : Option zV → zMem → Prop} {n pc : Nat} {st : List zV} {lv : zLv} {M : zMem} 
    (hd : decode ev.2.1 pc = .ok (.ishr, n)) (h : zStep ev (zS O) (zR O) rt (.ishr) n pc st lv M (zGo p e R s m args below meth c Q O ev.2.2.1)) : zGo p e R s m args below meth c Q O ev.2.2.1 pc st lv M := by
  obtain ⟨own, code, nL, ret, pf, pm, pk, fr, lo, fn⟩ := ev
  obtain ⟨hx, hb, hml, hret, hown, hts, hK, hN, hfr, hlo, hszB, hSo, hCl, hF, hM0, hM1, hM2, hM5, hk0, hk1, hM3, hM4⟩ := X
  dsimp only at hb hml hret hown hfr hlo hF hM0 hM1 hM2 hM5 hk0 hk1 hM3 hM4 hd
  intro hst hlv hM H locs ls hP hS hl
  obtain ⟨rfl, x, y, r, rfl, h⟩ := h
  have hy : zin32 y := zok_hd hst
  have hx1 : zin32 x := zok_hd (zok_tl hst)
  have h2 := h (zok_cons (zi_in _) (zok_tl (zok_tl hst))) hlv hM H locs ls hP hS hl
  rw [List.map_cons, show zWv O (0, zshr x y) = _ from congrArg Value.int (zshr_i x y).symm] at h2
  exact lv_ishr hx hb hd h2

set_option maxHeartbeats 4000000 in
set_option maxRecDepth 100000 in
theorem zg_iushr {p : Program} {e : Env} {R : Room} {s : State} {m : MethodId} {args : Array Value} {below : List Frame} {meth : Method} {c : Code} {Q : State → Prop} {O : zOm} {ev : zEv} (X : zCx p R s m args meth c O ev) {rt : Option zV → zMem → Prop} {n pc : Nat} {st : List zV} {lv : zLv} {M : zMem} 
    (hd : decode ev.2.1 pc = .ok (.iushr, n)) (h : zStep ev (zS O) (zR O) rt (.iushr) n pc st lv M (zGo p e R s m args below meth c Q O ev.2.2.1)) : zGo p e R s m args below meth c Q O ev.2.2.1 pc st lv M := by
  obtain ⟨own, code, nL, ret, pf, pm, pk, fr, lo, fn⟩ := ev
  obtain ⟨hx, hb, hml, hret, hown, hts, hK, hN, hfr, hlo, hszB, hSo, hCl, hF, hM0, hM1, hM2, hM5, hk0, hk1, hM3, hM4⟩ := X
  dsimp only at hb hml hret hown hfr hlo hF hM0 hM1 hM2 hM5 hk0 hk1 hM3 hM4 hd
  intro hst hlv hM H locs ls hP hS hl
  obtain ⟨rfl, x, y, r, rfl, h⟩ := h
  exact lv_iushr (v := zi (zushr x y)) hx hb hd (zi_of _).symm (h (zok_cons (zi_in _) (zok_tl (zok_tl hst))) hlv hM H locs ls hP hS hl)

set_option maxHeartbeats 4000000 in
set_option maxRecDepth 100000 in
theorem zg_ineg {p : Program} {e : Env} {R : Room} {s : State} {m : MethodId} {args : Array Value} {below : List Frame} {meth : Method} {c : Code} {Q : State → Prop} {O : zOm} {ev : zEv} (X : zCx p R s m args meth c O ev) {rt : Option zV → zMem → Prop} {n pc : Nat} {st : List zV} {lv : zLv} {M : zMem} 
    (hd : decode ev.2.1 pc = .ok (.ineg, n)) (h : zStep ev (zS O) (zR O) rt (.ineg) n pc st lv M (zGo p e R s m args below meth c Q O ev.2.2.1)) : zGo p e R s m args below meth c Q O ev.2.2.1 pc st lv M := by
  obtain ⟨own, code, nL, ret, pf, pm, pk, fr, lo, fn⟩ := ev
  obtain ⟨hx, hb, hml, hret, hown, hts, hK, hN, hfr, hlo, hszB, hSo, hCl, hF, hM0, hM1, hM2, hM5, hk0, hk1, hM3, hM4⟩ := X
  dsimp only at hb hml hret hown hfr hlo hF hM0 hM1 hM2 hM5 hk0 hk1 hM3 hM4 hd
  intro hst hlv hM H locs ls hP hS hl
  obtain ⟨rfl, x, r, rfl, h⟩ := h
  have h2 := h (zok_cons (zw32_in _) (zok_tl hst)) hlv hM H locs ls hP hS hl
  have hx1 : zin32 x := zok_hd hst
  rw [List.map_cons, show zWv O (0, zw32 (-x)) = _ from congrArg Value.int (zi_neg hx1).symm] at h2
  exact lv_ineg hx hb hd h2

set_option maxHeartbeats 4000000 in
set_option maxRecDepth 100000 in
theorem zg_i2l {p : Program} {e : Env} {R : Room} {s : State} {m : MethodId} {args : Array Value} {below : List Frame} {meth : Method} {c : Code} {Q : State → Prop} {O : zOm} {ev : zEv} (X : zCx p R s m args meth c O ev) {rt : Option zV → zMem → Prop} {n pc : Nat} {st : List zV} {lv : zLv} {M : zMem} 
    (hd : decode ev.2.1 pc = .ok (.i2l, n)) (h : zStep ev (zS O) (zR O) rt (.i2l) n pc st lv M (zGo p e R s m args below meth c Q O ev.2.2.1)) : zGo p e R s m args below meth c Q O ev.2.2.1 pc st lv M := by
  obtain ⟨own, code, nL, ret, pf, pm, pk, fr, lo, fn⟩ := ev
  obtain ⟨hx, hb, hml, hret, hown, hts, hK, hN, hfr, hlo, hszB, hSo, hCl, hF, hM0, hM1, hM2, hM5, hk0, hk1, hM3, hM4⟩ := X
  dsimp only at hb hml hret hown hfr hlo hF hM0 hM1 hM2 hM5 hk0 hk1 hM3 hM4 hd
  intro hst hlv hM H locs ls hP hS hl
  obtain ⟨rfl, x, r, rfl, h⟩ := h
  have hx1 : zin32 x := zok_hd hst
  exact lv_i2l (v := zl x) hx hb hd (zi_64 hx1) (h (zok_cons (zin32_64 hx1) (zok_tl hst)) hlv hM H locs ls hP hS hl)

set_option maxHeartbeats 4000000 in
set_option maxRecDepth 100000 in
theorem zg_l2i {p : Program} {e : Env} {R : Room} {s : State} {m : MethodId} {args : Array Value} {below : List Frame} {meth : Method} {c : Code} {Q : State → Prop} {O : zOm} {ev : zEv} (X : zCx p R s m args meth c O ev) {rt : Option zV → zMem → Prop} {n pc : Nat} {st : List zV} {lv : zLv} {M : zMem} 
    (hd : decode ev.2.1 pc = .ok (.l2i, n)) (h : zStep ev (zS O) (zR O) rt (.l2i) n pc st lv M (zGo p e R s m args below meth c Q O ev.2.2.1)) : zGo p e R s m args below meth c Q O ev.2.2.1 pc st lv M := by
  obtain ⟨own, code, nL, ret, pf, pm, pk, fr, lo, fn⟩ := ev
  obtain ⟨hx, hb, hml, hret, hown, hts, hK, hN, hfr, hlo, hszB, hSo, hCl, hF, hM0, hM1, hM2, hM5, hk0, hk1, hM3, hM4⟩ := X
  dsimp only at hb hml hret hown hfr hlo hF hM0 hM1 hM2 hM5 hk0 hk1 hM3 hM4 hd
  intro hst hlv hM H locs ls hP hS hl
  obtain ⟨rfl, x, r, rfl, h⟩ := h
  have hx1 : zin64 x := zok_hd hst
  exact lv_l2i (v := zi (zw32 x)) hx hb hd (zl_32 hx1) (h (zok_cons (zw32_in _) (zok_tl hst)) hlv hM H locs ls hP hS hl)

set_option maxHeartbeats 4000000 in
set_option maxRecDepth 100000 in
theorem zg_i2b {p : Program} {e : Env} {R : Room} {s : State} {m : MethodId} {args : Array Value} {below : List Frame} {meth : Method} {c : Code} {Q : State → Prop} {O : zOm} {ev : zEv} (X : zCx p R s m args meth c O ev) {rt : Option zV → zMem → Prop} {n pc : Nat} {st : List zV} {lv : zLv} {M : zMem} 
    (hd : decode ev.2.1 pc = .ok (.i2b, n)) (h : zStep ev (zS O) (zR O) rt (.i2b) n pc st lv M (zGo p e R s m args below meth c Q O ev.2.2.1)) : zGo p e R s m args below meth c Q O ev.2.2.1 pc st lv M := by
  obtain ⟨own, code, nL, ret, pf, pm, pk, fr, lo, fn⟩ := ev
  obtain ⟨hx, hb, hml, hret, hown, hts, hK, hN, hfr, hlo, hszB, hSo, hCl, hF, hM0, hM1, hM2, hM5, hk0, hk1, hM3, hM4⟩ := X
  dsimp only at hb hml hret hown hfr hlo hF hM0 hM1 hM2 hM5 hk0 hk1 hM3 hM4 hd
  intro hst hlv hM H locs ls hP hS hl
  obtain ⟨rfl, x, r, rfl, h⟩ := h
  exact lv_i2b (v := zi (zi2b x)) hx hb hd (zi_of _).symm (h (zok_cons (zi_in _) (zok_tl hst)) hlv hM H locs ls hP hS hl)

set_option maxHeartbeats 4000000 in
set_option maxRecDepth 100000 in
theorem zg_ladd {p : Program} {e : Env} {R : Room} {s : State} {m : MethodId} {args : Array Value} {below : List Frame} {meth : Method} {c : Code} {Q : State → Prop} {O : zOm} {ev : zEv} (X : zCx p R s m args meth c O ev) {rt : Option zV → zMem → Prop} {n pc : Nat} {st : List zV} {lv : zLv} {M : zMem} 
    (hd : decode ev.2.1 pc = .ok (.ladd, n)) (h : zStep ev (zS O) (zR O) rt (.ladd) n pc st lv M (zGo p e R s m args below meth c Q O ev.2.2.1)) : zGo p e R s m args below meth c Q O ev.2.2.1 pc st lv M := by
  obtain ⟨own, code, nL, ret, pf, pm, pk, fr, lo, fn⟩ := ev
  obtain ⟨hx, hb, hml, hret, hown, hts, hK, hN, hfr, hlo, hszB, hSo, hCl, hF, hM0, hM1, hM2, hM5, hk0, hk1, hM3, hM4⟩ := X
  dsimp only at hb hml hret hown hfr hlo hF hM0 hM1 hM2 hM5 hk0 hk1 hM3 hM4 hd
  intro hst hlv hM H locs ls hP hS hl
  obtain ⟨rfl, x, y, r, rfl, h⟩ := h
  have hy : zin64 y := zok_hd hst
  have hx1 : zin64 x := zok_hd (zok_tl hst)
  have h2 := h (zok_cons (zw64_in _) (zok_tl (zok_tl hst))) hlv hM H locs ls hP hS hl
  rw [List.map_cons, show zWv O (1, zw64 (x + y)) = _ from congrArg Value.long (zl_add hx1 hy).symm] at h2
  exact lv_ladd hx hb hd h2

set_option maxHeartbeats 4000000 in
set_option maxRecDepth 100000 in
theorem zg_lsub {p : Program} {e : Env} {R : Room} {s : State} {m : MethodId} {args : Array Value} {below : List Frame} {meth : Method} {c : Code} {Q : State → Prop} {O : zOm} {ev : zEv} (X : zCx p R s m args meth c O ev) {rt : Option zV → zMem → Prop} {n pc : Nat} {st : List zV} {lv : zLv} {M : zMem} 
    (hd : decode ev.2.1 pc = .ok (.lsub, n)) (h : zStep ev (zS O) (zR O) rt (.lsub) n pc st lv M (zGo p e R s m args below meth c Q O ev.2.2.1)) : zGo p e R s m args below meth c Q O ev.2.2.1 pc st lv M := by
  obtain ⟨own, code, nL, ret, pf, pm, pk, fr, lo, fn⟩ := ev
  obtain ⟨hx, hb, hml, hret, hown, hts, hK, hN, hfr, hlo, hszB, hSo, hCl, hF, hM0, hM1, hM2, hM5, hk0, hk1, hM3, hM4⟩ := X
  dsimp only at hb hml hret hown hfr hlo hF hM0 hM1 hM2 hM5 hk0 hk1 hM3 hM4 hd
  intro hst hlv hM H locs ls hP hS hl
  obtain ⟨rfl, x, y, r, rfl, h⟩ := h
  have hy : zin64 y := zok_hd hst
  have hx1 : zin64 x := zok_hd (zok_tl hst)
  have h2 := h (zok_cons (zw64_in _) (zok_tl (zok_tl hst))) hlv hM H locs ls hP hS hl
  rw [List.map_cons, show zWv O (1, zw64 (x - y)) = _ from congrArg Value.long (zl_sub hx1 hy).symm] at h2
  exact lv_lsub hx hb hd h2

set_option maxHeartbeats 4000000 in
set_option maxRecDepth 100000 in
theorem zg_lmul {p : Program} {e : Env} {R : Room} {s : State} {m : MethodId} {args : Array Value} {below : List Frame} {meth : Method} {c : Code} {Q : State → Prop} {O : zOm} {ev : zEv} (X : zCx p R s m args meth c O ev) {rt : Option zV → zMem → Prop} {n pc : Nat} {st : List zV} {lv : zLv} {M : zMem} 
    (hd : decode ev.2.1 pc = .ok (.lmul, n)) (h : zStep ev (zS O) (zR O) rt (.lmul) n pc st lv M (zGo p e R s m args below meth c Q O ev.2.2.1)) : zGo p e R s m args below meth c Q O ev.2.2.1 pc st lv M := by
  obtain ⟨own, code, nL, ret, pf, pm, pk, fr, lo, fn⟩ := ev
  obtain ⟨hx, hb, hml, hret, hown, hts, hK, hN, hfr, hlo, hszB, hSo, hCl, hF, hM0, hM1, hM2, hM5, hk0, hk1, hM3, hM4⟩ := X
  dsimp only at hb hml hret hown hfr hlo hF hM0 hM1 hM2 hM5 hk0 hk1 hM3 hM4 hd
  intro hst hlv hM H locs ls hP hS hl
  obtain ⟨rfl, x, y, r, rfl, h⟩ := h
  have hy : zin64 y := zok_hd hst
  have hx1 : zin64 x := zok_hd (zok_tl hst)
  have h2 := h (zok_cons (zw64_in _) (zok_tl (zok_tl hst))) hlv hM H locs ls hP hS hl
  rw [List.map_cons, show zWv O (1, zw64 (x * y)) = _ from congrArg Value.long (zl_mul hx1 hy).symm] at h2
  exact lv_lmul hx hb hd h2

set_option maxHeartbeats 4000000 in
set_option maxRecDepth 100000 in
theorem zg_lcmp {p : Program} {e : Env} {R : Room} {s : State} {m : MethodId} {args : Array Value} {below : List Frame} {meth : Method} {c : Code} {Q : State → Prop} {O : zOm} {ev : zEv} (X : zCx p R s m args meth c O ev) {rt : Option zV → zMem → Prop} {n pc : Nat} {st : List zV} {lv : zLv} {M : zMem} 
    (hd : decode ev.2.1 pc = .ok (.lcmp, n)) (h : zStep ev (zS O) (zR O) rt (.lcmp) n pc st lv M (zGo p e R s m args below meth c Q O ev.2.2.1)) : zGo p e R s m args below meth c Q O ev.2.2.1 pc st lv M := by
  obtain ⟨own, code, nL, ret, pf, pm, pk, fr, lo, fn⟩ := ev
  obtain ⟨hx, hb, hml, hret, hown, hts, hK, hN, hfr, hlo, hszB, hSo, hCl, hF, hM0, hM1, hM2, hM5, hk0, hk1, hM3, hM4⟩ := X
  dsimp only at hb hml hret hown hfr hlo hF hM0 hM1 hM2 hM5 hk0 hk1 hM3 hM4 hd
  intro hst hlv hM H locs ls hP hS hl
  obtain ⟨rfl, x, y, r, rfl, h⟩ := h
  have hy : zin64 y := zok_hd hst
  have hx1 : zin64 x := zok_hd (zok_tl hst)
  have h2 := h (zok_cons (zcmp_in _ _) (zok_tl (zok_tl hst))) hlv hM H locs ls hP hS hl
  rw [List.map_cons, show zWv O (0, zcmp x y) = _ from congrArg Value.int (zcmp_i hx1 hy).symm] at h2
  exact W.lcmp hx hb hd h2

set_option maxHeartbeats 4000000 in
set_option maxRecDepth 100000 in
theorem zg_dup {p : Program} {e : Env} {R : Room} {s : State} {m : MethodId} {args : Array Value} {below : List Frame} {meth : Method} {c : Code} {Q : State → Prop} {O : zOm} {ev : zEv} (X : zCx p R s m args meth c O ev) {rt : Option zV → zMem → Prop} {n pc : Nat} {st : List zV} {lv : zLv} {M : zMem} 
    (hd : decode ev.2.1 pc = .ok (.dup, n)) (h : zStep ev (zS O) (zR O) rt (.dup) n pc st lv M (zGo p e R s m args below meth c Q O ev.2.2.1)) : zGo p e R s m args below meth c Q O ev.2.2.1 pc st lv M := by
  obtain ⟨own, code, nL, ret, pf, pm, pk, fr, lo, fn⟩ := ev
  obtain ⟨hx, hb, hml, hret, hown, hts, hK, hN, hfr, hlo, hszB, hSo, hCl, hF, hM0, hM1, hM2, hM5, hk0, hk1, hM3, hM4⟩ := X
  dsimp only at hb hml hret hown hfr hlo hF hM0 hM1 hM2 hM5 hk0 hk1 hM3 hM4 hd
  intro hst hlv hM H locs ls hP hS hl
  obtain ⟨rfl, v, r, rfl, hc, h⟩ := h
  exact lv_dup hx hb hd ((zcat_wv O v).trans hc) (h (zok_cons (zok_hd hst) hst) hlv hM H locs ls hP hS hl)

set_option maxHeartbeats 4000000 in
set_option maxRecDepth 100000 in
theorem zg_dup2 {p : Program} {e : Env} {R : Room} {s : State} {m : MethodId} {args : Array Value} {below : List Frame} {meth : Method} {c : Code} {Q : State → Prop} {O : zOm} {ev : zEv} (X : zCx p R s m args meth c O ev) {rt : Option zV → zMem → Prop} {n pc : Nat} {st : List zV} {lv : zLv} {M : zMem} 
    (hd : decode ev.2.1 pc = .ok (.dup2, n)) (h : zStep ev (zS O) (zR O) rt (.dup2) n pc st lv M (zGo p e R s m args below meth c Q O ev.2.2.1)) : zGo p e R s m args below meth c Q O ev.2.2.1 pc st lv M := by
  obtain ⟨own, code, nL, ret, pf, pm, pk, fr, lo, fn⟩ := ev
  obtain ⟨hx, hb, hml, hret, hown, hts, hK, hN, hfr, hlo, hszB, hSo, hCl, hF, hM0, hM1, hM2, hM5, hk0, hk1, hM3, hM4⟩ := X
  dsimp only at hb hml hret hown hfr hlo hF hM0 hM1 hM2 hM5 hk0 hk1 hM3 hM4 hd
  intro hst hlv hM H locs ls hP hS hl
  obtain ⟨rfl, v, w, r, rfl, hc, hc2, h⟩ := h
  exact lv_dup2_11 hx hb hd ((zcat_wv O v).trans hc) ((zcat_wv O w).trans hc2) (h (zok_cons (zok_hd hst) (zok_cons (zok_hd (zok_tl hst)) hst)) hlv hM H locs ls hP hS hl)

set_option maxHeartbeats 4000000 in
set_option maxRecDepth 100000 in
theorem zg_pop {p : Program} {e : Env} {R : Room} {s : State} {m : MethodId} {args : Array Value} {below : List Frame} {meth : Method} {c : Code} {Q : State → Prop} {O : zOm} {ev : zEv} (X : zCx p R s m args meth c O ev) {rt : Option zV → zMem → Prop} {n pc : Nat} {st : List zV} {lv : zLv} {M : zMem} 
    (hd : decode ev.2.1 pc = .ok (.pop, n)) (h : zStep ev (zS O) (zR O) rt (.pop) n pc st lv M (zGo p e R s m args below meth c Q O ev.2.2.1)) : zGo p e R s m args below meth c Q O ev.2.2.1 pc st lv M := by
  obtain ⟨own, code, nL, ret, pf, pm, pk, fr, lo, fn⟩ := ev
  obtain ⟨hx, hb, hml, hret, hown, hts, hK, hN, hfr, hlo, hszB, hSo, hCl, hF, hM0, hM1, hM2, hM5, hk0, hk1, hM3, hM4⟩ := X
  dsimp only at hb hml hret hown hfr hlo hF hM0 hM1 hM2 hM5 hk0 hk1 hM3 hM4 hd
  intro hst hlv hM H locs ls hP hS hl
  obtain ⟨rfl, v, r, rfl, hc, h⟩ := h
  exact lv_pop hx hb hd ((zcat_wv O v).trans hc) (h (zok_tl hst) hlv hM H locs ls hP hS hl)

set_option maxHeartbeats 4000000 in
set_option maxRecDepth 100000 in
theorem zg_if {p : Program} {e : Env} {R : Room} {s : State} {m : MethodId} {args : Array Value} {below : List Frame} {meth : Method} {c : Code} {Q : State → Prop} {O : zOm} {ev : zEv} (X : zCx p R s m args meth c O ev) {rt : Option zV → zMem → Prop} {n pc : Nat} {st : List zV} {lv : zLv} {M : zMem} {cd : Jvm.ClassFile.Cond} {off : Int}
    (hd : decode ev.2.1 pc = .ok (.ifCond cd off, n)) (h : zStep ev (zS O) (zR O) rt (.ifCond cd off) n pc st lv M (zGo p e R s m args below meth c Q O ev.2.2.1)) : zGo p e R s m args below meth c Q O ev.2.2.1 pc st lv M := by
  obtain ⟨own, code, nL, ret, pf, pm, pk, fr, lo, fn⟩ := ev
  obtain ⟨hx, hb, hml, hret, hown, hts, hK, hN, hfr, hlo, hszB, hSo, hCl, hF, hM0, hM1, hM2, hM5, hk0, hk1, hM3, hM4⟩ := X
  dsimp only at hb hml hret hown hfr hlo hF hM0 hM1 hM2 hM5 hk0 hk1 hM3 hM4 hd
  intro hst hlv hM H locs ls hP hS hl
  obtain ⟨rfl, x, r, t, rfl, ht, h1, h2⟩ := h
  have hx1 : zin32 x := zok_hd hst
  have hy : zin32 0 := ⟨by decide, by decide⟩
  have kt := fun q => h1 q (zok_tl hst) hlv hM H locs ls hP hS hl
  have kf := fun q => h2 q (zok_tl hst) hlv hM H locs ls hP hS hl
  cases cd
  · exact lv_if_eq hx hb hd ht (fun q => kt ((zi_eq hx1 hy).mp q)) (fun q => kf (fun z => q ((zi_eq hx1 hy).mpr z)))
  · exact lv_if_ne hx hb hd ht (fun q => kt (fun z => q ((zi_eq hx1 hy).mpr z))) (fun q => kf (fun z => z ((zi_eq hx1 hy).mp q)))
  · exact lv_if_lt hx hb hd ht (fun q => kt ((zi_lt hx1 hy).mp q)) (fun q => kf (fun z => q ((zi_lt hx1 hy).mpr z)))
  · exact lv_if_ge hx hb hd ht (fun q => kt ((zi_le hy hx1).mp q)) (fun q => kf (fun z => q ((zi_le hy hx1).mpr z)))
  · exact lv_if_gt hx hb hd ht (fun q => kt ((zi_lt hy hx1).mp q)) (fun q => kf (fun z => q ((zi_lt hy hx1).mpr z)))
  · exact lv_if_le hx hb hd ht (fun q => kt ((zi_le hx1 hy).mp q)) (fun q => kf (fun z => q ((zi_le hx1 hy).mpr z)))

set_option maxHeartbeats 4000000 in
set_option maxRecDepth 100000 in
theorem zg_icmp {p : Program} {e : Env} {R : Room} {s : State} {m : MethodId} {args : Array Value} {below : List Frame} {meth : Method} {c : Code} {Q : State → Prop} {O : zOm} {ev : zEv} (X : zCx p R s m args meth c O ev) {rt : Option zV → zMem → Prop} {n pc : Nat} {st : List zV} {lv : zLv} {M : zMem} {cd : Jvm.ClassFile.Cond} {off : Int}
    (hd : decode ev.2.1 pc = .ok (.if_icmp cd off, n)) (h : zStep ev (zS O) (zR O) rt (.if_icmp cd off) n pc st lv M (zGo p e R s m args below meth c Q O ev.2.2.1)) : zGo p e R s m args below meth c Q O ev.2.2.1 pc st lv M := by
  obtain ⟨own, code, nL, ret, pf, pm, pk, fr, lo, fn⟩ := ev
  obtain ⟨hx, hb, hml, hret, hown, hts, hK, hN, hfr, hlo, hszB, hSo, hCl, hF, hM0, hM1, hM2, hM5, hk0, hk1, hM3, hM4⟩ := X
  dsimp only at hb hml hret hown hfr hlo hF hM0 hM1 hM2 hM5 hk0 hk1 hM3 hM4 hd
  intro hst hlv hM H locs ls hP hS hl
  obtain ⟨rfl, x, y, r, t, rfl, ht, h1, h2⟩ := h
  have hy : zin32 y := zok_hd hst
  have hx1 : zin32 x := zok_hd (zok_tl hst)
  have kt := fun q => h1 q (zok_tl (zok_tl hst)) hlv hM H locs ls hP hS hl
  have kf := fun q => h2 q (zok_tl (zok_tl hst)) hlv hM H locs ls hP hS hl
  cases cd
  · exact lv_icmp_eq hx hb hd ht (fun q => kt ((zi_eq hx1 hy).mp q)) (fun q => kf (fun z => q ((zi_eq hx1 hy).mpr z)))
  · exact lv_icmp_ne hx hb hd ht (fun q => kt (fun z => q ((zi_eq hx1 hy).mpr z))) (fun q => kf (fun z => z ((zi_eq hx1 hy).mp q)))
  · exact lv_icmp_lt hx hb hd ht (fun q => kt ((zi_lt hx1 hy).mp q)) (fun q => kf (fun z => q ((zi_lt hx1 hy).mpr z)))
  · exact lv_icmp_ge hx hb hd ht (fun q => kt ((zi_le hy hx1).mp q)) (fun q => kf (fun z => q ((zi_le hy hx1).mpr z)))
  · exact lv_icmp_gt hx hb hd ht (fun q => kt ((zi_lt hy hx1).mp q)) (fun q => kf (fun z => q ((zi_lt hy hx1).mpr z)))
  · exact lv_icmp_le hx hb hd ht (fun q => kt ((zi_le hx1 hy).mp q)) (fun q => kf (fun z => q ((zi_le hx1 hy).mpr z)))

set_option maxHeartbeats 4000000 in
set_option maxRecDepth 100000 in
theorem zg_ifnull {p : Program} {e : Env} {R : Room} {s : State} {m : MethodId} {args : Array Value} {below : List Frame} {meth : Method} {c : Code} {Q : State → Prop} {O : zOm} {ev : zEv} (X : zCx p R s m args meth c O ev) {rt : Option zV → zMem → Prop} {n pc : Nat} {st : List zV} {lv : zLv} {M : zMem} {off : Int}
    (hd : decode ev.2.1 pc = .ok (.ifnull off, n)) (h : zStep ev (zS O) (zR O) rt (.ifnull off) n pc st lv M (zGo p e R s m args below meth c Q O ev.2.2.1)) : zGo p e R s m args below meth c Q O ev.2.2.1 pc st lv M := by
  obtain ⟨own, code, nL, ret, pf, pm, pk, fr, lo, fn⟩ := ev
  obtain ⟨hx, hb, hml, hret, hown, hts, hK, hN, hfr, hlo, hszB, hSo, hCl, hF, hM0, hM1, hM2, hM5, hk0, hk1, hM3, hM4⟩ := X
  dsimp only at hb hml hret hown hfr hlo hF hM0 hM1 hM2 hM5 hk0 hk1 hM3 hM4 hd
  intro hst hlv hM H locs ls hP hS hl
  obtain ⟨rfl, x, r, t, rfl, ht, h1, h2⟩ := h
  rw [List.map_cons]
  by_cases hn : x = -1
  · subst hn
    exact lv_ifnullN hx hb hd ht (h1 rfl (zok_tl hst) hlv hM H locs ls hP hS hl)
  · obtain ⟨a, ha⟩ := zWv_ref' O hn
    rw [ha]
    exact lv_ifnull hx hb hd (h2 hn (zok_tl hst) hlv hM H locs ls hP hS hl)

set_option maxHeartbeats 4000000 in
set_option maxRecDepth 100000 in
theorem zg_ifnonnull {p : Program} {e : Env} {R : Room} {s : State} {m : MethodId} {args : Array Value} {below : List Frame} {meth : Method} {c : Code} {Q : State → Prop} {O : zOm} {ev : zEv} (X : zCx p R s m args meth c O ev) {rt : Option zV → zMem → Prop} {n pc : Nat} {st : List zV} {lv : zLv} {M : zMem} {off : Int}
    (hd : decode ev.2.1 pc = .ok (.ifnonnull off, n)) (h : zStep ev (zS O) (zR O) rt (.ifnonnull off) n pc st lv M (zGo p e R s m args below meth c Q O ev.2.2.1)) : zGo p e R s m args below meth c Q O ev.2.2.1 pc st lv M := by
  obtain ⟨own, code, nL, ret, pf, pm, pk, fr, lo, fn⟩ := ev
  obtain ⟨hx, hb, hml, hret, hown, hts, hK, hN, hfr, hlo, hszB, hSo, hCl, hF, hM0, hM1, hM2, hM5, hk0, hk1, hM3, hM4⟩ := X
  dsimp only at hb hml hret hown hfr hlo hF hM0 hM1 hM2 hM5 hk0 hk1 hM3 hM4 hd
  intro hst hlv hM H locs ls hP hS hl
  obtain ⟨rfl, x, r, t, rfl, ht, h1, h2⟩ := h
  rw [List.map_cons]
  by_cases hn : x = -1
  · subst hn
    exact lv_ifnonnullN hx hb hd (h2 rfl (zok_tl hst) hlv hM H locs ls hP hS hl)
  · obtain ⟨a, ha⟩ := zWv_ref' O hn
    rw [ha]
    exact lv_ifnonnull hx hb hd ht (h1 hn (zok_tl hst) hlv hM H locs ls hP hS hl)

set_option maxHeartbeats 4000000 in
set_option maxRecDepth 100000 in
theorem zg_goto {p : Program} {e : Env} {R : Room} {s : State} {m : MethodId} {args : Array Value} {below : List Frame} {meth : Method} {c : Code} {Q : State → Prop} {O : zOm} {ev : zEv} (X : zCx p R s m args meth c O ev) {rt : Option zV → zMem → Prop} {n pc : Nat} {st : List zV} {lv : zLv} {M : zMem} {off : Int}
    (hd : decode ev.2.1 pc = .ok (.goto off, n)) (h : zStep ev (zS O) (zR O) rt (.goto off) n pc st lv M (zGo p e R s m args below meth c Q O ev.2.2.1)) : zGo p e R s m args below meth c Q O ev.2.2.1 pc st lv M := by
  obtain ⟨own, code, nL, ret, pf, pm, pk, fr, lo, fn⟩ := ev
  obtain ⟨hx, hb, hml, hret, hown, hts, hK, hN, hfr, hlo, hszB, hSo, hCl, hF, hM0, hM1, hM2, hM5, hk0, hk1, hM3, hM4⟩ := X
  dsimp only at hb hml hret hown hfr hlo hF hM0 hM1 hM2 hM5 hk0 hk1 hM3 hM4 hd
  intro hst hlv hM H locs ls hP hS hl
  obtain ⟨rfl, t, ht, h⟩ := h
  exact lv_goto hx hb hd ht (h hst hlv hM H locs ls hP hS hl)

set_option maxHeartbeats 4000000 in
set_option maxRecDepth 100000 in
theorem zg_tableswitch {p : Program} {e : Env} {R : Room} {s : State} {m : MethodId} {args : Array Value} {below : List Frame} {meth : Method} {c : Code} {Q : State → Prop} {O : zOm} {ev : zEv} (X : zCx p R s m args meth c O ev) {rt : Option zV → zMem → Prop} {n pc : Nat} {st : List zV} {lv : zLv} {M : zMem} {dflt lw hi : Int} {offs : Array Int}
    (hd : decode ev.2.1 pc = .ok (.tableswitch dflt lw hi offs, n)) (h : zStep ev (zS O) (zR O) rt (.tableswitch dflt lw hi offs) n pc st lv M (zGo p e R s m args below meth c Q O ev.2.2.1)) : zGo p e R s m args below meth c Q O ev.2.2.1 pc st lv M := by
  obtain ⟨own, code, nL, ret, pf, pm, pk, fr, lo, fn⟩ := ev
  obtain ⟨hx, hb, hml, hret, hown, hts, hK, hN, hfr, hlo, hszB, hSo, hCl, hF, hM0, hM1, hM2, hM5, hk0, hk1, hM3, hM4⟩ := X
  dsimp only at hb hml hret hown hfr hlo hF hM0 hM1 hM2 hM5 hk0 hk1 hM3 hM4 hd
  intro hst hlv hM H locs ls hP hS hl
  obtain ⟨x, r, rfl, h1, h2⟩ := h
  have hx1 : zin32 x := zok_hd hst
  by_cases ho : x < lw ∨ hi < x
  · obtain ⟨t, ht, h⟩ := h1 ho
    exact lv_tableOut hx hb hd (by rw [zi_toInt hx1]; exact ho) ht (h (zok_tl hst) hlv hM H locs ls hP hS hl)
  · obtain ⟨off, t, hof, ht, h⟩ := h2 ho
    exact lv_tableIn hx hb hd (by rw [zi_toInt hx1]; omega) (by rw [zi_toInt hx1]; omega) (by rw [zi_toInt hx1]; exact hof) ht (h (zok_tl hst) hlv hM H locs ls hP hS hl)

set_option maxHeartbeats 4000000 in
set_option maxRecDepth 100000 in
theorem zg_lookupswitch {p : Program} {e : Env} {R : Room} {s : State} {m : MethodId} {args : Array Value} {below : List Frame} {meth : Method} {c : Code} {Q : State → Prop} {O : zOm} {ev : zEv} (X : zCx p R s m args meth c O ev) {rt : Option zV → zMem → Prop} {n pc : Nat} {st : List zV} {lv : zLv} {M : zMem} {dflt : Int} {ps : Array (Int × Int)}
    (hd : decode ev.2.1 pc = .ok (.lookupswitch dflt ps, n)) (h : zStep ev (zS O) (zR O) rt (.lookupswitch dflt ps) n pc st lv M (zGo p e R s m args below meth c Q O ev.2.2.1)) : zGo p e R s m args below meth c Q O ev.2.2.1 pc st lv M := by
  obtain ⟨own, code, nL, ret, pf, pm, pk, fr, lo, fn⟩ := ev
  obtain ⟨hx, hb, hml, hret, hown, hts, hK, hN, hfr, hlo, hszB, hSo, hCl, hF, hM0, hM1, hM2, hM5, hk0, hk1, hM3, hM4⟩ := X
  dsimp only at hb hml hret hown hfr hlo hF hM0 hM1 hM2 hM5 hk0 hk1 hM3 hM4 hd
  intro hst hlv hM H locs ls hP hS hl
  obtain ⟨hp, x, r, t, rfl, ht, h⟩ := h
  have hx1 : zin32 x := zok_hd hst
  exact lv_lookup hx hb hd hp (by rw [zi_toInt hx1]) ht (h (zok_tl hst) hlv hM H locs ls hP hS hl)

set_option maxHeartbeats 4000000 in
set_option maxRecDepth 100000 in
theorem zg_getfield {p : Program} {e : Env} {R : Room} {s : State} {m : MethodId} {args : Array Value} {below : List Frame} {meth : Method} {c : Code} {Q : State → Prop} {O : zOm} {ev : zEv} (X : zCx p R s m args meth c O ev) {rt : Option zV → zMem → Prop} {n pc : Nat} {st : List zV} {lv : zLv} {M : zMem} {k : Nat}
    (hd : decode ev.2.1 pc = .ok (.getfield k, n)) (h : zStep ev (zS O) (zR O) rt (.getfield k) n pc st lv M (zGo p e R s m args below meth c Q O ev.2.2.1)) : zGo p e R s m args below meth c Q O ev.2.2.1 pc st lv M := by
  obtain ⟨own, code, nL, ret, pf, pm, pk, fr, lo, fn⟩ := ev
  obtain ⟨hx, hb, hml, hret, hown, hts, hK, hN, hfr, hlo, hszB, hSo, hCl, hF, hM0, hM1, hM2, hM5, hk0, hk1, hM3, hM4⟩ := X
  dsimp only at hb hml hret hown hfr hlo hF hM0 hM1 hM2 hM5 hk0 hk1 hM3 hM4 hd
  intro hst hlv hM H locs ls hP hS hl
  obtain ⟨rfl, o, r, ci, j, rfl, hpf, h⟩ := h
  obtain ⟨C, T, N, hc, hj, hlk⟩ := hF k ci j hpf
  obtain ⟨hw, -, -⟩ := hCl ci C T N hc
  have key : ∀ q, zFld (zS O) o ci j = some q → ∃ fks, (zWorld O M)[o.toNat]? = some (zB O + o.toNat, .inr (ci, fks.mapIdx (zFv O (M (o.toNat : Nat))))) ∧ 0 ≤ o ∧ fks[j]? = some q ∧ (zS O)[o.toNat]? = some (.inr (ci, fks)) := by
    intro q hq
    obtain ⟨h0, fks, h1, h2⟩ := zFld_inv hq
    exact ⟨fks, zWorld_at h1, h0, h2, h1⟩
  rw [List.map_cons]
  rcases h with ⟨hq, h⟩ | ⟨q, hq, h⟩
  · obtain ⟨fks, he, h0, hf, hs⟩ := key _ hq
    have ho : ((o.toNat : Nat) : Int) = o := by omega
    rw [zWv_nn O h0]
    refine va_get (D := zD O) hx hb hts hw hown hK hP o.toNat he hc j hj (hts _ hlk) (fun _ h9 => h9) (v := .int (zi (M o j))) (by rw [List.getElem?_mapIdx, hf]; show some (Value.int (zi (M (o.toNat : Nat) j))) = _; rw [ho]) hd ?_
    have hlt := (List.getElem?_eq_some_iff.mp hf).1
    have hin : zin32 (M o j) := by have := hM _ _ hs j hlt; rw [ho] at this; exact this
    exact h (zok_cons hin (zok_tl hst)) hlv hM H locs ls hP hS hl
  · obtain ⟨fks, he, h0, hf, hs⟩ := key _ hq
    rw [zWv_nn O h0]
    refine va_get (D := zD O) hx hb hts hw hown hK hP o.toNat he hc j hj (hts _ hlk) (fun _ h9 => h9) (v := zWv O (zrv q)) (by rw [List.getElem?_mapIdx, hf]; show some (zFv O _ j (some q)) = _; rw [zfk_ref]) hd ?_
    exact h (zok_cons (zrv_ok q) (zok_tl hst)) hlv hM H locs ls hP hS hl

set_option maxHeartbeats 4000000 in
set_option maxRecDepth 100000 in
theorem zg_putfield {p : Program} {e : Env} {R : Room} {s : State} {m : MethodId} {args : Array Value} {below : List Frame} {meth : Method} {c : Code} {Q : State → Prop} {O : zOm} {ev : zEv} (X : zCx p R s m args meth c O ev) {rt : Option zV → zMem → Prop} {n pc : Nat} {st : List zV} {lv : zLv} {M : zMem} {k : Nat}
    (hd : decode ev.2.1 pc = .ok (.putfield k, n)) (h : zStep ev (zS O) (zR O) rt (.putfield k) n pc st lv M (zGo p e R s m args below meth c Q O ev.2.2.1)) : zGo p e R s m args below meth c Q O ev.2.2.1 pc st lv M := by
  obtain ⟨own, code, nL, ret, pf, pm, pk, fr, lo, fn⟩ := ev
  obtain ⟨hx, hb, hml, hret, hown, hts, hK, hN, hfr, hlo, hszB, hSo, hCl, hF, hM0, hM1, hM2, hM5, hk0, hk1, hM3, hM4⟩ := X
  dsimp only at hb hml hret hown hfr hlo hF hM0 hM1 hM2 hM5 hk0 hk1 hM3 hM4 hd
  intro hst hlv hM H locs ls hP hS hl
  obtain ⟨rfl, o, x, r, ci, j, rfl, hpf, hq, h⟩ := h
  obtain ⟨C, T, N, hc, hj, hlk⟩ := hF k ci j hpf
  obtain ⟨hw, ⟨ty0, hty⟩, hnm⟩ := hCl ci C T N hc
  obtain ⟨h0, fks, hs, hf⟩ := zFld_inv hq
  obtain ⟨C', T', N', hc', hlen, hfin⟩ := hSo _ _ hs
  rw [hc] at hc'
  cases hc'
  obtain ⟨hI, hfn⟩ := hfin j hf
  have ho : ((o.toNat : Nat) : Int) = o := by omega
  have hx1 : zin32 x := zok_hd hst
  rw [List.map_cons, List.map_cons, zWv_nn O h0]
  have hlt := (List.getElem?_eq_some_iff.mp hf).1
  refine va_put (D := zD O) (v := .int (zi x)) (ty := .int) hx hb hts hw ty0 hty hnm hown hK hP (zWorld_D O M _) hS o.toNat (zWorld_at hs) hc j hj (hts _ hlk) (fun _ h9 => h9) hfn (by rw [hI]; decide) rfl rfl (by rw [List.length_mapIdx]; exact hlt) hd (fun H1 locs1 hP1 hD1 hS1 => ?_)
  have hset : (fks.mapIdx (zFv O (M (o.toNat : Nat)))).set j (.int (zi x)) = fks.mapIdx (zFv O (zup (M o) j x)) := by
    refine List.ext_getElem? fun i => ?_
    rw [List.getElem?_set]
    by_cases hij : j = i
    · subst hij
      rw [if_pos rfl, if_pos (by rw [List.length_mapIdx]; exact hlt), List.getElem?_mapIdx, hf]
      show _ = some (Value.int (zi (zup (M o) j x j)))
      unfold zup
      rw [if_pos rfl]
    · rw [if_neg hij, List.getElem?_mapIdx, List.getElem?_mapIdx]
      congr 1
      funext fk
      unfold zFv
      cases fk with
      | none => show Value.int (zi (M (o.toNat : Nat) i)) = Value.int (zi (zup (M o) j x i)); unfold zup; rw [if_neg (by omega), ho]
      | some q => cases q <;> rfl
  have hw2 := zWorld_set (O := O) (M := M) hs (zup (M o) j x) (e := .inr (ci, (fks.mapIdx (zFv O (M (o.toNat : Nat)))).set j (.int (zi x)))) (by rw [hset]; rfl)
  rw [ho] at hw2 hP1
  rw [hw2] at hP1
  have hM1 : zMok (zS O) (zput M o (zup (M o) j x)) := by
    have h3 := hM _ _ hs
    rw [ho] at h3
    have := zMok_put (f := zup (M o) j x) hM hs (zShOk_upF h3 hx1)
    rw [ho] at this
    exact this
  exact h (zok_tl (zok_tl hst)) hlv hM1 H1 locs1 ls hP1 hS1 hl

set_option maxHeartbeats 4000000 in
set_option maxRecDepth 100000 in
theorem zg_arraylength {p : Program} {e : Env} {R : Room} {s : State} {m : MethodId} {args : Array Value} {below : List Frame} {meth : Method} {c : Code} {Q : State → Prop} {O : zOm} {ev : zEv} (X : zCx p R s m args meth c O ev) {rt : Option zV → zMem → Prop} {n pc : Nat} {st : List zV} {lv : zLv} {M : zMem} 
    (hd : decode ev.2.1 pc = .ok (.arraylength, n)) (h : zStep ev (zS O) (zR O) rt (.arraylength) n pc st lv M (zGo p e R s m args below meth c Q O ev.2.2.1)) : zGo p e R s m args below meth c Q O ev.2.2.1 pc st lv M := by
  obtain ⟨own, code, nL, ret, pf, pm, pk, fr, lo, fn⟩ := ev
  obtain ⟨hx, hb, hml, hret, hown, hts, hK, hN, hfr, hlo, hszB, hSo, hCl, hF, hM0, hM1, hM2, hM5, hk0, hk1, hM3, hM4⟩ := X
  dsimp only at hb hml hret hown hfr hlo hF hM0 hM1 hM2 hM5 hk0 hk1 hM3 hM4 hd
  intro hst hlv hM H locs ls hP hS hl
  obtain ⟨rfl, a, r, ty, k, rfl, ⟨h0, rs, hs⟩, hk, h⟩ := h
  obtain ⟨hty, -⟩ := hSo _ _ hs
  obtain ⟨t0, ht0⟩ := zTy_at O hty
  have he := zWorld_at (M := M) hs
  have h2 := h (zok_cons ⟨by omega, by show (k : Int) < _; omega⟩ (zok_tl hst)) hlv hM H locs ls hP hS hl
  rw [List.map_cons, zWv_nn O h0]
  obtain ⟨y, hy1, hy2⟩ : ∃ y : vp_A, zEnc O (M (a.toNat : Nat)) (.inl (ty, k, rs)) = .inl (zcA O ty, y) ∧ y.1 = k := by
    cases ty <;> exact ⟨_, rfl, rfl⟩
  rw [hy1] at he
  exact va_alen hx hb hK hP a.toNat t0 he ht0 (v := zi k) (by rw [hy2]; unfold zi; rw [Int32.ofInt_eq_ofNat]) hd h2

set_option maxHeartbeats 4000000 in
set_option maxRecDepth 100000 in
theorem zg_iaload {p : Program} {e : Env} {R : Room} {s : State} {m : MethodId} {args : Array Value} {below : List Frame} {meth : Method} {c : Code} {Q : State → Prop} {O : zOm} {ev : zEv} (X : zCx p R s m args meth c O ev) {rt : Option zV → zMem → Prop} {n pc : Nat} {st : List zV} {lv : zLv} {M : zMem} 
    (hd : decode ev.2.1 pc = .ok (.iaload, n)) (h : zStep ev (zS O) (zR O) rt (.iaload) n pc st lv M (zGo p e R s m args below meth c Q O ev.2.2.1)) : zGo p e R s m args below meth c Q O ev.2.2.1 pc st lv M := by
  obtain ⟨own, code, nL, ret, pf, pm, pk, fr, lo, fn⟩ := ev
  obtain ⟨hx, hb, hml, hret, hown, hts, hK, hN, hfr, hlo, hszB, hSo, hCl, hF, hM0, hM1, hM2, hM5, hk0, hk1, hM3, hM4⟩ := X
  dsimp only at hb hml hret hown hfr hlo hF hM0 hM1 hM2 hM5 hk0 hk1 hM3 hM4 hd
  intro hst hlv hM H locs ls hP hS hl
  obtain ⟨rfl, j, a, r, k, rfl, ⟨h0, rs, hs⟩, hj0, hjk, h⟩ := h
  obtain ⟨t0, ht0⟩ := zTy_at O (ty := .int) (by decide)
  have hj1 : zin32 j := zok_hd hst
  have ha : ((a.toNat : Nat) : Int) = a := by omega
  have hjj : ((j.toNat : Nat) : Int) = j := by omega
  rw [List.map_cons, List.map_cons, zWv_nn O h0]
  have hin : zin32 (M a j) := by have := hM _ _ hs j.toNat (by omega); rw [ha, hjj] at this; exact this
  have h2 := h (zok_cons hin (zok_tl (zok_tl hst))) hlv hM H locs ls hP hS hl
  refine va_iald hx hb hK hP a.toNat t0 (zWorld_at (M := M) hs) ht0 (zi_vin hj0 hjk hj1) hd ?_
  rw [zi_cl hj1, hjj, ha]
  exact h2

set_option maxHeartbeats 4000000 in
set_option maxRecDepth 100000 in
theorem zg_laload {p : Program} {e : Env} {R : Room} {s : State} {m : MethodId} {args : Array Value} {below : List Frame} {meth : Method} {c : Code} {Q : State → Prop} {O : zOm} {ev : zEv} (X : zCx p R s m args meth c O ev) {rt : Option zV → zMem → Prop} {n pc : Nat} {st : List zV} {lv : zLv} {M : zMem} 
    (hd : decode ev.2.1 pc = .ok (.laload, n)) (h : zStep ev (zS O) (zR O) rt (.laload) n pc st lv M (zGo p e R s m args below meth c Q O ev.2.2.1)) : zGo p e R s m args below meth c Q O ev.2.2.1 pc st lv M := by
  obtain ⟨own, code, nL, ret, pf, pm, pk, fr, lo, fn⟩ := ev
  obtain ⟨hx, hb, hml, hret, hown, hts, hK, hN, hfr, hlo, hszB, hSo, hCl, hF, hM0, hM1, hM2, hM5, hk0, hk1, hM3, hM4⟩ := X
  dsimp only at hb hml hret hown hfr hlo hF hM0 hM1 hM2 hM5 hk0 hk1 hM3 hM4 hd
  intro hst hlv hM H locs ls hP hS hl
  obtain ⟨rfl, j, a, r, k, rfl, ⟨h0, rs, hs⟩, hj0, hjk, h⟩ := h
  obtain ⟨t0, ht0⟩ := zTy_at O (ty := .long) (by decide)
  have hj1 : zin32 j := zok_hd hst
  have ha : ((a.toNat : Nat) : Int) = a := by omega
  have hjj : ((j.toNat : Nat) : Int) = j := by omega
  rw [List.map_cons, List.map_cons, zWv_nn O h0]
  have hin : zin64 (M a j) := by have := hM _ _ hs j.toNat (by omega); rw [ha, hjj] at this; exact this
  have h2 := h (zok_cons hin (zok_tl (zok_tl hst))) hlv hM H locs ls hP hS hl
  refine va_lald hx hb hK hP a.toNat t0 (zWorld_at (M := M) hs) ht0 (zi_vin hj0 hjk hj1) hd ?_
  rw [zi_cl hj1, hjj, ha]
  exact h2

set_option maxHeartbeats 4000000 in
set_option maxRecDepth 100000 in
theorem zg_baload {p : Program} {e : Env} {R : Room} {s : State} {m : MethodId} {args : Array Value} {below : List Frame} {meth : Method} {c : Code} {Q : State → Prop} {O : zOm} {ev : zEv} (X : zCx p R s m args meth c O ev) {rt : Option zV → zMem → Prop} {n pc : Nat} {st : List zV} {lv : zLv} {M : zMem} 
    (hd : decode ev.2.1 pc = .ok (.baload, n)) (h : zStep ev (zS O) (zR O) rt (.baload) n pc st lv M (zGo p e R s m args below meth c Q O ev.2.2.1)) : zGo p e R s m args below meth c Q O ev.2.2.1 pc st lv M := by
  obtain ⟨own, code, nL, ret, pf, pm, pk, fr, lo, fn⟩ := ev
  obtain ⟨hx, hb, hml, hret, hown, hts, hK, hN, hfr, hlo, hszB, hSo, hCl, hF, hM0, hM1, hM2, hM5, hk0, hk1, hM3, hM4⟩ := X
  dsimp only at hb hml hret hown hfr hlo hF hM0 hM1 hM2 hM5 hk0 hk1 hM3 hM4 hd
  intro hst hlv hM H locs ls hP hS hl
  obtain ⟨rfl, j, a, r, k, rfl, hor, hj0, hjk, h⟩ := h
  have hj1 : zin32 j := zok_hd hst
  have hjj : ((j.toNat : Nat) : Int) = j := by omega
  rw [List.map_cons, List.map_cons]
  rcases hor with ⟨h0, rs, hs⟩ | ⟨h0, rs, hs⟩
  · obtain ⟨t0, ht0⟩ := zTy_at O (ty := .boolean) (by decide)
    have ha : ((a.toNat : Nat) : Int) = a := by omega
    rw [zWv_nn O h0]
    have hin : zin32 (M a j) := by have := hM _ _ hs j.toNat (by omega); rw [ha, hjj] at this; exact zfit_int this (by simp)
    have h2 := h (zok_cons hin (zok_tl (zok_tl hst))) hlv hM H locs ls hP hS hl
    refine va_zald hx hb hK hP a.toNat t0 (zWorld_at (M := M) hs) ht0 (zi_vin hj0 hjk hj1) hd ?_
    rw [zi_cl hj1, hjj, ha]
    exact h2
  · obtain ⟨t0, ht0⟩ := zTy_at O (ty := .byte) (by decide)
    have ha : ((a.toNat : Nat) : Int) = a := by omega
    rw [zWv_nn O h0]
    have hin : zin32 (M a j) := by have := hM _ _ hs j.toNat (by omega); rw [ha, hjj] at this; exact zfit_int this (by simp)
    have h2 := h (zok_cons hin (zok_tl (zok_tl hst))) hlv hM H locs ls hP hS hl
    refine va_bald hx hb hK hP a.toNat t0 (zWorld_at (M := M) hs) ht0 (zi_vin hj0 hjk hj1) hd ?_
    rw [zi_cl hj1, hjj, ha]
    exact h2

set_option maxHeartbeats 4000000 in
set_option maxRecDepth 100000 in
theorem zg_aaload {p : Program} {e : Env} {R : Room} {s : State} {m : MethodId} {args : Array Value} {below : List Frame} {meth : Method} {c : Code} {Q : State → Prop} {O : zOm} {ev : zEv} (X : zCx p R s m args meth c O ev) {rt : Option zV → zMem → Prop} {n pc : Nat} {st : List zV} {lv : zLv} {M : zMem} 
    (hd : decode ev.2.1 pc = .ok (.aaload, n)) (h : zStep ev (zS O) (zR O) rt (.aaload) n pc st lv M (zGo p e R s m args below meth c Q O ev.2.2.1)) : zGo p e R s m args below meth c Q O ev.2.2.1 pc st lv M := by
  obtain ⟨own, code, nL, ret, pf, pm, pk, fr, lo, fn⟩ := ev
  obtain ⟨hx, hb, hml, hret, hown, hts, hK, hN, hfr, hlo, hszB, hSo, hCl, hF, hM0, hM1, hM2, hM5, hk0, hk1, hM3, hM4⟩ := X
  dsimp only at hb hml hret hown hfr hlo hF hM0 hM1 hM2 hM5 hk0 hk1 hM3 hM4 hd
  intro hst hlv hM H locs ls hP hS hl
  obtain ⟨rfl, j, a, r, C, k, rs, rfl, ⟨h0, hs⟩, hj0, hjk, h⟩ := h
  obtain ⟨hty, -⟩ := hSo _ _ hs
  obtain ⟨t0, ht0⟩ := zTy_at O hty
  have hj1 : zin32 j := zok_hd hst
  rw [List.map_cons, List.map_cons, zWv_nn O h0]
  have h2 := h (zok_cons (zrv_ok _) (zok_tl (zok_tl hst))) hlv hM H locs ls hP hS hl
  refine va_aldq hx hb hK hP a.toNat t0 (zWorld_at (M := M) hs) ht0 (zi_vin hj0 hjk hj1) hd ?_
  rw [zi_cl hj1, ← zrv_wv]
  exact h2

set_option maxHeartbeats 4000000 in
set_option maxRecDepth 100000 in
theorem zg_iastore {p : Program} {e : Env} {R : Room} {s : State} {m : MethodId} {args : Array Value} {below : List Frame} {meth : Method} {c : Code} {Q : State → Prop} {O : zOm} {ev : zEv} (X : zCx p R s m args meth c O ev) {rt : Option zV → zMem → Prop} {n pc : Nat} {st : List zV} {lv : zLv} {M : zMem} 
    (hd : decode ev.2.1 pc = .ok (.iastore, n)) (h : zStep ev (zS O) (zR O) rt (.iastore) n pc st lv M (zGo p e R s m args below meth c Q O ev.2.2.1)) : zGo p e R s m args below meth c Q O ev.2.2.1 pc st lv M := by
  obtain ⟨own, code, nL, ret, pf, pm, pk, fr, lo, fn⟩ := ev
  obtain ⟨hx, hb, hml, hret, hown, hts, hK, hN, hfr, hlo, hszB, hSo, hCl, hF, hM0, hM1, hM2, hM5, hk0, hk1, hM3, hM4⟩ := X
  dsimp only at hb hml hret hown hfr hlo hF hM0 hM1 hM2 hM5 hk0 hk1 hM3 hM4 hd
  intro hst hlv hM H locs ls hP hS hl
  obtain ⟨rfl, x, j, a, r, k, rfl, ⟨h0, rs, hs⟩, hj0, hjk, h⟩ := h
  have hj1 : zin32 j := zok_hd (zok_tl hst)
  rw [List.map_cons, List.map_cons, List.map_cons]
  obtain ⟨t0, ht0⟩ := zTy_at O (ty := .int) (by decide)
  have ha : ((a.toNat : Nat) : Int) = a := by omega
  rw [zWv_nn O h0]
  refine va_iast hx hb hK hP (zWorld_D O M _) hS a.toNat t0 (zWorld_at (M := M) hs) ht0 (zi_vin hj0 hjk hj1) hd (fun H1 locs1 hP1 hD1 hS1 => ?_)
  have hw2 := zWorld_set (O := O) (M := M) hs (zup (M a) j x) (e := .inl (zcA O .int, k, .inl (upd (fun i : Nat => zi (M (a.toNat : Nat) i)) (zi j).toNatClampNeg (zi x)))) (by rw [zi_cl hj1, ha, ← zupd_i hj0]; rfl)
  rw [ha] at hw2 hP1
  rw [hw2] at hP1
  have hM1 : zMok (zS O) (zput M a (zup (M a) j x)) := by
    have h3 := hM _ _ hs
    rw [ha] at h3
    have := zMok_put (f := zup (M a) j x) hM hs (zShOk_up h3 (zok_hd hst))
    rw [ha] at this
    exact this
  exact h (zok_tl (zok_tl (zok_tl hst))) hlv hM1 H1 locs1 ls hP1 hS1 hl

set_option maxHeartbeats 4000000 in
set_option maxRecDepth 100000 in
theorem zg_lastore {p : Program} {e : Env} {R : Room} {s : State} {m : MethodId} {args : Array Value} {below : List Frame} {meth : Method} {c : Code} {Q : State → Prop} {O : zOm} {ev : zEv} (X : zCx p R s m args meth c O ev) {rt : Option zV → zMem → Prop} {n pc : Nat} {st : List zV} {lv : zLv} {M : zMem} 
    (hd : decode ev.2.1 pc = .ok (.lastore, n)) (h : zStep ev (zS O) (zR O) rt (.lastore) n pc st lv M (zGo p e R s m args below meth c Q O ev.2.2.1)) : zGo p e R s m args below meth c Q O ev.2.2.1 pc st lv M := by
  obtain ⟨own, code, nL, ret, pf, pm, pk, fr, lo, fn⟩ := ev
  obtain ⟨hx, hb, hml, hret, hown, hts, hK, hN, hfr, hlo, hszB, hSo, hCl, hF, hM0, hM1, hM2, hM5, hk0, hk1, hM3, hM4⟩ := X
  dsimp only at hb hml hret hown hfr hlo hF hM0 hM1 hM2 hM5 hk0 hk1 hM3 hM4 hd
  intro hst hlv hM H locs ls hP hS hl
  obtain ⟨rfl, x, j, a, r, k, rfl, ⟨h0, rs, hs⟩, hj0, hjk, h⟩ := h
  have hj1 : zin32 j := zok_hd (zok_tl hst)
  rw [List.map_cons, List.map_cons, List.map_cons]
  obtain ⟨t0, ht0⟩ := zTy_at O (ty := .long) (by decide)
  have ha : ((a.toNat : Nat) : Int) = a := by omega
  rw [zWv_nn O h0]
  refine va_last hx hb hK hP (zWorld_D O M _) hS a.toNat t0 (zWorld_at (M := M) hs) ht0 (zi_vin hj0 hjk hj1) hd (fun H1 locs1 hP1 hD1 hS1 => ?_)
  have hw2 := zWorld_set (O := O) (M := M) hs (zup (M a) j x) (e := .inl (zcA O .long, k, .inr (.inl (vp_updL (fun i : Nat => zl (M (a.toNat : Nat) i)) (zi j).toNatClampNeg (zl x))))) (by rw [zi_cl hj1, ha, ← zupd_l hj0]; rfl)
  rw [ha] at hw2 hP1
  rw [hw2] at hP1
  have hM1 : zMok (zS O) (zput M a (zup (M a) j x)) := by
    have h3 := hM _ _ hs
    rw [ha] at h3
    have := zMok_put (f := zup (M a) j x) hM hs (zShOk_up h3 (zok_hd hst))
    rw [ha] at this
    exact this
  exact h (zok_tl (zok_tl (zok_tl hst))) hlv hM1 H1 locs1 ls hP1 hS1 hl

set_option maxHeartbeats 4000000 in
set_option maxRecDepth 100000 in
theorem zg_bastore {p : Program} {e : Env} {R : Room} {s : State} {m : MethodId} {args : Array Value} {below : List Frame} {meth : Method} {c : Code} {Q : State → Prop} {O : zOm} {ev : zEv} (X : zCx p R s m args meth c O ev) {rt : Option zV → zMem → Prop} {n pc : Nat} {st : List zV} {lv : zLv} {M : zMem} 
    (hd : decode ev.2.1 pc = .ok (.bastore, n)) (h : zStep ev (zS O) (zR O) rt (.bastore) n pc st lv M (zGo p e R s m args below meth c Q O ev.2.2.1)) : zGo p e R s m args below meth c Q O ev.2.2.1 pc st lv M := by
  obtain ⟨own, code, nL, ret, pf, pm, pk, fr, lo, fn⟩ := ev
  obtain ⟨hx, hb, hml, hret, hown, hts, hK, hN, hfr, hlo, hszB, hSo, hCl, hF, hM0, hM1, hM2, hM5, hk0, hk1, hM3, hM4⟩ := X
  dsimp only at hb hml hret hown hfr hlo hF hM0 hM1 hM2 hM5 hk0 hk1 hM3 hM4 hd
  intro hst hlv hM H locs ls hP hS hl
  obtain ⟨rfl, x, j, a, r, k, rfl, hor, hj0, hjk, h⟩ := h
  have hj1 : zin32 j := zok_hd (zok_tl hst)
  rw [List.map_cons, List.map_cons, List.map_cons]
  rcases hor with ⟨⟨h0, rs, hs⟩, hx2⟩ | ⟨⟨h0, rs, hs⟩, hx2⟩
  · have hnr : vp_nar .boolean (zi x) = zi x := by rcases hx2 with rfl | rfl <;> decide
    obtain ⟨t0, ht0⟩ := zTy_at O (ty := .boolean) (by decide)
    have ha : ((a.toNat : Nat) : Int) = a := by omega
    rw [zWv_nn O h0]
    refine va_zast hx hb hK hP (zWorld_D O M _) hS a.toNat t0 (zWorld_at (M := M) hs) ht0 (zi_vin hj0 hjk hj1) hd (fun H1 locs1 hP1 hD1 hS1 => ?_)
    have hw2 := zWorld_set (O := O) (M := M) hs (zup (M a) j x) (e := .inl (zcA O .boolean, k, .inl (upd (fun i : Nat => zi (M (a.toNat : Nat) i)) (zi j).toNatClampNeg (vp_nar .boolean (zi x))))) (by rw [zi_cl hj1, ha, hnr, ← zupd_i hj0]; rfl)
    rw [ha] at hw2 hP1
    rw [hw2] at hP1
    have hM1 : zMok (zS O) (zput M a (zup (M a) j x)) := by
      have h3 := hM _ _ hs
      rw [ha] at h3
      have := zMok_put (f := zup (M a) j x) hM hs (zShOk_up h3 hx2)
      rw [ha] at this
      exact this
    exact h (zok_tl (zok_tl (zok_tl hst))) hlv hM1 H1 locs1 ls hP1 hS1 hl
  · have hnr : vp_nar .byte (zi x) = zi x := by
      rw [vp_nar_byte]
      refine zi_ext ?_
      rw [Int8.toInt_toInt32, Int32.toInt_toInt8, zi_toInt (zok_hd hst)]
      show Int.bmod x 256 = x
      rw [Int.bmod_eq_of_le] <;> omega
    obtain ⟨t0, ht0⟩ := zTy_at O (ty := .byte) (by decide)
    have ha : ((a.toNat : Nat) : Int) = a := by omega
    rw [zWv_nn O h0]
    refine va_bast hx hb hK hP (zWorld_D O M _) hS a.toNat t0 (zWorld_at (M := M) hs) ht0 (zi_vin hj0 hjk hj1) hd (fun H1 locs1 hP1 hD1 hS1 => ?_)
    have hw2 := zWorld_set (O := O) (M := M) hs (zup (M a) j x) (e := .inl (zcA O .byte, k, .inl (upd (fun i : Nat => zi (M (a.toNat : Nat) i)) (zi j).toNatClampNeg (vp_nar .byte (zi x))))) (by rw [zi_cl hj1, ha, hnr, ← zupd_i hj0]; rfl)
    rw [ha] at hw2 hP1
    rw [hw2] at hP1
    have hM1 : zMok (zS O) (zput M a (zup (M a) j x)) := by
      have h3 := hM _ _ hs
      rw [ha] at h3
      have := zMok_put (f := zup (M a) j x) hM hs (zShOk_up h3 hx2)
      rw [ha] at this
      exact this
    exact h (zok_tl (zok_tl (zok_tl hst))) hlv hM1 H1 locs1 ls hP1 hS1 hl
end
section
-- part 05.call.lean.txt
set_option maxHeartbeats 4000000 in
set_option maxRecDepth 100000 in
theorem zg_invokevirtual {p : Program} {e : Env} {R : Room} {s : State} {m : MethodId} {args : Array Value} {below : List Frame} {meth : Method} {c : Code} {Q : State → Prop} {O : zOm} {ev : zEv} (X : zCx p R s m args meth c O ev) {rt : Option zV → zMem → Prop} {n pc : Nat} {st : List zV} {lv : zLv} {M : zMem} {k : Nat}
    (hd : decode ev.2.1 pc = .ok (.invokevirtual k, n)) (h : zStep ev (zS O) (zR O) rt (.invokevirtual k) n pc st lv M (zGo p e R s m args below meth c Q O ev.2.2.1)) : zGo p e R s m args below meth c Q O ev.2.2.1 pc st lv M := by
  obtain ⟨own, code, nL, ret, pf, pm, pk, fr, lo, fn⟩ := ev
  obtain ⟨hx, hb, hml, hret, hown, hts, hK, hN, hfr, hlo, hszB, hSo, hCl, hF, hM0, hM1, hM2, hM5, hk0, hk1, hM3, hM4⟩ := X
  dsimp only at hb hml hret hown hfr hlo hF hM0 hM1 hM2 hM5 hk0 hk1 hM3 hM4 hd
  intro hst hlv hM H locs ls hP hS hl
  obtain ⟨rfl, o, as, rest, f, ci, na, rfl, hpm, hn, ⟨h0, fks, hs⟩, hcat, hfr1, hlo1, h⟩ := h
  obtain ⟨⟨hcode, hini, hd1, hd2, hd3⟩, ⟨T, N, hc⟩, hlk, hin, hsel⟩ := hM0 k f ci na hpm
  dsimp only at hcode hini hd1 hd2 hd3 hc hlk hin hsel hfr1 hlo1 h
  generalize fn f = f at hcode hini hd1 hd2 hd3 hc hlk hin hsel hfr1 hlo1 h
  have hrest : ∀ v ∈ rest, zok v := fun v hv => hst v (by simp [hv])
  have has : ∀ v ∈ (2, o) :: as, zok v := fun v hv => hst v (by rcases List.mem_cons.mp hv with rfl | hv <;> simp [*])
  have hMet := h has hM H.size (Nat.le_trans hszB hS.1)
  have hG : GoodIn zWS (wsV own k f.1.cls f.1 (zWs f)) := by
    intro w hw
    have hw' : w ∈ zWS := by
      rcases List.mem_append.mp hw with h1 | h1
      · simp only [List.mem_cons, List.not_mem_nil, or_false] at h1
        rcases h1 with rfl | rfl | rfl | rfl
        · exact hlk
        · exact hin
        · exact hsel
        · exact hini
      · exact (zGood f hcode w h1).1
    exact ⟨hw', good_of_word (List.mem_filter.mp hw').2⟩
  have cw := cwV (R := R) (rm := zRm f) (mc := 0) (ms := 0) (ws' := zWS) na hts hG rfl rfl rfl ⟨rfl, hd1, hd2, hd3⟩ (by rw [hfr, hlo]; exact ⟨hfr1, hlo1⟩)
  have he := zWorld_at (M := M) hs
  obtain ⟨rC, hrC, cell, q1, q2, q3, q4⟩ := hP _ _ he
  rw [hc] at hrC
  cases hrC
  have hcls : s.vm.findClass f.1.cls = some cell.cls := by rw [q2]; exact (hK.1 ci _ hc).2.1
  have hPV : PreV s H f.1.cls (zB O + o.toNat) (zPc O M H.size ((2, o) :: as)) (as.map (zWv O)) := by
    refine ⟨zPc_blind O M H.size _, ⟨cell, q1, by rw [q3]; rfl, hcls⟩, fun U hU hW => ?_⟩
    have := zPc_at (as := (2, o) :: as) hP hK hN hU hW
    rw [List.map_cons, zWv_nn O h0] at this
    exact this
  have hstk : ((as.reverse ++ (2, o) :: rest).map (zWv O)) = (as.map (zWv O)).reverse ++ .ref (zB O + o.toNat) :: rest.map (zWv O) := by
    rw [List.map_append, List.map_cons, zWv_nn O h0, List.map_reverse]
  rw [hstk]
  refine zcall (va_runV (As := as.map (zWv O)) (rest := rest.map (zWv O)) ⟨hx, hb, hml, hown, hts⟩ hMet cw hPV rfl (by rw [List.length_map]; exact hn) hl.1 rfl (lv_room (by rw [zcats_wv]; exact hcat)) hd ⟨Nat.zero_le _, Nat.zero_le _⟩) hS hrest hlv hl (fun v u hv => hv)

set_option maxHeartbeats 4000000 in
set_option maxRecDepth 100000 in
theorem zg_invokestatic {p : Program} {e : Env} {R : Room} {s : State} {m : MethodId} {args : Array Value} {below : List Frame} {meth : Method} {c : Code} {Q : State → Prop} {O : zOm} {ev : zEv} (X : zCx p R s m args meth c O ev) {rt : Option zV → zMem → Prop} {n pc : Nat} {st : List zV} {lv : zLv} {M : zMem} {k : Nat}
    (hd : decode ev.2.1 pc = .ok (.invokestatic k, n)) (h : zStep ev (zS O) (zR O) rt (.invokestatic k) n pc st lv M (zGo p e R s m args below meth c Q O ev.2.2.1)) : zGo p e R s m args below meth c Q O ev.2.2.1 pc st lv M := by
  obtain ⟨own, code, nL, ret, pf, pm, pk, fr, lo, fn⟩ := ev
  obtain ⟨hx, hb, hml, hret, hown, hts, hK, hN, hfr, hlo, hszB, hSo, hCl, hF, hM0, hM1, hM2, hM5, hk0, hk1, hM3, hM4⟩ := X
  dsimp only at hb hml hret hown hfr hlo hF hM0 hM1 hM2 hM5 hk0 hk1 hM3 hM4 hd
  intro hst hlv hM H locs ls hP hS hl
  obtain ⟨rfl, h⟩ := h
  rcases h with ⟨as, rest, kd, f, ci, na, hkd, rfl, hpm, hn, hcat, hfr1, hlo1, h⟩ | ⟨a0, sp, a1, dp, cn, rest, f, ci, na, k0, k1, rfl, hpm, ⟨h00, rs0, hs0⟩, ⟨h01, rs1, hs1⟩, hsp, hdp, hcn, hb0, hb1, hf9, hl9, h⟩ | ⟨x, y, r, mx, f, ci, na, rfl, hpm, hmx, hf9, hl9, h⟩
  · have hrest : ∀ v ∈ rest, zok v := fun v hv => hst v (by simp [hv])
    have has : ∀ v ∈ as, zok v := fun v hv => hst v (by simp [hv])
    have hMet := h has hM H.size (Nat.le_trans hszB hS.1)
    have hPS : PreS s H (zPc O M H.size as) (as.map (zWv O)) := ⟨zPc_blind O M H.size _, fun U hU hW => zPc_at hP hK hN hU hW⟩
    have hstk : ((as.reverse ++ rest).map (zWv O)) = (as.map (zWv O)).reverse ++ rest.map (zWv O) := by
      rw [List.map_append, List.map_reverse]
    rw [hstk]
    rcases hkd with rfl | rfl
    · obtain ⟨⟨hcode, hini, hd1, hd2, hd3⟩, hlk, hsta⟩ := hM1 k f ci na hpm
      dsimp only at hcode hini hd1 hd2 hd3 hlk hsta hfr1 hlo1 h hMet
      generalize fn f = f at hcode hini hd1 hd2 hd3 hlk hsta hfr1 hlo1 h hMet
      have hG : GoodIn zWS (va_wsS own k f.1 (zWs f)) := by
        intro w hw
        have hw' : w ∈ zWS := by
          rcases List.mem_append.mp hw with h1 | h1
          · simp only [List.mem_cons, List.not_mem_nil, or_false] at h1
            rcases h1 with rfl | rfl | rfl
            · exact hlk
            · exact hsta
            · exact hini
          · exact (zGood f hcode w h1).1
        exact ⟨hw', good_of_word (List.mem_filter.mp hw').2⟩
      have cw := va_cwS (R := R) (rm := zRm f) (mc := 0) (ms := 0) (ws' := zWS) na hts hG rfl rfl rfl ⟨hd1, hd2, hd3⟩ (by rw [hfr, hlo]; exact ⟨hfr1, hlo1⟩)
      exact zcall (va_runS (As := as.map (zWv O)) (rest := rest.map (zWv O)) ⟨hx, hb, hml, hown, hts⟩ hMet cw hPS rfl (by rw [List.length_map]; exact hn) hl.1 rfl (lv_room (by rw [zcats_wv]; exact hcat)) hd ⟨Nat.zero_le _, Nat.zero_le _⟩) hS hrest hlv hl (fun v u hv => hv)
    · obtain ⟨⟨hcode, hini, hd1, hd2, hd3⟩, hne, hsta⟩ := hM2 k f ci na hpm
      dsimp only at hcode hini hd1 hd2 hd3 hne hsta hfr1 hlo1 h hMet
      generalize fn f = f at hcode hini hd1 hd2 hd3 hne hsta hfr1 hlo1 h hMet
      have cn := va_cnB (R := R) (rm := zRm f) (mc := 0) (ms := 0) (ws' := zWS) na hts (zGood f hcode) rfl rfl rfl (hN _ hne) (hts _ hini) ⟨hd1, hd2, hd3⟩ (by rw [hfr, hlo]; exact ⟨hfr1, hlo1⟩)
      exact zcall (va_runSN (As := as.map (zWv O)) (rest := rest.map (zWv O)) ⟨hx, hb, hml, hown, hts⟩ hMet ⟨cn, hts _ hsta, trivial⟩ hPS rfl (by rw [List.length_map]; exact hn) hl.1 rfl (lv_room (by rw [zcats_wv]; exact hcat)) hd ⟨Nat.zero_le _, Nat.zero_le _⟩) hS hrest hlv hl (fun v u hv => hv)
  · obtain ⟨hlk, hnat, hsta, hini⟩ := hM5 k f ci na hpm
    obtain ⟨t0, ht0⟩ := zTy_at O (ty := .int) (by decide)
    have hcn1 : zin32 cn := zok_hd hst
    have hdp1 : zin32 dp := zok_hd (zok_tl hst)
    have hsp1 : zin32 sp := zok_hd (zok_tl (zok_tl (zok_tl hst)))
    have e0 : ((a0.toNat : Nat) : Int) = a0 := by omega
    have e1 : ((a1.toNat : Nat) : Int) = a1 := by omega
    simp only [List.map_cons]
    rw [zWv_nn O h00, zWv_nn O h01]
    have nz : ∀ z : Int, zin32 z → 0 ≤ z → ¬ zi z < 0 := fun z hz h0 q => by
      have := (zi_lt hz (⟨by decide, by decide⟩ : zin32 0)).mp q
      omega
    refine va_copyi hx hb (hml.trans hl.1.symm) hown (hts _ hlk) (hts _ hnat) (hts _ hsta) (hts _ hini) hK hP (zWorld_D O M _) hS a0.toNat a1.toNat t0 t0 (zWorld_at (M := M) hs0) (zWorld_at (M := M) hs1) ht0 ht0 rfl (nz _ hsp1 hsp) (nz _ hdp1 hdp) (nz _ hcn1 hcn) (by rw [zi_cl hsp1, zi_cl hcn1]; omega) (by rw [zi_cl hdp1, zi_cl hcn1]; omega) (fun _ _ => rfl) (by rw [hfr]; exact hf9) (by rw [hlo, zcats_wv]; exact hl9) (hdg := hd) (kk := fun H1 locs1 hP1 hD1 hS1 => ?_)
    have hw2 := zWorld_set (O := O) (M := M) hs1 (zcpy (M a0) (M a1) sp dp cn) (e := .inl (zcA O .int, k1, .inl (va_cpy (fun i : Nat => zi (M (a0.toNat : Nat) i)) (fun i : Nat => zi (M (a1.toNat : Nat) i)) (zi sp).toNatClampNeg (zi dp).toNatClampNeg (zi cn).toNatClampNeg))) (by rw [zi_cl hsp1, zi_cl hdp1, zi_cl hcn1, e0, e1, ← zcpy_i hsp hdp hcn]; rfl)
    rw [e1] at hw2 hP1
    rw [hw2] at hP1
    have hMa : zMok (zS O) (zput M a1 (zcpy (M a0) (M a1) sp dp cn)) := by
      have h3 := hM _ _ hs1
      have h4 := hM _ _ hs0
      rw [e1] at h3
      rw [e0] at h4
      have hc : zShOk (zcpy (M a0) (M a1) sp dp cn) (.inl (.int, k1, rs1)) := by
        intro j hj
        unfold zcpy
        split
        next hj2 =>
          have h5 := h4 (sp + ((j : Int) - dp)).toNat (by omega)
          rw [show (((sp + ((j : Int) - dp)).toNat : Nat) : Int) = sp + ((j : Int) - dp) by omega] at h5
          exact h5
        next => exact h3 j hj
      have := zMok_put (f := zcpy (M a0) (M a1) sp dp cn) hM hs1 hc
      rw [e1] at this
      exact this
    exact h (zok_tl (zok_tl (zok_tl (zok_tl (zok_tl hst))))) hlv hMa H1 locs1 ls hP1 hS1 hl
  · have hy : zin32 y := zok_hd hst
    have hx1 : zin32 x := zok_hd (zok_tl hst)
    rcases hmx with rfl | rfl
    · obtain ⟨hlk, hsta, hini, hcd⟩ := hM3 k f ci na hpm
      have hin : zin32 (max x y) := by rcases Int.le_total x y with q | q <;> simp [Int.max_def] <;> split <;> assumption
      have h2 := h (zok_cons hin (zok_tl (zok_tl hst))) hlv hM H locs ls hP hS hl
      refine va_mmax (x := zi x) (y := zi y) hx hb (hml.trans hl.1.symm) hown (hts _ hlk) (hts _ hsta) (hts _ hini) (hts _ hcd) (by rw [hfr]; exact hf9) (by rw [hlo, zcats_wv]; exact hl9) (Nat.zero_le _) (Nat.zero_le _) hd ?_
      have he : (if zi x < zi y then zi y else zi x) = zi (max x y) := by
        rw [Int.max_def]
        by_cases q : x < y
        · rw [if_pos ((zi_lt hx1 hy).mpr q), if_pos (by omega)]
        · rw [if_neg (fun z => q ((zi_lt hx1 hy).mp z))]
          split
          · rw [show x = y by omega]
          · rfl
      rw [he]
      exact h2
    · obtain ⟨hlk, hsta, hini, hcd⟩ := hM4 k f ci na hpm
      have hin : zin32 (min x y) := by rcases Int.le_total x y with q | q <;> simp [Int.min_def] <;> split <;> assumption
      have h2 := h (zok_cons hin (zok_tl (zok_tl hst))) hlv hM H locs ls hP hS hl
      refine va_mmin (x := zi x) (y := zi y) hx hb (hml.trans hl.1.symm) hown (hts _ hlk) (hts _ hsta) (hts _ hini) (hts _ hcd) (by rw [hfr]; exact hf9) (by rw [hlo, zcats_wv]; exact hl9) (Nat.zero_le _) (Nat.zero_le _) hd ?_
      have he : (if zi y < zi x then zi y else zi x) = zi (min x y) := by
        rw [Int.min_def]
        by_cases q : y < x
        · rw [if_pos ((zi_lt hy hx1).mpr q), if_neg (by omega)]
        · rw [if_neg (fun z => q ((zi_lt hy hx1).mp z)), if_pos (by omega)]
      rw [he]
      exact h2
end
section
-- part 06.meth.lean.txt
/-- every instruction of the abstract machine but a return -/
theorem zGo_step {p : Program} {e : Env} {R : Room} {s : State} {m : MethodId} {args : Array Value} {below : List Frame} {meth : Method} {c : Code} {Q : State → Prop} {O : zOm} {ev : zEv} (X : zCx p R s m args meth c O ev) {rt : Option zV → zMem → Prop} {i : Instr} {n pc : Nat} {st : List zV} {lv : zLv} {M : zMem}
    (hd : decode ev.2.1 pc = .ok (i, n)) (h : zStep ev (zS O) (zR O) rt i n pc st lv M (zGo p e R s m args below meth c Q O ev.2.2.1))
    (hret : i = .ireturn ∨ i = .lreturn ∨ i = .areturn ∨ i = .return_ → zGo p e R s m args below meth c Q O ev.2.2.1 pc st lv M) : zGo p e R s m args below meth c Q O ev.2.2.1 pc st lv M := by
  cases i
  case iconst => exact zg_iconst X hd h
  case bipush => exact zg_bipush X hd h
  case sipush => exact zg_sipush X hd h
  case lconst => exact zg_lconst X hd h
  case aconst_null => exact zg_aconst_null X hd h
  case ldc => exact zg_ldc X hd h
  case ldc_w => exact zg_ldc_w X hd h
  case ldc2_w => exact zg_ldc2_w X hd h
  case iload => exact zg_iload X hd h
  case iload_n => exact zg_iload_n X hd h
  case lload => exact zg_lload X hd h
  case lload_n => exact zg_lload_n X hd h
  case aload => exact zg_aload X hd h
  case aload_n => exact zg_aload_n X hd h
  case istore => exact zg_istore X hd h
  case istore_n => exact zg_istore_n X hd h
  case lstore => exact zg_lstore X hd h
  case lstore_n => exact zg_lstore_n X hd h
  case astore => exact zg_astore X hd h
  case astore_n => exact zg_astore_n X hd h
  case iinc => exact zg_iinc X hd h
  case iadd => exact zg_iadd X hd h
  case isub => exact zg_isub X hd h
  case imul => exact zg_imul X hd h
  case idiv => exact zg_idiv X hd h
  case irem => exact zg_irem X hd h
  case iand => exact zg_iand X hd h
  case ior => exact zg_ior X hd h
  case ixor => exact zg_ixor X hd h
  case ishl => exact zg_ishl X hd h
  case ishr => exact zg_ishr X hd h
  case iushr => exact zg_iushr X hd h
  case ineg => exact zg_ineg X hd h
  case i2l => exact zg_i2l X hd h
  case l2i => exact zg_l2i X hd h
  case i2b => exact zg_i2b X hd h
  case ladd => exact zg_ladd X hd h
  case lsub => exact zg_lsub X hd h
  case lmul => exact zg_lmul X hd h
  case lcmp => exact zg_lcmp X hd h
  case dup => exact zg_dup X hd h
  case dup2 => exact zg_dup2 X hd h
  case pop => exact zg_pop X hd h
  case ifCond => exact zg_if X hd h
  case if_icmp => exact zg_icmp X hd h
  case ifnull => exact zg_ifnull X hd h
  case ifnonnull => exact zg_ifnonnull X hd h
  case goto => exact zg_goto X hd h
  case tableswitch => exact zg_tableswitch X hd h
  case lookupswitch => exact zg_lookupswitch X hd h
  case getfield => exact zg_getfield X hd h
  case putfield => exact zg_putfield X hd h
  case arraylength => exact zg_arraylength X hd h
  case iaload => exact zg_iaload X hd h
  case baload => exact zg_baload X hd h
  case laload => exact zg_laload X hd h
  case aaload => exact zg_aaload X hd h
  case iastore => exact zg_iastore X hd h
  case bastore => exact zg_bastore X hd h
  case lastore => exact zg_lastore X hd h
  case invokevirtual => exact zg_invokevirtual X hd h
  case invokestatic => exact zg_invokestatic X hd h
  case ireturn => exact hret (Or.inl rfl)
  case lreturn => exact hret (Or.inr (Or.inl rfl))
  case areturn => exact hret (Or.inr (Or.inr (Or.inl rfl)))
  case return_ => exact hret (Or.inr (Or.inr (Or.inr rfl)))
  all_goals exact False.elim h
set_option maxHeartbeats 4000000 in
theorem zGo_ret {p : Program} {e : Env} {R : Room} {s : State} {m : MethodId} {args : Array Value} {below : List Frame} {meth : Method} {c : Code} {O : zOm} {ev : zEv} (X : zCx p R s m args meth c O ev) (hlocks : meth.locks = false) {rt : Option zV → zMem → Prop} {i : Instr} {n pc : Nat} {st : List zV} {lv : zLv} {M : zMem} {G : Nat → List zV → zLv → zMem → Prop}
    (hi : i = .ireturn ∨ i = .lreturn ∨ i = .areturn ∨ i = .return_) (hd : decode ev.2.1 pc = .ok (i, n)) (h : zStep ev (zS O) (zR O) rt i n pc st lv M G) :
    zGo p e R s m args below meth c (MQ below (zQ O rt s.heap.size) args s 0 0 (zA O s.heap.size)) O ev.2.2.1 pc st lv M := by
  obtain ⟨own, code, nL, ret, pf, pm, pk, fr, lo, fn⟩ := ev
  obtain ⟨hx, hb, hml, hret, hown, hts, hK, hN, hfr, hlo, hszB, hSo, hCl, hF, hM0, hM1, hM2, hM5, hk0, hk1, hM3, hM4⟩ := X
  dsimp only at hb hml hret hd
  intro hst hlv hM H locs ls hP hS hl
  have hq : ∀ (r : Option zV), (∀ v, r = some v → zok v) → rt r M → ∀ t : State, t.heap = H → s.WarmedH t.vm → zQ O rt s.heap.size args s (.returned (r.map (zWv O))) t :=
    fun r hr hk t ht hW => ⟨⟨r, M, rfl, hr, hM, hk, by rw [ht]; exact hP⟩, hS.F ht⟩
  rcases hi with rfl | rfl | rfl | rfl
  · obtain ⟨rfl, x, rfl, hty, hk⟩ := h
    have h2 := hq (some (0, x)) (fun v hv => by cases hv; exact zok_hd hst) hk
    rcases hty with ⟨hty, hx01⟩ | hty
    · exact W.zret (v := zi x) (ty := .boolean) hx hb (hret.trans hty) (by rcases hx01 with rfl | rfl <;> decide) h2 hS.2.2 hd
    · exact W.iret (v := zi x) hx hb (hret.trans hty) h2 hS.2.2 hd
  · obtain ⟨rfl, x, rfl, hty, hk⟩ := h
    have h2 := hq (some (1, x)) (fun v hv => by cases hv; exact zok_hd hst) hk
    exact W.lret (v := zl x) hx hb (hret.trans hty) h2 hS.2.2 hd
  · obtain ⟨rfl, x, C, rfl, hty, hk⟩ := h
    have h2 := hq (some (2, x)) (fun v hv => by cases hv; exact zok_hd hst) hk
    exact W.aret (v := zWv O (2, x)) hx hb (hret.trans hty) (Or.inl ⟨C, rfl⟩) (zWv_ref O x) h2 hS.2.2 hd
  · obtain ⟨rfl, rfl, hty, hk⟩ := h
    have h2 := hq none (fun v hv => by cases hv) hk
    exact W.vret hx hb (hret.trans hty) h2 hS.2.2 hd
/-- what is closed under the instructions of the abstract machine -/
def zClosed (ev : zEv) (S : List zSh) (Rn : zRnT) (rt : Option zV → zMem → Prop) (G : Nat → List zV → zLv → zMem → Prop) : Prop :=
  (∀ (i : Instr) (n pc : Nat) (st : List zV) (lv : zLv) (M : zMem), decode ev.2.1 pc = .ok (i, n) → zStep ev S Rn rt i n pc st lv M G → G pc st lv M) ∧ ev.2.2.2.2.2.2.2.2.2 = zFn ∧ ∀ f as M (K K' : Option zV → zMem → Prop), (∀ v u, K v u → K' v u) → Rn f as M K → Rn f as M K'
def zEvOf (own : String) (f : zMR) (pf : Nat → Option (Nat × Nat)) (pm : Nat → Option zMI) (pk : Nat → Option zV) : zEv := (own, f.2.1, f.2.2.1, f.2.2.2.1, pf, pm, pk, f.2.2.2.2.1, f.2.2.2.2.2, zFn)
/-- the values of a method's arguments in its locals -/
def zArgs : Nat → List zV → zLv
  | _, [] => []
  | i, v :: r => (i, v) :: zArgs (i + zcat v) r
def zOmOk (O : zOm) : Prop := zSok O ∧ zClOk (zcl O)
theorem zlg (O : zOm) (as : List zV) : (lg_sl (as.map (zWv O))).length = zcats as := by
  induction as with
  | nil => rfl
  | cons v r ih =>
    unfold lg_sl zcats at *
    rw [List.map_cons, List.flatMap_cons, List.length_append, ih, List.map_cons, List.sum_cons]
    congr 1
    rw [zcat_wv]
    have : zcat v = 1 ∨ zcat v = 2 := by unfold zcat; split <;> simp
    rcases this with h | h <;> simp [h]
theorem zlvargs (O : zOm) (as : List zV) : ∀ k, lv_args k (as.map (zWv O)) = (zArgs k as).map fun q => (q.1, zWv O q.2) := by
  induction as with
  | nil => intro k; rfl
  | cons v r ih =>
    intro k
    show lv_args k (zWv O v :: r.map (zWv O)) = (k, zWv O v) :: (zArgs (k + zcat v) r).map _
    rw [← ih]
    show (k, zWv O v) :: lv_args (if (zWv O v).category = 2 then k + 2 else k + 1) (r.map (zWv O)) = _
    rw [zcat_wv]
    have : (if zcat v = 2 then k + 2 else k + 1) = k + zcat v := by
      have : zcat v = 1 ∨ zcat v = 2 := by unfold zcat; split <;> simp
      rcases this with h | h <;> simp [h]
    rw [this]
theorem zArgs_ok (as : List zV) (h : ∀ v ∈ as, zok v) : ∀ k, ∀ q ∈ zArgs k as, zok q.2 := by
  induction as with
  | nil => intro k q hq; cases hq
  | cons v r ih =>
    intro k q hq
    rcases List.mem_cons.mp hq with rfl | hq
    · exact zok_hd h
    · exact ih (zok_tl h) _ q hq
theorem zR.mono {O : zOm} {f : zMR} {as : List zV} {M : zMem} {K K' : Option zV → zMem → Prop} (h : zR O f as M K) (hk : ∀ v u, K v u → K' v u) : zR O f as M K' := by
  intro has hM sz hsz p e ha hc hk2 s m args below hf happ hP hT
  obtain ⟨n, o, h1, h2, h3, ⟨⟨r, u, e1, e2, e3, e4, e5⟩, hF⟩, hL⟩ := h has hM sz hsz p e ha hc hk2 s m args below hf happ hP hT
  exact ⟨n, o, h1, h2, h3, ⟨⟨r, u, e1, e2, e3, hk _ _ e4, e5⟩, hF⟩, hL⟩
/-- a method by its code: any G that is closed under its instructions holds at its start -/
theorem zR.of {O : zOm} (hO : zOmOk O) {own : String} {f : zMR} {pf : Nat → Option (Nat × Nat)} {pm : Nat → Option zMI} {pk : Nat → Option zV} (hev : zEvOk (zcl O) (zEvOf own f pf pm pk)) (hown : f.1.cls = own) (hpl : plainName f.1.cls = true) {as : List zV} (hn : zcats as ≤ f.2.2.1) {M : zMem} {K : Option zV → zMem → Prop}
    (h : ∀ G, zClosed (zEvOf own f pf pm pk) (zS O) (zR O) K G → G 0 [] (zArgs 0 as) M) : zR O f as M K := by
  intro has hM sz hsz
  refine Met.ofW (cc := f.2.1) (maxL := f.2.2.1) (ret := f.2.2.2.1) hpl rfl ?_
  intro p e s m args below meth c s₁ B hml hv
  obtain ⟨rfl, hsz', hP, hK, hN⟩ := hv
  have hlocks := B.notSynchronized
  have hts : ∀ w ∈ zWs f, w.before (as.map (zWv O)).toArray s = true := atoms_spec (ws := zWs f) B.pre
  have X : zCx p (headSpec (zWs f) (zRm f)).room s m (as.map (zWv O)).toArray meth c O (zEvOf own f pf pm pk) :=
    ⟨B.exec, B.bytes, hml, B.returns, by rw [← hown]; exact findClass_of_methodNamed B.named, fun w hw => hts w (List.mem_cons_of_mem _ hw), hK, hN, rfl, rfl, by rw [hsz']; exact hsz, hO.1, hO.2, hev⟩
  subst hsz'
  have hlen : (lg_sl (as.map (zWv O))).length ≤ f.2.2.1 := by rw [zlg]; exact hn
  have hl := lv_entry (as.map (zWv O)) (n := f.2.2.1) hlen
  rw [zlvargs] at hl
  rw [lg_entry_eq]
  have hcl : zClosed (zEvOf own f pf pm pk) (zS O) (zR O) K (zGo p e (headSpec (zWs f) (zRm f)).room s m (as.map (zWv O)).toArray below meth c (MQ below (zQ O K s.heap.size) (as.map (zWv O)).toArray s 0 0 (zA O s.heap.size)) O f.2.2.1) :=
    ⟨fun i n pc st lv M' hd hs => zGo_step X hd hs (fun hi => zGo_ret X hlocks hi hd hs), rfl, fun f as M K K' hk h => zR.mono h hk⟩
  exact h _ hcl (fun v hv => by cases hv) (zArgs_ok as has 0) hM s.heap [] _ hP va_S.rf hl
end
