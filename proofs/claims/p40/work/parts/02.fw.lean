/-! ===== an abstract machine over a fixed set of cells: values are (type, Int): 0 int, 1 long, 2 a reference (its number, -1 null, -2 the script) ===== -/
abbrev zV : Type := Nat × Int
abbrev zMem : Type := Int → Int → Int
abbrev zLv : Type := List (Nat × zV)
abbrev zSh : Type := (FieldType × Nat × List (Option Nat)) ⊕ (Nat × List (Option (Option Nat)))
abbrev zEv : Type := String × ByteArray × Nat × Option FieldType × (Nat → Option (Nat × Nat)) × (Nat → Option zMI) × (Nat → Option zV) × Nat × Nat × (Nat → zMR)
abbrev zRnT : Type := zMR → List zV → zMem → (Option zV → zMem → Prop) → Prop
abbrev zOm : Type := Launch × va_G × List vw_C × (FieldType → ClassId) × Nat × Nat × List zSh
def zS (O : zOm) : List zSh := O.2.2.2.2.2.2
def zi (x : Int) : Int32 := Int32.ofInt x
def zl (x : Int) : Int64 := Int64.ofInt x
def zw32 (x : Int) : Int := Int.bmod x 4294967296
def zw64 (x : Int) : Int := Int.bmod x 18446744073709551616
def zand (x y : Int) : Int := (zi x &&& zi y).toInt
def zor (x y : Int) : Int := (zi x ||| zi y).toInt
def zxor (x y : Int) : Int := (zi x ^^^ zi y).toInt
def zshl (x y : Int) : Int := (zi x <<< (zi y &&& 31)).toInt
def zshr (x y : Int) : Int := (zi x >>> (zi y &&& 31)).toInt
def zushr (x y : Int) : Int := ((zi x).toUInt32 >>> ((zi y).toUInt32 &&& Int32.toUInt32 31)).toInt32.toInt
def zi2b (x : Int) : Int := (zi x).toInt8.toInt32.toInt
def zcmp (x y : Int) : Int := if x < y then -1 else if x = y then 0 else 1
def zup (f : Int → Int) (i v : Int) : Int → Int := fun j => if j = i then v else f j
def zput (M : zMem) (a : Int) (f : Int → Int) : zMem := fun b => if b = a then f else M b
def zcpy (f g : Int → Int) (sp dp n : Int) : Int → Int := fun j => if dp ≤ j ∧ j < dp + n then f (sp + (j - dp)) else g j
def zcat (v : zV) : Nat := if v.1 = 1 then 2 else 1
def zcats (st : List zV) : Nat := (st.map zcat).sum
def zin32 (x : Int) : Prop := -2147483648 ≤ x ∧ x < 2147483648
def zin64 (x : Int) : Prop := -9223372036854775808 ≤ x ∧ x < 9223372036854775808
def zok (v : zV) : Prop := match v.1 with
  | 0 => zin32 v.2
  | 1 => zin64 v.2
  | _ => -2 ≤ v.2
def zfit (ty : FieldType) (x : Int) : Prop := match ty with
  | .boolean => x = 0 ∨ x = 1
  | .byte => -128 ≤ x ∧ x < 128
  | .long => zin64 x
  | _ => zin32 x
def zShOk (row : Int → Int) : zSh → Prop
  | .inl (ty, n, _) => ∀ j : Nat, j < n → zfit ty (row j)
  | .inr (_, fks) => ∀ k : Nat, k < fks.length → zin32 (row k)
def zMok (S : List zSh) (M : zMem) : Prop := ∀ (i : Nat) (sh : zSh), S[i]? = some sh → zShOk (M i) sh
/-- a field: none: no such; some none: an int; some (some r): a reference -/
def zFld (S : List zSh) (o : Int) (ci k : Nat) : Option (Option (Option Nat)) :=
  if 0 ≤ o then (match S[o.toNat]? with
    | some (.inr (c, fks)) => if c = ci then fks[k]? else none
    | _ => none) else none
def zArr (S : List zSh) (a : Int) (ty : FieldType) (n : Nat) : Prop := 0 ≤ a ∧ ∃ rs, S[a.toNat]? = some (.inl (ty, n, rs))
def zArrR (S : List zSh) (a : Int) (C : String) (n : Nat) (rs : List (Option Nat)) : Prop := 0 ≤ a ∧ S[a.toNat]? = some (.inl (.object C, n, rs))
def zObj (S : List zSh) (o : Int) (ci : Nat) : Prop := 0 ≤ o ∧ ∃ fks, S[o.toNat]? = some (.inr (ci, fks))
def zrv (r : Option Nat) : zV := (2, match r with
  | none => -1
  | some k => (k : Int))
def zLook (lv : zLv) (k : Nat) : Option zV := (lv.find? (fun q => q.1 == k)).map (·.2)
def zSt1 (lv : zLv) (i : Nat) (v : zV) : zLv := (i, v) :: lv.filter (fun q => !(q.1 == i) && !(q.1 + 1 == i && zcat q.2 == 2))
def zSt2 (lv : zLv) (i : Nat) (v : zV) : zLv := (i, v) :: lv.filter (fun q => !(q.1 == i) && (!(q.1 == i + 1) && !(q.1 + 1 == i && zcat q.2 == 2)))
def zcond (c : Jvm.ClassFile.Cond) (x y : Int) : Prop := match c with
  | .eq => x = y
  | .ne => x ≠ y
  | .lt => x < y
  | .ge => y ≤ x
  | .gt => y < x
  | .le => x ≤ y
/-- one instruction: what must hold here so that the machine comes to a state in G -/
def zStep (ev : zEv) (S : List zSh) (Rn : zRnT) (rt : Option zV → zMem → Prop) (i : Instr) (n pc : Nat) (st : List zV) (lv : zLv) (M : zMem) (G : Nat → List zV → zLv → zMem → Prop) : Prop :=
  match i with
  | .iconst v => n = 1 ∧ (-1 ≤ v ∧ v ≤ 5) ∧ G (pc + 1) ((0, v) :: st) lv M
  | .bipush v => n = 2 ∧ (-128 ≤ v ∧ v ≤ 127) ∧ G (pc + 2) ((0, v) :: st) lv M
  | .sipush v => n = 3 ∧ (-32768 ≤ v ∧ v ≤ 32767) ∧ G (pc + 3) ((0, v) :: st) lv M
  | .lconst v => n = 1 ∧ G (pc + 1) ((1, (v : Nat)) :: st) lv M
  | .aconst_null => n = 1 ∧ G (pc + 1) ((2, -1) :: st) lv M
  | .ldc k => n = 2 ∧ ∃ v, ev.2.2.2.2.2.2.1 k = some (0, v) ∧ zin32 v ∧ G (pc + 2) ((0, v) :: st) lv M
  | .ldc_w k => n = 3 ∧ ∃ v, ev.2.2.2.2.2.2.1 k = some (0, v) ∧ zin32 v ∧ G (pc + 3) ((0, v) :: st) lv M
  | .ldc2_w k => n = 3 ∧ ∃ v, ev.2.2.2.2.2.2.1 k = some (1, v) ∧ zin64 v ∧ G (pc + 3) ((1, v) :: st) lv M
  | .iload k => n = 2 ∧ ∃ x, zLook lv k = some (0, x) ∧ G (pc + 2) ((0, x) :: st) lv M
  | .iload_n k => n = 1 ∧ ∃ x, zLook lv k = some (0, x) ∧ G (pc + 1) ((0, x) :: st) lv M
  | .lload k => n = 2 ∧ ∃ x, zLook lv k = some (1, x) ∧ G (pc + 2) ((1, x) :: st) lv M
  | .lload_n k => n = 1 ∧ ∃ x, zLook lv k = some (1, x) ∧ G (pc + 1) ((1, x) :: st) lv M
  | .aload k => n = 2 ∧ ∃ x, zLook lv k = some (2, x) ∧ G (pc + 2) ((2, x) :: st) lv M
  | .aload_n k => n = 1 ∧ ∃ x, zLook lv k = some (2, x) ∧ G (pc + 1) ((2, x) :: st) lv M
  | .istore k => n = 2 ∧ k < ev.2.2.1 ∧ ∃ x r, st = (0, x) :: r ∧ G (pc + 2) r (zSt1 lv k (0, x)) M
  | .istore_n k => n = 1 ∧ (k : Nat) < ev.2.2.1 ∧ ∃ x r, st = (0, x) :: r ∧ G (pc + 1) r (zSt1 lv k (0, x)) M
  | .lstore k => n = 2 ∧ k + 1 < ev.2.2.1 ∧ ∃ x r, st = (1, x) :: r ∧ G (pc + 2) r (zSt2 lv k (1, x)) M
  | .lstore_n k => n = 1 ∧ (k : Nat) + 1 < ev.2.2.1 ∧ ∃ x r, st = (1, x) :: r ∧ G (pc + 1) r (zSt2 lv k (1, x)) M
  | .astore k => n = 2 ∧ k < ev.2.2.1 ∧ ∃ x r, st = (2, x) :: r ∧ G (pc + 2) r (zSt1 lv k (2, x)) M
  | .astore_n k => n = 1 ∧ (k : Nat) < ev.2.2.1 ∧ ∃ x r, st = (2, x) :: r ∧ G (pc + 1) r (zSt1 lv k (2, x)) M
  | .iinc k d => n = 3 ∧ k < ev.2.2.1 ∧ ∃ x, zLook lv k = some (0, x) ∧ G (pc + 3) st (zSt1 lv k (0, zw32 (x + d))) M
  | .iadd => n = 1 ∧ ∃ x y r, st = (0, y) :: (0, x) :: r ∧ G (pc + 1) ((0, zw32 (x + y)) :: r) lv M
  | .isub => n = 1 ∧ ∃ x y r, st = (0, y) :: (0, x) :: r ∧ G (pc + 1) ((0, zw32 (x - y)) :: r) lv M
  | .imul => n = 1 ∧ ∃ x y r, st = (0, y) :: (0, x) :: r ∧ G (pc + 1) ((0, zw32 (x * y)) :: r) lv M
  | .idiv => n = 1 ∧ ∃ x y r, st = (0, y) :: (0, x) :: r ∧ y ≠ 0 ∧ G (pc + 1) ((0, zw32 (x.tdiv y)) :: r) lv M
  | .irem => n = 1 ∧ ∃ x y r, st = (0, y) :: (0, x) :: r ∧ y ≠ 0 ∧ G (pc + 1) ((0, x.tmod y) :: r) lv M
  | .ineg => n = 1 ∧ ∃ x r, st = (0, x) :: r ∧ G (pc + 1) ((0, zw32 (-x)) :: r) lv M
  | .iand => n = 1 ∧ ∃ x y r, st = (0, y) :: (0, x) :: r ∧ G (pc + 1) ((0, zand x y) :: r) lv M
  | .ior => n = 1 ∧ ∃ x y r, st = (0, y) :: (0, x) :: r ∧ G (pc + 1) ((0, zor x y) :: r) lv M
  | .ixor => n = 1 ∧ ∃ x y r, st = (0, y) :: (0, x) :: r ∧ G (pc + 1) ((0, zxor x y) :: r) lv M
  | .ishl => n = 1 ∧ ∃ x y r, st = (0, y) :: (0, x) :: r ∧ G (pc + 1) ((0, zshl x y) :: r) lv M
  | .ishr => n = 1 ∧ ∃ x y r, st = (0, y) :: (0, x) :: r ∧ G (pc + 1) ((0, zshr x y) :: r) lv M
  | .iushr => n = 1 ∧ ∃ x y r, st = (0, y) :: (0, x) :: r ∧ G (pc + 1) ((0, zushr x y) :: r) lv M
  | .i2l => n = 1 ∧ ∃ x r, st = (0, x) :: r ∧ G (pc + 1) ((1, x) :: r) lv M
  | .l2i => n = 1 ∧ ∃ x r, st = (1, x) :: r ∧ G (pc + 1) ((0, zw32 x) :: r) lv M
  | .i2b => n = 1 ∧ ∃ x r, st = (0, x) :: r ∧ G (pc + 1) ((0, zi2b x) :: r) lv M
  | .ladd => n = 1 ∧ ∃ x y r, st = (1, y) :: (1, x) :: r ∧ G (pc + 1) ((1, zw64 (x + y)) :: r) lv M
  | .lsub => n = 1 ∧ ∃ x y r, st = (1, y) :: (1, x) :: r ∧ G (pc + 1) ((1, zw64 (x - y)) :: r) lv M
  | .lmul => n = 1 ∧ ∃ x y r, st = (1, y) :: (1, x) :: r ∧ G (pc + 1) ((1, zw64 (x * y)) :: r) lv M
  | .lcmp => n = 1 ∧ ∃ x y r, st = (1, y) :: (1, x) :: r ∧ G (pc + 1) ((0, zcmp x y) :: r) lv M
  | .dup => n = 1 ∧ ∃ v r, st = v :: r ∧ zcat v = 1 ∧ G (pc + 1) (v :: v :: r) lv M
  | .dup2 => n = 1 ∧ ∃ v w r, st = v :: w :: r ∧ zcat v = 1 ∧ zcat w = 1 ∧ G (pc + 1) (v :: w :: v :: w :: r) lv M
  | .pop => n = 1 ∧ ∃ v r, st = v :: r ∧ zcat v = 1 ∧ G (pc + 1) r lv M
  | .ifCond c off => n = 3 ∧ ∃ x r t, st = (0, x) :: r ∧ (pc : Int) + off = ((t : Nat) : Int) ∧ (zcond c x 0 → G t r lv M) ∧ (¬ zcond c x 0 → G (pc + 3) r lv M)
  | .if_icmp c off => n = 3 ∧ ∃ x y r t, st = (0, y) :: (0, x) :: r ∧ (pc : Int) + off = ((t : Nat) : Int) ∧ (zcond c x y → G t r lv M) ∧ (¬ zcond c x y → G (pc + 3) r lv M)
  | .ifnull off => n = 3 ∧ ∃ x r t, st = (2, x) :: r ∧ (pc : Int) + off = ((t : Nat) : Int) ∧ (x = -1 → G t r lv M) ∧ (¬ x = -1 → G (pc + 3) r lv M)
  | .ifnonnull off => n = 3 ∧ ∃ x r t, st = (2, x) :: r ∧ (pc : Int) + off = ((t : Nat) : Int) ∧ (¬ x = -1 → G t r lv M) ∧ (x = -1 → G (pc + 3) r lv M)
  | .goto off => n = 3 ∧ ∃ t, (pc : Int) + off = ((t : Nat) : Int) ∧ G t st lv M
  | .tableswitch dflt lo hi offs => ∃ x r, st = (0, x) :: r ∧ ((x < lo ∨ hi < x) → ∃ t, (pc : Int) + dflt = ((t : Nat) : Int) ∧ G t r lv M) ∧ (¬ (x < lo ∨ hi < x) → ∃ off t, offs[(x - lo).toNat]? = some off ∧ (pc : Int) + off = ((t : Nat) : Int) ∧ G t r lv M)
  | .lookupswitch dflt ps => (ps.toList.zip (ps.toList.drop 1)).all (fun (a, next) => a.1 < next.1) = true ∧ ∃ x r t, st = (0, x) :: r ∧ (pc : Int) + Op.lookupswitch.offset ps.toList dflt x = ((t : Nat) : Int) ∧ G t r lv M
  | .getfield k => n = 3 ∧ ∃ o r ci j, st = (2, o) :: r ∧ ev.2.2.2.2.1 k = some (ci, j) ∧ ((zFld S o ci j = some none ∧ G (pc + 3) ((0, M o j) :: r) lv M) ∨ ∃ q, zFld S o ci j = some (some q) ∧ G (pc + 3) (zrv q :: r) lv M)
  | .putfield k => n = 3 ∧ ∃ o x r ci j, st = (0, x) :: (2, o) :: r ∧ ev.2.2.2.2.1 k = some (ci, j) ∧ zFld S o ci j = some none ∧ G (pc + 3) r lv (zput M o (zup (M o) j x))
  | .arraylength => n = 1 ∧ ∃ a r ty k, st = (2, a) :: r ∧ zArr S a ty k ∧ k < 2147483648 ∧ G (pc + 1) ((0, (k : Int)) :: r) lv M
  | .iaload => n = 1 ∧ ∃ j a r k, st = (0, j) :: (2, a) :: r ∧ zArr S a .int k ∧ 0 ≤ j ∧ j < k ∧ G (pc + 1) ((0, M a j) :: r) lv M
  | .baload => n = 1 ∧ ∃ j a r k, st = (0, j) :: (2, a) :: r ∧ (zArr S a .boolean k ∨ zArr S a .byte k) ∧ 0 ≤ j ∧ j < k ∧ G (pc + 1) ((0, M a j) :: r) lv M
  | .laload => n = 1 ∧ ∃ j a r k, st = (0, j) :: (2, a) :: r ∧ zArr S a .long k ∧ 0 ≤ j ∧ j < k ∧ G (pc + 1) ((1, M a j) :: r) lv M
  | .aaload => n = 1 ∧ ∃ j a r C k rs, st = (0, j) :: (2, a) :: r ∧ zArrR S a C k rs ∧ 0 ≤ j ∧ j < k ∧ G (pc + 1) (zrv (rs.getD j.toNat none) :: r) lv M
  | .iastore => n = 1 ∧ ∃ x j a r k, st = (0, x) :: (0, j) :: (2, a) :: r ∧ zArr S a .int k ∧ 0 ≤ j ∧ j < k ∧ G (pc + 1) r lv (zput M a (zup (M a) j x))
  | .bastore => n = 1 ∧ ∃ x j a r k, st = (0, x) :: (0, j) :: (2, a) :: r ∧ ((zArr S a .boolean k ∧ (x = 0 ∨ x = 1)) ∨ (zArr S a .byte k ∧ -128 ≤ x ∧ x < 128)) ∧ 0 ≤ j ∧ j < k ∧ G (pc + 1) r lv (zput M a (zup (M a) j x))
  | .lastore => n = 1 ∧ ∃ x j a r k, st = (1, x) :: (0, j) :: (2, a) :: r ∧ zArr S a .long k ∧ 0 ≤ j ∧ j < k ∧ G (pc + 1) r lv (zput M a (zup (M a) j x))
  | .invokevirtual k => n = 3 ∧ ∃ o as rest f ci na, st = as.reverse ++ (2, o) :: rest ∧ ev.2.2.2.2.2.1 k = some (0, f, ci, na) ∧ as.length = na ∧ zObj S o ci ∧ zcats rest ≤ 8 ∧ (ev.2.2.2.2.2.2.2.2.2 f).2.2.2.2.1 + 1 ≤ ev.2.2.2.2.2.2.2.1 ∧ 8 + ((ev.2.2.2.2.2.2.2.2.2 f).2.2.1 + 11) + (ev.2.2.2.2.2.2.2.2.2 f).2.2.2.2.2 ≤ ev.2.2.2.2.2.2.2.2.1 ∧ Rn (ev.2.2.2.2.2.2.2.2.2 f) ((2, o) :: as) M (fun v M' => G (pc + 3) (v.toList ++ rest) lv M')
  | .invokestatic k => n = 3 ∧ ((∃ as rest kd f ci na, (kd = 1 ∨ kd = 2) ∧ st = as.reverse ++ rest ∧ ev.2.2.2.2.2.1 k = some (kd, f, ci, na) ∧ as.length = na ∧ zcats rest ≤ 8 ∧ (ev.2.2.2.2.2.2.2.2.2 f).2.2.2.2.1 + 1 ≤ ev.2.2.2.2.2.2.2.1 ∧ 8 + ((ev.2.2.2.2.2.2.2.2.2 f).2.2.1 + 11) + (ev.2.2.2.2.2.2.2.2.2 f).2.2.2.2.2 ≤ ev.2.2.2.2.2.2.2.2.1 ∧ Rn (ev.2.2.2.2.2.2.2.2.2 f) as M (fun v M' => G (pc + 3) (v.toList ++ rest) lv M')) ∨
      (∃ a0 sp a1 dp cn rest f ci na k0 k1, st = (0, cn) :: (0, dp) :: (2, a1) :: (0, sp) :: (2, a0) :: rest ∧ ev.2.2.2.2.2.1 k = some (5, f, ci, na) ∧ zArr S a0 .int k0 ∧ zArr S a1 .int k1 ∧ 0 ≤ sp ∧ 0 ≤ dp ∧ 0 ≤ cn ∧ sp + cn ≤ k0 ∧ dp + cn ≤ k1 ∧ 1 ≤ ev.2.2.2.2.2.2.2.1 ∧ zcats rest + (nativeFrameWords "java/lang/System" "arraycopy" 5 + 11) ≤ ev.2.2.2.2.2.2.2.2.1 ∧ G (pc + 3) rest lv (zput M a1 (zcpy (M a0) (M a1) sp dp cn))) ∨
      (∃ x y r mx f ci na, st = (0, y) :: (0, x) :: r ∧ ev.2.2.2.2.2.1 k = some (mx, f, ci, na) ∧ (mx = 3 ∨ mx = 4) ∧ 1 ≤ ev.2.2.2.2.2.2.2.1 ∧ zcats r + 13 ≤ ev.2.2.2.2.2.2.2.2.1 ∧ G (pc + 3) ((0, if mx = 3 then max x y else min x y) :: r) lv M))
  | .ireturn => n = 1 ∧ ∃ x, st = [(0, x)] ∧ ((ev.2.2.2.1 = some .boolean ∧ (x = 0 ∨ x = 1)) ∨ ev.2.2.2.1 = some .int) ∧ rt (some (0, x)) M
  | .lreturn => n = 1 ∧ ∃ x, st = [(1, x)] ∧ ev.2.2.2.1 = some .long ∧ rt (some (1, x)) M
  | .areturn => n = 1 ∧ ∃ x C, st = [(2, x)] ∧ ev.2.2.2.1 = some (.object C) ∧ rt (some (2, x)) M
  | .return_ => n = 1 ∧ st = [] ∧ ev.2.2.2.1 = none ∧ rt none M
  | _ => False
