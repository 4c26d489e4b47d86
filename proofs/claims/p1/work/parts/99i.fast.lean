/-! ===== a quicker run: values by their codes below 2^32, cells in a tree, programs as lists of small functions ===== -/
abbrev zyV : Type := Nat × Nat
def zyTr (α : Type) : Nat → Type
  | 0 => α
  | d + 1 => zyTr α d × zyTr α d
def zyGet {α : Type} : (d : Nat) → zyTr α d → Nat → α
  | 0, t, _ => t
  | d + 1, t, i => match Nat.mod i 2 with
    | 0 => zyGet d t.1 (Nat.div i 2)
    | _ + 1 => zyGet d t.2 (Nat.div i 2)
def zyUpd {α : Type} : (d : Nat) → zyTr α d → Nat → α → zyTr α d
  | 0, _, _, v => v
  | d + 1, t, i, v => match Nat.mod i 2 with
    | 0 => (zyUpd d t.1 (Nat.div i 2) v, t.2)
    | _ + 1 => (t.1, zyUpd d t.2 (Nat.div i 2) v)
def zyMk {α : Type} : (d : Nat) → (Nat → α) → zyTr α d
  | 0, f => f 0
  | d + 1, f => (zyMk d (fun i => f (2 * i)), zyMk d (fun i => f (2 * i + 1)))
abbrev zyT : Type := zyTr Nat 9
abbrev zyS : Type := zyTr (Option zSh) 9
def zyF (r j : Nat) : Nat := Nat.mod (Nat.shiftRight r (Nat.mul 32 j)) 4294967296
def zyW (r j v : Nat) : Nat := Nat.xor r (Nat.shiftLeft (Nat.xor (zyF r j) (Nat.mod v 4294967296)) (Nat.mul 32 j))
def zyNth : List zyV → Nat → zyV
  | [], _ => (9, 0)
  | v :: _, 0 => v
  | _ :: r, k + 1 => zyNth r k
def zySet : List zyV → Nat → zyV → List zyV
  | [], _, _ => []
  | _ :: r, 0, v => v :: r
  | a :: r, k + 1, v => a :: zySet r k v
abbrev zyRs : Type := Option ((Option Nat × List zyV × List zyV × zyT) ⊕ (Option zyV × zyT))
abbrev zyRec : Type := Nat → List zyV → zyT → Option (Option zyV × zyT)
abbrev zyOp : Type := zyS → zyRec → List zyV → List zyV → zyT → zyRs
def zyE (x : Int) : Nat := Int.toNat (Int.emod x 4294967296)
def zyB (x : Nat) : Nat := Nat.mod (Nat.add x 2147483648) 4294967296
def zyQ (x y : Nat) : Bool := Nat.beq (Nat.mod x 4294967296) (Nat.mod y 4294967296)
def zyCmp (c : Jvm.ClassFile.Cond) (x y : Nat) : Bool := match c with
  | .eq => zyQ x y
  | .ne => !(zyQ x y)
  | .lt => !(Nat.ble (zyB y) (zyB x))
  | .ge => Nat.ble (zyB y) (zyB x)
  | .gt => !(Nat.ble (zyB x) (zyB y))
  | .le => Nat.ble (zyB x) (zyB y)
def zy_const (v : Nat) : zyOp := fun _ _ st lv T => some (.inl (none, (0, v) :: st, lv, T))
def zy_null : zyOp := fun _ _ st lv T => some (.inl (none, (2, 4294967295) :: st, lv, T))
def zy_iload (k : Nat) : zyOp := fun _ _ st lv T => match zyNth lv k with
  | (0, x) => some (.inl (none, (0, x) :: st, lv, T))
  | _ => none
def zy_aload (k : Nat) : zyOp := fun _ _ st lv T => match zyNth lv k with
  | (2, x) => some (.inl (none, (2, x) :: st, lv, T))
  | _ => none
def zy_istore (k : Nat) : zyOp := fun _ _ st lv T => match st with
  | (0, x) :: r => some (.inl (none, r, zySet lv k (0, x), T))
  | _ => none
def zy_astore (k : Nat) : zyOp := fun _ _ st lv T => match st with
  | (2, x) :: r => some (.inl (none, r, zySet lv k (2, x), T))
  | _ => none
def zy_iinc (k d : Nat) : zyOp := fun _ _ st lv T => match zyNth lv k with
  | (0, x) => some (.inl (none, st, zySet lv k (0, Nat.mod (Nat.add x d) 4294967296), T))
  | _ => none
def zy_bin (g : Nat → Nat → Nat) : zyOp := fun _ _ st lv T => match st with
  | (0, y) :: (0, x) :: r => some (.inl (none, (0, g x y) :: r, lv, T))
  | _ => none
def zy_binm (g : Nat → Nat → Nat) : zyOp := fun _ _ st lv T => match st with
  | (0, y) :: (0, x) :: r => (match r with
    | _ :: _ :: _ :: _ :: _ :: _ => none
    | _ => some (.inl (none, (0, g x y) :: r, lv, T)))
  | _ => none
def zy_iadd : zyOp := zy_bin (fun x y => Nat.mod (Nat.add x y) 4294967296)
def zy_isub : zyOp := zy_bin (fun x y => Nat.mod (Nat.add x (Nat.sub 4294967296 (Nat.mod y 4294967296))) 4294967296)
def zy_imul : zyOp := zy_bin (fun x y => Nat.mod (Nat.mul x y) 4294967296)
def zy_slow (g : Int → Int → Int) : zyOp := zy_bin (fun x y => zyE (g (zw32 x) (zw32 y)))
def zy_iand : zyOp := zy_slow zand
def zy_ior : zyOp := zy_slow zor
def zy_ixor : zyOp := zy_slow zxor
def zy_ishl : zyOp := zy_slow zshl
def zy_ishr : zyOp := zy_slow zshr
def zy_iushr : zyOp := zy_slow zushr
def zy_max : zyOp := zy_binm (fun x y => zyE (max (zw32 x) (zw32 y)))
def zy_min : zyOp := zy_binm (fun x y => zyE (min (zw32 x) (zw32 y)))
def zy_idiv : zyOp := fun _ _ st lv T => match st with
  | (0, y) :: (0, x) :: r => bif zyQ y 0 then none else some (.inl (none, (0, zyE (zw32 ((zw32 x).tdiv (zw32 y)))) :: r, lv, T))
  | _ => none
def zy_irem : zyOp := fun _ _ st lv T => match st with
  | (0, y) :: (0, x) :: r => bif zyQ y 0 then none else some (.inl (none, (0, zyE ((zw32 x).tmod (zw32 y))) :: r, lv, T))
  | _ => none
def zy_ineg : zyOp := fun _ _ st lv T => match st with
  | (0, x) :: r => some (.inl (none, (0, zyE (zw32 (-(zw32 x)))) :: r, lv, T))
  | _ => none
def zy_dup : zyOp := fun _ _ st lv T => match st with
  | (0, x) :: r => some (.inl (none, (0, x) :: (0, x) :: r, lv, T))
  | (2, x) :: r => some (.inl (none, (2, x) :: (2, x) :: r, lv, T))
  | _ => none
def zy_dup2 : zyOp := fun _ _ st lv T => match st with
  | (0, x) :: (2, y) :: r => some (.inl (none, (0, x) :: (2, y) :: (0, x) :: (2, y) :: r, lv, T))
  | _ => none
def zy_pop : zyOp := fun _ _ st lv T => match st with
  | (0, _) :: r => some (.inl (none, r, lv, T))
  | _ => none
def zy_icmp (c : Jvm.ClassFile.Cond) (t : Nat) : zyOp := fun _ _ st lv T => match st with
  | (0, y) :: (0, x) :: r => some (.inl (bif zyCmp c x y then some t else none, r, lv, T))
  | _ => none
def zy_if (c : Jvm.ClassFile.Cond) (t : Nat) : zyOp := fun _ _ st lv T => match st with
  | (0, x) :: r => some (.inl (bif zyCmp c x 0 then some t else none, r, lv, T))
  | _ => none
def zy_ifnull (t : Nat) : zyOp := fun _ _ st lv T => match st with
  | (2, x) :: r => some (.inl (bif zyQ x 4294967295 then some t else none, r, lv, T))
  | _ => none
def zy_ifnonnull (t : Nat) : zyOp := fun _ _ st lv T => match st with
  | (2, x) :: r => some (.inl (bif zyQ x 4294967295 then none else some t, r, lv, T))
  | _ => none
def zy_goto (t : Nat) : zyOp := fun _ _ st lv T => some (.inl (some t, st, lv, T))
def zyObj (S : zyS) (o ci : Nat) : Option (List (Option (Option Nat))) := bif Nat.ble 512 o then none else (match zyGet 9 S o with
  | some (.inr (c, fks)) => bif Nat.beq c ci then some fks else none
  | _ => none)
def zyFk : List (Option (Option Nat)) → Nat → Option (Option (Option Nat))
  | [], _ => none
  | v :: _, 0 => some v
  | _ :: r, k + 1 => zyFk r k
def zyRv (q : Option Nat) : zyV := match q with
  | none => (2, 4294967295)
  | some k => (2, k)
def zy_getint (ci j : Nat) : zyOp := fun S _ st lv T => match st with
  | (2, o) :: r => (match zyObj S o ci with
    | some fks => (match zyFk fks j with
      | some none => some (.inl (none, (0, zyF (zyGet 9 T o) j) :: r, lv, T))
      | _ => none)
    | none => none)
  | _ => none
def zy_getref (ci j : Nat) : zyOp := fun S _ st lv T => match st with
  | (2, o) :: r => (match zyObj S o ci with
    | some fks => (match zyFk fks j with
      | some (some (some q)) => bif Nat.ble 512 q then none else some (.inl (none, (2, q) :: r, lv, T))
      | _ => none)
    | none => none)
  | _ => none
def zyPut (T : zyT) (a j x : Nat) : zyT := zyUpd 9 T a (zyW (zyGet 9 T a) j x)
def zy_put (ci j : Nat) : zyOp := fun S _ st lv T => match st with
  | (0, x) :: (2, o) :: r => (match zyObj S o ci with
    | some fks => (match zyFk fks j with
      | some none => some (.inl (none, r, lv, zyPut T o j x))
      | _ => none)
    | none => none)
  | _ => none
def zyArr (S : zyS) (a : Nat) : Option (FieldType × Nat × List (Option Nat)) := bif Nat.ble 512 a then none else (match zyGet 9 S a with
  | some (.inl q) => some q
  | _ => none)
def zyIn (j k : Nat) : Bool := Nat.ble (Nat.succ j) k && Nat.ble k 4096
def zy_arraylength : zyOp := fun S _ st lv T => match st with
  | (2, a) :: r => (match zyArr S a with
    | some (_, k, _) => bif Nat.ble k 4096 then some (.inl (none, (0, k) :: r, lv, T)) else none
    | none => none)
  | _ => none
def zy_iaload : zyOp := fun S _ st lv T => match st with
  | (0, j) :: (2, a) :: r => (match zyArr S a with
    | some (.int, k, _) => bif zyIn j k then some (.inl (none, (0, zyF (zyGet 9 T a) j) :: r, lv, T)) else none
    | _ => none)
  | _ => none
def zy_baload : zyOp := fun S _ st lv T => match st with
  | (0, j) :: (2, a) :: r => (match zyArr S a with
    | some (.boolean, k, _) => bif zyIn j k then some (.inl (none, (0, zyF (zyGet 9 T a) j) :: r, lv, T)) else none
    | _ => none)
  | _ => none
def zy_aaload : zyOp := fun S _ st lv T => match st with
  | (0, j) :: (2, a) :: r => (match zyArr S a with
    | some (.object _, k, rs) => bif zyIn j k then (match zyFk (rs.map some) j with
      | some (some (some q)) => bif Nat.ble 512 q then none else some (.inl (none, (2, q) :: r, lv, T))
      | _ => none) else none
    | _ => none)
  | _ => none
def zy_iastore : zyOp := fun S _ st lv T => match st with
  | (0, x) :: (0, j) :: (2, a) :: r => (match zyArr S a with
    | some (.int, k, _) => bif zyIn j k then some (.inl (none, r, lv, zyPut T a j x)) else none
    | _ => none)
  | _ => none
def zy_bastore : zyOp := fun S _ st lv T => match st with
  | (0, x) :: (0, j) :: (2, a) :: r => (match zyArr S a with
    | some (.boolean, k, _) => bif zyIn j k && Nat.ble x 1 then some (.inl (none, r, lv, zyPut T a j x)) else none
    | _ => none)
  | _ => none
def zyCp (r g sp dp : Nat) : Nat → Nat
  | 0 => g
  | c + 1 => zyW (zyCp r g sp dp c) (Nat.add dp c) (zyF r (Nat.add sp c))
def zy_acopy : zyOp := fun S _ st lv T => match st with
  | (0, cn) :: (0, dp) :: (2, a1) :: (0, sp) :: (2, a0) :: rest => (match rest with
    | _ :: _ :: _ :: _ :: _ :: _ => none
    | _ => (match zyArr S a0 with
      | some (.int, k0, _) => (match zyArr S a1 with
        | some (.int, k1, _) => bif (Nat.ble (Nat.add sp cn) k0 && Nat.ble k0 4096) && (Nat.ble (Nat.add dp cn) k1 && Nat.ble k1 4096) then some (.inl (none, rest, lv, zyUpd 9 T a1 (zyCp (zyGet 9 T a0) (zyGet 9 T a1) sp dp cn))) else none
        | _ => none)
      | _ => none))
  | _ => none
def zyCall (rec : zyRec) (f : Nat) (as rest lv : List zyV) (T : zyT) : zyRs := match rest with
  | _ :: _ :: _ :: _ :: _ :: _ => none
  | _ => (match rec f as T with
    | some (none, T') => some (.inl (none, rest, lv, T'))
    | some (some v, T') => some (.inl (none, v :: rest, lv, T'))
    | none => none)
def zy_callv (f ci na : Nat) : zyOp := fun S rec st lv T => match st.drop na with
  | (2, o) :: rest => (match zyObj S o ci with
    | some _ => bif Nat.beq (st.take na).length na then zyCall rec f ((2, o) :: (st.take na).reverse) rest lv T else none
    | none => none)
  | _ => none
def zy_calls (f na : Nat) : zyOp := fun _ rec st lv T => bif Nat.beq (st.take na).length na then zyCall rec f (st.take na).reverse (st.drop na) lv T else none
def zy_ireturn : zyOp := fun _ _ st _ T => match st with
  | [(0, x)] => some (.inr (some (0, x), T))
  | _ => none
def zy_breturn : zyOp := fun _ _ st _ T => match st with
  | [(0, x)] => bif Nat.ble x 1 then some (.inr (some (0, x), T)) else none
  | _ => none
def zy_areturn : zyOp := fun _ _ st _ T => match st with
  | [(2, x)] => some (.inr (some (2, x), T))
  | _ => none
def zy_return : zyOp := fun _ _ st _ T => match st with
  | [] => some (.inr (none, T))
  | _ => none
def zy_fall (t : Nat) : zyOp := fun _ _ st lv T => some (.inl (some t, st, lv, T))
def zyTs : List Nat → Nat → Nat → Nat
  | [], _, d => d
  | t :: _, 0, _ => t
  | _ :: r, k + 1, d => zyTs r k d
def zy_tsw (d lo : Nat) (ts : List Nat) : zyOp := fun _ _ st lv T => match st with
  | (0, x) :: r => some (.inl (some (bif Nat.ble lo (Nat.mod x 4294967296) then zyTs ts (Nat.sub (Nat.mod x 4294967296) lo) d else d), r, lv, T))
  | _ => none
/-! ===== what these stand for ===== -/
def zyD (v : zyV) : zV := (v.1, zw32 v.2)
def zyM (T : zyT) : zMem := fun a j => if (0 ≤ a ∧ a < 512) ∧ 0 ≤ j then zw32 (zyF (zyGet 9 T a.toNat) j.toNat) else 0
theorem zyGet_s {α : Type} (d : Nat) (t : zyTr α (d + 1)) (k : Nat) : zyGet (d + 1) t k = if k % 2 = 0 then zyGet d t.1 (k / 2) else zyGet d t.2 (k / 2) := by
  have ek : Nat.mod k 2 = k % 2 := rfl
  show (match Nat.mod k 2 with
    | 0 => zyGet d t.1 (Nat.div k 2)
    | _ + 1 => zyGet d t.2 (Nat.div k 2)) = _
  split
  next h => rw [if_pos (by omega)]; rfl
  next m h => rw [if_neg (by omega)]; rfl
theorem zyUpd_s {α : Type} (d : Nat) (t : zyTr α (d + 1)) (k : Nat) (v : α) : zyUpd (d + 1) t k v = if k % 2 = 0 then (zyUpd d t.1 (k / 2) v, t.2) else (t.1, zyUpd d t.2 (k / 2) v) := by
  have ek : Nat.mod k 2 = k % 2 := rfl
  show (match Nat.mod k 2 with
    | 0 => (zyUpd d t.1 (Nat.div k 2) v, t.2)
    | _ + 1 => (t.1, zyUpd d t.2 (Nat.div k 2) v)) = _
  split
  next h => rw [if_pos (by omega)]; rfl
  next m h => rw [if_neg (by omega)]; rfl
theorem zyGet_upd {α : Type} : ∀ (d : Nat) (t : zyTr α d) (i k : Nat) (v : α), i < 2 ^ d → k < 2 ^ d → zyGet d (zyUpd d t i v) k = if k = i then v else zyGet d t k := by
  intro d
  induction d with
  | zero =>
    intro t i k v hi hk
    have h1 : i = 0 := by simpa using hi
    have h2 : k = 0 := by simpa using hk
    subst h1; subst h2
    rfl
  | succ d ih =>
    intro t i k v hi hk
    have hi2 : i / 2 < 2 ^ d := by rw [Nat.pow_succ] at hi; omega
    have hk2 : k / 2 < 2 ^ d := by rw [Nat.pow_succ] at hk; omega
    rw [zyGet_s d (zyUpd (d + 1) t i v) k, zyGet_s d t k, zyUpd_s]
    by_cases hx : i % 2 = 0
    · rw [if_pos hx]
      by_cases hy : k % 2 = 0
      · rw [if_pos hy, if_pos hy]
        show zyGet d (zyUpd d t.1 (i / 2) v) (k / 2) = _
        rw [ih _ _ _ _ hi2 hk2]
        by_cases h : k = i
        · subst h; rw [if_pos rfl, if_pos rfl]
        · rw [if_neg h, if_neg (by omega)]
      · rw [if_neg hy, if_neg hy, if_neg (by omega)]
    · rw [if_neg hx]
      by_cases hy : k % 2 = 0
      · rw [if_pos hy, if_pos hy, if_neg (by omega)]
      · rw [if_neg hy, if_neg hy]
        show zyGet d (zyUpd d t.2 (i / 2) v) (k / 2) = _
        rw [ih _ _ _ _ hi2 hk2]
        by_cases h : k = i
        · subst h; rw [if_pos rfl, if_pos rfl]
        · rw [if_neg h, if_neg (by omega)]
theorem zyF_bit (r j k : Nat) : (zyF r j).testBit k = (decide (k < 32) && r.testBit (32 * j + k)) := by
  show ((r >>> (32 * j)) % 2 ^ 32).testBit k = _
  rw [Nat.testBit_mod_two_pow, Nat.testBit_shiftRight]
theorem zyF_W (r j v i : Nat) : zyF (zyW r j v) i = if i = j then v % 4294967296 else zyF r i := by
  refine Nat.eq_of_testBit_eq fun k => ?_
  rw [zyF_bit]
  have hw : (zyW r j v).testBit (32 * i + k) = (r.testBit (32 * i + k) ^^ (decide (32 * j ≤ 32 * i + k) && (Nat.xor (zyF r j) (v % 4294967296)).testBit (32 * i + k - 32 * j))) := by
    show (r ^^^ ((Nat.xor (zyF r j) (v % 4294967296)) <<< (32 * j))).testBit _ = _
    rw [Nat.testBit_xor, Nat.testBit_shiftLeft]
  have hx : ∀ m, (Nat.xor (zyF r j) (v % 4294967296)).testBit m = ((decide (m < 32) && r.testBit (32 * j + m)) ^^ (decide (m < 32) && v.testBit m)) := by
    intro m
    show ((zyF r j) ^^^ (v % 2 ^ 32)).testBit m = _
    rw [Nat.testBit_xor, zyF_bit, Nat.testBit_mod_two_pow]
  rw [hw, hx]
  by_cases hk : k < 32
  · by_cases h : i = j
    · subst h
      rw [if_pos rfl, show 32 * i + k - 32 * i = k by omega]
      show _ = (v % 2 ^ 32).testBit k
      rw [Nat.testBit_mod_two_pow]
      simp [hk]
    · rw [if_neg h, zyF_bit]
      by_cases h1 : 32 * j ≤ 32 * i + k
      · have h2 : ¬ 32 * i + k - 32 * j < 32 := by omega
        simp [hk, h2]
      · simp [hk, h1]
  · have e1 : (if i = j then v % 4294967296 else zyF r i).testBit k = false := by
      split
      · show (v % 2 ^ 32).testBit k = false
        rw [Nat.testBit_mod_two_pow]; simp [hk]
      · rw [zyF_bit]; simp [hk]
    rw [e1]; simp [hk]
theorem zw32_mod (x : Nat) : zw32 ((x % 4294967296 : Nat) : Int) = zw32 (x : Int) := by
  unfold zw32
  rw [Int.natCast_emod]
  exact Int.emod_bmod ..
theorem zw32_nat {x : Nat} (h : x < 2147483648) : zw32 (x : Int) = x := zw32_id (by unfold zin32; omega)
theorem zw32_zyE {x : Int} (h : zin32 x) : zw32 (zyE x : Int) = x := by
  have h1 : ((zyE x : Nat) : Int) = x % 4294967296 := by
    unfold zyE
    exact Int.toNat_of_nonneg (Int.emod_nonneg _ (by decide))
  rw [h1]
  have h2 : zw32 (x % 4294967296) = zw32 x := Int.emod_bmod ..
  rw [h2]
  exact zw32_id h
theorem zyB_eq (x : Nat) : (zyB x : Int) = zw32 x + 2147483648 := by
  unfold zyB zw32
  show (((x + 2147483648) % 4294967296 : Nat) : Int) = _
  rw [Int.bmod_def]
  split <;> omega
theorem zyQ_eq (x y : Nat) : zyQ x y = true ↔ zw32 (x : Int) = zw32 (y : Int) := by
  have hx := zyB_eq x
  have hy := zyB_eq y
  unfold zyB at hx hy
  have hx' : (((x + 2147483648) % 4294967296 : Nat) : Int) = zw32 x + 2147483648 := hx
  have hy' : (((y + 2147483648) % 4294967296 : Nat) : Int) = zw32 y + 2147483648 := hy
  unfold zyQ
  show Nat.beq (x % 4294967296) (y % 4294967296) = true ↔ _
  rw [Nat.beq_eq]
  omega
theorem zyB_le (x y : Nat) : Nat.ble (zyB x) (zyB y) = true ↔ zw32 (x : Int) ≤ zw32 (y : Int) := by
  have hx := zyB_eq x
  have hy := zyB_eq y
  rw [Nat.ble_eq]
  omega
theorem zyCmp_eq (c : Jvm.ClassFile.Cond) (x y : Nat) : zyCmp c x y = true ↔ zcond c (zw32 (x : Int)) (zw32 (y : Int)) := by
  cases c
  · exact zyQ_eq x y
  · show (!(zyQ x y)) = true ↔ ¬ _
    rw [← zyQ_eq]; cases zyQ x y <;> simp
  · show (!(Nat.ble (zyB y) (zyB x))) = true ↔ _
    have := zyB_le y x
    show _ ↔ zw32 (x : Int) < zw32 (y : Int)
    cases h : Nat.ble (zyB y) (zyB x)
    · rw [h] at this; simp at this ⊢; omega
    · rw [h] at this; simp at this ⊢; omega
  · exact zyB_le y x
  · show (!(Nat.ble (zyB x) (zyB y))) = true ↔ _
    have := zyB_le x y
    show _ ↔ zw32 (x : Int) > zw32 (y : Int)
    cases h : Nat.ble (zyB x) (zyB y)
    · rw [h] at this; simp at this ⊢; omega
    · rw [h] at this; simp at this ⊢; omega
  · exact zyB_le x y
theorem zyM_at {T : zyT} {a j : Nat} (ha : a < 512) : zyM T (a : Int) (j : Int) = zw32 (zyF (zyGet 9 T a) j) := by
  unfold zyM
  rw [if_pos (by omega)]
  rfl
theorem zyM_upd {T : zyT} {a r : Nat} (ha : a < 512) : zyM (zyUpd 9 T a r) = zput (zyM T) (a : Int) (fun j => if 0 ≤ j then zw32 (zyF r j.toNat) else 0) := by
  funext b j
  unfold zyM zput
  by_cases hb : b = (a : Int)
  · subst hb
    rw [if_pos rfl]
    by_cases hj : 0 ≤ j
    · rw [if_pos (by omega), if_pos hj, zyGet_upd 9 T a _ r ha (by show _ < 512; omega), if_pos (by omega)]
    · rw [if_neg (by omega), if_neg hj]
  · rw [if_neg hb]
    show _ = if (0 ≤ b ∧ b < 512) ∧ 0 ≤ j then _ else _
    by_cases h : (0 ≤ b ∧ b < 512) ∧ 0 ≤ j
    · rw [if_pos h, if_pos h, zyGet_upd 9 T a _ r ha (by show _ < 512; omega), if_neg (by omega)]
    · rw [if_neg h, if_neg h]
theorem zyPut_M {T : zyT} {a j x : Nat} (ha : a < 512) : zyM (zyPut T a j x) = zput (zyM T) (a : Int) (zup (zyM T (a : Int)) (j : Int) (zw32 (x : Int))) := by
  unfold zyPut
  rw [zyM_upd ha]
  congr 1
  funext k
  unfold zup
  by_cases hk : k = (j : Int)
  · subst hk
    rw [if_pos rfl, if_pos (by omega), zyF_W, if_pos (by omega), zw32_mod]
  · rw [if_neg hk]
    by_cases h0 : 0 ≤ k
    · rw [if_pos h0, zyF_W, if_neg (by omega)]
      unfold zyM
      rw [if_pos (by omega)]
      rfl
    · rw [if_neg h0]
      unfold zyM
      rw [if_neg (by omega)]
theorem zyCp_F (r g sp dp : Nat) : ∀ c i, zyF (zyCp r g sp dp c) i = if dp ≤ i ∧ i < dp + c then zyF r (sp + (i - dp)) else zyF g i := by
  intro c
  induction c with
  | zero => intro i; rw [if_neg (by omega)]; rfl
  | succ c ih =>
    intro i
    show zyF (zyW (zyCp r g sp dp c) (dp + c) (zyF r (sp + c))) i = _
    rw [zyF_W]
    by_cases h : i = dp + c
    · subst h
      rw [if_pos rfl, if_pos (by omega), show sp + (dp + c - dp) = sp + c by omega]
      exact Nat.mod_eq_of_lt (Nat.mod_lt _ (by decide))
    · rw [if_neg h, ih]
      by_cases h1 : dp ≤ i ∧ i < dp + c
      · rw [if_pos h1, if_pos (by omega)]
      · rw [if_neg h1, if_neg (by omega)]
def zyRel (L : List zyV) (lv : zLv) : Prop := ∀ k, (zyNth L k).1 = 0 ∨ (zyNth L k).1 = 2 → zLook lv k = some (zyD (zyNth L k))
theorem zyNth_set (v : zyV) : ∀ (L : List zyV) (k j : Nat), zyNth (zySet L k v) j = if j = k ∧ k < L.length then v else zyNth L j := by
  intro L
  induction L with
  | nil => intro k j; rw [if_neg (by intro q; exact absurd q.2 (by simp))]; rfl
  | cons a r ih =>
    intro k j
    cases k with
    | zero =>
      cases j with
      | zero => rw [if_pos ⟨rfl, by simp⟩]; rfl
      | succ j => rw [if_neg (by omega)]; rfl
    | succ k =>
      cases j with
      | zero => rw [if_neg (by omega)]; rfl
      | succ j =>
        show zyNth (zySet r k v) j = if _ then v else zyNth r j
        rw [ih]
        by_cases h : j = k ∧ k < r.length
        · rw [if_pos h, if_pos (by rw [List.length_cons]; omega)]
        · rw [if_neg h, if_neg (by rw [List.length_cons]; omega)]
theorem zyNth_none (L : List zyV) : ∀ k, L.length ≤ k → zyNth L k = (9, 0) := by
  induction L with
  | nil => intro k _; rfl
  | cons a r ih =>
    intro k h
    cases k with
    | zero => simp at h
    | succ k => exact ih k (by simpa using h)
theorem zLook_st1 {lv : zLv} {k j : Nat} {v w : zV} (h : zLook lv j = some w) (hj : ¬ j = k) (hw : ¬ w.1 = 1) : zLook (zSt1 lv k v) j = some w := by
  unfold zLook at h ⊢
  unfold zSt1
  have e1 : (k == j) = false := by simp; omega
  rw [List.find?_cons]
  dsimp only
  rw [e1]
  dsimp only
  induction lv with
  | nil => cases h
  | cons q r ih =>
    rw [List.find?_cons] at h
    by_cases hq : q.1 = j
    · have e2 : (q.1 == j) = true := by simp [hq]
      rw [e2] at h
      dsimp only at h
      have e3 : q.2 = w := by simpa using h
      have e4 : (!(q.1 == k) && !(q.1 + 1 == k && zcat q.2 == 2)) = true := by
        have : (q.1 == k) = false := by simp; omega
        rw [this]
        have h5 : (zcat q.2 == 2) = false := by unfold zcat; rw [e3, if_neg hw]; rfl
        rw [h5]; simp
      rw [List.filter_cons, if_pos e4, List.find?_cons, e2]
      dsimp only
      rw [Option.map_some, e3]
    · have e2 : (q.1 == j) = false := by simp [hq]
      rw [e2] at h
      dsimp only at h
      rw [List.filter_cons]
      split
      · rw [List.find?_cons, e2]; exact ih h
      · exact ih h
theorem zLook_st1k {lv : zLv} {k : Nat} {v : zV} : zLook (zSt1 lv k v) k = some v := by
  unfold zLook zSt1
  rw [List.find?_cons]
  simp
theorem zyRel_set {L : List zyV} {lv : zLv} {k : Nat} {v : zyV} (h : zyRel L lv) : zyRel (zySet L k v) (zSt1 lv k (zyD v)) := by
  intro j hj
  rw [zyNth_set] at hj ⊢
  by_cases hk : j = k ∧ k < L.length
  · rw [if_pos hk, hk.1]; exact zLook_st1k
  · rw [if_neg hk] at hj ⊢
    by_cases hjk : j = k
    · subst hjk
      rw [zyNth_none L j (by omega)] at hj
      rcases hj with hj | hj <;> cases hj
    · refine zLook_st1 (h j hj) hjk ?_
      show ¬ (zyNth L j).1 = 1
      omega
/-! ===== each small function is right for its instruction ===== -/
abbrev zyChk : Type := zEv → Nat → Instr → Nat → Bool
def zyShOk (SH : zyS) (S : List zSh) : Prop := ∀ i, i < 512 → ∀ sh, zyGet 9 SH i = some sh → S[i]? = some sh
def zyRecOk (ev : zEv) (Rn : zRnT) (rec : zyRec) : Prop := ∀ f as T v T', rec f as T = some (v, T') → ∀ K : Option zV → zMem → Prop, K (v.map zyD) (zyM T') → Rn (ev.2.2.2.2.2.2.2.2.2 f) (as.map zyD) (zyM T) K
def zyOut (ev : zEv) (S : List zSh) (Rn : zRnT) (rt : Option zV → zMem → Prop) (G : Nat → List zV → zLv → zMem → Prop) (i : Instr) (n pc : Nat) (st : List zyV) (lv : zLv) (T : zyT) (r : (Option Nat × List zyV × List zyV × zyT) ⊕ (Option zyV × zyT)) : Prop := match r with
  | .inl q => ∃ lv', zyRel q.2.2.1 lv' ∧ (G (q.1.getD (pc + n)) (q.2.1.map zyD) lv' (zyM q.2.2.2) → zStep ev S Rn rt i n pc (st.map zyD) lv (zyM T) G)
  | .inr q => rt (q.1.map zyD) (zyM q.2) → zStep ev S Rn rt i n pc (st.map zyD) lv (zyM T) G
def zyOk (op : zyOp) (chk : zyChk) : Prop := ∀ (ev : zEv) (S : List zSh) (SH : zyS) (Rn : zRnT) (rt : Option zV → zMem → Prop) (G : Nat → List zV → zLv → zMem → Prop) (rec : zyRec) (i : Instr) (n pc : Nat), zyShOk SH S → zyRecOk ev Rn rec → chk ev pc i n = true → ∀ st L T r lv, zyRel L lv → op SH rec st L T = some r → zyOut ev S Rn rt G i n pc st lv T r
def c_const (v : Nat) : zyChk := fun ev _ i n => match i with
  | .iconst w => decide ((n = 1 ∧ (-1 ≤ w ∧ w ≤ 5)) ∧ zyE w = v)
  | .bipush w => decide ((n = 2 ∧ (-128 ≤ w ∧ w ≤ 127)) ∧ zyE w = v)
  | .sipush w => decide ((n = 3 ∧ (-32768 ≤ w ∧ w ≤ 32767)) ∧ zyE w = v)
  | .ldc k => match ev.2.2.2.2.2.2.1 k with
    | some (0, w) => decide ((n = 2 ∧ (-2147483648 ≤ w ∧ w < 2147483648)) ∧ zyE w = v)
    | _ => false
  | .ldc_w k => match ev.2.2.2.2.2.2.1 k with
    | some (0, w) => decide ((n = 3 ∧ (-2147483648 ≤ w ∧ w < 2147483648)) ∧ zyE w = v)
    | _ => false
  | _ => false
theorem ok_const (v : Nat) : zyOk (zy_const v) (c_const v) := by
  intro ev S SH Rn rt G rec i n pc hS hR hc st L T r lv hL h
  cases h
  unfold c_const at hc
  split at hc
  next w =>
    obtain ⟨⟨h1, h2⟩, rfl⟩ := of_decide_eq_true hc
    refine ⟨lv, hL, fun g => ⟨h1, h2, ?_⟩⟩
    subst h1
    have : zyD (0, zyE w) = (0, w) := by unfold zyD; rw [zw32_zyE (by unfold zin32; omega)]
    rw [← this]
    exact g
  next w =>
    obtain ⟨⟨h1, h2⟩, rfl⟩ := of_decide_eq_true hc
    refine ⟨lv, hL, fun g => ⟨h1, h2, ?_⟩⟩
    subst h1
    have : zyD (0, zyE w) = (0, w) := by unfold zyD; rw [zw32_zyE (by unfold zin32; omega)]
    rw [← this]
    exact g
  next w =>
    obtain ⟨⟨h1, h2⟩, rfl⟩ := of_decide_eq_true hc
    refine ⟨lv, hL, fun g => ⟨h1, h2, ?_⟩⟩
    subst h1
    have : zyD (0, zyE w) = (0, w) := by unfold zyD; rw [zw32_zyE (by unfold zin32; omega)]
    rw [← this]
    exact g
  next k =>
    split at hc
    next w e =>
      obtain ⟨⟨h1, h2⟩, rfl⟩ := of_decide_eq_true hc
      refine ⟨lv, hL, fun g => ⟨h1, w, e, h2, ?_⟩⟩
      subst h1
      have : zyD (0, zyE w) = (0, w) := by unfold zyD; rw [zw32_zyE h2]
      rw [← this]
      exact g
    next => cases hc
  next k =>
    split at hc
    next w e =>
      obtain ⟨⟨h1, h2⟩, rfl⟩ := of_decide_eq_true hc
      refine ⟨lv, hL, fun g => ⟨h1, w, e, h2, ?_⟩⟩
      subst h1
      have : zyD (0, zyE w) = (0, w) := by unfold zyD; rw [zw32_zyE h2]
      rw [← this]
      exact g
    next => cases hc
  next => cases hc
def c_null : zyChk := fun _ _ i n => match i with
  | .aconst_null => decide (n = 1)
  | _ => false
theorem zyD_null : zyD (2, 4294967295) = (2, -1) := rfl
theorem ok_null : zyOk zy_null c_null := by
  intro ev S SH Rn rt G rec i n pc hS hR hc st L T r lv hL h
  cases h
  unfold c_null at hc
  split at hc
  · have h1 := of_decide_eq_true hc
    subst h1
    exact ⟨lv, hL, fun g => ⟨rfl, g⟩⟩
  · cases hc
def c_iload (k : Nat) : zyChk := fun _ _ i n => match i with
  | .iload j => decide (n = 2 ∧ j = k)
  | .iload_n j => decide (n = 1 ∧ (j : Nat) = k)
  | _ => false
theorem ok_iload (k : Nat) : zyOk (zy_iload k) (c_iload k) := by
  intro ev S SH Rn rt G rec i n pc hS hR hc st L T r lv hL h
  unfold zy_iload at h
  split at h
  next x e =>
    cases h
    have h1 := hL k (by rw [e]; exact Or.inl rfl)
    rw [e] at h1
    unfold c_iload at hc
    split at hc
    · obtain ⟨rfl, rfl⟩ := of_decide_eq_true hc; exact ⟨lv, hL, fun g => ⟨rfl, _, h1, g⟩⟩
    · obtain ⟨rfl, rfl⟩ := of_decide_eq_true hc; exact ⟨lv, hL, fun g => ⟨rfl, _, h1, g⟩⟩
    · cases hc
  next => cases h
def c_aload (k : Nat) : zyChk := fun _ _ i n => match i with
  | .aload j => decide (n = 2 ∧ j = k)
  | .aload_n j => decide (n = 1 ∧ (j : Nat) = k)
  | _ => false
theorem ok_aload (k : Nat) : zyOk (zy_aload k) (c_aload k) := by
  intro ev S SH Rn rt G rec i n pc hS hR hc st L T r lv hL h
  unfold zy_aload at h
  split at h
  next x e =>
    cases h
    have h1 := hL k (by rw [e]; exact Or.inr rfl)
    rw [e] at h1
    unfold c_aload at hc
    split at hc
    · obtain ⟨rfl, rfl⟩ := of_decide_eq_true hc; exact ⟨lv, hL, fun g => ⟨rfl, _, h1, g⟩⟩
    · obtain ⟨rfl, rfl⟩ := of_decide_eq_true hc; exact ⟨lv, hL, fun g => ⟨rfl, _, h1, g⟩⟩
    · cases hc
  next => cases h
def c_istore (k : Nat) : zyChk := fun ev _ i n => match i with
  | .istore j => decide ((n = 2 ∧ j < ev.2.2.1) ∧ j = k)
  | .istore_n j => decide ((n = 1 ∧ (j : Nat) < ev.2.2.1) ∧ (j : Nat) = k)
  | _ => false
theorem ok_istore (k : Nat) : zyOk (zy_istore k) (c_istore k) := by
  intro ev S SH Rn rt G rec i n pc hS hR hc st L T r lv hL h
  unfold zy_istore at h
  split at h
  next x rest =>
    cases h
    unfold c_istore at hc
    split at hc
    · obtain ⟨⟨rfl, h2⟩, rfl⟩ := of_decide_eq_true hc; exact ⟨_, zyRel_set hL, fun g => ⟨rfl, h2, _, _, rfl, g⟩⟩
    · obtain ⟨⟨rfl, h2⟩, rfl⟩ := of_decide_eq_true hc; exact ⟨_, zyRel_set hL, fun g => ⟨rfl, h2, _, _, rfl, g⟩⟩
    · cases hc
  next => cases h
def c_astore (k : Nat) : zyChk := fun ev _ i n => match i with
  | .astore j => decide ((n = 2 ∧ j < ev.2.2.1) ∧ j = k)
  | .astore_n j => decide ((n = 1 ∧ (j : Nat) < ev.2.2.1) ∧ (j : Nat) = k)
  | _ => false
theorem ok_astore (k : Nat) : zyOk (zy_astore k) (c_astore k) := by
  intro ev S SH Rn rt G rec i n pc hS hR hc st L T r lv hL h
  unfold zy_astore at h
  split at h
  next x rest =>
    cases h
    unfold c_astore at hc
    split at hc
    · obtain ⟨⟨rfl, h2⟩, rfl⟩ := of_decide_eq_true hc; exact ⟨_, zyRel_set hL, fun g => ⟨rfl, h2, _, _, rfl, g⟩⟩
    · obtain ⟨⟨rfl, h2⟩, rfl⟩ := of_decide_eq_true hc; exact ⟨_, zyRel_set hL, fun g => ⟨rfl, h2, _, _, rfl, g⟩⟩
    · cases hc
  next => cases h
theorem zyD_add (t x d : Nat) (w : Int) (hd : zw32 (d : Int) = zw32 w) : zyD (t, Nat.mod (Nat.add x d) 4294967296) = (t, zw32 (zw32 (x : Int) + w)) := by
  unfold zyD
  show (t, zw32 (((x + d) % 4294967296 : Nat) : Int)) = _
  rw [zw32_mod, Int.natCast_add]
  unfold zw32 at hd ⊢
  rw [Int.bmod_add_bmod, ← Int.add_bmod_bmod (y := (d : Int)), hd, Int.add_bmod_bmod]
def c_iinc (k d : Nat) : zyChk := fun ev _ i n => match i with
  | .iinc j w => decide ((n = 3 ∧ j < ev.2.2.1) ∧ j = k ∧ zw32 (d : Int) = zw32 w)
  | _ => false
theorem ok_iinc (k d : Nat) : zyOk (zy_iinc k d) (c_iinc k d) := by
  intro ev S SH Rn rt G rec i n pc hS hR hc st L T r lv hL h
  unfold zy_iinc at h
  split at h
  next x e =>
    cases h
    have h1 := hL k (by rw [e]; exact Or.inl rfl)
    rw [e] at h1
    unfold c_iinc at hc
    split at hc
    · obtain ⟨⟨rfl, h2⟩, rfl, h3⟩ := of_decide_eq_true hc
      refine ⟨_, zyRel_set hL, fun g => ⟨rfl, h2, _, h1, ?_⟩⟩
      rw [zyD_add 0 x d _ h3] at g
      exact g
    · cases hc
  next => cases h
theorem zcats_le (r : List zV) : zcats r ≤ 2 * r.length := by
  induction r with
  | nil => exact Nat.le_refl _
  | cons a r ih =>
    unfold zcats at ih ⊢
    rw [List.map_cons, List.sum_cons, List.length_cons]
    have : zcat a ≤ 2 := by unfold zcat; split <;> omega
    omega
theorem zyOk_bin {g : Nat → Nat → Nat} {f : Int → Int → Int} {c : zyChk} (hg : ∀ x y : Nat, zw32 (g x y : Int) = f (zw32 (x : Int)) (zw32 (y : Int))) (hc : ∀ (ev : zEv) (pc : Nat) (i : Instr) (n : Nat), c ev pc i n = true → ∀ (S : List zSh) (Rn : zRnT) (rt : Option zV → zMem → Prop) (G : Nat → List zV → zLv → zMem → Prop) (x y : Int) (r : List zV) (lv : zLv) (M : zMem), True → G (pc + n) ((0, f x y) :: r) lv M → zStep ev S Rn rt i n pc ((0, y) :: (0, x) :: r) lv M G) : zyOk (zy_bin g) c := by
  intro ev S SH Rn rt G rec i n pc hS hR hk st L T r lv hL h
  unfold zy_bin at h
  split at h
  next y x rest =>
    cases h
    refine ⟨lv, hL, fun q => hc ev pc i n hk S Rn rt G _ _ _ lv _ trivial ?_⟩
    have : zyD (0, g x y) = (0, f (zw32 (x : Int)) (zw32 (y : Int))) := by unfold zyD; rw [hg]
    rw [← this]
    exact q
  next => cases h
theorem zyOk_binm {g : Nat → Nat → Nat} {f : Int → Int → Int} {c : zyChk} (hg : ∀ x y : Nat, zw32 (g x y : Int) = f (zw32 (x : Int)) (zw32 (y : Int))) (hc : ∀ (ev : zEv) (pc : Nat) (i : Instr) (n : Nat), c ev pc i n = true → ∀ (S : List zSh) (Rn : zRnT) (rt : Option zV → zMem → Prop) (G : Nat → List zV → zLv → zMem → Prop) (x y : Int) (r : List zV) (lv : zLv) (M : zMem), r.length ≤ 4 → G (pc + n) ((0, f x y) :: r) lv M → zStep ev S Rn rt i n pc ((0, y) :: (0, x) :: r) lv M G) : zyOk (zy_binm g) c := by
  intro ev S SH Rn rt G rec i n pc hS hR hk st L T r lv hL h
  unfold zy_binm at h
  split at h
  next y x rest =>
    split at h
    next => cases h
    next hne =>
      cases h
      refine ⟨lv, hL, fun q => hc ev pc i n hk S Rn rt G _ _ _ lv _ ?_ ?_⟩
      · rw [List.length_map]
        match rest, hne with
        | [], _ => simp
        | [_], _ => simp
        | [_, _], _ => simp
        | [_, _, _], _ => simp
        | [_, _, _, _], _ => simp
        | a :: b :: c :: d :: e :: f, hne => exact absurd rfl (hne a b c d e f)
      · have : zyD (0, g x y) = (0, f (zw32 (x : Int)) (zw32 (y : Int))) := by unfold zyD; rw [hg]
        rw [← this]
        exact q
  next => cases h
def c_iadd : zyChk := fun _ _ i n => match i with
  | .iadd => decide (n = 1)
  | _ => false
def c_isub : zyChk := fun _ _ i n => match i with
  | .isub => decide (n = 1)
  | _ => false
def c_imul : zyChk := fun _ _ i n => match i with
  | .imul => decide (n = 1)
  | _ => false
def c_iand : zyChk := fun _ _ i n => match i with
  | .iand => decide (n = 1)
  | _ => false
def c_ior : zyChk := fun _ _ i n => match i with
  | .ior => decide (n = 1)
  | _ => false
def c_ixor : zyChk := fun _ _ i n => match i with
  | .ixor => decide (n = 1)
  | _ => false
def c_ishl : zyChk := fun _ _ i n => match i with
  | .ishl => decide (n = 1)
  | _ => false
def c_ishr : zyChk := fun _ _ i n => match i with
  | .ishr => decide (n = 1)
  | _ => false
def c_iushr : zyChk := fun _ _ i n => match i with
  | .iushr => decide (n = 1)
  | _ => false
theorem zy_wadd (x y : Nat) : zw32 ((Nat.mod (Nat.add x y) 4294967296 : Nat) : Int) = zw32 (zw32 (x : Int) + zw32 (y : Int)) := by
  show zw32 (((x + y) % 4294967296 : Nat) : Int) = _
  rw [zw32_mod, Int.natCast_add]
  unfold zw32
  rw [Int.bmod_add_bmod, Int.add_bmod_bmod]
theorem ok_iadd : zyOk zy_iadd c_iadd := zyOk_bin (f := fun x y => zw32 (x + y)) zy_wadd (fun ev pc i n hc S Rn rt G x y r lv M _ g => by
    unfold c_iadd at hc
    split at hc
    · have h1 := of_decide_eq_true hc
      subst h1
      exact ⟨rfl, _, _, _, rfl, g⟩
    · cases hc)
theorem zy_wsub (x y : Nat) : zw32 ((Nat.mod (Nat.add x (Nat.sub 4294967296 (Nat.mod y 4294967296))) 4294967296 : Nat) : Int) = zw32 (zw32 (x : Int) - zw32 (y : Int)) := by
  show zw32 (((x + (4294967296 - y % 4294967296)) % 4294967296 : Nat) : Int) = _
  rw [zw32_mod]
  have hb := zyB_eq x
  have hy := zyB_eq y
  have hx' : (((x + 2147483648) % 4294967296 : Nat) : Int) = zw32 x + 2147483648 := hb
  have hy' : (((y + 2147483648) % 4294967296 : Nat) : Int) = zw32 y + 2147483648 := hy
  generalize zw32 (x : Int) = X at *
  generalize zw32 (y : Int) = Y at *
  unfold zw32
  rw [Int.bmod_def, Int.bmod_def]
  omega
theorem ok_isub : zyOk zy_isub c_isub := zyOk_bin (f := fun x y => zw32 (x - y)) zy_wsub (fun ev pc i n hc S Rn rt G x y r lv M _ g => by
    unfold c_isub at hc
    split at hc
    · have h1 := of_decide_eq_true hc
      subst h1
      exact ⟨rfl, _, _, _, rfl, g⟩
    · cases hc)
theorem zy_wmul (x y : Nat) : zw32 ((Nat.mod (Nat.mul x y) 4294967296 : Nat) : Int) = zw32 (zw32 (x : Int) * zw32 (y : Int)) := by
  show zw32 (((x * y) % 4294967296 : Nat) : Int) = _
  rw [zw32_mod, Int.natCast_mul]
  unfold zw32
  rw [Int.bmod_mul_bmod, Int.mul_bmod_bmod]
theorem ok_imul : zyOk zy_imul c_imul := zyOk_bin (f := fun x y => zw32 (x * y)) zy_wmul (fun ev pc i n hc S Rn rt G x y r lv M _ g => by
    unfold c_imul at hc
    split at hc
    · have h1 := of_decide_eq_true hc
      subst h1
      exact ⟨rfl, _, _, _, rfl, g⟩
    · cases hc)
theorem ok_iand : zyOk zy_iand c_iand := zyOk_bin (f := zand) (fun x y => zw32_zyE (zi_in _)) (fun ev pc i n hc S Rn rt G x y r lv M _ g => by
    unfold c_iand at hc
    split at hc
    · have h1 := of_decide_eq_true hc
      subst h1
      exact ⟨rfl, _, _, _, rfl, g⟩
    · cases hc)
theorem ok_ior : zyOk zy_ior c_ior := zyOk_bin (f := zor) (fun x y => zw32_zyE (zi_in _)) (fun ev pc i n hc S Rn rt G x y r lv M _ g => by
    unfold c_ior at hc
    split at hc
    · have h1 := of_decide_eq_true hc
      subst h1
      exact ⟨rfl, _, _, _, rfl, g⟩
    · cases hc)
theorem ok_ixor : zyOk zy_ixor c_ixor := zyOk_bin (f := zxor) (fun x y => zw32_zyE (zi_in _)) (fun ev pc i n hc S Rn rt G x y r lv M _ g => by
    unfold c_ixor at hc
    split at hc
    · have h1 := of_decide_eq_true hc
      subst h1
      exact ⟨rfl, _, _, _, rfl, g⟩
    · cases hc)
theorem ok_ishl : zyOk zy_ishl c_ishl := zyOk_bin (f := zshl) (fun x y => zw32_zyE (zi_in _)) (fun ev pc i n hc S Rn rt G x y r lv M _ g => by
    unfold c_ishl at hc
    split at hc
    · have h1 := of_decide_eq_true hc
      subst h1
      exact ⟨rfl, _, _, _, rfl, g⟩
    · cases hc)
theorem ok_ishr : zyOk zy_ishr c_ishr := zyOk_bin (f := zshr) (fun x y => zw32_zyE (zi_in _)) (fun ev pc i n hc S Rn rt G x y r lv M _ g => by
    unfold c_ishr at hc
    split at hc
    · have h1 := of_decide_eq_true hc
      subst h1
      exact ⟨rfl, _, _, _, rfl, g⟩
    · cases hc)
theorem ok_iushr : zyOk zy_iushr c_iushr := zyOk_bin (f := zushr) (fun x y => zw32_zyE (zi_in _)) (fun ev pc i n hc S Rn rt G x y r lv M _ g => by
    unfold c_iushr at hc
    split at hc
    · have h1 := of_decide_eq_true hc
      subst h1
      exact ⟨rfl, _, _, _, rfl, g⟩
    · cases hc)
def c_max : zyChk := fun ev _ i n => match i with
  | .invokestatic k => (match ev.2.2.2.2.2.1 k with
    | some (kd, _, _, _) => decide (n = 3 ∧ kd = 3 ∧ 1 ≤ ev.2.2.2.2.2.2.2.1 ∧ 21 ≤ ev.2.2.2.2.2.2.2.2.1)
    | none => false)
  | _ => false
theorem ok_max : zyOk zy_max c_max := zyOk_binm (f := fun x y => max x y) (fun x y => zw32_zyE (by have h1 := zw32_in (x : Int); have h2 := zw32_in (y : Int); unfold zin32 at *; omega)) (fun ev pc i n hc S Rn rt G x y r lv M hr g => by
    unfold c_max at hc
    split at hc
    · next k =>
        split at hc
        · next kd f ci na e =>
            obtain ⟨h1, h2, h3, h4⟩ := of_decide_eq_true hc
            subst h1; subst h2
            have := zcats_le r
            exact ⟨rfl, Or.inr (Or.inr ⟨x, y, r, 3, f, ci, na, rfl, e, Or.inl rfl, h3, by omega, g⟩)⟩
        · cases hc
    · cases hc)
def c_min : zyChk := fun ev _ i n => match i with
  | .invokestatic k => (match ev.2.2.2.2.2.1 k with
    | some (kd, _, _, _) => decide (n = 3 ∧ kd = 4 ∧ 1 ≤ ev.2.2.2.2.2.2.2.1 ∧ 21 ≤ ev.2.2.2.2.2.2.2.2.1)
    | none => false)
  | _ => false
theorem ok_min : zyOk zy_min c_min := zyOk_binm (f := fun x y => min x y) (fun x y => zw32_zyE (by have h1 := zw32_in (x : Int); have h2 := zw32_in (y : Int); unfold zin32 at *; omega)) (fun ev pc i n hc S Rn rt G x y r lv M hr g => by
    unfold c_min at hc
    split at hc
    · next k =>
        split at hc
        · next kd f ci na e =>
            obtain ⟨h1, h2, h3, h4⟩ := of_decide_eq_true hc
            subst h1; subst h2
            have := zcats_le r
            exact ⟨rfl, Or.inr (Or.inr ⟨x, y, r, 4, f, ci, na, rfl, e, Or.inr rfl, h3, by omega, g⟩)⟩
        · cases hc
    · cases hc)
theorem zy_nble {a b : Nat} (h : Nat.ble a b = false) : b < a := by
  rcases Nat.lt_or_ge b a with q | q
  · exact q
  · have : Nat.ble a b = true := by rw [Nat.ble_eq]; exact q
    rw [this] at h; cases h
theorem zy_ble {a b : Nat} (h : Nat.ble a b = true) : a ≤ b := by rw [Nat.ble_eq] at h; exact h
theorem zy_beq {a b : Nat} (h : Nat.beq a b = true) : a = b := by rw [Nat.beq_eq] at h; exact h
theorem zyQ_no {x y : Nat} (h : zyQ x y = false) : ¬ zw32 (x : Int) = zw32 (y : Int) := by
  intro q
  rw [(zyQ_eq x y).mpr q] at h
  cases h
theorem zyCmp_no {c : Jvm.ClassFile.Cond} {x y : Nat} (h : ¬ zcond c (zw32 (x : Int)) (zw32 (y : Int))) : zyCmp c x y = false := by
  cases e : zyCmp c x y
  · rfl
  · exact absurd ((zyCmp_eq c x y).mp e) h
theorem zyz0 : zw32 ((0 : Nat) : Int) = 0 := by decide
theorem zyQ_no0 {y : Nat} (h : zyQ y 0 = false) : zw32 (y : Int) ≠ 0 := fun q => zyQ_no h (q.trans zyz0.symm)
theorem zyAc {sp cn k0 : Nat} (q1 : Nat.ble (Nat.add sp cn) k0 = true) (q2 : Nat.ble k0 4096 = true) : zw32 (sp : Int) = sp ∧ zw32 (cn : Int) = cn ∧ 0 ≤ zw32 (sp : Int) ∧ 0 ≤ zw32 (cn : Int) ∧ zw32 (sp : Int) + zw32 (cn : Int) ≤ (k0 : Int) := by
  have h1 : sp + cn ≤ k0 := zy_ble q1
  have h2 := zy_ble q2
  have e1 : zw32 (sp : Int) = sp := zw32_nat (by omega)
  have e2 : zw32 (cn : Int) = cn := zw32_nat (by omega)
  rw [e1, e2]
  omega
def c_idiv : zyChk := fun _ _ i n => match i with
  | .idiv => decide (n = 1)
  | _ => false
theorem ok_idiv : zyOk zy_idiv c_idiv := by
  intro ev S SH Rn rt G rec i n pc hS hR hc st L T r lv hL h
  unfold zy_idiv at h
  split at h
  next y x rest =>
    cases hq : zyQ y 0 with
    | true => rw [hq] at h; cases h
    | false =>
      rw [hq] at h
      cases h
      unfold c_idiv at hc
      split at hc
      · have h1 := of_decide_eq_true hc
        subst h1
        refine ⟨lv, hL, fun g => ⟨rfl, zw32 (x : Int), zw32 (y : Int), _, rfl, zyQ_no0 hq, ?_⟩⟩
        have : zyD (0, zyE (zw32 ((zw32 (x : Int)).tdiv (zw32 (y : Int))))) = (0, zw32 ((zw32 (x : Int)).tdiv (zw32 (y : Int)))) := by unfold zyD; rw [zw32_zyE (zw32_in _)]
        rw [← this]
        exact g
      · cases hc
  next => cases h
def c_irem : zyChk := fun _ _ i n => match i with
  | .irem => decide (n = 1)
  | _ => false
theorem ok_irem : zyOk zy_irem c_irem := by
  intro ev S SH Rn rt G rec i n pc hS hR hc st L T r lv hL h
  unfold zy_irem at h
  split at h
  next y x rest =>
    cases hq : zyQ y 0 with
    | true => rw [hq] at h; cases h
    | false =>
      rw [hq] at h
      cases h
      unfold c_irem at hc
      split at hc
      · have h1 := of_decide_eq_true hc
        subst h1
        refine ⟨lv, hL, fun g => ⟨rfl, zw32 (x : Int), zw32 (y : Int), _, rfl, zyQ_no0 hq, ?_⟩⟩
        have : zyD (0, zyE ((zw32 (x : Int)).tmod (zw32 (y : Int)))) = (0, (zw32 (x : Int)).tmod (zw32 (y : Int))) := by unfold zyD; rw [zw32_zyE (ztmod_in (zw32_in _) (zw32_in _) (zyQ_no0 hq))]
        rw [← this]
        exact g
      · cases hc
  next => cases h
def c_ineg : zyChk := fun _ _ i n => match i with
  | .ineg => decide (n = 1)
  | _ => false
theorem ok_ineg : zyOk zy_ineg c_ineg := by
  intro ev S SH Rn rt G rec i n pc hS hR hc st L T r lv hL h
  unfold zy_ineg at h
  split at h
  next x rest =>
    cases h
    unfold c_ineg at hc
    split at hc
    · have h1 := of_decide_eq_true hc
      subst h1
      refine ⟨lv, hL, fun g => ⟨rfl, zw32 (x : Int), _, rfl, ?_⟩⟩
      have : zyD (0, zyE (zw32 (-(zw32 (x : Int))))) = (0, zw32 (-(zw32 (x : Int)))) := by unfold zyD; rw [zw32_zyE (zw32_in _)]
      rw [← this]
      exact g
    · cases hc
  next => cases h
def c_dup : zyChk := fun _ _ i n => match i with
  | .dup => decide (n = 1)
  | _ => false
theorem ok_dup : zyOk zy_dup c_dup := by
  intro ev S SH Rn rt G rec i n pc hS hR hc st L T r lv hL h
  unfold c_dup at hc
  unfold zy_dup at h
  split at h
  next x rest =>
    cases h
    split at hc
    · have h1 := of_decide_eq_true hc
      subst h1
      exact ⟨lv, hL, fun g => ⟨rfl, _, _, rfl, rfl, g⟩⟩
    · cases hc
  next x rest =>
    cases h
    split at hc
    · have h1 := of_decide_eq_true hc
      subst h1
      exact ⟨lv, hL, fun g => ⟨rfl, _, _, rfl, rfl, g⟩⟩
    · cases hc
  next => cases h
def c_dup2 : zyChk := fun _ _ i n => match i with
  | .dup2 => decide (n = 1)
  | _ => false
theorem ok_dup2 : zyOk zy_dup2 c_dup2 := by
  intro ev S SH Rn rt G rec i n pc hS hR hc st L T r lv hL h
  unfold c_dup2 at hc
  unfold zy_dup2 at h
  split at h
  next x y rest =>
    cases h
    split at hc
    · have h1 := of_decide_eq_true hc
      subst h1
      exact ⟨lv, hL, fun g => ⟨rfl, _, _, _, rfl, rfl, rfl, g⟩⟩
    · cases hc
  next => cases h
def c_pop : zyChk := fun _ _ i n => match i with
  | .pop => decide (n = 1)
  | _ => false
theorem ok_pop : zyOk zy_pop c_pop := by
  intro ev S SH Rn rt G rec i n pc hS hR hc st L T r lv hL h
  unfold c_pop at hc
  unfold zy_pop at h
  split at h
  next x rest =>
    cases h
    split at hc
    · have h1 := of_decide_eq_true hc
      subst h1
      exact ⟨lv, hL, fun g => ⟨rfl, _, _, rfl, rfl, g⟩⟩
    · cases hc
  next => cases h
def c_icmp (c : Jvm.ClassFile.Cond) (t : Nat) : zyChk := fun _ pc i n => match i with
  | .if_icmp d off => decide (n = 3 ∧ d = c ∧ (pc : Int) + off = (t : Int))
  | _ => false
theorem ok_icmp (c : Jvm.ClassFile.Cond) (t : Nat) : zyOk (zy_icmp c t) (c_icmp c t) := by
  intro ev S SH Rn rt G rec i n pc hS hR hc st L T r lv hL h
  unfold zy_icmp at h
  split at h
  next y x rest =>
    cases h
    unfold c_icmp at hc
    split at hc
    · obtain ⟨rfl, rfl, h3⟩ := of_decide_eq_true hc
      refine ⟨lv, hL, fun g => ⟨rfl, zw32 (x : Int), zw32 (y : Int), _, t, rfl, h3, fun z => ?_, fun z => ?_⟩⟩
      · rw [(zyCmp_eq _ x y).mpr z] at g
        exact g
      · rw [zyCmp_no z] at g
        exact g
    · cases hc
  next => cases h
def c_if (c : Jvm.ClassFile.Cond) (t : Nat) : zyChk := fun _ pc i n => match i with
  | .ifCond d off => decide (n = 3 ∧ d = c ∧ (pc : Int) + off = (t : Int))
  | _ => false
theorem ok_if (c : Jvm.ClassFile.Cond) (t : Nat) : zyOk (zy_if c t) (c_if c t) := by
  intro ev S SH Rn rt G rec i n pc hS hR hc st L T r lv hL h
  unfold zy_if at h
  split at h
  next x rest =>
    cases h
    unfold c_if at hc
    split at hc
    · obtain ⟨rfl, rfl, h3⟩ := of_decide_eq_true hc
      have z0 : zw32 ((0 : Nat) : Int) = 0 := rfl
      refine ⟨lv, hL, fun g => ⟨rfl, zw32 (x : Int), _, t, rfl, h3, fun z => ?_, fun z => ?_⟩⟩
      · rw [(zyCmp_eq _ x 0).mpr (by rw [z0]; exact z)] at g
        exact g
      · rw [zyCmp_no (x := x) (y := 0) (by rw [z0]; exact z)] at g
        exact g
    · cases hc
  next => cases h
def c_ifnull (t : Nat) : zyChk := fun _ pc i n => match i with
  | .ifnull off => decide (n = 3 ∧ (pc : Int) + off = (t : Int))
  | _ => false
theorem ok_ifnull (t : Nat) : zyOk (zy_ifnull t) (c_ifnull t) := by
  intro ev S SH Rn rt G rec i n pc hS hR hc st L T r lv hL h
  unfold zy_ifnull at h
  split at h
  next x rest =>
    cases h
    unfold c_ifnull at hc
    split at hc
    · obtain ⟨rfl, h3⟩ := of_decide_eq_true hc
      have z0 : zw32 ((4294967295 : Nat) : Int) = -1 := rfl
      refine ⟨lv, hL, fun g => ⟨rfl, zw32 (x : Int), _, t, rfl, h3, fun z => ?_, fun z => ?_⟩⟩
      · rw [(zyQ_eq x 4294967295).mpr (by rw [z0]; exact z)] at g
        exact g
      · cases e : zyQ x 4294967295
        · rw [e] at g
          exact g
        · exact absurd (((zyQ_eq x 4294967295).mp e).trans z0) z
    · cases hc
  next => cases h
def c_ifnonnull (t : Nat) : zyChk := fun _ pc i n => match i with
  | .ifnonnull off => decide (n = 3 ∧ (pc : Int) + off = (t : Int))
  | _ => false
theorem ok_ifnonnull (t : Nat) : zyOk (zy_ifnonnull t) (c_ifnonnull t) := by
  intro ev S SH Rn rt G rec i n pc hS hR hc st L T r lv hL h
  unfold zy_ifnonnull at h
  split at h
  next x rest =>
    cases h
    unfold c_ifnonnull at hc
    split at hc
    · obtain ⟨rfl, h3⟩ := of_decide_eq_true hc
      have z0 : zw32 ((4294967295 : Nat) : Int) = -1 := rfl
      refine ⟨lv, hL, fun g => ⟨rfl, zw32 (x : Int), _, t, rfl, h3, fun z => ?_, fun z => ?_⟩⟩
      · cases e : zyQ x 4294967295
        · rw [e] at g
          exact g
        · exact absurd (((zyQ_eq x 4294967295).mp e).trans z0) z
      · rw [(zyQ_eq x 4294967295).mpr (by rw [z0]; exact z)] at g
        exact g
    · cases hc
  next => cases h
def c_goto (t : Nat) : zyChk := fun _ pc i n => match i with
  | .goto off => decide (n = 3 ∧ (pc : Int) + off = (t : Int))
  | _ => false
theorem ok_goto (t : Nat) : zyOk (zy_goto t) (c_goto t) := by
  intro ev S SH Rn rt G rec i n pc hS hR hc st L T r lv hL h
  cases h
  unfold c_goto at hc
  split at hc
  · obtain ⟨rfl, h3⟩ := of_decide_eq_true hc
    exact ⟨lv, hL, fun g => ⟨rfl, t, h3, g⟩⟩
  · cases hc
theorem zyObj_ok {SH : zyS} {S : List zSh} {o ci : Nat} {fks : List (Option (Option Nat))} (hS : zyShOk SH S) (h : zyObj SH o ci = some fks) : o < 512 ∧ S[o]? = some (.inr (ci, fks)) := by
  unfold zyObj at h
  cases hb : Nat.ble 512 o with
  | true => rw [hb] at h; cases h
  | false =>
    rw [hb] at h
    have ho : o < 512 := zy_nble hb
    dsimp only [cond] at h
    split at h
    next c f e =>
      cases hc : Nat.beq c ci with
      | true =>
        rw [hc] at h
        cases h
        have := zy_beq hc
        subst this
        exact ⟨ho, hS o ho _ e⟩
      | false => rw [hc] at h; cases h
    next => cases h
theorem zyFk_ok {fks : List (Option (Option Nat))} : ∀ {k : Nat} {v : Option (Option Nat)}, zyFk fks k = some v → fks[k]? = some v := by
  induction fks with
  | nil => intro k v h; cases h
  | cons a r ih =>
    intro k v h
    cases k with
    | zero => exact h
    | succ k => exact ih h
theorem zyFld_ok {SH : zyS} {S : List zSh} {o ci j : Nat} {fks : List (Option (Option Nat))} {v : Option (Option Nat)} (hS : zyShOk SH S) (h : zyObj SH o ci = some fks) (hf : zyFk fks j = some v) : o < 512 ∧ zw32 (o : Int) = o ∧ zFld S (zw32 (o : Int)) ci j = some v := by
  obtain ⟨h1, h2⟩ := zyObj_ok hS h
  have h3 : zw32 (o : Int) = o := zw32_nat (by omega)
  refine ⟨h1, h3, ?_⟩
  rw [h3]
  unfold zFld
  rw [if_pos (by omega), Int.toNat_natCast, h2]
  dsimp only
  rw [if_pos rfl]
  exact zyFk_ok hf
def c_getint (ci j : Nat) : zyChk := fun ev _ i n => match i with
  | .getfield k => (match ev.2.2.2.2.1 k with
    | some (a, b) => decide (n = 3 ∧ a = ci ∧ b = j)
    | none => false)
  | _ => false
theorem ok_getint (ci j : Nat) : zyOk (zy_getint ci j) (c_getint ci j) := by
  intro ev S SH Rn rt G rec i n pc hS hR hc st L T r lv hL h
  unfold zy_getint at h
  split at h
  next o rest =>
    split at h
    next fks e1 =>
      split at h
      next e2 =>
        cases h
        unfold c_getint at hc
        split at hc
        · split at hc
          · next e3 =>
              obtain ⟨rfl, rfl, rfl⟩ := of_decide_eq_true hc
              obtain ⟨h1, h2, h3⟩ := zyFld_ok hS e1 e2
              refine ⟨lv, hL, fun g => ⟨rfl, zw32 (o : Int), _, _, _, rfl, e3, Or.inl ⟨h3, ?_⟩⟩⟩
              rw [h2, zyM_at h1]
              exact g
          · cases hc
        · cases hc
      next => cases h
    next => cases h
  next => cases h
def c_getref (ci j : Nat) : zyChk := c_getint ci j
theorem ok_getref (ci j : Nat) : zyOk (zy_getref ci j) (c_getref ci j) := by
  intro ev S SH Rn rt G rec i n pc hS hR hc st L T r lv hL h
  unfold zy_getref at h
  split at h
  next o rest =>
    split at h
    next fks e1 =>
      split at h
      next q e2 =>
        cases hb : Nat.ble 512 q with
        | true => rw [hb] at h; cases h
        | false =>
          rw [hb] at h
          cases h
          unfold c_getref c_getint at hc
          split at hc
          · split at hc
            · next e3 =>
                obtain ⟨rfl, rfl, rfl⟩ := of_decide_eq_true hc
                obtain ⟨h1, h2, h3⟩ := zyFld_ok hS e1 e2
                refine ⟨lv, hL, fun g => ⟨rfl, zw32 (o : Int), _, _, _, rfl, e3, Or.inr ⟨_, h3, ?_⟩⟩⟩
                have h4 : zyD (2, q) = zrv (some q) := by
                  have := zy_nble hb
                  unfold zyD
                  rw [zw32_nat (by omega)]
                  rfl
                rw [← h4]
                exact g
            · cases hc
          · cases hc
      next => cases h
    next => cases h
  next => cases h
def c_put (ci j : Nat) : zyChk := fun ev _ i n => match i with
  | .putfield k => (match ev.2.2.2.2.1 k with
    | some (a, b) => decide (n = 3 ∧ a = ci ∧ b = j)
    | none => false)
  | _ => false
theorem ok_put (ci j : Nat) : zyOk (zy_put ci j) (c_put ci j) := by
  intro ev S SH Rn rt G rec i n pc hS hR hc st L T r lv hL h
  unfold zy_put at h
  split at h
  next x o rest =>
    split at h
    next fks e1 =>
      split at h
      next e2 =>
        cases h
        unfold c_put at hc
        split at hc
        · split at hc
          · next e3 =>
              obtain ⟨rfl, rfl, rfl⟩ := of_decide_eq_true hc
              obtain ⟨h1, h2, h3⟩ := zyFld_ok hS e1 e2
              refine ⟨lv, hL, fun g => ⟨rfl, zw32 (o : Int), zw32 (x : Int), _, _, _, rfl, e3, h3, ?_⟩⟩
              rw [h2, ← zyPut_M h1]
              exact g
          · cases hc
        · cases hc
      next => cases h
    next => cases h
  next => cases h
theorem zyArr_ok {SH : zyS} {S : List zSh} {a : Nat} {q : FieldType × Nat × List (Option Nat)} (hS : zyShOk SH S) (h : zyArr SH a = some q) : a < 512 ∧ zw32 (a : Int) = a ∧ S[(zw32 (a : Int)).toNat]? = some (.inl q) ∧ 0 ≤ zw32 (a : Int) := by
  unfold zyArr at h
  cases hb : Nat.ble 512 a with
  | true => rw [hb] at h; cases h
  | false =>
    rw [hb] at h
    have ha : a < 512 := zy_nble hb
    dsimp only [cond] at h
    split at h
    next q' e =>
      cases h
      have h3 : zw32 (a : Int) = a := zw32_nat (by omega)
      refine ⟨ha, h3, ?_, by omega⟩
      rw [h3, Int.toNat_natCast]
      exact hS a ha _ e
    next => cases h
theorem zyIn_ok {j k : Nat} (h : zyIn j k = true) : zw32 (j : Int) = j ∧ (0 : Int) ≤ zw32 (j : Int) ∧ zw32 (j : Int) < (k : Int) := by
  unfold zyIn at h
  rw [Bool.and_eq_true] at h
  have h1 := zy_ble h.1
  have h2 := zy_ble h.2
  have h3 : zw32 (j : Int) = j := zw32_nat (by omega)
  exact ⟨h3, by omega, by omega⟩
def c_arraylength : zyChk := fun _ _ i n => match i with
  | .arraylength => decide (n = 1)
  | _ => false
theorem ok_arraylength : zyOk zy_arraylength c_arraylength := by
  intro ev S SH Rn rt G rec i n pc hS hR hc st L T r lv hL h
  unfold zy_arraylength at h
  split at h
  next a rest =>
    split at h
    next ty k rs e1 =>
      cases hb : Nat.ble k 4096 with
      | false => rw [hb] at h; cases h
      | true =>
        rw [hb] at h
        cases h
        have hk := zy_ble hb
        unfold c_arraylength at hc
        split at hc
        · have h1 := of_decide_eq_true hc
          subst h1
          obtain ⟨a1, a2, a3, a4⟩ := zyArr_ok hS e1
          refine ⟨lv, hL, fun g => ⟨rfl, zw32 (a : Int), _, ty, k, rfl, ⟨a4, rs, a3⟩, by omega, ?_⟩⟩
          have h4 : zyD (0, k) = (0, (k : Int)) := by unfold zyD; rw [zw32_nat (by omega)]
          rw [← h4]
          exact g
        · cases hc
    next => cases h
  next => cases h
def c_iaload : zyChk := fun _ _ i n => match i with
  | .iaload => decide (n = 1)
  | _ => false
theorem ok_iaload : zyOk zy_iaload c_iaload := by
  intro ev S SH Rn rt G rec i n pc hS hR hc st L T r lv hL h
  unfold zy_iaload at h
  split at h
  next j a rest =>
    split at h
    next k rs e1 =>
      cases hb : zyIn j k with
      | false => rw [hb] at h; cases h
      | true =>
        rw [hb] at h
        cases h
        unfold c_iaload at hc
        split at hc
        · have h1 := of_decide_eq_true hc
          subst h1
          obtain ⟨a1, a2, a3, a4⟩ := zyArr_ok hS e1
          obtain ⟨b1, b2, b3⟩ := zyIn_ok hb
          refine ⟨lv, hL, fun g => ⟨rfl, zw32 (j : Int), zw32 (a : Int), _, k, rfl, ⟨a4, rs, a3⟩, b2, b3, ?_⟩⟩
          rw [a2, b1, zyM_at a1]
          exact g
        · cases hc
    next => cases h
  next => cases h
def c_baload : zyChk := fun _ _ i n => match i with
  | .baload => decide (n = 1)
  | _ => false
theorem ok_baload : zyOk zy_baload c_baload := by
  intro ev S SH Rn rt G rec i n pc hS hR hc st L T r lv hL h
  unfold zy_baload at h
  split at h
  next j a rest =>
    split at h
    next k rs e1 =>
      cases hb : zyIn j k with
      | false => rw [hb] at h; cases h
      | true =>
        rw [hb] at h
        cases h
        unfold c_baload at hc
        split at hc
        · have h1 := of_decide_eq_true hc
          subst h1
          obtain ⟨a1, a2, a3, a4⟩ := zyArr_ok hS e1
          obtain ⟨b1, b2, b3⟩ := zyIn_ok hb
          refine ⟨lv, hL, fun g => ⟨rfl, zw32 (j : Int), zw32 (a : Int), _, k, rfl, Or.inl ⟨a4, rs, a3⟩, b2, b3, ?_⟩⟩
          rw [a2, b1, zyM_at a1]
          exact g
        · cases hc
    next => cases h
  next => cases h
def c_aaload : zyChk := fun _ _ i n => match i with
  | .aaload => decide (n = 1)
  | _ => false
theorem ok_aaload : zyOk zy_aaload c_aaload := by
  intro ev S SH Rn rt G rec i n pc hS hR hc st L T r lv hL h
  unfold zy_aaload at h
  split at h
  next j a rest =>
    split at h
    next C k rs e1 =>
      cases hb : zyIn j k with
      | false => rw [hb] at h; cases h
      | true =>
        rw [hb] at h
        dsimp only [cond] at h
        split at h
        next q e2 =>
          cases hq : Nat.ble 512 q with
          | true => rw [hq] at h; cases h
          | false =>
            rw [hq] at h
            cases h
            unfold c_aaload at hc
            split at hc
            · have h1 := of_decide_eq_true hc
              subst h1
              obtain ⟨a1, a2, a3, a4⟩ := zyArr_ok hS e1
              obtain ⟨b1, b2, b3⟩ := zyIn_ok hb
              refine ⟨lv, hL, fun g => ⟨rfl, zw32 (j : Int), zw32 (a : Int), _, C, k, rs, rfl, ⟨a4, a3⟩, b2, b3, ?_⟩⟩
              have e3 : rs[j]? = some (some q) := by
                have := zyFk_ok e2
                rw [List.getElem?_map] at this
                obtain ⟨w, w1, w2⟩ := Option.map_eq_some_iff.mp this
                cases w2
                exact w1
              have h4 : zyD (2, q) = zrv (rs.getD (zw32 (j : Int)).toNat none) := by
                have := zy_nble hq
                rw [b1, Int.toNat_natCast, List.getD_eq_getElem?_getD, e3]
                unfold zyD
                rw [zw32_nat (by omega)]
                rfl
              rw [← h4]
              exact g
            · cases hc
        next => cases h
    next => cases h
  next => cases h
def c_iastore : zyChk := fun _ _ i n => match i with
  | .iastore => decide (n = 1)
  | _ => false
theorem ok_iastore : zyOk zy_iastore c_iastore := by
  intro ev S SH Rn rt G rec i n pc hS hR hc st L T r lv hL h
  unfold zy_iastore at h
  split at h
  next x j a rest =>
    split at h
    next k rs e1 =>
      cases hb : zyIn j k with
      | false => rw [hb] at h; cases h
      | true =>
        rw [hb] at h
        cases h
        unfold c_iastore at hc
        split at hc
        · have h1 := of_decide_eq_true hc
          subst h1
          obtain ⟨a1, a2, a3, a4⟩ := zyArr_ok hS e1
          obtain ⟨b1, b2, b3⟩ := zyIn_ok hb
          refine ⟨lv, hL, fun g => ⟨rfl, zw32 (x : Int), zw32 (j : Int), zw32 (a : Int), _, k, rfl, ⟨a4, rs, a3⟩, b2, b3, ?_⟩⟩
          rw [a2, b1, ← zyPut_M a1]
          exact g
        · cases hc
    next => cases h
  next => cases h
def c_bastore : zyChk := fun _ _ i n => match i with
  | .bastore => decide (n = 1)
  | _ => false
theorem zy01 {x : Nat} (h : Nat.ble x 1 = true) : zw32 (x : Int) = 0 ∨ zw32 (x : Int) = 1 := by
  have := zy_ble h
  rw [zw32_nat (by omega)]
  omega
theorem ok_bastore : zyOk zy_bastore c_bastore := by
  intro ev S SH Rn rt G rec i n pc hS hR hc st L T r lv hL h
  unfold zy_bastore at h
  split at h
  next x j a rest =>
    split at h
    next k rs e1 =>
      cases hb : (zyIn j k && Nat.ble x 1) with
      | false => rw [hb] at h; cases h
      | true =>
        rw [hb] at h
        cases h
        rw [Bool.and_eq_true] at hb
        unfold c_bastore at hc
        split at hc
        · have h1 := of_decide_eq_true hc
          subst h1
          obtain ⟨a1, a2, a3, a4⟩ := zyArr_ok hS e1
          obtain ⟨b1, b2, b3⟩ := zyIn_ok hb.1
          refine ⟨lv, hL, fun g => ⟨rfl, zw32 (x : Int), zw32 (j : Int), zw32 (a : Int), _, k, rfl, Or.inl ⟨⟨a4, rs, a3⟩, zy01 hb.2⟩, b2, b3, ?_⟩⟩
          rw [a2, b1, ← zyPut_M a1]
          exact g
        · cases hc
    next => cases h
  next => cases h
theorem zyRest {rest : List zyV} (hne : ∀ a b c d e f, ¬ rest = a :: b :: c :: d :: e :: f) : zcats (rest.map zyD) ≤ 8 := by
  have h1 := zcats_le (rest.map zyD)
  rw [List.length_map] at h1
  have h2 : rest.length ≤ 4 := by
    match rest, hne with
    | [], _ => simp
    | [_], _ => simp
    | [_, _], _ => simp
    | [_, _, _], _ => simp
    | [_, _, _, _], _ => simp
    | a :: b :: c :: d :: e :: f, hne => exact absurd rfl (hne a b c d e f)
  omega
theorem zyCp_M {T : zyT} {a0 a1 sp dp cn : Nat} (h0 : a0 < 512) (h1 : a1 < 512) : zyM (zyUpd 9 T a1 (zyCp (zyGet 9 T a0) (zyGet 9 T a1) sp dp cn)) = zput (zyM T) (a1 : Int) (zcpy (zyM T (a0 : Int)) (zyM T (a1 : Int)) (sp : Int) (dp : Int) (cn : Int)) := by
  rw [zyM_upd h1]
  congr 1
  funext k
  unfold zcpy
  by_cases h : 0 ≤ k
  · rw [if_pos h, zyCp_F]
    by_cases hk : (dp : Int) ≤ k ∧ k < (dp : Int) + (cn : Int)
    · rw [if_pos hk, if_pos (by omega)]
      unfold zyM
      rw [if_pos (by omega)]
      have : sp + (k.toNat - dp) = ((sp : Int) + (k - (dp : Int))).toNat := by omega
      rw [this]
      rfl
    · rw [if_neg hk, if_neg (by omega)]
      unfold zyM
      rw [if_pos (by omega)]
      rfl
  · rw [if_neg h, if_neg (by omega)]
    unfold zyM
    rw [if_neg (by omega)]
def c_acopy : zyChk := fun ev _ i n => match i with
  | .invokestatic k => (match ev.2.2.2.2.2.1 k with
    | some (kd, _, _, _) => decide (n = 3 ∧ kd = 5 ∧ 1 ≤ ev.2.2.2.2.2.2.2.1 ∧ 8 + (nativeFrameWords "java/lang/System" "arraycopy" 5 + 11) ≤ ev.2.2.2.2.2.2.2.2.1)
    | none => false)
  | _ => false
theorem ok_acopy : zyOk zy_acopy c_acopy := by
  intro ev S SH Rn rt G rec i n pc hS hR hc st L T r lv hL h
  unfold zy_acopy at h
  split at h
  next cn dp a1 sp a0 rest =>
    split at h
    next => cases h
    next hne =>
      split at h
      next k0 rs0 e0 =>
        split at h
        next k1 rs1 e1 =>
          cases hb : ((Nat.ble (Nat.add sp cn) k0 && Nat.ble k0 4096) && (Nat.ble (Nat.add dp cn) k1 && Nat.ble k1 4096)) with
          | false => rw [hb] at h; cases h
          | true =>
            rw [hb] at h
            cases h
            rw [Bool.and_eq_true, Bool.and_eq_true, Bool.and_eq_true] at hb
            obtain ⟨s1, s3, s4, s5, s6⟩ := zyAc hb.1.1 hb.1.2
            obtain ⟨s2, -, s7, -, s8⟩ := zyAc hb.2.1 hb.2.2
            unfold c_acopy at hc
            split at hc
            · split at hc
              · next kd f ci na e =>
                  obtain ⟨rfl, rfl, h3, h4⟩ := of_decide_eq_true hc
                  obtain ⟨a01, a02, a03, a04⟩ := zyArr_ok hS e0
                  obtain ⟨a11, a12, a13, a14⟩ := zyArr_ok hS e1
                  have hr := zyRest (rest := rest) (fun a b c d e f q => hne a b c d e f q)
                  refine ⟨lv, hL, fun g => ⟨rfl, Or.inr (Or.inl ⟨zw32 (a0 : Int), zw32 (sp : Int), zw32 (a1 : Int), zw32 (dp : Int), zw32 (cn : Int), _, f, ci, na, k0, k1, rfl, e, ⟨a04, rs0, a03⟩, ⟨a14, rs1, a13⟩, s4, s7, s5, s6, s8, h3, Nat.le_trans (Nat.add_le_add_right hr _) h4, ?_⟩)⟩⟩
                  rw [a02, a12, s1, s2, s3, ← zyCp_M a01 a11]
                  exact g
              · cases hc
            · cases hc
        next => cases h
      next => cases h
  next => cases h
def zyFr (ev : zEv) (f : Nat) : Bool := decide ((ev.2.2.2.2.2.2.2.2.2 f).2.2.2.2.1 + 1 ≤ ev.2.2.2.2.2.2.2.1 ∧ 8 + ((ev.2.2.2.2.2.2.2.2.2 f).2.2.1 + 11) + (ev.2.2.2.2.2.2.2.2.2 f).2.2.2.2.2 ≤ ev.2.2.2.2.2.2.2.2.1)
theorem zyCall_ok {ev : zEv} {Rn : zRnT} {rec : zyRec} (hR : zyRecOk ev Rn rec) {f : Nat} {as rest L : List zyV} {T : zyT} {r : (Option Nat × List zyV × List zyV × zyT) ⊕ (Option zyV × zyT)} (h : zyCall rec f as rest L T = some r) :
    ∃ (v : Option zyV) (T' : zyT), r = .inl (none, v.toList ++ rest, L, T') ∧ zcats (rest.map zyD) ≤ 8 ∧ ∀ K : Option zV → zMem → Prop, K (v.map zyD) (zyM T') → Rn (ev.2.2.2.2.2.2.2.2.2 f) (as.map zyD) (zyM T) K := by
  unfold zyCall at h
  split at h
  next => cases h
  next hne =>
    have hr := zyRest (rest := rest) (fun a b c d e f q => hne a b c d e f q)
    split at h
    next T' e => cases h; exact ⟨none, T', rfl, hr, hR f as T _ _ e⟩
    next v T' e => cases h; exact ⟨some v, T', rfl, hr, hR f as T _ _ e⟩
    next => cases h
theorem zyToL (v : Option zyV) (rest : List zyV) : (v.toList ++ rest).map zyD = (v.map zyD).toList ++ rest.map zyD := by cases v <;> rfl
def c_callv (f ci na : Nat) : zyChk := fun ev _ i n => match i with
  | .invokevirtual k => (match ev.2.2.2.2.2.1 k with
    | some (kd, f', ci', na') => decide (n = 3 ∧ kd = 0 ∧ f' = f ∧ ci' = ci ∧ na' = na) && zyFr ev f
    | none => false)
  | _ => false
theorem ok_callv (f ci na : Nat) : zyOk (zy_callv f ci na) (c_callv f ci na) := by
  intro ev S SH Rn rt G rec i n pc hS hR hc st L T r lv hL h
  unfold zy_callv at h
  split at h
  next o rest ed =>
    split at h
    next fks e1 =>
      cases hb : Nat.beq (st.take na).length na with
      | false => rw [hb] at h; cases h
      | true =>
        rw [hb] at h
        dsimp only [cond] at h
        obtain ⟨v, T', rfl, h2, h3⟩ := zyCall_ok hR h
        unfold c_callv at hc
        split at hc
        · split at hc
          · next kd f' ci' na' e =>
              rw [Bool.and_eq_true] at hc
              obtain ⟨c1, c2, c3, c4, c5⟩ := of_decide_eq_true hc.1
              subst c1; subst c2; subst c3; subst c4; subst c5
              obtain ⟨d1, d2⟩ := of_decide_eq_true hc.2
              obtain ⟨o1, o2⟩ := zyObj_ok hS e1
              have o3 : zw32 (o : Int) = o := zw32_nat (by omega)
              have hst : st.map zyD = ((st.take na').reverse.map zyD).reverse ++ (2, zw32 (o : Int)) :: rest.map zyD := by
                rw [← List.map_reverse, List.reverse_reverse]
                have : st.map zyD = (st.take na' ++ (2, o) :: rest).map zyD := by rw [← ed, List.take_append_drop]
                rw [this, List.map_append]
                rfl
              refine ⟨lv, hL, fun g => ⟨rfl, zw32 (o : Int), (st.take na').reverse.map zyD, rest.map zyD, f', ci', na', hst, e, ?_, ⟨by omega, fks, ?_⟩, h2, d1, d2, ?_⟩⟩
              · rw [List.length_map, List.length_reverse]; exact zy_beq hb
              · rw [o3, Int.toNat_natCast]; exact o2
              · refine h3 _ ?_
                rw [← zyToL]
                exact g
          · cases hc
        · cases hc
    next => cases h
  next => cases h
def c_calls (f na : Nat) : zyChk := fun ev _ i n => match i with
  | .invokestatic k => (match ev.2.2.2.2.2.1 k with
    | some (kd, f', _, na') => decide (n = 3 ∧ (kd = 1 ∨ kd = 2) ∧ f' = f ∧ na' = na) && zyFr ev f
    | none => false)
  | _ => false
theorem ok_calls (f na : Nat) : zyOk (zy_calls f na) (c_calls f na) := by
  intro ev S SH Rn rt G rec i n pc hS hR hc st L T r lv hL h
  unfold zy_calls at h
  cases hb : Nat.beq (st.take na).length na with
  | false => rw [hb] at h; cases h
  | true =>
    rw [hb] at h
    dsimp only [cond] at h
    obtain ⟨v, T', rfl, h2, h3⟩ := zyCall_ok hR h
    unfold c_calls at hc
    split at hc
    · split at hc
      · next kd f' ci' na' e =>
          rw [Bool.and_eq_true] at hc
          obtain ⟨c1, c2, c3, c4⟩ := of_decide_eq_true hc.1
          subst c1; subst c3; subst c4
          obtain ⟨d1, d2⟩ := of_decide_eq_true hc.2
          have hst : st.map zyD = ((st.take na').reverse.map zyD).reverse ++ (st.drop na').map zyD := by
            rw [← List.map_reverse, List.reverse_reverse, ← List.map_append, List.take_append_drop]
          refine ⟨lv, hL, fun g => ⟨rfl, Or.inl ⟨(st.take na').reverse.map zyD, (st.drop na').map zyD, kd, f', ci', na', c2, hst, e, ?_, h2, d1, d2, ?_⟩⟩⟩
          · rw [List.length_map, List.length_reverse]; exact zy_beq hb
          · refine h3 _ ?_
            rw [← zyToL]
            exact g
      · cases hc
    · cases hc
def c_ireturn : zyChk := fun ev _ i n => match i with
  | .ireturn => (match ev.2.2.2.1 with
    | some .int => decide (n = 1)
    | _ => false)
  | _ => false
theorem ok_ireturn : zyOk zy_ireturn c_ireturn := by
  intro ev S SH Rn rt G rec i n pc hS hR hc st L T r lv hL h
  unfold zy_ireturn at h
  split at h
  next x =>
    cases h
    unfold c_ireturn at hc
    split at hc
    · split at hc
      · next e =>
          have h1 := of_decide_eq_true hc
          subst h1
          exact fun g => ⟨rfl, _, rfl, Or.inr e, g⟩
      · cases hc
    · cases hc
  next => cases h
def c_breturn : zyChk := fun ev _ i n => match i with
  | .ireturn => (match ev.2.2.2.1 with
    | some .boolean => decide (n = 1)
    | _ => false)
  | _ => false
theorem ok_breturn : zyOk zy_breturn c_breturn := by
  intro ev S SH Rn rt G rec i n pc hS hR hc st L T r lv hL h
  unfold zy_breturn at h
  split at h
  next x =>
    cases hb : Nat.ble x 1 with
    | false => rw [hb] at h; cases h
    | true =>
      rw [hb] at h
      cases h
      unfold c_breturn at hc
      split at hc
      · split at hc
        · next e =>
            have h1 := of_decide_eq_true hc
            subst h1
            exact fun g => ⟨rfl, _, rfl, Or.inl ⟨e, zy01 hb⟩, g⟩
        · cases hc
      · cases hc
  next => cases h
def c_areturn : zyChk := fun ev _ i n => match i with
  | .areturn => (match ev.2.2.2.1 with
    | some (.object _) => decide (n = 1)
    | _ => false)
  | _ => false
theorem ok_areturn : zyOk zy_areturn c_areturn := by
  intro ev S SH Rn rt G rec i n pc hS hR hc st L T r lv hL h
  unfold zy_areturn at h
  split at h
  next x =>
    cases h
    unfold c_areturn at hc
    split at hc
    · split at hc
      · next C e =>
          have h1 := of_decide_eq_true hc
          subst h1
          exact fun g => ⟨rfl, _, C, rfl, e, g⟩
      · cases hc
    · cases hc
  next => cases h
def c_return : zyChk := fun ev _ i n => match i with
  | .return_ => (match ev.2.2.2.1 with
    | none => decide (n = 1)
    | _ => false)
  | _ => false
theorem ok_return : zyOk zy_return c_return := by
  intro ev S SH Rn rt G rec i n pc hS hR hc st L T r lv hL h
  unfold zy_return at h
  split at h
  next =>
    cases h
    unfold c_return at hc
    split at hc
    · split at hc
      · next e =>
          have h1 := of_decide_eq_true hc
          subst h1
          exact fun g => ⟨rfl, rfl, e, g⟩
      · cases hc
    · cases hc
  next => cases h
def c_tsw (d lo : Nat) (ts : List Nat) : zyChk := fun _ pc i _ => match i with
  | .tableswitch d' lo' hi offs => decide ((pc : Int) + d' = (d : Int) ∧ lo' = (lo : Int) ∧ hi + 1 = (lo : Int) + (ts.length : Int) ∧ (lo : Int) + (ts.length : Int) < 2147483648 ∧ offs.toList.map (fun o => (pc : Int) + o) = ts.map (fun t : Nat => (t : Int)))
  | _ => false
theorem zyTsk {X : Int} {x lo : Nat} (h : X = (x : Int)) (h2 : lo ≤ x) : (X - (lo : Int)).toNat = x - lo := by omega
theorem zyTsx {offs : Array Int} {ts : List Nat} {pc k : Nat} (h5 : offs.toList.map (fun o => (pc : Int) + o) = ts.map (fun t : Nat => (t : Int))) (hk : k < ts.length) : ∃ off, offs[k]? = some off ∧ (pc : Int) + off = ((ts[k] : Nat) : Int) := by
  have hl : offs.toList.length = ts.length := by
    have := congrArg List.length h5
    rw [List.length_map, List.length_map] at this
    exact this
  have h6 : (offs.toList.map (fun o => (pc : Int) + o))[k]? = (ts.map (fun t : Nat => (t : Int)))[k]? := by rw [h5]
  rw [List.getElem?_map, List.getElem?_map, List.getElem?_eq_getElem hk, List.getElem?_eq_getElem (by omega)] at h6
  refine ⟨offs.toList[k]'(by omega), ?_, Option.some.inj h6⟩
  rw [← Array.getElem?_toList, List.getElem?_eq_getElem (by omega)]
theorem zyTs_in (ts : List Nat) (d : Nat) : ∀ k, zyTs ts k d = (ts[k]?).getD d := by
  induction ts with
  | nil => intro k; rfl
  | cons a r ih =>
    intro k
    cases k with
    | zero => rfl
    | succ k => exact ih k
theorem ok_tsw (d lo : Nat) (ts : List Nat) : zyOk (zy_tsw d lo ts) (c_tsw d lo ts) := by
  intro ev S SH Rn rt G rec i n pc hS hR hc st L T r lv hL h
  unfold zy_tsw at h
  split at h
  next x rest =>
    cases h
    unfold c_tsw at hc
    split at hc
    next d' lo' hi offs =>
      obtain ⟨h1, h2, h3, h4, h5⟩ := of_decide_eq_true hc
      subst h2
      have hm : zw32 ((x % 4294967296 : Nat) : Int) = zw32 (x : Int) := zw32_mod x
      have hlt : x % 4294967296 < 4294967296 := Nat.mod_lt _ (by decide)
      have hB := zyB_eq x
      have hB' : (((x + 2147483648) % 4294967296 : Nat) : Int) = zw32 (x : Int) + 2147483648 := hB
      refine ⟨lv, hL, fun g => ⟨zw32 (x : Int), _, rfl, fun z => ⟨d, h1, ?_⟩, fun z => ?_⟩⟩
      · have e : (bif Nat.ble lo (Nat.mod x 4294967296) then zyTs ts (Nat.sub (Nat.mod x 4294967296) lo) d else d) = d := by
          cases hb : Nat.ble lo (Nat.mod x 4294967296) with
          | false => rfl
          | true =>
            have hb2 : lo ≤ x % 4294967296 := zy_ble hb
            show zyTs ts (x % 4294967296 - lo) d = d
            rw [zyTs_in, List.getElem?_eq_none (by omega)]
            rfl
        rw [e] at g
        exact g
      · have hb2 : lo ≤ x % 4294967296 ∧ x % 4294967296 - lo < ts.length ∧ zw32 (x : Int) = ((x % 4294967296 : Nat) : Int) := by omega
        have hb : Nat.ble lo (Nat.mod x 4294967296) = true := by rw [Nat.ble_eq]; exact hb2.1
        have e : (bif Nat.ble lo (Nat.mod x 4294967296) then zyTs ts (Nat.sub (Nat.mod x 4294967296) lo) d else d) = ts[x % 4294967296 - lo] := by
          rw [hb]
          show zyTs ts (x % 4294967296 - lo) d = _
          rw [zyTs_in, List.getElem?_eq_getElem hb2.2.1]
          rfl
        rw [e] at g
        have hk : (zw32 (x : Int) - (lo : Int)).toNat = x % 4294967296 - lo := zyTsk hb2.2.2 hb2.1
        obtain ⟨off, o1, o2⟩ := zyTsx h5 hb2.2.1
        exact ⟨off, _, by rw [hk]; exact o1, o2, g⟩
    next => cases hc
  next => cases h
/-! ===== bundles, blocks, the runner ===== -/
abbrev zyCk : Type := zEv → Nat → Option Nat
def zySnd (op : zyOp) (ck : zyCk) : Prop := ∀ (ev : zEv) (S : List zSh) (SH : zyS) (Rn : zRnT) (rt : Option zV → zMem → Prop) (G : Nat → List zV → zLv → zMem → Prop) (rec : zyRec) (pc pc' : Nat), zClosed ev S Rn rt G → zyShOk SH S → zyRecOk ev Rn rec → ck ev pc = some pc' → ∀ st L T r lv, zyRel L lv → op SH rec st L T = some r → (match r with
  | .inl q => ∃ lv', zyRel q.2.2.1 lv' ∧ (G (q.1.getD pc') (q.2.1.map zyD) lv' (zyM q.2.2.2) → G pc (st.map zyD) lv (zyM T))
  | .inr q => rt (q.1.map zyD) (zyM q.2) → G pc (st.map zyD) lv (zyM T))
def zyMkC (c : zyChk) : zyCk := fun ev pc => match decode ev.2.1 pc with
  | .ok q => bif c ev pc q.1 q.2 then some (pc + q.2) else none
  | .error _ => none
theorem zySnd_of {op : zyOp} {c : zyChk} (h : zyOk op c) : zySnd op (zyMkC c) := by
  intro ev S SH Rn rt G rec pc pc' hG hS hR hc st L T r lv hL hr
  unfold zyMkC at hc
  split at hc
  next q hd =>
    obtain ⟨i, n⟩ := q
    cases hb : c ev pc i n with
    | false => dsimp only at hc; rw [hb] at hc; cases hc
    | true =>
      dsimp only at hc
      rw [hb] at hc
      cases hc
      have h1 := h ev S SH Rn rt G rec i n pc hS hR hb st L T r lv hL hr
      cases r with
      | inl q =>
        obtain ⟨lv', l1, l2⟩ := h1
        exact ⟨lv', l1, fun g => hG.1 _ _ _ _ _ _ hd (l2 g)⟩
      | inr q => exact fun g => hG.1 _ _ _ _ _ _ hd (h1 g)
  next => cases hc
theorem zySnd_fall (t : Nat) : zySnd (zy_fall t) (fun _ pc => bif Nat.beq pc t then some pc else none) := by
  intro ev S SH Rn rt G rec pc pc' hG hS hR hc st L T r lv hL hr
  cases hr
  cases hb : Nat.beq pc t with
  | false => dsimp only at hc; rw [hb] at hc; cases hc
  | true =>
    have := zy_beq hb
    subst this
    exact ⟨lv, hL, fun g => g⟩
def zyOpc : Type := { q : zyOp × zyCk // zySnd q.1 q.2 }
def zq {op : zyOp} {c : zyChk} (h : zyOk op c) : zyOpc := ⟨(op, zyMkC c), zySnd_of h⟩
def zq_fall (t : Nat) : zyOpc := ⟨(zy_fall t, fun _ pc => bif Nat.beq pc t then some pc else none), zySnd_fall t⟩
abbrev zyBs : Type := List (Nat × List zyOpc)
abbrev zySt : Type := Nat × List zyV × List zyV × zyT
abbrev zyRz : Type := Option (zySt ⊕ (Option zyV × zyT))
def zyFind : zyBs → Nat → List zyOpc
  | [], _ => []
  | b :: r, t => bif Nat.beq b.1 t then b.2 else zyFind r t
def zyGo (SH : zyS) (rec : zyRec) : List zyOpc → List zyV → List zyV → zyT → zyRz
  | [], _, _, _ => none
  | q :: r, st, L, T => match q.1.1 SH rec st L T with
    | some (.inl (none, st', L', T')) => zyGo SH rec r st' L' T'
    | some (.inl (some t, st', L', T')) => some (.inl (t, st', L', T'))
    | some (.inr v) => some (.inr v)
    | none => none
def zyStp (SH : zyS) (rec : zyRec) (B : zyBs) : zySt → zyRz
  | (t, st, L, T) => zyGo SH rec (zyFind B t) st L T
def zyIter (SH : zyS) (rec : zyRec) (B : zyBs) : Nat → zySt → zyRz
  | 0, s => zyStp SH rec B s
  | m + 1, s => match zyIter SH rec B m s with
    | some (.inl s') => zyIter SH rec B m s'
    | some (.inr v) => some (.inr v)
    | none => none
def zySeq (ev : zEv) : List zyOpc → Nat → Bool
  | [], _ => true
  | q :: r, pc => match q.1.2 ev pc with
    | some pc' => zySeq ev r pc'
    | none => false
def zyVal (ev : zEv) (B : zyBs) : Bool := B.all fun b => zySeq ev b.2 b.1
def zyResOk (rt : Option zV → zMem → Prop) (G : Nat → List zV → zLv → zMem → Prop) (P : Prop) : zySt ⊕ (Option zyV × zyT) → Prop
  | .inl q => ∃ lv', zyRel q.2.2.1 lv' ∧ (G q.1 (q.2.1.map zyD) lv' (zyM q.2.2.2) → P)
  | .inr q => rt (q.1.map zyD) (zyM q.2) → P
theorem zyGo_ok {ev : zEv} {S : List zSh} {SH : zyS} {Rn : zRnT} {rt : Option zV → zMem → Prop} {G : Nat → List zV → zLv → zMem → Prop} {rec : zyRec} (hG : zClosed ev S Rn rt G) (hS : zyShOk SH S) (hR : zyRecOk ev Rn rec) : ∀ (ops : List zyOpc) (pc : Nat), zySeq ev ops pc = true → ∀ st L T lv r, zyRel L lv → zyGo SH rec ops st L T = some r → zyResOk rt G (G pc (st.map zyD) lv (zyM T)) r := by
  intro ops
  induction ops with
  | nil => intro pc _ st L T lv r _ h; cases h
  | cons q ops ih =>
    intro pc hc st L T lv r hL h
    simp only [zySeq] at hc
    split at hc
    next pc' e =>
      simp only [zyGo] at h
      split at h
      next st' L' T' e2 =>
        obtain ⟨lv', l1, l2⟩ := q.2 ev S SH Rn rt G rec pc pc' hG hS hR e st L T _ lv hL e2
        have h2 := ih pc' hc st' L' T' lv' r l1 h
        cases r with
        | inl q2 =>
          obtain ⟨lv2, k1, k2⟩ := h2
          exact ⟨lv2, k1, fun g => l2 (k2 g)⟩
        | inr q2 => exact fun g => l2 (h2 g)
      next t st' L' T' e2 =>
        cases h
        exact q.2 ev S SH Rn rt G rec pc pc' hG hS hR e st L T _ lv hL e2
      next v e2 =>
        cases h
        exact q.2 ev S SH Rn rt G rec pc pc' hG hS hR e st L T _ lv hL e2
      next => cases h
    next => cases hc
theorem zyFind_ok {ev : zEv} : ∀ (B : zyBs), zyVal ev B = true → ∀ t, zySeq ev (zyFind B t) t = true := by
  intro B
  induction B with
  | nil => intro _ t; rfl
  | cons b r ih =>
    intro h t
    unfold zyVal at h
    rw [List.all_cons, Bool.and_eq_true] at h
    show zySeq ev (bif Nat.beq b.1 t then b.2 else zyFind r t) t = true
    cases hb : Nat.beq b.1 t with
    | true => have := zy_beq hb; subst this; exact h.1
    | false => exact ih h.2 t
theorem zyIter_ok {ev : zEv} {S : List zSh} {SH : zyS} {Rn : zRnT} {rt : Option zV → zMem → Prop} {G : Nat → List zV → zLv → zMem → Prop} {rec : zyRec} (hG : zClosed ev S Rn rt G) (hS : zyShOk SH S) (hR : zyRecOk ev Rn rec) {B : zyBs} (hB : zyVal ev B = true) : ∀ (m : Nat) (s : zySt) (lv : zLv) (r : zySt ⊕ (Option zyV × zyT)), zyRel s.2.2.1 lv → zyIter SH rec B m s = some r → zyResOk rt G (G s.1 (s.2.1.map zyD) lv (zyM s.2.2.2)) r := by
  intro m
  induction m with
  | zero =>
    intro s lv r hL h
    exact zyGo_ok hG hS hR (zyFind B s.1) s.1 (zyFind_ok B hB s.1) s.2.1 s.2.2.1 s.2.2.2 lv r hL h
  | succ m ih =>
    intro s lv r hL h
    simp only [zyIter] at h
    split at h
    next s' e =>
      obtain ⟨lv', l1, l2⟩ := ih s lv _ hL e
      have h2 := ih s' lv' r l1 h
      cases r with
      | inl q2 =>
        obtain ⟨lv2, k1, k2⟩ := h2
        exact ⟨lv2, k1, fun g => l2 (k2 g)⟩
      | inr q2 => exact fun g => l2 (h2 g)
    next v e =>
      cases h
      exact ih s lv _ hL e
    next => cases h
/-! ===== methods by number ===== -/
abbrev zyMeth : Type := Nat × zyBs × Nat × Nat
def zyMethOk (q : zyMeth) : Bool := decide (q.1 < 356) && (decide (q.2.2.1 ≤ (zFn q.1).2.2.1) && zyVal (zxEv q.1) q.2.1)
def zyTf : List zyMeth → Nat → Option (zyBs × Nat × Nat)
  | [], _ => none
  | q :: r, f => bif Nat.beq q.1 f then some q.2 else zyTf r f
def zyPad : Nat → List zyV → List zyV
  | 0, as => as
  | n + 1, [] => (9, 0) :: zyPad n []
  | n + 1, a :: r => a :: zyPad n r
def zyTags (as : List zyV) : Bool := as.all fun v => !(Nat.beq v.1 1)
def zyR (SH : zyS) (tb : List zyMeth) : Nat → zyRec
  | 0, _, _, _ => none
  | d + 1, f, as, T => match zyTf tb f with
    | some (B, nl, m) => bif zyTags as && Nat.ble as.length nl then (match zyIter SH (zyR SH tb d) B m (0, [], zyPad nl as, T) with
      | some (.inr v) => some v
      | _ => none) else none
    | none => none
theorem zyTf_ok {tb : List zyMeth} : ∀ {f : Nat} {p : zyBs × Nat × Nat}, zyTf tb f = some p → (f, p) ∈ tb := by
  induction tb with
  | nil => intro f p h; cases h
  | cons q r ih =>
    intro f p h
    unfold zyTf at h
    cases hb : Nat.beq q.1 f with
    | true =>
      rw [hb] at h
      cases h
      have := zy_beq hb
      subst this
      exact List.mem_cons_self
    | false => rw [hb] at h; exact List.mem_cons_of_mem _ (ih h)
theorem zyPad_at : ∀ (n : Nat) (as : List zyV) (k : Nat), as.length ≤ n → zyNth (zyPad n as) k = zyNth as k := by
  intro n
  induction n with
  | zero => intro as k _; rfl
  | succ n ih =>
    intro as k h
    cases as with
    | nil =>
      cases k with
      | zero => rfl
      | succ k => exact ih [] k (by simp)
    | cons a r =>
      cases k with
      | zero => rfl
      | succ k => exact ih r k (by simpa using h)
theorem zyTags_cons {v : zyV} {r : List zyV} (h : zyTags (v :: r) = true) : ¬ v.1 = 1 ∧ zyTags r = true := by
  unfold zyTags at h
  rw [List.all_cons, Bool.and_eq_true] at h
  refine ⟨fun q => ?_, h.2⟩
  have := h.1
  rw [q] at this
  cases this
theorem zyCat {v : zyV} (h : ¬ v.1 = 1) : zcat (zyD v) = 1 := by unfold zcat zyD; rw [if_neg h]
theorem zyArg_look : ∀ (as : List zyV) (i k : Nat), zyTags as = true → i ≤ k → k < i + as.length → zLook (zArgs i (as.map zyD)) k = some (zyD (zyNth as (k - i))) := by
  intro as
  induction as with
  | nil => intro i k _ h1 h2; simp at h2; omega
  | cons v r ih =>
    intro i k h h1 h2
    obtain ⟨h3, h4⟩ := zyTags_cons h
    show zLook ((i, zyD v) :: zArgs (i + zcat (zyD v)) (r.map zyD)) k = _
    rw [zyCat h3]
    by_cases hk : i = k
    · subst hk
      unfold zLook
      rw [List.find?_cons]
      simp [zyNth]
    · have e1 : (i == k) = false := by simp [hk]
      have e2 : zLook ((i, zyD v) :: zArgs (i + 1) (r.map zyD)) k = zLook (zArgs (i + 1) (r.map zyD)) k := by
        unfold zLook
        rw [List.find?_cons]
        dsimp only
        rw [e1]
      rw [e2, ih (i + 1) k h4 (by omega) (by rw [List.length_cons] at h2; omega)]
      have e3 : k - i = (k - (i + 1)) + 1 := by omega
      rw [e3]
      rfl
theorem zyArg_rel {nl : Nat} {as : List zyV} (h : zyTags as = true) (hl : as.length ≤ nl) : zyRel (zyPad nl as) (zArgs 0 (as.map zyD)) := by
  intro k hk
  rw [zyPad_at nl as k hl] at hk ⊢
  by_cases h1 : k < as.length
  · have := zyArg_look as 0 k h (by omega) (by omega)
    exact this
  · rw [zyNth_none as k (by omega)] at hk
    rcases hk with hk | hk <;> cases hk
theorem zyTags_cats : ∀ (as : List zyV), zyTags as = true → zcats (as.map zyD) = as.length := by
  intro as
  induction as with
  | nil => intro _; rfl
  | cons v r ih =>
    intro h
    obtain ⟨h3, h4⟩ := zyTags_cons h
    have := ih h4
    unfold zcats at this ⊢
    rw [List.map_cons, List.map_cons, List.sum_cons, this, zyCat h3, List.length_cons]
    omega
theorem zyR_ok {O : zOm} (hO : zWld O) {SH : zyS} (hSH : zyShOk SH (zS O)) {tb : List zyMeth} (htb : ∀ q ∈ tb, zyMethOk q = true) : ∀ (d f : Nat) (as : List zyV) (T : zyT) (v : Option zyV) (T' : zyT), zyR SH tb d f as T = some (v, T') → ∀ K : Option zV → zMem → Prop, K (v.map zyD) (zyM T') → zR O (zFn f) (as.map zyD) (zyM T) K := by
  intro d
  induction d with
  | zero => intro f as T v T' h; cases h
  | succ d ih =>
    intro f as T v T' h K hK
    simp only [zyR] at h
    split at h
    next B nl m e =>
      cases hb : (zyTags as && Nat.ble as.length nl) with
      | false => rw [hb] at h; cases h
      | true =>
        rw [hb] at h
        dsimp only [cond] at h
        rw [Bool.and_eq_true] at hb
        have hl := zy_ble hb.2
        split at h
        next w e2 =>
          cases h
          have hq := htb _ (zyTf_ok e)
          unfold zyMethOk at hq
          rw [Bool.and_eq_true, Bool.and_eq_true] at hq
          have f1 : f < 356 := of_decide_eq_true hq.1
          have f2 : nl ≤ (zFn f).2.2.1 := of_decide_eq_true hq.2.1
          have f3 : zyVal (zxEv f) B = true := hq.2.2
          obtain ⟨own, pf, pm, pk, e1, e3, e4, e5⟩ := zxEv_ok f1
          rw [e1] at f3
          refine zR.of hO.ok (pf := zpfF pf) (pm := zpmF pm) (pk := zpkF pk) (by rw [hO.1]; exact e3) e4 e5 (by rw [zyTags_cats as hb.1]; omega) (fun G hG => ?_)
          have hR : zyRecOk (zEvC own (zFn f) pf pm pk) (zR O) (zyR SH tb d) := fun g as' T1 v1 T2 h1 K' hK' => ih g as' T1 v1 T2 h1 K' hK'
          exact zyIter_ok hG hSH hR f3 m (0, [], zyPad nl as, T) (zArgs 0 (as.map zyD)) _ (zyArg_rel hb.1 hl) e2 hK
        next => cases h
    next => cases h
/-! ===== their names ===== -/
def zo_null : zyOpc := zq ok_null
def zo_iadd : zyOpc := zq ok_iadd
def zo_isub : zyOpc := zq ok_isub
def zo_imul : zyOpc := zq ok_imul
def zo_idiv : zyOpc := zq ok_idiv
def zo_irem : zyOpc := zq ok_irem
def zo_ineg : zyOpc := zq ok_ineg
def zo_iand : zyOpc := zq ok_iand
def zo_ior : zyOpc := zq ok_ior
def zo_ixor : zyOpc := zq ok_ixor
def zo_ishl : zyOpc := zq ok_ishl
def zo_ishr : zyOpc := zq ok_ishr
def zo_iushr : zyOpc := zq ok_iushr
def zo_max : zyOpc := zq ok_max
def zo_min : zyOpc := zq ok_min
def zo_dup : zyOpc := zq ok_dup
def zo_dup2 : zyOpc := zq ok_dup2
def zo_pop : zyOpc := zq ok_pop
def zo_arraylength : zyOpc := zq ok_arraylength
def zo_iaload : zyOpc := zq ok_iaload
def zo_baload : zyOpc := zq ok_baload
def zo_aaload : zyOpc := zq ok_aaload
def zo_iastore : zyOpc := zq ok_iastore
def zo_bastore : zyOpc := zq ok_bastore
def zo_acopy : zyOpc := zq ok_acopy
def zo_ireturn : zyOpc := zq ok_ireturn
def zo_breturn : zyOpc := zq ok_breturn
def zo_areturn : zyOpc := zq ok_areturn
def zo_return : zyOpc := zq ok_return
def zo_const (k : Nat) : zyOpc := zq (ok_const k)
def zo_iload (k : Nat) : zyOpc := zq (ok_iload k)
def zo_aload (k : Nat) : zyOpc := zq (ok_aload k)
def zo_istore (k : Nat) : zyOpc := zq (ok_istore k)
def zo_astore (k : Nat) : zyOpc := zq (ok_astore k)
def zo_ifnull (k : Nat) : zyOpc := zq (ok_ifnull k)
def zo_ifnonnull (k : Nat) : zyOpc := zq (ok_ifnonnull k)
def zo_goto (k : Nat) : zyOpc := zq (ok_goto k)
def zo_iinc (k d : Nat) : zyOpc := zq (ok_iinc k d)
def zo_icmp (c : Jvm.ClassFile.Cond) (t : Nat) : zyOpc := zq (ok_icmp c t)
def zo_if (c : Jvm.ClassFile.Cond) (t : Nat) : zyOpc := zq (ok_if c t)
def zo_getint (c j : Nat) : zyOpc := zq (ok_getint c j)
def zo_getref (c j : Nat) : zyOpc := zq (ok_getref c j)
def zo_put (c j : Nat) : zyOpc := zq (ok_put c j)
def zo_callv (f c n : Nat) : zyOpc := zq (ok_callv f c n)
def zo_calls (f n : Nat) : zyOpc := zq (ok_calls f n)
def zo_tsw (d l : Nat) (ts : List Nat) : zyOpc := zq (ok_tsw d l ts)
