/-! ===== running methods on written-out cells ===== -/
abbrev zRow : Type := List (Int × Int)
abbrev zmC : Type := List (zSh × zRow)
abbrev zxS : Type := Nat × List zV × zLv × zmC
abbrev zxT : Type := zxS ⊕ (Option zV × zmC)
def zrg : zRow → Int → Int
  | [], _ => 0
  | q :: r, j => if q.1 = j then q.2 else zrg r j
def zrd (j : Int) : zRow → zRow
  | [] => []
  | q :: r => if q.1 = j then zrd j r else q :: zrd j r
def zrs (r : zRow) (j x : Int) : zRow := (j, x) :: zrd j r
def zmS (C : zmC) : List zSh := C.map (·.1)
def zmRow (C : zmC) (a : Int) : zRow := if a < 0 then [] else match C[a.toNat]? with
  | some c => c.2
  | none => []
def zmM (C : zmC) : zMem := fun a => zrg (zmRow C a)
def zmPut (C : zmC) (a : Int) (r : zRow) : zmC := match C[a.toNat]? with
  | some c => C.set a.toNat (c.1, r)
  | none => C
theorem zrg_del (r : zRow) (j i : Int) : zrg (zrd j r) i = if i = j then 0 else zrg r i := by
  induction r with
  | nil => unfold zrd zrg; split <;> rfl
  | cons q r ih =>
    unfold zrd
    by_cases h : q.1 = j
    · rw [if_pos h, ih]
      by_cases h2 : i = j
      · rw [if_pos h2, if_pos h2]
      · rw [if_neg h2, if_neg h2]
        show _ = if q.1 = i then q.2 else zrg r i
        rw [if_neg (by omega)]
    · rw [if_neg h]
      show (if q.1 = i then q.2 else zrg (zrd j r) i) = if i = j then 0 else if q.1 = i then q.2 else zrg r i
      rw [ih]
      by_cases h2 : i = j
      · rw [if_pos h2, if_pos h2, if_neg (by omega)]
      · rw [if_neg h2, if_neg h2]
theorem zrg_set (r : zRow) (j x : Int) : zrg (zrs r j x) = zup (zrg r) j x := by
  funext i
  unfold zrs zup
  show (if j = i then x else zrg (zrd j r) i) = _
  rw [zrg_del]
  by_cases h : i = j
  · subst h; rw [if_pos rfl, if_pos rfl]
  · rw [if_neg h, if_neg h, if_neg (fun q => h q.symm)]
theorem zmS_len (C : zmC) : (zmS C).length = C.length := List.length_map ..
theorem zmS_at {C : zmC} {i : Nat} {sh : zSh} (h : (zmS C)[i]? = some sh) : ∃ r, C[i]? = some (sh, r) := by
  unfold zmS at h
  rw [List.getElem?_map] at h
  obtain ⟨c, h1, h2⟩ := Option.map_eq_some_iff.mp h
  exact ⟨c.2, by rw [h1, ← h2]⟩
theorem zmPut_S {C : zmC} {a : Int} {r : zRow} : zmS (zmPut C a r) = zmS C := by
  unfold zmPut
  split
  next c h =>
    unfold zmS
    refine List.ext_getElem? fun i => ?_
    rw [List.getElem?_map, List.getElem?_map, List.getElem?_set]
    split
    next h1 =>
      subst h1
      split
      · rw [h]; rfl
      next h2 => rw [List.getElem?_eq_none (Nat.le_of_not_lt h2)]
    next => rfl
  next => rfl
theorem zmPut_M {C : zmC} {a : Int} {r : zRow} {sh : zSh} (h0 : 0 ≤ a) (h : (zmS C)[a.toNat]? = some sh) : zmM (zmPut C a r) = zput (zmM C) a (zrg r) := by
  obtain ⟨r0, hc⟩ := zmS_at h
  have hl := (List.getElem?_eq_some_iff.mp hc).1
  unfold zmPut
  rw [hc]
  funext b
  unfold zmM zput
  by_cases hb : b = a
  · subst hb
    rw [if_pos rfl]
    unfold zmRow
    rw [if_neg (by omega), List.getElem?_set, if_pos rfl, if_pos hl]
  · rw [if_neg hb]
    show zrg (zmRow (C.set a.toNat (sh, r)) b) = zrg (zmRow C b)
    congr 1
    unfold zmRow
    by_cases h1 : b < 0
    · rw [if_pos h1, if_pos h1]
    · rw [if_neg h1, if_neg h1, List.getElem?_set, if_neg (by omega)]
/-- cn places of f's row from sp on, into g's from dp on -/
def zrcut (dp cn : Int) : zRow → zRow
  | [] => []
  | q :: r => if dp ≤ q.1 ∧ q.1 < dp + cn then zrcut dp cn r else q :: zrcut dp cn r
def zrmov (sp dp cn : Int) (g : zRow) : zRow → zRow
  | [] => g
  | q :: r => if sp ≤ q.1 ∧ q.1 < sp + cn then (dp + (q.1 - sp), q.2) :: zrmov sp dp cn g r else zrmov sp dp cn g r
theorem zrg_cut (dp cn : Int) (r : zRow) (i : Int) : zrg (zrcut dp cn r) i = if dp ≤ i ∧ i < dp + cn then 0 else zrg r i := by
  induction r with
  | nil => unfold zrcut zrg; split <;> rfl
  | cons q r ih =>
    unfold zrcut
    by_cases h : dp ≤ q.1 ∧ q.1 < dp + cn
    · rw [if_pos h, ih]
      by_cases h2 : dp ≤ i ∧ i < dp + cn
      · rw [if_pos h2, if_pos h2]
      · rw [if_neg h2, if_neg h2]
        show _ = if q.1 = i then q.2 else zrg r i
        rw [if_neg (by intro q; subst q; exact h2 h)]
    · rw [if_neg h]
      show (if q.1 = i then q.2 else zrg (zrcut dp cn r) i) = if dp ≤ i ∧ i < dp + cn then 0 else if q.1 = i then q.2 else zrg r i
      rw [ih]
      by_cases h2 : dp ≤ i ∧ i < dp + cn
      · rw [if_pos h2, if_pos h2, if_neg (by intro q; subst q; exact h h2)]
      · rw [if_neg h2, if_neg h2]
theorem zrg_mov (sp dp cn : Int) (g f : zRow) : zrg (zrmov sp dp cn (zrcut dp cn g) f) = zcpy (zrg f) (zrg g) sp dp cn := by
  funext i
  induction f with
  | nil =>
    show zrg (zrcut dp cn g) i = _
    rw [zrg_cut]
    rfl
  | cons q r ih =>
    unfold zcpy at *
    unfold zrmov
    by_cases h : sp ≤ q.1 ∧ q.1 < sp + cn
    · rw [if_pos h]
      show (if dp + (q.1 - sp) = i then q.2 else zrg (zrmov sp dp cn (zrcut dp cn g) r) i) = if dp ≤ i ∧ i < dp + cn then (if q.1 = sp + (i - dp) then q.2 else zrg r (sp + (i - dp))) else zrg g i
      by_cases h2 : dp + (q.1 - sp) = i
      · rw [if_pos h2, if_pos (by omega), if_pos (by omega)]
      · rw [if_neg h2, ih]
        split
        · rw [if_neg (by omega)]
        · rfl
    · rw [if_neg h, ih]
      show _ = if dp ≤ i ∧ i < dp + cn then (if q.1 = sp + (i - dp) then q.2 else zrg r (sp + (i - dp))) else zrg g i
      split
      · rw [if_neg (by omega)]
      · rfl
def zxA (S : List zSh) (a : Int) : Option (FieldType × Nat × List (Option Nat)) := if 0 ≤ a then (match S[a.toNat]? with
  | some (.inl q) => some q
  | _ => none) else none
def zxJ (c : Prop) [Decidable c] (pc : Nat) (off : Int) (n : Nat) (st : List zV) (lv : zLv) (C : zmC) : Option zxT :=
  if n = 3 ∧ 0 ≤ (pc : Int) + off then some (.inl (if c then ((pc : Int) + off).toNat else pc + 3, st, lv, C)) else none
def zxcond (c : Jvm.ClassFile.Cond) (x y : Int) : Bool := match c with
  | .eq => decide (x = y)
  | .ne => decide (x ≠ y)
  | .lt => decide (x < y)
  | .ge => decide (y ≤ x)
  | .gt => decide (y < x)
  | .le => decide (x ≤ y)
theorem zxcond_iff {c : Jvm.ClassFile.Cond} {x y : Int} : zxcond c x y = true ↔ zcond c x y := by
  cases c <;> exact decide_eq_true_iff
def zxB (S : List zSh) (a x : Int) : Option Nat := match zxA S a with
  | some (.boolean, k, _) => if x = 0 ∨ x = 1 then some k else none
  | some (.byte, k, _) => if -128 ≤ x ∧ x < 128 then some k else none
  | _ => none
def zxObj (S : List zSh) (o : Int) (ci : Nat) : Bool := if 0 ≤ o then (match S[o.toNat]? with
  | some (.inr q) => decide (q.1 = ci)
  | _ => false) else false
theorem zxObj_ok {S : List zSh} {o : Int} {ci : Nat} (h : zxObj S o ci = true) : zObj S o ci := by
  unfold zxObj at h
  split at h
  next h0 =>
    split at h
    next q e => exact ⟨h0, q.2, by rw [e, ← of_decide_eq_true h]⟩
    next => cases h
  next => cases h
def zxRec : Type := Nat → List zV → zmC → Option (Option zV × zmC)
def zxCall (ev : zEv) (rec : zxRec) (f pc : Nat) (as rest : List zV) (lv : zLv) (C : zmC) : Option zxT :=
  if zcats rest ≤ 8 ∧ (ev.2.2.2.2.2.2.2.2.2 f).2.2.2.2.1 + 1 ≤ ev.2.2.2.2.2.2.2.1 ∧ 8 + ((ev.2.2.2.2.2.2.2.2.2 f).2.2.1 + 11) + (ev.2.2.2.2.2.2.2.2.2 f).2.2.2.2.2 ≤ ev.2.2.2.2.2.2.2.2.1 then
    (match rec f as C with
    | some (v, C') => some (.inl (pc + 3, v.toList ++ rest, lv, C'))
    | none => none) else none
def zxE (ev : zEv) (S : List zSh) (rec : zxRec) (i : Instr) (n pc : Nat) (st : List zV) (lv : zLv) (C : zmC) : Option zxT :=
  match i with
  | .iconst v => if n = 1 ∧ (-1 ≤ v ∧ v ≤ 5) then some (.inl (pc + 1, (0, v) :: st, lv, C)) else none
  | .bipush v => if n = 2 ∧ (-128 ≤ v ∧ v ≤ 127) then some (.inl (pc + 2, (0, v) :: st, lv, C)) else none
  | .sipush v => if n = 3 ∧ (-32768 ≤ v ∧ v ≤ 32767) then some (.inl (pc + 3, (0, v) :: st, lv, C)) else none
  | .lconst v => if n = 1 then some (.inl (pc + 1, (1, (v : Nat)) :: st, lv, C)) else none
  | .aconst_null => if n = 1 then some (.inl (pc + 1, (2, -1) :: st, lv, C)) else none
  | .ldc k => match ev.2.2.2.2.2.2.1 k with
    | some (0, v) => if n = 2 ∧ (-2147483648 ≤ v ∧ v < 2147483648) then some (.inl (pc + 2, (0, v) :: st, lv, C)) else none
    | _ => none
  | .ldc_w k => match ev.2.2.2.2.2.2.1 k with
    | some (0, v) => if n = 3 ∧ (-2147483648 ≤ v ∧ v < 2147483648) then some (.inl (pc + 3, (0, v) :: st, lv, C)) else none
    | _ => none
  | .ldc2_w k => match ev.2.2.2.2.2.2.1 k with
    | some (1, v) => if n = 3 ∧ (-9223372036854775808 ≤ v ∧ v < 9223372036854775808) then some (.inl (pc + 3, (1, v) :: st, lv, C)) else none
    | _ => none
  | .iload k => match zLook lv k with
    | some (0, x) => if n = 2 then some (.inl (pc + 2, (0, x) :: st, lv, C)) else none
    | _ => none
  | .iload_n k => match zLook lv k with
    | some (0, x) => if n = 1 then some (.inl (pc + 1, (0, x) :: st, lv, C)) else none
    | _ => none
  | .lload k => match zLook lv k with
    | some (1, x) => if n = 2 then some (.inl (pc + 2, (1, x) :: st, lv, C)) else none
    | _ => none
  | .lload_n k => match zLook lv k with
    | some (1, x) => if n = 1 then some (.inl (pc + 1, (1, x) :: st, lv, C)) else none
    | _ => none
  | .aload k => match zLook lv k with
    | some (2, x) => if n = 2 then some (.inl (pc + 2, (2, x) :: st, lv, C)) else none
    | _ => none
  | .aload_n k => match zLook lv k with
    | some (2, x) => if n = 1 then some (.inl (pc + 1, (2, x) :: st, lv, C)) else none
    | _ => none
  | .istore k => match st with
    | (0, x) :: r => if n = 2 ∧ k < ev.2.2.1 then some (.inl (pc + 2, r, zSt1 lv k (0, x), C)) else none
    | _ => none
  | .istore_n k => match st with
    | (0, x) :: r => if n = 1 ∧ (k : Nat) < ev.2.2.1 then some (.inl (pc + 1, r, zSt1 lv k (0, x), C)) else none
    | _ => none
  | .lstore k => match st with
    | (1, x) :: r => if n = 2 ∧ k + 1 < ev.2.2.1 then some (.inl (pc + 2, r, zSt2 lv k (1, x), C)) else none
    | _ => none
  | .lstore_n k => match st with
    | (1, x) :: r => if n = 1 ∧ (k : Nat) + 1 < ev.2.2.1 then some (.inl (pc + 1, r, zSt2 lv k (1, x), C)) else none
    | _ => none
  | .astore k => match st with
    | (2, x) :: r => if n = 2 ∧ k < ev.2.2.1 then some (.inl (pc + 2, r, zSt1 lv k (2, x), C)) else none
    | _ => none
  | .astore_n k => match st with
    | (2, x) :: r => if n = 1 ∧ (k : Nat) < ev.2.2.1 then some (.inl (pc + 1, r, zSt1 lv k (2, x), C)) else none
    | _ => none
  | .iinc k d => match zLook lv k with
    | some (0, x) => if n = 3 ∧ k < ev.2.2.1 then some (.inl (pc + 3, st, zSt1 lv k (0, zw32 (x + d)), C)) else none
    | _ => none
  | .iadd => match st with
    | (0, y) :: (0, x) :: r => if n = 1 then some (.inl (pc + 1, (0, zw32 (x + y)) :: r, lv, C)) else none
    | _ => none
  | .isub => match st with
    | (0, y) :: (0, x) :: r => if n = 1 then some (.inl (pc + 1, (0, zw32 (x - y)) :: r, lv, C)) else none
    | _ => none
  | .imul => match st with
    | (0, y) :: (0, x) :: r => if n = 1 then some (.inl (pc + 1, (0, zw32 (x * y)) :: r, lv, C)) else none
    | _ => none
  | .idiv => match st with
    | (0, y) :: (0, x) :: r => if n = 1 ∧ y ≠ 0 then some (.inl (pc + 1, (0, zw32 (x.tdiv y)) :: r, lv, C)) else none
    | _ => none
  | .irem => match st with
    | (0, y) :: (0, x) :: r => if n = 1 ∧ y ≠ 0 then some (.inl (pc + 1, (0, x.tmod y) :: r, lv, C)) else none
    | _ => none
  | .ineg => match st with
    | (0, x) :: r => if n = 1 then some (.inl (pc + 1, (0, zw32 (-x)) :: r, lv, C)) else none
    | _ => none
  | .iand => match st with
    | (0, y) :: (0, x) :: r => if n = 1 then some (.inl (pc + 1, (0, zand x y) :: r, lv, C)) else none
    | _ => none
  | .ior => match st with
    | (0, y) :: (0, x) :: r => if n = 1 then some (.inl (pc + 1, (0, zor x y) :: r, lv, C)) else none
    | _ => none
  | .ixor => match st with
    | (0, y) :: (0, x) :: r => if n = 1 then some (.inl (pc + 1, (0, zxor x y) :: r, lv, C)) else none
    | _ => none
  | .ishl => match st with
    | (0, y) :: (0, x) :: r => if n = 1 then some (.inl (pc + 1, (0, zshl x y) :: r, lv, C)) else none
    | _ => none
  | .ishr => match st with
    | (0, y) :: (0, x) :: r => if n = 1 then some (.inl (pc + 1, (0, zshr x y) :: r, lv, C)) else none
    | _ => none
  | .iushr => match st with
    | (0, y) :: (0, x) :: r => if n = 1 then some (.inl (pc + 1, (0, zushr x y) :: r, lv, C)) else none
    | _ => none
  | .i2l => match st with
    | (0, x) :: r => if n = 1 then some (.inl (pc + 1, (1, x) :: r, lv, C)) else none
    | _ => none
  | .l2i => match st with
    | (1, x) :: r => if n = 1 then some (.inl (pc + 1, (0, zw32 x) :: r, lv, C)) else none
    | _ => none
  | .i2b => match st with
    | (0, x) :: r => if n = 1 then some (.inl (pc + 1, (0, zi2b x) :: r, lv, C)) else none
    | _ => none
  | .ladd => match st with
    | (1, y) :: (1, x) :: r => if n = 1 then some (.inl (pc + 1, (1, zw64 (x + y)) :: r, lv, C)) else none
    | _ => none
  | .lsub => match st with
    | (1, y) :: (1, x) :: r => if n = 1 then some (.inl (pc + 1, (1, zw64 (x - y)) :: r, lv, C)) else none
    | _ => none
  | .lmul => match st with
    | (1, y) :: (1, x) :: r => if n = 1 then some (.inl (pc + 1, (1, zw64 (x * y)) :: r, lv, C)) else none
    | _ => none
  | .lcmp => match st with
    | (1, y) :: (1, x) :: r => if n = 1 then some (.inl (pc + 1, (0, zcmp x y) :: r, lv, C)) else none
    | _ => none
  | .dup => match st with
    | v :: r => if n = 1 ∧ zcat v = 1 then some (.inl (pc + 1, v :: v :: r, lv, C)) else none
    | _ => none
  | .dup2 => match st with
    | v :: w :: r => if n = 1 ∧ zcat v = 1 ∧ zcat w = 1 then some (.inl (pc + 1, v :: w :: v :: w :: r, lv, C)) else none
    | _ => none
  | .pop => match st with
    | v :: r => if n = 1 ∧ zcat v = 1 then some (.inl (pc + 1, r, lv, C)) else none
    | _ => none
  | .ifCond c off => match st with
    | (0, x) :: r => zxJ (zxcond c x 0 = true) pc off n r lv C
    | _ => none
  | .if_icmp c off => match st with
    | (0, y) :: (0, x) :: r => zxJ (zxcond c x y = true) pc off n r lv C
    | _ => none
  | .ifnull off => match st with
    | (2, x) :: r => zxJ (x = -1) pc off n r lv C
    | _ => none
  | .ifnonnull off => match st with
    | (2, x) :: r => zxJ (¬ x = -1) pc off n r lv C
    | _ => none
  | .goto off => zxJ True pc off n st lv C
  | .tableswitch dflt lo hi offs => match st with
    | (0, x) :: r => if x < lo ∨ hi < x then (if 0 ≤ (pc : Int) + dflt then some (.inl (((pc : Int) + dflt).toNat, r, lv, C)) else none)
      else (match offs[(x - lo).toNat]? with
        | some off => if 0 ≤ (pc : Int) + off then some (.inl (((pc : Int) + off).toNat, r, lv, C)) else none
        | none => none)
    | _ => none
  | .getfield k => match st with
    | (2, o) :: r => match ev.2.2.2.2.1 k with
      | some (ci, j) => match zFld S o ci j with
        | some none => if n = 3 then some (.inl (pc + 3, (0, zmM C o j) :: r, lv, C)) else none
        | some (some q) => if n = 3 then some (.inl (pc + 3, zrv q :: r, lv, C)) else none
        | none => none
      | none => none
    | _ => none
  | .putfield k => match st with
    | (0, x) :: (2, o) :: r => match ev.2.2.2.2.1 k with
      | some (ci, j) => if n = 3 ∧ zFld S o ci j = some none then some (.inl (pc + 3, r, lv, zmPut C o (zrs (zmRow C o) j x))) else none
      | none => none
    | _ => none
  | .arraylength => match st with
    | (2, a) :: r => match zxA S a with
      | some (_, k, _) => if n = 1 ∧ k < 2147483648 then some (.inl (pc + 1, (0, (k : Int)) :: r, lv, C)) else none
      | none => none
    | _ => none
  | .iaload => match st with
    | (0, j) :: (2, a) :: r => match zxA S a with
      | some (.int, k, _) => if n = 1 ∧ 0 ≤ j ∧ j < k then some (.inl (pc + 1, (0, zmM C a j) :: r, lv, C)) else none
      | _ => none
    | _ => none
  | .baload => match st with
    | (0, j) :: (2, a) :: r => match zxB S a 0 with
      | some k => if n = 1 ∧ 0 ≤ j ∧ j < k then some (.inl (pc + 1, (0, zmM C a j) :: r, lv, C)) else none
      | _ => none
    | _ => none
  | .laload => match st with
    | (0, j) :: (2, a) :: r => match zxA S a with
      | some (.long, k, _) => if n = 1 ∧ 0 ≤ j ∧ j < k then some (.inl (pc + 1, (1, zmM C a j) :: r, lv, C)) else none
      | _ => none
    | _ => none
  | .aaload => match st with
    | (0, j) :: (2, a) :: r => match zxA S a with
      | some (.object _, k, rs) => if n = 1 ∧ 0 ≤ j ∧ j < k then some (.inl (pc + 1, zrv (rs.getD j.toNat none) :: r, lv, C)) else none
      | _ => none
    | _ => none
  | .iastore => match st with
    | (0, x) :: (0, j) :: (2, a) :: r => match zxA S a with
      | some (.int, k, _) => if n = 1 ∧ 0 ≤ j ∧ j < k then some (.inl (pc + 1, r, lv, zmPut C a (zrs (zmRow C a) j x))) else none
      | _ => none
    | _ => none
  | .bastore => match st with
    | (0, x) :: (0, j) :: (2, a) :: r => match zxB S a x with
      | some k => if n = 1 ∧ 0 ≤ j ∧ j < k then some (.inl (pc + 1, r, lv, zmPut C a (zrs (zmRow C a) j x))) else none
      | _ => none
    | _ => none
  | .lastore => match st with
    | (1, x) :: (0, j) :: (2, a) :: r => match zxA S a with
      | some (.long, k, _) => if n = 1 ∧ 0 ≤ j ∧ j < k then some (.inl (pc + 1, r, lv, zmPut C a (zrs (zmRow C a) j x))) else none
      | _ => none
    | _ => none
  | .invokevirtual k => match ev.2.2.2.2.2.1 k with
    | some (0, f, ci, na) => match st.drop na with
      | (2, o) :: rest => if n = 3 ∧ (st.take na).length = na ∧ zxObj S o ci = true then zxCall ev rec f pc ((2, o) :: (st.take na).reverse) rest lv C else none
      | _ => none
    | _ => none
  | .invokestatic k => match ev.2.2.2.2.2.1 k with
    | some (kd, f, _, na) => if kd = 1 ∨ kd = 2 then (if n = 3 ∧ (st.take na).length = na then zxCall ev rec f pc (st.take na).reverse (st.drop na) lv C else none)
      else if kd = 3 ∨ kd = 4 then (match st with
        | (0, y) :: (0, x) :: r => if n = 3 ∧ 1 ≤ ev.2.2.2.2.2.2.2.1 ∧ zcats r + 13 ≤ ev.2.2.2.2.2.2.2.2.1 then some (.inl (pc + 3, (0, if kd = 3 then max x y else min x y) :: r, lv, C)) else none
        | _ => none)
      else if kd = 5 then (match st with
        | (0, cn) :: (0, dp) :: (2, a1) :: (0, sp) :: (2, a0) :: rest => match zxA S a0, zxA S a1 with
          | some (.int, k0, _), some (.int, k1, _) => if n = 3 ∧ 0 ≤ sp ∧ 0 ≤ dp ∧ 0 ≤ cn ∧ sp + cn ≤ k0 ∧ dp + cn ≤ k1 ∧ 1 ≤ ev.2.2.2.2.2.2.2.1 ∧ zcats rest + (nativeFrameWords "java/lang/System" "arraycopy" 5 + 11) ≤ ev.2.2.2.2.2.2.2.2.1 then
              some (.inl (pc + 3, rest, lv, zmPut C a1 (zrmov sp dp cn (zrcut dp cn (zmRow C a1)) (zmRow C a0)))) else none
          | _, _ => none
        | _ => none) else none
    | none => none
  | .ireturn => match st with
    | [(0, x)] => if n = 1 ∧ ((ev.2.2.2.1 = some .boolean ∧ (x = 0 ∨ x = 1)) ∨ ev.2.2.2.1 = some .int) then some (.inr (some (0, x), C)) else none
    | _ => none
  | .lreturn => match st with
    | [(1, x)] => if n = 1 ∧ ev.2.2.2.1 = some .long then some (.inr (some (1, x), C)) else none
    | _ => none
  | .areturn => match st with
    | [(2, x)] => match ev.2.2.2.1 with
      | some (.object _) => if n = 1 then some (.inr (some (2, x), C)) else none
      | _ => none
    | _ => none
  | .return_ => match st with
    | [] => if n = 1 ∧ ev.2.2.2.1 = none then some (.inr (none, C)) else none
    | _ => none
  | _ => none
def zxOk (ev : zEv) (S : List zSh) (Rn : zRnT) (rt : Option zV → zMem → Prop) (G : Nat → List zV → zLv → zMem → Prop) (i : Instr) (n pc : Nat) (st : List zV) (lv : zLv) (C : zmC) (r : zxT) : Prop := match r with
  | .inl s => zmS s.2.2.2 = S ∧ (G s.1 s.2.1 s.2.2.1 (zmM s.2.2.2) → zStep ev S Rn rt i n pc st lv (zmM C) G)
  | .inr q => zmS q.2 = S ∧ (rt q.1 (zmM q.2) → zStep ev S Rn rt i n pc st lv (zmM C) G)
def zxRecOk (ev : zEv) (S : List zSh) (Rn : zRnT) (rec : zxRec) : Prop := ∀ f as C v C', zmS C = S → rec f as C = some (v, C') → zmS C' = S ∧ ∀ K : Option zV → zMem → Prop, K v (zmM C') → Rn (ev.2.2.2.2.2.2.2.2.2 f) as (zmM C) K
theorem zxA_some {S : List zSh} {a : Int} {q : FieldType × Nat × List (Option Nat)} (h : zxA S a = some q) : 0 ≤ a ∧ S[a.toNat]? = some (.inl q) := by
  unfold zxA at h
  split at h
  next h0 =>
    split at h
    next q' hq => cases h; exact ⟨h0, hq⟩
    next => cases h
  next => cases h
theorem zxJ_ok {ev : zEv} {S : List zSh} {Rn : zRnT} {rt : Option zV → zMem → Prop} {G : Nat → List zV → zLv → zMem → Prop} {i : Instr} {n pc : Nat} {st st' : List zV} {lv : zLv} {C : zmC} {r : zxT} {c : Prop} [Decidable c] {off : Int} (hS : zmS C = S) (h : zxJ c pc off n st' lv C = some r)
    (k : n = 3 → ∀ t : Nat, (pc : Int) + off = (t : Int) → (c → G t st' lv (zmM C)) → (¬ c → G (pc + 3) st' lv (zmM C)) → zStep ev S Rn rt i n pc st lv (zmM C) G) : zxOk ev S Rn rt G i n pc st lv C r := by
  unfold zxJ at h
  split at h
  next q =>
    cases h
    refine ⟨hS, fun g => ?_⟩
    dsimp only at g
    refine k q.1 ((pc : Int) + off).toNat (by omega) (fun hc => ?_) (fun hc => ?_)
    · rw [if_pos hc] at g; exact g
    · rw [if_neg hc] at g; exact g
  next => cases h
theorem zxCall_ok {ev : zEv} {S : List zSh} {Rn : zRnT} {rt : Option zV → zMem → Prop} {G : Nat → List zV → zLv → zMem → Prop} {rec : zxRec} {i : Instr} {n pc f : Nat} {st as rest : List zV} {lv : zLv} {C : zmC} {r : zxT} (hS : zmS C = S) (hrec : zxRecOk ev S Rn rec) (h : zxCall ev rec f pc as rest lv C = some r)
    (k : zcats rest ≤ 8 → (ev.2.2.2.2.2.2.2.2.2 f).2.2.2.2.1 + 1 ≤ ev.2.2.2.2.2.2.2.1 → 8 + ((ev.2.2.2.2.2.2.2.2.2 f).2.2.1 + 11) + (ev.2.2.2.2.2.2.2.2.2 f).2.2.2.2.2 ≤ ev.2.2.2.2.2.2.2.2.1 → Rn (ev.2.2.2.2.2.2.2.2.2 f) as (zmM C) (fun v M' => G (pc + 3) (v.toList ++ rest) lv M') → zStep ev S Rn rt i n pc st lv (zmM C) G) : zxOk ev S Rn rt G i n pc st lv C r := by
  unfold zxCall at h
  split at h
  next q =>
    split at h
    next v C' hr =>
      cases h
      obtain ⟨h1, h2⟩ := hrec f as C v C' hS hr
      exact ⟨h1, fun g => k q.1 q.2.1 q.2.2 (h2 _ g)⟩
    next => cases h
  next => cases h
theorem zmPut_ok {S : List zSh} {C : zmC} {a j x : Int} {sh : zSh} (hS : zmS C = S) (h0 : 0 ≤ a) (h : S[a.toNat]? = some sh) : zmS (zmPut C a (zrs (zmRow C a) j x)) = S ∧ zmM (zmPut C a (zrs (zmRow C a) j x)) = zput (zmM C) a (zup (zmM C a) j x) := by
  refine ⟨by rw [zmPut_S, hS], ?_⟩
  rw [zmPut_M h0 (by rw [hS]; exact h), zrg_set]
  rfl
theorem zxB_some {S : List zSh} {a x : Int} {k : Nat} (h : zxB S a x = some k) : 0 ≤ a ∧ ∃ sh, S[a.toNat]? = some sh ∧ ((zArr S a .boolean k ∧ (x = 0 ∨ x = 1)) ∨ (zArr S a .byte k ∧ -128 ≤ x ∧ x < 128)) := by
  unfold zxB at h
  split at h
  next k' rs e =>
    split at h
    next q =>
      cases h
      obtain ⟨h0, h1⟩ := zxA_some e
      exact ⟨h0, _, h1, Or.inl ⟨⟨h0, _, h1⟩, q⟩⟩
    next => cases h
  next k' rs e =>
    split at h
    next q =>
      cases h
      obtain ⟨h0, h1⟩ := zxA_some e
      exact ⟨h0, _, h1, Or.inr ⟨⟨h0, _, h1⟩, q⟩⟩
    next => cases h
  next => cases h
set_option maxHeartbeats 4000000 in
theorem zxE_ok {ev : zEv} {S : List zSh} {Rn : zRnT} {rt : Option zV → zMem → Prop} {G : Nat → List zV → zLv → zMem → Prop} {rec : zxRec} {i : Instr} {n pc : Nat} {st : List zV} {lv : zLv} {C : zmC} {r : zxT} (hS : zmS C = S) (hrec : zxRecOk ev S Rn rec) (h : zxE ev S rec i n pc st lv C = some r) : zxOk ev S Rn rt G i n pc st lv C r := by
  cases i
  case iconst => simp only [zxE] at h; split at h; (next q => cases h; exact ⟨hS, fun g => ⟨q.1, q.2, g⟩⟩); (next => cases h)
  case bipush => simp only [zxE] at h; split at h; (next q => cases h; exact ⟨hS, fun g => ⟨q.1, q.2, g⟩⟩); (next => cases h)
  case sipush => simp only [zxE] at h; split at h; (next q => cases h; exact ⟨hS, fun g => ⟨q.1, q.2, g⟩⟩); (next => cases h)
  case lconst => simp only [zxE] at h; split at h; (next q => cases h; exact ⟨hS, fun g => ⟨q, g⟩⟩); (next => cases h)
  case aconst_null => simp only [zxE] at h; split at h; (next q => cases h; exact ⟨hS, fun g => ⟨q, g⟩⟩); (next => cases h)
  case ldc => simp only [zxE] at h; split at h; (next e => (split at h; (next q => cases h; exact ⟨hS, fun g => ⟨q.1, _, e, q.2, g⟩⟩); (next => cases h))); (next => cases h)
  case ldc_w => simp only [zxE] at h; split at h; (next e => (split at h; (next q => cases h; exact ⟨hS, fun g => ⟨q.1, _, e, q.2, g⟩⟩); (next => cases h))); (next => cases h)
  case ldc2_w => simp only [zxE] at h; split at h; (next e => (split at h; (next q => cases h; exact ⟨hS, fun g => ⟨q.1, _, e, q.2, g⟩⟩); (next => cases h))); (next => cases h)
  case iload => simp only [zxE] at h; split at h; (next e => (split at h; (next q => cases h; exact ⟨hS, fun g => ⟨q, _, e, g⟩⟩); (next => cases h))); (next => cases h)
  case iload_n => simp only [zxE] at h; split at h; (next e => (split at h; (next q => cases h; exact ⟨hS, fun g => ⟨q, _, e, g⟩⟩); (next => cases h))); (next => cases h)
  case lload => simp only [zxE] at h; split at h; (next e => (split at h; (next q => cases h; exact ⟨hS, fun g => ⟨q, _, e, g⟩⟩); (next => cases h))); (next => cases h)
  case lload_n => simp only [zxE] at h; split at h; (next e => (split at h; (next q => cases h; exact ⟨hS, fun g => ⟨q, _, e, g⟩⟩); (next => cases h))); (next => cases h)
  case aload => simp only [zxE] at h; split at h; (next e => (split at h; (next q => cases h; exact ⟨hS, fun g => ⟨q, _, e, g⟩⟩); (next => cases h))); (next => cases h)
  case aload_n => simp only [zxE] at h; split at h; (next e => (split at h; (next q => cases h; exact ⟨hS, fun g => ⟨q, _, e, g⟩⟩); (next => cases h))); (next => cases h)
  case istore => simp only [zxE] at h; split at h; (next => (split at h; (next q => cases h; exact ⟨hS, fun g => ⟨q.1, q.2, _, _, rfl, g⟩⟩); (next => cases h))); (next => cases h)
  case istore_n => simp only [zxE] at h; split at h; (next => (split at h; (next q => cases h; exact ⟨hS, fun g => ⟨q.1, q.2, _, _, rfl, g⟩⟩); (next => cases h))); (next => cases h)
  case lstore => simp only [zxE] at h; split at h; (next => (split at h; (next q => cases h; exact ⟨hS, fun g => ⟨q.1, q.2, _, _, rfl, g⟩⟩); (next => cases h))); (next => cases h)
  case lstore_n => simp only [zxE] at h; split at h; (next => (split at h; (next q => cases h; exact ⟨hS, fun g => ⟨q.1, q.2, _, _, rfl, g⟩⟩); (next => cases h))); (next => cases h)
  case astore => simp only [zxE] at h; split at h; (next => (split at h; (next q => cases h; exact ⟨hS, fun g => ⟨q.1, q.2, _, _, rfl, g⟩⟩); (next => cases h))); (next => cases h)
  case astore_n => simp only [zxE] at h; split at h; (next => (split at h; (next q => cases h; exact ⟨hS, fun g => ⟨q.1, q.2, _, _, rfl, g⟩⟩); (next => cases h))); (next => cases h)
  case iinc => simp only [zxE] at h; split at h; (next e => (split at h; (next q => cases h; exact ⟨hS, fun g => ⟨q.1, q.2, _, e, g⟩⟩); (next => cases h))); (next => cases h)
  case iadd => simp only [zxE] at h; split at h; (next => (split at h; (next q => cases h; exact ⟨hS, fun g => ⟨q, _, _, _, rfl, g⟩⟩); (next => cases h))); (next => cases h)
  case isub => simp only [zxE] at h; split at h; (next => (split at h; (next q => cases h; exact ⟨hS, fun g => ⟨q, _, _, _, rfl, g⟩⟩); (next => cases h))); (next => cases h)
  case imul => simp only [zxE] at h; split at h; (next => (split at h; (next q => cases h; exact ⟨hS, fun g => ⟨q, _, _, _, rfl, g⟩⟩); (next => cases h))); (next => cases h)
  case idiv => simp only [zxE] at h; split at h; (next => (split at h; (next q => cases h; exact ⟨hS, fun g => ⟨q.1, _, _, _, rfl, q.2, g⟩⟩); (next => cases h))); (next => cases h)
  case irem => simp only [zxE] at h; split at h; (next => (split at h; (next q => cases h; exact ⟨hS, fun g => ⟨q.1, _, _, _, rfl, q.2, g⟩⟩); (next => cases h))); (next => cases h)
  case ineg => simp only [zxE] at h; split at h; (next => (split at h; (next q => cases h; exact ⟨hS, fun g => ⟨q, _, _, rfl, g⟩⟩); (next => cases h))); (next => cases h)
  case iand => simp only [zxE] at h; split at h; (next => (split at h; (next q => cases h; exact ⟨hS, fun g => ⟨q, _, _, _, rfl, g⟩⟩); (next => cases h))); (next => cases h)
  case ior => simp only [zxE] at h; split at h; (next => (split at h; (next q => cases h; exact ⟨hS, fun g => ⟨q, _, _, _, rfl, g⟩⟩); (next => cases h))); (next => cases h)
  case ixor => simp only [zxE] at h; split at h; (next => (split at h; (next q => cases h; exact ⟨hS, fun g => ⟨q, _, _, _, rfl, g⟩⟩); (next => cases h))); (next => cases h)
  case ishl => simp only [zxE] at h; split at h; (next => (split at h; (next q => cases h; exact ⟨hS, fun g => ⟨q, _, _, _, rfl, g⟩⟩); (next => cases h))); (next => cases h)
  case ishr => simp only [zxE] at h; split at h; (next => (split at h; (next q => cases h; exact ⟨hS, fun g => ⟨q, _, _, _, rfl, g⟩⟩); (next => cases h))); (next => cases h)
  case iushr => simp only [zxE] at h; split at h; (next => (split at h; (next q => cases h; exact ⟨hS, fun g => ⟨q, _, _, _, rfl, g⟩⟩); (next => cases h))); (next => cases h)
  case i2l => simp only [zxE] at h; split at h; (next => (split at h; (next q => cases h; exact ⟨hS, fun g => ⟨q, _, _, rfl, g⟩⟩); (next => cases h))); (next => cases h)
  case l2i => simp only [zxE] at h; split at h; (next => (split at h; (next q => cases h; exact ⟨hS, fun g => ⟨q, _, _, rfl, g⟩⟩); (next => cases h))); (next => cases h)
  case i2b => simp only [zxE] at h; split at h; (next => (split at h; (next q => cases h; exact ⟨hS, fun g => ⟨q, _, _, rfl, g⟩⟩); (next => cases h))); (next => cases h)
  case ladd => simp only [zxE] at h; split at h; (next => (split at h; (next q => cases h; exact ⟨hS, fun g => ⟨q, _, _, _, rfl, g⟩⟩); (next => cases h))); (next => cases h)
  case lsub => simp only [zxE] at h; split at h; (next => (split at h; (next q => cases h; exact ⟨hS, fun g => ⟨q, _, _, _, rfl, g⟩⟩); (next => cases h))); (next => cases h)
  case lmul => simp only [zxE] at h; split at h; (next => (split at h; (next q => cases h; exact ⟨hS, fun g => ⟨q, _, _, _, rfl, g⟩⟩); (next => cases h))); (next => cases h)
  case lcmp => simp only [zxE] at h; split at h; (next => (split at h; (next q => cases h; exact ⟨hS, fun g => ⟨q, _, _, _, rfl, g⟩⟩); (next => cases h))); (next => cases h)
  case dup => simp only [zxE] at h; split at h; (next => (split at h; (next q => cases h; exact ⟨hS, fun g => ⟨q.1, _, _, rfl, q.2, g⟩⟩); (next => cases h))); (next => cases h)
  case dup2 => simp only [zxE] at h; split at h; (next => (split at h; (next q => cases h; exact ⟨hS, fun g => ⟨q.1, _, _, _, rfl, q.2.1, q.2.2, g⟩⟩); (next => cases h))); (next => cases h)
  case pop => simp only [zxE] at h; split at h; (next => (split at h; (next q => cases h; exact ⟨hS, fun g => ⟨q.1, _, _, rfl, q.2, g⟩⟩); (next => cases h))); (next => cases h)
  case ifCond => simp only [zxE] at h; split at h; (next => exact zxJ_ok hS h (fun hn t ht g1 g2 => ⟨hn, _, _, t, rfl, ht, fun z => g1 (zxcond_iff.mpr z), fun z => g2 (fun y => z (zxcond_iff.mp y))⟩)); (next => cases h)
  case if_icmp => simp only [zxE] at h; split at h; (next => exact zxJ_ok hS h (fun hn t ht g1 g2 => ⟨hn, _, _, _, t, rfl, ht, fun z => g1 (zxcond_iff.mpr z), fun z => g2 (fun y => z (zxcond_iff.mp y))⟩)); (next => cases h)
  case ifnull => simp only [zxE] at h; split at h; (next => exact zxJ_ok hS h (fun hn t ht g1 g2 => ⟨hn, _, _, t, rfl, ht, g1, g2⟩)); (next => cases h)
  case ifnonnull => simp only [zxE] at h; split at h; (next => exact zxJ_ok hS h (fun hn t ht g1 g2 => ⟨hn, _, _, t, rfl, ht, g1, fun z => g2 (fun y => y z)⟩)); (next => cases h)
  case goto => simp only [zxE] at h; exact zxJ_ok hS h (fun hn t ht g1 g2 => ⟨hn, t, ht, g1 trivial⟩)
  case tableswitch =>
    simp only [zxE] at h
    split at h
    · split at h
      · next q =>
          split at h
          · cases h; exact ⟨hS, fun g => ⟨_, _, rfl, fun _ => ⟨_, (Int.toNat_of_nonneg (by assumption)).symm, g⟩, fun z => absurd q z⟩⟩
          · cases h
      · next q =>
          split at h
          · next e =>
              split at h
              · cases h; exact ⟨hS, fun g => ⟨_, _, rfl, fun z => absurd z q, fun _ => ⟨_, _, e, (Int.toNat_of_nonneg (by assumption)).symm, g⟩⟩⟩
              · cases h
          · cases h
    · cases h
  case getfield =>
    simp only [zxE] at h
    split at h
    · split at h
      · next e =>
          split at h
          · next e2 => (split at h; (next q => cases h; exact ⟨hS, fun g => ⟨q, _, _, _, _, rfl, e, Or.inl ⟨e2, g⟩⟩⟩); (next => cases h))
          · next e2 => (split at h; (next q => cases h; exact ⟨hS, fun g => ⟨q, _, _, _, _, rfl, e, Or.inr ⟨_, e2, g⟩⟩⟩); (next => cases h))
          · cases h
      · cases h
    · cases h
  case putfield =>
    simp only [zxE] at h
    split at h
    · split at h
      · next e =>
          split at h
          · next q =>
              cases h
              obtain ⟨h0, fks, h1, -⟩ := zFld_inv q.2
              obtain ⟨k1, k2⟩ := zmPut_ok hS h0 h1
              exact ⟨k1, fun g => ⟨q.1, _, _, _, _, _, rfl, e, q.2, by rw [k2] at g; exact g⟩⟩
          · cases h
      · cases h
    · cases h
  case arraylength =>
    simp only [zxE] at h
    split at h
    · split at h
      · next e => (split at h; (next q => cases h; exact ⟨hS, fun g => ⟨q.1, _, _, _, _, rfl, ⟨(zxA_some e).1, _, (zxA_some e).2⟩, q.2, g⟩⟩); (next => cases h))
      · cases h
    · cases h
  case iaload =>
    simp only [zxE] at h
    split at h
    · split at h
      · next e => (split at h; (next q => cases h; exact ⟨hS, fun g => ⟨q.1, _, _, _, _, rfl, ⟨(zxA_some e).1, _, (zxA_some e).2⟩, q.2.1, q.2.2, g⟩⟩); (next => cases h))
      · cases h
    · cases h
  case baload =>
    simp only [zxE] at h
    split at h
    · split at h
      · next e => (split at h; (next q => cases h; exact ⟨hS, fun g => ⟨q.1, _, _, _, _, rfl, (zxB_some e).2.choose_spec.2.imp (fun z => z.1) (fun z => z.1), q.2.1, q.2.2, g⟩⟩); (next => cases h))
      · cases h
    · cases h
  case laload =>
    simp only [zxE] at h
    split at h
    · split at h
      · next e => (split at h; (next q => cases h; exact ⟨hS, fun g => ⟨q.1, _, _, _, _, rfl, ⟨(zxA_some e).1, _, (zxA_some e).2⟩, q.2.1, q.2.2, g⟩⟩); (next => cases h))
      · cases h
    · cases h
  case aaload =>
    simp only [zxE] at h
    split at h
    · split at h
      · next e => (split at h; (next q => cases h; exact ⟨hS, fun g => ⟨q.1, _, _, _, _, _, _, rfl, zxA_some e, q.2.1, q.2.2, g⟩⟩); (next => cases h))
      · cases h
    · cases h
  case iastore =>
    simp only [zxE] at h
    split at h
    · split at h
      · next e =>
          split at h
          · next q =>
              cases h
              obtain ⟨h0, h1⟩ := zxA_some e
              obtain ⟨k1, k2⟩ := zmPut_ok hS h0 h1
              exact ⟨k1, fun g => ⟨q.1, _, _, _, _, _, rfl, ⟨h0, _, h1⟩, q.2.1, q.2.2, by rw [k2] at g; exact g⟩⟩
          · cases h
      · cases h
    · cases h
  case bastore =>
    simp only [zxE] at h
    split at h
    · split at h
      · next e =>
          split at h
          · next q =>
              cases h
              obtain ⟨h0, sh, h1, h2⟩ := zxB_some e
              obtain ⟨k1, k2⟩ := zmPut_ok hS h0 h1
              exact ⟨k1, fun g => ⟨q.1, _, _, _, _, _, rfl, h2, q.2.1, q.2.2, by rw [k2] at g; exact g⟩⟩
          · cases h
      · cases h
    · cases h
  case lastore =>
    simp only [zxE] at h
    split at h
    · split at h
      · next e =>
          split at h
          · next q =>
              cases h
              obtain ⟨h0, h1⟩ := zxA_some e
              obtain ⟨k1, k2⟩ := zmPut_ok hS h0 h1
              exact ⟨k1, fun g => ⟨q.1, _, _, _, _, _, rfl, ⟨h0, _, h1⟩, q.2.1, q.2.2, by rw [k2] at g; exact g⟩⟩
          · cases h
      · cases h
    · cases h
  case invokevirtual k =>
    simp only [zxE] at h
    split at h
    · next f ci na e =>
        split at h
        · next o rest e2 =>
            split at h
            · next q =>
                obtain ⟨q1, q2, q3⟩ := q
                have hst : st = (st.take na).reverse.reverse ++ (2, o) :: rest := by rw [List.reverse_reverse, ← e2, List.take_append_drop]
                have hob : zObj S o ci := zxObj_ok q3
                refine zxCall_ok hS hrec h (fun a1 a2 a3 a4 => ⟨q1, o, (st.take na).reverse, rest, f, ci, na, hst, e, by rw [List.length_reverse]; exact q2, hob, a1, a2, a3, a4⟩)
            · cases h
        · cases h
    · cases h
  case invokestatic k =>
    simp only [zxE] at h
    split at h
    · next kd f ci na e =>
        split at h
        · next hkd =>
            split at h
            · next q =>
                refine zxCall_ok hS hrec h (fun a1 a2 a3 a4 => ⟨q.1, Or.inl ⟨(st.take na).reverse, st.drop na, kd, f, ci, na, hkd, by rw [List.reverse_reverse, List.take_append_drop], e, by rw [List.length_reverse]; exact q.2, a1, a2, a3, a4⟩⟩)
            · cases h
        · split at h
          · next hkd =>
              split at h
              · split at h
                · next q => cases h; exact ⟨hS, fun g => ⟨q.1, Or.inr (Or.inr ⟨_, _, _, kd, f, ci, na, rfl, e, hkd, q.2.1, q.2.2, g⟩)⟩⟩
                · cases h
              · cases h
          · split at h
            · next hkd =>
                subst hkd
                split at h
                · split at h
                  · next e0 e1 =>
                      split at h
                      · next q =>
                          cases h
                          obtain ⟨q1, q2, q3, q4, q5, q6, q7, q8⟩ := q
                          obtain ⟨h00, h01⟩ := zxA_some e0
                          obtain ⟨h10, h11⟩ := zxA_some e1
                          refine ⟨by rw [zmPut_S, hS], fun g => ⟨q1, Or.inr (Or.inl ⟨_, _, _, _, _, _, f, ci, na, _, _, rfl, e, ⟨h00, _, h01⟩, ⟨h10, _, h11⟩, q2, q3, q4, q5, q6, q7, q8, ?_⟩)⟩⟩
                          dsimp only at g
                          rw [zmPut_M h10 (by rw [hS]; exact h11), zrg_mov] at g
                          exact g
                      · cases h
                  · cases h
                · cases h
            · cases h
    · cases h
  case ireturn => simp only [zxE] at h; split at h; (next => (split at h; (next q => cases h; exact ⟨hS, fun g => ⟨q.1, _, rfl, q.2, g⟩⟩); (next => cases h))); (next => cases h)
  case lreturn => simp only [zxE] at h; split at h; (next => (split at h; (next q => cases h; exact ⟨hS, fun g => ⟨q.1, _, rfl, q.2, g⟩⟩); (next => cases h))); (next => cases h)
  case areturn =>
    simp only [zxE] at h
    split at h
    · split at h
      · next e => (split at h; (next q => cases h; exact ⟨hS, fun g => ⟨q, _, _, rfl, e, g⟩⟩); (next => cases h))
      · cases h
    · cases h
  case return_ => simp only [zxE] at h; split at h; (next => (split at h; (next q => cases h; exact ⟨hS, fun g => ⟨q.1, rfl, q.2, g⟩⟩); (next => cases h))); (next => cases h)
  all_goals (simp only [zxE] at h; cases h)
def zxL (ev : zEv) (S : List zSh) (rec : zxRec) : Nat → zxS → Option (Option zV × zmC)
  | 0, _ => none
  | k + 1, s => match zqF ev.2.1 s.1 with
    | some q => match zxE ev S rec q.1 q.2 s.1 s.2.1 s.2.2.1 s.2.2.2 with
      | some (.inl s') => zxL ev S rec k s'
      | some (.inr r) => some r
      | none => none
    | none => none
theorem zxL_ok {ev : zEv} {S : List zSh} {Rn : zRnT} {rt : Option zV → zMem → Prop} {G : Nat → List zV → zLv → zMem → Prop} {rec : zxRec} (hrec : zxRecOk ev S Rn rec) (hG : zClosed ev S Rn rt G) {v : Option zV} {C' : zmC} : ∀ k s, zmS s.2.2.2 = S → zxL ev S rec k s = some (v, C') → zmS C' = S ∧ (rt v (zmM C') → G s.1 s.2.1 s.2.2.1 (zmM s.2.2.2)) := by
  intro k
  induction k with
  | zero => intro s hs h; cases h
  | succ k ih =>
    intro s hs h
    simp only [zxL] at h
    split at h
    · next q hd =>
        split at h
        · next s' he =>
            have h1 := zxE_ok (rt := rt) (G := G) hs hrec he
            obtain ⟨h2, h3⟩ := ih s' h1.1 h
            exact ⟨h2, fun z => hG.1 _ _ _ _ _ _ (zqF_d hd) (h1.2 (h3 z))⟩
        · next r he =>
            have h1 := zxE_ok (rt := rt) (G := G) hs hrec he
            cases h
            exact ⟨h1.1, fun z => hG.1 _ _ _ _ _ _ (zqF_d hd) (h1.2 z)⟩
        · cases h
    · cases h
