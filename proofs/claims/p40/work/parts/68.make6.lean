def zkF {α : Type} (L : List (Nat × α)) (k : Nat) : Option α := (L.find? (fun e => e.1 == k)).map (·.2)
theorem zkF_mem {α : Type} {L : List (Nat × α)} {k : Nat} {x : α} (h : zkF L k = some x) : (k, x) ∈ L := by
  obtain ⟨⟨k', x'⟩, h1, h2⟩ := Option.map_eq_some_iff.mp h
  have h3 := List.find?_some h1
  have h4 : k' = k := by simpa using h3
  cases h2
  subst h4
  exact List.mem_of_find?_eq_some h1
abbrev zmT : Type := Nat × List zV × zLv × zmC × Nat × Nat
/-- a frame's tables: its class's number, its pool of fields and of methods, its locals, code, room -/
abbrev zmF : Type := Nat × zEv
def zatT : ArrayType → Option FieldType
  | .int => some .int
  | .boolean => some .boolean
  | .byte => some .byte
  | .long => some .long
  | _ => none
def zin32B (x : Int) : Bool := decide (-2147483648 ≤ x ∧ x < 2147483648)
theorem zin32B_ok {x : Int} (h : zin32B x = true) : zin32 x := by
  simp only [zin32B, decide_eq_true_eq] at h
  exact h
def zin64B (x : Int) : Bool := decide (-9223372036854775808 ≤ x ∧ x < 9223372036854775808)
abbrev zmRec : Type := Nat → Option (zmC × Nat × Nat)
def zmNewB (C : zmC) (o : Int) (ci : Nat) : Bool := if o < 0 then false else match C[o.toNat]? with
  | some (.inr (ci', fks), []) => decide (ci' = ci) && decide (fks = zFks ci)
  | _ => false
def zfinB (ci j : Nat) : Bool := match zCl[ci]? with
  | some (_, T, _) => (T j).2.2.2
  | none => false
def znfinB (ci j : Nat) : Bool := match zCl[ci]? with
  | some (_, T, _) => !(T j).2.2.2
  | none => false
/-- putfield -/
def zmPutf (c0 : Nat) (C : zmC) (ci j : Nat) (v : zV) (o : Int) : Option zmC := if o < 0 then none else match C[o.toNat]? with
  | some (.inr (ci', fks), r) => if ci' = ci then (match v.1, fks[j]? with
      | 0, some none => if znfinB ci j = true then some (C.set o.toNat (.inr (ci, fks), zrs r j v.2)) else none
      | 2, some _ => if ci = c0 ∧ 0 ≤ v.2 ∧ zfinB ci j = true then some (C.set o.toNat (.inr (ci, fks.set j (some (some v.2.toNat))), r)) else none
      | _, _ => none) else none
  | _ => none
def zmGetf (C : zmC) (ci j : Nat) (o : Int) : Option Nat := if o < 0 then none else match C[o.toNat]? with
  | some (.inr (ci', fks), _) => if ci' = ci then (match fks[j]? with
      | some (some (some v)) => some v
      | _ => none) else none
  | _ => none
def zmAast (C : zmC) (a i v : Int) : Option zmC := if a < 0 ∨ i < 0 ∨ v < 0 then none else match C[a.toNat]?, C[v.toNat]? with
  | some (.inl (.object Cn, n, rs), r), some (.inr (ci, _), _) => if Cn = zCn ci ∧ (ci = 2 ∨ ci = 4) ∧ i.toNat < n ∧ n < 1048576 ∧ i.toNat < rs.length then some (C.set a.toNat (.inl (.object Cn, n, rs.set i.toNat (some v.toNat)), r)) else none
  | _, _ => none
def zmLast (C : zmC) (a i x : Int) : Option zmC := if a < 0 ∨ i < 0 then none else match C[a.toNat]? with
  | some (.inl (.long, n, rs), r) => if i.toNat < n ∧ n < 1048576 then some (C.set a.toNat (.inl (.long, n, rs), zrs r i x)) else none
  | _ => none
def zmE (F : zmF) (rec : zmRec) (i : Instr) (n : Nat) (s : zmT) : Option (zmT ⊕ (zmC × Nat × Nat)) :=
  match i, s with
  | .aload_n k, (pc, st, lv, C, nc, ns) => match zLook lv k with
    | some (2, x) => if n = 1 ∧ 0 ≤ x then some (.inl (pc + 1, (2, x) :: st, lv, C, nc, ns)) else none
    | _ => none
  | .iload_n k, (pc, st, lv, C, nc, ns) => match zLook lv k with
    | some (0, x) => if n = 1 then some (.inl (pc + 1, (0, x) :: st, lv, C, nc, ns)) else none
    | _ => none
  | .istore_n k, (pc, (0, x) :: st, lv, C, nc, ns) => if n = 1 ∧ (k : Nat) < F.2.2.2.1 then some (.inl (pc + 1, st, zSt1 lv k (0, x), C, nc, ns)) else none
  | .iinc k d, (pc, st, lv, C, nc, ns) => match zLook lv k with
    | some (0, x) => if n = 3 ∧ k < F.2.2.2.1 ∧ zin32B x = true then some (.inl (pc + 3, st, zSt1 lv k (0, zw32 (x + d)), C, nc, ns)) else none
    | _ => none
  | .iconst v, (pc, st, lv, C, nc, ns) => if n = 1 ∧ (-1 ≤ v ∧ v ≤ 5) then some (.inl (pc + 1, (0, v) :: st, lv, C, nc, ns)) else none
  | .bipush v, (pc, st, lv, C, nc, ns) => if n = 2 ∧ (-128 ≤ v ∧ v ≤ 127) then some (.inl (pc + 2, (0, v) :: st, lv, C, nc, ns)) else none
  | .sipush v, (pc, st, lv, C, nc, ns) => if n = 3 ∧ (-32768 ≤ v ∧ v ≤ 32767) then some (.inl (pc + 3, (0, v) :: st, lv, C, nc, ns)) else none
  | .dup, (pc, v :: st, lv, C, nc, ns) => if n = 1 ∧ zcat v = 1 then some (.inl (pc + 1, v :: v :: st, lv, C, nc, ns)) else none
  | .if_icmp c off, (pc, (0, y) :: (0, x) :: st, lv, C, nc, ns) => if n = 3 ∧ 0 ≤ (pc : Int) + off ∧ zin32B x = true ∧ zin32B y = true ∧ (c = .ge ∨ c = .gt) then some (.inl (if zxcond c x y = true then ((pc : Int) + off).toNat else pc + 3, st, lv, C, nc, ns)) else none
  | .goto off, (pc, st, lv, C, nc, ns) => if n = 3 ∧ 0 ≤ (pc : Int) + off then some (.inl (((pc : Int) + off).toNat, st, lv, C, nc, ns)) else none
  | .new k, (pc, st, lv, C, nc, ns) => match zkF (zkN.getD F.1 []) k with
    | some (ci, _) => if n = 3 then some (.inl (pc + 3, (2, (C.length : Int)) :: st, lv, C ++ [(.inr (ci, zFks ci), [])], nc + 1, ns + (zFks ci).length)) else none
    | none => none
  | .newarray t, (pc, (0, x) :: st, lv, C, nc, ns) => match zatT t with
    | some ty => if n = 2 ∧ 0 ≤ x ∧ x < 1048576 then some (.inl (pc + 2, (2, (C.length : Int)) :: st, lv, C ++ [(.inl (ty, x.toNat, []), [])], nc + 1, ns + x.toNat)) else none
    | none => none
  | .anewarray k, (pc, (0, x) :: st, lv, C, nc, ns) => match zkF (zka.getD F.1 []) k with
    | some (ci, _) => if n = 3 ∧ 0 ≤ x ∧ x < 1048576 then some (.inl (pc + 3, (2, (C.length : Int)) :: st, lv, C ++ [(.inl (.object (zCn ci), x.toNat, List.replicate x.toNat none), [])], nc + 1, ns + x.toNat)) else none
    | none => none
  | .putfield k, (pc, v :: (2, o) :: st, lv, C, nc, ns) => match F.2.2.2.2.2.1 k with
    | some (ci, j) => match zmPutf F.1 C ci j v o with
      | some C' => if n = 3 then some (.inl (pc + 3, st, lv, C', nc, ns)) else none
      | none => none
    | none => none
  | .getfield k, (pc, (2, o) :: st, lv, C, nc, ns) => match F.2.2.2.2.2.1 k with
    | some (ci, j) => match zmGetf C ci j o with
      | some v => if n = 3 then some (.inl (pc + 3, (2, (v : Int)) :: st, lv, C, nc, ns)) else none
      | none => none
    | none => none
  | .aastore, (pc, (2, v) :: (0, x) :: (2, a) :: st, lv, C, nc, ns) => match zmAast C a x v with
    | some C' => if n = 1 then some (.inl (pc + 1, st, lv, C', nc, ns)) else none
    | none => none
  | .lastore, (pc, (1, v) :: (0, x) :: (2, a) :: st, lv, C, nc, ns) => match zmLast C a x v with
    | some C' => if n = 1 then some (.inl (pc + 1, st, lv, C', nc, ns)) else none
    | none => none
  | .ldc k, (pc, st, lv, C, nc, ns) => if F.1 = 5 then (match zkF zkS k, decode F.2.2.1 (pc + 2) with
    | some v, .ok (.invokestatic 44, 3) => if n = 2 ∧ zcats st ≤ 8 ∧ 5 ≤ F.2.2.2.2.2.2.2.2.1 ∧ 108 ≤ F.2.2.2.2.2.2.2.2.2.1 then some (.inl (pc + 5, (1, v) :: st, lv, C, nc, ns)) else none
    | _, _ => none) else (match F.2.2.2.2.2.2.2.1 k with
    | some (0, v) => if n = 2 ∧ zin32B v = true then some (.inl (pc + 2, (0, v) :: st, lv, C, nc, ns)) else none
    | _ => none)
  | .invokespecial k, (pc, (2, o) :: st, lv, C, nc, ns) => match zkF (zko.getD F.1 []) k with
    | some _ => if n = 3 ∧ 0 ≤ o ∧ 1 ≤ F.2.2.2.2.2.2.2.2.1 ∧ zcats st + 12 ≤ F.2.2.2.2.2.2.2.2.2.1 then some (.inl (pc + 3, st, lv, C, nc, ns)) else none
    | none => match zkF (zki.getD F.1 []) k with
      | some (ci, _) => match rec ci with
        | some (D, a, b) => if n = 3 ∧ C.length = o.toNat + 1 ∧ zmNewB C o ci = true ∧ zcats st ≤ 8 ∧ (zFn (zkFi ci)).2.2.2.2.1 + 1 ≤ F.2.2.2.2.2.2.2.2.1 ∧ 8 + ((zFn (zkFi ci)).2.2.1 + 11) + (zFn (zkFi ci)).2.2.2.2.2 ≤ F.2.2.2.2.2.2.2.2.2.1 then some (.inl (pc + 3, st, lv, C.take o.toNat ++ D.map (zmSh o.toNat), nc + a, ns + b)) else none
        | none => none
      | none => none
  | .invokevirtual k, (pc, (0, x) :: (2, o) :: st, lv, C, nc, ns) => match F.2.2.2.2.2.2.1 k with
    | some (0, f, ci, 1) => match zxR (zmS C) 1000 4 f [(2, o), (0, x)] C with
      | some (none, C') => if n = 3 ∧ 0 ≤ o ∧ zxObj (zmS C) o ci = true ∧ zin32B x = true ∧ zcats st ≤ 8 ∧ (zFn f).2.2.2.2.1 + 1 ≤ F.2.2.2.2.2.2.2.2.1 ∧ 8 + ((zFn f).2.2.1 + 11) + (zFn f).2.2.2.2.2 ≤ F.2.2.2.2.2.2.2.2.2.1 ∧ zsokB (zmS C) = true ∧ zmokB C = true then some (.inl (pc + 3, st, lv, C', nc, ns)) else none
      | _ => none
    | _ => none
  | .return_, (_, [], _, C, nc, ns) => if n = 1 then some (.inr (C, nc, ns)) else none
  | _, _ => none
def zmL (F : zmF) (rec : zmRec) : Nat → zmT → Option (zmC × Nat × Nat)
  | 0, _ => none
  | k + 1, s => match zqF F.2.2.1 s.1 with
    | some q => match zmE F rec q.1 q.2 s with
      | some (.inl s') => zmL F rec k s'
      | some (.inr r) => some r
      | none => none
    | none => none
def zmEv (ci : Nat) : zEv := match zxEvs[ci]? with
  | some e => zxEvOf e (zFn (zkFi ci))
  | none => zEvC "" (zFn (zkFi ci)) [] [] []
def zmRun (fuel : Nat) : Nat → zmRec
  | 0, _ => none
  | d + 1, ci => if ci < 13 then zmL (ci, zmEv ci) (zmRun fuel d) fuel (0, [], [(0, (2, 0))], [zmFresh ci], 0, 0) else none
def zmNew (ci : Nat) : Option (zmC × Nat × Nat) := zmRun 3000 6 ci
