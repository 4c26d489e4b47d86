section
-- part 67.make5.lean.txt
def zfitB (ty : FieldType) (x : Int) : Bool := match ty with
  | .boolean => decide (x = 0 ∨ x = 1)
  | .byte => decide (-128 ≤ x ∧ x < 128)
  | .long => decide (-9223372036854775808 ≤ x ∧ x < 9223372036854775808)
  | _ => decide (-2147483648 ≤ x ∧ x < 2147483648)
theorem zfitB_ok {ty : FieldType} {x : Int} (h : zfitB ty x = true) : zfit ty x := by
  cases ty <;> (simp only [zfitB, decide_eq_true_eq] at h; exact h)
theorem zfit_0 (ty : FieldType) : zfit ty 0 := by
  cases ty <;> first | exact Or.inl rfl | exact ⟨by decide, by decide⟩
theorem zrg_in {P : Int → Prop} (h0 : P 0) {r : zRow} (h : ∀ q ∈ r, P q.2) (j : Int) : P (zrg r j) := by
  induction r with
  | nil => exact h0
  | cons q r ih =>
    show P (if q.1 = j then q.2 else zrg r j)
    split
    · exact h q List.mem_cons_self
    · exact ih (fun q hq => h q (List.mem_cons_of_mem _ hq))
def zmokB (C : zmC) : Bool := C.all fun c => match c.1 with
  | .inl q => c.2.all (fun w => zfitB q.1 w.2)
  | .inr _ => c.2.all (fun w => decide (-2147483648 ≤ w.2 ∧ w.2 < 2147483648))
theorem zmokB_ok {C : zmC} (h : zmokB C = true) : zMok (zmS C) (zmM C) := by
  intro i sh hs
  obtain ⟨r, hc⟩ := zmS_at hs
  rw [zmM_at hc]
  have h1 := List.all_eq_true.mp h _ (List.mem_of_getElem? hc)
  cases sh with
  | inl q =>
    obtain ⟨ty, n, rs⟩ := q
    intro j hj
    exact zrg_in (zfit_0 ty) (fun w hw => zfitB_ok (List.all_eq_true.mp h1 w hw)) _
  | inr q =>
    obtain ⟨ci, fks⟩ := q
    intro j hj
    exact zrg_in (P := zin32) ⟨by decide, by decide⟩ (fun w hw => by have := List.all_eq_true.mp h1 w hw; rw [decide_eq_true_eq] at this; exact this) _
def zfk2 : List (Option (Option Nat)) → List Bool → Bool
  | [], [] => true
  | f :: r, b :: l => (f.isSome || b) && zfk2 r l
  | _, _ => false
theorem zfk2_ok : ∀ {fks : List (Option (Option Nat))} {l : List Bool}, zfk2 fks l = true → fks.length = l.length ∧ ∀ k : Nat, fks[k]? = some none → l[k]? = some true := by
  intro fks
  induction fks with
  | nil => intro l h; cases l with
    | nil => exact ⟨rfl, fun k hk => by cases hk⟩
    | cons b l => cases h
  | cons f r ih =>
    intro l h
    cases l with
    | nil => cases h
    | cons b l =>
      simp only [zfk2, Bool.and_eq_true] at h
      obtain ⟨h1, h2⟩ := ih h.2
      refine ⟨by rw [List.length_cons, List.length_cons, h1], fun k hk => ?_⟩
      cases k with
      | zero =>
        have : f = none := by simpa using hk
        subst this
        have : b = true := by simpa using h.1
        subst this
        rfl
      | succ k => exact h2 k hk
def zsokB (S : List zSh) : Bool := S.all fun sh => match sh with
  | .inl q => decide (q.1 ∈ zTy) && decide (q.2.1 < 2147483648)
  | .inr q => decide (q.1 < 13) && zfk2 q.2 (zFkL.getD q.1 [])
def zFkLok : Bool := (List.range 13).all fun ci => match zCl[ci]? with
  | some (_, T, N) => decide ((zFkL.getD ci []).length = N) && (List.range N).all fun k => match (zFkL.getD ci [])[k]? with
    | some true => decide ((T k).2.2.1 = "I") && !(T k).2.2.2
    | _ => true
  | none => false
theorem zFkLok_ok : zFkLok = true := by decide +kernel
theorem zsokB_ok {O : zOm} (hcl : zcl O = zCl) (h : zsokB (zS O) = true) : zWld O := by
  refine ⟨hcl, fun i sh hs => ?_⟩
  have h1 := List.all_eq_true.mp h _ (List.mem_of_getElem? hs)
  cases sh with
  | inl q =>
    obtain ⟨ty, n, rs⟩ := q
    rw [Bool.and_eq_true, decide_eq_true_eq, decide_eq_true_eq] at h1
    exact h1
  | inr q =>
    obtain ⟨ci, fks⟩ := q
    dsimp only at h1
    rw [Bool.and_eq_true, decide_eq_true_eq] at h1
    obtain ⟨h13, h1⟩ := h1
    obtain ⟨k1, k2⟩ := zfk2_ok h1
    have h4 := List.all_eq_true.mp zFkLok_ok ci (List.mem_range.mpr h13)
    split at h4
    next C T N e1 =>
      simp only [Bool.and_eq_true, decide_eq_true_eq, List.all_eq_true, List.mem_range] at h4
      refine ⟨C, T, N, by rw [hcl]; exact e1, by rw [k1]; exact h4.1, fun k hk => ?_⟩
      have h2 := h4.2 k (by rw [← h4.1, ← k1]; exact (List.getElem?_eq_some_iff.mp hk).1)
      rw [k2 k hk] at h2
      simp only [Bool.and_eq_true, decide_eq_true_eq, Bool.not_eq_true'] at h2
      exact h2
    next => cases h4
theorem zm_run {p : Program} {e : Env} {R : Room} {s : State} {m : MethodId} {args : Array Value} {below : List Frame} {meth : Method} {c : Code} {O : zOm} {H : Heap} {locs : List Loc} {nc ns a b : Nat} {g : JFrame} {rest : List Value} {C C' : zmC} {ar : Array Value} (hB : zB O ≤ H.size)
    (hr : va_Run p (zLn O) e R s m args below meth c H locs nc ns a b g rest (zQ (zmO O (zmS C)) (fun v u => v = none ∧ u = zmM C') H.size ar) (zA (zmO O (zmS C)) H.size)) (hS : zmS C' = zmS C) : va_Run p (zLn O) e R s m args below meth c H locs nc ns a b g rest (zmQ O C' ar) (fun q => zB O ≤ q) := by
  have hA : ∀ q, zA (zmO O (zmS C)) H.size q → zB O ≤ q := fun q hq => hq.elim (fun z => z.1) (fun z => Nat.le_trans hB z)
  intro T hT X
  obtain ⟨v, st₀, t, T', L, h0, X', hL, e1, e2, ⟨⟨r, u, hv, hok, hM, ⟨hr1, hu⟩, hP⟩, hz, hk⟩, st⟩ := hr T hT X
  subst hr1
  subst hu
  refine ⟨v, st₀, t, T', L, h0, X', fun q hq => hA _ (hL q hq), e1, e2, ⟨hv, ?_, hz, fun q h1 h2 => hk q h1 (fun z => h2 (hA q z))⟩, st⟩
  rw [zmW_eq, hS]
  exact hP
theorem zn_virt {p : Program} {e : Env} {R : Room} {s : State} {m : MethodId} {args : Array Value} {below : List Frame} {meth : Method} {c : Code} {Q : State → Prop} {O : zOm} {c0 : Nat} {code : ByteArray} {nL pc : Nat} {st : List zV} {lv : zLv} {C C' : zmC} {nc ns k f ci o : Nat} {x : Int} {ev : zEv} {fuel d : Nat} (X : zmX p R s m args c O (zCn c0) code nL)
    (hE : zEvOk zCl ev) (hE1 : ev.1 = zCn c0) (hE2 : ev.2.2.2.2.2.2.2.2.2 = zFn) (hpm : ev.2.2.2.2.2.1 k = some (0, f, ci, 1))
    (hsz : s.heap.size + nc = zB O + C.length) (hd : decode code pc = .ok (.invokevirtual k, 3)) (hob : zxObj (zmS C) (o : Int) ci = true) (hx32 : zin32 x) (hcat : zcats st ≤ 8) (hR : nc ≤ R.cells ∧ ns ≤ R.slots)
    (hfr : (zFn f).2.2.2.2.1 + 1 ≤ R.frames ∧ 8 + ((zFn f).2.2.1 + 11) + (zFn f).2.2.2.2.2 ≤ R.locals) (h1 : zsokB (zmS C) = true) (h2 : zmokB C = true)
    (hrun : zxR (zmS C) fuel d f [(2, (o : Int)), (0, x)] C = some (none, C'))
    (h : zmGo p e R s m args below meth c Q O nL (pc + 3) st lv C' nc ns) : zmGo p e R s m args below meth c Q O nL pc ((0, x) :: (2, (o : Int)) :: st) lv C nc ns := by
  obtain ⟨hx, hb, hml, hown, hts, hK, hN, hcl, hB, hAO, hSt⟩ := X
  intro H locs ls hP hS hl
  refine zW_sz fun hz => ?_
  obtain ⟨h0, fks, hs⟩ := zxObj_ok hob
  have hs : (zmS C)[o]? = some (.inr (ci, fks)) := hs
  obtain ⟨r0, hc0⟩ := zmS_at hs
  have hlo := (List.getElem?_eq_some_iff.mp hc0).1
  have hz2 := zm_size hP (by omega) (by omega)
  have hO' : zWld (zmO O (zmS C)) := zsokB_ok hcl h1
  obtain ⟨hS', hRn⟩ := zxR_ok hO' fuel d f _ C none C' rfl hrun
  have hMet := hRn (fun v u => v = none ∧ u = zmM C') ⟨rfl, rfl⟩ (fun v hv => by
    rcases List.mem_cons.mp hv with rfl | hv
    · show (-2 : Int) ≤ (o : Int); omega
    · rcases List.mem_cons.mp hv with rfl | hv
      · exact hx32
      · cases hv) (zmokB_ok h2) H.size (by show zB O + (zmS C).length ≤ _; rw [zmS_len]; omega)
  obtain ⟨⟨hcode, hini, hd1, hd2, hd3⟩, ⟨T, N, hc⟩, hlk, hin, hsel⟩ := hE.2.1 k f ci 1 hpm
  rw [hE2] at hcode hini hd1 hd2 hd3 hc hlk hin hsel
  rw [hE1] at hlk
  generalize zFn f = f at hcode hini hd1 hd2 hd3 hc hlk hin hsel hfr hMet
  have hG : GoodIn zWS (wsV (zCn c0) k f.1.cls f.1 (zWs f)) := by
    intro w hw
    have hw' : w ∈ zWS := by
      rcases List.mem_append.mp hw with h1 | h1
      · simp only [List.mem_cons, List.not_mem_nil, or_false] at h1
        rcases h1 with rfl | rfl | rfl | rfl
        · exact hlk
        · exact hin
        · exact hsel
        · exact hini
      · exact (zGood f hcode w h1).1
    exact ⟨hw', good_of_word (List.mem_filter.mp hw').2⟩
  have cw := cwV (R := R) (rm := zRm f) (mc := 0) (ms := 0) (ws' := zWS) 1 hts hG rfl rfl rfl ⟨rfl, hd1, hd2, hd3⟩ hfr
  have he := zmW_at (O := O) hc0
  obtain ⟨rC, hrC, cell, q1, q2, q3, q4⟩ := hP _ _ he
  have hrC : (zcl O)[ci]? = some rC := hrC
  rw [hcl, hc] at hrC
  cases hrC
  have hcls : s.vm.findClass f.1.cls = some cell.cls := by rw [q2]; exact (hK.1 ci _ (by rw [hcl]; exact hc)).2.1
  have hP' : va_P (zD (zmO O (zmS C))) (zcl (zmO O (zmS C))) (zWorld (zmO O (zmS C)) (zmM C)) H := by rw [← zmW_eq]; exact hP
  have hPV : PreV s H f.1.cls (zB O + o) (zPc (zmO O (zmS C)) (zmM C) H.size [(2, (o : Int)), (0, x)]) [.int (zi x)] := by
    refine ⟨zPc_blind _ _ H.size _, ⟨cell, q1, by rw [q3]; rfl, hcls⟩, fun U hU hW => ?_⟩
    have := zPc_at (as := [(2, (o : Int)), (0, x)]) hP' hK hN hU hW
    rw [List.map_cons, zWv_nn _ (Int.natCast_nonneg _)] at this
    exact this
  rw [List.map_cons, List.map_cons, zWv_nn O (Int.natCast_nonneg _)]
  exact zmcall (zm_run (by omega) (va_runV (As := [.int (zi x)]) (rest := st.map (zWv O)) ⟨hx, hb, hml, hown, hts⟩ hMet cw hPV rfl rfl hl.1 rfl (lv_room (by rw [zcats_wv]; exact hcat)) hd ⟨hR.1, hR.2⟩) hS') hS hl h
end
section
-- part 68.make6.lean.txt
def zkF {α : Type} (L : List (Nat × α)) (k : Nat) : Option α := (L.find? (fun e => e.1 == k)).map (·.2)
theorem zkF_mem {α : Type} {L : List (Nat × α)} {k : Nat} {x : α} (h : zkF L k = some x) : (k, x) ∈ L := by
  obtain ⟨⟨k', x'⟩, h1, h2⟩ := Option.map_eq_some_iff.mp h
  have h3 := List.find?_some h1
  have h4 : k' = k := by simpa using h3
  cases h2
  subst h4
  exact List.mem_of_find?_eq_some h1
abbrev zmT : Type := Nat × List zV × zLv × zmC × Nat × Nat
/-- a frame's tables: its class's number, its pool of fields and of methods, its locals, code, room -/
abbrev zmF : Type := Nat × zEv
def zatT : ArrayType → Option FieldType
  | .int => some .int
  | .boolean => some .boolean
  | .byte => some .byte
  | .long => some .long
  | _ => none
def zin32B (x : Int) : Bool := decide (-2147483648 ≤ x ∧ x < 2147483648)
theorem zin32B_ok {x : Int} (h : zin32B x = true) : zin32 x := by
  simp only [zin32B, decide_eq_true_eq] at h
  exact h
def zin64B (x : Int) : Bool := decide (-9223372036854775808 ≤ x ∧ x < 9223372036854775808)
abbrev zmRec : Type := Nat → Option (zmC × Nat × Nat)
def zmNewB (C : zmC) (o : Int) (ci : Nat) : Bool := if o < 0 then false else match C[o.toNat]? with
  | some (.inr (ci', fks), []) => decide (ci' = ci) && decide (fks = zFks ci)
  | _ => false
def zfinB (ci j : Nat) : Bool := match zCl[ci]? with
  | some (_, T, _) => (T j).2.2.2
  | none => false
def znfinB (ci j : Nat) : Bool := match zCl[ci]? with
  | some (_, T, _) => !(T j).2.2.2
  | none => false
/-- putfield -/
def zmPutf (c0 : Nat) (C : zmC) (ci j : Nat) (v : zV) (o : Int) : Option zmC := if o < 0 then none else match C[o.toNat]? with
  | some (.inr (ci', fks), r) => if ci' = ci then (match v.1, fks[j]? with
      | 0, some none => if znfinB ci j = true then some (C.set o.toNat (.inr (ci, fks), zrs r j v.2)) else none
      | 2, some _ => if ci = c0 ∧ 0 ≤ v.2 ∧ zfinB ci j = true then some (C.set o.toNat (.inr (ci, fks.set j (some (some v.2.toNat))), r)) else none
      | _, _ => none) else none
  | _ => none
def zmGetf (C : zmC) (ci j : Nat) (o : Int) : Option Nat := if o < 0 then none else match C[o.toNat]? with
  | some (.inr (ci', fks), _) => if ci' = ci then (match fks[j]? with
      | some (some (some v)) => some v
      | _ => none) else none
  | _ => none
def zmAast (C : zmC) (a i v : Int) : Option zmC := if a < 0 ∨ i < 0 ∨ v < 0 then none else match C[a.toNat]?, C[v.toNat]? with
  | some (.inl (.object Cn, n, rs), r), some (.inr (ci, _), _) => if Cn = zCn ci ∧ (ci = 2 ∨ ci = 4) ∧ i.toNat < n ∧ n < 1048576 ∧ i.toNat < rs.length then some (C.set a.toNat (.inl (.object Cn, n, rs.set i.toNat (some v.toNat)), r)) else none
  | _, _ => none
def zmLast (C : zmC) (a i x : Int) : Option zmC := if a < 0 ∨ i < 0 then none else match C[a.toNat]? with
  | some (.inl (.long, n, rs), r) => if i.toNat < n ∧ n < 1048576 then some (C.set a.toNat (.inl (.long, n, rs), zrs r i x)) else none
  | _ => none
def zmE (F : zmF) (rec : zmRec) (i : Instr) (n : Nat) (s : zmT) : Option (zmT ⊕ (zmC × Nat × Nat)) :=
  match i, s with
  | .aload_n k, (pc, st, lv, C, nc, ns) => match zLook lv k with
    | some (2, x) => if n = 1 ∧ 0 ≤ x then some (.inl (pc + 1, (2, x) :: st, lv, C, nc, ns)) else none
    | _ => none
  | .iload_n k, (pc, st, lv, C, nc, ns) => match zLook lv k with
    | some (0, x) => if n = 1 then some (.inl (pc + 1, (0, x) :: st, lv, C, nc, ns)) else none
    | _ => none
  | .istore_n k, (pc, (0, x) :: st, lv, C, nc, ns) => if n = 1 ∧ (k : Nat) < F.2.2.2.1 then some (.inl (pc + 1, st, zSt1 lv k (0, x), C, nc, ns)) else none
  | .iinc k d, (pc, st, lv, C, nc, ns) => match zLook lv k with
    | some (0, x) => if n = 3 ∧ k < F.2.2.2.1 ∧ zin32B x = true then some (.inl (pc + 3, st, zSt1 lv k (0, zw32 (x + d)), C, nc, ns)) else none
    | _ => none
  | .iconst v, (pc, st, lv, C, nc, ns) => if n = 1 ∧ (-1 ≤ v ∧ v ≤ 5) then some (.inl (pc + 1, (0, v) :: st, lv, C, nc, ns)) else none
  | .bipush v, (pc, st, lv, C, nc, ns) => if n = 2 ∧ (-128 ≤ v ∧ v ≤ 127) then some (.inl (pc + 2, (0, v) :: st, lv, C, nc, ns)) else none
  | .sipush v, (pc, st, lv, C, nc, ns) => if n = 3 ∧ (-32768 ≤ v ∧ v ≤ 32767) then some (.inl (pc + 3, (0, v) :: st, lv, C, nc, ns)) else none
  | .dup, (pc, v :: st, lv, C, nc, ns) => if n = 1 ∧ zcat v = 1 then some (.inl (pc + 1, v :: v :: st, lv, C, nc, ns)) else none
  | .if_icmp c off, (pc, (0, y) :: (0, x) :: st, lv, C, nc, ns) => if n = 3 ∧ 0 ≤ (pc : Int) + off ∧ zin32B x = true ∧ zin32B y = true ∧ (c = .ge ∨ c = .gt) then some (.inl (if zxcond c x y = true then ((pc : Int) + off).toNat else pc + 3, st, lv, C, nc, ns)) else none
  | .goto off, (pc, st, lv, C, nc, ns) => if n = 3 ∧ 0 ≤ (pc : Int) + off then some (.inl (((pc : Int) + off).toNat, st, lv, C, nc, ns)) else none
  | .new k, (pc, st, lv, C, nc, ns) => match zkF (zkN.getD F.1 []) k with
    | some (ci, _) => if n = 3 then some (.inl (pc + 3, (2, (C.length : Int)) :: st, lv, C ++ [(.inr (ci, zFks ci), [])], nc + 1, ns + (zFks ci).length)) else none
    | none => none
  | .newarray t, (pc, (0, x) :: st, lv, C, nc, ns) => match zatT t with
    | some ty => if n = 2 ∧ 0 ≤ x ∧ x < 1048576 then some (.inl (pc + 2, (2, (C.length : Int)) :: st, lv, C ++ [(.inl (ty, x.toNat, []), [])], nc + 1, ns + x.toNat)) else none
    | none => none
  | .anewarray k, (pc, (0, x) :: st, lv, C, nc, ns) => match zkF (zka.getD F.1 []) k with
    | some (ci, _) => if n = 3 ∧ 0 ≤ x ∧ x < 1048576 then some (.inl (pc + 3, (2, (C.length : Int)) :: st, lv, C ++ [(.inl (.object (zCn ci), x.toNat, List.replicate x.toNat none), [])], nc + 1, ns + x.toNat)) else none
    | none => none
  | .putfield k, (pc, v :: (2, o) :: st, lv, C, nc, ns) => match F.2.2.2.2.2.1 k with
    | some (ci, j) => match zmPutf F.1 C ci j v o with
      | some C' => if n = 3 then some (.inl (pc + 3, st, lv, C', nc, ns)) else none
      | none => none
    | none => none
  | .getfield k, (pc, (2, o) :: st, lv, C, nc, ns) => match F.2.2.2.2.2.1 k with
    | some (ci, j) => match zmGetf C ci j o with
      | some v => if n = 3 then some (.inl (pc + 3, (2, (v : Int)) :: st, lv, C, nc, ns)) else none
      | none => none
    | none => none
  | .aastore, (pc, (2, v) :: (0, x) :: (2, a) :: st, lv, C, nc, ns) => match zmAast C a x v with
    | some C' => if n = 1 then some (.inl (pc + 1, st, lv, C', nc, ns)) else none
    | none => none
  | .lastore, (pc, (1, v) :: (0, x) :: (2, a) :: st, lv, C, nc, ns) => match zmLast C a x v with
    | some C' => if n = 1 then some (.inl (pc + 1, st, lv, C', nc, ns)) else none
    | none => none
  | .ldc k, (pc, st, lv, C, nc, ns) => if F.1 = 5 then (match zkF zkS k, decode F.2.2.1 (pc + 2) with
    | some v, .ok (.invokestatic 44, 3) => if n = 2 ∧ zcats st ≤ 8 ∧ 5 ≤ F.2.2.2.2.2.2.2.2.1 ∧ 108 ≤ F.2.2.2.2.2.2.2.2.2.1 then some (.inl (pc + 5, (1, v) :: st, lv, C, nc, ns)) else none
    | _, _ => none) else (match F.2.2.2.2.2.2.2.1 k with
    | some (0, v) => if n = 2 ∧ zin32B v = true then some (.inl (pc + 2, (0, v) :: st, lv, C, nc, ns)) else none
    | _ => none)
  | .invokespecial k, (pc, (2, o) :: st, lv, C, nc, ns) => match zkF (zko.getD F.1 []) k with
    | some _ => if n = 3 ∧ 0 ≤ o ∧ 1 ≤ F.2.2.2.2.2.2.2.2.1 ∧ zcats st + 12 ≤ F.2.2.2.2.2.2.2.2.2.1 then some (.inl (pc + 3, st, lv, C, nc, ns)) else none
    | none => match zkF (zki.getD F.1 []) k with
      | some (ci, _) => match rec ci with
        | some (D, a, b) => if n = 3 ∧ C.length = o.toNat + 1 ∧ zmNewB C o ci = true ∧ zcats st ≤ 8 ∧ (zFn (zkFi ci)).2.2.2.2.1 + 1 ≤ F.2.2.2.2.2.2.2.2.1 ∧ 8 + ((zFn (zkFi ci)).2.2.1 + 11) + (zFn (zkFi ci)).2.2.2.2.2 ≤ F.2.2.2.2.2.2.2.2.2.1 then some (.inl (pc + 3, st, lv, C.take o.toNat ++ D.map (zmSh o.toNat), nc + a, ns + b)) else none
        | none => none
      | none => none
  | .invokevirtual k, (pc, (0, x) :: (2, o) :: st, lv, C, nc, ns) => match F.2.2.2.2.2.2.1 k with
    | some (0, f, ci, 1) => match zxR (zmS C) 1000 4 f [(2, o), (0, x)] C with
      | some (none, C') => if n = 3 ∧ 0 ≤ o ∧ zxObj (zmS C) o ci = true ∧ zin32B x = true ∧ zcats st ≤ 8 ∧ (zFn f).2.2.2.2.1 + 1 ≤ F.2.2.2.2.2.2.2.2.1 ∧ 8 + ((zFn f).2.2.1 + 11) + (zFn f).2.2.2.2.2 ≤ F.2.2.2.2.2.2.2.2.2.1 ∧ zsokB (zmS C) = true ∧ zmokB C = true then some (.inl (pc + 3, st, lv, C', nc, ns)) else none
      | _ => none
    | _ => none
  | .return_, (_, [], _, C, nc, ns) => if n = 1 then some (.inr (C, nc, ns)) else none
  | _, _ => none
def zmL (F : zmF) (rec : zmRec) : Nat → zmT → Option (zmC × Nat × Nat)
  | 0, _ => none
  | k + 1, s => match zqF F.2.2.1 s.1 with
    | some q => match zmE F rec q.1 q.2 s with
      | some (.inl s') => zmL F rec k s'
      | some (.inr r) => some r
      | none => none
    | none => none
def zmEv (ci : Nat) : zEv := match zxEvs[ci]? with
  | some e => zxEvOf e (zFn (zkFi ci))
  | none => zEvC "" (zFn (zkFi ci)) [] [] []
def zmRun (fuel : Nat) : Nat → zmRec
  | 0, _ => none
  | d + 1, ci => if ci < 13 then zmL (ci, zmEv ci) (zmRun fuel d) fuel (0, [], [(0, (2, 0))], [zmFresh ci], 0, 0) else none
def zmNew (ci : Nat) : Option (zmC × Nat × Nat) := zmRun 3000 6 ci
end
section
-- part 69.make7.lean.txt
/-! ===== the maker is right ===== -/
def zmFx (F : zmF) : Prop := F.1 < 13 ∧ zPfOk F.1 F.2.2.2.2.2.1 ∧ zEvOk zCl F.2 ∧ F.2.1 = zCn F.1 ∧ F.2.2.2.2.2.2.2.2.2.2 = zFn
/-- what a frame's machine stands on -/
def zmCx (p : Program) (R : Room) (s : State) (m : MethodId) (args : Array Value) (meth : Method) (c : Code) (O : zOm) (F : zmF) : Prop :=
  zmX p R s m args c O (zCn F.1) F.2.2.1 F.2.2.2.1 ∧ meth.name = "<init>" ∧ R.frames = F.2.2.2.2.2.2.2.2.1 ∧ R.locals = F.2.2.2.2.2.2.2.2.2.1
def zmRecOk (rec : zmRec) : Prop := ∀ ci D a b, rec ci = some (D, a, b) → D.length = 1 + a ∧ ∀ O : zOm, zcl O = zCl → zmR O (zFn (zkFi ci)) ci D a b
/-- the words' spelling by Tape.spell -/
def zSpell : Prop := ∀ (k : Nat) (v : Int), (k, v) ∈ zkS → ∀ {p : Program} {e : Env} {R : Room} {s : State} {m : MethodId} {args : Array Value} {below : List Frame} {meth : Method} {c : Code} {Q : State → Prop} {O : zOm} {code : ByteArray} {nL pc : Nat} {st : List zV} {lv : zLv} {C : zmC} {nc ns : Nat}, zmX p R s m args c O (zCn 5) code nL →
  decode code pc = .ok (.ldc k, 2) → decode code (pc + 2) = .ok (.invokestatic 44, 3) → zcats st ≤ 8 → 5 ≤ R.frames → 108 ≤ R.locals → nc ≤ R.cells → ns ≤ R.slots →
  zmGo p e R s m args below meth c Q O nL (pc + 5) ((1, v) :: st) lv C nc ns → zmGo p e R s m args below meth c Q O nL pc st lv C nc ns
def zmNext (F : zmF) (s : zmT) (s' : zmT) : Prop :=
  (s.2.2.2.2.1 ≤ s'.2.2.2.2.1 ∧ s.2.2.2.2.2 ≤ s'.2.2.2.2.2 ∧ s'.2.2.2.1.length + s.2.2.2.2.1 = s.2.2.2.1.length + s'.2.2.2.2.1) ∧
  ∀ {p : Program} {e : Env} {R : Room} {s0 : State} {m : MethodId} {args : Array Value} {below : List Frame} {meth : Method} {c : Code} {Q : State → Prop} {O : zOm}, zmCx p R s0 m args meth c O F → s0.heap.size + s.2.2.2.2.1 = zB O + s.2.2.2.1.length → s'.2.2.2.2.1 ≤ R.cells → s'.2.2.2.2.2 ≤ R.slots →
    zmGo p e R s0 m args below meth c Q O F.2.2.2.1 s'.1 s'.2.1 s'.2.2.1 s'.2.2.2.1 s'.2.2.2.2.1 s'.2.2.2.2.2 → zmGo p e R s0 m args below meth c Q O F.2.2.2.1 s.1 s.2.1 s.2.2.1 s.2.2.2.1 s.2.2.2.2.1 s.2.2.2.2.2
theorem zmPutf_len {c0 : Nat} {C C' : zmC} {ci j : Nat} {v : zV} {o : Int} (h : zmPutf c0 C ci j v o = some C') : C'.length = C.length := by
  unfold zmPutf at h
  split at h
  · cases h
  · split at h
    · split at h
      · split at h
        · split at h
          · cases h; exact List.length_set ..
          · cases h
        · split at h
          · cases h; exact List.length_set ..
          · cases h
        · cases h
      · cases h
    · cases h
theorem zmAast_len {C C' : zmC} {a i v : Int} (h : zmAast C a i v = some C') : C'.length = C.length := by
  unfold zmAast at h
  split at h
  · cases h
  · split at h
    · split at h
      · cases h; exact List.length_set ..
      · cases h
    · cases h
theorem zmLast_len {C C' : zmC} {a i x : Int} (h : zmLast C a i x = some C') : C'.length = C.length := by
  unfold zmLast at h
  split at h
  · cases h
  · split at h
    · split at h
      · cases h; exact List.length_set ..
      · cases h
    · cases h
def zkOok : Bool := zInW (zkO.getD 0 0) (.instanceMethod objectInit) && (zInW (zkO.getD 1 0) (.code objectInit ⟨#[0xb1]⟩ 1 none) && (List.range 13).all fun c => (zko.getD c []).all fun e => zInW e.2 (.methodLink (zCn c) e.1 objectInit))
theorem zkOok_ok : zkOok = true := by decide +kernel
theorem zmObj {F : zmF} {k n pl pc : Nat} {o : Int} {st : List zV} {lv : zLv} {C : zmC} {nc ns : Nat} (hF : F.1 < 13) (hk : (k, pl) ∈ zko.getD F.1 []) (hd : decode F.2.2.1 pc = .ok (.invokespecial k, 3)) (h0 : 0 ≤ o) (h1 : 1 ≤ F.2.2.2.2.2.2.2.2.1) (h2 : zcats st + 12 ≤ F.2.2.2.2.2.2.2.2.2.1) : zmNext F (pc, (2, o) :: st, lv, C, nc, ns) (pc + 3, st, lv, C, nc, ns) := by
  refine ⟨⟨Nat.le_refl _, Nat.le_refl _, rfl⟩, fun {p e R s0 m args below meth c Q O} X hsz hR hRs g => ?_⟩
  obtain ⟨⟨hx, hb, hml, hown, hts, hK, hN, hcl, hB, hAO⟩, hname, hfr, hlo⟩ := X
  intro H locs ls hP hS hl
  have hw := zkOok_ok
  unfold zkOok at hw
  simp only [Bool.and_eq_true] at hw
  have hw3 := List.all_eq_true.mp (List.all_eq_true.mp hw.2.2 F.1 (List.mem_range.mpr hF)) _ hk
  dsimp only
  rw [List.map_cons, zWv_nn O h0]
  refine W.objInit hx hb hown (hts _ (zInW_mem hw3)) (hts _ (zInW_mem hw.1)) (hts _ (zInW_mem hw.2.1)) rfl (by rw [hml]; exact hl.1) rfl hd (by rw [hfr]; exact h1) (by rw [hlo]; show 2 * 0 + ((st.map (zWv O)).map fun v => v.category).sum + 12 ≤ _; rw [zcats_wv]; omega) ?_
  exact W.eq (g2 := F0 m (pc + 3) ls (st.map (zWv O))) rfl (g H locs ls hP hS hl)
end
section
-- part 70.make8.lean.txt
theorem zOm_ex (S : List zSh) : ∃ O : zOm, zcl O = zCl ∧ zS O = S := ⟨(launch0, ((fun _ => 0), (fun _ _ => 0)), zCl, (fun _ => 0), 0, 0, S), rfl, rfl⟩
theorem zxR_len {C C' : zmC} {v : Option zV} {fuel d f : Nat} {as : List zV} (h : zsokB (zmS C) = true) (hr : zxR (zmS C) fuel d f as C = some (v, C')) : C'.length = C.length := by
  obtain ⟨O, h1, h2⟩ := zOm_ex (zmS C)
  have hO : zWld O := zsokB_ok h1 (by rw [h2]; exact h)
  have := (zxR_ok hO fuel d f as C v C' h2.symm (by rw [h2]; exact hr)).1
  rw [← zmS_len C', this, h2, zmS_len]
theorem zmNext_of {F : zmF} {pc pc' : Nat} {st st' : List zV} {lv lv' : zLv} {C : zmC} {nc ns : Nat}
    (h : ∀ {p : Program} {e : Env} {R : Room} {s0 : State} {m : MethodId} {args : Array Value} {below : List Frame} {meth : Method} {c : Code} {Q : State → Prop} {O : zOm}, p.tables.exec = Jvm.exec → c.code = F.2.2.1 → ∀ (H : Heap) (locs : List Loc) (ls : Array Slot), lv_has ls F.2.2.2.1 (lv.map fun q => (q.1, zWv O q.2)) → (∀ ls', lv_has ls' F.2.2.2.1 (lv'.map fun q => (q.1, zWv O q.2)) → W p (zLn O) e R s0 m args below meth c H locs nc ns Q (F0 m pc' ls' (st'.map (zWv O)))) → W p (zLn O) e R s0 m args below meth c H locs nc ns Q (F0 m pc ls (st.map (zWv O)))) :
    zmNext F (pc, st, lv, C, nc, ns) (pc', st', lv', C, nc, ns) := by
  refine ⟨⟨Nat.le_refl _, Nat.le_refl _, rfl⟩, fun {p e R s0 m args below meth c Q O} X hsz hR hRs g => ?_⟩
  obtain ⟨⟨hx, hb, hml, hown, hts, hK, hN, hcl, hB, hAO, hSt⟩, hname, hfr, hlo⟩ := X
  intro H locs ls hP hS hl
  exact h hx hb H locs ls hl (fun ls' hl' => g H locs ls' hP hS hl')
theorem zmE_ok {F : zmF} {rec : zmRec} {i : Instr} {n : Nat} {s s' : zmT} (hF : zmFx F) (hrec : zmRecOk rec) (hsp : zSpell) (hd : decode F.2.2.1 s.1 = .ok (i, n)) (h : zmE F rec i n s = some (.inl s')) : zmNext F s s' := by
  obtain ⟨hF1, hF2, hF3, hF4, hF5⟩ := hF
  obtain ⟨pc, st, lv, C, nc, ns⟩ := s
  dsimp only at hd
  unfold zmE at h
  split at h
  -- aload_n
  · next e1 =>
    cases e1
    split at h
    · next x e =>
      split at h
      · next q =>
        cases h
        obtain ⟨q1, q2⟩ := q; subst q1
        have hm := zLook_mem e
        refine zmNext_of (fun {p e R s0 m args below meth c Q O} hx hb H locs ls hl k => ?_)
        have k := k ls hl
        have h3 := hl.2.2 _ (List.mem_map.mpr ⟨_, hm, rfl⟩)
        dsimp only at h3
        rw [zWv_nn O q2] at h3
        rw [List.map_cons, zWv_nn O q2] at k
        exact lv_aload_n hx hb hd rfl h3 k
      · cases h
    · cases h
  -- iload_n
  · next e1 =>
    cases e1
    split at h
    · next x e =>
      split at h
      · next q =>
        cases h; subst q
        have hm := zLook_mem e
        exact zmNext_of (fun hx hb H locs ls hl k => lv_iload_n hx hb hd rfl (hl.2.2 _ (List.mem_map.mpr ⟨_, hm, rfl⟩)) (k ls hl))
      · cases h
    · cases h
  -- istore_n
  · next kk _ xx _ _ _ _ _ e1 =>
    cases e1
    split at h
    · next q =>
      cases h
      obtain ⟨q1, q2⟩ := q; subst q1
      exact zmNext_of (fun {p e R s0 m args below meth c Q O} hx hb H locs ls hl k => lv_istore_n hx hb hd rfl hl q2 (zSt1_map O lv kk (0, xx)) (fun ls' hl' => k ls' hl'))
    · cases h
  -- iinc
  · next kk dd _ _ _ _ _ _ e1 =>
    cases e1
    split at h
    · next x e =>
      split at h
      · next q =>
        cases h
        obtain ⟨q1, q2, q3⟩ := q; subst q1
        have hm := zLook_mem e
        obtain ⟨j, hj⟩ := List.getElem?_of_mem hm
        exact zmNext_of (fun {p e R s0 m args below meth c Q O} hx hb H locs ls hl k => lv_iinc (k := j) hx hb hd hl (by rw [List.getElem?_map, hj]; rfl) (zi_addc (zin32B_ok q3) _) q2 (zSt1_map O lv kk (0, zw32 (x + dd))) (fun ls' hl' => k ls' hl'))
      · cases h
    · cases h
  -- iconst
  · next e1 =>
    cases e1
    split at h
    · next q => cases h; obtain ⟨q1, q2⟩ := q; subst q1; exact zmNext_of (fun hx hb H locs ls hl k => lv_iconst hx hb hd rfl (k ls hl))
    · cases h
  -- bipush
  · next e1 =>
    cases e1
    split at h
    · next q => cases h; obtain ⟨q1, q2⟩ := q; subst q1; exact zmNext_of (fun hx hb H locs ls hl k => lv_bipush hx hb hd (zi_i8 q2) (k ls hl))
    · cases h
  -- sipush
  · next e1 =>
    cases e1
    split at h
    · next q => cases h; obtain ⟨q1, q2⟩ := q; subst q1; exact zmNext_of (fun hx hb H locs ls hl k => lv_sipush hx hb hd (zi_i16 q2) (k ls hl))
    · cases h
  -- dup
  · next e1 =>
    cases e1
    split at h
    · next q => cases h; obtain ⟨q1, q2⟩ := q; subst q1; exact zmNext_of (fun hx hb H locs ls hl k => lv_dup hx hb hd ((zcat_wv _ _).trans q2) (k ls hl))
    · cases h
  -- if_icmp
  · next e1 =>
    cases e1
    split at h
    · next q =>
      cases h
      obtain ⟨q1, q2, q3, q4, q5⟩ := q; subst q1
      have hx1 := zin32B_ok q3
      have hy := zin32B_ok q4
      refine zmNext_of (fun hx hb H locs ls hl k => ?_)
      have k := k ls hl
      rcases q5 with rfl | rfl
      · refine lv_icmp_ge hx hb hd (Int.toNat_of_nonneg q2).symm (fun q => ?_) (fun q => ?_)
        · rw [if_pos (by simp only [zxcond, decide_eq_true_eq]; exact (zi_le hy hx1).mp q)] at k; exact k
        · rw [if_neg (by simp only [zxcond, decide_eq_true_eq]; exact fun z => q ((zi_le hy hx1).mpr z))] at k; exact k
      · refine lv_icmp_gt hx hb hd (Int.toNat_of_nonneg q2).symm (fun q => ?_) (fun q => ?_)
        · rw [if_pos (by simp only [zxcond, decide_eq_true_eq]; exact (zi_lt hy hx1).mp q)] at k; exact k
        · rw [if_neg (by simp only [zxcond, decide_eq_true_eq]; exact fun z => q ((zi_lt hy hx1).mpr z))] at k; exact k
    · cases h
  -- goto
  · next e1 =>
    cases e1
    split at h
    · next q => cases h; obtain ⟨q1, q2⟩ := q; subst q1; exact zmNext_of (fun hx hb H locs ls hl k => lv_goto hx hb hd (Int.toNat_of_nonneg q2).symm (k ls hl))
    · cases h
  -- new
  · next e1 =>
    cases e1
    split at h
    · next ci pl e =>
      split at h
      · next q =>
        cases h; subst q
        refine ⟨⟨by dsimp only; omega, by dsimp only; omega, by dsimp only; rw [List.length_append]; show C.length + 1 + nc = _; omega⟩, fun X hsz hR hRs g => ?_⟩
        exact zn_new X.1 hF1 hsz hd (zkF_mem e) hR hRs g
      · cases h
    · cases h
  -- newarray
  · next e1 =>
    cases e1
    split at h
    · next ty e =>
      split at h
      · next q =>
        cases h
        obtain ⟨q1, q2, q3⟩ := q; subst q1
        refine ⟨⟨by dsimp only; omega, by dsimp only; omega, by dsimp only; rw [List.length_append]; show C.length + 1 + nc = _; omega⟩, fun X hsz hR hRs g => ?_⟩
        dsimp only at hR hRs g hsz ⊢
        rw [← Int.toNat_of_nonneg q2]
        refine zn_newa X.1 (ty := ty) ?_ (by omega) hsz hd hR hRs g
        unfold zatT at e
        split at e <;> first | (cases e; done) | (cases e; simp)
      · cases h
    · cases h
  -- anewarray
  · next e1 =>
    cases e1
    split at h
    · next ci pl e =>
      split at h
      · next q =>
        cases h
        obtain ⟨q1, q2, q3⟩ := q; subst q1
        refine ⟨⟨by dsimp only; omega, by dsimp only; omega, by dsimp only; rw [List.length_append]; show C.length + 1 + nc = _; omega⟩, fun X hsz hR hRs g => ?_⟩
        dsimp only at hR hRs g hsz ⊢
        rw [← Int.toNat_of_nonneg q2]
        exact zn_anew X.1 hF1 (zkF_mem e) (by omega) hsz hd hR hRs g
      · cases h
    · cases h
  -- putfield
  · next v o st' lv' C' nc' ns' e1 =>
    cases e1
    split at h
    · next ci j e =>
      split at h
      · next C2 e2 =>
        split at h
        · next q =>
          cases h; subst q
          refine ⟨⟨Nat.le_refl _, Nat.le_refl _, by dsimp only; rw [zmPutf_len e2]⟩, fun X hsz hR hRs g => ?_⟩
          dsimp only at g ⊢
          obtain ⟨vt, vx⟩ := v
          unfold zmPutf at e2
          split at e2
          · cases e2
          · next ho =>
            split at e2
            · next ci' fks r e3 =>
              split at e2
              · next hci =>
                subst hci
                have hoe : ((o.toNat : Nat) : Int) = o := by omega
                split at e2
                · next e4 e5 =>
                  split at e2
                  · next q6 =>
                    cases e2
                    have e4 : vt = 0 := e4
                    subst e4
                    rw [← hoe]
                    exact zn_putI X.1 hF2 hd e e3 e5 q6 g
                  · cases e2
                · next fk e4 e5 =>
                  split at e2
                  · next q6 =>
                    cases e2
                    have e4 : vt = 2 := e4
                    subst e4
                    obtain ⟨q7, q8, q9⟩ := q6
                    subst q7
                    rw [← hoe, show vx = ((vx.toNat : Nat) : Int) from (Int.toNat_of_nonneg q8).symm]
                    exact zn_putF X.1 hF2 X.2.1 hd e e3 (List.getElem?_eq_some_iff.mp e5).1 q9 g
                  · cases e2
                · cases e2
              · cases e2
            · cases e2
        · cases h
      · cases h
    · cases h
  -- getfield
  · next o st' lv' C' nc' ns' e1 =>
    cases e1
    split at h
    · next ci j e =>
      split at h
      · next v e2 =>
        split at h
        · next q =>
          cases h; subst q
          refine ⟨⟨Nat.le_refl _, Nat.le_refl _, rfl⟩, fun X hsz hR hRs g => ?_⟩
          dsimp only at g ⊢
          unfold zmGetf at e2
          split at e2
          · cases e2
          · next ho =>
            split at e2
            · next ci' fks r e3 =>
              split at e2
              · next hci =>
                subst hci
                have hoe : ((o.toNat : Nat) : Int) = o := by omega
                split at e2
                · next e5 =>
                  cases e2
                  rw [← hoe]
                  exact zn_getF X.1 hF2 hd e e3 e5 g
                · cases e2
              · cases e2
            · cases e2
        · cases h
      · cases h
    · cases h
  -- aastore
  · next v x a st' lv' C' nc' ns' e1 =>
    cases e1
    split at h
    · next C2 e2 =>
      split at h
      · next q =>
        cases h; subst q
        refine ⟨⟨Nat.le_refl _, Nat.le_refl _, by dsimp only; rw [zmAast_len e2]⟩, fun X hsz hR hRs g => ?_⟩
        dsimp only at g ⊢
        unfold zmAast at e2
        split at e2
        · cases e2
        · next hq =>
          split at e2
          · next Cn n rs r ci fks r2 e3 e4 =>
            split at e2
            · next q6 =>
              cases e2
              obtain ⟨q7, q8, q9, q10, q11⟩ := q6
              have hc : ∃ T N, zCl[ci]? = some (Cn, T, N) := by
                rcases q8 with rfl | rfl
                · exact ⟨_, _, by rw [q7]; rfl⟩
                · exact ⟨_, _, by rw [q7]; rfl⟩
              have hty : FieldType.object Cn ∈ zTy := by
                rcases q8 with rfl | rfl
                · rw [q7]; decide
                · rw [q7]; decide
              obtain ⟨T, N, hc⟩ := hc
              rw [show v = ((v.toNat : Nat) : Int) by omega, show x = ((x.toNat : Nat) : Int) by omega, show a = ((a.toNat : Nat) : Int) by omega]
              exact zn_aast X.1 hd hc hty e3 e4 q9 q10 q11 g
            · cases e2
          · cases e2
      · cases h
    · cases h
  -- lastore
  · next v x a st' lv' C' nc' ns' e1 =>
    cases e1
    split at h
    · next C2 e2 =>
      split at h
      · next q =>
        cases h; subst q
        refine ⟨⟨Nat.le_refl _, Nat.le_refl _, by dsimp only; rw [zmLast_len e2]⟩, fun X hsz hR hRs g => ?_⟩
        dsimp only at g ⊢
        unfold zmLast at e2
        split at e2
        · cases e2
        · next hq =>
          split at e2
          · next n rs r e3 =>
            split at e2
            · next q6 =>
              cases e2
              rw [show x = ((x.toNat : Nat) : Int) by omega, show a = ((a.toNat : Nat) : Int) by omega]
              refine zn_last X.1 hd e3 q6.1 q6.2 ?_
              rw [show ((x.toNat : Nat) : Int) = x by omega]
              exact g
            · cases e2
          · cases e2
      · cases h
    · cases h
  -- ldc
  · next kk _ _ _ _ _ _ e1 =>
    cases e1
    split at h
    · next h5 =>
      split at h
      · next v e2 e3 =>
        split at h
        · next q =>
          cases h
          obtain ⟨q1, q2, q3, q4⟩ := q; subst q1
          refine ⟨⟨Nat.le_refl _, Nat.le_refl _, rfl⟩, fun X hsz hR hRs g => ?_⟩
          have X1 := X.1
          rw [h5] at X1
          refine hsp kk v (zkF_mem e2) X1 hd e3 q2 ?_ ?_ ?_ ?_ g
          · rw [X.2.2.1]; exact q3
          · rw [X.2.2.2]; exact q4
          · exact hR
          · exact hRs
        · cases h
      · cases h
    · next h5 =>
      split at h
      · next v e2 =>
        split at h
        · next q =>
          cases h
          obtain ⟨q1, q2⟩ := q; subst q1
          refine ⟨⟨Nat.le_refl _, Nat.le_refl _, rfl⟩, fun {p e R s0 m args below meth c Q O} X hsz hR hRs g => ?_⟩
          obtain ⟨⟨hx, hb, hml, hown, hts, hK, hN, hcl, hB, hAO, hSt⟩, hname, hfr, hlo⟩ := X
          intro H locs ls hP hS hl
          have hw := hF3.2.2.2.2.2.1 kk v e2
          rw [hF4] at hw
          exact lv_ldc (v := zi v) hx hb hown (hts _ hw) hd (g H locs ls hP hS hl)
        · cases h
      · cases h
  -- invokespecial
  · next kk _ o st' lv' C' nc' ns' e1 =>
    cases e1
    split at h
    · next e2 =>
      split at h
      · next q =>
        cases h
        obtain ⟨q1, q2, q3, q4⟩ := q; subst q1
        exact zmObj (n := 3) hF1 (zkF_mem e2) hd q2 q3 q4
      · cases h
    · split at h
      · next ci w e2 =>
        split at h
        · next D a b e3 =>
          split at h
          · next q =>
            cases h
            obtain ⟨q1, q2, q3, q4, q5, q6⟩ := q; subst q1
            obtain ⟨r1, r2⟩ := hrec ci D a b e3
            refine ⟨⟨by dsimp only; omega, by dsimp only; omega, by dsimp only; rw [List.length_append, List.length_take, List.length_map, r1]; omega⟩, fun X hsz hR hRs g => ?_⟩
            dsimp only at g hsz hR hRs ⊢
            unfold zmNewB at q3
            split at q3
            · cases q3
            · next ho =>
              split at q3
              · next ci' fks e5 =>
                rw [Bool.and_eq_true, decide_eq_true_eq, decide_eq_true_eq] at q3
                obtain ⟨q7, q8⟩ := q3
                subst q7
                subst q8
                rw [show o = ((o.toNat : Nat) : Int) by omega]
                obtain ⟨kd, pl, pim⟩ := w
                refine zn_init X.1 hF1 hsz hd (zkF_mem e2) hR hRs q2 e5 q4 (by rw [X.2.2.1, X.2.2.2]; exact ⟨q5, q6⟩) r2 g
              · cases q3
          · cases h
        · cases h
      · cases h
  -- invokevirtual
  · next kk _ x o st' lv' C' nc' ns' e1 =>
    cases e1
    split at h
    · next f ci e2 =>
      split at h
      · next C2 e3 =>
        split at h
        · next q =>
          cases h
          obtain ⟨q1, q2, q3, q4, q5, q6, q7, q8, q9⟩ := q; subst q1
          have hlen : C2.length = C.length := by
            exact zxR_len q8 e3
          refine ⟨⟨Nat.le_refl _, Nat.le_refl _, by dsimp only; rw [hlen]⟩, fun X hsz hR hRs g => ?_⟩
          dsimp only at g hsz hR hRs ⊢
          have hoe : o = ((o.toNat : Nat) : Int) := by omega
          rw [hoe] at q3 e3 ⊢
          exact zn_virt X.1 hF3 hF4 hF5 e2 hsz hd q3 (zin32B_ok q4) q5 ⟨hR, hRs⟩ (by rw [X.2.2.1, X.2.2.2]; exact ⟨q6, q7⟩) q8 q9 e3 g
        · cases h
      · cases h
    · cases h
  -- return
  · next e1 =>
    cases e1
    split at h
    · cases h
    · cases h
  · cases h
theorem zmE_ret {F : zmF} {rec : zmRec} {i : Instr} {n : Nat} {s : zmT} {r : zmC × Nat × Nat} (h : zmE F rec i n s = some (.inr r)) : i = .return_ ∧ n = 1 ∧ s.2.1 = [] ∧ r = (s.2.2.2.1, s.2.2.2.2.1, s.2.2.2.2.2) := by
  obtain ⟨pc, st, lv, C, nc, ns⟩ := s
  unfold zmE at h
  split at h
  all_goals first
    | (next e1 => cases e1; split at h; (next q => cases h; exact ⟨rfl, q, rfl, rfl⟩); (next => cases h))
    | (repeat' (split at h)) <;> (cases h; done)
    | cases h
end
section
-- part 71.make9.lean.txt
theorem zmL_ok {F : zmF} {rec : zmRec} (hF : zmFx F) (hrec : zmRecOk rec) (hsp : zSpell) {D : zmC} {a b : Nat} : ∀ k s, zmL F rec k s = some (D, a, b) →
    (s.2.2.2.2.1 ≤ a ∧ s.2.2.2.2.2 ≤ b ∧ D.length + s.2.2.2.2.1 = s.2.2.2.1.length + a) ∧
    ∀ {p : Program} {e : Env} {R : Room} {s0 : State} {m : MethodId} {args : Array Value} {below : List Frame} {meth : Method} {c : Code} {Q : State → Prop} {O : zOm}, zmCx p R s0 m args meth c O F → s0.heap.size + s.2.2.2.2.1 = zB O + s.2.2.2.1.length → a ≤ R.cells → b ≤ R.slots →
      (∀ pc lv, decode F.2.2.1 pc = .ok (.return_, 1) → zmGo p e R s0 m args below meth c Q O F.2.2.2.1 pc [] lv D a b) → zmGo p e R s0 m args below meth c Q O F.2.2.2.1 s.1 s.2.1 s.2.2.1 s.2.2.2.1 s.2.2.2.2.1 s.2.2.2.2.2 := by
  intro k
  induction k with
  | zero => intro s h; cases h
  | succ k ih =>
    intro s h
    simp only [zmL] at h
    split at h
    · next q hd =>
      have hd := zqF_d hd
      obtain ⟨i, n⟩ := q
      dsimp only at h
      split at h
      · next s' he =>
        obtain ⟨⟨n1, n2, n3⟩, hn⟩ := zmE_ok hF hrec hsp hd he
        obtain ⟨⟨m1, m2, m3⟩, hm⟩ := ih s' h
        refine ⟨⟨by omega, by omega, by omega⟩, fun X hsz hR hRs g => ?_⟩
        exact hn X hsz (by omega) (by omega) (hm X (by omega) hR hRs g)
      · next r he =>
        cases h
        obtain ⟨rfl, rfl, h3, h4⟩ := zmE_ret he
        obtain ⟨pc, st, lv, C, nc, ns⟩ := s
        dsimp only at h3 h4
        subst h3
        cases h4
        exact ⟨⟨Nat.le_refl _, Nat.le_refl _, rfl⟩, fun X hsz hR hRs g => g _ _ hd⟩
      · cases h
    · cases h
def zmEvOk : Bool := (List.range 13).all fun ci => match zxEvs[ci]? with
  | some e => decide (e.1 = zCn ci) && (decide ((zFn (zkFi ci)).1.cls = e.1) && (decide ((zFn (zkFi ci)).1.name = "<init>") && (decide ((zFn (zkFi ci)).2.2.2.1 = none) && (plainName (zFn (zkFi ci)).1.cls && decide (1 ≤ (zFn (zkFi ci)).2.2.1)))))
  | none => false
theorem zmEvOk_ok : zmEvOk = true := by decide +kernel
theorem zmEv_at {ci : Nat} (h : ci < 13) : zmFx (ci, zmEv ci) ∧ (zmEv ci).2.1 = (zFn (zkFi ci)).2.1 ∧ (zmEv ci).2.2.1 = (zFn (zkFi ci)).2.2.1 ∧ (zmEv ci).2.2.2.2.2.2.2.1 = (zFn (zkFi ci)).2.2.2.2.1 ∧ (zmEv ci).2.2.2.2.2.2.2.2.1 = (zFn (zkFi ci)).2.2.2.2.2 ∧ (zFn (zkFi ci)).1.cls = zCn ci ∧ (zFn (zkFi ci)).1.name = "<init>" ∧ (zFn (zkFi ci)).2.2.2.1 = none ∧ plainName (zFn (zkFi ci)).1.cls = true ∧ 1 ≤ (zFn (zkFi ci)).2.2.1 := by
  have h1 := List.all_eq_true.mp zmEvOk_ok ci (List.mem_range.mpr h)
  split at h1
  next e he =>
    simp only [Bool.and_eq_true, decide_eq_true_eq] at h1
    obtain ⟨h1, h2, h3, h4, h5, h6⟩ := h1
    have hE := zxEvs_ok e (List.mem_of_getElem? he) (zFn (zkFi ci))
    unfold zmEv
    rw [he]
    dsimp only
    refine ⟨⟨h, fun k ci' j hk => ?_, hE, h1, rfl⟩, rfl, rfl, rfl, rfl, h2.trans h1, h3, h4, h5, h6⟩
    have := hE.1 k ci' j hk
    rw [show (zxEvOf e (zFn (zkFi ci))).1 = zCn ci from h1] at this
    exact this
  next => cases h1
theorem zmRun_ok (hsp : zSpell) (fuel : Nat) : ∀ d, zmRecOk (zmRun fuel d) := by
  intro d
  induction d with
  | zero => intro ci D a b h; cases h
  | succ d ih =>
    intro ci D a b h
    simp only [zmRun] at h
    split at h
    next hci =>
      obtain ⟨hF, e1, e2, e3, e4, e5, e6, e7, e8, e9⟩ := zmEv_at hci
      obtain ⟨⟨n1, n2, n3⟩, hL⟩ := zmL_ok hF ih hsp fuel _ h
      refine ⟨by dsimp only at n3; simpa using n3, fun O hcl => ?_⟩
      unfold zmR
      refine Met.ofW (cc := (zFn (zkFi ci)).2.1) (maxL := (zFn (zkFi ci)).2.2.1) (ret := none) e8 (by unfold zWs; rw [e7]) ?_
      intro p e s m args below meth c s₁ B hml hv
      obtain ⟨rfl, hsz, hP, hK, hN, hAO, hSt⟩ := hv
      have hlocks := B.notSynchronized
      have hts : ∀ w ∈ zWs (zFn (zkFi ci)), w.before ([Value.ref (zB O + 0)] : List Value).toArray s = true := atoms_spec (ws := zWs (zFn (zkFi ci))) B.pre
      have hin : meth.name = "<init>" := by
        have := (name_of_methodNamed B.named B.method).1
        rw [this]; exact e6
      have X : zmCx p (headSpec (zWs (zFn (zkFi ci))) { frames := (zFn (zkFi ci)).2.2.2.2.1, cells := a, slots := b, locals := (zFn (zkFi ci)).2.2.2.2.2 }).room s m ([Value.ref (zB O + 0)] : List Value).toArray meth c O (ci, zmEv ci) :=
        ⟨⟨B.exec, by rw [B.bytes]; exact e1.symm, by rw [hml]; exact e2.symm, by rw [← e5]; exact findClass_of_methodNamed B.named, fun w hw => hts w (List.mem_cons_of_mem _ hw), hK, hN, hcl, by rw [hsz]; exact Nat.le_add_right _ _, hAO, hSt⟩, hin, e3.symm, e4.symm⟩
      have hlen : (lg_sl ([Value.ref (zB O + 0)] : List Value)).length ≤ (zFn (zkFi ci)).2.2.1 := e9
      have hl := lv_entry ([Value.ref (zB O + 0)] : List Value) (n := (zFn (zkFi ci)).2.2.1) hlen
      rw [lg_entry_eq]
      refine hL X (by rw [hsz]; rfl) (Nat.le_refl _) (Nat.le_refl _) (fun pc lv hd => ?_) s.heap [] _ hP va_S.rf ?_
      · intro H locs ls hP2 hS2 hl2
        exact W.vret B.exec B.bytes B.returns (fun t ht hW => ⟨rfl, by rw [ht]; exact hP2, hS2.F ht⟩) hS2.2.2 (by rw [← e1]; exact hd)
      · rw [e2]; exact hl
    next => cases h
end
