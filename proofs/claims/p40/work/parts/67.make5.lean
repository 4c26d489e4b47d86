def zfitB (ty : FieldType) (x : Int) : Bool := match ty with
  | .boolean => decide (x = 0 ∨ x = 1)
  | .byte => decide (-128 ≤ x ∧ x < 128)
  | .long => decide (-9223372036854775808 ≤ x ∧ x < 9223372036854775808)
  | _ => decide (-2147483648 ≤ x ∧ x < 2147483648)
theorem zfitB_ok {ty : FieldType} {x : Int} (h : zfitB ty x = true) : zfit ty x := by
  cases ty <;> (simp only [zfitB, decide_eq_true_eq] at h; exact h)
theorem zfit_0 (ty : FieldType) : zfit ty 0 := by
  cases ty <;> first | exact Or.inl rfl | exact ⟨by decide, by decide⟩
theorem zrg_in {P : Int → Prop} (h0 : P 0) {r : zRow} (h : ∀ q ∈ r, P q.2) (j : Int) : P (zrg r j) := by
  induction r with
  | nil => exact h0
  | cons q r ih =>
    show P (if q.1 = j then q.2 else zrg r j)
    split
    · exact h q List.mem_cons_self
    · exact ih (fun q hq => h q (List.mem_cons_of_mem _ hq))
def zmokB (C : zmC) : Bool := C.all fun c => match c.1 with
  | .inl q => c.2.all (fun w => zfitB q.1 w.2)
  | .inr _ => c.2.all (fun w => decide (-2147483648 ≤ w.2 ∧ w.2 < 2147483648))
theorem zmokB_ok {C : zmC} (h : zmokB C = true) : zMok (zmS C) (zmM C) := by
  intro i sh hs
  obtain ⟨r, hc⟩ := zmS_at hs
  rw [zmM_at hc]
  have h1 := List.all_eq_true.mp h _ (List.mem_of_getElem? hc)
  cases sh with
  | inl q =>
    obtain ⟨ty, n, rs⟩ := q
    intro j hj
    exact zrg_in (zfit_0 ty) (fun w hw => zfitB_ok (List.all_eq_true.mp h1 w hw)) _
  | inr q =>
    obtain ⟨ci, fks⟩ := q
    intro j hj
    exact zrg_in (P := zin32) ⟨by decide, by decide⟩ (fun w hw => by have := List.all_eq_true.mp h1 w hw; rw [decide_eq_true_eq] at this; exact this) _
def zfk2 : List (Option (Option Nat)) → List Bool → Bool
  | [], [] => true
  | f :: r, b :: l => (f.isSome || b) && zfk2 r l
  | _, _ => false
theorem zfk2_ok : ∀ {fks : List (Option (Option Nat))} {l : List Bool}, zfk2 fks l = true → fks.length = l.length ∧ ∀ k : Nat, fks[k]? = some none → l[k]? = some true := by
  intro fks
  induction fks with
  | nil => intro l h; cases l with
    | nil => exact ⟨rfl, fun k hk => by cases hk⟩
    | cons b l => cases h
  | cons f r ih =>
    intro l h
    cases l with
    | nil => cases h
    | cons b l =>
      simp only [zfk2, Bool.and_eq_true] at h
      obtain ⟨h1, h2⟩ := ih h.2
      refine ⟨by rw [List.length_cons, List.length_cons, h1], fun k hk => ?_⟩
      cases k with
      | zero =>
        have : f = none := by simpa using hk
        subst this
        have : b = true := by simpa using h.1
        subst this
        rfl
      | succ k => exact h2 k hk
def zsokB (S : List zSh) : Bool := S.all fun sh => match sh with
  | .inl q => decide (q.1 ∈ zTy) && decide (q.2.1 < 2147483648)
  | .inr q => decide (q.1 < 13) && zfk2 q.2 (zFkL.getD q.1 [])
def zFkLok : Bool := (List.range 13).all fun ci => match zCl[ci]? with
  | some (_, T, N) => decide ((zFkL.getD ci []).length = N) && (List.range N).all fun k => match (zFkL.getD ci [])[k]? with
    | some true => decide ((T k).2.2.1 = "I") && !(T k).2.2.2
    | _ => true
  | none => false
theorem zFkLok_ok : zFkLok = true := by decide +kernel
theorem zsokB_ok {O : zOm} (hcl : zcl O = zCl) (h : zsokB (zS O) = true) : zWld O := by
  refine ⟨hcl, fun i sh hs => ?_⟩
  have h1 := List.all_eq_true.mp h _ (List.mem_of_getElem? hs)
  cases sh with
  | inl q =>
    obtain ⟨ty, n, rs⟩ := q
    rw [Bool.and_eq_true, decide_eq_true_eq, decide_eq_true_eq] at h1
    exact h1
  | inr q =>
    obtain ⟨ci, fks⟩ := q
    dsimp only at h1
    rw [Bool.and_eq_true, decide_eq_true_eq] at h1
    obtain ⟨h13, h1⟩ := h1
    obtain ⟨k1, k2⟩ := zfk2_ok h1
    have h4 := List.all_eq_true.mp zFkLok_ok ci (List.mem_range.mpr h13)
    split at h4
    next C T N e1 =>
      simp only [Bool.and_eq_true, decide_eq_true_eq, List.all_eq_true, List.mem_range] at h4
      refine ⟨C, T, N, by rw [hcl]; exact e1, by rw [k1]; exact h4.1, fun k hk => ?_⟩
      have h2 := h4.2 k (by rw [← h4.1, ← k1]; exact (List.getElem?_eq_some_iff.mp hk).1)
      rw [k2 k hk] at h2
      simp only [Bool.and_eq_true, decide_eq_true_eq, Bool.not_eq_true'] at h2
      exact h2
    next => cases h4
theorem zm_run {p : Program} {e : Env} {R : Room} {s : State} {m : MethodId} {args : Array Value} {below : List Frame} {meth : Method} {c : Code} {O : zOm} {H : Heap} {locs : List Loc} {nc ns a b : Nat} {g : JFrame} {rest : List Value} {C C' : zmC} {ar : Array Value} (hB : zB O ≤ H.size)
    (hr : va_Run p (zLn O) e R s m args below meth c H locs nc ns a b g rest (zQ (zmO O (zmS C)) (fun v u => v = none ∧ u = zmM C') H.size ar) (zA (zmO O (zmS C)) H.size)) (hS : zmS C' = zmS C) : va_Run p (zLn O) e R s m args below meth c H locs nc ns a b g rest (zmQ O C' ar) (fun q => zB O ≤ q) := by
  have hA : ∀ q, zA (zmO O (zmS C)) H.size q → zB O ≤ q := fun q hq => hq.elim (fun z => z.1) (fun z => Nat.le_trans hB z)
  intro T hT X
  obtain ⟨v, st₀, t, T', L, h0, X', hL, e1, e2, ⟨⟨r, u, hv, hok, hM, ⟨hr1, hu⟩, hP⟩, hz, hk⟩, st⟩ := hr T hT X
  subst hr1
  subst hu
  refine ⟨v, st₀, t, T', L, h0, X', fun q hq => hA _ (hL q hq), e1, e2, ⟨hv, ?_, hz, fun q h1 h2 => hk q h1 (fun z => h2 (hA q z))⟩, st⟩
  rw [zmW_eq, hS]
  exact hP
theorem zn_virt {p : Program} {e : Env} {R : Room} {s : State} {m : MethodId} {args : Array Value} {below : List Frame} {meth : Method} {c : Code} {Q : State → Prop} {O : zOm} {c0 : Nat} {code : ByteArray} {nL pc : Nat} {st : List zV} {lv : zLv} {C C' : zmC} {nc ns k f ci o : Nat} {x : Int} {ev : zEv} {fuel d : Nat} (X : zmX p R s m args c O (zCn c0) code nL)
    (hE : zEvOk zCl ev) (hE1 : ev.1 = zCn c0) (hE2 : ev.2.2.2.2.2.2.2.2.2 = zFn) (hpm : ev.2.2.2.2.2.1 k = some (0, f, ci, 1))
    (hsz : s.heap.size + nc = zB O + C.length) (hd : decode code pc = .ok (.invokevirtual k, 3)) (hob : zxObj (zmS C) (o : Int) ci = true) (hx32 : zin32 x) (hcat : zcats st ≤ 8) (hR : nc ≤ R.cells ∧ ns ≤ R.slots)
    (hfr : (zFn f).2.2.2.2.1 + 1 ≤ R.frames ∧ 8 + ((zFn f).2.2.1 + 11) + (zFn f).2.2.2.2.2 ≤ R.locals) (h1 : zsokB (zmS C) = true) (h2 : zmokB C = true)
    (hrun : zxR (zmS C) fuel d f [(2, (o : Int)), (0, x)] C = some (none, C'))
    (h : zmGo p e R s m args below meth c Q O nL (pc + 3) st lv C' nc ns) : zmGo p e R s m args below meth c Q O nL pc ((0, x) :: (2, (o : Int)) :: st) lv C nc ns := by
  obtain ⟨hx, hb, hml, hown, hts, hK, hN, hcl, hB, hAO, hSt⟩ := X
  intro H locs ls hP hS hl
  refine zW_sz fun hz => ?_
  obtain ⟨h0, fks, hs⟩ := zxObj_ok hob
  have hs : (zmS C)[o]? = some (.inr (ci, fks)) := hs
  obtain ⟨r0, hc0⟩ := zmS_at hs
  have hlo := (List.getElem?_eq_some_iff.mp hc0).1
  have hz2 := zm_size hP (by omega) (by omega)
  have hO' : zWld (zmO O (zmS C)) := zsokB_ok hcl h1
  obtain ⟨hS', hRn⟩ := zxR_ok hO' fuel d f _ C none C' rfl hrun
  have hMet := hRn (fun v u => v = none ∧ u = zmM C') ⟨rfl, rfl⟩ (fun v hv => by
    rcases List.mem_cons.mp hv with rfl | hv
    · show (-2 : Int) ≤ (o : Int); omega
    · rcases List.mem_cons.mp hv with rfl | hv
      · exact hx32
      · cases hv) (zmokB_ok h2) H.size (by show zB O + (zmS C).length ≤ _; rw [zmS_len]; omega)
  obtain ⟨⟨hcode, hini, hd1, hd2, hd3⟩, ⟨T, N, hc⟩, hlk, hin, hsel⟩ := hE.2.1 k f ci 1 hpm
  rw [hE2] at hcode hini hd1 hd2 hd3 hc hlk hin hsel
  rw [hE1] at hlk
  generalize zFn f = f at hcode hini hd1 hd2 hd3 hc hlk hin hsel hfr hMet
  have hG : GoodIn zWS (wsV (zCn c0) k f.1.cls f.1 (zWs f)) := by
    intro w hw
    have hw' : w ∈ zWS := by
      rcases List.mem_append.mp hw with h1 | h1
      · simp only [List.mem_cons, List.not_mem_nil, or_false] at h1
        rcases h1 with rfl | rfl | rfl | rfl
        · exact hlk
        · exact hin
        · exact hsel
        · exact hini
      · exact (zGood f hcode w h1).1
    exact ⟨hw', good_of_word (List.mem_filter.mp hw').2⟩
  have cw := cwV (R := R) (rm := zRm f) (mc := 0) (ms := 0) (ws' := zWS) 1 hts hG rfl rfl rfl ⟨rfl, hd1, hd2, hd3⟩ hfr
  have he := zmW_at (O := O) hc0
  obtain ⟨rC, hrC, cell, q1, q2, q3, q4⟩ := hP _ _ he
  have hrC : (zcl O)[ci]? = some rC := hrC
  rw [hcl, hc] at hrC
  cases hrC
  have hcls : s.vm.findClass f.1.cls = some cell.cls := by rw [q2]; exact (hK.1 ci _ (by rw [hcl]; exact hc)).2.1
  have hP' : va_P (zD (zmO O (zmS C))) (zcl (zmO O (zmS C))) (zWorld (zmO O (zmS C)) (zmM C)) H := by rw [← zmW_eq]; exact hP
  have hPV : PreV s H f.1.cls (zB O + o) (zPc (zmO O (zmS C)) (zmM C) H.size [(2, (o : Int)), (0, x)]) [.int (zi x)] := by
    refine ⟨zPc_blind _ _ H.size _, ⟨cell, q1, by rw [q3]; rfl, hcls⟩, fun U hU hW => ?_⟩
    have := zPc_at (as := [(2, (o : Int)), (0, x)]) hP' hK hN hU hW
    rw [List.map_cons, zWv_nn _ (Int.natCast_nonneg _)] at this
    exact this
  rw [List.map_cons, List.map_cons, zWv_nn O (Int.natCast_nonneg _)]
  exact zmcall (zm_run (by omega) (va_runV (As := [.int (zi x)]) (rest := st.map (zWv O)) ⟨hx, hb, hml, hown, hts⟩ hMet cw hPV rfl rfl hl.1 rfl (lv_room (by rw [zcats_wv]; exact hcat)) hd ⟨hR.1, hR.2⟩) hS') hS hl h
