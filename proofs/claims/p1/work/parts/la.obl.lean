/-! ===== all calls ===== -/
theorem zlArg_v (xs : Nat → Int32) (i k : Nat) : zlArg xs i (k, true) = 0 ∨ zlArg xs i (k, true) = 1 := by
  unfold zlArg
  rw [if_pos rfl]
  split
  · exact Or.inl rfl
  · exact Or.inr rfl
theorem ob_tieB {O : zOm} (hO : zWld O) (hS : zS O = zmS zC0) {M : zMem} (hI : zInv M) {x y z : Int} (hz : z = 0 ∨ z = 1) : zR O F_ToldNet_tie [(2, ((0 : Nat) : Int)), (0, x), (0, y), (0, z)] M (zAns O F_Model_tie [(2, 250), (0, x), (0, y), (0, z)]) := by
  rcases hz with rfl | rfl
  · exact ob_tie (v := false) hO hS hI
  · exact ob_tie (v := true) hO hS hI
theorem ob_leaveB {O : zOm} (hO : zWld O) (hS : zS O = zmS zC0) {M : zMem} (hI : zInv M) {x y z : Int} (hy : zin32 y) (hz : z = 0 ∨ z = 1) : zR O F_ToldNet_leave [(2, ((0 : Nat) : Int)), (0, x), (0, y), (0, z)] M (zAns O F_Model_leave [(2, 250), (0, x), (0, y), (0, z)]) := by
  rcases hz with rfl | rfl
  · exact ob_leave (v := false) hO hS hI hy
  · exact ob_leave (v := true) hO hS hI hy
theorem ob_sortB {O : zOm} (hO : zWld O) (hS : zS O = zmS zC0) {M : zMem} (hI : zInv M) {x y z w u : Int} (hw : w = 0 ∨ w = 1) : zR O F_ToldNet_sort [(2, ((0 : Nat) : Int)), (0, x), (0, y), (0, z), (0, w), (0, u)] M (zAns O F_Model_sort [(2, 250), (0, x), (0, y), (0, z), (0, w), (0, u)]) := by
  rcases hw with rfl | rfl
  · exact ob_sort (v := false) hO hS hI
  · exact ob_sort (v := true) hO hS hI
theorem ob_askB {O : zOm} (hO : zWld O) (hS : zS O = zmS zC0) {M : zMem} (hI : zInv M) {x y z w u : Int} (hu : u = 0 ∨ u = 1) : zR O F_ToldNet_ask [(2, ((0 : Nat) : Int)), (0, x), (0, y), (0, z), (0, w), (0, u)] M (zAns O F_Model_ask [(2, 250), (0, x), (0, y), (0, z), (0, w), (0, u)]) := by
  rcases hu with rfl | rfl
  · exact ob_ask (v := false) hO hS hI
  · exact ob_ask (v := true) hO hS hI
def zPe (O : zOm) (xs : Nat → Int32) (i : Nat) (M : zMem) (J : zMem → Prop) (e : Nat × Nat × List (Nat × Bool) × Nat × Nat × Nat × Nat) : Prop :=
  (zlIsC e.1 = true → zR O (zFn e.2.2.2.2.1) ((2, ((0 : Nat) : Int)) :: zlArgs xs i e.2.2.1) M (fun v M1 => zR O (zFn e.2.2.2.2.2.2) ((2, ((250 : Nat) : Int)) :: zlArgs xs i e.2.2.1) M1 (fun v' M2 => ∃ r, v = some (0, r) ∧ v' = some (0, r) ∧ J M2))) ∧
  (¬ zlIsC e.1 = true → zR O (zFn e.2.2.2.2.1) ((2, ((0 : Nat) : Int)) :: zlArgs xs i e.2.2.1) M (fun v M1 => (∃ r, v = some (0, r)) ∧ zR O (zFn e.2.2.2.2.2.2) ((2, ((250 : Nat) : Int)) :: zlArgs xs i e.2.2.1) M1 (fun v' M2 => (∃ r, v' = some (0, r)) ∧ J M2)))
theorem pe_eq {O : zOm} {xs : Nat → Int32} {i : Nat} {M : zMem} {J : zMem → Prop} {e : Nat × Nat × List (Nat × Bool) × Nat × Nat × Nat × Nat} (hJ : ∀ u, zInv u → J u) (h : zR O (zFn e.2.2.2.2.1) ((2, ((0 : Nat) : Int)) :: zlArgs xs i e.2.2.1) M (zAns O (zFn e.2.2.2.2.2.2) ((2, 250) :: zlArgs xs i e.2.2.1))) : zPe O xs i M J e :=
  ⟨fun _ => h.mono (fun v M1 h1 => h1.use.2.mono (fun v' M2 ⟨r, e1, e2, hI⟩ => ⟨r, e1, e2, hJ _ hI⟩)), fun _ => h.mono (fun v M1 h1 => ⟨h1.use.1, h1.use.2.mono (fun v' M2 ⟨r, _, e2, hI⟩ => ⟨⟨r, e2⟩, hJ _ hI⟩)⟩)⟩
theorem pe_v {O : zOm} {xs : Nat → Int32} {i : Nat} {M : zMem} {J : zMem → Prop} {e : Nat × Nat × List (Nat × Bool) × Nat × Nat × Nat × Nat} (hJ : ∀ u, zInv u → J u) (hc : zlIsC e.1 = false) (h : zR O (zFn e.2.2.2.2.1) ((2, ((0 : Nat) : Int)) :: zlArgs xs i e.2.2.1) M (zAnsV O (zFn e.2.2.2.2.2.2) ((2, 250) :: zlArgs xs i e.2.2.1))) : zPe O xs i M J e :=
  ⟨fun w => absurd (hc.symm.trans w) (by decide), fun _ => h.mono (fun v M1 h1 => ⟨h1.1, h1.2.mono (fun v' M2 ⟨e2, hI⟩ => ⟨e2, hJ _ hI⟩)⟩)⟩
theorem zPe_all {O : zOm} (hO : zWld O) (hS : zS O = zmS zC0) {M : zMem} (hI : zInv M) (hm : zMok (zS O) M) {J : zMem → Prop} (hJ : ∀ u, zInv u → J u) (xs : Nat → Int32) (i : Nat) (hrd : zPe O xs i M J (8, 564, [], 63, 11, 66, 352)) (hpl : zPe O xs i M J (9, 577, [], 67, 12, 70, 353)) : ∀ e ∈ zlT, zPe O xs i M J e := List.forall_mem_cons.mpr ⟨pe_eq hJ (ob_feed hO hS hI), List.forall_mem_cons.mpr ⟨pe_eq hJ (ob_back hO hS hI), List.forall_mem_cons.mpr ⟨pe_eq hJ (ob_net hO hS hI), List.forall_mem_cons.mpr ⟨pe_eq hJ (ob_tieB hO hS hI (zlArg_v xs i 3)), List.forall_mem_cons.mpr ⟨pe_eq hJ (ob_tomorrow hO hS hI), List.forall_mem_cons.mpr ⟨pe_eq hJ (ob_mark hO hS hI), List.forall_mem_cons.mpr ⟨pe_eq hJ (ob_ties hO hS hI), List.forall_mem_cons.mpr ⟨pe_eq hJ (ob_tied hO hS hI), List.forall_mem_cons.mpr ⟨hrd, List.forall_mem_cons.mpr ⟨hpl, List.forall_mem_cons.mpr ⟨pe_eq hJ (ob_make hO hS hI), List.forall_mem_cons.mpr ⟨pe_eq hJ (ob_copy hO hS hI), List.forall_mem_cons.mpr ⟨pe_eq hJ (ob_drop hO hS hI), List.forall_mem_cons.mpr ⟨pe_eq hJ (ob_length hO hS hI), List.forall_mem_cons.mpr ⟨pe_eq hJ (ob_box hO hS hI), List.forall_mem_cons.mpr ⟨pe_eq hJ (ob_row hO hS hI), List.forall_mem_cons.mpr ⟨pe_eq hJ (ob_built hO hS hI), List.forall_mem_cons.mpr ⟨pe_eq hJ (ob_unlike hO hS hI), List.forall_mem_cons.mpr ⟨pe_eq hJ (ob_together hO hS hI hm), List.forall_mem_cons.mpr ⟨pe_eq hJ (ob_apart hO hS hI hm), List.forall_mem_cons.mpr ⟨pe_eq hJ (ob_bound hO hS hI), List.forall_mem_cons.mpr ⟨pe_eq hJ (ob_bests hO hS hI), List.forall_mem_cons.mpr ⟨pe_eq hJ (ob_leaveB hO hS hI (zlArg_in xs i (2, false)) (zlArg_v xs i 3)), List.forall_mem_cons.mpr ⟨pe_eq hJ (ob_sortB hO hS hI (zlArg_v xs i 4)), List.forall_mem_cons.mpr ⟨pe_eq hJ (ob_askB hO hS hI (zlArg_v xs i 5)), List.forall_mem_cons.mpr ⟨pe_eq hJ (ob_mean hO hS hI), List.forall_mem_cons.mpr ⟨pe_eq hJ (ob_leads hO hS hI), List.forall_mem_cons.mpr ⟨pe_eq hJ (ob_led hO hS hI), List.forall_mem_cons.mpr ⟨pe_eq hJ (ob_reader hO hS hI), List.forall_mem_cons.mpr ⟨pe_eq hJ (ob_harm hO hS hI), List.forall_mem_cons.mpr ⟨pe_eq hJ (ob_serve hO hS hI), List.forall_mem_cons.mpr ⟨pe_eq hJ (ob_rounds hO hS hI), List.forall_mem_cons.mpr ⟨pe_eq hJ (ob_coarsest hO hS hI), List.forall_mem_cons.mpr ⟨pe_eq hJ (ob_nearly hO hS hI), List.forall_mem_cons.mpr ⟨pe_eq hJ (ob_mend hO hS hI), List.forall_mem_cons.mpr ⟨pe_eq hJ (ob_broken hO hS hI), List.forall_mem_cons.mpr ⟨pe_eq hJ (ob_line hO hS hI), List.forall_mem_cons.mpr ⟨pe_eq hJ (ob_at hO hS hI), List.forall_mem_cons.mpr ⟨pe_eq hJ (ob_sentence hO hS hI), List.forall_mem_cons.mpr ⟨pe_eq hJ (ob_spares hO hS hI), List.forall_mem_cons.mpr ⟨pe_eq hJ (ob_compare hO hS hI), List.forall_mem_cons.mpr ⟨pe_eq hJ (ob_odds hO hS hI), List.forall_mem_cons.mpr ⟨pe_eq hJ (ob_chance hO hS hI), List.forall_mem_cons.mpr ⟨pe_eq hJ (ob_count hO hS hI), (fun _ h => by cases h)⟩⟩⟩⟩⟩⟩⟩⟩⟩⟩⟩⟩⟩⟩⟩⟩⟩⟩⟩⟩⟩⟩⟩⟩⟩⟩⟩⟩⟩⟩⟩⟩⟩⟩⟩⟩⟩⟩⟩⟩⟩⟩⟩⟩
theorem obC_word {O : zOm} (hO : zWld O) (hS : zS O = zmS zC0) (hl : (zLn O).stackTraces = false) {M : zMem} (hI : zInv M) {J : zMem → Prop} (hJ : ∀ u, zInv u → J u) {x y z : Int} (hy : zin32 y) : zObW O zLw 259 [(0, x), (0, y), (0, z)] M J :=
  ob_word hO hS hl hI hy (fun v u ⟨kc, h1, h2, h3⟩ => ⟨kc, h1, h2, h3.mono (fun v2 u2 ⟨r2, e, f, g, h⟩ => ⟨r2, e, m_thrown hO hS ⟨by rw [f], g, hJ _ h⟩⟩)⟩)
theorem obC_except {O : zOm} (hO : zWld O) (hS : zS O = zmS zC0) (hl : (zLn O).stackTraces = false) {M : zMem} (hI : zInv M) {J : zMem → Prop} (hJ : ∀ u, zInv u → J u) {x y z : Int} (hy : zin32 y) : zObW O zLe 262 [(0, x), (0, y), (0, z)] M J :=
  ob_except hO hS hl hI hy (fun v u ⟨kc, h1, h2, h3⟩ => ⟨kc, h1, h2, h3.mono (fun v2 u2 ⟨r2, e, f, g, h⟩ => ⟨r2, e, m_thrown hO hS ⟨by rw [f], g, hJ _ h⟩⟩)⟩)
theorem obN_word {O : zOm} (hO : zWld O) (hS : zS O = zmS zC0) (hl : (zLn O).stackTraces = false) {M : zMem} (hI : zInv M) {J : zMem → Prop} (hJ : ∀ u, zInv u → J u) {x y z : Int} (hy : zin32 y) : zObN O zLw 259 [(0, x), (0, y), (0, z)] M J :=
  ob_word hO hS hl hI hy (fun v u ⟨kc, h1, h2, h3⟩ => ⟨kc, h1, h2, h3.mono (fun v2 u2 ⟨r2, e, _, _, h⟩ => ⟨⟨r2, e⟩, hJ _ h⟩)⟩)
theorem obN_except {O : zOm} (hO : zWld O) (hS : zS O = zmS zC0) (hl : (zLn O).stackTraces = false) {M : zMem} (hI : zInv M) {J : zMem → Prop} (hJ : ∀ u, zInv u → J u) {x y z : Int} (hy : zin32 y) : zObN O zLe 262 [(0, x), (0, y), (0, z)] M J :=
  ob_except hO hS hl hI hy (fun v u ⟨kc, h1, h2, h3⟩ => ⟨kc, h1, h2, h3.mono (fun v2 u2 ⟨r2, e, _, _, h⟩ => ⟨⟨r2, e⟩, hJ _ h⟩)⟩)
theorem zob2 {O : zOm} (hO : zWld O) (hS : zS O = zmS zC0) (hl : (zLn O).stackTraces = false) {M : zMem} (hI : zInv M) (hm : zMok (zS O) M) {J : zMem → Prop} (hJ : ∀ u, zInv u → J u) (xs : Nat → Int32) (i : Nat) (hrd : zPe O xs i M J (8, 564, [], 63, 11, 66, 352)) (hpl : zPe O xs i M J (9, 577, [], 67, 12, 70, 353)) : zObl2 O xs i M J :=
  ⟨fun _ _ _ _ _ _ _ he _ => zPe_all hO hS hI hm hJ xs i hrd hpl _ he, fun _ => obC_word hO hS hl hI hJ (zlArg_in xs i (2, false)), fun _ => obC_except hO hS hl hI hJ (zlArg_in xs i (2, false)), fun _ => hJ _ hI⟩
/-! ===== read and place on the fresh house ===== -/
def zSame (O : zOm) (fx fm : Nat) (as : List zV) (M : zMem) : Prop := zR O (zFn fx) ((2, ((0 : Nat) : Int)) :: as) M (fun v M1 => zR O (zFn fm) ((2, ((250 : Nat) : Int)) :: as) M1 (fun v' M2 => ∃ r, v = some (0, r) ∧ v' = some (0, r) ∧ True))
def zxSame (S : List zSh) (fuel d fx fm : Nat) (as : List zV) (C : zmC) : Bool := match zxR S fuel d fx ((2, ((0 : Nat) : Int)) :: as) C with
  | some (some (0, r), C1) => match zxR S fuel d fm ((2, ((250 : Nat) : Int)) :: as) C1 with
    | some (some (0, r'), _) => decide (r = r')
    | _ => false
  | _ => false
theorem zx_same {O : zOm} (hO : zWld O) {fuel d fx fm : Nat} {as : List zV} {C : zmC} (hS : zmS C = zS O) (h : zxSame (zS O) fuel d fx fm as C = true) : zSame O fx fm as (zmM C) := by
  unfold zxSame at h
  split at h
  next r C1 e1 =>
    split at h
    next r' C2 e2 =>
      have h3 := of_decide_eq_true h
      subst h3
      obtain ⟨s1, k1⟩ := zxR_ok hO fuel d fx _ C _ C1 hS e1
      obtain ⟨s2, k2⟩ := zxR_ok hO fuel d fm _ C1 _ C2 s1 e2
      exact k1 _ (k2 _ ⟨r, rfl, rfl, trivial⟩)
    next => cases h
  next => cases h
theorem q_read {O : zOm} (hO : zWld O) (hS : zS O = zmS zC0) {xs : Nat → Int32} {i : Nat} {J : zMem → Prop} (hJ : ∀ u, J u) : zPe O xs i (zmM zC0) J (8, 564, [], 63, 11, 66, 352) :=
  ⟨fun _ => (zx_same hO (fuel := 2000) (d := 8) (fx := 11) (fm := 352) (as := []) (C := zC0) hS.symm (by rw [hS]; decide +kernel)).mono (fun v M1 h => h.mono (fun v' M2 ⟨r, e1, e2, _⟩ => ⟨r, e1, e2, hJ _⟩)), fun w => absurd (by decide) w⟩
theorem q_place {O : zOm} (hO : zWld O) (hS : zS O = zmS zC0) {xs : Nat → Int32} {i : Nat} {J : zMem → Prop} (hJ : ∀ u, J u) : zPe O xs i (zmM zC0) J (9, 577, [], 67, 12, 70, 353) :=
  ⟨fun _ => (zx_same hO (fuel := 2000) (d := 8) (fx := 12) (fm := 353) (as := []) (C := zC0) hS.symm (by rw [hS]; decide +kernel)).mono (fun v M1 h => h.mono (fun v' M2 ⟨r, e1, e2, _⟩ => ⟨r, e1, e2, hJ _⟩)), fun w => absurd (by decide) w⟩
theorem zw_whole {p : Program} {l : Launch} (hfl : l.stackTraces = false) {e : Env} {s : State} {m : MethodId} {below : List Frame} {meth : Method} {c : Code} {Q : State → Prop} {b L : Nat} {xs : Nat → Int32} (hL : L ≤ 6) (hx : p.tables.exec = Jvm.exec) (hb : c.code = code) (hr : meth.sig.returnType = ret) (hml : c.maxLocals = 7) (hown : s.vm.findClass "ToldNetLaw" = some m.cls) (hts : ∀ w ∈ lw_tbl, w.before #[Value.ref b] s = true) (hX : va_X b L xs s s.heap) (hbl : b < s.heap.size) (hgv : (Jvm.Cond.and given_1 narrow_1).before #[Value.ref b] s = true)
    (hend : ∀ H locs nc ns ls, va_S (zlA s) s.heap H locs → nc ≤ 600002 → ns ≤ 7302232 → W p l e room_1 s m #[Value.ref b] below meth c H locs nc ns Q (F0 m 2134 ls [])) :
    W p l e room_1 s m #[Value.ref b] below meth c s.heap [] 0 0 Q (entryFrame m ([Value.ref b] : List Value).toArray 7) :=
  zl_whole2 (by omega) hx hb hr hml hown hts hX hbl hgv (fun i M => i = 0 ∧ M = zmM zC0 ∨ 6 ≤ i) (Or.inl ⟨rfl, rfl⟩) (fun O hLn hO hS i M hi hI hm => by
    rcases hI with ⟨rfl, rfl⟩ | h
    · exact zob2 hO hS (by rw [hLn]; exact hfl) zInv_0 hm (fun _ _ => Or.inr (by omega)) xs 0 (q_read hO hS (fun _ => Or.inr (by omega))) (q_place hO hS (fun _ => Or.inr (by omega)))
    · omega) hend

