/-! ===== all calls ===== -/
theorem zlArg_v (xs : Nat → Int32) (i k : Nat) : zlArg xs i (k, true) = 0 ∨ zlArg xs i (k, true) = 1 := by
  unfold zlArg
  rw [if_pos rfl]
  split
  · exact Or.inl rfl
  · exact Or.inr rfl
theorem ob_tieB {O : zOm} (hO : zWld O) (hS : zS O = zmS zC0) {M : zMem} (hI : zInv M) {x y z : Int} (hz : z = 0 ∨ z = 1) : zR O F_ToldNet_tie [(2, ((0 : Nat) : Int)), (0, x), (0, y), (0, z)] M (zAns O F_Model_tie [(2, 249), (0, x), (0, y), (0, z)]) := by
  rcases hz with rfl | rfl
  · exact ob_tie (v := false) hO hS hI
  · exact ob_tie (v := true) hO hS hI
theorem ob_leaveB {O : zOm} (hO : zWld O) (hS : zS O = zmS zC0) {M : zMem} (hI : zInv M) {x y z : Int} (hy : zin32 y) (hz : z = 0 ∨ z = 1) : zR O F_ToldNet_leave [(2, ((0 : Nat) : Int)), (0, x), (0, y), (0, z)] M (zAns O F_Model_leave [(2, 249), (0, x), (0, y), (0, z)]) := by
  rcases hz with rfl | rfl
  · exact ob_leave (v := false) hO hS hI hy
  · exact ob_leave (v := true) hO hS hI hy
theorem ob_sortB {O : zOm} (hO : zWld O) (hS : zS O = zmS zC0) {M : zMem} (hI : zInv M) {x y z w u : Int} (hw : w = 0 ∨ w = 1) : zR O F_ToldNet_sort [(2, ((0 : Nat) : Int)), (0, x), (0, y), (0, z), (0, w), (0, u)] M (zAns O F_Model_sort [(2, 249), (0, x), (0, y), (0, z), (0, w), (0, u)]) := by
  rcases hw with rfl | rfl
  · exact ob_sort (v := false) hO hS hI
  · exact ob_sort (v := true) hO hS hI
theorem ob_askB {O : zOm} (hO : zWld O) (hS : zS O = zmS zC0) {M : zMem} (hI : zInv M) {x y z w u : Int} (hu : u = 0 ∨ u = 1) : zR O F_ToldNet_ask [(2, ((0 : Nat) : Int)), (0, x), (0, y), (0, z), (0, w), (0, u)] M (zAns O F_Model_ask [(2, 249), (0, x), (0, y), (0, z), (0, w), (0, u)]) := by
  rcases hu with rfl | rfl
  · exact ob_ask (v := false) hO hS hI
  · exact ob_ask (v := true) hO hS hI
def zPe (O : zOm) (xs : Nat → Int32) (i : Nat) (M : zMem) (e : Nat × Nat × List (Nat × Bool) × Nat × Nat × Nat × Nat) : Prop := zR O (zFn e.2.2.2.2.1) ((2, ((0 : Nat) : Int)) :: zlArgs xs i e.2.2.1) M (zAns O (zFn e.2.2.2.2.2.2) ((2, 249) :: zlArgs xs i e.2.2.1))
theorem zPe_all {O : zOm} (hO : zWld O) (hS : zS O = zmS zC0) {M : zMem} (hI : zInv M) (hm : zMok (zS O) M) (xs : Nat → Int32) (i : Nat) : ∀ e ∈ zlT, zPe O xs i M e := List.forall_mem_cons.mpr ⟨ob_feed hO hS hI, List.forall_mem_cons.mpr ⟨ob_back hO hS hI, List.forall_mem_cons.mpr ⟨ob_net hO hS hI, List.forall_mem_cons.mpr ⟨ob_tieB hO hS hI (zlArg_v xs i 3), List.forall_mem_cons.mpr ⟨ob_tomorrow hO hS hI, List.forall_mem_cons.mpr ⟨ob_mark hO hS hI, List.forall_mem_cons.mpr ⟨ob_ties hO hS hI, List.forall_mem_cons.mpr ⟨ob_tied hO hS hI, List.forall_mem_cons.mpr ⟨ob_read hO hS hI, List.forall_mem_cons.mpr ⟨ob_place hO hS hI, List.forall_mem_cons.mpr ⟨ob_make hO hS hI, List.forall_mem_cons.mpr ⟨ob_copy hO hS hI, List.forall_mem_cons.mpr ⟨ob_drop hO hS hI, List.forall_mem_cons.mpr ⟨ob_length hO hS hI, List.forall_mem_cons.mpr ⟨ob_box hO hS hI, List.forall_mem_cons.mpr ⟨ob_row hO hS hI, List.forall_mem_cons.mpr ⟨ob_built hO hS hI, List.forall_mem_cons.mpr ⟨ob_unlike hO hS hI, List.forall_mem_cons.mpr ⟨ob_together hO hS hI hm, List.forall_mem_cons.mpr ⟨ob_apart hO hS hI hm, List.forall_mem_cons.mpr ⟨ob_bound hO hS hI, List.forall_mem_cons.mpr ⟨ob_bests hO hS hI, List.forall_mem_cons.mpr ⟨ob_leaveB hO hS hI (zlArg_in xs i (2, false)) (zlArg_v xs i 3), List.forall_mem_cons.mpr ⟨ob_sortB hO hS hI (zlArg_v xs i 4), List.forall_mem_cons.mpr ⟨ob_askB hO hS hI (zlArg_v xs i 5), List.forall_mem_cons.mpr ⟨ob_mean hO hS hI, List.forall_mem_cons.mpr ⟨ob_leads hO hS hI, List.forall_mem_cons.mpr ⟨ob_led hO hS hI, List.forall_mem_cons.mpr ⟨ob_reader hO hS hI, List.forall_mem_cons.mpr ⟨ob_harm hO hS hI, List.forall_mem_cons.mpr ⟨ob_serve hO hS hI, List.forall_mem_cons.mpr ⟨ob_rounds hO hS hI, List.forall_mem_cons.mpr ⟨ob_coarsest hO hS hI, List.forall_mem_cons.mpr ⟨ob_nearly hO hS hI, List.forall_mem_cons.mpr ⟨ob_mend hO hS hI, List.forall_mem_cons.mpr ⟨ob_broken hO hS hI, List.forall_mem_cons.mpr ⟨ob_line hO hS hI, List.forall_mem_cons.mpr ⟨ob_at hO hS hI, List.forall_mem_cons.mpr ⟨ob_sentence hO hS hI, List.forall_mem_cons.mpr ⟨ob_spares hO hS hI, List.forall_mem_cons.mpr ⟨ob_compare hO hS hI, List.forall_mem_cons.mpr ⟨ob_odds hO hS hI, List.forall_mem_cons.mpr ⟨ob_chance hO hS hI, List.forall_mem_cons.mpr ⟨ob_count hO hS hI, (fun _ h => by cases h)⟩⟩⟩⟩⟩⟩⟩⟩⟩⟩⟩⟩⟩⟩⟩⟩⟩⟩⟩⟩⟩⟩⟩⟩⟩⟩⟩⟩⟩⟩⟩⟩⟩⟩⟩⟩⟩⟩⟩⟩⟩⟩⟩⟩
theorem zob2 {O : zOm} (hO : zWld O) (hS : zS O = zmS zC0) (hl : (zLn O).stackTraces = false) {M : zMem} (hI : zInv M) (hm : zMok (zS O) M) (xs : Nat → Int32) (i : Nat) : zObl2 O xs i M zInv :=
  ⟨fun _ _ _ _ _ _ _ he _ => zPe_all hO hS hI hm xs i _ he, fun _ => ob_word hO hS hl hI (zlArg_in xs i (2, false)), fun _ => ob_except hO hS hl hI (zlArg_in xs i (2, false)), fun _ => hI⟩
theorem zw_whole {p : Program} {l : Launch} (hfl : l.stackTraces = false) {e : Env} {s : State} {m : MethodId} {below : List Frame} {meth : Method} {c : Code} {Q : State → Prop} {b L : Nat} {xs : Nat → Int32} (hL : L ≤ 3072) (hx : p.tables.exec = Jvm.exec) (hb : c.code = code) (hr : meth.sig.returnType = ret) (hml : c.maxLocals = 7) (hown : s.vm.findClass "ToldNetLaw" = some m.cls) (hts : ∀ w ∈ lw_tbl, w.before #[Value.ref b] s = true) (hX : va_X b L xs s s.heap) (hbl : b < s.heap.size) (hgv : (Jvm.Cond.and given_1 narrow_1).before #[Value.ref b] s = true)
    (hend : ∀ H locs nc ns ls, va_S (zlA s) s.heap H locs → nc ≤ 601024 → ns ≤ 7293034 → W p l e room_1 s m #[Value.ref b] below meth c H locs nc ns Q (F0 m 2134 ls [])) :
    W p l e room_1 s m #[Value.ref b] below meth c s.heap [] 0 0 Q (entryFrame m ([Value.ref b] : List Value).toArray 7) :=
  zl_whole2 hL hx hb hr hml hown hts hX hbl hgv (fun _ => zInv) zInv_0 (fun O hLn hO hS i M _ hI hm => zob2 hO hS (by rw [hLn]; exact hfl) hI hm xs i) hend
