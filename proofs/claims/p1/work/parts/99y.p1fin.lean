/-! ===== one call on the fresh house: the whole law of at most 6 ints ===== -/
def zp1P (O : zOm) (xs : Nat → Int32) (e : Nat × Nat × List (Nat × Bool) × Nat × Nat × Nat × Nat) : Prop := (xs 0 &&& 63).toInt = (e.1 : Int) → zSame O e.2.2.2.2.1 e.2.2.2.2.2.2 (zlArgs xs 0 e.2.2.1) (zmM zC0)
theorem zlArg_b (xs : Nat → Int32) (i k : Nat) : zlArg xs i (k, true) = 0 ∨ zlArg xs i (k, true) = 1 := by
  unfold zlArg
  rw [if_pos rfl]
  split
  · exact Or.inl rfl
  · exact Or.inr rfl
theorem zp1_all {O : zOm} (hO : zWld O) (hS : zS O = zmS zC0) (xs : Nat → Int32) : ∀ e ∈ zlT, zp1P O xs e := List.forall_mem_cons.mpr ⟨fun _ => q_feed hO hS _ _ _ _ _, List.forall_mem_cons.mpr ⟨fun _ => q_back hO hS _, List.forall_mem_cons.mpr ⟨fun _ => q_net hO hS _, List.forall_mem_cons.mpr ⟨fun _ => q_tie hO hS _ _ _ (zlArg_b xs 0 3), List.forall_mem_cons.mpr ⟨fun _ => q_tomorrow hO hS, List.forall_mem_cons.mpr ⟨fun _ => q_mark hO hS _ _, List.forall_mem_cons.mpr ⟨fun _ => q_ties hO hS _ _, List.forall_mem_cons.mpr ⟨fun _ => q_tied hO hS _ _ _, List.forall_mem_cons.mpr ⟨fun _ => q_read hO hS, List.forall_mem_cons.mpr ⟨fun _ => q_place hO hS, List.forall_mem_cons.mpr ⟨fun _ => q_make hO hS _, List.forall_mem_cons.mpr ⟨fun _ => q_copy hO hS _, List.forall_mem_cons.mpr ⟨fun _ => q_drop hO hS, List.forall_mem_cons.mpr ⟨fun _ => q_length hO hS _, List.forall_mem_cons.mpr ⟨fun _ => q_box hO hS _ _, List.forall_mem_cons.mpr ⟨fun _ => q_row hO hS _ _ _, List.forall_mem_cons.mpr ⟨fun _ => q_built hO hS _ _ _, List.forall_mem_cons.mpr ⟨fun _ => q_unlike hO hS _ _, List.forall_mem_cons.mpr ⟨fun _ => q_together hO hS _ _ _, List.forall_mem_cons.mpr ⟨fun _ => q_apart hO hS _ _, List.forall_mem_cons.mpr ⟨fun _ => q_bound hO hS, List.forall_mem_cons.mpr ⟨fun _ => q_bests hO hS, List.forall_mem_cons.mpr ⟨fun _ => q_leave hO hS _ _ _, List.forall_mem_cons.mpr ⟨fun _ => q_sort hO hS _ _ _ _ _, List.forall_mem_cons.mpr ⟨fun _ => q_ask hO hS _ _ _ _ _, List.forall_mem_cons.mpr ⟨fun _ => q_mean hO hS _ _ _ _, List.forall_mem_cons.mpr ⟨fun _ => q_leads hO hS _ _ _ _, List.forall_mem_cons.mpr ⟨fun _ => q_led hO hS _ _ _ _ _, List.forall_mem_cons.mpr ⟨fun _ => q_reader hO hS _ _ _ _, List.forall_mem_cons.mpr ⟨fun _ => q_harm hO hS _, List.forall_mem_cons.mpr ⟨fun _ => q_serve hO hS _ _, List.forall_mem_cons.mpr ⟨fun _ => q_rounds hO hS, List.forall_mem_cons.mpr ⟨fun _ => q_coarsest hO hS _, List.forall_mem_cons.mpr ⟨fun _ => q_nearly hO hS _ _, List.forall_mem_cons.mpr ⟨fun _ => q_mend hO hS _, List.forall_mem_cons.mpr ⟨fun _ => q_broken hO hS _ _, List.forall_mem_cons.mpr ⟨fun _ => q_line hO hS _, List.forall_mem_cons.mpr ⟨fun _ => q_at hO hS _ _, List.forall_mem_cons.mpr ⟨fun _ => q_sentence hO hS _ _, List.forall_mem_cons.mpr ⟨fun _ => q_spares hO hS _ _, List.forall_mem_cons.mpr ⟨fun _ => q_compare hO hS _ _ _, List.forall_mem_cons.mpr ⟨fun _ => q_odds hO hS _ _ _, List.forall_mem_cons.mpr ⟨fun _ => q_chance hO hS _ _ _, List.forall_mem_cons.mpr ⟨fun _ => q_count hO hS _, fun e h => by cases h⟩⟩⟩⟩⟩⟩⟩⟩⟩⟩⟩⟩⟩⟩⟩⟩⟩⟩⟩⟩⟩⟩⟩⟩⟩⟩⟩⟩⟩⟩⟩⟩⟩⟩⟩⟩⟩⟩⟩⟩⟩⟩⟩⟩
def zp1Inv (i : Nat) (M : zMem) : Prop := match i with
  | 0 => M = zmM zC0
  | _ + 1 => True
theorem zp1_obl {O : zOm} (hO : zWld O) (hS : zS O = zmS zC0) (hl : (zLn O).stackTraces = false) (xs : Nat → Int32) : zObl O xs 0 (zmM zC0) (zp1Inv 6) :=
  ⟨fun _ _ _ _ _ _ _ hm hn => zp1_all hO hS xs _ hm hn, fun _ => q_word hO hS hl, fun _ => q_except hO hS hl, fun _ => trivial⟩
theorem zp1_whole {p : Program} {l : Launch} (hfl : l.stackTraces = false) {e : Env} {s : State} {m : MethodId} {below : List Frame} {meth : Method} {c : Code} {Q : State → Prop} {b L : Nat} {xs : Nat → Int32} (hL : L ≤ 6) (hx : p.tables.exec = Jvm.exec) (hb : c.code = code) (hr : meth.sig.returnType = ret) (hml : c.maxLocals = 7) (hown : s.vm.findClass "ToldNetLaw" = some m.cls) (hts : ∀ w ∈ lw_tbl, w.before #[Value.ref b] s = true) (hX : va_X b L xs s s.heap) (hbl : b < s.heap.size) (hgv : (Jvm.Cond.and given_1 narrow_1).before #[Value.ref b] s = true)
    (hend : ∀ H locs nc ns ls, va_S (zlA s) s.heap H locs → nc ≤ 600002 → ns ≤ 7302232 → W p l e room_1 s m #[Value.ref b] below meth c H locs nc ns Q (F0 m 2134 ls [])) :
    W p l e room_1 s m #[Value.ref b] below meth c s.heap [] 0 0 Q (entryFrame m ([Value.ref b] : List Value).toArray 7) := by
  refine zl_whole (by omega) hx hb hr hml hown hts hX hbl hgv zp1Inv rfl (fun O hLn hO hS i M hi hI _ => ?_) hend
  have h0 : i = 0 := by omega
  subst h0
  have hM : M = zmM zC0 := hI
  subst hM
  exact zp1_obl hO hS (by rw [hLn]; exact hfl) xs
