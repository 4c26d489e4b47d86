/-! ===== the law's walk out of obligations ===== -/
theorem zCat_start {s : State} {b : Nat} (hts : ∀ w ∈ lw_tbl, w.before #[Value.ref b] s = true) : zCat s :=
  ⟨va_Nw.of rfl (hts _ (List.mem_of_getElem? (i := 1580) (by decide +kernel))), va_Nw.of rfl (hts _ (List.mem_of_getElem? (i := 1646) (by decide +kernel)))⟩
/-- what the law's walk owes of the class and the reference, at a script's place i, over contents M -/
def zObl (O : zOm) (xs : Nat → Int32) (i : Nat) (M : zMem) (J : zMem → Prop) : Prop :=
  zlOb O xs i 0 249 M J ∧
  ((xs i &&& 63).toInt = 16 → zLM O zLw ((2, ((0 : Nat) : Int)) :: (zlArgs xs i zl3 ++ [(2, ((310 : Nat) : Int))])) M (fun v u => v = some (0, 1) ∧ zR O (zFn 259) ((2, ((249 : Nat) : Int)) :: zlArgs xs i zl3) u (fun v2 u2 => (∃ r2, v2 = some (0, r2)) ∧ zR O (zFn 204) [(2, ((249 : Nat) : Int))] u2 (fun v3 u3 => v3 = some (0, 1) ∧ J u3)))) ∧
  ((xs i &&& 63).toInt = 17 → zLM O zLe ((2, ((0 : Nat) : Int)) :: (zlArgs xs i zl3 ++ [(2, ((310 : Nat) : Int))])) M (fun v u => v = some (0, 1) ∧ zR O (zFn 262) ((2, ((249 : Nat) : Int)) :: zlArgs xs i zl3) u (fun v2 u2 => (∃ r2, v2 = some (0, r2)) ∧ zR O (zFn 204) [(2, ((249 : Nat) : Int))] u2 (fun v3 u3 => v3 = some (0, 1) ∧ J u3)))) ∧
  (46 ≤ (xs i &&& 63).toInt → J M)
theorem zlk_16 : zlLink 100 259 12 3 = true := by decide +kernel
theorem zlk_17 : zlLink 106 262 12 3 = true := by decide +kernel
theorem zlk_th : zlLink 101 204 12 0 = true := by decide +kernel
theorem zl_whole {p : Program} {l : Launch} {e : Env} {s : State} {m : MethodId} {below : List Frame} {meth : Method} {c : Code} {Q : State → Prop} {b L : Nat} {xs : Nat → Int32} (hL : L ≤ 3072) (hx : p.tables.exec = Jvm.exec) (hb : c.code = code) (hr : meth.sig.returnType = ret) (hml : c.maxLocals = 7) (hown : s.vm.findClass "ToldNetLaw" = some m.cls) (hts : ∀ w ∈ lw_tbl, w.before #[Value.ref b] s = true) (hX : va_X b L xs s s.heap) (hbl : b < s.heap.size) (hgv : (Jvm.Cond.and given_1 narrow_1).before #[Value.ref b] s = true)
    (Inv : Nat → zMem → Prop) (h0 : Inv 0 (zmM zC0)) (hob : ∀ O : zOm, zLn O = l → zWld O → zS O = zmS zC0 → ∀ i M, i + 6 ≤ L → Inv i M → zMok (zS O) M → zObl O xs i M (Inv (i + 6)))
    (hend : ∀ H locs nc ns ls, va_S (zlA s) s.heap H locs → nc ≤ 600002 → ns ≤ 7302232 → W p l e room_1 s m #[Value.ref b] below meth c H locs nc ns Q (F0 m 2134 ls [])) :
    W p l e room_1 s m #[Value.ref b] below meth c s.heap [] 0 0 Q (entryFrame m ([Value.ref b] : List Value).toArray 7) := by
  refine zl_begin hL hx hb hr hml hown hts hX hbl hgv (fun O hLn X hS H locs ls hl hH => ?_)
  subst hLn
  have hO : zWld O := X.2.2.2.2.2.2.2.2.2.2.2.2.1
  have hT : zThr (zlA s) s s.heap := zThr_start hts hgv
  have hC : zCat s := zCat_start hts
  have hox : zxObj (zS O) ((0 : Nat) : Int) 0 = true := by rw [hS]; exact zC0_x
  have hom : zxObj (zS O) ((249 : Nat) : Int) 12 = true := by rw [hS]; exact zC0_m
  refine zl_loop X hox hom Inv (fun i M hi hI hM => (hob O rfl hO hS i M hi hI hM).1) (fun i M hi hI hM h46 => (hob O rfl hO hS i M hi hI hM).2.2.2 h46) ?_ hend (L + 6) 0 (zmM zC0) H locs 311 37984 ls (by omega) (by omega) h0 (by decide) (by decide) hl hH
  intro n pc hn i M H2 locs2 nc ns ls2 hi hc hI hl2 hH2 hnc hns kk
  have ho := hob O rfl hO hS i M hi hI hH2.2.2
  rcases hn with ⟨rfl, rfl⟩ | ⟨rfl, rfl⟩
  · exact zl_special X hT hC zlSp16 zlStk_w zlk_16 zlk_th (by decide) hi hl2 hom hH2 ⟨hnc, hns⟩ (ho.2.1 hc) (fun M2 H' locs' ls' hJ hl' hH' => kk M2 H' locs' (nc + 1) (ns + 6) ls' hJ (Nat.le_refl _) (Nat.le_refl _) hl' hH')
  · exact zl_special X hT hC zlSp17 zlStk_e zlk_17 zlk_th (by decide) hi hl2 hom hH2 ⟨hnc, hns⟩ (ho.2.2.1 hc) (fun M2 H' locs' ls' hJ hl' hH' => kk M2 H' locs' (nc + 1) (ns + 6) ls' hJ (Nat.le_refl _) (Nat.le_refl _) hl' hH')
