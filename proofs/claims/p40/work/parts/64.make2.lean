theorem zcA_eq {O : zOm} {s : State} (hK : va_K (zD O) (zcl O) (zTys O) s) {ty : FieldType} (hty : ty ∈ zTy) {cA : ClassId} (h : va_RA s cA ty) : cA = zcA O ty := by
  obtain ⟨t0, ht⟩ := zTy_at O hty
  have h2 := (hK.2 t0 _ ht).2
  cases ty with
  | object C =>
    obtain ⟨-, -, -, -, -, h3⟩ := h
    obtain ⟨-, -, -, -, -, h4⟩ := h2
    exact Option.some.inj (h3.symm.trans h4)
  | _ => exact Option.some.inj (Eq.trans (Eq.symm h) h2)
theorem zmK_last {D : va_G} {cl : List vw_C} {tys : List (ClassId × FieldType)} {x : ClassId × FieldType} {s : State} (h : va_K D cl (tys ++ [x]) s) : va_RA s x.1 x.2 :=
  (h.2 tys.length x (by rw [List.getElem?_append_right (Nat.le_refl _), Nat.sub_self]; rfl)).2
def zkAok : Bool := zInW (zkA.getD 0 0) (.arrayClass .int) && (zInW (zkA.getD 1 0) (.arrayClass .boolean) && (zInW (zkA.getD 2 0) (.arrayClass .byte) && zInW (zkA.getD 3 0) (.arrayClass .long)))
theorem zkAok_ok : zkAok = true := by decide +kernel
theorem znat_i {n : Nat} (h : n < 2147483648) : ¬ zi (n : Int) < 0 ∧ (zi (n : Int)).toNatClampNeg = n := by
  have hin : zin32 (n : Int) := ⟨by omega, by omega⟩
  refine ⟨fun q => ?_, by rw [zi_cl hin]; rfl⟩
  have := (zi_lt hin (⟨by decide, by decide⟩ : zin32 0)).mp q
  omega
theorem zn_newa {p : Program} {e : Env} {R : Room} {s : State} {m : MethodId} {args : Array Value} {below : List Frame} {meth : Method} {c : Code} {Q : State → Prop} {O : zOm} {own : String} {code : ByteArray} {nL pc : Nat} {st : List zV} {lv : zLv} {C : zmC} {nc ns n : Nat} {at_ : ArrayType} {ty : FieldType} (X : zmX p R s m args c O own code nL)
    (hty : (at_ = .int ∧ ty = .int) ∨ (at_ = .boolean ∧ ty = .boolean) ∨ (at_ = .byte ∧ ty = .byte) ∨ (at_ = .long ∧ ty = .long)) (hn : n < 1048576)
    (hsz : s.heap.size + nc = zB O + C.length) (hd : decode code pc = .ok (.newarray at_, 2)) (hR : nc + 1 ≤ R.cells) (hRs : ns + n ≤ R.slots)
    (h : zmGo p e R s m args below meth c Q O nL (pc + 2) ((2, (C.length : Int)) :: st) lv (C ++ [(.inl (ty, n, []), [])]) (nc + 1) (ns + n)) : zmGo p e R s m args below meth c Q O nL pc ((0, (n : Int)) :: st) lv C nc ns := by
  obtain ⟨hx, hb, hml, hown, hts, hK, hN, hcl, hB, hAO, hSt⟩ := X
  intro H locs ls hP hS hl
  obtain ⟨n1, n2⟩ := znat_i (n := n) (by omega)
  have hw := zkAok_ok
  unfold zkAok at hw
  simp only [Bool.and_eq_true] at hw
  have fin : ∀ (q : Nat) (cA : ClassId) (H1 : Heap) (a0 : vp_A), va_RA s cA ty → ty ∈ zTy → zEnc O (zrg []) (.inl (ty, n, [])) = .inl (zcA O ty, a0) → va_P (zD O) (zcl O) (zmW O C ++ [(q, .inl (cA, a0))]) H1 → va_D (fun q => zB O ≤ q) (zmW O C ++ [(q, .inl (cA, a0))]) → va_S (fun q => zB O ≤ q) s.heap H1 locs → W p (zLn O) e R s m args below meth c H1 locs (nc + 1) (ns + n) Q (F0 m (pc + 2) ls (.ref q :: st.map (zWv O))) := by
    intro q cA H1 a0 hra hz he hP1 hD1 hS1
    have hA := zcA_eq hK hz hra
    subst hA
    refine zW_sz fun hz => ?_
    have hq := zm_last (fun _ z => z) hP1 hD1 (by omega)
    subst hq
    have := h H1 locs ls (by rw [zmW_app]; dsimp only; rw [he]; exact hP1) hS1 hl
    rw [List.map_cons, zWv_nn O (Int.natCast_nonneg _)] at this
    exact this
  show W _ _ _ _ _ _ _ _ _ _ _ _ _ _ _ (F0 m pc ls (.int (zi (n : Int)) :: st.map (zWv O)))
  rcases hty with ⟨rfl, rfl⟩ | ⟨rfl, rfl⟩ | ⟨rfl, rfl⟩ | ⟨rfl, rfl⟩
  · exact va_newa (atype := .int) (a0 := (n, .inl (fun j => zi (zrg [] j)))) hx hb (hts _ (zInW_mem hw.1)) rfl hK hP (zmW_D O C) hS (fun q hq => Nat.le_trans hB hq) (fun cA => rfl) n1 n2 (by show n * 4 ≤ _; omega) hR hRs hd (fun q cA H1 hK1 hP1 hD1 hS1 => fin q cA H1 _ (zmK_last hK1) (by decide) rfl hP1 hD1 hS1)
  · exact va_newa (atype := .boolean) (a0 := (n, .inl (fun j => zi (zrg [] j)))) hx hb (hts _ (zInW_mem hw.2.1)) rfl hK hP (zmW_D O C) hS (fun q hq => Nat.le_trans hB hq) (fun cA => rfl) n1 n2 (by show n * 1 ≤ _; omega) hR hRs hd (fun q cA H1 hK1 hP1 hD1 hS1 => fin q cA H1 _ (zmK_last hK1) (by decide) rfl hP1 hD1 hS1)
  · exact va_newa (atype := .byte) (a0 := (n, .inl (fun j => zi (zrg [] j)))) hx hb (hts _ (zInW_mem hw.2.2.1)) rfl hK hP (zmW_D O C) hS (fun q hq => Nat.le_trans hB hq) (fun cA => rfl) n1 n2 (by show n * 1 ≤ _; omega) hR hRs hd (fun q cA H1 hK1 hP1 hD1 hS1 => fin q cA H1 _ (zmK_last hK1) (by decide) rfl hP1 hD1 hS1)
  · exact va_newa (atype := .long) (a0 := (n, .inr (.inl (fun j => zl (zrg [] j))))) hx hb (hts _ (zInW_mem hw.2.2.2)) rfl hK hP (zmW_D O C) hS (fun q hq => Nat.le_trans hB hq) (fun cA => rfl) n1 n2 (by show n * 8 ≤ _; omega) hR hRs hd (fun q cA H1 hK1 hP1 hD1 hS1 => fin q cA H1 _ (zmK_last hK1) (by decide) rfl hP1 hD1 hS1)
def zkaok : Bool := (List.range 13).all fun c => (zka.getD c []).all fun e => zInW e.2.2.1 (.classLink (zCn c) e.1 (zCn e.2.1)) && decide (e.2.1 = 2 ∨ e.2.1 = 4)
theorem zkaok_ok : zkaok = true := by decide +kernel
theorem zn_anew {p : Program} {e : Env} {R : Room} {s : State} {m : MethodId} {args : Array Value} {below : List Frame} {meth : Method} {c : Code} {Q : State → Prop} {O : zOm} {c0 : Nat} {code : ByteArray} {nL pc : Nat} {st : List zV} {lv : zLv} {C : zmC} {nc ns n k ci p1 p2 : Nat} (X : zmX p R s m args c O (zCn c0) code nL) (hc0 : c0 < 13) (hk : (k, ci, p1, p2) ∈ zka.getD c0 [])
    (hn : n < 1048576) (hsz : s.heap.size + nc = zB O + C.length) (hd : decode code pc = .ok (.anewarray k, 3)) (hR : nc + 1 ≤ R.cells) (hRs : ns + n ≤ R.slots)
    (h : zmGo p e R s m args below meth c Q O nL (pc + 3) ((2, (C.length : Int)) :: st) lv (C ++ [(.inl (.object (zCn ci), n, List.replicate n none), [])]) (nc + 1) (ns + n)) : zmGo p e R s m args below meth c Q O nL pc ((0, (n : Int)) :: st) lv C nc ns := by
  obtain ⟨hx, hb, hml, hown, hts, hK, hN, hcl, hB, hAO, hSt⟩ := X
  intro H locs ls hP hS hl
  obtain ⟨n1, n2⟩ := znat_i (n := n) (by omega)
  have h1 := List.all_eq_true.mp (List.all_eq_true.mp zkaok_ok c0 (List.mem_range.mpr hc0)) _ hk
  rw [Bool.and_eq_true, decide_eq_true_eq] at h1
  obtain ⟨w1, w2⟩ := h1
  have w2 : va_AO (zCn ci) s ∧ FieldType.object (zCn ci) ∈ zTy := by
    rcases (show ci = 2 ∨ ci = 4 from w2) with rfl | rfl
    · exact ⟨hAO.1, by decide⟩
    · exact ⟨hAO.2, by decide⟩
  obtain ⟨w2, w3⟩ := w2
  show W _ _ _ _ _ _ _ _ _ _ _ _ _ _ _ (F0 m pc ls (.int (zi (n : Int)) :: st.map (zWv O)))
  refine va_newq hx hb hown (hts _ (zInW_mem w1)) w2 hK hP (zmW_D O C) hS (fun q hq => Nat.le_trans hB hq) n1 n2 (by omega) hR hRs hd (fun q cA H1 hK1 hP1 hD1 hS1 => ?_)
  have hA := zcA_eq hK w3 (zmK_last hK1)
  subst hA
  refine zW_sz fun hz => ?_
  have hq := zm_last (fun _ z => z) hP1 hD1 (by omega)
  subst hq
  have := h H1 locs ls (by
    rw [zmW_app]
    have he : zEnc O (zrg []) (.inl (.object (zCn ci), n, List.replicate n none)) = .inl (zcA O (.object (zCn ci)), n, .inr (.inr (.inr (.inr (fun _ => none))))) := by
      refine congrArg (fun z => Sum.inl (zcA O (.object (zCn ci)), n, Sum.inr (Sum.inr (Sum.inr (Sum.inr z))))) (funext fun j => ?_)
      rw [List.getD_eq_getElem?_getD, List.getElem?_replicate]
      split <;> rfl
    dsimp only
    rw [he]
    exact hP1) hS1 hl
  rw [List.map_cons, zWv_nn O (Int.natCast_nonneg _)] at this
  exact this
