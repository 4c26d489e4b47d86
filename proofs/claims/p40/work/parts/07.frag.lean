/-! ===== pieces of programs: what their code must be (chk), what they do (wp), and that the one does the other ===== -/
abbrev zGam : Type := List (Nat × Nat)
abbrev zLoc : Type := List Int
def zget : zLoc → Nat → Int
  | [], _ => 0
  | a :: _, 0 => a
  | _ :: l, k + 1 => zget l k
def zsetl : zLoc → Nat → Int → zLoc
  | [], 0, v => [v]
  | [], k + 1, v => 0 :: zsetl [] k v
  | _ :: l, 0, v => v :: l
  | a :: l, k + 1, v => a :: zsetl l k v
theorem zget_nil (j : Nat) : zget [] j = 0 := by cases j <;> rfl
theorem zget_set (ρ : zLoc) (k : Nat) (v : Int) (j : Nat) : zget (zsetl ρ k v) j = if j = k then v else zget ρ j := by
  induction k generalizing ρ j with
  | zero =>
    cases ρ with
    | nil => cases j with
      | zero => rfl
      | succ j => show zget [] j = _; rw [zget_nil]; simp [zget]
    | cons a l => cases j with
      | zero => rfl
      | succ j => simp [zsetl, zget]
  | succ k ih =>
    cases ρ with
    | nil => cases j with
      | zero => simp [zsetl, zget]
      | succ j => show zget (zsetl [] k v) j = _; rw [ih, zget_nil, zget_nil]; simp
    | cons a l => cases j with
      | zero => simp [zsetl, zget]
      | succ j => show zget (zsetl l k v) j = _; rw [ih]; simp [zget]
def zHold (Γ : zGam) (ρ : zLoc) (lv : zLv) : Prop := ∀ q ∈ Γ, zLook lv q.1 = some (q.2, zget ρ q.1)
def zGG (G : Nat → List zV → zLv → zMem → Prop) (Γ : zGam) (pc : Nat) (st : List zV) (ρ : zLoc) (M : zMem) : Prop := ∀ lv, zHold Γ ρ lv → G pc st lv M
def zat (ev : zEv) (pc : Nat) (i : Instr) (n : Nat) : Bool := zqT ev.2.1 pc i n
theorem zat_d {ev : zEv} {pc : Nat} {i : Instr} {n : Nat} (h : zat ev pc i n = true) : decode ev.2.1 pc = .ok (i, n) := zqT_d h
def zRMon (Rn : zRnT) : Prop := ∀ f as M (K K' : Option zV → zMem → Prop), (∀ v u, K v u → K' v u) → Rn f as M K → Rn f as M K'
-- expressions
abbrev zEC : Type := zEv → zGam → Nat → Nat → Option Nat → Option Nat
abbrev zEW : Type := List zSh → zRnT → (Int → zLoc → zMem → Prop) → zLoc → zMem → Prop
def zESnd (t : Nat) (c : zEC) (w : zEW) : Prop := ∀ (ev : zEv) (S : List zSh) (Rn : zRnT) (rt : Option zV → zMem → Prop) (G : Nat → List zV → zLv → zMem → Prop), zClosed ev S Rn rt G →
  ∀ (Γ : zGam) (nx : Option Nat) (pc pc' : Nat) (st : List zV) (ρ : zLoc) (M : zMem) (K : Int → zLoc → zMem → Prop), c ev Γ (zcats st) pc nx = some pc' → w S Rn K ρ M →
  (∀ v ρ' M', K v ρ' M' → zGG G Γ pc' ((t, v) :: st) ρ' M' ∧ ∀ x, nx = some x → zGG G Γ x ((t, v) :: st) ρ' M') → zGG G Γ pc st ρ M
def zEMon (w : zEW) : Prop := ∀ (S : List zSh) (Rn : zRnT), zRMon Rn → ∀ (K K' : Int → zLoc → zMem → Prop) (ρ : zLoc) (M : zMem), (∀ v ρ' M', K v ρ' M' → K' v ρ' M') → w S Rn K ρ M → w S Rn K' ρ M
def zE (t : Nat) : Type := { x : zEC × zEW // zESnd t x.1 x.2 ∧ zEMon x.2 }
def zec {t : Nat} (e : zE t) : zEC := e.1.1
def zew {t : Nat} (e : zE t) : zEW := e.1.2
theorem zes {t : Nat} (e : zE t) : zESnd t (zec e) (zew e) := e.2.1
theorem zem {t : Nat} (e : zE t) : zEMon (zew e) := e.2.2
theorem zcats_cons (v : zV) (st : List zV) : zcats (v :: st) = zcat v + zcats st := rfl
/-- one instruction that pushes a value -/
def zeLeaf (t : Nat) (cands : zEv → zGam → List (Instr × Nat)) (val : zLoc → Int)
    (h : ∀ (ev : zEv) (Γ : zGam) (i : Instr) (n : Nat), (i, n) ∈ cands ev Γ → ∀ S Rn rt G pc st lv M ρ, zHold Γ ρ lv → G (pc + n) ((t, val ρ) :: st) lv M → zStep ev S Rn rt i n pc st lv M G) : zE t :=
  ⟨(fun ev Γ _ pc _ => ((cands ev Γ).find? (fun q => zat ev pc q.1 q.2)).map (fun q => pc + q.2), fun _ _ K ρ M => K (val ρ) ρ M),
    fun ev S Rn rt G hG Γ nx pc pc' st ρ M K hc hw hk lv hlv => by
      dsimp only at hc hw
      cases hf : (cands ev Γ).find? (fun q => zat ev pc q.1 q.2) with
      | none => rw [hf] at hc; cases hc
      | some q =>
        rw [hf] at hc
        obtain ⟨i, n⟩ := q
        have h1 : zat ev pc i n = true := List.find?_some (p := fun q : Instr × Nat => zat ev pc q.1 q.2) hf
        have h2 := List.mem_of_find?_eq_some hf
        have h3 : pc + n = pc' := Option.some.inj hc
        subst h3
        exact hG.1 i n pc st lv M (zat_d h1) (h ev Γ i n h2 S Rn rt G pc st lv M ρ hlv ((hk _ ρ M hw).1 lv hlv)),
    fun _ _ _ _ _ _ _ hk h => hk _ _ _ h⟩
def zkI (v : Int) : List (Instr × Nat) := (if -1 ≤ v ∧ v ≤ 5 then [(.iconst v, 1)] else []) ++ ((if -128 ≤ v ∧ v ≤ 127 then [(.bipush v, 2)] else []) ++ (if -32768 ≤ v ∧ v ≤ 32767 then [(.sipush v, 3)] else []))
theorem zkI_mem {v : Int} {i : Instr} {n : Nat} (h : (i, n) ∈ zkI v) : (i = .iconst v ∧ n = 1 ∧ -1 ≤ v ∧ v ≤ 5) ∨ (i = .bipush v ∧ n = 2 ∧ -128 ≤ v ∧ v ≤ 127) ∨ (i = .sipush v ∧ n = 3 ∧ -32768 ≤ v ∧ v ≤ 32767) := by
  unfold zkI at h
  rcases List.mem_append.mp h with h | h
  · split at h
    next hc => simp at h; exact Or.inl ⟨h.1, h.2, hc⟩
    next => cases h
  · rcases List.mem_append.mp h with h | h
    · split at h
      next hc => simp at h; exact Or.inr (Or.inl ⟨h.1, h.2, hc⟩)
      next => cases h
    · split at h
      next hc => simp at h; exact Or.inr (Or.inr ⟨h.1, h.2, hc⟩)
      next => cases h
/-- a written number -/
def zeI (v : Int) : zE 0 := zeLeaf 0 (fun _ _ => zkI v) (fun _ => v) (fun ev Γ i n hm S Rn rt G pc st lv M ρ _ hk => by
  rcases zkI_mem hm with ⟨rfl, rfl, h1, h2⟩ | ⟨rfl, rfl, h1, h2⟩ | ⟨rfl, rfl, h1, h2⟩
  · exact ⟨rfl, ⟨h1, h2⟩, hk⟩
  · exact ⟨rfl, ⟨h1, h2⟩, hk⟩
  · exact ⟨rfl, ⟨h1, h2⟩, hk⟩)
/-- a number of the pool -/
def zeLdc (k : Nat) (v : Int) : zE 0 := zeLeaf 0 (fun ev _ => if ev.2.2.2.2.2.2.1 k = some (0, v) ∧ -2147483648 ≤ v ∧ v < 2147483648 then [(.ldc k, 2), (.ldc_w k, 3)] else []) (fun _ => v) (fun ev Γ i n hm S Rn rt G pc st lv M ρ _ hk => by
  split at hm
  next hc =>
    simp only [List.mem_cons, List.not_mem_nil, or_false, Prod.mk.injEq] at hm
    rcases hm with ⟨rfl, rfl⟩ | ⟨rfl, rfl⟩
    · exact ⟨rfl, v, hc.1, hc.2, hk⟩
    · exact ⟨rfl, v, hc.1, hc.2, hk⟩
  next => cases hm)
def zeLdcL (k : Nat) (v : Int) : zE 1 := zeLeaf 1 (fun ev _ => if ev.2.2.2.2.2.2.1 k = some (1, v) ∧ -9223372036854775808 ≤ v ∧ v < 9223372036854775808 then [(.ldc2_w k, 3)] else []) (fun _ => v) (fun ev Γ i n hm S Rn rt G pc st lv M ρ _ hk => by
  split at hm
  next hc =>
    simp only [List.mem_cons, List.not_mem_nil, or_false, Prod.mk.injEq] at hm
    obtain ⟨rfl, rfl⟩ := hm
    exact ⟨rfl, v, hc.1, hc.2, hk⟩
  next => cases hm)
def zeIL (v : Fin 2) : zE 1 := zeLeaf 1 (fun _ _ => [(.lconst v, 1)]) (fun _ => ((v : Nat) : Int)) (fun ev Γ i n hm S Rn rt G pc st lv M ρ _ hk => by
  simp only [List.mem_cons, List.not_mem_nil, or_false, Prod.mk.injEq] at hm
  obtain ⟨rfl, rfl⟩ := hm
  exact ⟨rfl, hk⟩)
def zeNull : zE 2 := zeLeaf 2 (fun _ _ => [(.aconst_null, 1)]) (fun _ => -1) (fun ev Γ i n hm S Rn rt G pc st lv M ρ _ hk => by
  simp only [List.mem_cons, List.not_mem_nil, or_false, Prod.mk.injEq] at hm
  obtain ⟨rfl, rfl⟩ := hm
  exact ⟨rfl, hk⟩)
theorem zfin4 {k : Nat} (h : k < 4) : ((Fin.ofNat 4 k : Fin 4) : Nat) = k := Nat.mod_eq_of_lt h
def zkL (a : Nat → Instr) (b : Fin 4 → Instr) (t k : Nat) (Γ : zGam) : List (Instr × Nat) := if (k, t) ∈ Γ then (if k < 4 then [(b (Fin.ofNat 4 k), 1)] else [(a k, 2)]) else []
theorem zkL_mem {a : Nat → Instr} {b : Fin 4 → Instr} {t k : Nat} {Γ : zGam} {i : Instr} {n : Nat} (h : (i, n) ∈ zkL a b t k Γ) : (k, t) ∈ Γ ∧ ((k < 4 ∧ i = b (Fin.ofNat 4 k) ∧ n = 1) ∨ (i = a k ∧ n = 2)) := by
  unfold zkL at h
  split at h
  next hc =>
    refine ⟨hc, ?_⟩
    split at h
    next h4 => simp at h; exact Or.inl ⟨h4, h⟩
    next => simp at h; exact Or.inr h
  next => cases h
def zeL (k : Nat) : zE 0 := zeLeaf 0 (fun _ Γ => zkL .iload .iload_n 0 k Γ) (fun ρ => zget ρ k) (fun ev Γ i n hm S Rn rt G pc st lv M ρ hlv hk => by
  obtain ⟨hin, ⟨h4, rfl, rfl⟩ | ⟨rfl, rfl⟩⟩ := zkL_mem hm
  · exact ⟨rfl, _, by rw [zfin4 h4]; exact hlv _ hin, hk⟩
  · exact ⟨rfl, _, hlv _ hin, hk⟩)
def zeLl (k : Nat) : zE 1 := zeLeaf 1 (fun _ Γ => zkL .lload .lload_n 1 k Γ) (fun ρ => zget ρ k) (fun ev Γ i n hm S Rn rt G pc st lv M ρ hlv hk => by
  obtain ⟨hin, ⟨h4, rfl, rfl⟩ | ⟨rfl, rfl⟩⟩ := zkL_mem hm
  · exact ⟨rfl, _, by rw [zfin4 h4]; exact hlv _ hin, hk⟩
  · exact ⟨rfl, _, hlv _ hin, hk⟩)
def zeA (k : Nat) : zE 2 := zeLeaf 2 (fun _ Γ => zkL .aload .aload_n 2 k Γ) (fun ρ => zget ρ k) (fun ev Γ i n hm S Rn rt G pc st lv M ρ hlv hk => by
  obtain ⟨hin, ⟨h4, rfl, rfl⟩ | ⟨rfl, rfl⟩⟩ := zkL_mem hm
  · exact ⟨rfl, _, by rw [zfin4 h4]; exact hlv _ hin, hk⟩
  · exact ⟨rfl, _, hlv _ hin, hk⟩)
def zif {α : Type} (b : Bool) (x : α) : Option α := if b = true then some x else none
theorem zif_some {α : Type} {b : Bool} {x y : α} (h : zif b x = some y) : b = true ∧ x = y := by
  unfold zif at h
  split at h
  next hb => exact ⟨hb, Option.some.inj h⟩
  next => cases h
/-- one value in, one out -/
def zeUn (t t' : Nat) (i : Instr) (F : Int → Int) (h : ∀ ev S Rn rt G pc x r lv M, G (pc + 1) ((t', F x) :: r) lv M → zStep ev S Rn rt i 1 pc ((t, x) :: r) lv M G) (a : zE t) : zE t' :=
  ⟨(fun ev Γ d pc _ => (zec a ev Γ d pc none).bind fun p => zif (zat ev p i 1) (p + 1), fun S Rn K ρ M => zew a S Rn (fun x ρ M => K (F x) ρ M) ρ M),
    fun ev S Rn rt G hG Γ nx pc pc' st ρ M K hc hw hk => by
      obtain ⟨p, h1, h2⟩ := Option.bind_eq_some_iff.mp hc
      obtain ⟨h3, rfl⟩ := zif_some h2
      exact zes a ev S Rn rt G hG Γ none pc p st ρ M _ h1 hw (fun v ρ' M' hv => ⟨fun lv hlv => hG.1 i 1 p _ lv M' (zat_d h3) (h ev S Rn rt G p v st lv M' ((hk _ _ _ hv).1 lv hlv)), fun x hx => by cases hx⟩),
    fun S Rn hR K K' ρ M hk h => zem a S Rn hR _ _ ρ M (fun v ρ' M' => hk _ _ _) h⟩
/-- two values in, one out -/
def zeBin (t t' : Nat) (i : Instr) (F : Int → Int → Int) (P : Int → Prop) (h : ∀ ev S Rn rt G pc x y r lv M, P y → G (pc + 1) ((t', F x y) :: r) lv M → zStep ev S Rn rt i 1 pc ((t, y) :: (t, x) :: r) lv M G) (a b : zE t) : zE t' :=
  ⟨(fun ev Γ d pc _ => (zec a ev Γ d pc none).bind fun p => (zec b ev Γ (zcat (t, 0) + d) p none).bind fun p2 => zif (zat ev p2 i 1) (p2 + 1), fun S Rn K ρ M => zew a S Rn (fun x ρ M => zew b S Rn (fun y ρ M => P y ∧ K (F x y) ρ M) ρ M) ρ M),
    fun ev S Rn rt G hG Γ nx pc pc' st ρ M K hc hw hk => by
      obtain ⟨p, h1, h2⟩ := Option.bind_eq_some_iff.mp hc
      obtain ⟨p2, g2, g3⟩ := Option.bind_eq_some_iff.mp h2
      obtain ⟨g4, rfl⟩ := zif_some g3
      exact zes a ev S Rn rt G hG Γ none pc p st ρ M _ h1 hw (fun x ρ1 M1 hx => ⟨zes b ev S Rn rt G hG Γ none p p2 ((t, x) :: st) ρ1 M1 _ g2 hx (fun y ρ2 M2 hy => ⟨fun lv hlv => hG.1 i 1 p2 _ lv M2 (zat_d g4) (h ev S Rn rt G p2 x y st lv M2 hy.1 ((hk _ _ _ hy.2).1 lv hlv)), fun x hx => by cases hx⟩), fun x hx => by cases hx⟩),
    fun S Rn hR K K' ρ M hk h => zem a S Rn hR _ _ ρ M (fun v ρ' M' => zem b S Rn hR _ _ ρ' M' (fun v2 ρ2 M2 h2 => ⟨h2.1, hk _ _ _ h2.2⟩)) h⟩
def zeAdd : zE 0 → zE 0 → zE 0 := zeBin 0 0 .iadd (fun x y => zw32 (x + y)) (fun _ => True) (fun ev S Rn rt G pc x y r lv M _ h => ⟨rfl, x, y, r, rfl, h⟩)
def zeSub : zE 0 → zE 0 → zE 0 := zeBin 0 0 .isub (fun x y => zw32 (x - y)) (fun _ => True) (fun ev S Rn rt G pc x y r lv M _ h => ⟨rfl, x, y, r, rfl, h⟩)
def zeMul : zE 0 → zE 0 → zE 0 := zeBin 0 0 .imul (fun x y => zw32 (x * y)) (fun _ => True) (fun ev S Rn rt G pc x y r lv M _ h => ⟨rfl, x, y, r, rfl, h⟩)
def zeDiv : zE 0 → zE 0 → zE 0 := zeBin 0 0 .idiv (fun x y => zw32 (x.tdiv y)) (fun y => y ≠ 0) (fun ev S Rn rt G pc x y r lv M hy h => ⟨rfl, x, y, r, rfl, hy, h⟩)
def zeRem : zE 0 → zE 0 → zE 0 := zeBin 0 0 .irem (fun x y => x.tmod y) (fun y => y ≠ 0) (fun ev S Rn rt G pc x y r lv M hy h => ⟨rfl, x, y, r, rfl, hy, h⟩)
def zeAnd : zE 0 → zE 0 → zE 0 := zeBin 0 0 .iand zand (fun _ => True) (fun ev S Rn rt G pc x y r lv M _ h => ⟨rfl, x, y, r, rfl, h⟩)
def zeOr : zE 0 → zE 0 → zE 0 := zeBin 0 0 .ior zor (fun _ => True) (fun ev S Rn rt G pc x y r lv M _ h => ⟨rfl, x, y, r, rfl, h⟩)
def zeXor : zE 0 → zE 0 → zE 0 := zeBin 0 0 .ixor zxor (fun _ => True) (fun ev S Rn rt G pc x y r lv M _ h => ⟨rfl, x, y, r, rfl, h⟩)
def zeShl : zE 0 → zE 0 → zE 0 := zeBin 0 0 .ishl zshl (fun _ => True) (fun ev S Rn rt G pc x y r lv M _ h => ⟨rfl, x, y, r, rfl, h⟩)
def zeShr : zE 0 → zE 0 → zE 0 := zeBin 0 0 .ishr zshr (fun _ => True) (fun ev S Rn rt G pc x y r lv M _ h => ⟨rfl, x, y, r, rfl, h⟩)
def zeUshr : zE 0 → zE 0 → zE 0 := zeBin 0 0 .iushr zushr (fun _ => True) (fun ev S Rn rt G pc x y r lv M _ h => ⟨rfl, x, y, r, rfl, h⟩)
def zeAddL : zE 1 → zE 1 → zE 1 := zeBin 1 1 .ladd (fun x y => zw64 (x + y)) (fun _ => True) (fun ev S Rn rt G pc x y r lv M _ h => ⟨rfl, x, y, r, rfl, h⟩)
def zeSubL : zE 1 → zE 1 → zE 1 := zeBin 1 1 .lsub (fun x y => zw64 (x - y)) (fun _ => True) (fun ev S Rn rt G pc x y r lv M _ h => ⟨rfl, x, y, r, rfl, h⟩)
def zeMulL : zE 1 → zE 1 → zE 1 := zeBin 1 1 .lmul (fun x y => zw64 (x * y)) (fun _ => True) (fun ev S Rn rt G pc x y r lv M _ h => ⟨rfl, x, y, r, rfl, h⟩)
def zeCmpL : zE 1 → zE 1 → zE 0 := zeBin 1 0 .lcmp zcmp (fun _ => True) (fun ev S Rn rt G pc x y r lv M _ h => ⟨rfl, x, y, r, rfl, h⟩)
def zeNeg : zE 0 → zE 0 := zeUn 0 0 .ineg (fun x => zw32 (-x)) (fun ev S Rn rt G pc x r lv M h => ⟨rfl, x, r, rfl, h⟩)
def zeI2L : zE 0 → zE 1 := zeUn 0 1 .i2l (fun x => x) (fun ev S Rn rt G pc x r lv M h => ⟨rfl, x, r, rfl, h⟩)
def zeL2I : zE 1 → zE 0 := zeUn 1 0 .l2i (fun x => zw32 x) (fun ev S Rn rt G pc x r lv M h => ⟨rfl, x, r, rfl, h⟩)
def zeI2B : zE 0 → zE 0 := zeUn 0 0 .i2b zi2b (fun ev S Rn rt G pc x r lv M h => ⟨rfl, x, r, rfl, h⟩)
/-- an int field -/
def zeF (k ci j : Nat) (o : zE 2) : zE 0 :=
  ⟨(fun ev Γ d pc _ => (zec o ev Γ d pc none).bind fun p => zif (zat ev p (.getfield k) 3 && decide (ev.2.2.2.2.1 k = some (ci, j))) (p + 3), fun S Rn K ρ M => zew o S Rn (fun x ρ M => zFld S x ci j = some none ∧ K (M x j) ρ M) ρ M),
    fun ev S Rn rt G hG Γ nx pc pc' st ρ M K hc hw hk => by
      obtain ⟨p, h1, h2⟩ := Option.bind_eq_some_iff.mp hc
      obtain ⟨h3, rfl⟩ := zif_some h2
      rw [Bool.and_eq_true, decide_eq_true_eq] at h3
      exact zes o ev S Rn rt G hG Γ none pc p st ρ M _ h1 hw (fun v ρ' M' hv => ⟨fun lv hlv => hG.1 _ 3 p _ lv M' (zat_d h3.1) ⟨rfl, v, st, ci, j, rfl, h3.2, Or.inl ⟨hv.1, (hk _ _ _ hv.2).1 lv hlv⟩⟩, fun x hx => by cases hx⟩),
    fun S Rn hR K K' ρ M hk h => zem o S Rn hR _ _ ρ M (fun v ρ' M' hv => ⟨hv.1, hk _ _ _ hv.2⟩) h⟩
/-- a field that is a reference -/
def zeFR (k ci j : Nat) (o : zE 2) : zE 2 :=
  ⟨(fun ev Γ d pc _ => (zec o ev Γ d pc none).bind fun p => zif (zat ev p (.getfield k) 3 && decide (ev.2.2.2.2.1 k = some (ci, j))) (p + 3), fun S Rn K ρ M => zew o S Rn (fun x ρ M => ∃ r : Nat, zFld S x ci j = some (some (some r)) ∧ K (r : Int) ρ M) ρ M),
    fun ev S Rn rt G hG Γ nx pc pc' st ρ M K hc hw hk => by
      obtain ⟨p, h1, h2⟩ := Option.bind_eq_some_iff.mp hc
      obtain ⟨h3, rfl⟩ := zif_some h2
      rw [Bool.and_eq_true, decide_eq_true_eq] at h3
      exact zes o ev S Rn rt G hG Γ none pc p st ρ M _ h1 hw (fun v ρ' M' ⟨r, hv⟩ => ⟨fun lv hlv => hG.1 _ 3 p _ lv M' (zat_d h3.1) ⟨rfl, v, st, ci, j, rfl, h3.2, Or.inr ⟨some r, hv.1, (hk _ _ _ hv.2).1 lv hlv⟩⟩, fun x hx => by cases hx⟩),
    fun S Rn hR K K' ρ M hk h => zem o S Rn hR _ _ ρ M (fun v ρ' M' ⟨r, hv⟩ => ⟨r, hv.1, hk _ _ _ hv.2⟩) h⟩
/-- array and index, then one instruction -/
def zeIx (t' : Nat) (i : Instr) (P : List zSh → zMem → Int → Int → Int → Prop) (h : ∀ ev S Rn rt G pc a j v r lv M, P S M a j v → G (pc + 1) ((t', v) :: r) lv M → zStep ev S Rn rt i 1 pc ((0, j) :: (2, a) :: r) lv M G) (a : zE 2) (b : zE 0) : zE t' :=
  ⟨(fun ev Γ d pc _ => (zec a ev Γ d pc none).bind fun p => (zec b ev Γ (1 + d) p none).bind fun p2 => zif (zat ev p2 i 1) (p2 + 1), fun S Rn K ρ M => zew a S Rn (fun x ρ M => zew b S Rn (fun y ρ M => ∃ v, P S M x y v ∧ K v ρ M) ρ M) ρ M),
    fun ev S Rn rt G hG Γ nx pc pc' st ρ M K hc hw hk => by
      obtain ⟨p, h1, h2⟩ := Option.bind_eq_some_iff.mp hc
      obtain ⟨p2, g2, g3⟩ := Option.bind_eq_some_iff.mp h2
      obtain ⟨g4, rfl⟩ := zif_some g3
      exact zes a ev S Rn rt G hG Γ none pc p st ρ M _ h1 hw (fun x ρ1 M1 hx => ⟨zes b ev S Rn rt G hG Γ none p p2 ((2, x) :: st) ρ1 M1 _ g2 hx (fun y ρ2 M2 ⟨v, hy⟩ => ⟨fun lv hlv => hG.1 i 1 p2 _ lv M2 (zat_d g4) (h ev S Rn rt G p2 x y v st lv M2 hy.1 ((hk _ _ _ hy.2).1 lv hlv)), fun x hx => by cases hx⟩), fun x hx => by cases hx⟩),
    fun S Rn hR K K' ρ M hk h => zem a S Rn hR _ _ ρ M (fun v ρ' M' => zem b S Rn hR _ _ ρ' M' (fun v2 ρ2 M2 ⟨v, h2⟩ => ⟨v, h2.1, hk _ _ _ h2.2⟩)) h⟩
def zPi (ty : FieldType) (S : List zSh) (M : zMem) (a j v : Int) : Prop := v = M a j ∧ ∃ n, zArr S a ty n ∧ 0 ≤ j ∧ j < (n : Nat)
def zPr (S : List zSh) (_ : zMem) (a j v : Int) : Prop := ∃ (C : String) (n : Nat) (rs : List (Option Nat)) (r : Nat), zArrR S a C n rs ∧ 0 ≤ j ∧ j < n ∧ rs.getD j.toNat none = some r ∧ v = r
def zeIA : zE 2 → zE 0 → zE 0 := zeIx 0 .iaload (zPi .int) (fun ev S Rn rt G pc a j v r lv M hp h => by obtain ⟨rfl, n, h1, h2, h3⟩ := hp; exact ⟨rfl, j, a, r, n, rfl, h1, h2, h3, h⟩)
def zeZA : zE 2 → zE 0 → zE 0 := zeIx 0 .baload (zPi .boolean) (fun ev S Rn rt G pc a j v r lv M hp h => by obtain ⟨rfl, n, h1, h2, h3⟩ := hp; exact ⟨rfl, j, a, r, n, rfl, Or.inl h1, h2, h3, h⟩)
def zeBA : zE 2 → zE 0 → zE 0 := zeIx 0 .baload (zPi .byte) (fun ev S Rn rt G pc a j v r lv M hp h => by obtain ⟨rfl, n, h1, h2, h3⟩ := hp; exact ⟨rfl, j, a, r, n, rfl, Or.inr h1, h2, h3, h⟩)
def zeLA : zE 2 → zE 0 → zE 1 := zeIx 1 .laload (zPi .long) (fun ev S Rn rt G pc a j v r lv M hp h => by obtain ⟨rfl, n, h1, h2, h3⟩ := hp; exact ⟨rfl, j, a, r, n, rfl, h1, h2, h3, h⟩)
def zeRA : zE 2 → zE 0 → zE 2 := zeIx 2 .aaload zPr (fun ev S Rn rt G pc a j v r lv M hp h => by obtain ⟨C, n, rs, q, h1, h2, h3, h4, rfl⟩ := hp; exact ⟨rfl, j, a, r, C, n, rs, rfl, h1, h2, h3, by rw [h4]; exact h⟩)
def zeLen (a : zE 2) : zE 0 :=
  ⟨(fun ev Γ d pc _ => (zec a ev Γ d pc none).bind fun p => zif (zat ev p .arraylength 1) (p + 1), fun S Rn K ρ M => zew a S Rn (fun x ρ M => ∃ ty n, zArr S x ty n ∧ n < 2147483648 ∧ K (n : Nat) ρ M) ρ M),
    fun ev S Rn rt G hG Γ nx pc pc' st ρ M K hc hw hk => by
      obtain ⟨p, h1, h2⟩ := Option.bind_eq_some_iff.mp hc
      obtain ⟨h3, rfl⟩ := zif_some h2
      exact zes a ev S Rn rt G hG Γ none pc p st ρ M _ h1 hw (fun v ρ' M' ⟨ty, n, g1, g2, g3⟩ => ⟨fun lv hlv => hG.1 _ 1 p _ lv M' (zat_d h3) ⟨rfl, v, st, ty, n, rfl, g1, g2, (hk _ _ _ g3).1 lv hlv⟩, fun x hx => by cases hx⟩),
    fun S Rn hR K K' ρ M hk h => zem a S Rn hR _ _ ρ M (fun v ρ' M' ⟨ty, n, g1, g2, g3⟩ => ⟨ty, n, g1, g2, hk _ _ _ g3⟩) h⟩
