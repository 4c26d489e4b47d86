/-! ===== known calls: a long run in pieces ===== -/
def zyPatch (T : zyT) : List (Nat × Nat) → zyT
  | [] => T
  | q :: r => zyPatch (zyUpd 9 T q.1 q.2) r
def zyEqT : (d : Nat) → zyTr Nat d → zyTr Nat d → Bool
  | 0, a, b => Nat.beq a b
  | d + 1, a, b => zyEqT d a.1 b.1 && zyEqT d a.2 b.2
theorem zyEqT_ok : ∀ (d : Nat) (a b : zyTr Nat d), zyEqT d a b = true → a = b := by
  intro d
  induction d with
  | zero => intro a b h; exact zy_beq h
  | succ d ih =>
    intro a b h
    unfold zyEqT at h
    rw [Bool.and_eq_true] at h
    have h1 := ih _ _ h.1
    have h2 := ih _ _ h.2
    exact Prod.ext h1 h2
def zyEqA : List zyV → List zyV → Bool
  | [], [] => true
  | a :: r, b :: s => (Nat.beq a.1 b.1 && Nat.beq a.2 b.2) && zyEqA r s
  | _, _ => false
theorem zyEqA_ok : ∀ (a b : List zyV), zyEqA a b = true → a = b := by
  intro a
  induction a with
  | nil => intro b h; cases b with
    | nil => rfl
    | cons => cases h
  | cons x r ih =>
    intro b h
    cases b with
    | nil => cases h
    | cons y s =>
      unfold zyEqA at h
      rw [Bool.and_eq_true, Bool.and_eq_true] at h
      rw [ih s h.2, Prod.ext (zy_beq h.1.1) (zy_beq h.1.2)]
abbrev zyKn : Type := Nat × List zyV × List (Nat × Nat) × Option zyV × List (Nat × Nat)
def zyKnown (T0 T : zyT) (f : Nat) (as : List zyV) : List zyKn → Option (Option zyV × zyT)
  | [] => none
  | q :: r => bif (Nat.beq q.1 f && zyEqA q.2.1 as) && zyEqT 9 (zyPatch T0 q.2.2.1) T then some (q.2.2.2.1, zyPatch T0 q.2.2.2.2) else zyKnown T0 T f as r
def zyIsKn (kf : List Nat) (f : Nat) : Bool := kf.any fun g => Nat.beq g f
def zyRk (SH : zyS) (tb : List zyMeth) (T0 : zyT) (kf : List Nat) (kn : List zyKn) : Nat → zyRec
  | 0, _, _, _ => none
  | d + 1, f, as, T => bif zyIsKn kf f then zyKnown T0 T f as kn else (match zyTf tb f with
    | some (B, nl, m) => bif zyTags as && Nat.ble as.length nl then (match zyIter SH (zyRk SH tb T0 kf kn d) B m (0, [], zyPad nl as, T) with
      | some (.inr v) => some v
      | _ => none) else none
    | none => none)
def zyKnOk (O : zOm) (T0 : zyT) (q : zyKn) : Prop := ∀ K : Option zV → zMem → Prop, K (q.2.2.2.1.map zyD) (zyM (zyPatch T0 q.2.2.2.2)) → zR O (zFn q.1) (q.2.1.map zyD) (zyM (zyPatch T0 q.2.2.1)) K
theorem zyKnown_ok {O : zOm} {T0 T : zyT} {f : Nat} {as : List zyV} {v : Option zyV} {T' : zyT} : ∀ (kn : List zyKn), (∀ q ∈ kn, zyKnOk O T0 q) → zyKnown T0 T f as kn = some (v, T') → ∀ K : Option zV → zMem → Prop, K (v.map zyD) (zyM T') → zR O (zFn f) (as.map zyD) (zyM T) K := by
  intro kn
  induction kn with
  | nil => intro _ h; cases h
  | cons q r ih =>
    intro hk h K hK
    unfold zyKnown at h
    cases hb : ((Nat.beq q.1 f && zyEqA q.2.1 as) && zyEqT 9 (zyPatch T0 q.2.2.1) T) with
    | false => rw [hb] at h; exact ih (fun w hw => hk w (List.mem_cons_of_mem _ hw)) h K hK
    | true =>
      rw [hb] at h
      cases h
      rw [Bool.and_eq_true, Bool.and_eq_true] at hb
      have h1 := zy_beq hb.1.1
      have h2 := zyEqA_ok _ _ hb.1.2
      have h3 := zyEqT_ok 9 _ _ hb.2
      subst h1
      subst h2
      rw [← h3]
      exact hk q List.mem_cons_self K hK
theorem zyRk_ok {O : zOm} (hO : zWld O) {SH : zyS} (hSH : zyShOk SH (zS O)) {tb : List zyMeth} (htb : ∀ q ∈ tb, zyMethOk q = true) {T0 : zyT} {kf : List Nat} {kn : List zyKn} (hkn : ∀ q ∈ kn, zyKnOk O T0 q) : ∀ (d f : Nat) (as : List zyV) (T : zyT) (v : Option zyV) (T' : zyT), zyRk SH tb T0 kf kn d f as T = some (v, T') → ∀ K : Option zV → zMem → Prop, K (v.map zyD) (zyM T') → zR O (zFn f) (as.map zyD) (zyM T) K := by
  intro d
  induction d with
  | zero => intro f as T v T' h; cases h
  | succ d ih =>
    intro f as T v T' h K hK
    simp only [zyRk] at h
    cases hi : zyIsKn kf f with
    | true => rw [hi] at h; exact zyKnown_ok kn hkn h K hK
    | false =>
      rw [hi] at h
      dsimp only [cond] at h
      split at h
      next B nl m e =>
        cases hb : (zyTags as && Nat.ble as.length nl) with
        | false => rw [hb] at h; cases h
        | true =>
          rw [hb] at h
          dsimp only at h
          rw [Bool.and_eq_true] at hb
          have hl := zy_ble hb.2
          split at h
          next w e2 =>
            cases h
            have hq := htb _ (zyTf_ok e)
            unfold zyMethOk at hq
            rw [Bool.and_eq_true, Bool.and_eq_true] at hq
            have f1 : f < 356 := of_decide_eq_true hq.1
            have f2 : nl ≤ (zFn f).2.2.1 := of_decide_eq_true hq.2.1
            have f3 : zyVal (zxEv f) B = true := hq.2.2
            obtain ⟨own, pf, pm, pk, e1, e3, e4, e5⟩ := zxEv_ok f1
            rw [e1] at f3
            refine zR.of hO.ok (pf := zpfF pf) (pm := zpmF pm) (pk := zpkF pk) (by rw [hO.1]; exact e3) e4 e5 (by rw [zyTags_cats as hb.1]; omega) (fun G hG => ?_)
            have hR : zyRecOk (zEvC own (zFn f) pf pm pk) (zR O) (zyRk SH tb T0 kf kn d) := fun g as' T1 v1 T2 h1 K' hK' => ih g as' T1 v1 T2 h1 K' hK'
            exact zyIter_ok hG hSH hR f3 m (0, [], zyPad nl as, T) (zArgs 0 (as.map zyD)) _ (zyArg_rel hb.1 hl) e2 hK
          next => cases h
      next => cases h
/-- a known call is one that runs so -/
noncomputable def zyKnB (q : zyKn) : Bool := match zyR zySH zyTb 24 q.1 q.2.1 (zyPatch zyT0 q.2.2.1) with
  | some (v, T') => decide (v = q.2.2.2.1) && zyEqT 9 T' (zyPatch zyT0 q.2.2.2.2)
  | none => false
theorem zyKnB_ok {O : zOm} (hO : zWld O) (hS : zS O = zmS zC0) {q : zyKn} (h : zyKnB q = true) : zyKnOk O zyT0 q := by
  unfold zyKnB at h
  intro K hK
  have hSH : zyShOk zySH (zS O) := by rw [hS]; exact zySH_ok
  split at h
  next v T' e =>
    rw [Bool.and_eq_true] at h
    have h1 := of_decide_eq_true h.1
    have h2 := zyEqT_ok 9 _ _ h.2
    subst h1
    subst h2
    exact zyR_ok hO hSH zyTb_ok 24 _ _ _ _ _ e K hK
  next => cases h
noncomputable def zySameK (kf : List Nat) (kn : List zyKn) (d fx fm : Nat) (as : List zyV) : Bool := match zyR zySH zyTb d fx ((2, 0) :: as) zyT0 with
  | some (some (0, r), T1) => (match zyRk zySH zyTb zyT0 kf kn d fm ((2, 249) :: as) T1 with
    | some (some (0, r'), _) => Nat.beq r r'
    | _ => false)
  | _ => false
theorem zy_sameK {O : zOm} (hO : zWld O) (hS : zS O = zmS zC0) {kf : List Nat} {kn : List zyKn} (hkn : ∀ q ∈ kn, zyKnB q = true) {d fx fm : Nat} {as : List zyV} {bs : List zV} (hb : as.map zyD = bs) (h : zySameK kf kn d fx fm as = true) : zSame O fx fm bs (zmM zC0) := by
  subst hb
  unfold zySameK at h
  have hSH : zyShOk zySH (zS O) := by rw [hS]; exact zySH_ok
  split at h
  next r T1 e1 =>
    split at h
    next r' T2 e2 =>
      have h3 := zy_beq h
      subst h3
      have k1 := zyR_ok hO hSH zyTb_ok d fx _ _ _ _ e1
      have k2 := zyRk_ok hO hSH zyTb_ok (T0 := zyT0) (fun q hq => zyKnB_ok hO hS (hkn q hq)) d fm _ _ _ _ e2
      unfold zSame
      rw [← zyT0_M]
      exact k1 _ (k2 _ ⟨zw32 (r : Int), rfl, rfl, trivial⟩)
    next => cases h
  next => cases h
