/-! ===== methods by bounds: roles of cells, bounds of fields and elements ===== -/
abbrev zaI : Type := Int × Int × Nat × Int × Nat
abbrev zaRf : Type := Nat × Bool × List Nat × Nat
abbrev zaV : Type := zaI ⊕ ((Int × Int) ⊕ (zaRf ⊕ Bool))
abbrev zaD : Type := (Nat × List (Option Nat × Int × Int)) ⊕ (FieldType × Nat × Option Nat × Int × Int)
abbrev zaTb : Type := List Nat × List zaD
/-- the bounds of a place of a cell of role r -/
def zaAt (tb : zaTb) (r : Nat) (j : Int) : Option (Int × Int) := match tb.2[r]? with
  | some (.inl (_, fs)) => if 0 ≤ j then (match fs[j.toNat]? with
    | some (none, iv) => some iv
    | _ => none) else none
  | some (.inr (_, n, none, iv)) => if 0 ≤ j ∧ j < n then some iv else none
  | _ => none
def zaHp (tb : zaTb) (M : zMem) : Prop := ∀ (c r : Nat) (j : Int) (iv : Int × Int), tb.1[c]? = some r → zaAt tb r j = some iv → iv.1 ≤ M c j ∧ M c j ≤ iv.2
/-- what a shape must be for a description -/
def zaFit1 (tb : zaTb) : List (Option Nat × Int × Int) → List (Option (Option Nat)) → Bool
  | [], [] => true
  | (none, _) :: r, none :: s => zaFit1 tb r s
  | (some k, _) :: r, some (some q) :: s => decide (tb.1[q]? = some k) && zaFit1 tb r s
  | _, _ => false
def zaFit (tb : zaTb) (sh : zSh) (d : zaD) : Bool := match sh, d with
  | .inr (ci, fks), .inl (ci', fs) => decide (ci = ci') && zaFit1 tb fs fks
  | .inl (ty, n, rs), .inr (ty', n', el, _) => (decide (ty = ty') && decide (n = n')) && (decide (n ≤ 4096) && (match el with
    | none => true
    | some k => decide (rs.length = n) && rs.all fun q => match q with
      | some q => decide (tb.1[q]? = some k)
      | none => false))
  | _, _ => false
def zaTabOk (S : List zSh) (tb : zaTb) : Bool := (List.range tb.1.length).all fun c => match tb.1[c]? with
  | some r => (match S[c]?, tb.2[r]? with
    | some sh, some d => zaFit tb sh d
    | _, _ => false)
  | none => false
theorem zaTab_at {S : List zSh} {tb : zaTb} (h : zaTabOk S tb = true) {c r : Nat} (hr : tb.1[c]? = some r) : ∃ sh d, S[c]? = some sh ∧ tb.2[r]? = some d ∧ zaFit tb sh d = true := by
  have hc : c < tb.1.length := (List.getElem?_eq_some_iff.mp hr).1
  have h1 := List.all_eq_true.mp h c (List.mem_range.mpr hc)
  rw [hr] at h1
  dsimp only at h1
  split at h1
  next sh d e1 e2 => exact ⟨sh, d, e1, e2, h1⟩
  next => cases h1
theorem zaFit1_at {tb : zaTb} : ∀ {fs : List (Option Nat × Int × Int)} {fks : List (Option (Option Nat))}, zaFit1 tb fs fks = true → ∀ {j : Nat} {f : Option Nat × Int × Int}, fs[j]? = some f → (f.1 = none ∧ fks[j]? = some none) ∨ ∃ k q, f.1 = some k ∧ fks[j]? = some (some (some q)) ∧ tb.1[q]? = some k := by
  intro fs
  induction fs with
  | nil => intro fks _ j f h; cases h
  | cons a r ih =>
    intro fks h j f hj
    obtain ⟨a1, a2⟩ := a
    cases fks with
    | nil => cases a1 <;> cases h
    | cons b s =>
      cases a1 with
      | none =>
        cases b with
        | none =>
          cases j with
          | zero => cases hj; exact Or.inl ⟨rfl, rfl⟩
          | succ j => exact ih h hj
        | some b => cases h
      | some k =>
        cases b with
        | none => cases h
        | some b =>
          cases b with
          | none => cases h
          | some q =>
            unfold zaFit1 at h
            rw [Bool.and_eq_true] at h
            cases j with
            | zero => cases hj; exact Or.inr ⟨k, q, rfl, rfl, of_decide_eq_true h.1⟩
            | succ j => exact ih h.2 hj
/-- the cell behind a path: an argument's, then fields -/
def zaDer (S : List zSh) (c : Int) (f : Nat) : Int := match zFld S c (match S[c.toNat]? with
    | some (.inr q) => q.1
    | _ => 0) f with
  | some (some (some q)) => (q : Int)
  | _ => -9
def zaPth (S : List zSh) (A : Nat → Int) : List Nat → Int
  | [] => -9
  | k :: fs => fs.foldl (zaDer S) (A k)
theorem zaPth_snoc {S : List zSh} {A : Nat → Int} {p : List Nat} (hp : p ≠ []) (f : Nat) : zaPth S A (p ++ [f]) = zaDer S (zaPth S A p) f := by
  cases p with
  | nil => exact absurd rfl hp
  | cons k fs =>
    show (fs ++ [f]).foldl (zaDer S) (A k) = _
    rw [List.foldl_append]
    rfl
theorem zaPth_app {S : List zSh} {A A' : Nat → Int} {p : List Nat} (hp : p ≠ []) {k : Nat} (hk : A' k = zaPth S A p) (fs : List Nat) : zaPth S A' (k :: fs) = zaPth S A (p ++ fs) := by
  cases p with
  | nil => exact absurd rfl hp
  | cons k0 gs =>
    show fs.foldl (zaDer S) (A' k) = (gs ++ fs).foldl (zaDer S) (A k0)
    rw [List.foldl_append, hk]
    rfl
/-! ===== what values stand for ===== -/
def zaIn (E A : Nat → Int) (a : zaI) (x : Int) : Prop := (a.1 ≤ x ∧ x ≤ a.2.1) ∧ (∀ s, a.2.2.1 = s + 1 → x = E s + a.2.2.2.1) ∧ (∀ k, a.2.2.2.2 = k + 1 → x = A k)
def zaRin (S : List zSh) (tb : zaTb) (E A : Nat → Int) (a : zaRf) (x : Int) : Prop := ((a.2.1 = true ∧ x = -1) ∨ ∃ c : Nat, x = c ∧ tb.1[c]? = some a.1) ∧ (a.2.2.1 ≠ [] → x = zaPth S A a.2.2.1) ∧ (∀ s, a.2.2.2 = s + 1 → x = E s)
def zaG (S : List zSh) (tb : zaTb) (E A : Nat → Int) (a : zaV) (v : zV) : Prop := match a with
  | .inl i => v.1 = 0 ∧ zaIn E A i v.2
  | .inr (.inl l) => v.1 = 1 ∧ l.1 ≤ v.2 ∧ v.2 ≤ l.2
  | .inr (.inr (.inl r)) => v.1 = 2 ∧ zaRin S tb E A r v.2
  | .inr (.inr (.inr true)) => v = (2, -1)
  | .inr (.inr (.inr false)) => True
def zaKn (a : zaV) : Bool := match a with
  | .inr (.inr (.inr false)) => false
  | _ => true
def zaGs (S : List zSh) (tb : zaTb) (E A : Nat → Int) : List zaV → List zV → Prop
  | [], [] => True
  | a :: r, v :: s => zaG S tb E A a v ∧ zaGs S tb E A r s
  | _, _ => False
def zaGl (S : List zSh) (tb : zaTb) (E A : Nat → Int) (L : List zaV) (lv : zLv) : Prop := ∀ k a, L[k]? = some a → zaKn a = true → ∃ v, zLook lv k = some v ∧ zaG S tb E A a v
abbrev zaSl : Type := List (List Nat × Nat × Nat)
/-- the bounds of what lies at the slots: path, role, place -/
def zaGf (S : List zSh) (E A : Nat → Int) : zaSl → List zaI → zMem → Prop
  | [], [], _ => True
  | q :: r, a :: s, M => zaIn E A a (M (zaPth S A q.1) (q.2.2 : Int)) ∧ zaGf S E A r s M
  | _, _, _ => False
def zaKy (tb : zaTb) (r : Nat) (j : Int) : Nat := match tb.2[r]? with
  | some (.inl _) => j.toNat + 1
  | _ => 0
def zaMem (md : List (Nat × Nat)) (r k : Nat) : Bool := md.any fun q => Nat.beq q.1 r && Nat.beq q.2 k
def zaFm (tb : zaTb) (md : List (Nat × Nat)) (M0 M : zMem) : Prop := ∀ (c r : Nat) (j : Int), tb.1[c]? = some r → 0 ≤ j → zaMem md r (zaKy tb r j) = false → M c j = M0 c j
abbrev zaSt : Type := List zaV × List zaV × List zaI
def zaOk (S : List zSh) (tb : zaTb) (sl : zaSl) (md : List (Nat × Nat)) (M0 : zMem) (E A : Nat → Int) (a : zaSt) (st : List zV) (lv : zLv) (M : zMem) : Prop :=
  zaGs S tb E A a.1 st ∧ zaGl S tb E A a.2.1 lv ∧ zaGf S E A sl a.2.2 M ∧ zaHp tb M ∧ zaFm tb md M0 M
/-! ===== contracts by bounds; what an abstract instruction must be ===== -/
abbrev zaCs : Type := Option zaV × List (Nat × Int × Int) × List (Int × Int)
abbrev zaC : Type := Nat × List zaV × zaSl × List (Int × Int) × List zaCs × List (Nat × Nat)
def zaAs (S : List zSh) (tb : zaTb) (A : Nat → Int) : Nat → List zaV → List zV → Prop
  | _, [], [] => True
  | i, a :: r, v :: s => (zaG S tb (fun _ => 0) A a v ∧ v.2 = A i) ∧ zaAs S tb A (i + 1) r s
  | _, _, _ => False
def zaGb (S : List zSh) (A : Nat → Int) : zaSl → List (Int × Int) → zMem → Prop
  | [], [], _ => True
  | q :: r, b :: s, M => (b.1 ≤ M (zaPth S A q.1) (q.2.2 : Int) ∧ M (zaPth S A q.1) (q.2.2 : Int) ≤ b.2) ∧ zaGb S A r s M
  | _, _, _ => False
def zaRt (S : List zSh) (tb : zaTb) (A : Nat → Int) : Option zaV → Option zV → Prop
  | none, none => True
  | some a, some v => zaG S tb (fun _ => 0) A a v
  | _, _ => False
def zaPo (S : List zSh) (tb : zaTb) (q : zaC) (A : Nat → Int) (M0 : zMem) (v : Option zV) (M : zMem) : Prop :=
  ∃ c ∈ q.2.2.2.2.1, zaRt S tb A c.1 v ∧ (∀ w ∈ c.2.1, w.2.1 ≤ A w.1 ∧ A w.1 ≤ w.2.2) ∧ zaGb S A q.2.2.1 c.2.2 M ∧ zaHp tb M ∧ zaFm tb q.2.2.2.2.2 M0 M
def zaCOk (O : zOm) (tb : zaTb) (q : zaC) : Prop := ∀ (A : Nat → Int) (as : List zV) (M : zMem) (K : Option zV → zMem → Prop), zaAs (zS O) tb A 0 q.2.1 as → zaHp tb M → zaGb (zS O) A q.2.2.1 q.2.2.2.1 M → (∀ v M', zaPo (zS O) tb q A M v M' → K v M') → zR O (zFn q.1) as M K
abbrev zaCx : Type := zaTb × zaC × List zaC
abbrev zaOp : Type := zaCx → zaSt → Option (List (Option Nat × zaSt))
/-- the slots' cells have their roles -/
def zaSr (S : List zSh) (tb : zaTb) (A : Nat → Int) (sl : zaSl) : Prop := ∀ q ∈ sl, q.1 ≠ [] ∧ ∃ c : Nat, zaPth S A q.1 = c ∧ tb.1[c]? = some q.2.1 ∧ ∃ d, tb.2[q.2.1]? = some (.inl d)
def zaK (O : zOm) (cx : zaCx) (M0 : zMem) (E A : Nat → Int) (a : zaSt) (st : List zV) (lv : zLv) (M : zMem) : Prop := zaOk (zS O) cx.1 cx.2.1.2.2.1 cx.2.1.2.2.2.2.2 M0 E A a st lv M
def zaSd (op : zaOp) (c : zyChk) : Prop := ∀ (O : zOm) (cx : zaCx) (ev : zEv) (rt : Option zV → zMem → Prop) (G : Nat → List zV → zLv → zMem → Prop) (A : Nat → Int) (M0 : zMem) (i : Instr) (n pc : Nat),
  zaTabOk (zS O) cx.1 = true → ev.2.2.2.2.2.2.2.2.2 = zFn → (∀ q ∈ cx.2.2, zaCOk O cx.1 q) → zaSr (zS O) cx.1 A cx.2.1.2.2.1 → (∀ v M', zaPo (zS O) cx.1 cx.2.1 A M0 v M' → rt v M') → c ev pc i n = true →
  ∀ (a : zaSt) (out : List (Option Nat × zaSt)) (E : Nat → Int) (st : List zV) (lv : zLv) (M : zMem), op cx a = some out → zaK O cx M0 E A a st lv M → (∀ x ∈ out, ∀ st' lv' M', zaK O cx M0 E A x.2 st' lv' M' → G (x.1.getD (pc + n)) st' lv' M') → zStep ev (zS O) (zR O) rt i n pc st lv M G
def zaGo1 (a : zaSt) : Option (List (Option Nat × zaSt)) := some [(none, a)]
theorem zaOne {O : zOm} {cx : zaCx} {M0 : zMem} {E A : Nat → Int} {G : Nat → List zV → zLv → zMem → Prop} {pc n : Nat} {a : zaSt} (h : ∀ x ∈ [((none : Option Nat), a)], ∀ st' lv' M', zaK O cx M0 E A x.2 st' lv' M' → G (x.1.getD (pc + n)) st' lv' M') {st : List zV} {lv : zLv} {M : zMem} (hk : zaK O cx M0 E A a st lv M) : G (pc + n) st lv M := h _ List.mem_cons_self st lv M hk
def za_const (v : Int) : zaOp := fun _ a => zaGo1 (.inl (v, v, 0, 0, 0) :: a.1, a.2)
def k_const (v : Int) : zyChk := fun ev _ i n => match i with
  | .iconst w => decide ((n = 1 ∧ (-1 ≤ w ∧ w ≤ 5)) ∧ w = v)
  | .bipush w => decide ((n = 2 ∧ (-128 ≤ w ∧ w ≤ 127)) ∧ w = v)
  | .sipush w => decide ((n = 3 ∧ (-32768 ≤ w ∧ w ≤ 32767)) ∧ w = v)
  | .ldc k => match ev.2.2.2.2.2.2.1 k with
    | some (0, w) => decide ((n = 2 ∧ (-2147483648 ≤ w ∧ w < 2147483648)) ∧ w = v)
    | _ => false
  | .ldc_w k => match ev.2.2.2.2.2.2.1 k with
    | some (0, w) => decide ((n = 3 ∧ (-2147483648 ≤ w ∧ w < 2147483648)) ∧ w = v)
    | _ => false
  | _ => false
theorem zaIn_c (E A : Nat → Int) (v : Int) : zaIn E A (v, v, 0, 0, 0) v := ⟨⟨Int.le_refl _, Int.le_refl _⟩, (fun _ h => by cases h), (fun _ h => by cases h)⟩
theorem oa_const (v : Int) : zaSd (za_const v) (k_const v) := by
  intro O cx ev rt G A M0 i n pc hT hF hC hS hP hc a out E st lv M h hk hg
  cases h
  obtain ⟨k1, k2⟩ := hk
  have hg' := fun (_ : True) => zaOne hg (st := (0, v) :: st) (lv := lv) (M := M) ⟨⟨⟨rfl, zaIn_c E A v⟩, k1⟩, k2⟩
  unfold k_const at hc
  split at hc
  next w =>
    obtain ⟨⟨h1, h2⟩, rfl⟩ := of_decide_eq_true hc
    subst h1
    exact ⟨rfl, h2, hg' trivial⟩
  next w =>
    obtain ⟨⟨h1, h2⟩, rfl⟩ := of_decide_eq_true hc
    subst h1
    exact ⟨rfl, h2, hg' trivial⟩
  next w =>
    obtain ⟨⟨h1, h2⟩, rfl⟩ := of_decide_eq_true hc
    subst h1
    exact ⟨rfl, h2, hg' trivial⟩
  next k =>
    split at hc
    next w e =>
      obtain ⟨⟨h1, h2⟩, rfl⟩ := of_decide_eq_true hc
      subst h1
      exact ⟨rfl, w, e, h2, hg' trivial⟩
    next => cases hc
  next k =>
    split at hc
    next w e =>
      obtain ⟨⟨h1, h2⟩, rfl⟩ := of_decide_eq_true hc
      subst h1
      exact ⟨rfl, w, e, h2, hg' trivial⟩
    next => cases hc
  next => cases hc
def za_null : zaOp := fun _ a => zaGo1 (.inr (.inr (.inr true)) :: a.1, a.2)
theorem oa_null : zaSd za_null c_null := by
  intro O cx ev rt G A M0 i n pc hT hF hC hS hP hc a out E st lv M h hk hg
  cases h
  obtain ⟨k1, k2⟩ := hk
  have hg' := fun (_ : True) => zaOne hg (st := (2, -1) :: st) (lv := lv) (M := M) ⟨⟨rfl, k1⟩, k2⟩
  unfold c_null at hc
  split at hc
  · have h1 := of_decide_eq_true hc
    subst h1
    exact ⟨rfl, hg' trivial⟩
  · cases hc
def za_iload (k : Nat) : zaOp := fun _ a => match a.2.1[k]? with
  | some (.inl i) => zaGo1 (.inl i :: a.1, a.2)
  | _ => none
theorem oa_iload (k : Nat) : zaSd (za_iload k) (c_iload k) := by
  intro O cx ev rt G A M0 i n pc hT hF hC hS hP hc a out E st lv M h hk hg
  unfold za_iload at h
  split at h
  next x e =>
    cases h
    obtain ⟨k1, k2, k3⟩ := hk
    obtain ⟨v, hv, hx⟩ := k2 k _ e rfl
    obtain ⟨t, x'⟩ := v
    obtain ⟨rfl, hx2⟩ := hx
    have hg' := fun (_ : True) => zaOne hg (st := (0, x') :: st) (lv := lv) (M := M) ⟨⟨⟨rfl, hx2⟩, k1⟩, k2, k3⟩
    unfold c_iload at hc
    split at hc
    · obtain ⟨rfl, rfl⟩ := of_decide_eq_true hc; exact ⟨rfl, _, hv, hg' trivial⟩
    · obtain ⟨rfl, rfl⟩ := of_decide_eq_true hc; exact ⟨rfl, _, hv, hg' trivial⟩
    · cases hc
  next => cases h
def za_aload (k : Nat) : zaOp := fun _ a => match a.2.1[k]? with
  | some (.inr (.inr (.inl r))) => zaGo1 (.inr (.inr (.inl r)) :: a.1, a.2)
  | some (.inr (.inr (.inr true))) => zaGo1 (.inr (.inr (.inr true)) :: a.1, a.2)
  | _ => none
theorem oa_aload (k : Nat) : zaSd (za_aload k) (c_aload k) := by
  intro O cx ev rt G A M0 i n pc hT hF hC hS hP hc a out E st lv M h hk hg
  unfold za_aload at h
  split at h
  next x e =>
    cases h
    obtain ⟨k1, k2, k3⟩ := hk
    obtain ⟨v, hv, hx⟩ := k2 k _ e rfl
    obtain ⟨t, x'⟩ := v
    obtain ⟨rfl, hx2⟩ := hx
    have hg' := fun (_ : True) => zaOne hg (st := (2, x') :: st) (lv := lv) (M := M) ⟨⟨⟨rfl, hx2⟩, k1⟩, k2, k3⟩
    unfold c_aload at hc
    split at hc
    · obtain ⟨rfl, rfl⟩ := of_decide_eq_true hc; exact ⟨rfl, _, hv, hg' trivial⟩
    · obtain ⟨rfl, rfl⟩ := of_decide_eq_true hc; exact ⟨rfl, _, hv, hg' trivial⟩
    · cases hc
  next e =>
    cases h
    obtain ⟨k1, k2, k3⟩ := hk
    obtain ⟨v, hv, hx⟩ := k2 k _ e rfl
    have hx' : v = (2, -1) := hx
    subst hx'
    have hg' := fun (_ : True) => zaOne hg (st := (2, -1) :: st) (lv := lv) (M := M) ⟨⟨rfl, k1⟩, k2, k3⟩
    unfold c_aload at hc
    split at hc
    · obtain ⟨rfl, rfl⟩ := of_decide_eq_true hc; exact ⟨rfl, _, hv, hg' trivial⟩
    · obtain ⟨rfl, rfl⟩ := of_decide_eq_true hc; exact ⟨rfl, _, hv, hg' trivial⟩
    · cases hc
  next => cases h
def za_lload (k : Nat) : zaOp := fun _ a => match a.2.1[k]? with
  | some (.inr (.inl l)) => zaGo1 (.inr (.inl l) :: a.1, a.2)
  | _ => none
def c_lload (k : Nat) : zyChk := fun _ _ i n => match i with
  | .lload j => decide (n = 2 ∧ j = k)
  | .lload_n j => decide (n = 1 ∧ (j : Nat) = k)
  | _ => false
theorem oa_lload (k : Nat) : zaSd (za_lload k) (c_lload k) := by
  intro O cx ev rt G A M0 i n pc hT hF hC hS hP hc a out E st lv M h hk hg
  unfold za_lload at h
  split at h
  next x e =>
    cases h
    obtain ⟨k1, k2, k3⟩ := hk
    obtain ⟨v, hv, hx⟩ := k2 k _ e rfl
    obtain ⟨t, x'⟩ := v
    obtain ⟨rfl, hx2⟩ := hx
    have hg' := fun (_ : True) => zaOne hg (st := (1, x') :: st) (lv := lv) (M := M) ⟨⟨⟨rfl, hx2⟩, k1⟩, k2, k3⟩
    unfold c_lload at hc
    split at hc
    · obtain ⟨rfl, rfl⟩ := of_decide_eq_true hc; exact ⟨rfl, _, hv, hg' trivial⟩
    · obtain ⟨rfl, rfl⟩ := of_decide_eq_true hc; exact ⟨rfl, _, hv, hg' trivial⟩
    · cases hc
  next => cases h
