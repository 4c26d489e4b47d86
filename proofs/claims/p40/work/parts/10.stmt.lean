/-! statements: what they do: on (kn), out by a label (kb), back to the caller (kr) -/
abbrev zLb : Type := List (Nat × zGam)
abbrev zSC : Type := zEv → zGam → Nat → Option Nat → zLb → Option (zGam × Nat)
abbrev zK : Type := zLoc → zMem → Prop
abbrev zSW : Type := List zSh → zRnT → zK → (Nat → zK) → (Option zV → zMem → Prop) → zLoc → zMem → Prop
def zSSnd (c : zSC) (w : zSW) : Prop := ∀ (ev : zEv) (S : List zSh) (Rn : zRnT) (rt : Option zV → zMem → Prop) (G : Nat → List zV → zLv → zMem → Prop), zClosed ev S Rn rt G →
  ∀ (Γ : zGam) (nx : Option Nat) (L : zLb) (pc : Nat) (Γ' : zGam) (pc' : Nat) (ρ : zLoc) (M : zMem) (kn : zK) (kb : Nat → zK), c ev Γ pc nx L = some (Γ', pc') → w S Rn kn kb rt ρ M →
  (∀ ρ' M', kn ρ' M' → zGG G Γ' pc' [] ρ' M' ∧ ∀ x, nx = some x → zGG G Γ' x [] ρ' M') →
  (∀ j t Γj, L[j]? = some (t, Γj) → ∀ ρ' M', kb j ρ' M' → zGG G Γj t [] ρ' M') → zGG G Γ pc [] ρ M
def zSMon (w : zSW) : Prop := ∀ (S : List zSh) (Rn : zRnT), zRMon Rn → ∀ (kn kn' : zK) (kb kb' : Nat → zK) (kr kr' : Option zV → zMem → Prop) (ρ : zLoc) (M : zMem), (∀ ρ' M', kn ρ' M' → kn' ρ' M') → (∀ j ρ' M', kb j ρ' M' → kb' j ρ' M') → (∀ r M', kr r M' → kr' r M') → w S Rn kn kb kr ρ M → w S Rn kn' kb' kr' ρ M
def zSt : Type := { x : zSC × zSW // zSSnd x.1 x.2 ∧ zSMon x.2 }
def zsc (s : zSt) : zSC := s.1.1
def zsw (s : zSt) : zSW := s.1.2
theorem zss (s : zSt) : zSSnd (zsc s) (zsw s) := s.2.1
theorem zsm (s : zSt) : zSMon (zsw s) := s.2.2
theorem zGG.sub {G : Nat → List zV → zLv → zMem → Prop} {Γ Γ' : zGam} {pc : Nat} {st : List zV} {ρ : zLoc} {M : zMem} (h : ∀ q ∈ Γ, q ∈ Γ') (k : zGG G Γ pc st ρ M) : zGG G Γ' pc st ρ M := fun lv hlv => k lv (fun q hq => hlv q (h q hq))
def zSub (Γ Γ' : zGam) : Bool := Γ.all fun q => decide (q ∈ Γ')
theorem zSub_d {Γ Γ' : zGam} (h : zSub Γ Γ' = true) : ∀ q ∈ Γ, q ∈ Γ' := fun q hq => of_decide_eq_true (List.all_eq_true.mp h q hq)
def zsSkip : zSt := ⟨(fun _ Γ pc _ _ => some (Γ, pc), fun _ _ kn _ _ ρ M => kn ρ M),
  fun ev S Rn rt G hG Γ nx L pc Γ' pc' ρ M kn kb hc hw hn hb => by cases hc; exact (hn ρ M hw).1, fun S Rn hR kn kn' kb kb' kr kr' ρ M h1 _ _ h => h1 _ _ h⟩
def zsSeq (a b : zSt) : zSt := ⟨(fun ev Γ pc nx L => (zsc a ev Γ pc none L).bind fun q => zsc b ev q.1 q.2 nx L, fun S Rn kn kb kr ρ M => zsw a S Rn (fun ρ M => zsw b S Rn kn kb kr ρ M) kb kr ρ M),
  fun ev S Rn rt G hG Γ nx L pc Γ' pc' ρ M kn kb hc hw hn hb => by
    obtain ⟨⟨Γ1, p1⟩, g1, g2⟩ := Option.bind_eq_some_iff.mp hc
    exact zss a ev S Rn rt G hG Γ none L pc Γ1 p1 ρ M _ kb g1 hw (fun ρ1 M1 h1 => ⟨zss b ev S Rn rt G hG Γ1 nx L p1 Γ' pc' ρ1 M1 kn kb g2 h1 hn hb, fun x hx => by cases hx⟩) hb,
  fun S Rn hR kn kn' kb kb' kr kr' ρ M h1 h2 h3 h => zsm a S Rn hR _ _ _ _ _ _ ρ M (fun ρ' M' => zsm b S Rn hR _ _ _ _ _ _ ρ' M' h1 h2 h3) h2 h3 h⟩
/-- a block: the locals declared in it end with it -/
def zsBlk (a : zSt) : zSt := ⟨(fun ev Γ pc _ L => (zsc a ev Γ pc none L).bind fun q => zif (zSub Γ q.1) (Γ, q.2), fun S Rn kn kb kr ρ M => zsw a S Rn kn kb kr ρ M),
  fun ev S Rn rt G hG Γ nx L pc Γ' pc' ρ M kn kb hc hw hn hb => by
    obtain ⟨⟨Γ1, p1⟩, g1, g2⟩ := Option.bind_eq_some_iff.mp hc
    obtain ⟨g3, g4⟩ := zif_some g2
    cases g4
    exact zss a ev S Rn rt G hG Γ none L pc Γ1 p1 ρ M kn kb g1 hw (fun ρ1 M1 h1 => ⟨(hn ρ1 M1 h1).1.sub (zSub_d g3), fun x hx => by cases hx⟩) hb,
  fun S Rn hR kn kn' kb kb' kr kr' ρ M h1 h2 h3 h => zsm a S Rn hR _ _ _ _ _ _ ρ M h1 h2 h3 h⟩
def zGst (Γ : zGam) (k t : Nat) : zGam := (k, t) :: Γ.filter (fun q => !(q.1 == k) && (!(q.1 == k + 1 && t == 1) && !(q.1 + 1 == k && q.2 == 1)))
theorem zfind_filter {α : Type} {l : List α} {q p : α → Bool} {a : α} (h : l.find? q = some a) (hp : p a = true) : (l.filter p).find? q = some a := by
  induction l with
  | nil => cases h
  | cons b l ih =>
    rw [List.find?_cons] at h
    split at h
    next hb =>
      cases h
      rw [List.filter_cons, if_pos hp, List.find?_cons]
      simp [hb]
    next hb =>
      rw [List.filter_cons]
      split
      · rw [List.find?_cons, hb]
        exact ih h
      · exact ih h
theorem zLook_tail {lv : zLv} {i : Nat} {v : zV} {p : (Nat × zV) → Bool} {j : Nat} {w : zV} (h : zLook lv j = some w) (hj : ¬ j = i) (hp : p (j, w) = true) : zLook ((i, v) :: lv.filter p) j = some w := by
  unfold zLook at h ⊢
  rw [List.find?_cons]
  have hij : (i == j) = false := by simp; omega
  dsimp only
  rw [hij]
  dsimp only
  cases hf : lv.find? (fun q => q.1 == j) with
  | none => rw [hf] at h; cases h
  | some q =>
    rw [hf] at h
    have h1 := List.find?_some hf
    obtain ⟨a, b⟩ := q
    simp at h h1
    subst h; subst h1
    rw [zfind_filter hf hp]
    rfl
theorem zHold_st1 {Γ : zGam} {ρ : zLoc} {lv : zLv} {k t : Nat} {x : Int} (h : zHold Γ ρ lv) (ht : ¬ t = 1) : zHold (zGst Γ k t) (zsetl ρ k x) (zSt1 lv k (t, x)) := by
  intro q hq
  unfold zGst at hq
  rw [zget_set]
  rcases List.mem_cons.mp hq with rfl | hq
  · rw [if_pos rfl]
    unfold zSt1 zLook
    rw [List.find?_cons]
    simp
  · obtain ⟨h1, h2⟩ := List.mem_filter.mp hq
    simp only [Bool.and_eq_true, Bool.not_eq_true', beq_eq_false_iff_ne, Bool.and_eq_false_iff, ne_eq] at h2
    rw [if_neg h2.1]
    refine zLook_tail (h q h1) h2.1 ?_
    have : zcat (q.2, zget ρ q.1) = if q.2 = 1 then 2 else 1 := rfl
    simp only [Bool.and_eq_true, Bool.not_eq_true', beq_eq_false_iff_ne, Bool.and_eq_false_iff, ne_eq, this]
    refine ⟨h2.1, ?_⟩
    rcases h2.2.2 with h3 | h3
    · exact Or.inl h3
    · right; rw [if_neg h3]; decide
theorem zHold_st2 {Γ : zGam} {ρ : zLoc} {lv : zLv} {k : Nat} {x : Int} (h : zHold Γ ρ lv) : zHold (zGst Γ k 1) (zsetl ρ k x) (zSt2 lv k (1, x)) := by
  intro q hq
  unfold zGst at hq
  rw [zget_set]
  rcases List.mem_cons.mp hq with rfl | hq
  · rw [if_pos rfl]
    unfold zSt2 zLook
    rw [List.find?_cons]
    simp
  · obtain ⟨h1, h2⟩ := List.mem_filter.mp hq
    simp only [Bool.and_eq_true, Bool.not_eq_true', beq_eq_false_iff_ne, Bool.and_eq_false_iff, ne_eq] at h2
    rw [if_neg h2.1]
    refine zLook_tail (h q h1) h2.1 ?_
    have : zcat (q.2, zget ρ q.1) = if q.2 = 1 then 2 else 1 := rfl
    simp only [Bool.and_eq_true, Bool.not_eq_true', beq_eq_false_iff_ne, Bool.and_eq_false_iff, ne_eq, this]
    refine ⟨h2.1, ?_, ?_⟩
    · rcases h2.2.1 with h3 | h3
      · exact h3
      · exact absurd trivial h3
    · rcases h2.2.2 with h3 | h3
      · exact Or.inl h3
      · right; rw [if_neg h3]; decide
/-- the store of a local of a type -/
def zsti (t k : Nat) : Instr × Nat := if k < 4 then ((if t = 0 then .istore_n (Fin.ofNat 4 k) else if t = 1 then .lstore_n (Fin.ofNat 4 k) else .astore_n (Fin.ofNat 4 k)), 1) else ((if t = 0 then .istore k else if t = 1 then .lstore k else .astore k), 2)
theorem zsti_step {ev : zEv} {S : List zSh} {Rn : zRnT} {rt : Option zV → zMem → Prop} {G : Nat → List zV → zLv → zMem → Prop} {t k pc : Nat} {x : Int} {r : List zV} {lv : zLv} {M : zMem} (ht : t < 3) (hk : k + (if t = 1 then 1 else 0) < ev.2.2.1)
    (h : G (pc + (zsti t k).2) r (if t = 1 then zSt2 lv k (t, x) else zSt1 lv k (t, x)) M) : zStep ev S Rn rt (zsti t k).1 (zsti t k).2 pc ((t, x) :: r) lv M G := by
  unfold zsti at h ⊢
  rcases (show t = 0 ∨ t = 1 ∨ t = 2 by omega) with rfl | rfl | rfl
  · by_cases h4 : k < 4
    · simp only [h4, if_true] at h ⊢
      exact ⟨rfl, by rw [zfin4 h4]; simpa using hk, x, r, rfl, by rw [zfin4 h4]; exact h⟩
    · simp only [h4, if_false] at h ⊢
      exact ⟨rfl, by simpa using hk, x, r, rfl, h⟩
  · by_cases h4 : k < 4
    · simp only [h4, if_true] at h ⊢
      exact ⟨rfl, by rw [zfin4 h4]; simpa using hk, x, r, rfl, by rw [zfin4 h4]; exact h⟩
    · simp only [h4, if_false] at h ⊢
      exact ⟨rfl, by simpa using hk, x, r, rfl, h⟩
  · by_cases h4 : k < 4
    · simp only [h4, if_true] at h ⊢
      exact ⟨rfl, by rw [zfin4 h4]; simpa using hk, x, r, rfl, by rw [zfin4 h4]; exact h⟩
    · simp only [h4, if_false] at h ⊢
      exact ⟨rfl, by simpa using hk, x, r, rfl, h⟩
/-- a local is set -/
def zsSet {t : Nat} (k : Nat) (e : zE t) : zSt := ⟨(fun ev Γ pc _ _ => (zec e ev Γ 0 pc none).bind fun p => zif (zat ev p (zsti t k).1 (zsti t k).2 && (decide (t < 3) && decide (k + (if t = 1 then 1 else 0) < ev.2.2.1))) (zGst Γ k t, p + (zsti t k).2),
    fun S Rn kn _ _ ρ M => zew e S Rn (fun x ρ M => kn (zsetl ρ k x) M) ρ M),
  fun ev S Rn rt G hG Γ nx L pc Γ' pc' ρ M kn kb hc hw hn hb => by
    obtain ⟨p, g1, g2⟩ := Option.bind_eq_some_iff.mp hc
    obtain ⟨g3, g4⟩ := zif_some g2
    cases g4
    simp only [Bool.and_eq_true, decide_eq_true_eq] at g3
    refine zes e ev S Rn rt G hG Γ none pc p [] ρ M _ g1 hw (fun x ρ1 M1 h1 => ⟨fun lv hlv => ?_, fun x hx => by cases hx⟩)
    refine hG.1 _ _ p _ lv M1 (zat_d g3.1) (zsti_step g3.2.1 g3.2.2 ?_)
    refine (hn _ _ h1).1 _ ?_
    split
    next ht => subst ht; exact zHold_st2 hlv
    next ht => exact zHold_st1 hlv ht,
  fun S Rn hR kn kn' kb kb' kr kr' ρ M h1 h2 h3 h => zem e S Rn hR _ _ ρ M (fun v ρ' M' => h1 _ _) h⟩
def zsInc (k : Nat) (d : Int) : zSt := ⟨(fun ev Γ pc _ _ => zif (zat ev pc (.iinc k d) 3 && (decide (k < ev.2.2.1) && decide ((k, 0) ∈ Γ))) (zGst Γ k 0, pc + 3),
    fun _ _ kn _ _ ρ M => kn (zsetl ρ k (zw32 (zget ρ k + d))) M),
  fun ev S Rn rt G hG Γ nx L pc Γ' pc' ρ M kn kb hc hw hn hb => by
    obtain ⟨g3, g4⟩ := zif_some hc
    cases g4
    simp only [Bool.and_eq_true, decide_eq_true_eq] at g3
    intro lv hlv
    exact hG.1 _ 3 pc _ lv M (zat_d g3.1) ⟨rfl, g3.2.1, _, hlv _ g3.2.2, (hn _ _ hw).1 _ (zHold_st1 hlv (by decide))⟩,
  fun S Rn hR kn kn' kb kb' kr kr' ρ M h1 h2 h3 h => h1 _ _ h⟩
/-- o.f = e -/
def zsF (k ci j : Nat) (o : zE 2) (e : zE 0) : zSt := ⟨(fun ev Γ pc _ _ => (zec o ev Γ 0 pc none).bind fun p => (zec e ev Γ 1 p none).bind fun p2 => zif (zat ev p2 (.putfield k) 3 && decide (ev.2.2.2.2.1 k = some (ci, j))) (Γ, p2 + 3),
    fun S Rn kn _ _ ρ M => zew o S Rn (fun x ρ M => zew e S Rn (fun y ρ M => zFld S x ci j = some none ∧ kn ρ (zput M x (zup (M x) j y))) ρ M) ρ M),
  fun ev S Rn rt G hG Γ nx L pc Γ' pc' ρ M kn kb hc hw hn hb => by
    obtain ⟨p, g1, g2⟩ := Option.bind_eq_some_iff.mp hc
    obtain ⟨p2, g3, g4⟩ := Option.bind_eq_some_iff.mp g2
    obtain ⟨g5, g6⟩ := zif_some g4
    cases g6
    simp only [Bool.and_eq_true, decide_eq_true_eq] at g5
    exact zes o ev S Rn rt G hG Γ none pc p [] ρ M _ g1 hw (fun x ρ1 M1 h1 => ⟨zes e ev S Rn rt G hG Γ none p p2 [(2, x)] ρ1 M1 _ g3 h1 (fun y ρ2 M2 h2 => ⟨fun lv hlv => hG.1 _ 3 p2 _ lv M2 (zat_d g5.1) ⟨rfl, x, y, [], ci, j, rfl, g5.2, h2.1, (hn _ _ h2.2).1 lv hlv⟩, fun x hx => by cases hx⟩), fun x hx => by cases hx⟩),
  fun S Rn hR kn kn' kb kb' kr kr' ρ M h1 h2 h3 h => zem o S Rn hR _ _ ρ M (fun v ρ' M' => zem e S Rn hR _ _ ρ' M' (fun y ρ2 M2 hy => ⟨hy.1, h1 _ _ hy.2⟩)) h⟩
/-- o.f = o.f op e (also o.f++) -/
def zsFO (k ci j : Nat) (i : Instr) (F : Int → Int → Int) (hi : ∀ ev S Rn rt G pc x y r lv M, G (pc + 1) ((0, F x y) :: r) lv M → zStep ev S Rn rt i 1 pc ((0, y) :: (0, x) :: r) lv M G) (o : zE 2) (e : zE 0) : zSt := ⟨(fun ev Γ pc _ _ => (zec o ev Γ 0 pc none).bind fun p => (zif (zat ev p .dup 1 && (zat ev (p + 1) (.getfield k) 3 && decide (ev.2.2.2.2.1 k = some (ci, j)))) ()).bind fun _ => (zec e ev Γ 2 (p + 4) none).bind fun p2 => zif (zat ev p2 i 1 && zat ev (p2 + 1) (.putfield k) 3) (Γ, p2 + 4),
    fun S Rn kn _ _ ρ M => zew o S Rn (fun x ρ M => zFld S x ci j = some none ∧ zew e S Rn (fun y ρ M2 => zFld S x ci j = some none ∧ kn ρ (zput M2 x (zup (M2 x) j (F (M x j) y)))) ρ M) ρ M),
  fun ev S Rn rt G hG Γ nx L pc Γ' pc' ρ M kn kb hc hw hn hb => by
    obtain ⟨p, g1, g2⟩ := Option.bind_eq_some_iff.mp hc
    obtain ⟨u, g3, g4⟩ := Option.bind_eq_some_iff.mp g2
    obtain ⟨g3, -⟩ := zif_some g3
    obtain ⟨p2, g5, g6⟩ := Option.bind_eq_some_iff.mp g4
    obtain ⟨g7, g8⟩ := zif_some g6
    cases g8
    simp only [Bool.and_eq_true, decide_eq_true_eq] at g3 g7
    refine zes o ev S Rn rt G hG Γ none pc p [] ρ M _ g1 hw (fun x ρ1 M1 h1 => ⟨fun lv hlv => hG.1 _ 1 p _ lv M1 (zat_d g3.1) ⟨rfl, (2, x), [], rfl, rfl, hG.1 _ 3 (p + 1) _ lv M1 (zat_d g3.2.1) ⟨rfl, x, [(2, x)], ci, j, rfl, g3.2.2, Or.inl ⟨h1.1, ?_⟩⟩⟩, fun x hx => by cases hx⟩)
    exact zes e ev S Rn rt G hG Γ none (p + 4) p2 [(0, M1 x j), (2, x)] ρ1 M1 _ g5 h1.2 (fun y ρ2 M2 h2 => ⟨fun lv hlv => hG.1 i 1 p2 _ lv M2 (zat_d g7.1) (hi _ _ _ _ _ _ _ _ _ _ _ (hG.1 _ 3 (p2 + 1) _ lv M2 (zat_d g7.2) ⟨rfl, x, _, [], ci, j, rfl, g3.2.2, h2.1, (hn _ _ h2.2).1 lv hlv⟩)), fun x hx => by cases hx⟩) lv hlv,
  fun S Rn hR kn kn' kb kb' kr kr' ρ M h1 h2 h3 h => zem o S Rn hR _ _ ρ M (fun v ρ' M' hv => ⟨hv.1, zem e S Rn hR _ _ ρ' M' (fun y ρ2 M2 hy => ⟨hy.1, h1 _ _ hy.2⟩) hv.2⟩) h⟩
/-- a[j] = e -/
def zsIx (t : Nat) (i : Instr) (P : List zSh → Int → Int → Int → Prop) (hi : ∀ ev S Rn rt G pc a j x r lv M, P S a j x → G (pc + 1) r lv (zput M a (zup (M a) j x)) → zStep ev S Rn rt i 1 pc ((t, x) :: (0, j) :: (2, a) :: r) lv M G) (a : zE 2) (b : zE 0) (e : zE t) : zSt :=
  ⟨(fun ev Γ pc _ _ => (zec a ev Γ 0 pc none).bind fun p => (zec b ev Γ 1 p none).bind fun p2 => (zec e ev Γ 2 p2 none).bind fun p3 => zif (zat ev p3 i 1) (Γ, p3 + 1),
    fun S Rn kn _ _ ρ M => zew a S Rn (fun x ρ M => zew b S Rn (fun j ρ M => zew e S Rn (fun y ρ M => P S x j y ∧ kn ρ (zput M x (zup (M x) j y))) ρ M) ρ M) ρ M),
  fun ev S Rn rt G hG Γ nx L pc Γ' pc' ρ M kn kb hc hw hn hb => by
    obtain ⟨p, g1, g2⟩ := Option.bind_eq_some_iff.mp hc
    obtain ⟨p2, g3, g4⟩ := Option.bind_eq_some_iff.mp g2
    obtain ⟨p3, g5, g6⟩ := Option.bind_eq_some_iff.mp g4
    obtain ⟨g7, g8⟩ := zif_some g6
    cases g8
    exact zes a ev S Rn rt G hG Γ none pc p [] ρ M _ g1 hw (fun x ρ1 M1 h1 => ⟨zes b ev S Rn rt G hG Γ none p p2 [(2, x)] ρ1 M1 _ g3 h1 (fun j ρ2 M2 h2 => ⟨zes e ev S Rn rt G hG Γ none p2 p3 [(0, j), (2, x)] ρ2 M2 _ g5 h2 (fun y ρ3 M3 h3 => ⟨fun lv hlv => hG.1 _ 1 p3 _ lv M3 (zat_d g7) (hi _ _ _ _ _ _ _ _ _ _ _ _ h3.1 ((hn _ _ h3.2).1 lv hlv)), fun x hx => by cases hx⟩), fun x hx => by cases hx⟩), fun x hx => by cases hx⟩),
  fun S Rn hR kn kn' kb kb' kr kr' ρ M h1 h2 h3 h => zem a S Rn hR _ _ ρ M (fun v ρ' M' => zem b S Rn hR _ _ ρ' M' (fun y ρ2 M2 => zem e S Rn hR _ _ ρ2 M2 (fun z ρ3 M3 hz => ⟨hz.1, h1 _ _ hz.2⟩))) h⟩
def zPw (ty : FieldType) (S : List zSh) (a j _x : Int) : Prop := ∃ n, zArr S a ty n ∧ 0 ≤ j ∧ j < (n : Nat)
def zPwZ (S : List zSh) (a j x : Int) : Prop := (x = 0 ∨ x = 1) ∧ ∃ n, zArr S a .boolean n ∧ 0 ≤ j ∧ j < (n : Nat)
def zPwB (S : List zSh) (a j x : Int) : Prop := (-128 ≤ x ∧ x < 128) ∧ ∃ n, zArr S a .byte n ∧ 0 ≤ j ∧ j < (n : Nat)
theorem zi_iast : ∀ ev S Rn rt G pc a j x r lv M, zPw .int S a j x → G (pc + 1) r lv (zput M a (zup (M a) j x)) → zStep ev S Rn rt .iastore 1 pc ((0, x) :: (0, j) :: (2, a) :: r) lv M G := fun ev S Rn rt G pc a j x r lv M ⟨n, h1, h2, h3⟩ h => ⟨rfl, x, j, a, r, n, rfl, h1, h2, h3, h⟩
def zsIA : zE 2 → zE 0 → zE 0 → zSt := zsIx 0 .iastore (zPw .int) zi_iast
def zsLA : zE 2 → zE 0 → zE 1 → zSt := zsIx 1 .lastore (zPw .long) (fun ev S Rn rt G pc a j x r lv M ⟨n, h1, h2, h3⟩ h => ⟨rfl, x, j, a, r, n, rfl, h1, h2, h3, h⟩)
def zsZA : zE 2 → zE 0 → zE 0 → zSt := zsIx 0 .bastore zPwZ (fun ev S Rn rt G pc a j x r lv M ⟨hx, n, h1, h2, h3⟩ h => ⟨rfl, x, j, a, r, n, rfl, Or.inl ⟨h1, hx⟩, h2, h3, h⟩)
def zsBA : zE 2 → zE 0 → zE 0 → zSt := zsIx 0 .bastore zPwB (fun ev S Rn rt G pc a j x r lv M ⟨hx, n, h1, h2, h3⟩ h => ⟨rfl, x, j, a, r, n, rfl, Or.inr ⟨h1, hx⟩, h2, h3, h⟩)
/-- a[j] = a[j] op e, of ints -/
def zsIO (i : Instr) (F : Int → Int → Int) (hi : ∀ ev S Rn rt G pc x y r lv M, G (pc + 1) ((0, F x y) :: r) lv M → zStep ev S Rn rt i 1 pc ((0, y) :: (0, x) :: r) lv M G) (a : zE 2) (b e : zE 0) : zSt :=
  ⟨(fun ev Γ pc _ _ => (zec a ev Γ 0 pc none).bind fun p => (zec b ev Γ 1 p none).bind fun p2 => (zif (zat ev p2 .dup2 1 && zat ev (p2 + 1) .iaload 1) ()).bind fun _ => (zec e ev Γ 3 (p2 + 2) none).bind fun p3 => zif (zat ev p3 i 1 && zat ev (p3 + 1) .iastore 1) (Γ, p3 + 2),
    fun S Rn kn _ _ ρ M => zew a S Rn (fun x ρ M => zew b S Rn (fun j ρ M => zPw .int S x j 0 ∧ zew e S Rn (fun y ρ M2 => kn ρ (zput M2 x (zup (M2 x) j (F (M x j) y)))) ρ M) ρ M) ρ M),
  fun ev S Rn rt G hG Γ nx L pc Γ' pc' ρ M kn kb hc hw hn hb => by
    obtain ⟨p, g1, g2⟩ := Option.bind_eq_some_iff.mp hc
    obtain ⟨p2, g3, g4⟩ := Option.bind_eq_some_iff.mp g2
    obtain ⟨u, g5, g6⟩ := Option.bind_eq_some_iff.mp g4
    obtain ⟨g5, -⟩ := zif_some g5
    obtain ⟨p3, g7, g8⟩ := Option.bind_eq_some_iff.mp g6
    obtain ⟨g9, g10⟩ := zif_some g8
    cases g10
    simp only [Bool.and_eq_true] at g5 g9
    refine zes a ev S Rn rt G hG Γ none pc p [] ρ M _ g1 hw (fun x ρ1 M1 h1 => ⟨zes b ev S Rn rt G hG Γ none p p2 [(2, x)] ρ1 M1 _ g3 h1 (fun j ρ2 M2 h2 => ⟨fun lv hlv => ?_, fun x hx => by cases hx⟩), fun x hx => by cases hx⟩)
    obtain ⟨⟨n, k1, k2, k3⟩, h2⟩ := h2
    refine hG.1 _ 1 p2 _ lv M2 (zat_d g5.1) ⟨rfl, (0, j), (2, x), [], rfl, rfl, rfl, hG.1 _ 1 (p2 + 1) _ lv M2 (zat_d g5.2) ⟨rfl, j, x, [(0, j), (2, x)], n, rfl, k1, k2, k3, ?_⟩⟩
    exact zes e ev S Rn rt G hG Γ none (p2 + 2) p3 [(0, M2 x j), (0, j), (2, x)] ρ2 M2 _ g7 h2 (fun y ρ3 M3 h3 => ⟨fun lv hlv => hG.1 i 1 p3 _ lv M3 (zat_d g9.1) (hi _ _ _ _ _ _ _ _ _ _ _ (hG.1 _ 1 (p3 + 1) _ lv M3 (zat_d g9.2) ⟨rfl, _, j, x, [], n, rfl, k1, k2, k3, (hn _ _ h3).1 lv hlv⟩)), fun x hx => by cases hx⟩) lv hlv,
  fun S Rn hR kn kn' kb kb' kr kr' ρ M h1 h2 h3 h => zem a S Rn hR _ _ ρ M (fun v ρ' M' => zem b S Rn hR _ _ ρ' M' (fun y ρ2 M2 hy => ⟨hy.1, zem e S Rn hR _ _ ρ2 M2 (fun z ρ3 M3 hz => h1 _ _ hz) hy.2⟩)) h⟩
theorem zh_add : ∀ ev S Rn rt G pc x y r lv M, G (pc + 1) ((0, zw32 (x + y)) :: r) lv M → zStep ev S Rn rt .iadd 1 pc ((0, y) :: (0, x) :: r) lv M G := fun ev S Rn rt G pc x y r lv M h => ⟨rfl, x, y, r, rfl, h⟩
theorem zh_sub : ∀ ev S Rn rt G pc x y r lv M, G (pc + 1) ((0, zw32 (x - y)) :: r) lv M → zStep ev S Rn rt .isub 1 pc ((0, y) :: (0, x) :: r) lv M G := fun ev S Rn rt G pc x y r lv M h => ⟨rfl, x, y, r, rfl, h⟩
theorem zh_or : ∀ ev S Rn rt G pc x y r lv M, G (pc + 1) ((0, zor x y) :: r) lv M → zStep ev S Rn rt .ior 1 pc ((0, y) :: (0, x) :: r) lv M G := fun ev S Rn rt G pc x y r lv M h => ⟨rfl, x, y, r, rfl, h⟩
theorem zh_and : ∀ ev S Rn rt G pc x y r lv M, G (pc + 1) ((0, zand x y) :: r) lv M → zStep ev S Rn rt .iand 1 pc ((0, y) :: (0, x) :: r) lv M G := fun ev S Rn rt G pc x y r lv M h => ⟨rfl, x, y, r, rfl, h⟩
theorem zh_xor : ∀ ev S Rn rt G pc x y r lv M, G (pc + 1) ((0, zxor x y) :: r) lv M → zStep ev S Rn rt .ixor 1 pc ((0, y) :: (0, x) :: r) lv M G := fun ev S Rn rt G pc x y r lv M h => ⟨rfl, x, y, r, rfl, h⟩
theorem zh_mul : ∀ ev S Rn rt G pc x y r lv M, G (pc + 1) ((0, zw32 (x * y)) :: r) lv M → zStep ev S Rn rt .imul 1 pc ((0, y) :: (0, x) :: r) lv M G := fun ev S Rn rt G pc x y r lv M h => ⟨rfl, x, y, r, rfl, h⟩
