/-- arguments, one behind the other -/
abbrev zEx : Type := (t : Nat) × zE t
def zasC : List zEx → zEv → zGam → Nat → Nat → Option Nat
  | [], _, _, _, pc => some pc
  | ⟨t, a⟩ :: r, ev, Γ, d, pc => (zec a ev Γ d pc none).bind fun p => zasC r ev Γ (zcat (t, 0) + d) p
def zasW : List zEx → List zSh → zRnT → (List zV → zLoc → zMem → Prop) → zLoc → zMem → Prop
  | [], _, _, K, ρ, M => K [] ρ M
  | ⟨t, a⟩ :: r, S, Rn, K, ρ, M => zew a S Rn (fun v ρ M => zasW r S Rn (fun vs ρ M => K ((t, v) :: vs) ρ M) ρ M) ρ M
theorem zas_snd (as : List zEx) : ∀ {ev : zEv} {S : List zSh} {Rn : zRnT} {rt : Option zV → zMem → Prop} {G : Nat → List zV → zLv → zMem → Prop}, zClosed ev S Rn rt G →
    ∀ {Γ : zGam} {pc pc' : Nat} {st : List zV} {ρ : zLoc} {M : zMem} {K : List zV → zLoc → zMem → Prop}, zasC as ev Γ (zcats st) pc = some pc' → zasW as S Rn K ρ M →
    (∀ vs ρ' M', vs.length = as.length → K vs ρ' M' → zGG G Γ pc' (vs.reverse ++ st) ρ' M') → zGG G Γ pc st ρ M := by
  induction as with
  | nil =>
    intro ev S Rn rt G hG Γ pc pc' st ρ M K hc hw hk
    cases hc
    exact hk [] ρ M rfl hw
  | cons a r ih =>
    intro ev S Rn rt G hG Γ pc pc' st ρ M K hc hw hk
    obtain ⟨t, a⟩ := a
    obtain ⟨p, h1, h2⟩ := Option.bind_eq_some_iff.mp hc
    refine zes a ev S Rn rt G hG Γ none pc p st ρ M _ h1 hw (fun v ρ1 M1 hv => ⟨?_, fun x hx => by cases hx⟩)
    refine ih hG (st := (t, v) :: st) h2 hv (fun vs ρ2 M2 hl h3 => ?_)
    have := hk ((t, v) :: vs) ρ2 M2 (by rw [List.length_cons, hl, List.length_cons]) h3
    rw [List.reverse_cons, List.append_assoc] at this
    exact this
theorem zas_mon (as : List zEx) : ∀ {S : List zSh} {Rn : zRnT}, zRMon Rn → ∀ {K K' : List zV → zLoc → zMem → Prop} {ρ : zLoc} {M : zMem}, (∀ vs ρ' M', K vs ρ' M' → K' vs ρ' M') → zasW as S Rn K ρ M → zasW as S Rn K' ρ M := by
  induction as with
  | nil => intro S Rn hR K K' ρ M hk h; exact hk _ _ _ h
  | cons a r ih =>
    intro S Rn hR K K' ρ M hk h
    obtain ⟨t, a⟩ := a
    exact zem a S Rn hR _ _ ρ M (fun v ρ' M' hv => ih hR (fun vs _ _ => hk _ _ _) hv) h
def zRoom (ev : zEv) (d f : Nat) : Bool := decide (d ≤ 8) && (decide ((ev.2.2.2.2.2.2.2.2.2 f).2.2.2.2.1 + 1 ≤ ev.2.2.2.2.2.2.2.1) && decide (8 + ((ev.2.2.2.2.2.2.2.2.2 f).2.2.1 + 11) + (ev.2.2.2.2.2.2.2.2.2 f).2.2.2.2.2 ≤ ev.2.2.2.2.2.2.2.2.1))
theorem zRoom_d {ev : zEv} {d f : Nat} (h : zRoom ev d f = true) : d ≤ 8 ∧ (ev.2.2.2.2.2.2.2.2.2 f).2.2.2.2.1 + 1 ≤ ev.2.2.2.2.2.2.2.1 ∧ 8 + ((ev.2.2.2.2.2.2.2.2.2 f).2.2.1 + 11) + (ev.2.2.2.2.2.2.2.2.2 f).2.2.2.2.2 ≤ ev.2.2.2.2.2.2.2.2.1 := by
  unfold zRoom at h
  simpa using h
/-- the code of a call: kind 0 of an object (the first argument), 1 and 2 static -/
def zcallC (kd k f ci na : Nat) (as : List zEx) (ev : zEv) (Γ : zGam) (d pc : Nat) : Option Nat :=
  (zasC as ev Γ d pc).bind fun p => zif (zat ev p (if kd = 0 then .invokevirtual k else .invokestatic k) 3 && (decide (ev.2.2.2.2.2.1 k = some (kd, f, ci, na)) && (zRoom ev d f &&
    (decide (kd < 3) && decide (as.length = (if kd = 0 then na + 1 else na)))))) (p + 3)
/-- what a call needs of its first argument -/
def zRecv (S : List zSh) (kd ci : Nat) (vs : List zV) : Prop := kd = 0 → ∃ o as, vs = (2, o) :: as ∧ zObj S o ci
theorem zcall_snd {kd k f ci na : Nat} {as : List zEx} {ev : zEv} {S : List zSh} {Rn : zRnT} {rt : Option zV → zMem → Prop} {G : Nat → List zV → zLv → zMem → Prop} (hG : zClosed ev S Rn rt G)
    {Γ : zGam} {pc pc' : Nat} {st : List zV} {ρ : zLoc} {M : zMem} {K : Option zV → zLoc → zMem → Prop} (hc : zcallC kd k f ci na as ev Γ (zcats st) pc = some pc')
    (hw : zasW as S Rn (fun vs ρ M => zRecv S kd ci vs ∧ Rn (zFn f) vs M (fun v M' => K v ρ M')) ρ M) 
    (hk : ∀ v ρ' M', K v ρ' M' → zGG G Γ pc' (v.toList ++ st) ρ' M') : zGG G Γ pc st ρ M := by
  obtain ⟨p, h1, h2⟩ := Option.bind_eq_some_iff.mp hc
  obtain ⟨h3, rfl⟩ := zif_some h2
  simp only [Bool.and_eq_true, decide_eq_true_eq] at h3
  obtain ⟨h3, h4, h5, h6, h7⟩ := h3
  obtain ⟨r1, r2, r3⟩ := zRoom_d h5
  refine zas_snd as hG h1 hw (fun vs ρ1 M1 hl ⟨hrv, hrn⟩ => ?_)
  intro lv hlv
  have hrn2 := hG.2.2 _ vs M1 _ (fun v M' => G (p + 3) (v.toList ++ st) lv M') (fun v u hv => hk v ρ1 u hv lv hlv) hrn
  rw [← hG.2.1] at hrn2
  rcases (show kd = 0 ∨ kd = 1 ∨ kd = 2 by omega) with rfl | hkd
  · obtain ⟨o, as', rfl, ho⟩ := hrv rfl
    have h3 := zat_d h3
    rw [if_pos rfl] at h3
    refine hG.1 _ 3 p _ lv M1 h3 ⟨rfl, o, as', st, f, ci, na, by simp, h4, ?_, ho, r1, r2, r3, hrn2⟩
    rw [if_pos rfl, ← hl, List.length_cons] at h7
    omega
  · have h3 := zat_d h3
    have hk0 : ¬ kd = 0 := by omega
    rw [if_neg hk0] at h3
    refine hG.1 _ 3 p _ lv M1 h3 ⟨rfl, Or.inl ⟨vs, st, kd, f, ci, na, hkd, rfl, h4, ?_, r1, r2, r3, hrn2⟩⟩
    rw [if_neg hk0] at h7
    exact hl.trans h7
/-- a call that answers -/
def zeCall (t : Nat) (kd k f ci na : Nat) (as : List zEx) : zE t :=
  ⟨(fun ev Γ d pc _ => zcallC kd k f ci na as ev Γ d pc, fun S Rn K ρ M => zasW as S Rn (fun vs ρ M => zRecv S kd ci vs ∧ Rn (zFn f) vs M (fun v M' => ∃ x, v = some (t, x) ∧ K x ρ M')) ρ M),
    fun ev S Rn rt G hG Γ nx pc pc' st ρ M K hc hw hk => zcall_snd hG (K := fun v ρ M' => ∃ x, v = some (t, x) ∧ K x ρ M') hc hw (fun v ρ' M' ⟨x, hv, hx⟩ => by subst hv; exact (hk x ρ' M' hx).1),
    fun S Rn hR K K' ρ M hk h => zas_mon as hR (fun vs ρ' M' hv => ⟨hv.1, hR _ _ _ _ _ (fun v u ⟨x, h1, h2⟩ => ⟨x, h1, hk _ _ _ h2⟩) hv.2⟩) h⟩
/-- Math.max (mx: 3), Math.min (mx: 4) -/
def zeMM (mx k : Nat) (a b : zE 0) : zE 0 :=
  ⟨(fun ev Γ d pc _ => (zec a ev Γ d pc none).bind fun p => (zec b ev Γ (1 + d) p none).bind fun p2 => zif (zat ev p2 (.invokestatic k) 3 && (decide ((ev.2.2.2.2.2.1 k).map (·.1) = some mx) && (decide (mx = 3 ∨ mx = 4) && (decide (1 ≤ ev.2.2.2.2.2.2.2.1) && decide (d + 13 ≤ ev.2.2.2.2.2.2.2.2.1))))) (p2 + 3),
    fun S Rn K ρ M => zew a S Rn (fun x ρ M => zew b S Rn (fun y ρ M => K (if mx = 3 then max x y else min x y) ρ M) ρ M) ρ M),
    fun ev S Rn rt G hG Γ nx pc pc' st ρ M K hc hw hk => by
      obtain ⟨p, h1, h2⟩ := Option.bind_eq_some_iff.mp hc
      obtain ⟨p2, g2, g3⟩ := Option.bind_eq_some_iff.mp h2
      obtain ⟨g4, rfl⟩ := zif_some g3
      simp only [Bool.and_eq_true, decide_eq_true_eq] at g4
      obtain ⟨g4, g5, g6, g7, g8⟩ := g4
      obtain ⟨⟨kd, f, ci, na⟩, g9, g10⟩ := Option.map_eq_some_iff.mp g5
      have g10 : kd = mx := g10
      subst g10
      exact zes a ev S Rn rt G hG Γ none pc p st ρ M _ h1 hw (fun x ρ1 M1 hx => ⟨zes b ev S Rn rt G hG Γ none p p2 ((0, x) :: st) ρ1 M1 _ g2 hx (fun y ρ2 M2 hy => ⟨fun lv hlv => hG.1 _ 3 p2 _ lv M2 (zat_d g4) ⟨rfl, Or.inr (Or.inr ⟨x, y, st, kd, f, ci, na, rfl, g9, g6, g7, g8, (hk _ _ _ hy).1 lv hlv⟩)⟩, fun x hx => by cases hx⟩), fun x hx => by cases hx⟩),
    fun S Rn hR K K' ρ M hk h => zem a S Rn hR _ _ ρ M (fun v ρ' M' => zem b S Rn hR _ _ ρ' M' (fun v2 ρ2 M2 h2 => hk _ _ _ h2)) h⟩
