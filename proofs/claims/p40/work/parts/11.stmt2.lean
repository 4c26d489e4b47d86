/-- an expression whose value goes -/
def zsPop {t : Nat} (e : zE t) : zSt := ⟨(fun ev Γ pc _ _ => (zec e ev Γ 0 pc none).bind fun p => zif (zat ev p .pop 1 && decide (¬ t = 1)) (Γ, p + 1), fun S Rn kn _ _ ρ M => zew e S Rn (fun _ ρ M => kn ρ M) ρ M),
  fun ev S Rn rt G hG Γ nx L pc Γ' pc' ρ M kn kb hc hw hn hb => by
    obtain ⟨p, g1, g2⟩ := Option.bind_eq_some_iff.mp hc
    obtain ⟨g3, g4⟩ := zif_some g2
    cases g4
    simp only [Bool.and_eq_true, decide_eq_true_eq] at g3
    exact zes e ev S Rn rt G hG Γ none pc p [] ρ M _ g1 hw (fun x ρ1 M1 h1 => ⟨fun lv hlv => hG.1 _ 1 p _ lv M1 (zat_d g3.1) ⟨rfl, (t, x), [], rfl, by unfold zcat; rw [if_neg g3.2], (hn _ _ h1).1 lv hlv⟩, fun x hx => by cases hx⟩),
  fun S Rn hR kn kn' kb kb' kr kr' ρ M h1 h2 h3 h => zem e S Rn hR _ _ ρ M (fun v ρ' M' => h1 _ _) h⟩
/-- a call of a method without an answer -/
def zsCall (kd k f ci na : Nat) (as : List zEx) : zSt := ⟨(fun ev Γ pc _ _ => (zcallC kd k f ci na as ev Γ 0 pc).bind fun p => some (Γ, p), fun S Rn kn _ _ ρ M => zasW as S Rn (fun vs ρ M => zRecv S kd ci vs ∧ Rn (zFn f) vs M (fun v M' => v = none ∧ kn ρ M')) ρ M),
  fun ev S Rn rt G hG Γ nx L pc Γ' pc' ρ M kn kb hc hw hn hb => by
    obtain ⟨p, g1, g2⟩ := Option.bind_eq_some_iff.mp hc
    cases g2
    exact zcall_snd hG (st := []) (K := fun v ρ M' => v = none ∧ kn ρ M') g1 hw (fun v ρ' M' ⟨hv, hx⟩ => by subst hv; exact (hn ρ' M' hx).1),
  fun S Rn hR kn kn' kb kb' kr kr' ρ M h1 h2 h3 h => zas_mon as hR (fun vs ρ' M' hv => ⟨hv.1, hR _ _ _ _ _ (fun v u hv => ⟨hv.1, h1 _ _ hv.2⟩) hv.2⟩) h⟩
/-- System.arraycopy of ints -/
def zsCopy (k : Nat) (a0 : zE 2) (sp : zE 0) (a1 : zE 2) (dp cn : zE 0) : zSt := ⟨(fun ev Γ pc _ _ => (zasC [⟨2, a0⟩, ⟨0, sp⟩, ⟨2, a1⟩, ⟨0, dp⟩, ⟨0, cn⟩] ev Γ 0 pc).bind fun p => zif (zat ev p (.invokestatic k) 3 && (decide ((ev.2.2.2.2.2.1 k).map (·.1) = some 5) && (decide (1 ≤ ev.2.2.2.2.2.2.2.1) && decide (nativeFrameWords "java/lang/System" "arraycopy" 5 + 11 ≤ ev.2.2.2.2.2.2.2.2.1)))) (Γ, p + 3),
    fun S Rn kn _ _ ρ M => zew a0 S Rn (fun x0 ρ M => zew sp S Rn (fun s ρ M => zew a1 S Rn (fun x1 ρ M => zew dp S Rn (fun d ρ M => zew cn S Rn (fun c ρ M =>
      (∃ k0 k1, zArr S x0 .int k0 ∧ zArr S x1 .int k1 ∧ 0 ≤ s ∧ 0 ≤ d ∧ 0 ≤ c ∧ s + c ≤ (k0 : Nat) ∧ d + c ≤ (k1 : Nat)) ∧ kn ρ (zput M x1 (zcpy (M x0) (M x1) s d c))) ρ M) ρ M) ρ M) ρ M) ρ M),
  fun ev S Rn rt G hG Γ nx L pc Γ' pc' ρ M kn kb hc hw hn hb => by
    obtain ⟨p, g1, g2⟩ := Option.bind_eq_some_iff.mp hc
    obtain ⟨g3, g4⟩ := zif_some g2
    cases g4
    simp only [Bool.and_eq_true, decide_eq_true_eq] at g3
    obtain ⟨g3, g4, g5, g6⟩ := g3
    obtain ⟨⟨kd, f, ci, na⟩, g7, g8⟩ := Option.map_eq_some_iff.mp g4
    have g8 : kd = 5 := g8
    subst g8
    refine zas_snd [⟨2, a0⟩, ⟨0, sp⟩, ⟨2, a1⟩, ⟨0, dp⟩, ⟨0, cn⟩] hG (st := []) (K := fun vs ρ M => ∃ x0 s x1 d c, vs = [(2, x0), (0, s), (2, x1), (0, d), (0, c)] ∧ (∃ k0 k1, zArr S x0 .int k0 ∧ zArr S x1 .int k1 ∧ 0 ≤ s ∧ 0 ≤ d ∧ 0 ≤ c ∧ s + c ≤ (k0 : Nat) ∧ d + c ≤ (k1 : Nat)) ∧ kn ρ (zput M x1 (zcpy (M x0) (M x1) s d c))) g1 ?_ ?_
    · refine zem a0 S Rn hG.2.2 _ _ ρ M (fun x0 ρ M => zem sp S Rn hG.2.2 _ _ ρ M (fun s ρ M => zem a1 S Rn hG.2.2 _ _ ρ M (fun x1 ρ M => zem dp S Rn hG.2.2 _ _ ρ M (fun d ρ M => zem cn S Rn hG.2.2 _ _ ρ M (fun c ρ M h => ?_))))) hw
      exact ⟨x0, s, x1, d, c, rfl, h⟩
    · rintro vs ρ1 M1 - ⟨x0, s, x1, d, c, rfl, ⟨k0, k1, h1, h2, h3, h4, h5, h6, h7⟩, h8⟩ lv hlv
      exact hG.1 _ 3 p _ lv M1 (zat_d g3) ⟨rfl, Or.inr (Or.inl ⟨x0, s, x1, d, c, [], f, ci, na, k0, k1, rfl, g7, h1, h2, h3, h4, h5, h6, h7, g5, by show 0 + _ ≤ _; omega, (hn _ _ h8).1 lv hlv⟩)⟩,
  fun S Rn hR kn kn' kb kb' kr kr' ρ M h1 h2 h3 h => zem a0 S Rn hR _ _ ρ M (fun x0 ρ M => zem sp S Rn hR _ _ ρ M (fun s ρ M => zem a1 S Rn hR _ _ ρ M (fun x1 ρ M => zem dp S Rn hR _ _ ρ M (fun d ρ M => zem cn S Rn hR _ _ ρ M (fun c ρ M h => ⟨h.1, h1 _ _ h.2⟩))))) h⟩
def zsRetI (e : zE 0) : zSt := ⟨(fun ev Γ pc _ _ => (zec e ev Γ 0 pc none).bind fun p => zif (zat ev p .ireturn 1 && decide (ev.2.2.2.1 = some .int)) (Γ, p + 1),
    fun S Rn _ _ kr ρ M => zew e S Rn (fun x _ M => kr (some (0, x)) M) ρ M),
  fun ev S Rn rt G hG Γ nx L pc Γ' pc' ρ M kn kb hc hw hn hb => by
    obtain ⟨p, g1, g2⟩ := Option.bind_eq_some_iff.mp hc
    obtain ⟨g3, g4⟩ := zif_some g2
    cases g4
    simp only [Bool.and_eq_true, decide_eq_true_eq] at g3
    exact zes e ev S Rn rt G hG Γ none pc p [] ρ M _ g1 hw (fun x ρ1 M1 h1 => ⟨fun lv hlv => hG.1 _ 1 p _ lv M1 (zat_d g3.1) ⟨rfl, x, rfl, Or.inr g3.2, h1⟩, fun x hx => by cases hx⟩),
  fun S Rn hR kn kn' kb kb' kr kr' ρ M h1 h2 h3 h => zem e S Rn hR _ _ ρ M (fun v ρ' M' h => h3 _ _ h) h⟩
def zsRetZ (e : zE 0) : zSt := ⟨(fun ev Γ pc _ _ => (zec e ev Γ 0 pc none).bind fun p => zif (zat ev p .ireturn 1 && decide (ev.2.2.2.1 = some .boolean)) (Γ, p + 1),
    fun S Rn _ _ kr ρ M => zew e S Rn (fun x _ M => (x = 0 ∨ x = 1) ∧ kr (some (0, x)) M) ρ M),
  fun ev S Rn rt G hG Γ nx L pc Γ' pc' ρ M kn kb hc hw hn hb => by
    obtain ⟨p, g1, g2⟩ := Option.bind_eq_some_iff.mp hc
    obtain ⟨g3, g4⟩ := zif_some g2
    cases g4
    simp only [Bool.and_eq_true, decide_eq_true_eq] at g3
    exact zes e ev S Rn rt G hG Γ none pc p [] ρ M _ g1 hw (fun x ρ1 M1 h1 => ⟨fun lv hlv => hG.1 _ 1 p _ lv M1 (zat_d g3.1) ⟨rfl, x, rfl, Or.inl ⟨g3.2, h1.1⟩, h1.2⟩, fun x hx => by cases hx⟩),
  fun S Rn hR kn kn' kb kb' kr kr' ρ M h1 h2 h3 h => zem e S Rn hR _ _ ρ M (fun v ρ' M' h => ⟨h.1, h3 _ _ h.2⟩) h⟩
def zsRetL (e : zE 1) : zSt := ⟨(fun ev Γ pc _ _ => (zec e ev Γ 0 pc none).bind fun p => zif (zat ev p .lreturn 1 && decide (ev.2.2.2.1 = some .long)) (Γ, p + 1),
    fun S Rn _ _ kr ρ M => zew e S Rn (fun x _ M => kr (some (1, x)) M) ρ M),
  fun ev S Rn rt G hG Γ nx L pc Γ' pc' ρ M kn kb hc hw hn hb => by
    obtain ⟨p, g1, g2⟩ := Option.bind_eq_some_iff.mp hc
    obtain ⟨g3, g4⟩ := zif_some g2
    cases g4
    simp only [Bool.and_eq_true, decide_eq_true_eq] at g3
    exact zes e ev S Rn rt G hG Γ none pc p [] ρ M _ g1 hw (fun x ρ1 M1 h1 => ⟨fun lv hlv => hG.1 _ 1 p _ lv M1 (zat_d g3.1) ⟨rfl, x, rfl, g3.2, h1⟩, fun x hx => by cases hx⟩),
  fun S Rn hR kn kn' kb kb' kr kr' ρ M h1 h2 h3 h => zem e S Rn hR _ _ ρ M (fun v ρ' M' h => h3 _ _ h) h⟩
def zsRetR (C : String) (e : zE 2) : zSt := ⟨(fun ev Γ pc _ _ => (zec e ev Γ 0 pc none).bind fun p => zif (zat ev p .areturn 1 && decide (ev.2.2.2.1 = some (.object C))) (Γ, p + 1),
    fun S Rn _ _ kr ρ M => zew e S Rn (fun x _ M => kr (some (2, x)) M) ρ M),
  fun ev S Rn rt G hG Γ nx L pc Γ' pc' ρ M kn kb hc hw hn hb => by
    obtain ⟨p, g1, g2⟩ := Option.bind_eq_some_iff.mp hc
    obtain ⟨g3, g4⟩ := zif_some g2
    cases g4
    simp only [Bool.and_eq_true, decide_eq_true_eq] at g3
    exact zes e ev S Rn rt G hG Γ none pc p [] ρ M _ g1 hw (fun x ρ1 M1 h1 => ⟨fun lv hlv => hG.1 _ 1 p _ lv M1 (zat_d g3.1) ⟨rfl, x, C, rfl, g3.2, h1⟩, fun x hx => by cases hx⟩),
  fun S Rn hR kn kn' kb kb' kr kr' ρ M h1 h2 h3 h => zem e S Rn hR _ _ ρ M (fun v ρ' M' h => h3 _ _ h) h⟩
def zsRetV : zSt := ⟨(fun ev Γ pc _ _ => zif (zat ev pc .return_ 1 && decide (ev.2.2.2.1 = none)) (Γ, pc + 1),
    fun _ _ _ _ kr _ M => kr none M),
  fun ev S Rn rt G hG Γ nx L pc Γ' pc' ρ M kn kb hc hw hn hb => by
    obtain ⟨g3, g4⟩ := zif_some hc
    cases g4
    simp only [Bool.and_eq_true, decide_eq_true_eq] at g3
    exact fun lv hlv => hG.1 _ 1 pc _ lv M (zat_d g3.1) ⟨rfl, rfl, g3.2, hw⟩,
  fun S Rn hR kn kn' kb kb' kr kr' ρ M h1 h2 h3 h => h3 _ _ h⟩
/-- if without else; D: its end -/
def zsIf (D : Nat) (c : zC) (a : zSt) : zSt := ⟨(fun ev Γ pc nx L => (zcc c ev Γ 0 pc false (nx.getD D) none).bind fun p => (zsc a ev Γ p nx L).bind fun q => zif (zSub Γ q.1 && decide (q.2 = D)) (Γ, D),
    fun S Rn kn kb kr ρ M => zcw c S Rn (fun ρ M => zsw a S Rn kn kb kr ρ M) kn ρ M),
  fun ev S Rn rt G hG Γ nx L pc Γ' pc' ρ M kn kb hc hw hn hb => by
    obtain ⟨p, g1, g2⟩ := Option.bind_eq_some_iff.mp hc
    obtain ⟨⟨Γ1, p1⟩, g3, g4⟩ := Option.bind_eq_some_iff.mp g2
    obtain ⟨g5, g6⟩ := zif_some g4
    cases g6
    simp only [Bool.and_eq_true, decide_eq_true_eq] at g5
    obtain ⟨g5, rfl⟩ := g5
    have hx : ∀ ρ' M', kn ρ' M' → zGG G Γ (nx.getD p1) [] ρ' M' := fun ρ' M' h => by
      have := hn ρ' M' h
      cases nx with
      | none => exact this.1
      | some x => exact this.2 x rfl
    exact zcs c ev S Rn rt G hG Γ false _ none pc p [] ρ M _ _ g1 hw hx (fun ρ1 M1 h1 => ⟨zss a ev S Rn rt G hG Γ nx L p Γ1 p1 ρ1 M1 kn kb g3 h1 (fun ρ2 M2 h2 => ⟨(hn ρ2 M2 h2).1.sub (zSub_d g5), fun x hx => ((hn ρ2 M2 h2).2 x hx).sub (zSub_d g5)⟩) hb, fun x hx => by cases hx⟩),
  fun S Rn hR kn kn' kb kb' kr kr' ρ M h1 h2 h3 h => zcm c S Rn hR _ _ _ _ ρ M (fun ρ' M' => zsm a S Rn hR _ _ _ _ _ _ ρ' M' h1 h2 h3) h1 h⟩
/-- if with else; E: where that begins; D: the end -/
def zsIte (E D : Nat) (c : zC) (a b : zSt) : zSt := ⟨(fun ev Γ pc nx L => (zcc c ev Γ 0 pc false E none).bind fun p => (zsc a ev Γ p (some (nx.getD D)) L).bind fun q =>
      (zif (zSub Γ q.1 && (zat ev q.2 (.goto (((nx.getD D : Nat) : Int) - (q.2 : Int))) 3 && decide (E = q.2 + 3))) ()).bind fun _ => (zsc b ev Γ E nx L).bind fun q2 => zif (zSub Γ q2.1 && decide (q2.2 = D)) (Γ, D),
    fun S Rn kn kb kr ρ M => zcw c S Rn (fun ρ M => zsw a S Rn kn kb kr ρ M) (fun ρ M => zsw b S Rn kn kb kr ρ M) ρ M),
  fun ev S Rn rt G hG Γ nx L pc Γ' pc' ρ M kn kb hc hw hn hb => by
    obtain ⟨p, g1, g2⟩ := Option.bind_eq_some_iff.mp hc
    obtain ⟨⟨Γ1, p1⟩, g3, g4⟩ := Option.bind_eq_some_iff.mp g2
    obtain ⟨u, g5, g6⟩ := Option.bind_eq_some_iff.mp g4
    obtain ⟨g5, -⟩ := zif_some g5
    obtain ⟨⟨Γ2, p2⟩, g7, g8⟩ := Option.bind_eq_some_iff.mp g6
    obtain ⟨g9, g10⟩ := zif_some g8
    cases g10
    simp only [Bool.and_eq_true, decide_eq_true_eq] at g5 g9
    obtain ⟨g9, rfl⟩ := g9
    have hx : ∀ ρ' M', kn ρ' M' → zGG G Γ (nx.getD p2) [] ρ' M' := fun ρ' M' h => by
      have := hn ρ' M' h
      cases nx with
      | none => exact this.1
      | some x => exact this.2 x rfl
    exact zcs c ev S Rn rt G hG Γ false E none pc p [] ρ M _ _ g1 hw
      (fun ρ1 M1 h1 => zss b ev S Rn rt G hG Γ nx L E Γ2 p2 ρ1 M1 kn kb g7 h1 (fun ρ2 M2 h2 => ⟨(hn ρ2 M2 h2).1.sub (zSub_d g9), fun x hx => ((hn ρ2 M2 h2).2 x hx).sub (zSub_d g9)⟩) hb)
      (fun ρ1 M1 h1 => ⟨zss a ev S Rn rt G hG Γ (some (nx.getD p2)) L p Γ1 p1 ρ1 M1 kn kb g3 h1 (fun ρ2 M2 h2 => ⟨fun lv hlv => hG.1 _ 3 p1 _ lv M2 (zat_d g5.2.1) ⟨rfl, _, zoff rfl, (hx ρ2 M2 h2).sub (zSub_d g5.1) lv hlv⟩, fun x hx2 => by cases hx2; exact (hx ρ2 M2 h2).sub (zSub_d g5.1)⟩) hb, fun x hx => by cases hx⟩),
  fun S Rn hR kn kn' kb kb' kr kr' ρ M h1 h2 h3 h => zcm c S Rn hR _ _ _ _ ρ M (fun ρ' M' => zsm a S Rn hR _ _ _ _ _ _ ρ' M' h1 h2 h3) (fun ρ' M' => zsm b S Rn hR _ _ _ _ _ _ ρ' M' h1 h2 h3) h⟩
/-- if with else whose first branch never ends normally -/
def zsIteD (E D : Nat) (c : zC) (a b : zSt) : zSt := ⟨(fun ev Γ pc nx L => (zcc c ev Γ 0 pc false E none).bind fun p => (zsc a ev Γ p none L).bind fun q =>
      (zif (decide (E = q.2)) ()).bind fun _ => (zsc b ev Γ E nx L).bind fun q2 => zif (zSub Γ q2.1 && decide (q2.2 = D)) (Γ, D),
    fun S Rn kn kb kr ρ M => zcw c S Rn (fun ρ M => zsw a S Rn (fun _ _ => False) kb kr ρ M) (fun ρ M => zsw b S Rn kn kb kr ρ M) ρ M),
  fun ev S Rn rt G hG Γ nx L pc Γ' pc' ρ M kn kb hc hw hn hb => by
    obtain ⟨p, g1, g2⟩ := Option.bind_eq_some_iff.mp hc
    obtain ⟨⟨Γ1, p1⟩, g3, g4⟩ := Option.bind_eq_some_iff.mp g2
    obtain ⟨u, g5, g6⟩ := Option.bind_eq_some_iff.mp g4
    obtain ⟨⟨Γ2, p2⟩, g7, g8⟩ := Option.bind_eq_some_iff.mp g6
    obtain ⟨g9, g10⟩ := zif_some g8
    cases g10
    simp only [Bool.and_eq_true, decide_eq_true_eq] at g9
    obtain ⟨g9, rfl⟩ := g9
    exact zcs c ev S Rn rt G hG Γ false E none pc p [] ρ M _ _ g1 hw
      (fun ρ1 M1 h1 => zss b ev S Rn rt G hG Γ nx L E Γ2 p2 ρ1 M1 kn kb g7 h1 (fun ρ2 M2 h2 => ⟨(hn ρ2 M2 h2).1.sub (zSub_d g9), fun x hx => ((hn ρ2 M2 h2).2 x hx).sub (zSub_d g9)⟩) hb)
      (fun ρ1 M1 h1 => ⟨zss a ev S Rn rt G hG Γ none L p Γ1 p1 ρ1 M1 _ kb g3 h1 (fun ρ2 M2 h2 => h2.elim) hb, fun x hx => by cases hx⟩),
  fun S Rn hR kn kn' kb kb' kr kr' ρ M h1 h2 h3 h => zcm c S Rn hR _ _ _ _ ρ M (fun ρ' M' => zsm a S Rn hR _ _ _ _ _ _ ρ' M' (fun _ _ h => h) h2 h3) (fun ρ' M' => zsm b S Rn hR _ _ _ _ _ _ ρ' M' h1 h2 h3) h⟩
/-- a jump out by a label -/
def zsBrk (j : Nat) : zSt := ⟨(fun ev Γ pc _ L => (L[j]?).bind fun q => zif (zat ev pc (.goto ((q.1 : Int) - (pc : Int))) 3 && zSub q.2 Γ) (Γ, pc + 3),
    fun _ _ _ kb _ ρ M => kb j ρ M),
  fun ev S Rn rt G hG Γ nx L pc Γ' pc' ρ M kn kb hc hw hn hb => by
    obtain ⟨⟨t, Γj⟩, g1, g2⟩ := Option.bind_eq_some_iff.mp hc
    obtain ⟨g3, g4⟩ := zif_some g2
    simp only [Bool.and_eq_true] at g3
    exact fun lv hlv => hG.1 _ 3 pc _ lv M (zat_d g3.1) ⟨rfl, t, zoff rfl, (hb j t Γj g1 ρ M hw).sub (zSub_d g3.2) lv hlv⟩,
  fun S Rn hR kn kn' kb kb' kr kr' ρ M h1 h2 h3 h => h2 _ _ _ h⟩
/-- if (c) and a jump out by a label -/
def zsIfBrk (D : Nat) (c : zC) (j : Nat) : zSt := ⟨(fun ev Γ pc nx L => (L[j]?).bind fun q => (zcc c ev Γ 0 pc false (nx.getD D) (some q.1)).bind fun p => zif (zat ev p (.goto ((q.1 : Int) - (p : Int))) 3 && (zSub q.2 Γ && decide (p + 3 = D))) (Γ, D),
    fun S Rn kn kb _ ρ M => zcw c S Rn (fun ρ M => kb j ρ M) kn ρ M),
  fun ev S Rn rt G hG Γ nx L pc Γ' pc' ρ M kn kb hc hw hn hb => by
    obtain ⟨⟨t, Γj⟩, g1, g2⟩ := Option.bind_eq_some_iff.mp hc
    obtain ⟨p, g3, g4⟩ := Option.bind_eq_some_iff.mp g2
    obtain ⟨g5, g6⟩ := zif_some g4
    cases g6
    simp only [Bool.and_eq_true, decide_eq_true_eq] at g5
    obtain ⟨g5, g7, rfl⟩ := g5
    have hx : ∀ ρ' M', kn ρ' M' → zGG G Γ (nx.getD (p + 3)) [] ρ' M' := fun ρ' M' h => by
      have := hn ρ' M' h
      cases nx with
      | none => exact this.1
      | some x => exact this.2 x rfl
    have ht : ∀ ρ' M', kb j ρ' M' → zGG G Γ t [] ρ' M' := fun ρ' M' h => (hb j t Γj g1 ρ' M' h).sub (zSub_d g7)
    exact zcs c ev S Rn rt G hG Γ false _ (some t) pc p [] ρ M _ _ g3 hw hx (fun ρ1 M1 h1 => ⟨fun lv hlv => hG.1 _ 3 p _ lv M1 (zat_d g5) ⟨rfl, t, zoff rfl, ht ρ1 M1 h1 lv hlv⟩, fun x hx => by cases hx; exact ht ρ1 M1 h1⟩),
  fun S Rn hR kn kn' kb kb' kr kr' ρ M h1 h2 h3 h => zcm c S Rn hR _ _ _ _ ρ M (fun ρ' M' => h2 _ _ _) h1 h⟩
/-- the way through a loop once: c, body a, then u; X: what holds at its head -/
def zlab (k0 k1 : zK) (kb : Nat → zK) : Nat → zK
  | 0 => k0
  | 1 => k1
  | j + 2 => kb j
def zTurn (c : zC) (a : zSt) (S : List zSh) (Rn : zRnT) (kn : zK) (kb : Nat → zK) (kr : Option zV → zMem → Prop) (Y : zK) : zK := fun ρ M =>
  zcw c S Rn (fun ρ M => zsw a S Rn Y (zlab kn Y kb) kr ρ M) kn ρ M
theorem zTurn_mon {c : zC} {a : zSt} {S : List zSh} {Rn : zRnT} (hR : zRMon Rn) {kn kn' : zK} {kb kb' : Nat → zK} {kr kr' : Option zV → zMem → Prop} {Y Y' : zK} (h1 : ∀ ρ M, kn ρ M → kn' ρ M) (h2 : ∀ j ρ M, kb j ρ M → kb' j ρ M) (h3 : ∀ r M, kr r M → kr' r M) (h4 : ∀ ρ M, Y ρ M → Y' ρ M) {ρ : zLoc} {M : zMem} (h : zTurn c a S Rn kn kb kr Y ρ M) : zTurn c a S Rn kn' kb' kr' Y' ρ M := by
  refine zcm c S Rn hR _ _ _ _ ρ M (fun ρ1 M1 => zsm a S Rn hR _ _ _ _ _ _ ρ1 M1 h4 (fun j ρ2 M2 => ?_) h3) h1 h
  match j with
  | 0 => exact h1 _ _
  | 1 => exact h4 _ _
  | j + 2 => exact h2 j _ _
def zUp (u : zSt) (S : List zSh) (Rn : zRnT) (kr : Option zV → zMem → Prop) (X : zK) : zK := fun ρ M => zsw u S Rn X (fun _ _ _ => False) kr ρ M
/-- while (c) a; D: the end -/
def zsWhile (D : Nat) (c : zC) (a : zSt) : zSt := ⟨(fun ev Γ pc nx L => (zcc c ev Γ 0 pc false (nx.getD D) none).bind fun p => (zsc a ev Γ p (some pc) ((nx.getD D, Γ) :: (pc, Γ) :: L)).bind fun q =>
      zif (zSub Γ q.1 && (zat ev q.2 (.goto ((pc : Int) - (q.2 : Int))) 3 && decide (q.2 + 3 = D))) (Γ, D),
    fun S Rn kn kb kr ρ M => ∀ X : zK, (∀ ρ M, zTurn c a S Rn kn kb kr X ρ M → X ρ M) → X ρ M),
  fun ev S Rn rt G hG Γ nx L pc Γ' pc' ρ M kn kb hc hw hn hb => by
    obtain ⟨p, g1, g2⟩ := Option.bind_eq_some_iff.mp hc
    obtain ⟨⟨Γ1, p1⟩, g3, g4⟩ := Option.bind_eq_some_iff.mp g2
    obtain ⟨g5, g6⟩ := zif_some g4
    cases g6
    simp only [Bool.and_eq_true, decide_eq_true_eq] at g5
    obtain ⟨g5, g7, rfl⟩ := g5
    have hx : ∀ ρ' M', kn ρ' M' → zGG G Γ (nx.getD (p1 + 3)) [] ρ' M' := fun ρ' M' h => by
      have := hn ρ' M' h
      cases nx with
      | none => exact this.1
      | some x => exact this.2 x rfl
    refine hw (fun ρ M => zGG G Γ pc [] ρ M) (fun ρ0 M0 ht => ?_)
    refine zcs c ev S Rn rt G hG Γ false _ none pc p [] ρ0 M0 _ _ g1 ht hx (fun ρ1 M1 h1 => ⟨?_, fun x hx => by cases hx⟩)
    refine zss a ev S Rn rt G hG Γ (some pc) _ p Γ1 p1 ρ1 M1 _ _ g3 h1 (fun ρ2 M2 h2 => ⟨fun lv hlv => hG.1 _ 3 p1 _ lv M2 (zat_d g7) ⟨rfl, pc, zoff rfl, zGG.sub (zSub_d g5) h2 lv hlv⟩, fun x hx => by cases hx; exact zGG.sub (zSub_d g5) h2⟩) (fun j t Γj hj ρ2 M2 h2 => ?_)
    match j with
    | 0 => cases hj; exact hx ρ2 M2 h2
    | 1 => cases hj; exact h2
    | j + 2 => exact hb j t Γj hj ρ2 M2 h2,
  fun S Rn hR kn kn' kb kb' kr kr' ρ M h1 h2 h3 h => fun X hX => h X (fun ρ M ht => hX ρ M (zTurn_mon hR h1 h2 h3 (fun _ _ h => h) ht))⟩
/-- the same with u behind each turn; U: where u stands -/
def zsFor (U D : Nat) (c : zC) (a u : zSt) : zSt := ⟨(fun ev Γ pc nx L => (zcc c ev Γ 0 pc false (nx.getD D) none).bind fun p => (zsc a ev Γ p none ((nx.getD D, Γ) :: (U, Γ) :: L)).bind fun q =>
      (zif (zSub Γ q.1 && decide (U = q.2)) ()).bind fun _ => (zsc u ev Γ U (some pc) []).bind fun q2 => zif (zSub Γ q2.1 && (zat ev q2.2 (.goto ((pc : Int) - (q2.2 : Int))) 3 && decide (q2.2 + 3 = D))) (Γ, D),
    fun S Rn kn kb kr ρ M => ∀ X : zK, (∀ ρ M, zTurn c a S Rn kn kb kr (zUp u S Rn kr X) ρ M → X ρ M) → X ρ M),
  fun ev S Rn rt G hG Γ nx L pc Γ' pc' ρ M kn kb hc hw hn hb => by
    obtain ⟨p, g1, g2⟩ := Option.bind_eq_some_iff.mp hc
    obtain ⟨⟨Γ1, p1⟩, g3, g4⟩ := Option.bind_eq_some_iff.mp g2
    obtain ⟨w, g5, g6⟩ := Option.bind_eq_some_iff.mp g4
    obtain ⟨e5, -⟩ := zif_some g5
    obtain ⟨⟨Γ2, p2⟩, g7, g8⟩ := Option.bind_eq_some_iff.mp g6
    obtain ⟨g9, g10⟩ := zif_some g8
    cases g10
    simp only [Bool.and_eq_true, decide_eq_true_eq] at e5 g9
    obtain ⟨e5, rfl⟩ := e5
    obtain ⟨g9, g11, rfl⟩ := g9
    have hx : ∀ ρ' M', kn ρ' M' → zGG G Γ (nx.getD (p2 + 3)) [] ρ' M' := fun ρ' M' h => by
      have := hn ρ' M' h
      cases nx with
      | none => exact this.1
      | some x => exact this.2 x rfl
    refine hw (fun ρ M => zGG G Γ pc [] ρ M) (fun ρ0 M0 ht => ?_)
    have hu : ∀ ρ2 M2, zUp u S Rn rt (fun ρ M => zGG G Γ pc [] ρ M) ρ2 M2 → zGG G Γ U [] ρ2 M2 := fun ρ2 M2 h2 =>
      zss u ev S Rn rt G hG Γ (some pc) [] U Γ2 p2 ρ2 M2 _ _ g7 h2 (fun ρ3 M3 h3 => ⟨fun lv hlv => hG.1 _ 3 p2 _ lv M3 (zat_d g11) ⟨rfl, pc, zoff rfl, zGG.sub (zSub_d g9) h3 lv hlv⟩, fun x hx => by cases hx; exact zGG.sub (zSub_d g9) h3⟩) (fun j t Γj hj => by cases hj)
    refine zcs c ev S Rn rt G hG Γ false _ none pc p [] ρ0 M0 _ _ g1 ht hx (fun ρ1 M1 h1 => ⟨?_, fun x hx => by cases hx⟩)
    refine zss a ev S Rn rt G hG Γ none _ p Γ1 U ρ1 M1 _ _ g3 h1 (fun ρ2 M2 h2 => ⟨zGG.sub (zSub_d e5) (hu ρ2 M2 h2), fun x hx => by cases hx⟩) (fun j t Γj hj ρ2 M2 h2 => ?_)
    match j with
    | 0 => cases hj; exact hx ρ2 M2 h2
    | 1 => cases hj; exact hu ρ2 M2 h2
    | j + 2 => exact hb j t Γj hj ρ2 M2 h2,
  fun S Rn hR kn kn' kb kb' kr kr' ρ M h1 h2 h3 h => fun X hX => h X (fun ρ M ht => hX ρ M (zTurn_mon hR h1 h2 h3 (fun ρ2 M2 => zsm u S Rn hR _ _ _ _ _ _ ρ2 M2 (fun _ _ h => h) (fun _ _ _ h => h) h3) ht))⟩
/-- the bodies of a switch, each with its numbers -/
def zswW : List (List Int × zSt) → Int → zK → (zSt → zK) → zK
  | [], _, dflt, _ => dflt
  | (ks, s) :: r, x, dflt, f => fun ρ M => (x ∈ ks → f s ρ M) ∧ (¬ x ∈ ks → zswW r x dflt f ρ M)
/-- their code, one behind the other: where each begins, and the end -/
def zswC : List (List Int × zSt) → zEv → zGam → Nat → zLb → Option (List (List Int × Nat) × Nat)
  | [], _, _, pc, _ => some ([], pc)
  | (ks, s) :: r, ev, Γ, pc, L => (zsc s ev Γ pc none L).bind fun q => (zswC r ev Γ q.2 L).bind fun q2 => some ((ks, pc) :: q2.1, q2.2)
/-- where number x goes -/
def zswT : List (List Int × Nat) → Int → Nat → Nat
  | [], _, d => d
  | (ks, p) :: r, x, d => if x ∈ ks then p else zswT r x d
def zlab1 (k0 : zK) (kb : Nat → zK) : Nat → zK
  | 0 => k0
  | j + 1 => kb j
theorem zsw_go {ev : zEv} {S : List zSh} {Rn : zRnT} {rt : Option zV → zMem → Prop} {G : Nat → List zV → zLv → zMem → Prop} (hG : zClosed ev S Rn rt G) {Γ : zGam} {L : zLb} {kb : Nat → zK} (hb : ∀ j t Γj, L[j]? = some (t, Γj) → ∀ ρ' M', kb j ρ' M' → zGG G Γj t [] ρ' M') {x : Int} {d : Nat} {dflt : zK} (hd : ∀ ρ M, dflt ρ M → zGG G Γ d [] ρ M) {ρ : zLoc} {M : zMem} :
    ∀ (bs : List (List Int × zSt)) (pc : Nat) (tb : List (List Int × Nat)) (pe : Nat), zswC bs ev Γ pc L = some (tb, pe) → zswW bs x dflt (fun s => zsw s S Rn (fun _ _ => False) kb rt) ρ M → zGG G Γ (zswT tb x d) [] ρ M := by
  intro bs
  induction bs with
  | nil => intro pc tb pe hc hw; cases hc; exact hd ρ M hw
  | cons b r ih =>
    intro pc tb pe hc hw
    obtain ⟨ks, s⟩ := b
    obtain ⟨⟨Γ1, p1⟩, g1, g2⟩ := Option.bind_eq_some_iff.mp hc
    obtain ⟨⟨tb2, p2⟩, g3, g4⟩ := Option.bind_eq_some_iff.mp g2
    cases g4
    unfold zswT
    split
    next hx => exact zss s ev S Rn rt G hG Γ none L pc Γ1 p1 ρ M _ kb g1 (hw.1 hx) (fun _ _ h => h.elim) hb
    next hx => exact ih p1 tb2 _ g3 (hw.2 hx)
theorem zswW_mon {f f' : zSt → zK} {d d' : zK} (hf : ∀ s ρ M, f s ρ M → f' s ρ M) (hd : ∀ ρ M, d ρ M → d' ρ M) {x : Int} {ρ : zLoc} {M : zMem} : ∀ bs : List (List Int × zSt), zswW bs x d f ρ M → zswW bs x d' f' ρ M := by
  intro bs
  induction bs with
  | nil => intro h; exact hd _ _ h
  | cons b r ih => obtain ⟨ks, s⟩ := b; intro h; exact ⟨fun hx => hf _ _ _ (h.1 hx), fun hx => ih (h.2 hx)⟩
theorem zswT_out {ev : zEv} {Γ : zGam} {L : zLb} {x : Int} {d : Nat} : ∀ (bs : List (List Int × zSt)) (pc : Nat) (tb : List (List Int × Nat)) (pe : Nat), zswC bs ev Γ pc L = some (tb, pe) → (∀ b ∈ bs, ¬ x ∈ b.1) → zswT tb x d = d := by
  intro bs
  induction bs with
  | nil => intro pc tb pe hc h; cases hc; rfl
  | cons b r ih =>
    intro pc tb pe hc h
    obtain ⟨ks, s⟩ := b
    obtain ⟨⟨Γ1, p1⟩, g1, g2⟩ := Option.bind_eq_some_iff.mp hc
    obtain ⟨⟨tb2, p2⟩, g3, g4⟩ := Option.bind_eq_some_iff.mp g2
    cases g4
    unfold zswT
    rw [if_neg (h _ List.mem_cons_self)]
    exact ih p1 tb2 _ g3 (fun b hb => h b (List.mem_cons_of_mem _ hb))
def zswOk (ev : zEv) (p : Nat) (bs : List (List Int × zSt)) (tb : List (List Int × Nat)) (n pe : Nat) : Bool := match decode ev.2.1 p with
  | .ok (.tableswitch d lo hi offs, m) => decide (m = n) && (decide ((p : Int) + d = (pe : Int)) && (decide (hi = lo + (offs.size : Nat) - 1) && ((List.range offs.size).all (fun i => decide ((p : Int) + offs.getD i 0 = (zswT tb (lo + (i : Nat)) pe : Nat))) && bs.all (fun b => b.1.all (fun k => decide (lo ≤ k ∧ k ≤ hi))))))
  | .ok (.lookupswitch d ps, m) => decide (m = n) && (decide ((p : Int) + d = (pe : Int)) && ((ps.toList.zip (ps.toList.drop 1)).all (fun (a, next) => a.1 < next.1) && ((ps.toList.all (fun q => decide ((p : Int) + q.2 = (zswT tb q.1 pe : Nat)))) && bs.all (fun b => b.1.all (fun k => ps.toList.any (fun q => decide (q.1 = k)))))))
  | _ => false
/-- a switch over numbers; n: the length of its instruction; ds: its default; D: the end -/
def zsSw (n D : Nat) (e : zE 0) (bs : List (List Int × zSt)) (ds : zSt) : zSt := ⟨(fun ev Γ pc nx L => (zec e ev Γ 0 pc none).bind fun p => (zswC bs ev Γ (p + n) ((nx.getD D, Γ) :: L)).bind fun q => (zif (zswOk ev p bs q.1 n q.2) ()).bind fun _ => (zsc ds ev Γ q.2 nx ((nx.getD D, Γ) :: L)).bind fun q2 => zif (zSub Γ q2.1 && decide (q2.2 = D)) (Γ, D),
    fun S Rn kn kb kr ρ M => zew e S Rn (fun x ρ M => zswW bs x (fun ρ M => zsw ds S Rn kn (zlab1 kn kb) kr ρ M) (fun s ρ M => zsw s S Rn (fun _ _ => False) (zlab1 kn kb) kr ρ M) ρ M) ρ M),
  fun ev S Rn rt G hG Γ nx L pc Γ' pc' ρ M kn kb hc hw hn hb => by
    obtain ⟨p, g1, g2⟩ := Option.bind_eq_some_iff.mp hc
    obtain ⟨⟨tb, pe⟩, g3, g4⟩ := Option.bind_eq_some_iff.mp g2
    obtain ⟨u, g5, g6⟩ := Option.bind_eq_some_iff.mp g4
    obtain ⟨e5, -⟩ := zif_some g5
    obtain ⟨⟨Γ2, p2⟩, g7, g8⟩ := Option.bind_eq_some_iff.mp g6
    obtain ⟨g9, g10⟩ := zif_some g8
    cases g10
    simp only [Bool.and_eq_true, decide_eq_true_eq] at g9
    obtain ⟨g9, rfl⟩ := g9
    have hx : ∀ ρ' M', kn ρ' M' → zGG G Γ (nx.getD p2) [] ρ' M' := fun ρ' M' h => by
      have := hn ρ' M' h
      cases nx with
      | none => exact this.1
      | some x => exact this.2 x rfl
    have hb' : ∀ j t Γj, ((nx.getD p2, Γ) :: L)[j]? = some (t, Γj) → ∀ ρ' M', zlab1 kn kb j ρ' M' → zGG G Γj t [] ρ' M' := fun j t Γj hj ρ2 M2 h2 => by
      match j with
      | 0 => cases hj; exact hx ρ2 M2 h2
      | j + 1 => exact hb j t Γj hj ρ2 M2 h2
    have hd : ∀ ρ M, zsw ds S Rn kn (zlab1 kn kb) rt ρ M → zGG G Γ pe [] ρ M := fun ρ1 M1 h1 => zss ds ev S Rn rt G hG Γ nx _ pe Γ2 p2 ρ1 M1 kn _ g7 h1 (fun ρ2 M2 h2 => ⟨(hn ρ2 M2 h2).1.sub (zSub_d g9), fun x hx => ((hn ρ2 M2 h2).2 x hx).sub (zSub_d g9)⟩) hb'
    refine zes e ev S Rn rt G hG Γ none pc p [] ρ M _ g1 hw (fun x ρ1 M1 h1 => ⟨?_, fun x hx => by cases hx⟩)
    have hgo := zsw_go hG hb' (x := x) (d := pe) hd bs _ tb pe g3 h1
    intro lv hlv
    unfold zswOk at e5
    split at e5
    next d lo hi offs m hdec =>
      simp only [Bool.and_eq_true, decide_eq_true_eq, List.all_eq_true, List.mem_range] at e5
      obtain ⟨rfl, h2, h3, h4, h5⟩ := e5
      refine hG.1 _ m p _ lv M1 hdec ⟨x, [], rfl, fun ho => ⟨pe, h2, ?_⟩, fun ho => ?_⟩
      · rw [zswT_out bs _ tb pe g3 (fun b hb hx => by have := h5 b hb x hx; omega)] at hgo
        exact hgo lv hlv
      · have hlt : (x - lo).toNat < offs.size := by omega
        refine ⟨offs.getD (x - lo).toNat 0, zswT tb x pe, ?_, ?_, hgo lv hlv⟩
        · rw [Array.getD_eq_getD_getElem?, Array.getElem?_eq_getElem hlt]; rfl
        · have := h4 (x - lo).toNat hlt
          rw [show lo + (((x - lo).toNat : Nat) : Int) = x by omega] at this
          exact this
    next d ps m hdec =>
      simp only [Bool.and_eq_true] at e5
      obtain ⟨h1', h2, h3, h4, h5⟩ := e5
      have h1' := of_decide_eq_true h1'
      subst h1'
      refine hG.1 _ m p _ lv M1 hdec ⟨h3, x, [], zswT tb x pe, rfl, ?_, hgo lv hlv⟩
      cases hf : ps.toList.find? (·.1 == x) with
      | some q =>
        obtain ⟨a, o⟩ := q
        rw [Op.lookupswitch.offset_some hf]
        have h6 := List.find?_some hf
        have h7 : a = x := by simpa using h6
        subst h7
        exact of_decide_eq_true (List.all_eq_true.mp h4 _ (List.mem_of_find?_eq_some hf))
      | none =>
        rw [Op.lookupswitch.offset_none hf, zswT_out bs _ tb pe g3 (fun b hb hx => ?_)]
        · exact of_decide_eq_true h2
        · have h6 := List.all_eq_true.mp (List.all_eq_true.mp h5 b hb) x hx
          obtain ⟨q, h7, h8⟩ := List.any_eq_true.mp h6
          have h9 := List.find?_eq_none.mp hf q h7
          exact h9 (by simpa using of_decide_eq_true h8)
    next => (cases e5),
  fun S Rn hR kn kn' kb kb' kr kr' ρ M h1 h2 h3 h => zem e S Rn hR _ _ ρ M (fun v ρ' M' h => by
    have hl : ∀ j ρ M, zlab1 kn kb j ρ M → zlab1 kn' kb' j ρ M := fun j ρ M => by
      match j with
      | 0 => exact h1 _ _
      | j + 1 => exact h2 j _ _
    exact zswW_mon (fun s ρ M => zsm s S Rn hR _ _ _ _ _ _ ρ M (fun _ _ h => h) hl h3) (fun ρ M => zsm ds S Rn hR _ _ _ _ _ _ ρ M h1 hl h3) bs h) h⟩
/-- if whose branch never ends normally, with nothing behind it but a jump to T -/
def zsIfR (T : Nat) (c : zC) (a : zSt) : zSt := ⟨(fun ev Γ pc _ L => (zcc c ev Γ 0 pc false T none).bind fun p => (zsc a ev Γ p none L).bind fun _ => some (Γ, T),
    fun S Rn kn kb kr ρ M => zcw c S Rn (fun ρ M => zsw a S Rn (fun _ _ => False) kb kr ρ M) kn ρ M),
  fun ev S Rn rt G hG Γ nx L pc Γ' pc' ρ M kn kb hc hw hn hb => by
    obtain ⟨p, g1, g2⟩ := Option.bind_eq_some_iff.mp hc
    obtain ⟨⟨Γ1, p1⟩, g3, g4⟩ := Option.bind_eq_some_iff.mp g2
    cases g4
    exact zcs c ev S Rn rt G hG Γ false _ none pc p [] ρ M _ _ g1 hw (fun ρ' M' h => (hn ρ' M' h).1) (fun ρ1 M1 h1 => ⟨zss a ev S Rn rt G hG Γ none L p Γ1 p1 ρ1 M1 _ kb g3 h1 (fun _ _ h => h.elim) hb, fun x hx => by cases hx⟩),
  fun S Rn hR kn kn' kb kb' kr kr' ρ M h1 h2 h3 h => zcm c S Rn hR _ _ _ _ ρ M (fun ρ' M' => zsm a S Rn hR _ _ _ _ _ _ ρ' M' (fun _ _ h => h) h2 h3) h1 h⟩
/-- while whose body comes back to the head by jumps alone -/
def zsWhileR (D : Nat) (c : zC) (a : zSt) : zSt := ⟨(fun ev Γ pc nx L => (zcc c ev Γ 0 pc false (nx.getD D) none).bind fun p => (zsc a ev Γ p (some pc) ((nx.getD D, Γ) :: (pc, Γ) :: L)).bind fun q =>
      zif (zSub Γ q.1 && decide (q.2 = pc)) (Γ, D),
    fun S Rn kn kb kr ρ M => ∀ X : zK, (∀ ρ M, zTurn c a S Rn kn kb kr X ρ M → X ρ M) → X ρ M),
  fun ev S Rn rt G hG Γ nx L pc Γ' pc' ρ M kn kb hc hw hn hb => by
    obtain ⟨p, g1, g2⟩ := Option.bind_eq_some_iff.mp hc
    obtain ⟨⟨Γ1, p1⟩, g3, g4⟩ := Option.bind_eq_some_iff.mp g2
    obtain ⟨g5, g6⟩ := zif_some g4
    cases g6
    simp only [Bool.and_eq_true, decide_eq_true_eq] at g5
    obtain ⟨g5, rfl⟩ := g5
    have hx : ∀ ρ' M', kn ρ' M' → zGG G Γ (nx.getD D) [] ρ' M' := fun ρ' M' h => by
      have := hn ρ' M' h
      cases nx with
      | none => exact this.1
      | some x => exact this.2 x rfl
    refine hw (fun ρ M => zGG G Γ p1 [] ρ M) (fun ρ0 M0 ht => ?_)
    refine zcs c ev S Rn rt G hG Γ false _ none p1 p [] ρ0 M0 _ _ g1 ht hx (fun ρ1 M1 h1 => ⟨?_, fun x hx => by cases hx⟩)
    refine zss a ev S Rn rt G hG Γ (some p1) _ p Γ1 p1 ρ1 M1 _ _ g3 h1 (fun ρ2 M2 h2 => ⟨zGG.sub (zSub_d g5) h2, fun x hx => by cases hx; exact zGG.sub (zSub_d g5) h2⟩) (fun j t Γj hj ρ2 M2 h2 => ?_)
    match j with
    | 0 => cases hj; exact hx ρ2 M2 h2
    | 1 => cases hj; exact h2
    | j + 2 => exact hb j t Γj hj ρ2 M2 h2,
  fun S Rn hR kn kn' kb kb' kr kr' ρ M h1 h2 h3 h => fun X hX => h X (fun ρ M ht => hX ρ M (zTurn_mon hR h1 h2 h3 (fun _ _ h => h) ht))⟩
