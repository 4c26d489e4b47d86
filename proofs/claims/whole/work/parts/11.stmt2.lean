/-- an expression whose value goes -/
def zsPop {t : Nat} (e : zE t) : zSt := ⟨(fun ev Γ pc _ _ => (zec e ev Γ 0 pc none).bind fun p => zif (zat ev p .pop 1 && decide (¬ t = 1)) (Γ, p + 1), fun S Rn kn _ _ ρ M => zew e S Rn (fun _ ρ M => kn ρ M) ρ M),
  fun ev S Rn rt G hG Γ nx L pc Γ' pc' ρ M kn kb hc hw hn hb => by
    obtain ⟨p, g1, g2⟩ := Option.bind_eq_some_iff.mp hc
    obtain ⟨g3, g4⟩ := zif_some g2
    cases g4
    simp only [Bool.and_eq_true, decide_eq_true_eq] at g3
    exact zes e ev S Rn rt G hG Γ none pc p [] ρ M _ g1 hw (fun x ρ1 M1 h1 => ⟨fun lv hlv => hG.1 _ 1 p _ lv M1 (zat_d g3.1) ⟨rfl, (t, x), [], rfl, by unfold zcat; rw [if_neg g3.2], (hn _ _ h1).1 lv hlv⟩, fun x hx => by cases hx⟩),
  fun S Rn hR kn kn' kb kb' kr kr' ρ M h1 h2 h3 h => zem e S Rn hR _ _ ρ M (fun v ρ' M' => h1 _ _) h⟩
/-- a call of a method without an answer -/
def zsCall (kd k f ci na : Nat) (as : List zEx) : zSt := ⟨(fun ev Γ pc _ _ => (zcallC kd k f ci na as ev Γ 0 pc).bind fun p => some (Γ, p), fun S Rn kn _ _ ρ M => zasW as S Rn (fun vs ρ M => zRecv S kd ci vs ∧ Rn (zFn f) vs M (fun v M' => v = none ∧ kn ρ M')) ρ M),
  fun ev S Rn rt G hG Γ nx L pc Γ' pc' ρ M kn kb hc hw hn hb => by
    obtain ⟨p, g1, g2⟩ := Option.bind_eq_some_iff.mp hc
    cases g2
    exact zcall_snd hG (st := []) (K := fun v ρ M' => v = none ∧ kn ρ M') g1 hw (fun v ρ' M' ⟨hv, hx⟩ => by subst hv; exact (hn ρ' M' hx).1),
  fun S Rn hR kn kn' kb kb' kr kr' ρ M h1 h2 h3 h => zas_mon as hR (fun vs ρ' M' hv => ⟨hv.1, hR _ _ _ _ _ (fun v u hv => ⟨hv.1, h1 _ _ hv.2⟩) hv.2⟩) h⟩
/-- System.arraycopy of ints -/
def zsCopy (k : Nat) (a0 : zE 2) (sp : zE 0) (a1 : zE 2) (dp cn : zE 0) : zSt := ⟨(fun ev Γ pc _ _ => (zasC [⟨2, a0⟩, ⟨0, sp⟩, ⟨2, a1⟩, ⟨0, dp⟩, ⟨0, cn⟩] ev Γ 0 pc).bind fun p => zif (zat ev p (.invokestatic k) 3 && (decide ((ev.2.2.2.2.2.1 k).map (·.1) = some 5) && (decide (1 ≤ ev.2.2.2.2.2.2.2.1) && decide (nativeFrameWords "java/lang/System" "arraycopy" 5 + 11 ≤ ev.2.2.2.2.2.2.2.2.1)))) (Γ, p + 3),
    fun S Rn kn _ _ ρ M => zew a0 S Rn (fun x0 ρ M => zew sp S Rn (fun s ρ M => zew a1 S Rn (fun x1 ρ M => zew dp S Rn (fun d ρ M => zew cn S Rn (fun c ρ M =>
      (∃ k0 k1, zArr S x0 .int k0 ∧ zArr S x1 .int k1 ∧ 0 ≤ s ∧ 0 ≤ d ∧ 0 ≤ c ∧ s + c ≤ (k0 : Nat) ∧ d + c ≤ (k1 : Nat)) ∧ kn ρ (zput M x1 (zcpy (M x0) (M x1) s d c))) ρ M) ρ M) ρ M) ρ M) ρ M),
  fun ev S Rn rt G hG Γ nx L pc Γ' pc' ρ M kn kb hc hw hn hb => by
    obtain ⟨p, g1, g2⟩ := Option.bind_eq_some_iff.mp hc
    obtain ⟨g3, g4⟩ := zif_some g2
    cases g4
    simp only [Bool.and_eq_true, decide_eq_true_eq] at g3
    obtain ⟨g3, g4, g5, g6⟩ := g3
    obtain ⟨⟨kd, f, ci, na⟩, g7, g8⟩ := Option.map_eq_some_iff.mp g4
    have g8 : kd = 5 := g8
    subst g8
    refine zas_snd [⟨2, a0⟩, ⟨0, sp⟩, ⟨2, a1⟩, ⟨0, dp⟩, ⟨0, cn⟩] hG (st := []) (K := fun vs ρ M => ∃ x0 s x1 d c, vs = [(2, x0), (0, s), (2, x1), (0, d), (0, c)] ∧ (∃ k0 k1, zArr S x0 .int k0 ∧ zArr S x1 .int k1 ∧ 0 ≤ s ∧ 0 ≤ d ∧ 0 ≤ c ∧ s + c ≤ (k0 : Nat) ∧ d + c ≤ (k1 : Nat)) ∧ kn ρ (zput M x1 (zcpy (M x0) (M x1) s d c))) g1 ?_ ?_
    · refine zem a0 S Rn hG.2.2 _ _ ρ M (fun x0 ρ M => zem sp S Rn hG.2.2 _ _ ρ M (fun s ρ M => zem a1 S Rn hG.2.2 _ _ ρ M (fun x1 ρ M => zem dp S Rn hG.2.2 _ _ ρ M (fun d ρ M => zem cn S Rn hG.2.2 _ _ ρ M (fun c ρ M h => ?_))))) hw
      exact ⟨x0, s, x1, d, c, rfl, h⟩
    · rintro vs ρ1 M1 - ⟨x0, s, x1, d, c, rfl, ⟨k0, k1, h1, h2, h3, h4, h5, h6, h7⟩, h8⟩ lv hlv
      exact hG.1 _ 3 p _ lv M1 (zat_d g3) ⟨rfl, Or.inr ⟨x0, s, x1, d, c, [], f, ci, na, k0, k1, rfl, g7, h1, h2, h3, h4, h5, h6, h7, g5, by show 0 + _ ≤ _; omega, (hn _ _ h8).1 lv hlv⟩⟩,
  fun S Rn hR kn kn' kb kb' kr kr' ρ M h1 h2 h3 h => zem a0 S Rn hR _ _ ρ M (fun x0 ρ M => zem sp S Rn hR _ _ ρ M (fun s ρ M => zem a1 S Rn hR _ _ ρ M (fun x1 ρ M => zem dp S Rn hR _ _ ρ M (fun d ρ M => zem cn S Rn hR _ _ ρ M (fun c ρ M h => ⟨h.1, h1 _ _ h.2⟩))))) h⟩
def zsRetI (e : zE 0) : zSt := ⟨(fun ev Γ pc _ _ => (zec e ev Γ 0 pc none).bind fun p => zif (zat ev p .ireturn 1 && decide (ev.2.2.2.1 = some .int)) (Γ, p + 1),
    fun S Rn _ _ kr ρ M => zew e S Rn (fun x _ M => kr (some (0, x)) M) ρ M),
  fun ev S Rn rt G hG Γ nx L pc Γ' pc' ρ M kn kb hc hw hn hb => by
    obtain ⟨p, g1, g2⟩ := Option.bind_eq_some_iff.mp hc
    obtain ⟨g3, g4⟩ := zif_some g2
    cases g4
    simp only [Bool.and_eq_true, decide_eq_true_eq] at g3
    exact zes e ev S Rn rt G hG Γ none pc p [] ρ M _ g1 hw (fun x ρ1 M1 h1 => ⟨fun lv hlv => hG.1 _ 1 p _ lv M1 (zat_d g3.1) ⟨rfl, x, rfl, Or.inr g3.2, h1⟩, fun x hx => by cases hx⟩),
  fun S Rn hR kn kn' kb kb' kr kr' ρ M h1 h2 h3 h => zem e S Rn hR _ _ ρ M (fun v ρ' M' h => h3 _ _ h) h⟩
def zsRetZ (e : zE 0) : zSt := ⟨(fun ev Γ pc _ _ => (zec e ev Γ 0 pc none).bind fun p => zif (zat ev p .ireturn 1 && decide (ev.2.2.2.1 = some .boolean)) (Γ, p + 1),
    fun S Rn _ _ kr ρ M => zew e S Rn (fun x _ M => (x = 0 ∨ x = 1) ∧ kr (some (0, x)) M) ρ M),
  fun ev S Rn rt G hG Γ nx L pc Γ' pc' ρ M kn kb hc hw hn hb => by
    obtain ⟨p, g1, g2⟩ := Option.bind_eq_some_iff.mp hc
    obtain ⟨g3, g4⟩ := zif_some g2
    cases g4
    simp only [Bool.and_eq_true, decide_eq_true_eq] at g3
    exact zes e ev S Rn rt G hG Γ none pc p [] ρ M _ g1 hw (fun x ρ1 M1 h1 => ⟨fun lv hlv => hG.1 _ 1 p _ lv M1 (zat_d g3.1) ⟨rfl, x, rfl, Or.inl ⟨g3.2, h1.1⟩, h1.2⟩, fun x hx => by cases hx⟩),
  fun S Rn hR kn kn' kb kb' kr kr' ρ M h1 h2 h3 h => zem e S Rn hR _ _ ρ M (fun v ρ' M' h => ⟨h.1, h3 _ _ h.2⟩) h⟩
def zsRetL (e : zE 1) : zSt := ⟨(fun ev Γ pc _ _ => (zec e ev Γ 0 pc none).bind fun p => zif (zat ev p .lreturn 1 && decide (ev.2.2.2.1 = some .long)) (Γ, p + 1),
    fun S Rn _ _ kr ρ M => zew e S Rn (fun x _ M => kr (some (1, x)) M) ρ M),
  fun ev S Rn rt G hG Γ nx L pc Γ' pc' ρ M kn kb hc hw hn hb => by
    obtain ⟨p, g1, g2⟩ := Option.bind_eq_some_iff.mp hc
    obtain ⟨g3, g4⟩ := zif_some g2
    cases g4
    simp only [Bool.and_eq_true, decide_eq_true_eq] at g3
    exact zes e ev S Rn rt G hG Γ none pc p [] ρ M _ g1 hw (fun x ρ1 M1 h1 => ⟨fun lv hlv => hG.1 _ 1 p _ lv M1 (zat_d g3.1) ⟨rfl, x, rfl, g3.2, h1⟩, fun x hx => by cases hx⟩),
  fun S Rn hR kn kn' kb kb' kr kr' ρ M h1 h2 h3 h => zem e S Rn hR _ _ ρ M (fun v ρ' M' h => h3 _ _ h) h⟩
def zsRetR (C : String) (e : zE 2) : zSt := ⟨(fun ev Γ pc _ _ => (zec e ev Γ 0 pc none).bind fun p => zif (zat ev p .areturn 1 && decide (ev.2.2.2.1 = some (.object C))) (Γ, p + 1),
    fun S Rn _ _ kr ρ M => zew e S Rn (fun x _ M => kr (some (2, x)) M) ρ M),
  fun ev S Rn rt G hG Γ nx L pc Γ' pc' ρ M kn kb hc hw hn hb => by
    obtain ⟨p, g1, g2⟩ := Option.bind_eq_some_iff.mp hc
    obtain ⟨g3, g4⟩ := zif_some g2
    cases g4
    simp only [Bool.and_eq_true, decide_eq_true_eq] at g3
    exact zes e ev S Rn rt G hG Γ none pc p [] ρ M _ g1 hw (fun x ρ1 M1 h1 => ⟨fun lv hlv => hG.1 _ 1 p _ lv M1 (zat_d g3.1) ⟨rfl, x, C, rfl, g3.2, h1⟩, fun x hx => by cases hx⟩),
  fun S Rn hR kn kn' kb kb' kr kr' ρ M h1 h2 h3 h => zem e S Rn hR _ _ ρ M (fun v ρ' M' h => h3 _ _ h) h⟩
def zsRetV : zSt := ⟨(fun ev Γ pc _ _ => zif (zat ev pc .return_ 1 && decide (ev.2.2.2.1 = none)) (Γ, pc + 1),
    fun _ _ _ _ kr _ M => kr none M),
  fun ev S Rn rt G hG Γ nx L pc Γ' pc' ρ M kn kb hc hw hn hb => by
    obtain ⟨g3, g4⟩ := zif_some hc
    cases g4
    simp only [Bool.and_eq_true, decide_eq_true_eq] at g3
    exact fun lv hlv => hG.1 _ 1 pc _ lv M (zat_d g3.1) ⟨rfl, rfl, g3.2, hw⟩,
  fun S Rn hR kn kn' kb kb' kr kr' ρ M h1 h2 h3 h => h3 _ _ h⟩
/-- if without else; D: its end -/
def zsIf (D : Nat) (c : zC) (a : zSt) : zSt := ⟨(fun ev Γ pc nx L => (zcc c ev Γ 0 pc false (nx.getD D) none).bind fun p => (zsc a ev Γ p nx L).bind fun q => zif (zSub Γ q.1 && decide (q.2 = D)) (Γ, D),
    fun S Rn kn kb kr ρ M => zcw c S Rn (fun ρ M => zsw a S Rn kn kb kr ρ M) kn ρ M),
  fun ev S Rn rt G hG Γ nx L pc Γ' pc' ρ M kn kb hc hw hn hb => by
    obtain ⟨p, g1, g2⟩ := Option.bind_eq_some_iff.mp hc
    obtain ⟨⟨Γ1, p1⟩, g3, g4⟩ := Option.bind_eq_some_iff.mp g2
    obtain ⟨g5, g6⟩ := zif_some g4
    cases g6
    simp only [Bool.and_eq_true, decide_eq_true_eq] at g5
    obtain ⟨g5, rfl⟩ := g5
    have hx : ∀ ρ' M', kn ρ' M' → zGG G Γ (nx.getD p1) [] ρ' M' := fun ρ' M' h => by
      have := hn ρ' M' h
      cases nx with
      | none => exact this.1
      | some x => exact this.2 x rfl
    exact zcs c ev S Rn rt G hG Γ false _ none pc p [] ρ M _ _ g1 hw hx (fun ρ1 M1 h1 => ⟨zss a ev S Rn rt G hG Γ nx L p Γ1 p1 ρ1 M1 kn kb g3 h1 (fun ρ2 M2 h2 => ⟨(hn ρ2 M2 h2).1.sub (zSub_d g5), fun x hx => ((hn ρ2 M2 h2).2 x hx).sub (zSub_d g5)⟩) hb, fun x hx => by cases hx⟩),
  fun S Rn hR kn kn' kb kb' kr kr' ρ M h1 h2 h3 h => zcm c S Rn hR _ _ _ _ ρ M (fun ρ' M' => zsm a S Rn hR _ _ _ _ _ _ ρ' M' h1 h2 h3) h1 h⟩
/-- if with else; E: where that begins; D: the end -/
def zsIte (E D : Nat) (c : zC) (a b : zSt) : zSt := ⟨(fun ev Γ pc nx L => (zcc c ev Γ 0 pc false E none).bind fun p => (zsc a ev Γ p (some (nx.getD D)) L).bind fun q =>
      (zif (zSub Γ q.1 && (zat ev q.2 (.goto (((nx.getD D : Nat) : Int) - (q.2 : Int))) 3 && decide (E = q.2 + 3))) ()).bind fun _ => (zsc b ev Γ E nx L).bind fun q2 => zif (zSub Γ q2.1 && decide (q2.2 = D)) (Γ, D),
    fun S Rn kn kb kr ρ M => zcw c S Rn (fun ρ M => zsw a S Rn kn kb kr ρ M) (fun ρ M => zsw b S Rn kn kb kr ρ M) ρ M),
  fun ev S Rn rt G hG Γ nx L pc Γ' pc' ρ M kn kb hc hw hn hb => by
    obtain ⟨p, g1, g2⟩ := Option.bind_eq_some_iff.mp hc
    obtain ⟨⟨Γ1, p1⟩, g3, g4⟩ := Option.bind_eq_some_iff.mp g2
    obtain ⟨u, g5, g6⟩ := Option.bind_eq_some_iff.mp g4
    obtain ⟨g5, -⟩ := zif_some g5
    obtain ⟨⟨Γ2, p2⟩, g7, g8⟩ := Option.bind_eq_some_iff.mp g6
    obtain ⟨g9, g10⟩ := zif_some g8
    cases g10
    simp only [Bool.and_eq_true, decide_eq_true_eq] at g5 g9
    obtain ⟨g9, rfl⟩ := g9
    have hx : ∀ ρ' M', kn ρ' M' → zGG G Γ (nx.getD p2) [] ρ' M' := fun ρ' M' h => by
      have := hn ρ' M' h
      cases nx with
      | none => exact this.1
      | some x => exact this.2 x rfl
    exact zcs c ev S Rn rt G hG Γ false E none pc p [] ρ M _ _ g1 hw
      (fun ρ1 M1 h1 => zss b ev S Rn rt G hG Γ nx L E Γ2 p2 ρ1 M1 kn kb g7 h1 (fun ρ2 M2 h2 => ⟨(hn ρ2 M2 h2).1.sub (zSub_d g9), fun x hx => ((hn ρ2 M2 h2).2 x hx).sub (zSub_d g9)⟩) hb)
      (fun ρ1 M1 h1 => ⟨zss a ev S Rn rt G hG Γ (some (nx.getD p2)) L p Γ1 p1 ρ1 M1 kn kb g3 h1 (fun ρ2 M2 h2 => ⟨fun lv hlv => hG.1 _ 3 p1 _ lv M2 (zat_d g5.2.1) ⟨rfl, _, zoff rfl, (hx ρ2 M2 h2).sub (zSub_d g5.1) lv hlv⟩, fun x hx2 => by cases hx2; exact (hx ρ2 M2 h2).sub (zSub_d g5.1)⟩) hb, fun x hx => by cases hx⟩),
  fun S Rn hR kn kn' kb kb' kr kr' ρ M h1 h2 h3 h => zcm c S Rn hR _ _ _ _ ρ M (fun ρ' M' => zsm a S Rn hR _ _ _ _ _ _ ρ' M' h1 h2 h3) (fun ρ' M' => zsm b S Rn hR _ _ _ _ _ _ ρ' M' h1 h2 h3) h⟩
/-- if with else whose first branch never ends normally -/
def zsIteD (E D : Nat) (c : zC) (a b : zSt) : zSt := ⟨(fun ev Γ pc nx L => (zcc c ev Γ 0 pc false E none).bind fun p => (zsc a ev Γ p none L).bind fun q =>
      (zif (decide (E = q.2)) ()).bind fun _ => (zsc b ev Γ E nx L).bind fun q2 => zif (zSub Γ q2.1 && decide (q2.2 = D)) (Γ, D),
    fun S Rn kn kb kr ρ M => zcw c S Rn (fun ρ M => zsw a S Rn (fun _ _ => False) kb kr ρ M) (fun ρ M => zsw b S Rn kn kb kr ρ M) ρ M),
  fun ev S Rn rt G hG Γ nx L pc Γ' pc' ρ M kn kb hc hw hn hb => by
    obtain ⟨p, g1, g2⟩ := Option.bind_eq_some_iff.mp hc
    obtain ⟨⟨Γ1, p1⟩, g3, g4⟩ := Option.bind_eq_some_iff.mp g2
    obtain ⟨u, g5, g6⟩ := Option.bind_eq_some_iff.mp g4
    obtain ⟨⟨Γ2, p2⟩, g7, g8⟩ := Option.bind_eq_some_iff.mp g6
    obtain ⟨g9, g10⟩ := zif_some g8
    cases g10
    simp only [Bool.and_eq_true, decide_eq_true_eq] at g9
    obtain ⟨g9, rfl⟩ := g9
    exact zcs c ev S Rn rt G hG Γ false E none pc p [] ρ M _ _ g1 hw
      (fun ρ1 M1 h1 => zss b ev S Rn rt G hG Γ nx L E Γ2 p2 ρ1 M1 kn kb g7 h1 (fun ρ2 M2 h2 => ⟨(hn ρ2 M2 h2).1.sub (zSub_d g9), fun x hx => ((hn ρ2 M2 h2).2 x hx).sub (zSub_d g9)⟩) hb)
      (fun ρ1 M1 h1 => ⟨zss a ev S Rn rt G hG Γ none L p Γ1 p1 ρ1 M1 _ kb g3 h1 (fun ρ2 M2 h2 => h2.elim) hb, fun x hx => by cases hx⟩),
  fun S Rn hR kn kn' kb kb' kr kr' ρ M h1 h2 h3 h => zcm c S Rn hR _ _ _ _ ρ M (fun ρ' M' => zsm a S Rn hR _ _ _ _ _ _ ρ' M' (fun _ _ h => h) h2 h3) (fun ρ' M' => zsm b S Rn hR _ _ _ _ _ _ ρ' M' h1 h2 h3) h⟩
/-- a jump out by a label -/
def zsBrk (j : Nat) : zSt := ⟨(fun ev Γ pc _ L => (L[j]?).bind fun q => zif (zat ev pc (.goto ((q.1 : Int) - (pc : Int))) 3 && zSub q.2 Γ) (Γ, pc + 3),
    fun _ _ _ kb _ ρ M => kb j ρ M),
  fun ev S Rn rt G hG Γ nx L pc Γ' pc' ρ M kn kb hc hw hn hb => by
    obtain ⟨⟨t, Γj⟩, g1, g2⟩ := Option.bind_eq_some_iff.mp hc
    obtain ⟨g3, g4⟩ := zif_some g2
    simp only [Bool.and_eq_true] at g3
    exact fun lv hlv => hG.1 _ 3 pc _ lv M (zat_d g3.1) ⟨rfl, t, zoff rfl, (hb j t Γj g1 ρ M hw).sub (zSub_d g3.2) lv hlv⟩,
  fun S Rn hR kn kn' kb kb' kr kr' ρ M h1 h2 h3 h => h2 _ _ _ h⟩
/-- if (c) and a jump out by a label -/
def zsIfBrk (D : Nat) (c : zC) (j : Nat) : zSt := ⟨(fun ev Γ pc nx L => (L[j]?).bind fun q => (zcc c ev Γ 0 pc false (nx.getD D) (some q.1)).bind fun p => zif (zat ev p (.goto ((q.1 : Int) - (p : Int))) 3 && (zSub q.2 Γ && decide (p + 3 = D))) (Γ, D),
    fun S Rn kn kb _ ρ M => zcw c S Rn (fun ρ M => kb j ρ M) kn ρ M),
  fun ev S Rn rt G hG Γ nx L pc Γ' pc' ρ M kn kb hc hw hn hb => by
    obtain ⟨⟨t, Γj⟩, g1, g2⟩ := Option.bind_eq_some_iff.mp hc
    obtain ⟨p, g3, g4⟩ := Option.bind_eq_some_iff.mp g2
    obtain ⟨g5, g6⟩ := zif_some g4
    cases g6
    simp only [Bool.and_eq_true, decide_eq_true_eq] at g5
    obtain ⟨g5, g7, rfl⟩ := g5
    have hx : ∀ ρ' M', kn ρ' M' → zGG G Γ (nx.getD (p + 3)) [] ρ' M' := fun ρ' M' h => by
      have := hn ρ' M' h
      cases nx with
      | none => exact this.1
      | some x => exact this.2 x rfl
    have ht : ∀ ρ' M', kb j ρ' M' → zGG G Γ t [] ρ' M' := fun ρ' M' h => (hb j t Γj g1 ρ' M' h).sub (zSub_d g7)
    exact zcs c ev S Rn rt G hG Γ false _ (some t) pc p [] ρ M _ _ g3 hw hx (fun ρ1 M1 h1 => ⟨fun lv hlv => hG.1 _ 3 p _ lv M1 (zat_d g5) ⟨rfl, t, zoff rfl, ht ρ1 M1 h1 lv hlv⟩, fun x hx => by cases hx; exact ht ρ1 M1 h1⟩),
  fun S Rn hR kn kn' kb kb' kr kr' ρ M h1 h2 h3 h => zcm c S Rn hR _ _ _ _ ρ M (fun ρ' M' => h2 _ _ _) h1 h⟩
/-- the way through a loop once: c, body a, then u; X: what holds at its head -/
def zlab (k0 k1 : zK) (kb : Nat → zK) : Nat → zK
  | 0 => k0
  | 1 => k1
  | j + 2 => kb j
def zTurn (c : zC) (a u : zSt) (S : List zSh) (Rn : zRnT) (kn : zK) (kb : Nat → zK) (kr : Option zV → zMem → Prop) (X : zK) : zK := fun ρ M =>
  zcw c S Rn (fun ρ M => zsw a S Rn (fun ρ M => zsw u S Rn X (fun _ _ _ => False) kr ρ M) (zlab kn (fun ρ M => zsw u S Rn X (fun _ _ _ => False) kr ρ M) kb) kr ρ M) kn ρ M
theorem zTurn_mon {c : zC} {a u : zSt} {S : List zSh} {Rn : zRnT} (hR : zRMon Rn) {kn kn' : zK} {kb kb' : Nat → zK} {kr kr' : Option zV → zMem → Prop} {X X' : zK} (h1 : ∀ ρ M, kn ρ M → kn' ρ M) (h2 : ∀ j ρ M, kb j ρ M → kb' j ρ M) (h3 : ∀ r M, kr r M → kr' r M) (h4 : ∀ ρ M, X ρ M → X' ρ M) {ρ : zLoc} {M : zMem} (h : zTurn c a u S Rn kn kb kr X ρ M) : zTurn c a u S Rn kn' kb' kr' X' ρ M := by
  have hu : ∀ ρ M, zsw u S Rn X (fun _ _ _ => False) kr ρ M → zsw u S Rn X' (fun _ _ _ => False) kr' ρ M := fun ρ M => zsm u S Rn hR _ _ _ _ _ _ ρ M h4 (fun _ _ _ h => h) h3
  refine zcm c S Rn hR _ _ _ _ ρ M (fun ρ1 M1 => zsm a S Rn hR _ _ _ _ _ _ ρ1 M1 hu (fun j ρ2 M2 => ?_) h3) h1 h
  match j with
  | 0 => exact h1 _ _
  | 1 => exact hu _ _
  | j + 2 => exact h2 j _ _
/-- while (c) a, with u behind each turn; U: where u stands (the head itself, if there is none); D: the end -/
def zsFor (U D : Nat) (c : zC) (a u : zSt) : zSt := ⟨(fun ev Γ pc nx L => (zcc c ev Γ 0 pc false (nx.getD D) none).bind fun p => (zsc a ev Γ p (if U = pc then some pc else none) ((nx.getD D, Γ) :: (U, Γ) :: L)).bind fun q =>
      (zif (zSub Γ q.1 && decide (U = pc ∨ U = q.2)) ()).bind fun _ => (zsc u ev Γ q.2 (some pc) []).bind fun q2 => zif (zSub Γ q2.1 && (zat ev q2.2 (.goto ((pc : Int) - (q2.2 : Int))) 3 && (decide (q2.2 + 3 = D) && decide (U = pc → q2.2 = q.2)))) (Γ, D),
    fun S Rn kn kb kr ρ M => ∀ X : zK, (∀ ρ M, zTurn c a u S Rn kn kb kr X ρ M → X ρ M) → X ρ M),
  sorry,
  fun S Rn hR kn kn' kb kb' kr kr' ρ M h1 h2 h3 h => fun X hX => h X (fun ρ M ht => hX ρ M (zTurn_mon hR h1 h2 h3 (fun _ _ h => h) ht))⟩
