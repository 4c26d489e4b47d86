/-! conditions: jump to tgt if they are as 'sense' says, else go on behind; jumps within it that mean 'go on' may go to alt -/
abbrev zCC : Type := zEv → zGam → Nat → Nat → Bool → Nat → Option Nat → Option Nat
abbrev zCW : Type := List zSh → zRnT → (zLoc → zMem → Prop) → (zLoc → zMem → Prop) → zLoc → zMem → Prop
def zCSnd (c : zCC) (w : zCW) : Prop := ∀ (ev : zEv) (S : List zSh) (Rn : zRnT) (rt : Option zV → zMem → Prop) (G : Nat → List zV → zLv → zMem → Prop), zClosed ev S Rn rt G →
  ∀ (Γ : zGam) (sense : Bool) (tgt : Nat) (alt : Option Nat) (pc pc' : Nat) (st : List zV) (ρ : zLoc) (M : zMem) (Kt Kf : zLoc → zMem → Prop), c ev Γ (zcats st) pc sense tgt alt = some pc' → w S Rn Kt Kf ρ M →
  (∀ ρ' M', (if sense = true then Kt else Kf) ρ' M' → zGG G Γ tgt st ρ' M') →
  (∀ ρ' M', (if sense = true then Kf else Kt) ρ' M' → zGG G Γ pc' st ρ' M' ∧ ∀ x, alt = some x → zGG G Γ x st ρ' M') → zGG G Γ pc st ρ M
def zCMon (w : zCW) : Prop := ∀ (S : List zSh) (Rn : zRnT), zRMon Rn → ∀ (Kt Kt' Kf Kf' : zLoc → zMem → Prop) (ρ : zLoc) (M : zMem), (∀ ρ' M', Kt ρ' M' → Kt' ρ' M') → (∀ ρ' M', Kf ρ' M' → Kf' ρ' M') → w S Rn Kt Kf ρ M → w S Rn Kt' Kf' ρ M
def zC : Type := { x : zCC × zCW // zCSnd x.1 x.2 ∧ zCMon x.2 }
def zcc (c : zC) : zCC := c.1.1
def zcw (c : zC) : zCW := c.1.2
theorem zcs (c : zC) : zCSnd (zcc c) (zcw c) := c.2.1
theorem zcm (c : zC) : zCMon (zcw c) := c.2.2
def znegc : Jvm.ClassFile.Cond → Jvm.ClassFile.Cond
  | .eq => .ne
  | .ne => .eq
  | .lt => .ge
  | .ge => .lt
  | .gt => .le
  | .le => .gt
theorem znegc_iff (c : Jvm.ClassFile.Cond) (x y : Int) : zcond (znegc c) x y ↔ ¬ zcond c x y := by
  cases c <;> simp [znegc, zcond] <;> omega
def zsenc (sense : Bool) (c : Jvm.ClassFile.Cond) : Jvm.ClassFile.Cond := if sense = true then c else znegc c
theorem zsenc_iff (sense : Bool) (c : Jvm.ClassFile.Cond) (x y : Int) : zcond (zsenc sense c) x y ↔ (if sense = true then zcond c x y else ¬ zcond c x y) := by
  cases sense
  · exact znegc_iff c x y
  · exact Iff.rfl
/-- the two ways of a branch, by its condition -/
theorem zbr {P : Prop} {sense : Bool} {Kt Kf A B : Prop} (hw : (P → Kt) ∧ (¬ P → Kf)) (h1 : (if sense = true then Kt else Kf) → A) (h2 : (if sense = true then Kf else Kt) → B) : ((if sense = true then P else ¬ P) → A) ∧ (¬ (if sense = true then P else ¬ P) → B) := by
  cases sense
  · exact ⟨fun h => h1 (hw.2 h), fun h => h2 (hw.1 (Classical.byContradiction fun q => h q))⟩
  · exact ⟨fun h => h1 (hw.1 h), fun h => h2 (hw.2 h)⟩
theorem zoff {pc t : Nat} {off : Int} (h : off = (t : Int) - (pc : Int)) : (pc : Int) + off = ((t : Nat) : Int) := by omega
/-- two numbers compared -/
def zcI (c : Jvm.ClassFile.Cond) (a b : zE 0) : zC :=
  ⟨(fun ev Γ d pc sense tgt _ => (zec a ev Γ d pc none).bind fun p => (zec b ev Γ (1 + d) p none).bind fun p2 => zif (zat ev p2 (.if_icmp (zsenc sense c) ((tgt : Int) - (p2 : Int))) 3) (p2 + 3),
      fun S Rn Kt Kf ρ M => zew a S Rn (fun x ρ M => zew b S Rn (fun y ρ M => (zcond c x y → Kt ρ M) ∧ (¬ zcond c x y → Kf ρ M)) ρ M) ρ M),
    fun ev S Rn rt G hG Γ sense tgt alt pc pc' st ρ M Kt Kf hc hw h1 h2 => by
      obtain ⟨p, g1, g2⟩ := Option.bind_eq_some_iff.mp hc
      obtain ⟨p2, g3, g4⟩ := Option.bind_eq_some_iff.mp g2
      obtain ⟨g5, rfl⟩ := zif_some g4
      exact zes a ev S Rn rt G hG Γ none pc p st ρ M _ g1 hw (fun x ρ1 M1 hx => ⟨zes b ev S Rn rt G hG Γ none p p2 ((0, x) :: st) ρ1 M1 _ g3 hx (fun y ρ2 M2 hy => ⟨fun lv hlv => by
        have hz := zbr (sense := sense) hy (fun h => h1 ρ2 M2 (by cases sense <;> exact h) lv hlv) (fun h => (h2 ρ2 M2 (by cases sense <;> exact h)).1 lv hlv)
        exact hG.1 _ 3 p2 _ lv M2 (zat_d g5) ⟨rfl, x, y, st, tgt, rfl, zoff rfl, fun h => hz.1 ((zsenc_iff _ _ _ _).mp h), fun h => hz.2 (fun q => h ((zsenc_iff _ _ _ _).mpr q))⟩, fun x hx => by cases hx⟩), fun x hx => by cases hx⟩),
    fun S Rn hR Kt Kt' Kf Kf' ρ M ht hf h => zem a S Rn hR _ _ ρ M (fun v ρ' M' => zem b S Rn hR _ _ ρ' M' (fun v2 ρ2 M2 h2 => ⟨fun q => ht _ _ (h2.1 q), fun q => hf _ _ (h2.2 q)⟩)) h⟩
/-- a number against zero -/
def zcZ (c : Jvm.ClassFile.Cond) (a : zE 0) : zC :=
  ⟨(fun ev Γ d pc sense tgt _ => (zec a ev Γ d pc none).bind fun p => zif (zat ev p (.ifCond (zsenc sense c) ((tgt : Int) - (p : Int))) 3) (p + 3),
      fun S Rn Kt Kf ρ M => zew a S Rn (fun x ρ M => (zcond c x 0 → Kt ρ M) ∧ (¬ zcond c x 0 → Kf ρ M)) ρ M),
    fun ev S Rn rt G hG Γ sense tgt alt pc pc' st ρ M Kt Kf hc hw h1 h2 => by
      obtain ⟨p, g1, g2⟩ := Option.bind_eq_some_iff.mp hc
      obtain ⟨g5, rfl⟩ := zif_some g2
      exact zes a ev S Rn rt G hG Γ none pc p st ρ M _ g1 hw (fun x ρ2 M2 hy => ⟨fun lv hlv => by
        have hz := zbr (sense := sense) hy (fun h => h1 ρ2 M2 (by cases sense <;> exact h) lv hlv) (fun h => (h2 ρ2 M2 (by cases sense <;> exact h)).1 lv hlv)
        exact hG.1 _ 3 p _ lv M2 (zat_d g5) ⟨rfl, x, st, tgt, rfl, zoff rfl, fun h => hz.1 ((zsenc_iff _ _ _ _).mp h), fun h => hz.2 (fun q => h ((zsenc_iff _ _ _ _).mpr q))⟩, fun x hx => by cases hx⟩),
    fun S Rn hR Kt Kt' Kf Kf' ρ M ht hf h => zem a S Rn hR _ _ ρ M (fun v2 ρ2 M2 h2 => ⟨fun q => ht _ _ (h2.1 q), fun q => hf _ _ (h2.2 q)⟩) h⟩
/-- a reference is null -/
def zcN (a : zE 2) : zC :=
  ⟨(fun ev Γ d pc sense tgt _ => (zec a ev Γ d pc none).bind fun p => zif (zat ev p (if sense = true then .ifnull ((tgt : Int) - (p : Int)) else .ifnonnull ((tgt : Int) - (p : Int))) 3) (p + 3),
      fun S Rn Kt Kf ρ M => zew a S Rn (fun x ρ M => (x = -1 → Kt ρ M) ∧ (¬ x = -1 → Kf ρ M)) ρ M),
    fun ev S Rn rt G hG Γ sense tgt alt pc pc' st ρ M Kt Kf hc hw h1 h2 => by
      obtain ⟨p, g1, g2⟩ := Option.bind_eq_some_iff.mp hc
      obtain ⟨g5, rfl⟩ := zif_some g2
      refine zes a ev S Rn rt G hG Γ none pc p st ρ M _ g1 hw (fun x ρ2 M2 hy => ⟨fun lv hlv => ?_, fun x hx => by cases hx⟩)
      cases sense
      · exact hG.1 _ 3 p _ lv M2 (zat_d g5) ⟨rfl, x, st, tgt, rfl, zoff rfl, fun h => h1 _ _ (hy.2 h) lv hlv, fun h => (h2 _ _ (hy.1 h)).1 lv hlv⟩
      · exact hG.1 _ 3 p _ lv M2 (zat_d g5) ⟨rfl, x, st, tgt, rfl, zoff rfl, fun h => h1 _ _ (hy.1 h) lv hlv, fun h => (h2 _ _ (hy.2 h)).1 lv hlv⟩,
    fun S Rn hR Kt Kt' Kf Kf' ρ M ht hf h => zem a S Rn hR _ _ ρ M (fun v2 ρ2 M2 h2 => ⟨fun q => ht _ _ (h2.1 q), fun q => hf _ _ (h2.2 q)⟩) h⟩
def zcNot (c : zC) : zC :=
  ⟨(fun ev Γ d pc sense tgt alt => zcc c ev Γ d pc (!sense) tgt alt, fun S Rn Kt Kf ρ M => zcw c S Rn Kf Kt ρ M),
    fun ev S Rn rt G hG Γ sense tgt alt pc pc' st ρ M Kt Kf hc hw h1 h2 => zcs c ev S Rn rt G hG Γ (!sense) tgt alt pc pc' st ρ M Kf Kt hc hw (fun ρ' M' h => h1 ρ' M' (by cases sense <;> exact h)) (fun ρ' M' h => h2 ρ' M' (by cases sense <;> exact h)),
    fun S Rn hR Kt Kt' Kf Kf' ρ M ht hf h => zcm c S Rn hR _ _ _ _ ρ M hf ht h⟩
/-- both; L: where it goes on behind, when it jumps if both hold -/
def zcAnd (L : Nat) (a b : zC) : zC :=
  ⟨(fun ev Γ d pc sense tgt alt =>
      if sense = true then (zcc a ev Γ d pc false L none).bind fun p => (zcc b ev Γ d p true tgt alt).bind fun p2 => zif (decide (L = p2 ∨ alt = some L)) p2
      else (zcc a ev Γ d pc false tgt none).bind fun p => zcc b ev Γ d p false tgt alt,
      fun S Rn Kt Kf ρ M => zcw a S Rn (fun ρ M => zcw b S Rn Kt Kf ρ M) Kf ρ M),
    fun ev S Rn rt G hG Γ sense tgt alt pc pc' st ρ M Kt Kf hc hw h1 h2 => by
      cases sense with
      | true =>
        dsimp only at hc
        rw [if_pos rfl] at hc
        obtain ⟨p, g1, g2⟩ := Option.bind_eq_some_iff.mp hc
        obtain ⟨p2, g3, g4⟩ := Option.bind_eq_some_iff.mp g2
        obtain ⟨g5, rfl⟩ := zif_some g4
        have hL : ∀ ρ' M', Kf ρ' M' → zGG G Γ L st ρ' M' := fun ρ' M' h => by
          have := h2 ρ' M' h
          rcases of_decide_eq_true g5 with rfl | q
          · exact this.1
          · exact this.2 L q
        exact zcs a ev S Rn rt G hG Γ false L none pc p st ρ M _ _ g1 hw hL (fun ρ1 M1 hb => ⟨zcs b ev S Rn rt G hG Γ true tgt alt p p2 st ρ1 M1 Kt Kf g3 hb h1 h2, fun x hx => by cases hx⟩)
      | false =>
        dsimp only at hc
        rw [if_neg (by decide)] at hc
        obtain ⟨p, g1, g2⟩ := Option.bind_eq_some_iff.mp hc
        exact zcs a ev S Rn rt G hG Γ false tgt none pc p st ρ M _ _ g1 hw h1 (fun ρ1 M1 hb => ⟨zcs b ev S Rn rt G hG Γ false tgt alt p pc' st ρ1 M1 Kt Kf g2 hb h1 h2, fun x hx => by cases hx⟩),
    fun S Rn hR Kt Kt' Kf Kf' ρ M ht hf h => zcm a S Rn hR _ _ _ _ ρ M (fun ρ' M' => zcm b S Rn hR _ _ _ _ ρ' M' ht hf) hf h⟩
def zcOr (L : Nat) (a b : zC) : zC :=
  ⟨(fun ev Γ d pc sense tgt alt =>
      if sense = true then (zcc a ev Γ d pc true tgt none).bind fun p => zcc b ev Γ d p true tgt alt
      else (zcc a ev Γ d pc true L none).bind fun p => (zcc b ev Γ d p false tgt alt).bind fun p2 => zif (decide (L = p2 ∨ alt = some L)) p2,
      fun S Rn Kt Kf ρ M => zcw a S Rn Kt (fun ρ M => zcw b S Rn Kt Kf ρ M) ρ M),
    fun ev S Rn rt G hG Γ sense tgt alt pc pc' st ρ M Kt Kf hc hw h1 h2 => by
      cases sense with
      | false =>
        dsimp only at hc
        rw [if_neg (by decide)] at hc
        obtain ⟨p, g1, g2⟩ := Option.bind_eq_some_iff.mp hc
        obtain ⟨p2, g3, g4⟩ := Option.bind_eq_some_iff.mp g2
        obtain ⟨g5, rfl⟩ := zif_some g4
        have hL : ∀ ρ' M', Kt ρ' M' → zGG G Γ L st ρ' M' := fun ρ' M' h => by
          have := h2 ρ' M' h
          rcases of_decide_eq_true g5 with rfl | q
          · exact this.1
          · exact this.2 L q
        exact zcs a ev S Rn rt G hG Γ true L none pc p st ρ M _ _ g1 hw hL (fun ρ1 M1 hb => ⟨zcs b ev S Rn rt G hG Γ false tgt alt p p2 st ρ1 M1 Kt Kf g3 hb h1 h2, fun x hx => by cases hx⟩)
      | true =>
        dsimp only at hc
        rw [if_pos rfl] at hc
        obtain ⟨p, g1, g2⟩ := Option.bind_eq_some_iff.mp hc
        exact zcs a ev S Rn rt G hG Γ true tgt none pc p st ρ M _ _ g1 hw h1 (fun ρ1 M1 hb => ⟨zcs b ev S Rn rt G hG Γ true tgt alt p pc' st ρ1 M1 Kt Kf g2 hb h1 h2, fun x hx => by cases hx⟩),
    fun S Rn hR Kt Kt' Kf Kf' ρ M ht hf h => zcm a S Rn hR _ _ _ _ ρ M ht (fun ρ' M' => zcm b S Rn hR _ _ _ _ ρ' M' ht hf) h⟩
/-- c ? a : b, as a condition; E: where b begins; L: where it goes on behind -/
def zcIf (E L : Nat) (c a b : zC) : zC :=
  ⟨(fun ev Γ d pc sense tgt alt => (zcc c ev Γ d pc false E none).bind fun p =>
      if sense = true then (zcc a ev Γ d p false L (some tgt)).bind fun p2 => zif (zat ev p2 (.goto ((tgt : Int) - (p2 : Int))) 3 && decide (E = p2 + 3)) () |>.bind fun _ => (zcc b ev Γ d E true tgt alt).bind fun p3 => zif (decide (L = p3 ∨ alt = some L)) p3
      else (zcc a ev Γ d p false tgt (some L)).bind fun p2 => zif (zat ev p2 (.goto ((L : Int) - (p2 : Int))) 3 && decide (E = p2 + 3)) () |>.bind fun _ => (zcc b ev Γ d E false tgt alt).bind fun p3 => zif (decide (L = p3 ∨ alt = some L)) p3,
      fun S Rn Kt Kf ρ M => zcw c S Rn (fun ρ M => zcw a S Rn Kt Kf ρ M) (fun ρ M => zcw b S Rn Kt Kf ρ M) ρ M),
    fun ev S Rn rt G hG Γ sense tgt alt pc pc' st ρ M Kt Kf hc hw h1 h2 => by
      obtain ⟨p, g1, g2⟩ := Option.bind_eq_some_iff.mp hc
      cases sense with
      | true =>
        rw [if_pos rfl] at g2
        obtain ⟨p2, g3, g4⟩ := Option.bind_eq_some_iff.mp g2
        obtain ⟨u, g5, g6⟩ := Option.bind_eq_some_iff.mp g4
        obtain ⟨g5, -⟩ := zif_some g5
        obtain ⟨p3, g7, g8⟩ := Option.bind_eq_some_iff.mp g6
        obtain ⟨g9, rfl⟩ := zif_some g8
        rw [Bool.and_eq_true, decide_eq_true_eq] at g5
        have hL : ∀ ρ' M', Kf ρ' M' → zGG G Γ L st ρ' M' := fun ρ' M' h => by
          have := h2 ρ' M' h
          rcases of_decide_eq_true g9 with rfl | q
          · exact this.1
          · exact this.2 L q
        exact zcs c ev S Rn rt G hG Γ false E none pc p st ρ M _ _ g1 hw (fun ρ1 M1 hb => zcs b ev S Rn rt G hG Γ true tgt alt E p3 st ρ1 M1 Kt Kf g7 hb h1 h2)
          (fun ρ1 M1 ha => ⟨zcs a ev S Rn rt G hG Γ false L (some tgt) p p2 st ρ1 M1 Kt Kf g3 ha hL (fun ρ2 M2 hk => ⟨fun lv hlv => hG.1 _ 3 p2 st lv M2 (zat_d g5.1) ⟨rfl, tgt, zoff rfl, h1 ρ2 M2 hk lv hlv⟩, fun x hx => by cases hx; exact h1 ρ2 M2 hk⟩), fun x hx => by cases hx⟩)
      | false =>
        rw [if_neg (by decide)] at g2
        obtain ⟨p2, g3, g4⟩ := Option.bind_eq_some_iff.mp g2
        obtain ⟨u, g5, g6⟩ := Option.bind_eq_some_iff.mp g4
        obtain ⟨g5, -⟩ := zif_some g5
        obtain ⟨p3, g7, g8⟩ := Option.bind_eq_some_iff.mp g6
        obtain ⟨g9, rfl⟩ := zif_some g8
        rw [Bool.and_eq_true, decide_eq_true_eq] at g5
        have hL : ∀ ρ' M', Kt ρ' M' → zGG G Γ L st ρ' M' := fun ρ' M' h => by
          have := h2 ρ' M' h
          rcases of_decide_eq_true g9 with rfl | q
          · exact this.1
          · exact this.2 L q
        exact zcs c ev S Rn rt G hG Γ false E none pc p st ρ M _ _ g1 hw (fun ρ1 M1 hb => zcs b ev S Rn rt G hG Γ false tgt alt E p3 st ρ1 M1 Kt Kf g7 hb h1 h2)
          (fun ρ1 M1 ha => ⟨zcs a ev S Rn rt G hG Γ false tgt (some L) p p2 st ρ1 M1 Kt Kf g3 ha h1 (fun ρ2 M2 hk => ⟨fun lv hlv => hG.1 _ 3 p2 st lv M2 (zat_d g5.1) ⟨rfl, L, zoff rfl, hL ρ2 M2 hk lv hlv⟩, fun x hx => by cases hx; exact hL ρ2 M2 hk⟩), fun x hx => by cases hx⟩),
    fun S Rn hR Kt Kt' Kf Kf' ρ M ht hf h => zcm c S Rn hR _ _ _ _ ρ M (fun ρ' M' => zcm a S Rn hR _ _ _ _ ρ' M' ht hf) (fun ρ' M' => zcm b S Rn hR _ _ _ _ ρ' M' ht hf) h⟩
/-- c ? a : b, a value; E: where b begins, D: the end -/
def zeIf {t : Nat} (E D : Nat) (c : zC) (a b : zE t) : zE t :=
  ⟨(fun ev Γ d pc nx => (zcc c ev Γ d pc false E none).bind fun p => (zec a ev Γ d p (some (nx.getD D))).bind fun p2 => (zif (zat ev p2 (.goto (((nx.getD D : Nat) : Int) - (p2 : Int))) 3 && decide (E = p2 + 3)) ()).bind fun _ => (zec b ev Γ d E nx).bind fun p3 => zif (decide (p3 = D)) p3,
      fun S Rn K ρ M => zcw c S Rn (fun ρ M => zew a S Rn K ρ M) (fun ρ M => zew b S Rn K ρ M) ρ M),
    fun ev S Rn rt G hG Γ nx pc pc' st ρ M K hc hw hk => by
      obtain ⟨p, g1, g2⟩ := Option.bind_eq_some_iff.mp hc
      obtain ⟨p2, g3, g4⟩ := Option.bind_eq_some_iff.mp g2
      obtain ⟨u, g5, g6⟩ := Option.bind_eq_some_iff.mp g4
      obtain ⟨g5, -⟩ := zif_some g5
      obtain ⟨p3, g7, g8⟩ := Option.bind_eq_some_iff.mp g6
      obtain ⟨g9, rfl⟩ := zif_some g8
      rw [decide_eq_true_eq] at g9
      subst g9
      rw [Bool.and_eq_true, decide_eq_true_eq] at g5
      have hx : ∀ v ρ' M', K v ρ' M' → zGG G Γ (nx.getD p3) ((t, v) :: st) ρ' M' := fun v ρ' M' h => by
        have := hk v ρ' M' h
        cases nx with
        | none => exact this.1
        | some x => exact this.2 x rfl
      exact zcs c ev S Rn rt G hG Γ false E none pc p st ρ M _ _ g1 hw (fun ρ1 M1 hb => zes b ev S Rn rt G hG Γ nx E p3 st ρ1 M1 K g7 hb hk)
        (fun ρ1 M1 ha => ⟨zes a ev S Rn rt G hG Γ (some (nx.getD p3)) p p2 st ρ1 M1 K g3 ha (fun v ρ2 M2 hv => ⟨fun lv hlv => hG.1 _ 3 p2 _ lv M2 (zat_d g5.1) ⟨rfl, _, zoff rfl, hx v ρ2 M2 hv lv hlv⟩, fun x hx2 => by cases hx2; exact hx v ρ2 M2 hv⟩), fun x hx => by cases hx⟩),
    fun S Rn hR K K' ρ M hk h => zcm c S Rn hR _ _ _ _ ρ M (fun ρ' M' => zem a S Rn hR _ _ ρ' M' hk) (fun ρ' M' => zem b S Rn hR _ _ ρ' M' hk) h⟩
