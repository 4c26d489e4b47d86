/-! ===== a text that has a fault already: the class, as far as it is safe ===== -/
/-- what stays exact: the names, and which posts are in boxes -/
def cZk (M : zMem) (n : Nat) (Z : zZt) : Prop := M ((92 : Nat) : Int) ((9 : Nat) : Int) = ((n : Nat) : Int) ∧ cZm M Z ∧ M ((92 : Nat) : Int) ((12 : Nat) : Int) = zmk (fun q => decide (uo Z q ≠ 999))
def cVb (M : zMem) (k : Nat) : Prop := ∃ pl : Nat, M ((92 : Nat) : Int) ((11 : Nat) : Int) = ((pl : Nat) : Int) ∧ pl ≤ 400 ∧ (∀ j : Nat, j < pl → M ((97 : Nat) : Int) ((j : Nat) : Int) = -1 ∨ ∃ q : Nat, q < 16 ∧ M ((97 : Nat) : Int) ((j : Nat) : Int) = ((q : Nat) : Int)) ∧ ∀ b : Nat, b < k → (∃ s : Nat → Bool, M ((94 : Nat) : Int) ((b : Nat) : Int) = zmk s) ∧ ∃ f c : Nat, M ((95 : Nat) : Int) ((b : Nat) : Int) = ((f : Nat) : Int) ∧ M ((96 : Nat) : Int) ((b : Nat) : Int) = ((c : Nat) : Int) ∧ f + c ≤ pl
def cVw (M : zMem) : Prop := ∃ wc : Nat, M ((92 : Nat) : Int) ((13 : Nat) : Int) = ((wc : Nat) : Int) ∧ wc ≤ 40
def cVn (M : zMem) (n : Nat) : Prop := (∃ T, zNR M 101 n T) ∧ ∃ T, zNR M 103 n T
def cZv (M : zMem) (n : Nat) (Z : zZt) : Prop := cZk M n Z ∧ cVb M (urk Z (ub Z)) ∧ cVw M ∧ cVn M n ∧ M ((92 : Nat) : Int) ((14 : Nat) : Int) ≠ 0
theorem cZk.to {M M' : zMem} {n : Nat} {Z Z' : zZt} (h : cZk M n Z) (e : ∀ b j, b = ((92 : Nat) : Int) ∧ (j = 9 ∨ j = 10 ∨ j = 12) ∨ b = ((93 : Nat) : Int) → M' b j = M b j) (ez : Z'.1 = Z.1) : cZk M' n Z' :=
  ⟨by rw [e _ _ (by omega)]; exact h.1, h.2.1.to (fun b j q => e b j (by omega)) ez, by rw [e _ _ (by omega)]; unfold uo; rw [ez]; exact h.2.2⟩
theorem cVb.to {M M' : zMem} {k : Nat} (h : cVb M k) (e : ∀ b j, b = ((92 : Nat) : Int) ∧ j = 11 ∨ ((94 : Nat) : Int) ≤ b ∧ b ≤ ((97 : Nat) : Int) → M' b j = M b j) : cVb M' k := by
  obtain ⟨pl, h1, h2, h3, h4⟩ := h
  exact ⟨pl, by rw [e _ _ (by omega)]; exact h1, h2, fun j hj => by rw [e _ _ (by omega)]; exact h3 j hj, fun b hb => by rw [e _ _ (by omega), e _ _ (by omega), e _ _ (by omega)]; exact h4 b hb⟩
theorem cVw.to {M M' : zMem} (h : cVw M) (e : M' ((92 : Nat) : Int) ((13 : Nat) : Int) = M ((92 : Nat) : Int) ((13 : Nat) : Int)) : cVw M' := by
  obtain ⟨wc, h1, h2⟩ := h
  exact ⟨wc, by rw [e]; exact h1, h2⟩
theorem cVn.to {M M' : zMem} {n : Nat} (h : cVn M n) (e : ∀ b j, ((101 : Nat) : Int) ≤ b ∧ b ≤ ((104 : Nat) : Int) → M' b j = M b j) : cVn M' n := by
  obtain ⟨⟨T, a1, a2⟩, U, b1, b2⟩ := h
  exact ⟨⟨T, by rw [e _ _ (by omega)]; exact a1, fun p hp => by rw [e _ _ (by omega)]; exact a2 p hp⟩, U, by rw [e _ _ (by omega)]; exact b1, fun p hp => by rw [e _ _ (by omega)]; exact b2 p hp⟩
/-- only the fault and its place have changed -/
def cFo (M M' : zMem) : Prop := ∀ b j, ¬ (b = ((92 : Nat) : Int) ∧ (j = 14 ∨ j = 15)) → M' b j = M b j
theorem cZv.fo {M M' : zMem} {n : Nat} {Z Z' : zZt} (h : cZv M n Z) (e : cFo M M') (ez : Z'.1 = Z.1) (hf : M' ((92 : Nat) : Int) ((14 : Nat) : Int) ≠ 0) : cZv M' n Z' := by
  obtain ⟨a, b, c, d, -⟩ := h
  refine ⟨a.to (fun b j q => e b j (by omega)) ez, ?_, c.to (e _ _ (by omega)), d.to (fun b j q => e b j (by omega)), hf⟩
  unfold urk ub un at b ⊢
  rw [ez]
  exact b.to (fun b j q => e b j (by omega))
theorem cZv.z {M : zMem} {n : Nat} {Z Z' : zZt} (h : cZv M n Z) (ez : Z'.1 = Z.1) : cZv M n Z' := h.fo (fun _ _ _ => rfl) ez h.2.2.2.2
/-- what is exact is safe -/
theorem cZt.vb {M : zMem} {n : Nat} {Z : zZt} (h : cZt M n Z) (h2 : uO2 n Z) (hub : ub Z < 999) (hk40 : uk Z ≤ 40) : cZk M n Z ∧ cVb M (urk Z (ub Z)) ∧ cVw M ∧ cVn M n := by
  obtain ⟨⟨a1, a2, a3⟩, ⟨b1, b2⟩, ⟨c1, c2, c3⟩, ⟨wc, C, d1, d2, -⟩, -⟩ := h
  have h16 : upb Z (ub Z) ≤ 16 := zcnt_le _ _
  refine ⟨⟨a1, ⟨b1, fun b hb hn => (b2 b hb hn).1⟩, c2⟩, ⟨upb Z (ub Z), c1, by omega, fun j hj => ?_, fun r hr => ?_⟩, ⟨wc, d1, by omega⟩, ⟨_, a2⟩, _, a3⟩
  · -- each place of the row holds a post
    have key : ∀ b, b ≤ ub Z → j < upb Z b → ∃ q : Nat, q < 16 ∧ M ((97 : Nat) : Int) ((j : Nat) : Int) = ((q : Nat) : Int) := by
      intro b
      induction b with
      | zero =>
        intro _ hj2
        have : upb Z 0 = 0 := zcnt_z fun q _ => decide_eq_false (Nat.not_lt_zero _)
        omega
      | succ b ih =>
        intro hb hj2
        by_cases e : j < upb Z b
        · exact ih (by omega) e
        · rw [upb_z] at hj2
          obtain ⟨y1, y2, y3⟩ := urw_ok (k := j - upb Z b) h2 (show b < ub Z by omega) (by omega)
          have := c3 _ y1 (by omega)
          rw [y2, y3, show upb Z b + (j - upb Z b) = j by omega] at this
          exact ⟨_, y1, this⟩
    exact Or.inr (key (ub Z) (Nat.le_refl _) hj)
  · obtain ⟨β, c1', c2', c3'⟩ := zcnt_has (zNew (un Z)) (ub Z) r hr
    obtain ⟨-, y2, y3, y4⟩ := b2 β c1' c2'
    rw [show urk Z β = r from c3'] at y2 y3 y4
    refine ⟨⟨_, y2⟩, _, _, y3, y4, ?_⟩
    rw [← upb_z]
    exact zcnt_sub fun q _ hq => decide_eq_true (by have := of_decide_eq_true hq; omega)
theorem c_vblame {O : zOm} (hO : zWld O) (hS : zS O = zmS zC0) {f p : Nat} {fi : Int} {M : zMem} {K : Option zV → zMem → Prop} (hfi : fi = ((f : Nat) : Int)) (hf : 0 < f)
    (hk : ∀ M', cFo M M' → M' ((92 : Nat) : Int) ((14 : Nat) : Int) ≠ 0 → K none M') : zR O F_Text_blame [(2, ((92 : Nat) : Int)), (0, fi), (0, ((p : Nat) : Int))] M K := by
  subst hfi
  have set : ∀ M', cFo M M' → M' ((92 : Nat) : Int) ((14 : Nat) : Int) = ((f : Nat) : Int) → K none M' := fun M' a b => hk M' a (by rw [b]; omega)
  apply r_Text_blame hO
  unfold B_Text_blame
  have f92_14 := zf_92_14 hS; have f92_15 := zf_92_15 hS; have z92 := zo_92 hS
  by_cases e : M ((92 : Nat) : Int) ((14 : Nat) : Int) = 0
  · ((with_reducible refine i_Seq (i_If (i_cOr (i_cOr (i_cZ_eq (i_F (i_A0 ?_))))))); (with_reducible refine i_fld (by assumption) ?_); (rw [e]); simp only [w_set0, w_set1, w_setn0, w_setn1]; (with_reducible refine i_t trivial ?_); (with_reducible refine i_Seq (i_sF (i_A0 (i_L1 ?_)))); (with_reducible refine i_fld (by assumption) ?_); (with_reducible refine i_sF (i_A0 (i_L2 ?_))); (with_reducible refine i_fld (by assumption) ?_); (with_reducible refine i_RetV ?_))
    exact set _ (fun b j q => by rw [zg_o _ _ (by omega), zg_o _ _ (by omega)]) (by rw [zg_o _ _ (by omega)]; exact zg_s _ _ _ _ _)
  generalize hF : M ((92 : Nat) : Int) ((14 : Nat) : Int) = F at *
  generalize hP : M ((92 : Nat) : Int) ((15 : Nat) : Int) = P at *
  by_cases a1 : P < ((p : Nat) : Int)
  · ((with_reducible refine i_Seq (i_If (i_cOr (i_cOr (i_cZ_eq (i_F (i_A0 ?_))))))); (with_reducible refine i_fld (by assumption) ?_); (rw [hF]); (with_reducible refine i_f (by omega) ?_); (with_reducible refine i_cI_lt (i_L2 (i_F (i_A0 ?_)))); (with_reducible refine i_fld (by assumption) ?_); (rw [hP]); (with_reducible refine i_f (by omega) ?_); (with_reducible refine i_cAnd (i_cI_eq (i_L2 (i_F (i_A0 ?_))))); (with_reducible refine i_fld (by assumption) ?_); (rw [hP]); (with_reducible refine i_f (by omega) ?_); (with_reducible refine i_RetV ?_))
    exact hk M (fun _ _ _ => rfl) (by rw [hF]; exact e)
  by_cases a2 : ((p : Nat) : Int) < P
  · ((with_reducible refine i_Seq (i_If (i_cOr (i_cOr (i_cZ_eq (i_F (i_A0 ?_))))))); (with_reducible refine i_fld (by assumption) ?_); (rw [hF]); (with_reducible refine i_f (by omega) ?_); (with_reducible refine i_cI_lt (i_L2 (i_F (i_A0 ?_)))); (with_reducible refine i_fld (by assumption) ?_); (rw [hP]); (with_reducible refine i_t (by omega) ?_); (with_reducible refine i_Seq (i_sF (i_A0 (i_L1 ?_)))); (with_reducible refine i_fld (by assumption) ?_); (with_reducible refine i_sF (i_A0 (i_L2 ?_))); (with_reducible refine i_fld (by assumption) ?_); (with_reducible refine i_RetV ?_))
    exact set _ (fun b j q => by rw [zg_o _ _ (by omega), zg_o _ _ (by omega)]) (by rw [zg_o _ _ (by omega)]; exact zg_s _ _ _ _ _)
  by_cases a3 : F ≤ ((f : Nat) : Int)
  · ((with_reducible refine i_Seq (i_If (i_cOr (i_cOr (i_cZ_eq (i_F (i_A0 ?_))))))); (with_reducible refine i_fld (by assumption) ?_); (rw [hF]); (with_reducible refine i_f (by omega) ?_); (with_reducible refine i_cI_lt (i_L2 (i_F (i_A0 ?_)))); (with_reducible refine i_fld (by assumption) ?_); (rw [hP]); (with_reducible refine i_f (by omega) ?_); (with_reducible refine i_cAnd (i_cI_eq (i_L2 (i_F (i_A0 ?_))))); (with_reducible refine i_fld (by assumption) ?_); (rw [hP]); (with_reducible refine i_t (by omega) ?_); (with_reducible refine i_cI_lt (i_L1 (i_F (i_A0 ?_)))); (with_reducible refine i_fld (by assumption) ?_); (rw [hF]); (with_reducible refine i_f (by omega) ?_); (with_reducible refine i_RetV ?_))
    exact hk M (fun _ _ _ => rfl) (by rw [hF]; exact e)
  · ((with_reducible refine i_Seq (i_If (i_cOr (i_cOr (i_cZ_eq (i_F (i_A0 ?_))))))); (with_reducible refine i_fld (by assumption) ?_); (rw [hF]); (with_reducible refine i_f (by omega) ?_); (with_reducible refine i_cI_lt (i_L2 (i_F (i_A0 ?_)))); (with_reducible refine i_fld (by assumption) ?_); (rw [hP]); (with_reducible refine i_f (by omega) ?_); (with_reducible refine i_cAnd (i_cI_eq (i_L2 (i_F (i_A0 ?_))))); (with_reducible refine i_fld (by assumption) ?_); (rw [hP]); (with_reducible refine i_t (by omega) ?_); (with_reducible refine i_cI_lt (i_L1 (i_F (i_A0 ?_)))); (with_reducible refine i_fld (by assumption) ?_); (rw [hF]); (with_reducible refine i_t (by omega) ?_); (with_reducible refine i_Seq (i_sF (i_A0 (i_L1 ?_)))); (with_reducible refine i_fld (by assumption) ?_); (with_reducible refine i_sF (i_A0 (i_L2 ?_))); (with_reducible refine i_fld (by assumption) ?_); (with_reducible refine i_RetV ?_))
    exact set _ (fun b j q => by rw [zg_o _ _ (by omega), zg_o _ _ (by omega)]) (by rw [zg_o _ _ (by omega)]; exact zg_s _ _ _ _ _)
theorem c_vboxNamed {O : zOm} (hO : zWld O) (hS : zS O = zmS zC0) {k v p : Nat} {Z : zZt} {M : zMem} {K : Option zV → zMem → Prop} (hB : cZm M Z) (hub : ub Z ≤ 100) (hk4 : k < 400) (hv : M ((90 : Nat) : Int) ((k : Nat) : Int) = ((v : Nat) : Int)) (hp : M ((89 : Nat) : Int) ((k : Nat) : Int) = ((p : Nat) : Int))
    (hk : ∀ M', cFo M M' → (M ((92 : Nat) : Int) ((14 : Nat) : Int) ≠ 0 → M' ((92 : Nat) : Int) ((14 : Nat) : Int) ≠ 0) → K (some (0, uRI Z v)) M') : zR O F_Text_boxNamed [(2, ((92 : Nat) : Int)), (2, ((86 : Nat) : Int)), (0, ((k : Nat) : Int))] M K := by
  have a90 := zCA (a := 90) (ty := .long) (n := 400) hS rfl
  apply r_Text_boxNamed hO
  unfold B_Text_boxNamed
  have f86_3 := zf_86_3 hS; have a90 := zCA (a := 90) (ty := .long) (n := 400) hS rfl; have f86_2 := zf_86_2 hS; have a89 := zCA (a := 89) (ty := .int) (n := 400) hS rfl; have z86 := zo_86 hS; have z92 := zo_92 hS
  ((with_reducible refine i_Seq (i_Set (i_Call (i_as1 (i_A0 (i_as1 (i_LA (i_FR (i_A1 ?_))))))))); (with_reducible refine i_fldR (by assumption) ?_); (with_reducible refine i_L2 ?_); (with_reducible refine i_in (by assumption) (by omega) (by omega) ?_); (with_reducible refine i_as0 ?_); (with_reducible refine i_recv0 (by assumption) ?_); (rw [hv]); simp only [w_set0, w_set1, w_setn0, w_setn1])
  refine c_findName hO hS hB hub ⟨_, rfl, ?_⟩
  unfold uRI at hk ⊢
  by_cases h : ufn Z v < ub Z
  · rw [if_pos h] at hk ⊢
    ((with_reducible refine i_Seq (i_If (i_cI_eq (i_L3 (i_I ?_))))); (with_reducible refine i_f (by omega) ?_); (with_reducible refine i_RetI (i_L3 ?_)))
    exact hk M (fun _ _ _ => rfl) id
  · rw [if_neg h] at hk ⊢
    ((with_reducible refine i_Seq (i_If (i_cI_eq (i_L3 (i_I ?_))))); simp only [w_set0, w_set1, w_setn0, w_setn1]; (with_reducible refine i_t trivial ?_); (with_reducible refine i_sCall (i_as1 (i_A0 (i_as1 (i_I (i_as1 (i_IA (i_FR (i_A1 ?_))))))))); (with_reducible refine i_fldR (by assumption) ?_); (with_reducible refine i_L2 ?_); (with_reducible refine i_in (by assumption) (by omega) (by omega) ?_); (with_reducible refine i_as0 ?_); (with_reducible refine i_recv0 (by assumption) ?_); (rw [hp]))
    refine c_vblame hO hS (f := 4) rfl (by decide) (fun M1 f1 g1 => ⟨rfl, ?_⟩)
    (with_reducible refine i_RetI (i_L3 ?_))
    exact hk M1 f1 (fun _ => g1)
theorem c_vpostTold {O : zOm} (hO : zWld O) (hS : zS O = zmS zC0) {k v p n : Nat} {M : zMem} {K : Option zV → zMem → Prop} (hn : M ((92 : Nat) : Int) ((9 : Nat) : Int) = ((n : Nat) : Int)) (hn16 : n ≤ 16) (hk4 : k < 400) (hv : M ((90 : Nat) : Int) ((k : Nat) : Int) = ((v : Nat) : Int)) (hv4 : v < 10000) (hp : M ((89 : Nat) : Int) ((k : Nat) : Int) = ((p : Nat) : Int))
    (hk : ∀ M', cFo M M' → (M ((92 : Nat) : Int) ((14 : Nat) : Int) ≠ 0 ∨ n ≤ v → M' ((92 : Nat) : Int) ((14 : Nat) : Int) ≠ 0) → K (some (0, if v < n then ((v : Nat) : Int) else -1)) M') : zR O F_Text_postTold [(2, ((92 : Nat) : Int)), (2, ((86 : Nat) : Int)), (0, ((k : Nat) : Int))] M K := by
  have a90 := zCA (a := 90) (ty := .long) (n := 400) hS rfl
  apply r_Text_postTold hO
  unfold B_Text_postTold
  have f86_3 := zf_86_3 hS; have a90 := zCA (a := 90) (ty := .long) (n := 400) hS rfl; have f92_9 := zf_92_9 hS; have f86_2 := zf_86_2 hS; have a89 := zCA (a := 89) (ty := .int) (n := 400) hS rfl; have z86 := zo_86 hS; have z92 := zo_92 hS
  by_cases h : v < n
  · rw [if_pos h] at hk
    ((with_reducible refine i_Seq (i_If (i_cZ_ge (i_CmpL (i_LA (i_FR (i_A1 ?_))))))); (with_reducible refine i_fldR (by assumption) ?_); (with_reducible refine i_L2 ?_); (with_reducible refine i_in (by assumption) (by omega) (by omega) ?_); (with_reducible refine i_I2L (i_F (i_A0 ?_))); (with_reducible refine i_fld (by assumption) ?_); (rw [hv]); (rw [hn]); (refine i_cmpge ?_); (with_reducible refine i_f (by omega) ?_); (with_reducible refine i_RetI (i_L2I (i_LA (i_FR (i_A1 ?_))))); (with_reducible refine i_fldR (by assumption) ?_); (with_reducible refine i_L2 ?_); (with_reducible refine i_in (by assumption) (by omega) (by omega) ?_); (rw [hv]); rw [zx_s (by omega) (by omega)])
    exact hk M (fun _ _ _ => rfl) (fun z => z.elim id (fun z => absurd h (by omega)))
  · rw [if_neg h] at hk
    ((with_reducible refine i_Seq (i_If (i_cZ_ge (i_CmpL (i_LA (i_FR (i_A1 ?_))))))); (with_reducible refine i_fldR (by assumption) ?_); (with_reducible refine i_L2 ?_); (with_reducible refine i_in (by assumption) (by omega) (by omega) ?_); (with_reducible refine i_I2L (i_F (i_A0 ?_))); (with_reducible refine i_fld (by assumption) ?_); (rw [hv]); (rw [hn]); (refine i_cmpge ?_); (with_reducible refine i_t (by omega) ?_); (with_reducible refine i_Seq (i_sCall (i_as1 (i_A0 (i_as1 (i_I (i_as1 (i_IA (i_FR (i_A1 ?_)))))))))); (with_reducible refine i_fldR (by assumption) ?_); (with_reducible refine i_L2 ?_); (with_reducible refine i_in (by assumption) (by omega) (by omega) ?_); (with_reducible refine i_as0 ?_); (with_reducible refine i_recv0 (by assumption) ?_); (rw [hp]))
    refine c_vblame hO hS (f := 5) rfl (by decide) (fun M1 f1 g1 => ⟨rfl, ?_⟩)
    (with_reducible refine i_RetI (i_I ?_))
    exact hk M1 f1 (fun _ => g1)
/-- a word is told: some place for it, or none -/
theorem c_vtakeWord {O : zOm} (hO : zWld O) (hS : zS O = zmS zC0) {p : Nat} {ki fi si : Int} {M : zMem} {K : Option zV → zMem → Prop} (hw : cVw M)
    (hk : ∀ M', (∀ b j, ¬ (b = ((92 : Nat) : Int) ∧ (j = 13 ∨ j = 14 ∨ j = 15) ∨ ((98 : Nat) : Int) ≤ b ∧ b ≤ ((100 : Nat) : Int)) → M' b j = M b j) → cVw M' → (M ((92 : Nat) : Int) ((14 : Nat) : Int) ≠ 0 → M' ((92 : Nat) : Int) ((14 : Nat) : Int) ≠ 0) → K none M') : zR O F_Text_takeWord [(2, ((92 : Nat) : Int)), (0, ki), (0, fi), (0, si), (0, ((p : Nat) : Int))] M K := by
  obtain ⟨wc, h1, h2⟩ := hw
  have bl : ∀ {K2 : Option zV → zMem → Prop}, (∀ M1, K none M1 → K2 none M1) → zR O F_Text_blame [(2, ((92 : Nat) : Int)), (0, 3), (0, ((p : Nat) : Int))] M K2 := fun h => c_vblame hO hS (f := 3) rfl (by decide) (fun M1 f1 g1 => h M1 (hk M1 (fun b j q => f1 b j (by omega)) ⟨wc, by rw [f1 _ _ (by omega)]; exact h1, h2⟩ (fun _ => g1)))
  apply r_Text_takeWord hO
  unfold B_Text_takeWord
  have f92_13 := zf_92_13 hS; have f92_4 := zf_92_4 hS; have a98 := zCA (a := 98) (ty := .int) (n := 40) hS rfl; have f92_5 := zf_92_5 hS; have a99 := zCA (a := 99) (ty := .int) (n := 40) hS rfl; have f92_6 := zf_92_6 hS; have a100 := zCA (a := 100) (ty := .int) (n := 40) hS rfl; have z92 := zo_92 hS
  ((with_reducible refine i_Seq (i_Seq (i_Blk (i_Seq (i_Set (i_I ?_)))))); simp only [w_set0, w_set1, w_setn0, w_setn1])
  refine w_cut (zR.mon' O) (fun ρ M1 => (∃ l, ρ = ((92 : Nat) : Int) :: ki :: fi :: si :: ((p : Nat) : Int) :: l) ∧ M1 = M) ?_ ?_
  · refine w_ForN wc (fun c ρ M' => (∃ l, ρ = ((92 : Nat) : Int) :: ki :: fi :: si :: ((p : Nat) : Int) :: ((c : Nat) : Int) :: l) ∧ M' = M) ⟨⟨_, rfl⟩, rfl⟩ ?_ ?_
    · rintro c ρ M1 X hc ⟨⟨l, rfl⟩, rfl⟩ hX
      by_cases e1 : M1 ((98 : Nat) : Int) ((c : Nat) : Int) = ki
      · by_cases e2 : M1 ((99 : Nat) : Int) ((c : Nat) : Int) = fi
        · by_cases e3 : M1 ((100 : Nat) : Int) ((c : Nat) : Int) = si
          · ((with_reducible refine i_turn (i_cI_lt (i_L5 (i_F (i_A0 ?_))))); (with_reducible refine i_fld (by assumption) ?_); (rw [h1]); simp only [w_set0, w_set1, w_setn0, w_setn1]; (with_reducible refine i_t (by omega) ?_); (with_reducible refine i_If (i_cAnd (i_cAnd (i_cI_eq (i_IA (i_FR (i_A0 ?_))))))); (with_reducible refine i_fldR (by assumption) ?_); (with_reducible refine i_L5 ?_); (with_reducible refine i_in (by assumption) (by omega) (by omega) ?_); (with_reducible refine i_L1 ?_); (rw [e1]); simp only [w_set0, w_set1, w_setn0, w_setn1]; (with_reducible refine i_t trivial ?_); (with_reducible refine i_cI_eq (i_IA (i_FR (i_A0 ?_)))); (with_reducible refine i_fldR (by assumption) ?_); (with_reducible refine i_L5 ?_); (with_reducible refine i_in (by assumption) (by omega) (by omega) ?_); (with_reducible refine i_L2 ?_); (rw [e2]); simp only [w_set0, w_set1, w_setn0, w_setn1]; (with_reducible refine i_t trivial ?_); (with_reducible refine i_cI_eq (i_IA (i_FR (i_A0 ?_)))); (with_reducible refine i_fldR (by assumption) ?_); (with_reducible refine i_L5 ?_); (with_reducible refine i_in (by assumption) (by omega) (by omega) ?_); (with_reducible refine i_L3 ?_); (rw [e3]); simp only [w_set0, w_set1, w_setn0, w_setn1]; (with_reducible refine i_t trivial ?_); (with_reducible refine i_Seq (i_sCall (i_as1 (i_A0 (i_as1 (i_I (i_as1 (i_L4 (i_as0 ?_))))))))); (with_reducible refine i_recv0 (by assumption) ?_))
            refine bl (fun M2 g => ⟨rfl, ?_⟩)
            (with_reducible refine i_RetV ?_)
            exact g
          · generalize hz : M1 ((100 : Nat) : Int) ((c : Nat) : Int) = z at e3
            ((with_reducible refine i_turn (i_cI_lt (i_L5 (i_F (i_A0 ?_))))); (with_reducible refine i_fld (by assumption) ?_); (rw [h1]); simp only [w_set0, w_set1, w_setn0, w_setn1]; (with_reducible refine i_t (by omega) ?_); (with_reducible refine i_If (i_cAnd (i_cAnd (i_cI_eq (i_IA (i_FR (i_A0 ?_))))))); (with_reducible refine i_fldR (by assumption) ?_); (with_reducible refine i_L5 ?_); (with_reducible refine i_in (by assumption) (by omega) (by omega) ?_); (with_reducible refine i_L1 ?_); (rw [e1]); simp only [w_set0, w_set1, w_setn0, w_setn1]; (with_reducible refine i_t trivial ?_); (with_reducible refine i_cI_eq (i_IA (i_FR (i_A0 ?_)))); (with_reducible refine i_fldR (by assumption) ?_); (with_reducible refine i_L5 ?_); (with_reducible refine i_in (by assumption) (by omega) (by omega) ?_); (with_reducible refine i_L2 ?_); (rw [e2]); simp only [w_set0, w_set1, w_setn0, w_setn1]; (with_reducible refine i_t trivial ?_); (with_reducible refine i_cI_eq (i_IA (i_FR (i_A0 ?_)))); (with_reducible refine i_fldR (by assumption) ?_); (with_reducible refine i_L5 ?_); (with_reducible refine i_in (by assumption) (by omega) (by omega) ?_); (with_reducible refine i_L3 ?_); (rw [hz]); (with_reducible refine i_f (by omega) ?_); (with_reducible refine i_up (i_Inc5 ?_)); rw [zx_inc (by omega)]; simp only [w_set0, w_set1, w_setn0, w_setn1])
            exact hX _ _ ⟨⟨_, rfl⟩, rfl⟩
        · generalize hz : M1 ((99 : Nat) : Int) ((c : Nat) : Int) = z at e2
          ((with_reducible refine i_turn (i_cI_lt (i_L5 (i_F (i_A0 ?_))))); (with_reducible refine i_fld (by assumption) ?_); (rw [h1]); simp only [w_set0, w_set1, w_setn0, w_setn1]; (with_reducible refine i_t (by omega) ?_); (with_reducible refine i_If (i_cAnd (i_cAnd (i_cI_eq (i_IA (i_FR (i_A0 ?_))))))); (with_reducible refine i_fldR (by assumption) ?_); (with_reducible refine i_L5 ?_); (with_reducible refine i_in (by assumption) (by omega) (by omega) ?_); (with_reducible refine i_L1 ?_); (rw [e1]); simp only [w_set0, w_set1, w_setn0, w_setn1]; (with_reducible refine i_t trivial ?_); (with_reducible refine i_cI_eq (i_IA (i_FR (i_A0 ?_)))); (with_reducible refine i_fldR (by assumption) ?_); (with_reducible refine i_L5 ?_); (with_reducible refine i_in (by assumption) (by omega) (by omega) ?_); (with_reducible refine i_L2 ?_); (rw [hz]); (with_reducible refine i_f (by omega) ?_); (with_reducible refine i_up (i_Inc5 ?_)); rw [zx_inc (by omega)]; simp only [w_set0, w_set1, w_setn0, w_setn1])
          exact hX _ _ ⟨⟨_, rfl⟩, rfl⟩
      · generalize hz : M1 ((98 : Nat) : Int) ((c : Nat) : Int) = z at e1
        ((with_reducible refine i_turn (i_cI_lt (i_L5 (i_F (i_A0 ?_))))); (with_reducible refine i_fld (by assumption) ?_); (rw [h1]); simp only [w_set0, w_set1, w_setn0, w_setn1]; (with_reducible refine i_t (by omega) ?_); (with_reducible refine i_If (i_cAnd (i_cAnd (i_cI_eq (i_IA (i_FR (i_A0 ?_))))))); (with_reducible refine i_fldR (by assumption) ?_); (with_reducible refine i_L5 ?_); (with_reducible refine i_in (by assumption) (by omega) (by omega) ?_); (with_reducible refine i_L1 ?_); (rw [hz]); (with_reducible refine i_f (by omega) ?_); (with_reducible refine i_up (i_Inc5 ?_)); rw [zx_inc (by omega)]; simp only [w_set0, w_set1, w_setn0, w_setn1])
        exact hX _ _ ⟨⟨_, rfl⟩, rfl⟩
    · rintro ρ M1 X ⟨⟨l, rfl⟩, rfl⟩
      ((with_reducible refine i_turn (i_cI_lt (i_L5 (i_F (i_A0 ?_))))); (with_reducible refine i_fld (by assumption) ?_); (rw [h1]); simp only [w_set0, w_set1, w_setn0, w_setn1]; (with_reducible refine i_f (by omega) ?_))
      exact ⟨⟨_, rfl⟩, by trivial⟩
  rintro ρ M1 ⟨⟨l, rfl⟩, rfl⟩
  by_cases e : wc < 40
  · ((with_reducible refine i_If (i_cI_lt (i_F (i_A0 ?_)))); (with_reducible refine i_fld (by assumption) ?_); (with_reducible refine i_I ?_); (rw [h1]); (with_reducible refine i_t (by omega) ?_); (with_reducible refine i_Seq (i_sIA (i_FR (i_A0 ?_)))); (with_reducible refine i_fldR (by assumption) ?_); (with_reducible refine i_F (i_A0 ?_)); (with_reducible refine i_fld (by assumption) ?_); (with_reducible refine i_L1 ?_); (with_reducible refine i_in (by assumption) (by omega) (by omega) ?_); (with_reducible refine i_Seq (i_sIA (i_FR (i_A0 ?_)))); (with_reducible refine i_fldR (by assumption) ?_); (with_reducible refine i_F (i_A0 ?_)); (with_reducible refine i_fld (by assumption) ?_); (with_reducible refine i_L2 ?_); rw [zg_n _ _ _ (by omega)]; (with_reducible refine i_in (by assumption) (by omega) (by omega) ?_); (with_reducible refine i_Seq (i_sIA (i_FR (i_A0 ?_)))); (with_reducible refine i_fldR (by assumption) ?_); (with_reducible refine i_F (i_A0 ?_)); (with_reducible refine i_fld (by assumption) ?_); (with_reducible refine i_L3 ?_); rw [zg_n _ _ _ (by omega)]; rw [zg_n _ _ _ (by omega)]; (with_reducible refine i_in (by assumption) (by omega) (by omega) ?_); (with_reducible refine i_FO (i_A0 ?_)); (with_reducible refine i_fld (by assumption) ?_); (with_reducible refine i_I ?_); (with_reducible refine i_fld (by assumption) ?_); (with_reducible refine i_RetV ?_); rw [zg_n _ _ _ (by omega)]; rw [zg_n _ _ _ (by omega)]; rw [zg_n _ _ _ (by omega)]; (rw [h1]); rw [zx_inc (by omega)])
    exact hk _ (fun b j q => by rw [zg_o _ _ (by omega), zg_o _ _ (by omega), zg_o _ _ (by omega), zg_o _ _ (by omega)]) ⟨wc + 1, zg_s _ _ _ _ _, by omega⟩ (fun g => by rw [zg_o _ _ (by omega), zg_o _ _ (by omega), zg_o _ _ (by omega), zg_o _ _ (by omega)]; exact g)
  · ((with_reducible refine i_If (i_cI_lt (i_F (i_A0 ?_)))); (with_reducible refine i_fld (by assumption) ?_); (with_reducible refine i_I ?_); (rw [h1]); (with_reducible refine i_f (by omega) ?_); (with_reducible refine i_RetV ?_))
    exact hk M1 (fun _ _ _ => rfl) ⟨wc, h1, h2⟩ id
def cVr (M : zMem) (pl : Nat) : Prop := ∀ j : Nat, j < pl → M ((97 : Nat) : Int) ((j : Nat) : Int) = -1 ∨ ∃ q : Nat, q < 16 ∧ M ((97 : Nat) : Int) ((j : Nat) : Int) = ((q : Nat) : Int)
theorem cVr.to {M M' : zMem} {pl : Nat} (h : cVr M pl) (e : ∀ j, M' ((97 : Nat) : Int) j = M ((97 : Nat) : Int) j) : cVr M' pl := fun j hj => by rw [e]; exact h j hj
theorem cVr.st {M M' : zMem} {pl : Nat} {x : Int} (h : cVr M pl) (hx : x = -1 ∨ ∃ q : Nat, q < 16 ∧ x = ((q : Nat) : Int)) (e : M' ((97 : Nat) : Int) = zup (M ((97 : Nat) : Int)) ((pl : Nat) : Int) x) : cVr M' (pl + 1) := fun j hj => by
  rw [e]
  by_cases w : j = pl
  · subst w
    rw [zup_self]
    exact hx
  · rw [zup_ne _ _ (by omega)]
    exact h j (by omega)
theorem zmk_or2 (s : Nat → Bool) {x : Nat} (hx : x < 16) : zor (zmk s) (yshl 1 ((x : Nat) : Int)) = zmk (fun q => s q || decide (q = x)) := by rw [← yor_eq, zmk_or1 s hx]
set_option maxHeartbeats 3200000 in
theorem c_vtakeBox {O : zOm} (hO : zWld O) (hS : zS O = zmS zC0) {i s n : Nat} {B : Nat → Nat} {Z : zZt} {M : zMem} {K : Option zV → zMem → Prop} (hs : s ≤ 2000) (hn16 : n ≤ 16) (hq0 : zqs B s (zhh B s) = 0) (hi : i < zhh B s) (hq : zqs B s i = 0) (hK : zKi B s i = 3) (hA : uAll B s n Z i) (hT : cTa M B s) (hk0 : cZk M n Z) (hb0 : cVb M (urk Z (ub Z))) (hw0 : cVw M) (hn0 : cVn M n)
    (hbad : M ((92 : Nat) : Int) ((14 : Nat) : Int) ≠ 0 ∨ ∃ c, c < zeb B s i - (i + 2) ∧ uBx B s n Z i c = true)
    (hk : ∀ M', cXF M M' → cZv M' n (usb B s n Z i) → K (some (0, ((zeb B s i + 1 : Nat) : Int))) M') : zR O F_Text_takeBox [(2, ((92 : Nat) : Int)), (2, ((86 : Nat) : Int)), (0, ((i + 1 : Nat) : Int))] M K := by
  have h400 := (zhh_ok B s).1
  have a90 := zCA (a := 90) (ty := .long) (n := 400) hS rfl
  have a93 := zCA (a := 93) (ty := .long) (n := 100) hS rfl
  obtain ⟨g1, g2, g3, g4, g5, g6⟩ := zgr_3 hq0 hi hq hK
  have hub := hA.2.2.2.1
  have v1 := hT.v0 (show i + 1 < zhh B s by omega) g1
  have p1 := (hT.2.2 (i + 1) (by omega)).2.1
  have hrk := urk_le Z (ub Z)
  obtain ⟨kn, knm, ksn⟩ := hk0
  obtain ⟨pl0, b11, bpl, brow, bbox⟩ := hb0
  have hnw : ∀ b, b < ub Z → zNew (un (usb B s n Z i)) b = zNew (un Z) b := fun b hb => zNew_uup hb
  have hrkn : ∀ b, b ≤ ub Z → urk (usb B s n Z i) b = urk Z b := fun b hb => zcnt_ext fun c hc => hnw c (by omega)
  have hnl : zNew (un (usb B s n Z i)) (ub Z) = decide (ufn Z (zVi B s (i + 1)) = ub Z) := zNew_last
  have hubn : ub (usb B s n Z i) = ub Z + 1 := rfl
  have hunn : un (usb B s n Z i) (ub Z) = zVi B s (i + 1) := uup_s _ _ _
  have hunn2 : ∀ b, b < ub Z → un (usb B s n Z i) b = un Z b := fun b hb => uup_n _ _ (by omega)
  have hseN : (fun q => decide (uo (usb B s n Z i) q ≠ 999)) = (fun q => decide ((ubs n (zps B s) (zVi B s) (ub Z) (uo Z, ul Z, 99999) (i + 2) (zeb B s i - (i + 2))).1 q ≠ 999)) := by
    have e : uo (usb B s n Z i) = (ubs n (zps B s) (zVi B s) (ub Z) (uo Z, ul Z, if ufn Z (zVi B s (i + 1)) < ub Z then min (uF Z) (8 * zps B s (i + 1) + 3) else uF Z) (i + 2) (zeb B s i - (i + 2))).1 := rfl
    rw [e, (ubs_F (n := n) (P := zps B s) (V := zVi B s) (b := ub Z) (i := i + 2) (o := uo Z) (l := ul Z) (F := if ufn Z (zVi B s (i + 1)) < ub Z then min (uF Z) (8 * zps B s (i + 1) + 3) else uF Z) (G := 99999) (zeb B s i - (i + 2))).1]
  obtain ⟨N, hN⟩ : ∃ N, zeb B s i = i + 2 + N := ⟨zeb B s i - (i + 2), by omega⟩
  rw [hN] at g2 g3 g4 g5 g6 hk hbad hseN
  rw [show i + 2 + N - (i + 2) = N by omega] at hbad hseN
  have hrs : urk (usb B s n Z i) (ub Z + 1) = urk Z (ub Z) + (if zNew (un (usb B s n Z i)) (ub Z) = true then 1 else 0) := (zcnt_su (zNew (un (usb B s n Z i))) (ub Z)).trans (congrArg (fun x => x + (if zNew (un (usb B s n Z i)) (ub Z) = true then 1 else 0)) (hrkn (ub Z) (Nat.le_refl _)))
  have hrlt : ∀ b, b < ub Z → zNew (un (usb B s n Z i)) b = true → urk (usb B s n Z i) b < urk Z (ub Z) := fun b hb hn => by
    rw [hrkn b (by omega)]
    rw [hnw b hb] at hn
    exact zcnt_lt _ hb hn
  generalize usb B s n Z i = Zn at *
  -- what is told of posts, number by number
  have hR0 : ∀ q, (ubs n (zps B s) (zVi B s) (ub Z) (uo Z, ul Z, 99999) (i + 2) 0).1 q = uo Z q := fun _ => rfl
  have hRs : ∀ c, ubs n (zps B s) (zVi B s) (ub Z) (uo Z, ul Z, 99999) (i + 2) (c + 1) = ubq n (zps B s) (zVi B s) (ub Z) (ubs n (zps B s) (zVi B s) (ub Z) (uo Z, ul Z, 99999) (i + 2) c) (i + 2 + c) := fun _ => rfl
  have hBx : ∀ c, uBx B s n Z i c = (decide (n ≤ zVi B s (i + 2 + c)) || decide ((ubs n (zps B s) (zVi B s) (ub Z) (uo Z, ul Z, 99999) (i + 2) c).1 (zVi B s (i + 2 + c)) ≠ 999)) := fun _ => rfl
  generalize ubs n (zps B s) (zVi B s) (ub Z) (uo Z, ul Z, 99999) (i + 2) = R at *
  have hse1 : ∀ c, n ≤ zVi B s (i + 2 + c) → (fun q => decide ((R (c + 1)).1 q ≠ 999)) = (fun q => decide ((R c).1 q ≠ 999)) := fun c h => by
    rw [hRs]
    unfold ubq
    rw [if_pos h]
  have hse2 : ∀ c, ¬ n ≤ zVi B s (i + 2 + c) → (fun q => decide ((R (c + 1)).1 q ≠ 999)) = (fun q => decide ((R c).1 q ≠ 999) || decide (q = zVi B s (i + 2 + c))) := fun c h => by
    rw [hRs]
    unfold ubq
    rw [if_neg h]
    funext q
    by_cases e : q = zVi B s (i + 2 + c)
    · subst e
      rw [decide_eq_true rfl, Bool.or_true]
      by_cases w : (R c).1 (zVi B s (i + 2 + c)) ≠ 999
      · rw [if_pos w]
        exact decide_eq_true w
      · rw [if_neg w]
        show decide (uup (R c).1 (zVi B s (i + 2 + c)) (ub Z) (zVi B s (i + 2 + c)) ≠ 999) = true
        rw [uup_s]
        exact decide_eq_true (by omega)
    · rw [decide_eq_false e, Bool.or_false]
      by_cases w : (R c).1 (zVi B s (i + 2 + c)) ≠ 999
      · rw [if_pos w]
      · rw [if_neg w]
        show decide (uup (R c).1 (zVi B s (i + 2 + c)) (ub Z) q ≠ 999) = _
        rw [uup_n _ _ e]
  have hbd1 : ∀ c, n ≤ zVi B s (i + 2 + c) ∨ (R c).1 (zVi B s (i + 2 + c)) ≠ 999 → uBx B s n Z i c = true := fun c h => by
    rw [hBx]
    rcases h with h | h
    · rw [decide_eq_true h]; rfl
    · rw [decide_eq_true h, Bool.or_true]
  have hbd2 : ∀ c, uBx B s n Z i c = true → n ≤ zVi B s (i + 2 + c) ∨ (R c).1 (zVi B s (i + 2 + c)) ≠ 999 := fun c h => by
    rw [hBx, Bool.or_eq_true] at h
    exact h.imp of_decide_eq_true of_decide_eq_true
  have hnone : ∀ q, q < 16 → True := fun _ _ => trivial
  clear hRs hBx hnone
  generalize uBx B s n Z i = bad at *
  obtain ⟨tw, htw⟩ : ∃ tw, tw = decide (ufn Z (zVi B s (i + 1)) < ub Z) := ⟨_, rfl⟩
  apply r_Text_takeBox hO
  unfold B_Text_takeBox
  have f86_3 := zf_86_3 hS; have a90 := zCA (a := 90) (ty := .long) (n := 400) hS rfl; have f86_2 := zf_86_2 hS; have a89 := zCA (a := 89) (ty := .int) (n := 400) hS rfl; have f92_11 := zf_92_11 hS; have f86_6 := zf_86_6 hS; have f86_1 := zf_86_1 hS; have a88 := zCA (a := 88) (ty := .int) (n := 400) hS rfl; have f92_12 := zf_92_12 hS; have f92_3 := zf_92_3 hS; have a97 := zCA (a := 97) (ty := .int) (n := 400) hS rfl; have f92_10 := zf_92_10 hS; have f92_0 := zf_92_0 hS; have a93 := zCA (a := 93) (ty := .long) (n := 100) hS rfl; have f92_1 := zf_92_1 hS; have a94 := zCA (a := 94) (ty := .int) (n := 100) hS rfl; have f92_2 := zf_92_2 hS; have a95 := zCA (a := 95) (ty := .int) (n := 100) hS rfl; have f92_16 := zf_92_16 hS; have a96 := zCA (a := 96) (ty := .int) (n := 100) hS rfl; have z86 := zo_86 hS; have z92 := zo_92 hS
  refine i_Seq (w_cut (zR.mon' O) (fun ρ M1 => ρ = [((92 : Nat) : Int), ((86 : Nat) : Int), ((i + 1 : Nat) : Int), zbI tw] ∧ M1 = M) ?_ ?_)
  · ((with_reducible refine i_Set (i_eIf (i_cI_ne (i_Call (i_as1 (i_A0 (i_as1 (i_LA (i_FR (i_A1 ?_)))))))))); (with_reducible refine i_fldR (by assumption) ?_); (with_reducible refine i_L2 ?_); (with_reducible refine i_in (by assumption) (by omega) (by omega) ?_); (with_reducible refine i_as0 ?_); (with_reducible refine i_recv0 (by assumption) ?_); (rw [v1]))
    refine c_findName hO hS knm (by omega) ⟨_, rfl, ?_⟩
    unfold uRI
    by_cases hd : ufn Z (zVi B s (i + 1)) < ub Z
    · rw [if_pos hd, htw, decide_eq_true hd]
      ((with_reducible refine i_I ?_); rw [zbI_t]; (with_reducible refine i_t (by omega) ?_); (with_reducible refine i_I ?_); simp only [w_set0, w_set1, w_setn0, w_setn1])
      exact ⟨by trivial, by trivial⟩
    · rw [if_neg hd, htw, decide_eq_false hd]
      ((with_reducible refine i_I ?_); rw [zbI_f]; (with_reducible refine i_f (by omega) ?_); (with_reducible refine i_I ?_); simp only [w_set0, w_set1, w_setn0, w_setn1])
      exact ⟨by trivial, by trivial⟩
  rintro ρ M1 ⟨rfl, rfl⟩
  refine i_Seq (w_cut (zR.mon' O) (fun ρ M2 => ρ = [((92 : Nat) : Int), ((86 : Nat) : Int), ((i + 1 : Nat) : Int), zbI tw] ∧ cFo M1 M2 ∧ (M1 ((92 : Nat) : Int) ((14 : Nat) : Int) ≠ 0 → M2 ((92 : Nat) : Int) ((14 : Nat) : Int) ≠ 0)) ?_ ?_)
  · by_cases hd : ufn Z (zVi B s (i + 1)) < ub Z
    · rw [htw, decide_eq_true hd]
      ((with_reducible refine i_If (i_cZ_ne (i_L3 ?_))); rw [zbI_t]; simp only [w_set0, w_set1, w_setn0, w_setn1]; (with_reducible refine i_t (by omega) ?_); (with_reducible refine i_sCall (i_as1 (i_A0 (i_as1 (i_I (i_as1 (i_IA (i_FR (i_A1 ?_))))))))); (with_reducible refine i_fldR (by assumption) ?_); (with_reducible refine i_L2 ?_); (with_reducible refine i_in (by assumption) (by omega) (by omega) ?_); (with_reducible refine i_as0 ?_); (with_reducible refine i_recv0 (by assumption) ?_); (rw [p1]); simp only [w_set0, w_set1, w_setn0, w_setn1])
      refine c_vblame hO hS (f := 3) rfl (by decide) (fun M2 f2 z2 => ⟨rfl, ?_⟩)
      (skip)
      exact ⟨by trivial, f2, fun _ => z2⟩
    · rw [htw, decide_eq_false hd]
      ((with_reducible refine i_If (i_cZ_ne (i_L3 ?_))); rw [zbI_f]; simp only [w_set0, w_set1, w_setn0, w_setn1]; (with_reducible refine i_f (by omega) ?_))
      exact ⟨by trivial, fun _ _ _ => rfl, fun g => by first | exact g | trivial⟩
  rintro ρ M2 ⟨rfl, f2, z2⟩
  have q11 : M2 ((92 : Nat) : Int) ((11 : Nat) : Int) = ((pl0 : Nat) : Int) := by rw [f2 _ _ (by omega)]; exact b11
  have hm0 : (0 : Int) = zmk (fun _ => false) := zmk_0
  ((with_reducible refine i_Seq (i_Set (i_F (i_A0 ?_)))); (with_reducible refine i_fld (by assumption) ?_); (with_reducible refine i_Seq (i_Set (i_I (i_Seq (i_Set (i_Add ?_)))))); (rw [q11]); simp only [w_set0, w_set1, w_setn0, w_setn1]; (with_reducible refine i_L2 (i_I (i_Seq ?_))); rw [zx_inc (by omega)]; simp only [w_set0, w_set1, w_setn0, w_setn1])
  refine w_WhileN N (fun c ρ M' => (∃ (sm : Nat → Bool) (l : zLoc), ρ = ((92 : Nat) : Int) :: ((86 : Nat) : Int) :: ((i + 1 : Nat) : Int) :: zbI tw :: ((pl0 : Nat) : Int) :: zmk sm :: ((i + 2 + c : Nat) : Int) :: l) ∧ (∀ b j, ¬ (b = ((92 : Nat) : Int) ∧ (j = 11 ∨ j = 12 ∨ j = 14 ∨ j = 15) ∨ b = ((97 : Nat) : Int)) → M' b j = M1 b j) ∧ (∃ pl : Nat, M' ((92 : Nat) : Int) ((11 : Nat) : Int) = ((pl : Nat) : Int) ∧ pl0 ≤ pl ∧ pl ≤ 400 ∧ cVr M' pl) ∧ M' ((92 : Nat) : Int) ((12 : Nat) : Int) = zmk (fun q => decide ((R c).1 q ≠ 999)) ∧ ((M1 ((92 : Nat) : Int) ((14 : Nat) : Int) ≠ 0 ∨ ∃ c', c' < c ∧ bad c' = true) → M' ((92 : Nat) : Int) ((14 : Nat) : Int) ≠ 0)) ⟨⟨fun _ => false, [], by rw [← hm0] <;> rfl⟩, fun b j q => f2 b j (by omega), ⟨pl0, q11, Nat.le_refl _, bpl, fun j hj => by rw [f2 _ _ (by omega)]; exact brow j hj⟩, ?_, fun g => z2 (g.elim id (fun ⟨c', h, _⟩ => absurd h (Nat.not_lt_zero _)))⟩ ?_ ?_
  · rw [f2 _ _ (by omega), ksn]
    exact zmk_ext fun q _ => by rw [hR0]
  · rintro c ρ M3 X hc ⟨⟨sm, l, rfl⟩, f3, ⟨pl, r1, r2, r3, r4⟩, r5, z3⟩ hX
    have kk := g4 (i + 2 + c) (by omega) (by omega)
    have hjh : i + 2 + c < zhh B s := by omega
    have hT3 : cTa M3 B s := hT.to (fun b j q => f3 b j (by omega))
    have t1 : M3 ((88 : Nat) : Int) ((i + 2 + c : Nat) : Int) = 1 := by rw [(hT3.2.2 _ hjh).1, kk]; rfl
    have t2 := hT3.v1 hjh kk
    have t3 := (hT3.2.2 _ hjh).2.1
    have t4 := hT3.1
    have v4 := zVi_1 hjh kk
    have nn3 : M3 ((92 : Nat) : Int) ((9 : Nat) : Int) = ((n : Nat) : Int) := by rw [f3 _ _ (by omega)]; exact kn
    have hX2 : ∀ (sm' : Nat → Bool) (l : zLoc) (M' : zMem) (pl' : Nat), (∀ b j, ¬ (b = ((92 : Nat) : Int) ∧ (j = 11 ∨ j = 12 ∨ j = 14 ∨ j = 15) ∨ b = ((97 : Nat) : Int)) → M' b j = M1 b j) → M' ((92 : Nat) : Int) ((11 : Nat) : Int) = ((pl' : Nat) : Int) → pl0 ≤ pl' → pl' ≤ 400 → cVr M' pl' → M' ((92 : Nat) : Int) ((12 : Nat) : Int) = zmk (fun q => decide ((R (c + 1)).1 q ≠ 999)) → (M3 ((92 : Nat) : Int) ((14 : Nat) : Int) ≠ 0 ∨ bad c = true → M' ((92 : Nat) : Int) ((14 : Nat) : Int) ≠ 0) → X (((92 : Nat) : Int) :: ((86 : Nat) : Int) :: ((i + 1 : Nat) : Int) :: zbI tw :: ((pl0 : Nat) : Int) :: zmk sm' :: ((i + 2 + c + 1 : Nat) : Int) :: l) M' := fun sm' l M' pl' a b d e f g h => hX _ _ ⟨⟨sm', l, rfl⟩, a, ⟨pl', b, d, e, f⟩, g, fun w => h (by
      rcases w with w | ⟨c', w1, w2⟩
      · exact Or.inl (z3 (Or.inl w))
      · by_cases e : c' = c
        · exact Or.inr (by rw [← e]; exact w2)
        · exact Or.inl (z3 (Or.inr ⟨c', by omega, w2⟩)))⟩
    clear hX hk
    by_cases e1 : n ≤ zVi B s (i + 2 + c)
    · rw [hse1 c e1] at hX2
      generalize zVi B s (i + 2 + c) = v at *
      generalize zps B s (i + 2 + c) = pj at t3
      ((with_reducible refine i_turn (i_cAnd (i_cI_lt (i_L6 (i_F (i_A1 ?_)))))); (with_reducible refine i_fld (by assumption) ?_); (rw [t4]); (with_reducible refine i_t (by omega) ?_); (with_reducible refine i_cI_eq (i_IA (i_FR (i_A1 ?_)))); (with_reducible refine i_fldR (by assumption) ?_); (with_reducible refine i_L6 ?_); (with_reducible refine i_in (by assumption) (by omega) (by omega) ?_); (with_reducible refine i_I ?_); (rw [t1]); simp only [w_set0, w_set1, w_setn0, w_setn1]; (with_reducible refine i_t trivial ?_); (with_reducible refine i_Blk (i_Seq (i_Set (i_Call (i_as1 (i_A0 (i_as1 (i_A1 (i_as1 (i_L6 (i_as0 ?_))))))))))); (with_reducible refine i_recv0 (by assumption) ?_); simp only [w_set0, w_set1, w_setn0, w_setn1])
      refine c_vpostTold hO hS nn3 hn16 (by omega) t2 v4 t3 (fun M4 f4 z4 => ⟨_, rfl, ?_⟩)
      rw [if_neg (by omega)]
      have z5 := z4 (Or.inr e1)
      have p4 : M4 ((92 : Nat) : Int) ((11 : Nat) : Int) = ((pl : Nat) : Int) := by rw [f4 _ _ (by omega)]; exact r1
      have s4 : M4 ((92 : Nat) : Int) ((12 : Nat) : Int) = zmk (fun q => decide ((R c).1 q ≠ 999)) := by rw [f4 _ _ (by omega)]; exact r5
      have w4 : cVr M4 pl := r4.to (fun j => f4 _ _ (by omega))
      have f14 : ∀ b j, ¬ (b = ((92 : Nat) : Int) ∧ (j = 11 ∨ j = 12 ∨ j = 14 ∨ j = 15) ∨ b = ((97 : Nat) : Int)) → M4 b j = M1 b j := fun b j q => by rw [f4 b j (by omega)]; exact f3 b j q
      by_cases hp : pl < 400
      · ((with_reducible refine i_Seq (i_If (i_cI_ne ?_))); rw [w_setT]; (with_reducible refine i_L7 (i_I ?_)); (with_reducible refine i_f (by omega) ?_); (with_reducible refine i_Seq (i_If (i_cI_lt (i_F (i_A0 ?_))))); (with_reducible refine i_fld (by assumption) ?_); (with_reducible refine i_Len (i_FR (i_A0 ?_))); (with_reducible refine i_fldR (by assumption) ?_); (with_reducible refine i_len (by assumption) (by omega) ?_); (rw [p4]); (with_reducible refine i_t (by omega) ?_); (with_reducible refine i_Seq (i_sIA (i_FR (i_A0 ?_)))); (with_reducible refine i_fldR (by assumption) ?_); (with_reducible refine i_F (i_A0 ?_)); (with_reducible refine i_fld (by assumption) ?_); (with_reducible refine i_L7 ?_); (with_reducible refine i_in (by assumption) (by omega) (by omega) ?_); (with_reducible refine i_FO (i_A0 ?_)); (with_reducible refine i_fld (by assumption) ?_); (with_reducible refine i_I ?_); (with_reducible refine i_fld (by assumption) ?_); (with_reducible refine i_Inc6 ?_); rw [zg_n _ _ _ (by omega)]; (rw [p4]); rw [zx_inc (by omega)]; rw [zx_inc (by omega)]; simp only [w_set0, w_set1, w_setn0, w_setn1])
        exact hX2 sm _ _ (pl + 1) (fun b j q => by rw [zg_o _ _ (by omega), zg_o _ _ (by omega)]; exact f14 b j q) (zg_s _ _ _ _ _) (by omega) (by omega) (w4.st (x := -1) (Or.inl rfl) (by rw [zput_ne _ _ (by omega), zput_self])) (by rw [zg_o _ _ (by omega), zg_o _ _ (by omega)]; exact s4) (fun _ => by rw [zg_o _ _ (by omega), zg_o _ _ (by omega)]; exact z5)
      · ((with_reducible refine i_Seq (i_If (i_cI_ne ?_))); rw [w_setT]; (with_reducible refine i_L7 (i_I ?_)); (with_reducible refine i_f (by omega) ?_); (with_reducible refine i_Seq (i_If (i_cI_lt (i_F (i_A0 ?_))))); (with_reducible refine i_fld (by assumption) ?_); (with_reducible refine i_Len (i_FR (i_A0 ?_))); (with_reducible refine i_fldR (by assumption) ?_); (with_reducible refine i_len (by assumption) (by omega) ?_); (rw [p4]); (with_reducible refine i_f (by omega) ?_); (with_reducible refine i_Inc6 ?_); rw [zx_inc (by omega)]; simp only [w_set0, w_set1, w_setn0, w_setn1])
        exact hX2 sm _ _ pl f14 p4 r2 r3 w4 s4 (fun _ => z5)
    rw [hse2 c e1] at hX2
    have hv16 : zVi B s (i + 2 + c) < 16 := by omega
    have hbc := hbd2 c
    generalize zVi B s (i + 2 + c) = v at *
    generalize zps B s (i + 2 + c) = pj at t3
    have hor1 : zor (zmk (fun q => decide ((R c).1 q ≠ 999))) (yshl 1 ((v : Nat) : Int)) = zmk (fun q => decide ((R c).1 q ≠ 999) || decide (q = v)) := zmk_or2 _ hv16
    have hor2 : yor (zmk sm) (yshl 1 ((v : Nat) : Int)) = zmk (fun q => sm q || decide (q = v)) := zmk_or1 _ hv16
    -- behind the blame, if there was one
    by_cases e2 : (R c).1 v = 999
    · have hsb : decide ((R c).1 v ≠ 999) = false := decide_eq_false (fun z => z e2)
      have hb0 : yand (yshr (zmk (fun q => decide ((R c).1 q ≠ 999))) ((v : Nat) : Int)) 1 = 0 := by rw [yand_1 _ hv16, if_neg (by rw [hsb]; decide)]
      have hnb : ¬ bad c = true := fun w => (hbc w).elim e1 (fun w => w e2)
      ((with_reducible refine i_turn (i_cAnd (i_cI_lt (i_L6 (i_F (i_A1 ?_)))))); (with_reducible refine i_fld (by assumption) ?_); (rw [t4]); (with_reducible refine i_t (by omega) ?_); (with_reducible refine i_cI_eq (i_IA (i_FR (i_A1 ?_)))); (with_reducible refine i_fldR (by assumption) ?_); (with_reducible refine i_L6 ?_); (with_reducible refine i_in (by assumption) (by omega) (by omega) ?_); (with_reducible refine i_I ?_); (rw [t1]); simp only [w_set0, w_set1, w_setn0, w_setn1]; (with_reducible refine i_t trivial ?_); (with_reducible refine i_Blk (i_Seq (i_Set (i_Call (i_as1 (i_A0 (i_as1 (i_A1 (i_as1 (i_L6 (i_as0 ?_))))))))))); (with_reducible refine i_recv0 (by assumption) ?_); simp only [w_set0, w_set1, w_setn0, w_setn1])
      refine c_vpostTold hO hS nn3 hn16 (by omega) t2 v4 t3 (fun M4 f4 z4 => ⟨_, rfl, ?_⟩)
      rw [if_pos (by omega)]
      have p4 : M4 ((92 : Nat) : Int) ((11 : Nat) : Int) = ((pl : Nat) : Int) := by rw [f4 _ _ (by omega)]; exact r1
      have s4 : M4 ((92 : Nat) : Int) ((12 : Nat) : Int) = zmk (fun q => decide ((R c).1 q ≠ 999)) := by rw [f4 _ _ (by omega)]; exact r5
      have w4 : cVr M4 pl := r4.to (fun j => f4 _ _ (by omega))
      have f14 : ∀ b j, ¬ (b = ((92 : Nat) : Int) ∧ (j = 11 ∨ j = 12 ∨ j = 14 ∨ j = 15) ∨ b = ((97 : Nat) : Int)) → M4 b j = M1 b j := fun b j q => by rw [f4 b j (by omega)]; exact f3 b j q
      have z5 : M3 ((92 : Nat) : Int) ((14 : Nat) : Int) ≠ 0 ∨ bad c = true → M4 ((92 : Nat) : Int) ((14 : Nat) : Int) ≠ 0 := fun w => z4 (w.elim Or.inl (fun w => absurd w hnb))
      by_cases hp : pl < 400
      · ((with_reducible refine i_Seq (i_If (i_cI_ne ?_))); rw [w_setT]; (with_reducible refine i_L7 (i_I ?_)); (with_reducible refine i_t (by omega) ?_); (with_reducible refine i_Seq (i_If (i_cI_eq (i_And (i_Shr (i_F (i_A0 ?_))))))); (with_reducible refine i_fld (by assumption) ?_); (with_reducible refine i_L7 (i_I (i_I ?_))); (rw [s4]); (rw [hb0]); (with_reducible refine i_f (by omega) ?_); (with_reducible refine i_Seq (i_FO (i_A0 ?_))); (with_reducible refine i_fld (by assumption) ?_); (with_reducible refine i_Shl (i_I (i_L7 ?_))); (with_reducible refine i_fld (by assumption) ?_); (with_reducible refine i_Set (i_Or (i_L5 (i_Shl (i_I (i_L7 (i_Seq (i_If (i_cI_lt (i_F ?_)))))))))); (rw [s4]); (rw [hor1]); (rw [hor2]); simp only [w_set0, w_set1, w_setn0, w_setn1]; (with_reducible refine i_A0 ?_); (with_reducible refine i_fld (by assumption) ?_); (with_reducible refine i_Len (i_FR (i_A0 ?_))); (with_reducible refine i_fldR (by assumption) ?_); (with_reducible refine i_len (by assumption) (by omega) ?_); rw [zg_m _ _ _ _ _ (by omega)]; (rw [p4]); (with_reducible refine i_t (by omega) ?_); (with_reducible refine i_Seq (i_sIA (i_FR (i_A0 ?_)))); (with_reducible refine i_fldR (by assumption) ?_); (with_reducible refine i_F (i_A0 ?_)); (with_reducible refine i_fld (by assumption) ?_); (with_reducible refine i_L7 ?_); rw [zg_m _ _ _ _ _ (by omega)]; (with_reducible refine i_in (by assumption) (by omega) (by omega) ?_); (with_reducible refine i_FO (i_A0 ?_)); (with_reducible refine i_fld (by assumption) ?_); (with_reducible refine i_I ?_); (with_reducible refine i_fld (by assumption) ?_); (with_reducible refine i_Inc6 ?_); rw [zg_n _ _ _ (by omega)]; rw [zg_m _ _ _ _ _ (by omega)]; (rw [p4]); rw [zx_inc (by omega)]; rw [zx_inc (by omega)]; simp only [w_set0, w_set1, w_setn0, w_setn1])
        exact hX2 _ _ _ (pl + 1) (fun b j q => by rw [zg_o _ _ (by omega), zg_o _ _ (by omega), zg_o _ _ (by omega)]; exact f14 b j q) (zg_s _ _ _ _ _) (by omega) (by omega) (w4.st (x := ((v : Nat) : Int)) (Or.inr ⟨v, hv16, rfl⟩) (by rw [zput_ne _ _ (by omega), zput_self]; first | done | rw [zput_ne _ _ (by omega)])) (by rw [zg_o _ _ (by omega), zg_o _ _ (by omega), zg_s]) (fun w => by rw [zg_o _ _ (by omega), zg_o _ _ (by omega), zg_o _ _ (by omega)]; exact z5 w)
      · ((with_reducible refine i_Seq (i_If (i_cI_ne ?_))); rw [w_setT]; (with_reducible refine i_L7 (i_I ?_)); (with_reducible refine i_t (by omega) ?_); (with_reducible refine i_Seq (i_If (i_cI_eq (i_And (i_Shr (i_F (i_A0 ?_))))))); (with_reducible refine i_fld (by assumption) ?_); (with_reducible refine i_L7 (i_I (i_I ?_))); (rw [s4]); (rw [hb0]); (with_reducible refine i_f (by omega) ?_); (with_reducible refine i_Seq (i_FO (i_A0 ?_))); (with_reducible refine i_fld (by assumption) ?_); (with_reducible refine i_Shl (i_I (i_L7 ?_))); (with_reducible refine i_fld (by assumption) ?_); (with_reducible refine i_Set (i_Or (i_L5 (i_Shl (i_I (i_L7 (i_Seq (i_If (i_cI_lt (i_F ?_)))))))))); (rw [s4]); (rw [hor1]); (rw [hor2]); simp only [w_set0, w_set1, w_setn0, w_setn1]; (with_reducible refine i_A0 ?_); (with_reducible refine i_fld (by assumption) ?_); (with_reducible refine i_Len (i_FR (i_A0 ?_))); (with_reducible refine i_fldR (by assumption) ?_); (with_reducible refine i_len (by assumption) (by omega) ?_); rw [zg_m _ _ _ _ _ (by omega)]; (rw [p4]); (with_reducible refine i_f (by omega) ?_); (with_reducible refine i_Inc6 ?_); rw [zx_inc (by omega)]; simp only [w_set0, w_set1, w_setn0, w_setn1])
        exact hX2 _ _ _ pl (fun b j q => by rw [zg_o _ _ (by omega)]; exact f14 b j q) (by rw [zg_o _ _ (by omega)]; exact p4) r2 r3 (w4.to (fun j => by rw [zg_o _ _ (by omega)])) (zg_s _ _ _ _ _) (fun w => by rw [zg_o _ _ (by omega)]; exact z5 w)
    · have hsb : decide ((R c).1 v ≠ 999) = true := decide_eq_true e2
      have hb0 : yand (yshr (zmk (fun q => decide ((R c).1 q ≠ 999))) ((v : Nat) : Int)) 1 = 1 := by rw [yand_1 _ hv16, if_pos (by exact hsb)]
      ((with_reducible refine i_turn (i_cAnd (i_cI_lt (i_L6 (i_F (i_A1 ?_)))))); (with_reducible refine i_fld (by assumption) ?_); (rw [t4]); (with_reducible refine i_t (by omega) ?_); (with_reducible refine i_cI_eq (i_IA (i_FR (i_A1 ?_)))); (with_reducible refine i_fldR (by assumption) ?_); (with_reducible refine i_L6 ?_); (with_reducible refine i_in (by assumption) (by omega) (by omega) ?_); (with_reducible refine i_I ?_); (rw [t1]); simp only [w_set0, w_set1, w_setn0, w_setn1]; (with_reducible refine i_t trivial ?_); (with_reducible refine i_Blk (i_Seq (i_Set (i_Call (i_as1 (i_A0 (i_as1 (i_A1 (i_as1 (i_L6 (i_as0 ?_))))))))))); (with_reducible refine i_recv0 (by assumption) ?_); simp only [w_set0, w_set1, w_setn0, w_setn1])
      refine c_vpostTold hO hS nn3 hn16 (by omega) t2 v4 t3 (fun M4 f4 z4 => ⟨_, rfl, ?_⟩)
      rw [if_pos (by omega)]
      have s4 : M4 ((92 : Nat) : Int) ((12 : Nat) : Int) = zmk (fun q => decide ((R c).1 q ≠ 999)) := by rw [f4 _ _ (by omega)]; exact r5
      have t34 : M4 ((89 : Nat) : Int) ((i + 2 + c : Nat) : Int) = ((pj : Nat) : Int) := by rw [f4 _ _ (by omega)]; exact t3
      ((with_reducible refine i_Seq (i_If (i_cI_ne ?_))); rw [w_setT]; (with_reducible refine i_L7 (i_I ?_)); (with_reducible refine i_t (by omega) ?_); (with_reducible refine i_Seq (i_If (i_cI_eq (i_And (i_Shr (i_F (i_A0 ?_))))))); (with_reducible refine i_fld (by assumption) ?_); (with_reducible refine i_L7 (i_I (i_I ?_))); (rw [s4]); (rw [hb0]); simp only [w_set0, w_set1, w_setn0, w_setn1]; (with_reducible refine i_t trivial ?_); (with_reducible refine i_sCall (i_as1 (i_A0 (i_as1 (i_I (i_as1 (i_IA (i_FR (i_A1 ?_))))))))); (with_reducible refine i_fldR (by assumption) ?_); (with_reducible refine i_L6 ?_); (with_reducible refine i_in (by assumption) (by omega) (by omega) ?_); (with_reducible refine i_as0 ?_); (with_reducible refine i_recv0 (by assumption) ?_); (rw [t34]))
      refine c_vblame hO hS (f := 3) rfl (by decide) (fun M5 f5 z5 => ⟨rfl, ?_⟩)
      have p5 : M5 ((92 : Nat) : Int) ((11 : Nat) : Int) = ((pl : Nat) : Int) := by rw [f5 _ _ (by omega), f4 _ _ (by omega)]; exact r1
      have s5 : M5 ((92 : Nat) : Int) ((12 : Nat) : Int) = zmk (fun q => decide ((R c).1 q ≠ 999)) := by rw [f5 _ _ (by omega)]; exact s4
      have w5 : cVr M5 pl := r4.to (fun j => by rw [f5 _ _ (by omega), f4 _ _ (by omega)])
      have f15 : ∀ b j, ¬ (b = ((92 : Nat) : Int) ∧ (j = 11 ∨ j = 12 ∨ j = 14 ∨ j = 15) ∨ b = ((97 : Nat) : Int)) → M5 b j = M1 b j := fun b j q => by rw [f5 b j (by omega), f4 b j (by omega)]; exact f3 b j q
      by_cases hp : pl < 400
      · ((with_reducible refine i_Seq (i_FO (i_A0 ?_))); (with_reducible refine i_fld (by assumption) ?_); (with_reducible refine i_Shl (i_I (i_L7 ?_))); (with_reducible refine i_fld (by assumption) ?_); (with_reducible refine i_Set (i_Or (i_L5 (i_Shl (i_I (i_L7 (i_Seq (i_If (i_cI_lt (i_F ?_)))))))))); (rw [s5]); (rw [hor1]); (rw [hor2]); simp only [w_set0, w_set1, w_setn0, w_setn1]; (with_reducible refine i_A0 ?_); (with_reducible refine i_fld (by assumption) ?_); (with_reducible refine i_Len (i_FR (i_A0 ?_))); (with_reducible refine i_fldR (by assumption) ?_); (with_reducible refine i_len (by assumption) (by omega) ?_); rw [zg_m _ _ _ _ _ (by omega)]; (rw [p5]); (with_reducible refine i_t (by omega) ?_); (with_reducible refine i_Seq (i_sIA (i_FR (i_A0 ?_)))); (with_reducible refine i_fldR (by assumption) ?_); (with_reducible refine i_F (i_A0 ?_)); (with_reducible refine i_fld (by assumption) ?_); (with_reducible refine i_L7 ?_); rw [zg_m _ _ _ _ _ (by omega)]; (with_reducible refine i_in (by assumption) (by omega) (by omega) ?_); (with_reducible refine i_FO (i_A0 ?_)); (with_reducible refine i_fld (by assumption) ?_); (with_reducible refine i_I ?_); (with_reducible refine i_fld (by assumption) ?_); (with_reducible refine i_Inc6 ?_); rw [zg_n _ _ _ (by omega)]; rw [zg_m _ _ _ _ _ (by omega)]; (rw [p5]); rw [zx_inc (by omega)]; rw [zx_inc (by omega)]; simp only [w_set0, w_set1, w_setn0, w_setn1])
        exact hX2 _ _ _ (pl + 1) (fun b j q => by rw [zg_o _ _ (by omega), zg_o _ _ (by omega), zg_o _ _ (by omega)]; exact f15 b j q) (zg_s _ _ _ _ _) (by omega) (by omega) (w5.st (x := ((v : Nat) : Int)) (Or.inr ⟨v, hv16, rfl⟩) (by rw [zput_ne _ _ (by omega), zput_self]; first | done | rw [zput_ne _ _ (by omega)])) (by rw [zg_o _ _ (by omega), zg_o _ _ (by omega), zg_s]) (fun w => by rw [zg_o _ _ (by omega), zg_o _ _ (by omega), zg_o _ _ (by omega)]; exact z5)
      · ((with_reducible refine i_Seq (i_FO (i_A0 ?_))); (with_reducible refine i_fld (by assumption) ?_); (with_reducible refine i_Shl (i_I (i_L7 ?_))); (with_reducible refine i_fld (by assumption) ?_); (with_reducible refine i_Set (i_Or (i_L5 (i_Shl (i_I (i_L7 (i_Seq (i_If (i_cI_lt (i_F ?_)))))))))); (rw [s5]); (rw [hor1]); (rw [hor2]); simp only [w_set0, w_set1, w_setn0, w_setn1]; (with_reducible refine i_A0 ?_); (with_reducible refine i_fld (by assumption) ?_); (with_reducible refine i_Len (i_FR (i_A0 ?_))); (with_reducible refine i_fldR (by assumption) ?_); (with_reducible refine i_len (by assumption) (by omega) ?_); rw [zg_m _ _ _ _ _ (by omega)]; (rw [p5]); (with_reducible refine i_f (by omega) ?_); (with_reducible refine i_Inc6 ?_); rw [zx_inc (by omega)]; simp only [w_set0, w_set1, w_setn0, w_setn1])
        exact hX2 _ _ _ pl (fun b j q => by rw [zg_o _ _ (by omega)]; exact f15 b j q) (by rw [zg_o _ _ (by omega)]; exact p5) r2 r3 (w5.to (fun j => by rw [zg_o _ _ (by omega)])) (zg_s _ _ _ _ _) (fun w => by rw [zg_o _ _ (by omega)]; exact z5)
  · rintro ρ M3 X ⟨⟨sm, l, rfl⟩, f3, ⟨pl, r1, r2, r3, r4⟩, r5, z3⟩
    rw [← hseN] at r5
    have zF := z3 hbad
    have hT3 : cTa M3 B s := hT.to (fun b j q => f3 b j (by omega))
    have hjh : i + 2 + N < zhh B s := by omega
    have t1 : M3 ((88 : Nat) : Int) ((i + 2 + N : Nat) : Int) = 2 := by rw [(hT3.2.2 _ hjh).1, g5]; rfl
    have t4 := hT3.1
    have b3 : M3 ((92 : Nat) : Int) ((10 : Nat) : Int) = ((urk Z (ub Z) : Nat) : Int) := by rw [f3 _ _ (by omega)]; exact knm.1
    have v13 : M3 ((90 : Nat) : Int) ((i + 1 : Nat) : Int) = ((zVi B s (i + 1) : Nat) : Int) := by rw [f3 _ _ (by omega)]; exact v1
    have hold : ∀ b, b < ub Z → zNew (un Zn) b = true → M3 ((93 : Nat) : Int) ((urk Zn b : Nat) : Int) = ((un Zn b : Nat) : Int) := fun b hb hn => by
      rw [hnw b hb] at hn
      rw [hrkn b (by omega), hunn2 b hb, f3 _ _ (by omega)]
      exact knm.2 b hb hn
    have fin : ∀ M', (∀ b j, ¬ (b = ((92 : Nat) : Int) ∧ j = 10 ∨ ((93 : Nat) : Int) ≤ b ∧ b ≤ ((96 : Nat) : Int)) → M' b j = M3 b j) → cZm M' Zn → cVb M' (urk Zn (ub Zn)) → K (some (0, ((i + 2 + N + 1 : Nat) : Int))) M' := fun M' e h1 h2 => hk M' (fun b j q => by rw [e b j (by omega)]; exact f3 b j (by omega)) ⟨⟨by rw [e _ _ (by omega), f3 _ _ (by omega)]; exact kn, h1, by rw [e _ _ (by omega)]; exact r5⟩, h2, hw0.to (by rw [e _ _ (by omega), f3 _ _ (by omega)]), hn0.to (fun b j q => by rw [e b j (by omega)]; exact f3 b j (by omega)), by rw [e _ _ (by omega)]; exact zF⟩
    have hbo : ∀ b : Nat, b < urk Z (ub Z) → (∃ t : Nat → Bool, M3 ((94 : Nat) : Int) ((b : Nat) : Int) = zmk t) ∧ ∃ f c : Nat, M3 ((95 : Nat) : Int) ((b : Nat) : Int) = ((f : Nat) : Int) ∧ M3 ((96 : Nat) : Int) ((b : Nat) : Int) = ((c : Nat) : Int) ∧ f + c ≤ pl := fun b hb => by
      obtain ⟨⟨t, y1⟩, f, c, y2, y3, y4⟩ := bbox b hb
      exact ⟨⟨t, by rw [f3 _ _ (by omega)]; exact y1⟩, f, c, by rw [f3 _ _ (by omega)]; exact y2, by rw [f3 _ _ (by omega)]; exact y3, by omega⟩
    by_cases hd : ufn Z (zVi B s (i + 1)) < ub Z
    · have hnf : zNew (un Zn) (ub Z) = false := by rw [hnl]; exact decide_eq_false (by omega)
      rw [hnf, if_neg (by decide), Nat.add_zero] at hrs
      rw [htw, decide_eq_true hd]
      ((with_reducible refine i_turn (i_cAnd (i_cI_lt (i_L6 (i_F (i_A1 ?_)))))); (with_reducible refine i_fld (by assumption) ?_); rw [zbI_t]; (rw [t4]); (with_reducible refine i_t (by omega) ?_); (with_reducible refine i_cI_eq (i_IA (i_FR (i_A1 ?_)))); (with_reducible refine i_fldR (by assumption) ?_); (with_reducible refine i_L6 ?_); (with_reducible refine i_in (by assumption) (by omega) (by omega) ?_); (with_reducible refine i_I ?_); (rw [t1]); (with_reducible refine i_f (by omega) ?_); (with_reducible refine i_Seq (i_If (i_cAnd (i_cNot (i_cZ_ne (i_L3 ?_)))))); (with_reducible refine i_t (by omega) ?_); (with_reducible refine i_RetI (i_Add (i_L6 (i_I ?_)))); rw [zx_inc (by omega)])
      refine fin M3 (fun _ _ _ => rfl) ⟨by rw [hubn, hrs]; exact b3, fun b hb hn => ?_⟩ ⟨pl, r1, r3, r4, fun b hb => hbo b (by rw [hubn, hrs] at hb; exact hb)⟩
      rw [hubn] at hb
      by_cases e : b = ub Z
      · rw [e, hnf] at hn; cases hn
      · exact hold b (by omega) hn
    · have hnt : zNew (un Zn) (ub Z) = true := by
        rw [hnl]
        have := zfl_le (un Z) (zVi B s (i + 1)) (ub Z)
        unfold ufn at hd ⊢
        exact decide_eq_true (by omega)
      rw [hnt, if_pos rfl] at hrs
      rw [htw, decide_eq_false hd]
      have hrz : urk Zn (ub Z) = urk Z (ub Z) := hrkn _ (Nat.le_refl _)
      generalize urk Z (ub Z) = k0 at *
      have hsz : (((pl : Nat) : Int) - ((pl0 : Nat) : Int) : Int) = ((pl - pl0 : Nat) : Int) := by omega
      ((with_reducible refine i_turn (i_cAnd (i_cI_lt (i_L6 (i_F (i_A1 ?_)))))); (with_reducible refine i_fld (by assumption) ?_); rw [zbI_f]; (rw [t4]); (with_reducible refine i_t (by omega) ?_); (with_reducible refine i_cI_eq (i_IA (i_FR (i_A1 ?_)))); (with_reducible refine i_fldR (by assumption) ?_); (with_reducible refine i_L6 ?_); (with_reducible refine i_in (by assumption) (by omega) (by omega) ?_); (with_reducible refine i_I ?_); (rw [t1]); (with_reducible refine i_f (by omega) ?_); (with_reducible refine i_Seq (i_If (i_cAnd (i_cNot (i_cZ_ne (i_L3 ?_)))))); (with_reducible refine i_f (by omega) ?_); (with_reducible refine i_cI_lt (i_F (i_A0 ?_))); (with_reducible refine i_fld (by assumption) ?_); (with_reducible refine i_I ?_); (rw [b3]); (with_reducible refine i_t (by omega) ?_); (with_reducible refine i_Seq (i_sLA (i_FR (i_A0 ?_)))); (with_reducible refine i_fldR (by assumption) ?_); (with_reducible refine i_F (i_A0 ?_)); (with_reducible refine i_fld (by assumption) ?_); (with_reducible refine i_LA (i_FR (i_A1 ?_))); (with_reducible refine i_fldR (by assumption) ?_); (with_reducible refine i_L2 ?_); (with_reducible refine i_in (by assumption) (by omega) (by omega) ?_); (with_reducible refine i_in (by assumption) (by omega) (by omega) ?_); (with_reducible refine i_Seq (i_sIA (i_FR (i_A0 ?_)))); (with_reducible refine i_fldR (by assumption) ?_); (with_reducible refine i_F (i_A0 ?_)); (with_reducible refine i_fld (by assumption) ?_); (with_reducible refine i_L5 ?_); rw [zg_n _ _ _ (by omega)]; (with_reducible refine i_in (by assumption) (by omega) (by omega) ?_); (with_reducible refine i_Seq (i_sIA (i_FR (i_A0 ?_)))); (with_reducible refine i_fldR (by assumption) ?_); (with_reducible refine i_F (i_A0 ?_)); (with_reducible refine i_fld (by assumption) ?_); (with_reducible refine i_L4 ?_); rw [zg_n _ _ _ (by omega)]; rw [zg_n _ _ _ (by omega)]; (with_reducible refine i_in (by assumption) (by omega) (by omega) ?_); (with_reducible refine i_Seq (i_sIA (i_FR (i_A0 ?_)))); (with_reducible refine i_fldR (by assumption) ?_); (with_reducible refine i_F (i_A0 ?_)); (with_reducible refine i_fld (by assumption) ?_); (with_reducible refine i_Sub (i_F (i_A0 ?_))); (with_reducible refine i_fld (by assumption) ?_); (with_reducible refine i_L4 ?_); rw [zg_n _ _ _ (by omega)]; rw [zg_n _ _ _ (by omega)]; rw [zg_n _ _ _ (by omega)]; (with_reducible refine i_in (by assumption) (by omega) (by omega) ?_); (with_reducible refine i_FO (i_A0 ?_)); (with_reducible refine i_fld (by assumption) ?_); (with_reducible refine i_I ?_); (with_reducible refine i_fld (by assumption) ?_); (with_reducible refine i_RetI (i_Add (i_L6 (i_I ?_)))); rw [zg_n _ _ _ (by omega)]; rw [zg_n _ _ _ (by omega)]; rw [zg_n _ _ _ (by omega)]; rw [zg_n _ _ _ (by omega)]; rw [zg_n _ _ _ (by omega)]; rw [zg_n _ _ _ (by omega)]; rw [zg_n _ _ _ (by omega)]; (rw [b3]); (rw [v13]); (rw [r1]); rw [zx_inc (by omega)]; rw [zx_inc (by omega)]; rw [zx_sub (by omega) (by omega)])
      refine fin _ (fun b j q => by rw [zg_o _ _ (by omega), zg_o _ _ (by omega), zg_o _ _ (by omega), zg_o _ _ (by omega), zg_o _ _ (by omega)]) ⟨by rw [hubn, hrs]; exact zg_s _ _ _ _ _, fun b hb hn => ?_⟩ ⟨pl, by rw [zg_o _ _ (by omega), zg_o _ _ (by omega), zg_o _ _ (by omega), zg_o _ _ (by omega), zg_o _ _ (by omega)]; exact r1, r3, r4.to (fun j => by rw [zg_o _ _ (by omega), zg_o _ _ (by omega), zg_o _ _ (by omega), zg_o _ _ (by omega), zg_o _ _ (by omega)]), fun b hb => ?_⟩
      · rw [hubn] at hb
        by_cases e : b = ub Z
        · subst e
          rw [hrz, hunn]
          rw [zg_n _ _ _ (by omega), zg_n _ _ _ (by omega), zg_n _ _ _ (by omega), zg_n _ _ _ (by omega), zg_s]
        · have hlt := hrlt b (by omega) hn
          rw [zg_o _ _ (by omega), zg_o _ _ (by omega), zg_o _ _ (by omega), zg_o _ _ (by omega), zg_o _ _ (by omega)]
          exact hold b (by omega) hn
      · rw [hubn, hrs] at hb
        by_cases e : b = k0
        · subst e
          refine ⟨⟨sm, by rw [zg_n _ _ _ (by omega), zg_n _ _ _ (by omega), zg_n _ _ _ (by omega), zg_s]⟩, pl0, pl - pl0, by rw [zg_n _ _ _ (by omega), zg_n _ _ _ (by omega), zg_s], by rw [zg_n _ _ _ (by omega), zg_s] <;> omega, by omega⟩
        · obtain ⟨⟨t, y1⟩, f, c, y2, y3, y4⟩ := hbo b (by omega)
          exact ⟨⟨t, by rw [zg_o _ _ (by omega), zg_o _ _ (by omega), zg_o _ _ (by omega), zg_o _ _ (by omega), zg_o _ _ (by omega)]; exact y1⟩, f, c, by rw [zg_o _ _ (by omega), zg_o _ _ (by omega), zg_o _ _ (by omega), zg_o _ _ (by omega), zg_o _ _ (by omega)]; exact y2, by rw [zg_o _ _ (by omega), zg_o _ _ (by omega), zg_o _ _ (by omega), zg_o _ _ (by omega), zg_o _ _ (by omega)]; exact y3, y4⟩
theorem us1_1 (B : Nat → Nat) (s k : Nat) (Z : zZt) (i : Nat) : (us1 B s k Z i).1 = Z.1 := by
  unfold us1
  split
  · show (if _ then _ else _ : zZt).1 = _
    split <;> rfl
  · rfl
theorem ukb_1 (Z : zZt) (v p : Nat) : (ukb Z v p).1 = Z.1 := by unfold ukb; split <;> rfl
theorem ukp_1 (n : Nat) (Z : zZt) (v p : Nat) : (ukp n Z v p).1 = Z.1 := by unfold ukp; split <;> rfl
theorem us2_1 (B : Nat → Nat) (s : Nat) (Z : zZt) (i : Nat) : (us2 B s Z i).1 = Z.1 := by
  unfold us2
  (try dsimp only)
  split
  · show (if _ then _ else _ : zZt).1 = _
    split
    · show (ukb _ _ _).1 = _
      rw [ukb_1, ukb_1]
    · rw [ukb_1, ukb_1]
  · rw [ukb_1, ukb_1]
theorem uif_1 {c : Prop} [Decidable c] (Y : zZt) (x : Nat) : (if c then ubl Y x else Y).1 = Y.1 := by split <;> rfl
theorem us3_1 (B : Nat → Nat) (s n : Nat) (Z : zZt) (i : Nat) : (us3 B s n Z i).1 = Z.1 := by
  unfold us3
  (try dsimp only)
  split
  · exact (uif_1 _ _).trans (by rw [ukb_1, ukp_1])
  · rw [ukb_1, ukp_1]
theorem us4_1 (B : Nat → Nat) (s n : Nat) (also : Bool) (Z : zZt) (i : Nat) : (us4 B s n also Z i).1 = Z.1 := by
  unfold us4
  (try dsimp only)
  split
  · show (if _ then _ else _ : zZt).1 = _
    split
    · show (if _ then _ else _ : zZt).1 = _
      split
      · show (ukp _ _ _ _).1 = _
        rw [ukp_1, ukp_1]
      · rw [ukp_1, ukp_1]
    · split
      · show (ukp _ _ _ _).1 = _
        rw [ukp_1, ukp_1]
      · rw [ukp_1, ukp_1]
  · rw [ukp_1, ukp_1]
/-- behind a word: what it says comes in -/
theorem cVn.x1 {M M' : zMem} {n : Nat} {T : Nat → Nat → Bool} (h : cVn M n) (f : ∀ b j, ¬ b = ((102 : Nat) : Int) → M' b j = M b j) (h1 : zNR M' 101 n T) : cVn M' n := by
  obtain ⟨-, U, b1, b2⟩ := h
  exact ⟨⟨_, h1⟩, U, by rw [f _ _ (by omega)]; exact b1, fun p hp => by rw [f _ _ (by omega)]; exact b2 p hp⟩
theorem cZv.x1 {M M' : zMem} {n : Nat} {Z : zZt} {T : Nat → Nat → Bool} (h : cZv M n Z) (f : ∀ b j, ¬ b = ((102 : Nat) : Int) → M' b j = M b j) (h1 : zNR M' 101 n T) : cZv M' n Z :=
  ⟨h.1.to (fun b j q => f b j (by omega)) rfl, h.2.1.to (fun b j q => f b j (by omega)), h.2.2.1.to (f _ _ (by omega)), h.2.2.2.1.x1 f h1, by rw [f _ _ (by omega)]; exact h.2.2.2.2⟩
theorem cZv.w1 {M M' : zMem} {n : Nat} {Z : zZt} (h : cZv M n Z) (f : ∀ b j, ¬ (b = ((92 : Nat) : Int) ∧ (j = 13 ∨ j = 14 ∨ j = 15) ∨ ((98 : Nat) : Int) ≤ b ∧ b ≤ ((100 : Nat) : Int)) → M' b j = M b j) (hw : cVw M') (hf : M ((92 : Nat) : Int) ((14 : Nat) : Int) ≠ 0 → M' ((92 : Nat) : Int) ((14 : Nat) : Int) ≠ 0) : cZv M' n Z :=
  ⟨h.1.to (fun b j q => f b j (by omega)) rfl, h.2.1.to (fun b j q => f b j (by omega)), hw, h.2.2.2.1.to (fun b j q => f b j (by omega)), hf h.2.2.2.2⟩
set_option maxHeartbeats 1600000 in
theorem c_vtakeOfBox {O : zOm} (hO : zWld O) (hS : zS O = zmS zC0) {i s n k : Nat} {ki : Int} {B : Nat → Nat} {Z : zZt} {M : zMem} {K : Option zV → zMem → Prop} (hki : ki = ((k : Nat) : Int)) (hn16 : n ≤ 16) (hq0 : zqs B s (zhh B s) = 0) (hi : i < zhh B s) (hq : zqs B s i = 0) (hK : zKi B s i = 4 ∨ zKi B s i = 5) (hk03 : k = 0 ∨ k = 3) (hub : ub Z ≤ 100) (hT : cTa M B s) (hZ : cZv M n Z)
    (hk : ∀ M', cXF M M' → cZv M' n Z → K none M') : zR O F_Text_takeOfBox [(2, ((92 : Nat) : Int)), (2, ((86 : Nat) : Int)), (0, ((i : Nat) : Int)), (0, ki)] M K := by
  subst hki
  have h400 := (zhh_ok B s).1
  have n100 := zNet101 hS
  have n100o := n100.2.2.2
  have a97 := zCA (a := 97) (ty := .int) (n := 400) hS rfl
  obtain ⟨g1, g2, g3, g4⟩ := zgr_45 hq0 hi hq hK
  have v1 := hT.v0 (show i + 1 < zhh B s by omega) g1
  have p1 := (hT.2.2 (i + 1) (by omega)).2.1
  have p0 := (hT.2.2 i hi).2.1
  have hrk := urk_le Z (ub Z)
  generalize zVi B s (i + 1) = v at v1
  generalize zps B s (i + 1) = pp1 at *
  generalize zps B s i = pp0 at *
  apply r_Text_takeOfBox hO
  unfold B_Text_takeOfBox
  have f92_1 := zf_92_1 hS; have a94 := zCA (a := 94) (ty := .int) (n := 100) hS rfl; have f86_2 := zf_86_2 hS; have a89 := zCA (a := 89) (ty := .int) (n := 400) hS rfl; have f92_7 := zf_92_7 hS; have f92_3 := zf_92_3 hS; have a97 := zCA (a := 97) (ty := .int) (n := 400) hS rfl; have f92_2 := zf_92_2 hS; have a95 := zCA (a := 95) (ty := .int) (n := 100) hS rfl; have f92_16 := zf_92_16 hS; have a96 := zCA (a := 96) (ty := .int) (n := 100) hS rfl; have z86 := zo_86 hS; have z92 := zo_92 hS
  ((with_reducible refine i_Seq (i_Seq (i_Set (i_Call (i_as1 (i_A0 (i_as1 (i_A1 (i_as1 (i_Add (i_L2 (i_I (i_as0 ?_))))))))))))); (with_reducible refine i_recv0 (by assumption) ?_); rw [zx_inc (by omega)]; simp only [w_set0, w_set1, w_setn0, w_setn1])
  refine c_vboxNamed hO hS hZ.1.2.1 hub (by omega) v1 p1 (fun M1 f1 z1 => ⟨_, rfl, ?_⟩)
  have hZ1 : cZv M1 n Z := hZ.fo f1 rfl (z1 hZ.2.2.2.2)
  have x1 : cXF M M1 := cXF.bl f1
  by_cases e : ufn Z v < ub Z
  · rw [show uRI Z v = ((urk Z (ufn Z v) : Nat) : Int) from if_pos e]
    have hrl := zcnt_lt (zNew (un Z)) e (ufn_new e)
    have hrl2 : urk Z (ufn Z v) < urk Z (ub Z) := hrl
    generalize urk Z (ufn Z v) = x at *
    have p11 : M1 ((89 : Nat) : Int) ((i + 1 : Nat) : Int) = ((pp1 : Nat) : Int) := by rw [f1 _ _ (by omega)]; exact p1
    have p01 : M1 ((89 : Nat) : Int) ((i : Nat) : Int) = ((pp0 : Nat) : Int) := by rw [f1 _ _ (by omega)]; exact p0
    have said : ∀ (M3 : zMem), cXF M M3 → cZv M3 n Z → (∃ sm : Nat → Bool, M3 ((94 : Nat) : Int) ((x : Nat) : Int) = zmk sm ∧ (k = 0 → zR O F_Net_cross [(2, ((101 : Nat) : Int)), (0, zmk sm), (0, zmk sm)] M3 (fun v M5 => v = none ∧ K none M5))) ∧ ∃ f c : Nat, M3 ((95 : Nat) : Int) ((x : Nat) : Int) = ((f : Nat) : Int) ∧ M3 ((96 : Nat) : Int) ((x : Nat) : Int) = ((c : Nat) : Int) ∧ (k = 3 → zR O F_Net_chain [(2, ((101 : Nat) : Int)), (2, ((97 : Nat) : Int)), (0, ((f : Nat) : Int)), (0, ((c : Nat) : Int))] M3 (fun v M5 => v = none ∧ K none M5)) := fun M3 x3 z3 => by
      obtain ⟨pl, r1, r2, r3, r4⟩ := z3.2.1
      obtain ⟨⟨sm, y1⟩, f, c, y2, y3, y4⟩ := r4 x hrl2
      obtain ⟨T, hN⟩ := z3.2.2.2.1.1
      refine ⟨⟨sm, y1, fun _ => s_Net_cross hO n100 hN hn16 (fun M5 f5 h5 => ⟨rfl, ?_⟩)⟩, f, c, y2, y3, fun _ => s_Net_chainV hO n100 hN a97 (fun j j1 j2 => r3 j (by omega)) (by omega) (by decide) (by decide) (fun M5 f5 h5 => ⟨rfl, ?_⟩)⟩
      · have f5' : ∀ b j, ¬ b = ((102 : Nat) : Int) → M5 b j = M3 b j := fun b j q => by rw [f5 b (by simp <;> omega)]
        exact hk M5 (fun b j q => by rw [f5' b j (by omega)]; exact x3 b j q) (z3.x1 f5' h5)
      · obtain ⟨T', h5⟩ := h5
        have f5' : ∀ b j, ¬ b = ((102 : Nat) : Int) → M5 b j = M3 b j := fun b j q => by rw [f5 b (by simp <;> omega)]
        exact hk M5 (fun b j q => by rw [f5' b j (by omega)]; exact x3 b j q) (z3.x1 f5' h5)
    obtain ⟨pl, -, -, -, r4⟩ := hZ1.2.1
    obtain ⟨⟨sm, y1⟩, -⟩ := r4 x hrl2
    have tail : ∀ (M2 : zMem), cXF M M2 → cZv M2 n Z → ∀ {K2 : Option zV → zMem → Prop}, (∀ M4, cXF M M4 → cZv M4 n Z → K2 none M4) → zR O F_Text_takeWord [(2, ((92 : Nat) : Int)), (0, ((k : Nat) : Int)), (0, ((x : Nat) : Int)), (0, 0), (0, ((pp0 : Nat) : Int))] M2 K2 := fun M2 x2 z2 K2 h => c_vtakeWord hO hS z2.2.2.1 (fun M4 f4 w4 z4 => h M4 (fun b j q => by rw [f4 b j (by omega)]; exact x2 b j q) (z2.w1 f4 w4 z4))
    by_cases e2 : zcnt sm 16 < 2
    · ((with_reducible refine i_Seq (i_If (i_cI_eq (i_L4 (i_I ?_))))); (with_reducible refine i_f (by omega) ?_); (with_reducible refine i_Seq (i_If (i_cI_lt (i_Call (i_as1 (i_IA (i_FR (i_A0 ?_)))))))); (with_reducible refine i_fldR (by assumption) ?_); (with_reducible refine i_L4 ?_); (with_reducible refine i_in (by assumption) (by omega) (by omega) ?_); (with_reducible refine i_as0 (i_recv1 ?_)); (rw [y1]); (refine s_bitCount hO ⟨_, rfl, ?_⟩); (with_reducible refine i_I ?_); (with_reducible refine i_t (by omega) ?_); (with_reducible refine i_sCall (i_as1 (i_A0 (i_as1 (i_I (i_as1 (i_IA (i_FR (i_A1 ?_))))))))); (with_reducible refine i_fldR (by assumption) ?_); (with_reducible refine i_Add (i_L2 (i_I ?_))); rw [zx_inc (by omega)]; (with_reducible refine i_in (by assumption) (by omega) (by omega) ?_); (with_reducible refine i_as0 ?_); (with_reducible refine i_recv0 (by assumption) ?_); (rw [p11]))
      refine c_vblame hO hS (f := 5) rfl (by decide) (fun M2 f2 z2 => ⟨rfl, ?_⟩)
      have x2 : cXF M M2 := x1.tr (cXF.bl f2)
      have p02 : M2 ((89 : Nat) : Int) ((i : Nat) : Int) = ((pp0 : Nat) : Int) := by rw [f2 _ _ (by omega)]; exact p01
      ((with_reducible refine i_Seq (i_sCall (i_as1 (i_A0 (i_as1 (i_L3 (i_as1 (i_L4 (i_as1 (i_I (i_as1 (i_IA (i_FR (i_A1 ?_)))))))))))))); (with_reducible refine i_fldR (by assumption) ?_); (with_reducible refine i_L2 ?_); (with_reducible refine i_in (by assumption) (by omega) (by omega) ?_); (with_reducible refine i_as0 ?_); (with_reducible refine i_recv0 (by assumption) ?_); (rw [p02]))
      refine tail M2 x2 (hZ1.fo f2 rfl z2) (fun M4 x4 z4 => ⟨rfl, ?_⟩)
      obtain ⟨⟨sn, q1, s1⟩, f, c, q2, q3, s2⟩ := said M4 x4 z4
      rcases hk03 with e3 | e3
      · ((with_reducible refine i_Ite (i_cZ_eq (i_L3 ?_))); (with_reducible refine i_t (by omega) ?_); (with_reducible refine i_sCall (i_as1 (i_FR (i_A0 ?_)))); (with_reducible refine i_fldR (by assumption) ?_); (with_reducible refine i_as1 (i_IA (i_FR (i_A0 ?_)))); (with_reducible refine i_fldR (by assumption) ?_); (with_reducible refine i_L4 ?_); (with_reducible refine i_in (by assumption) (by omega) (by omega) ?_); (with_reducible refine i_as1 (i_IA (i_FR (i_A0 ?_)))); (with_reducible refine i_fldR (by assumption) ?_); (with_reducible refine i_L4 ?_); (with_reducible refine i_in (by assumption) (by omega) (by omega) ?_); (with_reducible refine i_as0 ?_); (with_reducible refine i_recv0 (by assumption) ?_); (rw [q1]))
        refine (s1 e3).mono (fun v M5 h5 => ⟨h5.1, ?_⟩)
        (with_reducible refine i_RetV ?_)
        exact h5.2
      · ((with_reducible refine i_Ite (i_cZ_eq (i_L3 ?_))); (with_reducible refine i_f (by omega) ?_); (with_reducible refine i_sCall (i_as1 (i_FR (i_A0 ?_)))); (with_reducible refine i_fldR (by assumption) ?_); (with_reducible refine i_as1 (i_FR (i_A0 ?_))); (with_reducible refine i_fldR (by assumption) ?_); (with_reducible refine i_as1 (i_IA (i_FR (i_A0 ?_)))); (with_reducible refine i_fldR (by assumption) ?_); (with_reducible refine i_L4 ?_); (with_reducible refine i_in (by assumption) (by omega) (by omega) ?_); (with_reducible refine i_as1 (i_IA (i_FR (i_A0 ?_)))); (with_reducible refine i_fldR (by assumption) ?_); (with_reducible refine i_L4 ?_); (with_reducible refine i_in (by assumption) (by omega) (by omega) ?_); (with_reducible refine i_as0 ?_); (with_reducible refine i_recv0 (by assumption) ?_); (rw [q2]); (rw [q3]))
        refine (s2 e3).mono (fun v M5 h5 => ⟨h5.1, ?_⟩)
        (with_reducible refine i_RetV ?_)
        exact h5.2
    · ((with_reducible refine i_Seq (i_If (i_cI_eq (i_L4 (i_I ?_))))); (with_reducible refine i_f (by omega) ?_); (with_reducible refine i_Seq (i_If (i_cI_lt (i_Call (i_as1 (i_IA (i_FR (i_A0 ?_)))))))); (with_reducible refine i_fldR (by assumption) ?_); (with_reducible refine i_L4 ?_); (with_reducible refine i_in (by assumption) (by omega) (by omega) ?_); (with_reducible refine i_as0 (i_recv1 ?_)); (rw [y1]); (refine s_bitCount hO ⟨_, rfl, ?_⟩); (with_reducible refine i_I ?_); (with_reducible refine i_f (by omega) ?_); (with_reducible refine i_Seq (i_sCall (i_as1 (i_A0 (i_as1 (i_L3 (i_as1 (i_L4 (i_as1 (i_I (i_as1 (i_IA (i_FR (i_A1 ?_)))))))))))))); (with_reducible refine i_fldR (by assumption) ?_); (with_reducible refine i_L2 ?_); (with_reducible refine i_in (by assumption) (by omega) (by omega) ?_); (with_reducible refine i_as0 ?_); (with_reducible refine i_recv0 (by assumption) ?_); (rw [p01]))
      refine tail M1 x1 hZ1 (fun M4 x4 z4 => ⟨rfl, ?_⟩)
      obtain ⟨⟨sn, q1, s1⟩, f, c, q2, q3, s2⟩ := said M4 x4 z4
      rcases hk03 with e3 | e3
      · ((with_reducible refine i_Ite (i_cZ_eq (i_L3 ?_))); (with_reducible refine i_t (by omega) ?_); (with_reducible refine i_sCall (i_as1 (i_FR (i_A0 ?_)))); (with_reducible refine i_fldR (by assumption) ?_); (with_reducible refine i_as1 (i_IA (i_FR (i_A0 ?_)))); (with_reducible refine i_fldR (by assumption) ?_); (with_reducible refine i_L4 ?_); (with_reducible refine i_in (by assumption) (by omega) (by omega) ?_); (with_reducible refine i_as1 (i_IA (i_FR (i_A0 ?_)))); (with_reducible refine i_fldR (by assumption) ?_); (with_reducible refine i_L4 ?_); (with_reducible refine i_in (by assumption) (by omega) (by omega) ?_); (with_reducible refine i_as0 ?_); (with_reducible refine i_recv0 (by assumption) ?_); (rw [q1]))
        refine (s1 e3).mono (fun v M5 h5 => ⟨h5.1, ?_⟩)
        (with_reducible refine i_RetV ?_)
        exact h5.2
      · ((with_reducible refine i_Ite (i_cZ_eq (i_L3 ?_))); (with_reducible refine i_f (by omega) ?_); (with_reducible refine i_sCall (i_as1 (i_FR (i_A0 ?_)))); (with_reducible refine i_fldR (by assumption) ?_); (with_reducible refine i_as1 (i_FR (i_A0 ?_))); (with_reducible refine i_fldR (by assumption) ?_); (with_reducible refine i_as1 (i_IA (i_FR (i_A0 ?_)))); (with_reducible refine i_fldR (by assumption) ?_); (with_reducible refine i_L4 ?_); (with_reducible refine i_in (by assumption) (by omega) (by omega) ?_); (with_reducible refine i_as1 (i_IA (i_FR (i_A0 ?_)))); (with_reducible refine i_fldR (by assumption) ?_); (with_reducible refine i_L4 ?_); (with_reducible refine i_in (by assumption) (by omega) (by omega) ?_); (with_reducible refine i_as0 ?_); (with_reducible refine i_recv0 (by assumption) ?_); (rw [q2]); (rw [q3]))
        refine (s2 e3).mono (fun v M5 h5 => ⟨h5.1, ?_⟩)
        (with_reducible refine i_RetV ?_)
        exact h5.2
  · rw [show uRI Z v = -1 from if_neg e]
    ((with_reducible refine i_Seq (i_If (i_cI_eq (i_L4 (i_I ?_))))); simp only [w_set0, w_set1, w_setn0, w_setn1]; (with_reducible refine i_t trivial ?_); (with_reducible refine i_RetV ?_))
    exact hk M1 x1 hZ1
/-- two boxes' pairs come in -/
theorem c_vcross {O : zOm} (hO : zWld O) (hS : zS O = zmS zC0) {n : Nat} {Z : zZt} {sa sb : Nat → Bool} {M : zMem} {K : Option zV → zMem → Prop} (hn16 : n ≤ 16) (hZ : cZv M n Z) (hk : ∀ M', cXF M M' → cZv M' n Z → K none M') : zR O F_Net_cross [(2, ((101 : Nat) : Int)), (0, zmk sa), (0, zmk sb)] M K := by
  obtain ⟨T, hN⟩ := hZ.2.2.2.1.1
  refine s_Net_cross hO (zNet101 hS) hN hn16 (fun M5 f5 h5 => ?_)
  have f5' : ∀ b j, ¬ b = ((102 : Nat) : Int) → M5 b j = M b j := fun b j q => by rw [f5 b (by simp <;> omega)]
  exact hk M5 (fun b j q => f5' b j (by omega)) (hZ.x1 f5' h5)
set_option maxHeartbeats 1600000 in
theorem c_vtakeSides {O : zOm} (hO : zWld O) (hS : zS O = zmS zC0) {i s n : Nat} {B : Nat → Nat} {Z : zZt} {M : zMem} {K : Option zV → zMem → Prop} (hn16 : n ≤ 16) (hq0 : zqs B s (zhh B s) = 0) (hi : i < zhh B s) (hq : zqs B s i = 0) (hK : zKi B s i = 6) (hub : ub Z ≤ 100) (hT : cTa M B s) (hZ : cZv M n Z)
    (hk : ∀ M', cXF M M' → cZv M' n Z → K none M') : zR O F_Text_takeSides [(2, ((92 : Nat) : Int)), (2, ((86 : Nat) : Int)), (0, ((i : Nat) : Int))] M K := by
  have n100 := zNet101 hS
  have n100o := n100.2.2.2
  have h400 := (zhh_ok B s).1
  obtain ⟨g1, g2, g3, g4, g5⟩ := zgr_6 hq0 hi hq hK
  have v1 := hT.v0 (show i + 1 < zhh B s by omega) g1
  have v2 := hT.v0 (show i + 2 < zhh B s by omega) g2
  have p1 := (hT.2.2 (i + 1) (by omega)).2.1
  have p2 := (hT.2.2 (i + 2) (by omega)).2.1
  have p0 := (hT.2.2 i hi).2.1
  have hrk := urk_le Z (ub Z)
  generalize zVi B s (i + 1) = va at v1
  generalize zVi B s (i + 2) = vb at v2
  generalize zps B s (i + 1) = pp1 at *
  generalize zps B s (i + 2) = pp2 at *
  generalize zps B s i = pp0 at *
  apply r_Text_takeSides hO
  unfold B_Text_takeSides
  have f86_2 := zf_86_2 hS; have a89 := zCA (a := 89) (ty := .int) (n := 400) hS rfl; have f92_7 := zf_92_7 hS; have f92_1 := zf_92_1 hS; have a94 := zCA (a := 94) (ty := .int) (n := 100) hS rfl; have z86 := zo_86 hS; have z92 := zo_92 hS
  ((with_reducible refine i_Seq (i_Seq (i_Set (i_Call (i_as1 (i_A0 (i_as1 (i_A1 (i_as1 (i_Add (i_L2 (i_I (i_as0 ?_))))))))))))); (with_reducible refine i_recv0 (by assumption) ?_); rw [zx_inc (by omega)]; simp only [w_set0, w_set1, w_setn0, w_setn1])
  refine c_vboxNamed hO hS hZ.1.2.1 hub (by omega) v1 p1 (fun M1 f1 z1 => ⟨_, rfl, ?_⟩)
  have hZ1 : cZv M1 n Z := hZ.fo f1 rfl (z1 hZ.2.2.2.2)
  ((with_reducible refine i_Seq (i_Set (i_Call (i_as1 (i_A0 (i_as1 (i_A1 (i_as1 (i_Add (i_L2 (i_I (i_as0 ?_)))))))))))); (with_reducible refine i_recv0 (by assumption) ?_); rw [zx_addc (by omega)]; simp only [w_set0, w_set1, w_setn0, w_setn1])
  refine c_vboxNamed hO hS hZ1.1.2.1 hub (by omega) (by rw [f1 _ _ (by omega)]; exact v2) (by rw [f1 _ _ (by omega)]; exact p2) (fun M2 f2 z2 => ⟨_, rfl, ?_⟩)
  have hZ2 : cZv M2 n Z := hZ1.fo f2 rfl (z2 hZ1.2.2.2.2)
  have x2 : cXF M M2 := (cXF.bl f1).tr (cXF.bl f2)
  have p22 : M2 ((89 : Nat) : Int) ((i + 2 : Nat) : Int) = ((pp2 : Nat) : Int) := by rw [x2 _ _ (by omega)]; exact p2
  have p02 : M2 ((89 : Nat) : Int) ((i : Nat) : Int) = ((pp0 : Nat) : Int) := by rw [x2 _ _ (by omega)]; exact p0
  by_cases ea : ufn Z va < ub Z
  · by_cases eb : ufn Z vb < ub Z
    · rw [show uRI Z va = ((urk Z (ufn Z va) : Nat) : Int) from if_pos ea, show uRI Z vb = ((urk Z (ufn Z vb) : Nat) : Int) from if_pos eb]
      have hra : urk Z (ufn Z va) < urk Z (ub Z) := zcnt_lt (zNew (un Z)) ea (ufn_new ea)
      have hrb : urk Z (ufn Z vb) < urk Z (ub Z) := zcnt_lt (zNew (un Z)) eb (ufn_new eb)
      generalize urk Z (ufn Z va) = x at *
      generalize urk Z (ufn Z vb) = y at *
      have masks : ∀ M3, cZv M3 n Z → ∃ sa sb : Nat → Bool, M3 ((94 : Nat) : Int) ((x : Nat) : Int) = zmk sa ∧ M3 ((94 : Nat) : Int) ((y : Nat) : Int) = zmk sb := fun M3 z3 => by
        obtain ⟨pl, -, -, -, r4⟩ := z3.2.1
        obtain ⟨⟨sa, y1⟩, -⟩ := r4 x hra
        obtain ⟨⟨sb, y2⟩, -⟩ := r4 y hrb
        exact ⟨sa, sb, y1, y2⟩
      have tail : ∀ (M2 : zMem) {fi si : Int}, cXF M M2 → cZv M2 n Z → ∀ {K2 : Option zV → zMem → Prop}, (∀ M4, cXF M M4 → cZv M4 n Z → K2 none M4) → zR O F_Text_takeWord [(2, ((92 : Nat) : Int)), (0, 1), (0, fi), (0, si), (0, ((pp0 : Nat) : Int))] M2 K2 := fun M2 _ _ x2 z2 K2 h => c_vtakeWord hO hS z2.2.2.1 (fun M4 f4 w4 z4 => h M4 (fun b j q => by rw [f4 b j (by omega)]; exact x2 b j q) (z2.w1 f4 w4 z4))
      by_cases e : x = y
      · subst e
        ((with_reducible refine i_Seq (i_If (i_cOr (i_cI_eq (i_L3 (i_I ?_)))))); (with_reducible refine i_f (by omega) ?_); (with_reducible refine i_cI_eq (i_L4 (i_I ?_))); (with_reducible refine i_f (by omega) ?_); (with_reducible refine i_Seq (i_If (i_cI_eq (i_L3 (i_L4 ?_))))); simp only [w_set0, w_set1, w_setn0, w_setn1]; (with_reducible refine i_t trivial ?_); (with_reducible refine i_sCall (i_as1 (i_A0 (i_as1 (i_I (i_as1 (i_IA (i_FR (i_A1 ?_))))))))); (with_reducible refine i_fldR (by assumption) ?_); (with_reducible refine i_Add (i_L2 (i_I ?_))); rw [zx_addc (by omega)]; (with_reducible refine i_in (by assumption) (by omega) (by omega) ?_); (with_reducible refine i_as0 ?_); (with_reducible refine i_recv0 (by assumption) ?_); (rw [p22]))
        refine c_vblame hO hS (f := 5) rfl (by decide) (fun M3 f3 z3 => ⟨rfl, ?_⟩)
        have x3 : cXF M M3 := x2.tr (cXF.bl f3)
        have p03 : M3 ((89 : Nat) : Int) ((i : Nat) : Int) = ((pp0 : Nat) : Int) := by rw [f3 _ _ (by omega)]; exact p02
        ((with_reducible refine i_Seq (i_sCall (i_as1 (i_A0 (i_as1 (i_I (i_as1 (i_MM (i_L3 (i_L4 (i_as1 (i_MM (i_L3 (i_L4 (i_as1 (i_IA (i_FR (i_A1 ?_)))))))))))))))))); (with_reducible refine i_fldR (by assumption) ?_); (with_reducible refine i_L2 ?_); (with_reducible refine i_in (by assumption) (by omega) (by omega) ?_); (with_reducible refine i_as0 ?_); (with_reducible refine i_recv0 (by assumption) ?_); (rw [p03]); (rw [zmn4]); (rw [zmx3]))
        refine tail M3 x3 (hZ2.fo f3 rfl z3) (fun M4 x4 z4 => ⟨rfl, ?_⟩)
        obtain ⟨sa, sb, q1, q2⟩ := masks M4 z4
        ((with_reducible refine i_sCall (i_as1 (i_FR (i_A0 ?_)))); (with_reducible refine i_fldR (by assumption) ?_); (with_reducible refine i_as1 (i_IA (i_FR (i_A0 ?_)))); (with_reducible refine i_fldR (by assumption) ?_); (with_reducible refine i_L3 ?_); (with_reducible refine i_in (by assumption) (by omega) (by omega) ?_); (with_reducible refine i_as1 (i_IA (i_FR (i_A0 ?_)))); (with_reducible refine i_fldR (by assumption) ?_); (with_reducible refine i_L4 ?_); (with_reducible refine i_in (by assumption) (by omega) (by omega) ?_); (with_reducible refine i_as0 ?_); (with_reducible refine i_recv0 (by assumption) ?_); (rw [q1]))
        refine c_vcross hO hS hn16 z4 (fun M5 x5 z5 => ⟨rfl, ?_⟩)
        (with_reducible refine i_RetV ?_)
        exact hk M5 (x4.tr x5) z5
      · ((with_reducible refine i_Seq (i_If (i_cOr (i_cI_eq (i_L3 (i_I ?_)))))); (with_reducible refine i_f (by omega) ?_); (with_reducible refine i_cI_eq (i_L4 (i_I ?_))); (with_reducible refine i_f (by omega) ?_); (with_reducible refine i_Seq (i_If (i_cI_eq (i_L3 (i_L4 ?_))))); (with_reducible refine i_f (by omega) ?_); (with_reducible refine i_Seq (i_sCall (i_as1 (i_A0 (i_as1 (i_I (i_as1 (i_MM (i_L3 (i_L4 (i_as1 (i_MM (i_L3 (i_L4 (i_as1 (i_IA (i_FR (i_A1 ?_)))))))))))))))))); (with_reducible refine i_fldR (by assumption) ?_); (with_reducible refine i_L2 ?_); (with_reducible refine i_in (by assumption) (by omega) (by omega) ?_); (with_reducible refine i_as0 ?_); (with_reducible refine i_recv0 (by assumption) ?_); (rw [p02]); (rw [zmn4]); (rw [zmx3]))
        refine tail M2 x2 hZ2 (fun M4 x4 z4 => ⟨rfl, ?_⟩)
        obtain ⟨sa, sb, q1, q2⟩ := masks M4 z4
        ((with_reducible refine i_sCall (i_as1 (i_FR (i_A0 ?_)))); (with_reducible refine i_fldR (by assumption) ?_); (with_reducible refine i_as1 (i_IA (i_FR (i_A0 ?_)))); (with_reducible refine i_fldR (by assumption) ?_); (with_reducible refine i_L3 ?_); (with_reducible refine i_in (by assumption) (by omega) (by omega) ?_); (with_reducible refine i_as1 (i_IA (i_FR (i_A0 ?_)))); (with_reducible refine i_fldR (by assumption) ?_); (with_reducible refine i_L4 ?_); (with_reducible refine i_in (by assumption) (by omega) (by omega) ?_); (with_reducible refine i_as0 ?_); (with_reducible refine i_recv0 (by assumption) ?_); (rw [q1]); (rw [q2]))
        refine c_vcross hO hS hn16 z4 (fun M5 x5 z5 => ⟨rfl, ?_⟩)
        (with_reducible refine i_RetV ?_)
        exact hk M5 (x4.tr x5) z5
    · rw [show uRI Z va = ((urk Z (ufn Z va) : Nat) : Int) from if_pos ea, show uRI Z vb = -1 from if_neg eb]
      ((with_reducible refine i_Seq (i_If (i_cOr (i_cI_eq (i_L3 (i_I ?_)))))); (with_reducible refine i_f (by omega) ?_); (with_reducible refine i_cI_eq (i_L4 (i_I ?_))); simp only [w_set0, w_set1, w_setn0, w_setn1]; (with_reducible refine i_t trivial ?_); (with_reducible refine i_RetV ?_))
      exact hk M2 x2 hZ2
  · rw [show uRI Z va = -1 from if_neg ea]
    ((with_reducible refine i_Seq (i_If (i_cOr (i_cI_eq (i_L3 (i_I ?_)))))); simp only [w_set0, w_set1, w_setn0, w_setn1]; (with_reducible refine i_t trivial ?_); (with_reducible refine i_RetV ?_))
    exact hk M2 x2 hZ2
set_option maxHeartbeats 1600000 in
theorem c_vtakeStar {O : zOm} (hO : zWld O) (hS : zS O = zmS zC0) {i s n : Nat} {B : Nat → Nat} {Z : zZt} {M : zMem} {K : Option zV → zMem → Prop} (hn16 : n ≤ 16) (hq0 : zqs B s (zhh B s) = 0) (hi : i < zhh B s) (hq : zqs B s i = 0) (hK : zKi B s i = 7) (hub : ub Z ≤ 100) (hT : cTa M B s) (hZ : cZv M n Z)
    (hk : ∀ M', cXF M M' → cZv M' n Z → K none M') : zR O F_Text_takeStar [(2, ((92 : Nat) : Int)), (2, ((86 : Nat) : Int)), (0, ((i : Nat) : Int))] M K := by
  have n100 := zNet101 hS
  have n100o := n100.2.2.2
  have h400 := (zhh_ok B s).1
  obtain ⟨g1, g2, g3, g4, g5⟩ := zgr_7 hq0 hi hq hK
  have v1 := hT.v1 (show i + 1 < zhh B s by omega) g1
  have v14 := zVi_1 (show i + 1 < zhh B s by omega) g1
  have v2 := hT.v0 (show i + 2 < zhh B s by omega) g2
  have p1 := (hT.2.2 (i + 1) (by omega)).2.1
  have p2 := (hT.2.2 (i + 2) (by omega)).2.1
  have p0 := (hT.2.2 i hi).2.1
  have hrk := urk_le Z (ub Z)
  generalize zVi B s (i + 1) = a at *
  generalize zVi B s (i + 2) = vb at v2
  generalize zps B s (i + 1) = pp1 at *
  generalize zps B s (i + 2) = pp2 at *
  generalize zps B s i = pp0 at *
  apply r_Text_takeStar hO
  unfold B_Text_takeStar
  have f92_1 := zf_92_1 hS; have a94 := zCA (a := 94) (ty := .int) (n := 100) hS rfl; have f86_2 := zf_86_2 hS; have a89 := zCA (a := 89) (ty := .int) (n := 400) hS rfl; have f92_7 := zf_92_7 hS; have z86 := zo_86 hS; have z92 := zo_92 hS
  ((with_reducible refine i_Seq (i_Seq (i_Set (i_Call (i_as1 (i_A0 (i_as1 (i_A1 (i_as1 (i_Add (i_L2 (i_I (i_as0 ?_))))))))))))); (with_reducible refine i_recv0 (by assumption) ?_); rw [zx_inc (by omega)]; simp only [w_set0, w_set1, w_setn0, w_setn1])
  refine c_vpostTold hO hS hZ.1.1 hn16 (by omega) v1 v14 p1 (fun M1 f1 z1 => ⟨_, rfl, ?_⟩)
  have hZ1 : cZv M1 n Z := hZ.fo f1 rfl (z1 (Or.inl hZ.2.2.2.2))
  ((with_reducible refine i_Seq (i_Set (i_Call (i_as1 (i_A0 (i_as1 (i_A1 (i_as1 (i_Add (i_L2 (i_I (i_as0 ?_)))))))))))); (with_reducible refine i_recv0 (by assumption) ?_); rw [zx_addc (by omega)]; simp only [w_set0, w_set1, w_setn0, w_setn1])
  refine c_vboxNamed hO hS hZ1.1.2.1 hub (by omega) (by rw [f1 _ _ (by omega)]; exact v2) (by rw [f1 _ _ (by omega)]; exact p2) (fun M2 f2 z2 => ⟨_, rfl, ?_⟩)
  have hZ2 : cZv M2 n Z := hZ1.fo f2 rfl (z2 hZ1.2.2.2.2)
  have x2 : cXF M M2 := (cXF.bl f1).tr (cXF.bl f2)
  have p22 : M2 ((89 : Nat) : Int) ((i + 2 : Nat) : Int) = ((pp2 : Nat) : Int) := by rw [x2 _ _ (by omega)]; exact p2
  have p02 : M2 ((89 : Nat) : Int) ((i : Nat) : Int) = ((pp0 : Nat) : Int) := by rw [x2 _ _ (by omega)]; exact p0
  by_cases ea : a < n
  · by_cases eb : ufn Z vb < ub Z
    · rw [if_pos ea, show uRI Z vb = ((urk Z (ufn Z vb) : Nat) : Int) from if_pos eb]
      have hrb : urk Z (ufn Z vb) < urk Z (ub Z) := zcnt_lt (zNew (un Z)) eb (ufn_new eb)
      generalize urk Z (ufn Z vb) = y at *
      have ha16 : a < 16 := by omega
      have hsl : yshl 1 ((a : Nat) : Int) = zmk (fun q => decide (q = a)) := yshl_mk ha16
      have masks : ∀ M3, cZv M3 n Z → ∃ sb : Nat → Bool, M3 ((94 : Nat) : Int) ((y : Nat) : Int) = zmk sb := fun M3 z3 => by
        obtain ⟨pl, -, -, -, r4⟩ := z3.2.1
        exact (r4 y hrb).1
      have tail : ∀ (M2 : zMem) {fi si : Int}, cXF M M2 → cZv M2 n Z → ∀ {K2 : Option zV → zMem → Prop}, (∀ M4, cXF M M4 → cZv M4 n Z → K2 none M4) → zR O F_Text_takeWord [(2, ((92 : Nat) : Int)), (0, 2), (0, fi), (0, si), (0, ((pp0 : Nat) : Int))] M2 K2 := fun M2 _ _ x2 z2 K2 h => c_vtakeWord hO hS z2.2.2.1 (fun M4 f4 w4 z4 => h M4 (fun b j q => by rw [f4 b j (by omega)]; exact x2 b j q) (z2.w1 f4 w4 z4))
      obtain ⟨sb, q0⟩ := masks M2 hZ2
      have hno : yand (zmk sb) (yxor (zmk (fun q => decide (q = a))) (-1)) = zmk (fun q => sb q && !decide (q = a)) := ynot_mk _ _
      generalize zmk (fun q => sb q && !decide (q = a)) = wz at hno
      by_cases e : wz = 0
      · ((with_reducible refine i_Seq (i_If (i_cOr (i_cI_eq (i_L3 (i_I ?_)))))); (with_reducible refine i_f (by omega) ?_); (with_reducible refine i_cI_eq (i_L4 (i_I ?_))); (with_reducible refine i_f (by omega) ?_); (with_reducible refine i_Seq (i_If (i_cZ_eq (i_And (i_IA (i_FR (i_A0 ?_))))))); (with_reducible refine i_fldR (by assumption) ?_); (with_reducible refine i_L4 ?_); (with_reducible refine i_in (by assumption) (by omega) (by omega) ?_); (with_reducible refine i_Xor (i_Shl (i_I (i_L3 (i_I ?_))))); (rw [q0]); (rw [hsl]); (rw [hno]); (with_reducible refine i_t (by omega) ?_); (with_reducible refine i_sCall (i_as1 (i_A0 (i_as1 (i_I (i_as1 (i_IA (i_FR (i_A1 ?_))))))))); (with_reducible refine i_fldR (by assumption) ?_); (with_reducible refine i_Add (i_L2 (i_I ?_))); rw [zx_addc (by omega)]; (with_reducible refine i_in (by assumption) (by omega) (by omega) ?_); (with_reducible refine i_as0 ?_); (with_reducible refine i_recv0 (by assumption) ?_); (rw [p22]))
        refine c_vblame hO hS (f := 5) rfl (by decide) (fun M3 f3 z3 => ⟨rfl, ?_⟩)
        have x3 : cXF M M3 := x2.tr (cXF.bl f3)
        have p03 : M3 ((89 : Nat) : Int) ((i : Nat) : Int) = ((pp0 : Nat) : Int) := by rw [f3 _ _ (by omega)]; exact p02
        ((with_reducible refine i_Seq (i_sCall (i_as1 (i_A0 (i_as1 (i_I (i_as1 (i_L3 (i_as1 (i_L4 (i_as1 (i_IA (i_FR (i_A1 ?_)))))))))))))); (with_reducible refine i_fldR (by assumption) ?_); (with_reducible refine i_L2 ?_); (with_reducible refine i_in (by assumption) (by omega) (by omega) ?_); (with_reducible refine i_as0 ?_); (with_reducible refine i_recv0 (by assumption) ?_); (rw [p03]))
        refine tail M3 x3 (hZ2.fo f3 rfl z3) (fun M4 x4 z4 => ⟨rfl, ?_⟩)
        obtain ⟨sc, q1⟩ := masks M4 z4
        ((with_reducible refine i_sCall (i_as1 (i_FR (i_A0 ?_)))); (with_reducible refine i_fldR (by assumption) ?_); (with_reducible refine i_as1 (i_Shl (i_I (i_L3 (i_as1 (i_IA (i_FR (i_A0 ?_)))))))); (with_reducible refine i_fldR (by assumption) ?_); (with_reducible refine i_L4 ?_); (with_reducible refine i_in (by assumption) (by omega) (by omega) ?_); (with_reducible refine i_as0 ?_); (with_reducible refine i_recv0 (by assumption) ?_); (rw [q1]); (rw [hsl]))
        refine c_vcross hO hS hn16 z4 (fun M5 x5 z5 => ⟨rfl, ?_⟩)
        (with_reducible refine i_RetV ?_)
        exact hk M5 (x4.tr x5) z5
      · ((with_reducible refine i_Seq (i_If (i_cOr (i_cI_eq (i_L3 (i_I ?_)))))); (with_reducible refine i_f (by omega) ?_); (with_reducible refine i_cI_eq (i_L4 (i_I ?_))); (with_reducible refine i_f (by omega) ?_); (with_reducible refine i_Seq (i_If (i_cZ_eq (i_And (i_IA (i_FR (i_A0 ?_))))))); (with_reducible refine i_fldR (by assumption) ?_); (with_reducible refine i_L4 ?_); (with_reducible refine i_in (by assumption) (by omega) (by omega) ?_); (with_reducible refine i_Xor (i_Shl (i_I (i_L3 (i_I ?_))))); (rw [q0]); (rw [hsl]); (rw [hno]); (with_reducible refine i_f (by omega) ?_); (with_reducible refine i_Seq (i_sCall (i_as1 (i_A0 (i_as1 (i_I (i_as1 (i_L3 (i_as1 (i_L4 (i_as1 (i_IA (i_FR (i_A1 ?_)))))))))))))); (with_reducible refine i_fldR (by assumption) ?_); (with_reducible refine i_L2 ?_); (with_reducible refine i_in (by assumption) (by omega) (by omega) ?_); (with_reducible refine i_as0 ?_); (with_reducible refine i_recv0 (by assumption) ?_); (rw [p02]))
        refine tail M2 x2 hZ2 (fun M4 x4 z4 => ⟨rfl, ?_⟩)
        obtain ⟨sc, q1⟩ := masks M4 z4
        ((with_reducible refine i_sCall (i_as1 (i_FR (i_A0 ?_)))); (with_reducible refine i_fldR (by assumption) ?_); (with_reducible refine i_as1 (i_Shl (i_I (i_L3 (i_as1 (i_IA (i_FR (i_A0 ?_)))))))); (with_reducible refine i_fldR (by assumption) ?_); (with_reducible refine i_L4 ?_); (with_reducible refine i_in (by assumption) (by omega) (by omega) ?_); (with_reducible refine i_as0 ?_); (with_reducible refine i_recv0 (by assumption) ?_); (rw [q1]); (rw [hsl]))
        refine c_vcross hO hS hn16 z4 (fun M5 x5 z5 => ⟨rfl, ?_⟩)
        (with_reducible refine i_RetV ?_)
        exact hk M5 (x4.tr x5) z5
    · rw [if_pos ea, show uRI Z vb = -1 from if_neg eb]
      ((with_reducible refine i_Seq (i_If (i_cOr (i_cI_eq (i_L3 (i_I ?_)))))); (with_reducible refine i_f (by omega) ?_); (with_reducible refine i_cI_eq (i_L4 (i_I ?_))); simp only [w_set0, w_set1, w_setn0, w_setn1]; (with_reducible refine i_t trivial ?_); (with_reducible refine i_RetV ?_))
      exact hk M2 x2 hZ2
  · rw [if_neg ea]
    ((with_reducible refine i_Seq (i_If (i_cOr (i_cI_eq (i_L3 (i_I ?_)))))); simp only [w_set0, w_set1, w_setn0, w_setn1]; (with_reducible refine i_t trivial ?_); (with_reducible refine i_RetV ?_))
    exact hk M2 x2 hZ2
set_option maxHeartbeats 1600000 in
theorem c_vtakePair {O : zOm} (hO : zWld O) (hS : zS O = zmS zC0) {i s n : Nat} {B : Nat → Nat} {Z : zZt} {M : zMem} {K : Option zV → zMem → Prop} (hn16 : n ≤ 16) (hq0 : zqs B s (zhh B s) = 0) (hi : i < zhh B s) (hq : zqs B s i = 0) (hK : zKi B s i = 8 ∨ zKi B s i = 9) (hT : cTa M B s) (hZ : cZv M n Z)
    (hk : ∀ M', cXF M M' → cZv M' n Z → K none M') : zR O F_Text_takePair [(2, ((92 : Nat) : Int)), (2, ((86 : Nat) : Int)), (0, ((i : Nat) : Int))] M K := by
  have h400 := (zhh_ok B s).1
  have n100 := zNet101 hS
  have n102 := zNet103 hS
  have n100o := n100.2.2.2
  have n102o := n102.2.2.2
  obtain ⟨g1, g2, g3, g4, g5⟩ := zgr_89 hq0 hi hq hK
  have v1 := hT.v1 (show i + 1 < zhh B s by omega) g1
  have v14 := zVi_1 (show i + 1 < zhh B s by omega) g1
  have v2 := hT.v1 (show i + 2 < zhh B s by omega) g2
  have v24 := zVi_1 (show i + 2 < zhh B s by omega) g2
  have p1 := (hT.2.2 (i + 1) (by omega)).2.1
  have p2 := (hT.2.2 (i + 2) (by omega)).2.1
  have t0 := (hT.2.2 i hi).1
  generalize zVi B s (i + 1) = a at *
  generalize zVi B s (i + 2) = b at *
  generalize zps B s (i + 2) = pp at *
  generalize zps B s (i + 1) = pp1 at *
  apply r_Text_takePair hO
  unfold B_Text_takePair
  have f86_2 := zf_86_2 hS; have a89 := zCA (a := 89) (ty := .int) (n := 400) hS rfl; have f86_1 := zf_86_1 hS; have a88 := zCA (a := 88) (ty := .int) (n := 400) hS rfl; have f92_7 := zf_92_7 hS; have f92_8 := zf_92_8 hS; have z86 := zo_86 hS; have z92 := zo_92 hS
  ((with_reducible refine i_Seq (i_Seq (i_Set (i_Call (i_as1 (i_A0 (i_as1 (i_A1 (i_as1 (i_Add (i_L2 (i_I (i_as0 ?_))))))))))))); (with_reducible refine i_recv0 (by assumption) ?_); rw [zx_inc (by omega)]; simp only [w_set0, w_set1, w_setn0, w_setn1])
  refine c_vpostTold hO hS hZ.1.1 hn16 (by omega) v1 v14 p1 (fun M1 f1 z1 => ⟨_, rfl, ?_⟩)
  have hZ1 : cZv M1 n Z := hZ.fo f1 rfl (z1 (Or.inl hZ.2.2.2.2))
  ((with_reducible refine i_Seq (i_Set (i_Call (i_as1 (i_A0 (i_as1 (i_A1 (i_as1 (i_Add (i_L2 (i_I (i_as0 ?_)))))))))))); (with_reducible refine i_recv0 (by assumption) ?_); rw [zx_addc (by omega)]; simp only [w_set0, w_set1, w_setn0, w_setn1])
  refine c_vpostTold hO hS hZ1.1.1 hn16 (by omega) (by rw [f1 _ _ (by omega)]; exact v2) v24 (by rw [f1 _ _ (by omega)]; exact p2) (fun M2 f2 z2 => ⟨_, rfl, ?_⟩)
  have hZ2 : cZv M2 n Z := hZ1.fo f2 rfl (z2 (Or.inl hZ1.2.2.2.2))
  have x2 : cXF M M2 := (cXF.bl f1).tr (cXF.bl f2)
  have p22 : M2 ((89 : Nat) : Int) ((i + 2 : Nat) : Int) = ((pp : Nat) : Int) := by rw [x2 _ _ (by omega)]; exact p2
  have t02 : M2 ((88 : Nat) : Int) ((i : Nat) : Int) = ((zKi B s i : Nat) : Int) := by rw [x2 _ _ (by omega)]; exact t0
  by_cases ea : a < n
  · by_cases eb : b < n
    · rw [if_pos ea, if_pos eb]
      have ha16 : a < 16 := by omega
      have hb16 : b < 16 := by omega
      by_cases u1 : a = b
      · subst u1
        ((with_reducible refine i_Seq (i_If (i_cOr (i_cI_eq (i_L3 (i_I ?_)))))); (with_reducible refine i_f (by omega) ?_); (with_reducible refine i_cI_eq (i_L4 (i_I ?_))); (with_reducible refine i_f (by omega) ?_); (with_reducible refine i_Seq (i_Set (i_IA (i_FR (i_A1 ?_))))); (with_reducible refine i_fldR (by assumption) ?_); (with_reducible refine i_Add (i_L2 (i_I ?_))); rw [zx_addc (by omega)]; (with_reducible refine i_in (by assumption) (by omega) (by omega) ?_); (with_reducible refine i_Seq (i_If (i_cI_eq ?_))); (rw [p22]); simp only [w_set0, w_set1, w_setn0, w_setn1]; (with_reducible refine i_L3 (i_L4 ?_)); simp only [w_set0, w_set1, w_setn0, w_setn1]; (with_reducible refine i_t trivial ?_); (with_reducible refine i_Seq (i_sCall (i_as1 (i_A0 (i_as1 (i_I (i_as1 (i_L5 (i_as0 ?_))))))))); (with_reducible refine i_recv0 (by assumption) ?_))
        refine c_vblame hO hS (f := 5) rfl (by decide) (fun M3 f3 z3 => ⟨rfl, ?_⟩)
        (with_reducible refine i_RetV ?_)
        exact hk M3 (x2.tr (cXF.bl f3)) (hZ2.fo f3 rfl z3)
      · have hba : ¬ ((a : Nat) : Int) = ((b : Nat) : Int) := by omega
        -- the second half: is the pair told already
        have tail : ∀ (M3 : zMem), cXF M M3 → cZv M3 n Z → ∃ w : Bool, zR O F_Net_joins [(2, ((103 : Nat) : Int)), (0, ((a : Nat) : Int)), (0, ((b : Nat) : Int))] M3 (fun v M4 => v = some (0, zbI w) ∧ M4 = M3) ∧ (w = true → zR O F_Text_blame [(2, ((92 : Nat) : Int)), (0, 3), (0, ((pp : Nat) : Int))] M3 (fun v M4 => v = none ∧ K none M4)) ∧ (w = false → zR O F_Net_flip [(2, ((103 : Nat) : Int)), (0, ((a : Nat) : Int)), (0, ((b : Nat) : Int))] M3 (fun v M4 => v = none ∧ K none M4)) := fun M3 x3 z3 => by
          obtain ⟨U, hU⟩ := z3.2.2.2.1.2
          refine ⟨U a b, s_joins hO n102 hU ha16 hb16 ⟨rfl, rfl⟩, fun _ => ?_, fun _ => ?_⟩
          · exact c_vblame hO hS (f := 3) rfl (by decide) (fun M4 f4 z4 => ⟨rfl, hk M4 (x3.tr (cXF.bl f4)) (z3.fo f4 rfl z4)⟩)
          · refine s_Net_flip hO n102 hU ha16 hb16 u1 (fun M4 f4 h4 => ⟨rfl, ?_⟩)
            have f4' : ∀ b j, ¬ b = ((104 : Nat) : Int) → M4 b j = M3 b j := fun b j q => by rw [f4 b (by simp <;> omega)]
            obtain ⟨c1, c2, c3, ⟨⟨T, y1, y2⟩, -⟩, c5⟩ := z3
            exact hk M4 (fun b j q => by rw [f4' b j (by omega)]; exact x3 b j q) ⟨c1.to (fun b j q => f4' b j (by omega)) rfl, c2.to (fun b j q => f4' b j (by omega)), c3.to (f4' _ _ (by omega)), ⟨⟨T, by rw [f4' _ _ (by omega)]; exact y1, fun p hp => by rw [f4' _ _ (by omega)]; exact y2 p hp⟩, _, h4⟩, by rw [f4' _ _ (by omega)]; exact c5⟩
        have fin : ∀ M3, cXF M M3 → cZv M3 n Z → True := fun _ _ _ => trivial
        clear fin
        obtain ⟨T, hjs⟩ := hZ2.2.2.2.1.1
        by_cases k9 : zKi B s i = 9
        · obtain ⟨w, s1, s2, s3⟩ := tail M2 x2 hZ2
          ((with_reducible refine i_Seq (i_If (i_cOr (i_cI_eq (i_L3 (i_I ?_)))))); (with_reducible refine i_f (by omega) ?_); (with_reducible refine i_cI_eq (i_L4 (i_I ?_))); (with_reducible refine i_f (by omega) ?_); (with_reducible refine i_Seq (i_Set (i_IA (i_FR (i_A1 ?_))))); (with_reducible refine i_fldR (by assumption) ?_); (with_reducible refine i_Add (i_L2 (i_I ?_))); rw [zx_addc (by omega)]; (with_reducible refine i_in (by assumption) (by omega) (by omega) ?_); (with_reducible refine i_Seq (i_If (i_cI_eq ?_))); (rw [p22]); simp only [w_set0, w_set1, w_setn0, w_setn1]; (with_reducible refine i_L3 (i_L4 ?_)); (with_reducible refine i_f (by omega) ?_); (with_reducible refine i_Seq (i_If (i_cAnd (i_cI_eq (i_IA (i_FR (i_A1 ?_))))))); (with_reducible refine i_fldR (by assumption) ?_); (with_reducible refine i_L2 ?_); (with_reducible refine i_in (by assumption) (by omega) (by omega) ?_); (with_reducible refine i_I ?_); (rw [t02]); (with_reducible refine i_f (by omega) ?_); (with_reducible refine i_Ite (i_cZ_ne (i_Call (i_as1 (i_FR (i_A0 ?_)))))); (with_reducible refine i_fldR (by assumption) ?_); (with_reducible refine i_as1 (i_L3 (i_as1 (i_L4 (i_as0 ?_))))); (with_reducible refine i_recv0 (by assumption) ?_))
          refine s1.mono (fun v M4 h4 => ⟨_, h4.1, ?_⟩)
          obtain ⟨-, rfl⟩ := h4
          cases w
          · (rw [zbI_f]; (with_reducible refine i_f (by omega) ?_); (with_reducible refine i_sCall (i_as1 (i_FR (i_A0 ?_)))); (with_reducible refine i_fldR (by assumption) ?_); (with_reducible refine i_as1 (i_L3 (i_as1 (i_L4 (i_as0 ?_))))); (with_reducible refine i_recv0 (by assumption) ?_))
            refine (s3 rfl).mono (fun v M5 h5 => ⟨h5.1, ?_⟩)
            (with_reducible refine i_RetV ?_)
            exact h5.2
          · (rw [zbI_t]; (with_reducible refine i_t (by omega) ?_); (with_reducible refine i_sCall (i_as1 (i_A0 (i_as1 (i_I (i_as1 (i_L5 (i_as0 ?_)))))))); (with_reducible refine i_recv0 (by assumption) ?_))
            refine (s2 rfl).mono (fun v M5 h5 => ⟨h5.1, ?_⟩)
            (with_reducible refine i_RetV ?_)
            exact h5.2
        · have k8 : zKi B s i = 8 := by omega
          cases u2 : T a b
          · ((with_reducible refine i_Seq (i_If (i_cOr (i_cI_eq (i_L3 (i_I ?_)))))); (with_reducible refine i_f (by omega) ?_); (with_reducible refine i_cI_eq (i_L4 (i_I ?_))); (with_reducible refine i_f (by omega) ?_); (with_reducible refine i_Seq (i_Set (i_IA (i_FR (i_A1 ?_))))); (with_reducible refine i_fldR (by assumption) ?_); (with_reducible refine i_Add (i_L2 (i_I ?_))); rw [zx_addc (by omega)]; (with_reducible refine i_in (by assumption) (by omega) (by omega) ?_); (with_reducible refine i_Seq (i_If (i_cI_eq ?_))); (rw [p22]); simp only [w_set0, w_set1, w_setn0, w_setn1]; (with_reducible refine i_L3 (i_L4 ?_)); (with_reducible refine i_f (by omega) ?_); (with_reducible refine i_Seq (i_If (i_cAnd (i_cI_eq (i_IA (i_FR (i_A1 ?_))))))); (with_reducible refine i_fldR (by assumption) ?_); (with_reducible refine i_L2 ?_); (with_reducible refine i_in (by assumption) (by omega) (by omega) ?_); (with_reducible refine i_I ?_); (rw [t02]); (with_reducible refine i_t (by omega) ?_); (with_reducible refine i_cNot (i_cZ_ne (i_Call (i_as1 (i_FR (i_A0 ?_)))))); (with_reducible refine i_fldR (by assumption) ?_); (with_reducible refine i_as1 (i_L3 (i_as1 (i_L4 (i_as0 ?_))))); (with_reducible refine i_recv0 (by assumption) ?_); (refine s_joins hO n100 hjs ha16 hb16 ⟨_, rfl, ?_⟩); (rw [u2]); rw [zbI_f]; (with_reducible refine i_f (by omega) ?_); (with_reducible refine i_sCall (i_as1 (i_A0 (i_as1 (i_I (i_as1 (i_L5 (i_as0 ?_)))))))); (with_reducible refine i_recv0 (by assumption) ?_))
            refine c_vblame hO hS (f := 5) rfl (by decide) (fun M3 f3 z3 => ⟨rfl, ?_⟩)
            obtain ⟨w, s1, s2, s3⟩ := tail M3 (x2.tr (cXF.bl f3)) (hZ2.fo f3 rfl z3)
            ((with_reducible refine i_Ite (i_cZ_ne (i_Call (i_as1 (i_FR (i_A0 ?_)))))); (with_reducible refine i_fldR (by assumption) ?_); (with_reducible refine i_as1 (i_L3 (i_as1 (i_L4 (i_as0 ?_))))); (with_reducible refine i_recv0 (by assumption) ?_))
            refine s1.mono (fun v M4 h4 => ⟨_, h4.1, ?_⟩)
            obtain ⟨-, rfl⟩ := h4
            cases w
            · (rw [zbI_f]; (with_reducible refine i_f (by omega) ?_); (with_reducible refine i_sCall (i_as1 (i_FR (i_A0 ?_)))); (with_reducible refine i_fldR (by assumption) ?_); (with_reducible refine i_as1 (i_L3 (i_as1 (i_L4 (i_as0 ?_))))); (with_reducible refine i_recv0 (by assumption) ?_))
              refine (s3 rfl).mono (fun v M5 h5 => ⟨h5.1, ?_⟩)
              (with_reducible refine i_RetV ?_)
              exact h5.2
            · (rw [zbI_t]; (with_reducible refine i_t (by omega) ?_); (with_reducible refine i_sCall (i_as1 (i_A0 (i_as1 (i_I (i_as1 (i_L5 (i_as0 ?_)))))))); (with_reducible refine i_recv0 (by assumption) ?_))
              refine (s2 rfl).mono (fun v M5 h5 => ⟨h5.1, ?_⟩)
              (with_reducible refine i_RetV ?_)
              exact h5.2
          · obtain ⟨w, s1, s2, s3⟩ := tail M2 x2 hZ2
            ((with_reducible refine i_Seq (i_If (i_cOr (i_cI_eq (i_L3 (i_I ?_)))))); (with_reducible refine i_f (by omega) ?_); (with_reducible refine i_cI_eq (i_L4 (i_I ?_))); (with_reducible refine i_f (by omega) ?_); (with_reducible refine i_Seq (i_Set (i_IA (i_FR (i_A1 ?_))))); (with_reducible refine i_fldR (by assumption) ?_); (with_reducible refine i_Add (i_L2 (i_I ?_))); rw [zx_addc (by omega)]; (with_reducible refine i_in (by assumption) (by omega) (by omega) ?_); (with_reducible refine i_Seq (i_If (i_cI_eq ?_))); (rw [p22]); simp only [w_set0, w_set1, w_setn0, w_setn1]; (with_reducible refine i_L3 (i_L4 ?_)); (with_reducible refine i_f (by omega) ?_); (with_reducible refine i_Seq (i_If (i_cAnd (i_cI_eq (i_IA (i_FR (i_A1 ?_))))))); (with_reducible refine i_fldR (by assumption) ?_); (with_reducible refine i_L2 ?_); (with_reducible refine i_in (by assumption) (by omega) (by omega) ?_); (with_reducible refine i_I ?_); (rw [t02]); (with_reducible refine i_t (by omega) ?_); (with_reducible refine i_cNot (i_cZ_ne (i_Call (i_as1 (i_FR (i_A0 ?_)))))); (with_reducible refine i_fldR (by assumption) ?_); (with_reducible refine i_as1 (i_L3 (i_as1 (i_L4 (i_as0 ?_))))); (with_reducible refine i_recv0 (by assumption) ?_); (refine s_joins hO n100 hjs ha16 hb16 ⟨_, rfl, ?_⟩); (rw [u2]); rw [zbI_t]; (with_reducible refine i_t (by omega) ?_); (with_reducible refine i_Ite (i_cZ_ne (i_Call (i_as1 (i_FR (i_A0 ?_)))))); (with_reducible refine i_fldR (by assumption) ?_); (with_reducible refine i_as1 (i_L3 (i_as1 (i_L4 (i_as0 ?_))))); (with_reducible refine i_recv0 (by assumption) ?_))
            refine s1.mono (fun v M4 h4 => ⟨_, h4.1, ?_⟩)
            obtain ⟨-, rfl⟩ := h4
            cases w
            · (rw [zbI_f]; (with_reducible refine i_f (by omega) ?_); (with_reducible refine i_sCall (i_as1 (i_FR (i_A0 ?_)))); (with_reducible refine i_fldR (by assumption) ?_); (with_reducible refine i_as1 (i_L3 (i_as1 (i_L4 (i_as0 ?_))))); (with_reducible refine i_recv0 (by assumption) ?_))
              refine (s3 rfl).mono (fun v M5 h5 => ⟨h5.1, ?_⟩)
              (with_reducible refine i_RetV ?_)
              exact h5.2
            · (rw [zbI_t]; (with_reducible refine i_t (by omega) ?_); (with_reducible refine i_sCall (i_as1 (i_A0 (i_as1 (i_I (i_as1 (i_L5 (i_as0 ?_)))))))); (with_reducible refine i_recv0 (by assumption) ?_))
              refine (s2 rfl).mono (fun v M5 h5 => ⟨h5.1, ?_⟩)
              (with_reducible refine i_RetV ?_)
              exact h5.2
    · rw [if_pos ea, if_neg eb]
      ((with_reducible refine i_Seq (i_If (i_cOr (i_cI_eq (i_L3 (i_I ?_)))))); (with_reducible refine i_f (by omega) ?_); (with_reducible refine i_cI_eq (i_L4 (i_I ?_))); simp only [w_set0, w_set1, w_setn0, w_setn1]; (with_reducible refine i_t trivial ?_); (with_reducible refine i_RetV ?_))
      exact hk M2 x2 hZ2
  · rw [if_neg ea]
    ((with_reducible refine i_Seq (i_If (i_cOr (i_cI_eq (i_L3 (i_I ?_)))))); simp only [w_set0, w_set1, w_setn0, w_setn1]; (with_reducible refine i_t trivial ?_); (with_reducible refine i_RetV ?_))
    exact hk M2 x2 hZ2
