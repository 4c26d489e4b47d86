/-! ===== pairs told, all tells: the reference ===== -/
theorem uoI_x {a x : Nat} (hx : x < 999) : uoI a = ((x : Nat) : Int) ↔ a = x := by
  unfold uoI
  split <;> omega
theorem m_isTextSaid {O : zOm} (hO : zWld O) (hS : zS O = zmS zC0) {k p q n : Nat} {Z : zZt} {M : zMem} {K : Option zV → zMem → Prop} (hZo : rZo M Z) (hZw : rZw M Z) (hO2 : uO2 n Z) (hw : uWk n Z (uw Z k)) (hub : ub Z < 999) (hk1 : k < uk Z) (hk41 : uk Z ≤ 41) (hp : p < 16) (hq : q < 16) (hk : K (some (0, zbI (usy (uo Z) (ul Z) (uw Z k) p q))) M) : zR O F_Model_isTextSaid [(2, 250), (0, ((k : Nat) : Int)), (0, ((p : Nat) : Int)), (0, ((q : Nat) : Int))] M K := by
  obtain ⟨y1, y2, y3⟩ := hZw.2 k hk1
  obtain ⟨op, lp⟩ := hZo p hp
  obtain ⟨oq, lq⟩ := hZo q hq
  have hl : ∀ r, uo Z r ≠ 999 → ul Z r ≤ 16 := fun r hr => by
    have := (hO2.1 r hr).2.2
    have := zSz_le (uo Z) 16 (uo Z r)
    omega
  have hlp := hl p
  have hlq := hl q
  clear hl
  generalize hww : uw Z k = w at hw y1 y2 y3 hk
  obtain ⟨s, x, y⟩ := w
  unfold uWk at hw
  (try dsimp only at hw y1 y2)
  unfold usy at hk
  (try dsimp only at hk)
  generalize uo Z p = a at *
  generalize uo Z q = b at *
  generalize ul Z p = c at *
  generalize ul Z q = d at *
  apply r_Model_isTextSaid hO
  unfold B_Model_isTextSaid
  have f75 := zMF (k := 75) hS rfl; have a305 := zMA (a := 305) (ty := .int) (n := 41) hS rfl; have f76 := zMF (k := 76) hS rfl; have a306 := zMA (a := 306) (ty := .int) (n := 41) hS rfl; have f74 := zMF (k := 74) hS rfl; have a304 := zMA (a := 304) (ty := .int) (n := 41) hS rfl; have f71 := zMF (k := 71) hS rfl; have a302 := zMA (a := 302) (ty := .int) (n := 16) hS rfl; have f72 := zMF (k := 72) hS rfl; have a303 := zMA (a := 303) (ty := .int) (n := 16) hS rfl; have zo := zMO hS
  rcases hw with ⟨e1, e2, -, -⟩ | ⟨e1, e2, e3, -, -⟩ | ⟨e1, e2, e3, -⟩
  · have ax := uoI_x (a := a) (x := x) (by omega)
    have bx := uoI_x (a := b) (x := x) (by omega)
    rcases e1 with e1 | e1
    · rw [if_pos e1] at hk
      by_cases h1 : a = x
      · have h1' := ax.mpr h1
        by_cases h2 : b = x
        · have h2' := bx.mpr h2
          rw [decide_eq_true ⟨h1, h2⟩] at hk
          ((with_reducible refine i_Seq (i_Set (i_IA (i_FR (i_A0 ?_))))); (with_reducible refine i_fldR (by assumption) ?_); (with_reducible refine i_L1 ?_); (with_reducible refine i_in (by assumption) (by omega) (by omega) ?_); (with_reducible refine i_Seq (i_Set (i_IA (i_FR ?_)))); (rw [y2]); simp only [w_set0, w_set1, w_setn0, w_setn1]; (with_reducible refine i_A0 ?_); (with_reducible refine i_fldR (by assumption) ?_); (with_reducible refine i_L1 ?_); (with_reducible refine i_in (by assumption) (by omega) (by omega) ?_); (with_reducible refine i_Seq (i_If (i_cZ_eq (i_IA (i_FR ?_))))); simp only [w_set0, w_set1, w_setn0, w_setn1]; (with_reducible refine i_A0 ?_); (with_reducible refine i_fldR (by assumption) ?_); (with_reducible refine i_L1 ?_); (with_reducible refine i_in (by assumption) (by omega) (by omega) ?_); (rw [y1]); (with_reducible refine i_t (by omega) ?_); (with_reducible refine i_RetZ (i_eIf (i_cAnd (i_cI_eq (i_IA (i_FR (i_A0 ?_))))))); (with_reducible refine i_fldR (by assumption) ?_); (with_reducible refine i_L2 ?_); (with_reducible refine i_in (by assumption) (by omega) (by omega) ?_); (with_reducible refine i_L4 ?_); (rw [op]); (with_reducible refine i_t (by omega) ?_); (with_reducible refine i_cI_eq (i_IA (i_FR (i_A0 ?_)))); (with_reducible refine i_fldR (by assumption) ?_); (with_reducible refine i_L3 ?_); (with_reducible refine i_in (by assumption) (by omega) (by omega) ?_); (with_reducible refine i_L4 ?_); (rw [oq]); (with_reducible refine i_t (by omega) ?_); (with_reducible refine i_I ?_); (with_reducible refine i_z (Or.inr rfl) ?_))
          exact hk
        · have h2' : ¬ uoI b = ((x : Nat) : Int) := fun z => h2 (bx.mp z)
          rw [decide_eq_false (fun z => h2 z.2)] at hk
          ((with_reducible refine i_Seq (i_Set (i_IA (i_FR (i_A0 ?_))))); (with_reducible refine i_fldR (by assumption) ?_); (with_reducible refine i_L1 ?_); (with_reducible refine i_in (by assumption) (by omega) (by omega) ?_); (with_reducible refine i_Seq (i_Set (i_IA (i_FR ?_)))); (rw [y2]); simp only [w_set0, w_set1, w_setn0, w_setn1]; (with_reducible refine i_A0 ?_); (with_reducible refine i_fldR (by assumption) ?_); (with_reducible refine i_L1 ?_); (with_reducible refine i_in (by assumption) (by omega) (by omega) ?_); (with_reducible refine i_Seq (i_If (i_cZ_eq (i_IA (i_FR ?_))))); simp only [w_set0, w_set1, w_setn0, w_setn1]; (with_reducible refine i_A0 ?_); (with_reducible refine i_fldR (by assumption) ?_); (with_reducible refine i_L1 ?_); (with_reducible refine i_in (by assumption) (by omega) (by omega) ?_); (rw [y1]); (with_reducible refine i_t (by omega) ?_); (with_reducible refine i_RetZ (i_eIf (i_cAnd (i_cI_eq (i_IA (i_FR (i_A0 ?_))))))); (with_reducible refine i_fldR (by assumption) ?_); (with_reducible refine i_L2 ?_); (with_reducible refine i_in (by assumption) (by omega) (by omega) ?_); (with_reducible refine i_L4 ?_); (rw [op]); (with_reducible refine i_t (by omega) ?_); (with_reducible refine i_cI_eq (i_IA (i_FR (i_A0 ?_)))); (with_reducible refine i_fldR (by assumption) ?_); (with_reducible refine i_L3 ?_); (with_reducible refine i_in (by assumption) (by omega) (by omega) ?_); (with_reducible refine i_L4 ?_); (rw [oq]); (with_reducible refine i_f (by omega) ?_); (with_reducible refine i_I ?_); (with_reducible refine i_z (Or.inl rfl) ?_))
          exact hk
      · have h1' : ¬ uoI a = ((x : Nat) : Int) := fun z => h1 (ax.mp z)
        rw [decide_eq_false (fun z => h1 z.1)] at hk
        ((with_reducible refine i_Seq (i_Set (i_IA (i_FR (i_A0 ?_))))); (with_reducible refine i_fldR (by assumption) ?_); (with_reducible refine i_L1 ?_); (with_reducible refine i_in (by assumption) (by omega) (by omega) ?_); (with_reducible refine i_Seq (i_Set (i_IA (i_FR ?_)))); (rw [y2]); simp only [w_set0, w_set1, w_setn0, w_setn1]; (with_reducible refine i_A0 ?_); (with_reducible refine i_fldR (by assumption) ?_); (with_reducible refine i_L1 ?_); (with_reducible refine i_in (by assumption) (by omega) (by omega) ?_); (with_reducible refine i_Seq (i_If (i_cZ_eq (i_IA (i_FR ?_))))); simp only [w_set0, w_set1, w_setn0, w_setn1]; (with_reducible refine i_A0 ?_); (with_reducible refine i_fldR (by assumption) ?_); (with_reducible refine i_L1 ?_); (with_reducible refine i_in (by assumption) (by omega) (by omega) ?_); (rw [y1]); (with_reducible refine i_t (by omega) ?_); (with_reducible refine i_RetZ (i_eIf (i_cAnd (i_cI_eq (i_IA (i_FR (i_A0 ?_))))))); (with_reducible refine i_fldR (by assumption) ?_); (with_reducible refine i_L2 ?_); (with_reducible refine i_in (by assumption) (by omega) (by omega) ?_); (with_reducible refine i_L4 ?_); (rw [op]); (with_reducible refine i_f (by omega) ?_); (with_reducible refine i_I ?_); (with_reducible refine i_z (Or.inl rfl) ?_))
        exact hk
    · rw [if_neg (by omega), if_neg (by omega), if_neg (by omega)] at hk
      by_cases h1 : a = x
      · have h1' := ax.mpr h1
        by_cases h2 : b = x
        · have h2' := bx.mpr h2
          have c1 := hlp (by omega)
          have d1 := hlq (by omega)
          by_cases h3 : c = d + 1
          · rw [decide_eq_true ⟨h1, h2, Or.inl h3⟩] at hk
            ((with_reducible refine i_Seq (i_Set (i_IA (i_FR (i_A0 ?_))))); (with_reducible refine i_fldR (by assumption) ?_); (with_reducible refine i_L1 ?_); (with_reducible refine i_in (by assumption) (by omega) (by omega) ?_); (with_reducible refine i_Seq (i_Set (i_IA (i_FR ?_)))); (rw [y2]); simp only [w_set0, w_set1, w_setn0, w_setn1]; (with_reducible refine i_A0 ?_); (with_reducible refine i_fldR (by assumption) ?_); (with_reducible refine i_L1 ?_); (with_reducible refine i_in (by assumption) (by omega) (by omega) ?_); (with_reducible refine i_Seq (i_If (i_cZ_eq (i_IA (i_FR ?_))))); simp only [w_set0, w_set1, w_setn0, w_setn1]; (with_reducible refine i_A0 ?_); (with_reducible refine i_fldR (by assumption) ?_); (with_reducible refine i_L1 ?_); (with_reducible refine i_in (by assumption) (by omega) (by omega) ?_); (rw [y1]); (with_reducible refine i_f (by omega) ?_); (with_reducible refine i_Seq (i_If (i_cI_eq (i_IA (i_FR (i_A0 ?_)))))); (with_reducible refine i_fldR (by assumption) ?_); (with_reducible refine i_L1 ?_); (with_reducible refine i_in (by assumption) (by omega) (by omega) ?_); (with_reducible refine i_I ?_); (rw [y1]); (with_reducible refine i_f (by omega) ?_); (with_reducible refine i_Seq (i_If (i_cI_eq (i_IA (i_FR (i_A0 ?_)))))); (with_reducible refine i_fldR (by assumption) ?_); (with_reducible refine i_L1 ?_); (with_reducible refine i_in (by assumption) (by omega) (by omega) ?_); (with_reducible refine i_I ?_); (rw [y1]); (with_reducible refine i_f (by omega) ?_); (with_reducible refine i_Seq (i_Set (i_Sub (i_IA (i_FR (i_A0 ?_)))))); (with_reducible refine i_fldR (by assumption) ?_); (with_reducible refine i_L2 ?_); (with_reducible refine i_in (by assumption) (by omega) (by omega) ?_); (with_reducible refine i_IA (i_FR (i_A0 ?_))); (with_reducible refine i_fldR (by assumption) ?_); (with_reducible refine i_L3 ?_); (with_reducible refine i_in (by assumption) (by omega) (by omega) ?_); (with_reducible refine i_RetZ (i_eIf (i_cAnd (i_cAnd (i_cI_eq (i_IA (i_FR ?_))))))); (rw [lp]); (rw [lq]); rw [zx_sub (by omega) (by omega)]; simp only [w_set0, w_set1, w_setn0, w_setn1]; (with_reducible refine i_A0 ?_); (with_reducible refine i_fldR (by assumption) ?_); (with_reducible refine i_L2 ?_); (with_reducible refine i_in (by assumption) (by omega) (by omega) ?_); (with_reducible refine i_L4 ?_); (rw [op]); (with_reducible refine i_t (by omega) ?_); (with_reducible refine i_cI_eq (i_IA (i_FR (i_A0 ?_)))); (with_reducible refine i_fldR (by assumption) ?_); (with_reducible refine i_L3 ?_); (with_reducible refine i_in (by assumption) (by omega) (by omega) ?_); (with_reducible refine i_L4 ?_); (rw [oq]); (with_reducible refine i_t (by omega) ?_); (with_reducible refine i_cOr (i_cI_eq (i_L6 (i_I ?_)))); (with_reducible refine i_t (by omega) ?_); (with_reducible refine i_I ?_); (with_reducible refine i_z (Or.inr rfl) ?_))
            exact hk
          · by_cases h4 : d = c + 1
            · rw [decide_eq_true ⟨h1, h2, Or.inr h4⟩] at hk
              ((with_reducible refine i_Seq (i_Set (i_IA (i_FR (i_A0 ?_))))); (with_reducible refine i_fldR (by assumption) ?_); (with_reducible refine i_L1 ?_); (with_reducible refine i_in (by assumption) (by omega) (by omega) ?_); (with_reducible refine i_Seq (i_Set (i_IA (i_FR ?_)))); (rw [y2]); simp only [w_set0, w_set1, w_setn0, w_setn1]; (with_reducible refine i_A0 ?_); (with_reducible refine i_fldR (by assumption) ?_); (with_reducible refine i_L1 ?_); (with_reducible refine i_in (by assumption) (by omega) (by omega) ?_); (with_reducible refine i_Seq (i_If (i_cZ_eq (i_IA (i_FR ?_))))); simp only [w_set0, w_set1, w_setn0, w_setn1]; (with_reducible refine i_A0 ?_); (with_reducible refine i_fldR (by assumption) ?_); (with_reducible refine i_L1 ?_); (with_reducible refine i_in (by assumption) (by omega) (by omega) ?_); (rw [y1]); (with_reducible refine i_f (by omega) ?_); (with_reducible refine i_Seq (i_If (i_cI_eq (i_IA (i_FR (i_A0 ?_)))))); (with_reducible refine i_fldR (by assumption) ?_); (with_reducible refine i_L1 ?_); (with_reducible refine i_in (by assumption) (by omega) (by omega) ?_); (with_reducible refine i_I ?_); (rw [y1]); (with_reducible refine i_f (by omega) ?_); (with_reducible refine i_Seq (i_If (i_cI_eq (i_IA (i_FR (i_A0 ?_)))))); (with_reducible refine i_fldR (by assumption) ?_); (with_reducible refine i_L1 ?_); (with_reducible refine i_in (by assumption) (by omega) (by omega) ?_); (with_reducible refine i_I ?_); (rw [y1]); (with_reducible refine i_f (by omega) ?_); (with_reducible refine i_Seq (i_Set (i_Sub (i_IA (i_FR (i_A0 ?_)))))); (with_reducible refine i_fldR (by assumption) ?_); (with_reducible refine i_L2 ?_); (with_reducible refine i_in (by assumption) (by omega) (by omega) ?_); (with_reducible refine i_IA (i_FR (i_A0 ?_))); (with_reducible refine i_fldR (by assumption) ?_); (with_reducible refine i_L3 ?_); (with_reducible refine i_in (by assumption) (by omega) (by omega) ?_); (with_reducible refine i_RetZ (i_eIf (i_cAnd (i_cAnd (i_cI_eq (i_IA (i_FR ?_))))))); (rw [lp]); (rw [lq]); rw [zx_s (by omega) (by omega)]; simp only [w_set0, w_set1, w_setn0, w_setn1]; (with_reducible refine i_A0 ?_); (with_reducible refine i_fldR (by assumption) ?_); (with_reducible refine i_L2 ?_); (with_reducible refine i_in (by assumption) (by omega) (by omega) ?_); (with_reducible refine i_L4 ?_); (rw [op]); (with_reducible refine i_t (by omega) ?_); (with_reducible refine i_cI_eq (i_IA (i_FR (i_A0 ?_)))); (with_reducible refine i_fldR (by assumption) ?_); (with_reducible refine i_L3 ?_); (with_reducible refine i_in (by assumption) (by omega) (by omega) ?_); (with_reducible refine i_L4 ?_); (rw [oq]); (with_reducible refine i_t (by omega) ?_); (with_reducible refine i_cOr (i_cI_eq (i_L6 (i_I ?_)))); (with_reducible refine i_f (by omega) ?_); (with_reducible refine i_cI_eq (i_L6 (i_I ?_))); (with_reducible refine i_t (by omega) ?_); (with_reducible refine i_I ?_); (with_reducible refine i_z (Or.inr rfl) ?_))
              exact hk
            · rw [decide_eq_false (fun z => z.2.2.elim h3 h4)] at hk
              ((with_reducible refine i_Seq (i_Set (i_IA (i_FR (i_A0 ?_))))); (with_reducible refine i_fldR (by assumption) ?_); (with_reducible refine i_L1 ?_); (with_reducible refine i_in (by assumption) (by omega) (by omega) ?_); (with_reducible refine i_Seq (i_Set (i_IA (i_FR ?_)))); (rw [y2]); simp only [w_set0, w_set1, w_setn0, w_setn1]; (with_reducible refine i_A0 ?_); (with_reducible refine i_fldR (by assumption) ?_); (with_reducible refine i_L1 ?_); (with_reducible refine i_in (by assumption) (by omega) (by omega) ?_); (with_reducible refine i_Seq (i_If (i_cZ_eq (i_IA (i_FR ?_))))); simp only [w_set0, w_set1, w_setn0, w_setn1]; (with_reducible refine i_A0 ?_); (with_reducible refine i_fldR (by assumption) ?_); (with_reducible refine i_L1 ?_); (with_reducible refine i_in (by assumption) (by omega) (by omega) ?_); (rw [y1]); (with_reducible refine i_f (by omega) ?_); (with_reducible refine i_Seq (i_If (i_cI_eq (i_IA (i_FR (i_A0 ?_)))))); (with_reducible refine i_fldR (by assumption) ?_); (with_reducible refine i_L1 ?_); (with_reducible refine i_in (by assumption) (by omega) (by omega) ?_); (with_reducible refine i_I ?_); (rw [y1]); (with_reducible refine i_f (by omega) ?_); (with_reducible refine i_Seq (i_If (i_cI_eq (i_IA (i_FR (i_A0 ?_)))))); (with_reducible refine i_fldR (by assumption) ?_); (with_reducible refine i_L1 ?_); (with_reducible refine i_in (by assumption) (by omega) (by omega) ?_); (with_reducible refine i_I ?_); (rw [y1]); (with_reducible refine i_f (by omega) ?_); (with_reducible refine i_Seq (i_Set (i_Sub (i_IA (i_FR (i_A0 ?_)))))); (with_reducible refine i_fldR (by assumption) ?_); (with_reducible refine i_L2 ?_); (with_reducible refine i_in (by assumption) (by omega) (by omega) ?_); (with_reducible refine i_IA (i_FR (i_A0 ?_))); (with_reducible refine i_fldR (by assumption) ?_); (with_reducible refine i_L3 ?_); (with_reducible refine i_in (by assumption) (by omega) (by omega) ?_); (with_reducible refine i_RetZ (i_eIf (i_cAnd (i_cAnd (i_cI_eq (i_IA (i_FR ?_))))))); (rw [lp]); (rw [lq]); rw [zx_s (by omega) (by omega)]; simp only [w_set0, w_set1, w_setn0, w_setn1]; (with_reducible refine i_A0 ?_); (with_reducible refine i_fldR (by assumption) ?_); (with_reducible refine i_L2 ?_); (with_reducible refine i_in (by assumption) (by omega) (by omega) ?_); (with_reducible refine i_L4 ?_); (rw [op]); (with_reducible refine i_t (by omega) ?_); (with_reducible refine i_cI_eq (i_IA (i_FR (i_A0 ?_)))); (with_reducible refine i_fldR (by assumption) ?_); (with_reducible refine i_L3 ?_); (with_reducible refine i_in (by assumption) (by omega) (by omega) ?_); (with_reducible refine i_L4 ?_); (rw [oq]); (with_reducible refine i_t (by omega) ?_); (with_reducible refine i_cOr (i_cI_eq (i_L6 (i_I ?_)))); (with_reducible refine i_f (by omega) ?_); (with_reducible refine i_cI_eq (i_L6 (i_I ?_))); (with_reducible refine i_f (by omega) ?_); (with_reducible refine i_I ?_); (with_reducible refine i_z (Or.inl rfl) ?_))
              exact hk
        · have h2' : ¬ uoI b = ((x : Nat) : Int) := fun z => h2 (bx.mp z)
          rw [decide_eq_false (fun z => h2 z.2.1)] at hk
          ((with_reducible refine i_Seq (i_Set (i_IA (i_FR (i_A0 ?_))))); (with_reducible refine i_fldR (by assumption) ?_); (with_reducible refine i_L1 ?_); (with_reducible refine i_in (by assumption) (by omega) (by omega) ?_); (with_reducible refine i_Seq (i_Set (i_IA (i_FR ?_)))); (rw [y2]); simp only [w_set0, w_set1, w_setn0, w_setn1]; (with_reducible refine i_A0 ?_); (with_reducible refine i_fldR (by assumption) ?_); (with_reducible refine i_L1 ?_); (with_reducible refine i_in (by assumption) (by omega) (by omega) ?_); (with_reducible refine i_Seq (i_If (i_cZ_eq (i_IA (i_FR ?_))))); simp only [w_set0, w_set1, w_setn0, w_setn1]; (with_reducible refine i_A0 ?_); (with_reducible refine i_fldR (by assumption) ?_); (with_reducible refine i_L1 ?_); (with_reducible refine i_in (by assumption) (by omega) (by omega) ?_); (rw [y1]); (with_reducible refine i_f (by omega) ?_); (with_reducible refine i_Seq (i_If (i_cI_eq (i_IA (i_FR (i_A0 ?_)))))); (with_reducible refine i_fldR (by assumption) ?_); (with_reducible refine i_L1 ?_); (with_reducible refine i_in (by assumption) (by omega) (by omega) ?_); (with_reducible refine i_I ?_); (rw [y1]); (with_reducible refine i_f (by omega) ?_); (with_reducible refine i_Seq (i_If (i_cI_eq (i_IA (i_FR (i_A0 ?_)))))); (with_reducible refine i_fldR (by assumption) ?_); (with_reducible refine i_L1 ?_); (with_reducible refine i_in (by assumption) (by omega) (by omega) ?_); (with_reducible refine i_I ?_); (rw [y1]); (with_reducible refine i_f (by omega) ?_); (with_reducible refine i_Seq (i_Set (i_Sub (i_IA (i_FR (i_A0 ?_)))))); (with_reducible refine i_fldR (by assumption) ?_); (with_reducible refine i_L2 ?_); (with_reducible refine i_in (by assumption) (by omega) (by omega) ?_); (with_reducible refine i_IA (i_FR (i_A0 ?_))); (with_reducible refine i_fldR (by assumption) ?_); (with_reducible refine i_L3 ?_); (with_reducible refine i_in (by assumption) (by omega) (by omega) ?_); (with_reducible refine i_RetZ (i_eIf (i_cAnd (i_cAnd (i_cI_eq (i_IA (i_FR ?_))))))); simp only [w_set0, w_set1, w_setn0, w_setn1]; (with_reducible refine i_A0 ?_); (with_reducible refine i_fldR (by assumption) ?_); (with_reducible refine i_L2 ?_); (with_reducible refine i_in (by assumption) (by omega) (by omega) ?_); (with_reducible refine i_L4 ?_); (rw [op]); (with_reducible refine i_t (by omega) ?_); (with_reducible refine i_cI_eq (i_IA (i_FR (i_A0 ?_)))); (with_reducible refine i_fldR (by assumption) ?_); (with_reducible refine i_L3 ?_); (with_reducible refine i_in (by assumption) (by omega) (by omega) ?_); (with_reducible refine i_L4 ?_); (rw [oq]); (with_reducible refine i_f (by omega) ?_); (with_reducible refine i_I ?_); (with_reducible refine i_z (Or.inl rfl) ?_))
          exact hk
      · have h1' : ¬ uoI a = ((x : Nat) : Int) := fun z => h1 (ax.mp z)
        rw [decide_eq_false (fun z => h1 z.1)] at hk
        ((with_reducible refine i_Seq (i_Set (i_IA (i_FR (i_A0 ?_))))); (with_reducible refine i_fldR (by assumption) ?_); (with_reducible refine i_L1 ?_); (with_reducible refine i_in (by assumption) (by omega) (by omega) ?_); (with_reducible refine i_Seq (i_Set (i_IA (i_FR ?_)))); (rw [y2]); simp only [w_set0, w_set1, w_setn0, w_setn1]; (with_reducible refine i_A0 ?_); (with_reducible refine i_fldR (by assumption) ?_); (with_reducible refine i_L1 ?_); (with_reducible refine i_in (by assumption) (by omega) (by omega) ?_); (with_reducible refine i_Seq (i_If (i_cZ_eq (i_IA (i_FR ?_))))); simp only [w_set0, w_set1, w_setn0, w_setn1]; (with_reducible refine i_A0 ?_); (with_reducible refine i_fldR (by assumption) ?_); (with_reducible refine i_L1 ?_); (with_reducible refine i_in (by assumption) (by omega) (by omega) ?_); (rw [y1]); (with_reducible refine i_f (by omega) ?_); (with_reducible refine i_Seq (i_If (i_cI_eq (i_IA (i_FR (i_A0 ?_)))))); (with_reducible refine i_fldR (by assumption) ?_); (with_reducible refine i_L1 ?_); (with_reducible refine i_in (by assumption) (by omega) (by omega) ?_); (with_reducible refine i_I ?_); (rw [y1]); (with_reducible refine i_f (by omega) ?_); (with_reducible refine i_Seq (i_If (i_cI_eq (i_IA (i_FR (i_A0 ?_)))))); (with_reducible refine i_fldR (by assumption) ?_); (with_reducible refine i_L1 ?_); (with_reducible refine i_in (by assumption) (by omega) (by omega) ?_); (with_reducible refine i_I ?_); (rw [y1]); (with_reducible refine i_f (by omega) ?_); (with_reducible refine i_Seq (i_Set (i_Sub (i_IA (i_FR (i_A0 ?_)))))); (with_reducible refine i_fldR (by assumption) ?_); (with_reducible refine i_L2 ?_); (with_reducible refine i_in (by assumption) (by omega) (by omega) ?_); (with_reducible refine i_IA (i_FR (i_A0 ?_))); (with_reducible refine i_fldR (by assumption) ?_); (with_reducible refine i_L3 ?_); (with_reducible refine i_in (by assumption) (by omega) (by omega) ?_); (with_reducible refine i_RetZ (i_eIf (i_cAnd (i_cAnd (i_cI_eq (i_IA (i_FR ?_))))))); simp only [w_set0, w_set1, w_setn0, w_setn1]; (with_reducible refine i_A0 ?_); (with_reducible refine i_fldR (by assumption) ?_); (with_reducible refine i_L2 ?_); (with_reducible refine i_in (by assumption) (by omega) (by omega) ?_); (with_reducible refine i_L4 ?_); (rw [op]); (with_reducible refine i_f (by omega) ?_); (with_reducible refine i_I ?_); (with_reducible refine i_z (Or.inl rfl) ?_))
        exact hk
  · have y3' : M ((306 : Nat) : Int) ((k : Nat) : Int) = ((y : Nat) : Int) := y3.trans (if_pos (Or.inl e1))
    have ax := uoI_x (a := a) (x := x) (by omega)
    have bx := uoI_x (a := b) (x := x) (by omega)
    have ay := uoI_x (a := a) (x := y) (by omega)
    have byy := uoI_x (a := b) (x := y) (by omega)
    rw [if_neg (by omega), if_pos e1] at hk
    by_cases h1 : a = x ∧ b = y
    · have h1' := ax.mpr h1.1
      have h2' := byy.mpr h1.2
      rw [decide_eq_true (Or.inl h1)] at hk
      ((with_reducible refine i_Seq (i_Set (i_IA (i_FR (i_A0 ?_))))); (with_reducible refine i_fldR (by assumption) ?_); (with_reducible refine i_L1 ?_); (with_reducible refine i_in (by assumption) (by omega) (by omega) ?_); (with_reducible refine i_Seq (i_Set (i_IA (i_FR ?_)))); (rw [y2]); simp only [w_set0, w_set1, w_setn0, w_setn1]; (with_reducible refine i_A0 ?_); (with_reducible refine i_fldR (by assumption) ?_); (with_reducible refine i_L1 ?_); (with_reducible refine i_in (by assumption) (by omega) (by omega) ?_); (with_reducible refine i_Seq (i_If (i_cZ_eq (i_IA (i_FR ?_))))); (rw [y3']); simp only [w_set0, w_set1, w_setn0, w_setn1]; (with_reducible refine i_A0 ?_); (with_reducible refine i_fldR (by assumption) ?_); (with_reducible refine i_L1 ?_); (with_reducible refine i_in (by assumption) (by omega) (by omega) ?_); (rw [y1]); (with_reducible refine i_f (by omega) ?_); (with_reducible refine i_Seq (i_If (i_cI_eq (i_IA (i_FR (i_A0 ?_)))))); (with_reducible refine i_fldR (by assumption) ?_); (with_reducible refine i_L1 ?_); (with_reducible refine i_in (by assumption) (by omega) (by omega) ?_); (with_reducible refine i_I ?_); (rw [y1]); (with_reducible refine i_t (by omega) ?_); (with_reducible refine i_RetZ (i_eIf (i_cOr (i_cAnd (i_cI_eq (i_IA (i_FR (i_A0 ?_)))))))); (with_reducible refine i_fldR (by assumption) ?_); (with_reducible refine i_L2 ?_); (with_reducible refine i_in (by assumption) (by omega) (by omega) ?_); (with_reducible refine i_L4 ?_); (rw [op]); (with_reducible refine i_t (by omega) ?_); (with_reducible refine i_cI_eq (i_IA (i_FR (i_A0 ?_)))); (with_reducible refine i_fldR (by assumption) ?_); (with_reducible refine i_L3 ?_); (with_reducible refine i_in (by assumption) (by omega) (by omega) ?_); (with_reducible refine i_L5 ?_); (rw [oq]); (with_reducible refine i_t (by omega) ?_); (with_reducible refine i_I ?_); (with_reducible refine i_z (Or.inr rfl) ?_))
      exact hk
    · have go : ∀ {P : Prop}, (a = y ∧ b = x → P) → (¬ (a = y ∧ b = x) → P) → P := fun u v => by
        by_cases h : a = y ∧ b = x
        · exact u h
        · exact v h
      by_cases h3 : a = y ∧ b = x
      · have h3' := ay.mpr h3.1
        have h4' := bx.mpr h3.2
        rw [decide_eq_true (Or.inr h3)] at hk
        by_cases h5 : a = x
        · have h5' := ax.mpr h5
          have h6' : ¬ uoI b = ((y : Nat) : Int) := fun z => h1 ⟨h5, byy.mp z⟩
          ((with_reducible refine i_Seq (i_Set (i_IA (i_FR (i_A0 ?_))))); (with_reducible refine i_fldR (by assumption) ?_); (with_reducible refine i_L1 ?_); (with_reducible refine i_in (by assumption) (by omega) (by omega) ?_); (with_reducible refine i_Seq (i_Set (i_IA (i_FR ?_)))); (rw [y2]); simp only [w_set0, w_set1, w_setn0, w_setn1]; (with_reducible refine i_A0 ?_); (with_reducible refine i_fldR (by assumption) ?_); (with_reducible refine i_L1 ?_); (with_reducible refine i_in (by assumption) (by omega) (by omega) ?_); (with_reducible refine i_Seq (i_If (i_cZ_eq (i_IA (i_FR ?_))))); (rw [y3']); simp only [w_set0, w_set1, w_setn0, w_setn1]; (with_reducible refine i_A0 ?_); (with_reducible refine i_fldR (by assumption) ?_); (with_reducible refine i_L1 ?_); (with_reducible refine i_in (by assumption) (by omega) (by omega) ?_); (rw [y1]); (with_reducible refine i_t (by omega) ?_); (with_reducible refine i_RetZ (i_eIf (i_cAnd (i_cI_eq (i_IA (i_FR (i_A0 ?_))))))); (with_reducible refine i_fldR (by assumption) ?_); (with_reducible refine i_L2 ?_); (with_reducible refine i_in (by assumption) (by omega) (by omega) ?_); (with_reducible refine i_L4 ?_); (rw [op]); (with_reducible refine i_t (by omega) ?_); (with_reducible refine i_cI_eq (i_IA (i_FR (i_A0 ?_)))); (with_reducible refine i_fldR (by assumption) ?_); (with_reducible refine i_L3 ?_); (with_reducible refine i_in (by assumption) (by omega) (by omega) ?_); (with_reducible refine i_L4 ?_); (rw [oq]); (with_reducible refine i_t (by omega) ?_); (with_reducible refine i_I ?_); (with_reducible refine i_z (Or.inr rfl) ?_))
          exact hk
        · have h5' : ¬ uoI a = ((x : Nat) : Int) := fun z => h5 (ax.mp z)
          ((with_reducible refine i_Seq (i_Set (i_IA (i_FR (i_A0 ?_))))); (with_reducible refine i_fldR (by assumption) ?_); (with_reducible refine i_L1 ?_); (with_reducible refine i_in (by assumption) (by omega) (by omega) ?_); (with_reducible refine i_Seq (i_Set (i_IA (i_FR ?_)))); (rw [y2]); simp only [w_set0, w_set1, w_setn0, w_setn1]; (with_reducible refine i_A0 ?_); (with_reducible refine i_fldR (by assumption) ?_); (with_reducible refine i_L1 ?_); (with_reducible refine i_in (by assumption) (by omega) (by omega) ?_); (with_reducible refine i_Seq (i_If (i_cZ_eq (i_IA (i_FR ?_))))); (rw [y3']); simp only [w_set0, w_set1, w_setn0, w_setn1]; (with_reducible refine i_A0 ?_); (with_reducible refine i_fldR (by assumption) ?_); (with_reducible refine i_L1 ?_); (with_reducible refine i_in (by assumption) (by omega) (by omega) ?_); (rw [y1]); (with_reducible refine i_f (by omega) ?_); (with_reducible refine i_Seq (i_If (i_cI_eq (i_IA (i_FR (i_A0 ?_)))))); (with_reducible refine i_fldR (by assumption) ?_); (with_reducible refine i_L1 ?_); (with_reducible refine i_in (by assumption) (by omega) (by omega) ?_); (with_reducible refine i_I ?_); (rw [y1]); (with_reducible refine i_t (by omega) ?_); (with_reducible refine i_RetZ (i_eIf (i_cOr (i_cAnd (i_cI_eq (i_IA (i_FR (i_A0 ?_)))))))); (with_reducible refine i_fldR (by assumption) ?_); (with_reducible refine i_L2 ?_); (with_reducible refine i_in (by assumption) (by omega) (by omega) ?_); (with_reducible refine i_L4 ?_); (rw [op]); (with_reducible refine i_f (by omega) ?_); (with_reducible refine i_cAnd (i_cI_eq (i_IA (i_FR (i_A0 ?_))))); (with_reducible refine i_fldR (by assumption) ?_); (with_reducible refine i_L2 ?_); (with_reducible refine i_in (by assumption) (by omega) (by omega) ?_); (with_reducible refine i_L5 ?_); (rw [op]); (with_reducible refine i_t (by omega) ?_); (with_reducible refine i_cI_eq (i_IA (i_FR (i_A0 ?_)))); (with_reducible refine i_fldR (by assumption) ?_); (with_reducible refine i_L3 ?_); (with_reducible refine i_in (by assumption) (by omega) (by omega) ?_); (with_reducible refine i_L4 ?_); (rw [oq]); (with_reducible refine i_t (by omega) ?_); (with_reducible refine i_I ?_); (with_reducible refine i_z (Or.inr rfl) ?_))
          exact hk
      · rw [decide_eq_false (fun z => z.elim h1 h3)] at hk
        by_cases h5 : a = x
        · have h5' := ax.mpr h5
          have h6' : ¬ uoI b = ((y : Nat) : Int) := fun z => h1 ⟨h5, byy.mp z⟩
          by_cases h7 : a = y
          · have h7' := ay.mpr h7
            have h8' : ¬ uoI b = ((x : Nat) : Int) := fun z => h3 ⟨h7, bx.mp z⟩
            ((with_reducible refine i_Seq (i_Set (i_IA (i_FR (i_A0 ?_))))); (with_reducible refine i_fldR (by assumption) ?_); (with_reducible refine i_L1 ?_); (with_reducible refine i_in (by assumption) (by omega) (by omega) ?_); (with_reducible refine i_Seq (i_Set (i_IA (i_FR ?_)))); (rw [y2]); simp only [w_set0, w_set1, w_setn0, w_setn1]; (with_reducible refine i_A0 ?_); (with_reducible refine i_fldR (by assumption) ?_); (with_reducible refine i_L1 ?_); (with_reducible refine i_in (by assumption) (by omega) (by omega) ?_); (with_reducible refine i_Seq (i_If (i_cZ_eq (i_IA (i_FR ?_))))); (rw [y3']); simp only [w_set0, w_set1, w_setn0, w_setn1]; (with_reducible refine i_A0 ?_); (with_reducible refine i_fldR (by assumption) ?_); (with_reducible refine i_L1 ?_); (with_reducible refine i_in (by assumption) (by omega) (by omega) ?_); (rw [y1]); (with_reducible refine i_f (by omega) ?_); (with_reducible refine i_Seq (i_If (i_cI_eq (i_IA (i_FR (i_A0 ?_)))))); (with_reducible refine i_fldR (by assumption) ?_); (with_reducible refine i_L1 ?_); (with_reducible refine i_in (by assumption) (by omega) (by omega) ?_); (with_reducible refine i_I ?_); (rw [y1]); (with_reducible refine i_t (by omega) ?_); (with_reducible refine i_RetZ (i_eIf (i_cOr (i_cAnd (i_cI_eq (i_IA (i_FR (i_A0 ?_)))))))); (with_reducible refine i_fldR (by assumption) ?_); (with_reducible refine i_L2 ?_); (with_reducible refine i_in (by assumption) (by omega) (by omega) ?_); (with_reducible refine i_L4 ?_); (rw [op]); (with_reducible refine i_t (by omega) ?_); (with_reducible refine i_cI_eq (i_IA (i_FR (i_A0 ?_)))); (with_reducible refine i_fldR (by assumption) ?_); (with_reducible refine i_L3 ?_); (with_reducible refine i_in (by assumption) (by omega) (by omega) ?_); (with_reducible refine i_L5 ?_); (rw [oq]); (with_reducible refine i_f (by omega) ?_); (with_reducible refine i_cAnd (i_cI_eq (i_IA (i_FR (i_A0 ?_))))); (with_reducible refine i_fldR (by assumption) ?_); (with_reducible refine i_L2 ?_); (with_reducible refine i_in (by assumption) (by omega) (by omega) ?_); (with_reducible refine i_L5 ?_); (rw [op]); (with_reducible refine i_t (by omega) ?_); (with_reducible refine i_cI_eq (i_IA (i_FR (i_A0 ?_)))); (with_reducible refine i_fldR (by assumption) ?_); (with_reducible refine i_L3 ?_); (with_reducible refine i_in (by assumption) (by omega) (by omega) ?_); (with_reducible refine i_L4 ?_); (rw [oq]); (with_reducible refine i_f (by omega) ?_); (with_reducible refine i_I ?_); (with_reducible refine i_z (Or.inl rfl) ?_))
            exact hk
          · have h7' : ¬ uoI a = ((y : Nat) : Int) := fun z => h7 (ay.mp z)
            ((with_reducible refine i_Seq (i_Set (i_IA (i_FR (i_A0 ?_))))); (with_reducible refine i_fldR (by assumption) ?_); (with_reducible refine i_L1 ?_); (with_reducible refine i_in (by assumption) (by omega) (by omega) ?_); (with_reducible refine i_Seq (i_Set (i_IA (i_FR ?_)))); (rw [y2]); simp only [w_set0, w_set1, w_setn0, w_setn1]; (with_reducible refine i_A0 ?_); (with_reducible refine i_fldR (by assumption) ?_); (with_reducible refine i_L1 ?_); (with_reducible refine i_in (by assumption) (by omega) (by omega) ?_); (with_reducible refine i_Seq (i_If (i_cZ_eq (i_IA (i_FR ?_))))); (rw [y3']); simp only [w_set0, w_set1, w_setn0, w_setn1]; (with_reducible refine i_A0 ?_); (with_reducible refine i_fldR (by assumption) ?_); (with_reducible refine i_L1 ?_); (with_reducible refine i_in (by assumption) (by omega) (by omega) ?_); (rw [y1]); (with_reducible refine i_f (by omega) ?_); (with_reducible refine i_Seq (i_If (i_cI_eq (i_IA (i_FR (i_A0 ?_)))))); (with_reducible refine i_fldR (by assumption) ?_); (with_reducible refine i_L1 ?_); (with_reducible refine i_in (by assumption) (by omega) (by omega) ?_); (with_reducible refine i_I ?_); (rw [y1]); (with_reducible refine i_t (by omega) ?_); (with_reducible refine i_RetZ (i_eIf (i_cOr (i_cAnd (i_cI_eq (i_IA (i_FR (i_A0 ?_)))))))); (with_reducible refine i_fldR (by assumption) ?_); (with_reducible refine i_L2 ?_); (with_reducible refine i_in (by assumption) (by omega) (by omega) ?_); (with_reducible refine i_L4 ?_); (rw [op]); (with_reducible refine i_t (by omega) ?_); (with_reducible refine i_cI_eq (i_IA (i_FR (i_A0 ?_)))); (with_reducible refine i_fldR (by assumption) ?_); (with_reducible refine i_L3 ?_); (with_reducible refine i_in (by assumption) (by omega) (by omega) ?_); (with_reducible refine i_L5 ?_); (rw [oq]); (with_reducible refine i_f (by omega) ?_); (with_reducible refine i_cAnd (i_cI_eq (i_IA (i_FR (i_A0 ?_))))); (with_reducible refine i_fldR (by assumption) ?_); (with_reducible refine i_L2 ?_); (with_reducible refine i_in (by assumption) (by omega) (by omega) ?_); (with_reducible refine i_L5 ?_); (rw [op]); (with_reducible refine i_f (by omega) ?_); (with_reducible refine i_I ?_); (with_reducible refine i_z (Or.inl rfl) ?_))
            exact hk
        · have h5' : ¬ uoI a = ((x : Nat) : Int) := fun z => h5 (ax.mp z)
          by_cases h7 : a = y
          · have h7' := ay.mpr h7
            have h8' : ¬ uoI b = ((x : Nat) : Int) := fun z => h3 ⟨h7, bx.mp z⟩
            ((with_reducible refine i_Seq (i_Set (i_IA (i_FR (i_A0 ?_))))); (with_reducible refine i_fldR (by assumption) ?_); (with_reducible refine i_L1 ?_); (with_reducible refine i_in (by assumption) (by omega) (by omega) ?_); (with_reducible refine i_Seq (i_Set (i_IA (i_FR ?_)))); (rw [y2]); simp only [w_set0, w_set1, w_setn0, w_setn1]; (with_reducible refine i_A0 ?_); (with_reducible refine i_fldR (by assumption) ?_); (with_reducible refine i_L1 ?_); (with_reducible refine i_in (by assumption) (by omega) (by omega) ?_); (with_reducible refine i_Seq (i_If (i_cZ_eq (i_IA (i_FR ?_))))); (rw [y3']); simp only [w_set0, w_set1, w_setn0, w_setn1]; (with_reducible refine i_A0 ?_); (with_reducible refine i_fldR (by assumption) ?_); (with_reducible refine i_L1 ?_); (with_reducible refine i_in (by assumption) (by omega) (by omega) ?_); (rw [y1]); (with_reducible refine i_f (by omega) ?_); (with_reducible refine i_Seq (i_If (i_cI_eq (i_IA (i_FR (i_A0 ?_)))))); (with_reducible refine i_fldR (by assumption) ?_); (with_reducible refine i_L1 ?_); (with_reducible refine i_in (by assumption) (by omega) (by omega) ?_); (with_reducible refine i_I ?_); (rw [y1]); (with_reducible refine i_t (by omega) ?_); (with_reducible refine i_RetZ (i_eIf (i_cOr (i_cAnd (i_cI_eq (i_IA (i_FR (i_A0 ?_)))))))); (with_reducible refine i_fldR (by assumption) ?_); (with_reducible refine i_L2 ?_); (with_reducible refine i_in (by assumption) (by omega) (by omega) ?_); (with_reducible refine i_L4 ?_); (rw [op]); (with_reducible refine i_f (by omega) ?_); (with_reducible refine i_cAnd (i_cI_eq (i_IA (i_FR (i_A0 ?_))))); (with_reducible refine i_fldR (by assumption) ?_); (with_reducible refine i_L2 ?_); (with_reducible refine i_in (by assumption) (by omega) (by omega) ?_); (with_reducible refine i_L5 ?_); (rw [op]); (with_reducible refine i_t (by omega) ?_); (with_reducible refine i_cI_eq (i_IA (i_FR (i_A0 ?_)))); (with_reducible refine i_fldR (by assumption) ?_); (with_reducible refine i_L3 ?_); (with_reducible refine i_in (by assumption) (by omega) (by omega) ?_); (with_reducible refine i_L4 ?_); (rw [oq]); (with_reducible refine i_f (by omega) ?_); (with_reducible refine i_I ?_); (with_reducible refine i_z (Or.inl rfl) ?_))
            exact hk
          · have h7' : ¬ uoI a = ((y : Nat) : Int) := fun z => h7 (ay.mp z)
            ((with_reducible refine i_Seq (i_Set (i_IA (i_FR (i_A0 ?_))))); (with_reducible refine i_fldR (by assumption) ?_); (with_reducible refine i_L1 ?_); (with_reducible refine i_in (by assumption) (by omega) (by omega) ?_); (with_reducible refine i_Seq (i_Set (i_IA (i_FR ?_)))); (rw [y2]); simp only [w_set0, w_set1, w_setn0, w_setn1]; (with_reducible refine i_A0 ?_); (with_reducible refine i_fldR (by assumption) ?_); (with_reducible refine i_L1 ?_); (with_reducible refine i_in (by assumption) (by omega) (by omega) ?_); (with_reducible refine i_Seq (i_If (i_cZ_eq (i_IA (i_FR ?_))))); (rw [y3']); simp only [w_set0, w_set1, w_setn0, w_setn1]; (with_reducible refine i_A0 ?_); (with_reducible refine i_fldR (by assumption) ?_); (with_reducible refine i_L1 ?_); (with_reducible refine i_in (by assumption) (by omega) (by omega) ?_); (rw [y1]); (with_reducible refine i_f (by omega) ?_); (with_reducible refine i_Seq (i_If (i_cI_eq (i_IA (i_FR (i_A0 ?_)))))); (with_reducible refine i_fldR (by assumption) ?_); (with_reducible refine i_L1 ?_); (with_reducible refine i_in (by assumption) (by omega) (by omega) ?_); (with_reducible refine i_I ?_); (rw [y1]); (with_reducible refine i_t (by omega) ?_); (with_reducible refine i_RetZ (i_eIf (i_cOr (i_cAnd (i_cI_eq (i_IA (i_FR (i_A0 ?_)))))))); (with_reducible refine i_fldR (by assumption) ?_); (with_reducible refine i_L2 ?_); (with_reducible refine i_in (by assumption) (by omega) (by omega) ?_); (with_reducible refine i_L4 ?_); (rw [op]); (with_reducible refine i_f (by omega) ?_); (with_reducible refine i_cAnd (i_cI_eq (i_IA (i_FR (i_A0 ?_))))); (with_reducible refine i_fldR (by assumption) ?_); (with_reducible refine i_L2 ?_); (with_reducible refine i_in (by assumption) (by omega) (by omega) ?_); (with_reducible refine i_L5 ?_); (rw [op]); (with_reducible refine i_f (by omega) ?_); (with_reducible refine i_I ?_); (with_reducible refine i_z (Or.inl rfl) ?_))
            exact hk
  · have y3' : M ((306 : Nat) : Int) ((k : Nat) : Int) = ((y : Nat) : Int) := y3.trans (if_pos (Or.inr e1))
    have ay := uoI_x (a := a) (x := y) (by omega)
    have byy := uoI_x (a := b) (x := y) (by omega)
    rw [if_neg (by omega), if_neg (by omega), if_pos e1] at hk
    by_cases h1 : p = x ∧ b = y
    · have h2' := byy.mpr h1.2
      have h1' : ((p : Nat) : Int) = ((x : Nat) : Int) := by omega
      rw [decide_eq_true (Or.inl h1)] at hk
      ((with_reducible refine i_Seq (i_Set (i_IA (i_FR (i_A0 ?_))))); (with_reducible refine i_fldR (by assumption) ?_); (with_reducible refine i_L1 ?_); (with_reducible refine i_in (by assumption) (by omega) (by omega) ?_); (with_reducible refine i_Seq (i_Set (i_IA (i_FR ?_)))); (rw [y2]); simp only [w_set0, w_set1, w_setn0, w_setn1]; (with_reducible refine i_A0 ?_); (with_reducible refine i_fldR (by assumption) ?_); (with_reducible refine i_L1 ?_); (with_reducible refine i_in (by assumption) (by omega) (by omega) ?_); (with_reducible refine i_Seq (i_If (i_cZ_eq (i_IA (i_FR ?_))))); (rw [y3']); simp only [w_set0, w_set1, w_setn0, w_setn1]; (with_reducible refine i_A0 ?_); (with_reducible refine i_fldR (by assumption) ?_); (with_reducible refine i_L1 ?_); (with_reducible refine i_in (by assumption) (by omega) (by omega) ?_); (rw [y1]); (with_reducible refine i_f (by omega) ?_); (with_reducible refine i_Seq (i_If (i_cI_eq (i_IA (i_FR (i_A0 ?_)))))); (with_reducible refine i_fldR (by assumption) ?_); (with_reducible refine i_L1 ?_); (with_reducible refine i_in (by assumption) (by omega) (by omega) ?_); (with_reducible refine i_I ?_); (rw [y1]); (with_reducible refine i_f (by omega) ?_); (with_reducible refine i_Seq (i_If (i_cI_eq (i_IA (i_FR (i_A0 ?_)))))); (with_reducible refine i_fldR (by assumption) ?_); (with_reducible refine i_L1 ?_); (with_reducible refine i_in (by assumption) (by omega) (by omega) ?_); (with_reducible refine i_I ?_); (rw [y1]); (with_reducible refine i_t (by omega) ?_); (with_reducible refine i_RetZ (i_eIf (i_cOr (i_cAnd (i_cI_eq (i_L2 (i_L4 ?_))))))); (with_reducible refine i_t (by omega) ?_); (with_reducible refine i_cI_eq (i_IA (i_FR (i_A0 ?_)))); (with_reducible refine i_fldR (by assumption) ?_); (with_reducible refine i_L3 ?_); (with_reducible refine i_in (by assumption) (by omega) (by omega) ?_); (with_reducible refine i_L5 ?_); (rw [oq]); (with_reducible refine i_t (by omega) ?_); (with_reducible refine i_I ?_); (with_reducible refine i_z (Or.inr rfl) ?_))
      exact hk
    · by_cases h3 : q = x ∧ a = y
      · have h4' := ay.mpr h3.2
        have h3' : ((q : Nat) : Int) = ((x : Nat) : Int) := by omega
        rw [decide_eq_true (Or.inr h3)] at hk
        by_cases h5 : p = x
        · have h6' : ¬ uoI b = ((y : Nat) : Int) := fun z => h1 ⟨h5, byy.mp z⟩
          ((with_reducible refine i_Seq (i_Set (i_IA (i_FR (i_A0 ?_))))); (with_reducible refine i_fldR (by assumption) ?_); (with_reducible refine i_L1 ?_); (with_reducible refine i_in (by assumption) (by omega) (by omega) ?_); (with_reducible refine i_Seq (i_Set (i_IA (i_FR ?_)))); (rw [y2]); simp only [w_set0, w_set1, w_setn0, w_setn1]; (with_reducible refine i_A0 ?_); (with_reducible refine i_fldR (by assumption) ?_); (with_reducible refine i_L1 ?_); (with_reducible refine i_in (by assumption) (by omega) (by omega) ?_); (with_reducible refine i_Seq (i_If (i_cZ_eq (i_IA (i_FR ?_))))); (rw [y3']); simp only [w_set0, w_set1, w_setn0, w_setn1]; (with_reducible refine i_A0 ?_); (with_reducible refine i_fldR (by assumption) ?_); (with_reducible refine i_L1 ?_); (with_reducible refine i_in (by assumption) (by omega) (by omega) ?_); (rw [y1]); (with_reducible refine i_f (by omega) ?_); (with_reducible refine i_Seq (i_If (i_cI_eq (i_IA (i_FR (i_A0 ?_)))))); (with_reducible refine i_fldR (by assumption) ?_); (with_reducible refine i_L1 ?_); (with_reducible refine i_in (by assumption) (by omega) (by omega) ?_); (with_reducible refine i_I ?_); (rw [y1]); (with_reducible refine i_f (by omega) ?_); (with_reducible refine i_Seq (i_If (i_cI_eq (i_IA (i_FR (i_A0 ?_)))))); (with_reducible refine i_fldR (by assumption) ?_); (with_reducible refine i_L1 ?_); (with_reducible refine i_in (by assumption) (by omega) (by omega) ?_); (with_reducible refine i_I ?_); (rw [y1]); (with_reducible refine i_t (by omega) ?_); (with_reducible refine i_RetZ (i_eIf (i_cOr (i_cAnd (i_cI_eq (i_L2 (i_L4 ?_))))))); (with_reducible refine i_t (by omega) ?_); (with_reducible refine i_cI_eq (i_IA (i_FR (i_A0 ?_)))); (with_reducible refine i_fldR (by assumption) ?_); (with_reducible refine i_L3 ?_); (with_reducible refine i_in (by assumption) (by omega) (by omega) ?_); (with_reducible refine i_L5 ?_); (rw [oq]); (with_reducible refine i_f (by omega) ?_); (with_reducible refine i_cAnd (i_cI_eq (i_L3 (i_L4 ?_)))); (with_reducible refine i_t (by omega) ?_); (with_reducible refine i_cI_eq (i_IA (i_FR (i_A0 ?_)))); (with_reducible refine i_fldR (by assumption) ?_); (with_reducible refine i_L2 ?_); (with_reducible refine i_in (by assumption) (by omega) (by omega) ?_); (with_reducible refine i_L5 ?_); (rw [op]); (with_reducible refine i_t (by omega) ?_); (with_reducible refine i_I ?_); (with_reducible refine i_z (Or.inr rfl) ?_))
          exact hk
        · ((with_reducible refine i_Seq (i_Set (i_IA (i_FR (i_A0 ?_))))); (with_reducible refine i_fldR (by assumption) ?_); (with_reducible refine i_L1 ?_); (with_reducible refine i_in (by assumption) (by omega) (by omega) ?_); (with_reducible refine i_Seq (i_Set (i_IA (i_FR ?_)))); (rw [y2]); simp only [w_set0, w_set1, w_setn0, w_setn1]; (with_reducible refine i_A0 ?_); (with_reducible refine i_fldR (by assumption) ?_); (with_reducible refine i_L1 ?_); (with_reducible refine i_in (by assumption) (by omega) (by omega) ?_); (with_reducible refine i_Seq (i_If (i_cZ_eq (i_IA (i_FR ?_))))); (rw [y3']); simp only [w_set0, w_set1, w_setn0, w_setn1]; (with_reducible refine i_A0 ?_); (with_reducible refine i_fldR (by assumption) ?_); (with_reducible refine i_L1 ?_); (with_reducible refine i_in (by assumption) (by omega) (by omega) ?_); (rw [y1]); (with_reducible refine i_f (by omega) ?_); (with_reducible refine i_Seq (i_If (i_cI_eq (i_IA (i_FR (i_A0 ?_)))))); (with_reducible refine i_fldR (by assumption) ?_); (with_reducible refine i_L1 ?_); (with_reducible refine i_in (by assumption) (by omega) (by omega) ?_); (with_reducible refine i_I ?_); (rw [y1]); (with_reducible refine i_f (by omega) ?_); (with_reducible refine i_Seq (i_If (i_cI_eq (i_IA (i_FR (i_A0 ?_)))))); (with_reducible refine i_fldR (by assumption) ?_); (with_reducible refine i_L1 ?_); (with_reducible refine i_in (by assumption) (by omega) (by omega) ?_); (with_reducible refine i_I ?_); (rw [y1]); (with_reducible refine i_t (by omega) ?_); (with_reducible refine i_RetZ (i_eIf (i_cOr (i_cAnd (i_cI_eq (i_L2 (i_L4 ?_))))))); (with_reducible refine i_f (by omega) ?_); (with_reducible refine i_cAnd (i_cI_eq (i_L3 (i_L4 ?_)))); (with_reducible refine i_t (by omega) ?_); (with_reducible refine i_cI_eq (i_IA (i_FR (i_A0 ?_)))); (with_reducible refine i_fldR (by assumption) ?_); (with_reducible refine i_L2 ?_); (with_reducible refine i_in (by assumption) (by omega) (by omega) ?_); (with_reducible refine i_L5 ?_); (rw [op]); (with_reducible refine i_t (by omega) ?_); (with_reducible refine i_I ?_); (with_reducible refine i_z (Or.inr rfl) ?_))
          exact hk
      · rw [decide_eq_false (fun z => z.elim h1 h3)] at hk
        by_cases h5 : p = x
        · have h6' : ¬ uoI b = ((y : Nat) : Int) := fun z => h1 ⟨h5, byy.mp z⟩
          by_cases h7 : q = x
          · have h8' : ¬ uoI a = ((y : Nat) : Int) := fun z => h3 ⟨h7, ay.mp z⟩
            ((with_reducible refine i_Seq (i_Set (i_IA (i_FR (i_A0 ?_))))); (with_reducible refine i_fldR (by assumption) ?_); (with_reducible refine i_L1 ?_); (with_reducible refine i_in (by assumption) (by omega) (by omega) ?_); (with_reducible refine i_Seq (i_Set (i_IA (i_FR ?_)))); (rw [y2]); simp only [w_set0, w_set1, w_setn0, w_setn1]; (with_reducible refine i_A0 ?_); (with_reducible refine i_fldR (by assumption) ?_); (with_reducible refine i_L1 ?_); (with_reducible refine i_in (by assumption) (by omega) (by omega) ?_); (with_reducible refine i_Seq (i_If (i_cZ_eq (i_IA (i_FR ?_))))); (rw [y3']); simp only [w_set0, w_set1, w_setn0, w_setn1]; (with_reducible refine i_A0 ?_); (with_reducible refine i_fldR (by assumption) ?_); (with_reducible refine i_L1 ?_); (with_reducible refine i_in (by assumption) (by omega) (by omega) ?_); (rw [y1]); (with_reducible refine i_f (by omega) ?_); (with_reducible refine i_Seq (i_If (i_cI_eq (i_IA (i_FR (i_A0 ?_)))))); (with_reducible refine i_fldR (by assumption) ?_); (with_reducible refine i_L1 ?_); (with_reducible refine i_in (by assumption) (by omega) (by omega) ?_); (with_reducible refine i_I ?_); (rw [y1]); (with_reducible refine i_f (by omega) ?_); (with_reducible refine i_Seq (i_If (i_cI_eq (i_IA (i_FR (i_A0 ?_)))))); (with_reducible refine i_fldR (by assumption) ?_); (with_reducible refine i_L1 ?_); (with_reducible refine i_in (by assumption) (by omega) (by omega) ?_); (with_reducible refine i_I ?_); (rw [y1]); (with_reducible refine i_t (by omega) ?_); (with_reducible refine i_RetZ (i_eIf (i_cOr (i_cAnd (i_cI_eq (i_L2 (i_L4 ?_))))))); (with_reducible refine i_t (by omega) ?_); (with_reducible refine i_cI_eq (i_IA (i_FR (i_A0 ?_)))); (with_reducible refine i_fldR (by assumption) ?_); (with_reducible refine i_L3 ?_); (with_reducible refine i_in (by assumption) (by omega) (by omega) ?_); (with_reducible refine i_L5 ?_); (rw [oq]); (with_reducible refine i_f (by omega) ?_); (with_reducible refine i_cAnd (i_cI_eq (i_L3 (i_L4 ?_)))); (with_reducible refine i_t (by omega) ?_); (with_reducible refine i_cI_eq (i_IA (i_FR (i_A0 ?_)))); (with_reducible refine i_fldR (by assumption) ?_); (with_reducible refine i_L2 ?_); (with_reducible refine i_in (by assumption) (by omega) (by omega) ?_); (with_reducible refine i_L5 ?_); (rw [op]); (with_reducible refine i_f (by omega) ?_); (with_reducible refine i_I ?_); (with_reducible refine i_z (Or.inl rfl) ?_))
            exact hk
          · ((with_reducible refine i_Seq (i_Set (i_IA (i_FR (i_A0 ?_))))); (with_reducible refine i_fldR (by assumption) ?_); (with_reducible refine i_L1 ?_); (with_reducible refine i_in (by assumption) (by omega) (by omega) ?_); (with_reducible refine i_Seq (i_Set (i_IA (i_FR ?_)))); (rw [y2]); simp only [w_set0, w_set1, w_setn0, w_setn1]; (with_reducible refine i_A0 ?_); (with_reducible refine i_fldR (by assumption) ?_); (with_reducible refine i_L1 ?_); (with_reducible refine i_in (by assumption) (by omega) (by omega) ?_); (with_reducible refine i_Seq (i_If (i_cZ_eq (i_IA (i_FR ?_))))); (rw [y3']); simp only [w_set0, w_set1, w_setn0, w_setn1]; (with_reducible refine i_A0 ?_); (with_reducible refine i_fldR (by assumption) ?_); (with_reducible refine i_L1 ?_); (with_reducible refine i_in (by assumption) (by omega) (by omega) ?_); (rw [y1]); (with_reducible refine i_f (by omega) ?_); (with_reducible refine i_Seq (i_If (i_cI_eq (i_IA (i_FR (i_A0 ?_)))))); (with_reducible refine i_fldR (by assumption) ?_); (with_reducible refine i_L1 ?_); (with_reducible refine i_in (by assumption) (by omega) (by omega) ?_); (with_reducible refine i_I ?_); (rw [y1]); (with_reducible refine i_f (by omega) ?_); (with_reducible refine i_Seq (i_If (i_cI_eq (i_IA (i_FR (i_A0 ?_)))))); (with_reducible refine i_fldR (by assumption) ?_); (with_reducible refine i_L1 ?_); (with_reducible refine i_in (by assumption) (by omega) (by omega) ?_); (with_reducible refine i_I ?_); (rw [y1]); (with_reducible refine i_t (by omega) ?_); (with_reducible refine i_RetZ (i_eIf (i_cOr (i_cAnd (i_cI_eq (i_L2 (i_L4 ?_))))))); (with_reducible refine i_t (by omega) ?_); (with_reducible refine i_cI_eq (i_IA (i_FR (i_A0 ?_)))); (with_reducible refine i_fldR (by assumption) ?_); (with_reducible refine i_L3 ?_); (with_reducible refine i_in (by assumption) (by omega) (by omega) ?_); (with_reducible refine i_L5 ?_); (rw [oq]); (with_reducible refine i_f (by omega) ?_); (with_reducible refine i_cAnd (i_cI_eq (i_L3 (i_L4 ?_)))); (with_reducible refine i_f (by omega) ?_); (with_reducible refine i_I ?_); (with_reducible refine i_z (Or.inl rfl) ?_))
            exact hk
        · by_cases h7 : q = x
          · have h8' : ¬ uoI a = ((y : Nat) : Int) := fun z => h3 ⟨h7, ay.mp z⟩
            ((with_reducible refine i_Seq (i_Set (i_IA (i_FR (i_A0 ?_))))); (with_reducible refine i_fldR (by assumption) ?_); (with_reducible refine i_L1 ?_); (with_reducible refine i_in (by assumption) (by omega) (by omega) ?_); (with_reducible refine i_Seq (i_Set (i_IA (i_FR ?_)))); (rw [y2]); simp only [w_set0, w_set1, w_setn0, w_setn1]; (with_reducible refine i_A0 ?_); (with_reducible refine i_fldR (by assumption) ?_); (with_reducible refine i_L1 ?_); (with_reducible refine i_in (by assumption) (by omega) (by omega) ?_); (with_reducible refine i_Seq (i_If (i_cZ_eq (i_IA (i_FR ?_))))); (rw [y3']); simp only [w_set0, w_set1, w_setn0, w_setn1]; (with_reducible refine i_A0 ?_); (with_reducible refine i_fldR (by assumption) ?_); (with_reducible refine i_L1 ?_); (with_reducible refine i_in (by assumption) (by omega) (by omega) ?_); (rw [y1]); (with_reducible refine i_f (by omega) ?_); (with_reducible refine i_Seq (i_If (i_cI_eq (i_IA (i_FR (i_A0 ?_)))))); (with_reducible refine i_fldR (by assumption) ?_); (with_reducible refine i_L1 ?_); (with_reducible refine i_in (by assumption) (by omega) (by omega) ?_); (with_reducible refine i_I ?_); (rw [y1]); (with_reducible refine i_f (by omega) ?_); (with_reducible refine i_Seq (i_If (i_cI_eq (i_IA (i_FR (i_A0 ?_)))))); (with_reducible refine i_fldR (by assumption) ?_); (with_reducible refine i_L1 ?_); (with_reducible refine i_in (by assumption) (by omega) (by omega) ?_); (with_reducible refine i_I ?_); (rw [y1]); (with_reducible refine i_t (by omega) ?_); (with_reducible refine i_RetZ (i_eIf (i_cOr (i_cAnd (i_cI_eq (i_L2 (i_L4 ?_))))))); (with_reducible refine i_f (by omega) ?_); (with_reducible refine i_cAnd (i_cI_eq (i_L3 (i_L4 ?_)))); (with_reducible refine i_t (by omega) ?_); (with_reducible refine i_cI_eq (i_IA (i_FR (i_A0 ?_)))); (with_reducible refine i_fldR (by assumption) ?_); (with_reducible refine i_L2 ?_); (with_reducible refine i_in (by assumption) (by omega) (by omega) ?_); (with_reducible refine i_L5 ?_); (rw [op]); (with_reducible refine i_f (by omega) ?_); (with_reducible refine i_I ?_); (with_reducible refine i_z (Or.inl rfl) ?_))
            exact hk
          · ((with_reducible refine i_Seq (i_Set (i_IA (i_FR (i_A0 ?_))))); (with_reducible refine i_fldR (by assumption) ?_); (with_reducible refine i_L1 ?_); (with_reducible refine i_in (by assumption) (by omega) (by omega) ?_); (with_reducible refine i_Seq (i_Set (i_IA (i_FR ?_)))); (rw [y2]); simp only [w_set0, w_set1, w_setn0, w_setn1]; (with_reducible refine i_A0 ?_); (with_reducible refine i_fldR (by assumption) ?_); (with_reducible refine i_L1 ?_); (with_reducible refine i_in (by assumption) (by omega) (by omega) ?_); (with_reducible refine i_Seq (i_If (i_cZ_eq (i_IA (i_FR ?_))))); (rw [y3']); simp only [w_set0, w_set1, w_setn0, w_setn1]; (with_reducible refine i_A0 ?_); (with_reducible refine i_fldR (by assumption) ?_); (with_reducible refine i_L1 ?_); (with_reducible refine i_in (by assumption) (by omega) (by omega) ?_); (rw [y1]); (with_reducible refine i_f (by omega) ?_); (with_reducible refine i_Seq (i_If (i_cI_eq (i_IA (i_FR (i_A0 ?_)))))); (with_reducible refine i_fldR (by assumption) ?_); (with_reducible refine i_L1 ?_); (with_reducible refine i_in (by assumption) (by omega) (by omega) ?_); (with_reducible refine i_I ?_); (rw [y1]); (with_reducible refine i_f (by omega) ?_); (with_reducible refine i_Seq (i_If (i_cI_eq (i_IA (i_FR (i_A0 ?_)))))); (with_reducible refine i_fldR (by assumption) ?_); (with_reducible refine i_L1 ?_); (with_reducible refine i_in (by assumption) (by omega) (by omega) ?_); (with_reducible refine i_I ?_); (rw [y1]); (with_reducible refine i_t (by omega) ?_); (with_reducible refine i_RetZ (i_eIf (i_cOr (i_cAnd (i_cI_eq (i_L2 (i_L4 ?_))))))); (with_reducible refine i_f (by omega) ?_); (with_reducible refine i_cAnd (i_cI_eq (i_L3 (i_L4 ?_)))); (with_reducible refine i_f (by omega) ?_); (with_reducible refine i_I ?_); (with_reducible refine i_z (Or.inl rfl) ?_))
            exact hk
theorem m_isSomeSaid {O : zOm} (hO : zWld O) (hS : zS O = zmS zC0) {p q n : Nat} {Z : zZt} {M : zMem} {K : Option zV → zMem → Prop} (hZo : rZo M Z) (hZw : rZw M Z) (hO2 : uO2 n Z) (hO4 : uO4 n Z) (hub : ub Z < 999) (hk41 : uk Z ≤ 41) (hp : p < 16) (hq : q < 16) (hk : K (some (0, zbI (usd Z p q))) M) : zR O F_Model_isSomeSaid [(2, 250), (0, ((p : Nat) : Int)), (0, ((q : Nat) : Int))] M K := by
  have w1 := hZw.1
  obtain ⟨z1, z2, z3⟩ := zfind_ok (fun k => usy (uo Z) (ul Z) (uw Z k) p q) (uk Z)
  have hk2 : K (some (0, zbI (decide (zfind (fun k => usy (uo Z) (ul Z) (uw Z k) p q) (uk Z) < uk Z)))) M := hk
  clear hk
  generalize zfind (fun k => usy (uo Z) (ul Z) (uw Z k) p q) (uk Z) = N at z1 z2 z3 hk2
  apply r_Model_isSomeSaid hO
  unfold B_Model_isSomeSaid
  have f73 := zMF (k := 73) hS rfl; have zo := zMO hS
  ((with_reducible refine i_Seq (i_Blk (i_Seq (i_Set (i_I ?_))))); simp only [w_set0, w_set1, w_setn0, w_setn1])
  refine w_ForN N (fun c ρ M' => (∃ l, ρ = 250 :: ((p : Nat) : Int) :: ((q : Nat) : Int) :: ((c : Nat) : Int) :: l) ∧ M' = M) ⟨⟨_, rfl⟩, rfl⟩ ?_ ?_
  · rintro c ρ M1 X hc ⟨⟨l, rfl⟩, rfl⟩ hX
    have h := z3 c hc
    ((with_reducible refine i_turn (i_cI_lt (i_L3 (i_F (i_A0 ?_))))); (with_reducible refine i_fld (by assumption) ?_); (rw [w1]); (with_reducible refine i_t (by omega) ?_); (with_reducible refine i_If (i_cZ_ne (i_Call (i_as1 (i_A0 (i_as1 (i_L3 (i_as1 (i_L1 (i_as1 (i_L2 (i_as0 ?_)))))))))))); (with_reducible refine i_recv0 (by assumption) ?_))
    refine m_isTextSaid hO hS hZo hZw hO2 (hO4 c (by omega)) hub (by omega) hk41 hp hq ⟨_, rfl, ?_⟩
    rw [h]
    (rw [zbI_f]; (with_reducible refine i_f (by omega) ?_); (with_reducible refine i_up (i_Inc3 ?_)); rw [zx_inc (by omega)]; simp only [w_set0, w_set1, w_setn0, w_setn1])
    exact hX _ _ ⟨⟨_, rfl⟩, rfl⟩
  · rintro ρ M1 X ⟨⟨l, rfl⟩, rfl⟩
    by_cases h : N < uk Z
    · have h2 := z2 h
      rw [decide_eq_true h] at hk2
      ((with_reducible refine i_turn (i_cI_lt (i_L3 (i_F (i_A0 ?_))))); (with_reducible refine i_fld (by assumption) ?_); (rw [w1]); (with_reducible refine i_t (by omega) ?_); (with_reducible refine i_If (i_cZ_ne (i_Call (i_as1 (i_A0 (i_as1 (i_L3 (i_as1 (i_L1 (i_as1 (i_L2 (i_as0 ?_)))))))))))); (with_reducible refine i_recv0 (by assumption) ?_))
      refine m_isTextSaid hO hS hZo hZw hO2 (hO4 N h) hub h hk41 hp hq ⟨_, rfl, ?_⟩
      rw [h2]
      (rw [zbI_t]; (with_reducible refine i_t (by omega) ?_); (with_reducible refine i_RetZ (i_I ?_)); (with_reducible refine i_z (Or.inr rfl) ?_))
      exact hk2
    · rw [decide_eq_false h] at hk2
      ((with_reducible refine i_turn (i_cI_lt (i_L3 (i_F (i_A0 ?_))))); (with_reducible refine i_fld (by assumption) ?_); (rw [w1]); (with_reducible refine i_f (by omega) ?_); (with_reducible refine i_RetZ (i_I ?_)); (with_reducible refine i_z (Or.inl rfl) ?_))
      exact hk2
theorem rZt.F {M : zMem} {Z : zZt} {F : Nat} (h : rZt M Z) (hf : rZf M F) : rZt M (Z.1, Z.2.1, Z.2.2.1, F) := ⟨h.1, h.2.1, h.2.2.1, h.2.2.2.1, hf⟩
set_option maxHeartbeats 1600000 in
theorem m_tellPair {O : zOm} (hO : zWld O) (hS : zS O = zmS zC0) {i s n : Nat} {ai : Int} {also : Bool} {B : Nat → Nat} {Z : zZt} {M : zMem} {K : Option zV → zMem → Prop} (hai : ai = zbI also) (hs : s ≤ 2000) (hn16 : n ≤ 16) (hq0 : zqs B s (zhh B s) = 0) (hi : i < zhh B s) (hq : zqs B s i = 0) (hK : zKi B s i = 8 ∨ zKi B s i = 9) (hA : uAll B s n Z i) (hX : rTx M B s n i Z)
    (hk : ∀ M', rXF M M' → M' 250 ((67 : Nat) : Int) = ((i + 4 : Nat) : Int) → rZt M' (us4 B s n also Z i) → K none M') : zR O F_Model_tellPair [(2, 250), (0, ai)] M K := by
  subst hai
  obtain ⟨hR, hn, hh, hZ⟩ := hX
  have h400 := (zhh_ok B s).1
  have hp := fun j => Nat.le_trans (zps_le B s j) hs
  obtain ⟨g1, g2, g3, g4, g5⟩ := zgr_89 hq0 hi hq hK
  have hFk : uFk (uF Z) := hA.1.2.2.1
  have hub := hA.2.2.2.1
  have hut := hA.2.2.2.2.1
  have huk := hA.2.2.2.2.2
  have hwc := zkwc_h (Nat.le_of_lt hi)
  have k1 := hR.tk (show i + 1 < zhh B s by omega)
  have k2 := hR.tk (show i + 2 < zhh B s by omega)
  have v1 : M ((282 : Nat) : Int) ((i + 1 : Nat) : Int) = ((zVi B s (i + 1) : Nat) : Int) := k1.2.2.2.1 g1
  have v2 : M ((282 : Nat) : Int) ((i + 2 : Nat) : Int) = ((zVi B s (i + 2) : Nat) : Int) := k2.2.2.2.1 g2
  have p1 := k1.2.1
  have p2 := k2.2.1
  unfold us4 at hk
  (try dsimp only at hk)
  have hk1 := ukp_e n Z (zVi B s (i + 1)) (zps B s (i + 1))
  have hk2 := ukp_e n (ukp n Z (zVi B s (i + 1)) (zps B s (i + 1))) (zVi B s (i + 2)) (zps B s (i + 2))
  have hZZ : zVi B s (i + 1) < n ∧ zVi B s (i + 2) < n → ukp n (ukp n Z (zVi B s (i + 1)) (zps B s (i + 1))) (zVi B s (i + 2)) (zps B s (i + 2)) = Z := fun e => by
    unfold ukp
    rw [if_pos e.2, if_pos e.1]
  generalize ukp n (ukp n Z (zVi B s (i + 1)) (zps B s (i + 1))) (zVi B s (i + 2)) (zps B s (i + 2)) = Z2 at hk hk2 hZZ
  generalize ukp n Z (zVi B s (i + 1)) (zps B s (i + 1)) = Z1 at hk1 hk2
  obtain ⟨a1, a2, a3, a4⟩ := hk1
  obtain ⟨b1, b2, b3, b4⟩ := hk2
  rw [a1] at b1
  rw [a2] at b2
  rw [a3] at b3
  have hF1 : uFk (uF Z1) := by
    rw [a4]
    split
    · exact hFk
    · exact uFk_min hFk (hp _) (by decide) (by decide)
  have hpp := hp (i + 2)
  have hpp1 := hp (i + 1)
  generalize zVi B s (i + 1) = a at *
  generalize zVi B s (i + 2) = b at *
  generalize zps B s (i + 2) = pp at *
  generalize zps B s (i + 1) = pp1 at *
  apply r_Model_tellPair hO
  unfold B_Model_tellPair
  have f67 := zMF (k := 67) hS rfl; have f39 := zMF (k := 39) hS rfl; have a282 := zMA (a := 282) (ty := .int) (n := 2001) hS rfl; have f37 := zMF (k := 37) hS rfl; have a280 := zMA (a := 280) (ty := .int) (n := 2001) hS rfl; have f77 := zMF (k := 77) hS rfl; have f78 := zMF (k := 78) hS rfl; have a307 := zMA (a := 307) (ty := .int) (n := 140) hS rfl; have f79 := zMF (k := 79) hS rfl; have a308 := zMA (a := 308) (ty := .int) (n := 140) hS rfl; have f80 := zMF (k := 80) hS rfl; have a309 := zMA (a := 309) (ty := .boolean) (n := 140) hS rfl; have f81 := zMF (k := 81) hS rfl; have a310 := zMA (a := 310) (ty := .int) (n := 140) hS rfl; have zo := zMO hS
  ((with_reducible refine i_Seq (i_Seq (i_Set (i_Call (i_as1 (i_A0 (i_as1 (i_Add (i_F (i_A0 ?_)))))))))); (with_reducible refine i_fld (by assumption) ?_); (with_reducible refine i_I (i_as0 ?_)); (with_reducible refine i_recv0 (by assumption) ?_); (rw [hh]); rw [zx_inc (by omega)]; simp only [w_set0, w_set1, w_setn0, w_setn1])
  refine m_isKnownPost hO hS hZ.2.2.2.2 hn hFk (by omega) v1 p1 hpp1 (fun M1 f1 z1 => ⟨_, rfl, ?_⟩)
  rw [← a4] at z1
  have h1 : M1 250 ((67 : Nat) : Int) = ((i : Nat) : Int) := by rw [f1 _ _ (by omega)]; exact hh
  have hn1 : M1 250 ((1 : Nat) : Int) = ((n : Nat) : Int) := by rw [f1 _ _ (by omega)]; exact hn
  ((with_reducible refine i_Seq (i_Set (i_eIf (i_cAnd (i_cZ_ne (i_Call (i_as1 (i_A0 (i_as1 (i_Add (i_F (i_A0 ?_)))))))))))); (with_reducible refine i_fld (by assumption) ?_); (with_reducible refine i_I (i_as0 ?_)); (with_reducible refine i_recv0 (by assumption) ?_); (rw [h1]); rw [zx_addc (by omega)])
  refine m_isKnownPost hO hS z1 hn1 hF1 (by omega) (by rw [f1 _ _ (by omega)]; exact v2) (by rw [f1 _ _ (by omega)]; exact p2) hpp (fun M2 f2 z2 => ⟨_, rfl, ?_⟩)
  rw [← b4] at z2
  have f12 : ∀ b j, ¬ (b = 250 ∧ (j = 40 ∨ j = 66)) → M2 b j = M b j := fun b j q => by rw [f2 b j q, f1 b j q]
  have h2 : M2 250 ((67 : Nat) : Int) = ((i : Nat) : Int) := by rw [f2 _ _ (by omega)]; exact h1
  have hZ2 : rZt M2 Z2 := hZ.bl f12 b1 b2 b3 z2
  have hend : ∀ (M3 : zMem) Z', rXF M M3 → M3 250 ((67 : Nat) : Int) = ((i : Nat) : Int) → rZt M3 Z' → (∀ M', rXF M M' → M' 250 ((67 : Nat) : Int) = ((i + 4 : Nat) : Int) → rZt M' Z' → K none M') → K none (zput M3 250 (zup (M3 250) ((67 : Nat) : Int) ((i + 4 : Nat) : Int))) := fun M3 Z' f3 h3 z3 hk => hk _ (fun b j q => by rw [zg_o _ _ (by omega), f3 b j q]) (zg_s _ _ _ _ _) (z3.to (fun b j q => zg_o _ _ (by omega)))
  by_cases e : a < n ∧ b < n
  · rw [if_pos e] at hk
    have ez := hZZ e
    subst ez
    have v12 : M2 ((282 : Nat) : Int) ((i + 1 : Nat) : Int) = ((a : Nat) : Int) := by rw [f12 _ _ (by omega)]; exact v1
    have v22 : M2 ((282 : Nat) : Int) ((i + 2 : Nat) : Int) = ((b : Nat) : Int) := by rw [f12 _ _ (by omega)]; exact v2
    have p22 : M2 ((280 : Nat) : Int) ((i + 2 : Nat) : Int) = ((pp : Nat) : Int) := by rw [f12 _ _ (by omega)]; exact p2
    rw [decide_eq_true e.1, decide_eq_true e.2]
    (rw [zbI_t]; (with_reducible refine i_t (by omega) ?_); (with_reducible refine i_cZ_ne (i_L2 ?_)); (with_reducible refine i_t (by omega) ?_); (with_reducible refine i_I (i_Seq (i_If (i_cZ_ne ?_)))); simp only [w_set0, w_set1, w_setn0, w_setn1]; (with_reducible refine i_L2 ?_); (with_reducible refine i_t (by omega) ?_); (with_reducible refine i_Blk (i_Seq (i_Set (i_IA (i_FR (i_A0 ?_)))))); (with_reducible refine i_fldR (by assumption) ?_); (with_reducible refine i_Add (i_F (i_A0 ?_))); (with_reducible refine i_fld (by assumption) ?_); (with_reducible refine i_I ?_); (rw [h2]); rw [zx_inc (by omega)]; (with_reducible refine i_in (by assumption) (by omega) (by omega) ?_); (with_reducible refine i_Seq (i_Set (i_IA (i_FR ?_)))); (rw [v12]); simp only [w_set0, w_set1, w_setn0, w_setn1]; (with_reducible refine i_A0 ?_); (with_reducible refine i_fldR (by assumption) ?_); (with_reducible refine i_Add (i_F (i_A0 ?_))); (with_reducible refine i_fld (by assumption) ?_); (with_reducible refine i_I ?_); (rw [h2]); rw [zx_addc (by omega)]; (with_reducible refine i_in (by assumption) (by omega) (by omega) ?_); (with_reducible refine i_Seq (i_Set (i_IA (i_FR ?_)))); (rw [v22]); simp only [w_set0, w_set1, w_setn0, w_setn1]; (with_reducible refine i_A0 ?_); (with_reducible refine i_fldR (by assumption) ?_); (with_reducible refine i_Add (i_F (i_A0 ?_))); (with_reducible refine i_fld (by assumption) ?_); (with_reducible refine i_I ?_); (rw [h2]); rw [zx_addc (by omega)]; (with_reducible refine i_in (by assumption) (by omega) (by omega) ?_); (with_reducible refine i_Seq (i_Blk (i_Seq (i_Set (i_I ?_))))); (rw [p22]); simp only [w_set0, w_set1, w_setn0, w_setn1])
    have hFs : ∀ c, uFk (if zex (fun k => upq (up Z2 k) a b) c = true then min (uF Z2) (8 * pp + 3) else uF Z2) := fun c => by
      split
      · exact uFk_min hFk hpp (by decide) (by decide)
      · exact hFk
    obtain ⟨w1, w2⟩ := hZ2.2.2.2.1
    refine w_cut (zR.mon' O) (fun ρ M' => (∃ l, ρ = 250 :: zbI also :: 1 :: ((a : Nat) : Int) :: ((b : Nat) : Int) :: ((pp : Nat) : Int) :: l) ∧ (∀ b j, ¬ (b = 250 ∧ (j = 40 ∨ j = 66)) → M' b j = M2 b j) ∧ rZf M' (if upr Z2 a b = true then min (uF Z2) (8 * pp + 3) else uF Z2)) ?_ ?_
    · refine w_ForN (ut Z2) (fun c ρ M' => (∃ l, ρ = 250 :: zbI also :: 1 :: ((a : Nat) : Int) :: ((b : Nat) : Int) :: ((pp : Nat) : Int) :: ((c : Nat) : Int) :: l) ∧ (∀ b j, ¬ (b = 250 ∧ (j = 40 ∨ j = 66)) → M' b j = M2 b j) ∧ rZf M' (if zex (fun k => upq (up Z2 k) a b) c = true then min (uF Z2) (8 * pp + 3) else uF Z2)) ⟨⟨_, rfl⟩, fun _ _ _ => rfl, z2⟩ ?_ ?_
      · rintro c ρ M3 X hc ⟨⟨l, rfl⟩, f3, z3⟩ hX
        obtain ⟨y1, y2, y3, y4⟩ := w2 c hc
        rw [← f3 _ _ (by omega)] at y1 y2
        have t3 : M3 250 ((77 : Nat) : Int) = ((ut Z2 : Nat) : Int) := by rw [f3 _ _ (by omega)]; exact w1
        have hFc := hFs c
        have hX2 : ∀ (l : zLoc) (M' : zMem), (∀ b j, ¬ (b = 250 ∧ (j = 40 ∨ j = 66)) → M' b j = M2 b j) → rZf M' (if (zex (fun k => upq (up Z2 k) a b) c || upq (up Z2 c) a b) = true then min (uF Z2) (8 * pp + 3) else uF Z2) → X (250 :: zbI also :: 1 :: ((a : Nat) : Int) :: ((b : Nat) : Int) :: ((pp : Nat) : Int) :: ((c + 1 : Nat) : Int) :: l) M' := fun l M' u v => hX _ _ ⟨⟨l, rfl⟩, u, by rw [zex_su]; exact v⟩
        clear hX hk
        generalize zex (fun k => upq (up Z2 k) a b) c = ex at z3 hFc hX2
        have hstep : rZf M3 (if ex = true then min (uF Z2) (8 * pp + 3) else uF Z2) → ∀ M4 : zMem, (∀ b j, ¬ (b = 250 ∧ (j = 40 ∨ j = 66)) → M4 b j = M3 b j) → rZf M4 (min (if ex = true then min (uF Z2) (8 * pp + 3) else uF Z2) (8 * pp + 3)) → upq (up Z2 c) a b = true → ∀ l, X (250 :: zbI also :: 1 :: ((a : Nat) : Int) :: ((b : Nat) : Int) :: ((pp : Nat) : Int) :: ((c + 1 : Nat) : Int) :: l) M4 := fun _ M4 f4 z4 hu l => hX2 l M4 (fun b j q => by rw [f4 b j q, f3 b j q]) (by
          rw [hu, Bool.or_true, if_pos rfl]
          cases ex
          · exact z4
          · rw [if_pos rfl] at z4
            rw [show min (uF Z2) (8 * pp + 3) = min (min (uF Z2) (8 * pp + 3)) (8 * pp + 3) by omega]
            exact z4)
        have hno : upq (up Z2 c) a b = false → ∀ l, X (250 :: zbI also :: 1 :: ((a : Nat) : Int) :: ((b : Nat) : Int) :: ((pp : Nat) : Int) :: ((c + 1 : Nat) : Int) :: l) M3 := fun hu l => hX2 l M3 f3 (by rw [hu, Bool.or_false]; exact z3)
        clear hX2
        unfold upq at hstep hno
        generalize (up Z2 c).1 = x at *
        generalize (up Z2 c).2.1 = y at *
        by_cases u1 : x = a
        · by_cases u2 : y = b
          · have hd := hstep z3
            ((with_reducible refine i_turn (i_cI_lt (i_L6 (i_F (i_A0 ?_))))); (with_reducible refine i_fld (by assumption) ?_); (rw [t3]); (with_reducible refine i_t (by omega) ?_); (with_reducible refine i_If (i_cOr (i_cAnd (i_cI_eq (i_IA (i_FR (i_A0 ?_))))))); (with_reducible refine i_fldR (by assumption) ?_); (with_reducible refine i_L6 ?_); (with_reducible refine i_in (by assumption) (by omega) (by omega) ?_); (with_reducible refine i_L3 ?_); (rw [y1]); (with_reducible refine i_t (by omega) ?_); (with_reducible refine i_cI_eq (i_IA (i_FR (i_A0 ?_)))); (with_reducible refine i_fldR (by assumption) ?_); (with_reducible refine i_L6 ?_); (with_reducible refine i_in (by assumption) (by omega) (by omega) ?_); (with_reducible refine i_L4 ?_); (rw [y2]); (with_reducible refine i_t (by omega) ?_); (with_reducible refine i_sCall (i_as1 (i_A0 (i_as1 (i_I (i_as1 (i_L5 (i_as0 ?_)))))))); (with_reducible refine i_recv0 (by assumption) ?_))
            refine m_tells hO hS (f := 3) rfl z3 hFc (by decide) (by decide) hpp (fun M4 f4 z4 => ⟨rfl, ?_⟩)
            ((with_reducible refine i_up (i_Inc6 ?_)); rw [zx_inc (by omega)]; simp only [w_set0, w_set1, w_setn0, w_setn1])
            exact hd M4 f4 z4 (decide_eq_true (Or.inl ⟨u1, u2⟩)) _
          · by_cases u3 : x = b ∧ y = a
            · have hd := hstep z3
              obtain ⟨u4, u5⟩ := u3
              ((with_reducible refine i_turn (i_cI_lt (i_L6 (i_F (i_A0 ?_))))); (with_reducible refine i_fld (by assumption) ?_); (rw [t3]); (with_reducible refine i_t (by omega) ?_); (with_reducible refine i_If (i_cOr (i_cAnd (i_cI_eq (i_IA (i_FR (i_A0 ?_))))))); (with_reducible refine i_fldR (by assumption) ?_); (with_reducible refine i_L6 ?_); (with_reducible refine i_in (by assumption) (by omega) (by omega) ?_); (with_reducible refine i_L3 ?_); (rw [y1]); (with_reducible refine i_t (by omega) ?_); (with_reducible refine i_cI_eq (i_IA (i_FR (i_A0 ?_)))); (with_reducible refine i_fldR (by assumption) ?_); (with_reducible refine i_L6 ?_); (with_reducible refine i_in (by assumption) (by omega) (by omega) ?_); (with_reducible refine i_L4 ?_); (rw [y2]); (with_reducible refine i_t (by omega) ?_); (with_reducible refine i_sCall (i_as1 (i_A0 (i_as1 (i_I (i_as1 (i_L5 (i_as0 ?_)))))))); (with_reducible refine i_recv0 (by assumption) ?_))
              refine m_tells hO hS (f := 3) rfl z3 hFc (by decide) (by decide) hpp (fun M4 f4 z4 => ⟨rfl, ?_⟩)
              ((with_reducible refine i_up (i_Inc6 ?_)); rw [zx_inc (by omega)]; simp only [w_set0, w_set1, w_setn0, w_setn1])
              exact hd M4 f4 z4 (decide_eq_true (Or.inr ⟨u4, u5⟩)) _
            · have hd := hno (decide_eq_false (fun z => z.elim (fun z => u2 z.2) u3))
              by_cases u4 : x = b
              · have u5 : ¬ y = a := fun z => u3 ⟨u4, z⟩
                ((with_reducible refine i_turn (i_cI_lt (i_L6 (i_F (i_A0 ?_))))); (with_reducible refine i_fld (by assumption) ?_); (rw [t3]); (with_reducible refine i_t (by omega) ?_); (with_reducible refine i_If (i_cOr (i_cAnd (i_cI_eq (i_IA (i_FR (i_A0 ?_))))))); (with_reducible refine i_fldR (by assumption) ?_); (with_reducible refine i_L6 ?_); (with_reducible refine i_in (by assumption) (by omega) (by omega) ?_); (with_reducible refine i_L3 ?_); (rw [y1]); (with_reducible refine i_t (by omega) ?_); (with_reducible refine i_cI_eq (i_IA (i_FR (i_A0 ?_)))); (with_reducible refine i_fldR (by assumption) ?_); (with_reducible refine i_L6 ?_); (with_reducible refine i_in (by assumption) (by omega) (by omega) ?_); (with_reducible refine i_L4 ?_); (rw [y2]); (with_reducible refine i_f (by omega) ?_); (with_reducible refine i_cAnd (i_cI_eq (i_IA (i_FR (i_A0 ?_))))); (with_reducible refine i_fldR (by assumption) ?_); (with_reducible refine i_L6 ?_); (with_reducible refine i_in (by assumption) (by omega) (by omega) ?_); (with_reducible refine i_L4 ?_); (rw [y1]); (with_reducible refine i_t (by omega) ?_); (with_reducible refine i_cI_eq (i_IA (i_FR (i_A0 ?_)))); (with_reducible refine i_fldR (by assumption) ?_); (with_reducible refine i_L6 ?_); (with_reducible refine i_in (by assumption) (by omega) (by omega) ?_); (with_reducible refine i_L3 ?_); (rw [y2]); (with_reducible refine i_f (by omega) ?_); (with_reducible refine i_up (i_Inc6 ?_)); rw [zx_inc (by omega)]; simp only [w_set0, w_set1, w_setn0, w_setn1])
                exact hd _
              · ((with_reducible refine i_turn (i_cI_lt (i_L6 (i_F (i_A0 ?_))))); (with_reducible refine i_fld (by assumption) ?_); (rw [t3]); (with_reducible refine i_t (by omega) ?_); (with_reducible refine i_If (i_cOr (i_cAnd (i_cI_eq (i_IA (i_FR (i_A0 ?_))))))); (with_reducible refine i_fldR (by assumption) ?_); (with_reducible refine i_L6 ?_); (with_reducible refine i_in (by assumption) (by omega) (by omega) ?_); (with_reducible refine i_L3 ?_); (rw [y1]); (with_reducible refine i_t (by omega) ?_); (with_reducible refine i_cI_eq (i_IA (i_FR (i_A0 ?_)))); (with_reducible refine i_fldR (by assumption) ?_); (with_reducible refine i_L6 ?_); (with_reducible refine i_in (by assumption) (by omega) (by omega) ?_); (with_reducible refine i_L4 ?_); (rw [y2]); (with_reducible refine i_f (by omega) ?_); (with_reducible refine i_cAnd (i_cI_eq (i_IA (i_FR (i_A0 ?_))))); (with_reducible refine i_fldR (by assumption) ?_); (with_reducible refine i_L6 ?_); (with_reducible refine i_in (by assumption) (by omega) (by omega) ?_); (with_reducible refine i_L4 ?_); (rw [y1]); (with_reducible refine i_f (by omega) ?_); (with_reducible refine i_up (i_Inc6 ?_)); rw [zx_inc (by omega)]; simp only [w_set0, w_set1, w_setn0, w_setn1])
                exact hd _
        · by_cases u3 : x = b ∧ y = a
          · have hd := hstep z3
            obtain ⟨u4, u5⟩ := u3
            ((with_reducible refine i_turn (i_cI_lt (i_L6 (i_F (i_A0 ?_))))); (with_reducible refine i_fld (by assumption) ?_); (rw [t3]); (with_reducible refine i_t (by omega) ?_); (with_reducible refine i_If (i_cOr (i_cAnd (i_cI_eq (i_IA (i_FR (i_A0 ?_))))))); (with_reducible refine i_fldR (by assumption) ?_); (with_reducible refine i_L6 ?_); (with_reducible refine i_in (by assumption) (by omega) (by omega) ?_); (with_reducible refine i_L3 ?_); (rw [y1]); (with_reducible refine i_f (by omega) ?_); (with_reducible refine i_cAnd (i_cI_eq (i_IA (i_FR (i_A0 ?_))))); (with_reducible refine i_fldR (by assumption) ?_); (with_reducible refine i_L6 ?_); (with_reducible refine i_in (by assumption) (by omega) (by omega) ?_); (with_reducible refine i_L4 ?_); (rw [y1]); (with_reducible refine i_t (by omega) ?_); (with_reducible refine i_cI_eq (i_IA (i_FR (i_A0 ?_)))); (with_reducible refine i_fldR (by assumption) ?_); (with_reducible refine i_L6 ?_); (with_reducible refine i_in (by assumption) (by omega) (by omega) ?_); (with_reducible refine i_L3 ?_); (rw [y2]); (with_reducible refine i_t (by omega) ?_); (with_reducible refine i_sCall (i_as1 (i_A0 (i_as1 (i_I (i_as1 (i_L5 (i_as0 ?_)))))))); (with_reducible refine i_recv0 (by assumption) ?_))
            refine m_tells hO hS (f := 3) rfl z3 hFc (by decide) (by decide) hpp (fun M4 f4 z4 => ⟨rfl, ?_⟩)
            ((with_reducible refine i_up (i_Inc6 ?_)); rw [zx_inc (by omega)]; simp only [w_set0, w_set1, w_setn0, w_setn1])
            exact hd M4 f4 z4 (decide_eq_true (Or.inr ⟨u4, u5⟩)) _
          · have hd := hno (decide_eq_false (fun z => z.elim (fun z => u1 z.1) u3))
            by_cases u4 : x = b
            · have u5 : ¬ y = a := fun z => u3 ⟨u4, z⟩
              ((with_reducible refine i_turn (i_cI_lt (i_L6 (i_F (i_A0 ?_))))); (with_reducible refine i_fld (by assumption) ?_); (rw [t3]); (with_reducible refine i_t (by omega) ?_); (with_reducible refine i_If (i_cOr (i_cAnd (i_cI_eq (i_IA (i_FR (i_A0 ?_))))))); (with_reducible refine i_fldR (by assumption) ?_); (with_reducible refine i_L6 ?_); (with_reducible refine i_in (by assumption) (by omega) (by omega) ?_); (with_reducible refine i_L3 ?_); (rw [y1]); (with_reducible refine i_f (by omega) ?_); (with_reducible refine i_cAnd (i_cI_eq (i_IA (i_FR (i_A0 ?_))))); (with_reducible refine i_fldR (by assumption) ?_); (with_reducible refine i_L6 ?_); (with_reducible refine i_in (by assumption) (by omega) (by omega) ?_); (with_reducible refine i_L4 ?_); (rw [y1]); (with_reducible refine i_t (by omega) ?_); (with_reducible refine i_cI_eq (i_IA (i_FR (i_A0 ?_)))); (with_reducible refine i_fldR (by assumption) ?_); (with_reducible refine i_L6 ?_); (with_reducible refine i_in (by assumption) (by omega) (by omega) ?_); (with_reducible refine i_L3 ?_); (rw [y2]); (with_reducible refine i_f (by omega) ?_); (with_reducible refine i_up (i_Inc6 ?_)); rw [zx_inc (by omega)]; simp only [w_set0, w_set1, w_setn0, w_setn1])
              exact hd _
            · ((with_reducible refine i_turn (i_cI_lt (i_L6 (i_F (i_A0 ?_))))); (with_reducible refine i_fld (by assumption) ?_); (rw [t3]); (with_reducible refine i_t (by omega) ?_); (with_reducible refine i_If (i_cOr (i_cAnd (i_cI_eq (i_IA (i_FR (i_A0 ?_))))))); (with_reducible refine i_fldR (by assumption) ?_); (with_reducible refine i_L6 ?_); (with_reducible refine i_in (by assumption) (by omega) (by omega) ?_); (with_reducible refine i_L3 ?_); (rw [y1]); (with_reducible refine i_f (by omega) ?_); (with_reducible refine i_cAnd (i_cI_eq (i_IA (i_FR (i_A0 ?_))))); (with_reducible refine i_fldR (by assumption) ?_); (with_reducible refine i_L6 ?_); (with_reducible refine i_in (by assumption) (by omega) (by omega) ?_); (with_reducible refine i_L4 ?_); (rw [y1]); (with_reducible refine i_f (by omega) ?_); (with_reducible refine i_up (i_Inc6 ?_)); rw [zx_inc (by omega)]; simp only [w_set0, w_set1, w_setn0, w_setn1])
              exact hd _
      · rintro ρ M3 X ⟨⟨l, rfl⟩, f3, z3⟩
        have t3 : M3 250 ((77 : Nat) : Int) = ((ut Z2 : Nat) : Int) := by rw [f3 _ _ (by omega)]; exact w1
        ((with_reducible refine i_turn (i_cI_lt (i_L6 (i_F (i_A0 ?_))))); (with_reducible refine i_fld (by assumption) ?_); (rw [t3]); (with_reducible refine i_f (by omega) ?_))
        exact ⟨⟨_, rfl⟩, f3, z3⟩
    rintro ρ M3 ⟨⟨l, rfl⟩, f3, z3⟩
    have hZ3 : rZt M3 (if upr Z2 a b = true then ubl Z2 (8 * pp + 3) else Z2) ∧ uF (if upr Z2 a b = true then ubl Z2 (8 * pp + 3) else Z2) = (if upr Z2 a b = true then min (uF Z2) (8 * pp + 3) else uF Z2) := by
      by_cases w : upr Z2 a b = true
      · rw [if_pos w] at z3 ⊢
        rw [if_pos w]
        exact ⟨hZ2.bl f3 rfl rfl rfl z3, rfl⟩
      · rw [if_neg w] at z3 ⊢
        rw [if_neg w]
        exact ⟨hZ2.bl f3 rfl rfl rfl z3, rfl⟩
    have hFk3 : uFk (if upr Z2 a b = true then min (uF Z2) (8 * pp + 3) else uF Z2) := hFs (ut Z2)
    have e3 : (if upr Z2 a b = true then ubl Z2 (8 * pp + 3) else Z2).1 = Z2.1 ∧ (if upr Z2 a b = true then ubl Z2 (8 * pp + 3) else Z2).2.1 = Z2.2.1 ∧ (if upr Z2 a b = true then ubl Z2 (8 * pp + 3) else Z2).2.2.1 = Z2.2.2.1 := by
      split <;> exact ⟨rfl, rfl, rfl⟩
    rw [← hZ3.2] at z3 hFk3
    have hZ3' := hZ3.1
    clear hZ3
    generalize (if upr Z2 a b = true then ubl Z2 (8 * pp + 3) else Z2) = Z3 at hk z3 hFk3 e3 hZ3'
    obtain ⟨c1, c2, c3⟩ := e3
    have h3 : M3 250 ((67 : Nat) : Int) = ((i : Nat) : Int) := by rw [f3 _ _ (by omega)]; exact h2
    have t3 : M3 250 ((77 : Nat) : Int) = ((ut Z2 : Nat) : Int) := by rw [f3 _ _ (by omega)]; exact w1
    have f03 : ∀ b j, ¬ (b = 250 ∧ (j = 40 ∨ j = 66)) → M3 b j = M b j := fun b j q => by rw [f3 b j q, f12 b j q]
    have hZo2 : rZo M3 Z2 := hZ2.2.1.to (fun b j q => f3 b j (by omega)) rfl
    have hZw2 : rZw M3 Z2 := hZ2.2.2.1.to (fun b j q => f3 b j (by omega)) rfl
    have hF4 : uF (if a = b ∨ also = false ∧ usd Z2 a b = false then ubl Z3 (8 * pp + 5) else Z3) = (if a = b ∨ also = false ∧ usd Z2 a b = false then min (uF Z3) (8 * pp + 5) else uF Z3) ∧ (if a = b ∨ also = false ∧ usd Z2 a b = false then ubl Z3 (8 * pp + 5) else Z3).1 = Z3.1 ∧ (if a = b ∨ also = false ∧ usd Z2 a b = false then ubl Z3 (8 * pp + 5) else Z3).2.1 = Z3.2.1 ∧ (if a = b ∨ also = false ∧ usd Z2 a b = false then ubl Z3 (8 * pp + 5) else Z3).2.2.1 = Z3.2.2.1 := by
      split <;> exact ⟨rfl, rfl, rfl, rfl⟩
    obtain ⟨q1, q2, q3, q4⟩ := hF4
    refine i_Seq (w_cut (zR.mon' O) (fun ρ M' => (∃ l, ρ = 250 :: zbI also :: 1 :: ((a : Nat) : Int) :: ((b : Nat) : Int) :: ((pp : Nat) : Int) :: l) ∧ (∀ b j, ¬ (b = 250 ∧ (j = 40 ∨ j = 66)) → M' b j = M3 b j) ∧ rZf M' (uF (if a = b ∨ also = false ∧ usd Z2 a b = false then ubl Z3 (8 * pp + 5) else Z3))) ?_ ?_)
    · rw [q1]
      clear hk hend hZ3' q1 q2 q3 q4
      by_cases u1 : a = b
      · rw [if_pos (Or.inl u1)]
        ((with_reducible refine i_If (i_cOr (i_cI_eq (i_L3 (i_L4 ?_))))); (with_reducible refine i_t (by omega) ?_); (with_reducible refine i_sCall (i_as1 (i_A0 (i_as1 (i_I (i_as1 (i_L5 (i_as0 ?_)))))))); (with_reducible refine i_recv0 (by assumption) ?_))
        refine m_tells hO hS (f := 5) rfl z3 hFk3 (by decide) (by decide) hpp (fun M4 f4 z4 => ⟨rfl, ?_⟩)
        exact ⟨⟨_, rfl⟩, f4, z4⟩
      · cases also
        · by_cases u2 : usd Z2 a b = true
          · rw [if_neg (fun z => z.elim u1 (fun z => by rw [u2] at z; cases z.2))]
            have z0 : zbI false = 0 := rfl
            rw [z0]
            ((with_reducible refine i_If (i_cOr (i_cI_eq (i_L3 (i_L4 ?_))))); (with_reducible refine i_f (by omega) ?_); (with_reducible refine i_cAnd (i_cNot (i_cZ_ne (i_L1 ?_)))); simp only [w_set0, w_set1, w_setn0, w_setn1]; (with_reducible refine i_f (by omega) ?_); (with_reducible refine i_cNot (i_cZ_ne (i_Call (i_as1 (i_A0 (i_as1 (i_L3 (i_as1 (i_L4 (i_as0 ?_)))))))))); (with_reducible refine i_recv0 (by assumption) ?_))
            refine m_isSomeSaid hO hS hZo2 hZw2 hA.1.1 hA.1.2.1 (by omega) (by omega) (by omega) (by omega) ⟨_, rfl, ?_⟩
            rw [u2]
            (rw [zbI_t]; simp only [w_set0, w_set1, w_setn0, w_setn1]; (with_reducible refine i_t (by omega) ?_))
            exact ⟨⟨_, rfl⟩, fun _ _ _ => by trivial, z3⟩
          · have u3 : usd Z2 a b = false := by
              cases h : usd Z2 a b
              · rfl
              · exact absurd h u2
            rw [if_pos (Or.inr ⟨rfl, u3⟩)]
            have z0 : zbI false = 0 := rfl
            rw [z0]
            ((with_reducible refine i_If (i_cOr (i_cI_eq (i_L3 (i_L4 ?_))))); (with_reducible refine i_f (by omega) ?_); (with_reducible refine i_cAnd (i_cNot (i_cZ_ne (i_L1 ?_)))); simp only [w_set0, w_set1, w_setn0, w_setn1]; (with_reducible refine i_f (by omega) ?_); (with_reducible refine i_cNot (i_cZ_ne (i_Call (i_as1 (i_A0 (i_as1 (i_L3 (i_as1 (i_L4 (i_as0 ?_)))))))))); (with_reducible refine i_recv0 (by assumption) ?_))
            refine m_isSomeSaid hO hS hZo2 hZw2 hA.1.1 hA.1.2.1 (by omega) (by omega) (by omega) (by omega) ⟨_, rfl, ?_⟩
            rw [u3]
            (rw [zbI_f]; simp only [w_set0, w_set1, w_setn0, w_setn1]; (with_reducible refine i_f (by omega) ?_); (with_reducible refine i_sCall (i_as1 (i_A0 (i_as1 (i_I (i_as1 (i_L5 (i_as0 ?_)))))))); (with_reducible refine i_recv0 (by assumption) ?_))
            refine m_tells hO hS (f := 5) rfl z3 hFk3 (by decide) (by decide) hpp (fun M4 f4 z4 => ⟨rfl, ?_⟩)
            exact ⟨⟨_, rfl⟩, f4, z4⟩
        · rw [if_neg (fun z => z.elim u1 (fun z => by cases z.1))]
          have z0 : zbI true = 1 := rfl
          rw [z0]
          ((with_reducible refine i_If (i_cOr (i_cI_eq (i_L3 (i_L4 ?_))))); (with_reducible refine i_f (by omega) ?_); (with_reducible refine i_cAnd (i_cNot (i_cZ_ne (i_L1 ?_)))); simp only [w_set0, w_set1, w_setn0, w_setn1]; (with_reducible refine i_t (by omega) ?_))
          exact ⟨⟨_, rfl⟩, fun _ _ _ => by trivial, z3⟩
    rintro ρ M4 ⟨⟨l, rfl⟩, f4, z4⟩
    generalize (if a = b ∨ also = false ∧ usd Z2 a b = false then ubl Z3 (8 * pp + 5) else Z3) = Z4 at hk z4 q1 q2 q3 q4
    have hZ4 : rZt M4 Z4 := hZ3'.bl f4 q2 q3 q4 z4
    have h4 : M4 250 ((67 : Nat) : Int) = ((i : Nat) : Int) := by rw [f4 _ _ (by omega)]; exact h3
    have t4 : M4 250 ((77 : Nat) : Int) = ((ut Z2 : Nat) : Int) := by rw [f4 _ _ (by omega)]; exact t3
    have hut4 : ut Z4 = ut Z2 := by unfold ut; rw [q4, c3]
    obtain ⟨w3, w4⟩ := hZ4.2.2.2.1
    rw [hut4] at w3 w4
    ((with_reducible refine i_Seq (i_sIA (i_FR (i_A0 ?_)))); (with_reducible refine i_fldR (by assumption) ?_); (with_reducible refine i_F (i_A0 ?_)); (with_reducible refine i_fld (by assumption) ?_); (with_reducible refine i_L3 ?_); (with_reducible refine i_in (by assumption) (by omega) (by omega) ?_); (with_reducible refine i_Seq (i_sIA (i_FR (i_A0 ?_)))); (with_reducible refine i_fldR (by assumption) ?_); (with_reducible refine i_F (i_A0 ?_)); (with_reducible refine i_fld (by assumption) ?_); (with_reducible refine i_L4 ?_); rw [zg_n _ _ _ (by omega)]; (with_reducible refine i_in (by assumption) (by omega) (by omega) ?_); (with_reducible refine i_Seq (i_sZA (i_FR (i_A0 ?_)))); (with_reducible refine i_fldR (by assumption) ?_); (with_reducible refine i_F (i_A0 ?_)); (with_reducible refine i_fld (by assumption) ?_); (with_reducible refine i_L1 ?_); rw [zg_n _ _ _ (by omega)]; rw [zg_n _ _ _ (by omega)]; (with_reducible refine i_zin (zbI_01 _) (by assumption) (by omega) (by omega) ?_); (with_reducible refine i_Seq (i_sIA (i_FR (i_A0 ?_)))); (with_reducible refine i_fldR (by assumption) ?_); (with_reducible refine i_F (i_A0 ?_)); (with_reducible refine i_fld (by assumption) ?_); (with_reducible refine i_L5 ?_); rw [zg_n _ _ _ (by omega)]; rw [zg_n _ _ _ (by omega)]; rw [zg_n _ _ _ (by omega)]; (with_reducible refine i_in (by assumption) (by omega) (by omega) ?_); (with_reducible refine i_FO (i_A0 ?_)); (with_reducible refine i_fld (by assumption) ?_); (with_reducible refine i_I ?_); (with_reducible refine i_fld (by assumption) ?_); (with_reducible refine i_FO (i_A0 ?_)); (with_reducible refine i_fld (by assumption) ?_); (with_reducible refine i_I ?_); (with_reducible refine i_fld (by assumption) ?_); (with_reducible refine i_RetV ?_); rw [zg_n _ _ _ (by omega)]; rw [zg_n _ _ _ (by omega)]; rw [zg_n _ _ _ (by omega)]; rw [zg_n _ _ _ (by omega)]; rw [zg_m _ _ _ _ _ (by omega)]; rw [zg_n _ _ _ (by omega)]; rw [zg_n _ _ _ (by omega)]; rw [zg_n _ _ _ (by omega)]; rw [zg_n _ _ _ (by omega)]; (rw [t4]); (rw [h4]); rw [zx_inc (by omega)]; rw [zx_addc (by omega)])
    refine hk _ (fun b j q => by rw [zg_o _ _ (by omega), zg_o _ _ (by omega), zg_o _ _ (by omega), zg_o _ _ (by omega), zg_o _ _ (by omega), zg_o _ _ (by omega), f4 b j (by omega)]; exact f03 b j (by omega)) (zg_s _ _ _ _ _) ⟨hZ4.1.to (fun b j q => by rw [zg_o _ _ (by omega), zg_o _ _ (by omega), zg_o _ _ (by omega), zg_o _ _ (by omega), zg_o _ _ (by omega), zg_o _ _ (by omega)]) rfl, hZ4.2.1.to (fun b j q => by rw [zg_o _ _ (by omega), zg_o _ _ (by omega), zg_o _ _ (by omega), zg_o _ _ (by omega), zg_o _ _ (by omega), zg_o _ _ (by omega)]) rfl, hZ4.2.2.1.to (fun b j q => by rw [zg_o _ _ (by omega), zg_o _ _ (by omega), zg_o _ _ (by omega), zg_o _ _ (by omega), zg_o _ _ (by omega), zg_o _ _ (by omega)]) rfl, ⟨?_, fun c hc => ?_⟩, z4.to (fun b j q => by rw [zg_o _ _ (by omega), zg_o _ _ (by omega), zg_o _ _ (by omega), zg_o _ _ (by omega), zg_o _ _ (by omega), zg_o _ _ (by omega)])⟩
    · show _ = ((ut Z4 + 1 : Nat) : Int)
      rw [zg_o _ _ (by omega), hut4]
      exact zg_s _ _ _ _ _
    · have hup : up (uap Z4 (a, b, also, pp)) = uup (up Z4) (ut Z4) (a, b, also, pp) := rfl
      have hc2 : c < ut Z4 + 1 := hc
      rw [hup, hut4]
      rw [hut4] at hc2
      by_cases e9 : c = ut Z2
      · subst e9
        rw [uup_s]
        exact ⟨by rw [zg_n _ _ _ (by omega), zg_n _ _ _ (by omega), zg_n _ _ _ (by omega), zg_n _ _ _ (by omega), zg_n _ _ _ (by omega), zg_s], by rw [zg_n _ _ _ (by omega), zg_n _ _ _ (by omega), zg_n _ _ _ (by omega), zg_n _ _ _ (by omega), zg_s], by rw [zg_n _ _ _ (by omega), zg_n _ _ _ (by omega), zg_n _ _ _ (by omega), zg_s], by rw [zg_n _ _ _ (by omega), zg_n _ _ _ (by omega), zg_s]⟩
      · rw [uup_n _ _ e9]
        obtain ⟨y1, y2, y3, y4⟩ := w4 c (by omega)
        exact ⟨by rw [zg_o _ _ (by omega), zg_o _ _ (by omega), zg_o _ _ (by omega), zg_o _ _ (by omega), zg_o _ _ (by omega), zg_o _ _ (by omega)]; exact y1, by rw [zg_o _ _ (by omega), zg_o _ _ (by omega), zg_o _ _ (by omega), zg_o _ _ (by omega), zg_o _ _ (by omega), zg_o _ _ (by omega)]; exact y2, by rw [zg_o _ _ (by omega), zg_o _ _ (by omega), zg_o _ _ (by omega), zg_o _ _ (by omega), zg_o _ _ (by omega), zg_o _ _ (by omega)]; exact y3, by rw [zg_o _ _ (by omega), zg_o _ _ (by omega), zg_o _ _ (by omega), zg_o _ _ (by omega), zg_o _ _ (by omega), zg_o _ _ (by omega)]; exact y4⟩
  · rw [if_neg e] at hk
    by_cases ea : a < n
    · have eb : ¬ b < n := fun z => e ⟨ea, z⟩
      rw [decide_eq_false eb]
      (rw [zbI_f]; (with_reducible refine i_f (by omega) ?_); (with_reducible refine i_I (i_Seq (i_If (i_cZ_ne ?_)))); simp only [w_set0, w_set1, w_setn0, w_setn1]; (with_reducible refine i_L2 ?_); (with_reducible refine i_f (by omega) ?_); (with_reducible refine i_FO (i_A0 ?_)); (with_reducible refine i_fld (by assumption) ?_); (with_reducible refine i_I ?_); (with_reducible refine i_fld (by assumption) ?_); (with_reducible refine i_RetV ?_); (rw [h2]); rw [zx_addc (by omega)])
      exact hend M2 _ (rXF.bl f12) h2 hZ2 hk
    · rw [decide_eq_false ea]
      by_cases eb : b < n
      · rw [decide_eq_true eb]
        (rw [zbI_t]; rw [zbI_f]; (with_reducible refine i_t (by omega) ?_); (with_reducible refine i_cZ_ne (i_L2 ?_)); (with_reducible refine i_f (by omega) ?_); (with_reducible refine i_I (i_Seq (i_If (i_cZ_ne ?_)))); simp only [w_set0, w_set1, w_setn0, w_setn1]; (with_reducible refine i_L2 ?_); (with_reducible refine i_f (by omega) ?_); (with_reducible refine i_FO (i_A0 ?_)); (with_reducible refine i_fld (by assumption) ?_); (with_reducible refine i_I ?_); (with_reducible refine i_fld (by assumption) ?_); (with_reducible refine i_RetV ?_); (rw [h2]); rw [zx_addc (by omega)])
        exact hend M2 _ (rXF.bl f12) h2 hZ2 hk
      · rw [decide_eq_false eb]
        (rw [zbI_f]; (with_reducible refine i_f (by omega) ?_); (with_reducible refine i_I (i_Seq (i_If (i_cZ_ne ?_)))); simp only [w_set0, w_set1, w_setn0, w_setn1]; (with_reducible refine i_L2 ?_); (with_reducible refine i_f (by omega) ?_); (with_reducible refine i_FO (i_A0 ?_)); (with_reducible refine i_fld (by assumption) ?_); (with_reducible refine i_I ?_); (with_reducible refine i_fld (by assumption) ?_); (with_reducible refine i_RetV ?_); (rw [h2]); rw [zx_addc (by omega)])
        exact hend M2 _ (rXF.bl f12) h2 hZ2 hk
/-! ===== all tells ===== -/
def uG1 (Z : zZt) : Nat → Nat
  | 0 => uF Z
  | k + 1 => if (up Z k).2.2.1 = true ∧ usd Z (up Z k).1 (up Z k).2.1 = true then min (uG1 Z k) (8 * (up Z k).2.2.2 + 5) else uG1 Z k
theorem uG1_k {Z : zZt} {s : Nat} (hs : s ≤ 2000) (hF : uFk (uF Z)) (hp : ∀ k, k < ut Z → (up Z k).2.2.2 ≤ s) : ∀ k, k ≤ ut Z → uFk (uG1 Z k)
  | 0, _ => hF
  | k + 1, h => by
    unfold uG1
    have := uG1_k hs hF hp k (by omega)
    split
    · exact uFk_min this (Nat.le_trans (hp k (by omega)) hs) (by decide) (by decide)
    · exact this
/-- the first fault of all -/
def uFin (s n : Nat) (Z : zZt) : Nat := if zex (fun p => decide (uo Z p = 999)) n = true then min (uG1 Z (ut Z)) (8 * s + 6) else uG1 Z (ut Z)
def uZT (B : Nat → Nat) (s n : Nat) : zZt := ufi B s n (zhh B s) 0 uZ0
set_option maxHeartbeats 1600000 in
theorem m_tellAll {O : zOm} (hO : zWld O) (hS : zS O = zmS zC0) {s n : Nat} {B : Nat → Nat} {M : zMem} {K : Option zV → zMem → Prop} (hs : s ≤ 2000) (hn16 : n ≤ 16) (hF : zksF B s = 99999) (hR : rTt M B s) (hn : M 250 ((1 : Nat) : Int) = ((n : Nat) : Int)) (ht : M 250 ((33 : Nat) : Int) = ((s : Nat) : Int)) (hf0 : M 250 ((66 : Nat) : Int) = 0) (hp0 : M 250 ((40 : Nat) : Int) = -1)
    (hk : ∀ M', rXF M M' → uAll B s n (uZT B s n) (zhh B s) → rZt M' ((uZT B s n).1, (uZT B s n).2.1, (uZT B s n).2.2.1, uFin s n (uZT B s n)) → K none M') : zR O F_Model_tellAll [(2, 250)] M K := by
  have h400 := (zhh_ok B s).1
  obtain ⟨hse, hq0⟩ := zks_fine hs hF
  apply r_Model_tellAll hO
  unfold B_Model_tellAll
  have f68 := zMF (k := 68) hS rfl; have f73 := zMF (k := 73) hS rfl; have f77 := zMF (k := 77) hS rfl; have f71 := zMF (k := 71) hS rfl; have a302 := zMA (a := 302) (ty := .int) (n := 16) hS rfl; have f72 := zMF (k := 72) hS rfl; have a303 := zMA (a := 303) (ty := .int) (n := 16) hS rfl; have f67 := zMF (k := 67) hS rfl; have f36 := zMF (k := 36) hS rfl; have a279 := zMA (a := 279) (ty := .int) (n := 2001) hS rfl; have f39 := zMF (k := 39) hS rfl; have a282 := zMA (a := 282) (ty := .int) (n := 2001) hS rfl; have f80 := zMF (k := 80) hS rfl; have a309 := zMA (a := 309) (ty := .boolean) (n := 140) hS rfl; have f78 := zMF (k := 78) hS rfl; have a307 := zMA (a := 307) (ty := .int) (n := 140) hS rfl; have f79 := zMF (k := 79) hS rfl; have a308 := zMA (a := 308) (ty := .int) (n := 140) hS rfl; have f81 := zMF (k := 81) hS rfl; have a310 := zMA (a := 310) (ty := .int) (n := 140) hS rfl; have f1 := zMF (k := 1) hS rfl; have f33 := zMF (k := 33) hS rfl; have zo := zMO hS
  ((with_reducible refine i_Seq (i_Seq (i_sF (i_A0 (i_I ?_))))); (with_reducible refine i_fld (by assumption) ?_); (with_reducible refine i_Seq (i_sF (i_A0 (i_I ?_)))); (with_reducible refine i_fld (by assumption) ?_); (with_reducible refine i_Seq (i_sF (i_A0 (i_I ?_)))); (with_reducible refine i_fld (by assumption) ?_); (with_reducible refine i_Seq (i_Blk (i_Seq (i_Set (i_I ?_))))); simp only [w_set0, w_set1, w_setn0, w_setn1])
  refine w_ForN 16 (fun c ρ M' => (∃ l, ρ = 250 :: ((c : Nat) : Int) :: l) ∧ rXF M M' ∧ M' 250 ((68 : Nat) : Int) = 0 ∧ M' 250 ((73 : Nat) : Int) = 0 ∧ M' 250 ((77 : Nat) : Int) = 0 ∧ M' 250 ((66 : Nat) : Int) = 0 ∧ M' 250 ((40 : Nat) : Int) = -1 ∧ ∀ p : Nat, p < c → M' ((302 : Nat) : Int) ((p : Nat) : Int) = -1 ∧ M' ((303 : Nat) : Int) ((p : Nat) : Int) = 0) ⟨⟨_, rfl⟩, fun b j q => by rw [zg_o _ _ (by omega), zg_o _ _ (by omega), zg_o _ _ (by omega)], by rw [zg_o _ _ (by omega), zg_o _ _ (by omega)]; exact zg_s _ _ _ _ _, by rw [zg_o _ _ (by omega)]; exact zg_s _ _ _ _ _, zg_s _ _ _ _ _, by rw [zg_o _ _ (by omega), zg_o _ _ (by omega), zg_o _ _ (by omega)]; exact hf0, by rw [zg_o _ _ (by omega), zg_o _ _ (by omega), zg_o _ _ (by omega)]; exact hp0, fun p hp => absurd hp (by omega)⟩ ?_ ?_
  · rintro c ρ M1 X hc ⟨⟨l, rfl⟩, f1, b1, b2, b3, b4, b5, b6⟩ hX
    ((with_reducible refine i_turn (i_cI_lt (i_L1 (i_I ?_)))); (with_reducible refine i_t (by omega) ?_); (with_reducible refine i_Seq (i_sIA (i_FR (i_A0 ?_)))); (with_reducible refine i_fldR (by assumption) ?_); (with_reducible refine i_L1 (i_I ?_)); (with_reducible refine i_in (by assumption) (by omega) (by omega) ?_); (with_reducible refine i_sIA (i_FR (i_A0 ?_))); (with_reducible refine i_fldR (by assumption) ?_); (with_reducible refine i_L1 (i_I ?_)); (with_reducible refine i_in (by assumption) (by omega) (by omega) ?_); (with_reducible refine i_up (i_Inc1 ?_)); rw [zx_inc (by omega)]; simp only [w_set0, w_set1, w_setn0, w_setn1])
    refine hX _ _ ⟨⟨_, rfl⟩, fun b j q => by rw [zg_o _ _ (by omega), zg_o _ _ (by omega)]; exact f1 b j q, by rw [zg_n _ _ _ (by omega), zg_n _ _ _ (by omega)]; exact b1, by rw [zg_n _ _ _ (by omega), zg_n _ _ _ (by omega)]; exact b2, by rw [zg_n _ _ _ (by omega), zg_n _ _ _ (by omega)]; exact b3, by rw [zg_n _ _ _ (by omega), zg_n _ _ _ (by omega)]; exact b4, by rw [zg_n _ _ _ (by omega), zg_n _ _ _ (by omega)]; exact b5, fun p hp => ?_⟩
    by_cases e : p = c
    · subst e
      exact ⟨by rw [zg_n _ _ _ (by omega), zg_s], zg_s _ _ _ _ _⟩
    · obtain ⟨y1, y2⟩ := b6 p (by omega)
      exact ⟨by rw [zg_o _ _ (by omega), zg_o _ _ (by omega)]; exact y1, by rw [zg_o _ _ (by omega), zg_o _ _ (by omega)]; exact y2⟩
  rintro ρ M1 X ⟨⟨l, rfl⟩, f1, b1, b2, b3, b4, b5, b6⟩
  have hZ0 : rZt M1 uZ0 := ⟨⟨b1, fun b hb => absurd hb (Nat.not_lt_zero _)⟩, fun p hp => b6 p hp, ⟨b2, fun k hk => absurd hk (Nat.not_lt_zero _)⟩, ⟨b3, fun k hk => absurd hk (Nat.not_lt_zero _)⟩, b4, b5⟩
  ((with_reducible refine i_turn (i_cI_lt (i_L1 (i_I ?_)))); (with_reducible refine i_f (by omega) ?_); (with_reducible refine i_Seq (i_sF (i_A0 (i_I ?_)))); (with_reducible refine i_fld (by assumption) ?_); (with_reducible refine i_Seq ?_))
  generalize hM0 : zput M1 250 (zup (M1 250) ((67 : Nat) : Int) 0) = M0
  have f0 : ∀ b j, ¬ (b = 250 ∧ j = 67) → M0 b j = M1 b j := fun b j q => by rw [← hM0, zg_o _ _ (by omega)]
  have g0 : M0 250 ((67 : Nat) : Int) = ((0 : Nat) : Int) := by rw [← hM0]; exact zg_s _ _ _ _ _
  clear hM0
  have f00 : rXF M M0 := fun b j q => by rw [f0 b j (by omega)]; exact f1 b j q
  have r00 : rTx M0 B s n 0 uZ0 := ⟨hR.to (fun b j q => f00 b j (by omega)), by rw [f00 _ _ (by omega)]; exact hn, g0, hZ0.to (fun b j q => f0 b j (by omega))⟩
  refine w_While (α := zLoc × zMem × Nat × zZt) (fun x => (x.1, x.2.1)) (fun x => (∃ l, x.1 = 250 :: l) ∧ rXF M x.2.1 ∧ rTx x.2.1 B s n x.2.2.1 x.2.2.2 ∧ x.2.2.1 ≤ zhh B s ∧ zqs B s x.2.2.1 = 0 ∧ uAll B s n x.2.2.2 x.2.2.1 ∧ ∃ f, zhh B s ≤ x.2.2.1 + f ∧ ufi B s n f x.2.2.1 x.2.2.2 = uZT B s n) (fun x => zhh B s - x.2.2.1) (fun x X hx hy => ?_) (_, M0, 0, uZ0) ⟨⟨_, rfl⟩, f00, r00, Nat.zero_le _, rfl, uAll.z0, zhh B s, Nat.le_add_left _ _, rfl⟩
  obtain ⟨ρ, M2, i, Z⟩ := x
  (try dsimp only at hx)
  obtain ⟨⟨l, rfl⟩, f2, hX2, hi, hq, hA, f, hf1, hf2⟩ := hx
  (try dsimp only at f2 hX2 hi hq hA hf1 hf2 hy ⊢)
  have hR2 := hX2.1
  have h2 := hX2.2.2.1
  have hZ2 := hX2.2.2.2
  have hzl := zps_le B s i
  by_cases hih : i < zhh B s
  · have hzi := ((zhh_ok B s).2.1 i hih).1
    obtain ⟨c1, c2, c3⟩ := zgr_tell hih hq
    obtain ⟨d1, d2, d3⟩ := zgr_nt hq0 hih hq
    have hA2 := hA.st hs hn16 hq0 hih hq
    have tk := hR2.tk hih
    have s1 : M2 ((279 : Nat) : Int) ((i : Nat) : Int) = 3 := by
      rw [tk.1]
      unfold zksS
      rw [if_neg (by omega), if_pos (by omega)]
      rfl
    have s2 : M2 ((282 : Nat) : Int) ((i : Nat) : Int) = ((zKi B s i : Nat) : Int) - 3 := tk.2.2.1 c1 c2
    obtain ⟨f, rfl⟩ : ∃ f', f = f' + 1 := ⟨f - 1, by omega⟩
    rw [ufi_su hih] at hf2
    have hy2 : ∀ (l : zLoc) (M' : zMem), rXF M2 M' → M' 250 ((67 : Nat) : Int) = ((znt B s i : Nat) : Int) → rZt M' (ust B s n Z i) → X (250 :: l) M' := fun l M' f3 h3 z3 => by
      have d4 : zhh B s ≤ znt B s i + f := by omega
      have r3 : rTx M' B s n (znt B s i) (ust B s n Z i) := ⟨hR2.to (fun b j q => f3 b j (by omega)), by rw [f3 _ _ (by omega)]; exact hX2.2.1, h3, z3⟩
      exact hy (250 :: l, M', znt B s i, ust B s n Z i) ⟨⟨l, rfl⟩, f2.tr f3, r3, d2, d3, hA2, f, d4, hf2⟩ (by (try dsimp only); omega)
    clear hy hk
    unfold znt ust at hy2
    by_cases k3 : zKi B s i = 3
    · rw [if_pos k3, if_pos k3] at hy2
      ((with_reducible refine i_turn (i_cI_ne (i_IA (i_FR (i_A0 ?_))))); (with_reducible refine i_fldR (by assumption) ?_); (with_reducible refine i_F (i_A0 ?_)); (with_reducible refine i_fld (by assumption) ?_); (with_reducible refine i_in (by assumption) (by omega) (by omega) ?_); (with_reducible refine i_I ?_); (rw [h2]); (rw [s1]); (with_reducible refine i_t (by omega) ?_); (with_reducible refine i_Blk (i_Seq (i_Set (i_IA (i_FR (i_A0 ?_)))))); (with_reducible refine i_fldR (by assumption) ?_); (with_reducible refine i_F (i_A0 ?_)); (with_reducible refine i_fld (by assumption) ?_); (with_reducible refine i_in (by assumption) (by omega) (by omega) ?_); (with_reducible refine i_Ite (i_cZ_eq ?_)); (rw [h2]); (rw [s2]); simp only [w_set0, w_set1, w_setn0, w_setn1]; rw [w_setT]; (with_reducible refine i_L1 ?_); (with_reducible refine i_t (by omega) ?_); (with_reducible refine i_sCall (i_as1 (i_A0 (i_as0 ?_)))); (with_reducible refine i_recv0 (by assumption) ?_))
      refine m_tellBox hO hS hs hn16 hq0 hih hq k3 hA hX2 (fun M3 f3 h3 z3 => ⟨rfl, ?_⟩)
      (skip)
      exact hy2 _ M3 f3 h3 z3
    rw [if_neg k3, if_neg k3] at hy2
    by_cases k4 : zKi B s i = 4
    · rw [if_pos k4, if_pos (show zKi B s i ≤ 5 by omega)] at hy2
      ((with_reducible refine i_turn (i_cI_ne (i_IA (i_FR (i_A0 ?_))))); (with_reducible refine i_fldR (by assumption) ?_); (with_reducible refine i_F (i_A0 ?_)); (with_reducible refine i_fld (by assumption) ?_); (with_reducible refine i_in (by assumption) (by omega) (by omega) ?_); (with_reducible refine i_I ?_); (rw [h2]); (rw [s1]); (with_reducible refine i_t (by omega) ?_); (with_reducible refine i_Blk (i_Seq (i_Set (i_IA (i_FR (i_A0 ?_)))))); (with_reducible refine i_fldR (by assumption) ?_); (with_reducible refine i_F (i_A0 ?_)); (with_reducible refine i_fld (by assumption) ?_); (with_reducible refine i_in (by assumption) (by omega) (by omega) ?_); (with_reducible refine i_Ite (i_cZ_eq ?_)); (rw [h2]); (rw [s2]); simp only [w_set0, w_set1, w_setn0, w_setn1]; rw [w_setT]; (with_reducible refine i_L1 ?_); (with_reducible refine i_f (by omega) ?_); (with_reducible refine i_Ite (i_cI_eq (i_L1 (i_I ?_)))); (with_reducible refine i_t (by omega) ?_); (with_reducible refine i_sCall (i_as1 (i_A0 (i_as1 (i_I (i_as0 ?_)))))); (with_reducible refine i_recv0 (by assumption) ?_))
      refine m_tellOne hO hS (k := 0) rfl hs hq0 hih hq (Or.inl k4) (Or.inl rfl) hA hX2 (fun M3 f3 h3 z3 => ⟨rfl, ?_⟩)
      (skip)
      exact hy2 _ M3 f3 h3 z3
    rw [if_neg k4] at hy2
    by_cases k5 : zKi B s i = 5
    · rw [if_pos k5, if_pos (show zKi B s i ≤ 5 by omega)] at hy2
      ((with_reducible refine i_turn (i_cI_ne (i_IA (i_FR (i_A0 ?_))))); (with_reducible refine i_fldR (by assumption) ?_); (with_reducible refine i_F (i_A0 ?_)); (with_reducible refine i_fld (by assumption) ?_); (with_reducible refine i_in (by assumption) (by omega) (by omega) ?_); (with_reducible refine i_I ?_); (rw [h2]); (rw [s1]); (with_reducible refine i_t (by omega) ?_); (with_reducible refine i_Blk (i_Seq (i_Set (i_IA (i_FR (i_A0 ?_)))))); (with_reducible refine i_fldR (by assumption) ?_); (with_reducible refine i_F (i_A0 ?_)); (with_reducible refine i_fld (by assumption) ?_); (with_reducible refine i_in (by assumption) (by omega) (by omega) ?_); (with_reducible refine i_Ite (i_cZ_eq ?_)); (rw [h2]); (rw [s2]); simp only [w_set0, w_set1, w_setn0, w_setn1]; rw [w_setT]; (with_reducible refine i_L1 ?_); (with_reducible refine i_f (by omega) ?_); (with_reducible refine i_Ite (i_cI_eq (i_L1 (i_I ?_)))); (with_reducible refine i_f (by omega) ?_); (with_reducible refine i_Ite (i_cI_eq (i_L1 (i_I ?_)))); (with_reducible refine i_t (by omega) ?_); (with_reducible refine i_sCall (i_as1 (i_A0 (i_as1 (i_I (i_as0 ?_)))))); (with_reducible refine i_recv0 (by assumption) ?_))
      refine m_tellOne hO hS (k := 3) rfl hs hq0 hih hq (Or.inr k5) (Or.inr rfl) hA hX2 (fun M3 f3 h3 z3 => ⟨rfl, ?_⟩)
      (skip)
      exact hy2 _ M3 f3 h3 z3
    rw [if_neg k5, if_neg (show ¬ zKi B s i ≤ 5 by omega)] at hy2
    by_cases k6 : zKi B s i = 6
    · rw [if_pos k6] at hy2
      ((with_reducible refine i_turn (i_cI_ne (i_IA (i_FR (i_A0 ?_))))); (with_reducible refine i_fldR (by assumption) ?_); (with_reducible refine i_F (i_A0 ?_)); (with_reducible refine i_fld (by assumption) ?_); (with_reducible refine i_in (by assumption) (by omega) (by omega) ?_); (with_reducible refine i_I ?_); (rw [h2]); (rw [s1]); (with_reducible refine i_t (by omega) ?_); (with_reducible refine i_Blk (i_Seq (i_Set (i_IA (i_FR (i_A0 ?_)))))); (with_reducible refine i_fldR (by assumption) ?_); (with_reducible refine i_F (i_A0 ?_)); (with_reducible refine i_fld (by assumption) ?_); (with_reducible refine i_in (by assumption) (by omega) (by omega) ?_); (with_reducible refine i_Ite (i_cZ_eq ?_)); (rw [h2]); (rw [s2]); simp only [w_set0, w_set1, w_setn0, w_setn1]; rw [w_setT]; (with_reducible refine i_L1 ?_); (with_reducible refine i_f (by omega) ?_); (with_reducible refine i_Ite (i_cI_eq (i_L1 (i_I ?_)))); (with_reducible refine i_f (by omega) ?_); (with_reducible refine i_Ite (i_cI_eq (i_L1 (i_I ?_)))); (with_reducible refine i_f (by omega) ?_); (with_reducible refine i_Ite (i_cI_eq (i_L1 (i_I ?_)))); (with_reducible refine i_t (by omega) ?_); (with_reducible refine i_sCall (i_as1 (i_A0 (i_as0 ?_)))); (with_reducible refine i_recv0 (by assumption) ?_))
      refine m_tellSides hO hS hs hq0 hih hq k6 hA hX2 (fun M3 f3 h3 z3 => ⟨rfl, ?_⟩)
      (skip)
      exact hy2 _ M3 f3 h3 z3
    rw [if_neg k6] at hy2
    by_cases k7 : zKi B s i = 7
    · rw [if_pos k7] at hy2
      ((with_reducible refine i_turn (i_cI_ne (i_IA (i_FR (i_A0 ?_))))); (with_reducible refine i_fldR (by assumption) ?_); (with_reducible refine i_F (i_A0 ?_)); (with_reducible refine i_fld (by assumption) ?_); (with_reducible refine i_in (by assumption) (by omega) (by omega) ?_); (with_reducible refine i_I ?_); (rw [h2]); (rw [s1]); (with_reducible refine i_t (by omega) ?_); (with_reducible refine i_Blk (i_Seq (i_Set (i_IA (i_FR (i_A0 ?_)))))); (with_reducible refine i_fldR (by assumption) ?_); (with_reducible refine i_F (i_A0 ?_)); (with_reducible refine i_fld (by assumption) ?_); (with_reducible refine i_in (by assumption) (by omega) (by omega) ?_); (with_reducible refine i_Ite (i_cZ_eq ?_)); (rw [h2]); (rw [s2]); simp only [w_set0, w_set1, w_setn0, w_setn1]; rw [w_setT]; (with_reducible refine i_L1 ?_); (with_reducible refine i_f (by omega) ?_); (with_reducible refine i_Ite (i_cI_eq (i_L1 (i_I ?_)))); (with_reducible refine i_f (by omega) ?_); (with_reducible refine i_Ite (i_cI_eq (i_L1 (i_I ?_)))); (with_reducible refine i_f (by omega) ?_); (with_reducible refine i_Ite (i_cI_eq (i_L1 (i_I ?_)))); (with_reducible refine i_f (by omega) ?_); (with_reducible refine i_Ite (i_cI_eq (i_L1 (i_I ?_)))); (with_reducible refine i_t (by omega) ?_); (with_reducible refine i_sCall (i_as1 (i_A0 (i_as0 ?_)))); (with_reducible refine i_recv0 (by assumption) ?_))
      refine m_tellStar hO hS hs hn16 hq0 hih hq k7 hA hX2 (fun M3 f3 h3 z3 => ⟨rfl, ?_⟩)
      (skip)
      exact hy2 _ M3 f3 h3 z3
    rw [if_neg k7] at hy2
    by_cases k9 : zKi B s i = 9
    · rw [decide_eq_true k9] at hy2
      ((with_reducible refine i_turn (i_cI_ne (i_IA (i_FR (i_A0 ?_))))); (with_reducible refine i_fldR (by assumption) ?_); (with_reducible refine i_F (i_A0 ?_)); (with_reducible refine i_fld (by assumption) ?_); (with_reducible refine i_in (by assumption) (by omega) (by omega) ?_); (with_reducible refine i_I ?_); (rw [h2]); (rw [s1]); (with_reducible refine i_t (by omega) ?_); (with_reducible refine i_Blk (i_Seq (i_Set (i_IA (i_FR (i_A0 ?_)))))); (with_reducible refine i_fldR (by assumption) ?_); (with_reducible refine i_F (i_A0 ?_)); (with_reducible refine i_fld (by assumption) ?_); (with_reducible refine i_in (by assumption) (by omega) (by omega) ?_); (with_reducible refine i_Ite (i_cZ_eq ?_)); (rw [h2]); (rw [s2]); simp only [w_set0, w_set1, w_setn0, w_setn1]; rw [w_setT]; (with_reducible refine i_L1 ?_); (with_reducible refine i_f (by omega) ?_); (with_reducible refine i_Ite (i_cI_eq (i_L1 (i_I ?_)))); (with_reducible refine i_f (by omega) ?_); (with_reducible refine i_Ite (i_cI_eq (i_L1 (i_I ?_)))); (with_reducible refine i_f (by omega) ?_); (with_reducible refine i_Ite (i_cI_eq (i_L1 (i_I ?_)))); (with_reducible refine i_f (by omega) ?_); (with_reducible refine i_Ite (i_cI_eq (i_L1 (i_I ?_)))); (with_reducible refine i_f (by omega) ?_); (with_reducible refine i_sCall (i_as1 (i_A0 (i_as1 (i_eIf (i_cI_eq (i_L1 (i_I ?_)))))))); (with_reducible refine i_t (by omega) ?_); (with_reducible refine i_I (i_as0 ?_)); (with_reducible refine i_recv0 (by assumption) ?_))
      refine m_tellPair hO hS (also := true) rfl hs hn16 hq0 hih hq (by omega) hA hX2 (fun M3 f3 h3 z3 => ⟨rfl, ?_⟩)
      (skip)
      exact hy2 _ M3 f3 h3 z3
    · rw [decide_eq_false k9] at hy2
      ((with_reducible refine i_turn (i_cI_ne (i_IA (i_FR (i_A0 ?_))))); (with_reducible refine i_fldR (by assumption) ?_); (with_reducible refine i_F (i_A0 ?_)); (with_reducible refine i_fld (by assumption) ?_); (with_reducible refine i_in (by assumption) (by omega) (by omega) ?_); (with_reducible refine i_I ?_); (rw [h2]); (rw [s1]); (with_reducible refine i_t (by omega) ?_); (with_reducible refine i_Blk (i_Seq (i_Set (i_IA (i_FR (i_A0 ?_)))))); (with_reducible refine i_fldR (by assumption) ?_); (with_reducible refine i_F (i_A0 ?_)); (with_reducible refine i_fld (by assumption) ?_); (with_reducible refine i_in (by assumption) (by omega) (by omega) ?_); (with_reducible refine i_Ite (i_cZ_eq ?_)); (rw [h2]); (rw [s2]); simp only [w_set0, w_set1, w_setn0, w_setn1]; rw [w_setT]; (with_reducible refine i_L1 ?_); (with_reducible refine i_f (by omega) ?_); (with_reducible refine i_Ite (i_cI_eq (i_L1 (i_I ?_)))); (with_reducible refine i_f (by omega) ?_); (with_reducible refine i_Ite (i_cI_eq (i_L1 (i_I ?_)))); (with_reducible refine i_f (by omega) ?_); (with_reducible refine i_Ite (i_cI_eq (i_L1 (i_I ?_)))); (with_reducible refine i_f (by omega) ?_); (with_reducible refine i_Ite (i_cI_eq (i_L1 (i_I ?_)))); (with_reducible refine i_f (by omega) ?_); (with_reducible refine i_sCall (i_as1 (i_A0 (i_as1 (i_eIf (i_cI_eq (i_L1 (i_I ?_)))))))); (with_reducible refine i_f (by omega) ?_); (with_reducible refine i_I (i_as0 ?_)); (with_reducible refine i_recv0 (by assumption) ?_))
      refine m_tellPair hO hS (also := false) rfl hs hn16 hq0 hih hq (by omega) hA hX2 (fun M3 f3 h3 z3 => ⟨rfl, ?_⟩)
      (skip)
      exact hy2 _ M3 f3 h3 z3
  · have e : i = zhh B s := by omega
    rw [ufi_end (by omega)] at hf2
    rw [hf2] at hA hX2 hZ2
    clear hy hf2
    rw [e] at h2 hA
    have hih2 : zps B s (zhh B s) = s := hse
    have s1 := ((hR2 _ (Nat.le_refl _)).2.1 hse).1
    have hFk : uFk (uF (uZT B s n)) := hA.1.2.2.1
    have hPs : ∀ k, k < ut (uZT B s n) → (up (uZT B s n) k).2.2.2 ≤ s := fun k hk => by
      obtain ⟨-, -, -, j, -, e2, -⟩ := hA.2.1 k hk
      rw [e2]
      exact zps_le B s _
    have hG := uG1_k hs hFk hPs
    have hub := hA.2.2.2.1
    have hut := hA.2.2.2.2.1
    have huk : uk (uZT B s n) ≤ 40 := Nat.le_trans hA.2.2.2.2.2 (zkwc_h (Nat.le_refl _))
    have t2 : M2 250 ((77 : Nat) : Int) = ((ut (uZT B s n) : Nat) : Int) := hZ2.2.2.2.1.1
    have hk2 := fun M' a b => hk M' a hA b
    clear hk
    generalize uZT B s n = Z at *
    ((with_reducible refine i_turn (i_cI_ne (i_IA (i_FR (i_A0 ?_))))); (with_reducible refine i_fldR (by assumption) ?_); (with_reducible refine i_F (i_A0 ?_)); (with_reducible refine i_fld (by assumption) ?_); (with_reducible refine i_in (by assumption) (by omega) (by omega) ?_); (with_reducible refine i_I ?_); (rw [h2]); (rw [s1]); (with_reducible refine i_f (by omega) ?_); (with_reducible refine i_Seq (i_Blk (i_Seq (i_Set (i_I ?_))))); simp only [w_set0, w_set1, w_setn0, w_setn1]; rw [w_setT])
    refine w_ForN (ut Z) (fun c ρ M' => (∃ l, ρ = 250 :: ((c : Nat) : Int) :: l) ∧ (∀ b j, ¬ (b = 250 ∧ (j = 40 ∨ j = 66)) → M' b j = M2 b j) ∧ rZf M' (uG1 Z c)) ⟨⟨_, rfl⟩, fun _ _ _ => rfl, hZ2.2.2.2.2⟩ ?_ ?_
    · rintro c ρ M3 X3 hc ⟨⟨l3, rfl⟩, f3, z3⟩ hX3
      obtain ⟨y1, y2, y3, y4⟩ := hZ2.2.2.2.1.2 c hc
      rw [← f3 _ _ (by omega)] at y1 y2 y3 y4
      have t3 : M3 250 ((77 : Nat) : Int) = ((ut Z : Nat) : Int) := by rw [f3 _ _ (by omega)]; exact t2
      obtain ⟨pa, pb, -⟩ := hA.2.1 c hc
      have hGc := hG c (by omega)
      have hpl := hPs c hc
      have hZo3 : rZo M3 Z := hZ2.2.1.to (fun b j q => f3 b j (by omega)) rfl
      have hZw3 : rZw M3 Z := hZ2.2.2.1.to (fun b j q => f3 b j (by omega)) rfl
      have hX4 : ∀ (l : zLoc) (M' : zMem), (∀ b j, ¬ (b = 250 ∧ (j = 40 ∨ j = 66)) → M' b j = M2 b j) → rZf M' (if (up Z c).2.2.1 = true ∧ usd Z (up Z c).1 (up Z c).2.1 = true then min (uG1 Z c) (8 * (up Z c).2.2.2 + 5) else uG1 Z c) → X3 (250 :: ((c + 1 : Nat) : Int) :: l) M' := fun l M' u v => hX3 _ _ ⟨⟨l, rfl⟩, u, v⟩
      clear hX3 hk2
      generalize uG1 Z c = G at z3 hGc hX4
      generalize (up Z c).1 = x at *
      generalize (up Z c).2.1 = y at *
      generalize (up Z c).2.2.2 = pp at *
      cases hal : (up Z c).2.2.1
      · rw [hal] at y3 hX4
        rw [if_neg (fun z => by cases z.1)] at hX4
        have y3' : M3 ((309 : Nat) : Int) ((c : Nat) : Int) = 0 := y3
        ((with_reducible refine i_turn (i_cI_lt (i_L1 (i_F (i_A0 ?_))))); (with_reducible refine i_fld (by assumption) ?_); (rw [t3]); (with_reducible refine i_t (by omega) ?_); (with_reducible refine i_If (i_cAnd (i_cZ_ne (i_ZA (i_FR (i_A0 ?_)))))); (with_reducible refine i_fldR (by assumption) ?_); (with_reducible refine i_L1 ?_); (with_reducible refine i_in (by assumption) (by omega) (by omega) ?_); (rw [y3']); (with_reducible refine i_f (by omega) ?_); (with_reducible refine i_up (i_Inc1 ?_)); rw [zx_inc (by omega)]; simp only [w_set0, w_set1, w_setn0, w_setn1])
        exact hX4 _ M3 f3 z3
      · rw [hal] at y3 hX4
        have y3' : M3 ((309 : Nat) : Int) ((c : Nat) : Int) = 1 := y3
        cases hsd : usd Z x y
        · rw [hsd, if_neg (fun z => by cases z.2)] at hX4
          ((with_reducible refine i_turn (i_cI_lt (i_L1 (i_F (i_A0 ?_))))); (with_reducible refine i_fld (by assumption) ?_); (rw [t3]); (with_reducible refine i_t (by omega) ?_); (with_reducible refine i_If (i_cAnd (i_cZ_ne (i_ZA (i_FR (i_A0 ?_)))))); (with_reducible refine i_fldR (by assumption) ?_); (with_reducible refine i_L1 ?_); (with_reducible refine i_in (by assumption) (by omega) (by omega) ?_); (rw [y3']); (with_reducible refine i_t (by omega) ?_); (with_reducible refine i_cZ_ne (i_Call (i_as1 (i_A0 (i_as1 (i_IA (i_FR (i_A0 ?_)))))))); (with_reducible refine i_fldR (by assumption) ?_); (with_reducible refine i_L1 ?_); (with_reducible refine i_in (by assumption) (by omega) (by omega) ?_); (with_reducible refine i_as1 (i_IA (i_FR (i_A0 ?_)))); (with_reducible refine i_fldR (by assumption) ?_); (with_reducible refine i_L1 ?_); (with_reducible refine i_in (by assumption) (by omega) (by omega) ?_); (with_reducible refine i_as0 ?_); (with_reducible refine i_recv0 (by assumption) ?_); (rw [y1]); (rw [y2]))
          refine m_isSomeSaid hO hS hZo3 hZw3 hA.1.1 hA.1.2.1 (by omega) (by omega) (by omega) (by omega) ⟨_, rfl, ?_⟩
          rw [hsd]
          (rw [zbI_f]; (with_reducible refine i_f (by omega) ?_); (with_reducible refine i_up (i_Inc1 ?_)); rw [zx_inc (by omega)]; simp only [w_set0, w_set1, w_setn0, w_setn1])
          exact hX4 _ M3 f3 z3
        · rw [hsd, if_pos ⟨rfl, rfl⟩] at hX4
          ((with_reducible refine i_turn (i_cI_lt (i_L1 (i_F (i_A0 ?_))))); (with_reducible refine i_fld (by assumption) ?_); (rw [t3]); (with_reducible refine i_t (by omega) ?_); (with_reducible refine i_If (i_cAnd (i_cZ_ne (i_ZA (i_FR (i_A0 ?_)))))); (with_reducible refine i_fldR (by assumption) ?_); (with_reducible refine i_L1 ?_); (with_reducible refine i_in (by assumption) (by omega) (by omega) ?_); (rw [y3']); (with_reducible refine i_t (by omega) ?_); (with_reducible refine i_cZ_ne (i_Call (i_as1 (i_A0 (i_as1 (i_IA (i_FR (i_A0 ?_)))))))); (with_reducible refine i_fldR (by assumption) ?_); (with_reducible refine i_L1 ?_); (with_reducible refine i_in (by assumption) (by omega) (by omega) ?_); (with_reducible refine i_as1 (i_IA (i_FR (i_A0 ?_)))); (with_reducible refine i_fldR (by assumption) ?_); (with_reducible refine i_L1 ?_); (with_reducible refine i_in (by assumption) (by omega) (by omega) ?_); (with_reducible refine i_as0 ?_); (with_reducible refine i_recv0 (by assumption) ?_); (rw [y1]); (rw [y2]))
          refine m_isSomeSaid hO hS hZo3 hZw3 hA.1.1 hA.1.2.1 (by omega) (by omega) (by omega) (by omega) ⟨_, rfl, ?_⟩
          rw [hsd]
          (rw [zbI_t]; (with_reducible refine i_t (by omega) ?_); (with_reducible refine i_sCall (i_as1 (i_A0 (i_as1 (i_I (i_as1 (i_IA (i_FR (i_A0 ?_))))))))); (with_reducible refine i_fldR (by assumption) ?_); (with_reducible refine i_L1 ?_); (with_reducible refine i_in (by assumption) (by omega) (by omega) ?_); (with_reducible refine i_as0 ?_); (with_reducible refine i_recv0 (by assumption) ?_); (rw [y4]))
          refine m_tells hO hS (f := 5) rfl z3 hGc (by decide) (by decide) (by omega) (fun M4 f4 z4 => ⟨rfl, ?_⟩)
          ((with_reducible refine i_up (i_Inc1 ?_)); rw [zx_inc (by omega)]; simp only [w_set0, w_set1, w_setn0, w_setn1])
          exact hX4 _ M4 (fun b j q => by rw [f4 b j q, f3 b j q]) z4
    · rintro ρ M3 X3 ⟨⟨l3, rfl⟩, f3, z3⟩
      have t3 : M3 250 ((77 : Nat) : Int) = ((ut Z : Nat) : Int) := by rw [f3 _ _ (by omega)]; exact t2
      have hGe := hG (ut Z) (Nat.le_refl _)
      have hend : ∀ M', (∀ b j, ¬ (b = 250 ∧ (j = 40 ∨ j = 66)) → M' b j = M2 b j) → rZf M' (uFin s n Z) → K none M' := fun M' u v => hk2 M' (f2.tr (rXF.bl u)) (hZ2.bl u rfl rfl rfl v)
      unfold uFin at hend
      clear hk2
      generalize uG1 Z (ut Z) = G at *
      have hFs : ∀ c, uFk (if zex (fun p => decide (uo Z p = 999)) c = true then min G (8 * s + 6) else G) := fun c => by
        split
        · exact uFk_min hGe hs (by decide) (by decide)
        · exact hGe
      ((with_reducible refine i_turn (i_cI_lt (i_L1 (i_F (i_A0 ?_))))); (with_reducible refine i_fld (by assumption) ?_); (rw [t3]); (with_reducible refine i_f (by omega) ?_); (with_reducible refine i_Blk (i_Seq (i_Set (i_I ?_)))); simp only [w_set0, w_set1, w_setn0, w_setn1])
      refine w_ForN n (fun c ρ M' => (∃ l, ρ = 250 :: ((c : Nat) : Int) :: l) ∧ (∀ b j, ¬ (b = 250 ∧ (j = 40 ∨ j = 66)) → M' b j = M2 b j) ∧ rZf M' (if zex (fun p => decide (uo Z p = 999)) c = true then min G (8 * s + 6) else G)) ⟨⟨_, rfl⟩, f3, z3⟩ ?_ ?_
      · rintro c ρ M4 X4 hc ⟨⟨l4, rfl⟩, f4, z4⟩ hX4
        have o4 : M4 ((302 : Nat) : Int) ((c : Nat) : Int) = uoI (uo Z c) := by rw [f4 _ _ (by omega)]; exact (hZ2.2.1 c (by omega)).1
        have n4 : M4 250 ((1 : Nat) : Int) = ((n : Nat) : Int) := by rw [f4 _ _ (by omega)]; exact hX2.2.1
        have s4 : M4 250 ((33 : Nat) : Int) = ((s : Nat) : Int) := by rw [f4 _ _ (by omega), f2 _ _ (by omega)]; exact ht
        have hFc := hFs c
        have hX5 : ∀ (l : zLoc) (M' : zMem), (∀ b j, ¬ (b = 250 ∧ (j = 40 ∨ j = 66)) → M' b j = M2 b j) → rZf M' (if (zex (fun p => decide (uo Z p = 999)) c || decide (uo Z c = 999)) = true then min G (8 * s + 6) else G) → X4 (250 :: ((c + 1 : Nat) : Int) :: l) M' := fun l M' u v => hX4 _ _ ⟨⟨l, rfl⟩, u, by rw [zex_su]; exact v⟩
        clear hX4 hend
        generalize zex (fun p => decide (uo Z p = 999)) c = ex at z4 hFc hX5
        by_cases e : uo Z c = 999
        · have o4' : M4 ((302 : Nat) : Int) ((c : Nat) : Int) = -1 := by rw [o4, e]; rfl
          rw [decide_eq_true e, Bool.or_true, if_pos rfl] at hX5
          ((with_reducible refine i_turn (i_cI_lt (i_L1 (i_F (i_A0 ?_))))); (with_reducible refine i_fld (by assumption) ?_); (rw [n4]); (with_reducible refine i_t (by omega) ?_); (with_reducible refine i_If (i_cZ_lt (i_IA (i_FR (i_A0 ?_))))); (with_reducible refine i_fldR (by assumption) ?_); (with_reducible refine i_L1 ?_); (with_reducible refine i_in (by assumption) (by omega) (by omega) ?_); (rw [o4']); (with_reducible refine i_t (by omega) ?_); (with_reducible refine i_sCall (i_as1 (i_A0 (i_as1 (i_I (i_as1 (i_F (i_A0 ?_)))))))); (with_reducible refine i_fld (by assumption) ?_); (with_reducible refine i_as0 ?_); (with_reducible refine i_recv0 (by assumption) ?_); (rw [s4]))
          refine m_tells hO hS (f := 6) rfl z4 hFc (by decide) (by decide) hs (fun M5 f5 z5 => ⟨rfl, ?_⟩)
          ((with_reducible refine i_up (i_Inc1 ?_)); rw [zx_inc (by omega)]; simp only [w_set0, w_set1, w_setn0, w_setn1])
          refine hX5 _ M5 (fun b j q => by rw [f5 b j q, f4 b j q]) ?_
          cases ex
          · exact z5
          · rw [if_pos rfl] at z5
            rw [show min G (8 * s + 6) = min (min G (8 * s + 6)) (8 * s + 6) by omega]
            exact z5
        · have o4' : M4 ((302 : Nat) : Int) ((c : Nat) : Int) = ((uo Z c : Nat) : Int) := by rw [o4]; exact if_neg e
          rw [decide_eq_false e, Bool.or_false] at hX5
          ((with_reducible refine i_turn (i_cI_lt (i_L1 (i_F (i_A0 ?_))))); (with_reducible refine i_fld (by assumption) ?_); (rw [n4]); (with_reducible refine i_t (by omega) ?_); (with_reducible refine i_If (i_cZ_lt (i_IA (i_FR (i_A0 ?_))))); (with_reducible refine i_fldR (by assumption) ?_); (with_reducible refine i_L1 ?_); (with_reducible refine i_in (by assumption) (by omega) (by omega) ?_); (rw [o4']); (with_reducible refine i_f (by omega) ?_); (with_reducible refine i_up (i_Inc1 ?_)); rw [zx_inc (by omega)]; simp only [w_set0, w_set1, w_setn0, w_setn1])
          exact hX5 _ M4 f4 z4
      · rintro ρ M4 X4 ⟨⟨l4, rfl⟩, f4, z4⟩
        have n4 : M4 250 ((1 : Nat) : Int) = ((n : Nat) : Int) := by rw [f4 _ _ (by omega)]; exact hX2.2.1
        ((with_reducible refine i_turn (i_cI_lt (i_L1 (i_F (i_A0 ?_))))); (with_reducible refine i_fld (by assumption) ?_); (rw [n4]); (with_reducible refine i_f (by omega) ?_); (with_reducible refine i_RetV ?_))
        exact hend M4 f4 z4
