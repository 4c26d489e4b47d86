/-! ===== the bound: the reference ===== -/
set_option maxHeartbeats 4000000 in
theorem m_leaves {O : zOm} (hO : zWld O) (hS : zS O = zmS zC0) {from' m : Nat} {f : Nat → Nat} {T : Nat → Nat → Bool} {M : zMem} {K : Option zV → zMem → Prop} (hm : from' + m ≤ 16) (hT : rMx M 251 T) (hl : rLab M m f) (hf : ∀ q, q < m → f q < 100)
    (hk : K (some (0, ((zlv m f (zsh T from') m : Nat) : Int))) M) : zR O F_Model_leaves [(2, 250), (0, ((from' : Nat) : Int)), (0, ((m : Nat) : Int))] M K := by
  apply r_Model_leaves hO
  unfold B_Model_leaves
  have f26 := zMF (k := 26) hS rfl; have a272 := zMA (a := 272) (ty := .int) (n := 16) hS rfl; have f2 := zMF (k := 2) hS rfl; have a251 := zMA (a := 251) (ty := .boolean) (n := 256) hS rfl; have zo := zMO hS
  ((with_reducible refine i_Seq (i_Set (i_I (i_Seq (i_Blk (i_Seq (i_Set (i_I ?_)))))))); simp only [w_set0, w_set1, w_setn0, w_setn1])
  have hm16 : m ≤ 16 := by omega
  refine w_ForN m (fun i ρ M' => (∃ l, ρ = 250 :: ((from' : Nat) : Int) :: ((m : Nat) : Int) :: ((zsum (fun i => zsum (fun d => zmo m f (zsh T from') i (i + d)) (m - i)) i : Nat) : Int) :: ((i : Nat) : Int) :: l) ∧ M' = M) ⟨⟨_, rfl⟩, rfl⟩ ?_ ?_
  · rintro i ρ M1 X hi ⟨⟨l, rfl⟩, rfl⟩ hX
    have hcap := zlv_le (m := m) (B := m) hm16 hm16 f (zsh T from') i (by omega)
    have hX1 : ∀ (l : zLoc) (c : Nat), c = zsum (fun i => zsum (fun d => zmo m f (zsh T from') i (i + d)) (m - i)) i + zsum (fun d => zmo m f (zsh T from') i (i + d)) (m - i) → X (250 :: ((from' : Nat) : Int) :: ((m : Nat) : Int) :: ((c : Nat) : Int) :: ((i + 1 : Nat) : Int) :: l) M1 := fun l c hc => by subst hc; exact hX _ _ ⟨⟨l, rfl⟩, rfl⟩
    clear hX
    generalize zsum (fun i => zsum (fun d => zmo m f (zsh T from') i (i + d)) (m - i)) i = c0 at hcap hX1 ⊢
    ((with_reducible refine i_turn (i_cI_lt (i_L4 (i_L2 ?_)))); (with_reducible refine i_t (by omega) ?_); (with_reducible refine i_Blk (i_Seq (i_Set (i_L4 ?_)))); simp only [w_set0, w_set1, w_setn0, w_setn1]; rw [w_setT])
    refine w_ForN (m - i) (fun d ρ M' => (∃ l, ρ = 250 :: ((from' : Nat) : Int) :: ((m : Nat) : Int) :: ((c0 + zsum (fun d => zmo m f (zsh T from') i (i + d)) d : Nat) : Int) :: ((i : Nat) : Int) :: ((i + d : Nat) : Int) :: l) ∧ M' = M1) ⟨⟨_, rfl⟩, rfl⟩ ?_ ?_
    · rintro d ρ M2 X2 hd ⟨⟨l2, rfl⟩, rfl⟩ hX2
      have hc1 := zsum_cap (f := fun d => zmo m f (zsh T from') i (i + d)) (c := 120) (fun d => zmo_le hm16 _ _ _ _) d
      have hc2 : d * 120 ≤ 16 * 120 := Nat.mul_le_mul_right _ (by omega)
      have hX3 : ∀ (l : zLoc) (c : Nat), c = zsum (fun d => zmo m f (zsh T from') i (i + d)) d + zmo m f (zsh T from') i (i + d) → X2 (250 :: ((from' : Nat) : Int) :: ((m : Nat) : Int) :: ((c0 + c : Nat) : Int) :: ((i : Nat) : Int) :: ((i + d + 1 : Nat) : Int) :: l) M2 := fun l c hc => by subst hc; exact hX2 _ _ ⟨⟨l, rfl⟩, rfl⟩
      clear hX2
      generalize zsum (fun d => zmo m f (zsh T from') i (i + d)) d = c1 at hc1 hX3 ⊢
      have hzle := zmo_le hm16 f (zsh T from') i (i + d)
      have hjm : i + d < m := by omega
      unfold zmo at hX3 hzle
      generalize i + d = j at hX3 hzle hjm ⊢
      ((with_reducible refine i_turn (i_cI_lt (i_L5 (i_L2 ?_)))); (with_reducible refine i_t (by omega) ?_); (with_reducible refine i_Blk (i_Seq (i_Set (i_I (i_Seq (i_Set (i_I (i_Seq (i_Blk (i_Seq (i_Set (i_I ?_)))))))))))); simp only [w_set0, w_set1, w_setn0, w_setn1]; rw [w_setT]; simp only [w_set0, w_set1, w_setn0, w_setn1]; rw [w_setT]; simp only [w_set0, w_set1, w_setn0, w_setn1]; rw [w_setT])
      refine w_ForN m (fun a ρ M' => (∃ l, ρ = 250 :: ((from' : Nat) : Int) :: ((m : Nat) : Int) :: ((c0 + c1 : Nat) : Int) :: ((i : Nat) : Int) :: ((j : Nat) : Int) :: ((zop (fun a b => zky f i j a b && zsh T from' a b) m a 0 : Nat) : Int) :: ((zop (fun a b => zky f i j a b && !zsh T from' a b) m a 0 : Nat) : Int) :: ((a : Nat) : Int) :: l) ∧ M' = M2) ⟨⟨_, rfl⟩, rfl⟩ ?_ ?_
      · rintro a ρ M3 X3 ha ⟨⟨l3, rfl⟩, rfl⟩ hX4
        ((with_reducible refine i_turn (i_cI_lt (i_L8 (i_L2 ?_)))); (with_reducible refine i_t (by omega) ?_); (with_reducible refine i_Blk (i_Seq (i_Set (i_Add (i_L8 (i_I ?_)))))); rw [zx_inc (by omega)]; simp only [w_set0, w_set1, w_setn0, w_setn1]; rw [w_setT])
        refine w_ForN (m - (a + 1)) (fun e ρ M' => (∃ l, ρ = 250 :: ((from' : Nat) : Int) :: ((m : Nat) : Int) :: ((c0 + c1 : Nat) : Int) :: ((i : Nat) : Int) :: ((j : Nat) : Int) :: ((zop (fun a b => zky f i j a b && zsh T from' a b) m a (a + 1 + e) : Nat) : Int) :: ((zop (fun a b => zky f i j a b && !zsh T from' a b) m a (a + 1 + e) : Nat) : Int) :: ((a : Nat) : Int) :: ((a + 1 + e : Nat) : Int) :: l) ∧ M' = M3) ⟨⟨_, by rw [zop_row, zop_row]⟩, rfl⟩ ?_ ?_
        · rintro e ρ M4 X4 he ⟨⟨l4, rfl⟩, rfl⟩ hX5
          have hle1 := zop_le (fun a b => zky f i j a b && zsh T from' a b) hm16 (a := a) (b := a + 1 + e) (by omega) (by omega)
          have hle2 := zop_le (fun a b => zky f i j a b && !zsh T from' a b) hm16 (a := a) (b := a + 1 + e) (by omega) (by omega)
          have hX6 : ∀ (l : zLoc) (x y : Nat), x = zop (fun a b => zky f i j a b && zsh T from' a b) m a (a + 1 + e + 1) → y = zop (fun a b => zky f i j a b && !zsh T from' a b) m a (a + 1 + e + 1) → X4 (250 :: ((from' : Nat) : Int) :: ((m : Nat) : Int) :: ((c0 + c1 : Nat) : Int) :: ((i : Nat) : Int) :: ((j : Nat) : Int) :: ((x : Nat) : Int) :: ((y : Nat) : Int) :: ((a : Nat) : Int) :: ((a + 1 + e + 1 : Nat) : Int) :: l) M4 := fun l x y h1 h2 => by subst h1; subst h2; exact hX5 _ _ ⟨⟨l, rfl⟩, rfl⟩
          rw [zop_su _ (by omega), zop_su _ (by omega)] at hX6
          clear hX5
          have hb : a + 1 + e < m := by omega
          have hu : zop (fun a b => zky f i j a b && zsh T from' a b) m a (a + 1 + e) < 1000 := by omega
          have hv' : zop (fun a b => zky f i j a b && !zsh T from' a b) m a (a + 1 + e) < 1000 := by omega
          generalize zop (fun a b => zky f i j a b && zsh T from' a b) m a (a + 1 + e) = u at hle1 hu hX6 ⊢
          generalize zop (fun a b => zky f i j a b && !zsh T from' a b) m a (a + 1 + e) = v at hle2 hv' hX6 ⊢
          generalize a + 1 + e = b at hb hX6 ⊢
          have ga := hl a ha
          have gb := hl b hb
          have ha2 := hf a ha
          have hb2 := hf b hb
          have gT : M4 ((251 : Nat) : Int) ((16 * (from' + a) + from' + b : Nat) : Int) = zbI (zsh T from' a b) := by
            have := hT (from' + a) (from' + b) (by omega) (by omega)
            rw [show 16 * (from' + a) + (from' + b) = 16 * (from' + a) + from' + b by omega] at this
            exact this
          have hX7 : ∀ (l : zLoc) (kk tt : Bool), zky f i j a b = kk → zsh T from' a b = tt → X4 (250 :: ((from' : Nat) : Int) :: ((m : Nat) : Int) :: ((c0 + c1 : Nat) : Int) :: ((i : Nat) : Int) :: ((j : Nat) : Int) :: ((u + (if (kk && tt) = true then 1 else 0) : Nat) : Int) :: ((v + (if (kk && !tt) = true then 1 else 0) : Nat) : Int) :: ((a : Nat) : Int) :: ((b + 1 : Nat) : Int) :: l) M4 := fun l kk tt h1 h2 => by subst h1; subst h2; exact hX6 _ _ _ rfl rfl
          clear hX6
          generalize zsh T from' a b = tt at gT hX7
          clear hle1 hle2 hcap hc1 hc2 hzle hT hl hf
          by_cases e1 : f a = i
          · by_cases e2 : f b = j
            · have hkey : zky f i j a b = true := decide_eq_true (Or.inl ⟨e1, e2⟩)
              cases tt
              all_goals
                (first | (((with_reducible refine i_turn (i_cI_lt (i_L9 (i_L2 ?_)))); (with_reducible refine i_t (by omega) ?_); (with_reducible refine i_Blk (i_Seq (i_Set (i_eIf (i_cOr (i_cAnd (i_cI_eq (i_IA (i_FR (i_A0 ?_)))))))))); (with_reducible refine i_fldR (by assumption) ?_); (with_reducible refine i_L8 ?_); (with_reducible refine i_in (by assumption) (by omega) (by omega) ?_); (with_reducible refine i_L4 ?_); (rw [ga]); (with_reducible refine i_t (by omega) ?_); (with_reducible refine i_cI_eq (i_IA (i_FR (i_A0 ?_)))); (with_reducible refine i_fldR (by assumption) ?_); (with_reducible refine i_L9 ?_); (with_reducible refine i_in (by assumption) (by omega) (by omega) ?_); (with_reducible refine i_L5 ?_); (rw [gb]); (with_reducible refine i_t (by omega) ?_); (with_reducible refine i_I (i_Seq (i_If (i_cAnd (i_cZ_ne ?_))))); simp only [w_set0, w_set1, w_setn0, w_setn1]; rw [w_setT]; (with_reducible refine i_L10 ?_); (with_reducible refine i_t (by omega) ?_); (with_reducible refine i_cZ_ne (i_ZA (i_FR (i_A0 ?_)))); (with_reducible refine i_fldR (by assumption) ?_); (with_reducible refine i_Add (i_Add (i_Mul (i_I (i_Add (i_L1 (i_L8 (i_L1 (i_L9 ?_))))))))); rw [zx_add (by omega)]; rw [zx_cmul (by omega)]; rw [zx_add (by omega)]; rw [zx_add (by omega)]; (with_reducible refine i_in (by assumption) (by omega) (by omega) ?_); (rw [gT]); rw [zbI_f]; (with_reducible refine i_f (by omega) ?_); (with_reducible refine i_If (i_cAnd (i_cZ_ne (i_L10 ?_)))); (with_reducible refine i_t (by omega) ?_); (with_reducible refine i_cNot (i_cZ_ne (i_ZA (i_FR (i_A0 ?_))))); (with_reducible refine i_fldR (by assumption) ?_); (with_reducible refine i_Add (i_Add (i_Mul (i_I (i_Add (i_L1 (i_L8 (i_L1 (i_L9 ?_))))))))); rw [zx_add (by omega)]; rw [zx_cmul (by omega)]; rw [zx_add (by omega)]; rw [zx_add (by omega)]; (with_reducible refine i_in (by assumption) (by omega) (by omega) ?_); (rw [gT]); rw [zbI_f]; (with_reducible refine i_f (by omega) ?_); (with_reducible refine i_Inc7 (i_up ?_)); rw [zx_inc (by omega)]; simp only [w_set0, w_set1, w_setn0, w_setn1]; (with_reducible refine i_Inc9 ?_); rw [zx_inc (by omega)]; simp only [w_set0, w_set1, w_setn0, w_setn1])) | (((with_reducible refine i_turn (i_cI_lt (i_L9 (i_L2 ?_)))); (with_reducible refine i_t (by omega) ?_); (with_reducible refine i_Blk (i_Seq (i_Set (i_eIf (i_cOr (i_cAnd (i_cI_eq (i_IA (i_FR (i_A0 ?_)))))))))); (with_reducible refine i_fldR (by assumption) ?_); (with_reducible refine i_L8 ?_); (with_reducible refine i_in (by assumption) (by omega) (by omega) ?_); (with_reducible refine i_L4 ?_); (rw [ga]); (with_reducible refine i_t (by omega) ?_); (with_reducible refine i_cI_eq (i_IA (i_FR (i_A0 ?_)))); (with_reducible refine i_fldR (by assumption) ?_); (with_reducible refine i_L9 ?_); (with_reducible refine i_in (by assumption) (by omega) (by omega) ?_); (with_reducible refine i_L5 ?_); (rw [gb]); (with_reducible refine i_t (by omega) ?_); (with_reducible refine i_I (i_Seq (i_If (i_cAnd (i_cZ_ne ?_))))); simp only [w_set0, w_set1, w_setn0, w_setn1]; rw [w_setT]; (with_reducible refine i_L10 ?_); (with_reducible refine i_t (by omega) ?_); (with_reducible refine i_cZ_ne (i_ZA (i_FR (i_A0 ?_)))); (with_reducible refine i_fldR (by assumption) ?_); (with_reducible refine i_Add (i_Add (i_Mul (i_I (i_Add (i_L1 (i_L8 (i_L1 (i_L9 ?_))))))))); rw [zx_add (by omega)]; rw [zx_cmul (by omega)]; rw [zx_add (by omega)]; rw [zx_add (by omega)]; (with_reducible refine i_in (by assumption) (by omega) (by omega) ?_); (rw [gT]); rw [zbI_t]; (with_reducible refine i_t (by omega) ?_); (with_reducible refine i_Inc6 (i_If (i_cAnd (i_cZ_ne ?_)))); rw [zx_inc (by omega)]; simp only [w_set0, w_set1, w_setn0, w_setn1]; (with_reducible refine i_L10 ?_); (with_reducible refine i_t (by omega) ?_); (with_reducible refine i_cNot (i_cZ_ne (i_ZA (i_FR (i_A0 ?_))))); (with_reducible refine i_fldR (by assumption) ?_); (with_reducible refine i_Add (i_Add (i_Mul (i_I (i_Add (i_L1 (i_L8 (i_L1 (i_L9 ?_))))))))); rw [zx_add (by omega)]; rw [zx_cmul (by omega)]; rw [zx_add (by omega)]; rw [zx_add (by omega)]; (with_reducible refine i_in (by assumption) (by omega) (by omega) ?_); (rw [gT]); rw [zbI_t]; (with_reducible refine i_t (by omega) ?_); (with_reducible refine i_up (i_Inc9 ?_)); rw [zx_inc (by omega)]; simp only [w_set0, w_set1, w_setn0, w_setn1])))
                exact hX7 _ true _ hkey rfl
            · have hkey : zky f i j a b = false := decide_eq_false (by omega)
              have hX8 := fun l => hX7 l false _ hkey rfl
              by_cases e3 : i = j
              all_goals
                (first | (((with_reducible refine i_turn (i_cI_lt (i_L9 (i_L2 ?_)))); (with_reducible refine i_t (by omega) ?_); (with_reducible refine i_Blk (i_Seq (i_Set (i_eIf (i_cOr (i_cAnd (i_cI_eq (i_IA (i_FR (i_A0 ?_)))))))))); (with_reducible refine i_fldR (by assumption) ?_); (with_reducible refine i_L8 ?_); (with_reducible refine i_in (by assumption) (by omega) (by omega) ?_); (with_reducible refine i_L4 ?_); (rw [ga]); (with_reducible refine i_t (by omega) ?_); (with_reducible refine i_cI_eq (i_IA (i_FR (i_A0 ?_)))); (with_reducible refine i_fldR (by assumption) ?_); (with_reducible refine i_L9 ?_); (with_reducible refine i_in (by assumption) (by omega) (by omega) ?_); (with_reducible refine i_L5 ?_); (rw [gb]); (with_reducible refine i_f (by omega) ?_); (with_reducible refine i_cAnd (i_cI_eq (i_IA (i_FR (i_A0 ?_))))); (with_reducible refine i_fldR (by assumption) ?_); (with_reducible refine i_L8 ?_); (with_reducible refine i_in (by assumption) (by omega) (by omega) ?_); (with_reducible refine i_L5 ?_); (rw [ga]); (with_reducible refine i_t (by omega) ?_); (with_reducible refine i_cI_eq (i_IA (i_FR (i_A0 ?_)))); (with_reducible refine i_fldR (by assumption) ?_); (with_reducible refine i_L9 ?_); (with_reducible refine i_in (by assumption) (by omega) (by omega) ?_); (with_reducible refine i_L4 ?_); (rw [gb]); (with_reducible refine i_f (by omega) ?_); (with_reducible refine i_I (i_Seq (i_If (i_cAnd (i_cZ_ne ?_))))); simp only [w_set0, w_set1, w_setn0, w_setn1]; rw [w_setT]; (with_reducible refine i_L10 ?_); (with_reducible refine i_f (by omega) ?_); (with_reducible refine i_If (i_cAnd (i_cZ_ne (i_L10 ?_)))); (with_reducible refine i_f (by omega) ?_); (with_reducible refine i_up (i_Inc9 ?_)); rw [zx_inc (by omega)]; simp only [w_set0, w_set1, w_setn0, w_setn1])) | (((with_reducible refine i_turn (i_cI_lt (i_L9 (i_L2 ?_)))); (with_reducible refine i_t (by omega) ?_); (with_reducible refine i_Blk (i_Seq (i_Set (i_eIf (i_cOr (i_cAnd (i_cI_eq (i_IA (i_FR (i_A0 ?_)))))))))); (with_reducible refine i_fldR (by assumption) ?_); (with_reducible refine i_L8 ?_); (with_reducible refine i_in (by assumption) (by omega) (by omega) ?_); (with_reducible refine i_L4 ?_); (rw [ga]); (with_reducible refine i_t (by omega) ?_); (with_reducible refine i_cI_eq (i_IA (i_FR (i_A0 ?_)))); (with_reducible refine i_fldR (by assumption) ?_); (with_reducible refine i_L9 ?_); (with_reducible refine i_in (by assumption) (by omega) (by omega) ?_); (with_reducible refine i_L5 ?_); (rw [gb]); (with_reducible refine i_f (by omega) ?_); (with_reducible refine i_cAnd (i_cI_eq (i_IA (i_FR (i_A0 ?_))))); (with_reducible refine i_fldR (by assumption) ?_); (with_reducible refine i_L8 ?_); (with_reducible refine i_in (by assumption) (by omega) (by omega) ?_); (with_reducible refine i_L5 ?_); (rw [ga]); (with_reducible refine i_f (by omega) ?_); (with_reducible refine i_I (i_Seq (i_If (i_cAnd (i_cZ_ne ?_))))); simp only [w_set0, w_set1, w_setn0, w_setn1]; rw [w_setT]; (with_reducible refine i_L10 ?_); (with_reducible refine i_f (by omega) ?_); (with_reducible refine i_If (i_cAnd (i_cZ_ne (i_L10 ?_)))); (with_reducible refine i_f (by omega) ?_); (with_reducible refine i_up (i_Inc9 ?_)); rw [zx_inc (by omega)]; simp only [w_set0, w_set1, w_setn0, w_setn1])))
                exact hX8 _
          · by_cases e3 : f a = j
            · by_cases e4 : f b = i
              · have hkey : zky f i j a b = true := decide_eq_true (Or.inr ⟨e3, e4⟩)
                cases tt
                all_goals
                  (first | (((with_reducible refine i_turn (i_cI_lt (i_L9 (i_L2 ?_)))); (with_reducible refine i_t (by omega) ?_); (with_reducible refine i_Blk (i_Seq (i_Set (i_eIf (i_cOr (i_cAnd (i_cI_eq (i_IA (i_FR (i_A0 ?_)))))))))); (with_reducible refine i_fldR (by assumption) ?_); (with_reducible refine i_L8 ?_); (with_reducible refine i_in (by assumption) (by omega) (by omega) ?_); (with_reducible refine i_L4 ?_); (rw [ga]); (with_reducible refine i_f (by omega) ?_); (with_reducible refine i_cAnd (i_cI_eq (i_IA (i_FR (i_A0 ?_))))); (with_reducible refine i_fldR (by assumption) ?_); (with_reducible refine i_L8 ?_); (with_reducible refine i_in (by assumption) (by omega) (by omega) ?_); (with_reducible refine i_L5 ?_); (rw [ga]); (with_reducible refine i_t (by omega) ?_); (with_reducible refine i_cI_eq (i_IA (i_FR (i_A0 ?_)))); (with_reducible refine i_fldR (by assumption) ?_); (with_reducible refine i_L9 ?_); (with_reducible refine i_in (by assumption) (by omega) (by omega) ?_); (with_reducible refine i_L4 ?_); (rw [gb]); (with_reducible refine i_t (by omega) ?_); (with_reducible refine i_I (i_Seq (i_If (i_cAnd (i_cZ_ne ?_))))); simp only [w_set0, w_set1, w_setn0, w_setn1]; rw [w_setT]; (with_reducible refine i_L10 ?_); (with_reducible refine i_t (by omega) ?_); (with_reducible refine i_cZ_ne (i_ZA (i_FR (i_A0 ?_)))); (with_reducible refine i_fldR (by assumption) ?_); (with_reducible refine i_Add (i_Add (i_Mul (i_I (i_Add (i_L1 (i_L8 (i_L1 (i_L9 ?_))))))))); rw [zx_add (by omega)]; rw [zx_cmul (by omega)]; rw [zx_add (by omega)]; rw [zx_add (by omega)]; (with_reducible refine i_in (by assumption) (by omega) (by omega) ?_); (rw [gT]); rw [zbI_f]; (with_reducible refine i_f (by omega) ?_); (with_reducible refine i_If (i_cAnd (i_cZ_ne (i_L10 ?_)))); (with_reducible refine i_t (by omega) ?_); (with_reducible refine i_cNot (i_cZ_ne (i_ZA (i_FR (i_A0 ?_))))); (with_reducible refine i_fldR (by assumption) ?_); (with_reducible refine i_Add (i_Add (i_Mul (i_I (i_Add (i_L1 (i_L8 (i_L1 (i_L9 ?_))))))))); rw [zx_add (by omega)]; rw [zx_cmul (by omega)]; rw [zx_add (by omega)]; rw [zx_add (by omega)]; (with_reducible refine i_in (by assumption) (by omega) (by omega) ?_); (rw [gT]); rw [zbI_f]; (with_reducible refine i_f (by omega) ?_); (with_reducible refine i_Inc7 (i_up ?_)); rw [zx_inc (by omega)]; simp only [w_set0, w_set1, w_setn0, w_setn1]; (with_reducible refine i_Inc9 ?_); rw [zx_inc (by omega)]; simp only [w_set0, w_set1, w_setn0, w_setn1])) | (((with_reducible refine i_turn (i_cI_lt (i_L9 (i_L2 ?_)))); (with_reducible refine i_t (by omega) ?_); (with_reducible refine i_Blk (i_Seq (i_Set (i_eIf (i_cOr (i_cAnd (i_cI_eq (i_IA (i_FR (i_A0 ?_)))))))))); (with_reducible refine i_fldR (by assumption) ?_); (with_reducible refine i_L8 ?_); (with_reducible refine i_in (by assumption) (by omega) (by omega) ?_); (with_reducible refine i_L4 ?_); (rw [ga]); (with_reducible refine i_f (by omega) ?_); (with_reducible refine i_cAnd (i_cI_eq (i_IA (i_FR (i_A0 ?_))))); (with_reducible refine i_fldR (by assumption) ?_); (with_reducible refine i_L8 ?_); (with_reducible refine i_in (by assumption) (by omega) (by omega) ?_); (with_reducible refine i_L5 ?_); (rw [ga]); (with_reducible refine i_t (by omega) ?_); (with_reducible refine i_cI_eq (i_IA (i_FR (i_A0 ?_)))); (with_reducible refine i_fldR (by assumption) ?_); (with_reducible refine i_L9 ?_); (with_reducible refine i_in (by assumption) (by omega) (by omega) ?_); (with_reducible refine i_L4 ?_); (rw [gb]); (with_reducible refine i_t (by omega) ?_); (with_reducible refine i_I (i_Seq (i_If (i_cAnd (i_cZ_ne ?_))))); simp only [w_set0, w_set1, w_setn0, w_setn1]; rw [w_setT]; (with_reducible refine i_L10 ?_); (with_reducible refine i_t (by omega) ?_); (with_reducible refine i_cZ_ne (i_ZA (i_FR (i_A0 ?_)))); (with_reducible refine i_fldR (by assumption) ?_); (with_reducible refine i_Add (i_Add (i_Mul (i_I (i_Add (i_L1 (i_L8 (i_L1 (i_L9 ?_))))))))); rw [zx_add (by omega)]; rw [zx_cmul (by omega)]; rw [zx_add (by omega)]; rw [zx_add (by omega)]; (with_reducible refine i_in (by assumption) (by omega) (by omega) ?_); (rw [gT]); rw [zbI_t]; (with_reducible refine i_t (by omega) ?_); (with_reducible refine i_Inc6 (i_If (i_cAnd (i_cZ_ne ?_)))); rw [zx_inc (by omega)]; simp only [w_set0, w_set1, w_setn0, w_setn1]; (with_reducible refine i_L10 ?_); (with_reducible refine i_t (by omega) ?_); (with_reducible refine i_cNot (i_cZ_ne (i_ZA (i_FR (i_A0 ?_))))); (with_reducible refine i_fldR (by assumption) ?_); (with_reducible refine i_Add (i_Add (i_Mul (i_I (i_Add (i_L1 (i_L8 (i_L1 (i_L9 ?_))))))))); rw [zx_add (by omega)]; rw [zx_cmul (by omega)]; rw [zx_add (by omega)]; rw [zx_add (by omega)]; (with_reducible refine i_in (by assumption) (by omega) (by omega) ?_); (rw [gT]); rw [zbI_t]; (with_reducible refine i_t (by omega) ?_); (with_reducible refine i_up (i_Inc9 ?_)); rw [zx_inc (by omega)]; simp only [w_set0, w_set1, w_setn0, w_setn1])))
                  exact hX7 _ true _ hkey rfl
              · have hkey : zky f i j a b = false := decide_eq_false (by omega)
                have hX8 := fun l => hX7 l false _ hkey rfl
                ((with_reducible refine i_turn (i_cI_lt (i_L9 (i_L2 ?_)))); (with_reducible refine i_t (by omega) ?_); (with_reducible refine i_Blk (i_Seq (i_Set (i_eIf (i_cOr (i_cAnd (i_cI_eq (i_IA (i_FR (i_A0 ?_)))))))))); (with_reducible refine i_fldR (by assumption) ?_); (with_reducible refine i_L8 ?_); (with_reducible refine i_in (by assumption) (by omega) (by omega) ?_); (with_reducible refine i_L4 ?_); (rw [ga]); (with_reducible refine i_f (by omega) ?_); (with_reducible refine i_cAnd (i_cI_eq (i_IA (i_FR (i_A0 ?_))))); (with_reducible refine i_fldR (by assumption) ?_); (with_reducible refine i_L8 ?_); (with_reducible refine i_in (by assumption) (by omega) (by omega) ?_); (with_reducible refine i_L5 ?_); (rw [ga]); (with_reducible refine i_t (by omega) ?_); (with_reducible refine i_cI_eq (i_IA (i_FR (i_A0 ?_)))); (with_reducible refine i_fldR (by assumption) ?_); (with_reducible refine i_L9 ?_); (with_reducible refine i_in (by assumption) (by omega) (by omega) ?_); (with_reducible refine i_L4 ?_); (rw [gb]); (with_reducible refine i_f (by omega) ?_); (with_reducible refine i_I (i_Seq (i_If (i_cAnd (i_cZ_ne ?_))))); simp only [w_set0, w_set1, w_setn0, w_setn1]; rw [w_setT]; (with_reducible refine i_L10 ?_); (with_reducible refine i_f (by omega) ?_); (with_reducible refine i_If (i_cAnd (i_cZ_ne (i_L10 ?_)))); (with_reducible refine i_f (by omega) ?_); (with_reducible refine i_up (i_Inc9 ?_)); rw [zx_inc (by omega)]; simp only [w_set0, w_set1, w_setn0, w_setn1])
                exact hX8 _
            · have hkey : zky f i j a b = false := decide_eq_false (by omega)
              have hX8 := fun l => hX7 l false _ hkey rfl
              ((with_reducible refine i_turn (i_cI_lt (i_L9 (i_L2 ?_)))); (with_reducible refine i_t (by omega) ?_); (with_reducible refine i_Blk (i_Seq (i_Set (i_eIf (i_cOr (i_cAnd (i_cI_eq (i_IA (i_FR (i_A0 ?_)))))))))); (with_reducible refine i_fldR (by assumption) ?_); (with_reducible refine i_L8 ?_); (with_reducible refine i_in (by assumption) (by omega) (by omega) ?_); (with_reducible refine i_L4 ?_); (rw [ga]); (with_reducible refine i_f (by omega) ?_); (with_reducible refine i_cAnd (i_cI_eq (i_IA (i_FR (i_A0 ?_))))); (with_reducible refine i_fldR (by assumption) ?_); (with_reducible refine i_L8 ?_); (with_reducible refine i_in (by assumption) (by omega) (by omega) ?_); (with_reducible refine i_L5 ?_); (rw [ga]); (with_reducible refine i_f (by omega) ?_); (with_reducible refine i_I (i_Seq (i_If (i_cAnd (i_cZ_ne ?_))))); simp only [w_set0, w_set1, w_setn0, w_setn1]; rw [w_setT]; (with_reducible refine i_L10 ?_); (with_reducible refine i_f (by omega) ?_); (with_reducible refine i_If (i_cAnd (i_cZ_ne (i_L10 ?_)))); (with_reducible refine i_f (by omega) ?_); (with_reducible refine i_up (i_Inc9 ?_)); rw [zx_inc (by omega)]; simp only [w_set0, w_set1, w_setn0, w_setn1])
              exact hX8 _
        · rintro ρ M4 X4 ⟨⟨l4, rfl⟩, rfl⟩
          rw [show a + 1 + (m - (a + 1)) = m by omega, zop_nx, zop_nx]
          ((with_reducible refine i_turn (i_cI_lt (i_L9 (i_L2 ?_)))); (with_reducible refine i_f (by omega) ?_); (with_reducible refine i_up (i_Inc8 ?_)); rw [zx_inc (by omega)]; simp only [w_set0, w_set1, w_setn0, w_setn1])
          exact hX4 _ _ ⟨⟨_, rfl⟩, rfl⟩
      · rintro ρ M3 X3 ⟨⟨l3, rfl⟩, rfl⟩
        rw [zop_end, zop_end]
        have h1 := zp2_le (fun a b => zky f i j a b && zsh T from' a b) hm16
        have h2 := zp2_le (fun a b => zky f i j a b && !zsh T from' a b) hm16
        have hX4 : ∀ (l : zLoc) (c : Nat), c = c1 + min (zon m f (zsh T from') i j) (zof m f (zsh T from') i j) → X2 (250 :: ((from' : Nat) : Int) :: ((m : Nat) : Int) :: ((c0 + c : Nat) : Int) :: ((i : Nat) : Int) :: ((j + 1 : Nat) : Int) :: l) M3 := fun l c hc => hX3 l c hc
        unfold zon zof at hX4
        clear hX3
        generalize zp2 (fun a b => zky f i j a b && zsh T from' a b) m = x at h1 hX4 ⊢
        generalize zp2 (fun a b => zky f i j a b && !zsh T from' a b) m = y at h2 hX4 ⊢
        by_cases w : x < y
        · ((with_reducible refine i_turn (i_cI_lt (i_L8 (i_L2 ?_)))); (with_reducible refine i_f (by omega) ?_); (with_reducible refine i_Set (i_Add (i_L3 (i_eIf (i_cI_lt (i_L6 (i_L7 ?_))))))); (with_reducible refine i_t (by omega) ?_); (with_reducible refine i_L6 (i_up ?_)); rw [zx_add (by omega)]; simp only [w_set0, w_set1, w_setn0, w_setn1]; (with_reducible refine i_Inc5 ?_); rw [zx_inc (by omega)]; simp only [w_set0, w_set1, w_setn0, w_setn1])
          rw [Nat.add_assoc]
          exact hX4 _ _ (by omega)
        · ((with_reducible refine i_turn (i_cI_lt (i_L8 (i_L2 ?_)))); (with_reducible refine i_f (by omega) ?_); (with_reducible refine i_Set (i_Add (i_L3 (i_eIf (i_cI_lt (i_L6 (i_L7 ?_))))))); (with_reducible refine i_f (by omega) ?_); (with_reducible refine i_L7 (i_up ?_)); rw [zx_add (by omega)]; simp only [w_set0, w_set1, w_setn0, w_setn1]; (with_reducible refine i_Inc5 ?_); rw [zx_inc (by omega)]; simp only [w_set0, w_set1, w_setn0, w_setn1])
          rw [Nat.add_assoc]
          exact hX4 _ _ (by omega)
    · rintro ρ M2 X2 ⟨⟨l2, rfl⟩, rfl⟩
      rw [show i + (m - i) = m by omega]
      ((with_reducible refine i_turn (i_cI_lt (i_L5 (i_L2 ?_)))); (with_reducible refine i_f (by omega) ?_); (with_reducible refine i_up (i_Inc4 ?_)); rw [zx_inc (by omega)]; simp only [w_set0, w_set1, w_setn0, w_setn1])
      exact hX1 _ _ rfl
  · rintro ρ M1 X ⟨⟨l, rfl⟩, rfl⟩
    ((with_reducible refine i_turn (i_cI_lt (i_L4 (i_L2 ?_)))); (with_reducible refine i_f (by omega) ?_); (with_reducible refine i_RetI (i_L3 ?_)))
    exact hk
theorem m_piece {O : zOm} (hO : zWld O) (hS : zS O = zmS zC0) {from' m : Nat} {T : Nat → Nat → Bool} {M : zMem} {K : Option zV → zMem → Prop} (hm1 : 0 < m) (hm5 : m ≤ 5) (hm : from' + m ≤ 16) (hT : rMx M 251 T)
    (hk : ∀ M', (∀ b j, ¬ (b = 272 ∨ b = 286) → M' b j = M b j) → (∀ j : Nat, 1 ≤ j → j < 6 → M' ((286 : Nat) : Int) ((j : Nat) : Int) = ((zpl m (zsh T from') (zgK m) j : Nat) : Int)) → K none M') : zR O F_Model_piece [(2, 250), (0, ((from' : Nat) : Int)), (0, ((m : Nat) : Int))] M K := by
  obtain ⟨hK1, hK2⟩ := zgK_ok (n := m) (by omega)
  generalize zgK m = K0 at hK1 hK2 hk
  apply r_Model_piece hO
  unfold B_Model_piece
  have f45 := zMF (k := 45) hS rfl; have a286 := zMA (a := 286) (ty := .int) (n := 6) hS rfl; have f26 := zMF (k := 26) hS rfl; have a272 := zMA (a := 272) (ty := .int) (n := 16) hS rfl; have zo := zMO hS
  ((with_reducible refine i_Seq (i_Seq (i_Blk (i_Seq (i_Set (i_I ?_)))))); simp only [w_set0, w_set1, w_setn0, w_setn1])
  refine w_ForN 6 (fun k ρ M' => (∃ l, ρ = 250 :: ((from' : Nat) : Int) :: ((m : Nat) : Int) :: ((k : Nat) : Int) :: l) ∧ (∀ b j, ¬ b = 286 → M' b j = M b j) ∧ ∀ j : Nat, j < k → M' ((286 : Nat) : Int) ((j : Nat) : Int) = -1) ⟨⟨_, rfl⟩, fun _ _ _ => rfl, fun j hj => absurd hj (Nat.not_lt_zero _)⟩ ?_ ?_
  · rintro k ρ M1 X hk1 ⟨⟨l, rfl⟩, hf, h⟩ hX
    ((with_reducible refine i_turn (i_cI_lt (i_L3 (i_I ?_)))); (with_reducible refine i_t (by omega) ?_); (with_reducible refine i_sIA (i_FR (i_A0 ?_))); (with_reducible refine i_fldR (by assumption) ?_); (with_reducible refine i_L3 (i_I ?_)); (with_reducible refine i_in (by assumption) (by omega) (by omega) ?_); (with_reducible refine i_up (i_Inc3 ?_)); rw [zx_inc (by omega)]; simp only [w_set0, w_set1, w_setn0, w_setn1])
    refine hX _ _ ⟨⟨_, rfl⟩, fun b j q => by rw [zg_n _ _ _ (by omega)]; exact hf b j q, fun j hj => ?_⟩
    by_cases e : j = k
    · subst e; rw [zg_s]
    · rw [zg_m _ _ _ _ _ (by omega)]; exact h j (by omega)
  rintro ρ M1 X ⟨⟨l, rfl⟩, hf1, h1⟩
  ((with_reducible refine i_turn (i_cI_lt (i_L3 (i_I ?_)))); (with_reducible refine i_f (by omega) ?_); (with_reducible refine i_Seq (i_Blk (i_Seq (i_Set (i_I ?_))))); simp only [w_set0, w_set1, w_setn0, w_setn1])
  refine w_ForN m (fun k ρ M' => (∃ l, ρ = 250 :: ((from' : Nat) : Int) :: ((m : Nat) : Int) :: ((k : Nat) : Int) :: l) ∧ (∀ b j, ¬ b = 272 → M' b j = M1 b j) ∧ ∀ j : Nat, j < k → M' ((272 : Nat) : Int) ((j : Nat) : Int) = ((zgs m 0 j : Nat) : Int)) ⟨⟨_, rfl⟩, fun _ _ _ => rfl, fun j hj => absurd hj (Nat.not_lt_zero _)⟩ ?_ ?_
  · rintro k ρ M2 X hk1 ⟨⟨l, rfl⟩, hf, h⟩ hX
    ((with_reducible refine i_turn (i_cI_lt (i_L3 (i_L2 ?_)))); (with_reducible refine i_t (by omega) ?_); (with_reducible refine i_sIA (i_FR (i_A0 ?_))); (with_reducible refine i_fldR (by assumption) ?_); (with_reducible refine i_L3 (i_I ?_)); (with_reducible refine i_in (by assumption) (by omega) (by omega) ?_); (with_reducible refine i_up (i_Inc3 ?_)); rw [zx_inc (by omega)]; simp only [w_set0, w_set1, w_setn0, w_setn1])
    refine hX _ _ ⟨⟨_, rfl⟩, fun b j q => by rw [zg_n _ _ _ (by omega)]; exact hf b j q, fun j hj => ?_⟩
    by_cases e : j = k
    · subst e; rw [zg_s]; rfl
    · rw [zg_m _ _ _ _ _ (by omega)]; exact h j (by omega)
  rintro ρ M2 X ⟨⟨l, rfl⟩, hf2, h2⟩
  have fr2 : ∀ b j, ¬ (b = 272 ∨ b = 286) → M2 b j = M b j := fun b j q => by rw [hf2 b j (by omega), hf1 b j (by omega)]
  have p2 : ∀ j : Nat, j < 6 → M2 ((286 : Nat) : Int) ((j : Nat) : Int) = -1 := fun j hj => by rw [hf2 _ _ (by omega)]; exact h1 j hj
  clear hf1 hf2 h1
  ((with_reducible refine i_turn (i_cI_lt (i_L3 (i_L2 ?_)))); (with_reducible refine i_f (by omega) ?_); (with_reducible refine i_Seq (i_Set (i_I ?_))); simp only [w_set0, w_set1, w_setn0, w_setn1])
  refine w_WhileM (fun μ ρ M' => ∃ k b l, ρ = 250 :: ((from' : Nat) : Int) :: ((m : Nat) : Int) :: zbI b :: l ∧ (∀ b j, ¬ (b = 272 ∨ b = 286) → M' b j = M b j) ∧ (∀ j : Nat, 1 ≤ j → j < 6 → M' ((286 : Nat) : Int) ((j : Nat) : Int) = (if k = 0 then -1 else ((zpl m (zsh T from') (k - 1) j : Nat) : Int))) ∧ k ≤ K0 + 1 ∧ (b = true → k ≤ K0 ∧ rLab M' m (zgs m k)) ∧ (b = false → k = K0 + 1) ∧ μ = K0 + 1 - k) _ ⟨0, true, _, rfl, fr2, fun j _ hj => by rw [if_pos rfl]; exact p2 j hj, by omega, fun _ => ⟨Nat.zero_le _, h2⟩, (fun z => by cases z), rfl⟩ ?_
  clear fr2 p2 h2
  rintro μ ρ M3 X3 ⟨k, b, l3, rfl, f3, p3, hle, hbt, hbf, rfl⟩ hX3
  cases b
  · clear hX3
    have e := hbf rfl
    subst e
    ((with_reducible refine i_turn (i_cZ_ne (i_L3 ?_))); rw [zbI_f]; (with_reducible refine i_f (by omega) ?_); (with_reducible refine i_RetV ?_))
    exact hk M3 f3 (fun j h1 h6 => by rw [p3 j h1 h6, if_neg (by omega)]; rfl)
  · obtain ⟨hkK, hL3⟩ := hbt rfl
    have hRG := zgs_RG m k
    have gT3 : rMx M3 251 T := hT.to (fun j => f3 _ _ (by omega))
    have hU := zRG_mU hRG (Nat.le_refl _)
    have hU1 := zmU_pos (f := zgs m k) hm1
    ((with_reducible refine i_turn (i_cZ_ne (i_L3 ?_))); rw [zbI_t]; (with_reducible refine i_t (by omega) ?_); (with_reducible refine i_Blk (i_Seq (i_Set (i_I (i_Seq (i_Blk (i_Seq (i_Set (i_I ?_))))))))); simp only [w_set0, w_set1, w_setn0, w_setn1]; rw [w_setT]; simp only [w_set0, w_set1, w_setn0, w_setn1]; rw [w_setT])
    refine w_ForN m (fun i ρ M' => (∃ l, ρ = 250 :: ((from' : Nat) : Int) :: ((m : Nat) : Int) :: 1 :: ((zmU (zgs m k) i : Nat) : Int) :: ((i : Nat) : Int) :: l) ∧ M' = M3) ⟨⟨_, rfl⟩, rfl⟩ ?_ ?_
    · rintro i ρ M4 X4 hi ⟨⟨l4, rfl⟩, rfl⟩ hX4
      have gi := hL3 i hi
      have hfi := zRG_le hRG hi
      have hUi := zRG_mU hRG (k := i) (by omega)
      have hX5 : ∀ (l : zLoc) (c : Nat), c = zmU (zgs m k) (i + 1) → X4 (250 :: ((from' : Nat) : Int) :: ((m : Nat) : Int) :: 1 :: ((c : Nat) : Int) :: ((i + 1 : Nat) : Int) :: l) M4 := fun l c hc => by subst hc; exact hX4 _ _ ⟨⟨l, rfl⟩, rfl⟩
      rw [zmU_su] at hX5
      by_cases w : zmU (zgs m k) i < zgs m k i + 1
      · ((with_reducible refine i_turn (i_cI_lt (i_L5 (i_L2 ?_)))); (with_reducible refine i_t (by omega) ?_); (with_reducible refine i_Set (i_eIf (i_cI_gt (i_Add (i_IA (i_FR (i_A0 ?_))))))); (with_reducible refine i_fldR (by assumption) ?_); (with_reducible refine i_L5 ?_); (with_reducible refine i_in (by assumption) (by omega) (by omega) ?_); (with_reducible refine i_I (i_L4 ?_)); (rw [gi]); rw [zx_inc (by omega)]; (with_reducible refine i_t (by omega) ?_); (with_reducible refine i_Add (i_IA (i_FR (i_A0 ?_)))); (with_reducible refine i_fldR (by assumption) ?_); (with_reducible refine i_L5 ?_); (with_reducible refine i_in (by assumption) (by omega) (by omega) ?_); (with_reducible refine i_I (i_up ?_)); (rw [gi]); rw [zx_inc (by omega)]; simp only [w_set0, w_set1, w_setn0, w_setn1]; (with_reducible refine i_Inc5 ?_); rw [zx_inc (by omega)]; simp only [w_set0, w_set1, w_setn0, w_setn1])
        exact hX5 _ _ (by omega)
      · ((with_reducible refine i_turn (i_cI_lt (i_L5 (i_L2 ?_)))); (with_reducible refine i_t (by omega) ?_); (with_reducible refine i_Set (i_eIf (i_cI_gt (i_Add (i_IA (i_FR (i_A0 ?_))))))); (with_reducible refine i_fldR (by assumption) ?_); (with_reducible refine i_L5 ?_); (with_reducible refine i_in (by assumption) (by omega) (by omega) ?_); (with_reducible refine i_I (i_L4 ?_)); (rw [gi]); rw [zx_inc (by omega)]; (with_reducible refine i_f (by omega) ?_); (with_reducible refine i_L4 (i_up ?_)); simp only [w_set0, w_set1, w_setn0, w_setn1]; (with_reducible refine i_Inc5 ?_); rw [zx_inc (by omega)]; simp only [w_set0, w_set1, w_setn0, w_setn1])
        exact hX5 _ _ (by omega)
    · rintro ρ M4 X4 ⟨⟨l4, rfl⟩, rfl⟩
      ((with_reducible refine i_turn (i_cI_lt (i_L5 (i_L2 ?_)))); (with_reducible refine i_f (by omega) ?_); (with_reducible refine i_Seq (i_Set (i_Call (i_as1 (i_A0 (i_as1 (i_L1 (i_as1 (i_L2 (i_as0 ?_)))))))))); (with_reducible refine i_recv0 (by assumption) ?_); simp only [w_set0, w_set1, w_setn0, w_setn1])
      refine m_leaves hO hS hm gT3 hL3 (fun q hq => by have := zRG_le hRG hq; omega) ⟨_, rfl, ?_⟩
      have hv := zlv_le (m := m) (B := m) (by omega) (by omega) (zgs m k) (zsh T from') m (Nat.le_refl _)
      change zlv m (zgs m k) (zsh T from') m ≤ 40000 at hv
      have hpk : ∀ j, zpl m (zsh T from') k j = if k = 0 then zlv m (zgs m k) (zsh T from') m else if zmU (zgs m k) m ≤ j ∧ zlv m (zgs m k) (zsh T from') m < zpl m (zsh T from') (k - 1) j then zlv m (zgs m k) (zsh T from') m else zpl m (zsh T from') (k - 1) j := fun j => by
        cases k with
        | zero => rfl
        | succ k => rw [if_neg (by omega)]; exact zpl_su m (zsh T from') k j
      have hk01 : k = 0 → zmU (zgs m k) m = 1 := fun e => by subst e; exact zmU_0 hm1
      have hple := fun j => zpl_le hm1 (by omega) (zsh T from') (k - 1) j
      generalize zlv m (zgs m k) (zsh T from') m = v at hv hpk ⊢
      generalize hu : zmU (zgs m k) m = u at hU hU1 hpk hk01 ⊢
      ((with_reducible refine i_Seq (i_Blk (i_Seq (i_Set (i_L4 ?_))))); simp only [w_set0, w_set1, w_setn0, w_setn1]; rw [w_setT])
      refine w_ForN (6 - u) (fun d ρ M' => (∃ l, ρ = 250 :: ((from' : Nat) : Int) :: ((m : Nat) : Int) :: 1 :: ((u : Nat) : Int) :: ((v : Nat) : Int) :: ((u + d : Nat) : Int) :: l) ∧ (∀ b j, ¬ b = 286 → M' b j = M4 b j) ∧ ∀ j : Nat, 1 ≤ j → j < 6 → M' ((286 : Nat) : Int) ((j : Nat) : Int) = (if j < u + d then ((zpl m (zsh T from') k j : Nat) : Int) else if k = 0 then -1 else ((zpl m (zsh T from') (k - 1) j : Nat) : Int))) ⟨⟨_, rfl⟩, fun _ _ _ => rfl, fun j h1 h6 => ?_⟩ ?_ ?_
      · rw [p3 j h1 h6]
        by_cases w : j < u + 0
        · rw [if_pos w, hpk j]
          have hk0 : k ≠ 0 := fun e => by have := hk01 e; omega
          rw [if_neg hk0, if_neg hk0, if_neg (by omega)]
        · rw [if_neg w]
      · rintro d ρ M5 X5 hd ⟨⟨l5, rfl⟩, f5, p5⟩ hX5
        have gp := p5 (u + d) (by omega) (by omega)
        rw [if_neg (Nat.lt_irrefl _)] at gp
        have hpj := hpk (u + d)
        have hplj := hple (u + d)
        by_cases hk0 : k = 0
        · rw [if_pos hk0] at gp hpj
          ((with_reducible refine i_turn (i_cI_lt (i_L6 (i_I ?_)))); (with_reducible refine i_t (by omega) ?_); (with_reducible refine i_If (i_cOr (i_cZ_lt (i_IA (i_FR (i_A0 ?_)))))); (with_reducible refine i_fldR (by assumption) ?_); (with_reducible refine i_L6 ?_); (with_reducible refine i_in (by assumption) (by omega) (by omega) ?_); (rw [gp]); (with_reducible refine i_t (by omega) ?_); (with_reducible refine i_sIA (i_FR (i_A0 ?_))); (with_reducible refine i_fldR (by assumption) ?_); (with_reducible refine i_L6 (i_L5 ?_)); (with_reducible refine i_in (by assumption) (by omega) (by omega) ?_); (with_reducible refine i_up (i_Inc6 ?_)); rw [zx_inc (by omega)]; simp only [w_set0, w_set1, w_setn0, w_setn1])
          refine hX5 _ _ ⟨⟨_, rfl⟩, fun b j q => by rw [zg_n _ _ _ (by omega)]; exact f5 b j q, fun j h1 h6 => ?_⟩
          by_cases e : j = u + d
          · rw [e, zg_s, if_pos (by omega), hpj]
          · rw [zg_m _ _ _ _ _ (by omega), p5 j h1 h6]
            by_cases w : j < u + d
            · rw [if_pos w, if_pos (show j < u + (d + 1) by omega)]
            · rw [if_neg w, if_neg (show ¬ j < u + (d + 1) by omega)]
        · rw [if_neg hk0] at gp hpj
          by_cases w : v < zpl m (zsh T from') (k - 1) (u + d)
          · rw [if_pos ⟨by omega, w⟩] at hpj
            ((with_reducible refine i_turn (i_cI_lt (i_L6 (i_I ?_)))); (with_reducible refine i_t (by omega) ?_); (with_reducible refine i_If (i_cOr (i_cZ_lt (i_IA (i_FR (i_A0 ?_)))))); (with_reducible refine i_fldR (by assumption) ?_); (with_reducible refine i_L6 ?_); (with_reducible refine i_in (by assumption) (by omega) (by omega) ?_); (rw [gp]); (with_reducible refine i_f (by omega) ?_); (with_reducible refine i_cI_lt (i_L5 (i_IA (i_FR (i_A0 ?_))))); (with_reducible refine i_fldR (by assumption) ?_); (with_reducible refine i_L6 ?_); (with_reducible refine i_in (by assumption) (by omega) (by omega) ?_); (rw [gp]); (with_reducible refine i_t (by omega) ?_); (with_reducible refine i_sIA (i_FR (i_A0 ?_))); (with_reducible refine i_fldR (by assumption) ?_); (with_reducible refine i_L6 (i_L5 ?_)); (with_reducible refine i_in (by assumption) (by omega) (by omega) ?_); (with_reducible refine i_up (i_Inc6 ?_)); rw [zx_inc (by omega)]; simp only [w_set0, w_set1, w_setn0, w_setn1])
            refine hX5 _ _ ⟨⟨_, rfl⟩, fun b j q => by rw [zg_n _ _ _ (by omega)]; exact f5 b j q, fun j h1 h6 => ?_⟩
            by_cases e : j = u + d
            · rw [e, zg_s, if_pos (by omega), hpj]
            · rw [zg_m _ _ _ _ _ (by omega), p5 j h1 h6]
              by_cases w : j < u + d
              · rw [if_pos w, if_pos (show j < u + (d + 1) by omega)]
              · rw [if_neg w, if_neg (show ¬ j < u + (d + 1) by omega)]
          · rw [if_neg (fun z => w z.2)] at hpj
            ((with_reducible refine i_turn (i_cI_lt (i_L6 (i_I ?_)))); (with_reducible refine i_t (by omega) ?_); (with_reducible refine i_If (i_cOr (i_cZ_lt (i_IA (i_FR (i_A0 ?_)))))); (with_reducible refine i_fldR (by assumption) ?_); (with_reducible refine i_L6 ?_); (with_reducible refine i_in (by assumption) (by omega) (by omega) ?_); (rw [gp]); (with_reducible refine i_f (by omega) ?_); (with_reducible refine i_cI_lt (i_L5 (i_IA (i_FR (i_A0 ?_))))); (with_reducible refine i_fldR (by assumption) ?_); (with_reducible refine i_L6 ?_); (with_reducible refine i_in (by assumption) (by omega) (by omega) ?_); (rw [gp]); (with_reducible refine i_f (by omega) ?_); (with_reducible refine i_up (i_Inc6 ?_)); rw [zx_inc (by omega)]; simp only [w_set0, w_set1, w_setn0, w_setn1])
            refine hX5 _ _ ⟨⟨_, rfl⟩, f5, fun j h1 h6 => ?_⟩
            rw [p5 j h1 h6]
            by_cases e : j = u + d
            · rw [e, if_neg (Nat.lt_irrefl _), if_neg hk0, if_pos (by omega), hpj]
            · by_cases w : j < u + d
              · rw [if_pos w, if_pos (show j < u + (d + 1) by omega)]
              · rw [if_neg w, if_neg (show ¬ j < u + (d + 1) by omega)]
      · rintro ρ M5 X5 ⟨⟨l5, rfl⟩, f5, p5⟩
        rw [show u + (6 - u) = 6 by omega]
        have gl5 : rLab M5 m (zgs m k) := fun q hq => by rw [f5 _ _ (by omega)]; exact hL3 q hq
        ((with_reducible refine i_turn (i_cI_lt (i_L6 (i_I ?_)))); (with_reducible refine i_f (by omega) ?_); (with_reducible refine i_Set (i_Call (i_as1 (i_A0 (i_as1 (i_L2 (i_as0 ?_))))))); (with_reducible refine i_recv0 (by assumption) ?_); simp only [w_set0, w_set1, w_setn0, w_setn1])
        refine m_goesOn hO hS hm1 (by omega) gl5 hRG (fun M6 f6 h6 => ⟨_, rfl, ?_⟩)
        (skip)
        refine hX3 (K0 - k) _ M6 (by omega) ⟨k + 1, decide (zgq (zgs m k) m ≠ 0), _, rfl, fun b j q => by rw [f6 b j (by omega), f5 b j (by omega), f3 b j q], fun j h1 h6 => ?_, by omega, fun z => ?_, fun z => ?_, by omega⟩
        · rw [f6 _ _ (by omega), p5 j h1 h6, if_pos (by omega), if_neg (by omega)]; rfl
        · have z2 := of_decide_eq_true z
          rw [if_neg z2] at h6
          refine ⟨Classical.byContradiction fun w => z2 ?_, by rw [zgs_su z2]; exact h6⟩
          have : k = K0 := by omega
          rw [this]; exact hK2.1
        · have z2 := of_decide_eq_false z
          refine Classical.byContradiction fun w => z2 (hK2.2 k (by omega))
set_option maxHeartbeats 4000000 in
theorem m_bound {O : zOm} (hO : zWld O) (hS : zS O = zmS zC0) {n : Nat} {T : Nat → Nat → Bool} {M : zMem} {K : Option zV → zMem → Prop} (hn : M 250 ((1 : Nat) : Int) = ((n : Nat) : Int)) (hn1 : 0 < n) (hn2 : n ≤ 16) (hT : rMx M 251 T)
    (hk : ∀ M', (∀ b j, ¬ (b = 272 ∨ b = 286 ∨ b = 287) → M' b j = M b j) → K (some (0, ((n * zBits n + zbd n T (n - 1) : Nat) : Int))) M') : zR O F_Model_bound [(2, 250)] M K := by
  have hB4 := zBits_4 hn2
  apply r_Model_bound hO
  unfold B_Model_bound
  have f46 := zMF (k := 46) hS rfl; have a287 := zMA (a := 287) (ty := .int) (n := 6) hS rfl; have f1 := zMF (k := 1) hS rfl; have f45 := zMF (k := 45) hS rfl; have a286 := zMA (a := 286) (ty := .int) (n := 6) hS rfl; have zo := zMO hS
  ((with_reducible refine i_Seq (i_Blk (i_Seq (i_Set (i_I ?_))))); simp only [w_set0, w_set1, w_setn0, w_setn1])
  refine w_ForN 6 (fun k ρ M' => (∃ l, ρ = 250 :: ((k : Nat) : Int) :: l) ∧ (∀ b j, ¬ b = 287 → M' b j = M b j) ∧ ∀ j : Nat, j < k → M' ((287 : Nat) : Int) ((j : Nat) : Int) = 0) ⟨⟨_, rfl⟩, fun _ _ _ => rfl, fun j hj => absurd hj (Nat.not_lt_zero _)⟩ ?_ ?_
  · rintro k ρ M1 X hk1 ⟨⟨l, rfl⟩, hf, h⟩ hX
    ((with_reducible refine i_turn (i_cI_lt (i_L1 (i_I ?_)))); (with_reducible refine i_t (by omega) ?_); (with_reducible refine i_sIA (i_FR (i_A0 ?_))); (with_reducible refine i_fldR (by assumption) ?_); (with_reducible refine i_L1 (i_I ?_)); (with_reducible refine i_in (by assumption) (by omega) (by omega) ?_); (with_reducible refine i_up (i_Inc1 ?_)); rw [zx_inc (by omega)]; simp only [w_set0, w_set1, w_setn0, w_setn1])
    refine hX _ _ ⟨⟨_, rfl⟩, fun b j q => by rw [zg_n _ _ _ (by omega)]; exact hf b j q, fun j hj => ?_⟩
    by_cases e : j = k
    · subst e; rw [zg_s]
    · rw [zg_m _ _ _ _ _ (by omega)]; exact h j (by omega)
  rintro ρ M1 X ⟨⟨l, rfl⟩, hf1, h1⟩
  ((with_reducible refine i_turn (i_cI_lt (i_L1 (i_I ?_)))); (with_reducible refine i_f (by omega) ?_); (with_reducible refine i_Seq (i_Blk (i_Seq (i_Set (i_I ?_))))); simp only [w_set0, w_set1, w_setn0, w_setn1])
  refine w_ForN ((n + 4) / 5) (fun c ρ M' => (∃ l, ρ = 250 :: ((5 * c : Nat) : Int) :: l) ∧ (∀ b j, ¬ (b = 272 ∨ b = 286 ∨ b = 287) → M' b j = M b j) ∧ ∀ j : Nat, 1 ≤ j → j < 6 → M' ((287 : Nat) : Int) ((j : Nat) : Int) = ((zbs n T c j : Nat) : Int)) ⟨⟨_, rfl⟩, fun b j q => hf1 b j (by omega), fun j h0 hj => by rw [h1 j hj]; rfl⟩ ?_ ?_
  · rintro c ρ M2 X2 hc ⟨⟨l2, rfl⟩, f2, p2⟩ hX2
    have gn2 : M2 250 ((1 : Nat) : Int) = ((n : Nat) : Int) := (f2 _ _ (by omega)).trans hn
    have gT2 : rMx M2 251 T := hT.to (fun j => f2 _ _ (by omega))
    have hmn : min 5 (n - 5 * c) = (if n - 5 * c < 5 then n - 5 * c else 5) := by split <;> omega
    have hle2 := fun j => zbs_le hn2 T j c (by omega)
    have hpc := fun j => zpc_le (n := n) (c := c) (by omega) T j
    have hsu : ∀ j, zbs n T (c + 1) j = zbs n T c j + zpc n T c j := fun j => zsum_su _ _
    have hX3 : ∀ (l : zLoc) (M' : zMem), (∀ b j, ¬ (b = 272 ∨ b = 286 ∨ b = 287) → M' b j = M b j) → (∀ j : Nat, 1 ≤ j → j < 6 → M' ((287 : Nat) : Int) ((j : Nat) : Int) = ((zbs n T (c + 1) j : Nat) : Int)) → X2 (250 :: ((5 * c + 5 : Nat) : Int) :: l) M' := fun l M' h1 h2 => hX2 _ _ ⟨⟨l, by rw [show 5 * (c + 1) = 5 * c + 5 by omega]⟩, h1, h2⟩
    clear hX2
    unfold zpc at hpc hsu
    by_cases w : n - 5 * c < 5
    all_goals
      first | rw [if_pos w] at hmn | rw [if_neg w] at hmn
      rw [hmn] at hpc hsu
      (first | (((with_reducible refine i_turn (i_cI_lt (i_L1 (i_F (i_A0 ?_))))); (with_reducible refine i_fld (by assumption) ?_); (rw [gn2]); (with_reducible refine i_t (by omega) ?_); (with_reducible refine i_Seq (i_sCall (i_as1 (i_A0 (i_as1 (i_L1 (i_as1 (i_eIf (i_cI_lt (i_Sub (i_F (i_A0 ?_)))))))))))); (with_reducible refine i_fld (by assumption) ?_); (with_reducible refine i_L1 (i_I ?_)); (rw [gn2]); rw [zx_sub (by omega) (by omega)]; (with_reducible refine i_t (by omega) ?_); (with_reducible refine i_Sub (i_F (i_A0 ?_))); (with_reducible refine i_fld (by assumption) ?_); (with_reducible refine i_L1 (i_as0 ?_)); (with_reducible refine i_recv0 (by assumption) ?_); (rw [gn2]); rw [zx_sub (by omega) (by omega)])) | (((with_reducible refine i_turn (i_cI_lt (i_L1 (i_F (i_A0 ?_))))); (with_reducible refine i_fld (by assumption) ?_); (rw [gn2]); (with_reducible refine i_t (by omega) ?_); (with_reducible refine i_Seq (i_sCall (i_as1 (i_A0 (i_as1 (i_L1 (i_as1 (i_eIf (i_cI_lt (i_Sub (i_F (i_A0 ?_)))))))))))); (with_reducible refine i_fld (by assumption) ?_); (with_reducible refine i_L1 (i_I ?_)); (rw [gn2]); rw [zx_sub (by omega) (by omega)]; (with_reducible refine i_f (by omega) ?_); (with_reducible refine i_I (i_as0 ?_)); (with_reducible refine i_recv0 (by assumption) ?_))))
      first | refine m_piece hO hS (m := n - 5 * c) (by omega) (by omega) (by omega) gT2 (fun M3 f3 p3 => ⟨rfl, ?_⟩) | refine m_piece hO hS (m := 5) (by omega) (by omega) (by omega) gT2 (fun M3 f3 p3 => ⟨rfl, ?_⟩)
      ((with_reducible refine i_Blk (i_Seq (i_Set (i_I ?_)))); simp only [w_set0, w_set1, w_setn0, w_setn1]; rw [w_setT])
      refine w_ForN 5 (fun k ρ M' => (∃ l, ρ = 250 :: ((5 * c : Nat) : Int) :: ((1 + k : Nat) : Int) :: l) ∧ (∀ b j, ¬ b = 287 → M' b j = M3 b j) ∧ ∀ j : Nat, 1 ≤ j → j < 6 → M' ((287 : Nat) : Int) ((j : Nat) : Int) = ((if j < 1 + k then zbs n T (c + 1) j else zbs n T c j : Nat) : Int)) ⟨⟨_, rfl⟩, fun _ _ _ => rfl, fun j h0 h6 => by rw [if_neg (by omega), f3 _ _ (by omega)]; exact p2 j h0 h6⟩ ?_ ?_
      · rintro k ρ M4 X4 hk1 ⟨⟨l4, rfl⟩, f4, p4⟩ hX4
        have g1 := p4 (1 + k) (by omega) (by omega)
        rw [if_neg (Nat.lt_irrefl _)] at g1
        have g2 : M4 ((286 : Nat) : Int) ((1 + k : Nat) : Int) = _ := (f4 _ _ (by omega)).trans (p3 (1 + k) (by omega) (by omega))
        have hs1 := hsu (1 + k)
        have hp1 := hpc (1 + k)
        have hl1 := hle2 (1 + k)
        ((with_reducible refine i_turn (i_cI_lt (i_L2 (i_I ?_)))); (with_reducible refine i_t (by omega) ?_); (with_reducible refine i_IO (i_FR (i_A0 ?_))); (with_reducible refine i_fldR (by assumption) ?_); (with_reducible refine i_L2 ?_); (with_reducible refine i_in (by assumption) (by omega) (by omega) ?_); (with_reducible refine i_IA (i_FR (i_A0 ?_))); (with_reducible refine i_fldR (by assumption) ?_); (with_reducible refine i_L2 ?_); (with_reducible refine i_in (by assumption) (by omega) (by omega) ?_); (with_reducible refine i_up (i_Inc2 ?_)); (rw [g1]); (rw [g2]); rw [zx_inc (by omega)]; rw [zx_add (by omega)]; simp only [w_set0, w_set1, w_setn0, w_setn1])
        refine hX4 _ _ ⟨⟨_, rfl⟩, fun b j q => by rw [zg_n _ _ _ (by omega)]; exact f4 b j q, fun j h0 h6 => ?_⟩
        by_cases e : j = 1 + k
        · rw [e, zg_s, if_pos (by omega), hs1]
        · rw [zg_m _ _ _ _ _ (by omega), p4 j h0 h6]
          by_cases v : j < 1 + k
          · rw [if_pos v, if_pos (by omega)]
          · rw [if_neg v, if_neg (by omega)]
      · rintro ρ M4 X4 ⟨⟨l4, rfl⟩, f4, p4⟩
        ((with_reducible refine i_turn (i_cI_lt (i_L2 (i_I ?_)))); (with_reducible refine i_f (by omega) ?_); (with_reducible refine i_up (i_Inc1 ?_)); rw [zx_addc (by omega)]; simp only [w_set0, w_set1, w_setn0, w_setn1])
        exact hX3 _ _ (fun b j q => by rw [f4 b j (by omega), f3 b j (by omega), f2 b j q]) (fun j h0 h6 => by rw [p4 j h0 h6, if_pos (by omega)])
  · rintro ρ M2 X2 ⟨⟨l2, rfl⟩, f2, p2⟩
    have gn2 : M2 250 ((1 : Nat) : Int) = ((n : Nat) : Int) := (f2 _ _ (by omega)).trans hn
    ((with_reducible refine i_turn (i_cI_lt (i_L1 (i_F (i_A0 ?_))))); (with_reducible refine i_fld (by assumption) ?_); (rw [gn2]); (with_reducible refine i_f (by omega) ?_); (with_reducible refine i_Seq (i_Set (i_I (i_Seq (i_Blk (i_Seq (i_Set (i_I ?_)))))))); simp only [w_set0, w_set1, w_setn0, w_setn1]; rw [w_setT])
    refine w_ForN n (fun k ρ M' => (∃ l, ρ = 250 :: (if k = 0 then -1 else ((zbd n T (k - 1) : Nat) : Int)) :: ((1 + k : Nat) : Int) :: l) ∧ M' = M2) ⟨⟨_, rfl⟩, rfl⟩ ?_ ?_
    · rintro k ρ M3 X3 hk1 ⟨⟨l3, rfl⟩, rfl⟩ hX3
      have hX4 : ∀ (l : zLoc) (B : Nat), B = zbd n T k → X3 (250 :: ((B : Nat) : Int) :: ((1 + k + 1 : Nat) : Int) :: l) M3 := fun l B hB => by
        subst hB
        exact hX3 _ _ ⟨⟨l, by rw [if_neg (by omega), show k + 1 - 1 = k by omega]; rfl⟩, rfl⟩
      clear hX3
      have hbv : zbd n T k = if k = 0 then zbv n T (1 + k) else min (zbd n T (k - 1)) (zbv n T (1 + k)) := by
        cases k with
        | zero => rfl
        | succ k => rw [if_neg (by omega), zbd_su, show k + 1 - 1 = k by omega, show 1 + (k + 1) = k + 2 by omega]
      have hv := zbv_le hn2 hn1 T (1 + k) (by omega)
      have hd := zbd_le hn2 hn1 T (k - 1)
      have hmn : min (1 + k) 5 = (if 1 + k < 5 then 1 + k else 5) := by split <;> omega
      have gp := p2 (min (1 + k) 5) (by omega) (by omega)
      have hbs := zbs_le hn2 T (min (1 + k) 5) ((n + 4) / 5) (by omega)
      have hE : 2 + 2 * zBits n ≤ 10 := by omega
      unfold zbv at hbv hv
      rw [hmn] at hbv hv gp hbs
      have hmul : (2 + 2 * zBits n) * zbs n T ((n + 4) / 5) (if 1 + k < 5 then 1 + k else 5) ≤ 10 * 480 := Nat.mul_le_mul hE (by omega)
      by_cases hk0 : k = 0
      · subst hk0
        rw [if_pos rfl] at hbv ⊢
        rw [if_pos (by omega)] at hbv hv gp hbs hmul
        ((with_reducible refine i_turn (i_cI_le (i_L2 (i_F (i_A0 ?_))))); (with_reducible refine i_fld (by assumption) ?_); (rw [gn2]); (with_reducible refine i_t (by omega) ?_); (with_reducible refine i_Blk (i_Seq (i_Set (i_Add (i_Mul (i_I (i_L2 (i_Mul (i_Call (i_as1 (i_A0 (i_as0 ?_)))))))))))); (with_reducible refine i_recv0 (by assumption) ?_); (refine m_exceptBits hO hS gn2 hn2 ⟨_, rfl, ?_⟩); (with_reducible refine i_IA (i_FR (i_A0 ?_))); (with_reducible refine i_fldR (by assumption) ?_); (with_reducible refine i_eIf (i_cI_lt (i_L2 (i_I ?_)))); rw [zx_cmul (by omega)]; (with_reducible refine i_t (by omega) ?_); (with_reducible refine i_L2 ?_); (with_reducible refine i_in (by assumption) (by omega) (by omega) ?_); (with_reducible refine i_If (i_cOr (i_cZ_lt ?_))); (rw [gp]); (rw [zx_mul (by omega)]); rw [zx_add (by omega)]; simp only [w_set0, w_set1, w_setn0, w_setn1]; (with_reducible refine i_L1 ?_); rw [w_setT]; (with_reducible refine i_t (by omega) ?_); (with_reducible refine i_Set (i_L3 (i_up ?_))); simp only [w_set0, w_set1, w_setn0, w_setn1]; (with_reducible refine i_Inc2 ?_); rw [zx_inc (by omega)]; simp only [w_set0, w_set1, w_setn0, w_setn1])
        exact hX4 _ _ (by omega)
      · rw [if_neg hk0] at hbv ⊢
        by_cases w : 1 + k < 5
        all_goals
          first | rw [if_pos w] at hbv hv gp hbs hmul | rw [if_neg w] at hbv hv gp hbs hmul
          have gp2 := gp
          first | change M3 ((287 : Nat) : Int) 5 = _ at gp2 | skip
          by_cases w2 : zbv n T (1 + k) < zbd n T (k - 1)
          all_goals
            unfold zbv at w2
            rw [hmn] at w2
            first | rw [if_pos w] at w2 | rw [if_neg w] at w2
            (first | (((with_reducible refine i_turn (i_cI_le (i_L2 (i_F (i_A0 ?_))))); (with_reducible refine i_fld (by assumption) ?_); (rw [gn2]); (with_reducible refine i_t (by omega) ?_); (with_reducible refine i_Blk (i_Seq (i_Set (i_Add (i_Mul (i_I (i_L2 (i_Mul (i_Call (i_as1 (i_A0 (i_as0 ?_)))))))))))); (with_reducible refine i_recv0 (by assumption) ?_); (refine m_exceptBits hO hS gn2 hn2 ⟨_, rfl, ?_⟩); (with_reducible refine i_IA (i_FR (i_A0 ?_))); (with_reducible refine i_fldR (by assumption) ?_); (with_reducible refine i_eIf (i_cI_lt (i_L2 (i_I ?_)))); rw [zx_cmul (by omega)]; (with_reducible refine i_f (by omega) ?_); (with_reducible refine i_I ?_); (with_reducible refine i_in (by assumption) (by omega) (by omega) ?_); (with_reducible refine i_If (i_cOr (i_cZ_lt ?_))); (rw [gp2]); (rw [zx_mul (by omega)]); rw [zx_add (by omega)]; simp only [w_set0, w_set1, w_setn0, w_setn1]; (with_reducible refine i_L1 ?_); rw [w_setT]; (with_reducible refine i_f (by omega) ?_); (with_reducible refine i_cI_lt (i_L3 (i_L1 ?_))); (with_reducible refine i_t (by omega) ?_); (with_reducible refine i_Set (i_L3 (i_up ?_))); simp only [w_set0, w_set1, w_setn0, w_setn1]; (with_reducible refine i_Inc2 ?_); rw [zx_inc (by omega)]; simp only [w_set0, w_set1, w_setn0, w_setn1])) | (((with_reducible refine i_turn (i_cI_le (i_L2 (i_F (i_A0 ?_))))); (with_reducible refine i_fld (by assumption) ?_); (rw [gn2]); (with_reducible refine i_t (by omega) ?_); (with_reducible refine i_Blk (i_Seq (i_Set (i_Add (i_Mul (i_I (i_L2 (i_Mul (i_Call (i_as1 (i_A0 (i_as0 ?_)))))))))))); (with_reducible refine i_recv0 (by assumption) ?_); (refine m_exceptBits hO hS gn2 hn2 ⟨_, rfl, ?_⟩); (with_reducible refine i_IA (i_FR (i_A0 ?_))); (with_reducible refine i_fldR (by assumption) ?_); (with_reducible refine i_eIf (i_cI_lt (i_L2 (i_I ?_)))); rw [zx_cmul (by omega)]; (with_reducible refine i_t (by omega) ?_); (with_reducible refine i_L2 ?_); (with_reducible refine i_in (by assumption) (by omega) (by omega) ?_); (with_reducible refine i_If (i_cOr (i_cZ_lt ?_))); (rw [gp]); (rw [zx_mul (by omega)]); rw [zx_add (by omega)]; simp only [w_set0, w_set1, w_setn0, w_setn1]; (with_reducible refine i_L1 ?_); rw [w_setT]; (with_reducible refine i_f (by omega) ?_); (with_reducible refine i_cI_lt (i_L3 (i_L1 ?_))); (with_reducible refine i_t (by omega) ?_); (with_reducible refine i_Set (i_L3 (i_up ?_))); simp only [w_set0, w_set1, w_setn0, w_setn1]; (with_reducible refine i_Inc2 ?_); rw [zx_inc (by omega)]; simp only [w_set0, w_set1, w_setn0, w_setn1])) | (((with_reducible refine i_turn (i_cI_le (i_L2 (i_F (i_A0 ?_))))); (with_reducible refine i_fld (by assumption) ?_); (rw [gn2]); (with_reducible refine i_t (by omega) ?_); (with_reducible refine i_Blk (i_Seq (i_Set (i_Add (i_Mul (i_I (i_L2 (i_Mul (i_Call (i_as1 (i_A0 (i_as0 ?_)))))))))))); (with_reducible refine i_recv0 (by assumption) ?_); (refine m_exceptBits hO hS gn2 hn2 ⟨_, rfl, ?_⟩); (with_reducible refine i_IA (i_FR (i_A0 ?_))); (with_reducible refine i_fldR (by assumption) ?_); (with_reducible refine i_eIf (i_cI_lt (i_L2 (i_I ?_)))); rw [zx_cmul (by omega)]; (with_reducible refine i_f (by omega) ?_); (with_reducible refine i_I ?_); (with_reducible refine i_in (by assumption) (by omega) (by omega) ?_); (with_reducible refine i_If (i_cOr (i_cZ_lt ?_))); (rw [gp2]); (rw [zx_mul (by omega)]); rw [zx_add (by omega)]; simp only [w_set0, w_set1, w_setn0, w_setn1]; (with_reducible refine i_L1 ?_); rw [w_setT]; (with_reducible refine i_f (by omega) ?_); (with_reducible refine i_cI_lt (i_L3 (i_L1 ?_))); (with_reducible refine i_f (by omega) ?_); (with_reducible refine i_up (i_Inc2 ?_)); rw [zx_inc (by omega)]; simp only [w_set0, w_set1, w_setn0, w_setn1])) | (((with_reducible refine i_turn (i_cI_le (i_L2 (i_F (i_A0 ?_))))); (with_reducible refine i_fld (by assumption) ?_); (rw [gn2]); (with_reducible refine i_t (by omega) ?_); (with_reducible refine i_Blk (i_Seq (i_Set (i_Add (i_Mul (i_I (i_L2 (i_Mul (i_Call (i_as1 (i_A0 (i_as0 ?_)))))))))))); (with_reducible refine i_recv0 (by assumption) ?_); (refine m_exceptBits hO hS gn2 hn2 ⟨_, rfl, ?_⟩); (with_reducible refine i_IA (i_FR (i_A0 ?_))); (with_reducible refine i_fldR (by assumption) ?_); (with_reducible refine i_eIf (i_cI_lt (i_L2 (i_I ?_)))); rw [zx_cmul (by omega)]; (with_reducible refine i_t (by omega) ?_); (with_reducible refine i_L2 ?_); (with_reducible refine i_in (by assumption) (by omega) (by omega) ?_); (with_reducible refine i_If (i_cOr (i_cZ_lt ?_))); (rw [gp]); (rw [zx_mul (by omega)]); rw [zx_add (by omega)]; simp only [w_set0, w_set1, w_setn0, w_setn1]; (with_reducible refine i_L1 ?_); rw [w_setT]; (with_reducible refine i_f (by omega) ?_); (with_reducible refine i_cI_lt (i_L3 (i_L1 ?_))); (with_reducible refine i_f (by omega) ?_); (with_reducible refine i_up (i_Inc2 ?_)); rw [zx_inc (by omega)]; simp only [w_set0, w_set1, w_setn0, w_setn1])))
            exact hX4 _ _ (by omega)
    · rintro ρ M3 X3 ⟨⟨l3, rfl⟩, rfl⟩
      rw [if_neg (by omega)]
      have hd := zbd_le hn2 hn1 T (n - 1)
      have hnB : n * zBits n ≤ 16 * 4 := Nat.mul_le_mul hn2 hB4
      ((with_reducible refine i_turn (i_cI_le (i_L2 (i_F (i_A0 ?_))))); (with_reducible refine i_fld (by assumption) ?_); (rw [gn2]); (with_reducible refine i_f (by omega) ?_); (with_reducible refine i_RetI (i_Add (i_Mul (i_F (i_A0 ?_))))); (with_reducible refine i_fld (by assumption) ?_); (with_reducible refine i_Call (i_as1 (i_F (i_A0 ?_)))); (with_reducible refine i_fld (by assumption) ?_); (with_reducible refine i_as0 (i_recv1 ?_)); (rw [gn2]); (refine m_bitsOf hO hS (by omega) ⟨_, rfl, ?_⟩); (with_reducible refine i_L1 ?_); (rw [zx_mul (by omega)]); rw [zx_add (by omega)])
      exact hk M3 f2
