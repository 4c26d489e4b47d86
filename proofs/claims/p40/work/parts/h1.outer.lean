/-! ===== rounds, coarsest, nearly, bests, bound: whole calls ===== -/
theorem zPar179 {S : List zSh} (hS : S = zmS zC0) : zPar S 179 := zParB.to hS (by decide +kernel)
theorem m_rounds {O : zOm} (hO : zWld O) (hS : zS O = zmS zC0) {n : Nat} {μ : Nat → Nat} {T : Nat → Nat → Bool} {M : zMem} {K : Option zV → zMem → Prop} (hn : M 250 ((1 : Nat) : Int) = ((n : Nat) : Int)) (hn1 : 0 < n) (hn2 : n ≤ 16) (hT : rMx M 251 T) (hT0 : ∀ a, T a a = false) (hμ : ∀ r : Nat, r < n → M ((252 : Nat) : Int) ((r : Nat) : Int) = ((μ r : Nat) : Int) ∧ μ r < 100)
    (hk : ∀ M', (∀ b j, ¬ (b = ((292 : Nat) : Int) ∨ b = ((293 : Nat) : Int)) → M' b j = M b j) → K (some (0, ((zrR n T μ : Nat) : Int))) M') : zR O F_Model_rounds [(2, 250)] M K := by
  apply r_Model_rounds hO
  unfold B_Model_rounds
  have zo := zMO hS
  ((with_reducible refine i_RetI (i_Call (i_as1 (i_A0 (i_as0 ?_))))); (with_reducible refine i_recv0 (by assumption) ?_))
  refine m_refine hO hS hn hn1 hn2 hT hT0 hμ (fun M1 f1 h1 => ⟨_, rfl, ?_⟩)
  (skip)
  exact hk M1 f1
theorem m_coarsest_bad {O : zOm} (hO : zWld O) (hS : zS O = zmS zC0) {n : Nat} {x : Int} {M : zMem} {K : Option zV → zMem → Prop} (hn : M 250 ((1 : Nat) : Int) = ((n : Nat) : Int)) (hb : ¬ (0 ≤ x ∧ x < ((n : Nat) : Int))) (hk : K (some (0, -1)) M) : zR O F_Model_coarsest [(2, 250), (0, x)] M K := by
  apply r_Model_coarsest hO
  unfold B_Model_coarsest
  have f57 := zMF (k := 57) hS rfl; have a292 := zMA (a := 292) (ty := .int) (n := 16) hS rfl; have zo := zMO hS
  ((with_reducible refine i_Seq (i_If (i_cNot (i_cZ_ne (i_Call (i_as1 (i_A0 (i_as1 (i_L1 (i_as0 ?_)))))))))); (with_reducible refine i_recv0 (by assumption) ?_); (refine m_isPost hO hS hn ⟨_, rfl, ?_⟩); (rw [decide_eq_false hb]); rw [zbI_f]; (with_reducible refine i_f (by omega) ?_); (with_reducible refine i_RetI (i_I ?_)))
  exact hk
theorem m_coarsest {O : zOm} (hO : zWld O) (hS : zS O = zmS zC0) {n x : Nat} {μ : Nat → Nat} {T : Nat → Nat → Bool} {M : zMem} {K : Option zV → zMem → Prop} (hn : M 250 ((1 : Nat) : Int) = ((n : Nat) : Int)) (hn1 : 0 < n) (hn2 : n ≤ 16) (hT : rMx M 251 T) (hT0 : ∀ a, T a a = false) (hμ : ∀ r : Nat, r < n → M ((252 : Nat) : Int) ((r : Nat) : Int) = ((μ r : Nat) : Int) ∧ μ r < 100) (hx : x < n)
    (hk : ∀ M', (∀ b j, ¬ (b = ((292 : Nat) : Int) ∨ b = ((293 : Nat) : Int)) → M' b j = M b j) → K (some (0, ((zcr n T μ (zrR n T μ + 1) x : Nat) : Int))) M') : zR O F_Model_coarsest [(2, 250), (0, ((x : Nat) : Int))] M K := by
  apply r_Model_coarsest hO
  unfold B_Model_coarsest
  have f57 := zMF (k := 57) hS rfl; have a292 := zMA (a := 292) (ty := .int) (n := 16) hS rfl; have zo := zMO hS
  ((with_reducible refine i_Seq (i_If (i_cNot (i_cZ_ne (i_Call (i_as1 (i_A0 (i_as1 (i_L1 (i_as0 ?_)))))))))); (with_reducible refine i_recv0 (by assumption) ?_); (refine m_isPost hO hS hn ⟨_, rfl, ?_⟩); (rw [decide_eq_true (show 0 ≤ ((x : Nat) : Int) ∧ ((x : Nat) : Int) < ((n : Nat) : Int) by omega)]); rw [zbI_t]; (with_reducible refine i_t (by omega) ?_); (with_reducible refine i_Seq (i_Set (i_Call (i_as1 (i_A0 (i_as0 ?_)))))); (with_reducible refine i_recv0 (by assumption) ?_); simp only [w_set0, w_set1, w_setn0, w_setn1])
  refine m_refine hO hS hn hn1 hn2 hT hT0 hμ (fun M1 f1 h1 => ⟨_, rfl, ?_⟩)
  have g := h1 x hx
  ((with_reducible refine i_RetI (i_IA (i_FR (i_A0 ?_)))); (with_reducible refine i_fldR (by assumption) ?_); (with_reducible refine i_L1 ?_); (with_reducible refine i_in (by assumption) (by omega) (by omega) ?_); (rw [g]))
  exact hk M1 f1
/-! the class -/
theorem c_rounds {O : zOm} (hO : zWld O) (hS : zS O = zmS zC0) {n td c : Nat} {N : Nat → Nat → Nat → Bool} {μ : Nat → Nat} {M : zMem} {K : Option zV → zMem → Prop} (hD : cDy M n td c N) (htd : td < 41) (hn1 : 0 < n) (hn2 : n ≤ 16) (hμ : ∀ r : Nat, r < n → M ((2 : Nat) : Int) ((r : Nat) : Int) = ((μ r : Nat) : Int) ∧ μ r ≤ 16)
    (hk : ∀ M', (∀ b j, ¬ (((179 : Nat) : Int) ≤ b ∧ b ≤ ((182 : Nat) : Int)) → M' b j = M b j) → K (some (0, ((zrR n (N td) μ : Nat) : Int))) M') : zR O F_ToldNet_rounds [(2, ((0 : Nat) : Int))] M K := by
  obtain ⟨h1, h2, h3, h4⟩ := hD
  have hp := zPar179 hS
  have hp0 := hp.1
  have o1 := zo_1 hS
  have f1_0 := zf_1_0 hS
  apply r_ToldNet_rounds hO
  unfold B_ToldNet_rounds
  have f0_12 := zf_0_12 hS; have f0_0 := zf_0_0 hS; have f1_0 := zf_1_0 hS; have a2 := zCA (a := 2) (ty := .int) (n := 16) hS rfl; have z0 := zo_0 hS; have z1 := zo_1 hS
  ((with_reducible refine i_RetI (i_Call (i_as1 (i_FR (i_A0 ?_))))); (with_reducible refine i_fldR (by assumption) ?_); (with_reducible refine i_as1 (i_Call (i_as1 (i_FR (i_A0 ?_))))); (with_reducible refine i_fldR (by assumption) ?_); (with_reducible refine i_as0 ?_); (with_reducible refine i_recv0 (by assumption) ?_); (refine c_now hO hS h2 htd ⟨_, rfl, ?_⟩); (with_reducible refine i_as1 (i_FR (i_FR (i_A0 ?_)))); (with_reducible refine i_fldR (by assumption) ?_); (with_reducible refine i_fldR (by assumption) ?_); (with_reducible refine i_as0 ?_); (with_reducible refine i_recv0 (by assumption) ?_))
  refine c_refine hO hS hp (by omega) (zNetD hS htd) (by omega) (h4 td (Nat.le_refl _)) hn1 hn2 hμ (fun M1 f1 g1 => ⟨_, rfl, ?_⟩)
  (skip)
  exact hk M1 (fun b j q => f1 b j (by omega))
theorem c_coarsest_bad {O : zOm} (hO : zWld O) (hS : zS O = zmS zC0) {n : Nat} {x : Int} {M : zMem} {K : Option zV → zMem → Prop} (hP : M ((1 : Nat) : Int) ((2 : Nat) : Int) = ((n : Nat) : Int)) (hb : ¬ (0 ≤ x ∧ x < ((n : Nat) : Int))) (hk : K (some (0, -1)) M) : zR O F_ToldNet_coarsest [(2, ((0 : Nat) : Int)), (0, x)] M K := by
  have o1 := zo_1 hS
  apply r_ToldNet_coarsest hO
  unfold B_ToldNet_coarsest
  have f0_0 := zf_0_0 hS; have f0_12 := zf_0_12 hS; have f1_0 := zf_1_0 hS; have a2 := zCA (a := 2) (ty := .int) (n := 16) hS rfl; have z0 := zo_0 hS; have z1 := zo_1 hS
  ((with_reducible refine i_Seq (i_If (i_cNot (i_cZ_ne (i_Call (i_as1 (i_FR (i_A0 ?_)))))))); (with_reducible refine i_fldR (by assumption) ?_); (with_reducible refine i_as1 (i_L1 (i_as0 ?_))); (with_reducible refine i_recv0 (by assumption) ?_); (refine c_isPost hO hS hP ⟨_, rfl, ?_⟩); (rw [decide_eq_false hb]); rw [zbI_f]; (with_reducible refine i_f (by omega) ?_); (with_reducible refine i_RetI (i_I ?_)))
  exact hk
theorem c_coarsest {O : zOm} (hO : zWld O) (hS : zS O = zmS zC0) {n td c x : Nat} {N : Nat → Nat → Nat → Bool} {μ : Nat → Nat} {M : zMem} {K : Option zV → zMem → Prop} (hD : cDy M n td c N) (htd : td < 41) (hn1 : 0 < n) (hn2 : n ≤ 16) (hμ : ∀ r : Nat, r < n → M ((2 : Nat) : Int) ((r : Nat) : Int) = ((μ r : Nat) : Int) ∧ μ r ≤ 16) (hx : x < n)
    (hk : ∀ M', (∀ b j, ¬ (((179 : Nat) : Int) ≤ b ∧ b ≤ ((182 : Nat) : Int)) → M' b j = M b j) → K (some (0, ((zcr n (N td) μ (zrR n (N td) μ + 1) x : Nat) : Int))) M') : zR O F_ToldNet_coarsest [(2, ((0 : Nat) : Int)), (0, ((x : Nat) : Int))] M K := by
  obtain ⟨h1, h2, h3, h4⟩ := hD
  have hp := zPar179 hS
  have hp0 := hp.1
  have hp1 : zFld (zS O) ((179 : Nat) : Int) 3 0 = some (some (some 180)) := hp.2.1
  have hp7 : zArr (zS O) ((180 : Nat) : Int) .int 16 := hp.2.2.2.2.2.2.1
  have o1 := zo_1 hS
  apply r_ToldNet_coarsest hO
  unfold B_ToldNet_coarsest
  have f0_0 := zf_0_0 hS; have f0_12 := zf_0_12 hS; have f1_0 := zf_1_0 hS; have a2 := zCA (a := 2) (ty := .int) (n := 16) hS rfl; have z0 := zo_0 hS; have z1 := zo_1 hS
  ((with_reducible refine i_Seq (i_If (i_cNot (i_cZ_ne (i_Call (i_as1 (i_FR (i_A0 ?_)))))))); (with_reducible refine i_fldR (by assumption) ?_); (with_reducible refine i_as1 (i_L1 (i_as0 ?_))); (with_reducible refine i_recv0 (by assumption) ?_); (refine c_isPost hO hS h1 ⟨_, rfl, ?_⟩); (rw [decide_eq_true (show 0 ≤ ((x : Nat) : Int) ∧ ((x : Nat) : Int) < ((n : Nat) : Int) by omega)]); rw [zbI_t]; (with_reducible refine i_t (by omega) ?_); (with_reducible refine i_Seq (i_Pop (i_Call (i_as1 (i_FR (i_A0 ?_)))))); (with_reducible refine i_fldR (by assumption) ?_); (with_reducible refine i_as1 (i_Call (i_as1 (i_FR (i_A0 ?_))))); (with_reducible refine i_fldR (by assumption) ?_); (with_reducible refine i_as0 ?_); (with_reducible refine i_recv0 (by assumption) ?_); (refine c_now hO hS h2 htd ⟨_, rfl, ?_⟩); (with_reducible refine i_as1 (i_FR (i_FR (i_A0 ?_)))); (with_reducible refine i_fldR (by assumption) ?_); (with_reducible refine i_fldR (by assumption) ?_); (with_reducible refine i_as0 ?_); (with_reducible refine i_recv0 (by assumption) ?_))
  refine c_refine hO hS hp (by omega) (zNetD hS htd) (by omega) (h4 td (Nat.le_refl _)) hn1 hn2 hμ (fun M1 f1 g1 => ⟨_, rfl, ?_⟩)
  have g : M1 ((180 : Nat) : Int) ((x : Nat) : Int) = _ := g1.2.2.1 x hx
  rw [zcr_cg hn1] at g
  ((with_reducible refine i_RetI (i_IA (i_FR (i_FR (i_A0 ?_))))); (with_reducible refine i_fldR (by assumption) ?_); (with_reducible refine i_fldR (by assumption) ?_); (with_reducible refine i_L1 ?_); (with_reducible refine i_in (by assumption) (by omega) (by omega) ?_); (rw [g]))
  exact hk M1 (fun b j q => f1 b j (by omega))
theorem c_nearly_bad {O : zOm} (hO : zWld O) (hS : zS O = zmS zC0) {n : Nat} {a b : Int} {M : zMem} {K : Option zV → zMem → Prop} (hP : M ((1 : Nat) : Int) ((2 : Nat) : Int) = ((n : Nat) : Int)) (hb : ¬ ((0 ≤ b ∧ b < ((n : Nat) : Int)) ∧ 0 ≤ a ∧ a ≤ 14)) (hk : K (some (0, -1)) M) : zR O F_ToldNet_nearly [(2, ((0 : Nat) : Int)), (0, a), (0, b)] M K := by
  have o1 := zo_1 hS
  apply r_ToldNet_nearly hO
  unfold B_ToldNet_nearly
  have f0_0 := zf_0_0 hS; have f0_12 := zf_0_12 hS; have f1_0 := zf_1_0 hS; have a2 := zCA (a := 2) (ty := .int) (n := 16) hS rfl; have z0 := zo_0 hS; have z1 := zo_1 hS
  (focus ((with_reducible refine i_Seq (i_If (i_cOr (i_cOr (i_cNot (i_cZ_ne (i_Call (i_as1 (i_FR (i_A0 ?_)))))))))); (with_reducible refine i_fldR (by assumption) ?_); (with_reducible refine i_as1 (i_L2 (i_as0 ?_))); (with_reducible refine i_recv0 (by assumption) ?_); (refine c_isPost hO hS hP ⟨_, rfl, ?_⟩); (with_reducible refine i_dne ?_ ?_ <;> intro hc); (focus ((with_reducible refine i_cZ_lt (i_L1 ?_)); (with_reducible refine i_br ?_ ?_ <;> intro hc); (focus ((with_reducible refine i_RetI (i_I ?_)))); rotate_left; (focus ((with_reducible refine i_cI_gt (i_L1 (i_I ?_))); (with_reducible refine i_t (by omega) ?_); (with_reducible refine i_RetI (i_I ?_)))); rotate_right)); rotate_left 2; (focus ((with_reducible refine i_RetI (i_I ?_)))); rotate_right 2))
  all_goals first | exact hk | (exfalso; omega)
theorem c_nearly {O : zOm} (hO : zWld O) (hS : zS O = zmS zC0) {n td c k x : Nat} {N : Nat → Nat → Nat → Bool} {μ : Nat → Nat} {M : zMem} {K : Option zV → zMem → Prop} (hD : cDy M n td c N) (htd : td < 41) (hT : zReg n (N td)) (hn2 : n ≤ 16) (hμ : ∀ r : Nat, r < n → M ((2 : Nat) : Int) ((r : Nat) : Int) = ((μ r : Nat) : Int)) (hx : x < n) (hk14 : k ≤ 14)
    (hk : ∀ M', (∀ b j, ¬ (((179 : Nat) : Int) ≤ b ∧ b ≤ ((182 : Nat) : Int)) → M' b j = M b j) → K (some (0, (((zgc n k μ (N td) n).1 x : Nat) : Int))) M') : zR O F_ToldNet_nearly [(2, ((0 : Nat) : Int)), (0, ((k : Nat) : Int)), (0, ((x : Nat) : Int))] M K := by
  obtain ⟨h1, h2, h3, h4⟩ := hD
  have hp := zPar179 hS
  have hp0 := hp.1
  have hp1 : zFld (zS O) ((179 : Nat) : Int) 3 0 = some (some (some 180)) := hp.2.1
  have hp7 : zArr (zS O) ((180 : Nat) : Int) .int 16 := hp.2.2.2.2.2.2.1
  have o1 := zo_1 hS
  apply r_ToldNet_nearly hO
  unfold B_ToldNet_nearly
  have f0_0 := zf_0_0 hS; have f0_12 := zf_0_12 hS; have f1_0 := zf_1_0 hS; have a2 := zCA (a := 2) (ty := .int) (n := 16) hS rfl; have z0 := zo_0 hS; have z1 := zo_1 hS
  ((with_reducible refine i_Seq (i_If (i_cOr (i_cOr (i_cNot (i_cZ_ne (i_Call (i_as1 (i_FR (i_A0 ?_)))))))))); (with_reducible refine i_fldR (by assumption) ?_); (with_reducible refine i_as1 (i_L2 (i_as0 ?_))); (with_reducible refine i_recv0 (by assumption) ?_); (refine c_isPost hO hS h1 ⟨_, rfl, ?_⟩); (rw [decide_eq_true (show 0 ≤ ((x : Nat) : Int) ∧ ((x : Nat) : Int) < ((n : Nat) : Int) by omega)]); rw [zbI_t]; (with_reducible refine i_t (by omega) ?_); (with_reducible refine i_cZ_lt (i_L1 ?_)); (with_reducible refine i_f (by omega) ?_); (with_reducible refine i_cI_gt (i_L1 (i_I ?_))); (with_reducible refine i_f (by omega) ?_); (with_reducible refine i_Seq (i_sCall (i_as1 (i_FR (i_A0 ?_))))); (with_reducible refine i_fldR (by assumption) ?_); (with_reducible refine i_as1 (i_Call (i_as1 (i_FR (i_A0 ?_))))); (with_reducible refine i_fldR (by assumption) ?_); (with_reducible refine i_as0 ?_); (with_reducible refine i_recv0 (by assumption) ?_); (refine c_now hO hS h2 htd ⟨_, rfl, ?_⟩); (with_reducible refine i_as1 (i_FR (i_FR (i_A0 ?_)))); (with_reducible refine i_fldR (by assumption) ?_); (with_reducible refine i_fldR (by assumption) ?_); (with_reducible refine i_as1 (i_L1 (i_as0 ?_))); (with_reducible refine i_recv0 (by assumption) ?_))
  refine c_group hO hS hp (by omega) (zNetD hS htd) (by omega) (h4 td (Nat.le_refl _)) hT hn2 hμ hk14 (fun M1 f1 g1 => ⟨rfl, ?_⟩)
  have g : M1 ((180 : Nat) : Int) ((x : Nat) : Int) = _ := g1 x hx
  ((with_reducible refine i_RetI (i_IA (i_FR (i_FR (i_A0 ?_))))); (with_reducible refine i_fldR (by assumption) ?_); (with_reducible refine i_fldR (by assumption) ?_); (with_reducible refine i_L2 ?_); (with_reducible refine i_in (by assumption) (by omega) (by omega) ?_); (rw [g]))
  exact hk M1 (fun b j q => f1 b j (by omega))
theorem c_bound {O : zOm} (hO : zWld O) (hS : zS O = zmS zC0) {n td c : Nat} {N : Nat → Nat → Nat → Bool} {M : zMem} {K : Option zV → zMem → Prop} (hD : cDy M n td c N) (htd : td < 41) (hT : zReg n (N td)) (hn1 : 0 < n) (hn2 : n ≤ 16)
    (hk : ∀ M', (∀ b j, ¬ (((112 : Nat) : Int) ≤ b ∧ b ≤ ((115 : Nat) : Int) ∨ b = ((132 : Nat) : Int) ∨ b = ((133 : Nat) : Int)) → M' b j = M b j) → K (some (0, ((n * zBits n + zbd n (N td) (n - 1) : Nat) : Int))) M') : zR O F_ToldNet_bound [(2, ((0 : Nat) : Int))] M K := by
  obtain ⟨h1, h2, h3, h4⟩ := hD
  have o1 := zo_1 hS
  apply r_ToldNet_bound hO
  unfold B_ToldNet_bound
  have f0_7 := zf_0_7 hS; have f0_0 := zf_0_0 hS; have z0 := zo_0 hS; have z1 := zo_1 hS; have z108 := zo_108 hS
  ((with_reducible refine i_RetI (i_Call (i_as1 (i_FR (i_A0 ?_))))); (with_reducible refine i_fldR (by assumption) ?_); (with_reducible refine i_as1 (i_Call (i_as1 (i_FR (i_A0 ?_))))); (with_reducible refine i_fldR (by assumption) ?_); (with_reducible refine i_as0 ?_); (with_reducible refine i_recv0 (by assumption) ?_); (refine c_now hO hS h2 htd ⟨_, rfl, ?_⟩); (with_reducible refine i_as0 ?_); (with_reducible refine i_recv0 (by assumption) ?_))
  refine c_boundBelow hO hS (zNetD hS htd) (by omega) (h4 td (Nat.le_refl _)) hT hn1 hn2 (fun M1 f1 => ⟨_, rfl, ?_⟩)
  (skip)
  exact hk M1 f1
theorem c_bests_bad {O : zOm} (hO : zWld O) (hS : zS O = zmS zC0) {n : Nat} {M : zMem} {K : Option zV → zMem → Prop} (hP : M ((1 : Nat) : Int) ((2 : Nat) : Int) = ((n : Nat) : Int)) (hn2 : 8 < n) (hk : K (some (0, -1)) M) : zR O F_ToldNet_bests [(2, ((0 : Nat) : Int))] M K := by
  have o1 := zo_1 hS
  apply r_ToldNet_bests hO
  unfold B_ToldNet_bests
  have f0_0 := zf_0_0 hS; have f1_2 := zf_1_2 hS; have f0_7 := zf_0_7 hS; have f0_12 := zf_0_12 hS; have z0 := zo_0 hS; have z1 := zo_1 hS; have z108 := zo_108 hS
  ((with_reducible refine i_RetI (i_eIf (i_cI_gt (i_F (i_FR (i_A0 ?_)))))); (with_reducible refine i_fldR (by assumption) ?_); (with_reducible refine i_fld (by assumption) ?_); (with_reducible refine i_I ?_); (rw [hP]); (with_reducible refine i_t (by omega) ?_); (with_reducible refine i_I ?_))
  exact hk
theorem c_bests {O : zOm} (hO : zWld O) (hS : zS O = zmS zC0) {n td c K0 : Nat} {N : Nat → Nat → Nat → Bool} {M : zMem} {K : Option zV → zMem → Prop} (hD : cDy M n td c N) (htd : td < 41) (hT : zReg n (N td)) (hn1 : 0 < n) (hn2 : n ≤ 8) (hE : zgE n K0) (hK0 : K0 < 100000)
    (hk : ∀ M', (∀ b j, ¬ (((108 : Nat) : Int) ≤ b ∧ b ≤ ((131 : Nat) : Int) ∨ ((179 : Nat) : Int) ≤ b ∧ b ≤ ((182 : Nat) : Int)) → M' b j = M b j) → K (some (0, (((zLs n (N td) K0).2.1 : Nat) : Int))) M') : zR O F_ToldNet_bests [(2, ((0 : Nat) : Int))] M K := by
  obtain ⟨h1, h2, h3, h4⟩ := hD
  have o1 := zo_1 hS
  apply r_ToldNet_bests hO
  unfold B_ToldNet_bests
  have f0_0 := zf_0_0 hS; have f1_2 := zf_1_2 hS; have f0_7 := zf_0_7 hS; have f0_12 := zf_0_12 hS; have z0 := zo_0 hS; have z1 := zo_1 hS; have z108 := zo_108 hS
  ((with_reducible refine i_RetI (i_eIf (i_cI_gt (i_F (i_FR (i_A0 ?_)))))); (with_reducible refine i_fldR (by assumption) ?_); (with_reducible refine i_fld (by assumption) ?_); (with_reducible refine i_I ?_); (rw [h1]); (with_reducible refine i_f (by omega) ?_); (with_reducible refine i_Call (i_as1 (i_FR (i_A0 ?_)))); (with_reducible refine i_fldR (by assumption) ?_); (with_reducible refine i_as1 (i_Call (i_as1 (i_FR (i_A0 ?_))))); (with_reducible refine i_fldR (by assumption) ?_); (with_reducible refine i_as0 ?_); (with_reducible refine i_recv0 (by assumption) ?_); (refine c_now hO hS h2 htd ⟨_, rfl, ?_⟩); (with_reducible refine i_as1 (i_FR (i_A0 ?_))); (with_reducible refine i_fldR (by assumption) ?_); (with_reducible refine i_as0 ?_); (with_reducible refine i_recv0 (by assumption) ?_))
  refine c_partLeast hO hS (zNetD hS htd) (by omega) (zPar179 hS) (by omega) (h4 td (Nat.le_refl _)) hT hn1 (by omega) hE hK0 (fun M1 f1 g1 => ⟨_, rfl, ?_⟩)
  (skip)
  exact hk M1 (fun b j q => f1 b j (by omega))
