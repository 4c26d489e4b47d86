/-! ===== box, drop: both sides ===== -/
theorem m_box_bad {O : zOm} (hO : zWld O) (hS : zS O = zmS zC0) {t p : Int} {T n : Nat} {M : zMem} {K : Option zV → zMem → Prop} (hT : M 250 ((11 : Nat) : Int) = ((T : Nat) : Int)) (hn : M 250 ((1 : Nat) : Int) = ((n : Nat) : Int)) (hb : ¬ ((0 ≤ t ∧ t < ((T : Nat) : Int)) ∧ (0 ≤ p ∧ p < ((n : Nat) : Int)))) (hk : K (some (0, -1)) M) : zR O F_Model_box [(2, 250), (0, t), (0, p)] M K := by
  apply r_Model_box hO
  unfold B_Model_box
  have f13 := zMF (k := 13) hS rfl; have a259 := zMA (a := 259) (ty := .int) (n := 112) hS rfl; have zo := zMO hS
  by_cases ht : 0 ≤ t ∧ t < ((T : Nat) : Int)
  · ((with_reducible refine i_RetI (i_eIf (i_cAnd (i_cZ_ne (i_Call (i_as1 (i_A0 (i_as1 (i_L1 (i_as0 ?_)))))))))); (with_reducible refine i_recv0 (by assumption) ?_); (refine m_isTelling hO hS hT ⟨_, rfl, ?_⟩); (rw [decide_eq_true ht]); rw [zbI_t]; (with_reducible refine i_t (by omega) ?_); (with_reducible refine i_cZ_ne (i_Call (i_as1 (i_A0 (i_as1 (i_L2 (i_as0 ?_))))))); (with_reducible refine i_recv0 (by assumption) ?_); (refine m_isPost hO hS hn ⟨_, rfl, ?_⟩); (rw [decide_eq_false (show ¬ (0 ≤ p ∧ p < ((n : Nat) : Int)) from fun z => hb ⟨ht, z⟩)]); rw [zbI_f]; (with_reducible refine i_f (by omega) ?_); (with_reducible refine i_I ?_))
    exact hk
  · ((with_reducible refine i_RetI (i_eIf (i_cAnd (i_cZ_ne (i_Call (i_as1 (i_A0 (i_as1 (i_L1 (i_as0 ?_)))))))))); (with_reducible refine i_recv0 (by assumption) ?_); (refine m_isTelling hO hS hT ⟨_, rfl, ?_⟩); (rw [decide_eq_false ht]); rw [zbI_f]; (with_reducible refine i_f (by omega) ?_); (with_reducible refine i_I ?_))
    exact hk
theorem m_box {O : zOm} (hO : zWld O) (hS : zS O = zmS zC0) {t p T n : Nat} {A : zTl} {M : zMem} {K : Option zV → zMem → Prop} (hT : M 250 ((11 : Nat) : Int) = ((T : Nat) : Int)) (hT5 : T ≤ 5) (ht : t < T) (hn : M 250 ((1 : Nat) : Int) = ((n : Nat) : Int)) (hn2 : n ≤ 16) (hA : rTe M t n A) (hw : zTw n A) (hp : p < n) (hk : K (some (0, ((tf A p : Nat) : Int))) M) : zR O F_Model_box [(2, 250), (0, ((t : Nat) : Int)), (0, ((p : Nat) : Int))] M K := by
  have g := hA.1.2.1 p hp
  apply r_Model_box hO
  unfold B_Model_box
  have f13 := zMF (k := 13) hS rfl; have a259 := zMA (a := 259) (ty := .int) (n := 112) hS rfl; have zo := zMO hS
  ((with_reducible refine i_RetI (i_eIf (i_cAnd (i_cZ_ne (i_Call (i_as1 (i_A0 (i_as1 (i_L1 (i_as0 ?_)))))))))); (with_reducible refine i_recv0 (by assumption) ?_); (refine m_isTelling hO hS hT ⟨_, rfl, ?_⟩); (rw [decide_eq_true (show 0 ≤ ((t : Nat) : Int) ∧ ((t : Nat) : Int) < ((T : Nat) : Int) by omega)]); rw [zbI_t]; (with_reducible refine i_t (by omega) ?_); (with_reducible refine i_cZ_ne (i_Call (i_as1 (i_A0 (i_as1 (i_L2 (i_as0 ?_))))))); (with_reducible refine i_recv0 (by assumption) ?_); (refine m_isPost hO hS hn ⟨_, rfl, ?_⟩); (rw [decide_eq_true (show 0 ≤ ((p : Nat) : Int) ∧ ((p : Nat) : Int) < ((n : Nat) : Int) by omega)]); rw [zbI_t]; (with_reducible refine i_t (by omega) ?_); (with_reducible refine i_IA (i_FR (i_A0 ?_))); (with_reducible refine i_fldR (by assumption) ?_); (with_reducible refine i_Add (i_Mul (i_I (i_L1 (i_L2 ?_))))); rw [zx_cmul (by omega)]; rw [zx_add (by omega)]; (with_reducible refine i_in (by assumption) (by omega) (by omega) ?_); (rw [g]))
  exact hk
theorem c_box_bad {O : zOm} (hO : zWld O) (hS : zS O = zmS zC0) {t p : Int} {T n : Nat} {M : zMem} {K : Option zV → zMem → Prop} (hT : M ((0 : Nat) : Int) ((4 : Nat) : Int) = ((T : Nat) : Int)) (hT5 : T ≤ 5) (hP : M ((1 : Nat) : Int) ((2 : Nat) : Int) = ((n : Nat) : Int)) (hb : ¬ ((0 ≤ t ∧ t < ((T : Nat) : Int)) ∧ (0 ≤ p ∧ p < ((n : Nat) : Int)))) (hk : K (some (0, -1)) M) : zR O F_ToldNet_box [(2, ((0 : Nat) : Int)), (0, t), (0, p)] M K := by
  have o1 := zo_1 hS
  apply r_ToldNet_box hO
  unfold B_ToldNet_box
  have f0_0 := zf_0_0 hS; have z0 := zo_0 hS; have z1 := zo_1 hS
  ((with_reducible refine i_Seq (i_Set (i_Call (i_as1 (i_A0 (i_as1 (i_L1 (i_as0 ?_)))))))); (with_reducible refine i_recv0 (by assumption) ?_); simp only [w_set0, w_set1, w_setn0, w_setn1])
  refine c_find hO hS hT hT5 (fun hx => ⟨_, rfl, ?_⟩) (fun k e hk1 => ⟨_, rfl, ?_⟩)
  · ((with_reducible refine i_Seq (i_If (i_cOr (i_cN (i_A3 ?_))))); simp only [w_set0, w_set1, w_setn0, w_setn1]; (with_reducible refine i_t trivial ?_); (with_reducible refine i_RetI (i_I ?_)))
    exact hk
  · ((with_reducible refine i_Seq (i_If (i_cOr (i_cN (i_A3 ?_))))); (with_reducible refine i_f (by omega) ?_); (with_reducible refine i_cNot (i_cZ_ne (i_Call (i_as1 (i_FR (i_A0 ?_)))))); (with_reducible refine i_fldR (by assumption) ?_); (with_reducible refine i_as1 (i_L2 (i_as0 ?_))); (with_reducible refine i_recv0 (by assumption) ?_); (refine c_isPost hO hS hP ⟨_, rfl, ?_⟩); (rw [decide_eq_false (show ¬ (0 ≤ p ∧ p < ((n : Nat) : Int)) from fun z => hb ⟨by omega, z⟩)]); rw [zbI_f]; (with_reducible refine i_f (by omega) ?_); (with_reducible refine i_RetI (i_I ?_)))
    exact hk
theorem c_box {O : zOm} (hO : zWld O) (hS : zS O = zmS zC0) {t p T n : Nat} {A : zTl} {M : zMem} {K : Option zV → zMem → Prop} (hT : M ((0 : Nat) : Int) ((4 : Nat) : Int) = ((T : Nat) : Int)) (hT5 : T ≤ 5) (ht : t < T) (hP : M ((1 : Nat) : Int) ((2 : Nat) : Int) = ((n : Nat) : Int)) (hn2 : n ≤ 16) (hA : zTR M (185 + 13 * t) n A) (hp : p < n) (hk : K (some (0, ((tf A p : Nat) : Int))) M) : zR O F_ToldNet_box [(2, ((0 : Nat) : Int)), (0, ((t : Nat) : Int)), (0, ((p : Nat) : Int))] M K := by
  have o1 := zo_1 hS
  obtain ⟨⟨x0, x1, x2, x3, x4, x5, x6, x7⟩, ⟨xa, xb⟩, ⟨p0, p1, p2, p3, p4, p5, p6, p7, p8⟩, ⟨n7, n9, n11⟩⟩ := zTelT hS (show t < 5 by omega)
  have g := hA.1.2.2.1 p hp
  apply r_ToldNet_box hO
  unfold B_ToldNet_box
  have f0_0 := zf_0_0 hS; have z0 := zo_0 hS; have z1 := zo_1 hS
  ((with_reducible refine i_Seq (i_Set (i_Call (i_as1 (i_A0 (i_as1 (i_L1 (i_as0 ?_)))))))); (with_reducible refine i_recv0 (by assumption) ?_); simp only [w_set0, w_set1, w_setn0, w_setn1])
  refine c_find hO hS hT hT5 (fun hx => absurd (show 0 ≤ ((t : Nat) : Int) ∧ ((t : Nat) : Int) < ((T : Nat) : Int) by omega) hx) (fun k e hk1 => ⟨_, rfl, ?_⟩)
  rw [show k = t by omega]
  ((with_reducible refine i_Seq (i_If (i_cOr (i_cN (i_A3 ?_))))); (with_reducible refine i_f (by omega) ?_); (with_reducible refine i_cNot (i_cZ_ne (i_Call (i_as1 (i_FR (i_A0 ?_)))))); (with_reducible refine i_fldR (by assumption) ?_); (with_reducible refine i_as1 (i_L2 (i_as0 ?_))); (with_reducible refine i_recv0 (by assumption) ?_); (refine c_isPost hO hS hP ⟨_, rfl, ?_⟩); (rw [decide_eq_true (show 0 ≤ ((p : Nat) : Int) ∧ ((p : Nat) : Int) < ((n : Nat) : Int) by omega)]); rw [zbI_t]; (with_reducible refine i_t (by omega) ?_); (with_reducible refine i_RetI (i_IA (i_FR (i_FR (i_A3 ?_))))); (with_reducible refine i_fldR (by assumption) ?_); (with_reducible refine i_fldR (by assumption) ?_); (with_reducible refine i_L2 ?_); (with_reducible refine i_in (by assumption) (by omega) (by omega) ?_); (rw [g]))
  exact hk
theorem c_drop_bad {O : zOm} (hO : zWld O) (hS : zS O = zmS zC0) {M : zMem} {K : Option zV → zMem → Prop} (hT : M ((0 : Nat) : Int) ((4 : Nat) : Int) = ((0 : Nat) : Int)) (hk : K (some (0, -1)) M) : zR O F_ToldNet_drop [(2, ((0 : Nat) : Int))] M K := by
  have hT2 : M ((0 : Nat) : Int) ((4 : Nat) : Int) = 0 := hT
  apply r_ToldNet_drop hO
  unfold B_ToldNet_drop
  have f0_4 := zf_0_4 hS; have z0 := zo_0 hS
  ((with_reducible refine i_Seq (i_If (i_cZ_eq (i_F (i_A0 ?_))))); (with_reducible refine i_fld (by assumption) ?_); (rw [hT2]); simp only [w_set0, w_set1, w_setn0, w_setn1]; (with_reducible refine i_t trivial ?_); (with_reducible refine i_RetI (i_I ?_)))
  exact hk
theorem c_drop {O : zOm} (hO : zWld O) (hS : zS O = zmS zC0) {T : Nat} {M : zMem} {K : Option zV → zMem → Prop} (hT : M ((0 : Nat) : Int) ((4 : Nat) : Int) = ((T + 1 : Nat) : Int)) (hT5 : T < 5) (hk : ∀ M', (∀ b j, ¬ (b = ((0 : Nat) : Int) ∧ j = 4) → M' b j = M b j) → M' ((0 : Nat) : Int) ((4 : Nat) : Int) = ((T : Nat) : Int) → K (some (0, ((T : Nat) : Int))) M') : zR O F_ToldNet_drop [(2, ((0 : Nat) : Int))] M K := by
  apply r_ToldNet_drop hO
  unfold B_ToldNet_drop
  have f0_4 := zf_0_4 hS; have z0 := zo_0 hS
  ((with_reducible refine i_Seq (i_If (i_cZ_eq (i_F (i_A0 ?_))))); (with_reducible refine i_fld (by assumption) ?_); (rw [hT]); (with_reducible refine i_f (by omega) ?_); (with_reducible refine i_Seq (i_FO (i_A0 ?_))); (with_reducible refine i_fld (by assumption) ?_); (with_reducible refine i_I ?_); (with_reducible refine i_fld (by assumption) ?_); (with_reducible refine i_RetI (i_F (i_A0 ?_))); (with_reducible refine i_fld (by assumption) ?_); rw [zg_s]; (rw [hT]); rw [zx_subc (by omega) (by omega)])
  exact hk _ (fun b j q => by rw [zg_o _ _ (by omega)]) (zg_s _ _ _ _ _)
