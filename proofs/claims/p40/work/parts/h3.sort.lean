/-! ===== sort, mean: both sides ===== -/
theorem m_sort_bad {O : zOm} (hO : zWld O) (hS : zS O = zmS zC0) {t a b w s : Int} {T n : Nat} {M : zMem} {K : Option zV → zMem → Prop} (hT : M 250 ((11 : Nat) : Int) = ((T : Nat) : Int)) (hn : M 250 ((1 : Nat) : Int) = ((n : Nat) : Int)) (hb : ¬ ((0 ≤ t ∧ t < ((T : Nat) : Int)) ∧ ((0 ≤ a ∧ a < ((n : Nat) : Int)) ∧ (0 ≤ b ∧ b < ((n : Nat) : Int)) ∧ a ≠ b) ∧ 0 ≤ w ∧ w ≤ 1)) (hk : K (some (0, -1)) M) : zR O F_Model_sort [(2, 250), (0, t), (0, a), (0, b), (0, s), (0, w)] M K := by
  apply r_Model_sort hO
  unfold B_Model_sort
  have f23 := zMF (k := 23) hS rfl; have a269 := zMA (a := 269) (ty := .int) (n := 512) hS rfl; have f24 := zMF (k := 24) hS rfl; have a270 := zMA (a := 270) (ty := .int) (n := 512) hS rfl; have zo := zMO hS
  by_cases ht : 0 ≤ t ∧ t < ((T : Nat) : Int)
  · by_cases hp : (0 ≤ a ∧ a < ((n : Nat) : Int)) ∧ (0 ≤ b ∧ b < ((n : Nat) : Int)) ∧ a ≠ b
    · by_cases h0 : w < 0
      · ((with_reducible refine i_Seq (i_If (i_cOr (i_cOr (i_cOr (i_cNot (i_cZ_ne (i_Call (i_as1 (i_A0 (i_as1 (i_L1 (i_as0 ?_))))))))))))); (with_reducible refine i_recv0 (by assumption) ?_); (refine m_isTelling hO hS hT ⟨_, rfl, ?_⟩); (rw [decide_eq_true ht]); rw [zbI_t]; (with_reducible refine i_t (by omega) ?_); (with_reducible refine i_cNot (i_cZ_ne (i_Call (i_as1 (i_A0 (i_as1 (i_L2 (i_as1 (i_L3 (i_as0 ?_)))))))))); (with_reducible refine i_recv0 (by assumption) ?_); (refine m_isPair hO hS hn ⟨_, rfl, ?_⟩); (rw [decide_eq_true hp]); rw [zbI_t]; (with_reducible refine i_t (by omega) ?_); (with_reducible refine i_cZ_lt (i_L5 ?_)); (with_reducible refine i_t (by omega) ?_); (with_reducible refine i_RetI (i_I ?_)))
        exact hk
      · have h1 : 1 < w := by omega
        ((with_reducible refine i_Seq (i_If (i_cOr (i_cOr (i_cOr (i_cNot (i_cZ_ne (i_Call (i_as1 (i_A0 (i_as1 (i_L1 (i_as0 ?_))))))))))))); (with_reducible refine i_recv0 (by assumption) ?_); (refine m_isTelling hO hS hT ⟨_, rfl, ?_⟩); (rw [decide_eq_true ht]); rw [zbI_t]; (with_reducible refine i_t (by omega) ?_); (with_reducible refine i_cNot (i_cZ_ne (i_Call (i_as1 (i_A0 (i_as1 (i_L2 (i_as1 (i_L3 (i_as0 ?_)))))))))); (with_reducible refine i_recv0 (by assumption) ?_); (refine m_isPair hO hS hn ⟨_, rfl, ?_⟩); (rw [decide_eq_true hp]); rw [zbI_t]; (with_reducible refine i_t (by omega) ?_); (with_reducible refine i_cZ_lt (i_L5 ?_)); (with_reducible refine i_f (by omega) ?_); (with_reducible refine i_cI_gt (i_L5 (i_I ?_))); (with_reducible refine i_t (by omega) ?_); (with_reducible refine i_RetI (i_I ?_)))
        exact hk
    · ((with_reducible refine i_Seq (i_If (i_cOr (i_cOr (i_cOr (i_cNot (i_cZ_ne (i_Call (i_as1 (i_A0 (i_as1 (i_L1 (i_as0 ?_))))))))))))); (with_reducible refine i_recv0 (by assumption) ?_); (refine m_isTelling hO hS hT ⟨_, rfl, ?_⟩); (rw [decide_eq_true ht]); rw [zbI_t]; (with_reducible refine i_t (by omega) ?_); (with_reducible refine i_cNot (i_cZ_ne (i_Call (i_as1 (i_A0 (i_as1 (i_L2 (i_as1 (i_L3 (i_as0 ?_)))))))))); (with_reducible refine i_recv0 (by assumption) ?_); (refine m_isPair hO hS hn ⟨_, rfl, ?_⟩); (rw [decide_eq_false hp]); rw [zbI_f]; (with_reducible refine i_f (by omega) ?_); (with_reducible refine i_RetI (i_I ?_)))
      exact hk
  · ((with_reducible refine i_Seq (i_If (i_cOr (i_cOr (i_cOr (i_cNot (i_cZ_ne (i_Call (i_as1 (i_A0 (i_as1 (i_L1 (i_as0 ?_))))))))))))); (with_reducible refine i_recv0 (by assumption) ?_); (refine m_isTelling hO hS hT ⟨_, rfl, ?_⟩); (rw [decide_eq_false ht]); rw [zbI_f]; (with_reducible refine i_f (by omega) ?_); (with_reducible refine i_RetI (i_I ?_)))
    exact hk
theorem m_sort {O : zOm} (hO : zWld O) (hS : zS O = zmS zC0) {t T n a b w : Nat} {s : Bool} {A : zTl} {M : zMem} {K : Option zV → zMem → Prop} (hT : M 250 ((11 : Nat) : Int) = ((T : Nat) : Int)) (hT5 : T ≤ 5) (ht : t < T) (hn : M 250 ((1 : Nat) : Int) = ((n : Nat) : Int)) (hn2 : n ≤ 16) (hA : rTe M t n A) (hw : zTw n A) (ha : a < n) (hb : b < n) (hab : a ≠ b) (hw1 : w ≤ 1)
    (hk : ∀ M', (∀ b j, ¬ (b = 268 ∨ b = 269 ∨ b = 270) → M' b j = M b j) → K (some (0, ((if w = 0 then tR n A (zso (tf A) a b s) else tQ n A (zso (tf A) a b s) : Nat) : Int))) M') : zR O F_Model_sort [(2, 250), (0, ((t : Nat) : Int)), (0, ((a : Nat) : Int)), (0, ((b : Nat) : Int)), (0, zbI s), (0, ((w : Nat) : Int))] M K := by
  have hzs : zso (tf A) a b s < 512 := zso_lt (hw.f16 a ha) (hw.f16 b hb)
  apply r_Model_sort hO
  unfold B_Model_sort
  have f23 := zMF (k := 23) hS rfl; have a269 := zMA (a := 269) (ty := .int) (n := 512) hS rfl; have f24 := zMF (k := 24) hS rfl; have a270 := zMA (a := 270) (ty := .int) (n := 512) hS rfl; have zo := zMO hS
  ((with_reducible refine i_Seq (i_If (i_cOr (i_cOr (i_cOr (i_cNot (i_cZ_ne (i_Call (i_as1 (i_A0 (i_as1 (i_L1 (i_as0 ?_))))))))))))); (with_reducible refine i_recv0 (by assumption) ?_); (refine m_isTelling hO hS hT ⟨_, rfl, ?_⟩); (rw [decide_eq_true (show 0 ≤ ((t : Nat) : Int) ∧ ((t : Nat) : Int) < ((T : Nat) : Int) by omega)]); rw [zbI_t]; (with_reducible refine i_t (by omega) ?_); (with_reducible refine i_cNot (i_cZ_ne (i_Call (i_as1 (i_A0 (i_as1 (i_L2 (i_as1 (i_L3 (i_as0 ?_)))))))))); (with_reducible refine i_recv0 (by assumption) ?_); (refine m_isPair hO hS hn ⟨_, rfl, ?_⟩); (rw [decide_eq_true (show (0 ≤ ((a : Nat) : Int) ∧ ((a : Nat) : Int) < ((n : Nat) : Int)) ∧ (0 ≤ ((b : Nat) : Int) ∧ ((b : Nat) : Int) < ((n : Nat) : Int)) ∧ ((a : Nat) : Int) ≠ ((b : Nat) : Int) by omega)]); rw [zbI_t]; (with_reducible refine i_t (by omega) ?_); (with_reducible refine i_cZ_lt (i_L5 ?_)); (with_reducible refine i_f (by omega) ?_); (with_reducible refine i_cI_gt (i_L5 (i_I ?_))); (with_reducible refine i_f (by omega) ?_); (with_reducible refine i_Seq (i_sCall (i_as1 (i_A0 (i_as1 (i_L1 (i_as0 ?_))))))); (with_reducible refine i_recv0 (by assumption) ?_))
  refine m_sorts hO hS (by omega) hn hn2 hA hw (fun M1 f1 S1 R1 => ⟨rfl, ?_⟩)
  have hA1 : rTe M1 t n A := hA.to hn2 hw (fun b j q => f1 b j (by omega))
  obtain ⟨r1, r2⟩ := R1 _ hzs
  ((with_reducible refine i_Seq (i_Set (i_Call (i_as1 (i_A0 (i_as1 (i_L1 (i_as1 (i_L2 (i_as1 (i_L3 (i_as1 (i_L4 (i_as0 ?_)))))))))))))); (with_reducible refine i_recv0 (by assumption) ?_); simp only [w_set0, w_set1, w_setn0, w_setn1])
  refine m_sortOf hO hS (by omega) hn2 hA1.1.2.1 hw.f16 ha hb ⟨_, rfl, ?_⟩
  rcases (show w = 0 ∨ w = 1 by omega) with rfl | rfl
  · have h2 := hk M1 f1
    rw [if_pos rfl] at h2
    generalize zso (tf A) a b s = z at hzs r1 r2 h2 ⊢
    ((with_reducible refine i_RetI (i_eIf (i_cZ_eq (i_L5 ?_)))); (with_reducible refine i_t (by omega) ?_); (with_reducible refine i_IA (i_FR (i_A0 ?_))); (with_reducible refine i_fldR (by assumption) ?_); (with_reducible refine i_L6 ?_); (with_reducible refine i_in (by assumption) (by omega) (by omega) ?_); (rw [r1]))
    exact h2
  · have h2 := hk M1 f1
    rw [if_neg (by decide)] at h2
    generalize zso (tf A) a b s = z at hzs r1 r2 h2 ⊢
    ((with_reducible refine i_RetI (i_eIf (i_cZ_eq (i_L5 ?_)))); (with_reducible refine i_f (by omega) ?_); (with_reducible refine i_IA (i_FR (i_A0 ?_))); (with_reducible refine i_fldR (by assumption) ?_); (with_reducible refine i_L6 ?_); (with_reducible refine i_in (by assumption) (by omega) (by omega) ?_); (rw [r2]))
    exact h2
theorem c_sort_bad {O : zOm} (hO : zWld O) (hS : zS O = zmS zC0) {t a b w s : Int} {T n : Nat} {M : zMem} {K : Option zV → zMem → Prop} (hT : M ((0 : Nat) : Int) ((4 : Nat) : Int) = ((T : Nat) : Int)) (hT5 : T ≤ 5) (hP : M ((1 : Nat) : Int) ((2 : Nat) : Int) = ((n : Nat) : Int)) (hb : ¬ ((0 ≤ t ∧ t < ((T : Nat) : Int)) ∧ ((0 ≤ a ∧ a < ((n : Nat) : Int)) ∧ (0 ≤ b ∧ b < ((n : Nat) : Int)) ∧ a ≠ b) ∧ 0 ≤ w ∧ w ≤ 1)) (hk : K (some (0, -1)) M) : zR O F_ToldNet_sort [(2, ((0 : Nat) : Int)), (0, t), (0, a), (0, b), (0, s), (0, w)] M K := by
  have o1 := zo_1 hS
  apply r_ToldNet_sort hO
  unfold B_ToldNet_sort
  have f0_0 := zf_0_0 hS; have f0_8 := zf_0_8 hS; have f134_0 := zf_134_0 hS; have a135 := zCA (a := 135) (ty := .int) (n := 512) hS rfl; have f134_1 := zf_134_1 hS; have a136 := zCA (a := 136) (ty := .int) (n := 512) hS rfl; have z0 := zo_0 hS; have z1 := zo_1 hS; have z134 := zo_134 hS
  ((with_reducible refine i_Seq (i_Set (i_Call (i_as1 (i_A0 (i_as1 (i_L1 (i_as0 ?_)))))))); (with_reducible refine i_recv0 (by assumption) ?_); simp only [w_set0, w_set1, w_setn0, w_setn1])
  refine c_find hO hS hT hT5 (fun hx => ⟨_, rfl, ?_⟩) (fun k e hk1 => ⟨_, rfl, ?_⟩)
  · ((with_reducible refine i_Seq (i_If (i_cOr (i_cOr (i_cOr (i_cN (i_A6 ?_))))))); simp only [w_set0, w_set1, w_setn0, w_setn1]; (with_reducible refine i_t trivial ?_); (with_reducible refine i_RetI (i_I ?_)))
    exact hk
  · by_cases hp : (0 ≤ a ∧ a < ((n : Nat) : Int)) ∧ (0 ≤ b ∧ b < ((n : Nat) : Int)) ∧ a ≠ b
    · by_cases h0 : w < 0
      · ((with_reducible refine i_Seq (i_If (i_cOr (i_cOr (i_cOr (i_cN (i_A6 ?_))))))); (with_reducible refine i_f (by omega) ?_); (with_reducible refine i_cNot (i_cZ_ne (i_Call (i_as1 (i_FR (i_A0 ?_)))))); (with_reducible refine i_fldR (by assumption) ?_); (with_reducible refine i_as1 (i_L2 (i_as1 (i_L3 (i_as0 ?_))))); (with_reducible refine i_recv0 (by assumption) ?_); (refine c_isPair hO hS hP ⟨_, rfl, ?_⟩); (rw [decide_eq_true hp]); rw [zbI_t]; (with_reducible refine i_t (by omega) ?_); (with_reducible refine i_cZ_lt (i_L5 ?_)); (with_reducible refine i_t (by omega) ?_); (with_reducible refine i_RetI (i_I ?_)))
        exact hk
      · have h1 : 1 < w := by omega
        ((with_reducible refine i_Seq (i_If (i_cOr (i_cOr (i_cOr (i_cN (i_A6 ?_))))))); (with_reducible refine i_f (by omega) ?_); (with_reducible refine i_cNot (i_cZ_ne (i_Call (i_as1 (i_FR (i_A0 ?_)))))); (with_reducible refine i_fldR (by assumption) ?_); (with_reducible refine i_as1 (i_L2 (i_as1 (i_L3 (i_as0 ?_))))); (with_reducible refine i_recv0 (by assumption) ?_); (refine c_isPair hO hS hP ⟨_, rfl, ?_⟩); (rw [decide_eq_true hp]); rw [zbI_t]; (with_reducible refine i_t (by omega) ?_); (with_reducible refine i_cZ_lt (i_L5 ?_)); (with_reducible refine i_f (by omega) ?_); (with_reducible refine i_cI_gt (i_L5 (i_I ?_))); (with_reducible refine i_t (by omega) ?_); (with_reducible refine i_RetI (i_I ?_)))
        exact hk
    · ((with_reducible refine i_Seq (i_If (i_cOr (i_cOr (i_cOr (i_cN (i_A6 ?_))))))); (with_reducible refine i_f (by omega) ?_); (with_reducible refine i_cNot (i_cZ_ne (i_Call (i_as1 (i_FR (i_A0 ?_)))))); (with_reducible refine i_fldR (by assumption) ?_); (with_reducible refine i_as1 (i_L2 (i_as1 (i_L3 (i_as0 ?_))))); (with_reducible refine i_recv0 (by assumption) ?_); (refine c_isPair hO hS hP ⟨_, rfl, ?_⟩); (rw [decide_eq_false hp]); rw [zbI_f]; (with_reducible refine i_f (by omega) ?_); (with_reducible refine i_RetI (i_I ?_)))
      exact hk
theorem c_sort {O : zOm} (hO : zWld O) (hS : zS O = zmS zC0) {t T n a b w : Nat} {s : Bool} {A : zTl} {M : zMem} {K : Option zV → zMem → Prop} (hT : M ((0 : Nat) : Int) ((4 : Nat) : Int) = ((T : Nat) : Int)) (hT5 : T ≤ 5) (ht : t < T) (hP : M ((1 : Nat) : Int) ((2 : Nat) : Int) = ((n : Nat) : Int)) (hn2 : n ≤ 16) (hA : zTR M (185 + 13 * t) n A) (hw : zTw n A) (hC : cSo M) (ha : a < n) (hb : b < n) (hab : a ≠ b) (hw1 : w ≤ 1)
    (hk : ∀ M', (∀ b j, ¬ (b = ((134 : Nat) : Int) ∧ j = 6 ∨ ((135 : Nat) : Int) ≤ b ∧ b ≤ ((146 : Nat) : Int)) → M' b j = M b j) → cSo M' → K (some (0, ((if w = 0 then tR n A (zso (tf A) a b s) else tQ n A (zso (tf A) a b s) : Nat) : Int))) M') : zR O F_ToldNet_sort [(2, ((0 : Nat) : Int)), (0, ((t : Nat) : Int)), (0, ((a : Nat) : Int)), (0, ((b : Nat) : Int)), (0, zbI s), (0, ((w : Nat) : Int))] M K := by
  have hzs : zso (tf A) a b s < 512 := zso_lt (hw.f16 a ha) (hw.f16 b hb)
  have hzp := zplc_lt hzs
  have hx := zTelT hS (show t < 5 by omega)
  have hx0 := hx.1.1
  obtain ⟨⟨o134, -⟩, -⟩ := zO134_ok hS
  have o1 := zo_1 hS
  apply r_ToldNet_sort hO
  unfold B_ToldNet_sort
  have f0_0 := zf_0_0 hS; have f0_8 := zf_0_8 hS; have f134_0 := zf_134_0 hS; have a135 := zCA (a := 135) (ty := .int) (n := 512) hS rfl; have f134_1 := zf_134_1 hS; have a136 := zCA (a := 136) (ty := .int) (n := 512) hS rfl; have z0 := zo_0 hS; have z1 := zo_1 hS; have z134 := zo_134 hS
  ((with_reducible refine i_Seq (i_Set (i_Call (i_as1 (i_A0 (i_as1 (i_L1 (i_as0 ?_)))))))); (with_reducible refine i_recv0 (by assumption) ?_); simp only [w_set0, w_set1, w_setn0, w_setn1])
  refine c_find hO hS hT hT5 (fun hx => absurd (show 0 ≤ ((t : Nat) : Int) ∧ ((t : Nat) : Int) < ((T : Nat) : Int) by omega) hx) (fun k e hk1 => ⟨_, rfl, ?_⟩)
  rw [show k = t by omega]
  ((with_reducible refine i_Seq (i_If (i_cOr (i_cOr (i_cOr (i_cN (i_A6 ?_))))))); (with_reducible refine i_f (by omega) ?_); (with_reducible refine i_cNot (i_cZ_ne (i_Call (i_as1 (i_FR (i_A0 ?_)))))); (with_reducible refine i_fldR (by assumption) ?_); (with_reducible refine i_as1 (i_L2 (i_as1 (i_L3 (i_as0 ?_))))); (with_reducible refine i_recv0 (by assumption) ?_); (refine c_isPair hO hS hP ⟨_, rfl, ?_⟩); (rw [decide_eq_true (show (0 ≤ ((a : Nat) : Int) ∧ ((a : Nat) : Int) < ((n : Nat) : Int)) ∧ (0 ≤ ((b : Nat) : Int) ∧ ((b : Nat) : Int) < ((n : Nat) : Int)) ∧ ((a : Nat) : Int) ≠ ((b : Nat) : Int) by omega)]); rw [zbI_t]; (with_reducible refine i_t (by omega) ?_); (with_reducible refine i_cZ_lt (i_L5 ?_)); (with_reducible refine i_f (by omega) ?_); (with_reducible refine i_cI_gt (i_L5 (i_I ?_))); (with_reducible refine i_f (by omega) ?_); (with_reducible refine i_Seq (i_sCall (i_as1 (i_FR (i_A0 ?_))))); (with_reducible refine i_fldR (by assumption) ?_); (with_reducible refine i_as1 (i_A6 (i_as0 ?_))); (with_reducible refine i_recv0 (by assumption) ?_))
  refine c_take hO hS hx (by omega) hA hn2 hw hC (fun M1 f1 h1 => ⟨rfl, ?_⟩)
  have hA1 : zTR M1 (185 + 13 * t) n A := hA.to (fun b j a1 a2 => f1 b j (by omega))
  obtain ⟨r1, r2⟩ := h1.1 _ hzs
  ((with_reducible refine i_Seq (i_Set (i_Call (i_as1 (i_A6 (i_as1 (i_L2 (i_as1 (i_L3 (i_as1 (i_L4 (i_as0 (i_recv1 ?_))))))))))))); simp only [w_set0, w_set1, w_setn0, w_setn1])
  refine c_placeOf hO hx hA1.1 hw.f16 ha hb hn2 ⟨_, rfl, ?_⟩
  rcases (show w = 0 ∨ w = 1 by omega) with rfl | rfl
  · have h2 := hk M1 (fun b j q => f1 b j (by omega)) h1.so
    rw [if_pos rfl] at h2
    generalize zplc (zso (tf A) a b s) = z at hzp r1 r2 ⊢
    ((with_reducible refine i_RetI (i_eIf (i_cZ_eq (i_L5 ?_)))); (with_reducible refine i_t (by omega) ?_); (with_reducible refine i_IA (i_FR (i_FR (i_A0 ?_)))); (with_reducible refine i_fldR (by assumption) ?_); (with_reducible refine i_fldR (by assumption) ?_); (with_reducible refine i_L7 ?_); (with_reducible refine i_in (by assumption) (by omega) (by omega) ?_); (rw [r1]))
    exact h2
  · have h2 := hk M1 (fun b j q => f1 b j (by omega)) h1.so
    rw [if_neg (by decide)] at h2
    generalize zplc (zso (tf A) a b s) = z at hzp r1 r2 ⊢
    ((with_reducible refine i_RetI (i_eIf (i_cZ_eq (i_L5 ?_)))); (with_reducible refine i_f (by omega) ?_); (with_reducible refine i_IA (i_FR (i_FR (i_A0 ?_)))); (with_reducible refine i_fldR (by assumption) ?_); (with_reducible refine i_fldR (by assumption) ?_); (with_reducible refine i_L7 ?_); (with_reducible refine i_in (by assumption) (by omega) (by omega) ?_); (rw [r2]))
    exact h2
theorem m_mean_bad {O : zOm} (hO : zWld O) (hS : zS O = zmS zC0) {t kd a b : Int} {T n : Nat} {M : zMem} {K : Option zV → zMem → Prop} (hT : M 250 ((11 : Nat) : Int) = ((T : Nat) : Int)) (hn : M 250 ((1 : Nat) : Int) = ((n : Nat) : Int)) (hn2 : n ≤ 16) (hb : ¬ ((0 ≤ t ∧ t < ((T : Nat) : Int)) ∧ zIsQ n kd a b = true ∧ 0 ≤ kd ∧ kd ≤ 2)) (hk : K (some (0, -1)) M) : zR O F_Model_mean [(2, 250), (0, t), (0, kd), (0, a), (0, b)] M K := by
  apply r_Model_mean hO
  unfold B_Model_mean
  have f52 := zMF (k := 52) hS rfl; have f51 := zMF (k := 51) hS rfl; have a288 := zMA (a := 288) (ty := .int) (n := 512) hS rfl; have f24 := zMF (k := 24) hS rfl; have a270 := zMA (a := 270) (ty := .int) (n := 512) hS rfl; have f23 := zMF (k := 23) hS rfl; have a269 := zMA (a := 269) (ty := .int) (n := 512) hS rfl; have zo := zMO hS
  by_cases ht : 0 ≤ t ∧ t < ((T : Nat) : Int)
  · by_cases h0 : kd < 0
    · ((with_reducible refine i_Seq (i_If (i_cOr (i_cOr (i_cOr (i_cNot (i_cZ_ne (i_Call (i_as1 (i_A0 (i_as1 (i_L1 (i_as0 ?_))))))))))))); (with_reducible refine i_recv0 (by assumption) ?_); (refine m_isTelling hO hS hT ⟨_, rfl, ?_⟩); (rw [decide_eq_true ht]); rw [zbI_t]; (with_reducible refine i_t (by omega) ?_); (with_reducible refine i_cZ_lt (i_L2 ?_)); (with_reducible refine i_t (by omega) ?_); (with_reducible refine i_RetI (i_I ?_)))
      exact hk
    · by_cases h1 : 2 < kd
      · ((with_reducible refine i_Seq (i_If (i_cOr (i_cOr (i_cOr (i_cNot (i_cZ_ne (i_Call (i_as1 (i_A0 (i_as1 (i_L1 (i_as0 ?_))))))))))))); (with_reducible refine i_recv0 (by assumption) ?_); (refine m_isTelling hO hS hT ⟨_, rfl, ?_⟩); (rw [decide_eq_true ht]); rw [zbI_t]; (with_reducible refine i_t (by omega) ?_); (with_reducible refine i_cZ_lt (i_L2 ?_)); (with_reducible refine i_f (by omega) ?_); (with_reducible refine i_cI_gt (i_L2 (i_I ?_))); (with_reducible refine i_t (by omega) ?_); (with_reducible refine i_RetI (i_I ?_)))
        exact hk
      · have hq : zIsQ n kd a b = false := by
          cases e : zIsQ n kd a b
          · rfl
          · exact absurd ⟨ht, e, by omega, by omega⟩ hb
        ((with_reducible refine i_Seq (i_If (i_cOr (i_cOr (i_cOr (i_cNot (i_cZ_ne (i_Call (i_as1 (i_A0 (i_as1 (i_L1 (i_as0 ?_))))))))))))); (with_reducible refine i_recv0 (by assumption) ?_); (refine m_isTelling hO hS hT ⟨_, rfl, ?_⟩); (rw [decide_eq_true ht]); rw [zbI_t]; (with_reducible refine i_t (by omega) ?_); (with_reducible refine i_cZ_lt (i_L2 ?_)); (with_reducible refine i_f (by omega) ?_); (with_reducible refine i_cI_gt (i_L2 (i_I ?_))); (with_reducible refine i_f (by omega) ?_); (with_reducible refine i_cNot (i_cZ_ne (i_Call (i_as1 (i_A0 (i_as1 (i_L2 (i_as1 (i_L3 (i_as1 (i_L4 (i_as0 ?_)))))))))))); (with_reducible refine i_recv0 (by assumption) ?_); (refine m_isQuestion hO hS hn hn2 ⟨_, rfl, ?_⟩); (rw [hq]); rw [zbI_f]; (with_reducible refine i_f (by omega) ?_); (with_reducible refine i_RetI (i_I ?_)))
        exact hk
  · ((with_reducible refine i_Seq (i_If (i_cOr (i_cOr (i_cOr (i_cNot (i_cZ_ne (i_Call (i_as1 (i_A0 (i_as1 (i_L1 (i_as0 ?_))))))))))))); (with_reducible refine i_recv0 (by assumption) ?_); (refine m_isTelling hO hS hT ⟨_, rfl, ?_⟩); (rw [decide_eq_false ht]); rw [zbI_f]; (with_reducible refine i_f (by omega) ?_); (with_reducible refine i_RetI (i_I ?_)))
    exact hk
theorem m_mean {O : zOm} (hO : zWld O) (hS : zS O = zmS zC0) {t T n kd a b' : Nat} {b : Int} {A : zTl} {M : zMem} {K : Option zV → zMem → Prop} (hT : M 250 ((11 : Nat) : Int) = ((T : Nat) : Int)) (hT5 : T ≤ 5) (ht : t < T) (hn : M 250 ((1 : Nat) : Int) = ((n : Nat) : Int)) (hn2 : n ≤ 16) (hA : rTe M t n A) (hw : zTw n A) (hQ : zQok n kd a b b') (hkd : kd ≤ 2)
    (hk : ∀ M', (∀ b j, ¬ (b = 250 ∧ j = 52 ∨ ((268 : Nat) : Int) ≤ b ∧ b ≤ ((270 : Nat) : Int) ∨ b = ((288 : Nat) : Int)) → M' b j = M b j) → K (some (0, ((zqS n A kd a b' 2 : Nat) : Int))) M') : zR O F_Model_mean [(2, 250), (0, ((t : Nat) : Int)), (0, ((kd : Nat) : Int)), (0, ((a : Nat) : Int)), (0, b)] M K := by
  have hqt := zQok_is hQ
  have hat : zqA n A kd a b' ≤ 120 := zp2_le _ hn2
  have hz0 : zqS n A kd a b' 2 = 1000 * zqA n A kd a b' + zsum (zshr' n A kd a b' 2) 512 := by unfold zqS; rw [if_neg (by omega), if_pos rfl]
  rw [hz0] at hk
  apply r_Model_mean hO
  unfold B_Model_mean
  have f52 := zMF (k := 52) hS rfl; have f51 := zMF (k := 51) hS rfl; have a288 := zMA (a := 288) (ty := .int) (n := 512) hS rfl; have f24 := zMF (k := 24) hS rfl; have a270 := zMA (a := 270) (ty := .int) (n := 512) hS rfl; have f23 := zMF (k := 23) hS rfl; have a269 := zMA (a := 269) (ty := .int) (n := 512) hS rfl; have zo := zMO hS
  ((with_reducible refine i_Seq (i_If (i_cOr (i_cOr (i_cOr (i_cNot (i_cZ_ne (i_Call (i_as1 (i_A0 (i_as1 (i_L1 (i_as0 ?_))))))))))))); (with_reducible refine i_recv0 (by assumption) ?_); (refine m_isTelling hO hS hT ⟨_, rfl, ?_⟩); (rw [decide_eq_true (show 0 ≤ ((t : Nat) : Int) ∧ ((t : Nat) : Int) < ((T : Nat) : Int) by omega)]); rw [zbI_t]; (with_reducible refine i_t (by omega) ?_); (with_reducible refine i_cZ_lt (i_L2 ?_)); (with_reducible refine i_f (by omega) ?_); (with_reducible refine i_cI_gt (i_L2 (i_I ?_))); (with_reducible refine i_f (by omega) ?_); (with_reducible refine i_cNot (i_cZ_ne (i_Call (i_as1 (i_A0 (i_as1 (i_L2 (i_as1 (i_L3 (i_as1 (i_L4 (i_as0 ?_)))))))))))); (with_reducible refine i_recv0 (by assumption) ?_); (refine m_isQuestion hO hS hn hn2 ⟨_, rfl, ?_⟩); (rw [hqt]); rw [zbI_t]; (with_reducible refine i_t (by omega) ?_); (with_reducible refine i_Seq (i_sCall (i_as1 (i_A0 (i_as1 (i_L1 (i_as0 ?_))))))); (with_reducible refine i_recv0 (by assumption) ?_))
  refine m_sorts hO hS (by omega) hn hn2 hA hw (fun M1 f1 S1 R1 => ⟨rfl, ?_⟩)
  have hA1 : rTe M1 t n A := hA.to hn2 hw (fun b j q => f1 b j (by omega))
  ((with_reducible refine i_Seq (i_sCall (i_as1 (i_A0 (i_as1 (i_L1 (i_as1 (i_L2 (i_as1 (i_L3 (i_as1 (i_L4 (i_as0 ?_))))))))))))); (with_reducible refine i_recv0 (by assumption) ?_))
  refine m_collect hO hS (by omega) (show M1 250 ((1 : Nat) : Int) = ((n : Nat) : Int) by rw [f1 _ _ (by omega)]; exact hn) hn2 hA1 hw S1 hQ (by omega) (fun M2 f2 g2 g3 => ⟨rfl, ?_⟩)
  have hk2 := hk M2 (fun b j q => by rw [f2 b j (by omega), f1 b j (by omega)])
  have R2 : ∀ k : Nat, k < 512 → M2 ((269 : Nat) : Int) ((k : Nat) : Int) = ((tR n A k : Nat) : Int) ∧ M2 ((270 : Nat) : Int) ((k : Nat) : Int) = ((tQ n A k : Nat) : Int) := fun k hk1 => by rw [f2 _ _ (by omega), f2 _ _ (by omega)]; exact R1 k hk1
  clear hk R1
  generalize zqA n A kd a b' = z0 at hat hk2 g3
  ((with_reducible refine i_Seq (i_Set (i_Mul (i_I (i_F (i_A0 ?_)))))); (with_reducible refine i_fld (by assumption) ?_); (with_reducible refine i_Seq (i_Blk (i_Seq (i_Set (i_I ?_))))); (rw [g3]); rw [zx_cmul (by omega)]; simp only [w_set0, w_set1, w_setn0, w_setn1])
  refine w_ForN 512 (fun k ρ M' => (∃ l, ρ = 250 :: ((t : Nat) : Int) :: ((kd : Nat) : Int) :: ((a : Nat) : Int) :: b :: ((1000 * z0 + zsum (zshr' n A kd a b' 2) k : Nat) : Int) :: ((k : Nat) : Int) :: l) ∧ M' = M2) ⟨⟨_, rfl⟩, rfl⟩ ?_ ?_
  · rintro k ρ M3 X hk1 ⟨⟨l, rfl⟩, rfl⟩ hX
    obtain ⟨r1, r2⟩ := R2 k hk1
    have r3 := g2 k hk1
    have hcap := zsum_cap (f := zshr' n A kd a b' 2) (c := 120000) (fun k => zshr_le hn2) k
    have hcap2 : k * 120000 ≤ 512 * 120000 := Nat.mul_le_mul_right _ (by omega)
    have hX2 : ∀ (l : zLoc) (c : Nat), c = 1000 * z0 + zsum (zshr' n A kd a b' 2) k + zshr' n A kd a b' 2 k → X (250 :: ((t : Nat) : Int) :: ((kd : Nat) : Int) :: ((a : Nat) : Int) :: b :: ((c : Nat) : Int) :: ((k + 1 : Nat) : Int) :: l) M3 := fun l c hc => by subst hc; rw [Nat.add_assoc]; exact hX _ _ ⟨⟨l, rfl⟩, rfl⟩
    have b1 : tR n A k ≤ 120 := tR_le n A k hn2
    have b2 := tQ_R n A k
    have b3 := zas_R n A kd a b' k
    have h0 := zshr_0 (n := n) (A := A) (kind := kd) (a := a) (b' := b') (k := k) (how := 2)
    have hl1 : zshr' n A kd a b' 2 k ≤ 120000 := zshr_le hn2
    have hdf : zshr' n A kd a b' 2 k = if k < 256 then 1000 * tQ n A k * zas n A kd a b' k / tR n A k else 1000 * zas n A kd a b' k - 1000 * tQ n A k * zas n A kd a b' k / tR n A k := by
      unfold zshr'
      rw [if_neg (by omega), if_pos rfl]
    clear hX hk2 R2 g2
    generalize zshr' n A kd a b' 2 k = v at hX2 hl1 hdf h0
    generalize zsum (zshr' n A kd a b' 2) k = u at hX2 hcap ⊢
    generalize tR n A k = R at r1 b1 b2 b3 hdf
    generalize tQ n A k = C at r2 b2 hdf
    generalize zas n A kd a b' k = r at r3 b3 hdf h0
    have hml : 1000 * C * r ≤ 1000 * 120 * 120 := Nat.mul_le_mul (Nat.mul_le_mul_left _ (by omega)) (by omega)
    have hmn := zmean_le (r := r) b2
    by_cases hr0 : r = 0
    · have hv := h0 hr0
      subst hr0
      ((with_reducible refine i_turn (i_cI_lt (i_L6 (i_I ?_)))); (with_reducible refine i_t (by omega) ?_); (with_reducible refine i_Blk (i_Seq (i_IfBrk (i_cZ_eq (i_IA (i_FR (i_A0 ?_))))))); (with_reducible refine i_fldR (by assumption) ?_); (with_reducible refine i_L6 ?_); (with_reducible refine i_in (by assumption) (by omega) (by omega) ?_); (rw [r3]); (with_reducible refine i_t (by omega) ?_); (with_reducible refine i_lab1 (i_up (i_Inc6 ?_))); rw [zx_inc (by omega)]; simp only [w_set0, w_set1, w_setn0, w_setn1])
      exact hX2 _ _ (by omega)
    · by_cases w1 : k < 256
      · rw [if_pos w1] at hdf
        rw [← hdf] at hmn
        ((with_reducible refine i_turn (i_cI_lt (i_L6 (i_I ?_)))); (with_reducible refine i_t (by omega) ?_); (with_reducible refine i_Blk (i_Seq (i_IfBrk (i_cZ_eq (i_IA (i_FR (i_A0 ?_))))))); (with_reducible refine i_fldR (by assumption) ?_); (with_reducible refine i_L6 ?_); (with_reducible refine i_in (by assumption) (by omega) (by omega) ?_); (rw [r3]); (with_reducible refine i_f (by omega) ?_); (with_reducible refine i_Seq (i_Set (i_Div (i_Mul (i_Mul (i_I (i_IA (i_FR (i_A0 ?_))))))))); (with_reducible refine i_fldR (by assumption) ?_); (with_reducible refine i_L6 ?_); (with_reducible refine i_in (by assumption) (by omega) (by omega) ?_); (with_reducible refine i_IA (i_FR (i_A0 ?_))); (with_reducible refine i_fldR (by assumption) ?_); (with_reducible refine i_L6 ?_); (with_reducible refine i_in (by assumption) (by omega) (by omega) ?_); (with_reducible refine i_IA (i_FR (i_A0 ?_))); (with_reducible refine i_fldR (by assumption) ?_); (with_reducible refine i_L6 ?_); (with_reducible refine i_in (by assumption) (by omega) (by omega) ?_); (rw [r3]); (rw [r1]); (rw [r2]); ((with_reducible refine i_nn (show (((R : Nat) : Int) : Int) ≠ 0 by omega) ?_)); (with_reducible refine i_Set (i_Add ?_)); rw [zx_cmul (by omega)]; (rw [zx_mul (by omega)]); (rw [zx_dv (by omega)]); (rw [← hdf]); simp only [w_set0, w_set1, w_setn0, w_setn1]; (with_reducible refine i_L5 (i_eIf (i_cI_lt (i_L6 (i_I ?_))))); rw [w_setT]; (with_reducible refine i_t (by omega) ?_); (with_reducible refine i_L7 (i_up ?_)); rw [zx_add (by omega)]; simp only [w_set0, w_set1, w_setn0, w_setn1]; (with_reducible refine i_Inc6 ?_); rw [zx_inc (by omega)]; simp only [w_set0, w_set1, w_setn0, w_setn1])
        exact hX2 _ _ (by omega)
      · rw [if_neg w1] at hdf
        generalize hq : 1000 * C * r / R = q at hdf hmn
        ((with_reducible refine i_turn (i_cI_lt (i_L6 (i_I ?_)))); (with_reducible refine i_t (by omega) ?_); (with_reducible refine i_Blk (i_Seq (i_IfBrk (i_cZ_eq (i_IA (i_FR (i_A0 ?_))))))); (with_reducible refine i_fldR (by assumption) ?_); (with_reducible refine i_L6 ?_); (with_reducible refine i_in (by assumption) (by omega) (by omega) ?_); (rw [r3]); (with_reducible refine i_f (by omega) ?_); (with_reducible refine i_Seq (i_Set (i_Div (i_Mul (i_Mul (i_I (i_IA (i_FR (i_A0 ?_))))))))); (with_reducible refine i_fldR (by assumption) ?_); (with_reducible refine i_L6 ?_); (with_reducible refine i_in (by assumption) (by omega) (by omega) ?_); (with_reducible refine i_IA (i_FR (i_A0 ?_))); (with_reducible refine i_fldR (by assumption) ?_); (with_reducible refine i_L6 ?_); (with_reducible refine i_in (by assumption) (by omega) (by omega) ?_); (with_reducible refine i_IA (i_FR (i_A0 ?_))); (with_reducible refine i_fldR (by assumption) ?_); (with_reducible refine i_L6 ?_); (with_reducible refine i_in (by assumption) (by omega) (by omega) ?_); (rw [r3]); (rw [r1]); (rw [r2]); ((with_reducible refine i_nn (show (((R : Nat) : Int) : Int) ≠ 0 by omega) ?_)); (with_reducible refine i_Set (i_Add ?_)); rw [zx_cmul (by omega)]; (rw [zx_mul (by omega)]); (rw [zx_dv (by omega)]); (rw [hq]); simp only [w_set0, w_set1, w_setn0, w_setn1]; (with_reducible refine i_L5 (i_eIf (i_cI_lt (i_L6 (i_I ?_))))); rw [w_setT]; (with_reducible refine i_f (by omega) ?_); (with_reducible refine i_Sub (i_Mul (i_I (i_IA (i_FR (i_A0 ?_)))))); (with_reducible refine i_fldR (by assumption) ?_); (with_reducible refine i_L6 ?_); (with_reducible refine i_in (by assumption) (by omega) (by omega) ?_); (with_reducible refine i_L7 (i_up ?_)); (rw [r3]); rw [zx_cmul (by omega)]; rw [zx_sub (by omega) (by omega)]; rw [zx_add (by omega)]; simp only [w_set0, w_set1, w_setn0, w_setn1]; (with_reducible refine i_Inc6 ?_); rw [zx_inc (by omega)]; simp only [w_set0, w_set1, w_setn0, w_setn1])
        exact hX2 _ _ (by omega)
  · rintro ρ M3 X ⟨⟨l, rfl⟩, rfl⟩
    ((with_reducible refine i_turn (i_cI_lt (i_L6 (i_I ?_)))); (with_reducible refine i_f (by omega) ?_); (with_reducible refine i_RetI (i_L5 ?_)))
    exact hk2
theorem c_mean_bad {O : zOm} (hO : zWld O) (hS : zS O = zmS zC0) {t kd a b : Int} {T n : Nat} {M : zMem} {K : Option zV → zMem → Prop} (hT : M ((0 : Nat) : Int) ((4 : Nat) : Int) = ((T : Nat) : Int)) (hT5 : T ≤ 5) (hP : M ((1 : Nat) : Int) ((2 : Nat) : Int) = ((n : Nat) : Int)) (hn2 : n ≤ 16) (hb : ¬ ((0 ≤ t ∧ t < ((T : Nat) : Int)) ∧ zIsQ n kd a b = true ∧ 0 ≤ kd ∧ kd ≤ 2)) (hk : K (some (0, -1)) M) : zR O F_ToldNet_mean [(2, ((0 : Nat) : Int)), (0, t), (0, kd), (0, a), (0, b)] M K := by
  have o1 := zo_1 hS
  apply r_ToldNet_mean hO
  unfold B_ToldNet_mean
  have f0_0 := zf_0_0 hS; have f0_8 := zf_0_8 hS; have z0 := zo_0 hS; have z1 := zo_1 hS; have z134 := zo_134 hS
  ((with_reducible refine i_Seq (i_Set (i_Call (i_as1 (i_A0 (i_as1 (i_L1 (i_as0 ?_)))))))); (with_reducible refine i_recv0 (by assumption) ?_); simp only [w_set0, w_set1, w_setn0, w_setn1])
  refine c_find hO hS hT hT5 (fun hx => ⟨_, rfl, ?_⟩) (fun k e hk1 => ⟨_, rfl, ?_⟩)
  · ((with_reducible refine i_Seq (i_If (i_cOr (i_cOr (i_cN (i_A5 ?_)))))); simp only [w_set0, w_set1, w_setn0, w_setn1]; (with_reducible refine i_t trivial ?_); (with_reducible refine i_RetI (i_I ?_)))
    exact hk
  · cases hq : zIsQ n kd a b
    · ((with_reducible refine i_Seq (i_If (i_cOr (i_cOr (i_cN (i_A5 ?_)))))); (with_reducible refine i_f (by omega) ?_); (with_reducible refine i_cNot (i_cZ_ne (i_Call (i_as1 (i_FR (i_A0 ?_)))))); (with_reducible refine i_fldR (by assumption) ?_); (with_reducible refine i_as1 (i_L2 (i_as1 (i_L3 (i_as1 (i_L4 (i_as0 ?_))))))); (with_reducible refine i_recv0 (by assumption) ?_); (refine c_isQuestion hO hS hP hn2 ⟨_, rfl, ?_⟩); (rw [hq]); rw [zbI_f]; (with_reducible refine i_f (by omega) ?_); (with_reducible refine i_RetI (i_I ?_)))
      exact hk
    · obtain ⟨kd', a', b', rfl, -, -⟩ := zIsQ_ok hq
      have h2 : 2 < kd' := by
        rcases Nat.lt_or_ge 2 kd' with h | h
        · exact h
        · exact absurd ⟨by omega, hq, by omega, by omega⟩ hb
      ((with_reducible refine i_Seq (i_If (i_cOr (i_cOr (i_cN (i_A5 ?_)))))); (with_reducible refine i_f (by omega) ?_); (with_reducible refine i_cNot (i_cZ_ne (i_Call (i_as1 (i_FR (i_A0 ?_)))))); (with_reducible refine i_fldR (by assumption) ?_); (with_reducible refine i_as1 (i_L2 (i_as1 (i_L3 (i_as1 (i_L4 (i_as0 ?_))))))); (with_reducible refine i_recv0 (by assumption) ?_); (refine c_isQuestion hO hS hP hn2 ⟨_, rfl, ?_⟩); (rw [hq]); rw [zbI_t]; (with_reducible refine i_t (by omega) ?_); (with_reducible refine i_cI_gt (i_L2 (i_I ?_))); (with_reducible refine i_t (by omega) ?_); (with_reducible refine i_RetI (i_I ?_)))
      exact hk
theorem c_mean {O : zOm} (hO : zWld O) (hS : zS O = zmS zC0) {t T n kd a b' : Nat} {b : Int} {A : zTl} {M : zMem} {K : Option zV → zMem → Prop} (hT : M ((0 : Nat) : Int) ((4 : Nat) : Int) = ((T : Nat) : Int)) (hT5 : T ≤ 5) (ht : t < T) (hP : M ((1 : Nat) : Int) ((2 : Nat) : Int) = ((n : Nat) : Int)) (hn1 : 0 < n) (hn2 : n ≤ 16) (hA : zTR M (185 + 13 * t) n A) (hw : zTw n A) (hC : cSo M) (hQ : zQok n kd a b b') (hkd : kd ≤ 2)
    (hk : ∀ M', (∀ b j, ¬ (b = ((134 : Nat) : Int) ∧ (j = 6 ∨ j = 7) ∨ ((135 : Nat) : Int) ≤ b ∧ b ≤ ((146 : Nat) : Int)) → M' b j = M b j) → cSo M' → K (some (0, ((zqS n A kd a b' 2 : Nat) : Int))) M') : zR O F_ToldNet_mean [(2, ((0 : Nat) : Int)), (0, ((t : Nat) : Int)), (0, ((kd : Nat) : Int)), (0, ((a : Nat) : Int)), (0, b)] M K := by
  have hx := zTelT hS (show t < 5 by omega)
  have hx0 := hx.1.1
  obtain ⟨⟨o134, -⟩, -⟩ := zO134_ok hS
  have o1 := zo_1 hS
  have hqt := zQok_is hQ
  apply r_ToldNet_mean hO
  unfold B_ToldNet_mean
  have f0_0 := zf_0_0 hS; have f0_8 := zf_0_8 hS; have z0 := zo_0 hS; have z1 := zo_1 hS; have z134 := zo_134 hS
  ((with_reducible refine i_Seq (i_Set (i_Call (i_as1 (i_A0 (i_as1 (i_L1 (i_as0 ?_)))))))); (with_reducible refine i_recv0 (by assumption) ?_); simp only [w_set0, w_set1, w_setn0, w_setn1])
  refine c_find hO hS hT hT5 (fun hx => absurd (show 0 ≤ ((t : Nat) : Int) ∧ ((t : Nat) : Int) < ((T : Nat) : Int) by omega) hx) (fun k e hk1 => ⟨_, rfl, ?_⟩)
  rw [show k = t by omega]
  ((with_reducible refine i_Seq (i_If (i_cOr (i_cOr (i_cN (i_A5 ?_)))))); (with_reducible refine i_f (by omega) ?_); (with_reducible refine i_cNot (i_cZ_ne (i_Call (i_as1 (i_FR (i_A0 ?_)))))); (with_reducible refine i_fldR (by assumption) ?_); (with_reducible refine i_as1 (i_L2 (i_as1 (i_L3 (i_as1 (i_L4 (i_as0 ?_))))))); (with_reducible refine i_recv0 (by assumption) ?_); (refine c_isQuestion hO hS hP hn2 ⟨_, rfl, ?_⟩); (rw [hqt]); rw [zbI_t]; (with_reducible refine i_t (by omega) ?_); (with_reducible refine i_cI_gt (i_L2 (i_I ?_))); (with_reducible refine i_f (by omega) ?_); (with_reducible refine i_Seq (i_sCall (i_as1 (i_FR (i_A0 ?_))))); (with_reducible refine i_fldR (by assumption) ?_); (with_reducible refine i_as1 (i_A5 (i_as0 ?_))); (with_reducible refine i_recv0 (by assumption) ?_))
  refine c_take hO hS hx (by omega) hA hn2 hw hC (fun M1 f1 h1 => ⟨rfl, ?_⟩)
  have hA1 : zTR M1 (185 + 13 * t) n A := hA.to (fun b j a1 a2 => f1 b j (by omega))
  ((with_reducible refine i_RetI (i_Call (i_as1 (i_FR (i_A0 ?_))))); (with_reducible refine i_fldR (by assumption) ?_); (with_reducible refine i_as1 (i_A5 (i_as1 (i_L2 (i_as1 (i_L3 (i_as1 (i_L4 (i_as1 (i_I (i_as0 ?_))))))))))); (with_reducible refine i_recv0 (by assumption) ?_))
  refine c_answer hO hS (how := 2) hx (by omega) hA1.1.1 hn1 hn2 hw hQ (Or.inr ⟨by omega, by omega⟩) h1 (if_pos (by omega)).symm (fun M2 f2 h2 => ⟨_, rfl, ?_⟩)
  (skip)
  exact hk M2 (fun b j q => by rw [f2 b j (by omega), f1 b j (by omega)]) h2.so
