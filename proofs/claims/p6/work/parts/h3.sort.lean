section
-- part h3.sort.lean.txt
/-! ===== sort, mean: both sides ===== -/
theorem m_sort_bad {O : zOm} (hO : zWld O) (hS : zS O = zmS zC0) {t a b w s : Int} {T n : Nat} {M : zMem} {K : Option zV → zMem → Prop} (hT : M 250 ((11 : Nat) : Int) = ((T : Nat) : Int)) (hn : M 250 ((1 : Nat) : Int) = ((n : Nat) : Int)) (hb : ¬ ((0 ≤ t ∧ t < ((T : Nat) : Int)) ∧ ((0 ≤ a ∧ a < ((n : Nat) : Int)) ∧ (0 ≤ b ∧ b < ((n : Nat) : Int)) ∧ a ≠ b) ∧ 0 ≤ w ∧ w ≤ 1)) (hk : K (some (0, -1)) M) : zR O F_Model_sort [(2, 250), (0, t), (0, a), (0, b), (0, s), (0, w)] M K := by
  apply r_Model_sort hO
  unfold B_Model_sort
  have f23 := zMF (k := 23) hS rfl; have a269 := zMA (a := 269) (ty := .int) (n := 512) hS rfl; have f24 := zMF (k := 24) hS rfl; have a270 := zMA (a := 270) (ty := .int) (n := 512) hS rfl; have zo := zMO hS
  by_cases ht : 0 ≤ t ∧ t < ((T : Nat) : Int)
  · by_cases hp : (0 ≤ a ∧ a < ((n : Nat) : Int)) ∧ (0 ≤ b ∧ b < ((n : Nat) : Int)) ∧ a ≠ b
    · by_cases h0 : w < 0
      · ((with_reducible refine i_Seq (i_If (i_cOr (i_cOr (i_cOr (i_cNot (i_cZ_ne (i_Call (i_as1 (i_A0 (i_as1 (i_L1 (i_as0 ?_))))))))))))); (with_reducible refine i_recv0 (by assumption) ?_); (refine m_isTelling hO hS hT ⟨_, rfl, ?_⟩); (rw [decide_eq_true ht]); rw [zbI_t]; (with_reducible refine i_t (by omega) ?_); (with_reducible refine i_cNot (i_cZ_ne (i_Call (i_as1 (i_A0 (i_as1 (i_L2 (i_as1 (i_L3 (i_as0 ?_)))))))))); (with_reducible refine i_recv0 (by assumption) ?_); (refine m_isPair hO hS hn ⟨_, rfl, ?_⟩); (rw [decide_eq_true hp]); rw [zbI_t]; (with_reducible refine i_t (by omega) ?_); (with_reducible refine i_cZ_lt (i_L5 ?_)); (with_reducible refine i_t (by omega) ?_); (with_reducible refine i_RetI (i_I ?_)))
        exact hk
      · have h1 : 1 < w := by omega
        ((with_reducible refine i_Seq (i_If (i_cOr (i_cOr (i_cOr (i_cNot (i_cZ_ne (i_Call (i_as1 (i_A0 (i_as1 (i_L1 (i_as0 ?_))))))))))))); (with_reducible refine i_recv0 (by assumption) ?_); (refine m_isTelling hO hS hT ⟨_, rfl, ?_⟩); (rw [decide_eq_true ht]); rw [zbI_t]; (with_reducible refine i_t (by omega) ?_); (with_reducible refine i_cNot (i_cZ_ne (i_Call (i_as1 (i_A0 (i_as1 (i_L2 (i_as1 (i_L3 (i_as0 ?_)))))))))); (with_reducible refine i_recv0 (by assumption) ?_); (refine m_isPair hO hS hn ⟨_, rfl, ?_⟩); (rw [decide_eq_true hp]); rw [zbI_t]; (with_reducible refine i_t (by omega) ?_); (with_reducible refine i_cZ_lt (i_L5 ?_)); (with_reducible refine i_f (by omega) ?_); (with_reducible refine i_cI_gt (i_L5 (i_I ?_))); (with_reducible refine i_t (by omega) ?_); (with_reducible refine i_RetI (i_I ?_)))
        exact hk
    · ((with_reducible refine i_Seq (i_If (i_cOr (i_cOr (i_cOr (i_cNot (i_cZ_ne (i_Call (i_as1 (i_A0 (i_as1 (i_L1 (i_as0 ?_))))))))))))); (with_reducible refine i_recv0 (by assumption) ?_); (refine m_isTelling hO hS hT ⟨_, rfl, ?_⟩); (rw [decide_eq_true ht]); rw [zbI_t]; (with_reducible refine i_t (by omega) ?_); (with_reducible refine i_cNot (i_cZ_ne (i_Call (i_as1 (i_A0 (i_as1 (i_L2 (i_as1 (i_L3 (i_as0 ?_)))))))))); (with_reducible refine i_recv0 (by assumption) ?_); (refine m_isPair hO hS hn ⟨_, rfl, ?_⟩); (rw [decide_eq_false hp]); rw [zbI_f]; (with_reducible refine i_f (by omega) ?_); (with_reducible refine i_RetI (i_I ?_)))
      exact hk
  · ((with_reducible refine i_Seq (i_If (i_cOr (i_cOr (i_cOr (i_cNot (i_cZ_ne (i_Call (i_as1 (i_A0 (i_as1 (i_L1 (i_as0 ?_))))))))))))); (with_reducible refine i_recv0 (by assumption) ?_); (refine m_isTelling hO hS hT ⟨_, rfl, ?_⟩); (rw [decide_eq_false ht]); rw [zbI_f]; (with_reducible refine i_f (by omega) ?_); (with_reducible refine i_RetI (i_I ?_)))
    exact hk
theorem m_sort {O : zOm} (hO : zWld O) (hS : zS O = zmS zC0) {t T n a b w : Nat} {s : Bool} {A : zTl} {M : zMem} {K : Option zV → zMem → Prop} (hT : M 250 ((11 : Nat) : Int) = ((T : Nat) : Int)) (hT5 : T ≤ 5) (ht : t < T) (hn : M 250 ((1 : Nat) : Int) = ((n : Nat) : Int)) (hn2 : n ≤ 16) (hA : rTe M t n A) (hw : zTw n A) (ha : a < n) (hb : b < n) (hab : a ≠ b) (hw1 : w ≤ 1)
    (hk : ∀ M', (∀ b j, ¬ (b = 268 ∨ b = 269 ∨ b = 270) → M' b j = M b j) → K (some (0, ((if w = 0 then tR n A (zso (tf A) a b s) else tQ n A (zso (tf A) a b s) : Nat) : Int))) M') : zR O F_Model_sort [(2, 250), (0, ((t : Nat) : Int)), (0, ((a : Nat) : Int)), (0, ((b : Nat) : Int)), (0, zbI s), (0, ((w : Nat) : Int))] M K := by
  have hzs : zso (tf A) a b s < 512 := zso_lt (hw.f16 a ha) (hw.f16 b hb)
  apply r_Model_sort hO
  unfold B_Model_sort
  have f23 := zMF (k := 23) hS rfl; have a269 := zMA (a := 269) (ty := .int) (n := 512) hS rfl; have f24 := zMF (k := 24) hS rfl; have a270 := zMA (a := 270) (ty := .int) (n := 512) hS rfl; have zo := zMO hS
  ((with_reducible refine i_Seq (i_If (i_cOr (i_cOr (i_cOr (i_cNot (i_cZ_ne (i_Call (i_as1 (i_A0 (i_as1 (i_L1 (i_as0 ?_))))))))))))); (with_reducible refine i_recv0 (by assumption) ?_); (refine m_isTelling hO hS hT ⟨_, rfl, ?_⟩); (rw [decide_eq_true (show 0 ≤ ((t : Nat) : Int) ∧ ((t : Nat) : Int) < ((T : Nat) : Int) by omega)]); rw [zbI_t]; (with_reducible refine i_t (by omega) ?_); (with_reducible refine i_cNot (i_cZ_ne (i_Call (i_as1 (i_A0 (i_as1 (i_L2 (i_as1 (i_L3 (i_as0 ?_)))))))))); (with_reducible refine i_recv0 (by assumption) ?_); (refine m_isPair hO hS hn ⟨_, rfl, ?_⟩); (rw [decide_eq_true (show (0 ≤ ((a : Nat) : Int) ∧ ((a : Nat) : Int) < ((n : Nat) : Int)) ∧ (0 ≤ ((b : Nat) : Int) ∧ ((b : Nat) : Int) < ((n : Nat) : Int)) ∧ ((a : Nat) : Int) ≠ ((b : Nat) : Int) by omega)]); rw [zbI_t]; (with_reducible refine i_t (by omega) ?_); (with_reducible refine i_cZ_lt (i_L5 ?_)); (with_reducible refine i_f (by omega) ?_); (with_reducible refine i_cI_gt (i_L5 (i_I ?_))); (with_reducible refine i_f (by omega) ?_); (with_reducible refine i_Seq (i_sCall (i_as1 (i_A0 (i_as1 (i_L1 (i_as0 ?_))))))); (with_reducible refine i_recv0 (by assumption) ?_))
  refine m_sorts hO hS (by omega) hn hn2 hA hw (fun M1 f1 S1 R1 => ⟨rfl, ?_⟩)
  have hA1 : rTe M1 t n A := hA.to hn2 hw (fun b j q => f1 b j (by omega))
  obtain ⟨r1, r2⟩ := R1 _ hzs
  ((with_reducible refine i_Seq (i_Set (i_Call (i_as1 (i_A0 (i_as1 (i_L1 (i_as1 (i_L2 (i_as1 (i_L3 (i_as1 (i_L4 (i_as0 ?_)))))))))))))); (with_reducible refine i_recv0 (by assumption) ?_); simp only [w_set0, w_set1, w_setn0, w_setn1])
  refine m_sortOf hO hS (by omega) hn2 hA1.1.2.1 hw.f16 ha hb ⟨_, rfl, ?_⟩
  rcases (show w = 0 ∨ w = 1 by omega) with rfl | rfl
  · have h2 := hk M1 f1
    rw [if_pos rfl] at h2
    generalize zso (tf A) a b s = z at hzs r1 r2 h2 ⊢
    ((with_reducible refine i_RetI (i_eIf (i_cZ_eq (i_L5 ?_)))); (with_reducible refine i_t (by omega) ?_); (with_reducible refine i_IA (i_FR (i_A0 ?_))); (with_reducible refine i_fldR (by assumption) ?_); (with_reducible refine i_L6 ?_); (with_reducible refine i_in (by assumption) (by omega) (by omega) ?_); (rw [r1]))
    exact h2
  · have h2 := hk M1 f1
    rw [if_neg (by decide)] at h2
    generalize zso (tf A) a b s = z at hzs r1 r2 h2 ⊢
    ((with_reducible refine i_RetI (i_eIf (i_cZ_eq (i_L5 ?_)))); (with_reducible refine i_f (by omega) ?_); (with_reducible refine i_IA (i_FR (i_A0 ?_))); (with_reducible refine i_fldR (by assumption) ?_); (with_reducible refine i_L6 ?_); (with_reducible refine i_in (by assumption) (by omega) (by omega) ?_); (rw [r2]))
    exact h2
theorem c_sort_bad {O : zOm} (hO : zWld O) (hS : zS O = zmS zC0) {t a b w s : Int} {T n : Nat} {M : zMem} {K : Option zV → zMem → Prop} (hT : M ((0 : Nat) : Int) ((4 : Nat) : Int) = ((T : Nat) : Int)) (hT5 : T ≤ 5) (hP : M ((1 : Nat) : Int) ((2 : Nat) : Int) = ((n : Nat) : Int)) (hb : ¬ ((0 ≤ t ∧ t < ((T : Nat) : Int)) ∧ ((0 ≤ a ∧ a < ((n : Nat) : Int)) ∧ (0 ≤ b ∧ b < ((n : Nat) : Int)) ∧ a ≠ b) ∧ 0 ≤ w ∧ w ≤ 1)) (hk : K (some (0, -1)) M) : zR O F_ToldNet_sort [(2, ((0 : Nat) : Int)), (0, t), (0, a), (0, b), (0, s), (0, w)] M K := by
  have o1 := zo_1 hS
  apply r_ToldNet_sort hO
  unfold B_ToldNet_sort
  have f0_0 := zf_0_0 hS; have f0_8 := zf_0_8 hS; have f134_0 := zf_134_0 hS; have a135 := zCA (a := 135) (ty := .int) (n := 512) hS rfl; have f134_1 := zf_134_1 hS; have a136 := zCA (a := 136) (ty := .int) (n := 512) hS rfl; have z0 := zo_0 hS; have z1 := zo_1 hS; have z134 := zo_134 hS
  ((with_reducible refine i_Seq (i_Set (i_Call (i_as1 (i_A0 (i_as1 (i_L1 (i_as0 ?_)))))))); (with_reducible refine i_recv0 (by assumption) ?_); simp only [w_set0, w_set1, w_setn0, w_setn1])
  refine c_find hO hS hT hT5 (fun hx => ⟨_, rfl, ?_⟩) (fun k e hk1 => ⟨_, rfl, ?_⟩)
  · ((with_reducible refine i_Seq (i_If (i_cOr (i_cOr (i_cOr (i_cN (i_A6 ?_))))))); simp only [w_set0, w_set1, w_setn0, w_setn1]; (with_reducible refine i_t trivial ?_); (with_reducible refine i_RetI (i_I ?_)))
    exact hk
  · by_cases hp : (0 ≤ a ∧ a < ((n : Nat) : Int)) ∧ (0 ≤ b ∧ b < ((n : Nat) : Int)) ∧ a ≠ b
    · by_cases h0 : w < 0
      · ((with_reducible refine i_Seq (i_If (i_cOr (i_cOr (i_cOr (i_cN (i_A6 ?_))))))); (with_reducible refine i_f (by omega) ?_); (with_reducible refine i_cNot (i_cZ_ne (i_Call (i_as1 (i_FR (i_A0 ?_)))))); (with_reducible refine i_fldR (by assumption) ?_); (with_reducible refine i_as1 (i_L2 (i_as1 (i_L3 (i_as0 ?_))))); (with_reducible refine i_recv0 (by assumption) ?_); (refine c_isPair hO hS hP ⟨_, rfl, ?_⟩); (rw [decide_eq_true hp]); rw [zbI_t]; (with_reducible refine i_t (by omega) ?_); (with_reducible refine i_cZ_lt (i_L5 ?_)); (with_reducible refine i_t (by omega) ?_); (with_reducible refine i_RetI (i_I ?_)))
        exact hk
      · have h1 : 1 < w := by omega
        ((with_reducible refine i_Seq (i_If (i_cOr (i_cOr (i_cOr (i_cN (i_A6 ?_))))))); (with_reducible refine i_f (by omega) ?_); (with_reducible refine i_cNot (i_cZ_ne (i_Call (i_as1 (i_FR (i_A0 ?_)))))); (with_reducible refine i_fldR (by assumption) ?_); (with_reducible refine i_as1 (i_L2 (i_as1 (i_L3 (i_as0 ?_))))); (with_reducible refine i_recv0 (by assumption) ?_); (refine c_isPair hO hS hP ⟨_, rfl, ?_⟩); (rw [decide_eq_true hp]); rw [zbI_t]; (with_reducible refine i_t (by omega) ?_); (with_reducible refine i_cZ_lt (i_L5 ?_)); (with_reducible refine i_f (by omega) ?_); (with_reducible refine i_cI_gt (i_L5 (i_I ?_))); (with_reducible refine i_t (by omega) ?_); (with_reducible refine i_RetI (i_I ?_)))
        exact hk
    · ((with_reducible refine i_Seq (i_If (i_cOr (i_cOr (i_cOr (i_cN (i_A6 ?_))))))); (with_reducible refine i_f (by omega) ?_); (with_reducible refine i_cNot (i_cZ_ne (i_Call (i_as1 (i_FR (i_A0 ?_)))))); (with_reducible refine i_fldR (by assumption) ?_); (with_reducible refine i_as1 (i_L2 (i_as1 (i_L3 (i_as0 ?_))))); (with_reducible refine i_recv0 (by assumption) ?_); (refine c_isPair hO hS hP ⟨_, rfl, ?_⟩); (rw [decide_eq_false hp]); rw [zbI_f]; (with_reducible refine i_f (by omega) ?_); (with_reducible refine i_RetI (i_I ?_)))
      exact hk
theorem c_sort {O : zOm} (hO : zWld O) (hS : zS O = zmS zC0) {t T n a b w : Nat} {s : Bool} {A : zTl} {M : zMem} {K : Option zV → zMem → Prop} (hT : M ((0 : Nat) : Int) ((4 : Nat) : Int) = ((T : Nat) : Int)) (hT5 : T ≤ 5) (ht : t < T) (hP : M ((1 : Nat) : Int) ((2 : Nat) : Int) = ((n : Nat) : Int)) (hn2 : n ≤ 16) (hA : zTR M (185 + 13 * t) n A) (hw : zTw n A) (hC : cSo M) (ha : a < n) (hb : b < n) (hab : a ≠ b) (hw1 : w ≤ 1)
    (hk : ∀ M', (∀ b j, ¬ (b = ((134 : Nat) : Int) ∧ j = 6 ∨ ((135 : Nat) : Int) ≤ b ∧ b ≤ ((146 : Nat) : Int)) → M' b j = M b j) → cSo M' → K (some (0, ((if w = 0 then tR n A (zso (tf A) a b s) else tQ n A (zso (tf A) a b s) : Nat) : Int))) M') : zR O F_ToldNet_sort [(2, ((0 : Nat) : Int)), (0, ((t : Nat) : Int)), (0, ((a : Nat) : Int)), (0, ((b : Nat) : Int)), (0, zbI s), (0, ((w : Nat) : Int))] M K := by
  have hzs : zso (tf A) a b s < 512 := zso_lt (hw.f16 a ha) (hw.f16 b hb)
  have hzp := zplc_lt hzs
  have hx := zTelT hS (show t < 5 by omega)
  have hx0 := hx.1.1
  obtain ⟨⟨o134, -⟩, -⟩ := zO134_ok hS
  have o1 := zo_1 hS
  apply r_ToldNet_sort hO
  unfold B_ToldNet_sort
  have f0_0 := zf_0_0 hS; have f0_8 := zf_0_8 hS; have f134_0 := zf_134_0 hS; have a135 := zCA (a := 135) (ty := .int) (n := 512) hS rfl; have f134_1 := zf_134_1 hS; have a136 := zCA (a := 136) (ty := .int) (n := 512) hS rfl; have z0 := zo_0 hS; have z1 := zo_1 hS; have z134 := zo_134 hS
  ((with_reducible refine i_Seq (i_Set (i_Call (i_as1 (i_A0 (i_as1 (i_L1 (i_as0 ?_)))))))); (with_reducible refine i_recv0 (by assumption) ?_); simp only [w_set0, w_set1, w_setn0, w_setn1])
  refine c_find hO hS hT hT5 (fun hx => absurd (show 0 ≤ ((t : Nat) : Int) ∧ ((t : Nat) : Int) < ((T : Nat) : Int) by omega) hx) (fun k e hk1 => ⟨_, rfl, ?_⟩)
  rw [show k = t by omega]
  ((with_reducible refine i_Seq (i_If (i_cOr (i_cOr (i_cOr (i_cN (i_A6 ?_))))))); (with_reducible refine i_f (by omega) ?_); (with_reducible refine i_cNot (i_cZ_ne (i_Call (i_as1 (i_FR (i_A0 ?_)))))); (with_reducible refine i_fldR (by assumption) ?_); (with_reducible refine i_as1 (i_L2 (i_as1 (i_L3 (i_as0 ?_))))); (with_reducible refine i_recv0 (by assumption) ?_); (refine c_isPair hO hS hP ⟨_, rfl, ?_⟩); (rw [decide_eq_true (show (0 ≤ ((a : Nat) : Int) ∧ ((a : Nat) : Int) < ((n : Nat) : Int)) ∧ (0 ≤ ((b : Nat) : Int) ∧ ((b : Nat) : Int) < ((n : Nat) : Int)) ∧ ((a : Nat) : Int) ≠ ((b : Nat) : Int) by omega)]); rw [zbI_t]; (with_reducible refine i_t (by omega) ?_); (with_reducible refine i_cZ_lt (i_L5 ?_)); (with_reducible refine i_f (by omega) ?_); (with_reducible refine i_cI_gt (i_L5 (i_I ?_))); (with_reducible refine i_f (by omega) ?_); (with_reducible refine i_Seq (i_sCall (i_as1 (i_FR (i_A0 ?_))))); (with_reducible refine i_fldR (by assumption) ?_); (with_reducible refine i_as1 (i_A6 (i_as0 ?_))); (with_reducible refine i_recv0 (by assumption) ?_))
  refine c_take hO hS hx (by omega) hA hn2 hw hC (fun M1 f1 h1 => ⟨rfl, ?_⟩)
  have hA1 : zTR M1 (185 + 13 * t) n A := hA.to (fun b j a1 a2 => f1 b j (by omega))
  obtain ⟨r1, r2⟩ := h1.1 _ hzs
  ((with_reducible refine i_Seq (i_Set (i_Call (i_as1 (i_A6 (i_as1 (i_L2 (i_as1 (i_L3 (i_as1 (i_L4 (i_as0 (i_recv1 ?_))))))))))))); simp only [w_set0, w_set1, w_setn0, w_setn1])
  refine c_placeOf hO hx hA1.1 hw.f16 ha hb hn2 ⟨_, rfl, ?_⟩
  rcases (show w = 0 ∨ w = 1 by omega) with rfl | rfl
  · have h2 := hk M1 (fun b j q => f1 b j (by omega)) h1.so
    rw [if_pos rfl] at h2
    generalize zplc (zso (tf A) a b s) = z at hzp r1 r2 ⊢
    ((with_reducible refine i_RetI (i_eIf (i_cZ_eq (i_L5 ?_)))); (with_reducible refine i_t (by omega) ?_); (with_reducible refine i_IA (i_FR (i_FR (i_A0 ?_)))); (with_reducible refine i_fldR (by assumption) ?_); (with_reducible refine i_fldR (by assumption) ?_); (with_reducible refine i_L7 ?_); (with_reducible refine i_in (by assumption) (by omega) (by omega) ?_); (rw [r1]))
    exact h2
  · have h2 := hk M1 (fun b j q => f1 b j (by omega)) h1.so
    rw [if_neg (by decide)] at h2
    generalize zplc (zso (tf A) a b s) = z at hzp r1 r2 ⊢
    ((with_reducible refine i_RetI (i_eIf (i_cZ_eq (i_L5 ?_)))); (with_reducible refine i_f (by omega) ?_); (with_reducible refine i_IA (i_FR (i_FR (i_A0 ?_)))); (with_reducible refine i_fldR (by assumption) ?_); (with_reducible refine i_fldR (by assumption) ?_); (with_reducible refine i_L7 ?_); (with_reducible refine i_in (by assumption) (by omega) (by omega) ?_); (rw [r2]))
    exact h2
theorem m_mean_bad {O : zOm} (hO : zWld O) (hS : zS O = zmS zC0) {t kd a b : Int} {T n : Nat} {M : zMem} {K : Option zV → zMem → Prop} (hT : M 250 ((11 : Nat) : Int) = ((T : Nat) : Int)) (hn : M 250 ((1 : Nat) : Int) = ((n : Nat) : Int)) (hn2 : n ≤ 16) (hb : ¬ ((0 ≤ t ∧ t < ((T : Nat) : Int)) ∧ zIsQ n kd a b = true ∧ 0 ≤ kd ∧ kd ≤ 2)) (hk : K (some (0, -1)) M) : zR O F_Model_mean [(2, 250), (0, t), (0, kd), (0, a), (0, b)] M K := by
  apply r_Model_mean hO
  unfold B_Model_mean
  have f52 := zMF (k := 52) hS rfl; have f51 := zMF (k := 51) hS rfl; have a288 := zMA (a := 288) (ty := .int) (n := 512) hS rfl; have f24 := zMF (k := 24) hS rfl; have a270 := zMA (a := 270) (ty := .int) (n := 512) hS rfl; have f23 := zMF (k := 23) hS rfl; have a269 := zMA (a := 269) (ty := .int) (n := 512) hS rfl; have zo := zMO hS
  by_cases ht : 0 ≤ t ∧ t < ((T : Nat) : Int)
  · by_cases h0 : kd < 0
    · ((with_reducible refine i_Seq (i_If (i_cOr (i_cOr (i_cOr (i_cNot (i_cZ_ne (i_Call (i_as1 (i_A0 (i_as1 (i_L1 (i_as0 ?_))))))))))))); (with_reducible refine i_recv0 (by assumption) ?_); (refine m_isTelling hO hS hT ⟨_, rfl, ?_⟩); (rw [decide_eq_true ht]); rw [zbI_t]; (with_reducible refine i_t (by omega) ?_); (with_reducible refine i_cZ_lt (i_L2 ?_)); (with_reducible refine i_t (by omega) ?_); (with_reducible refine i_RetI (i_I ?_)))
      exact hk
    · by_cases h1 : 2 < kd
      · ((with_reducible refine i_Seq (i_If (i_cOr (i_cOr (i_cOr (i_cNot (i_cZ_ne (i_Call (i_as1 (i_A0 (i_as1 (i_L1 (i_as0 ?_))))))))))))); (with_reducible refine i_recv0 (by assumption) ?_); (refine m_isTelling hO hS hT ⟨_, rfl, ?_⟩); (rw [decide_eq_true ht]); rw [zbI_t]; (with_reducible refine i_t (by omega) ?_); (with_reducible refine i_cZ_lt (i_L2 ?_)); (with_reducible refine i_f (by omega) ?_); (with_reducible refine i_cI_gt (i_L2 (i_I ?_))); (with_reducible refine i_t (by omega) ?_); (with_reducible refine i_RetI (i_I ?_)))
        exact hk
      · have hq : zIsQ n kd a b = false := by
          cases e : zIsQ n kd a b
          · rfl
          · exact absurd ⟨ht, e, by omega, by omega⟩ hb
        ((with_reducible refine i_Seq (i_If (i_cOr (i_cOr (i_cOr (i_cNot (i_cZ_ne (i_Call (i_as1 (i_A0 (i_as1 (i_L1 (i_as0 ?_))))))))))))); (with_reducible refine i_recv0 (by assumption) ?_); (refine m_isTelling hO hS hT ⟨_, rfl, ?_⟩); (rw [decide_eq_true ht]); rw [zbI_t]; (with_reducible refine i_t (by omega) ?_); (with_reducible refine i_cZ_lt (i_L2 ?_)); (with_reducible refine i_f (by omega) ?_); (with_reducible refine i_cI_gt (i_L2 (i_I ?_))); (with_reducible refine i_f (by omega) ?_); (with_reducible refine i_cNot (i_cZ_ne (i_Call (i_as1 (i_A0 (i_as1 (i_L2 (i_as1 (i_L3 (i_as1 (i_L4 (i_as0 ?_)))))))))))); (with_reducible refine i_recv0 (by assumption) ?_); (refine m_isQuestion hO hS hn hn2 ⟨_, rfl, ?_⟩); (rw [hq]); rw [zbI_f]; (with_reducible refine i_f (by omega) ?_); (with_reducible refine i_RetI (i_I ?_)))
        exact hk
  · ((with_reducible refine i_Seq (i_If (i_cOr (i_cOr (i_cOr (i_cNot (i_cZ_ne (i_Call (i_as1 (i_A0 (i_as1 (i_L1 (i_as0 ?_))))))))))))); (with_reducible refine i_recv0 (by assumption) ?_); (refine m_isTelling hO hS hT ⟨_, rfl, ?_⟩); (rw [decide_eq_false ht]); rw [zbI_f]; (with_reducible refine i_f (by omega) ?_); (with_reducible refine i_RetI (i_I ?_)))
    exact hk
theorem m_mean {O : zOm} (hO : zWld O) (hS : zS O = zmS zC0) {t T n kd a b' : Nat} {b : Int} {A : zTl} {M : zMem} {K : Option zV → zMem → Prop} (hT : M 250 ((11 : Nat) : Int) = ((T : Nat) : Int)) (hT5 : T ≤ 5) (ht : t < T) (hn : M 250 ((1 : Nat) : Int) = ((n : Nat) : Int)) (hn2 : n ≤ 16) (hA : rTe M t n A) (hw : zTw n A) (hQ : zQok n kd a b b') (hkd : kd ≤ 2)
    (hk : ∀ M', (∀ b j, ¬ (b = 250 ∧ j = 52 ∨ ((268 : Nat) : Int) ≤ b ∧ b ≤ ((270 : Nat) : Int) ∨ b = ((288 : Nat) : Int)) → M' b j = M b j) → K (some (0, ((zqS n A kd a b' 2 : Nat) : Int))) M') : zR O F_Model_mean [(2, 250), (0, ((t : Nat) : Int)), (0, ((kd : Nat) : Int)), (0, ((a : Nat) : Int)), (0, b)] M K := by
  have hqt := zQok_is hQ
  have hat : zqA n A kd a b' ≤ 120 := zp2_le _ hn2
  have hz0 : zqS n A kd a b' 2 = 1000 * zqA n A kd a b' + zsum (zshr' n A kd a b' 2) 512 := by unfold zqS; rw [if_neg (by omega), if_pos rfl]
  rw [hz0] at hk
  apply r_Model_mean hO
  unfold B_Model_mean
  have f52 := zMF (k := 52) hS rfl; have f51 := zMF (k := 51) hS rfl; have a288 := zMA (a := 288) (ty := .int) (n := 512) hS rfl; have f24 := zMF (k := 24) hS rfl; have a270 := zMA (a := 270) (ty := .int) (n := 512) hS rfl; have f23 := zMF (k := 23) hS rfl; have a269 := zMA (a := 269) (ty := .int) (n := 512) hS rfl; have zo := zMO hS
  ((with_reducible refine i_Seq (i_If (i_cOr (i_cOr (i_cOr (i_cNot (i_cZ_ne (i_Call (i_as1 (i_A0 (i_as1 (i_L1 (i_as0 ?_))))))))))))); (with_reducible refine i_recv0 (by assumption) ?_); (refine m_isTelling hO hS hT ⟨_, rfl, ?_⟩); (rw [decide_eq_true (show 0 ≤ ((t : Nat) : Int) ∧ ((t : Nat) : Int) < ((T : Nat) : Int) by omega)]); rw [zbI_t]; (with_reducible refine i_t (by omega) ?_); (with_reducible refine i_cZ_lt (i_L2 ?_)); (with_reducible refine i_f (by omega) ?_); (with_reducible refine i_cI_gt (i_L2 (i_I ?_))); (with_reducible refine i_f (by omega) ?_); (with_reducible refine i_cNot (i_cZ_ne (i_Call (i_as1 (i_A0 (i_as1 (i_L2 (i_as1 (i_L3 (i_as1 (i_L4 (i_as0 ?_)))))))))))); (with_reducible refine i_recv0 (by assumption) ?_); (refine m_isQuestion hO hS hn hn2 ⟨_, rfl, ?_⟩); (rw [hqt]); rw [zbI_t]; (with_reducible refine i_t (by omega) ?_); (with_reducible refine i_Seq (i_sCall (i_as1 (i_A0 (i_as1 (i_L1 (i_as0 ?_))))))); (with_reducible refine i_recv0 (by assumption) ?_))
  refine m_sorts hO hS (by omega) hn hn2 hA hw (fun M1 f1 S1 R1 => ⟨rfl, ?_⟩)
  have hA1 : rTe M1 t n A := hA.to hn2 hw (fun b j q => f1 b j (by omega))
  ((with_reducible refine i_Seq (i_sCall (i_as1 (i_A0 (i_as1 (i_L1 (i_as1 (i_L2 (i_as1 (i_L3 (i_as1 (i_L4 (i_as0 ?_))))))))))))); (with_reducible refine i_recv0 (by assumption) ?_))
  refine m_collect hO hS (by omega) (show M1 250 ((1 : Nat) : Int) = ((n : Nat) : Int) by rw [f1 _ _ (by omega)]; exact hn) hn2 hA1 hw S1 hQ (by omega) (fun M2 f2 g2 g3 => ⟨rfl, ?_⟩)
  have hk2 := hk M2 (fun b j q => by rw [f2 b j (by omega), f1 b j (by omega)])
  have R2 : ∀ k : Nat, k < 512 → M2 ((269 : Nat) : Int) ((k : Nat) : Int) = ((tR n A k : Nat) : Int) ∧ M2 ((270 : Nat) : Int) ((k : Nat) : Int) = ((tQ n A k : Nat) : Int) := fun k hk1 => by rw [f2 _ _ (by omega), f2 _ _ (by omega)]; exact R1 k hk1
  clear hk R1
  generalize zqA n A kd a b' = z0 at hat hk2 g3
  ((with_reducible refine i_Seq (i_Set (i_Mul (i_I (i_F (i_A0 ?_)))))); (with_reducible refine i_fld (by assumption) ?_); (with_reducible refine i_Seq (i_Blk (i_Seq (i_Set (i_I ?_))))); (rw [g3]); rw [zx_cmul (by omega)]; simp only [w_set0, w_set1, w_setn0, w_setn1])
  refine w_ForN 512 (fun k ρ M' => (∃ l, ρ = 250 :: ((t : Nat) : Int) :: ((kd : Nat) : Int) :: ((a : Nat) : Int) :: b :: ((1000 * z0 + zsum (zshr' n A kd a b' 2) k : Nat) : Int) :: ((k : Nat) : Int) :: l) ∧ M' = M2) ⟨⟨_, rfl⟩, rfl⟩ ?_ ?_
  · rintro k ρ M3 X hk1 ⟨⟨l, rfl⟩, rfl⟩ hX
    obtain ⟨r1, r2⟩ := R2 k hk1
    have r3 := g2 k hk1
    have hcap := zsum_cap (f := zshr' n A kd a b' 2) (c := 120000) (fun k => zshr_le hn2) k
    have hcap2 : k * 120000 ≤ 512 * 120000 := Nat.mul_le_mul_right _ (by omega)
    have hX2 : ∀ (l : zLoc) (c : Nat), c = 1000 * z0 + zsum (zshr' n A kd a b' 2) k + zshr' n A kd a b' 2 k → X (250 :: ((t : Nat) : Int) :: ((kd : Nat) : Int) :: ((a : Nat) : Int) :: b :: ((c : Nat) : Int) :: ((k + 1 : Nat) : Int) :: l) M3 := fun l c hc => by subst hc; rw [Nat.add_assoc]; exact hX _ _ ⟨⟨l, rfl⟩, rfl⟩
    have b1 : tR n A k ≤ 120 := tR_le n A k hn2
    have b2 := tQ_R n A k
    have b3 := zas_R n A kd a b' k
    have h0 := zshr_0 (n := n) (A := A) (kind := kd) (a := a) (b' := b') (k := k) (how := 2)
    have hl1 : zshr' n A kd a b' 2 k ≤ 120000 := zshr_le hn2
    have hdf : zshr' n A kd a b' 2 k = if k < 256 then 1000 * tQ n A k * zas n A kd a b' k / tR n A k else 1000 * zas n A kd a b' k - 1000 * tQ n A k * zas n A kd a b' k / tR n A k := by
      unfold zshr'
      rw [if_neg (by omega), if_pos rfl]
    clear hX hk2 R2 g2
    generalize zshr' n A kd a b' 2 k = v at hX2 hl1 hdf h0
    generalize zsum (zshr' n A kd a b' 2) k = u at hX2 hcap ⊢
    generalize tR n A k = R at r1 b1 b2 b3 hdf
    generalize tQ n A k = C at r2 b2 hdf
    generalize zas n A kd a b' k = r at r3 b3 hdf h0
    have hml : 1000 * C * r ≤ 1000 * 120 * 120 := Nat.mul_le_mul (Nat.mul_le_mul_left _ (by omega)) (by omega)
    have hmn := zmean_le (r := r) b2
    by_cases hr0 : r = 0
    · have hv := h0 hr0
      subst hr0
      ((with_reducible refine i_turn (i_cI_lt (i_L6 (i_I ?_)))); (with_reducible refine i_t (by omega) ?_); (with_reducible refine i_Blk (i_Seq (i_IfBrk (i_cZ_eq (i_IA (i_FR (i_A0 ?_))))))); (with_reducible refine i_fldR (by assumption) ?_); (with_reducible refine i_L6 ?_); (with_reducible refine i_in (by assumption) (by omega) (by omega) ?_); (rw [r3]); (with_reducible refine i_t (by omega) ?_); (with_reducible refine i_lab1 (i_up (i_Inc6 ?_))); rw [zx_inc (by omega)]; simp only [w_set0, w_set1, w_setn0, w_setn1])
      exact hX2 _ _ (by omega)
    · by_cases w1 : k < 256
      · rw [if_pos w1] at hdf
        rw [← hdf] at hmn
        ((with_reducible refine i_turn (i_cI_lt (i_L6 (i_I ?_)))); (with_reducible refine i_t (by omega) ?_); (with_reducible refine i_Blk (i_Seq (i_IfBrk (i_cZ_eq (i_IA (i_FR (i_A0 ?_))))))); (with_reducible refine i_fldR (by assumption) ?_); (with_reducible refine i_L6 ?_); (with_reducible refine i_in (by assumption) (by omega) (by omega) ?_); (rw [r3]); (with_reducible refine i_f (by omega) ?_); (with_reducible refine i_Seq (i_Set (i_Div (i_Mul (i_Mul (i_I (i_IA (i_FR (i_A0 ?_))))))))); (with_reducible refine i_fldR (by assumption) ?_); (with_reducible refine i_L6 ?_); (with_reducible refine i_in (by assumption) (by omega) (by omega) ?_); (with_reducible refine i_IA (i_FR (i_A0 ?_))); (with_reducible refine i_fldR (by assumption) ?_); (with_reducible refine i_L6 ?_); (with_reducible refine i_in (by assumption) (by omega) (by omega) ?_); (with_reducible refine i_IA (i_FR (i_A0 ?_))); (with_reducible refine i_fldR (by assumption) ?_); (with_reducible refine i_L6 ?_); (with_reducible refine i_in (by assumption) (by omega) (by omega) ?_); (rw [r3]); (rw [r1]); (rw [r2]); ((with_reducible refine i_nn (show (((R : Nat) : Int) : Int) ≠ 0 by omega) ?_)); (with_reducible refine i_Set (i_Add ?_)); rw [zx_cmul (by omega)]; (rw [zx_mul (by omega)]); (rw [zx_dv (by omega)]); (rw [← hdf]); simp only [w_set0, w_set1, w_setn0, w_setn1]; (with_reducible refine i_L5 (i_eIf (i_cI_lt (i_L6 (i_I ?_))))); rw [w_setT]; (with_reducible refine i_t (by omega) ?_); (with_reducible refine i_L7 (i_up ?_)); rw [zx_add (by omega)]; simp only [w_set0, w_set1, w_setn0, w_setn1]; (with_reducible refine i_Inc6 ?_); rw [zx_inc (by omega)]; simp only [w_set0, w_set1, w_setn0, w_setn1])
        exact hX2 _ _ (by omega)
      · rw [if_neg w1] at hdf
        generalize hq : 1000 * C * r / R = q at hdf hmn
        ((with_reducible refine i_turn (i_cI_lt (i_L6 (i_I ?_)))); (with_reducible refine i_t (by omega) ?_); (with_reducible refine i_Blk (i_Seq (i_IfBrk (i_cZ_eq (i_IA (i_FR (i_A0 ?_))))))); (with_reducible refine i_fldR (by assumption) ?_); (with_reducible refine i_L6 ?_); (with_reducible refine i_in (by assumption) (by omega) (by omega) ?_); (rw [r3]); (with_reducible refine i_f (by omega) ?_); (with_reducible refine i_Seq (i_Set (i_Div (i_Mul (i_Mul (i_I (i_IA (i_FR (i_A0 ?_))))))))); (with_reducible refine i_fldR (by assumption) ?_); (with_reducible refine i_L6 ?_); (with_reducible refine i_in (by assumption) (by omega) (by omega) ?_); (with_reducible refine i_IA (i_FR (i_A0 ?_))); (with_reducible refine i_fldR (by assumption) ?_); (with_reducible refine i_L6 ?_); (with_reducible refine i_in (by assumption) (by omega) (by omega) ?_); (with_reducible refine i_IA (i_FR (i_A0 ?_))); (with_reducible refine i_fldR (by assumption) ?_); (with_reducible refine i_L6 ?_); (with_reducible refine i_in (by assumption) (by omega) (by omega) ?_); (rw [r3]); (rw [r1]); (rw [r2]); ((with_reducible refine i_nn (show (((R : Nat) : Int) : Int) ≠ 0 by omega) ?_)); (with_reducible refine i_Set (i_Add ?_)); rw [zx_cmul (by omega)]; (rw [zx_mul (by omega)]); (rw [zx_dv (by omega)]); (rw [hq]); simp only [w_set0, w_set1, w_setn0, w_setn1]; (with_reducible refine i_L5 (i_eIf (i_cI_lt (i_L6 (i_I ?_))))); rw [w_setT]; (with_reducible refine i_f (by omega) ?_); (with_reducible refine i_Sub (i_Mul (i_I (i_IA (i_FR (i_A0 ?_)))))); (with_reducible refine i_fldR (by assumption) ?_); (with_reducible refine i_L6 ?_); (with_reducible refine i_in (by assumption) (by omega) (by omega) ?_); (with_reducible refine i_L7 (i_up ?_)); (rw [r3]); rw [zx_cmul (by omega)]; rw [zx_sub (by omega) (by omega)]; rw [zx_add (by omega)]; simp only [w_set0, w_set1, w_setn0, w_setn1]; (with_reducible refine i_Inc6 ?_); rw [zx_inc (by omega)]; simp only [w_set0, w_set1, w_setn0, w_setn1])
        exact hX2 _ _ (by omega)
  · rintro ρ M3 X ⟨⟨l, rfl⟩, rfl⟩
    ((with_reducible refine i_turn (i_cI_lt (i_L6 (i_I ?_)))); (with_reducible refine i_f (by omega) ?_); (with_reducible refine i_RetI (i_L5 ?_)))
    exact hk2
theorem c_mean_bad {O : zOm} (hO : zWld O) (hS : zS O = zmS zC0) {t kd a b : Int} {T n : Nat} {M : zMem} {K : Option zV → zMem → Prop} (hT : M ((0 : Nat) : Int) ((4 : Nat) : Int) = ((T : Nat) : Int)) (hT5 : T ≤ 5) (hP : M ((1 : Nat) : Int) ((2 : Nat) : Int) = ((n : Nat) : Int)) (hn2 : n ≤ 16) (hb : ¬ ((0 ≤ t ∧ t < ((T : Nat) : Int)) ∧ zIsQ n kd a b = true ∧ 0 ≤ kd ∧ kd ≤ 2)) (hk : K (some (0, -1)) M) : zR O F_ToldNet_mean [(2, ((0 : Nat) : Int)), (0, t), (0, kd), (0, a), (0, b)] M K := by
  have o1 := zo_1 hS
  apply r_ToldNet_mean hO
  unfold B_ToldNet_mean
  have f0_0 := zf_0_0 hS; have f0_8 := zf_0_8 hS; have z0 := zo_0 hS; have z1 := zo_1 hS; have z134 := zo_134 hS
  ((with_reducible refine i_Seq (i_Set (i_Call (i_as1 (i_A0 (i_as1 (i_L1 (i_as0 ?_)))))))); (with_reducible refine i_recv0 (by assumption) ?_); simp only [w_set0, w_set1, w_setn0, w_setn1])
  refine c_find hO hS hT hT5 (fun hx => ⟨_, rfl, ?_⟩) (fun k e hk1 => ⟨_, rfl, ?_⟩)
  · ((with_reducible refine i_Seq (i_If (i_cOr (i_cOr (i_cN (i_A5 ?_)))))); simp only [w_set0, w_set1, w_setn0, w_setn1]; (with_reducible refine i_t trivial ?_); (with_reducible refine i_RetI (i_I ?_)))
    exact hk
  · cases hq : zIsQ n kd a b
    · ((with_reducible refine i_Seq (i_If (i_cOr (i_cOr (i_cN (i_A5 ?_)))))); (with_reducible refine i_f (by omega) ?_); (with_reducible refine i_cNot (i_cZ_ne (i_Call (i_as1 (i_FR (i_A0 ?_)))))); (with_reducible refine i_fldR (by assumption) ?_); (with_reducible refine i_as1 (i_L2 (i_as1 (i_L3 (i_as1 (i_L4 (i_as0 ?_))))))); (with_reducible refine i_recv0 (by assumption) ?_); (refine c_isQuestion hO hS hP hn2 ⟨_, rfl, ?_⟩); (rw [hq]); rw [zbI_f]; (with_reducible refine i_f (by omega) ?_); (with_reducible refine i_RetI (i_I ?_)))
      exact hk
    · obtain ⟨kd', a', b', rfl, -, -⟩ := zIsQ_ok hq
      have h2 : 2 < kd' := by
        rcases Nat.lt_or_ge 2 kd' with h | h
        · exact h
        · exact absurd ⟨by omega, hq, by omega, by omega⟩ hb
      ((with_reducible refine i_Seq (i_If (i_cOr (i_cOr (i_cN (i_A5 ?_)))))); (with_reducible refine i_f (by omega) ?_); (with_reducible refine i_cNot (i_cZ_ne (i_Call (i_as1 (i_FR (i_A0 ?_)))))); (with_reducible refine i_fldR (by assumption) ?_); (with_reducible refine i_as1 (i_L2 (i_as1 (i_L3 (i_as1 (i_L4 (i_as0 ?_))))))); (with_reducible refine i_recv0 (by assumption) ?_); (refine c_isQuestion hO hS hP hn2 ⟨_, rfl, ?_⟩); (rw [hq]); rw [zbI_t]; (with_reducible refine i_t (by omega) ?_); (with_reducible refine i_cI_gt (i_L2 (i_I ?_))); (with_reducible refine i_t (by omega) ?_); (with_reducible refine i_RetI (i_I ?_)))
      exact hk
theorem c_mean {O : zOm} (hO : zWld O) (hS : zS O = zmS zC0) {t T n kd a b' : Nat} {b : Int} {A : zTl} {M : zMem} {K : Option zV → zMem → Prop} (hT : M ((0 : Nat) : Int) ((4 : Nat) : Int) = ((T : Nat) : Int)) (hT5 : T ≤ 5) (ht : t < T) (hP : M ((1 : Nat) : Int) ((2 : Nat) : Int) = ((n : Nat) : Int)) (hn1 : 0 < n) (hn2 : n ≤ 16) (hA : zTR M (185 + 13 * t) n A) (hw : zTw n A) (hC : cSo M) (hQ : zQok n kd a b b') (hkd : kd ≤ 2)
    (hk : ∀ M', (∀ b j, ¬ (b = ((134 : Nat) : Int) ∧ (j = 6 ∨ j = 7) ∨ ((135 : Nat) : Int) ≤ b ∧ b ≤ ((146 : Nat) : Int)) → M' b j = M b j) → cSo M' → K (some (0, ((zqS n A kd a b' 2 : Nat) : Int))) M') : zR O F_ToldNet_mean [(2, ((0 : Nat) : Int)), (0, ((t : Nat) : Int)), (0, ((kd : Nat) : Int)), (0, ((a : Nat) : Int)), (0, b)] M K := by
  have hx := zTelT hS (show t < 5 by omega)
  have hx0 := hx.1.1
  obtain ⟨⟨o134, -⟩, -⟩ := zO134_ok hS
  have o1 := zo_1 hS
  have hqt := zQok_is hQ
  apply r_ToldNet_mean hO
  unfold B_ToldNet_mean
  have f0_0 := zf_0_0 hS; have f0_8 := zf_0_8 hS; have z0 := zo_0 hS; have z1 := zo_1 hS; have z134 := zo_134 hS
  ((with_reducible refine i_Seq (i_Set (i_Call (i_as1 (i_A0 (i_as1 (i_L1 (i_as0 ?_)))))))); (with_reducible refine i_recv0 (by assumption) ?_); simp only [w_set0, w_set1, w_setn0, w_setn1])
  refine c_find hO hS hT hT5 (fun hx => absurd (show 0 ≤ ((t : Nat) : Int) ∧ ((t : Nat) : Int) < ((T : Nat) : Int) by omega) hx) (fun k e hk1 => ⟨_, rfl, ?_⟩)
  rw [show k = t by omega]
  ((with_reducible refine i_Seq (i_If (i_cOr (i_cOr (i_cN (i_A5 ?_)))))); (with_reducible refine i_f (by omega) ?_); (with_reducible refine i_cNot (i_cZ_ne (i_Call (i_as1 (i_FR (i_A0 ?_)))))); (with_reducible refine i_fldR (by assumption) ?_); (with_reducible refine i_as1 (i_L2 (i_as1 (i_L3 (i_as1 (i_L4 (i_as0 ?_))))))); (with_reducible refine i_recv0 (by assumption) ?_); (refine c_isQuestion hO hS hP hn2 ⟨_, rfl, ?_⟩); (rw [hqt]); rw [zbI_t]; (with_reducible refine i_t (by omega) ?_); (with_reducible refine i_cI_gt (i_L2 (i_I ?_))); (with_reducible refine i_f (by omega) ?_); (with_reducible refine i_Seq (i_sCall (i_as1 (i_FR (i_A0 ?_))))); (with_reducible refine i_fldR (by assumption) ?_); (with_reducible refine i_as1 (i_A5 (i_as0 ?_))); (with_reducible refine i_recv0 (by assumption) ?_))
  refine c_take hO hS hx (by omega) hA hn2 hw hC (fun M1 f1 h1 => ⟨rfl, ?_⟩)
  have hA1 : zTR M1 (185 + 13 * t) n A := hA.to (fun b j a1 a2 => f1 b j (by omega))
  ((with_reducible refine i_RetI (i_Call (i_as1 (i_FR (i_A0 ?_))))); (with_reducible refine i_fldR (by assumption) ?_); (with_reducible refine i_as1 (i_A5 (i_as1 (i_L2 (i_as1 (i_L3 (i_as1 (i_L4 (i_as1 (i_I (i_as0 ?_))))))))))); (with_reducible refine i_recv0 (by assumption) ?_))
  refine c_answer hO hS (how := 2) hx (by omega) hA1.1.1 hn1 hn2 hw hQ (Or.inr ⟨by omega, by omega⟩) h1 (if_pos (by omega)).symm (fun M2 f2 h2 => ⟨_, rfl, ?_⟩)
  (skip)
  exact hk M2 (fun b j q => by rw [f2 b j (by omega), f1 b j (by omega)]) h2.so
end
section
-- part h4.make.lean.txt
/-! ===== make: both sides ===== -/
/-- the labels of a parting made -/
noncomputable def zMkL (n : Nat) (T : Nat → Nat → Bool) (μ : Nat → Nat) (how : Nat) : Nat → Nat := if how = 0 then fun q => q else if how = 1 then fun _ => 0 else if how = 2 then (zPt n T).1 else if how = 3 then (zLs n T (zgK n)).2.2 else zcr n T μ (zrR n T μ + 1)
theorem zcr_le {n : Nat} (hn : 0 < n) {T : Nat → Nat → Bool} {μ : Nat → Nat} {k q : Nat} (hq : q < n) : zcr n T μ k q ≤ n := by
  rw [← zcr_cg hn]
  have h1 := zcg_lt (f := zcr n T μ k) hq
  have h2 := zcm_le n (zcr n T μ k)
  omega
theorem zmk5 {A B C D E : Prop} (q : ¬ (A ∨ B ∨ C ∨ D ∨ E)) : ¬ A ∧ ¬ B ∧ ¬ C ∧ ¬ D ∧ ¬ E := ⟨fun h => q (.inl h), fun h => q (.inr (.inl h)), fun h => q (.inr (.inr (.inl h))), fun h => q (.inr (.inr (.inr (.inl h)))), fun h => q (.inr (.inr (.inr (.inr h))))⟩
theorem m_make_bad {O : zOm} (hO : zWld O) (hS : zS O = zmS zC0) {x : Int} {T n : Nat} {M : zMem} {K : Option zV → zMem → Prop} (hT : M 250 ((11 : Nat) : Int) = ((T : Nat) : Int)) (hn : M 250 ((1 : Nat) : Int) = ((n : Nat) : Int)) (hb : ((T : Nat) : Int) = 5 ∨ ¬ (0 ≤ x ∧ x ≤ 4) ∨ x = 3 ∧ 8 < n) (hk : K (some (0, -1)) M) : zR O F_Model_make [(2, 250), (0, x)] M K := by
  apply r_Model_make hO
  unfold B_Model_make
  have f11 := zMF (k := 11) hS rfl; have f1 := zMF (k := 1) hS rfl; have f26 := zMF (k := 26) hS rfl; have a272 := zMA (a := 272) (ty := .int) (n := 16) hS rfl; have f27 := zMF (k := 27) hS rfl; have a273 := zMA (a := 273) (ty := .int) (n := 16) hS rfl; have f57 := zMF (k := 57) hS rfl; have a292 := zMA (a := 292) (ty := .int) (n := 16) hS rfl; have zo := zMO hS
  (focus ((with_reducible refine i_Seq (i_If (i_cOr (i_cOr (i_cOr (i_cI_eq (i_F (i_A0 ?_)))))))); (with_reducible refine i_fld (by assumption) ?_); (with_reducible refine i_I ?_); (rw [hT]); (with_reducible refine i_br ?_ ?_ <;> intro hc); (focus ((with_reducible refine i_RetI (i_I ?_)))); rotate_left; (focus ((with_reducible refine i_cZ_lt (i_L1 ?_)); (with_reducible refine i_br ?_ ?_ <;> intro hc); (focus ((with_reducible refine i_RetI (i_I ?_)))); rotate_left; (focus ((with_reducible refine i_cI_gt (i_L1 (i_I ?_))); (with_reducible refine i_br ?_ ?_ <;> intro hc); (focus ((with_reducible refine i_RetI (i_I ?_)))); rotate_left; (focus ((with_reducible refine i_cAnd (i_cI_eq (i_L1 (i_I ?_)))); (with_reducible refine i_t (by omega) ?_); (with_reducible refine i_cI_gt (i_F (i_A0 ?_))); (with_reducible refine i_fld (by assumption) ?_); (with_reducible refine i_I ?_); (rw [hn]); (with_reducible refine i_t (by omega) ?_); (with_reducible refine i_RetI (i_I ?_)))); rotate_right)); rotate_right)); rotate_right))
  all_goals first | exact hk | (exfalso; omega)
theorem m_make {O : zOm} (hO : zWld O) (hS : zS O = zmS zC0) {T n how : Nat} {N : Nat → Nat → Bool} {μ : Nat → Nat} {M : zMem} {K : Option zV → zMem → Prop} (hT : M 250 ((11 : Nat) : Int) = ((T : Nat) : Int)) (hT5 : T < 5) (hn : M 250 ((1 : Nat) : Int) = ((n : Nat) : Int)) (hn1 : 0 < n) (hn2 : n ≤ 16) (hN : rMx M 251 N) (hN0 : ∀ a, N a a = false) (hμ : ∀ r : Nat, r < n → M ((252 : Nat) : Int) ((r : Nat) : Int) = ((μ r : Nat) : Int) ∧ μ r < 100) (hh : how ≤ 4) (h8 : how = 3 → n ≤ 8)
    (hk : ∀ M', (∀ b j, ¬ (b = 250 ∧ (j = 11 ∨ j = 44) ∨ (b = 258 ∧ j = ((T : Nat) : Int) ∨ (b = 259 ∨ b = 260 ∨ b = 262 ∨ b = 263) ∧ ((16 * T : Nat) : Int) ≤ j ∧ j < ((16 * T + 16 : Nat) : Int) ∨ (b = 261 ∨ b = 264 ∨ b = 265 ∨ b = 266) ∧ ((256 * T : Nat) : Int) ≤ j ∧ j < ((256 * T + 256 : Nat) : Int)) ∨ (b = 258 ∧ j = ((5 : Nat) : Int) ∨ (b = 259 ∨ b = 260 ∨ b = 262 ∨ b = 263) ∧ ((16 * 5 : Nat) : Int) ≤ j ∧ j < ((16 * 5 + 16 : Nat) : Int) ∨ (b = 261 ∨ b = 264 ∨ b = 265 ∨ b = 266) ∧ ((256 * 5 : Nat) : Int) ≤ j ∧ j < ((256 * 5 + 256 : Nat) : Int)) ∨ (b = 258 ∧ j = ((6 : Nat) : Int) ∨ (b = 259 ∨ b = 260 ∨ b = 262 ∨ b = 263) ∧ ((16 * 6 : Nat) : Int) ≤ j ∧ j < ((16 * 6 + 16 : Nat) : Int) ∨ (b = 261 ∨ b = 264 ∨ b = 265 ∨ b = 266) ∧ ((256 * 6 : Nat) : Int) ≤ j ∧ j < ((256 * 6 + 256 : Nat) : Int)) ∨ ((267 : Nat) : Int) ≤ b ∧ b ≤ ((273 : Nat) : Int) ∨ ((283 : Nat) : Int) ≤ b ∧ b ≤ ((285 : Nat) : Int) ∨ b = ((292 : Nat) : Int) ∨ b = ((293 : Nat) : Int)) → M' b j = M b j) → M' 250 ((11 : Nat) : Int) = ((T + 1 : Nat) : Int) → rTe M' T n (zRq n N (zMkL n N μ how)) → K (some (0, ((T : Nat) : Int))) M') : zR O F_Model_make [(2, 250), (0, ((how : Nat) : Int))] M K := by
  have hb01 : ∀ j : Nat, j < 256 → M ((251 : Nat) : Int) j = 0 ∨ M ((251 : Nat) : Int) j = 1 := fun j hj => hN.b01 hj
  apply r_Model_make hO
  unfold B_Model_make
  have f11 := zMF (k := 11) hS rfl; have f1 := zMF (k := 1) hS rfl; have f26 := zMF (k := 26) hS rfl; have a272 := zMA (a := 272) (ty := .int) (n := 16) hS rfl; have f27 := zMF (k := 27) hS rfl; have a273 := zMA (a := 273) (ty := .int) (n := 16) hS rfl; have f57 := zMF (k := 57) hS rfl; have a292 := zMA (a := 292) (ty := .int) (n := 16) hS rfl; have zo := zMO hS
  rcases (show how = 0 ∨ how = 1 ∨ how = 2 ∨ how = 3 ∨ how = 4 by omega) with rfl | rfl | rfl | rfl | rfl
  · ((with_reducible refine i_Seq (i_If (i_cOr (i_cOr (i_cOr (i_cI_eq (i_F (i_A0 ?_)))))))); (with_reducible refine i_fld (by assumption) ?_); (with_reducible refine i_I ?_); (rw [hT]); (with_reducible refine i_f (by omega) ?_); (with_reducible refine i_cZ_lt (i_L1 ?_)); (with_reducible refine i_f (by omega) ?_); (with_reducible refine i_cI_gt (i_L1 (i_I ?_))); (with_reducible refine i_f (by omega) ?_); (with_reducible refine i_cAnd (i_cI_eq (i_L1 (i_I ?_)))); (with_reducible refine i_f (by omega) ?_); (with_reducible refine i_Seq (i_sCall (i_as1 (i_A0 (i_as0 ?_))))); (with_reducible refine i_recv0 (by assumption) ?_))
    refine m_aimAtNet hO hS hN hb01 (fun M1 f1 gN => ⟨rfl, ?_⟩)
    have n1 : M1 250 ((1 : Nat) : Int) = ((n : Nat) : Int) := by rw [f1 _ _ (by omega)]; exact hn
    have t1 : M1 250 ((11 : Nat) : Int) = ((T : Nat) : Int) := by rw [f1 _ _ (by omega)]; exact hT
    ((with_reducible refine i_Seq (i_Set (i_F (i_A0 ?_)))); (with_reducible refine i_fld (by assumption) ?_); (with_reducible refine i_Seq (i_Ite (i_cI_eq ?_))); (rw [t1]); simp only [w_set0, w_set1, w_setn0, w_setn1]; (with_reducible refine i_L1 (i_I ?_)); (with_reducible refine i_f (by omega) ?_); (with_reducible refine i_Seq (i_Ite (i_cI_eq (i_L1 (i_I ?_))))); (with_reducible refine i_f (by omega) ?_); (with_reducible refine i_Seq (i_If (i_cI_eq (i_L1 (i_I ?_))))); (with_reducible refine i_f (by omega) ?_); (with_reducible refine i_Blk (i_Seq (i_Set (i_I ?_)))); simp only [w_set0, w_set1, w_setn0, w_setn1])
    have k1 : ∀ b j, ¬ (b = 267) → M1 b j = M b j := fun b j q => f1 b j q
    (skip)
    refine w_ForN n (fun k ρ M' => (∃ l, ρ = 250 :: ((0 : Nat) : Int) :: ((T : Nat) : Int) :: ((k : Nat) : Int) :: l) ∧ (∀ b j, ¬ b = ((272 : Nat) : Int) → M' b j = M1 b j) ∧ ∀ j : Nat, j < k → M' ((272 : Nat) : Int) ((j : Nat) : Int) = ((j : Nat) : Int)) ⟨⟨_, rfl⟩, fun _ _ _ => rfl, fun j hj => absurd hj (by omega)⟩ ?_ ?_
    · rintro k ρ M9 X hk1 ⟨⟨l, rfl⟩, hf, h⟩ hX
      have n9 : M9 250 ((1 : Nat) : Int) = ((n : Nat) : Int) := by rw [hf _ _ (by omega)]; exact n1
      ((with_reducible refine i_turn (i_cI_lt (i_L3 (i_F (i_A0 ?_))))); (with_reducible refine i_fld (by assumption) ?_); (rw [n9]); (with_reducible refine i_t (by omega) ?_); (with_reducible refine i_sIA (i_FR (i_A0 ?_))); (with_reducible refine i_fldR (by assumption) ?_); (with_reducible refine i_L3 (i_eIf (i_cZ_eq (i_L1 ?_)))); (with_reducible refine i_t (by omega) ?_); (with_reducible refine i_L3 ?_); (with_reducible refine i_in (by assumption) (by omega) (by omega) ?_); (with_reducible refine i_up (i_Inc3 ?_)); rw [zx_inc (by omega)]; simp only [w_set0, w_set1, w_setn0, w_setn1])
      refine hX _ _ ⟨⟨_, rfl⟩, fun b j q => by rw [zg_o _ _ (by omega)]; exact hf b j q, fun j hj => ?_⟩
      by_cases e : j = k
      · subst e; rw [zg_s]
      · rw [zg_m _ _ _ _ _ (by omega)]; exact h j (by omega)
    rintro ρ M7 X ⟨⟨l, rfl⟩, hf, h⟩
    have gl : rLab M7 n (fun q => q) := fun p hp => h p hp
    have n9 : M7 250 ((1 : Nat) : Int) = ((n : Nat) : Int) := by rw [hf _ _ (by omega)]; exact n1
    have fL : ∀ b j, ¬ b = ((272 : Nat) : Int) → M7 b j = M1 b j := hf
    have fA : ∀ b j, ¬ (b = 267 ∨ b = ((272 : Nat) : Int)) → M7 b j = M b j := fun b j q => by rw [hf b j (by omega), f1 b j (by omega)]
    ((with_reducible refine i_turn (i_cI_lt (i_L3 (i_F (i_A0 ?_))))); (with_reducible refine i_fld (by assumption) ?_); (rw [n9]); (with_reducible refine i_f (by omega) ?_); (with_reducible refine i_sCall (i_as1 (i_A0 (i_as1 (i_L2 (i_as0 ?_)))))); (with_reducible refine i_recv0 (by assumption) ?_))
    refine m_settle hO hS (by omega) (show M7 250 ((1 : Nat) : Int) = ((n : Nat) : Int) by rw [fA _ _ (by omega)]; exact hn) hn2 gl (fun q hq => by show q ≤ 16; omega) (gN.to (fun j => by rw [fL _ _ (by omega)])) (fun M8 f8 g8 => ⟨rfl, ?_⟩)
    have gT8 : M8 250 ((11 : Nat) : Int) = ((T : Nat) : Int) := by rw [f8 _ _ (by omega), fA _ _ (by omega)]; exact hT
    ((with_reducible refine i_Seq (i_FO (i_A0 ?_))); (with_reducible refine i_fld (by assumption) ?_); (with_reducible refine i_I ?_); (with_reducible refine i_fld (by assumption) ?_); (with_reducible refine i_RetI (i_L2 ?_)); (rw [gT8]); rw [zx_inc (by omega)])
    refine hk _ (fun b j q => by obtain ⟨q0, qT, q5, q6, qE⟩ := zmk5 q; rw [zg_o _ _ (by exact fun h => q0 ⟨h.1, .inl h.2⟩), f8 b j (fun h => h.elim qT (fun h => qE (by clear q q0 qT q5 q6 qE; omega))), fA b j (fun h => qE (by clear q q0 qT q5 q6 qE; omega))]) (zg_s _ _ _ _ _) ?_
    exact g8.to hn2 (zRq_w hn2) (fun b j q => by rw [zg_o _ _ (by omega)])
  · ((with_reducible refine i_Seq (i_If (i_cOr (i_cOr (i_cOr (i_cI_eq (i_F (i_A0 ?_)))))))); (with_reducible refine i_fld (by assumption) ?_); (with_reducible refine i_I ?_); (rw [hT]); (with_reducible refine i_f (by omega) ?_); (with_reducible refine i_cZ_lt (i_L1 ?_)); (with_reducible refine i_f (by omega) ?_); (with_reducible refine i_cI_gt (i_L1 (i_I ?_))); (with_reducible refine i_f (by omega) ?_); (with_reducible refine i_cAnd (i_cI_eq (i_L1 (i_I ?_)))); (with_reducible refine i_f (by omega) ?_); (with_reducible refine i_Seq (i_sCall (i_as1 (i_A0 (i_as0 ?_))))); (with_reducible refine i_recv0 (by assumption) ?_))
    refine m_aimAtNet hO hS hN hb01 (fun M1 f1 gN => ⟨rfl, ?_⟩)
    have n1 : M1 250 ((1 : Nat) : Int) = ((n : Nat) : Int) := by rw [f1 _ _ (by omega)]; exact hn
    have t1 : M1 250 ((11 : Nat) : Int) = ((T : Nat) : Int) := by rw [f1 _ _ (by omega)]; exact hT
    ((with_reducible refine i_Seq (i_Set (i_F (i_A0 ?_)))); (with_reducible refine i_fld (by assumption) ?_); (with_reducible refine i_Seq (i_Ite (i_cI_eq ?_))); (rw [t1]); simp only [w_set0, w_set1, w_setn0, w_setn1]; (with_reducible refine i_L1 (i_I ?_)); (with_reducible refine i_f (by omega) ?_); (with_reducible refine i_Seq (i_Ite (i_cI_eq (i_L1 (i_I ?_))))); (with_reducible refine i_f (by omega) ?_); (with_reducible refine i_Seq (i_If (i_cI_eq (i_L1 (i_I ?_))))); (with_reducible refine i_f (by omega) ?_); (with_reducible refine i_Blk (i_Seq (i_Set (i_I ?_)))); simp only [w_set0, w_set1, w_setn0, w_setn1])
    have k1 : ∀ b j, ¬ (b = 267) → M1 b j = M b j := fun b j q => f1 b j q
    (skip)
    refine w_ForN n (fun k ρ M' => (∃ l, ρ = 250 :: ((1 : Nat) : Int) :: ((T : Nat) : Int) :: ((k : Nat) : Int) :: l) ∧ (∀ b j, ¬ b = ((272 : Nat) : Int) → M' b j = M1 b j) ∧ ∀ j : Nat, j < k → M' ((272 : Nat) : Int) ((j : Nat) : Int) = ((0 : Nat) : Int)) ⟨⟨_, rfl⟩, fun _ _ _ => rfl, fun j hj => absurd hj (by omega)⟩ ?_ ?_
    · rintro k ρ M9 X hk1 ⟨⟨l, rfl⟩, hf, h⟩ hX
      have n9 : M9 250 ((1 : Nat) : Int) = ((n : Nat) : Int) := by rw [hf _ _ (by omega)]; exact n1
      ((with_reducible refine i_turn (i_cI_lt (i_L3 (i_F (i_A0 ?_))))); (with_reducible refine i_fld (by assumption) ?_); (rw [n9]); (with_reducible refine i_t (by omega) ?_); (with_reducible refine i_sIA (i_FR (i_A0 ?_))); (with_reducible refine i_fldR (by assumption) ?_); (with_reducible refine i_L3 (i_eIf (i_cZ_eq (i_L1 ?_)))); (with_reducible refine i_f (by omega) ?_); (with_reducible refine i_eIf (i_cI_eq (i_L1 (i_I ?_)))); (with_reducible refine i_t (by omega) ?_); (with_reducible refine i_I ?_); (with_reducible refine i_in (by assumption) (by omega) (by omega) ?_); (with_reducible refine i_up (i_Inc3 ?_)); rw [zx_inc (by omega)]; simp only [w_set0, w_set1, w_setn0, w_setn1])
      refine hX _ _ ⟨⟨_, rfl⟩, fun b j q => by rw [zg_o _ _ (by omega)]; exact hf b j q, fun j hj => ?_⟩
      by_cases e : j = k
      · subst e; rw [zg_s]; rfl
      · rw [zg_m _ _ _ _ _ (by omega)]; exact h j (by omega)
    rintro ρ M7 X ⟨⟨l, rfl⟩, hf, h⟩
    have gl : rLab M7 n (fun _ => 0) := fun p hp => h p hp
    have n9 : M7 250 ((1 : Nat) : Int) = ((n : Nat) : Int) := by rw [hf _ _ (by omega)]; exact n1
    have fL : ∀ b j, ¬ b = ((272 : Nat) : Int) → M7 b j = M1 b j := hf
    have fA : ∀ b j, ¬ (b = 267 ∨ b = ((272 : Nat) : Int)) → M7 b j = M b j := fun b j q => by rw [hf b j (by omega), f1 b j (by omega)]
    ((with_reducible refine i_turn (i_cI_lt (i_L3 (i_F (i_A0 ?_))))); (with_reducible refine i_fld (by assumption) ?_); (rw [n9]); (with_reducible refine i_f (by omega) ?_); (with_reducible refine i_sCall (i_as1 (i_A0 (i_as1 (i_L2 (i_as0 ?_)))))); (with_reducible refine i_recv0 (by assumption) ?_))
    refine m_settle hO hS (by omega) (show M7 250 ((1 : Nat) : Int) = ((n : Nat) : Int) by rw [fA _ _ (by omega)]; exact hn) hn2 gl (fun q hq => Nat.zero_le _) (gN.to (fun j => by rw [fL _ _ (by omega)])) (fun M8 f8 g8 => ⟨rfl, ?_⟩)
    have gT8 : M8 250 ((11 : Nat) : Int) = ((T : Nat) : Int) := by rw [f8 _ _ (by omega), fA _ _ (by omega)]; exact hT
    ((with_reducible refine i_Seq (i_FO (i_A0 ?_))); (with_reducible refine i_fld (by assumption) ?_); (with_reducible refine i_I ?_); (with_reducible refine i_fld (by assumption) ?_); (with_reducible refine i_RetI (i_L2 ?_)); (rw [gT8]); rw [zx_inc (by omega)])
    refine hk _ (fun b j q => by obtain ⟨q0, qT, q5, q6, qE⟩ := zmk5 q; rw [zg_o _ _ (by exact fun h => q0 ⟨h.1, .inl h.2⟩), f8 b j (fun h => h.elim qT (fun h => qE (by clear q q0 qT q5 q6 qE; omega))), fA b j (fun h => qE (by clear q q0 qT q5 q6 qE; omega))]) (zg_s _ _ _ _ _) ?_
    exact g8.to hn2 (zRq_w hn2) (fun b j q => by rw [zg_o _ _ (by omega)])
  · ((with_reducible refine i_Seq (i_If (i_cOr (i_cOr (i_cOr (i_cI_eq (i_F (i_A0 ?_)))))))); (with_reducible refine i_fld (by assumption) ?_); (with_reducible refine i_I ?_); (rw [hT]); (with_reducible refine i_f (by omega) ?_); (with_reducible refine i_cZ_lt (i_L1 ?_)); (with_reducible refine i_f (by omega) ?_); (with_reducible refine i_cI_gt (i_L1 (i_I ?_))); (with_reducible refine i_f (by omega) ?_); (with_reducible refine i_cAnd (i_cI_eq (i_L1 (i_I ?_)))); (with_reducible refine i_f (by omega) ?_); (with_reducible refine i_Seq (i_sCall (i_as1 (i_A0 (i_as0 ?_))))); (with_reducible refine i_recv0 (by assumption) ?_))
    refine m_aimAtNet hO hS hN hb01 (fun M1 f1 gN => ⟨rfl, ?_⟩)
    have n1 : M1 250 ((1 : Nat) : Int) = ((n : Nat) : Int) := by rw [f1 _ _ (by omega)]; exact hn
    have t1 : M1 250 ((11 : Nat) : Int) = ((T : Nat) : Int) := by rw [f1 _ _ (by omega)]; exact hT
    ((with_reducible refine i_Seq (i_Set (i_F (i_A0 ?_)))); (with_reducible refine i_fld (by assumption) ?_); (with_reducible refine i_Seq (i_Ite (i_cI_eq ?_))); (rw [t1]); simp only [w_set0, w_set1, w_setn0, w_setn1]; (with_reducible refine i_L1 (i_I ?_)); (with_reducible refine i_t (by omega) ?_); (with_reducible refine i_Blk (i_Seq (i_Set (i_Call (i_as1 (i_A0 (i_as1 (i_I (i_as0 ?_))))))))); (with_reducible refine i_recv0 (by assumption) ?_); simp only [w_set0, w_set1, w_setn0, w_setn1])
    refine m_part hO hS (t := 5) (by omega) n1 hn1 hn2 gN (fun M2 f2 g2 => ⟨_, rfl, ?_⟩)
    ((with_reducible refine i_sCall (i_as1 (i_A0 (i_as1 (i_I (i_as1 (i_L2 (i_as0 ?_)))))))); (with_reducible refine i_recv0 (by assumption) ?_))
    refine m_become hO hS (s := 5) (t := T) (by omega) (by omega) (by omega) hn2 g2 (zRq_w hn2) (fun M3 f3 g3 => ⟨rfl, ?_⟩)
    have t3 : M3 250 ((11 : Nat) : Int) = ((T : Nat) : Int) := by rw [f3 _ _ (by omega), f2 _ _ (by omega)]; exact t1
    ((with_reducible refine i_Seq (i_FO (i_A0 ?_))); (with_reducible refine i_fld (by assumption) ?_); (with_reducible refine i_I ?_); (with_reducible refine i_fld (by assumption) ?_); (with_reducible refine i_RetI (i_L2 ?_)); (rw [t3]); rw [zx_inc (by omega)])
    refine hk _ (fun b j q => by obtain ⟨q0, qT, q5, q6, qE⟩ := zmk5 q; rw [zg_o _ _ (by exact fun h => q0 ⟨h.1, .inl h.2⟩), f3 b j qT, f2 b j (fun h => h.elim q5 (fun h => h.elim q6 (fun h => qE (by clear q q0 qT q5 q6 qE; omega)))), f1 b j (fun h => qE (by clear q q0 qT q5 q6 qE; omega))]) (zg_s _ _ _ _ _) ?_
    exact g3.to hn2 (zRq_w hn2) (fun b j q => by rw [zg_o _ _ (by omega)])
  · ((with_reducible refine i_Seq (i_If (i_cOr (i_cOr (i_cOr (i_cI_eq (i_F (i_A0 ?_)))))))); (with_reducible refine i_fld (by assumption) ?_); (with_reducible refine i_I ?_); (rw [hT]); (with_reducible refine i_f (by omega) ?_); (with_reducible refine i_cZ_lt (i_L1 ?_)); (with_reducible refine i_f (by omega) ?_); (with_reducible refine i_cI_gt (i_L1 (i_I ?_))); (with_reducible refine i_f (by omega) ?_); (with_reducible refine i_cAnd (i_cI_eq (i_L1 (i_I ?_)))); (with_reducible refine i_t (by omega) ?_); (with_reducible refine i_cI_gt (i_F (i_A0 ?_))); (with_reducible refine i_fld (by assumption) ?_); (with_reducible refine i_I ?_); (rw [hn]); (with_reducible refine i_f (by omega) ?_); (with_reducible refine i_Seq (i_sCall (i_as1 (i_A0 (i_as0 ?_))))); (with_reducible refine i_recv0 (by assumption) ?_))
    refine m_aimAtNet hO hS hN hb01 (fun M1 f1 gN => ⟨rfl, ?_⟩)
    have n1 : M1 250 ((1 : Nat) : Int) = ((n : Nat) : Int) := by rw [f1 _ _ (by omega)]; exact hn
    have t1 : M1 250 ((11 : Nat) : Int) = ((T : Nat) : Int) := by rw [f1 _ _ (by omega)]; exact hT
    ((with_reducible refine i_Seq (i_Set (i_F (i_A0 ?_)))); (with_reducible refine i_fld (by assumption) ?_); (with_reducible refine i_Seq (i_Ite (i_cI_eq ?_))); (rw [t1]); simp only [w_set0, w_set1, w_setn0, w_setn1]; (with_reducible refine i_L1 (i_I ?_)); (with_reducible refine i_f (by omega) ?_); (with_reducible refine i_Seq (i_Ite (i_cI_eq (i_L1 (i_I ?_))))); (with_reducible refine i_t (by omega) ?_); (with_reducible refine i_Blk (i_Seq (i_Set (i_Call (i_as1 (i_A0 (i_as0 ?_))))))); (with_reducible refine i_recv0 (by assumption) ?_); simp only [w_set0, w_set1, w_setn0, w_setn1])
    obtain ⟨K1, K2⟩ := zgK_ok (n := n) (h8 rfl)
    refine m_leastOfAll hO hS n1 hn1 hn2 gN K2 (by omega) (fun M2 f2 g2 g3 => ⟨_, rfl, ?_⟩)
    have n2 : M2 250 ((1 : Nat) : Int) = ((n : Nat) : Int) := by rw [f2 _ _ (by omega)]; exact n1
    ((with_reducible refine i_Blk (i_Seq (i_Set (i_I ?_)))); simp only [w_set0, w_set1, w_setn0, w_setn1])
    refine w_ForN n (fun k ρ M' => (∃ l, ρ = 250 :: ((3 : Nat) : Int) :: ((T : Nat) : Int) :: (((zLs n N (zgK n)).1 : Nat) : Int) :: ((k : Nat) : Int) :: l) ∧ (∀ b j, ¬ b = ((272 : Nat) : Int) → M' b j = M2 b j) ∧ ∀ j : Nat, j < k → M' ((272 : Nat) : Int) ((j : Nat) : Int) = (((zLs n N (zgK n)).2.2 j : Nat) : Int)) ⟨⟨_, rfl⟩, fun _ _ _ => rfl, fun j hj => absurd hj (by omega)⟩ ?_ ?_
    · rintro k ρ M9 X hk1 ⟨⟨l, rfl⟩, hf, h⟩ hX
      have n9 : M9 250 ((1 : Nat) : Int) = ((n : Nat) : Int) := by rw [hf _ _ (by omega)]; exact n2
      have v9 := (hf ((273 : Nat) : Int) ((k : Nat) : Int) (by omega)).trans (g3 k hk1)
      ((with_reducible refine i_turn (i_cI_lt (i_L4 (i_F (i_A0 ?_))))); (with_reducible refine i_fld (by assumption) ?_); (rw [n9]); (with_reducible refine i_t (by omega) ?_); (with_reducible refine i_sIA (i_FR (i_A0 ?_))); (with_reducible refine i_fldR (by assumption) ?_); (with_reducible refine i_L4 (i_IA (i_FR (i_A0 ?_)))); (with_reducible refine i_fldR (by assumption) ?_); (with_reducible refine i_L4 ?_); (with_reducible refine i_in (by assumption) (by omega) (by omega) ?_); (with_reducible refine i_in (by assumption) (by omega) (by omega) ?_); (with_reducible refine i_up (i_Inc4 ?_)); (rw [v9]); rw [zx_inc (by omega)]; simp only [w_set0, w_set1, w_setn0, w_setn1])
      refine hX _ _ ⟨⟨_, rfl⟩, fun b j q => by rw [zg_o _ _ (by omega)]; exact hf b j q, fun j hj => ?_⟩
      by_cases e : j = k
      · subst e; rw [zg_s]
      · rw [zg_m _ _ _ _ _ (by omega)]; exact h j (by omega)
    rintro ρ M7 X ⟨⟨l, rfl⟩, hf, h⟩
    have gl : rLab M7 n (zLs n N (zgK n)).2.2 := fun p hp => h p hp
    have n9 : M7 250 ((1 : Nat) : Int) = ((n : Nat) : Int) := by rw [hf _ _ (by omega)]; exact n2
    have fL : ∀ b j, ¬ (b = ((272 : Nat) : Int) ∨ b = 250 ∧ j = 44 ∨ (b = 258 ∧ j = ((6 : Nat) : Int) ∨ (b = 259 ∨ b = 260 ∨ b = 262 ∨ b = 263) ∧ ((16 * 6 : Nat) : Int) ≤ j ∧ j < ((16 * 6 + 16 : Nat) : Int) ∨ (b = 261 ∨ b = 264 ∨ b = 265 ∨ b = 266) ∧ ((256 * 6 : Nat) : Int) ≤ j ∧ j < ((256 * 6 + 256 : Nat) : Int)) ∨ b = 268 ∨ b = 269 ∨ b = 270 ∨ b = 271 ∨ b = 273 ∨ b = 283 ∨ b = 284) → M7 b j = M1 b j := fun b j q => by rw [hf b j (by omega), f2 b j (by omega)]
    have fA : ∀ b j, ¬ (b = 267 ∨ b = ((272 : Nat) : Int) ∨ b = 250 ∧ j = 44 ∨ (b = 258 ∧ j = ((6 : Nat) : Int) ∨ (b = 259 ∨ b = 260 ∨ b = 262 ∨ b = 263) ∧ ((16 * 6 : Nat) : Int) ≤ j ∧ j < ((16 * 6 + 16 : Nat) : Int) ∨ (b = 261 ∨ b = 264 ∨ b = 265 ∨ b = 266) ∧ ((256 * 6 : Nat) : Int) ≤ j ∧ j < ((256 * 6 + 256 : Nat) : Int)) ∨ b = 268 ∨ b = 269 ∨ b = 270 ∨ b = 271 ∨ b = 273 ∨ b = 283 ∨ b = 284) → M7 b j = M b j := fun b j q => by rw [fL b j (by omega), f1 b j (by omega)]
    ((with_reducible refine i_turn (i_cI_lt (i_L4 (i_F (i_A0 ?_))))); (with_reducible refine i_fld (by assumption) ?_); (rw [n9]); (with_reducible refine i_f (by omega) ?_); (with_reducible refine i_sCall (i_as1 (i_A0 (i_as1 (i_L2 (i_as0 ?_)))))); (with_reducible refine i_recv0 (by assumption) ?_))
    refine m_settle hO hS (by omega) (show M7 250 ((1 : Nat) : Int) = ((n : Nat) : Int) by rw [fA _ _ (by omega)]; exact hn) hn2 gl (fun q hq => by have := zRG_le (zLs_b hn2 N (zgK n)).2.2 hq; omega) (gN.to (fun j => by rw [fL _ _ (by omega)])) (fun M8 f8 g8 => ⟨rfl, ?_⟩)
    have gT8 : M8 250 ((11 : Nat) : Int) = ((T : Nat) : Int) := by rw [f8 _ _ (by omega), fA _ _ (by omega)]; exact hT
    ((with_reducible refine i_Seq (i_FO (i_A0 ?_))); (with_reducible refine i_fld (by assumption) ?_); (with_reducible refine i_I ?_); (with_reducible refine i_fld (by assumption) ?_); (with_reducible refine i_RetI (i_L2 ?_)); (rw [gT8]); rw [zx_inc (by omega)])
    refine hk _ (fun b j q => by obtain ⟨q0, qT, q5, q6, qE⟩ := zmk5 q; rw [zg_o _ _ (by exact fun h => q0 ⟨h.1, .inl h.2⟩), f8 b j (fun h => h.elim qT (fun h => qE (by clear q q0 qT q5 q6 qE; omega))), fA b j (fun h => by rcases h with h | h | h | h | h; exact qE (by clear q q0 qT q5 q6 qE; omega); exact qE (by clear q q0 qT q5 q6 qE; omega); exact q0 ⟨h.1, .inr h.2⟩; exact q6 h; exact qE (by clear q q0 qT q5 q6 qE; omega))]) (zg_s _ _ _ _ _) ?_
    exact g8.to hn2 (zRq_w hn2) (fun b j q => by rw [zg_o _ _ (by omega)])
  · ((with_reducible refine i_Seq (i_If (i_cOr (i_cOr (i_cOr (i_cI_eq (i_F (i_A0 ?_)))))))); (with_reducible refine i_fld (by assumption) ?_); (with_reducible refine i_I ?_); (rw [hT]); (with_reducible refine i_f (by omega) ?_); (with_reducible refine i_cZ_lt (i_L1 ?_)); (with_reducible refine i_f (by omega) ?_); (with_reducible refine i_cI_gt (i_L1 (i_I ?_))); (with_reducible refine i_f (by omega) ?_); (with_reducible refine i_cAnd (i_cI_eq (i_L1 (i_I ?_)))); (with_reducible refine i_f (by omega) ?_); (with_reducible refine i_Seq (i_sCall (i_as1 (i_A0 (i_as0 ?_))))); (with_reducible refine i_recv0 (by assumption) ?_))
    refine m_aimAtNet hO hS hN hb01 (fun M1 f1 gN => ⟨rfl, ?_⟩)
    have n1 : M1 250 ((1 : Nat) : Int) = ((n : Nat) : Int) := by rw [f1 _ _ (by omega)]; exact hn
    have t1 : M1 250 ((11 : Nat) : Int) = ((T : Nat) : Int) := by rw [f1 _ _ (by omega)]; exact hT
    ((with_reducible refine i_Seq (i_Set (i_F (i_A0 ?_)))); (with_reducible refine i_fld (by assumption) ?_); (with_reducible refine i_Seq (i_Ite (i_cI_eq ?_))); (rw [t1]); simp only [w_set0, w_set1, w_setn0, w_setn1]; (with_reducible refine i_L1 (i_I ?_)); (with_reducible refine i_f (by omega) ?_); (with_reducible refine i_Seq (i_Ite (i_cI_eq (i_L1 (i_I ?_))))); (with_reducible refine i_f (by omega) ?_); (with_reducible refine i_Seq (i_If (i_cI_eq (i_L1 (i_I ?_))))); (with_reducible refine i_t (by omega) ?_); (with_reducible refine i_Blk (i_Set (i_Call (i_as1 (i_A0 (i_as0 ?_)))))); (with_reducible refine i_recv0 (by assumption) ?_); simp only [w_set0, w_set1, w_setn0, w_setn1])
    refine m_refine hO hS n1 hn1 hn2 (hN.to (fun j => f1 _ _ (by omega))) hN0 (fun r hr => by rw [f1 _ _ (by omega)]; exact hμ r hr) (fun M2 f2 g3 => ⟨_, rfl, ?_⟩)
    have n2 : M2 250 ((1 : Nat) : Int) = ((n : Nat) : Int) := by rw [f2 _ _ (by omega)]; exact n1
    ((with_reducible refine i_Blk (i_Seq (i_Set (i_I ?_)))); simp only [w_set0, w_set1, w_setn0, w_setn1])
    refine w_ForN n (fun k ρ M' => (∃ l, ρ = 250 :: ((4 : Nat) : Int) :: ((T : Nat) : Int) :: ((k : Nat) : Int) :: l) ∧ (∀ b j, ¬ b = ((272 : Nat) : Int) → M' b j = M2 b j) ∧ ∀ j : Nat, j < k → M' ((272 : Nat) : Int) ((j : Nat) : Int) = ((zcr n N μ (zrR n N μ + 1) j : Nat) : Int)) ⟨⟨_, rfl⟩, fun _ _ _ => rfl, fun j hj => absurd hj (by omega)⟩ ?_ ?_
    · rintro k ρ M9 X hk1 ⟨⟨l, rfl⟩, hf, h⟩ hX
      have n9 : M9 250 ((1 : Nat) : Int) = ((n : Nat) : Int) := by rw [hf _ _ (by omega)]; exact n2
      have v9 := (hf ((292 : Nat) : Int) ((k : Nat) : Int) (by omega)).trans (g3 k hk1)
      ((with_reducible refine i_turn (i_cI_lt (i_L3 (i_F (i_A0 ?_))))); (with_reducible refine i_fld (by assumption) ?_); (rw [n9]); (with_reducible refine i_t (by omega) ?_); (with_reducible refine i_sIA (i_FR (i_A0 ?_))); (with_reducible refine i_fldR (by assumption) ?_); (with_reducible refine i_L3 (i_eIf (i_cZ_eq (i_L1 ?_)))); (with_reducible refine i_f (by omega) ?_); (with_reducible refine i_eIf (i_cI_eq (i_L1 (i_I ?_)))); (with_reducible refine i_f (by omega) ?_); (with_reducible refine i_IA (i_FR (i_A0 ?_))); (with_reducible refine i_fldR (by assumption) ?_); (with_reducible refine i_L3 ?_); (with_reducible refine i_in (by assumption) (by omega) (by omega) ?_); (with_reducible refine i_in (by assumption) (by omega) (by omega) ?_); (with_reducible refine i_up (i_Inc3 ?_)); (rw [v9]); rw [zx_inc (by omega)]; simp only [w_set0, w_set1, w_setn0, w_setn1])
      refine hX _ _ ⟨⟨_, rfl⟩, fun b j q => by rw [zg_o _ _ (by omega)]; exact hf b j q, fun j hj => ?_⟩
      by_cases e : j = k
      · subst e; rw [zg_s]
      · rw [zg_m _ _ _ _ _ (by omega)]; exact h j (by omega)
    rintro ρ M7 X ⟨⟨l, rfl⟩, hf, h⟩
    have gl : rLab M7 n (zcr n N μ (zrR n N μ + 1)) := fun p hp => h p hp
    have n9 : M7 250 ((1 : Nat) : Int) = ((n : Nat) : Int) := by rw [hf _ _ (by omega)]; exact n2
    have fL : ∀ b j, ¬ (b = ((272 : Nat) : Int) ∨ b = ((292 : Nat) : Int) ∨ b = ((293 : Nat) : Int)) → M7 b j = M1 b j := fun b j q => by rw [hf b j (by omega), f2 b j (by omega)]
    have fA : ∀ b j, ¬ (b = 267 ∨ b = ((272 : Nat) : Int) ∨ b = ((292 : Nat) : Int) ∨ b = ((293 : Nat) : Int)) → M7 b j = M b j := fun b j q => by rw [fL b j (by omega), f1 b j (by omega)]
    ((with_reducible refine i_turn (i_cI_lt (i_L3 (i_F (i_A0 ?_))))); (with_reducible refine i_fld (by assumption) ?_); (rw [n9]); (with_reducible refine i_f (by omega) ?_); (with_reducible refine i_sCall (i_as1 (i_A0 (i_as1 (i_L2 (i_as0 ?_)))))); (with_reducible refine i_recv0 (by assumption) ?_))
    refine m_settle hO hS (by omega) (show M7 250 ((1 : Nat) : Int) = ((n : Nat) : Int) by rw [fA _ _ (by omega)]; exact hn) hn2 gl (fun q hq => by have := zcr_le hn1 (T := N) (μ := μ) (k := zrR n N μ + 1) hq; omega) (gN.to (fun j => by rw [fL _ _ (by omega)])) (fun M8 f8 g8 => ⟨rfl, ?_⟩)
    have gT8 : M8 250 ((11 : Nat) : Int) = ((T : Nat) : Int) := by rw [f8 _ _ (by omega), fA _ _ (by omega)]; exact hT
    ((with_reducible refine i_Seq (i_FO (i_A0 ?_))); (with_reducible refine i_fld (by assumption) ?_); (with_reducible refine i_I ?_); (with_reducible refine i_fld (by assumption) ?_); (with_reducible refine i_RetI (i_L2 ?_)); (rw [gT8]); rw [zx_inc (by omega)])
    refine hk _ (fun b j q => by obtain ⟨q0, qT, q5, q6, qE⟩ := zmk5 q; rw [zg_o _ _ (by exact fun h => q0 ⟨h.1, .inl h.2⟩), f8 b j (fun h => h.elim qT (fun h => qE (by clear q q0 qT q5 q6 qE; omega))), fA b j (fun h => qE (by clear q q0 qT q5 q6 qE; omega))]) (zg_s _ _ _ _ _) ?_
    exact g8.to hn2 (zRq_w hn2) (fun b j q => by rw [zg_o _ _ (by omega)])
/-! the class -/
theorem c_make_bad {O : zOm} (hO : zWld O) (hS : zS O = zmS zC0) {x : Int} {T n : Nat} {M : zMem} {K : Option zV → zMem → Prop} (hT : M ((0 : Nat) : Int) ((4 : Nat) : Int) = ((T : Nat) : Int)) (hT5 : T ≤ 5) (hP : M ((1 : Nat) : Int) ((2 : Nat) : Int) = ((n : Nat) : Int)) (hb : ((T : Nat) : Int) = 5 ∨ ¬ (0 ≤ x ∧ x ≤ 4) ∨ x = 3 ∧ 8 < n) (hk : K (some (0, -1)) M) : zR O F_ToldNet_make [(2, ((0 : Nat) : Int)), (0, x)] M K := by
  have o1 := zo_1 hS
  apply r_ToldNet_make hO
  unfold B_ToldNet_make
  have f0_4 := zf_0_4 hS; have f0_0 := zf_0_0 hS; have f1_2 := zf_1_2 hS; have f0_3 := zf_0_3 hS; have f0_7 := zf_0_7 hS; have f1_0 := zf_1_0 hS; have a2 := zCA (a := 2) (ty := .int) (n := 16) hS rfl; have f0_6 := zf_0_6 hS; have z0 := zo_0 hS; have z1 := zo_1 hS; have z108 := zo_108 hS
  (focus ((with_reducible refine i_Seq (i_If (i_cOr (i_cOr (i_cOr (i_cI_ge (i_F (i_A0 ?_)))))))); (with_reducible refine i_fld (by assumption) ?_); (with_reducible refine i_I ?_); (rw [hT]); (with_reducible refine i_br ?_ ?_ <;> intro hc); (focus ((with_reducible refine i_RetI (i_I ?_)))); rotate_left; (focus ((with_reducible refine i_cZ_lt (i_L1 ?_)); (with_reducible refine i_br ?_ ?_ <;> intro hc); (focus ((with_reducible refine i_RetI (i_I ?_)))); rotate_left; (focus ((with_reducible refine i_cI_gt (i_L1 (i_I ?_))); (with_reducible refine i_br ?_ ?_ <;> intro hc); (focus ((with_reducible refine i_RetI (i_I ?_)))); rotate_left; (focus ((with_reducible refine i_cAnd (i_cI_eq (i_L1 (i_I ?_)))); (with_reducible refine i_t (by omega) ?_); (with_reducible refine i_cI_gt (i_F (i_FR (i_A0 ?_)))); (with_reducible refine i_fldR (by assumption) ?_); (with_reducible refine i_fld (by assumption) ?_); (with_reducible refine i_I ?_); (rw [hP]); (with_reducible refine i_t (by omega) ?_); (with_reducible refine i_RetI (i_I ?_)))); rotate_right)); rotate_right)); rotate_right))
  all_goals first | exact hk | (exfalso; omega)
theorem c_make {O : zOm} (hO : zWld O) (hS : zS O = zmS zC0) {T n td c how : Nat} {N : Nat → Nat → Nat → Bool} {μ : Nat → Nat} {M : zMem} {K : Option zV → zMem → Prop} (hT : M ((0 : Nat) : Int) ((4 : Nat) : Int) = ((T : Nat) : Int)) (hT5 : T < 5) (hD : cDy M n td c N) (htd : td < 41) (hR : zReg n (N td)) (hn1 : 0 < n) (hn2 : n ≤ 16) (hμ : ∀ r : Nat, r < n → M ((2 : Nat) : Int) ((r : Nat) : Int) = ((μ r : Nat) : Int) ∧ μ r ≤ 16) (hh : how ≤ 4) (h8 : how = 3 → n ≤ 8)
    (hk : ∀ M', (∀ b j, ¬ (b = ((0 : Nat) : Int) ∧ j = 4 ∨ ((106 : Nat) : Int) ≤ b ∧ b ≤ ((131 : Nat) : Int) ∨ ((185 + 13 * T : Nat) : Int) ≤ b ∧ b ≤ ((197 + 13 * T : Nat) : Int)) → M' b j = M b j) → M' ((0 : Nat) : Int) ((4 : Nat) : Int) = ((T + 1 : Nat) : Int) → zTR M' (185 + 13 * T) n (zRq n (N td) (zMkL n (N td) μ how)) → K (some (0, ((T : Nat) : Int))) M') : zR O F_ToldNet_make [(2, ((0 : Nat) : Int)), (0, ((how : Nat) : Int))] M K := by
  obtain ⟨d1, d2, d3, d4⟩ := hD
  have hx := zTelT hS hT5
  obtain ⟨⟨x0, x1, x2, x3, x4, x5, x6, x7⟩, -, hp, -⟩ := id hx
  have hp0 := hp.1
  have hy := zNetD hS (d := td) htd
  have hyN := d4 td (Nat.le_refl _)
  have o106 := zo_106 hS
  have o108 := zo_108 hS
  have o1 := zo_1 hS
  have f1_0 := zf_1_0 hS
  have hta := fun (M : zMem) => zPr_tel (S := zS O) (M := M) hS hT5
  apply r_ToldNet_make hO
  unfold B_ToldNet_make
  have f0_4 := zf_0_4 hS; have f0_0 := zf_0_0 hS; have f1_2 := zf_1_2 hS; have f0_3 := zf_0_3 hS; have f0_7 := zf_0_7 hS; have f1_0 := zf_1_0 hS; have a2 := zCA (a := 2) (ty := .int) (n := 16) hS rfl; have f0_6 := zf_0_6 hS; have z0 := zo_0 hS; have z1 := zo_1 hS; have z108 := zo_108 hS
  rcases (show how = 0 ∨ how = 1 ∨ how = 2 ∨ how = 3 ∨ how = 4 by omega) with rfl | rfl | rfl | rfl | rfl
  · ((with_reducible refine i_Seq (i_If (i_cOr (i_cOr (i_cOr (i_cI_ge (i_F (i_A0 ?_)))))))); (with_reducible refine i_fld (by assumption) ?_); (with_reducible refine i_I ?_); (rw [hT]); (with_reducible refine i_f (by omega) ?_); (with_reducible refine i_cZ_lt (i_L1 ?_)); (with_reducible refine i_f (by omega) ?_); (with_reducible refine i_cI_gt (i_L1 (i_I ?_))); (with_reducible refine i_f (by omega) ?_); (with_reducible refine i_cAnd (i_cI_eq (i_L1 (i_I ?_)))); (with_reducible refine i_f (by omega) ?_); (with_reducible refine i_Seq (i_Set (i_RA (i_FR (i_A0 ?_))))); (with_reducible refine i_fldR (by assumption) ?_); (with_reducible refine i_F (i_A0 ?_)); (with_reducible refine i_fld (by assumption) ?_); (rw [hT]); (refine i_ra (hta _) ?_); (with_reducible refine i_Seq (i_Ite (i_cZ_eq ?_))); simp only [w_set0, w_set1, w_setn0, w_setn1]; (with_reducible refine i_L1 ?_); (with_reducible refine i_t (by omega) ?_); (with_reducible refine i_sCall (i_as1 (i_FR (i_A2 ?_)))); (with_reducible refine i_fldR (by assumption) ?_); (with_reducible refine i_as1 (i_F (i_FR (i_A0 ?_)))); (with_reducible refine i_fldR (by assumption) ?_); (with_reducible refine i_fld (by assumption) ?_); (with_reducible refine i_as0 ?_); (with_reducible refine i_recv0 (by assumption) ?_); (rw [d1]))
    refine c_setAlone hO hp hn2 (fun M1 f1 g1 => ⟨rfl, ?_⟩)
    have e2 : M1 ((1 : Nat) : Int) ((3 : Nat) : Int) = ((td : Nat) : Int) := by rw [f1 _ _ (by omega)]; exact d2
    ((with_reducible refine i_Seq (i_Pop (i_Call (i_as1 (i_FR (i_A0 ?_)))))); (with_reducible refine i_fldR (by assumption) ?_); (with_reducible refine i_as1 (i_Call (i_as1 (i_FR (i_A0 ?_))))); (with_reducible refine i_fldR (by assumption) ?_); (with_reducible refine i_as0 ?_); (with_reducible refine i_recv0 (by assumption) ?_); (refine c_now hO hS e2 htd ⟨_, rfl, ?_⟩); (with_reducible refine i_as1 (i_A2 (i_as0 ?_))); (with_reducible refine i_recv0 (by assumption) ?_))
    refine c_tellA hO (zRl_106 hS) hx hy (by omega) (by omega) (by omega) (hyN.to (fun b j a1 a2 => f1 b j (by omega))) hR g1 hn2 (fun M2 f2 g2 => ⟨_, rfl, ?_⟩)
    have e4 : M2 ((0 : Nat) : Int) ((4 : Nat) : Int) = ((T : Nat) : Int) := by rw [f2 _ _ (by omega), f1 _ _ (by omega)]; exact hT
    ((with_reducible refine i_Seq (i_FO (i_A0 ?_))); (with_reducible refine i_fld (by assumption) ?_); (with_reducible refine i_I ?_); (with_reducible refine i_fld (by assumption) ?_); (with_reducible refine i_RetI (i_Sub (i_F (i_A0 ?_)))); (with_reducible refine i_fld (by assumption) ?_); (with_reducible refine i_I ?_); rw [zg_s]; (rw [e4]); rw [zx_inc (by omega)]; rw [zx_subc (by omega) (by omega)])
    refine hk _ (fun b j q => by rw [zg_o _ _ (by omega), f2 b j (by omega), f1 b j (by omega)]) (zg_s _ _ _ _ _) ?_
    exact g2.to (fun b j a1 a2 => by rw [zg_o _ _ (by omega)])
  · ((with_reducible refine i_Seq (i_If (i_cOr (i_cOr (i_cOr (i_cI_ge (i_F (i_A0 ?_)))))))); (with_reducible refine i_fld (by assumption) ?_); (with_reducible refine i_I ?_); (rw [hT]); (with_reducible refine i_f (by omega) ?_); (with_reducible refine i_cZ_lt (i_L1 ?_)); (with_reducible refine i_f (by omega) ?_); (with_reducible refine i_cI_gt (i_L1 (i_I ?_))); (with_reducible refine i_f (by omega) ?_); (with_reducible refine i_cAnd (i_cI_eq (i_L1 (i_I ?_)))); (with_reducible refine i_f (by omega) ?_); (with_reducible refine i_Seq (i_Set (i_RA (i_FR (i_A0 ?_))))); (with_reducible refine i_fldR (by assumption) ?_); (with_reducible refine i_F (i_A0 ?_)); (with_reducible refine i_fld (by assumption) ?_); (rw [hT]); (refine i_ra (hta _) ?_); (with_reducible refine i_Seq (i_Ite (i_cZ_eq ?_))); simp only [w_set0, w_set1, w_setn0, w_setn1]; (with_reducible refine i_L1 ?_); (with_reducible refine i_f (by omega) ?_); (with_reducible refine i_Ite (i_cI_eq (i_L1 (i_I ?_)))); (with_reducible refine i_t (by omega) ?_); (with_reducible refine i_sCall (i_as1 (i_FR (i_A2 ?_)))); (with_reducible refine i_fldR (by assumption) ?_); (with_reducible refine i_as1 (i_F (i_FR (i_A0 ?_)))); (with_reducible refine i_fldR (by assumption) ?_); (with_reducible refine i_fld (by assumption) ?_); (with_reducible refine i_as0 ?_); (with_reducible refine i_recv0 (by assumption) ?_); (rw [d1]))
    refine c_setWhole hO hp hn2 (fun M1 f1 g1 => ⟨rfl, ?_⟩)
    have e2 : M1 ((1 : Nat) : Int) ((3 : Nat) : Int) = ((td : Nat) : Int) := by rw [f1 _ _ (by omega)]; exact d2
    ((with_reducible refine i_Seq (i_Pop (i_Call (i_as1 (i_FR (i_A0 ?_)))))); (with_reducible refine i_fldR (by assumption) ?_); (with_reducible refine i_as1 (i_Call (i_as1 (i_FR (i_A0 ?_))))); (with_reducible refine i_fldR (by assumption) ?_); (with_reducible refine i_as0 ?_); (with_reducible refine i_recv0 (by assumption) ?_); (refine c_now hO hS e2 htd ⟨_, rfl, ?_⟩); (with_reducible refine i_as1 (i_A2 (i_as0 ?_))); (with_reducible refine i_recv0 (by assumption) ?_))
    refine c_tellA hO (zRl_106 hS) hx hy (by omega) (by omega) (by omega) (hyN.to (fun b j a1 a2 => f1 b j (by omega))) hR g1 hn2 (fun M2 f2 g2 => ⟨_, rfl, ?_⟩)
    have e4 : M2 ((0 : Nat) : Int) ((4 : Nat) : Int) = ((T : Nat) : Int) := by rw [f2 _ _ (by omega), f1 _ _ (by omega)]; exact hT
    ((with_reducible refine i_Seq (i_FO (i_A0 ?_))); (with_reducible refine i_fld (by assumption) ?_); (with_reducible refine i_I ?_); (with_reducible refine i_fld (by assumption) ?_); (with_reducible refine i_RetI (i_Sub (i_F (i_A0 ?_)))); (with_reducible refine i_fld (by assumption) ?_); (with_reducible refine i_I ?_); rw [zg_s]; (rw [e4]); rw [zx_inc (by omega)]; rw [zx_subc (by omega) (by omega)])
    refine hk _ (fun b j q => by rw [zg_o _ _ (by omega), f2 b j (by omega), f1 b j (by omega)]) (zg_s _ _ _ _ _) ?_
    exact g2.to (fun b j a1 a2 => by rw [zg_o _ _ (by omega)])
  · ((with_reducible refine i_Seq (i_If (i_cOr (i_cOr (i_cOr (i_cI_ge (i_F (i_A0 ?_)))))))); (with_reducible refine i_fld (by assumption) ?_); (with_reducible refine i_I ?_); (rw [hT]); (with_reducible refine i_f (by omega) ?_); (with_reducible refine i_cZ_lt (i_L1 ?_)); (with_reducible refine i_f (by omega) ?_); (with_reducible refine i_cI_gt (i_L1 (i_I ?_))); (with_reducible refine i_f (by omega) ?_); (with_reducible refine i_cAnd (i_cI_eq (i_L1 (i_I ?_)))); (with_reducible refine i_f (by omega) ?_); (with_reducible refine i_Seq (i_Set (i_RA (i_FR (i_A0 ?_))))); (with_reducible refine i_fldR (by assumption) ?_); (with_reducible refine i_F (i_A0 ?_)); (with_reducible refine i_fld (by assumption) ?_); (rw [hT]); (refine i_ra (hta _) ?_); (with_reducible refine i_Seq (i_Ite (i_cZ_eq ?_))); simp only [w_set0, w_set1, w_setn0, w_setn1]; (with_reducible refine i_L1 ?_); (with_reducible refine i_f (by omega) ?_); (with_reducible refine i_Ite (i_cI_eq (i_L1 (i_I ?_)))); (with_reducible refine i_f (by omega) ?_); (with_reducible refine i_Ite (i_cI_eq (i_L1 (i_I ?_)))); (with_reducible refine i_t (by omega) ?_); (with_reducible refine i_sCall (i_as1 (i_FR (i_A0 ?_)))); (with_reducible refine i_fldR (by assumption) ?_); (with_reducible refine i_as1 (i_Call (i_as1 (i_FR (i_A0 ?_))))); (with_reducible refine i_fldR (by assumption) ?_); (with_reducible refine i_as0 ?_); (with_reducible refine i_recv0 (by assumption) ?_); (refine c_now hO hS d2 htd ⟨_, rfl, ?_⟩); (with_reducible refine i_as1 (i_FR (i_A2 ?_))); (with_reducible refine i_fldR (by assumption) ?_); (with_reducible refine i_as0 ?_); (with_reducible refine i_recv0 (by assumption) ?_))
    refine c_partByRule hO hS hy (by omega) hp (by omega) hyN hR hn1 hn2 (fun M1 f1 g1 => ⟨rfl, ?_⟩)
    have e2 : M1 ((1 : Nat) : Int) ((3 : Nat) : Int) = ((td : Nat) : Int) := by rw [f1 _ _ (by omega)]; exact d2
    ((with_reducible refine i_Seq (i_Pop (i_Call (i_as1 (i_FR (i_A0 ?_)))))); (with_reducible refine i_fldR (by assumption) ?_); (with_reducible refine i_as1 (i_Call (i_as1 (i_FR (i_A0 ?_))))); (with_reducible refine i_fldR (by assumption) ?_); (with_reducible refine i_as0 ?_); (with_reducible refine i_recv0 (by assumption) ?_); (refine c_now hO hS e2 htd ⟨_, rfl, ?_⟩); (with_reducible refine i_as1 (i_A2 (i_as0 ?_))); (with_reducible refine i_recv0 (by assumption) ?_))
    refine c_tellA hO (zRl_106 hS) hx hy (by omega) (by omega) (by omega) (hyN.to (fun b j a1 a2 => f1 b j (by omega))) hR g1 hn2 (fun M2 f2 g2 => ⟨_, rfl, ?_⟩)
    have e4 : M2 ((0 : Nat) : Int) ((4 : Nat) : Int) = ((T : Nat) : Int) := by rw [f2 _ _ (by omega), f1 _ _ (by omega)]; exact hT
    ((with_reducible refine i_Seq (i_FO (i_A0 ?_))); (with_reducible refine i_fld (by assumption) ?_); (with_reducible refine i_I ?_); (with_reducible refine i_fld (by assumption) ?_); (with_reducible refine i_RetI (i_Sub (i_F (i_A0 ?_)))); (with_reducible refine i_fld (by assumption) ?_); (with_reducible refine i_I ?_); rw [zg_s]; (rw [e4]); rw [zx_inc (by omega)]; rw [zx_subc (by omega) (by omega)])
    refine hk _ (fun b j q => by rw [zg_o _ _ (by omega), f2 b j (by omega), f1 b j (by omega)]) (zg_s _ _ _ _ _) ?_
    exact g2.to (fun b j a1 a2 => by rw [zg_o _ _ (by omega)])
  · ((with_reducible refine i_Seq (i_If (i_cOr (i_cOr (i_cOr (i_cI_ge (i_F (i_A0 ?_)))))))); (with_reducible refine i_fld (by assumption) ?_); (with_reducible refine i_I ?_); (rw [hT]); (with_reducible refine i_f (by omega) ?_); (with_reducible refine i_cZ_lt (i_L1 ?_)); (with_reducible refine i_f (by omega) ?_); (with_reducible refine i_cI_gt (i_L1 (i_I ?_))); (with_reducible refine i_f (by omega) ?_); (with_reducible refine i_cAnd (i_cI_eq (i_L1 (i_I ?_)))); (with_reducible refine i_t (by omega) ?_); (with_reducible refine i_cI_gt (i_F (i_FR (i_A0 ?_)))); (with_reducible refine i_fldR (by assumption) ?_); (with_reducible refine i_fld (by assumption) ?_); (with_reducible refine i_I ?_); (rw [d1]); (with_reducible refine i_f (by omega) ?_); (with_reducible refine i_Seq (i_Set (i_RA (i_FR (i_A0 ?_))))); (with_reducible refine i_fldR (by assumption) ?_); (with_reducible refine i_F (i_A0 ?_)); (with_reducible refine i_fld (by assumption) ?_); (rw [hT]); (refine i_ra (hta _) ?_); (with_reducible refine i_Seq (i_Ite (i_cZ_eq ?_))); simp only [w_set0, w_set1, w_setn0, w_setn1]; (with_reducible refine i_L1 ?_); (with_reducible refine i_f (by omega) ?_); (with_reducible refine i_Ite (i_cI_eq (i_L1 (i_I ?_)))); (with_reducible refine i_f (by omega) ?_); (with_reducible refine i_Ite (i_cI_eq (i_L1 (i_I ?_)))); (with_reducible refine i_f (by omega) ?_); (with_reducible refine i_Ite (i_cI_eq (i_L1 (i_I ?_)))); (with_reducible refine i_t (by omega) ?_); (with_reducible refine i_Pop (i_Call (i_as1 (i_FR (i_A0 ?_))))); (with_reducible refine i_fldR (by assumption) ?_); (with_reducible refine i_as1 (i_Call (i_as1 (i_FR (i_A0 ?_))))); (with_reducible refine i_fldR (by assumption) ?_); (with_reducible refine i_as0 ?_); (with_reducible refine i_recv0 (by assumption) ?_); (refine c_now hO hS d2 htd ⟨_, rfl, ?_⟩); (with_reducible refine i_as1 (i_FR (i_A2 ?_))); (with_reducible refine i_fldR (by assumption) ?_); (with_reducible refine i_as0 ?_); (with_reducible refine i_recv0 (by assumption) ?_))
    refine c_partLeast hO hS hy (by omega) hp (by omega) hyN hR hn1 hn2 (zgK_ok (n := n) (h8 rfl)).2 (by have := (zgK_ok (n := n) (h8 rfl)).1; omega) (fun M1 f1 g1 => ⟨_, rfl, ?_⟩)
    have e2 : M1 ((1 : Nat) : Int) ((3 : Nat) : Int) = ((td : Nat) : Int) := by rw [f1 _ _ (by omega)]; exact d2
    ((with_reducible refine i_Seq (i_Pop (i_Call (i_as1 (i_FR (i_A0 ?_)))))); (with_reducible refine i_fldR (by assumption) ?_); (with_reducible refine i_as1 (i_Call (i_as1 (i_FR (i_A0 ?_))))); (with_reducible refine i_fldR (by assumption) ?_); (with_reducible refine i_as0 ?_); (with_reducible refine i_recv0 (by assumption) ?_); (refine c_now hO hS e2 htd ⟨_, rfl, ?_⟩); (with_reducible refine i_as1 (i_A2 (i_as0 ?_))); (with_reducible refine i_recv0 (by assumption) ?_))
    refine c_tellA hO (zRl_106 hS) hx hy (by omega) (by omega) (by omega) (hyN.to (fun b j a1 a2 => f1 b j (by omega))) hR g1 hn2 (fun M2 f2 g2 => ⟨_, rfl, ?_⟩)
    have e4 : M2 ((0 : Nat) : Int) ((4 : Nat) : Int) = ((T : Nat) : Int) := by rw [f2 _ _ (by omega), f1 _ _ (by omega)]; exact hT
    ((with_reducible refine i_Seq (i_FO (i_A0 ?_))); (with_reducible refine i_fld (by assumption) ?_); (with_reducible refine i_I ?_); (with_reducible refine i_fld (by assumption) ?_); (with_reducible refine i_RetI (i_Sub (i_F (i_A0 ?_)))); (with_reducible refine i_fld (by assumption) ?_); (with_reducible refine i_I ?_); rw [zg_s]; (rw [e4]); rw [zx_inc (by omega)]; rw [zx_subc (by omega) (by omega)])
    refine hk _ (fun b j q => by rw [zg_o _ _ (by omega), f2 b j (by omega), f1 b j (by omega)]) (zg_s _ _ _ _ _) ?_
    exact g2.to (fun b j a1 a2 => by rw [zg_o _ _ (by omega)])
  · ((with_reducible refine i_Seq (i_If (i_cOr (i_cOr (i_cOr (i_cI_ge (i_F (i_A0 ?_)))))))); (with_reducible refine i_fld (by assumption) ?_); (with_reducible refine i_I ?_); (rw [hT]); (with_reducible refine i_f (by omega) ?_); (with_reducible refine i_cZ_lt (i_L1 ?_)); (with_reducible refine i_f (by omega) ?_); (with_reducible refine i_cI_gt (i_L1 (i_I ?_))); (with_reducible refine i_f (by omega) ?_); (with_reducible refine i_cAnd (i_cI_eq (i_L1 (i_I ?_)))); (with_reducible refine i_f (by omega) ?_); (with_reducible refine i_Seq (i_Set (i_RA (i_FR (i_A0 ?_))))); (with_reducible refine i_fldR (by assumption) ?_); (with_reducible refine i_F (i_A0 ?_)); (with_reducible refine i_fld (by assumption) ?_); (rw [hT]); (refine i_ra (hta _) ?_); (with_reducible refine i_Seq (i_Ite (i_cZ_eq ?_))); simp only [w_set0, w_set1, w_setn0, w_setn1]; (with_reducible refine i_L1 ?_); (with_reducible refine i_f (by omega) ?_); (with_reducible refine i_Ite (i_cI_eq (i_L1 (i_I ?_)))); (with_reducible refine i_f (by omega) ?_); (with_reducible refine i_Ite (i_cI_eq (i_L1 (i_I ?_)))); (with_reducible refine i_f (by omega) ?_); (with_reducible refine i_Ite (i_cI_eq (i_L1 (i_I ?_)))); (with_reducible refine i_f (by omega) ?_); (with_reducible refine i_Pop (i_Call (i_as1 (i_FR (i_A2 ?_))))); (with_reducible refine i_fldR (by assumption) ?_); (with_reducible refine i_as1 (i_Call (i_as1 (i_FR (i_A0 ?_))))); (with_reducible refine i_fldR (by assumption) ?_); (with_reducible refine i_as0 ?_); (with_reducible refine i_recv0 (by assumption) ?_); (refine c_now hO hS d2 htd ⟨_, rfl, ?_⟩); (with_reducible refine i_as1 (i_FR (i_FR (i_A0 ?_)))); (with_reducible refine i_fldR (by assumption) ?_); (with_reducible refine i_fldR (by assumption) ?_); (with_reducible refine i_as0 ?_); (with_reducible refine i_recv0 (by assumption) ?_))
    refine c_refine hO hS hp (by omega) hy (by omega) hyN hn1 hn2 hμ (fun M1 f1 g1 => ⟨_, rfl, ?_⟩)
    have e2 : M1 ((1 : Nat) : Int) ((3 : Nat) : Int) = ((td : Nat) : Int) := by rw [f1 _ _ (by omega)]; exact d2
    ((with_reducible refine i_Seq (i_Pop (i_Call (i_as1 (i_FR (i_A0 ?_)))))); (with_reducible refine i_fldR (by assumption) ?_); (with_reducible refine i_as1 (i_Call (i_as1 (i_FR (i_A0 ?_))))); (with_reducible refine i_fldR (by assumption) ?_); (with_reducible refine i_as0 ?_); (with_reducible refine i_recv0 (by assumption) ?_); (refine c_now hO hS e2 htd ⟨_, rfl, ?_⟩); (with_reducible refine i_as1 (i_A2 (i_as0 ?_))); (with_reducible refine i_recv0 (by assumption) ?_))
    refine c_tellA hO (zRl_106 hS) hx hy (by omega) (by omega) (by omega) (hyN.to (fun b j a1 a2 => f1 b j (by omega))) hR g1 hn2 (fun M2 f2 g2 => ⟨_, rfl, ?_⟩)
    have e4 : M2 ((0 : Nat) : Int) ((4 : Nat) : Int) = ((T : Nat) : Int) := by rw [f2 _ _ (by omega), f1 _ _ (by omega)]; exact hT
    ((with_reducible refine i_Seq (i_FO (i_A0 ?_))); (with_reducible refine i_fld (by assumption) ?_); (with_reducible refine i_I ?_); (with_reducible refine i_fld (by assumption) ?_); (with_reducible refine i_RetI (i_Sub (i_F (i_A0 ?_)))); (with_reducible refine i_fld (by assumption) ?_); (with_reducible refine i_I ?_); rw [zg_s]; (rw [e4]); rw [zx_inc (by omega)]; rw [zx_subc (by omega) (by omega)])
    refine hk _ (fun b j q => by rw [zg_o _ _ (by omega), f2 b j (by omega), f1 b j (by omega)]) (zg_s _ _ _ _ _) ?_
    exact g2.to (fun b j a1 a2 => by rw [zg_o _ _ (by omega)])
end
section
-- part h5.copy.lean.txt
/-! ===== copy: both sides ===== -/
theorem zTR.pc {M : zMem} {x n : Nat} {A : zTl} (hw : zTw n A) (h : zTR M x n A) : zPC M (x + 1) n (tf A) := by
  unfold zPC
  rw [zcm_in, ← hw.1.2.1]
  exact h.1.ext (fun q hq => by rw [zcg_in hq]; exact (hw.1.2.2 q hq).2.symm)
theorem zPR.of_pc {M : zMem} {p n : Nat} {A : zTl} (hw : zTw n A) (h : zPC M p n (tf A)) : zPR M p n (tf A) (tm A) := by
  unfold zPC at h
  rw [zcm_in, ← hw.1.2.1] at h
  exact h.ext (fun q hq => by rw [zcg_in hq]; exact (hw.1.2.2 q hq).2)
theorem c_tbecome {O : zOm} (hO : zWld O) {x y n : Nat} {A : zTl} {M : zMem} {K : Option zV → zMem → Prop} (hx : zTeC (zS O) x) (hy : zTeC (zS O) y) (hxy : x + 12 < y ∨ y + 12 < x) (hn2 : n ≤ 16) (hA : zTR M y n A) (hw : zTw n A)
    (hk : ∀ M', (∀ b j, ¬ (((x : Nat) : Int) ≤ b ∧ b ≤ ((x + 12 : Nat) : Int)) → M' b j = M b j) → zTR M' x n A → K none M') : zR O F_Telling_become [(2, ((x : Nat) : Int)), (2, ((y : Nat) : Int))] M K := by
  obtain ⟨⟨o, x0, x1, x2, x3, x4, x5, x6⟩, ⟨xa, xb⟩, hp, ⟨n7, n9, n11⟩⟩ := hx
  obtain ⟨⟨o', y0, y1, y2, y3, y4, y5, y6⟩, ⟨ya, yb⟩, hp', ⟨m7, m9, m11⟩⟩ := hy
  have hp0 := hp.1
  have r7 := n7.2.2.2
  have r9 := n9.2.2.2
  have r11 := n11.2.2.2
  have hpc := hA.pc hw
  obtain ⟨-, hrow, ⟨⟨hW1, hW2⟩, hW3⟩, hS1, hX, hL⟩ := id hA
  apply r_Telling_become hO
  unfold B_Telling_become
  ((with_reducible refine i_Seq (i_Seq (i_sCall (i_as1 (i_FR (i_A0 ?_)))))); (with_reducible refine i_fldR (by assumption) ?_); (with_reducible refine i_as1 (i_FR (i_A1 ?_))); (with_reducible refine i_fldR (by assumption) ?_); (with_reducible refine i_as0 ?_); (with_reducible refine i_recv0 (by assumption) ?_))
  refine c_pbecome hO hp hp' (by omega) hn2 hpc (fun M1 f1 g1 => ⟨rfl, ?_⟩)
  have w1 : M1 ((y : Nat) : Int) ((6 : Nat) : Int) = ((zcnt (zWsn A) 1024 : Nat) : Int) := by rw [f1 _ _ (by omega)]; exact hW1
  ((with_reducible refine i_Seq (i_Copy (i_FR (i_A1 ?_)))); (with_reducible refine i_fldR (by assumption) ?_); (with_reducible refine i_I (i_FR (i_A0 ?_))); (with_reducible refine i_fldR (by assumption) ?_); (with_reducible refine i_I (i_I ?_)); (with_reducible refine i_copy (by assumption) (by assumption) (by omega) ?_); (with_reducible refine i_Seq (i_Copy (i_FR (i_A1 ?_)))); (with_reducible refine i_fldR (by assumption) ?_); (with_reducible refine i_I (i_FR (i_A0 ?_))); (with_reducible refine i_fldR (by assumption) ?_); (with_reducible refine i_I (i_I ?_)); (with_reducible refine i_copy (by assumption) (by assumption) (by omega) ?_); (with_reducible refine i_Seq (i_sF (i_A0 (i_F (i_A1 ?_))))); (with_reducible refine i_fld (by assumption) ?_); (with_reducible refine i_fld (by assumption) ?_); (with_reducible refine i_Seq (i_sCall (i_as1 (i_FR (i_A0 ?_))))); (with_reducible refine i_fldR (by assumption) ?_); (with_reducible refine i_as1 (i_FR (i_A1 ?_))); (with_reducible refine i_fldR (by assumption) ?_); (with_reducible refine i_as0 ?_); (with_reducible refine i_recv0 (by assumption) ?_); rw [zg_n _ _ _ (by omega)]; rw [zg_n _ _ _ (by omega)]; (rw [w1]))
  refine s_Net_become hO n7 m7 (hS1.to (fun b j a1 a2 => by rw [zg_o _ _ (by omega), zput_ne _ _ (by omega), zput_ne _ _ (by omega), f1 b j (by omega)])) (fun M2 f2 g2 => ⟨rfl, ?_⟩)
  have k2 : ∀ b j, ¬ (((x : Nat) : Int) ≤ b ∧ b ≤ ((x + 12 : Nat) : Int)) → M2 b j = M b j := fun b j q => by rw [f2 b (by simp <;> omega), zg_o _ _ (by omega), zput_ne _ _ (by omega), zput_ne _ _ (by omega), f1 b j (by omega)]
  have kr : ∀ j : Nat, j < 16 → M2 ((x + 5 : Nat) : Int) ((j : Nat) : Int) = M ((y + 5 : Nat) : Int) ((j : Nat) : Int) := fun j hj => by
    rw [f2 _ (by simp <;> omega), zg_n _ _ _ (by omega), zput_ne _ _ (by omega), zput_self]
    unfold zcpy
    rw [if_pos (by omega), show (0 : Int) + (((j : Nat) : Int) - 0) = ((j : Nat) : Int) by omega, f1 _ _ (by omega)]
  have kw : ∀ j : Nat, j < 120 → M2 ((x + 6 : Nat) : Int) ((j : Nat) : Int) = M ((y + 6 : Nat) : Int) ((j : Nat) : Int) := fun j hj => by
    rw [f2 _ (by simp <;> omega), zg_n _ _ _ (by omega), zput_self]
    unfold zcpy
    rw [if_pos (by omega), zput_ne _ _ (by omega), show (0 : Int) + (((j : Nat) : Int) - 0) = ((j : Nat) : Int) by omega, f1 _ _ (by omega)]
  have kc : M2 ((x : Nat) : Int) ((6 : Nat) : Int) = ((zcnt (zWsn A) 1024 : Nat) : Int) := by rw [f2 _ (by simp <;> omega)]; exact zg_s _ _ _ _ _
  have kp : zPC M2 (x + 1) n (tf A) := g1.fr (fun b j a1 a2 => by rw [f2 b (by simp <;> omega), zg_o _ _ (by omega), zput_ne _ _ (by omega), zput_ne _ _ (by omega)])
  ((with_reducible refine i_Seq (i_sCall (i_as1 (i_FR (i_A0 ?_))))); (with_reducible refine i_fldR (by assumption) ?_); (with_reducible refine i_as1 (i_FR (i_A1 ?_))); (with_reducible refine i_fldR (by assumption) ?_); (with_reducible refine i_as0 ?_); (with_reducible refine i_recv0 (by assumption) ?_))
  refine s_Net_become hO n9 m9 (hX.to (fun b j a1 a2 => k2 b j (by omega))) (fun M3 f3 g3 => ⟨rfl, ?_⟩)
  ((with_reducible refine i_sCall (i_as1 (i_FR (i_A0 ?_)))); (with_reducible refine i_fldR (by assumption) ?_); (with_reducible refine i_as1 (i_FR (i_A1 ?_))); (with_reducible refine i_fldR (by assumption) ?_); (with_reducible refine i_as0 ?_); (with_reducible refine i_recv0 (by assumption) ?_))
  refine s_Net_become hO n11 m11 (hL.to (fun b j a1 a2 => by rw [f3 b (by simp <;> omega), k2 b j (by omega)])) (fun M4 f4 g4 => ⟨rfl, ?_⟩)
  have k4 : ∀ b j, ¬ (((x + 9 : Nat) : Int) ≤ b ∧ b ≤ ((x + 12 : Nat) : Int)) → M4 b j = M2 b j := fun b j q => by rw [f4 b (by simp <;> omega), f3 b (by simp <;> omega)]
  (with_reducible refine i_RetV ?_)
  refine hk M4 (fun b j q => by rw [k4 b j (by omega), k2 b j q]) ⟨zPR.of_pc hw (kp.fr (fun b j a1 a2 => k4 b j (by omega))), fun b k hb hkk => ?_, ⟨⟨?_, fun c hc hcw => ?_⟩, hW3⟩, g2.to (fun b j a1 a2 => k4 b j (by omega)), g3.to (fun b j a1 a2 => by rw [f4 b (by simp <;> omega)]), g4⟩
  · have h1 : zSt0 (tf A) n b + zSz (tf A) n b ≤ zSt0 (tf A) n (b + 1) := zSt0_in (tf A) n (Nat.lt_succ_self b)
    have h2 := zSt0_le (tf A) n (b + 1)
    rw [k4 _ _ (by omega), kr _ (by omega)]
    exact hrow b k hb hkk
  · rw [k4 _ _ (by omega)]; exact kc
  · have := zcnt_lt3 hcw hc
    rw [k4 _ _ (by omega), kw _ (by omega)]
    exact hW2 c hc hcw
theorem m_copy_bad {O : zOm} (hO : zWld O) (hS : zS O = zmS zC0) {t : Int} {T : Nat} {M : zMem} {K : Option zV → zMem → Prop} (hT : M 250 ((11 : Nat) : Int) = ((T : Nat) : Int)) (hb : ¬ (T < 5 ∧ 0 ≤ t ∧ t < ((T : Nat) : Int))) (hT5 : T ≤ 5) (hk : K (some (0, -1)) M) : zR O F_Model_copy [(2, 250), (0, t)] M K := by
  apply r_Model_copy hO
  unfold B_Model_copy
  have f11 := zMF (k := 11) hS rfl; have zo := zMO hS
  by_cases e : T = 5
  · ((with_reducible refine i_Seq (i_If (i_cOr (i_cI_eq (i_F (i_A0 ?_)))))); (with_reducible refine i_fld (by assumption) ?_); (with_reducible refine i_I ?_); (rw [hT]); (with_reducible refine i_t (by omega) ?_); (with_reducible refine i_RetI (i_I ?_)))
    exact hk
  · ((with_reducible refine i_Seq (i_If (i_cOr (i_cI_eq (i_F (i_A0 ?_)))))); (with_reducible refine i_fld (by assumption) ?_); (with_reducible refine i_I ?_); (rw [hT]); (with_reducible refine i_f (by omega) ?_); (with_reducible refine i_cNot (i_cZ_ne (i_Call (i_as1 (i_A0 (i_as1 (i_L1 (i_as0 ?_)))))))); (with_reducible refine i_recv0 (by assumption) ?_); (refine m_isTelling hO hS hT ⟨_, rfl, ?_⟩); (rw [decide_eq_false (show ¬ (0 ≤ t ∧ t < ((T : Nat) : Int)) from fun z => hb ⟨by omega, z⟩)]); rw [zbI_f]; (with_reducible refine i_f (by omega) ?_); (with_reducible refine i_RetI (i_I ?_)))
    exact hk
theorem m_copy {O : zOm} (hO : zWld O) (hS : zS O = zmS zC0) {t T n : Nat} {A : zTl} {M : zMem} {K : Option zV → zMem → Prop} (hT : M 250 ((11 : Nat) : Int) = ((T : Nat) : Int)) (hT5 : T < 5) (ht : t < T) (hn2 : n ≤ 16) (hA : rTe M t n A) (hw : zTw n A)
    (hk : ∀ M', (∀ b j, ¬ (b = 250 ∧ j = 11 ∨ (b = 258 ∧ j = ((T : Nat) : Int) ∨ (b = 259 ∨ b = 260 ∨ b = 262 ∨ b = 263) ∧ ((16 * T : Nat) : Int) ≤ j ∧ j < ((16 * T + 16 : Nat) : Int) ∨ (b = 261 ∨ b = 264 ∨ b = 265 ∨ b = 266) ∧ ((256 * T : Nat) : Int) ≤ j ∧ j < ((256 * T + 256 : Nat) : Int))) → M' b j = M b j) → M' 250 ((11 : Nat) : Int) = ((T + 1 : Nat) : Int) → rTe M' T n A → K (some (0, ((T : Nat) : Int))) M') : zR O F_Model_copy [(2, 250), (0, ((t : Nat) : Int))] M K := by
  apply r_Model_copy hO
  unfold B_Model_copy
  have f11 := zMF (k := 11) hS rfl; have zo := zMO hS
  ((with_reducible refine i_Seq (i_If (i_cOr (i_cI_eq (i_F (i_A0 ?_)))))); (with_reducible refine i_fld (by assumption) ?_); (with_reducible refine i_I ?_); (rw [hT]); (with_reducible refine i_f (by omega) ?_); (with_reducible refine i_cNot (i_cZ_ne (i_Call (i_as1 (i_A0 (i_as1 (i_L1 (i_as0 ?_)))))))); (with_reducible refine i_recv0 (by assumption) ?_); (refine m_isTelling hO hS hT ⟨_, rfl, ?_⟩); (rw [decide_eq_true (show 0 ≤ ((t : Nat) : Int) ∧ ((t : Nat) : Int) < ((T : Nat) : Int) by omega)]); rw [zbI_t]; (with_reducible refine i_t (by omega) ?_); (with_reducible refine i_Seq (i_sCall (i_as1 (i_A0 (i_as1 (i_L1 (i_as1 (i_F (i_A0 ?_))))))))); (with_reducible refine i_fld (by assumption) ?_); (with_reducible refine i_as0 ?_); (with_reducible refine i_recv0 (by assumption) ?_); (rw [hT]))
  refine m_become hO hS (by omega) (show T < 7 by omega) (by omega) hn2 hA hw (fun M1 f1 g1 => ⟨rfl, ?_⟩)
  have t1 : M1 250 ((11 : Nat) : Int) = ((T : Nat) : Int) := by rw [f1 _ _ (by omega)]; exact hT
  ((with_reducible refine i_Seq (i_FO (i_A0 ?_))); (with_reducible refine i_fld (by assumption) ?_); (with_reducible refine i_I ?_); (with_reducible refine i_fld (by assumption) ?_); (with_reducible refine i_RetI (i_Sub (i_F (i_A0 ?_)))); (with_reducible refine i_fld (by assumption) ?_); (with_reducible refine i_I ?_); rw [zg_s]; (rw [t1]); rw [zx_inc (by omega)]; rw [zx_subc (by omega) (by omega)])
  refine hk _ (fun b j q => by rw [zg_o _ _ (by omega), f1 b j (by omega)]) (zg_s _ _ _ _ _) ?_
  exact g1.to hn2 hw (fun b j q => by rw [zg_o _ _ (by omega)])
theorem c_copy_bad {O : zOm} (hO : zWld O) (hS : zS O = zmS zC0) {t : Int} {T : Nat} {M : zMem} {K : Option zV → zMem → Prop} (hT : M ((0 : Nat) : Int) ((4 : Nat) : Int) = ((T : Nat) : Int)) (hT5 : T ≤ 5) (hb : ¬ (T < 5 ∧ 0 ≤ t ∧ t < ((T : Nat) : Int))) (hk : K (some (0, -1)) M) : zR O F_ToldNet_copy [(2, ((0 : Nat) : Int)), (0, t)] M K := by
  apply r_ToldNet_copy hO
  unfold B_ToldNet_copy
  have f0_4 := zf_0_4 hS; have f0_3 := zf_0_3 hS; have z0 := zo_0 hS
  ((with_reducible refine i_Seq (i_Set (i_Call (i_as1 (i_A0 (i_as1 (i_L1 (i_as0 ?_)))))))); (with_reducible refine i_recv0 (by assumption) ?_); simp only [w_set0, w_set1, w_setn0, w_setn1])
  refine c_find hO hS hT hT5 (fun hx => ⟨_, rfl, ?_⟩) (fun k e hk1 => ⟨_, rfl, ?_⟩)
  · ((with_reducible refine i_Seq (i_If (i_cOr (i_cN (i_A2 ?_))))); simp only [w_set0, w_set1, w_setn0, w_setn1]; (with_reducible refine i_t trivial ?_); (with_reducible refine i_RetI (i_I ?_)))
    exact hk
  · ((with_reducible refine i_Seq (i_If (i_cOr (i_cN (i_A2 ?_))))); (with_reducible refine i_f (by omega) ?_); (with_reducible refine i_cI_ge (i_F (i_A0 ?_))); (with_reducible refine i_fld (by assumption) ?_); (with_reducible refine i_I ?_); (rw [hT]); (with_reducible refine i_t (by omega) ?_); (with_reducible refine i_RetI (i_I ?_)))
    exact hk
theorem c_copy {O : zOm} (hO : zWld O) (hS : zS O = zmS zC0) {t T n : Nat} {A : zTl} {M : zMem} {K : Option zV → zMem → Prop} (hT : M ((0 : Nat) : Int) ((4 : Nat) : Int) = ((T : Nat) : Int)) (hT5 : T < 5) (ht : t < T) (hn2 : n ≤ 16) (hA : zTR M (185 + 13 * t) n A) (hw : zTw n A)
    (hk : ∀ M', (∀ b j, ¬ (b = ((0 : Nat) : Int) ∧ j = 4 ∨ ((185 + 13 * T : Nat) : Int) ≤ b ∧ b ≤ ((197 + 13 * T : Nat) : Int)) → M' b j = M b j) → M' ((0 : Nat) : Int) ((4 : Nat) : Int) = ((T + 1 : Nat) : Int) → zTR M' (185 + 13 * T) n A → K (some (0, ((T : Nat) : Int))) M') : zR O F_ToldNet_copy [(2, ((0 : Nat) : Int)), (0, ((t : Nat) : Int))] M K := by
  have hx := zTelT hS hT5
  have hy := zTelT hS (show t < 5 by omega)
  have hx0 := hx.1.1
  apply r_ToldNet_copy hO
  unfold B_ToldNet_copy
  have f0_4 := zf_0_4 hS; have f0_3 := zf_0_3 hS; have z0 := zo_0 hS
  ((with_reducible refine i_Seq (i_Set (i_Call (i_as1 (i_A0 (i_as1 (i_L1 (i_as0 ?_)))))))); (with_reducible refine i_recv0 (by assumption) ?_); simp only [w_set0, w_set1, w_setn0, w_setn1])
  refine c_find hO hS hT (by omega) (fun hx => absurd (show 0 ≤ ((t : Nat) : Int) ∧ ((t : Nat) : Int) < ((T : Nat) : Int) by omega) hx) (fun k e hk1 => ⟨_, rfl, ?_⟩)
  rw [show k = t by omega]
  ((with_reducible refine i_Seq (i_If (i_cOr (i_cN (i_A2 ?_))))); (with_reducible refine i_f (by omega) ?_); (with_reducible refine i_cI_ge (i_F (i_A0 ?_))); (with_reducible refine i_fld (by assumption) ?_); (with_reducible refine i_I ?_); (rw [hT]); (with_reducible refine i_f (by omega) ?_); (with_reducible refine i_Seq (i_sCall (i_as1 (i_RA (i_FR (i_A0 ?_)))))); (with_reducible refine i_fldR (by assumption) ?_); (with_reducible refine i_F (i_A0 ?_)); (with_reducible refine i_fld (by assumption) ?_); (rw [hT]); (refine i_ra (zPr_tel hS hT5) ?_); (with_reducible refine i_as1 (i_A2 (i_as0 ?_))); (with_reducible refine i_recv0 (by assumption) ?_))
  refine c_tbecome hO hx hy (by omega) hn2 hA hw (fun M1 f1 g1 => ⟨rfl, ?_⟩)
  have t1 : M1 ((0 : Nat) : Int) ((4 : Nat) : Int) = ((T : Nat) : Int) := by rw [f1 _ _ (by omega)]; exact hT
  ((with_reducible refine i_Seq (i_FO (i_A0 ?_))); (with_reducible refine i_fld (by assumption) ?_); (with_reducible refine i_I ?_); (with_reducible refine i_fld (by assumption) ?_); (with_reducible refine i_RetI (i_Sub (i_F (i_A0 ?_)))); (with_reducible refine i_fld (by assumption) ?_); (with_reducible refine i_I ?_); rw [zg_s]; (rw [t1]); rw [zx_inc (by omega)]; rw [zx_subc (by omega) (by omega)])
  refine hk _ (fun b j q => by rw [zg_o _ _ (by omega), f1 b j (by omega)]) (zg_s _ _ _ _ _) ?_
  exact g1.to (fun b j a1 a2 => by rw [zg_o _ _ (by omega)])
end
