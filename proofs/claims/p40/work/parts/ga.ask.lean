/-! ===== questions asked: both sides ===== -/
theorem zIsQ_ok {n : Nat} {kd a b : Int} (h : zIsQ n kd a b = true) : ∃ kd' a' b' : Nat, kd = ((kd' : Nat) : Int) ∧ a = ((a' : Nat) : Int) ∧ zQok n kd' a' b b' := by
  unfold zIsQ at h
  rcases of_decide_eq_true h with ⟨h1, h2, h3, h4⟩ | ⟨h1, h2, h3⟩ | ⟨h1, h2, h3⟩
  · refine ⟨kd.toNat, a.toNat, b.toNat, by omega, by omega, Or.inl ⟨by omega, by omega, by omega, by omega, by omega⟩⟩
  · refine ⟨2, a.toNat, 0, h1, by omega, Or.inr (Or.inr ⟨rfl, ?_⟩)⟩
    generalize 2 ^ n = N at h3 ⊢
    omega
  · refine ⟨kd.toNat, a.toNat, 0, by omega, by omega, Or.inr (Or.inl ⟨by omega, by omega⟩)⟩
theorem zQok_is {n kd a b' : Nat} {b : Int} (h : zQok n kd a b b') : zIsQ n ((kd : Nat) : Int) ((a : Nat) : Int) b = true := by
  refine decide_eq_true ?_
  rcases h with ⟨h1, h2, h3, h4, h5⟩ | ⟨h1, h2⟩ | ⟨h1, h2⟩
  · exact Or.inl ⟨by omega, by omega, by omega, by omega⟩
  · exact Or.inr (Or.inr ⟨by omega, by omega, by omega⟩)
  · refine Or.inr (Or.inl ⟨by omega, by omega, ?_⟩)
    generalize 2 ^ n = N at h2 ⊢
    omega
theorem m_ask_bad {O : zOm} (hO : zWld O) (hS : zS O = zmS zC0) {t kd a b how : Int} {T n : Nat} {M : zMem} {K : Option zV → zMem → Prop} (hT : M 250 ((11 : Nat) : Int) = ((T : Nat) : Int)) (hn : M 250 ((1 : Nat) : Int) = ((n : Nat) : Int)) (hn2 : n ≤ 16) (hb : ¬ ((0 ≤ t ∧ t < ((T : Nat) : Int)) ∧ zIsQ n kd a b = true)) (hk : K (some (0, -1)) M) : zR O F_Model_ask [(2, 250), (0, t), (0, kd), (0, a), (0, b), (0, how)] M K := by
  apply r_Model_ask hO
  unfold B_Model_ask
  have zo := zMO hS
  by_cases ht : 0 ≤ t ∧ t < ((T : Nat) : Int)
  · have hq : zIsQ n kd a b = false := by
      cases e : zIsQ n kd a b
      · rfl
      · exact absurd ⟨ht, e⟩ hb
    ((with_reducible refine i_Seq (i_If (i_cOr (i_cNot (i_cZ_ne (i_Call (i_as1 (i_A0 (i_as1 (i_L1 (i_as0 ?_))))))))))); (with_reducible refine i_recv0 (by assumption) ?_); (refine m_isTelling hO hS hT ⟨_, rfl, ?_⟩); (rw [decide_eq_true ht]); rw [zbI_t]; (with_reducible refine i_t (by omega) ?_); (with_reducible refine i_cNot (i_cZ_ne (i_Call (i_as1 (i_A0 (i_as1 (i_L2 (i_as1 (i_L3 (i_as1 (i_L4 (i_as0 ?_)))))))))))); (with_reducible refine i_recv0 (by assumption) ?_); (refine m_isQuestion hO hS hn hn2 ⟨_, rfl, ?_⟩); (rw [hq]); rw [zbI_f]; (with_reducible refine i_f (by omega) ?_); (with_reducible refine i_RetI (i_I ?_)))
    exact hk
  · ((with_reducible refine i_Seq (i_If (i_cOr (i_cNot (i_cZ_ne (i_Call (i_as1 (i_A0 (i_as1 (i_L1 (i_as0 ?_))))))))))); (with_reducible refine i_recv0 (by assumption) ?_); (refine m_isTelling hO hS hT ⟨_, rfl, ?_⟩); (rw [decide_eq_false ht]); rw [zbI_f]; (with_reducible refine i_f (by omega) ?_); (with_reducible refine i_RetI (i_I ?_)))
    exact hk
theorem m_ask {O : zOm} (hO : zWld O) (hS : zS O = zmS zC0) {t T n kd a b' how : Nat} {b : Int} {A : zTl} {M : zMem} {K : Option zV → zMem → Prop} (hT : M 250 ((11 : Nat) : Int) = ((T : Nat) : Int)) (hT5 : T ≤ 5) (ht : t < T) (hn : M 250 ((1 : Nat) : Int) = ((n : Nat) : Int)) (hn2 : n ≤ 16) (hA : rTe M t n A) (hw : zTw n A) (hQ : zQok n kd a b b') (hh : how ≤ 1)
    (hk : ∀ M', (∀ b j, ¬ (b = 250 ∧ j = 52 ∨ ((268 : Nat) : Int) ≤ b ∧ b ≤ ((270 : Nat) : Int) ∨ ((288 : Nat) : Int) ≤ b ∧ b ≤ ((290 : Nat) : Int)) → M' b j = M b j) → K (some (0, ((zan n A kd a b' how : Nat) : Int))) M') : zR O F_Model_ask [(2, 250), (0, ((t : Nat) : Int)), (0, ((kd : Nat) : Int)), (0, ((a : Nat) : Int)), (0, b), (0, ((how : Nat) : Int))] M K := by
  have hqt := zQok_is hQ
  apply r_Model_ask hO
  unfold B_Model_ask
  have zo := zMO hS
  ((with_reducible refine i_Seq (i_If (i_cOr (i_cNot (i_cZ_ne (i_Call (i_as1 (i_A0 (i_as1 (i_L1 (i_as0 ?_))))))))))); (with_reducible refine i_recv0 (by assumption) ?_); (refine m_isTelling hO hS hT ⟨_, rfl, ?_⟩); (rw [decide_eq_true (show 0 ≤ ((t : Nat) : Int) ∧ ((t : Nat) : Int) < ((T : Nat) : Int) by omega)]); rw [zbI_t]; (with_reducible refine i_t (by omega) ?_); (with_reducible refine i_cNot (i_cZ_ne (i_Call (i_as1 (i_A0 (i_as1 (i_L2 (i_as1 (i_L3 (i_as1 (i_L4 (i_as0 ?_)))))))))))); (with_reducible refine i_recv0 (by assumption) ?_); (refine m_isQuestion hO hS hn hn2 ⟨_, rfl, ?_⟩); (rw [hqt]); rw [zbI_t]; (with_reducible refine i_t (by omega) ?_); (with_reducible refine i_Seq (i_sCall (i_as1 (i_A0 (i_as1 (i_L1 (i_as0 ?_))))))); (with_reducible refine i_recv0 (by assumption) ?_))
  refine m_sorts hO hS (by omega) hn hn2 hA hw (fun M1 f1 S1 R1 => ⟨rfl, ?_⟩)
  have hA1 : rTe M1 t n A := hA.to hn2 hw (fun b j q => f1 b j (by omega))
  ((with_reducible refine i_RetI (i_Call (i_as1 (i_A0 (i_as1 (i_L1 (i_as1 (i_L2 (i_as1 (i_L3 (i_as1 (i_L4 (i_as1 (i_L5 (i_as0 ?_))))))))))))))); (with_reducible refine i_recv0 (by assumption) ?_))
  refine m_endOf hO hS (by omega) (show M1 250 ((1 : Nat) : Int) = ((n : Nat) : Int) by rw [f1 _ _ (by omega)]; exact hn) hn2 hA1 hw S1 R1 hQ hh (fun M2 f2 => ⟨_, rfl, ?_⟩)
  (skip)
  exact hk M2 (fun b j q => by rw [f2 b j (by omega), f1 b j (by omega)])
theorem m_leads_bad {O : zOm} (hO : zWld O) (hS : zS O = zmS zC0) {t kd a b : Int} {T n : Nat} {M : zMem} {K : Option zV → zMem → Prop} (hT : M 250 ((11 : Nat) : Int) = ((T : Nat) : Int)) (hn : M 250 ((1 : Nat) : Int) = ((n : Nat) : Int)) (hn2 : n ≤ 16) (hb : ¬ ((0 ≤ t ∧ t < ((T : Nat) : Int)) ∧ zIsQ n kd a b = true)) (hk : K (some (0, -1)) M) : zR O F_Model_leads [(2, 250), (0, t), (0, kd), (0, a), (0, b)] M K := by
  apply r_Model_leads hO
  unfold B_Model_leads
  have f55 := zMF (k := 55) hS rfl; have zo := zMO hS
  by_cases ht : 0 ≤ t ∧ t < ((T : Nat) : Int)
  · have hq : zIsQ n kd a b = false := by
      cases e : zIsQ n kd a b
      · rfl
      · exact absurd ⟨ht, e⟩ hb
    ((with_reducible refine i_Seq (i_If (i_cOr (i_cNot (i_cZ_ne (i_Call (i_as1 (i_A0 (i_as1 (i_L1 (i_as0 ?_))))))))))); (with_reducible refine i_recv0 (by assumption) ?_); (refine m_isTelling hO hS hT ⟨_, rfl, ?_⟩); (rw [decide_eq_true ht]); rw [zbI_t]; (with_reducible refine i_t (by omega) ?_); (with_reducible refine i_cNot (i_cZ_ne (i_Call (i_as1 (i_A0 (i_as1 (i_L2 (i_as1 (i_L3 (i_as1 (i_L4 (i_as0 ?_)))))))))))); (with_reducible refine i_recv0 (by assumption) ?_); (refine m_isQuestion hO hS hn hn2 ⟨_, rfl, ?_⟩); (rw [hq]); rw [zbI_f]; (with_reducible refine i_f (by omega) ?_); (with_reducible refine i_RetI (i_I ?_)))
    exact hk
  · ((with_reducible refine i_Seq (i_If (i_cOr (i_cNot (i_cZ_ne (i_Call (i_as1 (i_A0 (i_as1 (i_L1 (i_as0 ?_))))))))))); (with_reducible refine i_recv0 (by assumption) ?_); (refine m_isTelling hO hS hT ⟨_, rfl, ?_⟩); (rw [decide_eq_false ht]); rw [zbI_f]; (with_reducible refine i_f (by omega) ?_); (with_reducible refine i_RetI (i_I ?_)))
    exact hk
theorem m_leads {O : zOm} (hO : zWld O) (hS : zS O = zmS zC0) {t T n kd a b' : Nat} {b : Int} {A : zTl} {M : zMem} {K : Option zV → zMem → Prop} (hT : M 250 ((11 : Nat) : Int) = ((T : Nat) : Int)) (hT5 : T ≤ 5) (ht : t < T) (hn : M 250 ((1 : Nat) : Int) = ((n : Nat) : Int)) (hn2 : n ≤ 16) (hA : rTe M t n A) (hw : zTw n A) (hQ : zQok n kd a b b')
    (hk : ∀ M', (∀ b j, ¬ (b = 250 ∧ j = 52 ∨ b = 250 ∧ j = 55 ∨ ((268 : Nat) : Int) ≤ b ∧ b ≤ ((270 : Nat) : Int) ∨ ((288 : Nat) : Int) ≤ b ∧ b ≤ ((290 : Nat) : Int)) → M' b j = M b j) → K (some (0, ((zldC n A kd a b' (zcnt (tX A) 256) : Nat) : Int))) M') : zR O F_Model_leads [(2, 250), (0, ((t : Nat) : Int)), (0, ((kd : Nat) : Int)), (0, ((a : Nat) : Int)), (0, b)] M K := by
  have hqt := zQok_is hQ
  apply r_Model_leads hO
  unfold B_Model_leads
  have f55 := zMF (k := 55) hS rfl; have zo := zMO hS
  ((with_reducible refine i_Seq (i_If (i_cOr (i_cNot (i_cZ_ne (i_Call (i_as1 (i_A0 (i_as1 (i_L1 (i_as0 ?_))))))))))); (with_reducible refine i_recv0 (by assumption) ?_); (refine m_isTelling hO hS hT ⟨_, rfl, ?_⟩); (rw [decide_eq_true (show 0 ≤ ((t : Nat) : Int) ∧ ((t : Nat) : Int) < ((T : Nat) : Int) by omega)]); rw [zbI_t]; (with_reducible refine i_t (by omega) ?_); (with_reducible refine i_cNot (i_cZ_ne (i_Call (i_as1 (i_A0 (i_as1 (i_L2 (i_as1 (i_L3 (i_as1 (i_L4 (i_as0 ?_)))))))))))); (with_reducible refine i_recv0 (by assumption) ?_); (refine m_isQuestion hO hS hn hn2 ⟨_, rfl, ?_⟩); (rw [hqt]); rw [zbI_t]; (with_reducible refine i_t (by omega) ?_); (with_reducible refine i_Seq (i_Set (i_Call (i_as1 (i_A0 (i_as1 (i_L1 (i_as1 (i_L2 (i_as1 (i_L3 (i_as1 (i_L4 (i_as1 (i_I (i_as0 ?_)))))))))))))))); (with_reducible refine i_recv0 (by assumption) ?_); simp only [w_set0, w_set1, w_setn0, w_setn1])
  refine m_leadOf hO hS (i := 0) (by omega) hn hn2 hA hw hQ (fun M1 y f1 h1 _ => ⟨_, rfl, ?_⟩)
  ((with_reducible refine i_RetI (i_F (i_A0 ?_))); (with_reducible refine i_fld (by assumption) ?_); (rw [h1]))
  exact hk M1 f1
theorem c_isQuestion {O : zOm} (hO : zWld O) (hS : zS O = zmS zC0) {n : Nat} {kd a b : Int} {M : zMem} {K : Option zV → zMem → Prop} (hP : M ((1 : Nat) : Int) ((2 : Nat) : Int) = ((n : Nat) : Int)) (hn2 : n ≤ 16) (hk : K (some (0, zbI (zIsQ n kd a b))) M) : zR O F_Days_isQuestion [(2, ((1 : Nat) : Int)), (0, kd), (0, a), (0, b)] M K := by
  have hp := Nat.pow_le_pow_right (n := 2) (by decide) hn2
  have hp2 : (2 : Nat) ^ 16 = 65536 := rfl
  rw [hp2] at hp
  unfold zIsQ at hk
  apply r_Days_isQuestion hO
  unfold B_Days_isQuestion
  have f1_2 := zf_1_2 hS; have z1 := zo_1 hS
  (with_reducible refine i_Sw (i_L1 (i_sw1 ?_)))
  refine ⟨fun hm => ?_, fun hm => ?_⟩
  · simp only [List.mem_cons, List.not_mem_nil, or_false] at hm
    ((with_reducible refine i_RetZ (i_Call (i_as1 (i_A0 (i_as1 (i_L2 (i_as1 (i_L3 (i_as0 ?_))))))))); (with_reducible refine i_recv0 (by assumption) ?_); (refine c_isPair hO hS hP ⟨_, rfl, ?_⟩); (with_reducible refine i_z (zbI_01 _) ?_))
    rw [show decide (((kd = 0 ∨ kd = 3 ∨ kd = 4) ∧ (0 ≤ a ∧ a < ((n : Nat) : Int)) ∧ (0 ≤ b ∧ b < ((n : Nat) : Int)) ∧ a ≠ b) ∨ (kd = 2 ∧ 0 ≤ a ∧ a < ((2 ^ n : Nat) : Int)) ∨ ((kd = 1 ∨ kd = 5) ∧ 0 ≤ a ∧ a < ((n : Nat) : Int))) = decide ((0 ≤ a ∧ a < ((n : Nat) : Int)) ∧ (0 ≤ b ∧ b < ((n : Nat) : Int)) ∧ a ≠ b) from decide_eq_decide.mpr (by omega)] at hk
    exact hk
  · simp only [List.mem_cons, List.not_mem_nil, or_false] at hm
    (with_reducible refine i_sw1 ?_)
    refine ⟨fun hm2 => ?_, fun hm2 => ?_⟩
    · simp only [List.mem_cons, List.not_mem_nil, or_false] at hm2
      ((with_reducible refine i_RetZ (i_Call (i_as1 (i_A0 (i_as1 (i_L2 (i_as0 ?_))))))); (with_reducible refine i_recv0 (by assumption) ?_); (refine c_isPost hO hS hP ⟨_, rfl, ?_⟩); (with_reducible refine i_z (zbI_01 _) ?_))
      rw [show decide (((kd = 0 ∨ kd = 3 ∨ kd = 4) ∧ (0 ≤ a ∧ a < ((n : Nat) : Int)) ∧ (0 ≤ b ∧ b < ((n : Nat) : Int)) ∧ a ≠ b) ∨ (kd = 2 ∧ 0 ≤ a ∧ a < ((2 ^ n : Nat) : Int)) ∨ ((kd = 1 ∨ kd = 5) ∧ 0 ≤ a ∧ a < ((n : Nat) : Int))) = decide (0 ≤ a ∧ a < ((n : Nat) : Int)) from decide_eq_decide.mpr (by omega)] at hk
      exact hk
    · simp only [List.mem_cons, List.not_mem_nil, or_false] at hm2
      (with_reducible refine i_sw1 ?_)
      refine ⟨fun hm3 => ?_, fun hm3 => ?_⟩
      · simp only [List.mem_cons, List.not_mem_nil, or_false] at hm3
        repeat' (first | (with_reducible first | (show zew _ _ _ _ _ _; first | (show zew (zeL _) _ _ _ _ _; first | refine i_L0 ?_ | refine i_L1 ?_ | refine i_L2 ?_ | refine i_L3 ?_ | refine i_L4 ?_ | refine i_L5 ?_ | refine i_L6 ?_ | refine i_L7 ?_ | refine i_L8 ?_ | refine i_L9 ?_ | refine i_L10 ?_ | refine i_L11 ?_ | refine i_L12 ?_ | refine i_L13 ?_ | refine i_L14 ?_) | (show zew (zeA _) _ _ _ _ _; first | refine i_A0 ?_ | refine i_A1 ?_ | refine i_A2 ?_ | refine i_A3 ?_ | refine i_A4 ?_ | refine i_A5 ?_ | refine i_A6 ?_ | refine i_A7 ?_ | refine i_A8 ?_ | refine i_A9 ?_ | refine i_A10 ?_ | refine i_A11 ?_ | refine i_A12 ?_ | refine i_A13 ?_ | refine i_A14 ?_) | refine i_I ?_ | refine i_F ?_ | refine i_FR ?_ | refine i_IA ?_ | refine i_Add ?_ | refine i_Sub ?_ | refine i_And ?_ | refine i_Len ?_ | refine i_Call ?_ | refine i_RA ?_ | refine i_Ldc ?_ | refine i_LdcL ?_ | refine i_IL ?_ | refine i_Null ?_ | refine i_Mul ?_ | refine i_Div ?_ | refine i_Rem ?_ | refine i_Or ?_ | refine i_Xor ?_ | refine i_Shl ?_ | refine i_Shr ?_ | refine i_Ushr ?_ | refine i_AddL ?_ | refine i_SubL ?_ | refine i_MulL ?_ | refine i_CmpL ?_ | refine i_Neg ?_ | refine i_I2L ?_ | refine i_L2I ?_ | refine i_I2B ?_ | refine i_ZA ?_ | refine i_BA ?_ | refine i_LA ?_ | refine i_MM ?_ | refine i_eIf ?_ | refine i_Ll0 ?_ | refine i_Ll1 ?_ | refine i_Ll2 ?_ | refine i_Ll3 ?_ | refine i_Ll4 ?_ | refine i_Ll5 ?_ | refine i_Ll6 ?_ | refine i_Ll7 ?_ | refine i_Ll8 ?_ | refine i_Ll9 ?_ | refine i_Ll10 ?_ | refine i_Ll11 ?_ | refine i_Ll12 ?_ | refine i_Ll13 ?_ | refine i_Ll14 ?_) | (show zsw _ _ _ _ _ _ _ _; first | refine i_Seq ?_ | refine i_Blk ?_ | refine i_Set ?_ | refine i_If ?_ | refine i_sCall ?_ | refine i_RetV ?_ | refine i_RetI ?_ | refine i_sIA ?_ | refine i_sF ?_ | refine i_Skip ?_ | refine i_FO ?_ | refine i_sLA ?_ | refine i_sZA ?_ | refine i_sBA ?_ | refine i_IO ?_ | refine i_Pop ?_ | refine i_Copy ?_ | refine i_RetZ ?_ | refine i_RetL ?_ | refine i_RetR ?_ | refine i_Ite ?_ | refine i_IteD ?_ | refine i_IfR ?_ | refine i_Brk ?_ | refine i_IfBrk ?_ | refine i_Sw ?_ | refine i_Inc0 ?_ | refine i_Inc1 ?_ | refine i_Inc2 ?_ | refine i_Inc3 ?_ | refine i_Inc4 ?_ | refine i_Inc5 ?_ | refine i_Inc6 ?_ | refine i_Inc7 ?_ | refine i_Inc8 ?_ | refine i_Inc9 ?_ | refine i_Inc10 ?_ | refine i_Inc11 ?_ | refine i_Inc12 ?_ | refine i_Inc13 ?_ | refine i_Inc14 ?_) | (show zcw _ _ _ _ _ _ _; first | refine i_cN ?_ | refine i_cNot ?_ | refine i_cAnd ?_ | refine i_cOr ?_ | refine i_cIf ?_ | refine i_cI_eq ?_ | refine i_cI_ne ?_ | refine i_cI_lt ?_ | refine i_cI_ge ?_ | refine i_cI_gt ?_ | refine i_cI_le ?_ | refine i_cZ_eq ?_ | refine i_cZ_ne ?_ | refine i_cZ_lt ?_ | refine i_cZ_ge ?_ | refine i_cZ_gt ?_ | refine i_cZ_le ?_) | refine i_as0 ?_ | refine i_as1 ?_ | refine i_sw0 ?_ | refine i_sw1 ?_ | refine i_lab0 ?_ | refine i_lab1 ?_ | refine i_lab2 ?_ | refine i_lb0 ?_ | refine i_lb1 ?_ | refine i_recv1 ?_ | refine i_recv2 ?_ | refine i_turn ?_ | refine i_up ?_) | (with_reducible refine i_z (Or.inl rfl) ?_) | (with_reducible refine i_z (Or.inr rfl) ?_) | (with_reducible refine i_z (zbI_01 _) ?_) | (with_reducible refine i_zin (Or.inl rfl) (by assumption) (by omega) (by omega) ?_) | (with_reducible refine i_zin (Or.inr rfl) (by assumption) (by omega) (by omega) ?_) | (with_reducible refine i_zin (zbI_01 _) (by assumption) (by omega) (by omega) ?_) | (with_reducible refine i_zin (by assumption) (by assumption) (by omega) (by omega) ?_) | (with_reducible refine i_recv0 (by assumption) ?_) | (with_reducible refine i_fld (by assumption) ?_) | (with_reducible refine i_fldR (by assumption) ?_) | (with_reducible refine i_in (by assumption) (by omega) (by omega) ?_) | (with_reducible refine i_copy (by assumption) (by assumption) (by omega) ?_) | (with_reducible refine i_len (by assumption) (by omega) ?_) | rw [zbI_t] | rw [zbI_f] | rw [zg_s] | rw [zg_n _ _ _ (by omega)] | rw [zg_m _ _ _ _ _ (by omega)] | rw [zg_o _ _ (by omega)] | (rw [hP]) | (rw [yshl_1 (show n < 31 by omega)]) | rw [zx_inc (by omega)] | rw [zx_addc (by omega)] | rw [zx_cadd (by omega)] | rw [zx_add (by omega)] | rw [zx_subc (by omega) (by omega)] | rw [zx_sub (by omega) (by omega)] | rw [zx_mulc (by omega)] | rw [zx_cmul (by omega)] | rw [zx_divc (by omega)] | rw [zx_modc] | rw [zx_s (by omega) (by omega)] | simp only [w_set0, w_set1, w_setn0, w_setn1] | rw [w_setT] | (with_reducible refine i_t trivial ?_) | (with_reducible refine i_f not_false ?_) | (with_reducible refine i_t (by omega) ?_) | (with_reducible refine i_f (by omega) ?_) | (with_reducible refine i_z (Or.inl rfl) ?_) | (with_reducible refine i_z (Or.inr rfl) ?_) | (with_reducible refine i_nn (by decide) ?_) | (with_reducible refine i_bb ?_ <;> intro hc) | (with_reducible refine i_dne ?_ ?_ <;> intro hc) | (with_reducible refine i_deq ?_ ?_ <;> intro hc) | (with_reducible refine i_bne ?_ ?_ <;> intro hc) | (with_reducible refine i_beq ?_ ?_ <;> intro hc) | (with_reducible refine i_br ?_ ?_ <;> intro hc))
        all_goals first | (rw [decide_eq_true (by omega)] at hk; exact hk) | (rw [decide_eq_false (by omega)] at hk; exact hk)
      · simp only [List.mem_cons, List.not_mem_nil, or_false] at hm3
        rw [decide_eq_false (by omega)] at hk
        ((with_reducible refine i_sw0 (i_RetZ (i_I ?_))); (with_reducible refine i_z (Or.inl rfl) ?_))
        exact hk
