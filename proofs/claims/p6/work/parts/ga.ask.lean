section
-- part ga.ask.lean.txt
/-! ===== questions asked: both sides ===== -/
theorem zIsQ_ok {n : Nat} {kd a b : Int} (h : zIsQ n kd a b = true) : ∃ kd' a' b' : Nat, kd = ((kd' : Nat) : Int) ∧ a = ((a' : Nat) : Int) ∧ zQok n kd' a' b b' := by
  unfold zIsQ at h
  rcases of_decide_eq_true h with ⟨h1, h2, h3, h4⟩ | ⟨h1, h2, h3⟩ | ⟨h1, h2, h3⟩
  · refine ⟨kd.toNat, a.toNat, b.toNat, by omega, by omega, Or.inl ⟨by omega, by omega, by omega, by omega, by omega⟩⟩
  · refine ⟨2, a.toNat, 0, h1, by omega, Or.inr (Or.inr ⟨rfl, ?_⟩)⟩
    generalize 2 ^ n = N at h3 ⊢
    omega
  · refine ⟨kd.toNat, a.toNat, 0, by omega, by omega, Or.inr (Or.inl ⟨by omega, by omega⟩)⟩
theorem zQok_is {n kd a b' : Nat} {b : Int} (h : zQok n kd a b b') : zIsQ n ((kd : Nat) : Int) ((a : Nat) : Int) b = true := by
  refine decide_eq_true ?_
  rcases h with ⟨h1, h2, h3, h4, h5⟩ | ⟨h1, h2⟩ | ⟨h1, h2⟩
  · exact Or.inl ⟨by omega, by omega, by omega, by omega⟩
  · exact Or.inr (Or.inr ⟨by omega, by omega, by omega⟩)
  · refine Or.inr (Or.inl ⟨by omega, by omega, ?_⟩)
    generalize 2 ^ n = N at h2 ⊢
    omega
theorem m_ask_bad {O : zOm} (hO : zWld O) (hS : zS O = zmS zC0) {t kd a b how : Int} {T n : Nat} {M : zMem} {K : Option zV → zMem → Prop} (hT : M 250 ((11 : Nat) : Int) = ((T : Nat) : Int)) (hn : M 250 ((1 : Nat) : Int) = ((n : Nat) : Int)) (hn2 : n ≤ 16) (hb : ¬ ((0 ≤ t ∧ t < ((T : Nat) : Int)) ∧ zIsQ n kd a b = true)) (hk : K (some (0, -1)) M) : zR O F_Model_ask [(2, 250), (0, t), (0, kd), (0, a), (0, b), (0, how)] M K := by
  apply r_Model_ask hO
  unfold B_Model_ask
  have zo := zMO hS
  by_cases ht : 0 ≤ t ∧ t < ((T : Nat) : Int)
  · have hq : zIsQ n kd a b = false := by
      cases e : zIsQ n kd a b
      · rfl
      · exact absurd ⟨ht, e⟩ hb
    ((with_reducible refine i_Seq (i_If (i_cOr (i_cNot (i_cZ_ne (i_Call (i_as1 (i_A0 (i_as1 (i_L1 (i_as0 ?_))))))))))); (with_reducible refine i_recv0 (by assumption) ?_); (refine m_isTelling hO hS hT ⟨_, rfl, ?_⟩); (rw [decide_eq_true ht]); rw [zbI_t]; (with_reducible refine i_t (by omega) ?_); (with_reducible refine i_cNot (i_cZ_ne (i_Call (i_as1 (i_A0 (i_as1 (i_L2 (i_as1 (i_L3 (i_as1 (i_L4 (i_as0 ?_)))))))))))); (with_reducible refine i_recv0 (by assumption) ?_); (refine m_isQuestion hO hS hn hn2 ⟨_, rfl, ?_⟩); (rw [hq]); rw [zbI_f]; (with_reducible refine i_f (by omega) ?_); (with_reducible refine i_RetI (i_I ?_)))
    exact hk
  · ((with_reducible refine i_Seq (i_If (i_cOr (i_cNot (i_cZ_ne (i_Call (i_as1 (i_A0 (i_as1 (i_L1 (i_as0 ?_))))))))))); (with_reducible refine i_recv0 (by assumption) ?_); (refine m_isTelling hO hS hT ⟨_, rfl, ?_⟩); (rw [decide_eq_false ht]); rw [zbI_f]; (with_reducible refine i_f (by omega) ?_); (with_reducible refine i_RetI (i_I ?_)))
    exact hk
theorem m_ask {O : zOm} (hO : zWld O) (hS : zS O = zmS zC0) {t T n kd a b' how : Nat} {b : Int} {A : zTl} {M : zMem} {K : Option zV → zMem → Prop} (hT : M 250 ((11 : Nat) : Int) = ((T : Nat) : Int)) (hT5 : T ≤ 5) (ht : t < T) (hn : M 250 ((1 : Nat) : Int) = ((n : Nat) : Int)) (hn2 : n ≤ 16) (hA : rTe M t n A) (hw : zTw n A) (hQ : zQok n kd a b b') (hh : how ≤ 1)
    (hk : ∀ M', (∀ b j, ¬ (b = 250 ∧ j = 52 ∨ ((268 : Nat) : Int) ≤ b ∧ b ≤ ((270 : Nat) : Int) ∨ ((288 : Nat) : Int) ≤ b ∧ b ≤ ((290 : Nat) : Int)) → M' b j = M b j) → K (some (0, ((zan n A kd a b' how : Nat) : Int))) M') : zR O F_Model_ask [(2, 250), (0, ((t : Nat) : Int)), (0, ((kd : Nat) : Int)), (0, ((a : Nat) : Int)), (0, b), (0, ((how : Nat) : Int))] M K := by
  have hqt := zQok_is hQ
  apply r_Model_ask hO
  unfold B_Model_ask
  have zo := zMO hS
  ((with_reducible refine i_Seq (i_If (i_cOr (i_cNot (i_cZ_ne (i_Call (i_as1 (i_A0 (i_as1 (i_L1 (i_as0 ?_))))))))))); (with_reducible refine i_recv0 (by assumption) ?_); (refine m_isTelling hO hS hT ⟨_, rfl, ?_⟩); (rw [decide_eq_true (show 0 ≤ ((t : Nat) : Int) ∧ ((t : Nat) : Int) < ((T : Nat) : Int) by omega)]); rw [zbI_t]; (with_reducible refine i_t (by omega) ?_); (with_reducible refine i_cNot (i_cZ_ne (i_Call (i_as1 (i_A0 (i_as1 (i_L2 (i_as1 (i_L3 (i_as1 (i_L4 (i_as0 ?_)))))))))))); (with_reducible refine i_recv0 (by assumption) ?_); (refine m_isQuestion hO hS hn hn2 ⟨_, rfl, ?_⟩); (rw [hqt]); rw [zbI_t]; (with_reducible refine i_t (by omega) ?_); (with_reducible refine i_Seq (i_sCall (i_as1 (i_A0 (i_as1 (i_L1 (i_as0 ?_))))))); (with_reducible refine i_recv0 (by assumption) ?_))
  refine m_sorts hO hS (by omega) hn hn2 hA hw (fun M1 f1 S1 R1 => ⟨rfl, ?_⟩)
  have hA1 : rTe M1 t n A := hA.to hn2 hw (fun b j q => f1 b j (by omega))
  ((with_reducible refine i_RetI (i_Call (i_as1 (i_A0 (i_as1 (i_L1 (i_as1 (i_L2 (i_as1 (i_L3 (i_as1 (i_L4 (i_as1 (i_L5 (i_as0 ?_))))))))))))))); (with_reducible refine i_recv0 (by assumption) ?_))
  refine m_endOf hO hS (by omega) (show M1 250 ((1 : Nat) : Int) = ((n : Nat) : Int) by rw [f1 _ _ (by omega)]; exact hn) hn2 hA1 hw S1 R1 hQ hh (fun M2 f2 => ⟨_, rfl, ?_⟩)
  (skip)
  exact hk M2 (fun b j q => by rw [f2 b j (by omega), f1 b j (by omega)])
theorem m_leads_bad {O : zOm} (hO : zWld O) (hS : zS O = zmS zC0) {t kd a b : Int} {T n : Nat} {M : zMem} {K : Option zV → zMem → Prop} (hT : M 250 ((11 : Nat) : Int) = ((T : Nat) : Int)) (hn : M 250 ((1 : Nat) : Int) = ((n : Nat) : Int)) (hn2 : n ≤ 16) (hb : ¬ ((0 ≤ t ∧ t < ((T : Nat) : Int)) ∧ zIsQ n kd a b = true)) (hk : K (some (0, -1)) M) : zR O F_Model_leads [(2, 250), (0, t), (0, kd), (0, a), (0, b)] M K := by
  apply r_Model_leads hO
  unfold B_Model_leads
  have f55 := zMF (k := 55) hS rfl; have zo := zMO hS
  by_cases ht : 0 ≤ t ∧ t < ((T : Nat) : Int)
  · have hq : zIsQ n kd a b = false := by
      cases e : zIsQ n kd a b
      · rfl
      · exact absurd ⟨ht, e⟩ hb
    ((with_reducible refine i_Seq (i_If (i_cOr (i_cNot (i_cZ_ne (i_Call (i_as1 (i_A0 (i_as1 (i_L1 (i_as0 ?_))))))))))); (with_reducible refine i_recv0 (by assumption) ?_); (refine m_isTelling hO hS hT ⟨_, rfl, ?_⟩); (rw [decide_eq_true ht]); rw [zbI_t]; (with_reducible refine i_t (by omega) ?_); (with_reducible refine i_cNot (i_cZ_ne (i_Call (i_as1 (i_A0 (i_as1 (i_L2 (i_as1 (i_L3 (i_as1 (i_L4 (i_as0 ?_)))))))))))); (with_reducible refine i_recv0 (by assumption) ?_); (refine m_isQuestion hO hS hn hn2 ⟨_, rfl, ?_⟩); (rw [hq]); rw [zbI_f]; (with_reducible refine i_f (by omega) ?_); (with_reducible refine i_RetI (i_I ?_)))
    exact hk
  · ((with_reducible refine i_Seq (i_If (i_cOr (i_cNot (i_cZ_ne (i_Call (i_as1 (i_A0 (i_as1 (i_L1 (i_as0 ?_))))))))))); (with_reducible refine i_recv0 (by assumption) ?_); (refine m_isTelling hO hS hT ⟨_, rfl, ?_⟩); (rw [decide_eq_false ht]); rw [zbI_f]; (with_reducible refine i_f (by omega) ?_); (with_reducible refine i_RetI (i_I ?_)))
    exact hk
theorem m_leads {O : zOm} (hO : zWld O) (hS : zS O = zmS zC0) {t T n kd a b' : Nat} {b : Int} {A : zTl} {M : zMem} {K : Option zV → zMem → Prop} (hT : M 250 ((11 : Nat) : Int) = ((T : Nat) : Int)) (hT5 : T ≤ 5) (ht : t < T) (hn : M 250 ((1 : Nat) : Int) = ((n : Nat) : Int)) (hn2 : n ≤ 16) (hA : rTe M t n A) (hw : zTw n A) (hQ : zQok n kd a b b')
    (hk : ∀ M', (∀ b j, ¬ (b = 250 ∧ j = 52 ∨ b = 250 ∧ j = 55 ∨ ((268 : Nat) : Int) ≤ b ∧ b ≤ ((270 : Nat) : Int) ∨ ((288 : Nat) : Int) ≤ b ∧ b ≤ ((290 : Nat) : Int)) → M' b j = M b j) → K (some (0, ((zldC n A kd a b' (zcnt (tX A) 256) : Nat) : Int))) M') : zR O F_Model_leads [(2, 250), (0, ((t : Nat) : Int)), (0, ((kd : Nat) : Int)), (0, ((a : Nat) : Int)), (0, b)] M K := by
  have hqt := zQok_is hQ
  apply r_Model_leads hO
  unfold B_Model_leads
  have f55 := zMF (k := 55) hS rfl; have zo := zMO hS
  ((with_reducible refine i_Seq (i_If (i_cOr (i_cNot (i_cZ_ne (i_Call (i_as1 (i_A0 (i_as1 (i_L1 (i_as0 ?_))))))))))); (with_reducible refine i_recv0 (by assumption) ?_); (refine m_isTelling hO hS hT ⟨_, rfl, ?_⟩); (rw [decide_eq_true (show 0 ≤ ((t : Nat) : Int) ∧ ((t : Nat) : Int) < ((T : Nat) : Int) by omega)]); rw [zbI_t]; (with_reducible refine i_t (by omega) ?_); (with_reducible refine i_cNot (i_cZ_ne (i_Call (i_as1 (i_A0 (i_as1 (i_L2 (i_as1 (i_L3 (i_as1 (i_L4 (i_as0 ?_)))))))))))); (with_reducible refine i_recv0 (by assumption) ?_); (refine m_isQuestion hO hS hn hn2 ⟨_, rfl, ?_⟩); (rw [hqt]); rw [zbI_t]; (with_reducible refine i_t (by omega) ?_); (with_reducible refine i_Seq (i_Set (i_Call (i_as1 (i_A0 (i_as1 (i_L1 (i_as1 (i_L2 (i_as1 (i_L3 (i_as1 (i_L4 (i_as1 (i_I (i_as0 ?_)))))))))))))))); (with_reducible refine i_recv0 (by assumption) ?_); simp only [w_set0, w_set1, w_setn0, w_setn1])
  refine m_leadOf hO hS (i := 0) (by omega) hn hn2 hA hw hQ (fun M1 y f1 h1 _ => ⟨_, rfl, ?_⟩)
  ((with_reducible refine i_RetI (i_F (i_A0 ?_))); (with_reducible refine i_fld (by assumption) ?_); (rw [h1]))
  exact hk M1 f1
theorem c_isQuestion {O : zOm} (hO : zWld O) (hS : zS O = zmS zC0) {n : Nat} {kd a b : Int} {M : zMem} {K : Option zV → zMem → Prop} (hP : M ((1 : Nat) : Int) ((2 : Nat) : Int) = ((n : Nat) : Int)) (hn2 : n ≤ 16) (hk : K (some (0, zbI (zIsQ n kd a b))) M) : zR O F_Days_isQuestion [(2, ((1 : Nat) : Int)), (0, kd), (0, a), (0, b)] M K := by
  have hp := Nat.pow_le_pow_right (n := 2) (by decide) hn2
  have hp2 : (2 : Nat) ^ 16 = 65536 := rfl
  rw [hp2] at hp
  unfold zIsQ at hk
  apply r_Days_isQuestion hO
  unfold B_Days_isQuestion
  have f1_2 := zf_1_2 hS; have z1 := zo_1 hS
  (with_reducible refine i_Sw (i_L1 (i_sw1 ?_)))
  refine ⟨fun hm => ?_, fun hm => ?_⟩
  · simp only [List.mem_cons, List.not_mem_nil, or_false] at hm
    ((with_reducible refine i_RetZ (i_Call (i_as1 (i_A0 (i_as1 (i_L2 (i_as1 (i_L3 (i_as0 ?_))))))))); (with_reducible refine i_recv0 (by assumption) ?_); (refine c_isPair hO hS hP ⟨_, rfl, ?_⟩); (with_reducible refine i_z (zbI_01 _) ?_))
    rw [show decide (((kd = 0 ∨ kd = 3 ∨ kd = 4) ∧ (0 ≤ a ∧ a < ((n : Nat) : Int)) ∧ (0 ≤ b ∧ b < ((n : Nat) : Int)) ∧ a ≠ b) ∨ (kd = 2 ∧ 0 ≤ a ∧ a < ((2 ^ n : Nat) : Int)) ∨ ((kd = 1 ∨ kd = 5) ∧ 0 ≤ a ∧ a < ((n : Nat) : Int))) = decide ((0 ≤ a ∧ a < ((n : Nat) : Int)) ∧ (0 ≤ b ∧ b < ((n : Nat) : Int)) ∧ a ≠ b) from decide_eq_decide.mpr (by omega)] at hk
    exact hk
  · simp only [List.mem_cons, List.not_mem_nil, or_false] at hm
    (with_reducible refine i_sw1 ?_)
    refine ⟨fun hm2 => ?_, fun hm2 => ?_⟩
    · simp only [List.mem_cons, List.not_mem_nil, or_false] at hm2
      ((with_reducible refine i_RetZ (i_Call (i_as1 (i_A0 (i_as1 (i_L2 (i_as0 ?_))))))); (with_reducible refine i_recv0 (by assumption) ?_); (refine c_isPost hO hS hP ⟨_, rfl, ?_⟩); (with_reducible refine i_z (zbI_01 _) ?_))
      rw [show decide (((kd = 0 ∨ kd = 3 ∨ kd = 4) ∧ (0 ≤ a ∧ a < ((n : Nat) : Int)) ∧ (0 ≤ b ∧ b < ((n : Nat) : Int)) ∧ a ≠ b) ∨ (kd = 2 ∧ 0 ≤ a ∧ a < ((2 ^ n : Nat) : Int)) ∨ ((kd = 1 ∨ kd = 5) ∧ 0 ≤ a ∧ a < ((n : Nat) : Int))) = decide (0 ≤ a ∧ a < ((n : Nat) : Int)) from decide_eq_decide.mpr (by omega)] at hk
      exact hk
    · simp only [List.mem_cons, List.not_mem_nil, or_false] at hm2
      (with_reducible refine i_sw1 ?_)
      refine ⟨fun hm3 => ?_, fun hm3 => ?_⟩
      · simp only [List.mem_cons, List.not_mem_nil, or_false] at hm3
        repeat' (first | (with_reducible first | (show zew _ _ _ _ _ _; first | (show zew (zeL _) _ _ _ _ _; first | refine i_L0 ?_ | refine i_L1 ?_ | refine i_L2 ?_ | refine i_L3 ?_ | refine i_L4 ?_ | refine i_L5 ?_ | refine i_L6 ?_ | refine i_L7 ?_ | refine i_L8 ?_ | refine i_L9 ?_ | refine i_L10 ?_ | refine i_L11 ?_ | refine i_L12 ?_ | refine i_L13 ?_ | refine i_L14 ?_) | (show zew (zeA _) _ _ _ _ _; first | refine i_A0 ?_ | refine i_A1 ?_ | refine i_A2 ?_ | refine i_A3 ?_ | refine i_A4 ?_ | refine i_A5 ?_ | refine i_A6 ?_ | refine i_A7 ?_ | refine i_A8 ?_ | refine i_A9 ?_ | refine i_A10 ?_ | refine i_A11 ?_ | refine i_A12 ?_ | refine i_A13 ?_ | refine i_A14 ?_) | refine i_I ?_ | refine i_F ?_ | refine i_FR ?_ | refine i_IA ?_ | refine i_Add ?_ | refine i_Sub ?_ | refine i_And ?_ | refine i_Len ?_ | refine i_Call ?_ | refine i_RA ?_ | refine i_Ldc ?_ | refine i_LdcL ?_ | refine i_IL ?_ | refine i_Null ?_ | refine i_Mul ?_ | refine i_Div ?_ | refine i_Rem ?_ | refine i_Or ?_ | refine i_Xor ?_ | refine i_Shl ?_ | refine i_Shr ?_ | refine i_Ushr ?_ | refine i_AddL ?_ | refine i_SubL ?_ | refine i_MulL ?_ | refine i_CmpL ?_ | refine i_Neg ?_ | refine i_I2L ?_ | refine i_L2I ?_ | refine i_I2B ?_ | refine i_ZA ?_ | refine i_BA ?_ | refine i_LA ?_ | refine i_MM ?_ | refine i_eIf ?_ | refine i_Ll0 ?_ | refine i_Ll1 ?_ | refine i_Ll2 ?_ | refine i_Ll3 ?_ | refine i_Ll4 ?_ | refine i_Ll5 ?_ | refine i_Ll6 ?_ | refine i_Ll7 ?_ | refine i_Ll8 ?_ | refine i_Ll9 ?_ | refine i_Ll10 ?_ | refine i_Ll11 ?_ | refine i_Ll12 ?_ | refine i_Ll13 ?_ | refine i_Ll14 ?_) | (show zsw _ _ _ _ _ _ _ _; first | refine i_Seq ?_ | refine i_Blk ?_ | refine i_Set ?_ | refine i_If ?_ | refine i_sCall ?_ | refine i_RetV ?_ | refine i_RetI ?_ | refine i_sIA ?_ | refine i_sF ?_ | refine i_Skip ?_ | refine i_FO ?_ | refine i_sLA ?_ | refine i_sZA ?_ | refine i_sBA ?_ | refine i_IO ?_ | refine i_Pop ?_ | refine i_Copy ?_ | refine i_RetZ ?_ | refine i_RetL ?_ | refine i_RetR ?_ | refine i_Ite ?_ | refine i_IteD ?_ | refine i_IfR ?_ | refine i_Brk ?_ | refine i_IfBrk ?_ | refine i_Sw ?_ | refine i_Inc0 ?_ | refine i_Inc1 ?_ | refine i_Inc2 ?_ | refine i_Inc3 ?_ | refine i_Inc4 ?_ | refine i_Inc5 ?_ | refine i_Inc6 ?_ | refine i_Inc7 ?_ | refine i_Inc8 ?_ | refine i_Inc9 ?_ | refine i_Inc10 ?_ | refine i_Inc11 ?_ | refine i_Inc12 ?_ | refine i_Inc13 ?_ | refine i_Inc14 ?_) | (show zcw _ _ _ _ _ _ _; first | refine i_cN ?_ | refine i_cNot ?_ | refine i_cAnd ?_ | refine i_cOr ?_ | refine i_cIf ?_ | refine i_cI_eq ?_ | refine i_cI_ne ?_ | refine i_cI_lt ?_ | refine i_cI_ge ?_ | refine i_cI_gt ?_ | refine i_cI_le ?_ | refine i_cZ_eq ?_ | refine i_cZ_ne ?_ | refine i_cZ_lt ?_ | refine i_cZ_ge ?_ | refine i_cZ_gt ?_ | refine i_cZ_le ?_) | refine i_as0 ?_ | refine i_as1 ?_ | refine i_sw0 ?_ | refine i_sw1 ?_ | refine i_lab0 ?_ | refine i_lab1 ?_ | refine i_lab2 ?_ | refine i_lb0 ?_ | refine i_lb1 ?_ | refine i_recv1 ?_ | refine i_recv2 ?_ | refine i_turn ?_ | refine i_up ?_) | (with_reducible refine i_z (Or.inl rfl) ?_) | (with_reducible refine i_z (Or.inr rfl) ?_) | (with_reducible refine i_z (zbI_01 _) ?_) | (with_reducible refine i_zin (Or.inl rfl) (by assumption) (by omega) (by omega) ?_) | (with_reducible refine i_zin (Or.inr rfl) (by assumption) (by omega) (by omega) ?_) | (with_reducible refine i_zin (zbI_01 _) (by assumption) (by omega) (by omega) ?_) | (with_reducible refine i_zin (by assumption) (by assumption) (by omega) (by omega) ?_) | (with_reducible refine i_recv0 (by assumption) ?_) | (with_reducible refine i_fld (by assumption) ?_) | (with_reducible refine i_fldR (by assumption) ?_) | (with_reducible refine i_in (by assumption) (by omega) (by omega) ?_) | (with_reducible refine i_copy (by assumption) (by assumption) (by omega) ?_) | (with_reducible refine i_len (by assumption) (by omega) ?_) | rw [zbI_t] | rw [zbI_f] | rw [zg_s] | rw [zg_n _ _ _ (by omega)] | rw [zg_m _ _ _ _ _ (by omega)] | rw [zg_o _ _ (by omega)] | (rw [hP]) | (rw [yshl_1 (show n < 31 by omega)]) | rw [zx_inc (by omega)] | rw [zx_addc (by omega)] | rw [zx_cadd (by omega)] | rw [zx_add (by omega)] | rw [zx_subc (by omega) (by omega)] | rw [zx_sub (by omega) (by omega)] | rw [zx_mulc (by omega)] | rw [zx_cmul (by omega)] | rw [zx_divc (by omega)] | rw [zx_modc] | rw [zx_s (by omega) (by omega)] | simp only [w_set0, w_set1, w_setn0, w_setn1] | rw [w_setT] | (with_reducible refine i_t trivial ?_) | (with_reducible refine i_f not_false ?_) | (with_reducible refine i_t (by omega) ?_) | (with_reducible refine i_f (by omega) ?_) | (with_reducible refine i_z (Or.inl rfl) ?_) | (with_reducible refine i_z (Or.inr rfl) ?_) | (with_reducible refine i_nn (by decide) ?_) | (with_reducible refine i_bb ?_ <;> intro hc) | (with_reducible refine i_dne ?_ ?_ <;> intro hc) | (with_reducible refine i_deq ?_ ?_ <;> intro hc) | (with_reducible refine i_bne ?_ ?_ <;> intro hc) | (with_reducible refine i_beq ?_ ?_ <;> intro hc) | (with_reducible refine i_br ?_ ?_ <;> intro hc))
        all_goals first | (rw [decide_eq_true (by omega)] at hk; exact hk) | (rw [decide_eq_false (by omega)] at hk; exact hk)
      · simp only [List.mem_cons, List.not_mem_nil, or_false] at hm3
        rw [decide_eq_false (by omega)] at hk
        ((with_reducible refine i_sw0 (i_RetZ (i_I ?_))); (with_reducible refine i_z (Or.inl rfl) ?_))
        exact hk
end
section
-- part gb.cask.lean.txt
/-! ===== questions asked, leads: the class ===== -/
theorem c_ask_bad {O : zOm} (hO : zWld O) (hS : zS O = zmS zC0) {t kd a b how : Int} {T n : Nat} {M : zMem} {K : Option zV → zMem → Prop} (hT : M ((0 : Nat) : Int) ((4 : Nat) : Int) = ((T : Nat) : Int)) (hT5 : T ≤ 5) (hP : M ((1 : Nat) : Int) ((2 : Nat) : Int) = ((n : Nat) : Int)) (hn2 : n ≤ 16) (hb : ¬ ((0 ≤ t ∧ t < ((T : Nat) : Int)) ∧ zIsQ n kd a b = true)) (hk : K (some (0, -1)) M) : zR O F_ToldNet_ask [(2, ((0 : Nat) : Int)), (0, t), (0, kd), (0, a), (0, b), (0, how)] M K := by
  have o1 := zo_1 hS
  apply r_ToldNet_ask hO
  unfold B_ToldNet_ask
  have f0_0 := zf_0_0 hS; have f0_8 := zf_0_8 hS; have z0 := zo_0 hS; have z1 := zo_1 hS; have z134 := zo_134 hS
  ((with_reducible refine i_Seq (i_Set (i_Call (i_as1 (i_A0 (i_as1 (i_L1 (i_as0 ?_)))))))); (with_reducible refine i_recv0 (by assumption) ?_); simp only [w_set0, w_set1, w_setn0, w_setn1])
  refine c_find hO hS hT hT5 (fun hx => ⟨_, rfl, ?_⟩) (fun k e hk1 => ⟨_, rfl, ?_⟩)
  · ((with_reducible refine i_Seq (i_If (i_cOr (i_cN (i_A6 ?_))))); simp only [w_set0, w_set1, w_setn0, w_setn1]; (with_reducible refine i_t trivial ?_); (with_reducible refine i_RetI (i_I ?_)))
    exact hk
  · have hq : zIsQ n kd a b = false := by
      cases e2 : zIsQ n kd a b
      · rfl
      · exact absurd ⟨by omega, e2⟩ hb
    ((with_reducible refine i_Seq (i_If (i_cOr (i_cN (i_A6 ?_))))); (with_reducible refine i_f (by omega) ?_); (with_reducible refine i_cNot (i_cZ_ne (i_Call (i_as1 (i_FR (i_A0 ?_)))))); (with_reducible refine i_fldR (by assumption) ?_); (with_reducible refine i_as1 (i_L2 (i_as1 (i_L3 (i_as1 (i_L4 (i_as0 ?_))))))); (with_reducible refine i_recv0 (by assumption) ?_); (refine c_isQuestion hO hS hP hn2 ⟨_, rfl, ?_⟩); (rw [hq]); rw [zbI_f]; (with_reducible refine i_f (by omega) ?_); (with_reducible refine i_RetI (i_I ?_)))
    exact hk
theorem c_leads_bad {O : zOm} (hO : zWld O) (hS : zS O = zmS zC0) {t kd a b : Int} {T n : Nat} {M : zMem} {K : Option zV → zMem → Prop} (hT : M ((0 : Nat) : Int) ((4 : Nat) : Int) = ((T : Nat) : Int)) (hT5 : T ≤ 5) (hP : M ((1 : Nat) : Int) ((2 : Nat) : Int) = ((n : Nat) : Int)) (hn2 : n ≤ 16) (hb : ¬ ((0 ≤ t ∧ t < ((T : Nat) : Int)) ∧ zIsQ n kd a b = true)) (hk : K (some (0, -1)) M) : zR O F_ToldNet_leads [(2, ((0 : Nat) : Int)), (0, t), (0, kd), (0, a), (0, b)] M K := by
  have o1 := zo_1 hS
  apply r_ToldNet_leads hO
  unfold B_ToldNet_leads
  have f0_0 := zf_0_0 hS; have f0_8 := zf_0_8 hS; have f134_12 := zf_134_12 hS; have z0 := zo_0 hS; have z1 := zo_1 hS; have z134 := zo_134 hS
  ((with_reducible refine i_Seq (i_Set (i_Call (i_as1 (i_A0 (i_as1 (i_L1 (i_as0 ?_)))))))); (with_reducible refine i_recv0 (by assumption) ?_); simp only [w_set0, w_set1, w_setn0, w_setn1])
  refine c_find hO hS hT hT5 (fun hx => ⟨_, rfl, ?_⟩) (fun k e hk1 => ⟨_, rfl, ?_⟩)
  · ((with_reducible refine i_Seq (i_If (i_cOr (i_cN (i_A5 ?_))))); simp only [w_set0, w_set1, w_setn0, w_setn1]; (with_reducible refine i_t trivial ?_); (with_reducible refine i_RetI (i_I ?_)))
    exact hk
  · have hq : zIsQ n kd a b = false := by
      cases e2 : zIsQ n kd a b
      · rfl
      · exact absurd ⟨by omega, e2⟩ hb
    ((with_reducible refine i_Seq (i_If (i_cOr (i_cN (i_A5 ?_))))); (with_reducible refine i_f (by omega) ?_); (with_reducible refine i_cNot (i_cZ_ne (i_Call (i_as1 (i_FR (i_A0 ?_)))))); (with_reducible refine i_fldR (by assumption) ?_); (with_reducible refine i_as1 (i_L2 (i_as1 (i_L3 (i_as1 (i_L4 (i_as0 ?_))))))); (with_reducible refine i_recv0 (by assumption) ?_); (refine c_isQuestion hO hS hP hn2 ⟨_, rfl, ?_⟩); (rw [hq]); rw [zbI_f]; (with_reducible refine i_f (by omega) ?_); (with_reducible refine i_RetI (i_I ?_)))
    exact hk
theorem c_led_bad {O : zOm} (hO : zWld O) (hS : zS O = zmS zC0) {t kd a b i : Int} {T n : Nat} {M : zMem} {K : Option zV → zMem → Prop} (hT : M ((0 : Nat) : Int) ((4 : Nat) : Int) = ((T : Nat) : Int)) (hT5 : T ≤ 5) (hP : M ((1 : Nat) : Int) ((2 : Nat) : Int) = ((n : Nat) : Int)) (hn2 : n ≤ 16) (hb : ¬ ((0 ≤ t ∧ t < ((T : Nat) : Int)) ∧ zIsQ n kd a b = true)) (hk : K (some (0, -1)) M) : zR O F_ToldNet_led [(2, ((0 : Nat) : Int)), (0, t), (0, kd), (0, a), (0, b), (0, i)] M K := by
  have o1 := zo_1 hS
  apply r_ToldNet_led hO
  unfold B_ToldNet_led
  have f0_0 := zf_0_0 hS; have f0_8 := zf_0_8 hS; have f134_12 := zf_134_12 hS; have f134_11 := zf_134_11 hS; have a147 := zCA (a := 147) (ty := .int) (n := 120) hS rfl; have z0 := zo_0 hS; have z1 := zo_1 hS; have z134 := zo_134 hS
  ((with_reducible refine i_Seq (i_Set (i_Call (i_as1 (i_A0 (i_as1 (i_L1 (i_as0 ?_)))))))); (with_reducible refine i_recv0 (by assumption) ?_); simp only [w_set0, w_set1, w_setn0, w_setn1])
  refine c_find hO hS hT hT5 (fun hx => ⟨_, rfl, ?_⟩) (fun k e hk1 => ⟨_, rfl, ?_⟩)
  · ((with_reducible refine i_Seq (i_If (i_cOr (i_cN (i_A6 ?_))))); simp only [w_set0, w_set1, w_setn0, w_setn1]; (with_reducible refine i_t trivial ?_); (with_reducible refine i_RetI (i_I ?_)))
    exact hk
  · have hq : zIsQ n kd a b = false := by
      cases e2 : zIsQ n kd a b
      · rfl
      · exact absurd ⟨by omega, e2⟩ hb
    ((with_reducible refine i_Seq (i_If (i_cOr (i_cN (i_A6 ?_))))); (with_reducible refine i_f (by omega) ?_); (with_reducible refine i_cNot (i_cZ_ne (i_Call (i_as1 (i_FR (i_A0 ?_)))))); (with_reducible refine i_fldR (by assumption) ?_); (with_reducible refine i_as1 (i_L2 (i_as1 (i_L3 (i_as1 (i_L4 (i_as0 ?_))))))); (with_reducible refine i_recv0 (by assumption) ?_); (refine c_isQuestion hO hS hP hn2 ⟨_, rfl, ?_⟩); (rw [hq]); rw [zbI_f]; (with_reducible refine i_f (by omega) ?_); (with_reducible refine i_RetI (i_I ?_)))
    exact hk
theorem c_ask {O : zOm} (hO : zWld O) (hS : zS O = zmS zC0) {t T n kd a b' how : Nat} {b : Int} {A : zTl} {M : zMem} {K : Option zV → zMem → Prop} (hT : M ((0 : Nat) : Int) ((4 : Nat) : Int) = ((T : Nat) : Int)) (hT5 : T ≤ 5) (ht : t < T) (hP : M ((1 : Nat) : Int) ((2 : Nat) : Int) = ((n : Nat) : Int)) (hn1 : 0 < n) (hn2 : n ≤ 16) (hA : zTR M (185 + 13 * t) n A) (hw : zTw n A) (hC : cSo M) (hQ : zQok n kd a b b') (hh : how ≤ 1)
    (hk : ∀ M', (∀ b j, ¬ (b = ((134 : Nat) : Int) ∧ (j = 6 ∨ j = 7) ∨ ((135 : Nat) : Int) ≤ b ∧ b ≤ ((146 : Nat) : Int)) → M' b j = M b j) → cSo M' → K (some (0, ((zan n A kd a b' how : Nat) : Int))) M') : zR O F_ToldNet_ask [(2, ((0 : Nat) : Int)), (0, ((t : Nat) : Int)), (0, ((kd : Nat) : Int)), (0, ((a : Nat) : Int)), (0, b), (0, ((how : Nat) : Int))] M K := by
  have hx := zTelT hS (show t < 5 by omega)
  have hx0 := hx.1.1
  obtain ⟨⟨o134, -⟩, -⟩ := zO134_ok hS
  have o1 := zo_1 hS
  have hqt := zQok_is hQ
  have hm : ∀ how, zan n A kd a b' how = if kd < 3 then zqS n A kd a b' how else zan n A kd a b' how := fun how => by
    by_cases e : kd < 3
    · rw [if_pos e]; unfold zan; rw [if_pos e]
    · rw [if_neg e]
  apply r_ToldNet_ask hO
  unfold B_ToldNet_ask
  have f0_0 := zf_0_0 hS; have f0_8 := zf_0_8 hS; have z0 := zo_0 hS; have z1 := zo_1 hS; have z134 := zo_134 hS
  ((with_reducible refine i_Seq (i_Set (i_Call (i_as1 (i_A0 (i_as1 (i_L1 (i_as0 ?_)))))))); (with_reducible refine i_recv0 (by assumption) ?_); simp only [w_set0, w_set1, w_setn0, w_setn1])
  refine c_find hO hS hT hT5 (fun hx => absurd (show 0 ≤ ((t : Nat) : Int) ∧ ((t : Nat) : Int) < ((T : Nat) : Int) by omega) hx) (fun k e hk1 => ⟨_, rfl, ?_⟩)
  rw [show k = t by omega]
  ((with_reducible refine i_Seq (i_If (i_cOr (i_cN (i_A6 ?_))))); (with_reducible refine i_f (by omega) ?_); (with_reducible refine i_cNot (i_cZ_ne (i_Call (i_as1 (i_FR (i_A0 ?_)))))); (with_reducible refine i_fldR (by assumption) ?_); (with_reducible refine i_as1 (i_L2 (i_as1 (i_L3 (i_as1 (i_L4 (i_as0 ?_))))))); (with_reducible refine i_recv0 (by assumption) ?_); (refine c_isQuestion hO hS hP hn2 ⟨_, rfl, ?_⟩); (rw [hqt]); rw [zbI_t]; (with_reducible refine i_t (by omega) ?_); (with_reducible refine i_Seq (i_sCall (i_as1 (i_FR (i_A0 ?_))))); (with_reducible refine i_fldR (by assumption) ?_); (with_reducible refine i_as1 (i_A6 (i_as0 ?_))); (with_reducible refine i_recv0 (by assumption) ?_))
  refine c_take hO hS hx (by omega) hA hn2 hw hC (fun M1 f1 h1 => ⟨rfl, ?_⟩)
  have hA1 : zTR M1 (185 + 13 * t) n A := hA.to (fun b j a1 a2 => f1 b j (by omega))
  by_cases e0 : how = 0
  · subst e0
    ((with_reducible refine i_RetI (i_Call (i_as1 (i_FR (i_A0 ?_))))); (with_reducible refine i_fldR (by assumption) ?_); (with_reducible refine i_as1 (i_A6 (i_as1 (i_L2 (i_as1 (i_L3 (i_as1 (i_L4 (i_as1 (i_eIf (i_cZ_ne (i_L5 ?_)))))))))))); (with_reducible refine i_f (by omega) ?_); (with_reducible refine i_I (i_as0 ?_)); (with_reducible refine i_recv0 (by assumption) ?_))
    refine c_answer hO hS (how := 0) hx (by omega) hA1.1.1 hn1 hn2 hw hQ (Or.inl (by omega)) h1 (hm 0) (fun M2 f2 h2 => ⟨_, rfl, ?_⟩)
    (skip)
    exact hk M2 (fun b j q => by rw [f2 b j (by omega), f1 b j (by omega)]) h2.so
  · have e1 : how = 1 := by omega
    subst e1
    ((with_reducible refine i_RetI (i_Call (i_as1 (i_FR (i_A0 ?_))))); (with_reducible refine i_fldR (by assumption) ?_); (with_reducible refine i_as1 (i_A6 (i_as1 (i_L2 (i_as1 (i_L3 (i_as1 (i_L4 (i_as1 (i_eIf (i_cZ_ne (i_L5 ?_)))))))))))); (with_reducible refine i_t (by omega) ?_); (with_reducible refine i_I (i_as0 ?_)); (with_reducible refine i_recv0 (by assumption) ?_))
    refine c_answer hO hS (how := 1) hx (by omega) hA1.1.1 hn1 hn2 hw hQ (Or.inl (by omega)) h1 (hm 1) (fun M2 f2 h2 => ⟨_, rfl, ?_⟩)
    (skip)
    exact hk M2 (fun b j q => by rw [f2 b j (by omega), f1 b j (by omega)]) h2.so
theorem c_leads {O : zOm} (hO : zWld O) (hS : zS O = zmS zC0) {t T n kd a b' : Nat} {b : Int} {A : zTl} {M : zMem} {K : Option zV → zMem → Prop} (hT : M ((0 : Nat) : Int) ((4 : Nat) : Int) = ((T : Nat) : Int)) (hT5 : T ≤ 5) (ht : t < T) (hP : M ((1 : Nat) : Int) ((2 : Nat) : Int) = ((n : Nat) : Int)) (hn1 : 0 < n) (hn2 : n ≤ 16) (hA : zTR M (185 + 13 * t) n A) (hw : zTw n A) (hC : cSo M) (hQ : zQok n kd a b b')
    (hk : ∀ M', (∀ b j, ¬ (b = ((134 : Nat) : Int) ∧ (j = 6 ∨ j = 7 ∨ j = 12) ∨ ((135 : Nat) : Int) ≤ b ∧ b ≤ ((147 : Nat) : Int) ∨ b = ((185 + 13 * t + 12 : Nat) : Int)) → M' b j = M b j) → zTR M' (185 + 13 * t) n A → cSo M' → K (some (0, ((zldC n A kd a b' (zcnt (tX A) 256) : Nat) : Int))) M') : zR O F_ToldNet_leads [(2, ((0 : Nat) : Int)), (0, ((t : Nat) : Int)), (0, ((kd : Nat) : Int)), (0, ((a : Nat) : Int)), (0, b)] M K := by
  have hx := zTelT hS (show t < 5 by omega)
  have hx0 := hx.1.1
  obtain ⟨⟨o134, -⟩, -⟩ := zO134_ok hS
  have o1 := zo_1 hS
  have hqt := zQok_is hQ
  apply r_ToldNet_leads hO
  unfold B_ToldNet_leads
  have f0_0 := zf_0_0 hS; have f0_8 := zf_0_8 hS; have f134_12 := zf_134_12 hS; have z0 := zo_0 hS; have z1 := zo_1 hS; have z134 := zo_134 hS
  ((with_reducible refine i_Seq (i_Set (i_Call (i_as1 (i_A0 (i_as1 (i_L1 (i_as0 ?_)))))))); (with_reducible refine i_recv0 (by assumption) ?_); simp only [w_set0, w_set1, w_setn0, w_setn1])
  refine c_find hO hS hT hT5 (fun hx => absurd (show 0 ≤ ((t : Nat) : Int) ∧ ((t : Nat) : Int) < ((T : Nat) : Int) by omega) hx) (fun k e hk1 => ⟨_, rfl, ?_⟩)
  rw [show k = t by omega]
  ((with_reducible refine i_Seq (i_If (i_cOr (i_cN (i_A5 ?_))))); (with_reducible refine i_f (by omega) ?_); (with_reducible refine i_cNot (i_cZ_ne (i_Call (i_as1 (i_FR (i_A0 ?_)))))); (with_reducible refine i_fldR (by assumption) ?_); (with_reducible refine i_as1 (i_L2 (i_as1 (i_L3 (i_as1 (i_L4 (i_as0 ?_))))))); (with_reducible refine i_recv0 (by assumption) ?_); (refine c_isQuestion hO hS hP hn2 ⟨_, rfl, ?_⟩); (rw [hqt]); rw [zbI_t]; (with_reducible refine i_t (by omega) ?_); (with_reducible refine i_Seq (i_sCall (i_as1 (i_FR (i_A0 ?_))))); (with_reducible refine i_fldR (by assumption) ?_); (with_reducible refine i_as1 (i_A5 (i_as1 (i_L2 (i_as1 (i_L3 (i_as1 (i_L4 (i_as0 ?_))))))))); (with_reducible refine i_recv0 (by assumption) ?_))
  refine c_followLeads hO hS hx (by omega) hA hn1 hn2 hw hQ hC (fun M1 f1 hA1 hC1 h1 _ => ⟨rfl, ?_⟩)
  ((with_reducible refine i_RetI (i_F (i_FR (i_A0 ?_)))); (with_reducible refine i_fldR (by assumption) ?_); (with_reducible refine i_fld (by assumption) ?_); (rw [h1]))
  exact hk M1 f1 hA1 hC1
theorem zldC_mono {n : Nat} {A : zTl} {kd a b' k l : Nat} (h : k ≤ l) : zldC n A kd a b' k ≤ zldC n A kd a b' l := zcnt_sub fun c _ hc => by
  rw [Bool.and_eq_true] at hc ⊢
  exact ⟨hc.1, decide_eq_true (Nat.lt_of_lt_of_le (of_decide_eq_true hc.2) h)⟩
/-- the i-th that leads -/
def zlp (n : Nat) (A : zTl) (kd a b' : Nat) (i : Int) (k : Nat) : Prop := k < zcnt (tX A) 256 ∧ zldC n A kd a b' (k + 1) = zldC n A kd a b' k + 1 ∧ ((zldC n A kd a b' k : Nat) : Int) = i
noncomputable def zled (n : Nat) (A : zTl) (kd a b' : Nat) (i : Int) : Int := @dite Int (∃ k, zlp n A kd a b' i k) (Classical.propDecidable _) (fun h => ((Classical.choose h : Nat) : Int)) (fun _ => -1)
theorem zled_no {n : Nat} {A : zTl} {kd a b' : Nat} {i : Int} (h : ∀ k, ¬ zlp n A kd a b' i k) : zled n A kd a b' i = -1 := dif_neg (fun ⟨k, hk⟩ => h k hk)
theorem zled_k {n : Nat} {A : zTl} {kd a b' k : Nat} {i : Int} (h : zlp n A kd a b' i k) : zled n A kd a b' i = ((k : Nat) : Int) := by
  have he : ∃ k, zlp n A kd a b' i k := ⟨k, h⟩
  have h2 := Classical.choose_spec he
  refine (dif_pos he).trans ?_
  generalize Classical.choose he = l at h2 ⊢
  obtain ⟨h3, h4, h5⟩ := h
  obtain ⟨g3, g4, g5⟩ := h2
  have : l = k := by
    rcases Nat.lt_trichotomy l k with z | z | z
    · have := zldC_mono (n := n) (A := A) (kd := kd) (a := a) (b' := b') (show l + 1 ≤ k from z)
      omega
    · exact z
    · have := zldC_mono (n := n) (A := A) (kd := kd) (a := a) (b' := b') (show k + 1 ≤ l from z)
      omega
  rw [this]
theorem m_led_bad {O : zOm} (hO : zWld O) (hS : zS O = zmS zC0) {t kd a b i : Int} {T n : Nat} {M : zMem} {K : Option zV → zMem → Prop} (hT : M 250 ((11 : Nat) : Int) = ((T : Nat) : Int)) (hn : M 250 ((1 : Nat) : Int) = ((n : Nat) : Int)) (hn2 : n ≤ 16) (hb : ¬ ((0 ≤ t ∧ t < ((T : Nat) : Int)) ∧ zIsQ n kd a b = true)) (hk : K (some (0, -1)) M) : zR O F_Model_led [(2, 250), (0, t), (0, kd), (0, a), (0, b), (0, i)] M K := by
  apply r_Model_led hO
  unfold B_Model_led
  have zo := zMO hS
  by_cases ht : 0 ≤ t ∧ t < ((T : Nat) : Int)
  · have hq : zIsQ n kd a b = false := by
      cases e : zIsQ n kd a b
      · rfl
      · exact absurd ⟨ht, e⟩ hb
    ((with_reducible refine i_RetI (i_eIf (i_cAnd (i_cAnd (i_cZ_ne (i_Call (i_as1 (i_A0 (i_as1 (i_L1 (i_as0 ?_))))))))))); (with_reducible refine i_recv0 (by assumption) ?_); (refine m_isTelling hO hS hT ⟨_, rfl, ?_⟩); (rw [decide_eq_true ht]); rw [zbI_t]; (with_reducible refine i_t (by omega) ?_); (with_reducible refine i_cZ_ne (i_Call (i_as1 (i_A0 (i_as1 (i_L2 (i_as1 (i_L3 (i_as1 (i_L4 (i_as0 ?_))))))))))); (with_reducible refine i_recv0 (by assumption) ?_); (refine m_isQuestion hO hS hn hn2 ⟨_, rfl, ?_⟩); (rw [hq]); rw [zbI_f]; (with_reducible refine i_f (by omega) ?_); (with_reducible refine i_I ?_))
    exact hk
  · ((with_reducible refine i_RetI (i_eIf (i_cAnd (i_cAnd (i_cZ_ne (i_Call (i_as1 (i_A0 (i_as1 (i_L1 (i_as0 ?_))))))))))); (with_reducible refine i_recv0 (by assumption) ?_); (refine m_isTelling hO hS hT ⟨_, rfl, ?_⟩); (rw [decide_eq_false ht]); rw [zbI_f]; (with_reducible refine i_f (by omega) ?_); (with_reducible refine i_I ?_))
    exact hk
theorem m_led {O : zOm} (hO : zWld O) (hS : zS O = zmS zC0) {t T n kd a b' : Nat} {b i : Int} {A : zTl} {M : zMem} {K : Option zV → zMem → Prop} (hT : M 250 ((11 : Nat) : Int) = ((T : Nat) : Int)) (hT5 : T ≤ 5) (ht : t < T) (hn : M 250 ((1 : Nat) : Int) = ((n : Nat) : Int)) (hn2 : n ≤ 16) (hA : rTe M t n A) (hw : zTw n A) (hQ : zQok n kd a b b')
    (hk : ∀ M', (∀ b j, ¬ (b = 250 ∧ j = 52 ∨ b = 250 ∧ j = 55 ∨ ((268 : Nat) : Int) ≤ b ∧ b ≤ ((270 : Nat) : Int) ∨ ((288 : Nat) : Int) ≤ b ∧ b ≤ ((290 : Nat) : Int)) → M' b j = M b j) → K (some (0, zled n A kd a b' i)) M') : zR O F_Model_led [(2, 250), (0, ((t : Nat) : Int)), (0, ((kd : Nat) : Int)), (0, ((a : Nat) : Int)), (0, b), (0, i)] M K := by
  have hqt := zQok_is hQ
  apply r_Model_led hO
  unfold B_Model_led
  have zo := zMO hS
  by_cases hi : 0 ≤ i
  · ((with_reducible refine i_RetI (i_eIf (i_cAnd (i_cAnd (i_cZ_ne (i_Call (i_as1 (i_A0 (i_as1 (i_L1 (i_as0 ?_))))))))))); (with_reducible refine i_recv0 (by assumption) ?_); (refine m_isTelling hO hS hT ⟨_, rfl, ?_⟩); (rw [decide_eq_true (show 0 ≤ ((t : Nat) : Int) ∧ ((t : Nat) : Int) < ((T : Nat) : Int) by omega)]); rw [zbI_t]; (with_reducible refine i_t (by omega) ?_); (with_reducible refine i_cZ_ne (i_Call (i_as1 (i_A0 (i_as1 (i_L2 (i_as1 (i_L3 (i_as1 (i_L4 (i_as0 ?_))))))))))); (with_reducible refine i_recv0 (by assumption) ?_); (refine m_isQuestion hO hS hn hn2 ⟨_, rfl, ?_⟩); (rw [hqt]); rw [zbI_t]; (with_reducible refine i_t (by omega) ?_); (with_reducible refine i_cZ_ge (i_L5 ?_)); (with_reducible refine i_t (by omega) ?_); (with_reducible refine i_Call (i_as1 (i_A0 (i_as1 (i_L1 (i_as1 (i_L2 (i_as1 (i_L3 (i_as1 (i_L4 (i_as1 (i_L5 (i_as0 ?_)))))))))))))); (with_reducible refine i_recv0 (by assumption) ?_))
    refine m_leadOf hO hS (by omega) hn hn2 hA hw hQ (fun M1 y f1 _ h1 => ⟨_, rfl, ?_⟩)
    have hy : zled n A kd a b' i = y := by
      rcases h1 with ⟨e, h1⟩ | ⟨k, e, h1, h2, h3⟩
      · rw [e]
        exact zled_no (fun k ⟨g1, g2, g3⟩ => h1 k g1 (by omega) g3)
      · rw [e]
        exact zled_k ⟨h1, h2, h3⟩
    have hk1 := hk M1 f1
    rw [hy] at hk1
    (skip)
    exact hk1
  · have hk1 := hk M (fun _ _ _ => rfl)
    rw [zled_no (fun k ⟨g1, g2, g3⟩ => by omega)] at hk1
    ((with_reducible refine i_RetI (i_eIf (i_cAnd (i_cAnd (i_cZ_ne (i_Call (i_as1 (i_A0 (i_as1 (i_L1 (i_as0 ?_))))))))))); (with_reducible refine i_recv0 (by assumption) ?_); (refine m_isTelling hO hS hT ⟨_, rfl, ?_⟩); (rw [decide_eq_true (show 0 ≤ ((t : Nat) : Int) ∧ ((t : Nat) : Int) < ((T : Nat) : Int) by omega)]); rw [zbI_t]; (with_reducible refine i_t (by omega) ?_); (with_reducible refine i_cZ_ne (i_Call (i_as1 (i_A0 (i_as1 (i_L2 (i_as1 (i_L3 (i_as1 (i_L4 (i_as0 ?_))))))))))); (with_reducible refine i_recv0 (by assumption) ?_); (refine m_isQuestion hO hS hn hn2 ⟨_, rfl, ?_⟩); (rw [hqt]); rw [zbI_t]; (with_reducible refine i_t (by omega) ?_); (with_reducible refine i_cZ_ge (i_L5 ?_)); (with_reducible refine i_f (by omega) ?_); (with_reducible refine i_I ?_))
    exact hk1
theorem c_led {O : zOm} (hO : zWld O) (hS : zS O = zmS zC0) {t T n kd a b' : Nat} {b i : Int} {A : zTl} {M : zMem} {K : Option zV → zMem → Prop} (hT : M ((0 : Nat) : Int) ((4 : Nat) : Int) = ((T : Nat) : Int)) (hT5 : T ≤ 5) (ht : t < T) (hP : M ((1 : Nat) : Int) ((2 : Nat) : Int) = ((n : Nat) : Int)) (hn1 : 0 < n) (hn2 : n ≤ 16) (hA : zTR M (185 + 13 * t) n A) (hw : zTw n A) (hC : cSo M) (hQ : zQok n kd a b b')
    (hk : ∀ M', (∀ b j, ¬ (b = ((134 : Nat) : Int) ∧ (j = 6 ∨ j = 7 ∨ j = 12) ∨ ((135 : Nat) : Int) ≤ b ∧ b ≤ ((147 : Nat) : Int) ∨ b = ((185 + 13 * t + 12 : Nat) : Int)) → M' b j = M b j) → zTR M' (185 + 13 * t) n A → cSo M' → K (some (0, zled n A kd a b' i)) M') : zR O F_ToldNet_led [(2, ((0 : Nat) : Int)), (0, ((t : Nat) : Int)), (0, ((kd : Nat) : Int)), (0, ((a : Nat) : Int)), (0, b), (0, i)] M K := by
  have hx := zTelT hS (show t < 5 by omega)
  have hx0 := hx.1.1
  obtain ⟨⟨o134, -⟩, -⟩ := zO134_ok hS
  have o1 := zo_1 hS
  have hqt := zQok_is hQ
  obtain ⟨-, -, ⟨t1, t2, t3, t4, t5, t6, t7⟩⟩ := zO134_ok hS
  have hE := tX_120 hn2 hw
  have hle := zldC_le n A kd a b' (zcnt (tX A) 256) (Nat.le_refl _)
  apply r_ToldNet_led hO
  unfold B_ToldNet_led
  have f0_0 := zf_0_0 hS; have f0_8 := zf_0_8 hS; have f134_12 := zf_134_12 hS; have f134_11 := zf_134_11 hS; have a147 := zCA (a := 147) (ty := .int) (n := 120) hS rfl; have z0 := zo_0 hS; have z1 := zo_1 hS; have z134 := zo_134 hS
  ((with_reducible refine i_Seq (i_Set (i_Call (i_as1 (i_A0 (i_as1 (i_L1 (i_as0 ?_)))))))); (with_reducible refine i_recv0 (by assumption) ?_); simp only [w_set0, w_set1, w_setn0, w_setn1])
  refine c_find hO hS hT hT5 (fun hx => absurd (show 0 ≤ ((t : Nat) : Int) ∧ ((t : Nat) : Int) < ((T : Nat) : Int) by omega) hx) (fun k e hk1 => ⟨_, rfl, ?_⟩)
  rw [show k = t by omega]
  ((with_reducible refine i_Seq (i_If (i_cOr (i_cN (i_A6 ?_))))); (with_reducible refine i_f (by omega) ?_); (with_reducible refine i_cNot (i_cZ_ne (i_Call (i_as1 (i_FR (i_A0 ?_)))))); (with_reducible refine i_fldR (by assumption) ?_); (with_reducible refine i_as1 (i_L2 (i_as1 (i_L3 (i_as1 (i_L4 (i_as0 ?_))))))); (with_reducible refine i_recv0 (by assumption) ?_); (refine c_isQuestion hO hS hP hn2 ⟨_, rfl, ?_⟩); (rw [hqt]); rw [zbI_t]; (with_reducible refine i_t (by omega) ?_); (with_reducible refine i_Seq (i_sCall (i_as1 (i_FR (i_A0 ?_))))); (with_reducible refine i_fldR (by assumption) ?_); (with_reducible refine i_as1 (i_A6 (i_as1 (i_L2 (i_as1 (i_L3 (i_as1 (i_L4 (i_as0 ?_))))))))); (with_reducible refine i_recv0 (by assumption) ?_))
  refine c_followLeads hO hS hx (by omega) hA hn1 hn2 hw hQ hC (fun M1 f1 hA1 hC1 h1 h2 => ⟨rfl, ?_⟩)
  have hk2 := hk M1 f1 hA1 hC1
  by_cases hi : 0 ≤ i ∧ i < ((zldC n A kd a b' (zcnt (tX A) 256) : Nat) : Int)
  · obtain ⟨j, rfl⟩ : ∃ j : Nat, i = ((j : Nat) : Int) := ⟨i.toNat, by omega⟩
    obtain ⟨l, l1, l2, l3, l4⟩ := h2 j (by omega)
    rw [zled_k ⟨l2, l3, by rw [l4]⟩] at hk2
    generalize zldC n A kd a b' (zcnt (tX A) 256) = N at h1 hi hle ⊢
    generalize zcnt (tX A) 256 = E at hE l2 hle
    ((with_reducible refine i_RetI (i_eIf (i_cOr (i_cZ_lt (i_L5 ?_))))); (with_reducible refine i_f (by omega) ?_); (with_reducible refine i_cI_ge (i_L5 (i_F (i_FR (i_A0 ?_))))); (with_reducible refine i_fldR (by assumption) ?_); (with_reducible refine i_fld (by assumption) ?_); (rw [h1]); (with_reducible refine i_f (by omega) ?_); (with_reducible refine i_IA (i_FR (i_FR (i_A0 ?_)))); (with_reducible refine i_fldR (by assumption) ?_); (with_reducible refine i_fldR (by assumption) ?_); (with_reducible refine i_L5 ?_); (with_reducible refine i_in (by assumption) (by omega) (by omega) ?_); (rw [l1]))
    exact hk2
  · rw [zled_no (fun l ⟨g1, g2, g3⟩ => by
      have := zldC_mono (n := n) (A := A) (kd := kd) (a := a) (b' := b') (show l + 1 ≤ zcnt (tX A) 256 from g1)
      omega)] at hk2
    generalize zldC n A kd a b' (zcnt (tX A) 256) = N at h1 hi hle ⊢
    generalize zcnt (tX A) 256 = E at hE hle
    clear h2
    repeat' (first | (with_reducible first | (show zew _ _ _ _ _ _; first | (show zew (zeL _) _ _ _ _ _; first | refine i_L0 ?_ | refine i_L1 ?_ | refine i_L2 ?_ | refine i_L3 ?_ | refine i_L4 ?_ | refine i_L5 ?_ | refine i_L6 ?_ | refine i_L7 ?_ | refine i_L8 ?_ | refine i_L9 ?_ | refine i_L10 ?_ | refine i_L11 ?_ | refine i_L12 ?_ | refine i_L13 ?_ | refine i_L14 ?_) | (show zew (zeA _) _ _ _ _ _; first | refine i_A0 ?_ | refine i_A1 ?_ | refine i_A2 ?_ | refine i_A3 ?_ | refine i_A4 ?_ | refine i_A5 ?_ | refine i_A6 ?_ | refine i_A7 ?_ | refine i_A8 ?_ | refine i_A9 ?_ | refine i_A10 ?_ | refine i_A11 ?_ | refine i_A12 ?_ | refine i_A13 ?_ | refine i_A14 ?_) | refine i_I ?_ | refine i_F ?_ | refine i_FR ?_ | refine i_IA ?_ | refine i_Add ?_ | refine i_Sub ?_ | refine i_And ?_ | refine i_Len ?_ | refine i_Call ?_ | refine i_RA ?_ | refine i_Ldc ?_ | refine i_LdcL ?_ | refine i_IL ?_ | refine i_Null ?_ | refine i_Mul ?_ | refine i_Div ?_ | refine i_Rem ?_ | refine i_Or ?_ | refine i_Xor ?_ | refine i_Shl ?_ | refine i_Shr ?_ | refine i_Ushr ?_ | refine i_AddL ?_ | refine i_SubL ?_ | refine i_MulL ?_ | refine i_CmpL ?_ | refine i_Neg ?_ | refine i_I2L ?_ | refine i_L2I ?_ | refine i_I2B ?_ | refine i_ZA ?_ | refine i_BA ?_ | refine i_LA ?_ | refine i_MM ?_ | refine i_eIf ?_ | refine i_Ll0 ?_ | refine i_Ll1 ?_ | refine i_Ll2 ?_ | refine i_Ll3 ?_ | refine i_Ll4 ?_ | refine i_Ll5 ?_ | refine i_Ll6 ?_ | refine i_Ll7 ?_ | refine i_Ll8 ?_ | refine i_Ll9 ?_ | refine i_Ll10 ?_ | refine i_Ll11 ?_ | refine i_Ll12 ?_ | refine i_Ll13 ?_ | refine i_Ll14 ?_) | (show zsw _ _ _ _ _ _ _ _; first | refine i_Seq ?_ | refine i_Blk ?_ | refine i_Set ?_ | refine i_If ?_ | refine i_sCall ?_ | refine i_RetV ?_ | refine i_RetI ?_ | refine i_sIA ?_ | refine i_sF ?_ | refine i_Skip ?_ | refine i_FO ?_ | refine i_sLA ?_ | refine i_sZA ?_ | refine i_sBA ?_ | refine i_IO ?_ | refine i_Pop ?_ | refine i_Copy ?_ | refine i_RetZ ?_ | refine i_RetL ?_ | refine i_RetR ?_ | refine i_Ite ?_ | refine i_IteD ?_ | refine i_IfR ?_ | refine i_Brk ?_ | refine i_IfBrk ?_ | refine i_Sw ?_ | refine i_Inc0 ?_ | refine i_Inc1 ?_ | refine i_Inc2 ?_ | refine i_Inc3 ?_ | refine i_Inc4 ?_ | refine i_Inc5 ?_ | refine i_Inc6 ?_ | refine i_Inc7 ?_ | refine i_Inc8 ?_ | refine i_Inc9 ?_ | refine i_Inc10 ?_ | refine i_Inc11 ?_ | refine i_Inc12 ?_ | refine i_Inc13 ?_ | refine i_Inc14 ?_) | (show zcw _ _ _ _ _ _ _; first | refine i_cN ?_ | refine i_cNot ?_ | refine i_cAnd ?_ | refine i_cOr ?_ | refine i_cIf ?_ | refine i_cI_eq ?_ | refine i_cI_ne ?_ | refine i_cI_lt ?_ | refine i_cI_ge ?_ | refine i_cI_gt ?_ | refine i_cI_le ?_ | refine i_cZ_eq ?_ | refine i_cZ_ne ?_ | refine i_cZ_lt ?_ | refine i_cZ_ge ?_ | refine i_cZ_gt ?_ | refine i_cZ_le ?_) | refine i_as0 ?_ | refine i_as1 ?_ | refine i_sw0 ?_ | refine i_sw1 ?_ | refine i_lab0 ?_ | refine i_lab1 ?_ | refine i_lab2 ?_ | refine i_lb0 ?_ | refine i_lb1 ?_ | refine i_recv1 ?_ | refine i_recv2 ?_ | refine i_turn ?_ | refine i_up ?_) | (with_reducible refine i_z (Or.inl rfl) ?_) | (with_reducible refine i_z (Or.inr rfl) ?_) | (with_reducible refine i_z (zbI_01 _) ?_) | (with_reducible refine i_zin (Or.inl rfl) (by assumption) (by omega) (by omega) ?_) | (with_reducible refine i_zin (Or.inr rfl) (by assumption) (by omega) (by omega) ?_) | (with_reducible refine i_zin (zbI_01 _) (by assumption) (by omega) (by omega) ?_) | (with_reducible refine i_zin (by assumption) (by assumption) (by omega) (by omega) ?_) | (with_reducible refine i_recv0 (by assumption) ?_) | (with_reducible refine i_fld (by assumption) ?_) | (with_reducible refine i_fldR (by assumption) ?_) | (with_reducible refine i_in (by assumption) (by omega) (by omega) ?_) | (with_reducible refine i_copy (by assumption) (by assumption) (by omega) ?_) | (with_reducible refine i_len (by assumption) (by omega) ?_) | rw [zbI_t] | rw [zbI_f] | rw [zg_s] | rw [zg_n _ _ _ (by omega)] | rw [zg_m _ _ _ _ _ (by omega)] | rw [zg_o _ _ (by omega)] | (rw [h1]) | rw [zx_inc (by omega)] | rw [zx_addc (by omega)] | rw [zx_cadd (by omega)] | rw [zx_add (by omega)] | rw [zx_subc (by omega) (by omega)] | rw [zx_sub (by omega) (by omega)] | rw [zx_mulc (by omega)] | rw [zx_cmul (by omega)] | rw [zx_divc (by omega)] | rw [zx_modc] | rw [zx_s (by omega) (by omega)] | simp only [w_set0, w_set1, w_setn0, w_setn1] | rw [w_setT] | (with_reducible refine i_t trivial ?_) | (with_reducible refine i_f not_false ?_) | (with_reducible refine i_t (by omega) ?_) | (with_reducible refine i_f (by omega) ?_) | (with_reducible refine i_z (Or.inl rfl) ?_) | (with_reducible refine i_z (Or.inr rfl) ?_) | (with_reducible refine i_nn (by decide) ?_) | (with_reducible refine i_bb ?_ <;> intro hc) | (with_reducible refine i_dne ?_ ?_ <;> intro hc) | (with_reducible refine i_deq ?_ ?_ <;> intro hc) | (with_reducible refine i_bne ?_ ?_ <;> intro hc) | (with_reducible refine i_beq ?_ ?_ <;> intro hc) | (with_reducible refine i_br ?_ ?_ <;> intro hc))
    all_goals first | exact hk2 | (exfalso; omega)
end
section
-- part gc.reader.lean.txt
/-! ===== the reader's questions added: both sides ===== -/
def zQad (Q : zQl) (kd a : Nat) (b : Int) (b' w : Nat) : zQl := (Q.1 + 1, fun i => if i = Q.1 then (kd, a, b, b', w) else Q.2 i)
theorem zQad_s {n kd a b' w : Nat} {b : Int} {Q : zQl} (hQ : zQs n Q) (h : Q.1 < 10) (hk : zQok n kd a b b') (hw : w ≤ 9) : zQs n (zQad Q kd a b b' w) := by
  refine ⟨h, fun i hi => ?_⟩
  unfold qk qa qb qc qw zQad
  dsimp only
  by_cases z : i = Q.1
  · rw [if_pos z]; exact ⟨hk, hw⟩
  · rw [if_neg z]
    have : i < Q.1 + 1 := hi
    exact hQ.2 i (by omega)
theorem m_reader_bad {O : zOm} (hO : zWld O) (hS : zS O = zmS zC0) {n : Nat} {kd a b w : Int} {Q : zQl} {M : zMem} {K : Option zV → zMem → Prop} (hn : M 250 ((1 : Nat) : Int) = ((n : Nat) : Int)) (hn2 : n ≤ 16) (hq : rQs M Q) (hQ : zQs n Q) (hb : ¬ (Q.1 < 10 ∧ zIsQ n kd a b = true ∧ 1 ≤ w ∧ w ≤ 9)) (hk : K (some (0, -1)) M) : zR O F_Model_reader [(2, 250), (0, kd), (0, a), (0, b), (0, w)] M K := by
  have hq10 := hQ.1
  have hq1 := hq.1
  apply r_Model_reader hO
  unfold B_Model_reader
  have f28 := zMF (k := 28) hS rfl; have f29 := zMF (k := 29) hS rfl; have a274 := zMA (a := 274) (ty := .int) (n := 10) hS rfl; have f30 := zMF (k := 30) hS rfl; have a275 := zMA (a := 275) (ty := .int) (n := 10) hS rfl; have f31 := zMF (k := 31) hS rfl; have a276 := zMA (a := 276) (ty := .int) (n := 10) hS rfl; have f32 := zMF (k := 32) hS rfl; have a277 := zMA (a := 277) (ty := .int) (n := 10) hS rfl; have zo := zMO hS
  cases e : zIsQ n kd a b
  · (focus ((with_reducible refine i_Seq (i_If (i_cOr (i_cOr (i_cOr (i_cI_eq (i_F (i_A0 ?_)))))))); (with_reducible refine i_fld (by assumption) ?_); (with_reducible refine i_I ?_); (rw [hq1]); (with_reducible refine i_br ?_ ?_ <;> intro hc); (focus ((with_reducible refine i_RetI (i_I ?_)))); rotate_left; (focus ((with_reducible refine i_cNot (i_cZ_ne (i_Call (i_as1 (i_A0 (i_as1 (i_L1 (i_as1 (i_L2 (i_as1 (i_L3 (i_as0 ?_)))))))))))); (with_reducible refine i_recv0 (by assumption) ?_); (refine m_isQuestion hO hS hn hn2 ⟨_, rfl, ?_⟩); (rw [e]); rw [zbI_f]; (with_reducible refine i_f (by omega) ?_); (with_reducible refine i_RetI (i_I ?_)))); rotate_right))
    all_goals first | exact hk | (exfalso; omega)
  · have hb2 : ¬ (Q.1 < 10 ∧ 1 ≤ w ∧ w ≤ 9) := fun z => hb ⟨z.1, e, z.2⟩
    clear hb
    (focus ((with_reducible refine i_Seq (i_If (i_cOr (i_cOr (i_cOr (i_cI_eq (i_F (i_A0 ?_)))))))); (with_reducible refine i_fld (by assumption) ?_); (with_reducible refine i_I ?_); (rw [hq1]); (with_reducible refine i_br ?_ ?_ <;> intro hc); (focus ((with_reducible refine i_RetI (i_I ?_)))); rotate_left; (focus ((with_reducible refine i_cNot (i_cZ_ne (i_Call (i_as1 (i_A0 (i_as1 (i_L1 (i_as1 (i_L2 (i_as1 (i_L3 (i_as0 ?_)))))))))))); (with_reducible refine i_recv0 (by assumption) ?_); (refine m_isQuestion hO hS hn hn2 ⟨_, rfl, ?_⟩); (rw [e]); rw [zbI_t]; (with_reducible refine i_t (by omega) ?_); (with_reducible refine i_cI_lt (i_L4 (i_I ?_))); (with_reducible refine i_br ?_ ?_ <;> intro hc); (focus ((with_reducible refine i_RetI (i_I ?_)))); rotate_left; (focus ((with_reducible refine i_cI_gt (i_L4 (i_I ?_))); (with_reducible refine i_t (by omega) ?_); (with_reducible refine i_RetI (i_I ?_)))); rotate_right)); rotate_right))
    all_goals first | exact hk | (exfalso; omega)
theorem m_reader {O : zOm} (hO : zWld O) (hS : zS O = zmS zC0) {n kd a b' w : Nat} {b : Int} {Q : zQl} {M : zMem} {K : Option zV → zMem → Prop} (hn : M 250 ((1 : Nat) : Int) = ((n : Nat) : Int)) (hn2 : n ≤ 16) (hq : rQs M Q) (hQ : zQs n Q) (h10 : Q.1 < 10) (hQk : zQok n kd a b b') (hw1 : 1 ≤ w) (hw9 : w ≤ 9)
    (hk : ∀ M', (∀ b j, ¬ (b = 250 ∧ j = 28 ∨ ((274 : Nat) : Int) ≤ b ∧ b ≤ ((277 : Nat) : Int)) → M' b j = M b j) → rQs M' (zQad Q kd a b b' w) → K (some (0, ((Q.1 : Nat) : Int))) M') : zR O F_Model_reader [(2, 250), (0, ((kd : Nat) : Int)), (0, ((a : Nat) : Int)), (0, b), (0, ((w : Nat) : Int))] M K := by
  have hqt := zQok_is hQk
  have hq1 := hq.1
  obtain ⟨-, hq2⟩ := hq
  apply r_Model_reader hO
  unfold B_Model_reader
  have f28 := zMF (k := 28) hS rfl; have f29 := zMF (k := 29) hS rfl; have a274 := zMA (a := 274) (ty := .int) (n := 10) hS rfl; have f30 := zMF (k := 30) hS rfl; have a275 := zMA (a := 275) (ty := .int) (n := 10) hS rfl; have f31 := zMF (k := 31) hS rfl; have a276 := zMA (a := 276) (ty := .int) (n := 10) hS rfl; have f32 := zMF (k := 32) hS rfl; have a277 := zMA (a := 277) (ty := .int) (n := 10) hS rfl; have zo := zMO hS
  ((with_reducible refine i_Seq (i_If (i_cOr (i_cOr (i_cOr (i_cI_eq (i_F (i_A0 ?_)))))))); (with_reducible refine i_fld (by assumption) ?_); (with_reducible refine i_I ?_); (rw [hq1]); (with_reducible refine i_f (by omega) ?_); (with_reducible refine i_cNot (i_cZ_ne (i_Call (i_as1 (i_A0 (i_as1 (i_L1 (i_as1 (i_L2 (i_as1 (i_L3 (i_as0 ?_)))))))))))); (with_reducible refine i_recv0 (by assumption) ?_); (refine m_isQuestion hO hS hn hn2 ⟨_, rfl, ?_⟩); (rw [hqt]); rw [zbI_t]; (with_reducible refine i_t (by omega) ?_); (with_reducible refine i_cI_lt (i_L4 (i_I ?_))); (with_reducible refine i_f (by omega) ?_); (with_reducible refine i_cI_gt (i_L4 (i_I ?_))); (with_reducible refine i_f (by omega) ?_); (with_reducible refine i_Seq (i_sIA (i_FR (i_A0 ?_)))); (with_reducible refine i_fldR (by assumption) ?_); (with_reducible refine i_F (i_A0 ?_)); (with_reducible refine i_fld (by assumption) ?_); (with_reducible refine i_L1 ?_); (with_reducible refine i_in (by assumption) (by omega) (by omega) ?_); (with_reducible refine i_Seq (i_sIA (i_FR (i_A0 ?_)))); (with_reducible refine i_fldR (by assumption) ?_); (with_reducible refine i_F (i_A0 ?_)); (with_reducible refine i_fld (by assumption) ?_); (with_reducible refine i_L2 ?_); rw [zg_n _ _ _ (by omega)]; (with_reducible refine i_in (by assumption) (by omega) (by omega) ?_); (with_reducible refine i_Seq (i_sIA (i_FR (i_A0 ?_)))); (with_reducible refine i_fldR (by assumption) ?_); (with_reducible refine i_F (i_A0 ?_)); (with_reducible refine i_fld (by assumption) ?_); (with_reducible refine i_L3 ?_); rw [zg_n _ _ _ (by omega)]; rw [zg_n _ _ _ (by omega)]; (with_reducible refine i_in (by assumption) (by omega) (by omega) ?_); (with_reducible refine i_Seq (i_sIA (i_FR (i_A0 ?_)))); (with_reducible refine i_fldR (by assumption) ?_); (with_reducible refine i_F (i_A0 ?_)); (with_reducible refine i_fld (by assumption) ?_); (with_reducible refine i_L4 ?_); rw [zg_n _ _ _ (by omega)]; rw [zg_n _ _ _ (by omega)]; rw [zg_n _ _ _ (by omega)]; (with_reducible refine i_in (by assumption) (by omega) (by omega) ?_); (with_reducible refine i_Seq (i_FO (i_A0 ?_))); (with_reducible refine i_fld (by assumption) ?_); (with_reducible refine i_I ?_); (with_reducible refine i_fld (by assumption) ?_); (with_reducible refine i_RetI (i_Sub (i_F (i_A0 ?_)))); (with_reducible refine i_fld (by assumption) ?_); (with_reducible refine i_I ?_); rw [zg_s]; rw [zg_n _ _ _ (by omega)]; rw [zg_n _ _ _ (by omega)]; rw [zg_n _ _ _ (by omega)]; rw [zg_n _ _ _ (by omega)]; (rw [hq1]); rw [zx_inc (by omega)]; rw [zx_subc (by omega) (by omega)])
  refine hk _ (fun b j q => ?_) ⟨?_, fun i hi => ?_⟩
  · (rw [zg_o _ _ (by omega)]; rw [zg_n _ _ _ (by omega)]; rw [zg_n _ _ _ (by omega)]; rw [zg_n _ _ _ (by omega)]; rw [zg_n _ _ _ (by omega)])
  · (rw [zg_s])
    try rfl
  · unfold qk qa qb qw zQad
    by_cases z : i = Q.1
    · subst z
      dsimp only
      rw [if_pos rfl]
      refine ⟨?_, ?_, ?_, ?_⟩
      all_goals ((first | ((rw [zg_n _ _ _ (by omega)]; rw [zg_n _ _ _ (by omega)]; rw [zg_n _ _ _ (by omega)]; rw [zg_n _ _ _ (by omega)]; rw [zg_s])) | ((rw [zg_n _ _ _ (by omega)]; rw [zg_n _ _ _ (by omega)]; rw [zg_n _ _ _ (by omega)]; rw [zg_s])) | ((rw [zg_n _ _ _ (by omega)]; rw [zg_n _ _ _ (by omega)]; rw [zg_s])) | ((rw [zg_n _ _ _ (by omega)]; rw [zg_s]))))
    · have hi2 : i < Q.1 := by
        have : i < Q.1 + 1 := hi
        omega
      obtain ⟨g1, g2, g3, g4⟩ := hq2 i hi2
      dsimp only
      rw [if_neg z]
      refine ⟨?_, ?_, ?_, ?_⟩
      all_goals ((first | ((rw [zg_n _ _ _ (by omega)]; rw [zg_n _ _ _ (by omega)]; rw [zg_n _ _ _ (by omega)]; rw [zg_n _ _ _ (by omega)]; rw [zg_m _ _ _ _ _ (by omega)])) | ((rw [zg_n _ _ _ (by omega)]; rw [zg_n _ _ _ (by omega)]; rw [zg_n _ _ _ (by omega)]; rw [zg_m _ _ _ _ _ (by omega)]; rw [zg_n _ _ _ (by omega)])) | ((rw [zg_n _ _ _ (by omega)]; rw [zg_n _ _ _ (by omega)]; rw [zg_m _ _ _ _ _ (by omega)]; rw [zg_n _ _ _ (by omega)]; rw [zg_n _ _ _ (by omega)])) | ((rw [zg_n _ _ _ (by omega)]; rw [zg_m _ _ _ _ _ (by omega)]; rw [zg_n _ _ _ (by omega)]; rw [zg_n _ _ _ (by omega)]; rw [zg_n _ _ _ (by omega)]))))
      · exact g1
      · exact g2
      · exact g3
      · exact g4
theorem c_reader_bad {O : zOm} (hO : zWld O) (hS : zS O = zmS zC0) {n : Nat} {kd a b w : Int} {Q : zQl} {M : zMem} {K : Option zV → zMem → Prop} (hP : M ((1 : Nat) : Int) ((2 : Nat) : Int) = ((n : Nat) : Int)) (hn2 : n ≤ 16) (hq : cQs M Q) (hQ : zQs n Q) (hb : ¬ (Q.1 < 10 ∧ zIsQ n kd a b = true ∧ 1 ≤ w ∧ w ≤ 9)) (hk : K (some (0, -1)) M) : zR O F_ToldNet_reader [(2, ((0 : Nat) : Int)), (0, kd), (0, a), (0, b), (0, w)] M K := by
  obtain ⟨⟨s0, s1, s2, s3, s4, s5, s6, s7, s8⟩, ⟨t1, t2, t3, t4, t5⟩⟩ := zO148_ok hS
  have o1 := zo_1 hS
  have hq10 := hQ.1
  have hq1 := hq.1
  apply r_ToldNet_reader hO
  unfold B_ToldNet_reader
  have f0_0 := zf_0_0 hS; have f0_9 := zf_0_9 hS; have z0 := zo_0 hS; have z1 := zo_1 hS; have z148 := zo_148 hS
  cases e : zIsQ n kd a b
  · (focus ((with_reducible refine i_Seq (i_If (i_cOr (i_cOr (i_cNot (i_cZ_ne (i_Call (i_as1 (i_FR (i_A0 ?_)))))))))); (with_reducible refine i_fldR (by assumption) ?_); (with_reducible refine i_as1 (i_L1 (i_as1 (i_L2 (i_as1 (i_L3 (i_as0 ?_))))))); (with_reducible refine i_recv0 (by assumption) ?_); (refine c_isQuestion hO hS hP hn2 ⟨_, rfl, ?_⟩); (rw [e]); rw [zbI_f]; (with_reducible refine i_f (by omega) ?_); (with_reducible refine i_RetI (i_I ?_))))
    all_goals first | exact hk | (exfalso; omega)
  · have hb2 : ¬ (Q.1 < 10 ∧ 1 ≤ w ∧ w ≤ 9) := fun z => hb ⟨z.1, e, z.2⟩
    clear hb
    by_cases hw : 1 ≤ w ∧ w ≤ 9
    · ((with_reducible refine i_Seq (i_If (i_cOr (i_cOr (i_cNot (i_cZ_ne (i_Call (i_as1 (i_FR (i_A0 ?_)))))))))); (with_reducible refine i_fldR (by assumption) ?_); (with_reducible refine i_as1 (i_L1 (i_as1 (i_L2 (i_as1 (i_L3 (i_as0 ?_))))))); (with_reducible refine i_recv0 (by assumption) ?_); (refine c_isQuestion hO hS hP hn2 ⟨_, rfl, ?_⟩); (rw [e]); rw [zbI_t]; (with_reducible refine i_t (by omega) ?_); (with_reducible refine i_cI_lt (i_L4 (i_I ?_))); (with_reducible refine i_f (by omega) ?_); (with_reducible refine i_cI_gt (i_L4 (i_I ?_))); (with_reducible refine i_f (by omega) ?_); (with_reducible refine i_RetI (i_Call (i_as1 (i_FR (i_A0 ?_))))); (with_reducible refine i_fldR (by assumption) ?_); (with_reducible refine i_as1 (i_L1 (i_as1 (i_L2 (i_as1 (i_L3 (i_as1 (i_L4 (i_as0 ?_))))))))); (with_reducible refine i_recv0 (by assumption) ?_))
      apply r_Reader_add hO
      unfold B_Reader_add
      ((with_reducible refine i_Seq (i_If (i_cI_ge (i_F (i_A0 ?_))))); (with_reducible refine i_fld (by assumption) ?_); (with_reducible refine i_I ?_); (rw [hq1]); (with_reducible refine i_t (by omega) ?_); (with_reducible refine i_RetI (i_I ?_)))
      exact ⟨_, rfl, hk⟩
    · (focus ((with_reducible refine i_Seq (i_If (i_cOr (i_cOr (i_cNot (i_cZ_ne (i_Call (i_as1 (i_FR (i_A0 ?_)))))))))); (with_reducible refine i_fldR (by assumption) ?_); (with_reducible refine i_as1 (i_L1 (i_as1 (i_L2 (i_as1 (i_L3 (i_as0 ?_))))))); (with_reducible refine i_recv0 (by assumption) ?_); (refine c_isQuestion hO hS hP hn2 ⟨_, rfl, ?_⟩); (rw [e]); rw [zbI_t]; (with_reducible refine i_t (by omega) ?_); (with_reducible refine i_cI_lt (i_L4 (i_I ?_))); (with_reducible refine i_br ?_ ?_ <;> intro hc); (focus ((with_reducible refine i_RetI (i_I ?_)))); rotate_left; (focus ((with_reducible refine i_cI_gt (i_L4 (i_I ?_))); (with_reducible refine i_t (by omega) ?_); (with_reducible refine i_RetI (i_I ?_)))); rotate_right))
      all_goals first | exact hk | (exfalso; omega)
theorem c_reader {O : zOm} (hO : zWld O) (hS : zS O = zmS zC0) {n kd a b' w : Nat} {b : Int} {Q : zQl} {M : zMem} {K : Option zV → zMem → Prop} (hP : M ((1 : Nat) : Int) ((2 : Nat) : Int) = ((n : Nat) : Int)) (hn2 : n ≤ 16) (hq : cQs M Q) (hQ : zQs n Q) (h10 : Q.1 < 10) (hQk : zQok n kd a b b') (hw1 : 1 ≤ w) (hw9 : w ≤ 9)
    (hk : ∀ M', (∀ b j, ¬ (b = ((148 : Nat) : Int) ∧ j = 7 ∨ ((149 : Nat) : Int) ≤ b ∧ b ≤ ((152 : Nat) : Int)) → M' b j = M b j) → cQs M' (zQad Q kd a b b' w) → K (some (0, ((Q.1 : Nat) : Int))) M') : zR O F_ToldNet_reader [(2, ((0 : Nat) : Int)), (0, ((kd : Nat) : Int)), (0, ((a : Nat) : Int)), (0, b), (0, ((w : Nat) : Int))] M K := by
  obtain ⟨⟨s0, s1, s2, s3, s4, s5, s6, s7, s8⟩, ⟨t1, t2, t3, t4, t5⟩⟩ := zO148_ok hS
  have o1 := zo_1 hS
  have hqt := zQok_is hQk
  have hq1 := hq.1
  obtain ⟨-, hq2⟩ := hq
  apply r_ToldNet_reader hO
  unfold B_ToldNet_reader
  have f0_0 := zf_0_0 hS; have f0_9 := zf_0_9 hS; have z0 := zo_0 hS; have z1 := zo_1 hS; have z148 := zo_148 hS
  ((with_reducible refine i_Seq (i_If (i_cOr (i_cOr (i_cNot (i_cZ_ne (i_Call (i_as1 (i_FR (i_A0 ?_)))))))))); (with_reducible refine i_fldR (by assumption) ?_); (with_reducible refine i_as1 (i_L1 (i_as1 (i_L2 (i_as1 (i_L3 (i_as0 ?_))))))); (with_reducible refine i_recv0 (by assumption) ?_); (refine c_isQuestion hO hS hP hn2 ⟨_, rfl, ?_⟩); (rw [hqt]); rw [zbI_t]; (with_reducible refine i_t (by omega) ?_); (with_reducible refine i_cI_lt (i_L4 (i_I ?_))); (with_reducible refine i_f (by omega) ?_); (with_reducible refine i_cI_gt (i_L4 (i_I ?_))); (with_reducible refine i_f (by omega) ?_); (with_reducible refine i_RetI (i_Call (i_as1 (i_FR (i_A0 ?_))))); (with_reducible refine i_fldR (by assumption) ?_); (with_reducible refine i_as1 (i_L1 (i_as1 (i_L2 (i_as1 (i_L3 (i_as1 (i_L4 (i_as0 ?_))))))))); (with_reducible refine i_recv0 (by assumption) ?_))
  apply r_Reader_add hO
  unfold B_Reader_add
  ((with_reducible refine i_Seq (i_If (i_cI_ge (i_F (i_A0 ?_))))); (with_reducible refine i_fld (by assumption) ?_); (with_reducible refine i_I ?_); (rw [hq1]); (with_reducible refine i_f (by omega) ?_); (with_reducible refine i_Seq (i_sIA (i_FR (i_A0 ?_)))); (with_reducible refine i_fldR (by assumption) ?_); (with_reducible refine i_F (i_A0 ?_)); (with_reducible refine i_fld (by assumption) ?_); (with_reducible refine i_L1 ?_); (with_reducible refine i_in (by assumption) (by omega) (by omega) ?_); (with_reducible refine i_Seq (i_sIA (i_FR (i_A0 ?_)))); (with_reducible refine i_fldR (by assumption) ?_); (with_reducible refine i_F (i_A0 ?_)); (with_reducible refine i_fld (by assumption) ?_); (with_reducible refine i_L2 ?_); rw [zg_n _ _ _ (by omega)]; (with_reducible refine i_in (by assumption) (by omega) (by omega) ?_); (with_reducible refine i_Seq (i_sIA (i_FR (i_A0 ?_)))); (with_reducible refine i_fldR (by assumption) ?_); (with_reducible refine i_F (i_A0 ?_)); (with_reducible refine i_fld (by assumption) ?_); (with_reducible refine i_L3 ?_); rw [zg_n _ _ _ (by omega)]; rw [zg_n _ _ _ (by omega)]; (with_reducible refine i_in (by assumption) (by omega) (by omega) ?_); (with_reducible refine i_Seq (i_sIA (i_FR (i_A0 ?_)))); (with_reducible refine i_fldR (by assumption) ?_); (with_reducible refine i_F (i_A0 ?_)); (with_reducible refine i_fld (by assumption) ?_); (with_reducible refine i_L4 ?_); rw [zg_n _ _ _ (by omega)]; rw [zg_n _ _ _ (by omega)]; rw [zg_n _ _ _ (by omega)]; (with_reducible refine i_in (by assumption) (by omega) (by omega) ?_); (with_reducible refine i_Seq (i_FO (i_A0 ?_))); (with_reducible refine i_fld (by assumption) ?_); (with_reducible refine i_I ?_); (with_reducible refine i_fld (by assumption) ?_); (with_reducible refine i_RetI (i_Sub (i_F (i_A0 ?_)))); (with_reducible refine i_fld (by assumption) ?_); (with_reducible refine i_I ?_); rw [zg_s]; rw [zg_n _ _ _ (by omega)]; rw [zg_n _ _ _ (by omega)]; rw [zg_n _ _ _ (by omega)]; rw [zg_n _ _ _ (by omega)]; (rw [hq1]); rw [zx_inc (by omega)]; rw [zx_subc (by omega) (by omega)])
  refine ⟨_, rfl, ?_⟩
  rw [show Q.1 + 1 - 1 = Q.1 from Nat.add_sub_cancel Q.1 1]
  refine hk _ (fun b j q => ?_) ⟨?_, fun i hi => ?_⟩
  · (rw [zg_o _ _ (by omega)]; rw [zg_n _ _ _ (by omega)]; rw [zg_n _ _ _ (by omega)]; rw [zg_n _ _ _ (by omega)]; rw [zg_n _ _ _ (by omega)])
  · (rw [zg_s])
    try rfl
  · unfold qk qa qb qw zQad
    by_cases z : i = Q.1
    · subst z
      dsimp only
      rw [if_pos rfl]
      refine ⟨?_, ?_, ?_, ?_⟩
      all_goals ((first | ((rw [zg_n _ _ _ (by omega)]; rw [zg_n _ _ _ (by omega)]; rw [zg_n _ _ _ (by omega)]; rw [zg_n _ _ _ (by omega)]; rw [zg_s])) | ((rw [zg_n _ _ _ (by omega)]; rw [zg_n _ _ _ (by omega)]; rw [zg_n _ _ _ (by omega)]; rw [zg_s])) | ((rw [zg_n _ _ _ (by omega)]; rw [zg_n _ _ _ (by omega)]; rw [zg_s])) | ((rw [zg_n _ _ _ (by omega)]; rw [zg_s]))))
    · have hi2 : i < Q.1 := by
        have : i < Q.1 + 1 := hi
        omega
      obtain ⟨g1, g2, g3, g4⟩ := hq2 i hi2
      dsimp only
      rw [if_neg z]
      refine ⟨?_, ?_, ?_, ?_⟩
      all_goals ((first | ((rw [zg_n _ _ _ (by omega)]; rw [zg_n _ _ _ (by omega)]; rw [zg_n _ _ _ (by omega)]; rw [zg_n _ _ _ (by omega)]; rw [zg_m _ _ _ _ _ (by omega)])) | ((rw [zg_n _ _ _ (by omega)]; rw [zg_n _ _ _ (by omega)]; rw [zg_n _ _ _ (by omega)]; rw [zg_m _ _ _ _ _ (by omega)]; rw [zg_n _ _ _ (by omega)])) | ((rw [zg_n _ _ _ (by omega)]; rw [zg_n _ _ _ (by omega)]; rw [zg_m _ _ _ _ _ (by omega)]; rw [zg_n _ _ _ (by omega)]; rw [zg_n _ _ _ (by omega)])) | ((rw [zg_n _ _ _ (by omega)]; rw [zg_m _ _ _ _ _ (by omega)]; rw [zg_n _ _ _ (by omega)]; rw [zg_n _ _ _ (by omega)]; rw [zg_n _ _ _ (by omega)]))))
      · exact g1
      · exact g2
      · exact g3
      · exact g4
end
section
-- part gd.box.lean.txt
/-! ===== box, drop: both sides ===== -/
theorem m_box_bad {O : zOm} (hO : zWld O) (hS : zS O = zmS zC0) {t p : Int} {T n : Nat} {M : zMem} {K : Option zV → zMem → Prop} (hT : M 250 ((11 : Nat) : Int) = ((T : Nat) : Int)) (hn : M 250 ((1 : Nat) : Int) = ((n : Nat) : Int)) (hb : ¬ ((0 ≤ t ∧ t < ((T : Nat) : Int)) ∧ (0 ≤ p ∧ p < ((n : Nat) : Int)))) (hk : K (some (0, -1)) M) : zR O F_Model_box [(2, 250), (0, t), (0, p)] M K := by
  apply r_Model_box hO
  unfold B_Model_box
  have f13 := zMF (k := 13) hS rfl; have a259 := zMA (a := 259) (ty := .int) (n := 112) hS rfl; have zo := zMO hS
  by_cases ht : 0 ≤ t ∧ t < ((T : Nat) : Int)
  · ((with_reducible refine i_RetI (i_eIf (i_cAnd (i_cZ_ne (i_Call (i_as1 (i_A0 (i_as1 (i_L1 (i_as0 ?_)))))))))); (with_reducible refine i_recv0 (by assumption) ?_); (refine m_isTelling hO hS hT ⟨_, rfl, ?_⟩); (rw [decide_eq_true ht]); rw [zbI_t]; (with_reducible refine i_t (by omega) ?_); (with_reducible refine i_cZ_ne (i_Call (i_as1 (i_A0 (i_as1 (i_L2 (i_as0 ?_))))))); (with_reducible refine i_recv0 (by assumption) ?_); (refine m_isPost hO hS hn ⟨_, rfl, ?_⟩); (rw [decide_eq_false (show ¬ (0 ≤ p ∧ p < ((n : Nat) : Int)) from fun z => hb ⟨ht, z⟩)]); rw [zbI_f]; (with_reducible refine i_f (by omega) ?_); (with_reducible refine i_I ?_))
    exact hk
  · ((with_reducible refine i_RetI (i_eIf (i_cAnd (i_cZ_ne (i_Call (i_as1 (i_A0 (i_as1 (i_L1 (i_as0 ?_)))))))))); (with_reducible refine i_recv0 (by assumption) ?_); (refine m_isTelling hO hS hT ⟨_, rfl, ?_⟩); (rw [decide_eq_false ht]); rw [zbI_f]; (with_reducible refine i_f (by omega) ?_); (with_reducible refine i_I ?_))
    exact hk
theorem m_box {O : zOm} (hO : zWld O) (hS : zS O = zmS zC0) {t p T n : Nat} {A : zTl} {M : zMem} {K : Option zV → zMem → Prop} (hT : M 250 ((11 : Nat) : Int) = ((T : Nat) : Int)) (hT5 : T ≤ 5) (ht : t < T) (hn : M 250 ((1 : Nat) : Int) = ((n : Nat) : Int)) (hn2 : n ≤ 16) (hA : rTe M t n A) (hw : zTw n A) (hp : p < n) (hk : K (some (0, ((tf A p : Nat) : Int))) M) : zR O F_Model_box [(2, 250), (0, ((t : Nat) : Int)), (0, ((p : Nat) : Int))] M K := by
  have g := hA.1.2.1 p hp
  apply r_Model_box hO
  unfold B_Model_box
  have f13 := zMF (k := 13) hS rfl; have a259 := zMA (a := 259) (ty := .int) (n := 112) hS rfl; have zo := zMO hS
  ((with_reducible refine i_RetI (i_eIf (i_cAnd (i_cZ_ne (i_Call (i_as1 (i_A0 (i_as1 (i_L1 (i_as0 ?_)))))))))); (with_reducible refine i_recv0 (by assumption) ?_); (refine m_isTelling hO hS hT ⟨_, rfl, ?_⟩); (rw [decide_eq_true (show 0 ≤ ((t : Nat) : Int) ∧ ((t : Nat) : Int) < ((T : Nat) : Int) by omega)]); rw [zbI_t]; (with_reducible refine i_t (by omega) ?_); (with_reducible refine i_cZ_ne (i_Call (i_as1 (i_A0 (i_as1 (i_L2 (i_as0 ?_))))))); (with_reducible refine i_recv0 (by assumption) ?_); (refine m_isPost hO hS hn ⟨_, rfl, ?_⟩); (rw [decide_eq_true (show 0 ≤ ((p : Nat) : Int) ∧ ((p : Nat) : Int) < ((n : Nat) : Int) by omega)]); rw [zbI_t]; (with_reducible refine i_t (by omega) ?_); (with_reducible refine i_IA (i_FR (i_A0 ?_))); (with_reducible refine i_fldR (by assumption) ?_); (with_reducible refine i_Add (i_Mul (i_I (i_L1 (i_L2 ?_))))); rw [zx_cmul (by omega)]; rw [zx_add (by omega)]; (with_reducible refine i_in (by assumption) (by omega) (by omega) ?_); (rw [g]))
  exact hk
theorem c_box_bad {O : zOm} (hO : zWld O) (hS : zS O = zmS zC0) {t p : Int} {T n : Nat} {M : zMem} {K : Option zV → zMem → Prop} (hT : M ((0 : Nat) : Int) ((4 : Nat) : Int) = ((T : Nat) : Int)) (hT5 : T ≤ 5) (hP : M ((1 : Nat) : Int) ((2 : Nat) : Int) = ((n : Nat) : Int)) (hb : ¬ ((0 ≤ t ∧ t < ((T : Nat) : Int)) ∧ (0 ≤ p ∧ p < ((n : Nat) : Int)))) (hk : K (some (0, -1)) M) : zR O F_ToldNet_box [(2, ((0 : Nat) : Int)), (0, t), (0, p)] M K := by
  have o1 := zo_1 hS
  apply r_ToldNet_box hO
  unfold B_ToldNet_box
  have f0_0 := zf_0_0 hS; have z0 := zo_0 hS; have z1 := zo_1 hS
  ((with_reducible refine i_Seq (i_Set (i_Call (i_as1 (i_A0 (i_as1 (i_L1 (i_as0 ?_)))))))); (with_reducible refine i_recv0 (by assumption) ?_); simp only [w_set0, w_set1, w_setn0, w_setn1])
  refine c_find hO hS hT hT5 (fun hx => ⟨_, rfl, ?_⟩) (fun k e hk1 => ⟨_, rfl, ?_⟩)
  · ((with_reducible refine i_Seq (i_If (i_cOr (i_cN (i_A3 ?_))))); simp only [w_set0, w_set1, w_setn0, w_setn1]; (with_reducible refine i_t trivial ?_); (with_reducible refine i_RetI (i_I ?_)))
    exact hk
  · ((with_reducible refine i_Seq (i_If (i_cOr (i_cN (i_A3 ?_))))); (with_reducible refine i_f (by omega) ?_); (with_reducible refine i_cNot (i_cZ_ne (i_Call (i_as1 (i_FR (i_A0 ?_)))))); (with_reducible refine i_fldR (by assumption) ?_); (with_reducible refine i_as1 (i_L2 (i_as0 ?_))); (with_reducible refine i_recv0 (by assumption) ?_); (refine c_isPost hO hS hP ⟨_, rfl, ?_⟩); (rw [decide_eq_false (show ¬ (0 ≤ p ∧ p < ((n : Nat) : Int)) from fun z => hb ⟨by omega, z⟩)]); rw [zbI_f]; (with_reducible refine i_f (by omega) ?_); (with_reducible refine i_RetI (i_I ?_)))
    exact hk
theorem c_box {O : zOm} (hO : zWld O) (hS : zS O = zmS zC0) {t p T n : Nat} {A : zTl} {M : zMem} {K : Option zV → zMem → Prop} (hT : M ((0 : Nat) : Int) ((4 : Nat) : Int) = ((T : Nat) : Int)) (hT5 : T ≤ 5) (ht : t < T) (hP : M ((1 : Nat) : Int) ((2 : Nat) : Int) = ((n : Nat) : Int)) (hn2 : n ≤ 16) (hA : zTR M (185 + 13 * t) n A) (hp : p < n) (hk : K (some (0, ((tf A p : Nat) : Int))) M) : zR O F_ToldNet_box [(2, ((0 : Nat) : Int)), (0, ((t : Nat) : Int)), (0, ((p : Nat) : Int))] M K := by
  have o1 := zo_1 hS
  obtain ⟨⟨x0, x1, x2, x3, x4, x5, x6, x7⟩, ⟨xa, xb⟩, ⟨p0, p1, p2, p3, p4, p5, p6, p7, p8⟩, ⟨n7, n9, n11⟩⟩ := zTelT hS (show t < 5 by omega)
  have g := hA.1.2.2.1 p hp
  apply r_ToldNet_box hO
  unfold B_ToldNet_box
  have f0_0 := zf_0_0 hS; have z0 := zo_0 hS; have z1 := zo_1 hS
  ((with_reducible refine i_Seq (i_Set (i_Call (i_as1 (i_A0 (i_as1 (i_L1 (i_as0 ?_)))))))); (with_reducible refine i_recv0 (by assumption) ?_); simp only [w_set0, w_set1, w_setn0, w_setn1])
  refine c_find hO hS hT hT5 (fun hx => absurd (show 0 ≤ ((t : Nat) : Int) ∧ ((t : Nat) : Int) < ((T : Nat) : Int) by omega) hx) (fun k e hk1 => ⟨_, rfl, ?_⟩)
  rw [show k = t by omega]
  ((with_reducible refine i_Seq (i_If (i_cOr (i_cN (i_A3 ?_))))); (with_reducible refine i_f (by omega) ?_); (with_reducible refine i_cNot (i_cZ_ne (i_Call (i_as1 (i_FR (i_A0 ?_)))))); (with_reducible refine i_fldR (by assumption) ?_); (with_reducible refine i_as1 (i_L2 (i_as0 ?_))); (with_reducible refine i_recv0 (by assumption) ?_); (refine c_isPost hO hS hP ⟨_, rfl, ?_⟩); (rw [decide_eq_true (show 0 ≤ ((p : Nat) : Int) ∧ ((p : Nat) : Int) < ((n : Nat) : Int) by omega)]); rw [zbI_t]; (with_reducible refine i_t (by omega) ?_); (with_reducible refine i_RetI (i_IA (i_FR (i_FR (i_A3 ?_))))); (with_reducible refine i_fldR (by assumption) ?_); (with_reducible refine i_fldR (by assumption) ?_); (with_reducible refine i_L2 ?_); (with_reducible refine i_in (by assumption) (by omega) (by omega) ?_); (rw [g]))
  exact hk
theorem c_drop_bad {O : zOm} (hO : zWld O) (hS : zS O = zmS zC0) {M : zMem} {K : Option zV → zMem → Prop} (hT : M ((0 : Nat) : Int) ((4 : Nat) : Int) = ((0 : Nat) : Int)) (hk : K (some (0, -1)) M) : zR O F_ToldNet_drop [(2, ((0 : Nat) : Int))] M K := by
  have hT2 : M ((0 : Nat) : Int) ((4 : Nat) : Int) = 0 := hT
  apply r_ToldNet_drop hO
  unfold B_ToldNet_drop
  have f0_4 := zf_0_4 hS; have z0 := zo_0 hS
  ((with_reducible refine i_Seq (i_If (i_cZ_eq (i_F (i_A0 ?_))))); (with_reducible refine i_fld (by assumption) ?_); (rw [hT2]); simp only [w_set0, w_set1, w_setn0, w_setn1]; (with_reducible refine i_t trivial ?_); (with_reducible refine i_RetI (i_I ?_)))
  exact hk
theorem c_drop {O : zOm} (hO : zWld O) (hS : zS O = zmS zC0) {T : Nat} {M : zMem} {K : Option zV → zMem → Prop} (hT : M ((0 : Nat) : Int) ((4 : Nat) : Int) = ((T + 1 : Nat) : Int)) (hT5 : T < 5) (hk : ∀ M', (∀ b j, ¬ (b = ((0 : Nat) : Int) ∧ j = 4) → M' b j = M b j) → M' ((0 : Nat) : Int) ((4 : Nat) : Int) = ((T : Nat) : Int) → K (some (0, ((T : Nat) : Int))) M') : zR O F_ToldNet_drop [(2, ((0 : Nat) : Int))] M K := by
  apply r_ToldNet_drop hO
  unfold B_ToldNet_drop
  have f0_4 := zf_0_4 hS; have z0 := zo_0 hS
  ((with_reducible refine i_Seq (i_If (i_cZ_eq (i_F (i_A0 ?_))))); (with_reducible refine i_fld (by assumption) ?_); (rw [hT]); (with_reducible refine i_f (by omega) ?_); (with_reducible refine i_Seq (i_FO (i_A0 ?_))); (with_reducible refine i_fld (by assumption) ?_); (with_reducible refine i_I ?_); (with_reducible refine i_fld (by assumption) ?_); (with_reducible refine i_RetI (i_F (i_A0 ?_))); (with_reducible refine i_fld (by assumption) ?_); rw [zg_s]; (rw [hT]); rw [zx_subc (by omega) (by omega)])
  exact hk _ (fun b j q => by rw [zg_o _ _ (by omega)]) (zg_s _ _ _ _ _)
end
section
-- part ge.leave.lean.txt
/-! ===== leave: the class ===== -/
theorem c_leave_bad {O : zOm} (hO : zWld O) (hS : zS O = zmS zC0) {t k : Int} {out : Bool} {T n : Nat} {A : Nat → zTl} {M : zMem} {K : Option zV → zMem → Prop} (hT : M ((0 : Nat) : Int) ((4 : Nat) : Int) = ((T : Nat) : Int)) (hT5 : T ≤ 5) (hn2 : n ≤ 16) (hA : ∀ t : Nat, t < T → zTR M (185 + 13 * t) n (A t) ∧ zTw n (A t)) (hk3 : zin32 k) (hb : ¬ (0 ≤ t ∧ t < ((T : Nat) : Int)) ∨ ∀ t' : Nat, t = ((t' : Nat) : Int) → zpk (tX (A t')) k 256 = -1) (hk : K (some (0, 0)) M) : zR O F_ToldNet_leave [(2, ((0 : Nat) : Int)), (0, t), (0, k), (0, zbI out)] M K := by
  apply r_ToldNet_leave hO
  unfold B_ToldNet_leave
  have z0 := zo_0 hS
  ((with_reducible refine i_Seq (i_Set (i_Call (i_as1 (i_A0 (i_as1 (i_L1 (i_as0 ?_)))))))); (with_reducible refine i_recv0 (by assumption) ?_); simp only [w_set0, w_set1, w_setn0, w_setn1])
  refine c_find hO hS hT hT5 (fun hx => ⟨_, rfl, ?_⟩) (fun i e hk1 => ⟨_, rfl, ?_⟩)
  · ((with_reducible refine i_Seq (i_Set (i_eIf (i_cN (i_A4 ?_))))); simp only [w_set0, w_set1, w_setn0, w_setn1]; (with_reducible refine i_t trivial ?_); (with_reducible refine i_I (i_Seq (i_If (i_cOr (i_cN ?_))))); simp only [w_set0, w_set1, w_setn0, w_setn1]; (with_reducible refine i_A4 ?_); simp only [w_set0, w_set1, w_setn0, w_setn1]; (with_reducible refine i_t trivial ?_); (with_reducible refine i_RetZ (i_I ?_)); (with_reducible refine i_z (Or.inl rfl) ?_))
    exact hk
  · obtain ⟨hA1, hw⟩ := hA i hk1
    have hx0 := zTelT hS (show i < 5 by omega)
    obtain ⟨⟨x0, x1, x2, x3, x4, x5, x6, x7⟩, ⟨xa, xb⟩, hQ0, ⟨n7, n9, n11⟩⟩ := id hx0
    have n9' := n9
    obtain ⟨-, -, -, o9⟩ := n9'
    have hz : zpk (tX (A i)) k 256 = -1 := by
      rcases hb with hb | hb
      · exact absurd (show 0 ≤ t ∧ t < ((T : Nat) : Int) by omega) hb
      · exact hb i e
    ((with_reducible refine i_Seq (i_Set (i_eIf (i_cN (i_A4 ?_))))); (with_reducible refine i_f (by omega) ?_); (with_reducible refine i_Call (i_as1 (i_FR (i_A4 ?_)))); (with_reducible refine i_fldR (by assumption) ?_); (with_reducible refine i_as1 (i_L2 (i_as0 ?_))); (with_reducible refine i_recv0 (by assumption) ?_); simp only [w_set0, w_set1, w_setn0, w_setn1])
    refine zTR.pairAt hO hx0 hA1 hn2 hw hk3 ⟨_, rfl, ?_⟩
    rw [hz]
    ((with_reducible refine i_Seq (i_If (i_cOr (i_cN (i_A4 ?_))))); (with_reducible refine i_f (by omega) ?_); (with_reducible refine i_cI_eq (i_L5 (i_I ?_))); simp only [w_set0, w_set1, w_setn0, w_setn1]; (with_reducible refine i_t trivial ?_); (with_reducible refine i_RetZ (i_I ?_)); (with_reducible refine i_z (Or.inl rfl) ?_))
    exact hk
theorem c_leave {O : zOm} (hO : zWld O) (hS : zS O = zmS zC0) {t k c T n : Nat} {out : Bool} {A : zTl} {M : zMem} {K : Option zV → zMem → Prop} (hT : M ((0 : Nat) : Int) ((4 : Nat) : Int) = ((T : Nat) : Int)) (hT5 : T ≤ 5) (ht : t < T) (hn2 : n ≤ 16) (hA : zTR M (185 + 13 * t) n A) (hw : zTw n A) (hc : c < 256) (hX : tX A c = true) (hck : zcnt (tX A) c = k)
    (hk : ∀ M', (∀ b j, ¬ b = ((185 + 13 * t + 12 : Nat) : Int) → M' b j = M b j) → zTR M' (185 + 13 * t) n (zTv A (zv1 A c (if out = true then 2 else 1))) → K (some (0, 1)) M') : zR O F_ToldNet_leave [(2, ((0 : Nat) : Int)), (0, ((t : Nat) : Int)), (0, ((k : Nat) : Int)), (0, zbI out)] M K := by
  have hx0 := zTelT hS (show t < 5 by omega)
  obtain ⟨⟨x0, x1, x2, x3, x4, x5, x6, x7⟩, ⟨xa, xb⟩, hQ0, ⟨n7, n9, n11⟩⟩ := id hx0
  have n9' := n9
  obtain ⟨-, -, -, o9⟩ := n9'
  have hp : zpk (tX A) ((k : Nat) : Int) 256 = ((c : Nat) : Int) := zpk_some hc hX (by omega)
  obtain ⟨c4, c5, -⟩ := tX_in hn2 hw hX
  have hkb : k < 256 := by have := zcnt_le (tX A) c; omega
  apply r_ToldNet_leave hO
  unfold B_ToldNet_leave
  have z0 := zo_0 hS
  ((with_reducible refine i_Seq (i_Set (i_Call (i_as1 (i_A0 (i_as1 (i_L1 (i_as0 ?_)))))))); (with_reducible refine i_recv0 (by assumption) ?_); simp only [w_set0, w_set1, w_setn0, w_setn1])
  refine c_find hO hS hT hT5 (fun hx => absurd (show 0 ≤ ((t : Nat) : Int) ∧ ((t : Nat) : Int) < ((T : Nat) : Int) by omega) hx) (fun i e hk1 => ⟨_, rfl, ?_⟩)
  rw [show i = t by omega]
  ((with_reducible refine i_Seq (i_Set (i_eIf (i_cN (i_A4 ?_))))); (with_reducible refine i_f (by omega) ?_); (with_reducible refine i_Call (i_as1 (i_FR (i_A4 ?_)))); (with_reducible refine i_fldR (by assumption) ?_); (with_reducible refine i_as1 (i_L2 (i_as0 ?_))); (with_reducible refine i_recv0 (by assumption) ?_); simp only [w_set0, w_set1, w_setn0, w_setn1])
  refine zTR.pairAt hO hx0 hA hn2 hw (by unfold zin32; omega) ⟨_, rfl, ?_⟩
  rw [hp]
  clear hck
  ((with_reducible refine i_Seq (i_If (i_cOr (i_cN (i_A4 ?_))))); (with_reducible refine i_f (by omega) ?_); (with_reducible refine i_cI_eq (i_L5 (i_I ?_))); (with_reducible refine i_f (by omega) ?_); (with_reducible refine i_Seq (i_sCall (i_as1 (i_A4 (i_as1 (i_L5 (i_as1 (i_L3 (i_as0 ?_))))))))); (with_reducible refine i_recv0 (by assumption) ?_))
  refine c_setLeft hO hx0 hA c4 hc hX (fun M1 f1 h1 => ⟨rfl, ?_⟩)
  ((with_reducible refine i_RetZ (i_I ?_)); (with_reducible refine i_z (Or.inr rfl) ?_))
  exact hk M1 f1 h1
end
section
-- part gf.row.lean.txt
/-! ===== row: both sides ===== -/
theorem m_isBox {O : zOm} (hO : zWld O) (hS : zS O = zmS zC0) {t T m : Nat} {b : Int} {M : zMem} {K : Option zV → zMem → Prop} (hT : M 250 ((11 : Nat) : Int) = ((T : Nat) : Int)) (hT5 : T ≤ 5) (ht : t < T) (hm : M ((258 : Nat) : Int) ((t : Nat) : Int) = ((m : Nat) : Int)) (hk : K (some (0, zbI (decide (0 ≤ b ∧ b < ((m : Nat) : Int))))) M) : zR O F_Model_isBox [(2, 250), (0, ((t : Nat) : Int)), (0, b)] M K := by
  apply r_Model_isBox hO
  unfold B_Model_isBox
  have f12 := zMF (k := 12) hS rfl; have a258 := zMA (a := 258) (ty := .int) (n := 7) hS rfl; have zo := zMO hS
  (focus ((with_reducible refine i_RetZ (i_eIf (i_cAnd (i_cAnd (i_cZ_ne (i_Call (i_as1 (i_A0 (i_as1 (i_L1 (i_as0 ?_))))))))))); (with_reducible refine i_recv0 (by assumption) ?_); (refine m_isTelling hO hS hT ⟨_, rfl, ?_⟩); (rw [decide_eq_true (show 0 ≤ ((t : Nat) : Int) ∧ ((t : Nat) : Int) < ((T : Nat) : Int) by omega)]); rw [zbI_t]; (with_reducible refine i_t (by omega) ?_); (with_reducible refine i_cZ_ge (i_L2 ?_)); (with_reducible refine i_br ?_ ?_ <;> intro hc); (focus ((with_reducible refine i_cI_lt (i_L2 (i_IA (i_FR (i_A0 ?_))))); (with_reducible refine i_fldR (by assumption) ?_); (with_reducible refine i_L1 ?_); (with_reducible refine i_in (by assumption) (by omega) (by omega) ?_); (rw [hm]); (with_reducible refine i_br ?_ ?_ <;> intro hc); (focus ((with_reducible refine i_I ?_); (with_reducible refine i_z (Or.inr rfl) ?_))); rotate_left; (focus ((with_reducible refine i_I ?_); (with_reducible refine i_z (Or.inl rfl) ?_))); rotate_right)); rotate_left 2; (focus ((with_reducible refine i_I ?_); (with_reducible refine i_z (Or.inl rfl) ?_))); rotate_right 2))
  all_goals first | (rw [decide_eq_true (by omega)] at hk; exact hk) | (rw [decide_eq_false (by omega)] at hk; exact hk)
theorem m_isBox_bad {O : zOm} (hO : zWld O) (hS : zS O = zmS zC0) {t b : Int} {T : Nat} {M : zMem} {K : Option zV → zMem → Prop} (hT : M 250 ((11 : Nat) : Int) = ((T : Nat) : Int)) (ht : ¬ (0 ≤ t ∧ t < ((T : Nat) : Int))) (hk : K (some (0, 0)) M) : zR O F_Model_isBox [(2, 250), (0, t), (0, b)] M K := by
  apply r_Model_isBox hO
  unfold B_Model_isBox
  have f12 := zMF (k := 12) hS rfl; have a258 := zMA (a := 258) (ty := .int) (n := 7) hS rfl; have zo := zMO hS
  ((with_reducible refine i_RetZ (i_eIf (i_cAnd (i_cAnd (i_cZ_ne (i_Call (i_as1 (i_A0 (i_as1 (i_L1 (i_as0 ?_))))))))))); (with_reducible refine i_recv0 (by assumption) ?_); (refine m_isTelling hO hS hT ⟨_, rfl, ?_⟩); (rw [decide_eq_false ht]); rw [zbI_f]; (with_reducible refine i_f (by omega) ?_); (with_reducible refine i_I ?_); (with_reducible refine i_z (Or.inl rfl) ?_))
  exact hk
theorem m_row_bad {O : zOm} (hO : zWld O) (hS : zS O = zmS zC0) {t b k : Int} {T : Nat} {M : zMem} {K : Option zV → zMem → Prop} (hT : M 250 ((11 : Nat) : Int) = ((T : Nat) : Int)) (ht : ¬ (0 ≤ t ∧ t < ((T : Nat) : Int))) (hk : K (some (0, -1)) M) : zR O F_Model_row [(2, 250), (0, t), (0, b), (0, k)] M K := by
  apply r_Model_row hO
  unfold B_Model_row
  have f14 := zMF (k := 14) hS rfl; have a260 := zMA (a := 260) (ty := .int) (n := 112) hS rfl; have f15 := zMF (k := 15) hS rfl; have a261 := zMA (a := 261) (ty := .int) (n := 1792) hS rfl; have zo := zMO hS
  ((with_reducible refine i_RetI (i_eIf (i_cAnd (i_cAnd (i_cZ_ne (i_Call (i_as1 (i_A0 (i_as1 (i_L1 (i_as1 (i_L2 (i_as0 ?_))))))))))))); (with_reducible refine i_recv0 (by assumption) ?_); (refine m_isBox_bad hO hS hT ht ⟨_, rfl, ?_⟩); (with_reducible refine i_f (by omega) ?_); (with_reducible refine i_I ?_))
  exact hk
theorem m_row_out {O : zOm} (hO : zWld O) (hS : zS O = zmS zC0) {t T n : Nat} {b k : Int} {A : zTl} {M : zMem} {K : Option zV → zMem → Prop} (hT : M 250 ((11 : Nat) : Int) = ((T : Nat) : Int)) (hT5 : T ≤ 5) (ht : t < T) (hA : rTe M t n A) (hw : zTw n A) (hb : ¬ ((0 ≤ b ∧ b < ((tm A : Nat) : Int)) ∧ 0 ≤ k ∧ k < ((zSz (tf A) n b.toNat : Nat) : Int))) (hk : K (some (0, -1)) M) : zR O F_Model_row [(2, 250), (0, ((t : Nat) : Int)), (0, b), (0, k)] M K := by
  have h1 := hA.1.1
  have hm := hw.1.1
  apply r_Model_row hO
  unfold B_Model_row
  have f14 := zMF (k := 14) hS rfl; have a260 := zMA (a := 260) (ty := .int) (n := 112) hS rfl; have f15 := zMF (k := 15) hS rfl; have a261 := zMA (a := 261) (ty := .int) (n := 1792) hS rfl; have zo := zMO hS
  by_cases e : 0 ≤ b ∧ b < ((tm A : Nat) : Int)
  · obtain ⟨b, rfl⟩ : ∃ b' : Nat, b = ((b' : Nat) : Int) := ⟨b.toNat, by omega⟩
    rw [show (((b : Nat) : Int) : Int).toNat = b from rfl] at hb
    have g := hA.1.2.2 b (by omega)
    generalize zSz (tf A) n b = s at hb g
    (focus ((with_reducible refine i_RetI (i_eIf (i_cAnd (i_cAnd (i_cZ_ne (i_Call (i_as1 (i_A0 (i_as1 (i_L1 (i_as1 (i_L2 (i_as0 ?_))))))))))))); (with_reducible refine i_recv0 (by assumption) ?_); (refine m_isBox hO hS hT hT5 ht h1 ⟨_, rfl, ?_⟩); (rw [decide_eq_true e]); rw [zbI_t]; (with_reducible refine i_t (by omega) ?_); (with_reducible refine i_cZ_ge (i_L3 ?_)); (with_reducible refine i_br ?_ ?_ <;> intro hc); (focus ((with_reducible refine i_cI_lt (i_L3 (i_IA (i_FR (i_A0 ?_))))); (with_reducible refine i_fldR (by assumption) ?_); (with_reducible refine i_Add (i_Mul (i_I (i_L1 (i_L2 ?_))))); rw [zx_cmul (by omega)]; rw [zx_add (by omega)]; (with_reducible refine i_in (by assumption) (by omega) (by omega) ?_); (rw [g]); (with_reducible refine i_f (by omega) ?_); (with_reducible refine i_I ?_))); rotate_left; (focus ((with_reducible refine i_I ?_))); rotate_right))
    all_goals first | exact hk | (exfalso; omega)
  · ((with_reducible refine i_RetI (i_eIf (i_cAnd (i_cAnd (i_cZ_ne (i_Call (i_as1 (i_A0 (i_as1 (i_L1 (i_as1 (i_L2 (i_as0 ?_))))))))))))); (with_reducible refine i_recv0 (by assumption) ?_); (refine m_isBox hO hS hT hT5 ht h1 ⟨_, rfl, ?_⟩); (rw [decide_eq_false e]); rw [zbI_f]; (with_reducible refine i_f (by omega) ?_); (with_reducible refine i_I ?_))
    exact hk
theorem m_row {O : zOm} (hO : zWld O) (hS : zS O = zmS zC0) {t T n b k : Nat} {A : zTl} {M : zMem} {K : Option zV → zMem → Prop} (hT : M 250 ((11 : Nat) : Int) = ((T : Nat) : Int)) (hT5 : T ≤ 5) (ht : t < T) (hA : rTe M t n A) (hw : zTw n A) (hb : b < tm A) (hkk : k < zSz (tf A) n b) (hs : zSz (tf A) n b ≤ 16) (hk : K (some (0, ((tr A b k : Nat) : Int))) M) : zR O F_Model_row [(2, 250), (0, ((t : Nat) : Int)), (0, ((b : Nat) : Int)), (0, ((k : Nat) : Int))] M K := by
  have h1 := hA.1.1
  have hm := hw.1.1
  have g := hA.1.2.2 b (by omega)
  have r := hA.2.2.1 b k hb hkk
  generalize zSz (tf A) n b = s at hkk g hs
  apply r_Model_row hO
  unfold B_Model_row
  have f14 := zMF (k := 14) hS rfl; have a260 := zMA (a := 260) (ty := .int) (n := 112) hS rfl; have f15 := zMF (k := 15) hS rfl; have a261 := zMA (a := 261) (ty := .int) (n := 1792) hS rfl; have zo := zMO hS
  ((with_reducible refine i_RetI (i_eIf (i_cAnd (i_cAnd (i_cZ_ne (i_Call (i_as1 (i_A0 (i_as1 (i_L1 (i_as1 (i_L2 (i_as0 ?_))))))))))))); (with_reducible refine i_recv0 (by assumption) ?_); (refine m_isBox hO hS hT hT5 ht h1 ⟨_, rfl, ?_⟩); (rw [decide_eq_true (show 0 ≤ ((b : Nat) : Int) ∧ ((b : Nat) : Int) < ((tm A : Nat) : Int) by omega)]); rw [zbI_t]; (with_reducible refine i_t (by omega) ?_); (with_reducible refine i_cZ_ge (i_L3 ?_)); (with_reducible refine i_t (by omega) ?_); (with_reducible refine i_cI_lt (i_L3 (i_IA (i_FR (i_A0 ?_))))); (with_reducible refine i_fldR (by assumption) ?_); (with_reducible refine i_Add (i_Mul (i_I (i_L1 (i_L2 ?_))))); rw [zx_cmul (by omega)]; rw [zx_add (by omega)]; (with_reducible refine i_in (by assumption) (by omega) (by omega) ?_); (rw [g]); (with_reducible refine i_t (by omega) ?_); (with_reducible refine i_IA (i_FR (i_A0 ?_))); (with_reducible refine i_fldR (by assumption) ?_); (with_reducible refine i_Add (i_Add (i_Mul (i_I (i_L1 (i_Mul (i_I (i_L2 (i_L3 ?_))))))))); rw [zx_cmul (by omega)]; rw [zx_cmul (by omega)]; rw [zx_add (by omega)]; rw [zx_add (by omega)]; (with_reducible refine i_in (by assumption) (by omega) (by omega) ?_); (rw [r]))
  exact hk
theorem c_row_bad {O : zOm} (hO : zWld O) (hS : zS O = zmS zC0) {t b k : Int} {T : Nat} {M : zMem} {K : Option zV → zMem → Prop} (hT : M ((0 : Nat) : Int) ((4 : Nat) : Int) = ((T : Nat) : Int)) (hT5 : T ≤ 5) (ht : ¬ (0 ≤ t ∧ t < ((T : Nat) : Int))) (hk : K (some (0, -1)) M) : zR O F_ToldNet_row [(2, ((0 : Nat) : Int)), (0, t), (0, b), (0, k)] M K := by
  apply r_ToldNet_row hO
  unfold B_ToldNet_row
  have z0 := zo_0 hS
  ((with_reducible refine i_Seq (i_Set (i_Call (i_as1 (i_A0 (i_as1 (i_L1 (i_as0 ?_)))))))); (with_reducible refine i_recv0 (by assumption) ?_); simp only [w_set0, w_set1, w_setn0, w_setn1])
  refine c_find hO hS hT hT5 (fun hx => ⟨_, rfl, ?_⟩) (fun k e hk1 => absurd (show 0 ≤ t ∧ t < ((T : Nat) : Int) by omega) ht)
  ((with_reducible refine i_Seq (i_If (i_cOr (i_cOr (i_cOr (i_cN (i_A4 ?_))))))); simp only [w_set0, w_set1, w_setn0, w_setn1]; (with_reducible refine i_t trivial ?_); (with_reducible refine i_RetI (i_I ?_)))
  exact hk
theorem c_row_out {O : zOm} (hO : zWld O) (hS : zS O = zmS zC0) {t T n : Nat} {b k : Int} {A : zTl} {M : zMem} {K : Option zV → zMem → Prop} (hT : M ((0 : Nat) : Int) ((4 : Nat) : Int) = ((T : Nat) : Int)) (hT5 : T ≤ 5) (ht : t < T) (hn2 : n ≤ 16) (hA : zTR M (185 + 13 * t) n A) (hw : zTw n A) (hb : ¬ ((0 ≤ b ∧ b < ((tm A : Nat) : Int)) ∧ 0 ≤ k ∧ k < ((zSz (tf A) n b.toNat : Nat) : Int))) (hk : K (some (0, -1)) M) : zR O F_ToldNet_row [(2, ((0 : Nat) : Int)), (0, ((t : Nat) : Int)), (0, b), (0, k)] M K := by
  obtain ⟨⟨x0, x1, x2, x3, x4, x5, x6, x7⟩, ⟨xa, xb⟩, hP, ⟨n7, n9, n11⟩⟩ := zTelT hS (show t < 5 by omega)
  obtain ⟨p0, p1, p2, p3, p4, p5, p6, p7, p8⟩ := id hP
  have hm := hw.1.1
  have hPR := hA.1
  apply r_ToldNet_row hO
  unfold B_ToldNet_row
  have z0 := zo_0 hS
  ((with_reducible refine i_Seq (i_Set (i_Call (i_as1 (i_A0 (i_as1 (i_L1 (i_as0 ?_)))))))); (with_reducible refine i_recv0 (by assumption) ?_); simp only [w_set0, w_set1, w_setn0, w_setn1])
  refine c_find hO hS hT hT5 (fun hx => absurd (show 0 ≤ ((t : Nat) : Int) ∧ ((t : Nat) : Int) < ((T : Nat) : Int) by omega) hx) (fun i e hk1 => ⟨_, rfl, ?_⟩)
  rw [show i = t by omega]
  by_cases e : 0 ≤ b ∧ b < ((tm A : Nat) : Int)
  · obtain ⟨b, rfl⟩ : ∃ b' : Nat, b = ((b' : Nat) : Int) := ⟨b.toNat, by omega⟩
    rw [show (((b : Nat) : Int) : Int).toNat = b from rfl] at hb
    have hsz := fun (K' : Option zV → zMem → Prop) (z : K' (some (0, ((zSz (tf A) n b : Nat) : Int))) M) => c_sizeOf hO hP hPR hn2 hm (show b < tm A by omega) (K := K') z
    generalize zSz (tf A) n b = s at hb hsz
    (focus ((with_reducible refine i_Seq (i_If (i_cOr (i_cOr (i_cOr (i_cN (i_A4 ?_))))))); (with_reducible refine i_f (by omega) ?_); (with_reducible refine i_cNot (i_cZ_ne (i_Call (i_as1 (i_FR (i_A4 ?_)))))); (with_reducible refine i_fldR (by assumption) ?_); (with_reducible refine i_as1 (i_L2 (i_as0 ?_))); (with_reducible refine i_recv0 (by assumption) ?_); (refine c_isBox hO hP hPR.2.1 ⟨_, rfl, ?_⟩); (rw [decide_eq_true e]); rw [zbI_t]; (with_reducible refine i_t (by omega) ?_); (with_reducible refine i_cZ_lt (i_L3 ?_)); (with_reducible refine i_br ?_ ?_ <;> intro hc); (focus ((with_reducible refine i_RetI (i_I ?_)))); rotate_left; (focus ((with_reducible refine i_cI_ge (i_L3 (i_Call (i_as1 (i_FR (i_A4 ?_)))))); (with_reducible refine i_fldR (by assumption) ?_); (with_reducible refine i_as1 (i_L2 (i_as0 ?_))); (with_reducible refine i_recv0 (by assumption) ?_); (refine hsz _ ⟨_, rfl, ?_⟩); (with_reducible refine i_t (by omega) ?_); (with_reducible refine i_RetI (i_I ?_)))); rotate_right))
    all_goals first | exact hk | (exfalso; omega)
  · ((with_reducible refine i_Seq (i_If (i_cOr (i_cOr (i_cOr (i_cN (i_A4 ?_))))))); (with_reducible refine i_f (by omega) ?_); (with_reducible refine i_cNot (i_cZ_ne (i_Call (i_as1 (i_FR (i_A4 ?_)))))); (with_reducible refine i_fldR (by assumption) ?_); (with_reducible refine i_as1 (i_L2 (i_as0 ?_))); (with_reducible refine i_recv0 (by assumption) ?_); (refine c_isBox hO hP hPR.2.1 ⟨_, rfl, ?_⟩); (rw [decide_eq_false e]); rw [zbI_f]; (with_reducible refine i_f (by omega) ?_); (with_reducible refine i_RetI (i_I ?_)))
    exact hk
theorem c_row {O : zOm} (hO : zWld O) (hS : zS O = zmS zC0) {t T n b k : Nat} {A : zTl} {M : zMem} {K : Option zV → zMem → Prop} (hT : M ((0 : Nat) : Int) ((4 : Nat) : Int) = ((T : Nat) : Int)) (hT5 : T ≤ 5) (ht : t < T) (hn2 : n ≤ 16) (hA : zTR M (185 + 13 * t) n A) (hw : zTw n A) (hb : b < tm A) (hkk : k < zSz (tf A) n b) (hk : K (some (0, ((tr A b k : Nat) : Int))) M) : zR O F_ToldNet_row [(2, ((0 : Nat) : Int)), (0, ((t : Nat) : Int)), (0, ((b : Nat) : Int)), (0, ((k : Nat) : Int))] M K := by
  obtain ⟨⟨x0, x1, x2, x3, x4, x5, x6, x7⟩, ⟨xa, xb⟩, hP, ⟨n7, n9, n11⟩⟩ := zTelT hS (show t < 5 by omega)
  obtain ⟨p0, p1, p2, p3, p4, p5, p6, p7, p8⟩ := id hP
  have hm := hw.1.1
  have hPR := hA.1
  have r := hA.2.1 b k hb hkk
  have h1 := zSt0_in (tf A) n (Nat.lt_succ_self b)
  have h2 := zSt0_le (tf A) n (b + 1)
  have hsz := fun (K' : Option zV → zMem → Prop) (z : K' (some (0, ((zSz (tf A) n b : Nat) : Int))) M) => c_sizeOf hO hP hPR hn2 hm hb (K := K') z
  have hst := fun (K' : Option zV → zMem → Prop) (z : K' (some (0, ((zSt0 (tf A) n b : Nat) : Int))) M) => c_startOf hO hP hPR hn2 hm (Nat.le_of_lt hb) (K := K') z
  generalize zSz (tf A) n b = s at hkk hsz h1
  generalize zSt0 (tf A) n b = u at hst h1 r
  generalize zSt0 (tf A) n (b + 1) = w at h1 h2
  apply r_ToldNet_row hO
  unfold B_ToldNet_row
  have z0 := zo_0 hS
  ((with_reducible refine i_Seq (i_Set (i_Call (i_as1 (i_A0 (i_as1 (i_L1 (i_as0 ?_)))))))); (with_reducible refine i_recv0 (by assumption) ?_); simp only [w_set0, w_set1, w_setn0, w_setn1])
  refine c_find hO hS hT hT5 (fun hx => absurd (show 0 ≤ ((t : Nat) : Int) ∧ ((t : Nat) : Int) < ((T : Nat) : Int) by omega) hx) (fun i e hk1 => ⟨_, rfl, ?_⟩)
  rw [show i = t by omega]
  ((with_reducible refine i_Seq (i_If (i_cOr (i_cOr (i_cOr (i_cN (i_A4 ?_))))))); (with_reducible refine i_f (by omega) ?_); (with_reducible refine i_cNot (i_cZ_ne (i_Call (i_as1 (i_FR (i_A4 ?_)))))); (with_reducible refine i_fldR (by assumption) ?_); (with_reducible refine i_as1 (i_L2 (i_as0 ?_))); (with_reducible refine i_recv0 (by assumption) ?_); (refine c_isBox hO hP hPR.2.1 ⟨_, rfl, ?_⟩); (rw [decide_eq_true (show 0 ≤ ((b : Nat) : Int) ∧ ((b : Nat) : Int) < ((tm A : Nat) : Int) by omega)]); rw [zbI_t]; (with_reducible refine i_t (by omega) ?_); (with_reducible refine i_cZ_lt (i_L3 ?_)); (with_reducible refine i_f (by omega) ?_); (with_reducible refine i_cI_ge (i_L3 (i_Call (i_as1 (i_FR (i_A4 ?_)))))); (with_reducible refine i_fldR (by assumption) ?_); (with_reducible refine i_as1 (i_L2 (i_as0 ?_))); (with_reducible refine i_recv0 (by assumption) ?_); (refine hsz _ ⟨_, rfl, ?_⟩); (with_reducible refine i_f (by omega) ?_); (with_reducible refine i_RetI (i_IA (i_FR (i_A4 ?_)))); (with_reducible refine i_fldR (by assumption) ?_); (with_reducible refine i_Add (i_Call (i_as1 (i_FR (i_A4 ?_))))); (with_reducible refine i_fldR (by assumption) ?_); (with_reducible refine i_as1 (i_L2 (i_as0 ?_))); (with_reducible refine i_recv0 (by assumption) ?_); (refine hst _ ⟨_, rfl, ?_⟩); (with_reducible refine i_L3 ?_); rw [zx_add (by omega)]; (with_reducible refine i_in (by assumption) (by omega) (by omega) ?_); (rw [r]))
  exact hk
end
