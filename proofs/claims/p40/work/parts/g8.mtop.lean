/-! ===== the reference: questions, length, harm, served ===== -/
def zIsQ (n : Nat) (kd a b : Int) : Bool := decide (((kd = 0 ∨ kd = 3 ∨ kd = 4) ∧ (0 ≤ a ∧ a < ((n : Nat) : Int)) ∧ (0 ≤ b ∧ b < ((n : Nat) : Int)) ∧ a ≠ b) ∨ (kd = 2 ∧ 0 ≤ a ∧ a < ((2 ^ n : Nat) : Int)) ∨ ((kd = 1 ∨ kd = 5) ∧ 0 ≤ a ∧ a < ((n : Nat) : Int)))
theorem m_isQuestion {O : zOm} (hO : zWld O) (hS : zS O = zmS zC0) {n : Nat} {kd a b : Int} {M : zMem} {K : Option zV → zMem → Prop} (hn : M 250 ((1 : Nat) : Int) = ((n : Nat) : Int)) (hn2 : n ≤ 16) (hk : K (some (0, zbI (zIsQ n kd a b))) M) : zR O F_Model_isQuestion [(2, 250), (0, kd), (0, a), (0, b)] M K := by
  have hp := Nat.pow_le_pow_right (n := 2) (by decide) hn2
  have hp2 : (2 : Nat) ^ 16 = 65536 := rfl
  rw [hp2] at hp
  unfold zIsQ at hk
  apply r_Model_isQuestion hO
  unfold B_Model_isQuestion
  have f1 := zMF (k := 1) hS rfl; have zo := zMO hS
  repeat' (first | (with_reducible first | (show zew _ _ _ _ _ _; first | (show zew (zeL _) _ _ _ _ _; first | refine i_L0 ?_ | refine i_L1 ?_ | refine i_L2 ?_ | refine i_L3 ?_ | refine i_L4 ?_ | refine i_L5 ?_ | refine i_L6 ?_ | refine i_L7 ?_ | refine i_L8 ?_ | refine i_L9 ?_ | refine i_L10 ?_ | refine i_L11 ?_ | refine i_L12 ?_ | refine i_L13 ?_ | refine i_L14 ?_) | (show zew (zeA _) _ _ _ _ _; first | refine i_A0 ?_ | refine i_A1 ?_ | refine i_A2 ?_ | refine i_A3 ?_ | refine i_A4 ?_ | refine i_A5 ?_ | refine i_A6 ?_ | refine i_A7 ?_ | refine i_A8 ?_ | refine i_A9 ?_ | refine i_A10 ?_ | refine i_A11 ?_ | refine i_A12 ?_ | refine i_A13 ?_ | refine i_A14 ?_) | refine i_I ?_ | refine i_F ?_ | refine i_FR ?_ | refine i_IA ?_ | refine i_Add ?_ | refine i_Sub ?_ | refine i_And ?_ | refine i_Len ?_ | refine i_Call ?_ | refine i_RA ?_ | refine i_Ldc ?_ | refine i_LdcL ?_ | refine i_IL ?_ | refine i_Null ?_ | refine i_Mul ?_ | refine i_Div ?_ | refine i_Rem ?_ | refine i_Or ?_ | refine i_Xor ?_ | refine i_Shl ?_ | refine i_Shr ?_ | refine i_Ushr ?_ | refine i_AddL ?_ | refine i_SubL ?_ | refine i_MulL ?_ | refine i_CmpL ?_ | refine i_Neg ?_ | refine i_I2L ?_ | refine i_L2I ?_ | refine i_I2B ?_ | refine i_ZA ?_ | refine i_BA ?_ | refine i_LA ?_ | refine i_MM ?_ | refine i_eIf ?_ | refine i_Ll0 ?_ | refine i_Ll1 ?_ | refine i_Ll2 ?_ | refine i_Ll3 ?_ | refine i_Ll4 ?_ | refine i_Ll5 ?_ | refine i_Ll6 ?_ | refine i_Ll7 ?_ | refine i_Ll8 ?_ | refine i_Ll9 ?_ | refine i_Ll10 ?_ | refine i_Ll11 ?_ | refine i_Ll12 ?_ | refine i_Ll13 ?_ | refine i_Ll14 ?_) | (show zsw _ _ _ _ _ _ _ _; first | refine i_Seq ?_ | refine i_Blk ?_ | refine i_Set ?_ | refine i_If ?_ | refine i_sCall ?_ | refine i_RetV ?_ | refine i_RetI ?_ | refine i_sIA ?_ | refine i_sF ?_ | refine i_Skip ?_ | refine i_FO ?_ | refine i_sLA ?_ | refine i_sZA ?_ | refine i_sBA ?_ | refine i_IO ?_ | refine i_Pop ?_ | refine i_Copy ?_ | refine i_RetZ ?_ | refine i_RetL ?_ | refine i_RetR ?_ | refine i_Ite ?_ | refine i_IteD ?_ | refine i_IfR ?_ | refine i_Brk ?_ | refine i_IfBrk ?_ | refine i_Sw ?_ | refine i_Inc0 ?_ | refine i_Inc1 ?_ | refine i_Inc2 ?_ | refine i_Inc3 ?_ | refine i_Inc4 ?_ | refine i_Inc5 ?_ | refine i_Inc6 ?_ | refine i_Inc7 ?_ | refine i_Inc8 ?_ | refine i_Inc9 ?_ | refine i_Inc10 ?_ | refine i_Inc11 ?_ | refine i_Inc12 ?_ | refine i_Inc13 ?_ | refine i_Inc14 ?_) | (show zcw _ _ _ _ _ _ _; first | refine i_cN ?_ | refine i_cNot ?_ | refine i_cAnd ?_ | refine i_cOr ?_ | refine i_cIf ?_ | refine i_cI_eq ?_ | refine i_cI_ne ?_ | refine i_cI_lt ?_ | refine i_cI_ge ?_ | refine i_cI_gt ?_ | refine i_cI_le ?_ | refine i_cZ_eq ?_ | refine i_cZ_ne ?_ | refine i_cZ_lt ?_ | refine i_cZ_ge ?_ | refine i_cZ_gt ?_ | refine i_cZ_le ?_) | refine i_as0 ?_ | refine i_as1 ?_ | refine i_sw0 ?_ | refine i_sw1 ?_ | refine i_lab0 ?_ | refine i_lab1 ?_ | refine i_lab2 ?_ | refine i_lb0 ?_ | refine i_lb1 ?_ | refine i_recv1 ?_ | refine i_recv2 ?_ | refine i_turn ?_ | refine i_up ?_) | (with_reducible refine i_z (Or.inl rfl) ?_) | (with_reducible refine i_z (Or.inr rfl) ?_) | (with_reducible refine i_z (zbI_01 _) ?_) | (with_reducible refine i_zin (Or.inl rfl) (by assumption) (by omega) (by omega) ?_) | (with_reducible refine i_zin (Or.inr rfl) (by assumption) (by omega) (by omega) ?_) | (with_reducible refine i_zin (zbI_01 _) (by assumption) (by omega) (by omega) ?_) | (with_reducible refine i_zin (by assumption) (by assumption) (by omega) (by omega) ?_) | (with_reducible refine i_recv0 (by assumption) ?_) | (with_reducible refine i_fld (by assumption) ?_) | (with_reducible refine i_fldR (by assumption) ?_) | (with_reducible refine i_in (by assumption) (by omega) (by omega) ?_) | (with_reducible refine i_copy (by assumption) (by assumption) (by omega) ?_) | (with_reducible refine i_len (by assumption) (by omega) ?_) | rw [zbI_t] | rw [zbI_f] | rw [zg_s] | rw [zg_n _ _ _ (by omega)] | rw [zg_m _ _ _ _ _ (by omega)] | rw [zg_o _ _ (by omega)] | (rw [hn]) | (refine m_isPair hO hS hn ⟨_, rfl, ?_⟩) | (refine m_isPost hO hS hn ⟨_, rfl, ?_⟩) | (rw [yshl_1 (show n < 31 by omega)]) | rw [zx_inc (by omega)] | rw [zx_addc (by omega)] | rw [zx_cadd (by omega)] | rw [zx_add (by omega)] | rw [zx_subc (by omega) (by omega)] | rw [zx_sub (by omega) (by omega)] | rw [zx_mulc (by omega)] | rw [zx_cmul (by omega)] | rw [zx_divc (by omega)] | rw [zx_modc] | rw [zx_s (by omega) (by omega)] | simp only [w_set0, w_set1, w_setn0, w_setn1] | rw [w_setT] | (with_reducible refine i_t trivial ?_) | (with_reducible refine i_f not_false ?_) | (with_reducible refine i_t (by omega) ?_) | (with_reducible refine i_f (by omega) ?_) | (with_reducible refine i_z (Or.inl rfl) ?_) | (with_reducible refine i_z (Or.inr rfl) ?_) | (with_reducible refine i_nn (by decide) ?_) | (with_reducible refine i_bb ?_ <;> intro hc) | (with_reducible refine i_dne ?_ ?_ <;> intro hc) | (with_reducible refine i_deq ?_ ?_ <;> intro hc) | (with_reducible refine i_bne ?_ ?_ <;> intro hc) | (with_reducible refine i_beq ?_ ?_ <;> intro hc) | (with_reducible refine i_br ?_ ?_ <;> intro hc))
  all_goals first | (rw [decide_eq_true (by omega)] at hk; exact hk) | (rw [decide_eq_false (by omega)] at hk; exact hk) | (rw [show decide (((kd = 0 ∨ kd = 3 ∨ kd = 4) ∧ (0 ≤ a ∧ a < ((n : Nat) : Int)) ∧ (0 ≤ b ∧ b < ((n : Nat) : Int)) ∧ a ≠ b) ∨ (kd = 2 ∧ 0 ≤ a ∧ a < ((2 ^ n : Nat) : Int)) ∨ ((kd = 1 ∨ kd = 5) ∧ 0 ≤ a ∧ a < ((n : Nat) : Int))) = decide ((0 ≤ a ∧ a < ((n : Nat) : Int)) ∧ (0 ≤ b ∧ b < ((n : Nat) : Int)) ∧ a ≠ b) from decide_eq_decide.mpr (by omega)] at hk; exact hk)
theorem m_length {O : zOm} (hO : zWld O) (hS : zS O = zmS zC0) {t T n : Nat} {A : zTl} {M : zMem} {K : Option zV → zMem → Prop} (hT : M 250 ((11 : Nat) : Int) = ((T : Nat) : Int)) (hT5 : T ≤ 5) (ht : t < T) (hn : M 250 ((1 : Nat) : Int) = ((n : Nat) : Int)) (hn2 : n ≤ 16) (hA : rTe M t n A) (hw : zTw n A)
    (hk : ∀ M', (∀ b j, ¬ (b = 268 ∨ b = 269 ∨ b = 270) → M' b j = M b j) → K (some (0, ((tLen n A : Nat) : Int))) M') : zR O F_Model_length [(2, 250), (0, ((t : Nat) : Int))] M K := by
  have hln := tLen_b hn2 hw
  apply r_Model_length hO
  unfold B_Model_length
  have zo := zMO hS
  ((with_reducible refine i_RetI (i_eIf (i_cZ_ne (i_Call (i_as1 (i_A0 (i_as1 (i_L1 (i_as0 ?_))))))))); (with_reducible refine i_recv0 (by assumption) ?_); (refine m_isTelling hO hS hT ⟨_, rfl, ?_⟩); (rw [decide_eq_true (show 0 ≤ ((t : Nat) : Int) ∧ ((t : Nat) : Int) < ((T : Nat) : Int) by omega)]); rw [zbI_t]; (with_reducible refine i_t (by omega) ?_); (with_reducible refine i_Call (i_as1 (i_A0 (i_as1 (i_L1 (i_as0 ?_)))))); (with_reducible refine i_recv0 (by assumption) ?_))
  refine m_lengthOf hO hS (by omega) hn hn2 hA hw (fun M1 f1 _ _ => ⟨_, rfl, ?_⟩)
  (skip)
  exact hk M1 f1
theorem m_length_bad {O : zOm} (hO : zWld O) (hS : zS O = zmS zC0) {t : Int} {T : Nat} {M : zMem} {K : Option zV → zMem → Prop} (hT : M 250 ((11 : Nat) : Int) = ((T : Nat) : Int)) (ht : ¬ (0 ≤ t ∧ t < ((T : Nat) : Int))) (hk : K (some (0, -1)) M) : zR O F_Model_length [(2, 250), (0, t)] M K := by
  apply r_Model_length hO
  unfold B_Model_length
  have zo := zMO hS
  ((with_reducible refine i_RetI (i_eIf (i_cZ_ne (i_Call (i_as1 (i_A0 (i_as1 (i_L1 (i_as0 ?_))))))))); (with_reducible refine i_recv0 (by assumption) ?_); (refine m_isTelling hO hS hT ⟨_, rfl, ?_⟩); (rw [decide_eq_false ht]); rw [zbI_f]; (with_reducible refine i_f (by omega) ?_); (with_reducible refine i_I ?_))
  exact hk
theorem m_harm {O : zOm} (hO : zWld O) (hS : zS O = zmS zC0) {t T n : Nat} {A : zTl} {Q : zQl} {M : zMem} {K : Option zV → zMem → Prop} (hT : M 250 ((11 : Nat) : Int) = ((T : Nat) : Int)) (hT5 : T ≤ 5) (ht : t < T) (hn : M 250 ((1 : Nat) : Int) = ((n : Nat) : Int)) (hn2 : n ≤ 16) (hA : rTe M t n A) (hw : zTw n A) (hq : rQs M Q) (hQ : zQs n Q)
    (hk : ∀ M', (∀ b j, ¬ (b = 250 ∧ j = 52 ∨ ((268 : Nat) : Int) ≤ b ∧ b ≤ ((270 : Nat) : Int) ∨ ((288 : Nat) : Int) ≤ b ∧ b ≤ ((290 : Nat) : Int)) → M' b j = M b j) → K (some (0, ((zhm n A Q : Nat) : Int))) M') : zR O F_Model_harm [(2, 250), (0, ((t : Nat) : Int))] M K := by
  have hhm := zhm_B (A := A) hn2 hQ
  apply r_Model_harm hO
  unfold B_Model_harm
  have zo := zMO hS
  ((with_reducible refine i_RetI (i_eIf (i_cZ_ne (i_Call (i_as1 (i_A0 (i_as1 (i_L1 (i_as0 ?_))))))))); (with_reducible refine i_recv0 (by assumption) ?_); (refine m_isTelling hO hS hT ⟨_, rfl, ?_⟩); (rw [decide_eq_true (show 0 ≤ ((t : Nat) : Int) ∧ ((t : Nat) : Int) < ((T : Nat) : Int) by omega)]); rw [zbI_t]; (with_reducible refine i_t (by omega) ?_); (with_reducible refine i_Call (i_as1 (i_A0 (i_as1 (i_L1 (i_as0 ?_)))))); (with_reducible refine i_recv0 (by assumption) ?_))
  refine m_harmOf hO hS (by omega) hn hn2 hA hw hq hQ (fun M1 f1 => ⟨_, rfl, ?_⟩)
  (skip)
  exact hk M1 f1
theorem m_harm_bad {O : zOm} (hO : zWld O) (hS : zS O = zmS zC0) {t : Int} {T : Nat} {M : zMem} {K : Option zV → zMem → Prop} (hT : M 250 ((11 : Nat) : Int) = ((T : Nat) : Int)) (ht : ¬ (0 ≤ t ∧ t < ((T : Nat) : Int))) (hk : K (some (0, -1)) M) : zR O F_Model_harm [(2, 250), (0, t)] M K := by
  apply r_Model_harm hO
  unfold B_Model_harm
  have zo := zMO hS
  ((with_reducible refine i_RetI (i_eIf (i_cZ_ne (i_Call (i_as1 (i_A0 (i_as1 (i_L1 (i_as0 ?_))))))))); (with_reducible refine i_recv0 (by assumption) ?_); (refine m_isTelling hO hS hT ⟨_, rfl, ?_⟩); (rw [decide_eq_false ht]); rw [zbI_f]; (with_reducible refine i_f (by omega) ?_); (with_reducible refine i_I ?_))
  exact hk
/-- served: the answer and the telling behind -/
def zsR (n : Nat) (A : zTl) (Q : zQl) (len : Int) (E : Nat) : Int := if E ≤ 9 then (if (zsv n A Q len (2 ^ E)).1 = 0 then -2 else (((zsv n A Q len (2 ^ E)).2.1 : Nat) : Int)) else (if len < ((tLen n (zTs A 0) : Nat) : Int) then -2 else (((zsw2 n A Q len).2 : Nat) : Int))
def zsA (n : Nat) (A : zTl) (Q : zQl) (len : Int) (E : Nat) : zTl := if E ≤ 9 then (if (zsv n A Q len (2 ^ E)).1 = 0 then A else zTs A ((zsv n A Q len (2 ^ E)).1 - 1)) else (if len < ((tLen n (zTs A 0) : Nat) : Int) then A else (zsw2 n A Q len).1)
theorem m_serve_bad {O : zOm} (hO : zWld O) (hS : zS O = zmS zC0) {t len : Int} {T : Nat} {M : zMem} {K : Option zV → zMem → Prop} (hT : M 250 ((11 : Nat) : Int) = ((T : Nat) : Int)) (ht : ¬ (0 ≤ t ∧ t < ((T : Nat) : Int))) (hk : K (some (0, -1)) M) : zR O F_Model_serve [(2, 250), (0, t), (0, len)] M K := by
  apply r_Model_serve hO
  unfold B_Model_serve
  have f56 := zMF (k := 56) hS rfl; have a291 := zMA (a := 291) (ty := .int) (n := 256) hS rfl; have f20 := zMF (k := 20) hS rfl; have a266 := zMA (a := 266) (ty := .int) (n := 1792) hS rfl; have zo := zMO hS
  ((with_reducible refine i_Seq (i_If (i_cNot (i_cZ_ne (i_Call (i_as1 (i_A0 (i_as1 (i_L1 (i_as0 ?_)))))))))); (with_reducible refine i_recv0 (by assumption) ?_); (refine m_isTelling hO hS hT ⟨_, rfl, ?_⟩); (rw [decide_eq_false ht]); rw [zbI_f]; (with_reducible refine i_f (by omega) ?_); (with_reducible refine i_RetI (i_I ?_)))
  exact hk
theorem m_serve {O : zOm} (hO : zWld O) (hS : zS O = zmS zC0) {t T n : Nat} {len : Int} {A : zTl} {Q : zQl} {M : zMem} {K : Option zV → zMem → Prop} (hT : M 250 ((11 : Nat) : Int) = ((T : Nat) : Int)) (hT5 : T ≤ 5) (ht : t < T) (hn : M 250 ((1 : Nat) : Int) = ((n : Nat) : Int)) (hn2 : n ≤ 16) (hA : rTe M t n A) (hw : zTw n A) (hq : rQs M Q) (hQ : zQs n Q)
    (hk : ∀ M', (∀ b j, ¬ (b = 250 ∧ j = 52 ∨ b = ((266 : Nat) : Int) ∧ ((256 * t : Nat) : Int) ≤ j ∧ j < ((256 * t + 256 : Nat) : Int) ∨ ((268 : Nat) : Int) ≤ b ∧ b ≤ ((270 : Nat) : Int) ∨ ((288 : Nat) : Int) ≤ b ∧ b ≤ ((291 : Nat) : Int)) → M' b j = M b j) → rTe M' t n (zsA n A Q len (zcnt (tX A) 256)) → K (some (0, zsR n A Q len (zcnt (tX A) 256))) M') : zR O F_Model_serve [(2, 250), (0, ((t : Nat) : Int)), (0, len)] M K := by
  have gv : ∀ c : Nat, c < 256 → M ((266 : Nat) : Int) ((256 * t + c : Nat) : Int) = ((tv A (c / 16) (c % 16) : Nat) : Int) := fun c hc => by
    have := hA.2.2.2 (c / 16) (c % 16) (by omega) (by omega)
    rwa [show 256 * t + 16 * (c / 16) + c % 16 = 256 * t + c by omega] at this
  apply r_Model_serve hO
  unfold B_Model_serve
  have f56 := zMF (k := 56) hS rfl; have a291 := zMA (a := 291) (ty := .int) (n := 256) hS rfl; have f20 := zMF (k := 20) hS rfl; have a266 := zMA (a := 266) (ty := .int) (n := 1792) hS rfl; have zo := zMO hS
  ((with_reducible refine i_Seq (i_If (i_cNot (i_cZ_ne (i_Call (i_as1 (i_A0 (i_as1 (i_L1 (i_as0 ?_)))))))))); (with_reducible refine i_recv0 (by assumption) ?_); (refine m_isTelling hO hS hT ⟨_, rfl, ?_⟩); (rw [decide_eq_true (show 0 ≤ ((t : Nat) : Int) ∧ ((t : Nat) : Int) < ((T : Nat) : Int) by omega)]); rw [zbI_t]; (with_reducible refine i_t (by omega) ?_); (with_reducible refine i_Seq (i_Blk (i_Seq (i_Set (i_I ?_))))); simp only [w_set0, w_set1, w_setn0, w_setn1])
  refine w_ForN 256 (fun c ρ M' => (∃ l, ρ = 250 :: ((t : Nat) : Int) :: len :: ((c : Nat) : Int) :: l) ∧ (∀ b j, ¬ b = ((291 : Nat) : Int) → M' b j = M b j) ∧ ∀ d : Nat, d < c → M' ((291 : Nat) : Int) ((d : Nat) : Int) = ((tv A (d / 16) (d % 16) : Nat) : Int)) ⟨⟨_, rfl⟩, fun _ _ _ => rfl, fun d h => absurd h (Nat.not_lt_zero _)⟩ ?_ ?_
  · rintro c ρ M1 X hc ⟨⟨l, rfl⟩, f1', h1⟩ hX
    have g : M1 ((266 : Nat) : Int) ((256 * t + c : Nat) : Int) = ((tv A (c / 16) (c % 16) : Nat) : Int) := (f1' _ _ (by omega)).trans (gv c hc)
    have hv2 := hw.2.2.2.2 (c / 16) (c % 16)
    clear gv hk
    ((with_reducible refine i_turn (i_cI_lt (i_L3 (i_I ?_)))); (with_reducible refine i_t (by omega) ?_); (with_reducible refine i_sIA (i_FR (i_A0 ?_))); (with_reducible refine i_fldR (by assumption) ?_); (with_reducible refine i_L3 (i_IA (i_FR (i_A0 ?_)))); (with_reducible refine i_fldR (by assumption) ?_); (with_reducible refine i_Add (i_Mul (i_I (i_L1 (i_L3 ?_))))); rw [zx_cmul (by omega)]; rw [zx_add (by omega)]; (with_reducible refine i_in (by assumption) (by omega) (by omega) ?_); (with_reducible refine i_in (by assumption) (by omega) (by omega) ?_); (with_reducible refine i_up (i_Inc3 ?_)); (rw [g]); rw [zx_inc (by omega)]; simp only [w_set0, w_set1, w_setn0, w_setn1])
    refine hX _ _ ⟨⟨_, rfl⟩, fun b j q => by rw [zg_o _ _ (by omega)]; exact f1' b j q, fun d hd => ?_⟩
    by_cases z : d = c
    · rw [z, zg_s]
    · rw [zg_m _ _ _ _ _ (by omega)]; exact h1 d (by omega)
  · rintro ρ M1 X ⟨⟨l, rfl⟩, f1', h1⟩
    have hA1 : rTe M1 t n A := hA.to hn2 hw (fun b j q => f1' b j (by omega))
    have hE := tX_120 hn2 hw
    ((with_reducible refine i_turn (i_cI_lt (i_L3 (i_I ?_)))); (with_reducible refine i_f (by omega) ?_); (with_reducible refine i_Seq (i_Set (i_Call (i_as1 (i_A0 (i_as1 (i_L1 (i_as0 ?_)))))))); (with_reducible refine i_recv0 (by assumption) ?_); simp only [w_set0, w_set1, w_setn0, w_setn1])
    refine m_exceptsOf hO hS (by omega) hA1 hw ⟨_, rfl, ?_⟩
    unfold zsR zsA at hk
    have hn1 : M1 250 ((1 : Nat) : Int) = ((n : Nat) : Int) := (f1' _ _ (by omega)).trans hn
    have hq1 : rQs M1 Q := hq.to (fun b j q => f1' b j (by omega))
    generalize hEE : zcnt (tX A) 256 = E at hk hE ⊢
    by_cases e9 : E ≤ 9
    · rw [if_pos e9, if_pos e9] at hk
      have hb := zsv_b hn2 hw hQ len (2 ^ E)
      have hgo := fun (K' : Option zV → zMem → Prop) z => m_serveFew hO hS (M := M1) (len := len) (show t < 7 by omega) hn1 hn2 hA1 hw hq1 hQ hEE e9 (K := K') z
      clear hEE
      ((with_reducible refine i_Seq (i_Set (i_eIf (i_cI_le (i_L3 (i_I ?_)))))); (with_reducible refine i_t (by omega) ?_); (with_reducible refine i_Call (i_as1 (i_A0 (i_as1 (i_L1 (i_as1 (i_L2 (i_as1 (i_L3 (i_as0 ?_)))))))))); (with_reducible refine i_recv0 (by assumption) ?_); simp only [w_set0, w_set1, w_setn0, w_setn1])
      refine hgo _ (fun M2 f2 h2 => ⟨_, rfl, ?_⟩)
      clear hgo
      generalize zsv n A Q len (2 ^ E) = st at hb hk h2 ⊢
      obtain ⟨u, bh, bl⟩ := st
      dsimp only at hb hk h2 ⊢
      by_cases r : u = 0
      · rw [if_pos r, if_pos r] at hk
        rw [if_pos r]
        have rest : ∀ M3, (∀ b j, ¬ (b = ((266 : Nat) : Int) ∧ ((256 * t : Nat) : Int) ≤ j ∧ j < ((256 * t + 256 : Nat) : Int)) → M3 b j = M2 b j) → (∀ d : Nat, d < 256 → M3 ((266 : Nat) : Int) ((256 * t + d : Nat) : Int) = ((tv A (d / 16) (d % 16) : Nat) : Int)) → K (some (0, -2)) M3 := fun M3 f3 h3 => hk M3 (fun b j q => by rw [f3 b j (by omega), f2 b j (by omega), f1' b j (by omega)]) (by
          refine hA.to hn2 hw (fun b j q => ?_)
          by_cases z : b = ((266 : Nat) : Int) ∧ ((256 * t : Nat) : Int) ≤ j ∧ j < ((256 * t + 256 : Nat) : Int)
          · obtain ⟨d, rfl⟩ : ∃ d : Nat, j = ((256 * t + d : Nat) : Int) := ⟨(j - 256 * t).toNat, by omega⟩
            rw [z.1, h3 d (by omega), gv d (by omega)]
          · rw [f3 b j z, f2 b j (by omega), f1' b j (by omega)])
        clear hk h2 r
        ((with_reducible refine i_Seq (i_If (i_cZ_lt ?_))); rw [w_setT]; (with_reducible refine i_L4 ?_); (with_reducible refine i_t (by omega) ?_); (with_reducible refine i_Blk (i_Seq (i_Set (i_I ?_)))); simp only [w_set0, w_set1, w_setn0, w_setn1]; rw [w_setT])
        refine w_ForN 256 (fun c ρ M' => (∃ l, ρ = 250 :: ((t : Nat) : Int) :: len :: ((E : Nat) : Int) :: -2 :: ((c : Nat) : Int) :: l) ∧ (∀ b j, ¬ (b = ((266 : Nat) : Int) ∧ ((256 * t : Nat) : Int) ≤ j ∧ j < ((256 * t + 256 : Nat) : Int)) → M' b j = M2 b j) ∧ ∀ d : Nat, d < c → M' ((266 : Nat) : Int) ((256 * t + d : Nat) : Int) = ((tv A (d / 16) (d % 16) : Nat) : Int)) ⟨⟨_, rfl⟩, fun _ _ _ => rfl, fun d h => absurd h (Nat.not_lt_zero _)⟩ ?_ ?_
        · rintro c ρ M3 X2 hc ⟨⟨l2, rfl⟩, f3, h3⟩ hX2
          have g : M3 ((291 : Nat) : Int) ((c : Nat) : Int) = ((tv A (c / 16) (c % 16) : Nat) : Int) := by rw [f3 _ _ (by omega), f2 _ _ (by omega)]; exact h1 c hc
          have hv2 := hw.2.2.2.2 (c / 16) (c % 16)
          clear rest
          ((with_reducible refine i_turn (i_cI_lt (i_L5 (i_I ?_)))); (with_reducible refine i_t (by omega) ?_); (with_reducible refine i_sIA (i_FR (i_A0 ?_))); (with_reducible refine i_fldR (by assumption) ?_); (with_reducible refine i_Add (i_Mul (i_I (i_L1 (i_L5 (i_IA (i_FR (i_A0 ?_)))))))); (with_reducible refine i_fldR (by assumption) ?_); (with_reducible refine i_L5 ?_); (with_reducible refine i_in (by assumption) (by omega) (by omega) ?_); (rw [g]); rw [zx_cmul (by omega)]; rw [zx_add (by omega)]; (with_reducible refine i_in (by assumption) (by omega) (by omega) ?_); (with_reducible refine i_up (i_Inc5 ?_)); rw [zx_inc (by omega)]; simp only [w_set0, w_set1, w_setn0, w_setn1])
          refine hX2 _ _ ⟨⟨_, rfl⟩, fun b j q => by rw [zg_o _ _ (by omega)]; exact f3 b j q, fun d hd => ?_⟩
          by_cases z : d = c
          · rw [z, zg_s]
          · rw [zg_m _ _ _ _ _ (by omega)]; exact h3 d (by omega)
        · rintro ρ M3 X2 ⟨⟨l2, rfl⟩, f3, h3⟩
          ((with_reducible refine i_turn (i_cI_lt (i_L5 (i_I ?_)))); (with_reducible refine i_f (by omega) ?_); (with_reducible refine i_RetI (i_L4 ?_)))
          exact rest M3 f3 h3
      · rw [if_neg r, if_neg r] at hk
        rw [if_neg r]
        have h2' := h2 r
        ((with_reducible refine i_Seq (i_If (i_cZ_lt ?_))); rw [w_setT]; (with_reducible refine i_L4 ?_); (with_reducible refine i_f (by omega) ?_); (with_reducible refine i_RetI (i_L4 ?_)))
        exact hk M2 (fun b j q => by rw [f2 b j (by omega), f1' b j (by omega)]) h2'
    · rw [if_neg e9, if_neg e9] at hk
      have hgo := fun (K' : Option zV → zMem → Prop) z => m_serveMany hO hS (M := M1) (len := len) (E := E) (show t < 7 by omega) hn1 hn2 hA1 hw hq1 hQ (K := K') z
      have hb : (zsw2 n A Q len).2 ≤ 6000000 := Nat.le_trans (zsi_w (zTs_w hw 0) _).2.2 (zhm_B hn2 hQ)
      clear hEE
      ((with_reducible refine i_Seq (i_Set (i_eIf (i_cI_le (i_L3 (i_I ?_)))))); (with_reducible refine i_f (by omega) ?_); (with_reducible refine i_Call (i_as1 (i_A0 (i_as1 (i_L1 (i_as1 (i_L2 (i_as1 (i_L3 (i_as0 ?_)))))))))); (with_reducible refine i_recv0 (by assumption) ?_); simp only [w_set0, w_set1, w_setn0, w_setn1])
      refine hgo _ (fun M2 f2 h2 => ⟨_, rfl, ?_⟩)
      clear hgo
      generalize zsw2 n A Q len = st at hb hk h2 ⊢
      generalize tLen n (zTs A 0) = v at hk h2 ⊢
      obtain ⟨B, bh⟩ := st
      dsimp only at hb hk h2 ⊢
      by_cases r : len < ((v : Nat) : Int)
      · rw [if_pos r, if_pos r] at hk
        rw [if_pos r]
        have rest : ∀ M3, (∀ b j, ¬ (b = ((266 : Nat) : Int) ∧ ((256 * t : Nat) : Int) ≤ j ∧ j < ((256 * t + 256 : Nat) : Int)) → M3 b j = M2 b j) → (∀ d : Nat, d < 256 → M3 ((266 : Nat) : Int) ((256 * t + d : Nat) : Int) = ((tv A (d / 16) (d % 16) : Nat) : Int)) → K (some (0, -2)) M3 := fun M3 f3 h3 => hk M3 (fun b j q => by rw [f3 b j (by omega), f2 b j (by omega), f1' b j (by omega)]) (by
          refine hA.to hn2 hw (fun b j q => ?_)
          by_cases z : b = ((266 : Nat) : Int) ∧ ((256 * t : Nat) : Int) ≤ j ∧ j < ((256 * t + 256 : Nat) : Int)
          · obtain ⟨d, rfl⟩ : ∃ d : Nat, j = ((256 * t + d : Nat) : Int) := ⟨(j - 256 * t).toNat, by omega⟩
            rw [z.1, h3 d (by omega), gv d (by omega)]
          · rw [f3 b j z, f2 b j (by omega), f1' b j (by omega)])
        clear hk h2 r
        ((with_reducible refine i_Seq (i_If (i_cZ_lt ?_))); rw [w_setT]; (with_reducible refine i_L4 ?_); (with_reducible refine i_t (by omega) ?_); (with_reducible refine i_Blk (i_Seq (i_Set (i_I ?_)))); simp only [w_set0, w_set1, w_setn0, w_setn1]; rw [w_setT])
        refine w_ForN 256 (fun c ρ M' => (∃ l, ρ = 250 :: ((t : Nat) : Int) :: len :: ((E : Nat) : Int) :: -2 :: ((c : Nat) : Int) :: l) ∧ (∀ b j, ¬ (b = ((266 : Nat) : Int) ∧ ((256 * t : Nat) : Int) ≤ j ∧ j < ((256 * t + 256 : Nat) : Int)) → M' b j = M2 b j) ∧ ∀ d : Nat, d < c → M' ((266 : Nat) : Int) ((256 * t + d : Nat) : Int) = ((tv A (d / 16) (d % 16) : Nat) : Int)) ⟨⟨_, rfl⟩, fun _ _ _ => rfl, fun d h => absurd h (Nat.not_lt_zero _)⟩ ?_ ?_
        · rintro c ρ M3 X2 hc ⟨⟨l2, rfl⟩, f3, h3⟩ hX2
          have g : M3 ((291 : Nat) : Int) ((c : Nat) : Int) = ((tv A (c / 16) (c % 16) : Nat) : Int) := by rw [f3 _ _ (by omega), f2 _ _ (by omega)]; exact h1 c hc
          have hv2 := hw.2.2.2.2 (c / 16) (c % 16)
          clear rest
          ((with_reducible refine i_turn (i_cI_lt (i_L5 (i_I ?_)))); (with_reducible refine i_t (by omega) ?_); (with_reducible refine i_sIA (i_FR (i_A0 ?_))); (with_reducible refine i_fldR (by assumption) ?_); (with_reducible refine i_Add (i_Mul (i_I (i_L1 (i_L5 (i_IA (i_FR (i_A0 ?_)))))))); (with_reducible refine i_fldR (by assumption) ?_); (with_reducible refine i_L5 ?_); (with_reducible refine i_in (by assumption) (by omega) (by omega) ?_); (rw [g]); rw [zx_cmul (by omega)]; rw [zx_add (by omega)]; (with_reducible refine i_in (by assumption) (by omega) (by omega) ?_); (with_reducible refine i_up (i_Inc5 ?_)); rw [zx_inc (by omega)]; simp only [w_set0, w_set1, w_setn0, w_setn1])
          refine hX2 _ _ ⟨⟨_, rfl⟩, fun b j q => by rw [zg_o _ _ (by omega)]; exact f3 b j q, fun d hd => ?_⟩
          by_cases z : d = c
          · rw [z, zg_s]
          · rw [zg_m _ _ _ _ _ (by omega)]; exact h3 d (by omega)
        · rintro ρ M3 X2 ⟨⟨l2, rfl⟩, f3, h3⟩
          ((with_reducible refine i_turn (i_cI_lt (i_L5 (i_I ?_)))); (with_reducible refine i_f (by omega) ?_); (with_reducible refine i_RetI (i_L4 ?_)))
          exact rest M3 f3 h3
      · rw [if_neg r, if_neg r] at hk
        rw [if_neg r]
        have h2' := h2 r
        ((with_reducible refine i_Seq (i_If (i_cZ_lt ?_))); rw [w_setT]; (with_reducible refine i_L4 ?_); (with_reducible refine i_f (by omega) ?_); (with_reducible refine i_RetI (i_L4 ?_)))
        exact hk M2 (fun b j q => by rw [f2 b j (by omega), f1' b j (by omega)]) h2'
