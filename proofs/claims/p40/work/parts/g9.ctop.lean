/-! ===== the class: length, harm, served ===== -/
theorem c_find {O : zOm} (hO : zWld O) (hS : zS O = zmS zC0) {t : Int} {T : Nat} {M : zMem} {K : Option zV → zMem → Prop} (hT : M ((0 : Nat) : Int) ((4 : Nat) : Int) = ((T : Nat) : Int)) (hT5 : T ≤ 5) (h0 : ¬ (0 ≤ t ∧ t < ((T : Nat) : Int)) → K (some (2, -1)) M) (h1 : ∀ k : Nat, t = k → k < T → K (some (2, ((185 + 13 * k : Nat) : Int))) M) : zR O F_ToldNet_find [(2, ((0 : Nat) : Int)), (0, t)] M K := by
  apply r_ToldNet_find hO
  unfold B_ToldNet_find
  have f0_4 := zf_0_4 hS; have f0_3 := zf_0_3 hS; have z0 := zo_0 hS
  by_cases hx : 0 ≤ t ∧ t < ((T : Nat) : Int)
  · obtain ⟨k, rfl⟩ : ∃ k : Nat, t = k := ⟨t.toNat, by omega⟩
    have h2 := h1 k rfl (by omega)
    ((with_reducible refine i_RetR (i_eIf (i_cOr (i_cZ_lt (i_L1 ?_))))); (with_reducible refine i_f (by omega) ?_); (with_reducible refine i_cI_ge (i_L1 (i_F (i_A0 ?_)))); (with_reducible refine i_fld (by assumption) ?_); (rw [hT]); (with_reducible refine i_f (by omega) ?_); (with_reducible refine i_RA (i_FR (i_A0 ?_))); (with_reducible refine i_fldR (by assumption) ?_); (with_reducible refine i_L1 ?_); (refine i_ra (zPr_tel hS (show k < 5 by omega)) ?_))
    exact h2
  · have h2 := h0 hx
    repeat' (first | (with_reducible first | (show zew _ _ _ _ _ _; first | (show zew (zeL _) _ _ _ _ _; first | refine i_L0 ?_ | refine i_L1 ?_ | refine i_L2 ?_ | refine i_L3 ?_ | refine i_L4 ?_ | refine i_L5 ?_ | refine i_L6 ?_ | refine i_L7 ?_ | refine i_L8 ?_ | refine i_L9 ?_ | refine i_L10 ?_ | refine i_L11 ?_ | refine i_L12 ?_ | refine i_L13 ?_ | refine i_L14 ?_) | (show zew (zeA _) _ _ _ _ _; first | refine i_A0 ?_ | refine i_A1 ?_ | refine i_A2 ?_ | refine i_A3 ?_ | refine i_A4 ?_ | refine i_A5 ?_ | refine i_A6 ?_ | refine i_A7 ?_ | refine i_A8 ?_ | refine i_A9 ?_ | refine i_A10 ?_ | refine i_A11 ?_ | refine i_A12 ?_ | refine i_A13 ?_ | refine i_A14 ?_) | refine i_I ?_ | refine i_F ?_ | refine i_FR ?_ | refine i_IA ?_ | refine i_Add ?_ | refine i_Sub ?_ | refine i_And ?_ | refine i_Len ?_ | refine i_Call ?_ | refine i_RA ?_ | refine i_Ldc ?_ | refine i_LdcL ?_ | refine i_IL ?_ | refine i_Null ?_ | refine i_Mul ?_ | refine i_Div ?_ | refine i_Rem ?_ | refine i_Or ?_ | refine i_Xor ?_ | refine i_Shl ?_ | refine i_Shr ?_ | refine i_Ushr ?_ | refine i_AddL ?_ | refine i_SubL ?_ | refine i_MulL ?_ | refine i_CmpL ?_ | refine i_Neg ?_ | refine i_I2L ?_ | refine i_L2I ?_ | refine i_I2B ?_ | refine i_ZA ?_ | refine i_BA ?_ | refine i_LA ?_ | refine i_MM ?_ | refine i_eIf ?_ | refine i_Ll0 ?_ | refine i_Ll1 ?_ | refine i_Ll2 ?_ | refine i_Ll3 ?_ | refine i_Ll4 ?_ | refine i_Ll5 ?_ | refine i_Ll6 ?_ | refine i_Ll7 ?_ | refine i_Ll8 ?_ | refine i_Ll9 ?_ | refine i_Ll10 ?_ | refine i_Ll11 ?_ | refine i_Ll12 ?_ | refine i_Ll13 ?_ | refine i_Ll14 ?_) | (show zsw _ _ _ _ _ _ _ _; first | refine i_Seq ?_ | refine i_Blk ?_ | refine i_Set ?_ | refine i_If ?_ | refine i_sCall ?_ | refine i_RetV ?_ | refine i_RetI ?_ | refine i_sIA ?_ | refine i_sF ?_ | refine i_Skip ?_ | refine i_FO ?_ | refine i_sLA ?_ | refine i_sZA ?_ | refine i_sBA ?_ | refine i_IO ?_ | refine i_Pop ?_ | refine i_Copy ?_ | refine i_RetZ ?_ | refine i_RetL ?_ | refine i_RetR ?_ | refine i_Ite ?_ | refine i_IteD ?_ | refine i_IfR ?_ | refine i_Brk ?_ | refine i_IfBrk ?_ | refine i_Sw ?_ | refine i_Inc0 ?_ | refine i_Inc1 ?_ | refine i_Inc2 ?_ | refine i_Inc3 ?_ | refine i_Inc4 ?_ | refine i_Inc5 ?_ | refine i_Inc6 ?_ | refine i_Inc7 ?_ | refine i_Inc8 ?_ | refine i_Inc9 ?_ | refine i_Inc10 ?_ | refine i_Inc11 ?_ | refine i_Inc12 ?_ | refine i_Inc13 ?_ | refine i_Inc14 ?_) | (show zcw _ _ _ _ _ _ _; first | refine i_cN ?_ | refine i_cNot ?_ | refine i_cAnd ?_ | refine i_cOr ?_ | refine i_cIf ?_ | refine i_cI_eq ?_ | refine i_cI_ne ?_ | refine i_cI_lt ?_ | refine i_cI_ge ?_ | refine i_cI_gt ?_ | refine i_cI_le ?_ | refine i_cZ_eq ?_ | refine i_cZ_ne ?_ | refine i_cZ_lt ?_ | refine i_cZ_ge ?_ | refine i_cZ_gt ?_ | refine i_cZ_le ?_) | refine i_as0 ?_ | refine i_as1 ?_ | refine i_sw0 ?_ | refine i_sw1 ?_ | refine i_lab0 ?_ | refine i_lab1 ?_ | refine i_lab2 ?_ | refine i_lb0 ?_ | refine i_lb1 ?_ | refine i_recv1 ?_ | refine i_recv2 ?_ | refine i_turn ?_ | refine i_up ?_) | (with_reducible refine i_z (Or.inl rfl) ?_) | (with_reducible refine i_z (Or.inr rfl) ?_) | (with_reducible refine i_z (zbI_01 _) ?_) | (with_reducible refine i_zin (Or.inl rfl) (by assumption) (by omega) (by omega) ?_) | (with_reducible refine i_zin (Or.inr rfl) (by assumption) (by omega) (by omega) ?_) | (with_reducible refine i_zin (zbI_01 _) (by assumption) (by omega) (by omega) ?_) | (with_reducible refine i_zin (by assumption) (by assumption) (by omega) (by omega) ?_) | (with_reducible refine i_recv0 (by assumption) ?_) | (with_reducible refine i_fld (by assumption) ?_) | (with_reducible refine i_fldR (by assumption) ?_) | (with_reducible refine i_in (by assumption) (by omega) (by omega) ?_) | (with_reducible refine i_copy (by assumption) (by assumption) (by omega) ?_) | (with_reducible refine i_len (by assumption) (by omega) ?_) | rw [zbI_t] | rw [zbI_f] | rw [zg_s] | rw [zg_n _ _ _ (by omega)] | rw [zg_m _ _ _ _ _ (by omega)] | rw [zg_o _ _ (by omega)] | (rw [hT]) | rw [zx_inc (by omega)] | rw [zx_addc (by omega)] | rw [zx_cadd (by omega)] | rw [zx_add (by omega)] | rw [zx_subc (by omega) (by omega)] | rw [zx_sub (by omega) (by omega)] | rw [zx_mulc (by omega)] | rw [zx_cmul (by omega)] | rw [zx_divc (by omega)] | rw [zx_modc] | rw [zx_s (by omega) (by omega)] | simp only [w_set0, w_set1, w_setn0, w_setn1] | rw [w_setT] | (with_reducible refine i_t trivial ?_) | (with_reducible refine i_f not_false ?_) | (with_reducible refine i_t (by omega) ?_) | (with_reducible refine i_f (by omega) ?_) | (with_reducible refine i_z (Or.inl rfl) ?_) | (with_reducible refine i_z (Or.inr rfl) ?_) | (with_reducible refine i_nn (by decide) ?_) | (with_reducible refine i_bb ?_ <;> intro hc) | (with_reducible refine i_dne ?_ ?_ <;> intro hc) | (with_reducible refine i_deq ?_ ?_ <;> intro hc) | (with_reducible refine i_bne ?_ ?_ <;> intro hc) | (with_reducible refine i_beq ?_ ?_ <;> intro hc) | (with_reducible refine i_br ?_ ?_ <;> intro hc))
    all_goals first | exact h2 | (exfalso; omega)
theorem c_length_bad {O : zOm} (hO : zWld O) (hS : zS O = zmS zC0) {t : Int} {T : Nat} {M : zMem} {K : Option zV → zMem → Prop} (hT : M ((0 : Nat) : Int) ((4 : Nat) : Int) = ((T : Nat) : Int)) (hT5 : T ≤ 5) (ht : ¬ (0 ≤ t ∧ t < ((T : Nat) : Int))) (hk : K (some (0, -1)) M) : zR O F_ToldNet_length [(2, ((0 : Nat) : Int)), (0, t)] M K := by
  apply r_ToldNet_length hO
  unfold B_ToldNet_length
  have f0_8 := zf_0_8 hS; have z0 := zo_0 hS; have z134 := zo_134 hS
  ((with_reducible refine i_Seq (i_Set (i_Call (i_as1 (i_A0 (i_as1 (i_L1 (i_as0 ?_)))))))); (with_reducible refine i_recv0 (by assumption) ?_); simp only [w_set0, w_set1, w_setn0, w_setn1])
  refine c_find hO hS hT hT5 (fun hx => ⟨_, rfl, ?_⟩) (fun k e hk1 => absurd (show 0 ≤ t ∧ t < ((T : Nat) : Int) by omega) ht)
  ((with_reducible refine i_RetI (i_eIf (i_cN (i_A2 ?_)))); simp only [w_set0, w_set1, w_setn0, w_setn1]; (with_reducible refine i_t trivial ?_); (with_reducible refine i_I ?_))
  exact hk
theorem c_length {O : zOm} (hO : zWld O) (hS : zS O = zmS zC0) {t T n : Nat} {A : zTl} {M : zMem} {K : Option zV → zMem → Prop} (hT : M ((0 : Nat) : Int) ((4 : Nat) : Int) = ((T : Nat) : Int)) (hT5 : T ≤ 5) (ht : t < T) (hn2 : n ≤ 16) (hA : zTR M (185 + 13 * t) n A) (hw : zTw n A) (hC : cSo M)
    (hk : ∀ M', (∀ b j, ¬ (b = ((134 : Nat) : Int) ∧ j = 6 ∨ ((135 : Nat) : Int) ≤ b ∧ b ≤ ((146 : Nat) : Int)) → M' b j = M b j) → cSo M' → K (some (0, ((tLen n A : Nat) : Int))) M') : zR O F_ToldNet_length [(2, ((0 : Nat) : Int)), (0, ((t : Nat) : Int))] M K := by
  have hx := zTelT hS (show t < 5 by omega)
  have hx0 := hx.1.1
  have hln := tLen_b hn2 hw
  obtain ⟨⟨o134, -⟩, -⟩ := zO134_ok hS
  apply r_ToldNet_length hO
  unfold B_ToldNet_length
  have f0_8 := zf_0_8 hS; have z0 := zo_0 hS; have z134 := zo_134 hS
  ((with_reducible refine i_Seq (i_Set (i_Call (i_as1 (i_A0 (i_as1 (i_L1 (i_as0 ?_)))))))); (with_reducible refine i_recv0 (by assumption) ?_); simp only [w_set0, w_set1, w_setn0, w_setn1])
  refine c_find hO hS hT hT5 (fun hx => absurd (show 0 ≤ ((t : Nat) : Int) ∧ ((t : Nat) : Int) < ((T : Nat) : Int) by omega) hx) (fun k e hk1 => ⟨_, rfl, ?_⟩)
  rw [show k = t by omega]
  ((with_reducible refine i_RetI (i_eIf (i_cN (i_A2 ?_)))); (with_reducible refine i_f (by omega) ?_); (with_reducible refine i_Call (i_as1 (i_FR (i_A0 ?_)))); (with_reducible refine i_fldR (by assumption) ?_); (with_reducible refine i_as1 (i_A2 (i_as0 ?_))); (with_reducible refine i_recv0 (by assumption) ?_))
  refine c_measure hO hS hx (by omega) hA hn2 hw hC (fun M1 f1 h1 => ⟨_, rfl, ?_⟩)
  (skip)
  exact hk M1 (fun b j q => f1 b j (by omega)) h1.so
theorem c_harm_bad {O : zOm} (hO : zWld O) (hS : zS O = zmS zC0) {t : Int} {T : Nat} {M : zMem} {K : Option zV → zMem → Prop} (hT : M ((0 : Nat) : Int) ((4 : Nat) : Int) = ((T : Nat) : Int)) (hT5 : T ≤ 5) (ht : ¬ (0 ≤ t ∧ t < ((T : Nat) : Int))) (hk : K (some (0, -1)) M) : zR O F_ToldNet_harm [(2, ((0 : Nat) : Int)), (0, t)] M K := by
  apply r_ToldNet_harm hO
  unfold B_ToldNet_harm
  have f0_8 := zf_0_8 hS; have f0_9 := zf_0_9 hS; have z0 := zo_0 hS; have z134 := zo_134 hS; have z148 := zo_148 hS
  ((with_reducible refine i_Seq (i_Set (i_Call (i_as1 (i_A0 (i_as1 (i_L1 (i_as0 ?_)))))))); (with_reducible refine i_recv0 (by assumption) ?_); simp only [w_set0, w_set1, w_setn0, w_setn1])
  refine c_find hO hS hT hT5 (fun hx => ⟨_, rfl, ?_⟩) (fun k e hk1 => absurd (show 0 ≤ t ∧ t < ((T : Nat) : Int) by omega) ht)
  ((with_reducible refine i_Seq (i_If (i_cN (i_A2 ?_)))); simp only [w_set0, w_set1, w_setn0, w_setn1]; (with_reducible refine i_t trivial ?_); (with_reducible refine i_RetI (i_I ?_)))
  exact hk
theorem c_harm {O : zOm} (hO : zWld O) (hS : zS O = zmS zC0) {t T n : Nat} {A : zTl} {Q : zQl} {M : zMem} {K : Option zV → zMem → Prop} (hT : M ((0 : Nat) : Int) ((4 : Nat) : Int) = ((T : Nat) : Int)) (hT5 : T ≤ 5) (ht : t < T) (hn1 : 0 < n) (hn2 : n ≤ 16) (hA : zTR M (185 + 13 * t) n A) (hw : zTw n A) (hC : cSo M) (hq : cQs M Q) (hQ : zQs n Q)
    (hk : ∀ M', (∀ b j, ¬ (b = ((134 : Nat) : Int) ∧ (j = 6 ∨ j = 7) ∨ ((135 : Nat) : Int) ≤ b ∧ b ≤ ((146 : Nat) : Int)) → M' b j = M b j) → cSo M' → K (some (0, ((zhm n A Q : Nat) : Int))) M') : zR O F_ToldNet_harm [(2, ((0 : Nat) : Int)), (0, ((t : Nat) : Int))] M K := by
  have hx := zTelT hS (show t < 5 by omega)
  have hx0 := hx.1.1
  obtain ⟨⟨o134, -⟩, -⟩ := zO134_ok hS
  obtain ⟨⟨o148, -⟩, -⟩ := zO148_ok hS
  have hhm := zhm_B (A := A) hn2 hQ
  apply r_ToldNet_harm hO
  unfold B_ToldNet_harm
  have f0_8 := zf_0_8 hS; have f0_9 := zf_0_9 hS; have z0 := zo_0 hS; have z134 := zo_134 hS; have z148 := zo_148 hS
  ((with_reducible refine i_Seq (i_Set (i_Call (i_as1 (i_A0 (i_as1 (i_L1 (i_as0 ?_)))))))); (with_reducible refine i_recv0 (by assumption) ?_); simp only [w_set0, w_set1, w_setn0, w_setn1])
  refine c_find hO hS hT hT5 (fun hx => absurd (show 0 ≤ ((t : Nat) : Int) ∧ ((t : Nat) : Int) < ((T : Nat) : Int) by omega) hx) (fun k e hk1 => ⟨_, rfl, ?_⟩)
  rw [show k = t by omega]
  ((with_reducible refine i_Seq (i_If (i_cN (i_A2 ?_)))); (with_reducible refine i_f (by omega) ?_); (with_reducible refine i_Seq (i_sCall (i_as1 (i_FR (i_A0 ?_))))); (with_reducible refine i_fldR (by assumption) ?_); (with_reducible refine i_as1 (i_A2 (i_as0 ?_))); (with_reducible refine i_recv0 (by assumption) ?_))
  refine c_take hO hS hx (by omega) hA hn2 hw hC (fun M1 f1 h1 => ⟨rfl, ?_⟩)
  have hA1 : zTR M1 (185 + 13 * t) n A := hA.to (fun b j a1 a2 => f1 b j (by omega))
  ((with_reducible refine i_RetI (i_Call (i_as1 (i_FR (i_A0 ?_))))); (with_reducible refine i_fldR (by assumption) ?_); (with_reducible refine i_as1 (i_A2 (i_as1 (i_FR (i_A0 ?_))))); (with_reducible refine i_fldR (by assumption) ?_); (with_reducible refine i_as0 ?_); (with_reducible refine i_recv0 (by assumption) ?_))
  refine c_harmBy hO hS hx (by omega) hA1.1.1 hn1 hn2 hw (hq.to (fun b j q => f1 b j (by omega))) hQ h1 (fun M2 f2 h2 => ⟨_, rfl, ?_⟩)
  (skip)
  exact hk M2 (fun b j q => by rw [f2 b j (by omega), f1 b j (by omega)]) h2.so
theorem c_serve_bad {O : zOm} (hO : zWld O) (hS : zS O = zmS zC0) {t len : Int} {T : Nat} {M : zMem} {K : Option zV → zMem → Prop} (hT : M ((0 : Nat) : Int) ((4 : Nat) : Int) = ((T : Nat) : Int)) (hT5 : T ≤ 5) (ht : ¬ (0 ≤ t ∧ t < ((T : Nat) : Int))) (hk : K (some (0, -1)) M) : zR O F_ToldNet_serve [(2, ((0 : Nat) : Int)), (0, t), (0, len)] M K := by
  apply r_ToldNet_serve hO
  unfold B_ToldNet_serve
  have f0_9 := zf_0_9 hS; have f0_8 := zf_0_8 hS; have z0 := zo_0 hS; have z148 := zo_148 hS
  ((with_reducible refine i_Seq (i_Set (i_Call (i_as1 (i_A0 (i_as1 (i_L1 (i_as0 ?_)))))))); (with_reducible refine i_recv0 (by assumption) ?_); simp only [w_set0, w_set1, w_setn0, w_setn1])
  refine c_find hO hS hT hT5 (fun hx => ⟨_, rfl, ?_⟩) (fun k e hk1 => absurd (show 0 ≤ t ∧ t < ((T : Nat) : Int) by omega) ht)
  ((with_reducible refine i_Seq (i_If (i_cN (i_A3 ?_)))); simp only [w_set0, w_set1, w_setn0, w_setn1]; (with_reducible refine i_t trivial ?_); (with_reducible refine i_RetI (i_I ?_)))
  exact hk
theorem c_serve {O : zOm} (hO : zWld O) (hS : zS O = zmS zC0) {t T n : Nat} {len : Int} {A : zTl} {Q : zQl} {M : zMem} {K : Option zV → zMem → Prop} (hT : M ((0 : Nat) : Int) ((4 : Nat) : Int) = ((T : Nat) : Int)) (hT5 : T ≤ 5) (ht : t < T) (hn1 : 0 < n) (hn2 : n ≤ 16) (hA : zTR M (185 + 13 * t) n A) (hw : zTw n A) (hC : cSo M) (hq : cQs M Q) (hQ : zQs n Q)
    (hk : ∀ M', (∀ b j, ¬ (b = ((148 : Nat) : Int) ∧ j = 6 ∨ ((153 : Nat) : Int) ≤ b ∧ b ≤ ((155 : Nat) : Int) ∨ b = ((134 : Nat) : Int) ∧ (j = 6 ∨ j = 7) ∨ ((135 : Nat) : Int) ≤ b ∧ b ≤ ((146 : Nat) : Int) ∨ ((185 + 13 * t + 11 : Nat) : Int) ≤ b ∧ b ≤ ((185 + 13 * t + 12 : Nat) : Int)) → M' b j = M b j) → cSo M' → zTR M' (185 + 13 * t) n (zsA n A Q len (zcnt (tX A) 256)) → K (some (0, zsR n A Q len (zcnt (tX A) 256))) M') : zR O F_ToldNet_serve [(2, ((0 : Nat) : Int)), (0, ((t : Nat) : Int)), (0, len)] M K := by
  have hx := zTelT hS (show t < 5 by omega)
  have hx0 := hx.1.1
  obtain ⟨⟨o134, -⟩, -⟩ := zO134_ok hS
  obtain ⟨⟨o148, -⟩, -⟩ := zO148_ok hS
  unfold zsR zsA at hk
  have hE2 := tX_120 hn2 hw
  apply r_ToldNet_serve hO
  unfold B_ToldNet_serve
  have f0_9 := zf_0_9 hS; have f0_8 := zf_0_8 hS; have z0 := zo_0 hS; have z148 := zo_148 hS
  ((with_reducible refine i_Seq (i_Set (i_Call (i_as1 (i_A0 (i_as1 (i_L1 (i_as0 ?_)))))))); (with_reducible refine i_recv0 (by assumption) ?_); simp only [w_set0, w_set1, w_setn0, w_setn1])
  refine c_find hO hS hT hT5 (fun hx => absurd (show 0 ≤ ((t : Nat) : Int) ∧ ((t : Nat) : Int) < ((T : Nat) : Int) by omega) hx) (fun k e hk1 => ⟨_, rfl, ?_⟩)
  rw [show k = t by omega]
  have hbe := fun (K' : Option zV → zMem → Prop) (E : Nat) (hE : zcnt (tX A) 256 = E) z => c_begin hO hS hx (show 165 < 185 + 13 * t by omega) hA hn2 hw hE (K := K') z
  generalize hEE : zcnt (tX A) 256 = E at hk hE2
  have hbe2 := fun K' => hbe K' E hEE
  clear hbe
  ((with_reducible refine i_Seq (i_If (i_cN (i_A3 ?_)))); (with_reducible refine i_f (by omega) ?_); (with_reducible refine i_RetI (i_eIf (i_cZ_ne (i_Call (i_as1 (i_FR (i_A0 ?_))))))); (with_reducible refine i_fldR (by assumption) ?_); (with_reducible refine i_as1 (i_A3 (i_as0 ?_))); (with_reducible refine i_recv0 (by assumption) ?_))
  refine hbe2 _ (fun M1 f1 hB1 hL1 => ⟨_, rfl, ?_⟩)
  clear hbe2
  have hA1 : zTR M1 (185 + 13 * t) n A := hA.to (fun b j a1 a2 => f1 b j (by omega))
  have hC1 : cSo M1 := hC.to (fun b j q => f1 b j (by omega))
  have hq1 : cQs M1 Q := hq.to (fun b j q => f1 b j (by omega))
  by_cases e9 : E ≤ 9
  · rw [if_pos e9, if_pos e9] at hk
    rw [decide_eq_true e9]
    have hb := zsv_b hn2 hw hQ len (2 ^ E)
    have hgo := fun (K' : Option zV → zMem → Prop) z => c_serveBest hO hS (len := len) hx (show 165 < 185 + 13 * t by omega) hA1 hn1 hn2 hw hq1 hQ hC1 hL1 hEE e9 hB1 (K := K') z
    clear hEE
    (rw [zbI_t]; (with_reducible refine i_t (by omega) ?_); (with_reducible refine i_Call (i_as1 (i_FR (i_A0 ?_)))); (with_reducible refine i_fldR (by assumption) ?_); (with_reducible refine i_as1 (i_A3 (i_as1 (i_FR (i_A0 ?_))))); (with_reducible refine i_fldR (by assumption) ?_); (with_reducible refine i_as1 (i_L2 (i_as0 ?_))); (with_reducible refine i_recv0 (by assumption) ?_))
    refine hgo _ (fun M2 f2 h2 hA2 => ⟨_, rfl, ?_⟩)
    have hk2 := hk M2 (fun b j q => by rw [f2 b j (by omega), f1 b j (by omega)]) h2 hA2
    clear hgo hk hA2
    generalize zsv n A Q len (2 ^ E) = st at hb hk2 ⊢
    obtain ⟨u, bh, bl⟩ := st
    dsimp only at hb hk2 ⊢
    by_cases r : u = 0
    · rw [if_pos r] at hk2 ⊢
      (skip)
      exact hk2
    · rw [if_neg r] at hk2 ⊢
      (skip)
      exact hk2
  · rw [if_neg e9, if_neg e9] at hk
    rw [decide_eq_false e9]
    have hb : (zsw2 n A Q len).2 ≤ 6000000 := Nat.le_trans (zsi_w (zTs_w hw 0) _).2.2 (zhm_B hn2 hQ)
    have hgo := fun (K' : Option zV → zMem → Prop) z => c_serveSteps hO hS (len := len) hx (show 165 < 185 + 13 * t by omega) hA1 hn1 hn2 hw hq1 hQ hC1 hL1 hEE hB1 (K := K') z
    clear hEE
    (rw [zbI_f]; (with_reducible refine i_f (by omega) ?_); (with_reducible refine i_Call (i_as1 (i_FR (i_A0 ?_)))); (with_reducible refine i_fldR (by assumption) ?_); (with_reducible refine i_as1 (i_A3 (i_as1 (i_FR (i_A0 ?_))))); (with_reducible refine i_fldR (by assumption) ?_); (with_reducible refine i_as1 (i_L2 (i_as0 ?_))); (with_reducible refine i_recv0 (by assumption) ?_))
    refine hgo _ (fun M2 f2 h2 hA2 => ⟨_, rfl, ?_⟩)
    have hk2 := hk M2 (fun b j q => by rw [f2 b j (by omega), f1 b j (by omega)]) h2 hA2
    clear hgo hk hA2
    generalize zsw2 n A Q len = st at hb hk2 ⊢
    generalize tLen n (zTs A 0) = v at hk2 ⊢
    obtain ⟨B, bh⟩ := st
    dsimp only at hb hk2 ⊢
    by_cases r : len < ((v : Nat) : Int)
    · rw [if_pos r] at hk2 ⊢
      (skip)
      exact hk2
    · rw [if_neg r] at hk2 ⊢
      (skip)
      exact hk2
