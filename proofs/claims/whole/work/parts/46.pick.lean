/-! ===== lowest bits; the k-th of a set; the k-th pair of a net ===== -/
/-- the least place below n with s, or n -/
def zfind (s : Nat → Bool) : Nat → Nat
  | 0 => 0
  | n + 1 => if zfind s n < n then zfind s n else if s n = true then n else n + 1
theorem zfind_ok (s : Nat → Bool) (n : Nat) : zfind s n ≤ n ∧ (zfind s n < n → s (zfind s n) = true) ∧ ∀ j, j < zfind s n → s j = false := by
  induction n with
  | zero => exact ⟨Nat.le_refl _, fun h => absurd h (Nat.lt_irrefl _), fun j h => absurd h (Nat.not_lt_zero _)⟩
  | succ n ih =>
    obtain ⟨h1, h2, h3⟩ := ih
    unfold zfind
    by_cases h : zfind s n < n
    · rw [if_pos h]; exact ⟨by omega, fun _ => h2 h, h3⟩
    · rw [if_neg h]
      have e : zfind s n = n := by omega
      cases hs : s n
      · simp only [Bool.false_eq_true, if_false]
        exact ⟨Nat.le_refl _, fun q => absurd q (Nat.lt_irrefl _), fun j hj => by
          rcases Nat.lt_or_ge j n with q | q
          · exact h3 j (by omega)
          · rw [show j = n by omega]; exact hs⟩
      · simp only [if_true]
        exact ⟨by omega, fun _ => hs, fun j hj => h3 j (by omega)⟩
theorem zmkN_low {s t : Nat → Bool} {i : Nat} (hs : s i = true) (ht : t i = false) (h1 : ∀ j, j < i → s j = false ∧ t j = true) (h2 : ∀ j, i < j → s j = t j) (k : Nat) : (k ≤ i → zmkN s k = 0 ∧ zmkN t k + 1 = 2 ^ k) ∧ (i < k → zmkN s k = zmkN t k + 1) := by
  induction k with
  | zero => exact ⟨fun _ => ⟨rfl, rfl⟩, fun h => absurd h (Nat.not_lt_zero _)⟩
  | succ k ih =>
    unfold zmkN
    refine ⟨fun h => ?_, fun h => ?_⟩
    · obtain ⟨a, b⟩ := h1 k (by omega)
      obtain ⟨c, d⟩ := ih.1 (by omega)
      rw [a, b, c]
      simp only [Bool.false_eq_true, if_false, if_true, Nat.pow_succ]
      exact ⟨trivial, by omega⟩
    · rcases Nat.lt_or_ge i k with q | q
      · rw [h2 k q, ih.2 q]; omega
      · have e : k = i := by omega
        subst e
        obtain ⟨c, d⟩ := ih.1 (Nat.le_refl _)
        rw [hs, ht, c]
        simp only [Bool.false_eq_true, if_false, if_true]
        omega
theorem zmk_pred {s : Nat → Bool} {i : Nat} (hi : i < 16) (hs : s i = true) (h1 : ∀ j, j < i → s j = false) : zmk s - 1 = zmk (fun j => decide (j < i) || (decide (i < j) && s j)) := by
  have h := (zmkN_low (t := fun j => decide (j < i) || (decide (i < j) && s j)) hs (by simp) (fun j hj => ⟨h1 j hj, by simp [hj]⟩) (fun j hj => by simp [hj]; intro q; omega) 16).2 hi
  unfold zmk
  rw [h]
  omega
theorem zneg_not (a : Int32) : -a = (a - 1) ^^^ (-1) := by
  rw [Int32.xor_neg_one, Int32.not_eq_neg_sub, Int32.neg_sub]
  exact Int32.eq_sub_iff_add_eq.mpr (by rw [Int32.sub_eq_add_neg, Int32.add_comm])
/-- the lowest bit -/
theorem yand_neg {s : Nat → Bool} {i : Nat} (hi : i < 16) (hs : s i = true) (h1 : ∀ j, j < i → s j = false) : yand (zmk s) (zw32 (-(zmk s))) = zmk (fun j => decide (j = i)) := by
  have hb := zmk_lt s
  rw [zx_s (by omega) (by omega), yand_eq]
  have e : zand (zmk s) (-(zmk s)) = zand (zmk s) (zxor (zmk s - 1) (-1)) := by
    unfold zand zxor
    rw [zi_of]
    unfold zi
    rw [Int32.ofInt_neg, Int32.ofInt_sub, zneg_not]
    rfl
  rw [e, zmk_pred hi hs h1, zmk_not]
  refine zmk_ext fun j _ => ?_
  by_cases q : j = i
  · subst q; simp [hs]
  · rcases Nat.lt_or_ge j i with r | r
    · simp [h1 j r, q]
    · have : i < j := by omega
      simp [q, this, Nat.not_lt.mpr r]
theorem zcnt_below {i : Nat} (n : Nat) : zcnt (fun j => decide (j < i)) n = min i n := by
  induction n with
  | zero => simp [zcnt]
  | succ n ih =>
    unfold zcnt
    rw [ih]
    by_cases h : n < i
    · simp [h]; omega
    · simp [h]; omega
theorem zmk_bit1 {i : Nat} (hi : i < 16) : zmk (fun j => decide (j = i)) - 1 = zmk (fun j => decide (j < i)) := by
  rw [zmk_pred (i := i) hi (by simp) (fun j hj => by simp; omega)]
  refine zmk_ext fun j _ => ?_
  by_cases h : j < i
  · simp [h]
  · simp [h]; omega
theorem s_leastOf {O : zOm} (hO : zWld O) {s : Nat → Bool} {i : Nat} {M : zMem} {K : Option zV → zMem → Prop} (hi : i < 16) (hs : s i = true) (h1 : ∀ j, j < i → s j = false) (hk : K (some (0, (i : Int))) M) : zR O F_ToldNet_leastOf [(0, zmk s)] M K := by
  apply r_ToldNet_leastOf hO
  unfold B_ToldNet_leastOf
  repeat (first | (with_reducible first | refine i_I ?_ | refine i_Ldc ?_ | refine i_LdcL ?_ | refine i_IL ?_ | refine i_Null ?_ | refine i_Add ?_ | refine i_Sub ?_ | refine i_Mul ?_ | refine i_Div ?_ | refine i_Rem ?_ | refine i_And ?_ | refine i_Or ?_ | refine i_Xor ?_ | refine i_Shl ?_ | refine i_Shr ?_ | refine i_Ushr ?_ | refine i_AddL ?_ | refine i_SubL ?_ | refine i_MulL ?_ | refine i_CmpL ?_ | refine i_Neg ?_ | refine i_I2L ?_ | refine i_L2I ?_ | refine i_I2B ?_ | refine i_F ?_ | refine i_FR ?_ | refine i_IA ?_ | refine i_ZA ?_ | refine i_BA ?_ | refine i_LA ?_ | refine i_RA ?_ | refine i_Len ?_ | refine i_MM ?_ | refine i_Call ?_ | refine i_as0 ?_ | refine i_as1 ?_ | refine i_eIf ?_ | refine i_cN ?_ | refine i_cNot ?_ | refine i_cAnd ?_ | refine i_cOr ?_ | refine i_cIf ?_ | refine i_Skip ?_ | refine i_Seq ?_ | refine i_Blk ?_ | refine i_Set ?_ | refine i_sF ?_ | refine i_FO ?_ | refine i_sIA ?_ | refine i_sLA ?_ | refine i_sZA ?_ | refine i_sBA ?_ | refine i_IO ?_ | refine i_Pop ?_ | refine i_sCall ?_ | refine i_Copy ?_ | refine i_RetI ?_ | refine i_RetZ ?_ | refine i_RetL ?_ | refine i_RetR ?_ | refine i_RetV ?_ | refine i_If ?_ | refine i_Ite ?_ | refine i_IteD ?_ | refine i_IfR ?_ | refine i_Brk ?_ | refine i_IfBrk ?_ | refine i_Sw ?_ | refine i_sw0 ?_ | refine i_sw1 ?_ | refine i_cI_eq ?_ | refine i_cI_ne ?_ | refine i_cI_lt ?_ | refine i_cI_ge ?_ | refine i_cI_gt ?_ | refine i_cI_le ?_ | refine i_cZ_eq ?_ | refine i_cZ_ne ?_ | refine i_cZ_lt ?_ | refine i_cZ_ge ?_ | refine i_cZ_gt ?_ | refine i_cZ_le ?_ | refine i_A0 ?_ | refine i_A1 ?_ | refine i_A2 ?_ | refine i_A3 ?_ | refine i_A4 ?_ | refine i_A5 ?_ | refine i_A6 ?_ | refine i_A7 ?_ | refine i_A8 ?_ | refine i_A9 ?_ | refine i_A10 ?_ | refine i_A11 ?_ | refine i_A12 ?_ | refine i_A13 ?_ | refine i_A14 ?_ | refine i_L0 ?_ | refine i_L1 ?_ | refine i_L2 ?_ | refine i_L3 ?_ | refine i_L4 ?_ | refine i_L5 ?_ | refine i_L6 ?_ | refine i_L7 ?_ | refine i_L8 ?_ | refine i_L9 ?_ | refine i_L10 ?_ | refine i_L11 ?_ | refine i_L12 ?_ | refine i_L13 ?_ | refine i_L14 ?_ | refine i_Ll0 ?_ | refine i_Ll1 ?_ | refine i_Ll2 ?_ | refine i_Ll3 ?_ | refine i_Ll4 ?_ | refine i_Ll5 ?_ | refine i_Ll6 ?_ | refine i_Ll7 ?_ | refine i_Ll8 ?_ | refine i_Ll9 ?_ | refine i_Ll10 ?_ | refine i_Ll11 ?_ | refine i_Ll12 ?_ | refine i_Ll13 ?_ | refine i_Ll14 ?_ | refine i_Inc0 ?_ | refine i_Inc1 ?_ | refine i_Inc2 ?_ | refine i_Inc3 ?_ | refine i_Inc4 ?_ | refine i_Inc5 ?_ | refine i_Inc6 ?_ | refine i_Inc7 ?_ | refine i_Inc8 ?_ | refine i_Inc9 ?_ | refine i_Inc10 ?_ | refine i_Inc11 ?_ | refine i_Inc12 ?_ | refine i_Inc13 ?_ | refine i_Inc14 ?_ | refine i_lab0 ?_ | refine i_lab1 ?_ | refine i_lab2 ?_ | refine i_lb0 ?_ | refine i_lb1 ?_ | refine i_recv1 ?_ | refine i_recv2 ?_ | refine i_turn ?_ | refine i_up ?_) | (with_reducible refine i_recv0 (by assumption) ?_) | (with_reducible refine i_fld (by assumption) ?_) | (with_reducible refine i_fldR (by assumption) ?_) | (with_reducible refine i_in (by assumption) (by omega) (by omega) ?_) | (with_reducible refine i_copy (by assumption) (by assumption) (by omega) ?_) | (with_reducible refine i_len (by assumption) (by omega) ?_) | simp only [w_set0, w_set1, w_setn0, w_setn1] | rw [w_setT] | rw [zx_inc (by omega)] | rw [zx_addc (by omega)] | rw [zx_cadd (by omega)] | rw [zx_add (by omega)] | rw [zx_subc (by omega) (by omega)] | rw [zx_sub (by omega) (by omega)] | rw [zx_mulc (by omega)] | rw [zx_cmul (by omega)] | rw [zx_divc (by omega)] | rw [zx_modc] | rw [zx_s (by omega) (by omega)] | (with_reducible refine i_t (by omega) ?_) | (with_reducible refine i_f (by omega) ?_) | (with_reducible refine i_z (Or.inl rfl) ?_) | (with_reducible refine i_z (Or.inr rfl) ?_) | (with_reducible refine i_nn (by decide) ?_))
  rw [yand_neg hi hs h1]
  have hb := zmk_lt (fun j => decide (j = i))
  repeat (first | (with_reducible first | refine i_I ?_ | refine i_Ldc ?_ | refine i_LdcL ?_ | refine i_IL ?_ | refine i_Null ?_ | refine i_Add ?_ | refine i_Sub ?_ | refine i_Mul ?_ | refine i_Div ?_ | refine i_Rem ?_ | refine i_And ?_ | refine i_Or ?_ | refine i_Xor ?_ | refine i_Shl ?_ | refine i_Shr ?_ | refine i_Ushr ?_ | refine i_AddL ?_ | refine i_SubL ?_ | refine i_MulL ?_ | refine i_CmpL ?_ | refine i_Neg ?_ | refine i_I2L ?_ | refine i_L2I ?_ | refine i_I2B ?_ | refine i_F ?_ | refine i_FR ?_ | refine i_IA ?_ | refine i_ZA ?_ | refine i_BA ?_ | refine i_LA ?_ | refine i_RA ?_ | refine i_Len ?_ | refine i_MM ?_ | refine i_Call ?_ | refine i_as0 ?_ | refine i_as1 ?_ | refine i_eIf ?_ | refine i_cN ?_ | refine i_cNot ?_ | refine i_cAnd ?_ | refine i_cOr ?_ | refine i_cIf ?_ | refine i_Skip ?_ | refine i_Seq ?_ | refine i_Blk ?_ | refine i_Set ?_ | refine i_sF ?_ | refine i_FO ?_ | refine i_sIA ?_ | refine i_sLA ?_ | refine i_sZA ?_ | refine i_sBA ?_ | refine i_IO ?_ | refine i_Pop ?_ | refine i_sCall ?_ | refine i_Copy ?_ | refine i_RetI ?_ | refine i_RetZ ?_ | refine i_RetL ?_ | refine i_RetR ?_ | refine i_RetV ?_ | refine i_If ?_ | refine i_Ite ?_ | refine i_IteD ?_ | refine i_IfR ?_ | refine i_Brk ?_ | refine i_IfBrk ?_ | refine i_Sw ?_ | refine i_sw0 ?_ | refine i_sw1 ?_ | refine i_cI_eq ?_ | refine i_cI_ne ?_ | refine i_cI_lt ?_ | refine i_cI_ge ?_ | refine i_cI_gt ?_ | refine i_cI_le ?_ | refine i_cZ_eq ?_ | refine i_cZ_ne ?_ | refine i_cZ_lt ?_ | refine i_cZ_ge ?_ | refine i_cZ_gt ?_ | refine i_cZ_le ?_ | refine i_A0 ?_ | refine i_A1 ?_ | refine i_A2 ?_ | refine i_A3 ?_ | refine i_A4 ?_ | refine i_A5 ?_ | refine i_A6 ?_ | refine i_A7 ?_ | refine i_A8 ?_ | refine i_A9 ?_ | refine i_A10 ?_ | refine i_A11 ?_ | refine i_A12 ?_ | refine i_A13 ?_ | refine i_A14 ?_ | refine i_L0 ?_ | refine i_L1 ?_ | refine i_L2 ?_ | refine i_L3 ?_ | refine i_L4 ?_ | refine i_L5 ?_ | refine i_L6 ?_ | refine i_L7 ?_ | refine i_L8 ?_ | refine i_L9 ?_ | refine i_L10 ?_ | refine i_L11 ?_ | refine i_L12 ?_ | refine i_L13 ?_ | refine i_L14 ?_ | refine i_Ll0 ?_ | refine i_Ll1 ?_ | refine i_Ll2 ?_ | refine i_Ll3 ?_ | refine i_Ll4 ?_ | refine i_Ll5 ?_ | refine i_Ll6 ?_ | refine i_Ll7 ?_ | refine i_Ll8 ?_ | refine i_Ll9 ?_ | refine i_Ll10 ?_ | refine i_Ll11 ?_ | refine i_Ll12 ?_ | refine i_Ll13 ?_ | refine i_Ll14 ?_ | refine i_Inc0 ?_ | refine i_Inc1 ?_ | refine i_Inc2 ?_ | refine i_Inc3 ?_ | refine i_Inc4 ?_ | refine i_Inc5 ?_ | refine i_Inc6 ?_ | refine i_Inc7 ?_ | refine i_Inc8 ?_ | refine i_Inc9 ?_ | refine i_Inc10 ?_ | refine i_Inc11 ?_ | refine i_Inc12 ?_ | refine i_Inc13 ?_ | refine i_Inc14 ?_ | refine i_lab0 ?_ | refine i_lab1 ?_ | refine i_lab2 ?_ | refine i_lb0 ?_ | refine i_lb1 ?_ | refine i_recv1 ?_ | refine i_recv2 ?_ | refine i_turn ?_ | refine i_up ?_) | (with_reducible refine i_recv0 (by assumption) ?_) | (with_reducible refine i_fld (by assumption) ?_) | (with_reducible refine i_fldR (by assumption) ?_) | (with_reducible refine i_in (by assumption) (by omega) (by omega) ?_) | (with_reducible refine i_copy (by assumption) (by assumption) (by omega) ?_) | (with_reducible refine i_len (by assumption) (by omega) ?_) | simp only [w_set0, w_set1, w_setn0, w_setn1] | rw [w_setT] | rw [zx_inc (by omega)] | rw [zx_addc (by omega)] | rw [zx_cadd (by omega)] | rw [zx_add (by omega)] | rw [zx_subc (by omega) (by omega)] | rw [zx_sub (by omega) (by omega)] | rw [zx_mulc (by omega)] | rw [zx_cmul (by omega)] | rw [zx_divc (by omega)] | rw [zx_modc] | rw [zx_s (by omega) (by omega)] | (with_reducible refine i_t (by omega) ?_) | (with_reducible refine i_f (by omega) ?_) | (with_reducible refine i_z (Or.inl rfl) ?_) | (with_reducible refine i_z (Or.inr rfl) ?_) | (with_reducible refine i_nn (by decide) ?_))
  rw [zmk_bit1 hi]
  refine s_bitCount hO ⟨_, rfl, ?_⟩
  repeat (first | (with_reducible first | refine i_I ?_ | refine i_Ldc ?_ | refine i_LdcL ?_ | refine i_IL ?_ | refine i_Null ?_ | refine i_Add ?_ | refine i_Sub ?_ | refine i_Mul ?_ | refine i_Div ?_ | refine i_Rem ?_ | refine i_And ?_ | refine i_Or ?_ | refine i_Xor ?_ | refine i_Shl ?_ | refine i_Shr ?_ | refine i_Ushr ?_ | refine i_AddL ?_ | refine i_SubL ?_ | refine i_MulL ?_ | refine i_CmpL ?_ | refine i_Neg ?_ | refine i_I2L ?_ | refine i_L2I ?_ | refine i_I2B ?_ | refine i_F ?_ | refine i_FR ?_ | refine i_IA ?_ | refine i_ZA ?_ | refine i_BA ?_ | refine i_LA ?_ | refine i_RA ?_ | refine i_Len ?_ | refine i_MM ?_ | refine i_Call ?_ | refine i_as0 ?_ | refine i_as1 ?_ | refine i_eIf ?_ | refine i_cN ?_ | refine i_cNot ?_ | refine i_cAnd ?_ | refine i_cOr ?_ | refine i_cIf ?_ | refine i_Skip ?_ | refine i_Seq ?_ | refine i_Blk ?_ | refine i_Set ?_ | refine i_sF ?_ | refine i_FO ?_ | refine i_sIA ?_ | refine i_sLA ?_ | refine i_sZA ?_ | refine i_sBA ?_ | refine i_IO ?_ | refine i_Pop ?_ | refine i_sCall ?_ | refine i_Copy ?_ | refine i_RetI ?_ | refine i_RetZ ?_ | refine i_RetL ?_ | refine i_RetR ?_ | refine i_RetV ?_ | refine i_If ?_ | refine i_Ite ?_ | refine i_IteD ?_ | refine i_IfR ?_ | refine i_Brk ?_ | refine i_IfBrk ?_ | refine i_Sw ?_ | refine i_sw0 ?_ | refine i_sw1 ?_ | refine i_cI_eq ?_ | refine i_cI_ne ?_ | refine i_cI_lt ?_ | refine i_cI_ge ?_ | refine i_cI_gt ?_ | refine i_cI_le ?_ | refine i_cZ_eq ?_ | refine i_cZ_ne ?_ | refine i_cZ_lt ?_ | refine i_cZ_ge ?_ | refine i_cZ_gt ?_ | refine i_cZ_le ?_ | refine i_A0 ?_ | refine i_A1 ?_ | refine i_A2 ?_ | refine i_A3 ?_ | refine i_A4 ?_ | refine i_A5 ?_ | refine i_A6 ?_ | refine i_A7 ?_ | refine i_A8 ?_ | refine i_A9 ?_ | refine i_A10 ?_ | refine i_A11 ?_ | refine i_A12 ?_ | refine i_A13 ?_ | refine i_A14 ?_ | refine i_L0 ?_ | refine i_L1 ?_ | refine i_L2 ?_ | refine i_L3 ?_ | refine i_L4 ?_ | refine i_L5 ?_ | refine i_L6 ?_ | refine i_L7 ?_ | refine i_L8 ?_ | refine i_L9 ?_ | refine i_L10 ?_ | refine i_L11 ?_ | refine i_L12 ?_ | refine i_L13 ?_ | refine i_L14 ?_ | refine i_Ll0 ?_ | refine i_Ll1 ?_ | refine i_Ll2 ?_ | refine i_Ll3 ?_ | refine i_Ll4 ?_ | refine i_Ll5 ?_ | refine i_Ll6 ?_ | refine i_Ll7 ?_ | refine i_Ll8 ?_ | refine i_Ll9 ?_ | refine i_Ll10 ?_ | refine i_Ll11 ?_ | refine i_Ll12 ?_ | refine i_Ll13 ?_ | refine i_Ll14 ?_ | refine i_Inc0 ?_ | refine i_Inc1 ?_ | refine i_Inc2 ?_ | refine i_Inc3 ?_ | refine i_Inc4 ?_ | refine i_Inc5 ?_ | refine i_Inc6 ?_ | refine i_Inc7 ?_ | refine i_Inc8 ?_ | refine i_Inc9 ?_ | refine i_Inc10 ?_ | refine i_Inc11 ?_ | refine i_Inc12 ?_ | refine i_Inc13 ?_ | refine i_Inc14 ?_ | refine i_lab0 ?_ | refine i_lab1 ?_ | refine i_lab2 ?_ | refine i_lb0 ?_ | refine i_lb1 ?_ | refine i_recv1 ?_ | refine i_recv2 ?_ | refine i_turn ?_ | refine i_up ?_) | (with_reducible refine i_recv0 (by assumption) ?_) | (with_reducible refine i_fld (by assumption) ?_) | (with_reducible refine i_fldR (by assumption) ?_) | (with_reducible refine i_in (by assumption) (by omega) (by omega) ?_) | (with_reducible refine i_copy (by assumption) (by assumption) (by omega) ?_) | (with_reducible refine i_len (by assumption) (by omega) ?_) | simp only [w_set0, w_set1, w_setn0, w_setn1] | rw [w_setT] | rw [zx_inc (by omega)] | rw [zx_addc (by omega)] | rw [zx_cadd (by omega)] | rw [zx_add (by omega)] | rw [zx_subc (by omega) (by omega)] | rw [zx_sub (by omega) (by omega)] | rw [zx_mulc (by omega)] | rw [zx_cmul (by omega)] | rw [zx_divc (by omega)] | rw [zx_modc] | rw [zx_s (by omega) (by omega)] | (with_reducible refine i_t (by omega) ?_) | (with_reducible refine i_f (by omega) ?_) | (with_reducible refine i_z (Or.inl rfl) ?_) | (with_reducible refine i_z (Or.inr rfl) ?_) | (with_reducible refine i_nn (by decide) ?_))
  rw [zcnt_below, show min i 16 = i by omega]
  exact hk
