/-! ===== nearly k: both sides ===== -/
def znr (n k : Nat) (μ : Nat → Nat) (T : Nat → Nat → Bool) (p q : Nat) : Bool := decide (μ p = μ q ∧ zcnt (fun r => decide (r ≠ p ∧ r ≠ q) && (T p r ^^ T q r)) n ≤ k)
/-- does p go into box c of the first ones -/
def zft (n k : Nat) (μ : Nat → Nat) (T : Nat → Nat → Bool) (col : Nat → Nat) (p c : Nat) : Bool := decide (∀ q, q < p → col q = c → znr n k μ T p q = true)
/-- the boxes of the first p posts, and how many -/
def zgc (n k : Nat) (μ : Nat → Nat) (T : Nat → Nat → Bool) : Nat → (Nat → Nat) × Nat
  | 0 => (fun _ => 0, 0)
  | p + 1 => (fun q => if q = p then zfind (zft n k μ T (zgc n k μ T p).1 p) (zgc n k μ T p).2 else (zgc n k μ T p).1 q, if zfind (zft n k μ T (zgc n k μ T p).1 p) (zgc n k μ T p).2 < (zgc n k μ T p).2 then (zgc n k μ T p).2 else (zgc n k μ T p).2 + 1)
theorem zgc_su (n k : Nat) (μ : Nat → Nat) (T : Nat → Nat → Bool) (p : Nat) : zgc n k μ T (p + 1) = (fun q => if q = p then zfind (zft n k μ T (zgc n k μ T p).1 p) (zgc n k μ T p).2 else (zgc n k μ T p).1 q, if zfind (zft n k μ T (zgc n k μ T p).1 p) (zgc n k μ T p).2 < (zgc n k μ T p).2 then (zgc n k μ T p).2 else (zgc n k μ T p).2 + 1) := rfl
theorem zgc_ok (n k : Nat) (μ : Nat → Nat) (T : Nat → Nat → Bool) (p : Nat) : (zgc n k μ T p).2 ≤ p ∧ ∀ q, q < p → (zgc n k μ T p).1 q < (zgc n k μ T p).2 := by
  induction p with
  | zero => exact ⟨Nat.le_refl _, fun q h => absurd h (Nat.not_lt_zero _)⟩
  | succ p ih =>
    obtain ⟨h1, h2⟩ := ih
    rw [zgc_su]
    have hz := zfind_le (zft n k μ T (zgc n k μ T p).1 p) (zgc n k μ T p).2
    dsimp only
    generalize zfind (zft n k μ T (zgc n k μ T p).1 p) (zgc n k μ T p).2 = b at hz ⊢
    refine ⟨by split <;> omega, fun q hq => ?_⟩
    by_cases e : q = p
    · rw [if_pos e]; split <;> omega
    · rw [if_neg e]
      have := h2 q (by omega)
      split <;> omega
theorem m_isNear {O : zOm} (hO : zWld O) (hS : zS O = zmS zC0) {n k p q : Nat} {μ : Nat → Nat} {T : Nat → Nat → Bool} {M : zMem} {K : Option zV → zMem → Prop} (hn : M 250 ((1 : Nat) : Int) = ((n : Nat) : Int)) (hn2 : n ≤ 16) (hT : rMx M 251 T) (hμ : ∀ r : Nat, r < n → M ((252 : Nat) : Int) ((r : Nat) : Int) = ((μ r : Nat) : Int)) (hp : p < n) (hq : q < n) (hk0 : k < 100)
    (hk : K (some (0, zbI (znr n k μ T p q))) M) : zR O F_Model_isNear [(2, 250), (0, ((p : Nat) : Int)), (0, ((q : Nat) : Int)), (0, ((k : Nat) : Int))] M K := by
  have gp := hμ p hp
  have gq := hμ q hq
  apply r_Model_isNear hO
  unfold B_Model_isNear
  have f3 := zMF (k := 3) hS rfl; have a252 := zMA (a := 252) (ty := .int) (n := 16) hS rfl; have f1 := zMF (k := 1) hS rfl; have f2 := zMF (k := 2) hS rfl; have a251 := zMA (a := 251) (ty := .boolean) (n := 256) hS rfl; have zo := zMO hS
  by_cases w : μ p = μ q
  · ((with_reducible refine i_Seq (i_If (i_cI_ne (i_IA (i_FR (i_A0 ?_)))))); (with_reducible refine i_fldR (by assumption) ?_); (with_reducible refine i_L1 ?_); (with_reducible refine i_in (by assumption) (by omega) (by omega) ?_); (with_reducible refine i_IA (i_FR (i_A0 ?_))); (with_reducible refine i_fldR (by assumption) ?_); (with_reducible refine i_L2 ?_); (with_reducible refine i_in (by assumption) (by omega) (by omega) ?_); (rw [gp]); (rw [gq]); ((with_reducible refine i_f (show ¬ (((μ p : Nat) : Int) : Int) ≠ ((μ q : Nat) : Int) by omega) ?_)); (with_reducible refine i_Seq (i_Set (i_I (i_Seq (i_Blk (i_Seq (i_Set (i_I ?_)))))))); simp only [w_set0, w_set1, w_setn0, w_setn1])
    refine w_ForN n (fun r ρ M' => (∃ l, ρ = 250 :: ((p : Nat) : Int) :: ((q : Nat) : Int) :: ((k : Nat) : Int) :: ((zcnt (fun r => decide (r ≠ p ∧ r ≠ q) && (T p r ^^ T q r)) r : Nat) : Int) :: ((r : Nat) : Int) :: l) ∧ M' = M) ⟨⟨_, rfl⟩, rfl⟩ ?_ ?_
    · rintro r ρ M1 X hr ⟨⟨l, rfl⟩, rfl⟩ hX
      have gTp := hT p r (by omega) (by omega)
      have gTq := hT q r (by omega) (by omega)
      have hc := zcnt_le (fun r => decide (r ≠ p ∧ r ≠ q) && (T p r ^^ T q r)) r
      have hX2 : ∀ (l : zLoc) (a tp tq : Bool), decide (r ≠ p ∧ r ≠ q) = a → T p r = tp → T q r = tq → X (250 :: ((p : Nat) : Int) :: ((q : Nat) : Int) :: ((k : Nat) : Int) :: ((zcnt (fun r => decide (r ≠ p ∧ r ≠ q) && (T p r ^^ T q r)) r + (if (a && (tp ^^ tq)) = true then 1 else 0) : Nat) : Int) :: ((r + 1 : Nat) : Int) :: l) M1 := fun l a tp tq h1 h2 h3 => by subst h1; subst h2; subst h3; exact hX _ _ ⟨⟨l, rfl⟩, rfl⟩
      clear hX
      generalize zcnt (fun r => decide (r ≠ p ∧ r ≠ q) && (T p r ^^ T q r)) r = u at hc hX2 ⊢
      by_cases e2 : r = p
      · ((with_reducible refine i_turn (i_cI_lt (i_L5 (i_F (i_A0 ?_))))); (with_reducible refine i_fld (by assumption) ?_); (rw [hn]); (with_reducible refine i_t (by omega) ?_); (with_reducible refine i_If (i_cAnd (i_cAnd (i_cI_ne (i_L5 (i_L1 ?_)))))); (with_reducible refine i_f (by omega) ?_); (with_reducible refine i_up (i_Inc5 ?_)); rw [zx_inc (by omega)]; simp only [w_set0, w_set1, w_setn0, w_setn1])
        exact hX2 _ false _ _ (decide_eq_false (fun z => z.1 e2)) rfl rfl
      · by_cases e3 : r = q
        · ((with_reducible refine i_turn (i_cI_lt (i_L5 (i_F (i_A0 ?_))))); (with_reducible refine i_fld (by assumption) ?_); (rw [hn]); (with_reducible refine i_t (by omega) ?_); (with_reducible refine i_If (i_cAnd (i_cAnd (i_cI_ne (i_L5 (i_L1 ?_)))))); (with_reducible refine i_t (by omega) ?_); (with_reducible refine i_cI_ne (i_L5 (i_L2 ?_))); (with_reducible refine i_f (by omega) ?_); (with_reducible refine i_up (i_Inc5 ?_)); rw [zx_inc (by omega)]; simp only [w_set0, w_set1, w_setn0, w_setn1])
          exact hX2 _ false _ _ (decide_eq_false (fun z => z.2 e3)) rfl rfl
        · generalize T p r = tp at gTp hX2
          generalize T q r = tq at gTq hX2
          cases tp <;> cases tq
          all_goals
            (first | (((with_reducible refine i_turn (i_cI_lt (i_L5 (i_F (i_A0 ?_))))); (with_reducible refine i_fld (by assumption) ?_); (rw [hn]); (with_reducible refine i_t (by omega) ?_); (with_reducible refine i_If (i_cAnd (i_cAnd (i_cI_ne (i_L5 (i_L1 ?_)))))); (with_reducible refine i_t (by omega) ?_); (with_reducible refine i_cI_ne (i_L5 (i_L2 ?_))); (with_reducible refine i_t (by omega) ?_); (with_reducible refine i_cI_ne (i_ZA (i_FR (i_A0 ?_)))); (with_reducible refine i_fldR (by assumption) ?_); (with_reducible refine i_Add (i_Mul (i_I (i_L1 (i_L5 ?_))))); rw [zx_cmul (by omega)]; rw [zx_add (by omega)]; (with_reducible refine i_in (by assumption) (by omega) (by omega) ?_); (with_reducible refine i_ZA (i_FR (i_A0 ?_))); (with_reducible refine i_fldR (by assumption) ?_); (with_reducible refine i_Add (i_Mul (i_I (i_L2 (i_L5 ?_))))); (rw [gTp]); rw [zbI_f]; rw [zx_cmul (by omega)]; rw [zx_add (by omega)]; (with_reducible refine i_in (by assumption) (by omega) (by omega) ?_); (rw [gTq]); rw [zbI_t]; (with_reducible refine i_t (by omega) ?_); (with_reducible refine i_Inc4 (i_up ?_)); rw [zx_inc (by omega)]; simp only [w_set0, w_set1, w_setn0, w_setn1]; (with_reducible refine i_Inc5 ?_); rw [zx_inc (by omega)]; simp only [w_set0, w_set1, w_setn0, w_setn1])) | (((with_reducible refine i_turn (i_cI_lt (i_L5 (i_F (i_A0 ?_))))); (with_reducible refine i_fld (by assumption) ?_); (rw [hn]); (with_reducible refine i_t (by omega) ?_); (with_reducible refine i_If (i_cAnd (i_cAnd (i_cI_ne (i_L5 (i_L1 ?_)))))); (with_reducible refine i_t (by omega) ?_); (with_reducible refine i_cI_ne (i_L5 (i_L2 ?_))); (with_reducible refine i_t (by omega) ?_); (with_reducible refine i_cI_ne (i_ZA (i_FR (i_A0 ?_)))); (with_reducible refine i_fldR (by assumption) ?_); (with_reducible refine i_Add (i_Mul (i_I (i_L1 (i_L5 ?_))))); rw [zx_cmul (by omega)]; rw [zx_add (by omega)]; (with_reducible refine i_in (by assumption) (by omega) (by omega) ?_); (with_reducible refine i_ZA (i_FR (i_A0 ?_))); (with_reducible refine i_fldR (by assumption) ?_); (with_reducible refine i_Add (i_Mul (i_I (i_L2 (i_L5 ?_))))); (rw [gTp]); rw [zbI_t]; rw [zx_cmul (by omega)]; rw [zx_add (by omega)]; (with_reducible refine i_in (by assumption) (by omega) (by omega) ?_); (rw [gTq]); rw [zbI_f]; (with_reducible refine i_t (by omega) ?_); (with_reducible refine i_Inc4 (i_up ?_)); rw [zx_inc (by omega)]; simp only [w_set0, w_set1, w_setn0, w_setn1]; (with_reducible refine i_Inc5 ?_); rw [zx_inc (by omega)]; simp only [w_set0, w_set1, w_setn0, w_setn1])) | (((with_reducible refine i_turn (i_cI_lt (i_L5 (i_F (i_A0 ?_))))); (with_reducible refine i_fld (by assumption) ?_); (rw [hn]); (with_reducible refine i_t (by omega) ?_); (with_reducible refine i_If (i_cAnd (i_cAnd (i_cI_ne (i_L5 (i_L1 ?_)))))); (with_reducible refine i_t (by omega) ?_); (with_reducible refine i_cI_ne (i_L5 (i_L2 ?_))); (with_reducible refine i_t (by omega) ?_); (with_reducible refine i_cI_ne (i_ZA (i_FR (i_A0 ?_)))); (with_reducible refine i_fldR (by assumption) ?_); (with_reducible refine i_Add (i_Mul (i_I (i_L1 (i_L5 ?_))))); rw [zx_cmul (by omega)]; rw [zx_add (by omega)]; (with_reducible refine i_in (by assumption) (by omega) (by omega) ?_); (with_reducible refine i_ZA (i_FR (i_A0 ?_))); (with_reducible refine i_fldR (by assumption) ?_); (with_reducible refine i_Add (i_Mul (i_I (i_L2 (i_L5 ?_))))); (rw [gTp]); rw [zbI_f]; rw [zx_cmul (by omega)]; rw [zx_add (by omega)]; (with_reducible refine i_in (by assumption) (by omega) (by omega) ?_); (rw [gTq]); rw [zbI_f]; (with_reducible refine i_f (by omega) ?_); (with_reducible refine i_up (i_Inc5 ?_)); rw [zx_inc (by omega)]; simp only [w_set0, w_set1, w_setn0, w_setn1])) | (((with_reducible refine i_turn (i_cI_lt (i_L5 (i_F (i_A0 ?_))))); (with_reducible refine i_fld (by assumption) ?_); (rw [hn]); (with_reducible refine i_t (by omega) ?_); (with_reducible refine i_If (i_cAnd (i_cAnd (i_cI_ne (i_L5 (i_L1 ?_)))))); (with_reducible refine i_t (by omega) ?_); (with_reducible refine i_cI_ne (i_L5 (i_L2 ?_))); (with_reducible refine i_t (by omega) ?_); (with_reducible refine i_cI_ne (i_ZA (i_FR (i_A0 ?_)))); (with_reducible refine i_fldR (by assumption) ?_); (with_reducible refine i_Add (i_Mul (i_I (i_L1 (i_L5 ?_))))); rw [zx_cmul (by omega)]; rw [zx_add (by omega)]; (with_reducible refine i_in (by assumption) (by omega) (by omega) ?_); (with_reducible refine i_ZA (i_FR (i_A0 ?_))); (with_reducible refine i_fldR (by assumption) ?_); (with_reducible refine i_Add (i_Mul (i_I (i_L2 (i_L5 ?_))))); (rw [gTp]); rw [zbI_t]; rw [zx_cmul (by omega)]; rw [zx_add (by omega)]; (with_reducible refine i_in (by assumption) (by omega) (by omega) ?_); (rw [gTq]); rw [zbI_t]; (with_reducible refine i_f (by omega) ?_); (with_reducible refine i_up (i_Inc5 ?_)); rw [zx_inc (by omega)]; simp only [w_set0, w_set1, w_setn0, w_setn1])))
            exact hX2 _ true _ _ (decide_eq_true ⟨e2, e3⟩) rfl rfl
    · rintro ρ M1 X ⟨⟨l, rfl⟩, rfl⟩
      have hc := zcnt_le (fun r => decide (r ≠ p ∧ r ≠ q) && (T p r ^^ T q r)) n
      by_cases e : zcnt (fun r => decide (r ≠ p ∧ r ≠ q) && (T p r ^^ T q r)) n ≤ k
      · have hz : znr n k μ T p q = true := decide_eq_true ⟨w, e⟩
        rw [hz] at hk
        generalize zcnt (fun r => decide (r ≠ p ∧ r ≠ q) && (T p r ^^ T q r)) n = u at hc e ⊢
        ((with_reducible refine i_turn (i_cI_lt (i_L5 (i_F (i_A0 ?_))))); (with_reducible refine i_fld (by assumption) ?_); (rw [hn]); (with_reducible refine i_f (by omega) ?_); (with_reducible refine i_RetZ (i_eIf (i_cI_le (i_L4 (i_L3 ?_))))); (with_reducible refine i_t (by omega) ?_); (with_reducible refine i_I ?_); (with_reducible refine i_z (Or.inr rfl) ?_))
        exact hk
      · have hz : znr n k μ T p q = false := decide_eq_false fun z => e z.2
        rw [hz] at hk
        generalize zcnt (fun r => decide (r ≠ p ∧ r ≠ q) && (T p r ^^ T q r)) n = u at hc e ⊢
        ((with_reducible refine i_turn (i_cI_lt (i_L5 (i_F (i_A0 ?_))))); (with_reducible refine i_fld (by assumption) ?_); (rw [hn]); (with_reducible refine i_f (by omega) ?_); (with_reducible refine i_RetZ (i_eIf (i_cI_le (i_L4 (i_L3 ?_))))); (with_reducible refine i_f (by omega) ?_); (with_reducible refine i_I ?_); (with_reducible refine i_z (Or.inl rfl) ?_))
        exact hk
  · have hz : znr n k μ T p q = false := decide_eq_false fun z => w z.1
    rw [hz] at hk
    ((with_reducible refine i_Seq (i_If (i_cI_ne (i_IA (i_FR (i_A0 ?_)))))); (with_reducible refine i_fldR (by assumption) ?_); (with_reducible refine i_L1 ?_); (with_reducible refine i_in (by assumption) (by omega) (by omega) ?_); (with_reducible refine i_IA (i_FR (i_A0 ?_))); (with_reducible refine i_fldR (by assumption) ?_); (with_reducible refine i_L2 ?_); (with_reducible refine i_in (by assumption) (by omega) (by omega) ?_); (rw [gp]); (rw [gq]); ((with_reducible refine i_t (show (((μ p : Nat) : Int) : Int) ≠ ((μ q : Nat) : Int) by omega) ?_)); (with_reducible refine i_RetZ (i_I ?_)); (with_reducible refine i_z (Or.inl rfl) ?_))
    exact hk
theorem m_nearly_bad {O : zOm} (hO : zWld O) (hS : zS O = zmS zC0) {n : Nat} {a b : Int} {M : zMem} {K : Option zV → zMem → Prop} (hn : M 250 ((1 : Nat) : Int) = ((n : Nat) : Int)) (hb : ¬ ((0 ≤ b ∧ b < ((n : Nat) : Int)) ∧ 0 ≤ a ∧ a ≤ 14)) (hk : K (some (0, -1)) M) : zR O F_Model_nearly [(2, 250), (0, a), (0, b)] M K := by
  apply r_Model_nearly hO
  unfold B_Model_nearly
  have f1 := zMF (k := 1) hS rfl; have f57 := zMF (k := 57) hS rfl; have a292 := zMA (a := 292) (ty := .int) (n := 16) hS rfl; have zo := zMO hS
  by_cases h : 0 ≤ b ∧ b < ((n : Nat) : Int)
  · repeat' (first | (with_reducible first | (show zew _ _ _ _ _ _; first | (show zew (zeL _) _ _ _ _ _; first | refine i_L0 ?_ | refine i_L1 ?_ | refine i_L2 ?_ | refine i_L3 ?_ | refine i_L4 ?_ | refine i_L5 ?_ | refine i_L6 ?_ | refine i_L7 ?_ | refine i_L8 ?_ | refine i_L9 ?_ | refine i_L10 ?_ | refine i_L11 ?_ | refine i_L12 ?_ | refine i_L13 ?_ | refine i_L14 ?_) | (show zew (zeA _) _ _ _ _ _; first | refine i_A0 ?_ | refine i_A1 ?_ | refine i_A2 ?_ | refine i_A3 ?_ | refine i_A4 ?_ | refine i_A5 ?_ | refine i_A6 ?_ | refine i_A7 ?_ | refine i_A8 ?_ | refine i_A9 ?_ | refine i_A10 ?_ | refine i_A11 ?_ | refine i_A12 ?_ | refine i_A13 ?_ | refine i_A14 ?_) | refine i_I ?_ | refine i_F ?_ | refine i_FR ?_ | refine i_IA ?_ | refine i_Add ?_ | refine i_Sub ?_ | refine i_And ?_ | refine i_Len ?_ | refine i_Call ?_ | refine i_RA ?_ | refine i_Ldc ?_ | refine i_LdcL ?_ | refine i_IL ?_ | refine i_Null ?_ | refine i_Mul ?_ | refine i_Div ?_ | refine i_Rem ?_ | refine i_Or ?_ | refine i_Xor ?_ | refine i_Shl ?_ | refine i_Shr ?_ | refine i_Ushr ?_ | refine i_AddL ?_ | refine i_SubL ?_ | refine i_MulL ?_ | refine i_CmpL ?_ | refine i_Neg ?_ | refine i_I2L ?_ | refine i_L2I ?_ | refine i_I2B ?_ | refine i_ZA ?_ | refine i_BA ?_ | refine i_LA ?_ | refine i_MM ?_ | refine i_eIf ?_ | refine i_Ll0 ?_ | refine i_Ll1 ?_ | refine i_Ll2 ?_ | refine i_Ll3 ?_ | refine i_Ll4 ?_ | refine i_Ll5 ?_ | refine i_Ll6 ?_ | refine i_Ll7 ?_ | refine i_Ll8 ?_ | refine i_Ll9 ?_ | refine i_Ll10 ?_ | refine i_Ll11 ?_ | refine i_Ll12 ?_ | refine i_Ll13 ?_ | refine i_Ll14 ?_) | (show zsw _ _ _ _ _ _ _ _; first | refine i_Seq ?_ | refine i_Blk ?_ | refine i_Set ?_ | refine i_If ?_ | refine i_sCall ?_ | refine i_RetV ?_ | refine i_RetI ?_ | refine i_sIA ?_ | refine i_sF ?_ | refine i_Skip ?_ | refine i_FO ?_ | refine i_sLA ?_ | refine i_sZA ?_ | refine i_sBA ?_ | refine i_IO ?_ | refine i_Pop ?_ | refine i_Copy ?_ | refine i_RetZ ?_ | refine i_RetL ?_ | refine i_RetR ?_ | refine i_Ite ?_ | refine i_IteD ?_ | refine i_IfR ?_ | refine i_Brk ?_ | refine i_IfBrk ?_ | refine i_Sw ?_ | refine i_Inc0 ?_ | refine i_Inc1 ?_ | refine i_Inc2 ?_ | refine i_Inc3 ?_ | refine i_Inc4 ?_ | refine i_Inc5 ?_ | refine i_Inc6 ?_ | refine i_Inc7 ?_ | refine i_Inc8 ?_ | refine i_Inc9 ?_ | refine i_Inc10 ?_ | refine i_Inc11 ?_ | refine i_Inc12 ?_ | refine i_Inc13 ?_ | refine i_Inc14 ?_) | (show zcw _ _ _ _ _ _ _; first | refine i_cN ?_ | refine i_cNot ?_ | refine i_cAnd ?_ | refine i_cOr ?_ | refine i_cIf ?_ | refine i_cI_eq ?_ | refine i_cI_ne ?_ | refine i_cI_lt ?_ | refine i_cI_ge ?_ | refine i_cI_gt ?_ | refine i_cI_le ?_ | refine i_cZ_eq ?_ | refine i_cZ_ne ?_ | refine i_cZ_lt ?_ | refine i_cZ_ge ?_ | refine i_cZ_gt ?_ | refine i_cZ_le ?_) | refine i_as0 ?_ | refine i_as1 ?_ | refine i_sw0 ?_ | refine i_sw1 ?_ | refine i_lab0 ?_ | refine i_lab1 ?_ | refine i_lab2 ?_ | refine i_lb0 ?_ | refine i_lb1 ?_ | refine i_recv1 ?_ | refine i_recv2 ?_ | refine i_turn ?_ | refine i_up ?_) | (with_reducible refine i_z (Or.inl rfl) ?_) | (with_reducible refine i_z (Or.inr rfl) ?_) | (with_reducible refine i_z (zbI_01 _) ?_) | (with_reducible refine i_zin (Or.inl rfl) (by assumption) (by omega) (by omega) ?_) | (with_reducible refine i_zin (Or.inr rfl) (by assumption) (by omega) (by omega) ?_) | (with_reducible refine i_zin (zbI_01 _) (by assumption) (by omega) (by omega) ?_) | (with_reducible refine i_zin (by assumption) (by assumption) (by omega) (by omega) ?_) | (with_reducible refine i_recv0 (by assumption) ?_) | (with_reducible refine i_fld (by assumption) ?_) | (with_reducible refine i_fldR (by assumption) ?_) | (with_reducible refine i_in (by assumption) (by omega) (by omega) ?_) | (with_reducible refine i_copy (by assumption) (by assumption) (by omega) ?_) | (with_reducible refine i_len (by assumption) (by omega) ?_) | rw [zbI_t] | rw [zbI_f] | rw [zg_s] | rw [zg_n _ _ _ (by omega)] | rw [zg_m _ _ _ _ _ (by omega)] | rw [zg_o _ _ (by omega)] | (refine m_isPost hO hS hn ⟨_, rfl, ?_⟩) | (rw [decide_eq_true h]) | rw [zx_inc (by omega)] | rw [zx_addc (by omega)] | rw [zx_cadd (by omega)] | rw [zx_add (by omega)] | rw [zx_subc (by omega) (by omega)] | rw [zx_sub (by omega) (by omega)] | rw [zx_mulc (by omega)] | rw [zx_cmul (by omega)] | rw [zx_divc (by omega)] | rw [zx_modc] | rw [zx_s (by omega) (by omega)] | simp only [w_set0, w_set1, w_setn0, w_setn1] | rw [w_setT] | (with_reducible refine i_t trivial ?_) | (with_reducible refine i_f not_false ?_) | (with_reducible refine i_t (by omega) ?_) | (with_reducible refine i_f (by omega) ?_) | (with_reducible refine i_z (Or.inl rfl) ?_) | (with_reducible refine i_z (Or.inr rfl) ?_) | (with_reducible refine i_nn (by decide) ?_) | (with_reducible refine i_bb ?_ <;> intro hc) | (with_reducible refine i_dne ?_ ?_ <;> intro hc) | (with_reducible refine i_deq ?_ ?_ <;> intro hc) | (with_reducible refine i_bne ?_ ?_ <;> intro hc) | (with_reducible refine i_beq ?_ ?_ <;> intro hc) | (with_reducible refine i_br ?_ ?_ <;> intro hc))
    all_goals first | exact hk | omega
  · repeat' (first | (with_reducible first | (show zew _ _ _ _ _ _; first | (show zew (zeL _) _ _ _ _ _; first | refine i_L0 ?_ | refine i_L1 ?_ | refine i_L2 ?_ | refine i_L3 ?_ | refine i_L4 ?_ | refine i_L5 ?_ | refine i_L6 ?_ | refine i_L7 ?_ | refine i_L8 ?_ | refine i_L9 ?_ | refine i_L10 ?_ | refine i_L11 ?_ | refine i_L12 ?_ | refine i_L13 ?_ | refine i_L14 ?_) | (show zew (zeA _) _ _ _ _ _; first | refine i_A0 ?_ | refine i_A1 ?_ | refine i_A2 ?_ | refine i_A3 ?_ | refine i_A4 ?_ | refine i_A5 ?_ | refine i_A6 ?_ | refine i_A7 ?_ | refine i_A8 ?_ | refine i_A9 ?_ | refine i_A10 ?_ | refine i_A11 ?_ | refine i_A12 ?_ | refine i_A13 ?_ | refine i_A14 ?_) | refine i_I ?_ | refine i_F ?_ | refine i_FR ?_ | refine i_IA ?_ | refine i_Add ?_ | refine i_Sub ?_ | refine i_And ?_ | refine i_Len ?_ | refine i_Call ?_ | refine i_RA ?_ | refine i_Ldc ?_ | refine i_LdcL ?_ | refine i_IL ?_ | refine i_Null ?_ | refine i_Mul ?_ | refine i_Div ?_ | refine i_Rem ?_ | refine i_Or ?_ | refine i_Xor ?_ | refine i_Shl ?_ | refine i_Shr ?_ | refine i_Ushr ?_ | refine i_AddL ?_ | refine i_SubL ?_ | refine i_MulL ?_ | refine i_CmpL ?_ | refine i_Neg ?_ | refine i_I2L ?_ | refine i_L2I ?_ | refine i_I2B ?_ | refine i_ZA ?_ | refine i_BA ?_ | refine i_LA ?_ | refine i_MM ?_ | refine i_eIf ?_ | refine i_Ll0 ?_ | refine i_Ll1 ?_ | refine i_Ll2 ?_ | refine i_Ll3 ?_ | refine i_Ll4 ?_ | refine i_Ll5 ?_ | refine i_Ll6 ?_ | refine i_Ll7 ?_ | refine i_Ll8 ?_ | refine i_Ll9 ?_ | refine i_Ll10 ?_ | refine i_Ll11 ?_ | refine i_Ll12 ?_ | refine i_Ll13 ?_ | refine i_Ll14 ?_) | (show zsw _ _ _ _ _ _ _ _; first | refine i_Seq ?_ | refine i_Blk ?_ | refine i_Set ?_ | refine i_If ?_ | refine i_sCall ?_ | refine i_RetV ?_ | refine i_RetI ?_ | refine i_sIA ?_ | refine i_sF ?_ | refine i_Skip ?_ | refine i_FO ?_ | refine i_sLA ?_ | refine i_sZA ?_ | refine i_sBA ?_ | refine i_IO ?_ | refine i_Pop ?_ | refine i_Copy ?_ | refine i_RetZ ?_ | refine i_RetL ?_ | refine i_RetR ?_ | refine i_Ite ?_ | refine i_IteD ?_ | refine i_IfR ?_ | refine i_Brk ?_ | refine i_IfBrk ?_ | refine i_Sw ?_ | refine i_Inc0 ?_ | refine i_Inc1 ?_ | refine i_Inc2 ?_ | refine i_Inc3 ?_ | refine i_Inc4 ?_ | refine i_Inc5 ?_ | refine i_Inc6 ?_ | refine i_Inc7 ?_ | refine i_Inc8 ?_ | refine i_Inc9 ?_ | refine i_Inc10 ?_ | refine i_Inc11 ?_ | refine i_Inc12 ?_ | refine i_Inc13 ?_ | refine i_Inc14 ?_) | (show zcw _ _ _ _ _ _ _; first | refine i_cN ?_ | refine i_cNot ?_ | refine i_cAnd ?_ | refine i_cOr ?_ | refine i_cIf ?_ | refine i_cI_eq ?_ | refine i_cI_ne ?_ | refine i_cI_lt ?_ | refine i_cI_ge ?_ | refine i_cI_gt ?_ | refine i_cI_le ?_ | refine i_cZ_eq ?_ | refine i_cZ_ne ?_ | refine i_cZ_lt ?_ | refine i_cZ_ge ?_ | refine i_cZ_gt ?_ | refine i_cZ_le ?_) | refine i_as0 ?_ | refine i_as1 ?_ | refine i_sw0 ?_ | refine i_sw1 ?_ | refine i_lab0 ?_ | refine i_lab1 ?_ | refine i_lab2 ?_ | refine i_lb0 ?_ | refine i_lb1 ?_ | refine i_recv1 ?_ | refine i_recv2 ?_ | refine i_turn ?_ | refine i_up ?_) | (with_reducible refine i_z (Or.inl rfl) ?_) | (with_reducible refine i_z (Or.inr rfl) ?_) | (with_reducible refine i_z (zbI_01 _) ?_) | (with_reducible refine i_zin (Or.inl rfl) (by assumption) (by omega) (by omega) ?_) | (with_reducible refine i_zin (Or.inr rfl) (by assumption) (by omega) (by omega) ?_) | (with_reducible refine i_zin (zbI_01 _) (by assumption) (by omega) (by omega) ?_) | (with_reducible refine i_zin (by assumption) (by assumption) (by omega) (by omega) ?_) | (with_reducible refine i_recv0 (by assumption) ?_) | (with_reducible refine i_fld (by assumption) ?_) | (with_reducible refine i_fldR (by assumption) ?_) | (with_reducible refine i_in (by assumption) (by omega) (by omega) ?_) | (with_reducible refine i_copy (by assumption) (by assumption) (by omega) ?_) | (with_reducible refine i_len (by assumption) (by omega) ?_) | rw [zbI_t] | rw [zbI_f] | rw [zg_s] | rw [zg_n _ _ _ (by omega)] | rw [zg_m _ _ _ _ _ (by omega)] | rw [zg_o _ _ (by omega)] | (refine m_isPost hO hS hn ⟨_, rfl, ?_⟩) | (rw [decide_eq_false h]) | rw [zx_inc (by omega)] | rw [zx_addc (by omega)] | rw [zx_cadd (by omega)] | rw [zx_add (by omega)] | rw [zx_subc (by omega) (by omega)] | rw [zx_sub (by omega) (by omega)] | rw [zx_mulc (by omega)] | rw [zx_cmul (by omega)] | rw [zx_divc (by omega)] | rw [zx_modc] | rw [zx_s (by omega) (by omega)] | simp only [w_set0, w_set1, w_setn0, w_setn1] | rw [w_setT] | (with_reducible refine i_t trivial ?_) | (with_reducible refine i_f not_false ?_) | (with_reducible refine i_t (by omega) ?_) | (with_reducible refine i_f (by omega) ?_) | (with_reducible refine i_z (Or.inl rfl) ?_) | (with_reducible refine i_z (Or.inr rfl) ?_) | (with_reducible refine i_nn (by decide) ?_) | (with_reducible refine i_bb ?_ <;> intro hc) | (with_reducible refine i_dne ?_ ?_ <;> intro hc) | (with_reducible refine i_deq ?_ ?_ <;> intro hc) | (with_reducible refine i_bne ?_ ?_ <;> intro hc) | (with_reducible refine i_beq ?_ ?_ <;> intro hc) | (with_reducible refine i_br ?_ ?_ <;> intro hc))
    all_goals first | exact hk | omega
theorem m_nearly {O : zOm} (hO : zWld O) (hS : zS O = zmS zC0) {n k x : Nat} {μ : Nat → Nat} {T : Nat → Nat → Bool} {M : zMem} {K : Option zV → zMem → Prop} (hn : M 250 ((1 : Nat) : Int) = ((n : Nat) : Int)) (hn2 : n ≤ 16) (hT : rMx M 251 T) (hμ : ∀ r : Nat, r < n → M ((252 : Nat) : Int) ((r : Nat) : Int) = ((μ r : Nat) : Int)) (hx : x < n) (hk14 : k ≤ 14)
    (hk : ∀ M', (∀ b j, ¬ b = ((292 : Nat) : Int) → M' b j = M b j) → K (some (0, (((zgc n k μ T n).1 x : Nat) : Int))) M') : zR O F_Model_nearly [(2, 250), (0, ((k : Nat) : Int)), (0, ((x : Nat) : Int))] M K := by
  apply r_Model_nearly hO
  unfold B_Model_nearly
  have f1 := zMF (k := 1) hS rfl; have f57 := zMF (k := 57) hS rfl; have a292 := zMA (a := 292) (ty := .int) (n := 16) hS rfl; have zo := zMO hS
  ((with_reducible refine i_Seq (i_If (i_cOr (i_cOr (i_cZ_lt (i_L1 ?_)))))); (with_reducible refine i_f (by omega) ?_); (with_reducible refine i_cI_gt (i_L1 (i_I ?_))); (with_reducible refine i_f (by omega) ?_); (with_reducible refine i_cNot (i_cZ_ne (i_Call (i_as1 (i_A0 (i_as1 (i_L2 (i_as0 ?_)))))))); (with_reducible refine i_recv0 (by assumption) ?_); (refine m_isPost hO hS hn ⟨_, rfl, ?_⟩); (rw [decide_eq_true (show 0 ≤ ((x : Nat) : Int) ∧ ((x : Nat) : Int) < ((n : Nat) : Int) by omega)]); rw [zbI_t]; (with_reducible refine i_t (by omega) ?_); (with_reducible refine i_Seq (i_Set (i_I (i_Seq (i_Blk (i_Seq (i_Set (i_I ?_)))))))); simp only [w_set0, w_set1, w_setn0, w_setn1])
  refine w_ForN n (fun p ρ M' => (∃ l, ρ = 250 :: ((k : Nat) : Int) :: ((x : Nat) : Int) :: (((zgc n k μ T p).2 : Nat) : Int) :: ((p : Nat) : Int) :: l) ∧ (∀ b j, ¬ b = ((292 : Nat) : Int) → M' b j = M b j) ∧ ∀ r : Nat, r < p → M' ((292 : Nat) : Int) ((r : Nat) : Int) = (((zgc n k μ T p).1 r : Nat) : Int)) ⟨⟨_, rfl⟩, fun _ _ _ => rfl, fun r h => absurd h (Nat.not_lt_zero _)⟩ ?_ ?_
  · rintro p ρ M1 X hp ⟨⟨l, rfl⟩, f1', h1⟩ hX
    have gn := (f1' _ _ (by omega)).trans hn
    obtain ⟨hm1, hm2⟩ := zgc_ok n k μ T p
    rw [zgc_su] at hX
    generalize zgc n k μ T p = s at h1 hm1 hm2 hX ⊢
    obtain ⟨col, m⟩ := s
    dsimp only at h1 hm1 hm2 hX ⊢
    have hbz := zfind_ok (zft n k μ T col p) m
    have hJ : ∀ M' : zMem, (∀ b j, ¬ b = ((292 : Nat) : Int) → M' b j = M b j) → M' ((292 : Nat) : Int) ((p : Nat) : Int) = ((zfind (zft n k μ T col p) m : Nat) : Int) → (∀ r : Nat, r < p → M' ((292 : Nat) : Int) ((r : Nat) : Int) = ((col r : Nat) : Int)) → ∀ r : Nat, r < p + 1 → M' ((292 : Nat) : Int) ((r : Nat) : Int) = ((if r = p then zfind (zft n k μ T col p) m else col r : Nat) : Int) := fun M' _ h2 h3 r hr => by
      by_cases e : r = p
      · rw [if_pos e, e]; exact h2
      · rw [if_neg e]; exact h3 r (by omega)
    ((with_reducible refine i_turn (i_cI_lt (i_L4 (i_F (i_A0 ?_))))); (with_reducible refine i_fld (by assumption) ?_); (rw [gn]); (with_reducible refine i_t (by omega) ?_); (with_reducible refine i_Seq (i_sIA (i_FR (i_A0 ?_)))); (with_reducible refine i_fldR (by assumption) ?_); (with_reducible refine i_L4 (i_I ?_)); (with_reducible refine i_in (by assumption) (by omega) (by omega) ?_); (with_reducible refine i_Seq (i_Blk (i_Seq (i_Set (i_I ?_))))); simp only [w_set0, w_set1, w_setn0, w_setn1]; rw [w_setT])
    refine w_ForN (min m (zfind (zft n k μ T col p) m + 1)) (fun c ρ M' => (∃ l, ρ = 250 :: ((k : Nat) : Int) :: ((x : Nat) : Int) :: ((m : Nat) : Int) :: ((p : Nat) : Int) :: ((c : Nat) : Int) :: l) ∧ (∀ b j, ¬ (b = ((292 : Nat) : Int) ∧ j = ((p : Nat) : Int)) → M' b j = M1 b j) ∧ M' ((292 : Nat) : Int) ((p : Nat) : Int) = (if zfind (zft n k μ T col p) m < c then ((zfind (zft n k μ T col p) m : Nat) : Int) else -1)) ⟨⟨_, rfl⟩, fun b j q => by rw [zg_o _ _ (by omega)], by rw [if_neg (Nat.not_lt_zero _)]; exact zg_s _ _ _ _ _⟩ ?_ ?_
    · rintro c ρ M2 X1 hc ⟨⟨l2, rfl⟩, f2, h2⟩ hX1
      have gn2 : M2 250 ((1 : Nat) : Int) = ((n : Nat) : Int) := (f2 _ _ (by omega)).trans gn
      have gT2 : rMx M2 251 T := hT.to (fun j => by rw [f2 _ _ (by omega), f1' _ _ (by omega)])
      have gμ2 : ∀ r : Nat, r < n → M2 ((252 : Nat) : Int) ((r : Nat) : Int) = ((μ r : Nat) : Int) := fun r hr => by rw [f2 _ _ (by omega), f1' _ _ (by omega)]; exact hμ r hr
      have gc2 : ∀ r : Nat, r < p → M2 ((292 : Nat) : Int) ((r : Nat) : Int) = ((col r : Nat) : Int) := fun r hr => by rw [f2 _ _ (by omega)]; exact h1 r hr
      have hcb : c ≤ zfind (zft n k μ T col p) m := by omega
      have hcm : c < m := by omega
      rw [if_neg (by omega)] at h2
      ((with_reducible refine i_turn (i_cAnd (i_cI_lt (i_L5 (i_L3 ?_))))); (with_reducible refine i_t (by omega) ?_); (with_reducible refine i_cZ_lt (i_IA (i_FR (i_A0 ?_)))); (with_reducible refine i_fldR (by assumption) ?_); (with_reducible refine i_L4 ?_); (with_reducible refine i_in (by assumption) (by omega) (by omega) ?_); (rw [h2]); (with_reducible refine i_t (by omega) ?_); (with_reducible refine i_Blk (i_Seq (i_Set (i_I (i_Seq (i_Blk (i_Seq (i_Set (i_I ?_))))))))); simp only [w_set0, w_set1, w_setn0, w_setn1]; rw [w_setT]; simp only [w_set0, w_set1, w_setn0, w_setn1]; rw [w_setT])
      refine w_ForN p (fun q ρ M' => (∃ l, ρ = 250 :: ((k : Nat) : Int) :: ((x : Nat) : Int) :: ((m : Nat) : Int) :: ((p : Nat) : Int) :: ((c : Nat) : Int) :: zbI (decide (∀ r, r < q → col r = c → znr n k μ T p r = true)) :: ((q : Nat) : Int) :: l) ∧ M' = M2) ⟨⟨_, by rw [decide_eq_true (fun r h => absurd h (Nat.not_lt_zero _))]; rfl⟩, rfl⟩ ?_ ?_
      · rintro q ρ M3 X2 hq ⟨⟨l3, rfl⟩, rfl⟩ hX2
        have gq := gc2 q hq
        have hX3 : ∀ (l : zLoc) (b : Bool), b = decide (∀ r, r < q + 1 → col r = c → znr n k μ T p r = true) → X2 (250 :: ((k : Nat) : Int) :: ((x : Nat) : Int) :: ((m : Nat) : Int) :: ((p : Nat) : Int) :: ((c : Nat) : Int) :: zbI b :: ((q + 1 : Nat) : Int) :: l) M3 := fun l b hb => by subst hb; exact hX2 _ _ ⟨⟨l, rfl⟩, rfl⟩
        clear hX2
        have hsame : (col q = c → znr n k μ T p q = true) → decide (∀ r, r < q → col r = c → znr n k μ T p r = true) = decide (∀ r, r < q + 1 → col r = c → znr n k μ T p r = true) := fun hs => decide_eq_decide.mpr ⟨fun h r hr e => by
          by_cases z : r = q
          · subst z; exact hs e
          · exact h r (by omega) e, fun h r hr e => h r (by omega) e⟩
        by_cases e : col q = c
        · cases hN : znr n k μ T p q
          · ((with_reducible refine i_turn (i_cI_lt (i_L7 (i_L4 ?_)))); (with_reducible refine i_t (by omega) ?_); (with_reducible refine i_If (i_cAnd (i_cI_eq (i_IA (i_FR (i_A0 ?_)))))); (with_reducible refine i_fldR (by assumption) ?_); (with_reducible refine i_L7 ?_); (with_reducible refine i_in (by assumption) (by omega) (by omega) ?_); (with_reducible refine i_L5 ?_); (rw [gq]); ((with_reducible refine i_t (show (((col q : Nat) : Int) : Int) = ((c : Nat) : Int) by omega) ?_)); (with_reducible refine i_cNot (i_cZ_ne (i_Call (i_as1 (i_A0 (i_as1 (i_L4 (i_as1 (i_L7 (i_as1 (i_L1 (i_as0 ?_)))))))))))); (with_reducible refine i_recv0 (by assumption) ?_); (refine m_isNear hO hS gn2 hn2 gT2 gμ2 hp (by omega) (by omega) ⟨_, rfl, ?_⟩); (rw [hN]); rw [zbI_f]; (with_reducible refine i_f (by omega) ?_); (with_reducible refine i_Set (i_I (i_up ?_))); simp only [w_set0, w_set1, w_setn0, w_setn1]; (with_reducible refine i_Inc7 ?_); rw [zx_inc (by omega)]; simp only [w_set0, w_set1, w_setn0, w_setn1])
            exact hX3 _ false (decide_eq_false fun z => by have := z q (by omega) e; rw [hN] at this; cases this).symm
          · have hs := hsame (fun _ => hN)
            generalize decide (∀ r, r < q → col r = c → znr n k μ T p r = true) = bb at hs ⊢
            ((with_reducible refine i_turn (i_cI_lt (i_L7 (i_L4 ?_)))); (with_reducible refine i_t (by omega) ?_); (with_reducible refine i_If (i_cAnd (i_cI_eq (i_IA (i_FR (i_A0 ?_)))))); (with_reducible refine i_fldR (by assumption) ?_); (with_reducible refine i_L7 ?_); (with_reducible refine i_in (by assumption) (by omega) (by omega) ?_); (with_reducible refine i_L5 ?_); (rw [gq]); ((with_reducible refine i_t (show (((col q : Nat) : Int) : Int) = ((c : Nat) : Int) by omega) ?_)); (with_reducible refine i_cNot (i_cZ_ne (i_Call (i_as1 (i_A0 (i_as1 (i_L4 (i_as1 (i_L7 (i_as1 (i_L1 (i_as0 ?_)))))))))))); (with_reducible refine i_recv0 (by assumption) ?_); (refine m_isNear hO hS gn2 hn2 gT2 gμ2 hp (by omega) (by omega) ⟨_, rfl, ?_⟩); (rw [hN]); rw [zbI_t]; (with_reducible refine i_t (by omega) ?_); (with_reducible refine i_up (i_Inc7 ?_)); rw [zx_inc (by omega)]; simp only [w_set0, w_set1, w_setn0, w_setn1])
            exact hX3 _ bb hs
        · have hs := hsame (fun z => absurd z e)
          generalize decide (∀ r, r < q → col r = c → znr n k μ T p r = true) = bb at hs ⊢
          ((with_reducible refine i_turn (i_cI_lt (i_L7 (i_L4 ?_)))); (with_reducible refine i_t (by omega) ?_); (with_reducible refine i_If (i_cAnd (i_cI_eq (i_IA (i_FR (i_A0 ?_)))))); (with_reducible refine i_fldR (by assumption) ?_); (with_reducible refine i_L7 ?_); (with_reducible refine i_in (by assumption) (by omega) (by omega) ?_); (with_reducible refine i_L5 ?_); (rw [gq]); ((with_reducible refine i_f (show ¬ (((col q : Nat) : Int) : Int) = ((c : Nat) : Int) by omega) ?_)); (with_reducible refine i_up (i_Inc7 ?_)); rw [zx_inc (by omega)]; simp only [w_set0, w_set1, w_setn0, w_setn1])
          exact hX3 _ bb hs
      · rintro ρ M3 X2 ⟨⟨l3, rfl⟩, rfl⟩
        have hzf : decide (∀ r, r < p → col r = c → znr n k μ T p r = true) = zft n k μ T col p c := rfl
        rw [hzf]
        by_cases e : c = zfind (zft n k μ T col p) m
        · have ht : zft n k μ T col p c = true := by rw [e]; exact hbz.2.1 (by omega)
          rw [ht]
          ((with_reducible refine i_turn (i_cI_lt (i_L7 (i_L4 ?_)))); rw [zbI_t]; (with_reducible refine i_f (by omega) ?_); (with_reducible refine i_If (i_cZ_ne (i_L6 ?_))); (with_reducible refine i_t (by omega) ?_); (with_reducible refine i_sIA (i_FR (i_A0 ?_))); (with_reducible refine i_fldR (by assumption) ?_); (with_reducible refine i_L4 (i_L5 ?_)); (with_reducible refine i_in (by assumption) (by omega) (by omega) ?_); (with_reducible refine i_up (i_Inc5 ?_)); rw [zx_inc (by omega)]; simp only [w_set0, w_set1, w_setn0, w_setn1])
          refine hX1 _ _ ⟨⟨_, rfl⟩, fun b j q => by rw [zg_o _ _ (by omega)]; exact f2 b j q, ?_⟩
          rw [if_pos (by omega), ← e]; exact zg_s _ _ _ _ _
        · have ht : zft n k μ T col p c = false := hbz.2.2 c (by omega)
          rw [ht]
          ((with_reducible refine i_turn (i_cI_lt (i_L7 (i_L4 ?_)))); rw [zbI_f]; (with_reducible refine i_f (by omega) ?_); (with_reducible refine i_If (i_cZ_ne (i_L6 ?_))); (with_reducible refine i_f (by omega) ?_); (with_reducible refine i_up (i_Inc5 ?_)); rw [zx_inc (by omega)]; simp only [w_set0, w_set1, w_setn0, w_setn1])
          refine hX1 _ _ ⟨⟨_, rfl⟩, f2, ?_⟩
          rw [if_neg (by omega)]; exact h2
    · rintro ρ M2 X1 ⟨⟨l2, rfl⟩, f2, h2⟩
      have gc2 : ∀ r : Nat, r < p → M2 ((292 : Nat) : Int) ((r : Nat) : Int) = ((col r : Nat) : Int) := fun r hr => by rw [f2 _ _ (by omega)]; exact h1 r hr
      have hfr : ∀ b j, ¬ b = ((292 : Nat) : Int) → M2 b j = M b j := fun b j q => by rw [f2 b j (by omega), f1' b j q]
      by_cases w : zfind (zft n k μ T col p) m < m
      · rw [if_pos (by omega)] at h2
        rw [if_pos w] at hX
        by_cases v : min m (zfind (zft n k μ T col p) m + 1) < m
        all_goals
          generalize min m (zfind (zft n k μ T col p) m + 1) = cc at v
          (first | (((with_reducible refine i_turn (i_cAnd (i_cI_lt (i_L5 (i_L3 ?_))))); (with_reducible refine i_t (by omega) ?_); (with_reducible refine i_cZ_lt (i_IA (i_FR (i_A0 ?_)))); (with_reducible refine i_fldR (by assumption) ?_); (with_reducible refine i_L4 ?_); (with_reducible refine i_in (by assumption) (by omega) (by omega) ?_); (rw [h2]); (with_reducible refine i_f (by omega) ?_); (with_reducible refine i_Seq (i_IfBrk (i_cZ_ge (i_IA (i_FR (i_A0 ?_)))))); (with_reducible refine i_fldR (by assumption) ?_); (with_reducible refine i_L4 ?_); (with_reducible refine i_in (by assumption) (by omega) (by omega) ?_); (rw [h2]); (with_reducible refine i_t (by omega) ?_); (with_reducible refine i_lab1 (i_up (i_Inc4 ?_))); rw [zx_inc (by omega)]; simp only [w_set0, w_set1, w_setn0, w_setn1])) | (((with_reducible refine i_turn (i_cAnd (i_cI_lt (i_L5 (i_L3 ?_))))); (with_reducible refine i_f (by omega) ?_); (with_reducible refine i_Seq (i_IfBrk (i_cZ_ge (i_IA (i_FR (i_A0 ?_)))))); (with_reducible refine i_fldR (by assumption) ?_); (with_reducible refine i_L4 ?_); (with_reducible refine i_in (by assumption) (by omega) (by omega) ?_); (rw [h2]); (with_reducible refine i_t (by omega) ?_); (with_reducible refine i_lab1 (i_up (i_Inc4 ?_))); rw [zx_inc (by omega)]; simp only [w_set0, w_set1, w_setn0, w_setn1])))
          exact hX _ _ ⟨⟨_, rfl⟩, hfr, hJ M2 hfr h2 gc2⟩
      · rw [if_neg (by omega)] at h2
        rw [if_neg w] at hX
        have hbm : zfind (zft n k μ T col p) m = m := by omega
        have v : ¬ min m (zfind (zft n k μ T col p) m + 1) < m := by omega
        generalize min m (zfind (zft n k μ T col p) m + 1) = cc at v
        ((with_reducible refine i_turn (i_cAnd (i_cI_lt (i_L5 (i_L3 ?_))))); (with_reducible refine i_f (by omega) ?_); (with_reducible refine i_Seq (i_IfBrk (i_cZ_ge (i_IA (i_FR (i_A0 ?_)))))); (with_reducible refine i_fldR (by assumption) ?_); (with_reducible refine i_L4 ?_); (with_reducible refine i_in (by assumption) (by omega) (by omega) ?_); (rw [h2]); (with_reducible refine i_f (by omega) ?_); (with_reducible refine i_Seq (i_sIA (i_FR (i_A0 ?_)))); (with_reducible refine i_fldR (by assumption) ?_); (with_reducible refine i_L4 (i_L3 ?_)); (with_reducible refine i_in (by assumption) (by omega) (by omega) ?_); (with_reducible refine i_Inc3 (i_up ?_)); rw [zx_inc (by omega)]; simp only [w_set0, w_set1, w_setn0, w_setn1]; (with_reducible refine i_Inc4 ?_); rw [zx_inc (by omega)]; simp only [w_set0, w_set1, w_setn0, w_setn1])
        refine hX _ _ ⟨⟨_, rfl⟩, fun b j q => by rw [zg_o _ _ (by omega)]; exact hfr b j q, hJ _ (fun b j q => by rw [zg_o _ _ (by omega)]; exact hfr b j q) (by rw [zg_s, hbm]) (fun r hr => by rw [zg_o _ _ (by omega)]; exact gc2 r hr)⟩
  · rintro ρ M1 X ⟨⟨l, rfl⟩, f1', h1⟩
    have gn := (f1' _ _ (by omega)).trans hn
    have gx := h1 x hx
    ((with_reducible refine i_turn (i_cI_lt (i_L4 (i_F (i_A0 ?_))))); (with_reducible refine i_fld (by assumption) ?_); (rw [gn]); (with_reducible refine i_f (by omega) ?_); (with_reducible refine i_RetI (i_IA (i_FR (i_A0 ?_)))); (with_reducible refine i_fldR (by assumption) ?_); (with_reducible refine i_L2 ?_); (with_reducible refine i_in (by assumption) (by omega) (by omega) ?_); (rw [gx]))
    exact hk M1 f1'
/-! the class -/
theorem c_fits {O : zOm} (hO : zWld O) (hS : zS O = zmS zC0) {y n k p : Nat} {μ : Nat → Nat} {T : Nat → Nat → Bool} {s : Nat → Bool} {M : zMem} {K : Option zV → zMem → Prop} (hy : zNet (zS O) y) (hN : zNR M y n T) (hT : zReg n T) (hn2 : n ≤ 16) (hμ : ∀ r : Nat, r < n → M ((2 : Nat) : Int) ((r : Nat) : Int) = ((μ r : Nat) : Int)) (hp : p < n) (hk0 : k < 100)
    (hk : K (some (0, zbI (decide (∀ q, q < p → s q = true → znr n k μ T p q = true)))) M) : zR O F_Parting_fits [(2, ((y : Nat) : Int)), (2, ((2 : Nat) : Int)), (0, ((k : Nat) : Int)), (0, ((p : Nat) : Int)), (0, zmk s)] M K := by
  have am : zArr (zS O) ((2 : Nat) : Int) .int 16 := zCA (a := 2) (ty := .int) (n := 16) hS rfl
  obtain ⟨y0, y1, y2, y3⟩ := hy
  have gyp : M ((y + 1 : Nat) : Int) ((p : Nat) : Int) = _ := hN.2 p (by omega)
  have gp := hμ p hp
  apply r_Parting_fits hO
  unfold B_Parting_fits
  ((with_reducible refine i_Seq (i_Blk (i_Seq (i_Set (i_I ?_))))); simp only [w_set0, w_set1, w_setn0, w_setn1])
  refine w_ForN p (fun q ρ M' => (∃ l, ρ = ((y : Nat) : Int) :: ((2 : Nat) : Int) :: ((k : Nat) : Int) :: ((p : Nat) : Int) :: zmk s :: ((q : Nat) : Int) :: l) ∧ M' = M ∧ ∀ r, r < q → s r = true → znr n k μ T p r = true) ⟨⟨_, rfl⟩, rfl, fun r h => absurd h (Nat.not_lt_zero _)⟩ ?_ ?_
  · rintro q ρ M1 X hq ⟨⟨l, rfl⟩, rfl, hall⟩ hX
    have gyq : M1 ((y + 1 : Nat) : Int) ((q : Nat) : Int) = _ := hN.2 q (by omega)
    have gq := hμ q (by omega)
    have hyd := yand_1 s (k := q) (by omega)
    by_cases e : s q = true
    · rw [if_pos e] at hyd
      have hms : yand (yxor (zmk (T p)) (zmk (T q))) (yxor (yor (yshl 1 ((p : Nat) : Int)) (yshl 1 ((q : Nat) : Int))) (-1)) = zmk (fun r => (T p r ^^ T q r) && !(decide (r = p) || decide (r = q))) := by
        rw [yshl_mk (by omega), yshl_mk (by omega), yor_mk, yxor_mk, ynot_mk]
      have hcn : zcnt (fun r => (T p r ^^ T q r) && !(decide (r = p) || decide (r = q))) 16 = zcnt (fun r => decide (r ≠ p ∧ r ≠ q) && (T p r ^^ T q r)) n := by
        rw [zcnt_top (c := n) (fun d hd => ?_) hn2]
        · exact zcnt_ext fun r _ => by
            by_cases a : r = p <;> by_cases b : r = q <;> cases T p r <;> cases T q r <;> simp [a, b]
        · have h1 : T p d = false := by
            cases z : T p d
            · rfl
            · rw [hT.1] at z; have := hT.2.2 d p z; omega
          have h2 : T q d = false := by
            cases z : T q d
            · rfl
            · rw [hT.1] at z; have := hT.2.2 d q z; omega
          rw [h1, h2]; rfl
      have hcl := zcnt_le (fun r => decide (r ≠ p ∧ r ≠ q) && (T p r ^^ T q r)) n
      have hno : znr n k μ T p q = false → decide (∀ q, q < p → s q = true → znr n k μ T p q = true) = false := fun z => decide_eq_false fun y => by have := y q hq e; rw [z] at this; cases this
      by_cases w : μ p = μ q
      · by_cases w2 : zcnt (fun r => decide (r ≠ p ∧ r ≠ q) && (T p r ^^ T q r)) n ≤ k
        · have hN2 : znr n k μ T p q = true := decide_eq_true ⟨w, w2⟩
          generalize zcnt (fun r => decide (r ≠ p ∧ r ≠ q) && (T p r ^^ T q r)) n = u at hcn hcl w2
          ((with_reducible refine i_turn (i_cI_lt (i_L5 (i_L3 ?_)))); (with_reducible refine i_t (by omega) ?_); (with_reducible refine i_If (i_cI_eq (i_And (i_Shr (i_L4 (i_L5 (i_I (i_I ?_)))))))); (rw [hyd]); simp only [w_set0, w_set1, w_setn0, w_setn1]; (with_reducible refine i_t trivial ?_); (with_reducible refine i_Blk (i_Seq (i_Set (i_Xor (i_Or (i_Shl (i_I (i_L3 (i_Shl (i_I (i_L5 (i_I (i_Seq (i_Set (i_Call (i_as1 (i_And (i_Xor (i_IA (i_FR ?_)))))))))))))))))))); simp only [w_set0, w_set1, w_setn0, w_setn1]; (with_reducible refine i_A0 ?_); (with_reducible refine i_fldR (by assumption) ?_); (with_reducible refine i_L3 ?_); (with_reducible refine i_in (by assumption) (by omega) (by omega) ?_); (with_reducible refine i_IA (i_FR (i_A0 ?_))); (with_reducible refine i_fldR (by assumption) ?_); (with_reducible refine i_L5 ?_); (with_reducible refine i_in (by assumption) (by omega) (by omega) ?_); (rw [gyp]); (rw [gyq]); rw [w_setT]; (with_reducible refine i_L6 (i_as0 (i_recv1 ?_))); (rw [hms]); (refine s_bitCount hO ⟨_, rfl, ?_⟩); (with_reducible refine i_If (i_cOr (i_cI_ne (i_IA ?_)))); (rw [hcn]); simp only [w_set0, w_set1, w_setn0, w_setn1]; (with_reducible refine i_A1 (i_L3 ?_)); (with_reducible refine i_in (by assumption) (by omega) (by omega) ?_); (with_reducible refine i_IA (i_A1 (i_L5 ?_))); (with_reducible refine i_in (by assumption) (by omega) (by omega) ?_); (rw [gp]); (rw [gq]); ((with_reducible refine i_f (show ¬ (((μ p : Nat) : Int) : Int) ≠ ((μ q : Nat) : Int) by omega) ?_)); (with_reducible refine i_cI_gt ?_); rw [w_setT]; (with_reducible refine i_L7 (i_L2 ?_)); (with_reducible refine i_f (by omega) ?_); (with_reducible refine i_up (i_Inc5 ?_)); rw [zx_inc (by omega)]; simp only [w_set0, w_set1, w_setn0, w_setn1])
          refine hX _ _ ⟨⟨_, rfl⟩, rfl, fun r hr hs => ?_⟩
          by_cases z : r = q
          · subst z; exact hN2
          · exact hall r (by omega) hs
        · have hN2 : znr n k μ T p q = false := decide_eq_false fun z => w2 z.2
          rw [hno hN2] at hk
          generalize zcnt (fun r => decide (r ≠ p ∧ r ≠ q) && (T p r ^^ T q r)) n = u at hcn hcl w2
          ((with_reducible refine i_turn (i_cI_lt (i_L5 (i_L3 ?_)))); (with_reducible refine i_t (by omega) ?_); (with_reducible refine i_If (i_cI_eq (i_And (i_Shr (i_L4 (i_L5 (i_I (i_I ?_)))))))); (rw [hyd]); simp only [w_set0, w_set1, w_setn0, w_setn1]; (with_reducible refine i_t trivial ?_); (with_reducible refine i_Blk (i_Seq (i_Set (i_Xor (i_Or (i_Shl (i_I (i_L3 (i_Shl (i_I (i_L5 (i_I (i_Seq (i_Set (i_Call (i_as1 (i_And (i_Xor (i_IA (i_FR ?_)))))))))))))))))))); simp only [w_set0, w_set1, w_setn0, w_setn1]; (with_reducible refine i_A0 ?_); (with_reducible refine i_fldR (by assumption) ?_); (with_reducible refine i_L3 ?_); (with_reducible refine i_in (by assumption) (by omega) (by omega) ?_); (with_reducible refine i_IA (i_FR (i_A0 ?_))); (with_reducible refine i_fldR (by assumption) ?_); (with_reducible refine i_L5 ?_); (with_reducible refine i_in (by assumption) (by omega) (by omega) ?_); (rw [gyp]); (rw [gyq]); rw [w_setT]; (with_reducible refine i_L6 (i_as0 (i_recv1 ?_))); (rw [hms]); (refine s_bitCount hO ⟨_, rfl, ?_⟩); (with_reducible refine i_If (i_cOr (i_cI_ne (i_IA ?_)))); (rw [hcn]); simp only [w_set0, w_set1, w_setn0, w_setn1]; (with_reducible refine i_A1 (i_L3 ?_)); (with_reducible refine i_in (by assumption) (by omega) (by omega) ?_); (with_reducible refine i_IA (i_A1 (i_L5 ?_))); (with_reducible refine i_in (by assumption) (by omega) (by omega) ?_); (rw [gp]); (rw [gq]); ((with_reducible refine i_f (show ¬ (((μ p : Nat) : Int) : Int) ≠ ((μ q : Nat) : Int) by omega) ?_)); (with_reducible refine i_cI_gt ?_); rw [w_setT]; (with_reducible refine i_L7 (i_L2 ?_)); (with_reducible refine i_t (by omega) ?_); (with_reducible refine i_RetZ (i_I ?_)); (with_reducible refine i_z (Or.inl rfl) ?_))
          exact hk
      · have hN2 : znr n k μ T p q = false := decide_eq_false fun z => w z.1
        rw [hno hN2] at hk
        ((with_reducible refine i_turn (i_cI_lt (i_L5 (i_L3 ?_)))); (with_reducible refine i_t (by omega) ?_); (with_reducible refine i_If (i_cI_eq (i_And (i_Shr (i_L4 (i_L5 (i_I (i_I ?_)))))))); (rw [hyd]); simp only [w_set0, w_set1, w_setn0, w_setn1]; (with_reducible refine i_t trivial ?_); (with_reducible refine i_Blk (i_Seq (i_Set (i_Xor (i_Or (i_Shl (i_I (i_L3 (i_Shl (i_I (i_L5 (i_I (i_Seq (i_Set (i_Call (i_as1 (i_And (i_Xor (i_IA (i_FR ?_)))))))))))))))))))); simp only [w_set0, w_set1, w_setn0, w_setn1]; (with_reducible refine i_A0 ?_); (with_reducible refine i_fldR (by assumption) ?_); (with_reducible refine i_L3 ?_); (with_reducible refine i_in (by assumption) (by omega) (by omega) ?_); (with_reducible refine i_IA (i_FR (i_A0 ?_))); (with_reducible refine i_fldR (by assumption) ?_); (with_reducible refine i_L5 ?_); (with_reducible refine i_in (by assumption) (by omega) (by omega) ?_); (rw [gyp]); (rw [gyq]); rw [w_setT]; (with_reducible refine i_L6 (i_as0 (i_recv1 ?_))); (rw [hms]); (refine s_bitCount hO ⟨_, rfl, ?_⟩); (with_reducible refine i_If (i_cOr (i_cI_ne (i_IA ?_)))); (rw [hcn]); simp only [w_set0, w_set1, w_setn0, w_setn1]; (with_reducible refine i_A1 (i_L3 ?_)); (with_reducible refine i_in (by assumption) (by omega) (by omega) ?_); (with_reducible refine i_IA (i_A1 (i_L5 ?_))); (with_reducible refine i_in (by assumption) (by omega) (by omega) ?_); (rw [gp]); (rw [gq]); ((with_reducible refine i_t (show (((μ p : Nat) : Int) : Int) ≠ ((μ q : Nat) : Int) by omega) ?_)); (with_reducible refine i_RetZ (i_I ?_)); (with_reducible refine i_z (Or.inl rfl) ?_))
        exact hk
    · rw [if_neg e] at hyd
      ((with_reducible refine i_turn (i_cI_lt (i_L5 (i_L3 ?_)))); (with_reducible refine i_t (by omega) ?_); (with_reducible refine i_If (i_cI_eq (i_And (i_Shr (i_L4 (i_L5 (i_I (i_I ?_)))))))); (rw [hyd]); (with_reducible refine i_f (by omega) ?_); (with_reducible refine i_up (i_Inc5 ?_)); rw [zx_inc (by omega)]; simp only [w_set0, w_set1, w_setn0, w_setn1])
      refine hX _ _ ⟨⟨_, rfl⟩, rfl, fun r hr hs => ?_⟩
      by_cases z : r = q
      · subst z; exact absurd hs e
      · exact hall r (by omega) hs
  · rintro ρ M1 X ⟨⟨l, rfl⟩, rfl, hall⟩
    rw [decide_eq_true hall] at hk
    ((with_reducible refine i_turn (i_cI_lt (i_L5 (i_L3 ?_)))); (with_reducible refine i_f (by omega) ?_); (with_reducible refine i_RetZ (i_I ?_)); (with_reducible refine i_z (Or.inr rfl) ?_))
    exact hk
theorem c_group {O : zOm} (hO : zWld O) (hS : zS O = zmS zC0) {o y n k : Nat} {μ : Nat → Nat} {T : Nat → Nat → Bool} {M : zMem} {K : Option zV → zMem → Prop} (ho : zPar (zS O) o) (ho7 : 90 < o) (hy : zNet (zS O) y) (hyo : y + 1 < o ∨ o + 3 < y) (hN : zNR M y n T) (hT : zReg n T) (hn2 : n ≤ 16) (hμ : ∀ r : Nat, r < n → M ((2 : Nat) : Int) ((r : Nat) : Int) = ((μ r : Nat) : Int)) (hk14 : k ≤ 14)
    (hk : ∀ M', (∀ b j, ¬ (((o : Nat) : Int) ≤ b ∧ b ≤ ((o + 3 : Nat) : Int)) → M' b j = M b j) → (∀ r : Nat, r < n → M' ((o + 1 : Nat) : Int) ((r : Nat) : Int) = (((zgc n k μ T n).1 r : Nat) : Int)) → K none M') : zR O F_Parting_group [(2, ((o : Nat) : Int)), (2, ((y : Nat) : Int)), (2, ((2 : Nat) : Int)), (0, ((k : Nat) : Int))] M K := by
  obtain ⟨o0, o1, o2, o3, o4, o5, o6, o7, o8⟩ := ho
  have hy0 := hy
  obtain ⟨y0, y1, y2, y3⟩ := hy
  have gy := hN.1
  apply r_Parting_group hO
  unfold B_Parting_group
  ((with_reducible refine i_Seq (i_Seq (i_sF (i_A0 (i_F (i_A1 ?_)))))); (with_reducible refine i_fld (by assumption) ?_); (with_reducible refine i_fld (by assumption) ?_); (with_reducible refine i_Seq (i_sF (i_A0 (i_I ?_)))); (with_reducible refine i_fld (by assumption) ?_); (with_reducible refine i_Blk (i_Seq (i_Set (i_I ?_)))); (rw [gy]); simp only [w_set0, w_set1, w_setn0, w_setn1])
  refine w_ForN n (fun p ρ M' => (∃ l, ρ = ((o : Nat) : Int) :: ((y : Nat) : Int) :: ((2 : Nat) : Int) :: ((k : Nat) : Int) :: ((p : Nat) : Int) :: l) ∧ (∀ b j, ¬ (((o : Nat) : Int) ≤ b ∧ b ≤ ((o + 3 : Nat) : Int)) → M' b j = M b j) ∧ M' ((o : Nat) : Int) ((3 : Nat) : Int) = ((n : Nat) : Int) ∧ M' ((o : Nat) : Int) ((4 : Nat) : Int) = (((zgc n k μ T p).2 : Nat) : Int) ∧ (∀ r : Nat, r < p → M' ((o + 1 : Nat) : Int) ((r : Nat) : Int) = (((zgc n k μ T p).1 r : Nat) : Int)) ∧ ∀ c : Nat, c < (zgc n k μ T p).2 → M' ((o + 2 : Nat) : Int) ((c : Nat) : Int) = zmk (fun r => decide (r < p) && decide ((zgc n k μ T p).1 r = c))) ⟨⟨_, rfl⟩, fun b j q => by rw [zg_n _ _ _ (by omega), zg_n _ _ _ (by omega)], by rw [zg_m _ _ _ _ _ (by omega), zg_s], zg_s _ _ _ _ _, fun r h => absurd h (Nat.not_lt_zero _), fun c h => absurd h (Nat.not_lt_zero _)⟩ ?_ ?_
  · rintro p ρ M1 X hp ⟨⟨l, rfl⟩, f1, g3, g4, h1, k1⟩ hX
    have hN1 : zNR M1 y n T := hN.to (fun b j a1 a2 => f1 b j (by omega))
    have gμ1 : ∀ r : Nat, r < n → M1 ((2 : Nat) : Int) ((r : Nat) : Int) = ((μ r : Nat) : Int) := fun r hr => by rw [f1 _ _ (by omega)]; exact hμ r hr
    obtain ⟨hm1, hm2⟩ := zgc_ok n k μ T p
    rw [zgc_su] at hX
    generalize zgc n k μ T p = s at g4 h1 k1 hm1 hm2 hX ⊢
    obtain ⟨col, m⟩ := s
    dsimp only at g4 h1 k1 hm1 hm2 hX ⊢
    have hbz := zfind_ok (zft n k μ T col p) m
    have hfe : ∀ c, decide (∀ q, q < p → (fun r => decide (r < p) && decide (col r = c)) q = true → znr n k μ T p q = true) = zft n k μ T col p c := fun c => decide_eq_decide.mpr ⟨fun h q hq e => h q hq (by dsimp only; rw [decide_eq_true hq, decide_eq_true e]; rfl), fun h q hq e => h q hq (by dsimp only at e; rw [decide_eq_true hq, Bool.true_and] at e; exact of_decide_eq_true e)⟩
    generalize hb : zfind (zft n k μ T col p) m = b0 at hX hbz
    ((with_reducible refine i_turn (i_cI_lt (i_L4 (i_F (i_A0 ?_))))); (with_reducible refine i_fld (by assumption) ?_); (rw [g3]); (with_reducible refine i_t (by omega) ?_); (with_reducible refine i_Blk (i_Seq (i_Set (i_I (i_Seq ?_))))); simp only [w_set0, w_set1, w_setn0, w_setn1]; rw [w_setT])
    refine w_WhileN b0 (fun c ρ M' => (∃ l, ρ = ((o : Nat) : Int) :: ((y : Nat) : Int) :: ((2 : Nat) : Int) :: ((k : Nat) : Int) :: ((p : Nat) : Int) :: ((c : Nat) : Int) :: l) ∧ M' = M1) ⟨⟨_, rfl⟩, rfl⟩ ?_ ?_
    · rintro c ρ M2 X1 hc ⟨⟨l2, rfl⟩, rfl⟩ hX1
      have gc := k1 c (by omega)
      have hA := hbz.2.2 c hc
      ((with_reducible refine i_turn (i_cAnd (i_cI_lt (i_L5 (i_F (i_A0 ?_)))))); (with_reducible refine i_fld (by assumption) ?_); (rw [g4]); (with_reducible refine i_t (by omega) ?_); (with_reducible refine i_cNot (i_cZ_ne (i_Call (i_as1 (i_A1 (i_as1 (i_A2 (i_as1 (i_L3 (i_as1 (i_L4 (i_as1 (i_IA (i_FR (i_A0 ?_))))))))))))))); (with_reducible refine i_fldR (by assumption) ?_); (with_reducible refine i_L5 ?_); (with_reducible refine i_in (by assumption) (by omega) (by omega) ?_); (with_reducible refine i_as0 (i_recv1 ?_)); (rw [gc]); (refine c_fits hO hS hy0 hN1 hT hn2 gμ1 hp (by omega) ⟨_, rfl, ?_⟩); (rw [hfe]); (rw [hA]); rw [zbI_f]; (with_reducible refine i_f (by omega) ?_); (with_reducible refine i_Inc5 ?_); rw [zx_inc (by omega)]; simp only [w_set0, w_set1, w_setn0, w_setn1])
      exact hX1 _ _ ⟨⟨_, rfl⟩, rfl⟩
    · rintro ρ M2 X1 ⟨⟨l2, rfl⟩, rfl⟩
      have hlt : (2 : Nat) ^ 1 = 2 := rfl
      by_cases w : b0 < m
      · have gc := k1 b0 w
        have hA := hbz.2.1 w
        rw [if_pos w] at hX
        have hor : zor (zmk (fun r => decide (r < p) && decide (col r = b0))) (yshl 1 ((p : Nat) : Int)) = zmk (fun r => (decide (r < p) && decide (col r = b0)) || decide (r = p)) := by
          rw [yshl_mk (by omega)]; exact zmk_or _ _
        ((with_reducible refine i_turn (i_cAnd (i_cI_lt (i_L5 (i_F (i_A0 ?_)))))); (with_reducible refine i_fld (by assumption) ?_); (rw [g4]); (with_reducible refine i_t (by omega) ?_); (with_reducible refine i_cNot (i_cZ_ne (i_Call (i_as1 (i_A1 (i_as1 (i_A2 (i_as1 (i_L3 (i_as1 (i_L4 (i_as1 (i_IA (i_FR (i_A0 ?_))))))))))))))); (with_reducible refine i_fldR (by assumption) ?_); (with_reducible refine i_L5 ?_); (with_reducible refine i_in (by assumption) (by omega) (by omega) ?_); (with_reducible refine i_as0 (i_recv1 ?_)); (rw [gc]); (refine c_fits hO hS hy0 hN1 hT hn2 gμ1 hp (by omega) ⟨_, rfl, ?_⟩); (rw [hfe]); (rw [hA]); rw [zbI_t]; (with_reducible refine i_t (by omega) ?_); (with_reducible refine i_Seq (i_If (i_cI_eq (i_L5 (i_F (i_A0 ?_)))))); (with_reducible refine i_fld (by assumption) ?_); (rw [g4]); (with_reducible refine i_f (by omega) ?_); (with_reducible refine i_Seq (i_sIA (i_FR (i_A0 ?_)))); (with_reducible refine i_fldR (by assumption) ?_); (with_reducible refine i_L4 (i_L5 ?_)); (with_reducible refine i_in (by assumption) (by omega) (by omega) ?_); (with_reducible refine i_IO (i_FR (i_A0 ?_))); (with_reducible refine i_fldR (by assumption) ?_); (with_reducible refine i_L5 ?_); (with_reducible refine i_in (by assumption) (by omega) (by omega) ?_); (with_reducible refine i_Shl (i_I (i_L4 (i_up (i_Inc4 ?_))))); rw [zg_n _ _ _ (by omega)]; (rw [gc]); (rw [hor]); rw [zx_inc (by omega)]; simp only [w_set0, w_set1, w_setn0, w_setn1])
        refine hX _ _ ⟨⟨_, rfl⟩, fun b j q => by rw [zg_n _ _ _ (by omega), zg_n _ _ _ (by omega)]; exact f1 b j q, by rw [zg_n _ _ _ (by omega), zg_n _ _ _ (by omega)]; exact g3, by rw [zg_n _ _ _ (by omega), zg_n _ _ _ (by omega)]; exact g4, fun r hr => ?_, fun c hc => ?_⟩
        · rw [zg_n _ _ _ (by omega)]
          by_cases e : r = p
          · subst e; rw [zg_s, if_pos rfl]
          · rw [zg_m _ _ _ _ _ (by omega), if_neg e]; exact h1 r (by omega)
        · by_cases e : c = b0
          · subst e
            rw [zg_s]
            refine zmk_ext fun r _ => ?_
            show _ = (decide (r < p + 1) && decide ((if r = p then c else col r) = c))
            by_cases z : r = p
            · rw [if_pos z, decide_eq_true (show r < p + 1 by omega), decide_eq_true z]; simp
            · rw [if_neg z, decide_eq_false z, Bool.or_false]
              exact zdb (by omega)
          · rw [zg_m _ _ _ _ _ (by omega), zg_n _ _ _ (by omega), k1 c (by omega)]
            refine zmk_ext fun r _ => ?_
            show _ = (decide (r < p + 1) && decide ((if r = p then b0 else col r) = c))
            by_cases z : r = p
            · rw [if_pos z, decide_eq_false (show ¬ r < p by omega), decide_eq_false (show ¬ b0 = c by omega), Bool.and_false]; rfl
            · rw [if_neg z]
              exact zdb (by omega)
      · rw [if_neg w] at hX
        have hbm : b0 = m := by omega
        subst hbm
        have hor : zor 0 (yshl 1 ((p : Nat) : Int)) = zmk (fun r => false || decide (r = p)) := by
          rw [yshl_mk (by omega)]
          have := zmk_or (fun _ => false) (fun i => decide (i = p))
          rwa [← zmk_0] at this
        ((with_reducible refine i_turn (i_cAnd (i_cI_lt (i_L5 (i_F (i_A0 ?_)))))); (with_reducible refine i_fld (by assumption) ?_); (rw [g4]); (with_reducible refine i_f (by omega) ?_); (with_reducible refine i_Seq (i_If (i_cI_eq (i_L5 (i_F (i_A0 ?_)))))); (with_reducible refine i_fld (by assumption) ?_); (rw [g4]); simp only [w_set0, w_set1, w_setn0, w_setn1]; (with_reducible refine i_t trivial ?_); (with_reducible refine i_Seq (i_sIA (i_FR (i_A0 ?_)))); (with_reducible refine i_fldR (by assumption) ?_); (with_reducible refine i_L5 (i_I ?_)); (with_reducible refine i_in (by assumption) (by omega) (by omega) ?_); (with_reducible refine i_FO (i_A0 ?_)); (with_reducible refine i_fld (by assumption) ?_); (with_reducible refine i_I ?_); (with_reducible refine i_fld (by assumption) ?_); (with_reducible refine i_Seq (i_sIA (i_FR (i_A0 ?_)))); (with_reducible refine i_fldR (by assumption) ?_); (with_reducible refine i_L4 (i_L5 ?_)); (with_reducible refine i_in (by assumption) (by omega) (by omega) ?_); (with_reducible refine i_IO (i_FR (i_A0 ?_))); (with_reducible refine i_fldR (by assumption) ?_); (with_reducible refine i_L5 ?_); (with_reducible refine i_in (by assumption) (by omega) (by omega) ?_); (with_reducible refine i_Shl (i_I (i_L4 (i_up (i_Inc4 ?_))))); rw [zg_n _ _ _ (by omega)]; rw [zg_n _ _ _ (by omega)]; rw [zg_n _ _ _ (by omega)]; rw [zg_s]; (rw [g4]); (rw [hor]); rw [zx_inc (by omega)]; rw [zx_inc (by omega)]; simp only [w_set0, w_set1, w_setn0, w_setn1])
        refine hX _ _ ⟨⟨_, rfl⟩, fun b j q => ?_, ?_, ?_, fun r hr => ?_, fun c hc => ?_⟩
        · rw [zg_n _ _ _ (by omega), zg_n _ _ _ (by omega), zg_n _ _ _ (by omega), zg_n _ _ _ (by omega)]; exact f1 b j q
        · rw [zg_n _ _ _ (by omega), zg_n _ _ _ (by omega), zg_m _ _ _ _ _ (by omega), zg_n _ _ _ (by omega)]; exact g3
        · rw [zg_n _ _ _ (by omega), zg_n _ _ _ (by omega)]; exact zg_s _ _ _ _ _
        · rw [zg_n _ _ _ (by omega)]
          by_cases e : r = p
          · subst e; rw [zg_s, if_pos rfl]
          · rw [zg_m _ _ _ _ _ (by omega), zg_n _ _ _ (by omega), zg_n _ _ _ (by omega), if_neg e]; exact h1 r (by omega)
        · by_cases e : c = b0
          · subst e
            rw [zg_s]
            refine zmk_ext fun r _ => ?_
            show _ = (decide (r < p + 1) && decide ((if r = p then c else col r) = c))
            by_cases z : r = p
            · rw [if_pos z, decide_eq_true (show r < p + 1 by omega), decide_eq_true z]; simp
            · rw [if_neg z, decide_eq_false z]
              by_cases y2 : r < p
              · have := hm2 r y2
                rw [decide_eq_false (show ¬ col r = c by omega), Bool.and_false]; rfl
              · rw [decide_eq_false (show ¬ r < p + 1 by omega)]; rfl
          · rw [zg_m _ _ _ _ _ (by omega), zg_n _ _ _ (by omega), zg_n _ _ _ (by omega), zg_m _ _ _ _ _ (by omega), k1 c (by omega)]
            refine zmk_ext fun r _ => ?_
            show _ = (decide (r < p + 1) && decide ((if r = p then b0 else col r) = c))
            by_cases z : r = p
            · rw [if_pos z, decide_eq_false (show ¬ r < p by omega), decide_eq_false (show ¬ b0 = c by omega), Bool.and_false]; rfl
            · rw [if_neg z]
              exact zdb (by omega)
  · rintro ρ M1 X ⟨⟨l, rfl⟩, f1, g3, g4, h1, k1⟩
    ((with_reducible refine i_turn (i_cI_lt (i_L4 (i_F (i_A0 ?_))))); (with_reducible refine i_fld (by assumption) ?_); (rw [g3]); (with_reducible refine i_f (by omega) ?_); (with_reducible refine i_RetV ?_))
    exact hk M1 f1 h1
