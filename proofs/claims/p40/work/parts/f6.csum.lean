/-! ===== sums over sorts: the class ===== -/
theorem zx_dv {a b : Nat} (ha : a < 2147483648) : zw32 ((((a : Nat) : Int) : Int).tdiv ((b : Nat) : Int)) = ((a / b : Nat) : Int) := zx_n (Int.ofNat_tdiv a b).symm (Nat.lt_of_le_of_lt (Nat.div_le_self _ _) ha)
theorem zmean_le {C r R : Nat} (hC : C ≤ R) : 1000 * C * r / R ≤ 1000 * r := by
  rcases Nat.eq_zero_or_pos R with e | e
  · subst e; rw [Nat.div_zero]; exact Nat.zero_le _
  · refine Nat.div_le_of_le_mul ?_
    have h1 : 1000 * C * r ≤ 1000 * R * r := Nat.mul_le_mul_right _ (Nat.mul_le_mul_left _ hC)
    have h2 : 1000 * R * r = R * (1000 * r) := by rw [Nat.mul_comm 1000 R, Nat.mul_assoc]
    omega
theorem c_share {O : zOm} (hO : zWld O) (hS : zS O = zmS zC0) {n kind a b' how k : Nat} {A : zTl} {M : zMem} {K : Option zV → zMem → Prop} (hn2 : n ≤ 16) (hk5 : k < 512) (hF : M ((135 : Nat) : Int) ((zplc k : Nat) : Int) = ((tR n A k : Nat) : Int) ∧ M ((136 : Nat) : Int) ((zplc k : Nat) : Int) = ((tQ n A k : Nat) : Int)) (hA : M ((138 : Nat) : Int) ((zplc k : Nat) : Int) = ((zas n A kind a b' k : Nat) : Int)) (hr : zas n A kind a b' k ≠ 0) (hh : how ≤ 3)
    (hk : K (some (0, ((zshr' n A kind a b' how k : Nat) : Int))) M) : zR O F_Sorts_share [(2, ((134 : Nat) : Int)), (0, ((zplc k : Nat) : Int)), (0, ((how : Nat) : Int))] M K := by
  obtain ⟨⟨s0, s1, s2, s3, s4, s5, s6, s7, s8⟩, -, ⟨t1, t2, t3, t4, t5, t6, t7⟩⟩ := zO134_ok hS
  obtain ⟨g1, g2⟩ := hF
  have b1 : tR n A k ≤ 120 := tR_le n A k hn2
  have b2 := tQ_R n A k
  have b3 := zas_R n A kind a b' k
  have hpl := zplc_lt hk5
  have hsd := zplc_said hk5
  have hdf : zshr' n A kind a b' how k = if how = 3 then min (tQ n A k) (zas n A kind a b' k) - (tQ n A k - (tR n A k - zas n A kind a b' k)) else if how = 2 then (if k < 256 then 1000 * tQ n A k * zas n A kind a b' k / tR n A k else 1000 * zas n A kind a b' k - 1000 * tQ n A k * zas n A kind a b' k / tR n A k) else if k < 256 then (if how = 0 then tQ n A k - (tR n A k - zas n A kind a b' k) else min (tQ n A k) (zas n A kind a b' k)) else (if how = 0 then zas n A kind a b' k - min (tQ n A k) (zas n A kind a b' k) else zas n A kind a b' k - (tQ n A k - (tR n A k - zas n A kind a b' k))) := rfl
  rw [hdf] at hk
  generalize tR n A k = R at g1 b1 b2 b3 hk
  generalize tQ n A k = C at g2 b2 hk
  generalize zas n A kind a b' k = r at hA hr b3 hk
  generalize zplc k = pl at hA g1 g2 hpl hsd ⊢
  have hmx : (if (3 : Nat) = 3 then max 0 (((C : Nat) : Int) - (((R : Nat) : Int) - ((r : Nat) : Int))) else min 0 (((C : Nat) : Int) - (((R : Nat) : Int) - ((r : Nat) : Int)))) = (((C - (R - r) : Nat) : Int) : Int) := by rw [if_pos rfl]; omega
  have hmx2 : (if (3 : Nat) = 3 then max 0 (((C : Nat) : Int) - ((R - r : Nat) : Int)) else min 0 (((C : Nat) : Int) - ((R - r : Nat) : Int))) = (((C - (R - r) : Nat) : Int) : Int) := by rw [if_pos rfl]; omega
  have hmx3 : (if True then max 0 (((C : Nat) : Int) - ((R - r : Nat) : Int)) else min 0 (((C : Nat) : Int) - ((R - r : Nat) : Int))) = (((C - (R - r) : Nat) : Int) : Int) := by rw [if_pos trivial]; omega
  have hml : 1000 * C * r ≤ 1000 * 120 * 120 := Nat.mul_le_mul (Nat.mul_le_mul_left _ (by omega)) (by omega)
  have hmn := zmean_le (r := r) b2
  apply r_Sorts_share hO
  unfold B_Sorts_share
  by_cases h3 : how = 3
  · subst h3
    rw [if_pos rfl] at hk
    ((with_reducible refine i_Seq (i_Set (i_IA (i_FR (i_A0 ?_))))); (with_reducible refine i_fldR (by assumption) ?_); (with_reducible refine i_L1 ?_); (with_reducible refine i_in (by assumption) (by omega) (by omega) ?_); (with_reducible refine i_Seq (i_Set (i_MM (i_I (i_Sub (i_IA (i_FR ?_))))))); (rw [hA]); simp only [w_set0, w_set1, w_setn0, w_setn1]; (with_reducible refine i_A0 ?_); (with_reducible refine i_fldR (by assumption) ?_); (with_reducible refine i_L1 ?_); (with_reducible refine i_in (by assumption) (by omega) (by omega) ?_); (with_reducible refine i_Sub (i_IA (i_FR (i_A0 ?_)))); (with_reducible refine i_fldR (by assumption) ?_); (with_reducible refine i_L1 ?_); (with_reducible refine i_in (by assumption) (by omega) (by omega) ?_); (with_reducible refine i_L3 (i_Seq (i_Set (i_MM (i_IA (i_FR ?_)))))); (rw [g1]); (rw [g2]); rw [zx_sub (by omega) (by omega)]; (rw [zx_s (x := ((C : Nat) : Int) - ((R - r : Nat) : Int)) (by omega) (by omega)]); (rw [hmx3]); simp only [w_set0, w_set1, w_setn0, w_setn1]; (with_reducible refine i_A0 ?_); (with_reducible refine i_fldR (by assumption) ?_); (with_reducible refine i_L1 ?_); (with_reducible refine i_in (by assumption) (by omega) (by omega) ?_); (with_reducible refine i_L3 (i_Seq (i_If (i_cI_eq ?_)))); (rw [g2]); (rw [zmn4]); simp only [w_set0, w_set1, w_setn0, w_setn1]; (with_reducible refine i_L2 (i_I ?_)); (with_reducible refine i_t (by omega) ?_); (with_reducible refine i_RetI (i_Sub (i_L5 (i_L4 ?_)))); rw [zx_sub (by omega) (by omega)])
    exact hk
  · rw [if_neg h3] at hk
    by_cases h2 : how = 2
    · subst h2
      rw [if_pos rfl] at hk
      by_cases w : k < 256
      · have hs : decide (pl % 2 = 1) = false := decide_eq_false (fun z => hsd.mp z w)
        rw [if_pos w] at hk
        ((with_reducible refine i_Seq (i_Set (i_IA (i_FR (i_A0 ?_))))); (with_reducible refine i_fldR (by assumption) ?_); (with_reducible refine i_L1 ?_); (with_reducible refine i_in (by assumption) (by omega) (by omega) ?_); (with_reducible refine i_Seq (i_Set (i_MM (i_I (i_Sub (i_IA (i_FR ?_))))))); (rw [hA]); simp only [w_set0, w_set1, w_setn0, w_setn1]; (with_reducible refine i_A0 ?_); (with_reducible refine i_fldR (by assumption) ?_); (with_reducible refine i_L1 ?_); (with_reducible refine i_in (by assumption) (by omega) (by omega) ?_); (with_reducible refine i_Sub (i_IA (i_FR (i_A0 ?_)))); (with_reducible refine i_fldR (by assumption) ?_); (with_reducible refine i_L1 ?_); (with_reducible refine i_in (by assumption) (by omega) (by omega) ?_); (with_reducible refine i_L3 (i_Seq (i_Set (i_MM (i_IA (i_FR ?_)))))); (rw [g1]); (rw [g2]); rw [zx_sub (by omega) (by omega)]; (rw [zx_s (x := ((C : Nat) : Int) - ((R - r : Nat) : Int)) (by omega) (by omega)]); (rw [hmx3]); simp only [w_set0, w_set1, w_setn0, w_setn1]; (with_reducible refine i_A0 ?_); (with_reducible refine i_fldR (by assumption) ?_); (with_reducible refine i_L1 ?_); (with_reducible refine i_in (by assumption) (by omega) (by omega) ?_); (with_reducible refine i_L3 (i_Seq (i_If (i_cI_eq ?_)))); (rw [g2]); (rw [zmn4]); simp only [w_set0, w_set1, w_setn0, w_setn1]; (with_reducible refine i_L2 (i_I ?_)); (with_reducible refine i_f (by omega) ?_); (with_reducible refine i_Seq (i_If (i_cI_eq (i_L2 (i_I ?_))))); (with_reducible refine i_t (by omega) ?_); (with_reducible refine i_Seq (i_Set (i_eIf (i_cI_lt (i_IA (i_FR (i_A0 ?_))))))); (with_reducible refine i_fldR (by assumption) ?_); (with_reducible refine i_L1 ?_); (with_reducible refine i_in (by assumption) (by omega) (by omega) ?_); (with_reducible refine i_I ?_); (rw [g1]); (with_reducible refine i_f (by omega) ?_); (with_reducible refine i_Div (i_Mul (i_Mul (i_I (i_IA (i_FR (i_A0 ?_))))))); (with_reducible refine i_fldR (by assumption) ?_); (with_reducible refine i_L1 ?_); (with_reducible refine i_in (by assumption) (by omega) (by omega) ?_); (with_reducible refine i_L3 (i_IA (i_FR (i_A0 ?_)))); (with_reducible refine i_fldR (by assumption) ?_); (with_reducible refine i_L1 ?_); (with_reducible refine i_in (by assumption) (by omega) (by omega) ?_); (rw [g1]); (rw [g2]); ((with_reducible refine i_nn (show (((R : Nat) : Int) : Int) ≠ 0 by omega) ?_)); (with_reducible refine i_RetI (i_eIf (i_cZ_ne (i_Call (i_as1 ?_))))); rw [zx_cmul (by omega)]; (rw [zx_mul (by omega)]); (rw [zx_dv (by omega)]); simp only [w_set0, w_set1, w_setn0, w_setn1]; (with_reducible refine i_L1 (i_as0 (i_recv1 ?_))); (refine c_isSaid hO hpl ⟨_, rfl, ?_⟩); (rw [hs]); rw [zbI_f]; (with_reducible refine i_f (by omega) ?_); (with_reducible refine i_L6 ?_))
        exact hk
      · have hs : decide (pl % 2 = 1) = true := decide_eq_true (hsd.mpr w)
        rw [if_neg w] at hk
        ((with_reducible refine i_Seq (i_Set (i_IA (i_FR (i_A0 ?_))))); (with_reducible refine i_fldR (by assumption) ?_); (with_reducible refine i_L1 ?_); (with_reducible refine i_in (by assumption) (by omega) (by omega) ?_); (with_reducible refine i_Seq (i_Set (i_MM (i_I (i_Sub (i_IA (i_FR ?_))))))); (rw [hA]); simp only [w_set0, w_set1, w_setn0, w_setn1]; (with_reducible refine i_A0 ?_); (with_reducible refine i_fldR (by assumption) ?_); (with_reducible refine i_L1 ?_); (with_reducible refine i_in (by assumption) (by omega) (by omega) ?_); (with_reducible refine i_Sub (i_IA (i_FR (i_A0 ?_)))); (with_reducible refine i_fldR (by assumption) ?_); (with_reducible refine i_L1 ?_); (with_reducible refine i_in (by assumption) (by omega) (by omega) ?_); (with_reducible refine i_L3 (i_Seq (i_Set (i_MM (i_IA (i_FR ?_)))))); (rw [g1]); (rw [g2]); rw [zx_sub (by omega) (by omega)]; (rw [zx_s (x := ((C : Nat) : Int) - ((R - r : Nat) : Int)) (by omega) (by omega)]); (rw [hmx3]); simp only [w_set0, w_set1, w_setn0, w_setn1]; (with_reducible refine i_A0 ?_); (with_reducible refine i_fldR (by assumption) ?_); (with_reducible refine i_L1 ?_); (with_reducible refine i_in (by assumption) (by omega) (by omega) ?_); (with_reducible refine i_L3 (i_Seq (i_If (i_cI_eq ?_)))); (rw [g2]); (rw [zmn4]); simp only [w_set0, w_set1, w_setn0, w_setn1]; (with_reducible refine i_L2 (i_I ?_)); (with_reducible refine i_f (by omega) ?_); (with_reducible refine i_Seq (i_If (i_cI_eq (i_L2 (i_I ?_))))); (with_reducible refine i_t (by omega) ?_); (with_reducible refine i_Seq (i_Set (i_eIf (i_cI_lt (i_IA (i_FR (i_A0 ?_))))))); (with_reducible refine i_fldR (by assumption) ?_); (with_reducible refine i_L1 ?_); (with_reducible refine i_in (by assumption) (by omega) (by omega) ?_); (with_reducible refine i_I ?_); (rw [g1]); (with_reducible refine i_f (by omega) ?_); (with_reducible refine i_Div (i_Mul (i_Mul (i_I (i_IA (i_FR (i_A0 ?_))))))); (with_reducible refine i_fldR (by assumption) ?_); (with_reducible refine i_L1 ?_); (with_reducible refine i_in (by assumption) (by omega) (by omega) ?_); (with_reducible refine i_L3 (i_IA (i_FR (i_A0 ?_)))); (with_reducible refine i_fldR (by assumption) ?_); (with_reducible refine i_L1 ?_); (with_reducible refine i_in (by assumption) (by omega) (by omega) ?_); (rw [g1]); (rw [g2]); ((with_reducible refine i_nn (show (((R : Nat) : Int) : Int) ≠ 0 by omega) ?_)); (with_reducible refine i_RetI (i_eIf (i_cZ_ne (i_Call (i_as1 ?_))))); rw [zx_cmul (by omega)]; (rw [zx_mul (by omega)]); (rw [zx_dv (by omega)]); simp only [w_set0, w_set1, w_setn0, w_setn1]; (with_reducible refine i_L1 (i_as0 (i_recv1 ?_))); (refine c_isSaid hO hpl ⟨_, rfl, ?_⟩); (rw [hs]); rw [zbI_t]; (with_reducible refine i_t (by omega) ?_); (with_reducible refine i_Sub (i_Mul (i_I (i_L3 (i_L6 ?_))))); rw [zx_cmul (by omega)]; rw [zx_sub (by omega) (by omega)])
        exact hk
    · rw [if_neg h2] at hk
      by_cases w : k < 256
      · have hs : decide (pl % 2 = 1) = false := decide_eq_false (fun z => hsd.mp z w)
        rw [if_pos w] at hk
        by_cases h0 : how = 0
        all_goals
          first | rw [if_pos h0] at hk | rw [if_neg h0] at hk
          (first | (((with_reducible refine i_Seq (i_Set (i_IA (i_FR (i_A0 ?_))))); (with_reducible refine i_fldR (by assumption) ?_); (with_reducible refine i_L1 ?_); (with_reducible refine i_in (by assumption) (by omega) (by omega) ?_); (with_reducible refine i_Seq (i_Set (i_MM (i_I (i_Sub (i_IA (i_FR ?_))))))); (rw [hA]); simp only [w_set0, w_set1, w_setn0, w_setn1]; (with_reducible refine i_A0 ?_); (with_reducible refine i_fldR (by assumption) ?_); (with_reducible refine i_L1 ?_); (with_reducible refine i_in (by assumption) (by omega) (by omega) ?_); (with_reducible refine i_Sub (i_IA (i_FR (i_A0 ?_)))); (with_reducible refine i_fldR (by assumption) ?_); (with_reducible refine i_L1 ?_); (with_reducible refine i_in (by assumption) (by omega) (by omega) ?_); (with_reducible refine i_L3 (i_Seq (i_Set (i_MM (i_IA (i_FR ?_)))))); (rw [g1]); (rw [g2]); rw [zx_sub (by omega) (by omega)]; (rw [zx_s (x := ((C : Nat) : Int) - ((R - r : Nat) : Int)) (by omega) (by omega)]); (rw [hmx3]); simp only [w_set0, w_set1, w_setn0, w_setn1]; (with_reducible refine i_A0 ?_); (with_reducible refine i_fldR (by assumption) ?_); (with_reducible refine i_L1 ?_); (with_reducible refine i_in (by assumption) (by omega) (by omega) ?_); (with_reducible refine i_L3 (i_Seq (i_If (i_cI_eq ?_)))); (rw [g2]); (rw [zmn4]); simp only [w_set0, w_set1, w_setn0, w_setn1]; (with_reducible refine i_L2 (i_I ?_)); (with_reducible refine i_f (by omega) ?_); (with_reducible refine i_Seq (i_If (i_cI_eq (i_L2 (i_I ?_))))); (with_reducible refine i_f (by omega) ?_); (with_reducible refine i_Seq (i_If (i_cZ_ne (i_Call (i_as1 (i_L1 (i_as0 (i_recv1 ?_)))))))); (refine c_isSaid hO hpl ⟨_, rfl, ?_⟩); (rw [hs]); rw [zbI_f]; (with_reducible refine i_f (by omega) ?_); (with_reducible refine i_RetI (i_eIf (i_cZ_eq (i_L2 ?_)))); (with_reducible refine i_t (by omega) ?_); (with_reducible refine i_L4 ?_))) | (((with_reducible refine i_Seq (i_Set (i_IA (i_FR (i_A0 ?_))))); (with_reducible refine i_fldR (by assumption) ?_); (with_reducible refine i_L1 ?_); (with_reducible refine i_in (by assumption) (by omega) (by omega) ?_); (with_reducible refine i_Seq (i_Set (i_MM (i_I (i_Sub (i_IA (i_FR ?_))))))); (rw [hA]); simp only [w_set0, w_set1, w_setn0, w_setn1]; (with_reducible refine i_A0 ?_); (with_reducible refine i_fldR (by assumption) ?_); (with_reducible refine i_L1 ?_); (with_reducible refine i_in (by assumption) (by omega) (by omega) ?_); (with_reducible refine i_Sub (i_IA (i_FR (i_A0 ?_)))); (with_reducible refine i_fldR (by assumption) ?_); (with_reducible refine i_L1 ?_); (with_reducible refine i_in (by assumption) (by omega) (by omega) ?_); (with_reducible refine i_L3 (i_Seq (i_Set (i_MM (i_IA (i_FR ?_)))))); (rw [g1]); (rw [g2]); rw [zx_sub (by omega) (by omega)]; (rw [zx_s (x := ((C : Nat) : Int) - ((R - r : Nat) : Int)) (by omega) (by omega)]); (rw [hmx3]); simp only [w_set0, w_set1, w_setn0, w_setn1]; (with_reducible refine i_A0 ?_); (with_reducible refine i_fldR (by assumption) ?_); (with_reducible refine i_L1 ?_); (with_reducible refine i_in (by assumption) (by omega) (by omega) ?_); (with_reducible refine i_L3 (i_Seq (i_If (i_cI_eq ?_)))); (rw [g2]); (rw [zmn4]); simp only [w_set0, w_set1, w_setn0, w_setn1]; (with_reducible refine i_L2 (i_I ?_)); (with_reducible refine i_f (by omega) ?_); (with_reducible refine i_Seq (i_If (i_cI_eq (i_L2 (i_I ?_))))); (with_reducible refine i_f (by omega) ?_); (with_reducible refine i_Seq (i_If (i_cZ_ne (i_Call (i_as1 (i_L1 (i_as0 (i_recv1 ?_)))))))); (refine c_isSaid hO hpl ⟨_, rfl, ?_⟩); (rw [hs]); rw [zbI_f]; (with_reducible refine i_f (by omega) ?_); (with_reducible refine i_RetI (i_eIf (i_cZ_eq (i_L2 ?_)))); (with_reducible refine i_f (by omega) ?_); (with_reducible refine i_L5 ?_))))
          exact hk
      · have hs : decide (pl % 2 = 1) = true := decide_eq_true (hsd.mpr w)
        rw [if_neg w] at hk
        by_cases h0 : how = 0
        all_goals
          first | rw [if_pos h0] at hk | rw [if_neg h0] at hk
          (first | (((with_reducible refine i_Seq (i_Set (i_IA (i_FR (i_A0 ?_))))); (with_reducible refine i_fldR (by assumption) ?_); (with_reducible refine i_L1 ?_); (with_reducible refine i_in (by assumption) (by omega) (by omega) ?_); (with_reducible refine i_Seq (i_Set (i_MM (i_I (i_Sub (i_IA (i_FR ?_))))))); (rw [hA]); simp only [w_set0, w_set1, w_setn0, w_setn1]; (with_reducible refine i_A0 ?_); (with_reducible refine i_fldR (by assumption) ?_); (with_reducible refine i_L1 ?_); (with_reducible refine i_in (by assumption) (by omega) (by omega) ?_); (with_reducible refine i_Sub (i_IA (i_FR (i_A0 ?_)))); (with_reducible refine i_fldR (by assumption) ?_); (with_reducible refine i_L1 ?_); (with_reducible refine i_in (by assumption) (by omega) (by omega) ?_); (with_reducible refine i_L3 (i_Seq (i_Set (i_MM (i_IA (i_FR ?_)))))); (rw [g1]); (rw [g2]); rw [zx_sub (by omega) (by omega)]; (rw [zx_s (x := ((C : Nat) : Int) - ((R - r : Nat) : Int)) (by omega) (by omega)]); (rw [hmx3]); simp only [w_set0, w_set1, w_setn0, w_setn1]; (with_reducible refine i_A0 ?_); (with_reducible refine i_fldR (by assumption) ?_); (with_reducible refine i_L1 ?_); (with_reducible refine i_in (by assumption) (by omega) (by omega) ?_); (with_reducible refine i_L3 (i_Seq (i_If (i_cI_eq ?_)))); (rw [g2]); (rw [zmn4]); simp only [w_set0, w_set1, w_setn0, w_setn1]; (with_reducible refine i_L2 (i_I ?_)); (with_reducible refine i_f (by omega) ?_); (with_reducible refine i_Seq (i_If (i_cI_eq (i_L2 (i_I ?_))))); (with_reducible refine i_f (by omega) ?_); (with_reducible refine i_Seq (i_If (i_cZ_ne (i_Call (i_as1 (i_L1 (i_as0 (i_recv1 ?_)))))))); (refine c_isSaid hO hpl ⟨_, rfl, ?_⟩); (rw [hs]); rw [zbI_t]; (with_reducible refine i_t (by omega) ?_); (with_reducible refine i_RetI (i_eIf (i_cZ_eq (i_L2 ?_)))); (with_reducible refine i_t (by omega) ?_); (with_reducible refine i_Sub (i_L3 (i_L5 ?_))); rw [zx_sub (by omega) (by omega)])) | (((with_reducible refine i_Seq (i_Set (i_IA (i_FR (i_A0 ?_))))); (with_reducible refine i_fldR (by assumption) ?_); (with_reducible refine i_L1 ?_); (with_reducible refine i_in (by assumption) (by omega) (by omega) ?_); (with_reducible refine i_Seq (i_Set (i_MM (i_I (i_Sub (i_IA (i_FR ?_))))))); (rw [hA]); simp only [w_set0, w_set1, w_setn0, w_setn1]; (with_reducible refine i_A0 ?_); (with_reducible refine i_fldR (by assumption) ?_); (with_reducible refine i_L1 ?_); (with_reducible refine i_in (by assumption) (by omega) (by omega) ?_); (with_reducible refine i_Sub (i_IA (i_FR (i_A0 ?_)))); (with_reducible refine i_fldR (by assumption) ?_); (with_reducible refine i_L1 ?_); (with_reducible refine i_in (by assumption) (by omega) (by omega) ?_); (with_reducible refine i_L3 (i_Seq (i_Set (i_MM (i_IA (i_FR ?_)))))); (rw [g1]); (rw [g2]); rw [zx_sub (by omega) (by omega)]; (rw [zx_s (x := ((C : Nat) : Int) - ((R - r : Nat) : Int)) (by omega) (by omega)]); (rw [hmx3]); simp only [w_set0, w_set1, w_setn0, w_setn1]; (with_reducible refine i_A0 ?_); (with_reducible refine i_fldR (by assumption) ?_); (with_reducible refine i_L1 ?_); (with_reducible refine i_in (by assumption) (by omega) (by omega) ?_); (with_reducible refine i_L3 (i_Seq (i_If (i_cI_eq ?_)))); (rw [g2]); (rw [zmn4]); simp only [w_set0, w_set1, w_setn0, w_setn1]; (with_reducible refine i_L2 (i_I ?_)); (with_reducible refine i_f (by omega) ?_); (with_reducible refine i_Seq (i_If (i_cI_eq (i_L2 (i_I ?_))))); (with_reducible refine i_f (by omega) ?_); (with_reducible refine i_Seq (i_If (i_cZ_ne (i_Call (i_as1 (i_L1 (i_as0 (i_recv1 ?_)))))))); (refine c_isSaid hO hpl ⟨_, rfl, ?_⟩); (rw [hs]); rw [zbI_t]; (with_reducible refine i_t (by omega) ?_); (with_reducible refine i_RetI (i_eIf (i_cZ_eq (i_L2 ?_)))); (with_reducible refine i_f (by omega) ?_); (with_reducible refine i_Sub (i_L3 (i_L4 ?_))); rw [zx_sub (by omega) (by omega)])))
          exact hk
theorem zshr_0 {n kind a b' how k : Nat} {A : zTl} (h : zas n A kind a b' k = 0) : zshr' n A kind a b' how k = 0 := by
  have b2 := tQ_R n A k
  unfold zshr' zlsF zlsM
  rw [h]
  simp only [Nat.mul_zero, Nat.zero_div, Nat.min_zero, Nat.sub_zero, Nat.zero_sub]
  rw [show tQ n A k - tR n A k = 0 by omega]
  simp
theorem zshr_le {n kind a b' how k : Nat} {A : zTl} (hn : n ≤ 16) : zshr' n A kind a b' how k ≤ 120000 := by
  have h1 := zls_ok n A kind a b' k
  have h2 : zas n A kind a b' k ≤ 120 := zp2_le _ hn
  have h3 := zmean_le (r := zas n A kind a b' k) (tQ_R n A k)
  unfold zshr'
  split
  · omega
  · split
    · split
      · omega
      · exact Nat.le_trans (Nat.sub_le _ _) (by omega)
    · split <;> split <;> omega
/-- the pairs asked for that count, in the order in which the class goes -/
def zgk (n : Nat) (A : zTl) (kind a b k : Nat) (p q : Nat) : Bool := zod kind a b p q && decide (zso (tf A) p q (tS n A p q) = k ∧ tvs A p q ≠ 1)
def zga (n : Nat) (A : zTl) (kind a b : Nat) (p q : Nat) : Bool := zod kind a b p q && (decide (tvs A p q = 1) && !tS n A p q)
theorem zgk_all {n kind a b k : Nat} {A : zTl} (h : kind = 0 → a ≠ b) : zsum (fun r => zcnt (zgk n A kind a b k r) n) n = zas n A kind a b k := by
  have e := zsq_p2 (n := n) (kind := kind) (a := a) (b := b) (G := fun p q => decide (zso (tf A) p q (tS n A p q) = k ∧ tvs A p q ≠ 1)) h (fun p q => by rw [tS_s (n := n) (A := A) p q, zso_s (tf A) p q, tvs_s A p q])
  refine e.trans (zp2_ext fun p q hpq _ => ?_)
  rw [tvs_lt hpq]; rfl
theorem zga_all {n kind a b : Nat} {A : zTl} (h : kind = 0 → a ≠ b) : zsum (fun r => zcnt (zga n A kind a b r) n) n = zqA n A kind a b := by
  have e := zsq_p2 (n := n) (kind := kind) (a := a) (b := b) (G := fun p q => decide (tvs A p q = 1) && !tS n A p q) h (fun p q => by rw [tS_s (n := n) (A := A) p q, tvs_s A p q])
  refine e.trans (zp2_ext fun p q hpq _ => ?_)
  rw [tvs_lt hpq]
theorem zod_all {n kind a b : Nat} (hn : n ≤ 16) (h : kind = 0 → a ≠ b) : zsum (fun r => zcnt (fun q => zod kind a b r q && true) n) n ≤ 120 := by
  rw [zsq_p2 (G := fun _ _ => true) h (fun _ _ => rfl)]
  exact zp2_le _ hn
theorem cTk.to' {M M' : zMem} {n : Nat} {A : zTl} (h : cTk M n A) (e : ∀ b j, (b = ((134 : Nat) : Int) ∧ j = 6 ∨ ((135 : Nat) : Int) ≤ b ∧ b ≤ ((137 : Nat) : Int) ∨ b = ((139 : Nat) : Int) ∨ ((141 : Nat) : Int) ≤ b ∧ b ≤ ((144 : Nat) : Int)) → M' b j = M b j) (h7 : ∀ k : Nat, k < 512 → M' ((138 : Nat) : Int) ((k : Nat) : Int) = 0) : cTk M' n A := by
  obtain ⟨h1, ⟨c, U, h2, h3, h4, h5, h6⟩, h8, ⟨h9, h10⟩, -⟩ := h
  exact ⟨fun k hk => by rw [e _ _ (by omega), e _ _ (by omega)]; exact h1 k hk, ⟨c, U, by rw [e _ _ (by omega)]; exact h2, h3, fun i hi => by rw [e _ _ (by omega)]; exact h4 i hi, h5, h6⟩, fun p q hp hq hpq => by rw [e _ _ (by omega)]; exact h8 p q hp hq hpq, ⟨h9.to (fun b j a1 a2 => e b j (by omega)), h10.to (fun b j a1 a2 => e b j (by omega))⟩, h7⟩
theorem c_sum {O : zOm} (hO : zWld O) (hS : zS O = zmS zC0) {n kind a b' how : Nat} {b : Int} {A : zTl} {M : zMem} {K : Option zV → zMem → Prop} (hn1 : 0 < n) (hn2 : n ≤ 16) (hw : zTw n A) (hQ : zQok n kind a b b') (h3 : kind < 3) (hh : how ≤ 3) (hT : cTk M n A)
    (hk : ∀ M', (∀ b j, ¬ (b = ((134 : Nat) : Int) ∧ j = 7 ∨ b = ((138 : Nat) : Int) ∨ b = ((140 : Nat) : Int)) → M' b j = M b j) → cTk M' n A → K (some (0, ((zqS n A kind a b' how : Nat) : Int))) M') : zR O F_Sorts_sum [(2, ((134 : Nat) : Int)), (0, ((n : Nat) : Int)), (0, ((kind : Nat) : Int)), (0, ((a : Nat) : Int)), (0, b), (0, ((how : Nat) : Int))] M K := by
  obtain ⟨⟨s0, s1, s2, s3, s4, s5, s6, s7, s8⟩, -, ⟨t1, t2, t3, t4, t5, t6, t7⟩⟩ := zO134_ok hS
  have hT0 := hT
  obtain ⟨k1, -, k3, -, k5⟩ := hT
  have hab : kind = 0 → a ≠ b' := fun e => by rcases hQ with h | h | h <;> omega
  have hall := zall_mk hn2
  have hpw : (1 : Nat) ≤ 2 ^ n := Nat.one_le_two_pow
  have hpw2 : (2 : Nat) ^ n ≤ 65536 := Nat.pow_le_pow_right (n := 2) (by decide) hn2
  apply r_Sorts_sum hO
  unfold B_Sorts_sum
  ((with_reducible refine i_Seq (i_Set (i_I (i_Seq (i_sF ?_))))); simp only [w_set0, w_set1, w_setn0, w_setn1]; (with_reducible refine i_A0 (i_I ?_)); (with_reducible refine i_fld (by assumption) ?_); (with_reducible refine i_Seq (i_Blk (i_Seq (i_Set (i_I ?_))))); simp only [w_set0, w_set1, w_setn0, w_setn1])
  -- what is counted ahead of a place
  refine w_ForN n (fun p ρ M' => (∃ l, ρ = ((134 : Nat) : Int) :: ((n : Nat) : Int) :: ((kind : Nat) : Int) :: ((a : Nat) : Int) :: b :: ((how : Nat) : Int) :: ((zsq (zga n A kind a b') n p 0 : Nat) : Int) :: ((p : Nat) : Int) :: l) ∧ (∀ b j, ¬ (b = ((134 : Nat) : Int) ∧ j = 7 ∨ b = ((138 : Nat) : Int) ∨ b = ((140 : Nat) : Int)) → M' b j = M b j) ∧ (∀ k : Nat, k < 512 → M' ((138 : Nat) : Int) ((zplc k : Nat) : Int) = ((zsq (zgk n A kind a b' k) n p 0 : Nat) : Int)) ∧ ∃ (c : Nat) (V : Nat → Nat), M' ((134 : Nat) : Int) ((7 : Nat) : Int) = ((c : Nat) : Int) ∧ c ≤ zsq (fun p q => zod kind a b' p q && true) n p 0 ∧ (∀ i : Nat, i < c → M' ((140 : Nat) : Int) ((i : Nat) : Int) = ((zplc (V i) : Nat) : Int) ∧ V i < 512) ∧ (∀ i j, i < j → j < c → V i ≠ V j) ∧ (∀ i, i < c → zsq (zgk n A kind a b' (V i)) n p 0 ≠ 0) ∧ ∀ k : Nat, k < 512 → (∀ i, i < c → V i ≠ k) → zsq (zgk n A kind a b' k) n p 0 = 0) ⟨⟨_, rfl⟩, fun b j q => by rw [zg_o _ _ (by omega)], fun k hk1 => by rw [zg_n _ _ _ (by omega)]; exact k5 _ (zplc_lt hk1), ⟨0, fun _ => 0, zg_s _ _ _ _ _, Nat.le_refl _, fun i hi => absurd hi (Nat.not_lt_zero _), fun i j _ hj => absurd hj (Nat.not_lt_zero _), fun i hi => absurd hi (Nat.not_lt_zero _), fun k _ _ => rfl⟩⟩ ?_ ?_
  · rintro p ρ M1 X hp ⟨⟨l, rfl⟩, f1, z1, ⟨c, V, w1, w2, w3, w4, w5, w6⟩⟩ hX
    have hlt0 := zsq_all (g := zga n A kind a b') hp (Nat.zero_le n)
    have hpar := fun (M' : zMem) (K' : Option zV → zMem → Prop) (z : K' (some (0, zmk (fun q => decide (q < n) && zod kind a b' p q))) M') => c_partners hO hn2 hQ h3 hp (K := K') z
    rw [zga_all hab] at hlt0
    have hat : zqA n A kind a b' ≤ 120 := zp2_le _ hn2
    -- the next row, where this one is done
    have hnext : ∀ (l : zLoc) (M' : zMem), (∀ b j, ¬ (b = ((134 : Nat) : Int) ∧ j = 7 ∨ b = ((138 : Nat) : Int) ∨ b = ((140 : Nat) : Int)) → M' b j = M b j) → (∀ k : Nat, k < 512 → M' ((138 : Nat) : Int) ((zplc k : Nat) : Int) = ((zsq (zgk n A kind a b' k) n p n : Nat) : Int)) → (∃ (c : Nat) (V : Nat → Nat), M' ((134 : Nat) : Int) ((7 : Nat) : Int) = ((c : Nat) : Int) ∧ c ≤ zsq (fun p q => zod kind a b' p q && true) n p n ∧ (∀ i : Nat, i < c → M' ((140 : Nat) : Int) ((i : Nat) : Int) = ((zplc (V i) : Nat) : Int) ∧ V i < 512) ∧ (∀ i j, i < j → j < c → V i ≠ V j) ∧ (∀ i, i < c → zsq (zgk n A kind a b' (V i)) n p n ≠ 0) ∧ ∀ k : Nat, k < 512 → (∀ i, i < c → V i ≠ k) → zsq (zgk n A kind a b' k) n p n = 0) → X (((134 : Nat) : Int) :: ((n : Nat) : Int) :: ((kind : Nat) : Int) :: ((a : Nat) : Int) :: b :: ((how : Nat) : Int) :: ((zsq (zga n A kind a b') n p n : Nat) : Int) :: ((p + 1 : Nat) : Int) :: l) M' := fun l M' g1 g2 g3 => hX _ _ ⟨⟨l, rfl⟩, g1, g2, g3⟩
    clear hX
    by_cases e0 : zmk (fun q => decide (q < n) && zod kind a b' p q) = 0
    · have hno : ∀ q, q < n → zod kind a b' p q = false := fun q hq => by
        have := (zmk_eq0 _).mp e0 q (by omega)
        rwa [decide_eq_true hq, Bool.true_and] at this
      have hsame : ∀ G : Nat → Nat → Bool, zsq (fun p q => zod kind a b' p q && G p q) n p n = zsq (fun p q => zod kind a b' p q && G p q) n p 0 := fun G => by
        unfold zsq
        rw [zcnt_z (fun q hq => by show (zod kind a b' p q && G p q) = false; rw [hno q hq]; rfl)]; rfl
      have h1 : zsq (zga n A kind a b') n p n = zsq (zga n A kind a b') n p 0 := hsame _
      have h2 : ∀ k, zsq (zgk n A kind a b' k) n p n = zsq (zgk n A kind a b' k) n p 0 := fun k => hsame _
      have h4 : zsq (fun p q => zod kind a b' p q && true) n p n = zsq (fun p q => zod kind a b' p q && true) n p 0 := hsame _
      ((with_reducible refine i_turn (i_cI_lt (i_L7 (i_L1 ?_)))); (with_reducible refine i_t (by omega) ?_); (with_reducible refine i_Blk (i_Seq (i_Set (i_Call (i_as1 (i_L2 (i_as1 (i_L3 (i_as1 (i_L4 (i_as1 (i_L7 (i_as1 (i_Sub (i_Shl (i_I (i_L1 (i_I (i_as0 (i_recv1 ?_)))))))))))))))))))); (rw [yshl_1 (show n < 31 by omega)]); (rw [zx_subc (by omega) (by omega)]); (refine hpar _ _ ⟨_, rfl, ?_⟩); (with_reducible refine i_Blk (i_Seq (i_Set (i_I ?_)))); (rw [e0]); simp only [w_set0, w_set1, w_setn0, w_setn1]; rw [w_setT]; simp only [w_set0, w_set1, w_setn0, w_setn1]; rw [w_setT])
      refine w_ForN 0 (fun _ ρ M' => (∃ l, ρ = ((134 : Nat) : Int) :: ((n : Nat) : Int) :: ((kind : Nat) : Int) :: ((a : Nat) : Int) :: b :: ((how : Nat) : Int) :: ((zsq (zga n A kind a b') n p 0 : Nat) : Int) :: ((p : Nat) : Int) :: 0 :: 0 :: l) ∧ M' = M1) ⟨⟨_, rfl⟩, rfl⟩ (fun k _ _ _ h => absurd h (Nat.not_lt_zero _)) ?_
      rintro ρ M2 X2 ⟨⟨l2, rfl⟩, rfl⟩
      ((with_reducible refine i_turn (i_cAnd (i_cI_lt (i_L9 (i_L1 ?_))))); (with_reducible refine i_t (by omega) ?_); (with_reducible refine i_cZ_ne (i_L8 ?_)); (with_reducible refine i_f (by omega) ?_); (with_reducible refine i_up (i_Inc7 ?_)); rw [zx_inc (by omega)]; simp only [w_set0, w_set1, w_setn0, w_setn1])
      rw [← h1]
      exact hnext _ M2 f1 (fun k hk1 => by rw [h2]; exact z1 k hk1) ⟨c, V, w1, by rw [h4]; exact w2, w3, w4, fun i hi => by rw [h2]; exact w5 i hi, fun k hk1 hn => by rw [h2]; exact w6 k hk1 hn⟩
    · ((with_reducible refine i_turn (i_cI_lt (i_L7 (i_L1 ?_)))); (with_reducible refine i_t (by omega) ?_); (with_reducible refine i_Blk (i_Seq (i_Set (i_Call (i_as1 (i_L2 (i_as1 (i_L3 (i_as1 (i_L4 (i_as1 (i_L7 (i_as1 (i_Sub (i_Shl (i_I (i_L1 (i_I (i_as0 (i_recv1 ?_)))))))))))))))))))); (rw [yshl_1 (show n < 31 by omega)]); (rw [zx_subc (by omega) (by omega)]); (refine hpar _ _ ⟨_, rfl, ?_⟩); (with_reducible refine i_Blk (i_Seq (i_Set (i_I ?_)))); simp only [w_set0, w_set1, w_setn0, w_setn1]; rw [w_setT]; simp only [w_set0, w_set1, w_setn0, w_setn1]; rw [w_setT])
      refine w_ForN n (fun q ρ M' => (∃ l, ρ = ((134 : Nat) : Int) :: ((n : Nat) : Int) :: ((kind : Nat) : Int) :: ((a : Nat) : Int) :: b :: ((how : Nat) : Int) :: ((zsq (zga n A kind a b') n p q : Nat) : Int) :: ((p : Nat) : Int) :: zmk (fun q => decide (q < n) && zod kind a b' p q) :: ((q : Nat) : Int) :: l) ∧ (∀ b j, ¬ (b = ((134 : Nat) : Int) ∧ j = 7 ∨ b = ((138 : Nat) : Int) ∨ b = ((140 : Nat) : Int)) → M' b j = M b j) ∧ (∀ k : Nat, k < 512 → M' ((138 : Nat) : Int) ((zplc k : Nat) : Int) = ((zsq (zgk n A kind a b' k) n p q : Nat) : Int)) ∧ ∃ (c : Nat) (V : Nat → Nat), M' ((134 : Nat) : Int) ((7 : Nat) : Int) = ((c : Nat) : Int) ∧ c ≤ zsq (fun p q => zod kind a b' p q && true) n p q ∧ (∀ i : Nat, i < c → M' ((140 : Nat) : Int) ((i : Nat) : Int) = ((zplc (V i) : Nat) : Int) ∧ V i < 512) ∧ (∀ i j, i < j → j < c → V i ≠ V j) ∧ (∀ i, i < c → zsq (zgk n A kind a b' (V i)) n p q ≠ 0) ∧ ∀ k : Nat, k < 512 → (∀ i, i < c → V i ≠ k) → zsq (zgk n A kind a b' k) n p q = 0) ⟨⟨_, rfl⟩, f1, z1, ⟨c, V, w1, w2, w3, w4, w5, w6⟩⟩ ?_ ?_
      · clear w1 w2 w3 w4 w5 w6 z1 f1 hlt0
        clear V c
        rintro q ρ M2 X2 hq ⟨⟨l2, rfl⟩, f2, z2, ⟨c, V, w1, w2, w3, w4, w5, w6⟩⟩ hX2
        have hX3 : ∀ (l : zLoc) (M' : zMem) (v : Nat), v = zsq (zga n A kind a b') n p (q + 1) → (∀ b j, ¬ (b = ((134 : Nat) : Int) ∧ j = 7 ∨ b = ((138 : Nat) : Int) ∨ b = ((140 : Nat) : Int)) → M' b j = M b j) → (∀ k : Nat, k < 512 → M' ((138 : Nat) : Int) ((zplc k : Nat) : Int) = ((zsq (zgk n A kind a b' k) n p (q + 1) : Nat) : Int)) → (∃ (c : Nat) (V : Nat → Nat), M' ((134 : Nat) : Int) ((7 : Nat) : Int) = ((c : Nat) : Int) ∧ c ≤ zsq (fun p q => zod kind a b' p q && true) n p (q + 1) ∧ (∀ i : Nat, i < c → M' ((140 : Nat) : Int) ((i : Nat) : Int) = ((zplc (V i) : Nat) : Int) ∧ V i < 512) ∧ (∀ i j, i < j → j < c → V i ≠ V j) ∧ (∀ i, i < c → zsq (zgk n A kind a b' (V i)) n p (q + 1) ≠ 0) ∧ ∀ k : Nat, k < 512 → (∀ i, i < c → V i ≠ k) → zsq (zgk n A kind a b' k) n p (q + 1) = 0) → X2 (((134 : Nat) : Int) :: ((n : Nat) : Int) :: ((kind : Nat) : Int) :: ((a : Nat) : Int) :: b :: ((how : Nat) : Int) :: ((v : Nat) : Int) :: ((p : Nat) : Int) :: zmk (fun q => decide (q < n) && zod kind a b' p q) :: ((q + 1 : Nat) : Int) :: l) M' := fun l M' v hv g1 g2 g3 => by subst hv; exact hX2 _ _ ⟨⟨l, rfl⟩, g1, g2, g3⟩
        clear hX2
        have hga := zsq_su (zga n A kind a b') n p q
        have hgk := fun k => zsq_su (zgk n A kind a b' k) n p q
        have hgo := zsq_su (fun p q => zod kind a b' p q && true) n p q
        have hle1 := zsq_all (g := zga n A kind a b') hp (show q + 1 ≤ n by omega)
        rw [zga_all hab] at hle1
        have hle2 := zsq_all (g := fun p q => zod kind a b' p q && true) hp (show q + 1 ≤ n by omega)
        have hle3 := zod_all (n := n) (kind := kind) (a := a) (b := b') hn2 hab
        have hyd := yand_1 (fun q => decide (q < n) && zod kind a b' p q) (k := q) (by omega)
        try dsimp only at hyd
        rw [decide_eq_true hq, Bool.true_and] at hyd
        cases eo : zod kind a b' p q
        · rw [eo, if_neg (by decide)] at hyd
          have h1 : zsq (zga n A kind a b') n p (q + 1) = zsq (zga n A kind a b') n p q := by rw [hga]; unfold zga; rw [eo]; rfl
          have h2 : ∀ k, zsq (zgk n A kind a b' k) n p (q + 1) = zsq (zgk n A kind a b' k) n p q := fun k => by rw [hgk]; unfold zgk; rw [eo]; rfl
          rw [eo, if_neg (show ¬ (false && true) = true by decide)] at hgo
          ((with_reducible refine i_turn (i_cAnd (i_cI_lt (i_L9 (i_L1 ?_))))); (with_reducible refine i_t (by omega) ?_); (with_reducible refine i_cZ_ne (i_L8 ?_)); ((with_reducible refine i_t e0 ?_)); (with_reducible refine i_If (i_cI_eq (i_And (i_Shr (i_L8 (i_L9 (i_I (i_I ?_)))))))); (rw [hyd]); (with_reducible refine i_f (by omega) ?_); (with_reducible refine i_up (i_Inc9 ?_)); rw [zx_inc (by omega)]; simp only [w_set0, w_set1, w_setn0, w_setn1])
          exact hX3 _ M2 _ h1.symm f2 (fun k hk1 => by rw [h2]; exact z2 k hk1) ⟨c, V, w1, by rw [hgo]; omega, w3, w4, fun i hi => by rw [h2]; exact w5 i hi, fun k hk1 hn => by rw [h2]; exact w6 k hk1 hn⟩
        · rw [eo, if_pos rfl] at hyd
          rw [eo, if_pos (show (true && true) = true from rfl)] at hgo
          have hpq : p ≠ q := fun z => by rw [← z, zod_ne hab] at eo; cases eo
          have gp : M2 ((137 : Nat) : Int) ((16 * p + q : Nat) : Int) = zpv n A p q := (f2 _ _ (by omega)).trans (k3 p q hp hq hpq)
          rw [show 16 * p + q = p * 16 + q by omega] at gp
          unfold zpv at gp
          have hga2 : zsq (zga n A kind a b') n p (q + 1) = zsq (zga n A kind a b') n p q + (if (decide (tvs A p q = 1) && !tS n A p q) = true then 1 else 0) := by rw [hga]; unfold zga; rw [eo, Bool.true_and]
          have hgk2 : ∀ k, zsq (zgk n A kind a b' k) n p (q + 1) = zsq (zgk n A kind a b' k) n p q + (if zso (tf A) p q (tS n A p q) = k ∧ tvs A p q ≠ 1 then 1 else 0) := fun k => by rw [hgk]; unfold zgk; rw [eo, Bool.true_and]; simp only [decide_eq_true_eq]
          clear hga hgk
          by_cases e : tvs A p q = 1
          · have h2 : ∀ k, zsq (zgk n A kind a b' k) n p (q + 1) = zsq (zgk n A kind a b' k) n p q := fun k => by rw [hgk2, if_neg (fun z => z.2 e)]; rfl
            rw [if_pos e] at gp
            rw [decide_eq_true e, Bool.true_and] at hga2
            cases hs : tS n A p q
            all_goals
              rw [hs] at gp hga2
              first | rw [if_neg (by decide)] at gp | rw [if_pos rfl] at gp
              first | rw [if_pos (show (!false) = true from rfl)] at hga2 | rw [if_neg (show ¬ (!true) = true by decide)] at hga2
              (first | (((with_reducible refine i_turn (i_cAnd (i_cI_lt (i_L9 (i_L1 ?_))))); (with_reducible refine i_t (by omega) ?_); (with_reducible refine i_cZ_ne (i_L8 ?_)); ((with_reducible refine i_t e0 ?_)); (with_reducible refine i_If (i_cI_eq (i_And (i_Shr (i_L8 (i_L9 (i_I (i_I ?_)))))))); (rw [hyd]); simp only [w_set0, w_set1, w_setn0, w_setn1]; (with_reducible refine i_t trivial ?_); (with_reducible refine i_Blk (i_Seq (i_Set (i_IA (i_FR (i_A0 ?_)))))); (with_reducible refine i_fldR (by assumption) ?_); (with_reducible refine i_Add (i_Mul (i_L7 (i_I (i_L9 ?_))))); rw [zx_mulc (by omega)]; rw [zx_add (by omega)]; (with_reducible refine i_in (by assumption) (by omega) (by omega) ?_); (with_reducible refine i_Ite (i_cZ_ge ?_)); (rw [gp]); simp only [w_set0, w_set1, w_setn0, w_setn1]; rw [w_setT]; (with_reducible refine i_L10 ?_); (with_reducible refine i_f (by omega) ?_); (with_reducible refine i_If (i_cI_eq (i_L10 (i_I ?_)))); simp only [w_set0, w_set1, w_setn0, w_setn1]; (with_reducible refine i_t trivial ?_); (with_reducible refine i_Inc6 (i_up ?_)); rw [zx_inc (by omega)]; simp only [w_set0, w_set1, w_setn0, w_setn1]; (with_reducible refine i_Inc9 ?_); rw [zx_inc (by omega)]; simp only [w_set0, w_set1, w_setn0, w_setn1])) | (((with_reducible refine i_turn (i_cAnd (i_cI_lt (i_L9 (i_L1 ?_))))); (with_reducible refine i_t (by omega) ?_); (with_reducible refine i_cZ_ne (i_L8 ?_)); ((with_reducible refine i_t e0 ?_)); (with_reducible refine i_If (i_cI_eq (i_And (i_Shr (i_L8 (i_L9 (i_I (i_I ?_)))))))); (rw [hyd]); simp only [w_set0, w_set1, w_setn0, w_setn1]; (with_reducible refine i_t trivial ?_); (with_reducible refine i_Blk (i_Seq (i_Set (i_IA (i_FR (i_A0 ?_)))))); (with_reducible refine i_fldR (by assumption) ?_); (with_reducible refine i_Add (i_Mul (i_L7 (i_I (i_L9 ?_))))); rw [zx_mulc (by omega)]; rw [zx_add (by omega)]; (with_reducible refine i_in (by assumption) (by omega) (by omega) ?_); (with_reducible refine i_Ite (i_cZ_ge ?_)); (rw [gp]); simp only [w_set0, w_set1, w_setn0, w_setn1]; rw [w_setT]; (with_reducible refine i_L10 ?_); (with_reducible refine i_f (by omega) ?_); (with_reducible refine i_If (i_cI_eq (i_L10 (i_I ?_)))); (with_reducible refine i_f (by omega) ?_); (with_reducible refine i_up (i_Inc9 ?_)); rw [zx_inc (by omega)]; simp only [w_set0, w_set1, w_setn0, w_setn1])))
              exact hX3 _ M2 _ (by omega) f2 (fun k hk1 => by rw [h2]; exact z2 k hk1) ⟨c, V, w1, by rw [hgo]; omega, w3, w4, fun i hi => by rw [h2]; exact w5 i hi, fun k hk1 hn => by rw [h2]; exact w6 k hk1 hn⟩
          · rw [if_neg e] at gp
            have h1 : zsq (zga n A kind a b') n p (q + 1) = zsq (zga n A kind a b') n p q := by rw [hga2, decide_eq_false e]; rfl
            have hlt := zso_lt (s := tS n A p q) (hw.f16 p hp) (hw.f16 q hq)
            have hgk3 : ∀ k, zsq (zgk n A kind a b' k) n p (q + 1) = zsq (zgk n A kind a b' k) n p q + (if zso (tf A) p q (tS n A p q) = k then 1 else 0) := fun k => by rw [hgk2]; simp [e]
            have hpl := zplc_lt hlt
            have hle4 := zsq_all (g := zgk n A kind a b' (zso (tf A) p q (tS n A p q))) hp (show q + 1 ≤ n by omega)
            rw [zgk_all hab] at hle4
            have hle5 : zas n A kind a b' (zso (tf A) p q (tS n A p q)) ≤ 120 := zp2_le _ hn2
            clear hgk2 hga2
            generalize zso (tf A) p q (tS n A p q) = k0 at gp hlt hpl hgk3 hle4 hle5
            have g1 := z2 k0 hlt
            ((with_reducible refine i_turn (i_cAnd (i_cI_lt (i_L9 (i_L1 ?_))))); (with_reducible refine i_t (by omega) ?_); (with_reducible refine i_cZ_ne (i_L8 ?_)); ((with_reducible refine i_t e0 ?_)); (with_reducible refine i_If (i_cI_eq (i_And (i_Shr (i_L8 (i_L9 (i_I (i_I ?_)))))))); (rw [hyd]); simp only [w_set0, w_set1, w_setn0, w_setn1]; (with_reducible refine i_t trivial ?_); (with_reducible refine i_Blk (i_Seq (i_Set (i_IA (i_FR (i_A0 ?_)))))); (with_reducible refine i_fldR (by assumption) ?_); (with_reducible refine i_Add (i_Mul (i_L7 (i_I (i_L9 ?_))))); rw [zx_mulc (by omega)]; rw [zx_add (by omega)]; (with_reducible refine i_in (by assumption) (by omega) (by omega) ?_); (with_reducible refine i_Ite (i_cZ_ge ?_)); (rw [gp]); simp only [w_set0, w_set1, w_setn0, w_setn1]; rw [w_setT]; (with_reducible refine i_L10 ?_); (with_reducible refine i_t (by omega) ?_); (with_reducible refine i_sCall (i_as1 (i_A0 (i_as1 (i_L10 (i_as0 ?_)))))); (with_reducible refine i_recv0 (by assumption) ?_))
            refine c_countAsked hO hS w1 (by omega) g1 hpl (by have := hgk3 k0; rw [if_pos rfl] at this; omega) (fun M3 f3 r3 n3 y3 => ⟨rfl, ?_⟩)
            ((with_reducible refine i_up (i_Inc9 ?_)); rw [zx_inc (by omega)]; simp only [w_set0, w_set1, w_setn0, w_setn1])
            refine hX3 _ M3 _ h1.symm (fun b j z => by rw [f3 b j (by omega)]; exact f2 b j z) (fun k hk1 => ?_) ?_
            · rw [hgk3]
              by_cases z : k0 = k
              · subst z; rw [r3, if_pos rfl]
              · have hne : zplc k ≠ zplc k0 := fun y => z (zplc_inj hk1 hlt y).symm
                rw [f3 _ _ (by omega), if_neg z]; exact z2 k hk1
            · by_cases z : zsq (zgk n A kind a b' k0) n p q = 0
              · obtain ⟨y1, y2⟩ := y3 z
                refine ⟨c + 1, fun i => if i = c then k0 else V i, y1, by omega, fun i hi => ?_, fun i j hij hj => ?_, fun i hi => ?_, fun k hk1 hn => ?_⟩
                · by_cases v : i = c
                  · subst v
                    try dsimp only
                    rw [if_pos rfl]; exact ⟨y2, hlt⟩
                  · dsimp only
                    rw [if_neg v, f3 _ _ (by omega)]; exact w3 i (by omega)
                · dsimp only
                  rw [if_neg (show i ≠ c by omega)]
                  by_cases v : j = c
                  · rw [if_pos v]
                    intro y
                    exact w5 i (by omega) (by rw [y]; exact z)
                  · rw [if_neg v]; exact w4 i j hij (by omega)
                · dsimp only
                  rw [hgk3]
                  by_cases v : i = c
                  · rw [if_pos v, if_pos rfl]; omega
                  · rw [if_neg v]
                    have := w5 i (by omega)
                    omega
                · have h5 := hn c (by omega)
                  try dsimp only at h5
                  rw [if_pos rfl] at h5
                  rw [hgk3, if_neg h5]
                  refine w6 k hk1 (fun i hi => ?_)
                  have h2 := hn i (by omega)
                  try dsimp only at h2
                  rw [if_neg (by omega)] at h2
                  exact h2
              · obtain ⟨y1, y2⟩ := n3 z
                refine ⟨c, V, y1, by omega, fun i hi => by rw [f3 _ _ (by omega)]; exact w3 i hi, w4, fun i hi => ?_, fun k hk1 hn => ?_⟩
                · rw [hgk3]
                  have := w5 i hi
                  omega
                · have h5 := w6 k hk1 hn
                  rw [hgk3, if_neg (fun y => z (by rw [y]; exact h5))]
                  exact h5
      · rintro ρ M2 X2 ⟨⟨l2, rfl⟩, f2, z2, hc2⟩
        ((with_reducible refine i_turn (i_cAnd (i_cI_lt (i_L9 (i_L1 ?_))))); (with_reducible refine i_f (by omega) ?_); (with_reducible refine i_up (i_Inc7 ?_)); rw [zx_inc (by omega)]; simp only [w_set0, w_set1, w_setn0, w_setn1])
        exact hnext _ M2 f2 z2 hc2
  · rintro ρ M1 X ⟨⟨l, rfl⟩, f1, z1, ⟨c, V, w1, w2, w3, w4, w5, w6⟩⟩
    have e1 : zsq (zga n A kind a b') n n 0 = zqA n A kind a b' := zga_all hab
    have e2 : ∀ k, zsq (zgk n A kind a b' k) n n 0 = zas n A kind a b' k := fun k => zgk_all hab
    have hc120 : c ≤ 120 := Nat.le_trans w2 (zod_all hn2 hab)
    rw [e1]
    simp only [e2] at z1 w5 w6
    clear w2 e1 e2
    have hat : zqA n A kind a b' ≤ 120 := zp2_le _ hn2
    have hen := zsum_enum (U := V) (F := zshr' n A kind a b' how) (c := c) (n := 512) (fun i hi => (w3 i hi).2) w4 (fun k hk1 hn => zshr_0 (w6 k hk1 hn))
    have hsm : zqS n A kind a b' how = (if how = 3 then 0 else if how = 2 then 1000 * zqA n A kind a b' else zqA n A kind a b') + zsum (fun i => zshr' n A kind a b' how (V i)) c := by unfold zqS; rw [hen]
    rw [hsm] at hk
    obtain ⟨z0, hz0⟩ : ∃ z0, z0 = (if how = 3 then 0 else if how = 2 then 1000 * zqA n A kind a b' else zqA n A kind a b') := ⟨_, rfl⟩
    have hz0b : z0 ≤ 120000 := by rw [hz0]; split; omega; split <;> omega
    rw [← hz0] at hk
    have hcv := fun i => zsum_cap (f := fun i => zshr' n A kind a b' how (V i)) (c := 120000) (fun i => zshr_le hn2) i
    rcases (show (how ≠ 3 ∧ how ≠ 2) ∨ how = 2 ∨ how = 3 by omega) with e | e | e
    all_goals
      first
        | rw [if_neg e.1, if_neg e.2] at hz0
        | rw [if_neg (show ¬ how = 3 by omega), if_pos e] at hz0
        | rw [if_pos e] at hz0
      (first | (((with_reducible refine i_turn (i_cI_lt (i_L7 (i_L1 ?_)))); (with_reducible refine i_f (by omega) ?_); (with_reducible refine i_Seq (i_Set (i_eIf (i_cI_eq (i_L5 (i_I ?_)))))); (with_reducible refine i_f (by omega) ?_); (with_reducible refine i_eIf (i_cI_eq (i_L5 (i_I ?_)))); (with_reducible refine i_t (by omega) ?_); (with_reducible refine i_Mul (i_I (i_L6 (i_Seq (i_Blk (i_Seq (i_Set (i_I ?_)))))))); rw [zx_cmul (by omega)]; simp only [w_set0, w_set1, w_setn0, w_setn1]; rw [w_setT])) | (((with_reducible refine i_turn (i_cI_lt (i_L7 (i_L1 ?_)))); (with_reducible refine i_f (by omega) ?_); (with_reducible refine i_Seq (i_Set (i_eIf (i_cI_eq (i_L5 (i_I ?_)))))); (with_reducible refine i_f (by omega) ?_); (with_reducible refine i_eIf (i_cI_eq (i_L5 (i_I ?_)))); (with_reducible refine i_f (by omega) ?_); (with_reducible refine i_L6 (i_Seq (i_Blk (i_Seq (i_Set (i_I ?_)))))); simp only [w_set0, w_set1, w_setn0, w_setn1]; rw [w_setT])) | (((with_reducible refine i_turn (i_cI_lt (i_L7 (i_L1 ?_)))); (with_reducible refine i_f (by omega) ?_); (with_reducible refine i_Seq (i_Set (i_eIf (i_cI_eq (i_L5 (i_I ?_)))))); (with_reducible refine i_t (by omega) ?_); (with_reducible refine i_I (i_Seq (i_Blk (i_Seq (i_Set (i_I ?_)))))); simp only [w_set0, w_set1, w_setn0, w_setn1]; rw [w_setT])))
      refine w_ForN c (fun i ρ M' => (∃ l, ρ = ((134 : Nat) : Int) :: ((n : Nat) : Int) :: ((kind : Nat) : Int) :: ((a : Nat) : Int) :: b :: ((how : Nat) : Int) :: ((zqA n A kind a b' : Nat) : Int) :: ((z0 + zsum (fun i => zshr' n A kind a b' how (V i)) i : Nat) : Int) :: ((i : Nat) : Int) :: l) ∧ (∀ b j, ¬ b = ((138 : Nat) : Int) → M' b j = M1 b j) ∧ (∀ j, i ≤ j → j < c → M' ((138 : Nat) : Int) ((zplc (V j) : Nat) : Int) = ((zas n A kind a b' (V j) : Nat) : Int)) ∧ ∀ k : Nat, k < 512 → (∀ j, i ≤ j → j < c → V j ≠ k) → M' ((138 : Nat) : Int) ((zplc k : Nat) : Int) = 0) ⟨⟨_, by rw [hz0]; rfl⟩, fun _ _ _ => rfl, fun j _ hj => z1 _ (w3 j hj).2, fun k hk1 hn => by rw [z1 k hk1, w6 k hk1 (fun i hi => hn i (Nat.zero_le _) hi)]; rfl⟩ ?_ ?_
      · rintro i ρ M2 X2 hi ⟨⟨l2, rfl⟩, f2, y1, y2⟩ hX2
        obtain ⟨v1, v2⟩ := w3 i hi
        have gc : M2 ((134 : Nat) : Int) ((7 : Nat) : Int) = ((c : Nat) : Int) := (f2 _ _ (by omega)).trans w1
        have gh : M2 ((140 : Nat) : Int) ((i : Nat) : Int) = ((zplc (V i) : Nat) : Int) := (f2 _ _ (by omega)).trans v1
        have hpl := zplc_lt v2
        have hcv1 := hcv i
        have hcv2 : i * 120000 ≤ 120 * 120000 := Nat.mul_le_mul_right _ (by omega)
        have hz1 := zshr_le (n := n) (kind := kind) (a := a) (b' := b') (how := how) (k := V i) (A := A) hn2
        obtain ⟨g1, g2⟩ := k1 (V i) v2
        have hsh := fun (K' : Option zV → zMem → Prop) (z : K' (some (0, ((zshr' n A kind a b' how (V i) : Nat) : Int))) M2) => c_share hO hS hn2 v2 ⟨by rw [f2 _ _ (by omega), f1 _ _ (by omega)]; exact g1, by rw [f2 _ _ (by omega), f1 _ _ (by omega)]; exact g2⟩ (y1 i (Nat.le_refl _) hi) (w5 i hi) hh (K := K') z
        ((with_reducible refine i_turn (i_cI_lt (i_L8 (i_F (i_A0 ?_))))); (with_reducible refine i_fld (by assumption) ?_); (rw [gc]); (with_reducible refine i_t (by omega) ?_); (with_reducible refine i_Seq (i_Set (i_Add (i_L7 (i_Call (i_as1 (i_A0 (i_as1 (i_IA (i_FR (i_A0 ?_))))))))))); (with_reducible refine i_fldR (by assumption) ?_); (with_reducible refine i_L8 ?_); (with_reducible refine i_in (by assumption) (by omega) (by omega) ?_); (with_reducible refine i_as1 (i_L5 (i_as0 ?_))); (with_reducible refine i_recv0 (by assumption) ?_); (rw [gh]); (refine hsh _ ⟨_, rfl, ?_⟩); (with_reducible refine i_sIA (i_FR ?_)); rw [zx_add (by omega)]; simp only [w_set0, w_set1, w_setn0, w_setn1]; (with_reducible refine i_A0 ?_); (with_reducible refine i_fldR (by assumption) ?_); (with_reducible refine i_IA (i_FR (i_A0 ?_))); (with_reducible refine i_fldR (by assumption) ?_); (with_reducible refine i_L8 ?_); (with_reducible refine i_in (by assumption) (by omega) (by omega) ?_); (with_reducible refine i_I ?_); (with_reducible refine i_in (by assumption) (by omega) (by omega) ?_); (with_reducible refine i_up (i_Inc8 ?_)); (rw [gh]); rw [zx_inc (by omega)]; simp only [w_set0, w_set1, w_setn0, w_setn1])
        refine hX2 _ _ ⟨⟨_, by rw [zsum_su, ← Nat.add_assoc]⟩, fun b j z => by rw [zg_n _ _ _ z]; exact f2 b j z, fun j hij hj => ?_, fun k hk1 hn => ?_⟩
        · have hne : zplc (V j) ≠ zplc (V i) := fun z => w4 i j (by omega) hj (zplc_inj v2 (w3 j hj).2 z.symm)
          rw [zg_m _ _ _ _ _ (by omega)]; exact y1 j (by omega) hj
        · by_cases z : V i = k
          · rw [← z, zg_s]
          · have hne : zplc k ≠ zplc (V i) := fun y => z (zplc_inj v2 hk1 y.symm)
            rw [zg_m _ _ _ _ _ (by omega)]
            refine y2 k hk1 (fun j hij hj => ?_)
            by_cases w : j = i
            · rw [w]; exact z
            · exact hn j (by omega) hj
      · rintro ρ M2 X2 ⟨⟨l2, rfl⟩, f2, y1, y2⟩
        have gc : M2 ((134 : Nat) : Int) ((7 : Nat) : Int) = ((c : Nat) : Int) := (f2 _ _ (by omega)).trans w1
        have f21 : ∀ b j, ¬ (b = ((134 : Nat) : Int) ∧ j = 7 ∨ b = ((138 : Nat) : Int) ∨ b = ((140 : Nat) : Int)) → M2 b j = M b j := fun b j z => by rw [f2 b j (by omega), f1 b j z]
        ((with_reducible refine i_turn (i_cI_lt (i_L8 (i_F (i_A0 ?_))))); (with_reducible refine i_fld (by assumption) ?_); (rw [gc]); (with_reducible refine i_f (by omega) ?_); (with_reducible refine i_RetI (i_L7 ?_)))
        refine hk M2 f21 (hT0.to' (fun b j z => f21 b j (by omega)) (fun k hk1 => ?_))
        obtain ⟨j, j1, j2⟩ := zplc_sur hk1
        rw [← j2]
        exact y2 j j1 (fun i hi hi2 => absurd hi2 (by omega))
theorem c_answer {O : zOm} (hO : zWld O) (hS : zS O = zmS zC0) {x n m kind a b' how : Nat} {b : Int} {A : zTl} {M : zMem} {K : Option zV → zMem → Prop} (hx : zTeC (zS O) x) (hx7 : 148 < x) (hpx : M ((x + 1 : Nat) : Int) ((3 : Nat) : Int) = ((n : Nat) : Int)) (hn1 : 0 < n) (hn2 : n ≤ 16) (hw : zTw n A) (hQ : zQok n kind a b b') (hh : how ≤ 1 ∨ kind < 3 ∧ how ≤ 3) (hT : cTk M n A) (hm : m = if kind < 3 then zqS n A kind a b' how else zan n A kind a b' how)
    (hk : ∀ M', (∀ b j, ¬ (b = ((134 : Nat) : Int) ∧ j = 7 ∨ b = ((138 : Nat) : Int) ∨ b = ((140 : Nat) : Int) ∨ ((145 : Nat) : Int) ≤ b ∧ b ≤ ((146 : Nat) : Int)) → M' b j = M b j) → cTk M' n A → K (some (0, ((m : Nat) : Int))) M') : zR O F_Sorts_answer [(2, ((134 : Nat) : Int)), (2, ((x : Nat) : Int)), (0, ((kind : Nat) : Int)), (0, ((a : Nat) : Int)), (0, b), (0, ((how : Nat) : Int))] M K := by
  obtain ⟨⟨s0, s1, s2, s3, s4, s5, s6, s7, s8⟩, ⟨s9, s10, s11, s12, s13⟩, ⟨t1, t2, t3, t4, t5, t6, t7⟩⟩ := zO134_ok hS
  obtain ⟨⟨x0, x1, x2, x3, x4, x5, x6, x7⟩, ⟨xa, xb⟩, hQ0, -⟩ := hx
  obtain ⟨q0, q1, q2, q3, q4, q5, q6, q7, q8⟩ := hQ0
  obtain ⟨y0, y1, y2, y3⟩ := zNetB.to hS zNt_145
  have hT0 := hT
  obtain ⟨k1, k2, k3, ⟨k4, k6⟩, k5⟩ := hT
  have hL := fun op (p q : Nat) (h : zlN n A op p q = true) => (zlN_in h).2.1
  apply r_Sorts_answer hO
  unfold B_Sorts_answer
  by_cases h3 : kind < 3
  · rw [if_pos h3] at hm
    subst hm
    have c3 : ¬ (((kind : Nat) : Int) ∈ [(3 : Int)]) := fun z => by rw [List.mem_singleton] at z; omega
    have c4 : ¬ (((kind : Nat) : Int) ∈ [(4 : Int)]) := fun z => by rw [List.mem_singleton] at z; omega
    have c5 : ¬ (((kind : Nat) : Int) ∈ [(5 : Int)]) := fun z => by rw [List.mem_singleton] at z; omega
    ((with_reducible refine i_Sw (i_L2 (i_sw1 ?_))); (refine i_f c3 ?_); (with_reducible refine i_sw1 ?_); (refine i_f c4 ?_); (with_reducible refine i_sw1 ?_); (refine i_f c5 ?_); (with_reducible refine i_sw0 (i_RetI (i_Call (i_as1 (i_A0 (i_as1 (i_F (i_FR (i_A1 ?_))))))))); (with_reducible refine i_fldR (by assumption) ?_); (with_reducible refine i_fld (by assumption) ?_); (with_reducible refine i_as1 (i_L2 (i_as1 (i_L3 (i_as1 (i_L4 (i_as1 (i_L5 (i_as0 ?_))))))))); (with_reducible refine i_recv0 (by assumption) ?_); (rw [hpx]))
    refine c_sum hO hS hn1 hn2 hw hQ h3 (by omega) hT0 (fun M1 f1 h1 => ⟨_, rfl, ?_⟩)
    (skip)
    exact hk M1 (fun b j z => f1 b j (by omega)) h1
  · rw [if_neg h3] at hm
    have hh1 : how ≤ 1 := by omega
    have hK5 : kind ≤ 5 := by rcases hQ with h | h | h <;> omega
    have han : a < n := by rcases hQ with h | h | h <;> omega
    by_cases e3 : kind = 3
    · subst e3
      have hb : b = ((b' : Nat) : Int) ∧ b' < n ∧ a ≠ b' := by rcases hQ with h | h | h <;> omega
      obtain ⟨hb1, hb2, hb3⟩ := hb
      subst hb1
      have e : zan n A 3 a b' how = zfar n (zlN n A (decide (how = 0))) a b' := rfl
      rw [e] at hm
      rcases (show how = 0 ∨ how = 1 by omega) with rfl | rfl
      all_goals
        first | rw [show decide ((0 : Nat) = 0) = true from rfl] at hm | rw [show decide ((1 : Nat) = 0) = false from rfl] at hm
        subst hm
        (first | (((with_reducible refine i_Sw (i_L2 (i_sw1 ?_))); (refine i_t (by decide) ?_); (with_reducible refine i_Seq (i_sCall (i_as1 (i_A0 (i_as1 (i_eIf (i_cZ_eq (i_L5 ?_)))))))); (refine i_t (by decide) ?_); (with_reducible refine i_I (i_as0 ?_)); (with_reducible refine i_recv0 (by assumption) ?_))) | (((with_reducible refine i_Sw (i_L2 (i_sw1 ?_))); (refine i_t (by decide) ?_); (with_reducible refine i_Seq (i_sCall (i_as1 (i_A0 (i_as1 (i_eIf (i_cZ_eq (i_L5 ?_)))))))); (with_reducible refine i_f (by omega) ?_); (with_reducible refine i_I (i_as0 ?_)); (with_reducible refine i_recv0 (by assumption) ?_))))
        first | refine c_see hO hS (op := true) k4 k6 (fun M1 f1 h1 => ⟨rfl, ?_⟩) | refine c_see hO hS (op := false) k4 k6 (fun M1 f1 h1 => ⟨rfl, ?_⟩)
        ((with_reducible refine i_RetI (i_Call (i_as1 (i_A0 (i_as1 (i_L3 (i_as1 (i_L4 (i_as0 ?_))))))))); (with_reducible refine i_recv0 (by assumption) ?_))
        refine c_countSteps hO hS h1 hn2 hn1 han hb2 hb3 ⟨_, rfl, ?_⟩
        (skip)
        exact hk M1 (fun b j z => f1 b j (by omega)) (hT0.to (fun b j z => f1 b j (by omega)))
    · by_cases e4 : kind = 4
      · subst e4
        have hb : b = ((b' : Nat) : Int) ∧ b' < n := by rcases hQ with h | h | h <;> omega
        obtain ⟨hb1, hb2⟩ := hb
        subst hb1
        have e : zan n A 4 a b' how = zcnt (fun r => zlN n A (decide (how = 1)) a r && zlN n A (decide (how = 1)) b' r) n := rfl
        rw [e] at hm
        rcases (show how = 0 ∨ how = 1 by omega) with rfl | rfl
        all_goals
          first | rw [show decide ((0 : Nat) = 1) = false from rfl] at hm | rw [show decide ((1 : Nat) = 1) = true from rfl] at hm
          subst hm
          (first | (((with_reducible refine i_Sw (i_L2 (i_sw1 ?_))); (refine i_f (by decide) ?_); (with_reducible refine i_sw1 ?_); (refine i_t (by decide) ?_); (with_reducible refine i_Seq (i_sCall (i_as1 (i_A0 (i_as1 (i_eIf (i_cI_eq (i_L5 (i_I ?_))))))))); (refine i_f (by decide) ?_); (with_reducible refine i_I (i_as0 ?_)); (with_reducible refine i_recv0 (by assumption) ?_))) | (((with_reducible refine i_Sw (i_L2 (i_sw1 ?_))); (refine i_f (by decide) ?_); (with_reducible refine i_sw1 ?_); (refine i_t (by decide) ?_); (with_reducible refine i_Seq (i_sCall (i_as1 (i_A0 (i_as1 (i_eIf (i_cI_eq (i_L5 (i_I ?_))))))))); (refine i_t (by decide) ?_); (with_reducible refine i_I (i_as0 ?_)); (with_reducible refine i_recv0 (by assumption) ?_))))
          first | refine c_see hO hS (op := true) k4 k6 (fun M1 f1 h1 => ⟨rfl, ?_⟩) | refine c_see hO hS (op := false) k4 k6 (fun M1 f1 h1 => ⟨rfl, ?_⟩)
          have ga : M1 ((146 : Nat) : Int) ((a : Nat) : Int) = zmk _ := h1.2 a (by omega)
          have gb : M1 ((146 : Nat) : Int) ((b' : Nat) : Int) = zmk _ := h1.2 b' (by omega)
          ((with_reducible refine i_RetI (i_Call (i_as1 (i_And (i_IA (i_FR (i_FR (i_A0 ?_)))))))); (with_reducible refine i_fldR (by assumption) ?_); (with_reducible refine i_fldR (by assumption) ?_); (with_reducible refine i_L3 ?_); (with_reducible refine i_in (by assumption) (by omega) (by omega) ?_); (with_reducible refine i_IA (i_FR (i_FR (i_A0 ?_)))); (with_reducible refine i_fldR (by assumption) ?_); (with_reducible refine i_fldR (by assumption) ?_); (with_reducible refine i_L4 ?_); (with_reducible refine i_in (by assumption) (by omega) (by omega) ?_); (with_reducible refine i_as0 (i_recv1 ?_)); (rw [ga]); (rw [gb]); (rw [yand_mk]); (refine s_bitCount hO ⟨_, rfl, ?_⟩))
          rw [zcnt_L hn2 (hL _)]
          exact hk M1 (fun b j z => f1 b j (by omega)) (hT0.to (fun b j z => f1 b j (by omega)))
      · have e5 : kind = 5 := by omega
        subst e5
        have e : zan n A 5 a b' how = zp2 (fun p q => zlN n A (decide (how = 1)) a p && (zlN n A (decide (how = 1)) a q && zlN n A (decide (how = 1)) p q)) n := rfl
        rw [e] at hm
        rcases (show how = 0 ∨ how = 1 by omega) with rfl | rfl
        all_goals
          first | rw [show decide ((0 : Nat) = 1) = false from rfl] at hm | rw [show decide ((1 : Nat) = 1) = true from rfl] at hm
          subst hm
          (first | (((with_reducible refine i_Sw (i_L2 (i_sw1 ?_))); (refine i_f (by decide) ?_); (with_reducible refine i_sw1 ?_); (refine i_f (by decide) ?_); (with_reducible refine i_sw1 ?_); (refine i_t (by decide) ?_); (with_reducible refine i_Seq (i_sCall (i_as1 (i_A0 (i_as1 (i_eIf (i_cI_eq (i_L5 (i_I ?_))))))))); (refine i_f (by decide) ?_); (with_reducible refine i_I (i_as0 ?_)); (with_reducible refine i_recv0 (by assumption) ?_))) | (((with_reducible refine i_Sw (i_L2 (i_sw1 ?_))); (refine i_f (by decide) ?_); (with_reducible refine i_sw1 ?_); (refine i_f (by decide) ?_); (with_reducible refine i_sw1 ?_); (refine i_t (by decide) ?_); (with_reducible refine i_Seq (i_sCall (i_as1 (i_A0 (i_as1 (i_eIf (i_cI_eq (i_L5 (i_I ?_))))))))); (refine i_t (by decide) ?_); (with_reducible refine i_I (i_as0 ?_)); (with_reducible refine i_recv0 (by assumption) ?_))))
          first | refine c_see hO hS (op := true) k4 k6 (fun M1 f1 h1 => ⟨rfl, ?_⟩) | refine c_see hO hS (op := false) k4 k6 (fun M1 f1 h1 => ⟨rfl, ?_⟩)
          ((with_reducible refine i_RetI (i_Call (i_as1 (i_A0 (i_as1 (i_L3 (i_as0 ?_))))))); (with_reducible refine i_recv0 (by assumption) ?_))
          refine c_countTrios hO hS h1 hn2 han (zlN_s _) (zlN_0 _) (hL _) ⟨_, rfl, ?_⟩
          (skip)
          exact hk M1 (fun b j z => f1 b j (by omega)) (hT0.to (fun b j z => f1 b j (by omega)))
