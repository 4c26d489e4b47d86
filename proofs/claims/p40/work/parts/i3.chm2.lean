/-! ===== nets by chance: the reference ===== -/
theorem m_mixed {O : zOm} (hO : zWld O) (hS : zS O = zmS zC0) {h it : Int} {M : zMem} {K : Option zV → zMem → Prop} (hk : K (some (0, zmix h it)) M) : zR O F_Model_mixed [(0, h), (0, it)] M K := by
  apply r_Model_mixed hO
  unfold B_Model_mixed
  unfold zmix at hk
  ((with_reducible refine i_Seq (i_Set (i_Add (i_Mul (i_Xor (i_L0 (i_L1 (i_Ldc (i_I (i_RetI (i_Xor ?_))))))))))); simp only [w_set0, w_set1, w_setn0, w_setn1]; (with_reducible refine i_L2 (i_Ushr (i_L2 (i_I ?_)))))
  rw [yxor_eq, yushr_eq]
  exact hk
theorem m_lot {O : zOm} (hO : zWld O) (hS : zS O = zmS zC0) {seed which : Int} {n : Nat} {M : zMem} {K : Option zV → zMem → Prop} (hn : 0 < n) (hk : K (some (0, ((zlot seed which n : Nat) : Int))) M) : zR O F_Model_lot [(0, seed), (0, which), (0, ((n : Nat) : Int))] M K := by
  apply r_Model_lot hO
  unfold B_Model_lot
  (with_reducible refine i_RetI (i_Rem (i_Ushr (i_Call (i_as1 (i_Call (i_as1 (i_L0 (i_as1 (i_I (i_as0 (i_recv1 ?_))))))))))))
  refine m_mixed hO hS ⟨_, rfl, ?_⟩
  (with_reducible refine i_as1 (i_L1 (i_as0 (i_recv1 ?_))))
  refine m_mixed hO hS ⟨_, rfl, ?_⟩
  (with_reducible refine i_I (i_L2 ?_))
  unfold zlot at hk
  rw [if_neg (by omega)] at hk
  rw [yushr_eq]
  obtain ⟨h1, h2⟩ := zushr_nn (zmix (zmix seed 5) which)
  refine ⟨by omega, ?_⟩
  generalize zushr (zmix (zmix seed 5) which) 1 = x at hk h1 h2 ⊢
  rw [show x = ((x.toNat : Nat) : Int) by omega, ← Int.ofNat_tmod]
  exact hk
theorem zop_ut {n : Nat} {T : Nat → Nat → Bool} (hT : zReg n T) (hn : n ≤ 16) {a b : Nat} (hb : b ≤ n) : zop T n a b = zcnt (zut T) (16 * a + b) := by
  rw [zcnt_rows T a b (by omega)]
  unfold zop
  congr 1
  · refine zsum_ext fun p _ => ?_
    rw [zcnt_top (c := n) (W := zutr T p) (fun d hd => by
      unfold zutr
      cases e : T p d
      · rfl
      · have := (hT.lt e).2; omega) hn]
    exact zcnt_ext fun q _ => by unfold zutr; rw [Bool.and_comm]
  · exact zcnt_ext fun q _ => by unfold zutr; rw [Bool.and_comm]
theorem m_tieAt {O : zOm} (hO : zWld O) (hS : zS O = zmS zC0) {n k : Nat} {T : Nat → Nat → Bool} {M : zMem} {K : Option zV → zMem → Prop} (hn : M 250 ((1 : Nat) : Int) = ((n : Nat) : Int)) (hn2 : n ≤ 16) (hR : zReg n T) (hT : rMx M 267 T) (hk : K (some (0, zpk (zut T) ((k : Nat) : Int) 256)) M) : zR O F_Model_tieAt [(2, 250), (0, ((k : Nat) : Int))] M K := by
  apply r_Model_tieAt hO
  unfold B_Model_tieAt
  have f1 := zMF (k := 1) hS rfl; have f21 := zMF (k := 21) hS rfl; have a267 := zMA (a := 267) (ty := .boolean) (n := 256) hS rfl; have zo := zMO hS
  ((with_reducible refine i_Seq (i_Set (i_I (i_Seq (i_Blk (i_Seq (i_Set (i_I ?_)))))))); simp only [w_set0, w_set1, w_setn0, w_setn1])
  refine w_Pairs (n := n) (fun a b => [250, ((k : Nat) : Int), ((zop T n a b : Nat) : Int)]) (fun a b M' => M' = M ∧ a ≤ 16 ∧ zop T n a b ≤ k) (fun _ _ => ⟨_, rfl, rfl⟩) f1 (fun a b M' h => by rw [h.1]; exact hn) hn2 ⟨_, rfl⟩ ⟨rfl, by omega, Nat.zero_le _⟩ (fun a M' _ h => ⟨⟨h.1, h.2.1, by rw [← zop_row]; exact h.2.2⟩, by rw [← zop_row]⟩) (fun a M' _ h => ⟨⟨h.1, by omega, h.2.2⟩, rfl⟩) ?_ ?_
  · rintro a b l M2 Y Z hab hbn ⟨rfl, ha16, hle⟩ hY
    simp only [List.cons_append, List.nil_append] at hY ⊢
    have hbd := zop_le T hn2 (a := a) (b := b) (by omega) (by omega)
    have hT1 := hT a b (by omega) (by omega)
    have hut := zop_ut hR hn2 (a := a) (b := b) (by omega)
    have hue := zut_at T (a := a) (b := b) (by omega)
    rw [zop_su _ hab] at hY
    cases e : T a b <;> rw [e] at hT1 hY
    · ((with_reducible refine i_Seq (i_IfBrk (i_cNot (i_cZ_ne (i_ZA (i_FR (i_A0 ?_))))))); (with_reducible refine i_fldR (by assumption) ?_); (with_reducible refine i_Add (i_Mul (i_I (i_L3 (i_L4 ?_))))); rw [zx_cmul (by omega)]; rw [zx_add (by omega)]; (with_reducible refine i_in (by assumption) (by omega) (by omega) ?_); (rw [hT1, zbI_f]); (with_reducible refine i_f (by omega) ?_); (with_reducible refine i_lab1 ?_))
      exact hY _ _ ⟨rfl, ha16, hle⟩
    · by_cases w : zop T n a b = k
      · have hz : zpk (zut T) ((k : Nat) : Int) 256 = ((16 * a + b : Nat) : Int) := zpk_some (by omega) (by rw [hue]; unfold zutr; rw [e, decide_eq_true hab]; rfl) (by rw [← hut, w])
        rw [hz] at hk
        ((with_reducible refine i_Seq (i_IfBrk (i_cNot (i_cZ_ne (i_ZA (i_FR (i_A0 ?_))))))); (with_reducible refine i_fldR (by assumption) ?_); (with_reducible refine i_Add (i_Mul (i_I (i_L3 (i_L4 ?_))))); rw [zx_cmul (by omega)]; rw [zx_add (by omega)]; (with_reducible refine i_in (by assumption) (by omega) (by omega) ?_); (rw [hT1, zbI_t]); (with_reducible refine i_t (by omega) ?_); (with_reducible refine i_Seq (i_If (i_cI_eq (i_L2 (i_L1 ?_))))); (with_reducible refine i_t (by omega) ?_); (with_reducible refine i_RetI (i_Add (i_Mul (i_I (i_L3 (i_L4 ?_)))))); rw [zx_cmul (by omega)]; rw [zx_add (by omega)])
        exact hk
      · ((with_reducible refine i_Seq (i_IfBrk (i_cNot (i_cZ_ne (i_ZA (i_FR (i_A0 ?_))))))); (with_reducible refine i_fldR (by assumption) ?_); (with_reducible refine i_Add (i_Mul (i_I (i_L3 (i_L4 ?_))))); rw [zx_cmul (by omega)]; rw [zx_add (by omega)]; (with_reducible refine i_in (by assumption) (by omega) (by omega) ?_); (rw [hT1, zbI_t]); (with_reducible refine i_t (by omega) ?_); (with_reducible refine i_Seq (i_If (i_cI_eq (i_L2 (i_L1 ?_))))); (with_reducible refine i_f (by omega) ?_); (with_reducible refine i_Inc2 ?_); rw [zx_inc (by omega)]; simp only [w_set0, w_set1, w_setn0, w_setn1])
        exact hY _ _ ⟨rfl, ha16, by simp; omega⟩
  · rintro l M2 ⟨rfl, _, hle⟩
    simp only [List.cons_append, List.nil_append]
    rw [zop_end, ← zut_cnt hR hn2] at hle
    rw [zpk_none (Or.inr (by omega))] at hk
    (with_reducible refine i_RetI (i_I ?_))
    exact hk
theorem m_link {O : zOm} (hO : zWld O) (hS : zS O = zmS zC0) {a b : Nat} {x : Int} {v : Bool} {T : Nat → Nat → Bool} {M : zMem} {K : Option zV → zMem → Prop} (ha : a < 16) (hb : b < 16) (hx : x = zbI v) (hT : rMx M 267 T) (hk : ∀ M', (∀ b j, ¬ b = 267 → M' b j = M b j) → rMx M' 267 (zmu (zmu T a b v) b a v) → K none M') : zR O F_Model_link [(2, 250), (0, ((a : Nat) : Int)), (0, ((b : Nat) : Int)), (0, x)] M K := by
  have h01 : x = 0 ∨ x = 1 := by rw [hx]; exact zbI_01 v
  apply r_Model_link hO
  unfold B_Model_link
  have f21 := zMF (k := 21) hS rfl; have a267 := zMA (a := 267) (ty := .boolean) (n := 256) hS rfl; have zo := zMO hS
  ((with_reducible refine i_Seq (i_Seq (i_sZA (i_FR (i_A0 ?_))))); (with_reducible refine i_fldR (by assumption) ?_); (with_reducible refine i_Add (i_Mul (i_I (i_L1 (i_L2 (i_L3 ?_)))))); rw [zx_cmul (by omega)]; rw [zx_add (by omega)]; (with_reducible refine i_zin (by assumption) (by assumption) (by omega) (by omega) ?_); (with_reducible refine i_sZA (i_FR (i_A0 ?_))); (with_reducible refine i_fldR (by assumption) ?_); (with_reducible refine i_Add (i_Mul (i_I (i_L2 (i_L1 (i_L3 ?_)))))); rw [zx_cmul (by omega)]; rw [zx_add (by omega)]; (with_reducible refine i_zin (by assumption) (by assumption) (by omega) (by omega) ?_); (with_reducible refine i_RetV ?_))
  exact hk _ (fun b j q => by rw [zg_n _ _ _ (by omega), zg_n _ _ _ (by omega)]) ((hT.up ha hb hx).up hb ha hx)
theorem m_shuffle {O : zOm} (hO : zWld O) (hS : zS O = zmS zC0) {n : Nat} {seed : Int} {N : Nat → Nat → Bool} {M : zMem} {K : Option zV → zMem → Prop} (hn : M 250 ((1 : Nat) : Int) = ((n : Nat) : Int)) (hn2 : n ≤ 16) (hN : rMx M 251 N) (hR : zReg n N)
    (hk : ∀ M', (∀ b j, ¬ b = 267 → M' b j = M b j) → rMx M' 267 (zCh n N seed) → K none M') : zR O F_Model_shuffle [(2, 250), (0, seed)] M K := by
  have hb01 : ∀ j : Nat, j < 256 → M ((251 : Nat) : Int) j = 0 ∨ M ((251 : Nat) : Int) j = 1 := fun j hj => hN.b01 hj
  have hm120 : zp2 N n ≤ 120 := zp2_le _ hn2
  unfold zCh at hk
  apply r_Model_shuffle hO
  unfold B_Model_shuffle
  have f21 := zMF (k := 21) hS rfl; have a267 := zMA (a := 267) (ty := .boolean) (n := 256) hS rfl; have zo := zMO hS
  ((with_reducible refine i_Seq (i_Seq (i_sCall (i_as1 (i_A0 (i_as0 ?_)))))); (with_reducible refine i_recv0 (by assumption) ?_))
  refine m_aimAtNet hO hS hN hb01 (fun M1 f1' g1 => ⟨rfl, ?_⟩)
  have n1 : M1 250 ((1 : Nat) : Int) = ((n : Nat) : Int) := by rw [f1' _ _ (by omega)]; exact hn
  ((with_reducible refine i_Seq (i_Set (i_Call (i_as1 (i_A0 (i_as0 ?_)))))); (with_reducible refine i_recv0 (by assumption) ?_); simp only [w_set0, w_set1, w_setn0, w_setn1])
  refine m_tiesOfGoal hO hS n1 hn2 g1 ⟨_, rfl, ?_⟩
  rw [zP2_zp2]
  have hok := zShf_ok hR hn2 rfl seed
  generalize hm : zp2 N n = m at hk hm120 hok ⊢
  ((with_reducible refine i_Blk (i_Seq (i_Set (i_I ?_)))); simp only [w_set0, w_set1, w_setn0, w_setn1])
  refine w_ForN (4 * m) (fun k ρ M' => (∃ l, ρ = 250 :: seed :: ((m : Nat) : Int) :: ((k : Nat) : Int) :: l) ∧ (∀ b j, ¬ b = 267 → M' b j = M1 b j) ∧ rMx M' 267 (zShf N seed m k)) ⟨⟨_, rfl⟩, fun _ _ _ => rfl, g1⟩ ?_ ?_
  · rintro k ρ M2 X hk1 ⟨⟨l, rfl⟩, f2, g2⟩ hX
    have n2 : M2 250 ((1 : Nat) : Int) = ((n : Nat) : Int) := by rw [f2 _ _ (by omega)]; exact n1
    have hm0 : 0 < m := by omega
    obtain ⟨r1, r2⟩ := hok k (by omega)
    have hX2 : ∀ l M', (∀ b j, ¬ b = 267 → M' b j = M1 b j) → rMx M' 267 (zSf (zShf N seed m k) seed m k) → X (250 :: seed :: ((m : Nat) : Int) :: ((k + 1 : Nat) : Int) :: l) M' := fun l M' a1 a2 => hX _ _ ⟨⟨l, rfl⟩, a1, a2⟩
    clear hX hk hok
    generalize zShf N seed m k = T at g2 r1 r2 hX2
    obtain ⟨x, y, h, x1, y1, x2, y2, h1, h2, x3, y3, e⟩ := zSf_at r1 hn2 r2 hm0 seed k
    rw [e] at hX2
    ((with_reducible refine i_turn (i_cI_lt (i_L3 (i_Mul (i_I (i_L2 ?_)))))); rw [zx_cmul (by omega)]; (with_reducible refine i_t (by omega) ?_); (with_reducible refine i_Blk (i_Seq (i_Set (i_Call (i_as1 (i_A0 (i_as1 (i_Call (i_as1 (i_L1 (i_as1 (i_Mul (i_I (i_L3 (i_as1 (i_L2 (i_as0 (i_recv1 ?_)))))))))))))))))); rw [zx_cmul (by omega)])
    refine m_lot hO hS hm0 ⟨_, rfl, ?_⟩
    ((with_reducible refine i_as0 ?_); (with_reducible refine i_recv0 (by assumption) ?_); simp only [w_set0, w_set1, w_setn0, w_setn1])
    refine m_tieAt hO hS n2 hn2 r1 g2 ⟨_, rfl, ?_⟩
    rw [x3]
    ((with_reducible refine i_Seq (i_Set (i_Call (i_as1 (i_L1 (i_as1 (i_Add (i_Mul (i_I (i_L3 (i_I (i_as1 (i_Mul (i_I (i_L2 (i_as0 (i_recv1 ?_))))))))))))))))); rw [zx_cmul (by omega)]; rw [zx_inc (by omega)]; rw [zx_cmul (by omega)]; simp only [w_set0, w_set1, w_setn0, w_setn1]; rw [w_setT]; simp only [w_set0, w_set1, w_setn0, w_setn1])
    refine m_lot hO hS (show 0 < 2 * m by omega) ⟨_, rfl, ?_⟩
    rw [h1]
    ((with_reducible refine i_Seq (i_Set (i_Call (i_as1 (i_A0 (i_as1 (i_Div ?_))))))); rw [w_setT]; (with_reducible refine i_L5 (i_I ?_)); rw [zx_divc (by omega)]; (with_reducible refine i_nn (by decide) ?_); (with_reducible refine i_as0 ?_); (with_reducible refine i_recv0 (by assumption) ?_); simp only [w_set0, w_set1, w_setn0, w_setn1])
    refine m_tieAt hO hS n2 hn2 r1 g2 ⟨_, rfl, ?_⟩
    rw [y3]
    have hxne : x / 16 ≠ x % 16 := fun z => by rw [z, r1.2.1] at x2; cases x2
    have hyne : y / 16 ≠ y % 16 := fun z => by rw [z, r1.2.1] at y2; cases y2
    by_cases hh : h % 2 = 0
    · rw [if_pos hh, if_pos hh] at hX2
      have hcd : T (y / 16) (y % 16) = true := y2
      have hcd2 : y / 16 ≠ y % 16 := hyne
      have ga := g2 (x / 16) (y % 16) (by omega) (by omega)
      have gb := g2 (y / 16) (x % 16) (by omega) (by omega)
      by_cases hq : x / 16 ≠ y / 16 ∧ x / 16 ≠ y % 16 ∧ x % 16 ≠ y / 16 ∧ x % 16 ≠ y % 16 ∧ T (x / 16) (y % 16) = false ∧ T (y / 16) (x % 16) = false
      · have hX3 : ∀ l M', (∀ b j, ¬ b = 267 → M' b j = M1 b j) → rMx M' 267 (zSwf T (x / 16) (x % 16) (y / 16) (y % 16)) → X (250 :: seed :: ((m : Nat) : Int) :: ((k + 1 : Nat) : Int) :: l) M' := fun l M' a1 a2 => hX2 l M' a1 (by unfold zSw4; rw [if_pos hq]; exact a2)
        obtain ⟨q1, q2, q3, q4, q5, q6⟩ := hq
        rw [q5, zbI_f] at ga
        rw [q6, zbI_f] at gb
        ((with_reducible refine i_Seq (i_Set (i_Div (i_L4 (i_I ?_))))); rw [zx_divc (by omega)]; simp only [w_set0, w_set1, w_setn0, w_setn1]; rw [w_setT]; simp only [w_set0, w_set1, w_setn0, w_setn1]; rw [w_setT]; (with_reducible refine i_nn (by decide) ?_); (with_reducible refine i_Seq (i_Set (i_Rem (i_L4 (i_I ?_))))); rw [zx_modc]; simp only [w_set0, w_set1, w_setn0, w_setn1]; rw [w_setT]; (with_reducible refine i_nn (by decide) ?_); (with_reducible refine i_Seq (i_Set (i_eIf (i_cZ_eq (i_Rem (i_L5 (i_I ?_))))))); rw [zx_modc]; (with_reducible refine i_nn (by decide) ?_); (with_reducible refine i_t (by omega) ?_); (with_reducible refine i_Div (i_L6 (i_I ?_))); rw [zx_divc (by omega)]; simp only [w_set0, w_set1, w_setn0, w_setn1]; rw [w_setT]; (with_reducible refine i_nn (by decide) ?_); (with_reducible refine i_Seq (i_Set (i_eIf (i_cZ_eq (i_Rem (i_L5 (i_I ?_))))))); rw [zx_modc]; (with_reducible refine i_nn (by decide) ?_); (with_reducible refine i_t (by omega) ?_); (with_reducible refine i_Rem (i_L6 (i_I ?_))); rw [zx_modc]; simp only [w_set0, w_set1, w_setn0, w_setn1]; rw [w_setT]; (with_reducible refine i_nn (by decide) ?_); (with_reducible refine i_Seq (i_IfBrk (i_cOr (i_cOr (i_cOr (i_cOr (i_cOr (i_cI_eq (i_L7 (i_L9 ?_)))))))))); (with_reducible refine i_f (by omega) ?_); (with_reducible refine i_cI_eq (i_L7 (i_L10 ?_))); (with_reducible refine i_f (by omega) ?_); (with_reducible refine i_cI_eq (i_L8 (i_L9 ?_))); (with_reducible refine i_f (by omega) ?_); (with_reducible refine i_cI_eq (i_L8 (i_L10 ?_))); (with_reducible refine i_f (by omega) ?_); (with_reducible refine i_cZ_ne (i_ZA (i_FR (i_A0 ?_)))); (with_reducible refine i_fldR (by assumption) ?_); (with_reducible refine i_Add (i_Mul (i_I (i_L7 (i_L10 ?_))))); rw [zx_cmul (by omega)]; rw [zx_add (by omega)]; (with_reducible refine i_in (by assumption) (by omega) (by omega) ?_); (rw [ga]); (with_reducible refine i_f (by omega) ?_); (with_reducible refine i_cZ_ne (i_ZA (i_FR (i_A0 ?_)))); (with_reducible refine i_fldR (by assumption) ?_); (with_reducible refine i_Add (i_Mul (i_I (i_L9 (i_L8 ?_))))); rw [zx_cmul (by omega)]; rw [zx_add (by omega)]; (with_reducible refine i_in (by assumption) (by omega) (by omega) ?_); (rw [gb]); (with_reducible refine i_f (by omega) ?_); (with_reducible refine i_Seq (i_sCall (i_as1 (i_A0 (i_as1 (i_L7 (i_as1 (i_L8 (i_as1 (i_I (i_as0 ?_))))))))))); (with_reducible refine i_recv0 (by assumption) ?_))
        refine m_link hO hS (v := false) (by omega) (by omega) rfl g2 (fun M3 f3 g3 => ⟨rfl, ?_⟩)
        rw [zlnk (r1.1 _ _) x2] at g3
        have r3 := zflip_reg r1 (r1.lt x2).1 (r1.lt x2).2 hxne
        ((with_reducible refine i_Seq (i_sCall (i_as1 (i_A0 (i_as1 (i_L9 (i_as1 (i_L10 (i_as1 (i_I (i_as0 ?_))))))))))); (with_reducible refine i_recv0 (by assumption) ?_))
        refine m_link hO hS (v := false) (by omega) (by omega) rfl g3 (fun M4 f4 g4 => ⟨rfl, ?_⟩)
        rw [zlnk (r3.1 _ _) (by rw [zflip_no (by omega) (by omega)]; exact hcd)] at g4
        have r4 := zflip_reg r3 (r1.lt hcd).1 (r1.lt hcd).2 hcd2
        ((with_reducible refine i_Seq (i_sCall (i_as1 (i_A0 (i_as1 (i_L7 (i_as1 (i_L10 (i_as1 (i_I (i_as0 ?_))))))))))); (with_reducible refine i_recv0 (by assumption) ?_))
        refine m_link hO hS (v := true) (by omega) (by omega) rfl g4 (fun M5 f5 g5 => ⟨rfl, ?_⟩)
        rw [zlnk (r4.1 _ _) (by rw [zflip_no (by omega) (by omega), zflip_no (by omega) (by omega)]; exact q5)] at g5
        have r5 := zflip_reg r4 (r1.lt x2).1 (r1.lt hcd).2 q2
        ((with_reducible refine i_sCall (i_as1 (i_A0 (i_as1 (i_L9 (i_as1 (i_L8 (i_as1 (i_I (i_as0 ?_)))))))))); (with_reducible refine i_recv0 (by assumption) ?_))
        refine m_link hO hS (v := true) (by omega) (by omega) rfl g5 (fun M6 f6 g6 => ⟨rfl, ?_⟩)
        rw [zlnk (r5.1 _ _) (by rw [zflip_no (by omega) (by omega), zflip_no (by omega) (by omega), zflip_no (by omega) (by omega)]; exact q6)] at g6
        ((with_reducible refine i_up (i_Inc3 ?_)); rw [zx_inc (by omega)]; simp only [w_set0, w_set1, w_setn0, w_setn1])
        exact hX3 _ M6 (fun b j q => by rw [f6 b j q, f5 b j q, f4 b j q, f3 b j q]; exact f2 b j q) g6
      · have hX3 : ∀ l, X (250 :: seed :: ((m : Nat) : Int) :: ((k + 1 : Nat) : Int) :: l) M2 := fun l => hX2 l M2 f2 (by unfold zSw4; rw [if_neg hq]; exact g2)
        (focus ((with_reducible refine i_Seq (i_Set (i_Div (i_L4 (i_I ?_))))); rw [zx_divc (by omega)]; simp only [w_set0, w_set1, w_setn0, w_setn1]; rw [w_setT]; simp only [w_set0, w_set1, w_setn0, w_setn1]; rw [w_setT]; (with_reducible refine i_nn (by decide) ?_); (with_reducible refine i_Seq (i_Set (i_Rem (i_L4 (i_I ?_))))); rw [zx_modc]; simp only [w_set0, w_set1, w_setn0, w_setn1]; rw [w_setT]; (with_reducible refine i_nn (by decide) ?_); (with_reducible refine i_Seq (i_Set (i_eIf (i_cZ_eq (i_Rem (i_L5 (i_I ?_))))))); rw [zx_modc]; (with_reducible refine i_nn (by decide) ?_); (with_reducible refine i_t (by omega) ?_); (with_reducible refine i_Div (i_L6 (i_I ?_))); rw [zx_divc (by omega)]; simp only [w_set0, w_set1, w_setn0, w_setn1]; rw [w_setT]; (with_reducible refine i_nn (by decide) ?_); (with_reducible refine i_Seq (i_Set (i_eIf (i_cZ_eq (i_Rem (i_L5 (i_I ?_))))))); rw [zx_modc]; (with_reducible refine i_nn (by decide) ?_); (with_reducible refine i_t (by omega) ?_); (with_reducible refine i_Rem (i_L6 (i_I ?_))); rw [zx_modc]; simp only [w_set0, w_set1, w_setn0, w_setn1]; rw [w_setT]; (with_reducible refine i_nn (by decide) ?_); (with_reducible refine i_Seq (i_IfBrk (i_cOr (i_cOr (i_cOr (i_cOr (i_cOr (i_cI_eq (i_L7 (i_L9 ?_)))))))))); (with_reducible refine i_br ?_ ?_ <;> intro hc); (focus ((with_reducible refine i_lab1 (i_up (i_Inc3 ?_))); rw [zx_inc (by omega)]; simp only [w_set0, w_set1, w_setn0, w_setn1])); rotate_left; (focus ((with_reducible refine i_cI_eq (i_L7 (i_L10 ?_))); (with_reducible refine i_br ?_ ?_ <;> intro hc); (focus ((with_reducible refine i_lab1 (i_up (i_Inc3 ?_))); rw [zx_inc (by omega)]; simp only [w_set0, w_set1, w_setn0, w_setn1])); rotate_left; (focus ((with_reducible refine i_cI_eq (i_L8 (i_L9 ?_))); (with_reducible refine i_br ?_ ?_ <;> intro hc); (focus ((with_reducible refine i_lab1 (i_up (i_Inc3 ?_))); rw [zx_inc (by omega)]; simp only [w_set0, w_set1, w_setn0, w_setn1])); rotate_left; (focus ((with_reducible refine i_cI_eq (i_L8 (i_L10 ?_))); (with_reducible refine i_br ?_ ?_ <;> intro hc); (focus ((with_reducible refine i_lab1 (i_up (i_Inc3 ?_))); rw [zx_inc (by omega)]; simp only [w_set0, w_set1, w_setn0, w_setn1])); rotate_left; (focus ((with_reducible refine i_cZ_ne (i_ZA (i_FR (i_A0 ?_)))); (with_reducible refine i_fldR (by assumption) ?_); (with_reducible refine i_Add (i_Mul (i_I (i_L7 (i_L10 ?_))))); rw [zx_cmul (by omega)]; rw [zx_add (by omega)]; (with_reducible refine i_in (by assumption) (by omega) (by omega) ?_); (rw [ga]); (with_reducible refine i_bne ?_ ?_ <;> intro hc); (focus ((with_reducible refine i_lab1 (i_up (i_Inc3 ?_))); rw [zx_inc (by omega)]; simp only [w_set0, w_set1, w_setn0, w_setn1])); rotate_left; (focus ((with_reducible refine i_cZ_ne (i_ZA (i_FR (i_A0 ?_)))); (with_reducible refine i_fldR (by assumption) ?_); (with_reducible refine i_Add (i_Mul (i_I (i_L9 (i_L8 ?_))))); rw [zx_cmul (by omega)]; rw [zx_add (by omega)]; (with_reducible refine i_in (by assumption) (by omega) (by omega) ?_); (rw [gb]); (with_reducible refine i_bne ?_ ?_ <;> intro hc); (focus ((with_reducible refine i_lab1 (i_up (i_Inc3 ?_))); rw [zx_inc (by omega)]; simp only [w_set0, w_set1, w_setn0, w_setn1])); rotate_left; (focus ((with_reducible refine i_Seq (i_sCall (i_as1 (i_A0 (i_as1 (i_L7 (i_as1 (i_L8 (i_as1 (i_I (i_as0 ?_))))))))))); (with_reducible refine i_recv0 (by assumption) ?_))); rotate_right)); rotate_right)); rotate_right)); rotate_right)); rotate_right)); rotate_right))
        all_goals first | exact hX3 _ | exact absurd ⟨by omega, by omega, by omega, by omega, by assumption, by assumption⟩ hq
    · rw [if_neg hh, if_neg hh] at hX2
      have hcd : T (y % 16) (y / 16) = true := (by rw [r1.1]; exact y2)
      have hcd2 : y % 16 ≠ y / 16 := (Ne.symm hyne)
      have ga := g2 (x / 16) (y / 16) (by omega) (by omega)
      have gb := g2 (y % 16) (x % 16) (by omega) (by omega)
      by_cases hq : x / 16 ≠ y % 16 ∧ x / 16 ≠ y / 16 ∧ x % 16 ≠ y % 16 ∧ x % 16 ≠ y / 16 ∧ T (x / 16) (y / 16) = false ∧ T (y % 16) (x % 16) = false
      · have hX3 : ∀ l M', (∀ b j, ¬ b = 267 → M' b j = M1 b j) → rMx M' 267 (zSwf T (x / 16) (x % 16) (y % 16) (y / 16)) → X (250 :: seed :: ((m : Nat) : Int) :: ((k + 1 : Nat) : Int) :: l) M' := fun l M' a1 a2 => hX2 l M' a1 (by unfold zSw4; rw [if_pos hq]; exact a2)
        obtain ⟨q1, q2, q3, q4, q5, q6⟩ := hq
        rw [q5, zbI_f] at ga
        rw [q6, zbI_f] at gb
        ((with_reducible refine i_Seq (i_Set (i_Div (i_L4 (i_I ?_))))); rw [zx_divc (by omega)]; simp only [w_set0, w_set1, w_setn0, w_setn1]; rw [w_setT]; simp only [w_set0, w_set1, w_setn0, w_setn1]; rw [w_setT]; (with_reducible refine i_nn (by decide) ?_); (with_reducible refine i_Seq (i_Set (i_Rem (i_L4 (i_I ?_))))); rw [zx_modc]; simp only [w_set0, w_set1, w_setn0, w_setn1]; rw [w_setT]; (with_reducible refine i_nn (by decide) ?_); (with_reducible refine i_Seq (i_Set (i_eIf (i_cZ_eq (i_Rem (i_L5 (i_I ?_))))))); rw [zx_modc]; (with_reducible refine i_nn (by decide) ?_); (with_reducible refine i_f (by omega) ?_); (with_reducible refine i_Rem (i_L6 (i_I ?_))); rw [zx_modc]; simp only [w_set0, w_set1, w_setn0, w_setn1]; rw [w_setT]; (with_reducible refine i_nn (by decide) ?_); (with_reducible refine i_Seq (i_Set (i_eIf (i_cZ_eq (i_Rem (i_L5 (i_I ?_))))))); rw [zx_modc]; (with_reducible refine i_nn (by decide) ?_); (with_reducible refine i_f (by omega) ?_); (with_reducible refine i_Div (i_L6 (i_I ?_))); rw [zx_divc (by omega)]; simp only [w_set0, w_set1, w_setn0, w_setn1]; rw [w_setT]; (with_reducible refine i_nn (by decide) ?_); (with_reducible refine i_Seq (i_IfBrk (i_cOr (i_cOr (i_cOr (i_cOr (i_cOr (i_cI_eq (i_L7 (i_L9 ?_)))))))))); (with_reducible refine i_f (by omega) ?_); (with_reducible refine i_cI_eq (i_L7 (i_L10 ?_))); (with_reducible refine i_f (by omega) ?_); (with_reducible refine i_cI_eq (i_L8 (i_L9 ?_))); (with_reducible refine i_f (by omega) ?_); (with_reducible refine i_cI_eq (i_L8 (i_L10 ?_))); (with_reducible refine i_f (by omega) ?_); (with_reducible refine i_cZ_ne (i_ZA (i_FR (i_A0 ?_)))); (with_reducible refine i_fldR (by assumption) ?_); (with_reducible refine i_Add (i_Mul (i_I (i_L7 (i_L10 ?_))))); rw [zx_cmul (by omega)]; rw [zx_add (by omega)]; (with_reducible refine i_in (by assumption) (by omega) (by omega) ?_); (rw [ga]); (with_reducible refine i_f (by omega) ?_); (with_reducible refine i_cZ_ne (i_ZA (i_FR (i_A0 ?_)))); (with_reducible refine i_fldR (by assumption) ?_); (with_reducible refine i_Add (i_Mul (i_I (i_L9 (i_L8 ?_))))); rw [zx_cmul (by omega)]; rw [zx_add (by omega)]; (with_reducible refine i_in (by assumption) (by omega) (by omega) ?_); (rw [gb]); (with_reducible refine i_f (by omega) ?_); (with_reducible refine i_Seq (i_sCall (i_as1 (i_A0 (i_as1 (i_L7 (i_as1 (i_L8 (i_as1 (i_I (i_as0 ?_))))))))))); (with_reducible refine i_recv0 (by assumption) ?_))
        refine m_link hO hS (v := false) (by omega) (by omega) rfl g2 (fun M3 f3 g3 => ⟨rfl, ?_⟩)
        rw [zlnk (r1.1 _ _) x2] at g3
        have r3 := zflip_reg r1 (r1.lt x2).1 (r1.lt x2).2 hxne
        ((with_reducible refine i_Seq (i_sCall (i_as1 (i_A0 (i_as1 (i_L9 (i_as1 (i_L10 (i_as1 (i_I (i_as0 ?_))))))))))); (with_reducible refine i_recv0 (by assumption) ?_))
        refine m_link hO hS (v := false) (by omega) (by omega) rfl g3 (fun M4 f4 g4 => ⟨rfl, ?_⟩)
        rw [zlnk (r3.1 _ _) (by rw [zflip_no (by omega) (by omega)]; exact hcd)] at g4
        have r4 := zflip_reg r3 (r1.lt hcd).1 (r1.lt hcd).2 hcd2
        ((with_reducible refine i_Seq (i_sCall (i_as1 (i_A0 (i_as1 (i_L7 (i_as1 (i_L10 (i_as1 (i_I (i_as0 ?_))))))))))); (with_reducible refine i_recv0 (by assumption) ?_))
        refine m_link hO hS (v := true) (by omega) (by omega) rfl g4 (fun M5 f5 g5 => ⟨rfl, ?_⟩)
        rw [zlnk (r4.1 _ _) (by rw [zflip_no (by omega) (by omega), zflip_no (by omega) (by omega)]; exact q5)] at g5
        have r5 := zflip_reg r4 (r1.lt x2).1 (r1.lt hcd).2 q2
        ((with_reducible refine i_sCall (i_as1 (i_A0 (i_as1 (i_L9 (i_as1 (i_L8 (i_as1 (i_I (i_as0 ?_)))))))))); (with_reducible refine i_recv0 (by assumption) ?_))
        refine m_link hO hS (v := true) (by omega) (by omega) rfl g5 (fun M6 f6 g6 => ⟨rfl, ?_⟩)
        rw [zlnk (r5.1 _ _) (by rw [zflip_no (by omega) (by omega), zflip_no (by omega) (by omega), zflip_no (by omega) (by omega)]; exact q6)] at g6
        ((with_reducible refine i_up (i_Inc3 ?_)); rw [zx_inc (by omega)]; simp only [w_set0, w_set1, w_setn0, w_setn1])
        exact hX3 _ M6 (fun b j q => by rw [f6 b j q, f5 b j q, f4 b j q, f3 b j q]; exact f2 b j q) g6
      · have hX3 : ∀ l, X (250 :: seed :: ((m : Nat) : Int) :: ((k + 1 : Nat) : Int) :: l) M2 := fun l => hX2 l M2 f2 (by unfold zSw4; rw [if_neg hq]; exact g2)
        (focus ((with_reducible refine i_Seq (i_Set (i_Div (i_L4 (i_I ?_))))); rw [zx_divc (by omega)]; simp only [w_set0, w_set1, w_setn0, w_setn1]; rw [w_setT]; simp only [w_set0, w_set1, w_setn0, w_setn1]; rw [w_setT]; (with_reducible refine i_nn (by decide) ?_); (with_reducible refine i_Seq (i_Set (i_Rem (i_L4 (i_I ?_))))); rw [zx_modc]; simp only [w_set0, w_set1, w_setn0, w_setn1]; rw [w_setT]; (with_reducible refine i_nn (by decide) ?_); (with_reducible refine i_Seq (i_Set (i_eIf (i_cZ_eq (i_Rem (i_L5 (i_I ?_))))))); rw [zx_modc]; (with_reducible refine i_nn (by decide) ?_); (with_reducible refine i_f (by omega) ?_); (with_reducible refine i_Rem (i_L6 (i_I ?_))); rw [zx_modc]; simp only [w_set0, w_set1, w_setn0, w_setn1]; rw [w_setT]; (with_reducible refine i_nn (by decide) ?_); (with_reducible refine i_Seq (i_Set (i_eIf (i_cZ_eq (i_Rem (i_L5 (i_I ?_))))))); rw [zx_modc]; (with_reducible refine i_nn (by decide) ?_); (with_reducible refine i_f (by omega) ?_); (with_reducible refine i_Div (i_L6 (i_I ?_))); rw [zx_divc (by omega)]; simp only [w_set0, w_set1, w_setn0, w_setn1]; rw [w_setT]; (with_reducible refine i_nn (by decide) ?_); (with_reducible refine i_Seq (i_IfBrk (i_cOr (i_cOr (i_cOr (i_cOr (i_cOr (i_cI_eq (i_L7 (i_L9 ?_)))))))))); (with_reducible refine i_br ?_ ?_ <;> intro hc); (focus ((with_reducible refine i_lab1 (i_up (i_Inc3 ?_))); rw [zx_inc (by omega)]; simp only [w_set0, w_set1, w_setn0, w_setn1])); rotate_left; (focus ((with_reducible refine i_cI_eq (i_L7 (i_L10 ?_))); (with_reducible refine i_br ?_ ?_ <;> intro hc); (focus ((with_reducible refine i_lab1 (i_up (i_Inc3 ?_))); rw [zx_inc (by omega)]; simp only [w_set0, w_set1, w_setn0, w_setn1])); rotate_left; (focus ((with_reducible refine i_cI_eq (i_L8 (i_L9 ?_))); (with_reducible refine i_br ?_ ?_ <;> intro hc); (focus ((with_reducible refine i_lab1 (i_up (i_Inc3 ?_))); rw [zx_inc (by omega)]; simp only [w_set0, w_set1, w_setn0, w_setn1])); rotate_left; (focus ((with_reducible refine i_cI_eq (i_L8 (i_L10 ?_))); (with_reducible refine i_br ?_ ?_ <;> intro hc); (focus ((with_reducible refine i_lab1 (i_up (i_Inc3 ?_))); rw [zx_inc (by omega)]; simp only [w_set0, w_set1, w_setn0, w_setn1])); rotate_left; (focus ((with_reducible refine i_cZ_ne (i_ZA (i_FR (i_A0 ?_)))); (with_reducible refine i_fldR (by assumption) ?_); (with_reducible refine i_Add (i_Mul (i_I (i_L7 (i_L10 ?_))))); rw [zx_cmul (by omega)]; rw [zx_add (by omega)]; (with_reducible refine i_in (by assumption) (by omega) (by omega) ?_); (rw [ga]); (with_reducible refine i_bne ?_ ?_ <;> intro hc); (focus ((with_reducible refine i_lab1 (i_up (i_Inc3 ?_))); rw [zx_inc (by omega)]; simp only [w_set0, w_set1, w_setn0, w_setn1])); rotate_left; (focus ((with_reducible refine i_cZ_ne (i_ZA (i_FR (i_A0 ?_)))); (with_reducible refine i_fldR (by assumption) ?_); (with_reducible refine i_Add (i_Mul (i_I (i_L9 (i_L8 ?_))))); rw [zx_cmul (by omega)]; rw [zx_add (by omega)]; (with_reducible refine i_in (by assumption) (by omega) (by omega) ?_); (rw [gb]); (with_reducible refine i_bne ?_ ?_ <;> intro hc); (focus ((with_reducible refine i_lab1 (i_up (i_Inc3 ?_))); rw [zx_inc (by omega)]; simp only [w_set0, w_set1, w_setn0, w_setn1])); rotate_left; (focus ((with_reducible refine i_Seq (i_sCall (i_as1 (i_A0 (i_as1 (i_L7 (i_as1 (i_L8 (i_as1 (i_I (i_as0 ?_))))))))))); (with_reducible refine i_recv0 (by assumption) ?_))); rotate_right)); rotate_right)); rotate_right)); rotate_right)); rotate_right)); rotate_right))
        all_goals first | exact hX3 _ | exact absurd ⟨by omega, by omega, by omega, by omega, by assumption, by assumption⟩ hq
  · rintro ρ M2 X ⟨⟨l, rfl⟩, f2, g2⟩
    ((with_reducible refine i_turn (i_cI_lt (i_L3 (i_Mul (i_I (i_L2 ?_)))))); rw [zx_cmul (by omega)]; (with_reducible refine i_f (by omega) ?_); (with_reducible refine i_RetV ?_))
    exact hk M2 (fun b j q => by rw [f2 b j q, f1' b j (by omega)]) g2
theorem m_chance_bad {O : zOm} (hO : zWld O) (hS : zS O = zmS zC0) {seed a b : Int} {n : Nat} {M : zMem} {K : Option zV → zMem → Prop} (hn : M 250 ((1 : Nat) : Int) = ((n : Nat) : Int)) (hb : ¬ ((0 ≤ a ∧ a < ((n : Nat) : Int)) ∧ (0 ≤ b ∧ b < ((n : Nat) : Int)) ∧ a ≠ b)) (hk : K (some (0, -1)) M) : zR O F_Model_chance [(2, 250), (0, seed), (0, a), (0, b)] M K := by
  apply r_Model_chance hO
  unfold B_Model_chance
  have f21 := zMF (k := 21) hS rfl; have a267 := zMA (a := 267) (ty := .boolean) (n := 256) hS rfl; have zo := zMO hS
  ((with_reducible refine i_Seq (i_If (i_cNot (i_cZ_ne (i_Call (i_as1 (i_A0 (i_as1 (i_L2 (i_as1 (i_L3 (i_as0 ?_)))))))))))); (with_reducible refine i_recv0 (by assumption) ?_); (refine m_isPair hO hS hn ⟨_, rfl, ?_⟩); (rw [decide_eq_false hb]); rw [zbI_f]; (with_reducible refine i_f (by omega) ?_); (with_reducible refine i_RetI (i_I ?_)))
  exact hk
theorem m_chance {O : zOm} (hO : zWld O) (hS : zS O = zmS zC0) {seed : Int} {n a b : Nat} {N : Nat → Nat → Bool} {M : zMem} {K : Option zV → zMem → Prop} (hn : M 250 ((1 : Nat) : Int) = ((n : Nat) : Int)) (hn2 : n ≤ 16) (hN : rMx M 251 N) (hR : zReg n N) (ha : a < n) (hb : b < n) (hab : a ≠ b)
    (hk : ∀ M', (∀ b j, ¬ b = 267 → M' b j = M b j) → K (some (0, zbI (zCh n N seed a b))) M') : zR O F_Model_chance [(2, 250), (0, seed), (0, ((a : Nat) : Int)), (0, ((b : Nat) : Int))] M K := by
  apply r_Model_chance hO
  unfold B_Model_chance
  have f21 := zMF (k := 21) hS rfl; have a267 := zMA (a := 267) (ty := .boolean) (n := 256) hS rfl; have zo := zMO hS
  ((with_reducible refine i_Seq (i_If (i_cNot (i_cZ_ne (i_Call (i_as1 (i_A0 (i_as1 (i_L2 (i_as1 (i_L3 (i_as0 ?_)))))))))))); (with_reducible refine i_recv0 (by assumption) ?_); (refine m_isPair hO hS hn ⟨_, rfl, ?_⟩); (rw [decide_eq_true (show (0 ≤ ((a : Nat) : Int) ∧ ((a : Nat) : Int) < ((n : Nat) : Int)) ∧ (0 ≤ ((b : Nat) : Int) ∧ ((b : Nat) : Int) < ((n : Nat) : Int)) ∧ ((a : Nat) : Int) ≠ ((b : Nat) : Int) by omega)]); rw [zbI_t]; (with_reducible refine i_t (by omega) ?_); (with_reducible refine i_Seq (i_sCall (i_as1 (i_A0 (i_as1 (i_L1 (i_as0 ?_))))))); (with_reducible refine i_recv0 (by assumption) ?_))
  refine m_shuffle hO hS hn hn2 hN hR (fun M1 f1 g1 => ⟨rfl, ?_⟩)
  have g2 := g1 a b (by omega) (by omega)
  have h2 := hk M1 f1
  generalize zCh n N seed a b = v at g2 h2
  cases v
  · ((with_reducible refine i_RetI (i_eIf (i_cZ_ne (i_ZA (i_FR (i_A0 ?_)))))); (with_reducible refine i_fldR (by assumption) ?_); (with_reducible refine i_Add (i_Mul (i_I (i_L2 (i_L3 ?_))))); rw [zx_cmul (by omega)]; rw [zx_add (by omega)]; (with_reducible refine i_in (by assumption) (by omega) (by omega) ?_); (rw [g2]); rw [zbI_f]; (with_reducible refine i_f (by omega) ?_); (with_reducible refine i_I ?_))
    exact h2
  · ((with_reducible refine i_RetI (i_eIf (i_cZ_ne (i_ZA (i_FR (i_A0 ?_)))))); (with_reducible refine i_fldR (by assumption) ?_); (with_reducible refine i_Add (i_Mul (i_I (i_L2 (i_L3 ?_))))); rw [zx_cmul (by omega)]; rw [zx_add (by omega)]; (with_reducible refine i_in (by assumption) (by omega) (by omega) ?_); (rw [g2]); rw [zbI_t]; (with_reducible refine i_t (by omega) ?_); (with_reducible refine i_I ?_))
    exact h2
theorem m_lengthOfBoxes {O : zOm} (hO : zWld O) (hS : zS O = zmS zC0) {t n : Nat} {A : zTl} {T : Nat → Nat → Bool} {M : zMem} {K : Option zV → zMem → Prop} (ht : t < 6) (hn : M 250 ((1 : Nat) : Int) = ((n : Nat) : Int)) (hn2 : n ≤ 16) (hA : rTe M t n A) (hw : zTw n A) (hT : rMx M 267 T)
    (hk : ∀ M', (∀ b j, ¬ ((b = 258 ∧ j = ((6 : Nat) : Int) ∨ (b = 259 ∨ b = 260 ∨ b = 262 ∨ b = 263) ∧ ((16 * 6 : Nat) : Int) ≤ j ∧ j < ((16 * 6 + 16 : Nat) : Int) ∨ (b = 261 ∨ b = 264 ∨ b = 265 ∨ b = 266) ∧ ((256 * 6 : Nat) : Int) ≤ j ∧ j < ((256 * 6 + 256 : Nat) : Int)) ∨ ((268 : Nat) : Int) ≤ b ∧ b ≤ ((272 : Nat) : Int) ∨ b = 283 ∨ b = 284) → M' b j = M b j) → K (some (0, ((zLgt n T (tf A) : Nat) : Int))) M') : zR O F_Model_lengthOfBoxes [(2, 250), (0, ((t : Nat) : Int))] M K := by
  apply r_Model_lengthOfBoxes hO
  unfold B_Model_lengthOfBoxes
  have zo := zMO hS
  ((with_reducible refine i_Seq (i_sCall (i_as1 (i_A0 (i_as1 (i_L1 (i_as0 ?_))))))); (with_reducible refine i_recv0 (by assumption) ?_))
  refine m_labelsOf hO hS (by omega) hn hn2 hA.1.2.1 (fun M1 f1 g1 => ⟨rfl, ?_⟩)
  ((with_reducible refine i_RetI (i_Call (i_as1 (i_A0 (i_as0 ?_))))); (with_reducible refine i_recv0 (by assumption) ?_))
  refine m_lengthBy hO hS (show M1 250 ((1 : Nat) : Int) = ((n : Nat) : Int) by rw [f1 _ _ (by omega)]; exact hn) hn2 g1 (fun q hq => by have := hw.f16 q hq; omega) (hT.to (fun j => f1 _ _ (by omega))) (fun M2 f2 => ⟨_, rfl, ?_⟩)
  (skip)
  exact hk M2 (fun b j q => by rw [f2 b j (by omega), f1 b j (by omega)])
/-- how many of the nets by chance are not longer -/
def zOdd (n : Nat) (N : Nat → Nat → Bool) (f : Nat → Nat) (seed : Int) (i : Nat) : Bool := decide (zLgt n (zCh n N (zw32 (seed + ((i : Nat) : Int)))) f ≤ zLgt n N f)
theorem m_odds_bad {O : zOm} (hO : zWld O) (hS : zS O = zmS zC0) {t seed k : Int} {T : Nat} {M : zMem} {K : Option zV → zMem → Prop} (hT : M 250 ((11 : Nat) : Int) = ((T : Nat) : Int)) (hb : ¬ ((0 ≤ t ∧ t < ((T : Nat) : Int)) ∧ 1 ≤ k ∧ k ≤ 40)) (hk : K (some (0, -1)) M) : zR O F_Model_odds [(2, 250), (0, t), (0, seed), (0, k)] M K := by
  apply r_Model_odds hO
  unfold B_Model_odds
  have zo := zMO hS
  by_cases ht : 0 ≤ t ∧ t < ((T : Nat) : Int)
  · by_cases h1 : k < 1
    · ((with_reducible refine i_Seq (i_If (i_cOr (i_cOr (i_cNot (i_cZ_ne (i_Call (i_as1 (i_A0 (i_as1 (i_L1 (i_as0 ?_)))))))))))); (with_reducible refine i_recv0 (by assumption) ?_); (refine m_isTelling hO hS hT ⟨_, rfl, ?_⟩); (rw [decide_eq_true ht]); rw [zbI_t]; (with_reducible refine i_t (by omega) ?_); (with_reducible refine i_cI_lt (i_L3 (i_I ?_))); (with_reducible refine i_t (by omega) ?_); (with_reducible refine i_RetI (i_I ?_)))
      exact hk
    · have h2 : 40 < k := by omega
      ((with_reducible refine i_Seq (i_If (i_cOr (i_cOr (i_cNot (i_cZ_ne (i_Call (i_as1 (i_A0 (i_as1 (i_L1 (i_as0 ?_)))))))))))); (with_reducible refine i_recv0 (by assumption) ?_); (refine m_isTelling hO hS hT ⟨_, rfl, ?_⟩); (rw [decide_eq_true ht]); rw [zbI_t]; (with_reducible refine i_t (by omega) ?_); (with_reducible refine i_cI_lt (i_L3 (i_I ?_))); (with_reducible refine i_f (by omega) ?_); (with_reducible refine i_cI_gt (i_L3 (i_I ?_))); (with_reducible refine i_t (by omega) ?_); (with_reducible refine i_RetI (i_I ?_)))
      exact hk
  · ((with_reducible refine i_Seq (i_If (i_cOr (i_cOr (i_cNot (i_cZ_ne (i_Call (i_as1 (i_A0 (i_as1 (i_L1 (i_as0 ?_)))))))))))); (with_reducible refine i_recv0 (by assumption) ?_); (refine m_isTelling hO hS hT ⟨_, rfl, ?_⟩); (rw [decide_eq_false ht]); rw [zbI_f]; (with_reducible refine i_f (by omega) ?_); (with_reducible refine i_RetI (i_I ?_)))
    exact hk
theorem m_odds {O : zOm} (hO : zWld O) (hS : zS O = zmS zC0) {t T n k : Nat} {seed : Int} {A : zTl} {N : Nat → Nat → Bool} {M : zMem} {K : Option zV → zMem → Prop} (hT : M 250 ((11 : Nat) : Int) = ((T : Nat) : Int)) (hT5 : T ≤ 5) (ht : t < T) (hn : M 250 ((1 : Nat) : Int) = ((n : Nat) : Int)) (hn2 : n ≤ 16) (hN : rMx M 251 N) (hR : zReg n N) (hA : rTe M t n A) (hw : zTw n A) (hk1 : 1 ≤ k) (hk40 : k ≤ 40)
    (hk : ∀ M', (∀ b j, ¬ ((b = 258 ∧ j = ((6 : Nat) : Int) ∨ (b = 259 ∨ b = 260 ∨ b = 262 ∨ b = 263) ∧ ((16 * 6 : Nat) : Int) ≤ j ∧ j < ((16 * 6 + 16 : Nat) : Int) ∨ (b = 261 ∨ b = 264 ∨ b = 265 ∨ b = 266) ∧ ((256 * 6 : Nat) : Int) ≤ j ∧ j < ((256 * 6 + 256 : Nat) : Int)) ∨ ((267 : Nat) : Int) ≤ b ∧ b ≤ ((272 : Nat) : Int) ∨ b = 283 ∨ b = 284) → M' b j = M b j) → K (some (0, ((zcnt (zOdd n N (tf A) seed) k : Nat) : Int))) M') : zR O F_Model_odds [(2, 250), (0, ((t : Nat) : Int)), (0, seed), (0, ((k : Nat) : Int))] M K := by
  have hb01 : ∀ j : Nat, j < 256 → M ((251 : Nat) : Int) j = 0 ∨ M ((251 : Nat) : Int) j = 1 := fun j hj => hN.b01 hj
  apply r_Model_odds hO
  unfold B_Model_odds
  have zo := zMO hS
  ((with_reducible refine i_Seq (i_If (i_cOr (i_cOr (i_cNot (i_cZ_ne (i_Call (i_as1 (i_A0 (i_as1 (i_L1 (i_as0 ?_)))))))))))); (with_reducible refine i_recv0 (by assumption) ?_); (refine m_isTelling hO hS hT ⟨_, rfl, ?_⟩); (rw [decide_eq_true (show 0 ≤ ((t : Nat) : Int) ∧ ((t : Nat) : Int) < ((T : Nat) : Int) by omega)]); rw [zbI_t]; (with_reducible refine i_t (by omega) ?_); (with_reducible refine i_cI_lt (i_L3 (i_I ?_))); (with_reducible refine i_f (by omega) ?_); (with_reducible refine i_cI_gt (i_L3 (i_I ?_))); (with_reducible refine i_f (by omega) ?_); (with_reducible refine i_Seq (i_sCall (i_as1 (i_A0 (i_as0 ?_))))); (with_reducible refine i_recv0 (by assumption) ?_))
  refine m_aimAtNet hO hS hN hb01 (fun M1 f1' g1 => ⟨rfl, ?_⟩)
  have n1 : M1 250 ((1 : Nat) : Int) = ((n : Nat) : Int) := by rw [f1' _ _ (by omega)]; exact hn
  have A1 : rTe M1 t n A := hA.to hn2 hw (fun b j q => f1' b j (by omega))
  ((with_reducible refine i_Seq (i_Set (i_Call (i_as1 (i_A0 (i_as1 (i_L1 (i_as0 ?_)))))))); (with_reducible refine i_recv0 (by assumption) ?_); simp only [w_set0, w_set1, w_setn0, w_setn1])
  refine m_lengthOfBoxes hO hS (by omega) n1 hn2 A1 hw g1 (fun M2 f2 => ⟨_, rfl, ?_⟩)
  have k2 : ∀ b j, ¬ ((b = 258 ∧ j = ((6 : Nat) : Int) ∨ (b = 259 ∨ b = 260 ∨ b = 262 ∨ b = 263) ∧ ((16 * 6 : Nat) : Int) ≤ j ∧ j < ((16 * 6 + 16 : Nat) : Int) ∨ (b = 261 ∨ b = 264 ∨ b = 265 ∨ b = 266) ∧ ((256 * 6 : Nat) : Int) ≤ j ∧ j < ((256 * 6 + 256 : Nat) : Int)) ∨ ((267 : Nat) : Int) ≤ b ∧ b ≤ ((272 : Nat) : Int) ∨ b = 283 ∨ b = 284) → M2 b j = M b j := fun b j q => by rw [f2 b j (by omega), f1' b j (by omega)]
  ((with_reducible refine i_Seq (i_Set (i_I (i_Seq (i_Blk (i_Seq (i_Set (i_I ?_)))))))); simp only [w_set0, w_set1, w_setn0, w_setn1])
  refine w_ForN k (fun i ρ M' => (∃ l, ρ = 250 :: ((t : Nat) : Int) :: seed :: ((k : Nat) : Int) :: ((zLgt n N (tf A) : Nat) : Int) :: ((zcnt (zOdd n N (tf A) seed) i : Nat) : Int) :: ((i : Nat) : Int) :: l) ∧ (∀ b j, ¬ ((b = 258 ∧ j = ((6 : Nat) : Int) ∨ (b = 259 ∨ b = 260 ∨ b = 262 ∨ b = 263) ∧ ((16 * 6 : Nat) : Int) ≤ j ∧ j < ((16 * 6 + 16 : Nat) : Int) ∨ (b = 261 ∨ b = 264 ∨ b = 265 ∨ b = 266) ∧ ((256 * 6 : Nat) : Int) ≤ j ∧ j < ((256 * 6 + 256 : Nat) : Int)) ∨ ((267 : Nat) : Int) ≤ b ∧ b ≤ ((272 : Nat) : Int) ∨ b = 283 ∨ b = 284) → M' b j = M b j)) ⟨⟨_, rfl⟩, k2⟩ ?_ ?_
  · rintro i ρ M3 X hi ⟨⟨l, rfl⟩, f3⟩ hX
    have n3 : M3 250 ((1 : Nat) : Int) = ((n : Nat) : Int) := by rw [f3 _ _ (by omega)]; exact hn
    have hzc := zcnt_le (zOdd n N (tf A) seed) i
    have hX2 : ∀ l M' (c : Nat), (∀ b j, ¬ ((b = 258 ∧ j = ((6 : Nat) : Int) ∨ (b = 259 ∨ b = 260 ∨ b = 262 ∨ b = 263) ∧ ((16 * 6 : Nat) : Int) ≤ j ∧ j < ((16 * 6 + 16 : Nat) : Int) ∨ (b = 261 ∨ b = 264 ∨ b = 265 ∨ b = 266) ∧ ((256 * 6 : Nat) : Int) ≤ j ∧ j < ((256 * 6 + 256 : Nat) : Int)) ∨ ((267 : Nat) : Int) ≤ b ∧ b ≤ ((272 : Nat) : Int) ∨ b = 283 ∨ b = 284) → M' b j = M b j) → c = zcnt (zOdd n N (tf A) seed) i + (if zOdd n N (tf A) seed i = true then 1 else 0) → X (250 :: ((t : Nat) : Int) :: seed :: ((k : Nat) : Int) :: ((zLgt n N (tf A) : Nat) : Int) :: ((c : Nat) : Int) :: ((i + 1 : Nat) : Int) :: l) M' := fun l M' c a1 hc => by subst hc; exact hX _ _ ⟨⟨l, rfl⟩, a1⟩
    ((with_reducible refine i_turn (i_cI_lt (i_L6 (i_L3 ?_)))); (with_reducible refine i_t (by omega) ?_); (with_reducible refine i_Seq (i_sCall (i_as1 (i_A0 (i_as1 (i_Add (i_L2 (i_L6 (i_as0 ?_))))))))); (with_reducible refine i_recv0 (by assumption) ?_))
    refine m_shuffle hO hS n3 hn2 (hN.to (fun j => f3 _ _ (by omega))) hR (fun M4 f4 g4 => ⟨rfl, ?_⟩)
    ((with_reducible refine i_Set (i_Add (i_L5 (i_eIf (i_cI_le (i_Call (i_as1 (i_A0 (i_as1 (i_L1 (i_as0 ?_))))))))))); (with_reducible refine i_recv0 (by assumption) ?_))
    refine m_lengthOfBoxes hO hS (by omega) (show M4 250 ((1 : Nat) : Int) = ((n : Nat) : Int) by rw [f4 _ _ (by omega)]; exact n3) hn2 (hA.to hn2 hw (fun b j q => by rw [f4 b j (by omega), f3 b j (by omega)])) hw g4 (fun M5 f5 => ⟨_, rfl, ?_⟩)
    have k5 : ∀ b j, ¬ ((b = 258 ∧ j = ((6 : Nat) : Int) ∨ (b = 259 ∨ b = 260 ∨ b = 262 ∨ b = 263) ∧ ((16 * 6 : Nat) : Int) ≤ j ∧ j < ((16 * 6 + 16 : Nat) : Int) ∨ (b = 261 ∨ b = 264 ∨ b = 265 ∨ b = 266) ∧ ((256 * 6 : Nat) : Int) ≤ j ∧ j < ((256 * 6 + 256 : Nat) : Int)) ∨ ((267 : Nat) : Int) ≤ b ∧ b ≤ ((272 : Nat) : Int) ∨ b = 283 ∨ b = 284) → M5 b j = M b j := fun b j q => by rw [f5 b j (by omega), f4 b j (by omega), f3 b j (by omega)]
    have hX3 := fun l c => hX2 l M5 c k5
    clear hX hX2
    by_cases w : zLgt n (zCh n N (zw32 (seed + ((i : Nat) : Int)))) (tf A) ≤ zLgt n N (tf A)
    · rw [if_pos (show zOdd n N (tf A) seed i = true from decide_eq_true w)] at hX3
      generalize zcnt (zOdd n N (tf A) seed) i = z at hX3 hzc ⊢
      ((with_reducible refine i_L4 ?_); (with_reducible refine i_t (by omega) ?_); (with_reducible refine i_I (i_up ?_)); rw [zx_inc (by omega)]; simp only [w_set0, w_set1, w_setn0, w_setn1]; (with_reducible refine i_Inc6 ?_); rw [zx_inc (by omega)]; simp only [w_set0, w_set1, w_setn0, w_setn1])
      exact hX3 _ _ rfl
    · rw [if_neg (show ¬ zOdd n N (tf A) seed i = true from fun z => w (of_decide_eq_true z))] at hX3
      generalize zcnt (zOdd n N (tf A) seed) i = z at hX3 hzc ⊢
      ((with_reducible refine i_L4 ?_); (with_reducible refine i_f (by omega) ?_); (with_reducible refine i_I (i_up ?_)); rw [zx_addc (by omega)]; simp only [w_set0, w_set1, w_setn0, w_setn1]; (with_reducible refine i_Inc6 ?_); rw [zx_inc (by omega)]; simp only [w_set0, w_set1, w_setn0, w_setn1])
      exact hX3 _ _ rfl
  · rintro ρ M3 X ⟨⟨l, rfl⟩, f3⟩
    ((with_reducible refine i_turn (i_cI_lt (i_L6 (i_L3 ?_)))); (with_reducible refine i_f (by omega) ?_); (with_reducible refine i_RetI (i_L5 ?_)))
    exact hk M3 f3
