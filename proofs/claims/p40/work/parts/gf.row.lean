/-! ===== row: both sides ===== -/
theorem m_isBox {O : zOm} (hO : zWld O) (hS : zS O = zmS zC0) {t T m : Nat} {b : Int} {M : zMem} {K : Option zV → zMem → Prop} (hT : M 250 ((11 : Nat) : Int) = ((T : Nat) : Int)) (hT5 : T ≤ 5) (ht : t < T) (hm : M ((258 : Nat) : Int) ((t : Nat) : Int) = ((m : Nat) : Int)) (hk : K (some (0, zbI (decide (0 ≤ b ∧ b < ((m : Nat) : Int))))) M) : zR O F_Model_isBox [(2, 250), (0, ((t : Nat) : Int)), (0, b)] M K := by
  apply r_Model_isBox hO
  unfold B_Model_isBox
  have f12 := zMF (k := 12) hS rfl; have a258 := zMA (a := 258) (ty := .int) (n := 7) hS rfl; have zo := zMO hS
  (focus ((with_reducible refine i_RetZ (i_eIf (i_cAnd (i_cAnd (i_cZ_ne (i_Call (i_as1 (i_A0 (i_as1 (i_L1 (i_as0 ?_))))))))))); (with_reducible refine i_recv0 (by assumption) ?_); (refine m_isTelling hO hS hT ⟨_, rfl, ?_⟩); (rw [decide_eq_true (show 0 ≤ ((t : Nat) : Int) ∧ ((t : Nat) : Int) < ((T : Nat) : Int) by omega)]); rw [zbI_t]; (with_reducible refine i_t (by omega) ?_); (with_reducible refine i_cZ_ge (i_L2 ?_)); (with_reducible refine i_br ?_ ?_ <;> intro hc); (focus ((with_reducible refine i_cI_lt (i_L2 (i_IA (i_FR (i_A0 ?_))))); (with_reducible refine i_fldR (by assumption) ?_); (with_reducible refine i_L1 ?_); (with_reducible refine i_in (by assumption) (by omega) (by omega) ?_); (rw [hm]); (with_reducible refine i_br ?_ ?_ <;> intro hc); (focus ((with_reducible refine i_I ?_); (with_reducible refine i_z (Or.inr rfl) ?_))); rotate_left; (focus ((with_reducible refine i_I ?_); (with_reducible refine i_z (Or.inl rfl) ?_))); rotate_right)); rotate_left 2; (focus ((with_reducible refine i_I ?_); (with_reducible refine i_z (Or.inl rfl) ?_))); rotate_right 2))
  all_goals first | (rw [decide_eq_true (by omega)] at hk; exact hk) | (rw [decide_eq_false (by omega)] at hk; exact hk)
theorem m_isBox_bad {O : zOm} (hO : zWld O) (hS : zS O = zmS zC0) {t b : Int} {T : Nat} {M : zMem} {K : Option zV → zMem → Prop} (hT : M 250 ((11 : Nat) : Int) = ((T : Nat) : Int)) (ht : ¬ (0 ≤ t ∧ t < ((T : Nat) : Int))) (hk : K (some (0, 0)) M) : zR O F_Model_isBox [(2, 250), (0, t), (0, b)] M K := by
  apply r_Model_isBox hO
  unfold B_Model_isBox
  have f12 := zMF (k := 12) hS rfl; have a258 := zMA (a := 258) (ty := .int) (n := 7) hS rfl; have zo := zMO hS
  ((with_reducible refine i_RetZ (i_eIf (i_cAnd (i_cAnd (i_cZ_ne (i_Call (i_as1 (i_A0 (i_as1 (i_L1 (i_as0 ?_))))))))))); (with_reducible refine i_recv0 (by assumption) ?_); (refine m_isTelling hO hS hT ⟨_, rfl, ?_⟩); (rw [decide_eq_false ht]); rw [zbI_f]; (with_reducible refine i_f (by omega) ?_); (with_reducible refine i_I ?_); (with_reducible refine i_z (Or.inl rfl) ?_))
  exact hk
theorem m_row_bad {O : zOm} (hO : zWld O) (hS : zS O = zmS zC0) {t b k : Int} {T : Nat} {M : zMem} {K : Option zV → zMem → Prop} (hT : M 250 ((11 : Nat) : Int) = ((T : Nat) : Int)) (ht : ¬ (0 ≤ t ∧ t < ((T : Nat) : Int))) (hk : K (some (0, -1)) M) : zR O F_Model_row [(2, 250), (0, t), (0, b), (0, k)] M K := by
  apply r_Model_row hO
  unfold B_Model_row
  have f14 := zMF (k := 14) hS rfl; have a260 := zMA (a := 260) (ty := .int) (n := 112) hS rfl; have f15 := zMF (k := 15) hS rfl; have a261 := zMA (a := 261) (ty := .int) (n := 1792) hS rfl; have zo := zMO hS
  ((with_reducible refine i_RetI (i_eIf (i_cAnd (i_cAnd (i_cZ_ne (i_Call (i_as1 (i_A0 (i_as1 (i_L1 (i_as1 (i_L2 (i_as0 ?_))))))))))))); (with_reducible refine i_recv0 (by assumption) ?_); (refine m_isBox_bad hO hS hT ht ⟨_, rfl, ?_⟩); (with_reducible refine i_f (by omega) ?_); (with_reducible refine i_I ?_))
  exact hk
theorem m_row_out {O : zOm} (hO : zWld O) (hS : zS O = zmS zC0) {t T n : Nat} {b k : Int} {A : zTl} {M : zMem} {K : Option zV → zMem → Prop} (hT : M 250 ((11 : Nat) : Int) = ((T : Nat) : Int)) (hT5 : T ≤ 5) (ht : t < T) (hA : rTe M t n A) (hw : zTw n A) (hb : ¬ ((0 ≤ b ∧ b < ((tm A : Nat) : Int)) ∧ 0 ≤ k ∧ k < ((zSz (tf A) n b.toNat : Nat) : Int))) (hk : K (some (0, -1)) M) : zR O F_Model_row [(2, 250), (0, ((t : Nat) : Int)), (0, b), (0, k)] M K := by
  have h1 := hA.1.1
  have hm := hw.1.1
  apply r_Model_row hO
  unfold B_Model_row
  have f14 := zMF (k := 14) hS rfl; have a260 := zMA (a := 260) (ty := .int) (n := 112) hS rfl; have f15 := zMF (k := 15) hS rfl; have a261 := zMA (a := 261) (ty := .int) (n := 1792) hS rfl; have zo := zMO hS
  by_cases e : 0 ≤ b ∧ b < ((tm A : Nat) : Int)
  · obtain ⟨b, rfl⟩ : ∃ b' : Nat, b = ((b' : Nat) : Int) := ⟨b.toNat, by omega⟩
    rw [show (((b : Nat) : Int) : Int).toNat = b from rfl] at hb
    have g := hA.1.2.2 b (by omega)
    generalize zSz (tf A) n b = s at hb g
    (focus ((with_reducible refine i_RetI (i_eIf (i_cAnd (i_cAnd (i_cZ_ne (i_Call (i_as1 (i_A0 (i_as1 (i_L1 (i_as1 (i_L2 (i_as0 ?_))))))))))))); (with_reducible refine i_recv0 (by assumption) ?_); (refine m_isBox hO hS hT hT5 ht h1 ⟨_, rfl, ?_⟩); (rw [decide_eq_true e]); rw [zbI_t]; (with_reducible refine i_t (by omega) ?_); (with_reducible refine i_cZ_ge (i_L3 ?_)); (with_reducible refine i_br ?_ ?_ <;> intro hc); (focus ((with_reducible refine i_cI_lt (i_L3 (i_IA (i_FR (i_A0 ?_))))); (with_reducible refine i_fldR (by assumption) ?_); (with_reducible refine i_Add (i_Mul (i_I (i_L1 (i_L2 ?_))))); rw [zx_cmul (by omega)]; rw [zx_add (by omega)]; (with_reducible refine i_in (by assumption) (by omega) (by omega) ?_); (rw [g]); (with_reducible refine i_f (by omega) ?_); (with_reducible refine i_I ?_))); rotate_left; (focus ((with_reducible refine i_I ?_))); rotate_right))
    all_goals first | exact hk | (exfalso; omega)
  · ((with_reducible refine i_RetI (i_eIf (i_cAnd (i_cAnd (i_cZ_ne (i_Call (i_as1 (i_A0 (i_as1 (i_L1 (i_as1 (i_L2 (i_as0 ?_))))))))))))); (with_reducible refine i_recv0 (by assumption) ?_); (refine m_isBox hO hS hT hT5 ht h1 ⟨_, rfl, ?_⟩); (rw [decide_eq_false e]); rw [zbI_f]; (with_reducible refine i_f (by omega) ?_); (with_reducible refine i_I ?_))
    exact hk
theorem m_row {O : zOm} (hO : zWld O) (hS : zS O = zmS zC0) {t T n b k : Nat} {A : zTl} {M : zMem} {K : Option zV → zMem → Prop} (hT : M 250 ((11 : Nat) : Int) = ((T : Nat) : Int)) (hT5 : T ≤ 5) (ht : t < T) (hA : rTe M t n A) (hw : zTw n A) (hb : b < tm A) (hkk : k < zSz (tf A) n b) (hs : zSz (tf A) n b ≤ 16) (hk : K (some (0, ((tr A b k : Nat) : Int))) M) : zR O F_Model_row [(2, 250), (0, ((t : Nat) : Int)), (0, ((b : Nat) : Int)), (0, ((k : Nat) : Int))] M K := by
  have h1 := hA.1.1
  have hm := hw.1.1
  have g := hA.1.2.2 b (by omega)
  have r := hA.2.2.1 b k hb hkk
  generalize zSz (tf A) n b = s at hkk g hs
  apply r_Model_row hO
  unfold B_Model_row
  have f14 := zMF (k := 14) hS rfl; have a260 := zMA (a := 260) (ty := .int) (n := 112) hS rfl; have f15 := zMF (k := 15) hS rfl; have a261 := zMA (a := 261) (ty := .int) (n := 1792) hS rfl; have zo := zMO hS
  ((with_reducible refine i_RetI (i_eIf (i_cAnd (i_cAnd (i_cZ_ne (i_Call (i_as1 (i_A0 (i_as1 (i_L1 (i_as1 (i_L2 (i_as0 ?_))))))))))))); (with_reducible refine i_recv0 (by assumption) ?_); (refine m_isBox hO hS hT hT5 ht h1 ⟨_, rfl, ?_⟩); (rw [decide_eq_true (show 0 ≤ ((b : Nat) : Int) ∧ ((b : Nat) : Int) < ((tm A : Nat) : Int) by omega)]); rw [zbI_t]; (with_reducible refine i_t (by omega) ?_); (with_reducible refine i_cZ_ge (i_L3 ?_)); (with_reducible refine i_t (by omega) ?_); (with_reducible refine i_cI_lt (i_L3 (i_IA (i_FR (i_A0 ?_))))); (with_reducible refine i_fldR (by assumption) ?_); (with_reducible refine i_Add (i_Mul (i_I (i_L1 (i_L2 ?_))))); rw [zx_cmul (by omega)]; rw [zx_add (by omega)]; (with_reducible refine i_in (by assumption) (by omega) (by omega) ?_); (rw [g]); (with_reducible refine i_t (by omega) ?_); (with_reducible refine i_IA (i_FR (i_A0 ?_))); (with_reducible refine i_fldR (by assumption) ?_); (with_reducible refine i_Add (i_Add (i_Mul (i_I (i_L1 (i_Mul (i_I (i_L2 (i_L3 ?_))))))))); rw [zx_cmul (by omega)]; rw [zx_cmul (by omega)]; rw [zx_add (by omega)]; rw [zx_add (by omega)]; (with_reducible refine i_in (by assumption) (by omega) (by omega) ?_); (rw [r]))
  exact hk
theorem c_row_bad {O : zOm} (hO : zWld O) (hS : zS O = zmS zC0) {t b k : Int} {T : Nat} {M : zMem} {K : Option zV → zMem → Prop} (hT : M ((0 : Nat) : Int) ((4 : Nat) : Int) = ((T : Nat) : Int)) (hT5 : T ≤ 5) (ht : ¬ (0 ≤ t ∧ t < ((T : Nat) : Int))) (hk : K (some (0, -1)) M) : zR O F_ToldNet_row [(2, ((0 : Nat) : Int)), (0, t), (0, b), (0, k)] M K := by
  apply r_ToldNet_row hO
  unfold B_ToldNet_row
  have z0 := zo_0 hS
  ((with_reducible refine i_Seq (i_Set (i_Call (i_as1 (i_A0 (i_as1 (i_L1 (i_as0 ?_)))))))); (with_reducible refine i_recv0 (by assumption) ?_); simp only [w_set0, w_set1, w_setn0, w_setn1])
  refine c_find hO hS hT hT5 (fun hx => ⟨_, rfl, ?_⟩) (fun k e hk1 => absurd (show 0 ≤ t ∧ t < ((T : Nat) : Int) by omega) ht)
  ((with_reducible refine i_Seq (i_If (i_cOr (i_cOr (i_cOr (i_cN (i_A4 ?_))))))); simp only [w_set0, w_set1, w_setn0, w_setn1]; (with_reducible refine i_t trivial ?_); (with_reducible refine i_RetI (i_I ?_)))
  exact hk
theorem c_row_out {O : zOm} (hO : zWld O) (hS : zS O = zmS zC0) {t T n : Nat} {b k : Int} {A : zTl} {M : zMem} {K : Option zV → zMem → Prop} (hT : M ((0 : Nat) : Int) ((4 : Nat) : Int) = ((T : Nat) : Int)) (hT5 : T ≤ 5) (ht : t < T) (hn2 : n ≤ 16) (hA : zTR M (185 + 13 * t) n A) (hw : zTw n A) (hb : ¬ ((0 ≤ b ∧ b < ((tm A : Nat) : Int)) ∧ 0 ≤ k ∧ k < ((zSz (tf A) n b.toNat : Nat) : Int))) (hk : K (some (0, -1)) M) : zR O F_ToldNet_row [(2, ((0 : Nat) : Int)), (0, ((t : Nat) : Int)), (0, b), (0, k)] M K := by
  obtain ⟨⟨x0, x1, x2, x3, x4, x5, x6, x7⟩, ⟨xa, xb⟩, hP, ⟨n7, n9, n11⟩⟩ := zTelT hS (show t < 5 by omega)
  obtain ⟨p0, p1, p2, p3, p4, p5, p6, p7, p8⟩ := id hP
  have hm := hw.1.1
  have hPR := hA.1
  apply r_ToldNet_row hO
  unfold B_ToldNet_row
  have z0 := zo_0 hS
  ((with_reducible refine i_Seq (i_Set (i_Call (i_as1 (i_A0 (i_as1 (i_L1 (i_as0 ?_)))))))); (with_reducible refine i_recv0 (by assumption) ?_); simp only [w_set0, w_set1, w_setn0, w_setn1])
  refine c_find hO hS hT hT5 (fun hx => absurd (show 0 ≤ ((t : Nat) : Int) ∧ ((t : Nat) : Int) < ((T : Nat) : Int) by omega) hx) (fun i e hk1 => ⟨_, rfl, ?_⟩)
  rw [show i = t by omega]
  by_cases e : 0 ≤ b ∧ b < ((tm A : Nat) : Int)
  · obtain ⟨b, rfl⟩ : ∃ b' : Nat, b = ((b' : Nat) : Int) := ⟨b.toNat, by omega⟩
    rw [show (((b : Nat) : Int) : Int).toNat = b from rfl] at hb
    have hsz := fun (K' : Option zV → zMem → Prop) (z : K' (some (0, ((zSz (tf A) n b : Nat) : Int))) M) => c_sizeOf hO hP hPR hn2 hm (show b < tm A by omega) (K := K') z
    generalize zSz (tf A) n b = s at hb hsz
    (focus ((with_reducible refine i_Seq (i_If (i_cOr (i_cOr (i_cOr (i_cN (i_A4 ?_))))))); (with_reducible refine i_f (by omega) ?_); (with_reducible refine i_cNot (i_cZ_ne (i_Call (i_as1 (i_FR (i_A4 ?_)))))); (with_reducible refine i_fldR (by assumption) ?_); (with_reducible refine i_as1 (i_L2 (i_as0 ?_))); (with_reducible refine i_recv0 (by assumption) ?_); (refine c_isBox hO hP hPR.2.1 ⟨_, rfl, ?_⟩); (rw [decide_eq_true e]); rw [zbI_t]; (with_reducible refine i_t (by omega) ?_); (with_reducible refine i_cZ_lt (i_L3 ?_)); (with_reducible refine i_br ?_ ?_ <;> intro hc); (focus ((with_reducible refine i_RetI (i_I ?_)))); rotate_left; (focus ((with_reducible refine i_cI_ge (i_L3 (i_Call (i_as1 (i_FR (i_A4 ?_)))))); (with_reducible refine i_fldR (by assumption) ?_); (with_reducible refine i_as1 (i_L2 (i_as0 ?_))); (with_reducible refine i_recv0 (by assumption) ?_); (refine hsz _ ⟨_, rfl, ?_⟩); (with_reducible refine i_t (by omega) ?_); (with_reducible refine i_RetI (i_I ?_)))); rotate_right))
    all_goals first | exact hk | (exfalso; omega)
  · ((with_reducible refine i_Seq (i_If (i_cOr (i_cOr (i_cOr (i_cN (i_A4 ?_))))))); (with_reducible refine i_f (by omega) ?_); (with_reducible refine i_cNot (i_cZ_ne (i_Call (i_as1 (i_FR (i_A4 ?_)))))); (with_reducible refine i_fldR (by assumption) ?_); (with_reducible refine i_as1 (i_L2 (i_as0 ?_))); (with_reducible refine i_recv0 (by assumption) ?_); (refine c_isBox hO hP hPR.2.1 ⟨_, rfl, ?_⟩); (rw [decide_eq_false e]); rw [zbI_f]; (with_reducible refine i_f (by omega) ?_); (with_reducible refine i_RetI (i_I ?_)))
    exact hk
theorem c_row {O : zOm} (hO : zWld O) (hS : zS O = zmS zC0) {t T n b k : Nat} {A : zTl} {M : zMem} {K : Option zV → zMem → Prop} (hT : M ((0 : Nat) : Int) ((4 : Nat) : Int) = ((T : Nat) : Int)) (hT5 : T ≤ 5) (ht : t < T) (hn2 : n ≤ 16) (hA : zTR M (185 + 13 * t) n A) (hw : zTw n A) (hb : b < tm A) (hkk : k < zSz (tf A) n b) (hk : K (some (0, ((tr A b k : Nat) : Int))) M) : zR O F_ToldNet_row [(2, ((0 : Nat) : Int)), (0, ((t : Nat) : Int)), (0, ((b : Nat) : Int)), (0, ((k : Nat) : Int))] M K := by
  obtain ⟨⟨x0, x1, x2, x3, x4, x5, x6, x7⟩, ⟨xa, xb⟩, hP, ⟨n7, n9, n11⟩⟩ := zTelT hS (show t < 5 by omega)
  obtain ⟨p0, p1, p2, p3, p4, p5, p6, p7, p8⟩ := id hP
  have hm := hw.1.1
  have hPR := hA.1
  have r := hA.2.1 b k hb hkk
  have h1 := zSt0_in (tf A) n (Nat.lt_succ_self b)
  have h2 := zSt0_le (tf A) n (b + 1)
  have hsz := fun (K' : Option zV → zMem → Prop) (z : K' (some (0, ((zSz (tf A) n b : Nat) : Int))) M) => c_sizeOf hO hP hPR hn2 hm hb (K := K') z
  have hst := fun (K' : Option zV → zMem → Prop) (z : K' (some (0, ((zSt0 (tf A) n b : Nat) : Int))) M) => c_startOf hO hP hPR hn2 hm (Nat.le_of_lt hb) (K := K') z
  generalize zSz (tf A) n b = s at hkk hsz h1
  generalize zSt0 (tf A) n b = u at hst h1 r
  generalize zSt0 (tf A) n (b + 1) = w at h1 h2
  apply r_ToldNet_row hO
  unfold B_ToldNet_row
  have z0 := zo_0 hS
  ((with_reducible refine i_Seq (i_Set (i_Call (i_as1 (i_A0 (i_as1 (i_L1 (i_as0 ?_)))))))); (with_reducible refine i_recv0 (by assumption) ?_); simp only [w_set0, w_set1, w_setn0, w_setn1])
  refine c_find hO hS hT hT5 (fun hx => absurd (show 0 ≤ ((t : Nat) : Int) ∧ ((t : Nat) : Int) < ((T : Nat) : Int) by omega) hx) (fun i e hk1 => ⟨_, rfl, ?_⟩)
  rw [show i = t by omega]
  ((with_reducible refine i_Seq (i_If (i_cOr (i_cOr (i_cOr (i_cN (i_A4 ?_))))))); (with_reducible refine i_f (by omega) ?_); (with_reducible refine i_cNot (i_cZ_ne (i_Call (i_as1 (i_FR (i_A4 ?_)))))); (with_reducible refine i_fldR (by assumption) ?_); (with_reducible refine i_as1 (i_L2 (i_as0 ?_))); (with_reducible refine i_recv0 (by assumption) ?_); (refine c_isBox hO hP hPR.2.1 ⟨_, rfl, ?_⟩); (rw [decide_eq_true (show 0 ≤ ((b : Nat) : Int) ∧ ((b : Nat) : Int) < ((tm A : Nat) : Int) by omega)]); rw [zbI_t]; (with_reducible refine i_t (by omega) ?_); (with_reducible refine i_cZ_lt (i_L3 ?_)); (with_reducible refine i_f (by omega) ?_); (with_reducible refine i_cI_ge (i_L3 (i_Call (i_as1 (i_FR (i_A4 ?_)))))); (with_reducible refine i_fldR (by assumption) ?_); (with_reducible refine i_as1 (i_L2 (i_as0 ?_))); (with_reducible refine i_recv0 (by assumption) ?_); (refine hsz _ ⟨_, rfl, ?_⟩); (with_reducible refine i_f (by omega) ?_); (with_reducible refine i_RetI (i_IA (i_FR (i_A4 ?_)))); (with_reducible refine i_fldR (by assumption) ?_); (with_reducible refine i_Add (i_Call (i_as1 (i_FR (i_A4 ?_))))); (with_reducible refine i_fldR (by assumption) ?_); (with_reducible refine i_as1 (i_L2 (i_as0 ?_))); (with_reducible refine i_recv0 (by assumption) ?_); (refine hst _ ⟨_, rfl, ?_⟩); (with_reducible refine i_L3 ?_); rw [zx_add (by omega)]; (with_reducible refine i_in (by assumption) (by omega) (by omega) ?_); (rw [r]))
  exact hk
