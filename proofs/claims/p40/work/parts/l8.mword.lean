/-! ===== word and except of the reference ===== -/
theorem m_raise {O : zOm} (hO : zWld O) (hS : zS O = zmS zC0) {k : Int} {M : zMem} {K : Option zV → zMem → Prop} (hk : ∀ M', (∀ b j, ¬ (b = 250 ∧ j = 0) → M' b j = M b j) → M' 250 ((0 : Nat) : Int) = k → K (some (0, 0)) M') : zR O F_Model_raise [(2, 250), (0, k)] M K := by
  apply r_Model_raise hO
  unfold B_Model_raise
  have f0 := zMF (k := 0) hS rfl; have zo := zMO hS
  ((with_reducible refine i_Seq (i_sF (i_A0 (i_L1 ?_)))); (with_reducible refine i_fld (by assumption) ?_); (with_reducible refine i_RetI (i_I ?_)))
  exact hk _ (fun b j q => by rw [zg_o _ _ (by omega)]) (zg_s _ _ _ _ _)
/-- no such telling or word -/
theorem m_word_no {O : zOm} (hO : zWld O) (hS : zS O = zmS zC0) {t k w : Int} {T n : Nat} {A : Nat → zTl} {M : zMem} {K : Option zV → zMem → Prop} (hT : M 250 ((11 : Nat) : Int) = ((T : Nat) : Int)) (hT5 : T ≤ 5) (hn : M 250 ((1 : Nat) : Int) = ((n : Nat) : Int)) (hn2 : n ≤ 16) (hA : ∀ t, t < T → rTe M t n (A t) ∧ zTw n (A t)) (hk32 : zin32 k) (hb : ∀ t' : Nat, t = ((t' : Nat) : Int) → t' < T → ¬ (0 ≤ k ∧ k < ((zcnt (zWsn (A t')) 1024 : Nat) : Int)))
    (hk : ∀ M', (∀ b j, ¬ (b = 250 ∧ (j = 0 ∨ j = 50)) → M' b j = M b j) → M' 250 ((0 : Nat) : Int) = 1 → K (some (0, 0)) M') : zR O F_Model_word [(2, 250), (0, t), (0, k), (0, w)] M K := by
  apply r_Model_word hO
  unfold B_Model_word
  have f0 := zMF (k := 0) hS rfl; have f47 := zMF (k := 47) hS rfl; have f48 := zMF (k := 48) hS rfl; have f49 := zMF (k := 49) hS rfl; have zo := zMO hS
  by_cases h : 0 ≤ t ∧ t < ((T : Nat) : Int)
  · obtain ⟨u, rfl⟩ : ∃ u : Nat, t = ((u : Nat) : Int) := ⟨t.toNat, by omega⟩
    have hu : u < T := by omega
    obtain ⟨h1, h2⟩ := hA u hu
    have hb' := hb u rfl hu
    by_cases h0 : 0 ≤ k
    · ((with_reducible refine i_Seq (i_If (i_cOr (i_cOr (i_cNot (i_cZ_ne (i_Call (i_as1 (i_A0 (i_as1 (i_L1 (i_as0 ?_)))))))))))); (with_reducible refine i_recv0 (by assumption) ?_); (refine m_isTelling hO hS hT ⟨_, rfl, ?_⟩); (rw [decide_eq_true h]); rw [zbI_t]; (with_reducible refine i_t (by omega) ?_); (with_reducible refine i_cZ_lt (i_L2 ?_)); (with_reducible refine i_f (by omega) ?_); (with_reducible refine i_cNot (i_cZ_ne (i_Call (i_as1 (i_A0 (i_as1 (i_L1 (i_as1 (i_L2 (i_as0 ?_)))))))))); (with_reducible refine i_recv0 (by assumption) ?_))
      refine m_seeks hO hS (by omega) hn hn2 h1 h2 hk32 (by omega) (fun _ M1 f1 w1 => ⟨_, rfl, ?_⟩) (fun c c1 c2 c3 => absurd (zcnt_lt3 c2 c1) (by omega))
      ((with_reducible refine i_f (by omega) ?_); (with_reducible refine i_RetI (i_Call (i_as1 (i_A0 (i_as1 (i_I (i_as0 ?_))))))); (with_reducible refine i_recv0 (by assumption) ?_))
      refine m_raise hO hS (fun M2 f2 e2 => ⟨_, rfl, ?_⟩)
      exact hk M2 (fun b j q => by rw [f2 _ _ (by omega), f1 _ _ (by omega)]) e2
    · ((with_reducible refine i_Seq (i_If (i_cOr (i_cOr (i_cNot (i_cZ_ne (i_Call (i_as1 (i_A0 (i_as1 (i_L1 (i_as0 ?_)))))))))))); (with_reducible refine i_recv0 (by assumption) ?_); (refine m_isTelling hO hS hT ⟨_, rfl, ?_⟩); (rw [decide_eq_true h]); rw [zbI_t]; (with_reducible refine i_t (by omega) ?_); (with_reducible refine i_cZ_lt (i_L2 ?_)); (with_reducible refine i_t (by omega) ?_); (with_reducible refine i_RetI (i_Call (i_as1 (i_A0 (i_as1 (i_I (i_as0 ?_))))))); (with_reducible refine i_recv0 (by assumption) ?_))
      refine m_raise hO hS (fun M2 f2 e2 => ⟨_, rfl, ?_⟩)
      exact hk M2 (fun b j q => by rw [f2 _ _ (by omega)]) e2
  · ((with_reducible refine i_Seq (i_If (i_cOr (i_cOr (i_cNot (i_cZ_ne (i_Call (i_as1 (i_A0 (i_as1 (i_L1 (i_as0 ?_)))))))))))); (with_reducible refine i_recv0 (by assumption) ?_); (refine m_isTelling hO hS hT ⟨_, rfl, ?_⟩); (rw [decide_eq_false h]); rw [zbI_f]; (with_reducible refine i_f (by omega) ?_); (with_reducible refine i_RetI (i_Call (i_as1 (i_A0 (i_as1 (i_I (i_as0 ?_))))))); (with_reducible refine i_recv0 (by assumption) ?_))
    refine m_raise hO hS (fun M2 f2 e2 => ⟨_, rfl, ?_⟩)
    exact hk M2 (fun b j q => by rw [f2 _ _ (by omega)]) e2
/-- a word, but no such part of it -/
theorem m_word_ill {O : zOm} (hO : zWld O) (hS : zS O = zmS zC0) {t c : Nat} {k w : Int} {T n : Nat} {A : zTl} {M : zMem} {K : Option zV → zMem → Prop} (hT : M 250 ((11 : Nat) : Int) = ((T : Nat) : Int)) (hT5 : T ≤ 5) (ht : t < T) (hn : M 250 ((1 : Nat) : Int) = ((n : Nat) : Int)) (hn2 : n ≤ 16) (hA : rTe M t n A) (hw : zTw n A) (hk32 : zin32 k) (hc : c < 1024) (hcw : zWsn A c = true) (hck : ((zcnt (zWsn A) c : Nat) : Int) = k) (hbw : ¬ (0 ≤ w ∧ w ≤ 2))
    (hk : ∀ M', (∀ b j, ¬ (b = 250 ∧ (j = 0 ∨ j = 47 ∨ j = 48 ∨ j = 49 ∨ j = 50)) → M' b j = M b j) → M' 250 ((0 : Nat) : Int) = 2 → K (some (0, 0)) M') : zR O F_Model_word [(2, 250), (0, ((t : Nat) : Int)), (0, k), (0, w)] M K := by
  have h : 0 ≤ ((t : Nat) : Int) ∧ ((t : Nat) : Int) < ((T : Nat) : Int) := by omega
  have hlt := zcnt_lt3 hcw hc
  apply r_Model_word hO
  unfold B_Model_word
  have f0 := zMF (k := 0) hS rfl; have f47 := zMF (k := 47) hS rfl; have f48 := zMF (k := 48) hS rfl; have f49 := zMF (k := 49) hS rfl; have zo := zMO hS
  ((with_reducible refine i_Seq (i_If (i_cOr (i_cOr (i_cNot (i_cZ_ne (i_Call (i_as1 (i_A0 (i_as1 (i_L1 (i_as0 ?_)))))))))))); (with_reducible refine i_recv0 (by assumption) ?_); (refine m_isTelling hO hS hT ⟨_, rfl, ?_⟩); (rw [decide_eq_true h]); rw [zbI_t]; (with_reducible refine i_t (by omega) ?_); (with_reducible refine i_cZ_lt (i_L2 ?_)); (with_reducible refine i_f (by omega) ?_); (with_reducible refine i_cNot (i_cZ_ne (i_Call (i_as1 (i_A0 (i_as1 (i_L1 (i_as1 (i_L2 (i_as0 ?_)))))))))); (with_reducible refine i_recv0 (by assumption) ?_))
  refine m_seeks hO hS (by omega) hn hn2 hA hw hk32 (by omega) (fun z => absurd z (by omega)) (fun c' c1 c2 c3 M1 f1 e1 e2 e3 => ⟨_, rfl, ?_⟩)
  by_cases h2 : w < 0
  · ((with_reducible refine i_t (by omega) ?_); (with_reducible refine i_Seq (i_If (i_cOr (i_cZ_lt (i_L3 ?_))))); (with_reducible refine i_t (by omega) ?_); (with_reducible refine i_RetI (i_Call (i_as1 (i_A0 (i_as1 (i_I (i_as0 ?_))))))); (with_reducible refine i_recv0 (by assumption) ?_))
    refine m_raise hO hS (fun M2 f2 e2 => ⟨_, rfl, ?_⟩)
    exact hk M2 (fun b j q => by rw [f2 _ _ (by omega), f1 _ _ (by omega)]) e2
  · ((with_reducible refine i_t (by omega) ?_); (with_reducible refine i_Seq (i_If (i_cOr (i_cZ_lt (i_L3 ?_))))); (with_reducible refine i_f (by omega) ?_); (with_reducible refine i_cI_gt (i_L3 (i_I ?_))); (with_reducible refine i_t (by omega) ?_); (with_reducible refine i_RetI (i_Call (i_as1 (i_A0 (i_as1 (i_I (i_as0 ?_))))))); (with_reducible refine i_recv0 (by assumption) ?_))
    refine m_raise hO hS (fun M2 f2 e2 => ⟨_, rfl, ?_⟩)
    exact hk M2 (fun b j q => by rw [f2 _ _ (by omega), f1 _ _ (by omega)]) e2
/-- a part of a word -/
theorem m_word {O : zOm} (hO : zWld O) (hS : zS O = zmS zC0) {t c : Nat} {k w : Int} {T n : Nat} {A : zTl} {M : zMem} {K : Option zV → zMem → Prop} (hT : M 250 ((11 : Nat) : Int) = ((T : Nat) : Int)) (hT5 : T ≤ 5) (ht : t < T) (hn : M 250 ((1 : Nat) : Int) = ((n : Nat) : Int)) (hn2 : n ≤ 16) (hA : rTe M t n A) (hw : zTw n A) (hk32 : zin32 k) (hc : c < 1024) (hcw : zWsn A c = true) (hck : ((zcnt (zWsn A) c : Nat) : Int) = k) (hw0 : 0 ≤ w) (hw2 : w ≤ 2)
    (hk : ∀ M', (∀ b j, ¬ (b = 250 ∧ (j = 0 ∨ j = 47 ∨ j = 48 ∨ j = 49 ∨ j = 50)) → M' b j = M b j) → M' 250 ((0 : Nat) : Int) = 0 → K (some (0, if w = 0 then ((c / 256 : Nat) : Int) else if w = 1 then ((c / 16 % 16 : Nat) : Int) else zw2 c)) M') : zR O F_Model_word [(2, 250), (0, ((t : Nat) : Int)), (0, k), (0, w)] M K := by
  have h : 0 ≤ ((t : Nat) : Int) ∧ ((t : Nat) : Int) < ((T : Nat) : Int) := by omega
  have hlt := zcnt_lt3 hcw hc
  apply r_Model_word hO
  unfold B_Model_word
  have f0 := zMF (k := 0) hS rfl; have f47 := zMF (k := 47) hS rfl; have f48 := zMF (k := 48) hS rfl; have f49 := zMF (k := 49) hS rfl; have zo := zMO hS
  ((with_reducible refine i_Seq (i_If (i_cOr (i_cOr (i_cNot (i_cZ_ne (i_Call (i_as1 (i_A0 (i_as1 (i_L1 (i_as0 ?_)))))))))))); (with_reducible refine i_recv0 (by assumption) ?_); (refine m_isTelling hO hS hT ⟨_, rfl, ?_⟩); (rw [decide_eq_true h]); rw [zbI_t]; (with_reducible refine i_t (by omega) ?_); (with_reducible refine i_cZ_lt (i_L2 ?_)); (with_reducible refine i_f (by omega) ?_); (with_reducible refine i_cNot (i_cZ_ne (i_Call (i_as1 (i_A0 (i_as1 (i_L1 (i_as1 (i_L2 (i_as0 ?_)))))))))); (with_reducible refine i_recv0 (by assumption) ?_))
  refine m_seeks hO hS (by omega) hn hn2 hA hw hk32 (by omega) (fun z => absurd z (by omega)) (fun c' c1 c2 c3 M1 f1 e1 e2 e3 => ⟨_, rfl, ?_⟩)
  obtain rfl : c' = c := zcnt_inj _ c2 hcw (by omega)
  have fr : ∀ b j, ¬ (b = 250 ∧ (j = 0 ∨ j = 47 ∨ j = 48 ∨ j = 49 ∨ j = 50)) → zput M1 250 (zup (M1 250) ((0 : Nat) : Int) 0) b j = M b j := fun b j q => by rw [zg_o _ _ (by omega), f1 _ _ (by omega)]
  have hw3 : w = 0 ∨ w = 1 ∨ w = 2 := by omega
  rcases hw3 with rfl | rfl | rfl
  · ((with_reducible refine i_t (by omega) ?_); (with_reducible refine i_Seq (i_If (i_cOr (i_cZ_lt (i_L3 ?_))))); (with_reducible refine i_f (by omega) ?_); (with_reducible refine i_cI_gt (i_L3 (i_I ?_))); (with_reducible refine i_f (by omega) ?_); (with_reducible refine i_Seq (i_sF (i_A0 (i_I ?_)))); (with_reducible refine i_fld (by assumption) ?_); (with_reducible refine i_RetI (i_eIf (i_cZ_eq (i_L3 ?_)))); simp only [w_set0, w_set1, w_setn0, w_setn1]; (with_reducible refine i_t trivial ?_); (with_reducible refine i_F (i_A0 ?_)); (with_reducible refine i_fld (by assumption) ?_); rw [zg_m _ _ _ _ _ (by omega)]; (rw [e1]))
    exact hk _ fr (zg_s _ _ _ _ _)
  · ((with_reducible refine i_t (by omega) ?_); (with_reducible refine i_Seq (i_If (i_cOr (i_cZ_lt (i_L3 ?_))))); (with_reducible refine i_f (by omega) ?_); (with_reducible refine i_cI_gt (i_L3 (i_I ?_))); (with_reducible refine i_f (by omega) ?_); (with_reducible refine i_Seq (i_sF (i_A0 (i_I ?_)))); (with_reducible refine i_fld (by assumption) ?_); (with_reducible refine i_RetI (i_eIf (i_cZ_eq (i_L3 ?_)))); (with_reducible refine i_f (by omega) ?_); (with_reducible refine i_eIf (i_cI_eq (i_L3 (i_I ?_)))); simp only [w_set0, w_set1, w_setn0, w_setn1]; (with_reducible refine i_t trivial ?_); (with_reducible refine i_F (i_A0 ?_)); (with_reducible refine i_fld (by assumption) ?_); rw [zg_m _ _ _ _ _ (by omega)]; (rw [e2]))
    exact hk _ fr (zg_s _ _ _ _ _)
  · ((with_reducible refine i_t (by omega) ?_); (with_reducible refine i_Seq (i_If (i_cOr (i_cZ_lt (i_L3 ?_))))); (with_reducible refine i_f (by omega) ?_); (with_reducible refine i_cI_gt (i_L3 (i_I ?_))); (with_reducible refine i_f (by omega) ?_); (with_reducible refine i_Seq (i_sF (i_A0 (i_I ?_)))); (with_reducible refine i_fld (by assumption) ?_); (with_reducible refine i_RetI (i_eIf (i_cZ_eq (i_L3 ?_)))); (with_reducible refine i_f (by omega) ?_); (with_reducible refine i_eIf (i_cI_eq (i_L3 (i_I ?_)))); (with_reducible refine i_f (by omega) ?_); (with_reducible refine i_F (i_A0 ?_)); (with_reducible refine i_fld (by assumption) ?_); rw [zg_m _ _ _ _ _ (by omega)]; (rw [e3]))
    exact hk _ fr (zg_s _ _ _ _ _)
/-- no such telling or except -/
theorem m_except_no {O : zOm} (hO : zWld O) (hS : zS O = zmS zC0) {t k w : Int} {T n : Nat} {A : Nat → zTl} {M : zMem} {K : Option zV → zMem → Prop} (hT : M 250 ((11 : Nat) : Int) = ((T : Nat) : Int)) (hT5 : T ≤ 5) (hA : ∀ t, t < T → rTe M t n (A t) ∧ zTw n (A t)) (hb : ∀ t' : Nat, t = ((t' : Nat) : Int) → t' < T → zpk (tX (A t')) k 256 = -1)
    (hk : ∀ M', (∀ b j, ¬ (b = 250 ∧ j = 0) → M' b j = M b j) → M' 250 ((0 : Nat) : Int) = 1 → K (some (0, 0)) M') : zR O F_Model_except [(2, 250), (0, t), (0, k), (0, w)] M K := by
  apply r_Model_except hO
  unfold B_Model_except
  have f0 := zMF (k := 0) hS rfl; have f22 := zMF (k := 22) hS rfl; have a268 := zMA (a := 268) (ty := .boolean) (n := 256) hS rfl; have f20 := zMF (k := 20) hS rfl; have a266 := zMA (a := 266) (ty := .int) (n := 1792) hS rfl; have zo := zMO hS
  by_cases h : 0 ≤ t ∧ t < ((T : Nat) : Int)
  · obtain ⟨u, rfl⟩ : ∃ u : Nat, t = ((u : Nat) : Int) := ⟨t.toNat, by omega⟩
    have hu : u < T := by omega
    obtain ⟨h1, h2⟩ := hA u hu
    have hb' := hb u rfl hu
    by_cases h0 : 0 ≤ k
    · ((with_reducible refine i_Seq (i_Set (i_eIf (i_cAnd (i_cZ_ne (i_Call (i_as1 (i_A0 (i_as1 (i_L1 (i_as0 ?_))))))))))); (with_reducible refine i_recv0 (by assumption) ?_); (refine m_isTelling hO hS hT ⟨_, rfl, ?_⟩); (rw [decide_eq_true h]); rw [zbI_t]; (with_reducible refine i_t (by omega) ?_); (with_reducible refine i_cZ_ge (i_L2 ?_)); (with_reducible refine i_t (by omega) ?_); (with_reducible refine i_Call (i_as1 (i_A0 (i_as1 (i_L1 (i_as1 (i_L2 (i_as0 ?_)))))))); (with_reducible refine i_recv0 (by assumption) ?_); (refine m_exceptAt hO hS (by omega) h1 h2 h0 ⟨_, rfl, ?_⟩); (with_reducible refine i_Seq (i_If (i_cZ_lt ?_))); (rw [hb']); simp only [w_set0, w_set1, w_setn0, w_setn1]; (with_reducible refine i_L4 ?_); (with_reducible refine i_t (by omega) ?_); (with_reducible refine i_RetI (i_Call (i_as1 (i_A0 (i_as1 (i_I (i_as0 ?_))))))); (with_reducible refine i_recv0 (by assumption) ?_))
      refine m_raise hO hS (fun M2 f2 e2 => ⟨_, rfl, ?_⟩)
      exact hk M2 f2 e2
    · ((with_reducible refine i_Seq (i_Set (i_eIf (i_cAnd (i_cZ_ne (i_Call (i_as1 (i_A0 (i_as1 (i_L1 (i_as0 ?_))))))))))); (with_reducible refine i_recv0 (by assumption) ?_); (refine m_isTelling hO hS hT ⟨_, rfl, ?_⟩); (rw [decide_eq_true h]); rw [zbI_t]; (with_reducible refine i_t (by omega) ?_); (with_reducible refine i_cZ_ge (i_L2 ?_)); (with_reducible refine i_f (by omega) ?_); (with_reducible refine i_I (i_Seq (i_If (i_cZ_lt ?_)))); simp only [w_set0, w_set1, w_setn0, w_setn1]; (with_reducible refine i_L4 ?_); (with_reducible refine i_t (by omega) ?_); (with_reducible refine i_RetI (i_Call (i_as1 (i_A0 (i_as1 (i_I (i_as0 ?_))))))); (with_reducible refine i_recv0 (by assumption) ?_))
      refine m_raise hO hS (fun M2 f2 e2 => ⟨_, rfl, ?_⟩)
      exact hk M2 f2 e2
  · ((with_reducible refine i_Seq (i_Set (i_eIf (i_cAnd (i_cZ_ne (i_Call (i_as1 (i_A0 (i_as1 (i_L1 (i_as0 ?_))))))))))); (with_reducible refine i_recv0 (by assumption) ?_); (refine m_isTelling hO hS hT ⟨_, rfl, ?_⟩); (rw [decide_eq_false h]); rw [zbI_f]; (with_reducible refine i_f (by omega) ?_); (with_reducible refine i_I (i_Seq (i_If (i_cZ_lt ?_)))); simp only [w_set0, w_set1, w_setn0, w_setn1]; (with_reducible refine i_L4 ?_); (with_reducible refine i_t (by omega) ?_); (with_reducible refine i_RetI (i_Call (i_as1 (i_A0 (i_as1 (i_I (i_as0 ?_))))))); (with_reducible refine i_recv0 (by assumption) ?_))
    refine m_raise hO hS (fun M2 f2 e2 => ⟨_, rfl, ?_⟩)
    exact hk M2 f2 e2
/-- an except, but no such part of it -/
theorem m_except_ill {O : zOm} (hO : zWld O) (hS : zS O = zmS zC0) {t d : Nat} {k w : Int} {T n : Nat} {A : zTl} {M : zMem} {K : Option zV → zMem → Prop} (hT : M 250 ((11 : Nat) : Int) = ((T : Nat) : Int)) (hT5 : T ≤ 5) (ht : t < T) (hA : rTe M t n A) (hw : zTw n A) (hp : zpk (tX A) k 256 = ((d : Nat) : Int)) (hk0 : 0 ≤ k) (hbw : ¬ (0 ≤ w ∧ w ≤ 3))
    (hk : ∀ M', (∀ b j, ¬ (b = 250 ∧ j = 0) → M' b j = M b j) → M' 250 ((0 : Nat) : Int) = 2 → K (some (0, 0)) M') : zR O F_Model_except [(2, 250), (0, ((t : Nat) : Int)), (0, k), (0, w)] M K := by
  have h : 0 ≤ ((t : Nat) : Int) ∧ ((t : Nat) : Int) < ((T : Nat) : Int) := by omega
  apply r_Model_except hO
  unfold B_Model_except
  have f0 := zMF (k := 0) hS rfl; have f22 := zMF (k := 22) hS rfl; have a268 := zMA (a := 268) (ty := .boolean) (n := 256) hS rfl; have f20 := zMF (k := 20) hS rfl; have a266 := zMA (a := 266) (ty := .int) (n := 1792) hS rfl; have zo := zMO hS
  by_cases h2 : w < 0
  · ((with_reducible refine i_Seq (i_Set (i_eIf (i_cAnd (i_cZ_ne (i_Call (i_as1 (i_A0 (i_as1 (i_L1 (i_as0 ?_))))))))))); (with_reducible refine i_recv0 (by assumption) ?_); (refine m_isTelling hO hS hT ⟨_, rfl, ?_⟩); (rw [decide_eq_true h]); rw [zbI_t]; (with_reducible refine i_t (by omega) ?_); (with_reducible refine i_cZ_ge (i_L2 ?_)); (with_reducible refine i_t (by omega) ?_); (with_reducible refine i_Call (i_as1 (i_A0 (i_as1 (i_L1 (i_as1 (i_L2 (i_as0 ?_)))))))); (with_reducible refine i_recv0 (by assumption) ?_); (refine m_exceptAt hO hS (by omega) hA hw hk0 ⟨_, rfl, ?_⟩); (with_reducible refine i_Seq (i_If (i_cZ_lt ?_))); (rw [hp]); simp only [w_set0, w_set1, w_setn0, w_setn1]; (with_reducible refine i_L4 ?_); (with_reducible refine i_f (by omega) ?_); (with_reducible refine i_Seq (i_If (i_cOr (i_cZ_lt (i_L3 ?_))))); (with_reducible refine i_t (by omega) ?_); (with_reducible refine i_RetI (i_Call (i_as1 (i_A0 (i_as1 (i_I (i_as0 ?_))))))); (with_reducible refine i_recv0 (by assumption) ?_))
    refine m_raise hO hS (fun M2 f2 e2 => ⟨_, rfl, ?_⟩)
    exact hk M2 f2 e2
  · ((with_reducible refine i_Seq (i_Set (i_eIf (i_cAnd (i_cZ_ne (i_Call (i_as1 (i_A0 (i_as1 (i_L1 (i_as0 ?_))))))))))); (with_reducible refine i_recv0 (by assumption) ?_); (refine m_isTelling hO hS hT ⟨_, rfl, ?_⟩); (rw [decide_eq_true h]); rw [zbI_t]; (with_reducible refine i_t (by omega) ?_); (with_reducible refine i_cZ_ge (i_L2 ?_)); (with_reducible refine i_t (by omega) ?_); (with_reducible refine i_Call (i_as1 (i_A0 (i_as1 (i_L1 (i_as1 (i_L2 (i_as0 ?_)))))))); (with_reducible refine i_recv0 (by assumption) ?_); (refine m_exceptAt hO hS (by omega) hA hw hk0 ⟨_, rfl, ?_⟩); (with_reducible refine i_Seq (i_If (i_cZ_lt ?_))); (rw [hp]); simp only [w_set0, w_set1, w_setn0, w_setn1]; (with_reducible refine i_L4 ?_); (with_reducible refine i_f (by omega) ?_); (with_reducible refine i_Seq (i_If (i_cOr (i_cZ_lt (i_L3 ?_))))); (with_reducible refine i_f (by omega) ?_); (with_reducible refine i_cI_gt (i_L3 (i_I ?_))); (with_reducible refine i_t (by omega) ?_); (with_reducible refine i_RetI (i_Call (i_as1 (i_A0 (i_as1 (i_I (i_as0 ?_))))))); (with_reducible refine i_recv0 (by assumption) ?_))
    refine m_raise hO hS (fun M2 f2 e2 => ⟨_, rfl, ?_⟩)
    exact hk M2 f2 e2
/-- a part of an except -/
theorem m_except {O : zOm} (hO : zWld O) (hS : zS O = zmS zC0) {t d : Nat} {k w : Int} {T n : Nat} {A : zTl} {M : zMem} {K : Option zV → zMem → Prop} (hT : M 250 ((11 : Nat) : Int) = ((T : Nat) : Int)) (hT5 : T ≤ 5) (ht : t < T) (hn : M 250 ((1 : Nat) : Int) = ((n : Nat) : Int)) (hn2 : n ≤ 16) (hA : rTe M t n A) (hw : zTw n A) (hp : zpk (tX A) k 256 = ((d : Nat) : Int)) (hd : d < 256) (hk0 : 0 ≤ k) (hw0 : 0 ≤ w) (hw3 : w ≤ 3)
    (hk : ∀ M', (∀ b j, ¬ (b = 250 ∧ j = 0 ∨ b = 268) → M' b j = M b j) → M' 250 ((0 : Nat) : Int) = 0 → K (some (0, if w = 0 then ((d / 16 : Nat) : Int) else if w = 1 then ((d % 16 : Nat) : Int) else if w = 2 then zbI (tS n A (d / 16) (d % 16)) else zbI (decide (tv A (d / 16) (d % 16) = 2)))) M') : zR O F_Model_except [(2, 250), (0, ((t : Nat) : Int)), (0, k), (0, w)] M K := by
  have h : 0 ≤ ((t : Nat) : Int) ∧ ((t : Nat) : Int) < ((T : Nat) : Int) := by omega
  apply r_Model_except hO
  unfold B_Model_except
  have f0 := zMF (k := 0) hS rfl; have f22 := zMF (k := 22) hS rfl; have a268 := zMA (a := 268) (ty := .boolean) (n := 256) hS rfl; have f20 := zMF (k := 20) hS rfl; have a266 := zMA (a := 266) (ty := .int) (n := 1792) hS rfl; have zo := zMO hS
  ((with_reducible refine i_Seq (i_Set (i_eIf (i_cAnd (i_cZ_ne (i_Call (i_as1 (i_A0 (i_as1 (i_L1 (i_as0 ?_))))))))))); (with_reducible refine i_recv0 (by assumption) ?_); (refine m_isTelling hO hS hT ⟨_, rfl, ?_⟩); (rw [decide_eq_true h]); rw [zbI_t]; (with_reducible refine i_t (by omega) ?_); (with_reducible refine i_cZ_ge (i_L2 ?_)); (with_reducible refine i_t (by omega) ?_); (with_reducible refine i_Call (i_as1 (i_A0 (i_as1 (i_L1 (i_as1 (i_L2 (i_as0 ?_)))))))); (with_reducible refine i_recv0 (by assumption) ?_); (refine m_exceptAt hO hS (by omega) hA hw hk0 ⟨_, rfl, ?_⟩); (with_reducible refine i_Seq (i_If (i_cZ_lt ?_))); (rw [hp]); simp only [w_set0, w_set1, w_setn0, w_setn1]; (with_reducible refine i_L4 ?_); (with_reducible refine i_f (by omega) ?_); (with_reducible refine i_Seq (i_If (i_cOr (i_cZ_lt (i_L3 ?_))))); (with_reducible refine i_f (by omega) ?_); (with_reducible refine i_cI_gt (i_L3 (i_I ?_))); (with_reducible refine i_f (by omega) ?_); (with_reducible refine i_Seq (i_sF (i_A0 (i_I ?_)))); (with_reducible refine i_fld (by assumption) ?_); (with_reducible refine i_Seq (i_sCall (i_as1 (i_A0 (i_as1 (i_L1 (i_as0 ?_))))))); (with_reducible refine i_recv0 (by assumption) ?_))
  generalize hM1 : zput M 250 (zup (M 250) ((0 : Nat) : Int) 0) = M1
  have f1 : ∀ b j, ¬ (b = 250 ∧ j = 0) → M1 b j = M b j := fun b j q => by rw [← hM1, zg_o _ _ (by omega)]
  have e1 : M1 250 ((0 : Nat) : Int) = 0 := by rw [← hM1]; exact zg_s _ _ _ _ _
  refine m_hearA hO hS (by omega) (by rw [f1 _ _ (by omega)]; exact hn) hn2 (hA.to hn2 hw (fun b j q => f1 b j (by omega))) hw (fun M2 f2 S2 => ⟨rfl, ?_⟩)
  have fr : ∀ b j, ¬ (b = 250 ∧ j = 0 ∨ b = 268) → M2 b j = M b j := fun b j q => by rw [f2 _ _ (by omega), f1 _ _ (by omega)]
  have e2 : M2 250 ((0 : Nat) : Int) = 0 := by rw [f2 _ _ (by omega)]; exact e1
  have hs2 : M2 ((268 : Nat) : Int) ((d : Nat) : Int) = zbI (tS n A (d / 16) (d % 16)) := by
    have := S2 (d / 16) (d % 16) (by omega) (by omega)
    rwa [show 16 * (d / 16) + d % 16 = d by omega] at this
  have hv2 : M2 ((266 : Nat) : Int) ((256 * t + d : Nat) : Int) = ((tv A (d / 16) (d % 16) : Nat) : Int) := by
    have := hA.2.2.2 (d / 16) (d % 16) (by omega) (by omega)
    rw [show 256 * t + 16 * (d / 16) + d % 16 = 256 * t + d by omega] at this
    rw [fr _ _ (by omega)]
    exact this
  have hdv : zw32 ((((d : Nat) : Int) : Int).tdiv 16) = ((d / 16 : Nat) : Int) := zx_dv (b := 16) (by omega)
  have hmd : (((d : Nat) : Int) : Int).tmod 16 = ((d % 16 : Nat) : Int) := (Int.ofNat_tmod d 16).symm
  have hw4 : w = 0 ∨ w = 1 ∨ w = 2 ∨ w = 3 := by omega
  rcases hw4 with rfl | rfl | rfl | rfl
  · ((with_reducible refine i_RetI (i_eIf (i_cZ_eq (i_L3 ?_)))); simp only [w_set0, w_set1, w_setn0, w_setn1]; (with_reducible refine i_t trivial ?_); (with_reducible refine i_Div (i_L4 (i_I ?_))); (rw [hdv]); (with_reducible refine i_nn (by decide) ?_))
    exact hk _ fr e2
  · ((with_reducible refine i_RetI (i_eIf (i_cZ_eq (i_L3 ?_)))); (with_reducible refine i_f (by omega) ?_); (with_reducible refine i_eIf (i_cI_eq (i_L3 (i_I ?_)))); simp only [w_set0, w_set1, w_setn0, w_setn1]; (with_reducible refine i_t trivial ?_); (with_reducible refine i_Rem (i_L4 (i_I ?_))); (rw [hmd]); (with_reducible refine i_nn (by decide) ?_))
    exact hk _ fr e2
  · have hk' := hk _ fr e2
    rw [if_neg (show ¬ (2 : Int) = 0 by decide), if_neg (show ¬ (2 : Int) = 1 by decide), if_pos rfl] at hk'
    cases e : tS n A (d / 16) (d % 16)
    · rw [e] at hs2 hk'
      ((with_reducible refine i_RetI (i_eIf (i_cZ_eq (i_L3 ?_)))); (with_reducible refine i_f (by omega) ?_); (with_reducible refine i_eIf (i_cI_eq (i_L3 (i_I ?_)))); (with_reducible refine i_f (by omega) ?_); (with_reducible refine i_eIf (i_cI_eq (i_L3 (i_I ?_)))); simp only [w_set0, w_set1, w_setn0, w_setn1]; (with_reducible refine i_t trivial ?_); (with_reducible refine i_eIf (i_cZ_ne (i_ZA (i_FR (i_A0 ?_))))); (with_reducible refine i_fldR (by assumption) ?_); (with_reducible refine i_L4 ?_); (with_reducible refine i_in (by assumption) (by omega) (by omega) ?_); (rw [hs2]); rw [zbI_f]; (with_reducible refine i_f (by omega) ?_); (with_reducible refine i_I ?_))
      exact hk'
    · rw [e] at hs2 hk'
      ((with_reducible refine i_RetI (i_eIf (i_cZ_eq (i_L3 ?_)))); (with_reducible refine i_f (by omega) ?_); (with_reducible refine i_eIf (i_cI_eq (i_L3 (i_I ?_)))); (with_reducible refine i_f (by omega) ?_); (with_reducible refine i_eIf (i_cI_eq (i_L3 (i_I ?_)))); simp only [w_set0, w_set1, w_setn0, w_setn1]; (with_reducible refine i_t trivial ?_); (with_reducible refine i_eIf (i_cZ_ne (i_ZA (i_FR (i_A0 ?_))))); (with_reducible refine i_fldR (by assumption) ?_); (with_reducible refine i_L4 ?_); (with_reducible refine i_in (by assumption) (by omega) (by omega) ?_); (rw [hs2]); rw [zbI_t]; (with_reducible refine i_t (by omega) ?_); (with_reducible refine i_I ?_))
      exact hk'
  · have hk' := hk _ fr e2
    rw [if_neg (show ¬ (3 : Int) = 0 by decide), if_neg (show ¬ (3 : Int) = 1 by decide), if_neg (show ¬ (3 : Int) = 2 by decide)] at hk'
    by_cases e : tv A (d / 16) (d % 16) = 2
    · rw [e] at hv2
      rw [decide_eq_true e] at hk'
      ((with_reducible refine i_RetI (i_eIf (i_cZ_eq (i_L3 ?_)))); (with_reducible refine i_f (by omega) ?_); (with_reducible refine i_eIf (i_cI_eq (i_L3 (i_I ?_)))); (with_reducible refine i_f (by omega) ?_); (with_reducible refine i_eIf (i_cI_eq (i_L3 (i_I ?_)))); (with_reducible refine i_f (by omega) ?_); (with_reducible refine i_eIf (i_cI_eq (i_IA (i_FR (i_A0 ?_))))); (with_reducible refine i_fldR (by assumption) ?_); (with_reducible refine i_Add (i_Mul (i_I (i_L1 (i_L4 ?_))))); rw [zx_cmul (by omega)]; rw [zx_add (by omega)]; (with_reducible refine i_in (by assumption) (by omega) (by omega) ?_); (with_reducible refine i_I ?_); (rw [hv2]); (with_reducible refine i_t (by omega) ?_); (with_reducible refine i_I ?_))
      exact hk'
    · rw [decide_eq_false e] at hk'
      ((with_reducible refine i_RetI (i_eIf (i_cZ_eq (i_L3 ?_)))); (with_reducible refine i_f (by omega) ?_); (with_reducible refine i_eIf (i_cI_eq (i_L3 (i_I ?_)))); (with_reducible refine i_f (by omega) ?_); (with_reducible refine i_eIf (i_cI_eq (i_L3 (i_I ?_)))); (with_reducible refine i_f (by omega) ?_); (with_reducible refine i_eIf (i_cI_eq (i_IA (i_FR (i_A0 ?_))))); (with_reducible refine i_fldR (by assumption) ?_); (with_reducible refine i_Add (i_Mul (i_I (i_L1 (i_L4 ?_))))); rw [zx_cmul (by omega)]; rw [zx_add (by omega)]; (with_reducible refine i_in (by assumption) (by omega) (by omega) ?_); (with_reducible refine i_I ?_); (rw [hv2]); ((with_reducible refine i_f (show ¬ (((tv A (d / 16) (d % 16) : Nat) : Int) : Int) = 2 by omega) ?_)); (with_reducible refine i_I ?_))
      exact hk'
