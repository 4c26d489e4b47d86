section
-- part l8.mword.lean.txt
/-! ===== word and except of the reference ===== -/
theorem m_raise {O : zOm} (hO : zWld O) (hS : zS O = zmS zC0) {k : Int} {M : zMem} {K : Option zV → zMem → Prop} (hk : ∀ M', (∀ b j, ¬ (b = 250 ∧ j = 0) → M' b j = M b j) → M' 250 ((0 : Nat) : Int) = k → K (some (0, 0)) M') : zR O F_Model_raise [(2, 250), (0, k)] M K := by
  apply r_Model_raise hO
  unfold B_Model_raise
  have f0 := zMF (k := 0) hS rfl; have zo := zMO hS
  ((with_reducible refine i_Seq (i_sF (i_A0 (i_L1 ?_)))); (with_reducible refine i_fld (by assumption) ?_); (with_reducible refine i_RetI (i_I ?_)))
  exact hk _ (fun b j q => by rw [zg_o _ _ (by omega)]) (zg_s _ _ _ _ _)
/-- no such telling or word -/
theorem m_word_no {O : zOm} (hO : zWld O) (hS : zS O = zmS zC0) {t k w : Int} {T n : Nat} {A : Nat → zTl} {M : zMem} {K : Option zV → zMem → Prop} (hT : M 250 ((11 : Nat) : Int) = ((T : Nat) : Int)) (hT5 : T ≤ 5) (hn : M 250 ((1 : Nat) : Int) = ((n : Nat) : Int)) (hn2 : n ≤ 16) (hA : ∀ t, t < T → rTe M t n (A t) ∧ zTw n (A t)) (hk32 : zin32 k) (hb : ∀ t' : Nat, t = ((t' : Nat) : Int) → t' < T → ¬ (0 ≤ k ∧ k < ((zcnt (zWsn (A t')) 1024 : Nat) : Int)))
    (hk : ∀ M', (∀ b j, ¬ (b = 250 ∧ (j = 0 ∨ j = 50)) → M' b j = M b j) → M' 250 ((0 : Nat) : Int) = 1 → K (some (0, 0)) M') : zR O F_Model_word [(2, 250), (0, t), (0, k), (0, w)] M K := by
  apply r_Model_word hO
  unfold B_Model_word
  have f0 := zMF (k := 0) hS rfl; have f47 := zMF (k := 47) hS rfl; have f48 := zMF (k := 48) hS rfl; have f49 := zMF (k := 49) hS rfl; have zo := zMO hS
  by_cases h : 0 ≤ t ∧ t < ((T : Nat) : Int)
  · obtain ⟨u, rfl⟩ : ∃ u : Nat, t = ((u : Nat) : Int) := ⟨t.toNat, by omega⟩
    have hu : u < T := by omega
    obtain ⟨h1, h2⟩ := hA u hu
    have hb' := hb u rfl hu
    by_cases h0 : 0 ≤ k
    · ((with_reducible refine i_Seq (i_If (i_cOr (i_cOr (i_cNot (i_cZ_ne (i_Call (i_as1 (i_A0 (i_as1 (i_L1 (i_as0 ?_)))))))))))); (with_reducible refine i_recv0 (by assumption) ?_); (refine m_isTelling hO hS hT ⟨_, rfl, ?_⟩); (rw [decide_eq_true h]); rw [zbI_t]; (with_reducible refine i_t (by omega) ?_); (with_reducible refine i_cZ_lt (i_L2 ?_)); (with_reducible refine i_f (by omega) ?_); (with_reducible refine i_cNot (i_cZ_ne (i_Call (i_as1 (i_A0 (i_as1 (i_L1 (i_as1 (i_L2 (i_as0 ?_)))))))))); (with_reducible refine i_recv0 (by assumption) ?_))
      refine m_seeks hO hS (by omega) hn hn2 h1 h2 hk32 (by omega) (fun _ M1 f1 w1 => ⟨_, rfl, ?_⟩) (fun c c1 c2 c3 => absurd (zcnt_lt3 c2 c1) (by omega))
      ((with_reducible refine i_f (by omega) ?_); (with_reducible refine i_RetI (i_Call (i_as1 (i_A0 (i_as1 (i_I (i_as0 ?_))))))); (with_reducible refine i_recv0 (by assumption) ?_))
      refine m_raise hO hS (fun M2 f2 e2 => ⟨_, rfl, ?_⟩)
      exact hk M2 (fun b j q => by rw [f2 _ _ (by omega), f1 _ _ (by omega)]) e2
    · ((with_reducible refine i_Seq (i_If (i_cOr (i_cOr (i_cNot (i_cZ_ne (i_Call (i_as1 (i_A0 (i_as1 (i_L1 (i_as0 ?_)))))))))))); (with_reducible refine i_recv0 (by assumption) ?_); (refine m_isTelling hO hS hT ⟨_, rfl, ?_⟩); (rw [decide_eq_true h]); rw [zbI_t]; (with_reducible refine i_t (by omega) ?_); (with_reducible refine i_cZ_lt (i_L2 ?_)); (with_reducible refine i_t (by omega) ?_); (with_reducible refine i_RetI (i_Call (i_as1 (i_A0 (i_as1 (i_I (i_as0 ?_))))))); (with_reducible refine i_recv0 (by assumption) ?_))
      refine m_raise hO hS (fun M2 f2 e2 => ⟨_, rfl, ?_⟩)
      exact hk M2 (fun b j q => by rw [f2 _ _ (by omega)]) e2
  · ((with_reducible refine i_Seq (i_If (i_cOr (i_cOr (i_cNot (i_cZ_ne (i_Call (i_as1 (i_A0 (i_as1 (i_L1 (i_as0 ?_)))))))))))); (with_reducible refine i_recv0 (by assumption) ?_); (refine m_isTelling hO hS hT ⟨_, rfl, ?_⟩); (rw [decide_eq_false h]); rw [zbI_f]; (with_reducible refine i_f (by omega) ?_); (with_reducible refine i_RetI (i_Call (i_as1 (i_A0 (i_as1 (i_I (i_as0 ?_))))))); (with_reducible refine i_recv0 (by assumption) ?_))
    refine m_raise hO hS (fun M2 f2 e2 => ⟨_, rfl, ?_⟩)
    exact hk M2 (fun b j q => by rw [f2 _ _ (by omega)]) e2
/-- a word, but no such part of it -/
theorem m_word_ill {O : zOm} (hO : zWld O) (hS : zS O = zmS zC0) {t c : Nat} {k w : Int} {T n : Nat} {A : zTl} {M : zMem} {K : Option zV → zMem → Prop} (hT : M 250 ((11 : Nat) : Int) = ((T : Nat) : Int)) (hT5 : T ≤ 5) (ht : t < T) (hn : M 250 ((1 : Nat) : Int) = ((n : Nat) : Int)) (hn2 : n ≤ 16) (hA : rTe M t n A) (hw : zTw n A) (hk32 : zin32 k) (hc : c < 1024) (hcw : zWsn A c = true) (hck : ((zcnt (zWsn A) c : Nat) : Int) = k) (hbw : ¬ (0 ≤ w ∧ w ≤ 2))
    (hk : ∀ M', (∀ b j, ¬ (b = 250 ∧ (j = 0 ∨ j = 47 ∨ j = 48 ∨ j = 49 ∨ j = 50)) → M' b j = M b j) → M' 250 ((0 : Nat) : Int) = 2 → K (some (0, 0)) M') : zR O F_Model_word [(2, 250), (0, ((t : Nat) : Int)), (0, k), (0, w)] M K := by
  have h : 0 ≤ ((t : Nat) : Int) ∧ ((t : Nat) : Int) < ((T : Nat) : Int) := by omega
  have hlt := zcnt_lt3 hcw hc
  apply r_Model_word hO
  unfold B_Model_word
  have f0 := zMF (k := 0) hS rfl; have f47 := zMF (k := 47) hS rfl; have f48 := zMF (k := 48) hS rfl; have f49 := zMF (k := 49) hS rfl; have zo := zMO hS
  ((with_reducible refine i_Seq (i_If (i_cOr (i_cOr (i_cNot (i_cZ_ne (i_Call (i_as1 (i_A0 (i_as1 (i_L1 (i_as0 ?_)))))))))))); (with_reducible refine i_recv0 (by assumption) ?_); (refine m_isTelling hO hS hT ⟨_, rfl, ?_⟩); (rw [decide_eq_true h]); rw [zbI_t]; (with_reducible refine i_t (by omega) ?_); (with_reducible refine i_cZ_lt (i_L2 ?_)); (with_reducible refine i_f (by omega) ?_); (with_reducible refine i_cNot (i_cZ_ne (i_Call (i_as1 (i_A0 (i_as1 (i_L1 (i_as1 (i_L2 (i_as0 ?_)))))))))); (with_reducible refine i_recv0 (by assumption) ?_))
  refine m_seeks hO hS (by omega) hn hn2 hA hw hk32 (by omega) (fun z => absurd z (by omega)) (fun c' c1 c2 c3 M1 f1 e1 e2 e3 => ⟨_, rfl, ?_⟩)
  by_cases h2 : w < 0
  · ((with_reducible refine i_t (by omega) ?_); (with_reducible refine i_Seq (i_If (i_cOr (i_cZ_lt (i_L3 ?_))))); (with_reducible refine i_t (by omega) ?_); (with_reducible refine i_RetI (i_Call (i_as1 (i_A0 (i_as1 (i_I (i_as0 ?_))))))); (with_reducible refine i_recv0 (by assumption) ?_))
    refine m_raise hO hS (fun M2 f2 e2 => ⟨_, rfl, ?_⟩)
    exact hk M2 (fun b j q => by rw [f2 _ _ (by omega), f1 _ _ (by omega)]) e2
  · ((with_reducible refine i_t (by omega) ?_); (with_reducible refine i_Seq (i_If (i_cOr (i_cZ_lt (i_L3 ?_))))); (with_reducible refine i_f (by omega) ?_); (with_reducible refine i_cI_gt (i_L3 (i_I ?_))); (with_reducible refine i_t (by omega) ?_); (with_reducible refine i_RetI (i_Call (i_as1 (i_A0 (i_as1 (i_I (i_as0 ?_))))))); (with_reducible refine i_recv0 (by assumption) ?_))
    refine m_raise hO hS (fun M2 f2 e2 => ⟨_, rfl, ?_⟩)
    exact hk M2 (fun b j q => by rw [f2 _ _ (by omega), f1 _ _ (by omega)]) e2
/-- a part of a word -/
theorem m_word {O : zOm} (hO : zWld O) (hS : zS O = zmS zC0) {t c : Nat} {k w : Int} {T n : Nat} {A : zTl} {M : zMem} {K : Option zV → zMem → Prop} (hT : M 250 ((11 : Nat) : Int) = ((T : Nat) : Int)) (hT5 : T ≤ 5) (ht : t < T) (hn : M 250 ((1 : Nat) : Int) = ((n : Nat) : Int)) (hn2 : n ≤ 16) (hA : rTe M t n A) (hw : zTw n A) (hk32 : zin32 k) (hc : c < 1024) (hcw : zWsn A c = true) (hck : ((zcnt (zWsn A) c : Nat) : Int) = k) (hw0 : 0 ≤ w) (hw2 : w ≤ 2)
    (hk : ∀ M', (∀ b j, ¬ (b = 250 ∧ (j = 0 ∨ j = 47 ∨ j = 48 ∨ j = 49 ∨ j = 50)) → M' b j = M b j) → M' 250 ((0 : Nat) : Int) = 0 → K (some (0, if w = 0 then ((c / 256 : Nat) : Int) else if w = 1 then ((c / 16 % 16 : Nat) : Int) else zw2 c)) M') : zR O F_Model_word [(2, 250), (0, ((t : Nat) : Int)), (0, k), (0, w)] M K := by
  have h : 0 ≤ ((t : Nat) : Int) ∧ ((t : Nat) : Int) < ((T : Nat) : Int) := by omega
  have hlt := zcnt_lt3 hcw hc
  apply r_Model_word hO
  unfold B_Model_word
  have f0 := zMF (k := 0) hS rfl; have f47 := zMF (k := 47) hS rfl; have f48 := zMF (k := 48) hS rfl; have f49 := zMF (k := 49) hS rfl; have zo := zMO hS
  ((with_reducible refine i_Seq (i_If (i_cOr (i_cOr (i_cNot (i_cZ_ne (i_Call (i_as1 (i_A0 (i_as1 (i_L1 (i_as0 ?_)))))))))))); (with_reducible refine i_recv0 (by assumption) ?_); (refine m_isTelling hO hS hT ⟨_, rfl, ?_⟩); (rw [decide_eq_true h]); rw [zbI_t]; (with_reducible refine i_t (by omega) ?_); (with_reducible refine i_cZ_lt (i_L2 ?_)); (with_reducible refine i_f (by omega) ?_); (with_reducible refine i_cNot (i_cZ_ne (i_Call (i_as1 (i_A0 (i_as1 (i_L1 (i_as1 (i_L2 (i_as0 ?_)))))))))); (with_reducible refine i_recv0 (by assumption) ?_))
  refine m_seeks hO hS (by omega) hn hn2 hA hw hk32 (by omega) (fun z => absurd z (by omega)) (fun c' c1 c2 c3 M1 f1 e1 e2 e3 => ⟨_, rfl, ?_⟩)
  obtain rfl : c' = c := zcnt_inj _ c2 hcw (by omega)
  have fr : ∀ b j, ¬ (b = 250 ∧ (j = 0 ∨ j = 47 ∨ j = 48 ∨ j = 49 ∨ j = 50)) → zput M1 250 (zup (M1 250) ((0 : Nat) : Int) 0) b j = M b j := fun b j q => by rw [zg_o _ _ (by omega), f1 _ _ (by omega)]
  have hw3 : w = 0 ∨ w = 1 ∨ w = 2 := by omega
  rcases hw3 with rfl | rfl | rfl
  · ((with_reducible refine i_t (by omega) ?_); (with_reducible refine i_Seq (i_If (i_cOr (i_cZ_lt (i_L3 ?_))))); (with_reducible refine i_f (by omega) ?_); (with_reducible refine i_cI_gt (i_L3 (i_I ?_))); (with_reducible refine i_f (by omega) ?_); (with_reducible refine i_Seq (i_sF (i_A0 (i_I ?_)))); (with_reducible refine i_fld (by assumption) ?_); (with_reducible refine i_RetI (i_eIf (i_cZ_eq (i_L3 ?_)))); simp only [w_set0, w_set1, w_setn0, w_setn1]; (with_reducible refine i_t trivial ?_); (with_reducible refine i_F (i_A0 ?_)); (with_reducible refine i_fld (by assumption) ?_); rw [zg_m _ _ _ _ _ (by omega)]; (rw [e1]))
    exact hk _ fr (zg_s _ _ _ _ _)
  · ((with_reducible refine i_t (by omega) ?_); (with_reducible refine i_Seq (i_If (i_cOr (i_cZ_lt (i_L3 ?_))))); (with_reducible refine i_f (by omega) ?_); (with_reducible refine i_cI_gt (i_L3 (i_I ?_))); (with_reducible refine i_f (by omega) ?_); (with_reducible refine i_Seq (i_sF (i_A0 (i_I ?_)))); (with_reducible refine i_fld (by assumption) ?_); (with_reducible refine i_RetI (i_eIf (i_cZ_eq (i_L3 ?_)))); (with_reducible refine i_f (by omega) ?_); (with_reducible refine i_eIf (i_cI_eq (i_L3 (i_I ?_)))); simp only [w_set0, w_set1, w_setn0, w_setn1]; (with_reducible refine i_t trivial ?_); (with_reducible refine i_F (i_A0 ?_)); (with_reducible refine i_fld (by assumption) ?_); rw [zg_m _ _ _ _ _ (by omega)]; (rw [e2]))
    exact hk _ fr (zg_s _ _ _ _ _)
  · ((with_reducible refine i_t (by omega) ?_); (with_reducible refine i_Seq (i_If (i_cOr (i_cZ_lt (i_L3 ?_))))); (with_reducible refine i_f (by omega) ?_); (with_reducible refine i_cI_gt (i_L3 (i_I ?_))); (with_reducible refine i_f (by omega) ?_); (with_reducible refine i_Seq (i_sF (i_A0 (i_I ?_)))); (with_reducible refine i_fld (by assumption) ?_); (with_reducible refine i_RetI (i_eIf (i_cZ_eq (i_L3 ?_)))); (with_reducible refine i_f (by omega) ?_); (with_reducible refine i_eIf (i_cI_eq (i_L3 (i_I ?_)))); (with_reducible refine i_f (by omega) ?_); (with_reducible refine i_F (i_A0 ?_)); (with_reducible refine i_fld (by assumption) ?_); rw [zg_m _ _ _ _ _ (by omega)]; (rw [e3]))
    exact hk _ fr (zg_s _ _ _ _ _)
/-- no such telling or except -/
theorem m_except_no {O : zOm} (hO : zWld O) (hS : zS O = zmS zC0) {t k w : Int} {T n : Nat} {A : Nat → zTl} {M : zMem} {K : Option zV → zMem → Prop} (hT : M 250 ((11 : Nat) : Int) = ((T : Nat) : Int)) (hT5 : T ≤ 5) (hA : ∀ t, t < T → rTe M t n (A t) ∧ zTw n (A t)) (hb : ∀ t' : Nat, t = ((t' : Nat) : Int) → t' < T → zpk (tX (A t')) k 256 = -1)
    (hk : ∀ M', (∀ b j, ¬ (b = 250 ∧ j = 0) → M' b j = M b j) → M' 250 ((0 : Nat) : Int) = 1 → K (some (0, 0)) M') : zR O F_Model_except [(2, 250), (0, t), (0, k), (0, w)] M K := by
  apply r_Model_except hO
  unfold B_Model_except
  have f0 := zMF (k := 0) hS rfl; have f22 := zMF (k := 22) hS rfl; have a268 := zMA (a := 268) (ty := .boolean) (n := 256) hS rfl; have f20 := zMF (k := 20) hS rfl; have a266 := zMA (a := 266) (ty := .int) (n := 1792) hS rfl; have zo := zMO hS
  by_cases h : 0 ≤ t ∧ t < ((T : Nat) : Int)
  · obtain ⟨u, rfl⟩ : ∃ u : Nat, t = ((u : Nat) : Int) := ⟨t.toNat, by omega⟩
    have hu : u < T := by omega
    obtain ⟨h1, h2⟩ := hA u hu
    have hb' := hb u rfl hu
    by_cases h0 : 0 ≤ k
    · ((with_reducible refine i_Seq (i_Set (i_eIf (i_cAnd (i_cZ_ne (i_Call (i_as1 (i_A0 (i_as1 (i_L1 (i_as0 ?_))))))))))); (with_reducible refine i_recv0 (by assumption) ?_); (refine m_isTelling hO hS hT ⟨_, rfl, ?_⟩); (rw [decide_eq_true h]); rw [zbI_t]; (with_reducible refine i_t (by omega) ?_); (with_reducible refine i_cZ_ge (i_L2 ?_)); (with_reducible refine i_t (by omega) ?_); (with_reducible refine i_Call (i_as1 (i_A0 (i_as1 (i_L1 (i_as1 (i_L2 (i_as0 ?_)))))))); (with_reducible refine i_recv0 (by assumption) ?_); (refine m_exceptAt hO hS (by omega) h1 h2 h0 ⟨_, rfl, ?_⟩); (with_reducible refine i_Seq (i_If (i_cZ_lt ?_))); (rw [hb']); simp only [w_set0, w_set1, w_setn0, w_setn1]; (with_reducible refine i_L4 ?_); (with_reducible refine i_t (by omega) ?_); (with_reducible refine i_RetI (i_Call (i_as1 (i_A0 (i_as1 (i_I (i_as0 ?_))))))); (with_reducible refine i_recv0 (by assumption) ?_))
      refine m_raise hO hS (fun M2 f2 e2 => ⟨_, rfl, ?_⟩)
      exact hk M2 f2 e2
    · ((with_reducible refine i_Seq (i_Set (i_eIf (i_cAnd (i_cZ_ne (i_Call (i_as1 (i_A0 (i_as1 (i_L1 (i_as0 ?_))))))))))); (with_reducible refine i_recv0 (by assumption) ?_); (refine m_isTelling hO hS hT ⟨_, rfl, ?_⟩); (rw [decide_eq_true h]); rw [zbI_t]; (with_reducible refine i_t (by omega) ?_); (with_reducible refine i_cZ_ge (i_L2 ?_)); (with_reducible refine i_f (by omega) ?_); (with_reducible refine i_I (i_Seq (i_If (i_cZ_lt ?_)))); simp only [w_set0, w_set1, w_setn0, w_setn1]; (with_reducible refine i_L4 ?_); (with_reducible refine i_t (by omega) ?_); (with_reducible refine i_RetI (i_Call (i_as1 (i_A0 (i_as1 (i_I (i_as0 ?_))))))); (with_reducible refine i_recv0 (by assumption) ?_))
      refine m_raise hO hS (fun M2 f2 e2 => ⟨_, rfl, ?_⟩)
      exact hk M2 f2 e2
  · ((with_reducible refine i_Seq (i_Set (i_eIf (i_cAnd (i_cZ_ne (i_Call (i_as1 (i_A0 (i_as1 (i_L1 (i_as0 ?_))))))))))); (with_reducible refine i_recv0 (by assumption) ?_); (refine m_isTelling hO hS hT ⟨_, rfl, ?_⟩); (rw [decide_eq_false h]); rw [zbI_f]; (with_reducible refine i_f (by omega) ?_); (with_reducible refine i_I (i_Seq (i_If (i_cZ_lt ?_)))); simp only [w_set0, w_set1, w_setn0, w_setn1]; (with_reducible refine i_L4 ?_); (with_reducible refine i_t (by omega) ?_); (with_reducible refine i_RetI (i_Call (i_as1 (i_A0 (i_as1 (i_I (i_as0 ?_))))))); (with_reducible refine i_recv0 (by assumption) ?_))
    refine m_raise hO hS (fun M2 f2 e2 => ⟨_, rfl, ?_⟩)
    exact hk M2 f2 e2
/-- an except, but no such part of it -/
theorem m_except_ill {O : zOm} (hO : zWld O) (hS : zS O = zmS zC0) {t d : Nat} {k w : Int} {T n : Nat} {A : zTl} {M : zMem} {K : Option zV → zMem → Prop} (hT : M 250 ((11 : Nat) : Int) = ((T : Nat) : Int)) (hT5 : T ≤ 5) (ht : t < T) (hA : rTe M t n A) (hw : zTw n A) (hp : zpk (tX A) k 256 = ((d : Nat) : Int)) (hk0 : 0 ≤ k) (hbw : ¬ (0 ≤ w ∧ w ≤ 3))
    (hk : ∀ M', (∀ b j, ¬ (b = 250 ∧ j = 0) → M' b j = M b j) → M' 250 ((0 : Nat) : Int) = 2 → K (some (0, 0)) M') : zR O F_Model_except [(2, 250), (0, ((t : Nat) : Int)), (0, k), (0, w)] M K := by
  have h : 0 ≤ ((t : Nat) : Int) ∧ ((t : Nat) : Int) < ((T : Nat) : Int) := by omega
  apply r_Model_except hO
  unfold B_Model_except
  have f0 := zMF (k := 0) hS rfl; have f22 := zMF (k := 22) hS rfl; have a268 := zMA (a := 268) (ty := .boolean) (n := 256) hS rfl; have f20 := zMF (k := 20) hS rfl; have a266 := zMA (a := 266) (ty := .int) (n := 1792) hS rfl; have zo := zMO hS
  by_cases h2 : w < 0
  · ((with_reducible refine i_Seq (i_Set (i_eIf (i_cAnd (i_cZ_ne (i_Call (i_as1 (i_A0 (i_as1 (i_L1 (i_as0 ?_))))))))))); (with_reducible refine i_recv0 (by assumption) ?_); (refine m_isTelling hO hS hT ⟨_, rfl, ?_⟩); (rw [decide_eq_true h]); rw [zbI_t]; (with_reducible refine i_t (by omega) ?_); (with_reducible refine i_cZ_ge (i_L2 ?_)); (with_reducible refine i_t (by omega) ?_); (with_reducible refine i_Call (i_as1 (i_A0 (i_as1 (i_L1 (i_as1 (i_L2 (i_as0 ?_)))))))); (with_reducible refine i_recv0 (by assumption) ?_); (refine m_exceptAt hO hS (by omega) hA hw hk0 ⟨_, rfl, ?_⟩); (with_reducible refine i_Seq (i_If (i_cZ_lt ?_))); (rw [hp]); simp only [w_set0, w_set1, w_setn0, w_setn1]; (with_reducible refine i_L4 ?_); (with_reducible refine i_f (by omega) ?_); (with_reducible refine i_Seq (i_If (i_cOr (i_cZ_lt (i_L3 ?_))))); (with_reducible refine i_t (by omega) ?_); (with_reducible refine i_RetI (i_Call (i_as1 (i_A0 (i_as1 (i_I (i_as0 ?_))))))); (with_reducible refine i_recv0 (by assumption) ?_))
    refine m_raise hO hS (fun M2 f2 e2 => ⟨_, rfl, ?_⟩)
    exact hk M2 f2 e2
  · ((with_reducible refine i_Seq (i_Set (i_eIf (i_cAnd (i_cZ_ne (i_Call (i_as1 (i_A0 (i_as1 (i_L1 (i_as0 ?_))))))))))); (with_reducible refine i_recv0 (by assumption) ?_); (refine m_isTelling hO hS hT ⟨_, rfl, ?_⟩); (rw [decide_eq_true h]); rw [zbI_t]; (with_reducible refine i_t (by omega) ?_); (with_reducible refine i_cZ_ge (i_L2 ?_)); (with_reducible refine i_t (by omega) ?_); (with_reducible refine i_Call (i_as1 (i_A0 (i_as1 (i_L1 (i_as1 (i_L2 (i_as0 ?_)))))))); (with_reducible refine i_recv0 (by assumption) ?_); (refine m_exceptAt hO hS (by omega) hA hw hk0 ⟨_, rfl, ?_⟩); (with_reducible refine i_Seq (i_If (i_cZ_lt ?_))); (rw [hp]); simp only [w_set0, w_set1, w_setn0, w_setn1]; (with_reducible refine i_L4 ?_); (with_reducible refine i_f (by omega) ?_); (with_reducible refine i_Seq (i_If (i_cOr (i_cZ_lt (i_L3 ?_))))); (with_reducible refine i_f (by omega) ?_); (with_reducible refine i_cI_gt (i_L3 (i_I ?_))); (with_reducible refine i_t (by omega) ?_); (with_reducible refine i_RetI (i_Call (i_as1 (i_A0 (i_as1 (i_I (i_as0 ?_))))))); (with_reducible refine i_recv0 (by assumption) ?_))
    refine m_raise hO hS (fun M2 f2 e2 => ⟨_, rfl, ?_⟩)
    exact hk M2 f2 e2
/-- a part of an except -/
theorem m_except {O : zOm} (hO : zWld O) (hS : zS O = zmS zC0) {t d : Nat} {k w : Int} {T n : Nat} {A : zTl} {M : zMem} {K : Option zV → zMem → Prop} (hT : M 250 ((11 : Nat) : Int) = ((T : Nat) : Int)) (hT5 : T ≤ 5) (ht : t < T) (hn : M 250 ((1 : Nat) : Int) = ((n : Nat) : Int)) (hn2 : n ≤ 16) (hA : rTe M t n A) (hw : zTw n A) (hp : zpk (tX A) k 256 = ((d : Nat) : Int)) (hd : d < 256) (hk0 : 0 ≤ k) (hw0 : 0 ≤ w) (hw3 : w ≤ 3)
    (hk : ∀ M', (∀ b j, ¬ (b = 250 ∧ j = 0 ∨ b = 268) → M' b j = M b j) → M' 250 ((0 : Nat) : Int) = 0 → K (some (0, if w = 0 then ((d / 16 : Nat) : Int) else if w = 1 then ((d % 16 : Nat) : Int) else if w = 2 then zbI (tS n A (d / 16) (d % 16)) else zbI (decide (tv A (d / 16) (d % 16) = 2)))) M') : zR O F_Model_except [(2, 250), (0, ((t : Nat) : Int)), (0, k), (0, w)] M K := by
  have h : 0 ≤ ((t : Nat) : Int) ∧ ((t : Nat) : Int) < ((T : Nat) : Int) := by omega
  apply r_Model_except hO
  unfold B_Model_except
  have f0 := zMF (k := 0) hS rfl; have f22 := zMF (k := 22) hS rfl; have a268 := zMA (a := 268) (ty := .boolean) (n := 256) hS rfl; have f20 := zMF (k := 20) hS rfl; have a266 := zMA (a := 266) (ty := .int) (n := 1792) hS rfl; have zo := zMO hS
  ((with_reducible refine i_Seq (i_Set (i_eIf (i_cAnd (i_cZ_ne (i_Call (i_as1 (i_A0 (i_as1 (i_L1 (i_as0 ?_))))))))))); (with_reducible refine i_recv0 (by assumption) ?_); (refine m_isTelling hO hS hT ⟨_, rfl, ?_⟩); (rw [decide_eq_true h]); rw [zbI_t]; (with_reducible refine i_t (by omega) ?_); (with_reducible refine i_cZ_ge (i_L2 ?_)); (with_reducible refine i_t (by omega) ?_); (with_reducible refine i_Call (i_as1 (i_A0 (i_as1 (i_L1 (i_as1 (i_L2 (i_as0 ?_)))))))); (with_reducible refine i_recv0 (by assumption) ?_); (refine m_exceptAt hO hS (by omega) hA hw hk0 ⟨_, rfl, ?_⟩); (with_reducible refine i_Seq (i_If (i_cZ_lt ?_))); (rw [hp]); simp only [w_set0, w_set1, w_setn0, w_setn1]; (with_reducible refine i_L4 ?_); (with_reducible refine i_f (by omega) ?_); (with_reducible refine i_Seq (i_If (i_cOr (i_cZ_lt (i_L3 ?_))))); (with_reducible refine i_f (by omega) ?_); (with_reducible refine i_cI_gt (i_L3 (i_I ?_))); (with_reducible refine i_f (by omega) ?_); (with_reducible refine i_Seq (i_sF (i_A0 (i_I ?_)))); (with_reducible refine i_fld (by assumption) ?_); (with_reducible refine i_Seq (i_sCall (i_as1 (i_A0 (i_as1 (i_L1 (i_as0 ?_))))))); (with_reducible refine i_recv0 (by assumption) ?_))
  generalize hM1 : zput M 250 (zup (M 250) ((0 : Nat) : Int) 0) = M1
  have f1 : ∀ b j, ¬ (b = 250 ∧ j = 0) → M1 b j = M b j := fun b j q => by rw [← hM1, zg_o _ _ (by omega)]
  have e1 : M1 250 ((0 : Nat) : Int) = 0 := by rw [← hM1]; exact zg_s _ _ _ _ _
  refine m_hearA hO hS (by omega) (by rw [f1 _ _ (by omega)]; exact hn) hn2 (hA.to hn2 hw (fun b j q => f1 b j (by omega))) hw (fun M2 f2 S2 => ⟨rfl, ?_⟩)
  have fr : ∀ b j, ¬ (b = 250 ∧ j = 0 ∨ b = 268) → M2 b j = M b j := fun b j q => by rw [f2 _ _ (by omega), f1 _ _ (by omega)]
  have e2 : M2 250 ((0 : Nat) : Int) = 0 := by rw [f2 _ _ (by omega)]; exact e1
  have hs2 : M2 ((268 : Nat) : Int) ((d : Nat) : Int) = zbI (tS n A (d / 16) (d % 16)) := by
    have := S2 (d / 16) (d % 16) (by omega) (by omega)
    rwa [show 16 * (d / 16) + d % 16 = d by omega] at this
  have hv2 : M2 ((266 : Nat) : Int) ((256 * t + d : Nat) : Int) = ((tv A (d / 16) (d % 16) : Nat) : Int) := by
    have := hA.2.2.2 (d / 16) (d % 16) (by omega) (by omega)
    rw [show 256 * t + 16 * (d / 16) + d % 16 = 256 * t + d by omega] at this
    rw [fr _ _ (by omega)]
    exact this
  have hdv : zw32 ((((d : Nat) : Int) : Int).tdiv 16) = ((d / 16 : Nat) : Int) := zx_dv (b := 16) (by omega)
  have hmd : (((d : Nat) : Int) : Int).tmod 16 = ((d % 16 : Nat) : Int) := (Int.ofNat_tmod d 16).symm
  have hw4 : w = 0 ∨ w = 1 ∨ w = 2 ∨ w = 3 := by omega
  rcases hw4 with rfl | rfl | rfl | rfl
  · ((with_reducible refine i_RetI (i_eIf (i_cZ_eq (i_L3 ?_)))); simp only [w_set0, w_set1, w_setn0, w_setn1]; (with_reducible refine i_t trivial ?_); (with_reducible refine i_Div (i_L4 (i_I ?_))); (rw [hdv]); (with_reducible refine i_nn (by decide) ?_))
    exact hk _ fr e2
  · ((with_reducible refine i_RetI (i_eIf (i_cZ_eq (i_L3 ?_)))); (with_reducible refine i_f (by omega) ?_); (with_reducible refine i_eIf (i_cI_eq (i_L3 (i_I ?_)))); simp only [w_set0, w_set1, w_setn0, w_setn1]; (with_reducible refine i_t trivial ?_); (with_reducible refine i_Rem (i_L4 (i_I ?_))); (rw [hmd]); (with_reducible refine i_nn (by decide) ?_))
    exact hk _ fr e2
  · have hk' := hk _ fr e2
    rw [if_neg (show ¬ (2 : Int) = 0 by decide), if_neg (show ¬ (2 : Int) = 1 by decide), if_pos rfl] at hk'
    cases e : tS n A (d / 16) (d % 16)
    · rw [e] at hs2 hk'
      ((with_reducible refine i_RetI (i_eIf (i_cZ_eq (i_L3 ?_)))); (with_reducible refine i_f (by omega) ?_); (with_reducible refine i_eIf (i_cI_eq (i_L3 (i_I ?_)))); (with_reducible refine i_f (by omega) ?_); (with_reducible refine i_eIf (i_cI_eq (i_L3 (i_I ?_)))); simp only [w_set0, w_set1, w_setn0, w_setn1]; (with_reducible refine i_t trivial ?_); (with_reducible refine i_eIf (i_cZ_ne (i_ZA (i_FR (i_A0 ?_))))); (with_reducible refine i_fldR (by assumption) ?_); (with_reducible refine i_L4 ?_); (with_reducible refine i_in (by assumption) (by omega) (by omega) ?_); (rw [hs2]); rw [zbI_f]; (with_reducible refine i_f (by omega) ?_); (with_reducible refine i_I ?_))
      exact hk'
    · rw [e] at hs2 hk'
      ((with_reducible refine i_RetI (i_eIf (i_cZ_eq (i_L3 ?_)))); (with_reducible refine i_f (by omega) ?_); (with_reducible refine i_eIf (i_cI_eq (i_L3 (i_I ?_)))); (with_reducible refine i_f (by omega) ?_); (with_reducible refine i_eIf (i_cI_eq (i_L3 (i_I ?_)))); simp only [w_set0, w_set1, w_setn0, w_setn1]; (with_reducible refine i_t trivial ?_); (with_reducible refine i_eIf (i_cZ_ne (i_ZA (i_FR (i_A0 ?_))))); (with_reducible refine i_fldR (by assumption) ?_); (with_reducible refine i_L4 ?_); (with_reducible refine i_in (by assumption) (by omega) (by omega) ?_); (rw [hs2]); rw [zbI_t]; (with_reducible refine i_t (by omega) ?_); (with_reducible refine i_I ?_))
      exact hk'
  · have hk' := hk _ fr e2
    rw [if_neg (show ¬ (3 : Int) = 0 by decide), if_neg (show ¬ (3 : Int) = 1 by decide), if_neg (show ¬ (3 : Int) = 2 by decide)] at hk'
    by_cases e : tv A (d / 16) (d % 16) = 2
    · rw [e] at hv2
      rw [decide_eq_true e] at hk'
      ((with_reducible refine i_RetI (i_eIf (i_cZ_eq (i_L3 ?_)))); (with_reducible refine i_f (by omega) ?_); (with_reducible refine i_eIf (i_cI_eq (i_L3 (i_I ?_)))); (with_reducible refine i_f (by omega) ?_); (with_reducible refine i_eIf (i_cI_eq (i_L3 (i_I ?_)))); (with_reducible refine i_f (by omega) ?_); (with_reducible refine i_eIf (i_cI_eq (i_IA (i_FR (i_A0 ?_))))); (with_reducible refine i_fldR (by assumption) ?_); (with_reducible refine i_Add (i_Mul (i_I (i_L1 (i_L4 ?_))))); rw [zx_cmul (by omega)]; rw [zx_add (by omega)]; (with_reducible refine i_in (by assumption) (by omega) (by omega) ?_); (with_reducible refine i_I ?_); (rw [hv2]); (with_reducible refine i_t (by omega) ?_); (with_reducible refine i_I ?_))
      exact hk'
    · rw [decide_eq_false e] at hk'
      ((with_reducible refine i_RetI (i_eIf (i_cZ_eq (i_L3 ?_)))); (with_reducible refine i_f (by omega) ?_); (with_reducible refine i_eIf (i_cI_eq (i_L3 (i_I ?_)))); (with_reducible refine i_f (by omega) ?_); (with_reducible refine i_eIf (i_cI_eq (i_L3 (i_I ?_)))); (with_reducible refine i_f (by omega) ?_); (with_reducible refine i_eIf (i_cI_eq (i_IA (i_FR (i_A0 ?_))))); (with_reducible refine i_fldR (by assumption) ?_); (with_reducible refine i_Add (i_Mul (i_I (i_L1 (i_L4 ?_))))); rw [zx_cmul (by omega)]; rw [zx_add (by omega)]; (with_reducible refine i_in (by assumption) (by omega) (by omega) ?_); (with_reducible refine i_I ?_); (rw [hv2]); ((with_reducible refine i_f (show ¬ (((tv A (d / 16) (d % 16) : Nat) : Int) : Int) = 2 by omega) ?_)); (with_reducible refine i_I ?_))
      exact hk'
end
section
-- part l9.obw.lean.txt
/-! ===== word and except: both sides ===== -/
def zWqB (O : zOm) (f : zMR) (x y z : Int) : Option zV → zMem → Prop := fun v u => ∃ kc : Int, (kc = 0 ∨ kc = 1 ∨ kc = 2) ∧ v = some (0, kc) ∧ zR O f [(2, ((250 : Nat) : Int)), (0, x), (0, y), (0, z)] u (fun v2 u2 => ∃ r2, v2 = some (0, r2) ∧ u2 250 ((0 : Nat) : Int) = kc ∧ (kc = 0 → u2 ((311 : Nat) : Int) 0 = r2) ∧ zInv u2)
theorem ob_word {O : zOm} (hO : zWld O) (hS : zS O = zmS zC0) (hl : (zLn O).stackTraces = false) {M : zMem} (hI : zInv M) {x y z : Int} (hy : zin32 y) {K : Option zV → zMem → Prop} (hk : ∀ v u, zWqB O F_Model_word x y z v u → K v u) : zLM2 O zLw [(2, ((0 : Nat) : Int)), (0, x), (0, y), (0, z), (2, ((311 : Nat) : Int))] M K := by
  obtain ⟨n, td, c, T, s, N, CA, CB, CI, CD, μ, A, Q, B, pl, hP, hC, hM⟩ := id hI
  obtain ⟨n2, n16, td41, c300, T5, hR, hZ, hCD, hμ, hW, hQs, hB⟩ := id hP
  obtain ⟨c1, c2, c3, c4, c5, c6, c7, c8, c9⟩ := id hC
  obtain ⟨m1, m2, m3, m4, m5, m6, m7, m8, m9, m10⟩ := id hM
  have hob : zxObj (zS O) ((0 : Nat) : Int) 0 = true := by rw [hS]; exact zC0_x
  refine zlW2 hO zLw_lk zLw_ok2 (by omega) (by omega) (zMA (a := 311) (ty := .long) (n := 1) hS rfl) hob ?_
  have no : (∀ t' : Nat, x = ((t' : Nat) : Int) → t' < T → ¬ (0 ≤ y ∧ y < ((zcnt (zWsn (A t')) 1024 : Nat) : Int))) → zWqB O F_Model_word x y z (some (0, 1)) M := fun h => ⟨1, Or.inr (Or.inl rfl), rfl, m_word_no hO hS m6 T5 m1 n16 (fun t ht => ⟨m7 t ht, hW t ht⟩) hy h (fun M1 f1 e1 => ⟨_, rfl, e1, fun q => absurd q (by decide), zInv.ro hP hC hM (fun _ _ _ => rfl) c5 (fun b j q => f1 b j (by omega))⟩)⟩
  by_cases h : 0 ≤ x ∧ x < ((T : Nat) : Int)
  · obtain ⟨t, rfl⟩ : ∃ k : Nat, x = ((k : Nat) : Int) := ⟨x.toNat, by omega⟩
    have ht : t < T := by omega
    obtain ⟨wd1, wd2⟩ := (c4 t ht).2.2.1.1
    have wd3 := (c4 t ht).2.2.1.2
    refine zx_word2 hO hl hob (c_find hO hS c3 T5 (fun q => absurd h q) (fun k e1 e2 => ?_)) (zTelT hS (show t < 5 by omega)) wd1 wd3 (fun q => ?_) (fun a b q => ?_) (fun j e1 e2 a b => ?_)
    · obtain rfl : t = k := by omega
      exact ⟨rfl, rfl⟩
    · exact Or.inl ⟨rfl, hk _ _ (no (fun t' e _ => by rw [show t' = t by omega]; exact q))⟩
    · obtain ⟨j, rfl⟩ : ∃ j : Nat, y = ((j : Nat) : Int) := ⟨y.toNat, by omega⟩
      obtain ⟨c', w1, w2, w3⟩ := zkth (s := zWsn (A t)) (k := j) (n := 1024) (Int.ofNat_lt.mp b)
      exact Or.inr ⟨rfl, hk _ _ ⟨2, Or.inr (Or.inr rfl), rfl, m_word_ill hO hS m6 T5 ht m1 n16 (m7 t ht) (hW t ht) hy w1 w2 (by rw [w3]) q (fun M1 f1 e1 => ⟨_, rfl, e1, fun q => absurd q (by decide), zInv.ro hP hC hM (fun _ _ _ => rfl) c5 (fun b j q => f1 b j (by omega))⟩)⟩⟩
    · obtain ⟨c', w1, w2, w3⟩ := zkth (s := zWsn (A t)) (k := j) (n := 1024) e2
      subst e1
      refine ⟨c', w1, by rw [← w3]; exact wd2 c' w1 w2, _, rfl, hk _ _ ⟨0, Or.inl rfl, rfl, ?_⟩⟩
      generalize hr : (if z = 0 then ((c' / 256 : Nat) : Int) else if z = 1 then ((c' / 16 % 16 : Nat) : Int) else zw2 c' : Int) = r
      generalize hG : zput M ((311 : Nat) : Int) (zup (M ((311 : Nat) : Int)) 0 r) = M1
      have f0 : ∀ b j, ¬ b = 311 → M1 b j = M b j := fun b j q => by rw [← hG, zg_n _ _ _ (by omega)]
      have e0 : M1 ((311 : Nat) : Int) 0 = r := by rw [← hG]; exact zg_s _ _ _ _ _
      have hC1 := hC.up T5 td41 (fun b j q => f0 b j (by omega))
      have hM1 := hM.sc T5 n16 c7.2.1 hW (fun b j q => f0 b j (by omega))
      have s1 : cSo M1 := c5.to (fun b j q => f0 b j (by omega))
      obtain ⟨p1, p2, p3, p4, p5, p6, p7, p8, p9, p10⟩ := id hM1
      refine m_word hO hS p6 T5 ht p1 n16 (p7 t ht) (hW t ht) hy w1 w2 (by rw [w3]) a b (fun M2 f2 e3 => ⟨_, rfl, e3, fun _ => ?_, zInv.ro hP hC1 hM1 (fun _ _ _ => rfl) s1 (fun b j q => f2 b j (by omega))⟩)
      rw [f2 _ _ (by omega), e0, hr]
  · exact zx_word1 hO hl hob (c_find hO hS c3 T5 (fun _ => ⟨rfl, Or.inl ⟨rfl, hk _ _ (no (fun t' e1 e2 => absurd ⟨by omega, by omega⟩ h))⟩⟩) (fun k e1 e2 => absurd ⟨by omega, by omega⟩ h))
theorem ob_except {O : zOm} (hO : zWld O) (hS : zS O = zmS zC0) (hl : (zLn O).stackTraces = false) {M : zMem} (hI : zInv M) {x y z : Int} (hy : zin32 y) {K : Option zV → zMem → Prop} (hk : ∀ v u, zWqB O F_Model_except x y z v u → K v u) : zLM2 O zLe [(2, ((0 : Nat) : Int)), (0, x), (0, y), (0, z), (2, ((311 : Nat) : Int))] M K := by
  obtain ⟨n, td, c, T, s, N, CA, CB, CI, CD, μ, A, Q, B, pl, hP, hC, hM⟩ := id hI
  obtain ⟨n2, n16, td41, c300, T5, hR, hZ, hCD, hμ, hW, hQs, hB⟩ := id hP
  obtain ⟨c1, c2, c3, c4, c5, c6, c7, c8, c9⟩ := id hC
  obtain ⟨m1, m2, m3, m4, m5, m6, m7, m8, m9, m10⟩ := id hM
  have hob : zxObj (zS O) ((0 : Nat) : Int) 0 = true := by rw [hS]; exact zC0_x
  refine zlW2 hO zLe_lk zLe_ok2 (by omega) (by omega) (zMA (a := 311) (ty := .long) (n := 1) hS rfl) hob ?_
  have no : (∀ t' : Nat, x = ((t' : Nat) : Int) → t' < T → zpk (tX (A t')) y 256 = -1) → zWqB O F_Model_except x y z (some (0, 1)) M := fun h => ⟨1, Or.inr (Or.inl rfl), rfl, m_except_no hO hS m6 T5 (fun t ht => ⟨m7 t ht, hW t ht⟩) h (fun M1 f1 e1 => ⟨_, rfl, e1, fun q => absurd q (by decide), zInv.ro hP hC hM (fun _ _ _ => rfl) c5 (fun b j q => f1 b j (by omega))⟩)⟩
  by_cases h : 0 ≤ x ∧ x < ((T : Nat) : Int)
  · obtain ⟨t, rfl⟩ : ∃ k : Nat, x = ((k : Nat) : Int) := ⟨x.toNat, by omega⟩
    have ht : t < T := by omega
    refine zx_except2 hO hl hob (c_find hO hS c3 T5 (fun q => absurd h q) (fun k e1 e2 => ?_)) (zTelT hS (show t < 5 by omega)) (c4 t ht) (hW t ht) n16 hy (fun q => ?_) (fun q1 q => ?_) (fun d q1 q2 q3 a b => ?_)
    · obtain rfl : t = k := by omega
      exact ⟨rfl, rfl⟩
    · exact Or.inl ⟨rfl, hk _ _ (no (fun t' e _ => by rw [show t' = t by omega]; exact q))⟩
    · rcases zpk_cases (tX (A t)) y 256 with ⟨d, g1, g2, g3, g4⟩ | ⟨g1, g2⟩
      · exact Or.inr ⟨rfl, hk _ _ ⟨2, Or.inr (Or.inr rfl), rfl, m_except_ill hO hS m6 T5 ht (m7 t ht) (hW t ht) g1 (by omega) q (fun M1 f1 e1 => ⟨_, rfl, e1, fun q => absurd q (by decide), zInv.ro hP hC hM (fun _ _ _ => rfl) c5 (fun b j q => f1 b j (by omega))⟩)⟩⟩
      · exact absurd g1 q1
    · have hy0 : 0 ≤ y := by
        rcases zpk_cases (tX (A t)) y 256 with ⟨d', g1, g2, g3, g4⟩ | ⟨g1, g2⟩
        · omega
        · rw [g1] at q1; omega
      refine ⟨_, rfl, hk _ _ ⟨0, Or.inl rfl, rfl, ?_⟩⟩
      generalize hr : (if z = 0 then ((d / 16 : Nat) : Int) else if z = 1 then ((d % 16 : Nat) : Int) else if z = 2 then zbI (tS n (A t) (d / 16) (d % 16)) else zbI (decide (tv (A t) (d / 16) (d % 16) = 2)) : Int) = r
      generalize hG : zput M ((311 : Nat) : Int) (zup (M ((311 : Nat) : Int)) 0 r) = M1
      have f0 : ∀ b j, ¬ b = 311 → M1 b j = M b j := fun b j q => by rw [← hG, zg_n _ _ _ (by omega)]
      have e0 : M1 ((311 : Nat) : Int) 0 = r := by rw [← hG]; exact zg_s _ _ _ _ _
      have hC1 := hC.up T5 td41 (fun b j q => f0 b j (by omega))
      have hM1 := hM.sc T5 n16 c7.2.1 hW (fun b j q => f0 b j (by omega))
      have s1 : cSo M1 := c5.to (fun b j q => f0 b j (by omega))
      obtain ⟨p1, p2, p3, p4, p5, p6, p7, p8, p9, p10⟩ := id hM1
      refine m_except hO hS p6 T5 ht p1 n16 (p7 t ht) (hW t ht) q1 q2 hy0 a b (fun M2 f2 e3 => ⟨_, rfl, e3, fun _ => ?_, zInv.ro hP hC1 hM1 (fun _ _ _ => rfl) s1 (fun b j q => f2 b j (by omega))⟩)
      rw [f2 _ _ (by omega), e0, hr]
  · exact zx_except1 hO hl hob (c_find hO hS c3 T5 (fun _ => ⟨rfl, Or.inl ⟨rfl, hk _ _ (no (fun t' e1 e2 => absurd ⟨by omega, by omega⟩ h))⟩⟩) (fun k e1 e2 => absurd ⟨by omega, by omega⟩ h))
end
section
-- part la.obl.lean.txt
/-! ===== all calls ===== -/
theorem zlArg_v (xs : Nat → Int32) (i k : Nat) : zlArg xs i (k, true) = 0 ∨ zlArg xs i (k, true) = 1 := by
  unfold zlArg
  rw [if_pos rfl]
  split
  · exact Or.inl rfl
  · exact Or.inr rfl
theorem ob_tieB {O : zOm} (hO : zWld O) (hS : zS O = zmS zC0) {M : zMem} (hI : zInv M) {x y z : Int} (hz : z = 0 ∨ z = 1) : zR O F_ToldNet_tie [(2, ((0 : Nat) : Int)), (0, x), (0, y), (0, z)] M (zAns O F_Model_tie [(2, 250), (0, x), (0, y), (0, z)]) := by
  rcases hz with rfl | rfl
  · exact ob_tie (v := false) hO hS hI
  · exact ob_tie (v := true) hO hS hI
theorem ob_leaveB {O : zOm} (hO : zWld O) (hS : zS O = zmS zC0) {M : zMem} (hI : zInv M) {x y z : Int} (hy : zin32 y) (hz : z = 0 ∨ z = 1) : zR O F_ToldNet_leave [(2, ((0 : Nat) : Int)), (0, x), (0, y), (0, z)] M (zAns O F_Model_leave [(2, 250), (0, x), (0, y), (0, z)]) := by
  rcases hz with rfl | rfl
  · exact ob_leave (v := false) hO hS hI hy
  · exact ob_leave (v := true) hO hS hI hy
theorem ob_sortB {O : zOm} (hO : zWld O) (hS : zS O = zmS zC0) {M : zMem} (hI : zInv M) {x y z w u : Int} (hw : w = 0 ∨ w = 1) : zR O F_ToldNet_sort [(2, ((0 : Nat) : Int)), (0, x), (0, y), (0, z), (0, w), (0, u)] M (zAns O F_Model_sort [(2, 250), (0, x), (0, y), (0, z), (0, w), (0, u)]) := by
  rcases hw with rfl | rfl
  · exact ob_sort (v := false) hO hS hI
  · exact ob_sort (v := true) hO hS hI
theorem ob_askB {O : zOm} (hO : zWld O) (hS : zS O = zmS zC0) {M : zMem} (hI : zInv M) {x y z w u : Int} (hu : u = 0 ∨ u = 1) : zR O F_ToldNet_ask [(2, ((0 : Nat) : Int)), (0, x), (0, y), (0, z), (0, w), (0, u)] M (zAns O F_Model_ask [(2, 250), (0, x), (0, y), (0, z), (0, w), (0, u)]) := by
  rcases hu with rfl | rfl
  · exact ob_ask (v := false) hO hS hI
  · exact ob_ask (v := true) hO hS hI
def zPe (O : zOm) (xs : Nat → Int32) (i : Nat) (M : zMem) (J : zMem → Prop) (e : Nat × Nat × List (Nat × Bool) × Nat × Nat × Nat × Nat) : Prop :=
  (zlIsC e.1 = true → zR O (zFn e.2.2.2.2.1) ((2, ((0 : Nat) : Int)) :: zlArgs xs i e.2.2.1) M (fun v M1 => zR O (zFn e.2.2.2.2.2.2) ((2, ((250 : Nat) : Int)) :: zlArgs xs i e.2.2.1) M1 (fun v' M2 => ∃ r, v = some (0, r) ∧ v' = some (0, r) ∧ J M2))) ∧
  (¬ zlIsC e.1 = true → zR O (zFn e.2.2.2.2.1) ((2, ((0 : Nat) : Int)) :: zlArgs xs i e.2.2.1) M (fun v M1 => (∃ r, v = some (0, r)) ∧ zR O (zFn e.2.2.2.2.2.2) ((2, ((250 : Nat) : Int)) :: zlArgs xs i e.2.2.1) M1 (fun v' M2 => (∃ r, v' = some (0, r)) ∧ J M2)))
theorem pe_eq {O : zOm} {xs : Nat → Int32} {i : Nat} {M : zMem} {J : zMem → Prop} {e : Nat × Nat × List (Nat × Bool) × Nat × Nat × Nat × Nat} (hJ : ∀ u, zInv u → J u) (h : zR O (zFn e.2.2.2.2.1) ((2, ((0 : Nat) : Int)) :: zlArgs xs i e.2.2.1) M (zAns O (zFn e.2.2.2.2.2.2) ((2, 250) :: zlArgs xs i e.2.2.1))) : zPe O xs i M J e :=
  ⟨fun _ => h.mono (fun v M1 h1 => h1.use.2.mono (fun v' M2 ⟨r, e1, e2, hI⟩ => ⟨r, e1, e2, hJ _ hI⟩)), fun _ => h.mono (fun v M1 h1 => ⟨h1.use.1, h1.use.2.mono (fun v' M2 ⟨r, _, e2, hI⟩ => ⟨⟨r, e2⟩, hJ _ hI⟩)⟩)⟩
theorem pe_v {O : zOm} {xs : Nat → Int32} {i : Nat} {M : zMem} {J : zMem → Prop} {e : Nat × Nat × List (Nat × Bool) × Nat × Nat × Nat × Nat} (hJ : ∀ u, zInv u → J u) (hc : zlIsC e.1 = false) (h : zR O (zFn e.2.2.2.2.1) ((2, ((0 : Nat) : Int)) :: zlArgs xs i e.2.2.1) M (zAnsV O (zFn e.2.2.2.2.2.2) ((2, 250) :: zlArgs xs i e.2.2.1))) : zPe O xs i M J e :=
  ⟨fun w => absurd (hc.symm.trans w) (by decide), fun _ => h.mono (fun v M1 h1 => ⟨h1.1, h1.2.mono (fun v' M2 ⟨e2, hI⟩ => ⟨e2, hJ _ hI⟩)⟩)⟩
theorem zPe_all {O : zOm} (hO : zWld O) (hS : zS O = zmS zC0) {M : zMem} (hI : zInv M) (hm : zMok (zS O) M) {J : zMem → Prop} (hJ : ∀ u, zInv u → J u) (xs : Nat → Int32) (i : Nat) (hrd : zPe O xs i M J (8, 564, [], 63, 11, 66, 351)) (hpl : zPe O xs i M J (9, 577, [], 67, 12, 70, 352)) : ∀ e ∈ zlT, zPe O xs i M J e := List.forall_mem_cons.mpr ⟨pe_eq hJ (ob_feed hO hS hI), List.forall_mem_cons.mpr ⟨pe_eq hJ (ob_back hO hS hI), List.forall_mem_cons.mpr ⟨pe_eq hJ (ob_net hO hS hI), List.forall_mem_cons.mpr ⟨pe_eq hJ (ob_tieB hO hS hI (zlArg_v xs i 3)), List.forall_mem_cons.mpr ⟨pe_eq hJ (ob_tomorrow hO hS hI), List.forall_mem_cons.mpr ⟨pe_eq hJ (ob_mark hO hS hI), List.forall_mem_cons.mpr ⟨pe_eq hJ (ob_ties hO hS hI), List.forall_mem_cons.mpr ⟨pe_eq hJ (ob_tied hO hS hI), List.forall_mem_cons.mpr ⟨hrd, List.forall_mem_cons.mpr ⟨hpl, List.forall_mem_cons.mpr ⟨pe_eq hJ (ob_make hO hS hI), List.forall_mem_cons.mpr ⟨pe_eq hJ (ob_copy hO hS hI), List.forall_mem_cons.mpr ⟨pe_eq hJ (ob_drop hO hS hI), List.forall_mem_cons.mpr ⟨pe_eq hJ (ob_length hO hS hI), List.forall_mem_cons.mpr ⟨pe_eq hJ (ob_box hO hS hI), List.forall_mem_cons.mpr ⟨pe_eq hJ (ob_row hO hS hI), List.forall_mem_cons.mpr ⟨pe_eq hJ (ob_built hO hS hI), List.forall_mem_cons.mpr ⟨pe_eq hJ (ob_unlike hO hS hI), List.forall_mem_cons.mpr ⟨pe_eq hJ (ob_together hO hS hI hm), List.forall_mem_cons.mpr ⟨pe_eq hJ (ob_apart hO hS hI hm), List.forall_mem_cons.mpr ⟨pe_eq hJ (ob_bound hO hS hI), List.forall_mem_cons.mpr ⟨pe_eq hJ (ob_bests hO hS hI), List.forall_mem_cons.mpr ⟨pe_eq hJ (ob_leaveB hO hS hI (zlArg_in xs i (2, false)) (zlArg_v xs i 3)), List.forall_mem_cons.mpr ⟨pe_eq hJ (ob_sortB hO hS hI (zlArg_v xs i 4)), List.forall_mem_cons.mpr ⟨pe_eq hJ (ob_askB hO hS hI (zlArg_v xs i 5)), List.forall_mem_cons.mpr ⟨pe_eq hJ (ob_mean hO hS hI), List.forall_mem_cons.mpr ⟨pe_eq hJ (ob_leads hO hS hI), List.forall_mem_cons.mpr ⟨pe_eq hJ (ob_led hO hS hI), List.forall_mem_cons.mpr ⟨pe_eq hJ (ob_reader hO hS hI), List.forall_mem_cons.mpr ⟨pe_eq hJ (ob_harm hO hS hI), List.forall_mem_cons.mpr ⟨pe_eq hJ (ob_serve hO hS hI), List.forall_mem_cons.mpr ⟨pe_eq hJ (ob_rounds hO hS hI), List.forall_mem_cons.mpr ⟨pe_eq hJ (ob_coarsest hO hS hI), List.forall_mem_cons.mpr ⟨pe_eq hJ (ob_nearly hO hS hI), List.forall_mem_cons.mpr ⟨pe_eq hJ (ob_mend hO hS hI), List.forall_mem_cons.mpr ⟨pe_eq hJ (ob_broken hO hS hI), List.forall_mem_cons.mpr ⟨pe_eq hJ (ob_line hO hS hI), List.forall_mem_cons.mpr ⟨pe_eq hJ (ob_at hO hS hI), List.forall_mem_cons.mpr ⟨pe_eq hJ (ob_sentence hO hS hI), List.forall_mem_cons.mpr ⟨pe_eq hJ (ob_spares hO hS hI), List.forall_mem_cons.mpr ⟨pe_eq hJ (ob_compare hO hS hI), List.forall_mem_cons.mpr ⟨pe_eq hJ (ob_odds hO hS hI), List.forall_mem_cons.mpr ⟨pe_eq hJ (ob_chance hO hS hI), List.forall_mem_cons.mpr ⟨pe_eq hJ (ob_count hO hS hI), (fun _ h => by cases h)⟩⟩⟩⟩⟩⟩⟩⟩⟩⟩⟩⟩⟩⟩⟩⟩⟩⟩⟩⟩⟩⟩⟩⟩⟩⟩⟩⟩⟩⟩⟩⟩⟩⟩⟩⟩⟩⟩⟩⟩⟩⟩⟩⟩
theorem obN_word {O : zOm} (hO : zWld O) (hS : zS O = zmS zC0) (hl : (zLn O).stackTraces = false) {M : zMem} (hI : zInv M) {J : zMem → Prop} (hJ : ∀ u, zInv u → J u) {x y z : Int} (hy : zin32 y) : zObN O zLw 258 [(0, x), (0, y), (0, z)] M J :=
  ob_word hO hS hl hI hy (fun v u ⟨kc, h1, h2, h3⟩ => ⟨kc, h1, h2, h3.mono (fun v2 u2 ⟨r2, e, _, _, h⟩ => ⟨⟨r2, e⟩, hJ _ h⟩)⟩)
theorem obN_except {O : zOm} (hO : zWld O) (hS : zS O = zmS zC0) (hl : (zLn O).stackTraces = false) {M : zMem} (hI : zInv M) {J : zMem → Prop} (hJ : ∀ u, zInv u → J u) {x y z : Int} (hy : zin32 y) : zObN O zLe 261 [(0, x), (0, y), (0, z)] M J :=
  ob_except hO hS hl hI hy (fun v u ⟨kc, h1, h2, h3⟩ => ⟨kc, h1, h2, h3.mono (fun v2 u2 ⟨r2, e, _, _, h⟩ => ⟨⟨r2, e⟩, hJ _ h⟩)⟩)
theorem zob2 {O : zOm} (hO : zWld O) (hS : zS O = zmS zC0) (hl : (zLn O).stackTraces = false) {M : zMem} (hI : zInv M) (hm : zMok (zS O) M) {J : zMem → Prop} (hJ : ∀ u, zInv u → J u) (xs : Nat → Int32) (i : Nat) (hrd : zPe O xs i M J (8, 564, [], 63, 11, 66, 351)) (hpl : zPe O xs i M J (9, 577, [], 67, 12, 70, 352)) : zObl2 O xs i M J :=
  ⟨fun _ _ _ _ _ _ _ he _ => zPe_all hO hS hI hm hJ xs i hrd hpl _ he, fun _ => obN_word hO hS hl hI hJ (zlArg_in xs i (2, false)), fun _ => obN_except hO hS hl hI hJ (zlArg_in xs i (2, false)), fun _ => hJ _ hI⟩
theorem zw_whole {p : Program} {l : Launch} (hfl : l.stackTraces = false) {e : Env} {s : State} {m : MethodId} {below : List Frame} {meth : Method} {c : Code} {Q : State → Prop} {b L : Nat} {xs : Nat → Int32} (hL : L ≤ 3072) (hx : p.tables.exec = Jvm.exec) (hb : c.code = code) (hr : meth.sig.returnType = ret) (hml : c.maxLocals = 7) (hown : s.vm.findClass "ToldNetLaw" = some m.cls) (hts : ∀ w ∈ lw_tbl, w.before #[Value.ref b] s = true) (hX : va_X b L xs s s.heap) (hbl : b < s.heap.size) (hgv : (Jvm.Cond.and given_1 narrow_1).before #[Value.ref b] s = true)
    (hend : ∀ H locs nc ns ls, va_S (zlA s) s.heap H locs → nc ≤ 601024 → ns ≤ 7293034 → W p l e room_1 s m #[Value.ref b] below meth c H locs nc ns Q (F0 m 2078 ls [])) :
    W p l e room_1 s m #[Value.ref b] below meth c s.heap [] 0 0 Q (entryFrame m ([Value.ref b] : List Value).toArray 7) :=
  zl_whole2 hL hx hb hr hml hown hts hX hbl hgv (fun _ => zInv) zInv_0 (fun O hLn hO hS i M _ hI hm => zob2 hO hS (by rw [hLn]; exact hfl) hI hm (fun _ h => h) xs i (pe_v (fun _ h => h) (by decide) (ob_read hO hS hI)) (pe_v (fun _ h => h) (by decide) (ob_place hO hS hI))) hend
end
