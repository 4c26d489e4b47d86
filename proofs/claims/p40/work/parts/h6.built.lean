/-! ===== what a telling builds: built, unlike, both sides ===== -/
def zBd (n : Nat) (A : zTl) (p q : Nat) : Bool := tS n A p q ^^ decide (tvs A p q ≠ 0)
theorem tS_in {n : Nat} {A : zTl} (hw : zTw n A) (p q : Nat) (h : tS n A p q = true) : p < n ∧ q < n ∧ p ≠ q := by
  have key : ∀ i, i ≤ tm A → ∀ a c, zChs (fun p q => decide (p < n ∧ q < n ∧ p ≠ q) && zWq (tf A) (tC A) (tD A) (tG A) p q) (tH A) (tr A) (zSz (tf A) n) i a c = true → a < n ∧ c < n ∧ a ≠ c := by
    intro i
    induction i with
    | zero =>
      intro _ a c h
      have h1 : (decide (a < n ∧ c < n ∧ a ≠ c) && zWq (tf A) (tC A) (tD A) (tG A) a c) = true := h
      simp only [Bool.and_eq_true, decide_eq_true_eq] at h1
      exact h1.1
    | succ i ih =>
      intro hi
      unfold zChs
      split
      · refine zchn_in (ih (by omega)) (fun j hj => ?_)
        obtain ⟨a1, a2, a3⟩ := hw.2.1 i j (by omega) (by omega)
        obtain ⟨b1, b2, b3⟩ := hw.2.1 i (j + 1) (by omega) (by omega)
        rw [show 0 + j = j by omega]
        have hne : tr A i j ≠ tr A i (j + 1) := fun z => by
          have := a3 (j + 1) (by omega) z.symm
          omega
        exact ⟨⟨a1, b1, hne⟩, b1, a1, hne.symm⟩
      · exact ih (by omega)
  exact key (tm A) (Nat.le_refl _) p q h
theorem tS_reg {n : Nat} {A : zTl} (hw : zTw n A) : zReg n (tS n A) := ⟨tS_s, fun a => by
  cases e : tS n A a a
  · rfl
  · exact absurd rfl (tS_in hw a a e).2.2, fun a b h => (tS_in hw a b h).1⟩
theorem zReg.xor {n : Nat} {T U : Nat → Nat → Bool} (hT : zReg n T) (hU : zReg n U) : zReg n (fun p q => T p q ^^ U p q) := ⟨fun a b => by show (T a b ^^ U a b) = (T b a ^^ U b a); rw [hT.1 a b, hU.1 a b], fun a => by show (T a a ^^ U a a) = false; rw [hT.2.1, hU.2.1]; rfl, fun a b h => by
  have h : (T a b ^^ U a b) = true := h
  cases e : T a b
  · rw [e, Bool.false_xor] at h; exact hU.2.2 a b h
  · exact hT.2.2 a b e⟩
theorem zBd_reg {n : Nat} {A : zTl} (hw : zTw n A) : zReg n (zBd n A) := (tS_reg hw).xor (tX_reg hw)
theorem m_cellOf {O : zOm} (hO : zWld O) (hS : zS O = zmS zC0) {a b : Nat} {M : zMem} {K : Option zV → zMem → Prop} (ha : a < 16) (hb : b < 16) (hk : K (some (0, ((if a < b then 16 * a + b else 16 * b + a : Nat) : Int))) M) : zR O F_Model_cellOf [(0, ((a : Nat) : Int)), (0, ((b : Nat) : Int))] M K := by
  apply r_Model_cellOf hO
  unfold B_Model_cellOf
  by_cases e : a < b
  · rw [if_pos e] at hk
    ((with_reducible refine i_RetI (i_eIf (i_cI_lt (i_L0 (i_L1 ?_))))); (with_reducible refine i_t (by omega) ?_); (with_reducible refine i_Add (i_Mul (i_I (i_L0 (i_L1 ?_))))); rw [zx_cmul (by omega)]; rw [zx_add (by omega)])
    exact hk
  · rw [if_neg e] at hk
    ((with_reducible refine i_RetI (i_eIf (i_cI_lt (i_L0 (i_L1 ?_))))); (with_reducible refine i_f (by omega) ?_); (with_reducible refine i_Add (i_Mul (i_I (i_L1 (i_L0 ?_))))); rw [zx_cmul (by omega)]; rw [zx_add (by omega)])
    exact hk
theorem m_builds {O : zOm} (hO : zWld O) (hS : zS O = zmS zC0) {t n a b : Nat} {A : zTl} {M : zMem} {K : Option zV → zMem → Prop} (ht : t < 7) (hA : rTe M t n A) (hS1 : rMx M 268 (tS n A)) (ha : a < 16) (hb : b < 16) (hk : K (some (0, zbI (zBd n A a b))) M) : zR O F_Model_builds [(2, 250), (0, ((t : Nat) : Int)), (0, ((a : Nat) : Int)), (0, ((b : Nat) : Int))] M K := by
  have g1 := hS1 a b ha hb
  have g2 : ∃ c, (if a < b then 16 * a + b else 16 * b + a) = c ∧ c < 256 ∧ M ((266 : Nat) : Int) ((256 * t + c : Nat) : Int) = ((tvs A a b : Nat) : Int) := by
    refine ⟨_, rfl, ?_, ?_⟩
    · split <;> omega
    · unfold tvs
      split
      · rw [← Nat.add_assoc]; exact hA.2.2.2 a b ha hb
      · rw [← Nat.add_assoc]; exact hA.2.2.2 b a hb ha
  obtain ⟨c, hc1, hc2, hc3⟩ := g2
  unfold zBd at hk
  generalize tvs A a b = v at hc3 hk
  generalize tS n A a b = s at g1 hk
  apply r_Model_builds hO
  unfold B_Model_builds
  have f22 := zMF (k := 22) hS rfl; have a268 := zMA (a := 268) (ty := .boolean) (n := 256) hS rfl; have f20 := zMF (k := 20) hS rfl; have a266 := zMA (a := 266) (ty := .int) (n := 1792) hS rfl; have zo := zMO hS
  by_cases e : v = 0
  · subst e
    rw [decide_eq_false (fun z => z rfl), Bool.xor_false] at hk
    cases s
    · ((with_reducible refine i_RetZ (i_eIf (i_cI_ne (i_ZA (i_FR (i_A0 ?_)))))); (with_reducible refine i_fldR (by assumption) ?_); (with_reducible refine i_Add (i_Mul (i_I (i_L2 (i_L3 ?_))))); rw [zx_cmul (by omega)]; rw [zx_add (by omega)]; (with_reducible refine i_in (by assumption) (by omega) (by omega) ?_); (with_reducible refine i_eIf (i_cZ_ne (i_IA (i_FR (i_A0 ?_))))); (with_reducible refine i_fldR (by assumption) ?_); (with_reducible refine i_Add (i_Mul (i_I (i_L1 (i_Call (i_as1 (i_L2 (i_as1 (i_L3 (i_as0 (i_recv1 ?_))))))))))); (rw [g1]); rw [zbI_f]; (refine m_cellOf hO hS ha hb ⟨_, rfl, ?_⟩); (rw [hc1]); rw [zx_cmul (by omega)]; rw [zx_add (by omega)]; (with_reducible refine i_in (by assumption) (by omega) (by omega) ?_); (rw [hc3]); (with_reducible refine i_f (by omega) ?_); (with_reducible refine i_I ?_); (with_reducible refine i_f (by omega) ?_); (with_reducible refine i_I ?_); (with_reducible refine i_z (Or.inl rfl) ?_))
      exact hk
    · ((with_reducible refine i_RetZ (i_eIf (i_cI_ne (i_ZA (i_FR (i_A0 ?_)))))); (with_reducible refine i_fldR (by assumption) ?_); (with_reducible refine i_Add (i_Mul (i_I (i_L2 (i_L3 ?_))))); rw [zx_cmul (by omega)]; rw [zx_add (by omega)]; (with_reducible refine i_in (by assumption) (by omega) (by omega) ?_); (with_reducible refine i_eIf (i_cZ_ne (i_IA (i_FR (i_A0 ?_))))); (with_reducible refine i_fldR (by assumption) ?_); (with_reducible refine i_Add (i_Mul (i_I (i_L1 (i_Call (i_as1 (i_L2 (i_as1 (i_L3 (i_as0 (i_recv1 ?_))))))))))); (rw [g1]); rw [zbI_t]; (refine m_cellOf hO hS ha hb ⟨_, rfl, ?_⟩); (rw [hc1]); rw [zx_cmul (by omega)]; rw [zx_add (by omega)]; (with_reducible refine i_in (by assumption) (by omega) (by omega) ?_); (rw [hc3]); (with_reducible refine i_f (by omega) ?_); (with_reducible refine i_I ?_); (with_reducible refine i_t (by omega) ?_); (with_reducible refine i_I ?_); (with_reducible refine i_z (Or.inr rfl) ?_))
      exact hk
  · rw [decide_eq_true e, Bool.xor_true] at hk
    cases s
    · ((with_reducible refine i_RetZ (i_eIf (i_cI_ne (i_ZA (i_FR (i_A0 ?_)))))); (with_reducible refine i_fldR (by assumption) ?_); (with_reducible refine i_Add (i_Mul (i_I (i_L2 (i_L3 ?_))))); rw [zx_cmul (by omega)]; rw [zx_add (by omega)]; (with_reducible refine i_in (by assumption) (by omega) (by omega) ?_); (with_reducible refine i_eIf (i_cZ_ne (i_IA (i_FR (i_A0 ?_))))); (with_reducible refine i_fldR (by assumption) ?_); (with_reducible refine i_Add (i_Mul (i_I (i_L1 (i_Call (i_as1 (i_L2 (i_as1 (i_L3 (i_as0 (i_recv1 ?_))))))))))); (rw [g1]); rw [zbI_f]; (refine m_cellOf hO hS ha hb ⟨_, rfl, ?_⟩); (rw [hc1]); rw [zx_cmul (by omega)]; rw [zx_add (by omega)]; (with_reducible refine i_in (by assumption) (by omega) (by omega) ?_); (rw [hc3]); (with_reducible refine i_t (by omega) ?_); (with_reducible refine i_I ?_); (with_reducible refine i_t (by omega) ?_); (with_reducible refine i_I ?_); (with_reducible refine i_z (Or.inr rfl) ?_))
      exact hk
    · ((with_reducible refine i_RetZ (i_eIf (i_cI_ne (i_ZA (i_FR (i_A0 ?_)))))); (with_reducible refine i_fldR (by assumption) ?_); (with_reducible refine i_Add (i_Mul (i_I (i_L2 (i_L3 ?_))))); rw [zx_cmul (by omega)]; rw [zx_add (by omega)]; (with_reducible refine i_in (by assumption) (by omega) (by omega) ?_); (with_reducible refine i_eIf (i_cZ_ne (i_IA (i_FR (i_A0 ?_))))); (with_reducible refine i_fldR (by assumption) ?_); (with_reducible refine i_Add (i_Mul (i_I (i_L1 (i_Call (i_as1 (i_L2 (i_as1 (i_L3 (i_as0 (i_recv1 ?_))))))))))); (rw [g1]); rw [zbI_t]; (refine m_cellOf hO hS ha hb ⟨_, rfl, ?_⟩); (rw [hc1]); rw [zx_cmul (by omega)]; rw [zx_add (by omega)]; (with_reducible refine i_in (by assumption) (by omega) (by omega) ?_); (rw [hc3]); (with_reducible refine i_t (by omega) ?_); (with_reducible refine i_I ?_); (with_reducible refine i_f (by omega) ?_); (with_reducible refine i_I ?_); (with_reducible refine i_z (Or.inl rfl) ?_))
      exact hk
theorem m_built_bad {O : zOm} (hO : zWld O) (hS : zS O = zmS zC0) {t a b : Int} {T n : Nat} {M : zMem} {K : Option zV → zMem → Prop} (hT : M 250 ((11 : Nat) : Int) = ((T : Nat) : Int)) (hn : M 250 ((1 : Nat) : Int) = ((n : Nat) : Int)) (hb : ¬ ((0 ≤ t ∧ t < ((T : Nat) : Int)) ∧ (0 ≤ a ∧ a < ((n : Nat) : Int)) ∧ (0 ≤ b ∧ b < ((n : Nat) : Int)) ∧ a ≠ b)) (hk : K (some (0, -1)) M) : zR O F_Model_built [(2, 250), (0, t), (0, a), (0, b)] M K := by
  apply r_Model_built hO
  unfold B_Model_built
  have zo := zMO hS
  by_cases ht : 0 ≤ t ∧ t < ((T : Nat) : Int)
  · ((with_reducible refine i_Seq (i_If (i_cOr (i_cNot (i_cZ_ne (i_Call (i_as1 (i_A0 (i_as1 (i_L1 (i_as0 ?_))))))))))); (with_reducible refine i_recv0 (by assumption) ?_); (refine m_isTelling hO hS hT ⟨_, rfl, ?_⟩); (rw [decide_eq_true ht]); rw [zbI_t]; (with_reducible refine i_t (by omega) ?_); (with_reducible refine i_cNot (i_cZ_ne (i_Call (i_as1 (i_A0 (i_as1 (i_L2 (i_as1 (i_L3 (i_as0 ?_)))))))))); (with_reducible refine i_recv0 (by assumption) ?_); (refine m_isPair hO hS hn ⟨_, rfl, ?_⟩); (rw [decide_eq_false (fun z => hb ⟨ht, z⟩)]); rw [zbI_f]; (with_reducible refine i_f (by omega) ?_); (with_reducible refine i_RetI (i_I ?_)))
    exact hk
  · ((with_reducible refine i_Seq (i_If (i_cOr (i_cNot (i_cZ_ne (i_Call (i_as1 (i_A0 (i_as1 (i_L1 (i_as0 ?_))))))))))); (with_reducible refine i_recv0 (by assumption) ?_); (refine m_isTelling hO hS hT ⟨_, rfl, ?_⟩); (rw [decide_eq_false ht]); rw [zbI_f]; (with_reducible refine i_f (by omega) ?_); (with_reducible refine i_RetI (i_I ?_)))
    exact hk
theorem m_built {O : zOm} (hO : zWld O) (hS : zS O = zmS zC0) {t T n a b : Nat} {A : zTl} {M : zMem} {K : Option zV → zMem → Prop} (hT : M 250 ((11 : Nat) : Int) = ((T : Nat) : Int)) (hT5 : T ≤ 5) (ht : t < T) (hn : M 250 ((1 : Nat) : Int) = ((n : Nat) : Int)) (hn2 : n ≤ 16) (hA : rTe M t n A) (hw : zTw n A) (ha : a < n) (hb : b < n) (hab : a ≠ b)
    (hk : ∀ M', (∀ b j, ¬ b = 268 → M' b j = M b j) → K (some (0, zbI (zBd n A a b))) M') : zR O F_Model_built [(2, 250), (0, ((t : Nat) : Int)), (0, ((a : Nat) : Int)), (0, ((b : Nat) : Int))] M K := by
  apply r_Model_built hO
  unfold B_Model_built
  have zo := zMO hS
  ((with_reducible refine i_Seq (i_If (i_cOr (i_cNot (i_cZ_ne (i_Call (i_as1 (i_A0 (i_as1 (i_L1 (i_as0 ?_))))))))))); (with_reducible refine i_recv0 (by assumption) ?_); (refine m_isTelling hO hS hT ⟨_, rfl, ?_⟩); (rw [decide_eq_true (show 0 ≤ ((t : Nat) : Int) ∧ ((t : Nat) : Int) < ((T : Nat) : Int) by omega)]); rw [zbI_t]; (with_reducible refine i_t (by omega) ?_); (with_reducible refine i_cNot (i_cZ_ne (i_Call (i_as1 (i_A0 (i_as1 (i_L2 (i_as1 (i_L3 (i_as0 ?_)))))))))); (with_reducible refine i_recv0 (by assumption) ?_); (refine m_isPair hO hS hn ⟨_, rfl, ?_⟩); (rw [decide_eq_true (show (0 ≤ ((a : Nat) : Int) ∧ ((a : Nat) : Int) < ((n : Nat) : Int)) ∧ (0 ≤ ((b : Nat) : Int) ∧ ((b : Nat) : Int) < ((n : Nat) : Int)) ∧ ((a : Nat) : Int) ≠ ((b : Nat) : Int) by omega)]); rw [zbI_t]; (with_reducible refine i_t (by omega) ?_); (with_reducible refine i_Seq (i_sCall (i_as1 (i_A0 (i_as1 (i_L1 (i_as0 ?_))))))); (with_reducible refine i_recv0 (by assumption) ?_))
  refine m_hearA hO hS (by omega) hn hn2 hA hw (fun M1 f1 S1 => ⟨rfl, ?_⟩)
  have hA1 : rTe M1 t n A := hA.to hn2 hw (fun b j q => f1 b j (by omega))
  have h2 := hk M1 (fun b j q => f1 b j (by omega))
  ((with_reducible refine i_RetI (i_eIf (i_cZ_ne (i_Call (i_as1 (i_A0 (i_as1 (i_L1 (i_as1 (i_L2 (i_as1 (i_L3 (i_as0 ?_))))))))))))); (with_reducible refine i_recv0 (by assumption) ?_))
  refine m_builds hO hS (by omega) hA1 S1 (by omega) (by omega) ⟨_, rfl, ?_⟩
  generalize zBd n A a b = v at h2 ⊢
  cases v
  · (rw [zbI_f]; (with_reducible refine i_f (by omega) ?_); (with_reducible refine i_I ?_))
    exact h2
  · (rw [zbI_t]; (with_reducible refine i_t (by omega) ?_); (with_reducible refine i_I ?_))
    exact h2
theorem c_built_bad {O : zOm} (hO : zWld O) (hS : zS O = zmS zC0) {t a b : Int} {T n : Nat} {M : zMem} {K : Option zV → zMem → Prop} (hT : M ((0 : Nat) : Int) ((4 : Nat) : Int) = ((T : Nat) : Int)) (hT5 : T ≤ 5) (hP : M ((1 : Nat) : Int) ((2 : Nat) : Int) = ((n : Nat) : Int)) (hb : ¬ ((0 ≤ t ∧ t < ((T : Nat) : Int)) ∧ (0 ≤ a ∧ a < ((n : Nat) : Int)) ∧ (0 ≤ b ∧ b < ((n : Nat) : Int)) ∧ a ≠ b)) (hk : K (some (0, -1)) M) : zR O F_ToldNet_built [(2, ((0 : Nat) : Int)), (0, t), (0, a), (0, b)] M K := by
  have o1 := zo_1 hS
  apply r_ToldNet_built hO
  unfold B_ToldNet_built
  have f0_0 := zf_0_0 hS; have z0 := zo_0 hS; have z1 := zo_1 hS
  ((with_reducible refine i_Seq (i_Set (i_Call (i_as1 (i_A0 (i_as1 (i_L1 (i_as0 ?_)))))))); (with_reducible refine i_recv0 (by assumption) ?_); simp only [w_set0, w_set1, w_setn0, w_setn1])
  refine c_find hO hS hT hT5 (fun hx => ⟨_, rfl, ?_⟩) (fun k e hk1 => ⟨_, rfl, ?_⟩)
  · ((with_reducible refine i_Seq (i_If (i_cOr (i_cN (i_A4 ?_))))); simp only [w_set0, w_set1, w_setn0, w_setn1]; (with_reducible refine i_t trivial ?_); (with_reducible refine i_RetI (i_I ?_)))
    exact hk
  · ((with_reducible refine i_Seq (i_If (i_cOr (i_cN (i_A4 ?_))))); (with_reducible refine i_f (by omega) ?_); (with_reducible refine i_cNot (i_cZ_ne (i_Call (i_as1 (i_FR (i_A0 ?_)))))); (with_reducible refine i_fldR (by assumption) ?_); (with_reducible refine i_as1 (i_L2 (i_as1 (i_L3 (i_as0 ?_))))); (with_reducible refine i_recv0 (by assumption) ?_); (refine c_isPair hO hS hP ⟨_, rfl, ?_⟩); (rw [decide_eq_false (show ¬ ((0 ≤ a ∧ a < ((n : Nat) : Int)) ∧ (0 ≤ b ∧ b < ((n : Nat) : Int)) ∧ a ≠ b) from fun z => hb ⟨by omega, z⟩)]); rw [zbI_f]; (with_reducible refine i_f (by omega) ?_); (with_reducible refine i_RetI (i_I ?_)))
    exact hk
theorem c_built {O : zOm} (hO : zWld O) (hS : zS O = zmS zC0) {t T n a b : Nat} {A : zTl} {M : zMem} {K : Option zV → zMem → Prop} (hT : M ((0 : Nat) : Int) ((4 : Nat) : Int) = ((T : Nat) : Int)) (hT5 : T ≤ 5) (ht : t < T) (hP : M ((1 : Nat) : Int) ((2 : Nat) : Int) = ((n : Nat) : Int)) (hn2 : n ≤ 16) (hA : zTR M (185 + 13 * t) n A) (ha : a < n) (hb : b < n) (hab : a ≠ b)
    (hk : K (some (0, zbI (zBd n A a b))) M) : zR O F_ToldNet_built [(2, ((0 : Nat) : Int)), (0, ((t : Nat) : Int)), (0, ((a : Nat) : Int)), (0, ((b : Nat) : Int))] M K := by
  obtain ⟨⟨x0, x1, x2, x3, x4, x5, x6, x7⟩, ⟨xa, xb⟩, hp, ⟨n7, n9, n11⟩⟩ := zTelT hS (show t < 5 by omega)
  have r7 := n7.2.2.2
  have r9 := n9.2.2.2
  have o1 := zo_1 hS
  have g7 := hA.2.2.2.1
  have g9 := hA.2.2.2.2.1
  unfold zBd at hk
  apply r_ToldNet_built hO
  unfold B_ToldNet_built
  have f0_0 := zf_0_0 hS; have z0 := zo_0 hS; have z1 := zo_1 hS
  ((with_reducible refine i_Seq (i_Set (i_Call (i_as1 (i_A0 (i_as1 (i_L1 (i_as0 ?_)))))))); (with_reducible refine i_recv0 (by assumption) ?_); simp only [w_set0, w_set1, w_setn0, w_setn1])
  refine c_find hO hS hT hT5 (fun hx => absurd (show 0 ≤ ((t : Nat) : Int) ∧ ((t : Nat) : Int) < ((T : Nat) : Int) by omega) hx) (fun k e hk1 => ⟨_, rfl, ?_⟩)
  rw [show k = t by omega]
  ((with_reducible refine i_Seq (i_If (i_cOr (i_cN (i_A4 ?_))))); (with_reducible refine i_f (by omega) ?_); (with_reducible refine i_cNot (i_cZ_ne (i_Call (i_as1 (i_FR (i_A0 ?_)))))); (with_reducible refine i_fldR (by assumption) ?_); (with_reducible refine i_as1 (i_L2 (i_as1 (i_L3 (i_as0 ?_))))); (with_reducible refine i_recv0 (by assumption) ?_); (refine c_isPair hO hS hP ⟨_, rfl, ?_⟩); (rw [decide_eq_true (show (0 ≤ ((a : Nat) : Int) ∧ ((a : Nat) : Int) < ((n : Nat) : Int)) ∧ (0 ≤ ((b : Nat) : Int) ∧ ((b : Nat) : Int) < ((n : Nat) : Int)) ∧ ((a : Nat) : Int) ≠ ((b : Nat) : Int) by omega)]); rw [zbI_t]; (with_reducible refine i_t (by omega) ?_); (with_reducible refine i_RetI (i_eIf (i_cI_ne (i_Call (i_as1 (i_FR (i_A4 ?_))))))); (with_reducible refine i_fldR (by assumption) ?_); (with_reducible refine i_as1 (i_L2 (i_as1 (i_L3 (i_as0 ?_))))); (with_reducible refine i_recv0 (by assumption) ?_); (refine s_joins hO n7 g7 (by omega) (by omega) ⟨_, rfl, ?_⟩); (with_reducible refine i_Call (i_as1 (i_FR (i_A4 ?_)))); (with_reducible refine i_fldR (by assumption) ?_); (with_reducible refine i_as1 (i_L2 (i_as1 (i_L3 (i_as0 ?_))))); (with_reducible refine i_recv0 (by assumption) ?_); (refine s_joins hO n9 g9 (by omega) (by omega) ⟨_, rfl, ?_⟩))
  generalize decide (tvs A a b ≠ 0) = v at hk ⊢
  generalize tS n A a b = s at hk ⊢
  cases v <;> cases s
  all_goals
    (first | ((rw [zbI_t]; rw [zbI_f]; (with_reducible refine i_t (by omega) ?_); (with_reducible refine i_I ?_))) | ((rw [zbI_f]; (with_reducible refine i_f (by omega) ?_); (with_reducible refine i_I ?_))) | ((rw [zbI_t]; (with_reducible refine i_f (by omega) ?_); (with_reducible refine i_I ?_))))
    exact hk
/-! unlike -/
theorem m_unlike_bad {O : zOm} (hO : zWld O) (hS : zS O = zmS zC0) {t d : Int} {T td : Nat} {M : zMem} {K : Option zV → zMem → Prop} (hT : M 250 ((11 : Nat) : Int) = ((T : Nat) : Int)) (hd : M 250 ((4 : Nat) : Int) = ((td : Nat) : Int)) (hb : ¬ ((0 ≤ t ∧ t < ((T : Nat) : Int)) ∧ 0 ≤ d ∧ d ≤ ((td : Nat) : Int))) (hk : K (some (0, -1)) M) : zR O F_Model_unlike [(2, 250), (0, t), (0, d)] M K := by
  apply r_Model_unlike hO
  unfold B_Model_unlike
  have f1 := zMF (k := 1) hS rfl; have f10 := zMF (k := 10) hS rfl; have a257 := zMA (a := 257) (ty := .boolean) (n := 256) hS rfl; have zo := zMO hS
  by_cases ht : 0 ≤ t ∧ t < ((T : Nat) : Int)
  · ((with_reducible refine i_Seq (i_If (i_cOr (i_cNot (i_cZ_ne (i_Call (i_as1 (i_A0 (i_as1 (i_L1 (i_as0 ?_))))))))))); (with_reducible refine i_recv0 (by assumption) ?_); (refine m_isTelling hO hS hT ⟨_, rfl, ?_⟩); (rw [decide_eq_true ht]); rw [zbI_t]; (with_reducible refine i_t (by omega) ?_); (with_reducible refine i_cNot (i_cZ_ne (i_Call (i_as1 (i_A0 (i_as1 (i_L2 (i_as0 ?_)))))))); (with_reducible refine i_recv0 (by assumption) ?_); (refine m_isDay hO hS hd ⟨_, rfl, ?_⟩); (rw [decide_eq_false (fun z => hb ⟨ht, z⟩)]); rw [zbI_f]; (with_reducible refine i_f (by omega) ?_); (with_reducible refine i_RetI (i_I ?_)))
    exact hk
  · ((with_reducible refine i_Seq (i_If (i_cOr (i_cNot (i_cZ_ne (i_Call (i_as1 (i_A0 (i_as1 (i_L1 (i_as0 ?_))))))))))); (with_reducible refine i_recv0 (by assumption) ?_); (refine m_isTelling hO hS hT ⟨_, rfl, ?_⟩); (rw [decide_eq_false ht]); rw [zbI_f]; (with_reducible refine i_f (by omega) ?_); (with_reducible refine i_RetI (i_I ?_)))
    exact hk
theorem m_unlike {O : zOm} (hO : zWld O) (hS : zS O = zmS zC0) {t T n d td c : Nat} {A : zTl} {CA CB : Nat → Nat} {CI : Nat → Bool} {CD : Nat → Nat} {M : zMem} {K : Option zV → zMem → Prop} (hT : M 250 ((11 : Nat) : Int) = ((T : Nat) : Int)) (hT5 : T ≤ 5) (ht : t < T) (hn : M 250 ((1 : Nat) : Int) = ((n : Nat) : Int)) (hn2 : n ≤ 16) (hd : M 250 ((4 : Nat) : Int) = ((td : Nat) : Int)) (hdd : d ≤ td) (hC : rCh M c CA CB CI CD) (hA : rTe M t n A) (hw : zTw n A)
    (hk : ∀ M', (∀ b j, ¬ (b = 257 ∨ b = 268) → M' b j = M b j) → K (some (0, ((zp2 (fun p q => zBd n A p q ^^ zrep CA CB CI CD d c p q) n : Nat) : Int))) M') : zR O F_Model_unlike [(2, 250), (0, ((t : Nat) : Int)), (0, ((d : Nat) : Int))] M K := by
  apply r_Model_unlike hO
  unfold B_Model_unlike
  have f1 := zMF (k := 1) hS rfl; have f10 := zMF (k := 10) hS rfl; have a257 := zMA (a := 257) (ty := .boolean) (n := 256) hS rfl; have zo := zMO hS
  ((with_reducible refine i_Seq (i_If (i_cOr (i_cNot (i_cZ_ne (i_Call (i_as1 (i_A0 (i_as1 (i_L1 (i_as0 ?_))))))))))); (with_reducible refine i_recv0 (by assumption) ?_); (refine m_isTelling hO hS hT ⟨_, rfl, ?_⟩); (rw [decide_eq_true (show 0 ≤ ((t : Nat) : Int) ∧ ((t : Nat) : Int) < ((T : Nat) : Int) by omega)]); rw [zbI_t]; (with_reducible refine i_t (by omega) ?_); (with_reducible refine i_cNot (i_cZ_ne (i_Call (i_as1 (i_A0 (i_as1 (i_L2 (i_as0 ?_)))))))); (with_reducible refine i_recv0 (by assumption) ?_); (refine m_isDay hO hS hd ⟨_, rfl, ?_⟩); (rw [decide_eq_true (show 0 ≤ ((d : Nat) : Int) ∧ ((d : Nat) : Int) ≤ ((td : Nat) : Int) by omega)]); rw [zbI_t]; (with_reducible refine i_t (by omega) ?_); (with_reducible refine i_Seq (i_sCall (i_as1 (i_A0 (i_as1 (i_L2 (i_as0 ?_))))))); (with_reducible refine i_recv0 (by assumption) ?_))
  refine m_asOf hO hS hC (fun M1 f1' g1 => ⟨rfl, ?_⟩)
  have n1 : M1 250 ((1 : Nat) : Int) = ((n : Nat) : Int) := by rw [f1' _ _ (by omega)]; exact hn
  ((with_reducible refine i_Seq (i_sCall (i_as1 (i_A0 (i_as1 (i_L1 (i_as0 ?_))))))); (with_reducible refine i_recv0 (by assumption) ?_))
  refine m_hearA hO hS (by omega) n1 hn2 (hA.to hn2 hw (fun b j q => f1' b j (by omega))) hw (fun M2 f2 S2 => ⟨rfl, ?_⟩)
  have hf2 : ∀ b j, ¬ (b = 257 ∨ b = 268) → M2 b j = M b j := fun b j q => by rw [f2 b j (by omega), f1' b j (by omega)]
  have n2 : M2 250 ((1 : Nat) : Int) = ((n : Nat) : Int) := by rw [hf2 _ _ (by omega)]; exact hn
  have hA2 : rTe M2 t n A := hA.to hn2 hw (fun b j q => hf2 b j (by omega))
  have g2 : rMx M2 257 (zrep CA CB CI CD d c) := g1.to (fun j => f2 _ _ (by omega))
  have hk2 := hk M2 hf2
  clear hk
  generalize zrep CA CB CI CD d c = U at g2 hk2
  ((with_reducible refine i_Seq (i_Set (i_I (i_Seq (i_Blk (i_Seq (i_Set (i_I ?_)))))))); simp only [w_set0, w_set1, w_setn0, w_setn1])
  refine w_Pairs (n := n) (fun a b => [250, ((t : Nat) : Int), ((d : Nat) : Int), ((zop (fun p q => zBd n A p q ^^ U p q) n a b : Nat) : Int)]) (fun a b M' => M' = M2 ∧ a ≤ 16) (fun _ _ => ⟨_, rfl, rfl⟩) f1 (fun a b M' h => by rw [h.1]; exact n2) hn2 ⟨_, rfl⟩ ⟨rfl, by omega⟩ (fun a M' _ h => ⟨h, by rw [← zop_row]⟩) (fun a M' _ h => ⟨⟨h.1, by omega⟩, rfl⟩) ?_ ?_
  · rintro a b l M3 Y Z hab hbn ⟨rfl, _⟩ hY
    simp only [List.cons_append, List.nil_append] at hY ⊢
    have hbd := zop_le (fun p q => zBd n A p q ^^ U p q) hn2 (a := a) (b := b) (by omega) (by omega)
    have hU1 := g2 a b (by omega) (by omega)
    rw [zop_su _ hab] at hY
    ((with_reducible refine i_Set (i_Add (i_L3 (i_eIf (i_cI_ne (i_Call (i_as1 (i_A0 (i_as1 (i_L1 (i_as1 (i_L4 (i_as1 (i_L5 (i_as0 ?_))))))))))))))); (with_reducible refine i_recv0 (by assumption) ?_); (refine m_builds hO hS (by omega) hA2 S2 (by omega) (by omega) ⟨_, rfl, ?_⟩); (with_reducible refine i_ZA (i_FR (i_A0 ?_))); (with_reducible refine i_fldR (by assumption) ?_); (with_reducible refine i_Add (i_Mul (i_I (i_L4 (i_L5 ?_))))); rw [zx_cmul (by omega)]; rw [zx_add (by omega)]; (with_reducible refine i_in (by assumption) (by omega) (by omega) ?_))
    generalize zop (fun p q => zBd n A p q ^^ U p q) n a b = z at hbd hY ⊢
    generalize zBd n A a b = v at hY ⊢
    generalize U a b = u at hU1 hY
    cases v <;> cases u
    all_goals
      (first | ((rw [zbI_f]; (rw [hU1]); rw [zbI_f]; (with_reducible refine i_f (by omega) ?_); (with_reducible refine i_I ?_); rw [zx_addc (by omega)]; simp only [w_set0, w_set1, w_setn0, w_setn1])) | ((rw [zbI_f]; (rw [hU1]); rw [zbI_t]; (with_reducible refine i_t (by omega) ?_); (with_reducible refine i_I ?_); rw [zx_inc (by omega)]; simp only [w_set0, w_set1, w_setn0, w_setn1])) | ((rw [zbI_t]; (rw [hU1]); rw [zbI_f]; (with_reducible refine i_t (by omega) ?_); (with_reducible refine i_I ?_); rw [zx_inc (by omega)]; simp only [w_set0, w_set1, w_setn0, w_setn1])) | ((rw [zbI_t]; (rw [hU1]); rw [zbI_t]; (with_reducible refine i_f (by omega) ?_); (with_reducible refine i_I ?_); rw [zx_addc (by omega)]; simp only [w_set0, w_set1, w_setn0, w_setn1])))
      exact hY _ _ ⟨rfl, by omega⟩
  · rintro l M3 ⟨rfl, _⟩
    simp only [List.cons_append, List.nil_append]
    rw [zop_end]
    (with_reducible refine i_RetI (i_L3 ?_))
    exact hk2
theorem c_build {O : zOm} (hO : zWld O) {x y n : Nat} {A : zTl} {M : zMem} {K : Option zV → zMem → Prop} (hx : zTeC (zS O) x) (hy : zNet (zS O) y) (hA : zTR M x n A)
    (hk : ∀ M', (∀ b j, ¬ (((y : Nat) : Int) ≤ b ∧ b ≤ ((y + 1 : Nat) : Int)) → M' b j = M b j) → zNR M' y n (zBd n A) → K none M') : zR O F_Telling_build [(2, ((x : Nat) : Int)), (2, ((y : Nat) : Int))] M K := by
  obtain ⟨⟨o, x0, x1, x2, x3, x4, x5, x6⟩, ⟨xa, xb⟩, hp, ⟨n7, n9, n11⟩⟩ := hx
  have hy4 := hy.2.2.2
  apply r_Telling_build hO
  unfold B_Telling_build
  ((with_reducible refine i_Seq (i_sCall (i_as1 (i_A1 (i_as1 (i_FR (i_A0 ?_))))))); (with_reducible refine i_fldR (by assumption) ?_); (with_reducible refine i_as1 (i_FR (i_A0 ?_))); (with_reducible refine i_fldR (by assumption) ?_); (with_reducible refine i_as0 ?_); (with_reducible refine i_recv0 (by assumption) ?_))
  refine s_Net_differ hO hy n7 n9 hA.2.2.2.1 hA.2.2.2.2.1 (fun M1 f1 g1 => ⟨rfl, ?_⟩)
  (with_reducible refine i_RetV ?_)
  exact hk M1 (fun b j q => by rw [f1 b (by simp <;> omega)]) g1
theorem zNet183 {S : List zSh} (hS : S = zmS zC0) : zNet S 183 := zNetB.to hS (by decide +kernel)
theorem c_unlike_bad {O : zOm} (hO : zWld O) (hS : zS O = zmS zC0) {t d : Int} {T td : Nat} {M : zMem} {K : Option zV → zMem → Prop} (hT : M ((0 : Nat) : Int) ((4 : Nat) : Int) = ((T : Nat) : Int)) (hT5 : T ≤ 5) (hd : M ((1 : Nat) : Int) ((3 : Nat) : Int) = ((td : Nat) : Int)) (htd : td < 41) (hb : ¬ ((0 ≤ t ∧ t < ((T : Nat) : Int)) ∧ 0 ≤ d ∧ d ≤ ((td : Nat) : Int))) (hk : K (some (0, -1)) M) : zR O F_ToldNet_unlike [(2, ((0 : Nat) : Int)), (0, t), (0, d)] M K := by
  have o1 := zo_1 hS
  apply r_ToldNet_unlike hO
  unfold B_ToldNet_unlike
  have f0_0 := zf_0_0 hS; have f0_13 := zf_0_13 hS; have z0 := zo_0 hS; have z1 := zo_1 hS
  ((with_reducible refine i_Seq (i_Set (i_Call (i_as1 (i_A0 (i_as1 (i_L1 (i_as0 ?_)))))))); (with_reducible refine i_recv0 (by assumption) ?_); simp only [w_set0, w_set1, w_setn0, w_setn1])
  refine c_find hO hS hT hT5 (fun hx => ⟨_, rfl, ?_⟩) (fun k e hk1 => ⟨_, rfl, ?_⟩)
  · ((with_reducible refine i_Seq (i_Set (i_Call (i_as1 (i_FR (i_A0 ?_)))))); (with_reducible refine i_fldR (by assumption) ?_); (with_reducible refine i_as1 (i_L2 (i_as0 ?_))); (with_reducible refine i_recv0 (by assumption) ?_); simp only [w_set0, w_set1, w_setn0, w_setn1])
    refine c_on hO hS hd htd (fun hx2 => ⟨_, rfl, ?_⟩) (fun k2 e2 hk2 => ⟨_, rfl, ?_⟩)
    · ((with_reducible refine i_Seq (i_If (i_cOr (i_cN (i_A3 ?_))))); simp only [w_set0, w_set1, w_setn0, w_setn1]; (with_reducible refine i_t trivial ?_); (with_reducible refine i_RetI (i_I ?_)))
      exact hk
    · ((with_reducible refine i_Seq (i_If (i_cOr (i_cN (i_A3 ?_))))); simp only [w_set0, w_set1, w_setn0, w_setn1]; (with_reducible refine i_t trivial ?_); (with_reducible refine i_RetI (i_I ?_)))
      exact hk
  · ((with_reducible refine i_Seq (i_Set (i_Call (i_as1 (i_FR (i_A0 ?_)))))); (with_reducible refine i_fldR (by assumption) ?_); (with_reducible refine i_as1 (i_L2 (i_as0 ?_))); (with_reducible refine i_recv0 (by assumption) ?_); simp only [w_set0, w_set1, w_setn0, w_setn1])
    refine c_on hO hS hd htd (fun hx2 => ⟨_, rfl, ?_⟩) (fun k2 e2 hk2 => absurd (show (0 ≤ t ∧ t < ((T : Nat) : Int)) ∧ 0 ≤ d ∧ d ≤ ((td : Nat) : Int) by omega) hb)
    ((with_reducible refine i_Seq (i_If (i_cOr (i_cN (i_A3 ?_))))); (with_reducible refine i_f (by omega) ?_); (with_reducible refine i_cN (i_A4 ?_)); simp only [w_set0, w_set1, w_setn0, w_setn1]; (with_reducible refine i_t trivial ?_); (with_reducible refine i_RetI (i_I ?_)))
    exact hk
theorem c_unlike {O : zOm} (hO : zWld O) (hS : zS O = zmS zC0) {t T n d td c : Nat} {A : zTl} {N : Nat → Nat → Nat → Bool} {M : zMem} {K : Option zV → zMem → Prop} (hT : M ((0 : Nat) : Int) ((4 : Nat) : Int) = ((T : Nat) : Int)) (hT5 : T ≤ 5) (ht : t < T) (hD : cDy M n td c N) (htd : td < 41) (hdd : d ≤ td) (hR : zReg n (N d)) (hn2 : n ≤ 16) (hA : zTR M (185 + 13 * t) n A) (hw : zTw n A)
    (hk : ∀ M', (∀ b j, ¬ (((183 : Nat) : Int) ≤ b ∧ b ≤ ((184 : Nat) : Int)) → M' b j = M b j) → K (some (0, ((zp2 (fun p q => zBd n A p q ^^ N d p q) n : Nat) : Int))) M') : zR O F_ToldNet_unlike [(2, ((0 : Nat) : Int)), (0, ((t : Nat) : Int)), (0, ((d : Nat) : Int))] M K := by
  obtain ⟨d1, d2, d3, d4⟩ := hD
  have hx := zTelT hS (show t < 5 by omega)
  have hx0 := hx.1.1
  have hs := zNet183 hS
  have hs4 := hs.2.2.2
  have hy := zNetD hS (d := d) (by omega)
  have o1 := zo_1 hS
  apply r_ToldNet_unlike hO
  unfold B_ToldNet_unlike
  have f0_0 := zf_0_0 hS; have f0_13 := zf_0_13 hS; have z0 := zo_0 hS; have z1 := zo_1 hS
  ((with_reducible refine i_Seq (i_Set (i_Call (i_as1 (i_A0 (i_as1 (i_L1 (i_as0 ?_)))))))); (with_reducible refine i_recv0 (by assumption) ?_); simp only [w_set0, w_set1, w_setn0, w_setn1])
  refine c_find hO hS hT hT5 (fun hx => absurd (show 0 ≤ ((t : Nat) : Int) ∧ ((t : Nat) : Int) < ((T : Nat) : Int) by omega) hx) (fun k e hk1 => ⟨_, rfl, ?_⟩)
  rw [show k = t by omega]
  ((with_reducible refine i_Seq (i_Set (i_Call (i_as1 (i_FR (i_A0 ?_)))))); (with_reducible refine i_fldR (by assumption) ?_); (with_reducible refine i_as1 (i_L2 (i_as0 ?_))); (with_reducible refine i_recv0 (by assumption) ?_); simp only [w_set0, w_set1, w_setn0, w_setn1])
  refine c_on hO hS d2 htd (fun hx => absurd hx (by omega)) (fun k2 e2 hk2 => ⟨_, rfl, ?_⟩)
  rw [show k2 = d by omega]
  ((with_reducible refine i_Seq (i_If (i_cOr (i_cN (i_A3 ?_))))); (with_reducible refine i_f (by omega) ?_); (with_reducible refine i_cN (i_A4 ?_)); (with_reducible refine i_f (by omega) ?_); (with_reducible refine i_Seq (i_sCall (i_as1 (i_A3 (i_as1 (i_FR (i_A0 ?_))))))); (with_reducible refine i_fldR (by assumption) ?_); (with_reducible refine i_as0 ?_); (with_reducible refine i_recv0 (by assumption) ?_))
  refine c_build hO hx hs hA (fun M1 f1 g1 => ⟨rfl, ?_⟩)
  ((with_reducible refine i_Seq (i_sCall (i_as1 (i_FR (i_A0 ?_))))); (with_reducible refine i_fldR (by assumption) ?_); (with_reducible refine i_as1 (i_FR (i_A0 ?_))); (with_reducible refine i_fldR (by assumption) ?_); (with_reducible refine i_as1 (i_A4 (i_as0 ?_))); (with_reducible refine i_recv0 (by assumption) ?_))
  refine s_Net_differ hO hs hs hy g1 ((d4 d hdd).to (fun b j a1 a2 => f1 b j (by omega))) (fun M2 f2 g2 => ⟨rfl, ?_⟩)
  ((with_reducible refine i_RetI (i_Call (i_as1 (i_FR (i_A0 ?_))))); (with_reducible refine i_fldR (by assumption) ?_); (with_reducible refine i_as0 ?_); (with_reducible refine i_recv0 (by assumption) ?_))
  refine s_Net_pairs hO hs g2 hn2 ⟨_, rfl, ?_⟩
  rw [zpairs_p2 ((zBd_reg hw).xor hR) hn2]
  (skip)
  exact hk M2 (fun b j q => by rw [f2 b (by simp <;> omega), f1 b j (by omega)])
