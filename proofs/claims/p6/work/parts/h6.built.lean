section
-- part h6.built.lean.txt
/-! ===== what a telling builds: built, unlike, both sides ===== -/
def zBd (n : Nat) (A : zTl) (p q : Nat) : Bool := tS n A p q ^^ decide (tvs A p q ≠ 0)
theorem tS_in {n : Nat} {A : zTl} (hw : zTw n A) (p q : Nat) (h : tS n A p q = true) : p < n ∧ q < n ∧ p ≠ q := by
  have key : ∀ i, i ≤ tm A → ∀ a c, zChs (fun p q => decide (p < n ∧ q < n ∧ p ≠ q) && zWq (tf A) (tC A) (tD A) (tG A) p q) (tH A) (tr A) (zSz (tf A) n) i a c = true → a < n ∧ c < n ∧ a ≠ c := by
    intro i
    induction i with
    | zero =>
      intro _ a c h
      have h1 : (decide (a < n ∧ c < n ∧ a ≠ c) && zWq (tf A) (tC A) (tD A) (tG A) a c) = true := h
      simp only [Bool.and_eq_true, decide_eq_true_eq] at h1
      exact h1.1
    | succ i ih =>
      intro hi
      unfold zChs
      split
      · refine zchn_in (ih (by omega)) (fun j hj => ?_)
        obtain ⟨a1, a2, a3⟩ := hw.2.1 i j (by omega) (by omega)
        obtain ⟨b1, b2, b3⟩ := hw.2.1 i (j + 1) (by omega) (by omega)
        rw [show 0 + j = j by omega]
        have hne : tr A i j ≠ tr A i (j + 1) := fun z => by
          have := a3 (j + 1) (by omega) z.symm
          omega
        exact ⟨⟨a1, b1, hne⟩, b1, a1, hne.symm⟩
      · exact ih (by omega)
  exact key (tm A) (Nat.le_refl _) p q h
theorem tS_reg {n : Nat} {A : zTl} (hw : zTw n A) : zReg n (tS n A) := ⟨tS_s, fun a => by
  cases e : tS n A a a
  · rfl
  · exact absurd rfl (tS_in hw a a e).2.2, fun a b h => (tS_in hw a b h).1⟩
theorem zReg.xor {n : Nat} {T U : Nat → Nat → Bool} (hT : zReg n T) (hU : zReg n U) : zReg n (fun p q => T p q ^^ U p q) := ⟨fun a b => by show (T a b ^^ U a b) = (T b a ^^ U b a); rw [hT.1 a b, hU.1 a b], fun a => by show (T a a ^^ U a a) = false; rw [hT.2.1, hU.2.1]; rfl, fun a b h => by
  have h : (T a b ^^ U a b) = true := h
  cases e : T a b
  · rw [e, Bool.false_xor] at h; exact hU.2.2 a b h
  · exact hT.2.2 a b e⟩
theorem zBd_reg {n : Nat} {A : zTl} (hw : zTw n A) : zReg n (zBd n A) := (tS_reg hw).xor (tX_reg hw)
theorem m_cellOf {O : zOm} (hO : zWld O) (hS : zS O = zmS zC0) {a b : Nat} {M : zMem} {K : Option zV → zMem → Prop} (ha : a < 16) (hb : b < 16) (hk : K (some (0, ((if a < b then 16 * a + b else 16 * b + a : Nat) : Int))) M) : zR O F_Model_cellOf [(0, ((a : Nat) : Int)), (0, ((b : Nat) : Int))] M K := by
  apply r_Model_cellOf hO
  unfold B_Model_cellOf
  by_cases e : a < b
  · rw [if_pos e] at hk
    ((with_reducible refine i_RetI (i_eIf (i_cI_lt (i_L0 (i_L1 ?_))))); (with_reducible refine i_t (by omega) ?_); (with_reducible refine i_Add (i_Mul (i_I (i_L0 (i_L1 ?_))))); rw [zx_cmul (by omega)]; rw [zx_add (by omega)])
    exact hk
  · rw [if_neg e] at hk
    ((with_reducible refine i_RetI (i_eIf (i_cI_lt (i_L0 (i_L1 ?_))))); (with_reducible refine i_f (by omega) ?_); (with_reducible refine i_Add (i_Mul (i_I (i_L1 (i_L0 ?_))))); rw [zx_cmul (by omega)]; rw [zx_add (by omega)])
    exact hk
theorem m_builds {O : zOm} (hO : zWld O) (hS : zS O = zmS zC0) {t n a b : Nat} {A : zTl} {M : zMem} {K : Option zV → zMem → Prop} (ht : t < 7) (hA : rTe M t n A) (hS1 : rMx M 268 (tS n A)) (ha : a < 16) (hb : b < 16) (hk : K (some (0, zbI (zBd n A a b))) M) : zR O F_Model_builds [(2, 250), (0, ((t : Nat) : Int)), (0, ((a : Nat) : Int)), (0, ((b : Nat) : Int))] M K := by
  have g1 := hS1 a b ha hb
  have g2 : ∃ c, (if a < b then 16 * a + b else 16 * b + a) = c ∧ c < 256 ∧ M ((266 : Nat) : Int) ((256 * t + c : Nat) : Int) = ((tvs A a b : Nat) : Int) := by
    refine ⟨_, rfl, ?_, ?_⟩
    · split <;> omega
    · unfold tvs
      split
      · rw [← Nat.add_assoc]; exact hA.2.2.2 a b ha hb
      · rw [← Nat.add_assoc]; exact hA.2.2.2 b a hb ha
  obtain ⟨c, hc1, hc2, hc3⟩ := g2
  unfold zBd at hk
  generalize tvs A a b = v at hc3 hk
  generalize tS n A a b = s at g1 hk
  apply r_Model_builds hO
  unfold B_Model_builds
  have f22 := zMF (k := 22) hS rfl; have a268 := zMA (a := 268) (ty := .boolean) (n := 256) hS rfl; have f20 := zMF (k := 20) hS rfl; have a266 := zMA (a := 266) (ty := .int) (n := 1792) hS rfl; have zo := zMO hS
  by_cases e : v = 0
  · subst e
    rw [decide_eq_false (fun z => z rfl), Bool.xor_false] at hk
    cases s
    · ((with_reducible refine i_RetZ (i_eIf (i_cI_ne (i_ZA (i_FR (i_A0 ?_)))))); (with_reducible refine i_fldR (by assumption) ?_); (with_reducible refine i_Add (i_Mul (i_I (i_L2 (i_L3 ?_))))); rw [zx_cmul (by omega)]; rw [zx_add (by omega)]; (with_reducible refine i_in (by assumption) (by omega) (by omega) ?_); (with_reducible refine i_eIf (i_cZ_ne (i_IA (i_FR (i_A0 ?_))))); (with_reducible refine i_fldR (by assumption) ?_); (with_reducible refine i_Add (i_Mul (i_I (i_L1 (i_Call (i_as1 (i_L2 (i_as1 (i_L3 (i_as0 (i_recv1 ?_))))))))))); (rw [g1]); rw [zbI_f]; (refine m_cellOf hO hS ha hb ⟨_, rfl, ?_⟩); (rw [hc1]); rw [zx_cmul (by omega)]; rw [zx_add (by omega)]; (with_reducible refine i_in (by assumption) (by omega) (by omega) ?_); (rw [hc3]); (with_reducible refine i_f (by omega) ?_); (with_reducible refine i_I ?_); (with_reducible refine i_f (by omega) ?_); (with_reducible refine i_I ?_); (with_reducible refine i_z (Or.inl rfl) ?_))
      exact hk
    · ((with_reducible refine i_RetZ (i_eIf (i_cI_ne (i_ZA (i_FR (i_A0 ?_)))))); (with_reducible refine i_fldR (by assumption) ?_); (with_reducible refine i_Add (i_Mul (i_I (i_L2 (i_L3 ?_))))); rw [zx_cmul (by omega)]; rw [zx_add (by omega)]; (with_reducible refine i_in (by assumption) (by omega) (by omega) ?_); (with_reducible refine i_eIf (i_cZ_ne (i_IA (i_FR (i_A0 ?_))))); (with_reducible refine i_fldR (by assumption) ?_); (with_reducible refine i_Add (i_Mul (i_I (i_L1 (i_Call (i_as1 (i_L2 (i_as1 (i_L3 (i_as0 (i_recv1 ?_))))))))))); (rw [g1]); rw [zbI_t]; (refine m_cellOf hO hS ha hb ⟨_, rfl, ?_⟩); (rw [hc1]); rw [zx_cmul (by omega)]; rw [zx_add (by omega)]; (with_reducible refine i_in (by assumption) (by omega) (by omega) ?_); (rw [hc3]); (with_reducible refine i_f (by omega) ?_); (with_reducible refine i_I ?_); (with_reducible refine i_t (by omega) ?_); (with_reducible refine i_I ?_); (with_reducible refine i_z (Or.inr rfl) ?_))
      exact hk
  · rw [decide_eq_true e, Bool.xor_true] at hk
    cases s
    · ((with_reducible refine i_RetZ (i_eIf (i_cI_ne (i_ZA (i_FR (i_A0 ?_)))))); (with_reducible refine i_fldR (by assumption) ?_); (with_reducible refine i_Add (i_Mul (i_I (i_L2 (i_L3 ?_))))); rw [zx_cmul (by omega)]; rw [zx_add (by omega)]; (with_reducible refine i_in (by assumption) (by omega) (by omega) ?_); (with_reducible refine i_eIf (i_cZ_ne (i_IA (i_FR (i_A0 ?_))))); (with_reducible refine i_fldR (by assumption) ?_); (with_reducible refine i_Add (i_Mul (i_I (i_L1 (i_Call (i_as1 (i_L2 (i_as1 (i_L3 (i_as0 (i_recv1 ?_))))))))))); (rw [g1]); rw [zbI_f]; (refine m_cellOf hO hS ha hb ⟨_, rfl, ?_⟩); (rw [hc1]); rw [zx_cmul (by omega)]; rw [zx_add (by omega)]; (with_reducible refine i_in (by assumption) (by omega) (by omega) ?_); (rw [hc3]); (with_reducible refine i_t (by omega) ?_); (with_reducible refine i_I ?_); (with_reducible refine i_t (by omega) ?_); (with_reducible refine i_I ?_); (with_reducible refine i_z (Or.inr rfl) ?_))
      exact hk
    · ((with_reducible refine i_RetZ (i_eIf (i_cI_ne (i_ZA (i_FR (i_A0 ?_)))))); (with_reducible refine i_fldR (by assumption) ?_); (with_reducible refine i_Add (i_Mul (i_I (i_L2 (i_L3 ?_))))); rw [zx_cmul (by omega)]; rw [zx_add (by omega)]; (with_reducible refine i_in (by assumption) (by omega) (by omega) ?_); (with_reducible refine i_eIf (i_cZ_ne (i_IA (i_FR (i_A0 ?_))))); (with_reducible refine i_fldR (by assumption) ?_); (with_reducible refine i_Add (i_Mul (i_I (i_L1 (i_Call (i_as1 (i_L2 (i_as1 (i_L3 (i_as0 (i_recv1 ?_))))))))))); (rw [g1]); rw [zbI_t]; (refine m_cellOf hO hS ha hb ⟨_, rfl, ?_⟩); (rw [hc1]); rw [zx_cmul (by omega)]; rw [zx_add (by omega)]; (with_reducible refine i_in (by assumption) (by omega) (by omega) ?_); (rw [hc3]); (with_reducible refine i_t (by omega) ?_); (with_reducible refine i_I ?_); (with_reducible refine i_f (by omega) ?_); (with_reducible refine i_I ?_); (with_reducible refine i_z (Or.inl rfl) ?_))
      exact hk
theorem m_built_bad {O : zOm} (hO : zWld O) (hS : zS O = zmS zC0) {t a b : Int} {T n : Nat} {M : zMem} {K : Option zV → zMem → Prop} (hT : M 250 ((11 : Nat) : Int) = ((T : Nat) : Int)) (hn : M 250 ((1 : Nat) : Int) = ((n : Nat) : Int)) (hb : ¬ ((0 ≤ t ∧ t < ((T : Nat) : Int)) ∧ (0 ≤ a ∧ a < ((n : Nat) : Int)) ∧ (0 ≤ b ∧ b < ((n : Nat) : Int)) ∧ a ≠ b)) (hk : K (some (0, -1)) M) : zR O F_Model_built [(2, 250), (0, t), (0, a), (0, b)] M K := by
  apply r_Model_built hO
  unfold B_Model_built
  have zo := zMO hS
  by_cases ht : 0 ≤ t ∧ t < ((T : Nat) : Int)
  · ((with_reducible refine i_Seq (i_If (i_cOr (i_cNot (i_cZ_ne (i_Call (i_as1 (i_A0 (i_as1 (i_L1 (i_as0 ?_))))))))))); (with_reducible refine i_recv0 (by assumption) ?_); (refine m_isTelling hO hS hT ⟨_, rfl, ?_⟩); (rw [decide_eq_true ht]); rw [zbI_t]; (with_reducible refine i_t (by omega) ?_); (with_reducible refine i_cNot (i_cZ_ne (i_Call (i_as1 (i_A0 (i_as1 (i_L2 (i_as1 (i_L3 (i_as0 ?_)))))))))); (with_reducible refine i_recv0 (by assumption) ?_); (refine m_isPair hO hS hn ⟨_, rfl, ?_⟩); (rw [decide_eq_false (fun z => hb ⟨ht, z⟩)]); rw [zbI_f]; (with_reducible refine i_f (by omega) ?_); (with_reducible refine i_RetI (i_I ?_)))
    exact hk
  · ((with_reducible refine i_Seq (i_If (i_cOr (i_cNot (i_cZ_ne (i_Call (i_as1 (i_A0 (i_as1 (i_L1 (i_as0 ?_))))))))))); (with_reducible refine i_recv0 (by assumption) ?_); (refine m_isTelling hO hS hT ⟨_, rfl, ?_⟩); (rw [decide_eq_false ht]); rw [zbI_f]; (with_reducible refine i_f (by omega) ?_); (with_reducible refine i_RetI (i_I ?_)))
    exact hk
theorem m_built {O : zOm} (hO : zWld O) (hS : zS O = zmS zC0) {t T n a b : Nat} {A : zTl} {M : zMem} {K : Option zV → zMem → Prop} (hT : M 250 ((11 : Nat) : Int) = ((T : Nat) : Int)) (hT5 : T ≤ 5) (ht : t < T) (hn : M 250 ((1 : Nat) : Int) = ((n : Nat) : Int)) (hn2 : n ≤ 16) (hA : rTe M t n A) (hw : zTw n A) (ha : a < n) (hb : b < n) (hab : a ≠ b)
    (hk : ∀ M', (∀ b j, ¬ b = 268 → M' b j = M b j) → K (some (0, zbI (zBd n A a b))) M') : zR O F_Model_built [(2, 250), (0, ((t : Nat) : Int)), (0, ((a : Nat) : Int)), (0, ((b : Nat) : Int))] M K := by
  apply r_Model_built hO
  unfold B_Model_built
  have zo := zMO hS
  ((with_reducible refine i_Seq (i_If (i_cOr (i_cNot (i_cZ_ne (i_Call (i_as1 (i_A0 (i_as1 (i_L1 (i_as0 ?_))))))))))); (with_reducible refine i_recv0 (by assumption) ?_); (refine m_isTelling hO hS hT ⟨_, rfl, ?_⟩); (rw [decide_eq_true (show 0 ≤ ((t : Nat) : Int) ∧ ((t : Nat) : Int) < ((T : Nat) : Int) by omega)]); rw [zbI_t]; (with_reducible refine i_t (by omega) ?_); (with_reducible refine i_cNot (i_cZ_ne (i_Call (i_as1 (i_A0 (i_as1 (i_L2 (i_as1 (i_L3 (i_as0 ?_)))))))))); (with_reducible refine i_recv0 (by assumption) ?_); (refine m_isPair hO hS hn ⟨_, rfl, ?_⟩); (rw [decide_eq_true (show (0 ≤ ((a : Nat) : Int) ∧ ((a : Nat) : Int) < ((n : Nat) : Int)) ∧ (0 ≤ ((b : Nat) : Int) ∧ ((b : Nat) : Int) < ((n : Nat) : Int)) ∧ ((a : Nat) : Int) ≠ ((b : Nat) : Int) by omega)]); rw [zbI_t]; (with_reducible refine i_t (by omega) ?_); (with_reducible refine i_Seq (i_sCall (i_as1 (i_A0 (i_as1 (i_L1 (i_as0 ?_))))))); (with_reducible refine i_recv0 (by assumption) ?_))
  refine m_hearA hO hS (by omega) hn hn2 hA hw (fun M1 f1 S1 => ⟨rfl, ?_⟩)
  have hA1 : rTe M1 t n A := hA.to hn2 hw (fun b j q => f1 b j (by omega))
  have h2 := hk M1 (fun b j q => f1 b j (by omega))
  ((with_reducible refine i_RetI (i_eIf (i_cZ_ne (i_Call (i_as1 (i_A0 (i_as1 (i_L1 (i_as1 (i_L2 (i_as1 (i_L3 (i_as0 ?_))))))))))))); (with_reducible refine i_recv0 (by assumption) ?_))
  refine m_builds hO hS (by omega) hA1 S1 (by omega) (by omega) ⟨_, rfl, ?_⟩
  generalize zBd n A a b = v at h2 ⊢
  cases v
  · (rw [zbI_f]; (with_reducible refine i_f (by omega) ?_); (with_reducible refine i_I ?_))
    exact h2
  · (rw [zbI_t]; (with_reducible refine i_t (by omega) ?_); (with_reducible refine i_I ?_))
    exact h2
theorem c_built_bad {O : zOm} (hO : zWld O) (hS : zS O = zmS zC0) {t a b : Int} {T n : Nat} {M : zMem} {K : Option zV → zMem → Prop} (hT : M ((0 : Nat) : Int) ((4 : Nat) : Int) = ((T : Nat) : Int)) (hT5 : T ≤ 5) (hP : M ((1 : Nat) : Int) ((2 : Nat) : Int) = ((n : Nat) : Int)) (hb : ¬ ((0 ≤ t ∧ t < ((T : Nat) : Int)) ∧ (0 ≤ a ∧ a < ((n : Nat) : Int)) ∧ (0 ≤ b ∧ b < ((n : Nat) : Int)) ∧ a ≠ b)) (hk : K (some (0, -1)) M) : zR O F_ToldNet_built [(2, ((0 : Nat) : Int)), (0, t), (0, a), (0, b)] M K := by
  have o1 := zo_1 hS
  apply r_ToldNet_built hO
  unfold B_ToldNet_built
  have f0_0 := zf_0_0 hS; have z0 := zo_0 hS; have z1 := zo_1 hS
  ((with_reducible refine i_Seq (i_Set (i_Call (i_as1 (i_A0 (i_as1 (i_L1 (i_as0 ?_)))))))); (with_reducible refine i_recv0 (by assumption) ?_); simp only [w_set0, w_set1, w_setn0, w_setn1])
  refine c_find hO hS hT hT5 (fun hx => ⟨_, rfl, ?_⟩) (fun k e hk1 => ⟨_, rfl, ?_⟩)
  · ((with_reducible refine i_Seq (i_If (i_cOr (i_cN (i_A4 ?_))))); simp only [w_set0, w_set1, w_setn0, w_setn1]; (with_reducible refine i_t trivial ?_); (with_reducible refine i_RetI (i_I ?_)))
    exact hk
  · ((with_reducible refine i_Seq (i_If (i_cOr (i_cN (i_A4 ?_))))); (with_reducible refine i_f (by omega) ?_); (with_reducible refine i_cNot (i_cZ_ne (i_Call (i_as1 (i_FR (i_A0 ?_)))))); (with_reducible refine i_fldR (by assumption) ?_); (with_reducible refine i_as1 (i_L2 (i_as1 (i_L3 (i_as0 ?_))))); (with_reducible refine i_recv0 (by assumption) ?_); (refine c_isPair hO hS hP ⟨_, rfl, ?_⟩); (rw [decide_eq_false (show ¬ ((0 ≤ a ∧ a < ((n : Nat) : Int)) ∧ (0 ≤ b ∧ b < ((n : Nat) : Int)) ∧ a ≠ b) from fun z => hb ⟨by omega, z⟩)]); rw [zbI_f]; (with_reducible refine i_f (by omega) ?_); (with_reducible refine i_RetI (i_I ?_)))
    exact hk
theorem c_built {O : zOm} (hO : zWld O) (hS : zS O = zmS zC0) {t T n a b : Nat} {A : zTl} {M : zMem} {K : Option zV → zMem → Prop} (hT : M ((0 : Nat) : Int) ((4 : Nat) : Int) = ((T : Nat) : Int)) (hT5 : T ≤ 5) (ht : t < T) (hP : M ((1 : Nat) : Int) ((2 : Nat) : Int) = ((n : Nat) : Int)) (hn2 : n ≤ 16) (hA : zTR M (185 + 13 * t) n A) (ha : a < n) (hb : b < n) (hab : a ≠ b)
    (hk : K (some (0, zbI (zBd n A a b))) M) : zR O F_ToldNet_built [(2, ((0 : Nat) : Int)), (0, ((t : Nat) : Int)), (0, ((a : Nat) : Int)), (0, ((b : Nat) : Int))] M K := by
  obtain ⟨⟨x0, x1, x2, x3, x4, x5, x6, x7⟩, ⟨xa, xb⟩, hp, ⟨n7, n9, n11⟩⟩ := zTelT hS (show t < 5 by omega)
  have r7 := n7.2.2.2
  have r9 := n9.2.2.2
  have o1 := zo_1 hS
  have g7 := hA.2.2.2.1
  have g9 := hA.2.2.2.2.1
  unfold zBd at hk
  apply r_ToldNet_built hO
  unfold B_ToldNet_built
  have f0_0 := zf_0_0 hS; have z0 := zo_0 hS; have z1 := zo_1 hS
  ((with_reducible refine i_Seq (i_Set (i_Call (i_as1 (i_A0 (i_as1 (i_L1 (i_as0 ?_)))))))); (with_reducible refine i_recv0 (by assumption) ?_); simp only [w_set0, w_set1, w_setn0, w_setn1])
  refine c_find hO hS hT hT5 (fun hx => absurd (show 0 ≤ ((t : Nat) : Int) ∧ ((t : Nat) : Int) < ((T : Nat) : Int) by omega) hx) (fun k e hk1 => ⟨_, rfl, ?_⟩)
  rw [show k = t by omega]
  ((with_reducible refine i_Seq (i_If (i_cOr (i_cN (i_A4 ?_))))); (with_reducible refine i_f (by omega) ?_); (with_reducible refine i_cNot (i_cZ_ne (i_Call (i_as1 (i_FR (i_A0 ?_)))))); (with_reducible refine i_fldR (by assumption) ?_); (with_reducible refine i_as1 (i_L2 (i_as1 (i_L3 (i_as0 ?_))))); (with_reducible refine i_recv0 (by assumption) ?_); (refine c_isPair hO hS hP ⟨_, rfl, ?_⟩); (rw [decide_eq_true (show (0 ≤ ((a : Nat) : Int) ∧ ((a : Nat) : Int) < ((n : Nat) : Int)) ∧ (0 ≤ ((b : Nat) : Int) ∧ ((b : Nat) : Int) < ((n : Nat) : Int)) ∧ ((a : Nat) : Int) ≠ ((b : Nat) : Int) by omega)]); rw [zbI_t]; (with_reducible refine i_t (by omega) ?_); (with_reducible refine i_RetI (i_eIf (i_cI_ne (i_Call (i_as1 (i_FR (i_A4 ?_))))))); (with_reducible refine i_fldR (by assumption) ?_); (with_reducible refine i_as1 (i_L2 (i_as1 (i_L3 (i_as0 ?_))))); (with_reducible refine i_recv0 (by assumption) ?_); (refine s_joins hO n7 g7 (by omega) (by omega) ⟨_, rfl, ?_⟩); (with_reducible refine i_Call (i_as1 (i_FR (i_A4 ?_)))); (with_reducible refine i_fldR (by assumption) ?_); (with_reducible refine i_as1 (i_L2 (i_as1 (i_L3 (i_as0 ?_))))); (with_reducible refine i_recv0 (by assumption) ?_); (refine s_joins hO n9 g9 (by omega) (by omega) ⟨_, rfl, ?_⟩))
  generalize decide (tvs A a b ≠ 0) = v at hk ⊢
  generalize tS n A a b = s at hk ⊢
  cases v <;> cases s
  all_goals
    (first | ((rw [zbI_t]; rw [zbI_f]; (with_reducible refine i_t (by omega) ?_); (with_reducible refine i_I ?_))) | ((rw [zbI_f]; (with_reducible refine i_f (by omega) ?_); (with_reducible refine i_I ?_))) | ((rw [zbI_t]; (with_reducible refine i_f (by omega) ?_); (with_reducible refine i_I ?_))))
    exact hk
/-! unlike -/
theorem m_unlike_bad {O : zOm} (hO : zWld O) (hS : zS O = zmS zC0) {t d : Int} {T td : Nat} {M : zMem} {K : Option zV → zMem → Prop} (hT : M 250 ((11 : Nat) : Int) = ((T : Nat) : Int)) (hd : M 250 ((4 : Nat) : Int) = ((td : Nat) : Int)) (hb : ¬ ((0 ≤ t ∧ t < ((T : Nat) : Int)) ∧ 0 ≤ d ∧ d ≤ ((td : Nat) : Int))) (hk : K (some (0, -1)) M) : zR O F_Model_unlike [(2, 250), (0, t), (0, d)] M K := by
  apply r_Model_unlike hO
  unfold B_Model_unlike
  have f1 := zMF (k := 1) hS rfl; have f10 := zMF (k := 10) hS rfl; have a257 := zMA (a := 257) (ty := .boolean) (n := 256) hS rfl; have zo := zMO hS
  by_cases ht : 0 ≤ t ∧ t < ((T : Nat) : Int)
  · ((with_reducible refine i_Seq (i_If (i_cOr (i_cNot (i_cZ_ne (i_Call (i_as1 (i_A0 (i_as1 (i_L1 (i_as0 ?_))))))))))); (with_reducible refine i_recv0 (by assumption) ?_); (refine m_isTelling hO hS hT ⟨_, rfl, ?_⟩); (rw [decide_eq_true ht]); rw [zbI_t]; (with_reducible refine i_t (by omega) ?_); (with_reducible refine i_cNot (i_cZ_ne (i_Call (i_as1 (i_A0 (i_as1 (i_L2 (i_as0 ?_)))))))); (with_reducible refine i_recv0 (by assumption) ?_); (refine m_isDay hO hS hd ⟨_, rfl, ?_⟩); (rw [decide_eq_false (fun z => hb ⟨ht, z⟩)]); rw [zbI_f]; (with_reducible refine i_f (by omega) ?_); (with_reducible refine i_RetI (i_I ?_)))
    exact hk
  · ((with_reducible refine i_Seq (i_If (i_cOr (i_cNot (i_cZ_ne (i_Call (i_as1 (i_A0 (i_as1 (i_L1 (i_as0 ?_))))))))))); (with_reducible refine i_recv0 (by assumption) ?_); (refine m_isTelling hO hS hT ⟨_, rfl, ?_⟩); (rw [decide_eq_false ht]); rw [zbI_f]; (with_reducible refine i_f (by omega) ?_); (with_reducible refine i_RetI (i_I ?_)))
    exact hk
theorem m_unlike {O : zOm} (hO : zWld O) (hS : zS O = zmS zC0) {t T n d td c : Nat} {A : zTl} {CA CB : Nat → Nat} {CI : Nat → Bool} {CD : Nat → Nat} {M : zMem} {K : Option zV → zMem → Prop} (hT : M 250 ((11 : Nat) : Int) = ((T : Nat) : Int)) (hT5 : T ≤ 5) (ht : t < T) (hn : M 250 ((1 : Nat) : Int) = ((n : Nat) : Int)) (hn2 : n ≤ 16) (hd : M 250 ((4 : Nat) : Int) = ((td : Nat) : Int)) (hdd : d ≤ td) (hC : rCh M c CA CB CI CD) (hA : rTe M t n A) (hw : zTw n A)
    (hk : ∀ M', (∀ b j, ¬ (b = 257 ∨ b = 268) → M' b j = M b j) → K (some (0, ((zp2 (fun p q => zBd n A p q ^^ zrep CA CB CI CD d c p q) n : Nat) : Int))) M') : zR O F_Model_unlike [(2, 250), (0, ((t : Nat) : Int)), (0, ((d : Nat) : Int))] M K := by
  apply r_Model_unlike hO
  unfold B_Model_unlike
  have f1 := zMF (k := 1) hS rfl; have f10 := zMF (k := 10) hS rfl; have a257 := zMA (a := 257) (ty := .boolean) (n := 256) hS rfl; have zo := zMO hS
  ((with_reducible refine i_Seq (i_If (i_cOr (i_cNot (i_cZ_ne (i_Call (i_as1 (i_A0 (i_as1 (i_L1 (i_as0 ?_))))))))))); (with_reducible refine i_recv0 (by assumption) ?_); (refine m_isTelling hO hS hT ⟨_, rfl, ?_⟩); (rw [decide_eq_true (show 0 ≤ ((t : Nat) : Int) ∧ ((t : Nat) : Int) < ((T : Nat) : Int) by omega)]); rw [zbI_t]; (with_reducible refine i_t (by omega) ?_); (with_reducible refine i_cNot (i_cZ_ne (i_Call (i_as1 (i_A0 (i_as1 (i_L2 (i_as0 ?_)))))))); (with_reducible refine i_recv0 (by assumption) ?_); (refine m_isDay hO hS hd ⟨_, rfl, ?_⟩); (rw [decide_eq_true (show 0 ≤ ((d : Nat) : Int) ∧ ((d : Nat) : Int) ≤ ((td : Nat) : Int) by omega)]); rw [zbI_t]; (with_reducible refine i_t (by omega) ?_); (with_reducible refine i_Seq (i_sCall (i_as1 (i_A0 (i_as1 (i_L2 (i_as0 ?_))))))); (with_reducible refine i_recv0 (by assumption) ?_))
  refine m_asOf hO hS hC (fun M1 f1' g1 => ⟨rfl, ?_⟩)
  have n1 : M1 250 ((1 : Nat) : Int) = ((n : Nat) : Int) := by rw [f1' _ _ (by omega)]; exact hn
  ((with_reducible refine i_Seq (i_sCall (i_as1 (i_A0 (i_as1 (i_L1 (i_as0 ?_))))))); (with_reducible refine i_recv0 (by assumption) ?_))
  refine m_hearA hO hS (by omega) n1 hn2 (hA.to hn2 hw (fun b j q => f1' b j (by omega))) hw (fun M2 f2 S2 => ⟨rfl, ?_⟩)
  have hf2 : ∀ b j, ¬ (b = 257 ∨ b = 268) → M2 b j = M b j := fun b j q => by rw [f2 b j (by omega), f1' b j (by omega)]
  have n2 : M2 250 ((1 : Nat) : Int) = ((n : Nat) : Int) := by rw [hf2 _ _ (by omega)]; exact hn
  have hA2 : rTe M2 t n A := hA.to hn2 hw (fun b j q => hf2 b j (by omega))
  have g2 : rMx M2 257 (zrep CA CB CI CD d c) := g1.to (fun j => f2 _ _ (by omega))
  have hk2 := hk M2 hf2
  clear hk
  generalize zrep CA CB CI CD d c = U at g2 hk2
  ((with_reducible refine i_Seq (i_Set (i_I (i_Seq (i_Blk (i_Seq (i_Set (i_I ?_)))))))); simp only [w_set0, w_set1, w_setn0, w_setn1])
  refine w_Pairs (n := n) (fun a b => [250, ((t : Nat) : Int), ((d : Nat) : Int), ((zop (fun p q => zBd n A p q ^^ U p q) n a b : Nat) : Int)]) (fun a b M' => M' = M2 ∧ a ≤ 16) (fun _ _ => ⟨_, rfl, rfl⟩) f1 (fun a b M' h => by rw [h.1]; exact n2) hn2 ⟨_, rfl⟩ ⟨rfl, by omega⟩ (fun a M' _ h => ⟨h, by rw [← zop_row]⟩) (fun a M' _ h => ⟨⟨h.1, by omega⟩, rfl⟩) ?_ ?_
  · rintro a b l M3 Y Z hab hbn ⟨rfl, _⟩ hY
    simp only [List.cons_append, List.nil_append] at hY ⊢
    have hbd := zop_le (fun p q => zBd n A p q ^^ U p q) hn2 (a := a) (b := b) (by omega) (by omega)
    have hU1 := g2 a b (by omega) (by omega)
    rw [zop_su _ hab] at hY
    ((with_reducible refine i_Set (i_Add (i_L3 (i_eIf (i_cI_ne (i_Call (i_as1 (i_A0 (i_as1 (i_L1 (i_as1 (i_L4 (i_as1 (i_L5 (i_as0 ?_))))))))))))))); (with_reducible refine i_recv0 (by assumption) ?_); (refine m_builds hO hS (by omega) hA2 S2 (by omega) (by omega) ⟨_, rfl, ?_⟩); (with_reducible refine i_ZA (i_FR (i_A0 ?_))); (with_reducible refine i_fldR (by assumption) ?_); (with_reducible refine i_Add (i_Mul (i_I (i_L4 (i_L5 ?_))))); rw [zx_cmul (by omega)]; rw [zx_add (by omega)]; (with_reducible refine i_in (by assumption) (by omega) (by omega) ?_))
    generalize zop (fun p q => zBd n A p q ^^ U p q) n a b = z at hbd hY ⊢
    generalize zBd n A a b = v at hY ⊢
    generalize U a b = u at hU1 hY
    cases v <;> cases u
    all_goals
      (first | ((rw [zbI_f]; (rw [hU1]); rw [zbI_f]; (with_reducible refine i_f (by omega) ?_); (with_reducible refine i_I ?_); rw [zx_addc (by omega)]; simp only [w_set0, w_set1, w_setn0, w_setn1])) | ((rw [zbI_f]; (rw [hU1]); rw [zbI_t]; (with_reducible refine i_t (by omega) ?_); (with_reducible refine i_I ?_); rw [zx_inc (by omega)]; simp only [w_set0, w_set1, w_setn0, w_setn1])) | ((rw [zbI_t]; (rw [hU1]); rw [zbI_f]; (with_reducible refine i_t (by omega) ?_); (with_reducible refine i_I ?_); rw [zx_inc (by omega)]; simp only [w_set0, w_set1, w_setn0, w_setn1])) | ((rw [zbI_t]; (rw [hU1]); rw [zbI_t]; (with_reducible refine i_f (by omega) ?_); (with_reducible refine i_I ?_); rw [zx_addc (by omega)]; simp only [w_set0, w_set1, w_setn0, w_setn1])))
      exact hY _ _ ⟨rfl, by omega⟩
  · rintro l M3 ⟨rfl, _⟩
    simp only [List.cons_append, List.nil_append]
    rw [zop_end]
    (with_reducible refine i_RetI (i_L3 ?_))
    exact hk2
theorem c_build {O : zOm} (hO : zWld O) {x y n : Nat} {A : zTl} {M : zMem} {K : Option zV → zMem → Prop} (hx : zTeC (zS O) x) (hy : zNet (zS O) y) (hA : zTR M x n A)
    (hk : ∀ M', (∀ b j, ¬ (((y : Nat) : Int) ≤ b ∧ b ≤ ((y + 1 : Nat) : Int)) → M' b j = M b j) → zNR M' y n (zBd n A) → K none M') : zR O F_Telling_build [(2, ((x : Nat) : Int)), (2, ((y : Nat) : Int))] M K := by
  obtain ⟨⟨o, x0, x1, x2, x3, x4, x5, x6⟩, ⟨xa, xb⟩, hp, ⟨n7, n9, n11⟩⟩ := hx
  have hy4 := hy.2.2.2
  apply r_Telling_build hO
  unfold B_Telling_build
  ((with_reducible refine i_Seq (i_sCall (i_as1 (i_A1 (i_as1 (i_FR (i_A0 ?_))))))); (with_reducible refine i_fldR (by assumption) ?_); (with_reducible refine i_as1 (i_FR (i_A0 ?_))); (with_reducible refine i_fldR (by assumption) ?_); (with_reducible refine i_as0 ?_); (with_reducible refine i_recv0 (by assumption) ?_))
  refine s_Net_differ hO hy n7 n9 hA.2.2.2.1 hA.2.2.2.2.1 (fun M1 f1 g1 => ⟨rfl, ?_⟩)
  (with_reducible refine i_RetV ?_)
  exact hk M1 (fun b j q => by rw [f1 b (by simp <;> omega)]) g1
theorem zNet183 {S : List zSh} (hS : S = zmS zC0) : zNet S 183 := zNetB.to hS (by decide +kernel)
theorem c_unlike_bad {O : zOm} (hO : zWld O) (hS : zS O = zmS zC0) {t d : Int} {T td : Nat} {M : zMem} {K : Option zV → zMem → Prop} (hT : M ((0 : Nat) : Int) ((4 : Nat) : Int) = ((T : Nat) : Int)) (hT5 : T ≤ 5) (hd : M ((1 : Nat) : Int) ((3 : Nat) : Int) = ((td : Nat) : Int)) (htd : td < 41) (hb : ¬ ((0 ≤ t ∧ t < ((T : Nat) : Int)) ∧ 0 ≤ d ∧ d ≤ ((td : Nat) : Int))) (hk : K (some (0, -1)) M) : zR O F_ToldNet_unlike [(2, ((0 : Nat) : Int)), (0, t), (0, d)] M K := by
  have o1 := zo_1 hS
  apply r_ToldNet_unlike hO
  unfold B_ToldNet_unlike
  have f0_0 := zf_0_0 hS; have f0_13 := zf_0_13 hS; have z0 := zo_0 hS; have z1 := zo_1 hS
  ((with_reducible refine i_Seq (i_Set (i_Call (i_as1 (i_A0 (i_as1 (i_L1 (i_as0 ?_)))))))); (with_reducible refine i_recv0 (by assumption) ?_); simp only [w_set0, w_set1, w_setn0, w_setn1])
  refine c_find hO hS hT hT5 (fun hx => ⟨_, rfl, ?_⟩) (fun k e hk1 => ⟨_, rfl, ?_⟩)
  · ((with_reducible refine i_Seq (i_Set (i_Call (i_as1 (i_FR (i_A0 ?_)))))); (with_reducible refine i_fldR (by assumption) ?_); (with_reducible refine i_as1 (i_L2 (i_as0 ?_))); (with_reducible refine i_recv0 (by assumption) ?_); simp only [w_set0, w_set1, w_setn0, w_setn1])
    refine c_on hO hS hd htd (fun hx2 => ⟨_, rfl, ?_⟩) (fun k2 e2 hk2 => ⟨_, rfl, ?_⟩)
    · ((with_reducible refine i_Seq (i_If (i_cOr (i_cN (i_A3 ?_))))); simp only [w_set0, w_set1, w_setn0, w_setn1]; (with_reducible refine i_t trivial ?_); (with_reducible refine i_RetI (i_I ?_)))
      exact hk
    · ((with_reducible refine i_Seq (i_If (i_cOr (i_cN (i_A3 ?_))))); simp only [w_set0, w_set1, w_setn0, w_setn1]; (with_reducible refine i_t trivial ?_); (with_reducible refine i_RetI (i_I ?_)))
      exact hk
  · ((with_reducible refine i_Seq (i_Set (i_Call (i_as1 (i_FR (i_A0 ?_)))))); (with_reducible refine i_fldR (by assumption) ?_); (with_reducible refine i_as1 (i_L2 (i_as0 ?_))); (with_reducible refine i_recv0 (by assumption) ?_); simp only [w_set0, w_set1, w_setn0, w_setn1])
    refine c_on hO hS hd htd (fun hx2 => ⟨_, rfl, ?_⟩) (fun k2 e2 hk2 => absurd (show (0 ≤ t ∧ t < ((T : Nat) : Int)) ∧ 0 ≤ d ∧ d ≤ ((td : Nat) : Int) by omega) hb)
    ((with_reducible refine i_Seq (i_If (i_cOr (i_cN (i_A3 ?_))))); (with_reducible refine i_f (by omega) ?_); (with_reducible refine i_cN (i_A4 ?_)); simp only [w_set0, w_set1, w_setn0, w_setn1]; (with_reducible refine i_t trivial ?_); (with_reducible refine i_RetI (i_I ?_)))
    exact hk
theorem c_unlike {O : zOm} (hO : zWld O) (hS : zS O = zmS zC0) {t T n d td c : Nat} {A : zTl} {N : Nat → Nat → Nat → Bool} {M : zMem} {K : Option zV → zMem → Prop} (hT : M ((0 : Nat) : Int) ((4 : Nat) : Int) = ((T : Nat) : Int)) (hT5 : T ≤ 5) (ht : t < T) (hD : cDy M n td c N) (htd : td < 41) (hdd : d ≤ td) (hR : zReg n (N d)) (hn2 : n ≤ 16) (hA : zTR M (185 + 13 * t) n A) (hw : zTw n A)
    (hk : ∀ M', (∀ b j, ¬ (((183 : Nat) : Int) ≤ b ∧ b ≤ ((184 : Nat) : Int)) → M' b j = M b j) → K (some (0, ((zp2 (fun p q => zBd n A p q ^^ N d p q) n : Nat) : Int))) M') : zR O F_ToldNet_unlike [(2, ((0 : Nat) : Int)), (0, ((t : Nat) : Int)), (0, ((d : Nat) : Int))] M K := by
  obtain ⟨d1, d2, d3, d4⟩ := hD
  have hx := zTelT hS (show t < 5 by omega)
  have hx0 := hx.1.1
  have hs := zNet183 hS
  have hs4 := hs.2.2.2
  have hy := zNetD hS (d := d) (by omega)
  have o1 := zo_1 hS
  apply r_ToldNet_unlike hO
  unfold B_ToldNet_unlike
  have f0_0 := zf_0_0 hS; have f0_13 := zf_0_13 hS; have z0 := zo_0 hS; have z1 := zo_1 hS
  ((with_reducible refine i_Seq (i_Set (i_Call (i_as1 (i_A0 (i_as1 (i_L1 (i_as0 ?_)))))))); (with_reducible refine i_recv0 (by assumption) ?_); simp only [w_set0, w_set1, w_setn0, w_setn1])
  refine c_find hO hS hT hT5 (fun hx => absurd (show 0 ≤ ((t : Nat) : Int) ∧ ((t : Nat) : Int) < ((T : Nat) : Int) by omega) hx) (fun k e hk1 => ⟨_, rfl, ?_⟩)
  rw [show k = t by omega]
  ((with_reducible refine i_Seq (i_Set (i_Call (i_as1 (i_FR (i_A0 ?_)))))); (with_reducible refine i_fldR (by assumption) ?_); (with_reducible refine i_as1 (i_L2 (i_as0 ?_))); (with_reducible refine i_recv0 (by assumption) ?_); simp only [w_set0, w_set1, w_setn0, w_setn1])
  refine c_on hO hS d2 htd (fun hx => absurd hx (by omega)) (fun k2 e2 hk2 => ⟨_, rfl, ?_⟩)
  rw [show k2 = d by omega]
  ((with_reducible refine i_Seq (i_If (i_cOr (i_cN (i_A3 ?_))))); (with_reducible refine i_f (by omega) ?_); (with_reducible refine i_cN (i_A4 ?_)); (with_reducible refine i_f (by omega) ?_); (with_reducible refine i_Seq (i_sCall (i_as1 (i_A3 (i_as1 (i_FR (i_A0 ?_))))))); (with_reducible refine i_fldR (by assumption) ?_); (with_reducible refine i_as0 ?_); (with_reducible refine i_recv0 (by assumption) ?_))
  refine c_build hO hx hs hA (fun M1 f1 g1 => ⟨rfl, ?_⟩)
  ((with_reducible refine i_Seq (i_sCall (i_as1 (i_FR (i_A0 ?_))))); (with_reducible refine i_fldR (by assumption) ?_); (with_reducible refine i_as1 (i_FR (i_A0 ?_))); (with_reducible refine i_fldR (by assumption) ?_); (with_reducible refine i_as1 (i_A4 (i_as0 ?_))); (with_reducible refine i_recv0 (by assumption) ?_))
  refine s_Net_differ hO hs hs hy g1 ((d4 d hdd).to (fun b j a1 a2 => f1 b j (by omega))) (fun M2 f2 g2 => ⟨rfl, ?_⟩)
  ((with_reducible refine i_RetI (i_Call (i_as1 (i_FR (i_A0 ?_))))); (with_reducible refine i_fldR (by assumption) ?_); (with_reducible refine i_as0 ?_); (with_reducible refine i_recv0 (by assumption) ?_))
  refine s_Net_pairs hO hs g2 hn2 ⟨_, rfl, ?_⟩
  rw [zpairs_p2 ((zBd_reg hw).xor hR) hn2]
  (skip)
  exact hk M2 (fun b j q => by rw [f2 b (by simp <;> omega), f1 b j (by omega)])
end
section
-- part h7.aim.lean.txt
/-! ===== the rule looks at the net's own posts alone ===== -/
section TX
variable {n m : Nat} {T U : Nat → Nat → Bool} {g : Nat → Nat}
theorem zrC_T (e : ∀ p q, p < n → q < n → T p q = U p q) : zrC n m T g = zrC n m U g := by
  funext i
  unfold zrC
  rw [zP2_ext (w := zwo g U i i) (fun p q hpq hq => by unfold zwo; rw [e p q (by omega) hq])]
theorem zrD_T (e : ∀ p q, p < n → q < n → T p q = U p q) : zrD n m T g = zrD n m U g := by
  funext i j
  unfold zrD
  rw [zP2_ext (w := zwo g U i j) (fun p q hpq hq => by unfold zwo; rw [e p q (by omega) hq])]
theorem zrc_T (e : ∀ p q, p < n → q < n → T p q = U p q) (S : Nat → Nat → Bool) {p : Nat} (hp : p < n) (i : Nat) : zrc n m T g S p i = zrc n m U g S p i := by
  unfold zrc
  rw [show zrO n T g S p i = zrO n U g S p i from zsI_ext fun q hq => by unfold zrw; rw [e p q hp hq]]
theorem zrI_T (e : ∀ p q, p < n → q < n → T p q = U p q) (S : Nat → Nat → Bool) {p : Nat} (hp : p < n) (i : Nat) : zrI n m T g S p i = zrI n m U g S p i := by
  induction i with
  | zero => rfl
  | succ i ih => rw [zrI_su, zrI_su, ih, zrc_T e _ hp]
theorem zrP_T (e : ∀ p q, p < n → q < n → T p q = U p q) {p : Nat} (hp : p ≤ n) : zrP n m T g p = zrP n m U g p := by
  induction p with
  | zero =>
    show zrS0 n m T g = zrS0 n m U g
    unfold zrS0
    rw [zrC_T e, zrD_T e]
  | succ p ih =>
    show zrI n m T g (zrP n m T g p) p m = zrI n m U g (zrP n m U g p) p m
    rw [ih (by omega), zrI_T e _ (by omega)]
theorem zrG_T (e : ∀ p q, p < n → q < n → T p q = U p q) : zrG n m T g = zrG n m U g := by
  funext p i
  unfold zrG
  by_cases hp : p < n
  · rw [zrP_T e (Nat.le_of_lt hp), zrI_T e _ hp, zrc_T e _ hp]
  · rw [decide_eq_false (fun z => hp z.1), Bool.false_and, Bool.false_and]
theorem zmnF_ext {B : Nat → Bool} {d d' : Nat → Nat} {k : Nat} (h : ∀ p, p < k → d p = d' p) : zmnF B d k = zmnF B d' k := by
  induction k with
  | zero => rfl
  | succ k ih => rw [zmnF_su, zmnF_su, ih (fun p hp => h p (by omega)), h k (by omega)]
theorem zmnF_lt (hn : 0 < n) (B : Nat → Bool) (d : Nat → Nat) : (zmnF B d n).1.toNat < n := by
  rcases zmnF_ok B d n with ⟨h1, -, -⟩ | ⟨p, h1, -, h3, -⟩
  · rw [h1]; exact hn
  · rw [h1]; exact h3
theorem zlyS_T (e : ∀ p q, p < n → q < n → T p q = U p q) {B : Nat → Bool} {first : Nat} (hf : first < n) (k : Nat) : zlyS n B T first k = zlyS n B U first k := by
  induction k with
  | zero => rfl
  | succ k ih =>
    have h1 := zlyS_lt (B := B) (T := T) hf k
    unfold zlyS
    rw [← ih]
    have h2 : znxt n B T (fun q => (zlyS n B T first k).2 q || decide (q = (zlyS n B T first k).1)) (zlyS n B T first k).1 = znxt n B U (fun q => (zlyS n B T first k).2 q || decide (q = (zlyS n B T first k).1)) (zlyS n B T first k).1 := by
      unfold znxt
      rw [zfind_ext (t := fun q => (B q && !((zlyS n B T first k).2 q || decide (q = (zlyS n B T first k).1))) && U (zlyS n B T first k).1 q) (fun q hq => by rw [e _ _ h1 hq])]
    rw [h2]
theorem zrow_T (hn : 0 < n) (e : ∀ p q, p < n → q < n → T p q = U p q) : zrow n g T = zrow n g U := by
  funext i k
  unfold zrow
  have h1 : zmnF (fun p => decide (g p = i)) (zdeg n (fun p => decide (g p = i)) T) n = zmnF (fun p => decide (g p = i)) (zdeg n (fun p => decide (g p = i)) U) n := zmnF_ext fun p hp => zcnt_ext fun q hq => by rw [e p q hp hq]
  rw [← h1, zlyS_T e (zmnF_lt hn _ _)]
theorem zrow_all (hn : 0 < n) (i k : Nat) : zrow n g T i k < n := zlyS_lt (zmnF_lt hn _ _) k
theorem zrh_T (hn : 0 < n) (e : ∀ p q, p < n → q < n → T p q = U p q) (S : Nat → Nat → Bool) (i : Nat) : zrh n m T g S i = zrh n m U g S i := by
  unfold zrh
  rw [zrow_T hn e, show zrK T (zrow n g U i) S (zSz g n i) = zrK U (zrow n g U i) S (zSz g n i) from zsI_ext fun k hk => by unfold zrk; rw [e _ _ (zrow_all hn i k) (zrow_all hn i (k + 1))]]
theorem zrQ_T (hn : 0 < n) (e : ∀ p q, p < n → q < n → T p q = U p q) (i : Nat) : zrQ n m T g i = zrQ n m U g i := by
  induction i with
  | zero => exact zrP_T e (Nat.le_refl _)
  | succ i ih => rw [zrQ_su, zrQ_su, ih, zrh_T hn e, zrow_T hn e]
theorem zrH_T (hn : 0 < n) (e : ∀ p q, p < n → q < n → T p q = U p q) : zrH n m T g = zrH n m U g := by
  funext i
  unfold zrH
  rw [zrQ_T hn e, zrh_T hn e]
theorem zxe_T {S : Nat → Nat → Bool} (e : ∀ p q, p < n → q < n → T p q = U p q) : zxe (fun p q => S p q ^^ T p q) n = zxe (fun p q => S p q ^^ U p q) n := by
  funext p q
  show (if p < q ∧ q < n ∧ (S p q ^^ T p q) = true then 1 else 0) = (if p < q ∧ q < n ∧ (S p q ^^ U p q) = true then 1 else 0)
  by_cases h : p < q ∧ q < n
  · rw [e p q (by omega) h.2]
  · rw [if_neg (fun z => h ⟨z.1, z.2.1⟩), if_neg (fun z => h ⟨z.1, z.2.1⟩)]
theorem zRul_T (hn : 0 < n) (e : ∀ p q, p < n → q < n → T p q = U p q) : zRul n m T g = zRul n m U g := by
  unfold zRul
  rw [zrC_T e, zrD_T e, zrG_T e, zrH_T hn e, zrow_T hn e, show zrSd n m T g = zrSd n m U g from zrQ_T hn e m, zxe_T e]
theorem zRq_T (hn : 0 < n) (e : ∀ p q, p < n → q < n → T p q = U p q) (f : Nat → Nat) : zRq n T f = zRq n U f := zRul_T hn e
end TX
/-! ===== what a telling builds aimed at ===== -/
theorem m_aimAt {O : zOm} (hO : zWld O) (hS : zS O = zmS zC0) {t n : Nat} {A : zTl} {M : zMem} {K : Option zV → zMem → Prop} (ht : t < 7) (hn : M 250 ((1 : Nat) : Int) = ((n : Nat) : Int)) (hn2 : n ≤ 16) (hA : rTe M t n A) (hw : zTw n A) (h01 : ∀ j : Nat, j < 256 → M ((267 : Nat) : Int) ((j : Nat) : Int) = 0 ∨ M ((267 : Nat) : Int) ((j : Nat) : Int) = 1)
    (hk : ∀ M' T', (∀ b j, ¬ (b = 267 ∨ b = 268) → M' b j = M b j) → rMx M' 267 T' → (∀ p q, p < n → q < n → T' p q = zBd n A p q) → K none M') : zR O F_Model_aimAt [(2, 250), (0, ((t : Nat) : Int))] M K := by
  have hT0 : rMx M 267 (fun p q => decide (M ((267 : Nat) : Int) ((16 * p + q : Nat) : Int) = 1)) := fun p q hp hq => by
    rcases h01 (16 * p + q) (by omega) with e | e
    · dsimp only; rw [e]; rfl
    · dsimp only; rw [e]; rfl
  generalize (fun p q : Nat => decide (M ((267 : Nat) : Int) ((16 * p + q : Nat) : Int) = 1)) = T0 at hT0
  have hzr := (zBd_reg hw).2.1
  apply r_Model_aimAt hO
  unfold B_Model_aimAt
  have f1 := zMF (k := 1) hS rfl; have f21 := zMF (k := 21) hS rfl; have a267 := zMA (a := 267) (ty := .boolean) (n := 256) hS rfl; have zo := zMO hS
  ((with_reducible refine i_Seq (i_Seq (i_sCall (i_as1 (i_A0 (i_as1 (i_L1 (i_as0 ?_)))))))); (with_reducible refine i_recv0 (by assumption) ?_))
  refine m_hearA hO hS ht hn hn2 hA hw (fun M1 f1' S1 => ⟨rfl, ?_⟩)
  ((with_reducible refine i_Blk (i_Seq (i_Set (i_I ?_)))); simp only [w_set0, w_set1, w_setn0, w_setn1])
  refine w_ForN n (fun a ρ M' => (∃ l, ρ = 250 :: ((t : Nat) : Int) :: ((a : Nat) : Int) :: l) ∧ (∀ b j, ¬ b = 267 → M' b j = M1 b j) ∧ rMx M' 267 (fun p q => if p < a ∧ q < n then zBd n A p q else T0 p q)) ⟨⟨_, rfl⟩, fun _ _ _ => rfl, (hT0.to (fun j => f1' _ _ (by omega))).ext (fun p q _ _ => by rw [if_neg (by omega)])⟩ ?_ ?_
  · rintro a ρ M2 X ha ⟨⟨l, rfl⟩, f2, g2⟩ hX
    have n2 : M2 250 ((1 : Nat) : Int) = ((n : Nat) : Int) := by rw [f2 _ _ (by omega), f1' _ _ (by omega)]; exact hn
    ((with_reducible refine i_turn (i_cI_lt (i_L2 (i_F (i_A0 ?_))))); (with_reducible refine i_fld (by assumption) ?_); (rw [n2]); (with_reducible refine i_t (by omega) ?_); (with_reducible refine i_Blk (i_Seq (i_Set (i_I ?_)))); simp only [w_set0, w_set1, w_setn0, w_setn1]; rw [w_setT])
    refine w_ForN n (fun b ρ M' => (∃ l, ρ = 250 :: ((t : Nat) : Int) :: ((a : Nat) : Int) :: ((b : Nat) : Int) :: l) ∧ (∀ b j, ¬ b = 267 → M' b j = M1 b j) ∧ rMx M' 267 (fun p q => if (p < a ∨ p = a ∧ q < b) ∧ q < n then zBd n A p q else T0 p q)) ⟨⟨_, rfl⟩, f2, g2.ext (fun p q _ _ => by
      by_cases e : p < a ∧ q < n
      · rw [if_pos e, if_pos (by omega)]
      · rw [if_neg e, if_neg (by omega)])⟩ ?_ ?_
    · rintro b ρ M3 X3 hb ⟨⟨l3, rfl⟩, f3, g3⟩ hX3
      have n3 : M3 250 ((1 : Nat) : Int) = ((n : Nat) : Int) := by rw [f3 _ _ (by omega), f1' _ _ (by omega)]; exact hn
      have hA3 : rTe M3 t n A := hA.to hn2 hw (fun b j q => by rw [f3 b j (by omega), f1' b j (by omega)])
      have S3 : rMx M3 268 (tS n A) := S1.to (fun j => f3 _ _ (by omega))
      have fin : ∀ x : Int, x = zbI (zBd n A a b) → rMx (zput M3 ((267 : Nat) : Int) (zup (M3 ((267 : Nat) : Int)) ((16 * a + b : Nat) : Int) x)) 267 (fun p q => if (p < a ∨ p = a ∧ q < b + 1) ∧ q < n then zBd n A p q else T0 p q) := fun x hx => (g3.up (by omega) (by omega) hx).ext (fun p q _ _ => by
        unfold zmu
        by_cases e : p = a ∧ q = b
        · obtain ⟨rfl, rfl⟩ := e
          rw [if_pos ⟨rfl, rfl⟩, if_pos ⟨Or.inr ⟨rfl, by omega⟩, by omega⟩]
        · rw [if_neg e]
          dsimp only
          by_cases w : (p < a ∨ p = a ∧ q < b) ∧ q < n
          · rw [if_pos w, if_pos (by omega)]
          · rw [if_neg w, if_neg (by omega)])
      by_cases hab : a = b
      · subst hab
        rw [hzr a] at fin
        ((with_reducible refine i_turn (i_cI_lt (i_L3 (i_F (i_A0 ?_))))); (with_reducible refine i_fld (by assumption) ?_); (rw [n3]); (with_reducible refine i_t (by omega) ?_); (with_reducible refine i_sZA (i_FR (i_A0 ?_))); (with_reducible refine i_fldR (by assumption) ?_); (with_reducible refine i_Add (i_Mul (i_I (i_L2 (i_L3 (i_eIf (i_cAnd (i_cI_ne (i_L2 (i_L3 ?_)))))))))); rw [zx_cmul (by omega)]; rw [zx_add (by omega)]; (with_reducible refine i_f (by omega) ?_); (with_reducible refine i_I ?_); (with_reducible refine i_zin (Or.inl rfl) (by assumption) (by omega) (by omega) ?_); (with_reducible refine i_up (i_Inc3 ?_)); rw [zx_inc (by omega)]; simp only [w_set0, w_set1, w_setn0, w_setn1])
        exact hX3 _ _ ⟨⟨_, rfl⟩, fun b j q => by rw [zg_n _ _ _ (by omega)]; exact f3 b j q, fin 0 rfl⟩
      · ((with_reducible refine i_turn (i_cI_lt (i_L3 (i_F (i_A0 ?_))))); (with_reducible refine i_fld (by assumption) ?_); (rw [n3]); (with_reducible refine i_t (by omega) ?_); (with_reducible refine i_sZA (i_FR (i_A0 ?_))); (with_reducible refine i_fldR (by assumption) ?_); (with_reducible refine i_Add (i_Mul (i_I (i_L2 (i_L3 (i_eIf (i_cAnd (i_cI_ne (i_L2 (i_L3 ?_)))))))))); rw [zx_cmul (by omega)]; rw [zx_add (by omega)]; (with_reducible refine i_t (by omega) ?_); (with_reducible refine i_cZ_ne (i_Call (i_as1 (i_A0 (i_as1 (i_L1 (i_as1 (i_L2 (i_as1 (i_L3 (i_as0 ?_))))))))))); (with_reducible refine i_recv0 (by assumption) ?_); (refine m_builds hO hS ht hA3 S3 (by omega) (by omega) ⟨_, rfl, ?_⟩))
        generalize zBd n A a b = v at fin ⊢
        cases v
        · (rw [zbI_f]; (with_reducible refine i_f (by omega) ?_); (with_reducible refine i_I ?_); (with_reducible refine i_zin (Or.inl rfl) (by assumption) (by omega) (by omega) ?_); (with_reducible refine i_up (i_Inc3 ?_)); rw [zx_inc (by omega)]; simp only [w_set0, w_set1, w_setn0, w_setn1])
          exact hX3 _ _ ⟨⟨_, rfl⟩, fun b j q => by rw [zg_n _ _ _ (by omega)]; exact f3 b j q, fin 0 rfl⟩
        · (rw [zbI_t]; (with_reducible refine i_t (by omega) ?_); (with_reducible refine i_I ?_); (with_reducible refine i_zin (Or.inr rfl) (by assumption) (by omega) (by omega) ?_); (with_reducible refine i_up (i_Inc3 ?_)); rw [zx_inc (by omega)]; simp only [w_set0, w_set1, w_setn0, w_setn1])
          exact hX3 _ _ ⟨⟨_, rfl⟩, fun b j q => by rw [zg_n _ _ _ (by omega)]; exact f3 b j q, fin 1 rfl⟩
    · rintro ρ M3 X3 ⟨⟨l3, rfl⟩, f3, g3⟩
      have n3 : M3 250 ((1 : Nat) : Int) = ((n : Nat) : Int) := by rw [f3 _ _ (by omega), f1' _ _ (by omega)]; exact hn
      ((with_reducible refine i_turn (i_cI_lt (i_L3 (i_F (i_A0 ?_))))); (with_reducible refine i_fld (by assumption) ?_); (rw [n3]); (with_reducible refine i_f (by omega) ?_); (with_reducible refine i_up (i_Inc2 ?_)); rw [zx_inc (by omega)]; simp only [w_set0, w_set1, w_setn0, w_setn1])
      refine hX _ _ ⟨⟨_, rfl⟩, f3, g3.ext (fun p q _ _ => ?_)⟩
      by_cases e : p < a + 1 ∧ q < n
      · rw [if_pos e, if_pos (by omega)]
      · rw [if_neg e, if_neg (by omega)]
  · rintro ρ M2 X ⟨⟨l, rfl⟩, f2, g2⟩
    have n2 : M2 250 ((1 : Nat) : Int) = ((n : Nat) : Int) := by rw [f2 _ _ (by omega), f1' _ _ (by omega)]; exact hn
    ((with_reducible refine i_turn (i_cI_lt (i_L2 (i_F (i_A0 ?_))))); (with_reducible refine i_fld (by assumption) ?_); (rw [n2]); (with_reducible refine i_f (by omega) ?_); (with_reducible refine i_RetV ?_))
    exact hk M2 _ (fun b j q => by rw [f2 b j (by omega), f1' b j (by omega)]) g2 (fun p q hp hq => if_pos ⟨hp, hq⟩)
end
section
-- part h8.join.lean.txt
/-! ===== together, apart: both sides ===== -/
theorem zjc_cg {n a b : Nat} {A : zTl} {T : Nat → Nat → Bool} (hn : 0 < n) (hw : zTw n A) : zRq n T (zjc (zcg n (tf A)) a b) = zRq n T (zjc (tf A) a b) := zRq_ext hn (fun p q hp hq => by
  unfold zjc
  rw [zcg_in hp, zcg_in hq, (hw.1.2.2 p hp).2, (hw.1.2.2 q hq).2])
/-- a post taken out -/
def zap (A : zTl) (r : Nat) : Nat → Nat := fun q => if q = r then tm A else tf A q
theorem zap_cg {n r : Nat} {A : zTl} {T : Nat → Nat → Bool} (hn : 0 < n) (hw : zTw n A) : zRq n T (fun q => if q = r then 16 else zcg n (tf A) q) = zRq n T (zap A r) := zRq_ext hn (fun p q hp hq => by
  have h1 := (hw.1.2.2 p hp)
  have h2 := (hw.1.2.2 q hq)
  have h3 := hw.1.1
  unfold zap
  try dsimp only
  rw [zcg_in hp, zcg_in hq, h1.2, h2.2]
  split <;> split <;> omega)
theorem zSz_cg {n r : Nat} {A : zTl} (hw : zTw n A) (hr : r < n) : zSz (zcg n (tf A)) n (zcg n (tf A) r) = zSz (tf A) n (tf A r) := zcnt_ext fun q hq => by rw [zcg_in hq, zcg_in hr, (hw.1.2.2 q hq).2, (hw.1.2.2 r hr).2]
theorem m_together_bad {O : zOm} (hO : zWld O) (hS : zS O = zmS zC0) {t a b : Int} {T : Nat} {A : Nat → zTl} {M : zMem} {K : Option zV → zMem → Prop} (hT : M 250 ((11 : Nat) : Int) = ((T : Nat) : Int)) (hT5 : T ≤ 5) (hA : ∀ t : Nat, t < T → M ((258 : Nat) : Int) ((t : Nat) : Int) = ((tm (A t) : Nat) : Int)) (hb : ∀ t' : Nat, t = ((t' : Nat) : Int) → t' < T → ¬ ((0 ≤ a ∧ a < ((tm (A t') : Nat) : Int)) ∧ (0 ≤ b ∧ b < ((tm (A t') : Nat) : Int)) ∧ a ≠ b)) (hk : K (some (0, -1)) M) : zR O F_Model_together [(2, 250), (0, t), (0, a), (0, b)] M K := by
  apply r_Model_together hO
  unfold B_Model_together
  have f1 := zMF (k := 1) hS rfl; have f26 := zMF (k := 26) hS rfl; have a272 := zMA (a := 272) (ty := .int) (n := 16) hS rfl; have zo := zMO hS
  by_cases ht : 0 ≤ t ∧ t < ((T : Nat) : Int)
  · obtain ⟨t, rfl⟩ : ∃ t' : Nat, t = ((t' : Nat) : Int) := ⟨t.toNat, by omega⟩
    have h1 := hA t (by omega)
    have h2 := hb t rfl (by omega)
    by_cases e1 : 0 ≤ a ∧ a < ((tm (A t) : Nat) : Int)
    · by_cases e2 : 0 ≤ b ∧ b < ((tm (A t) : Nat) : Int)
      · ((with_reducible refine i_Seq (i_If (i_cOr (i_cOr (i_cNot (i_cZ_ne (i_Call (i_as1 (i_A0 (i_as1 (i_L1 (i_as1 (i_L2 (i_as0 ?_)))))))))))))); (with_reducible refine i_recv0 (by assumption) ?_); (refine m_isBox hO hS hT hT5 (by omega) h1 ⟨_, rfl, ?_⟩); (rw [decide_eq_true e1]); rw [zbI_t]; (with_reducible refine i_t (by omega) ?_); (with_reducible refine i_cNot (i_cZ_ne (i_Call (i_as1 (i_A0 (i_as1 (i_L1 (i_as1 (i_L3 (i_as0 ?_)))))))))); (with_reducible refine i_recv0 (by assumption) ?_); (refine m_isBox hO hS hT hT5 (by omega) h1 ⟨_, rfl, ?_⟩); (rw [decide_eq_true e2]); rw [zbI_t]; (with_reducible refine i_t (by omega) ?_); (with_reducible refine i_cI_eq (i_L2 (i_L3 ?_))); (with_reducible refine i_t (by omega) ?_); (with_reducible refine i_RetI (i_I ?_)))
        exact hk
      · ((with_reducible refine i_Seq (i_If (i_cOr (i_cOr (i_cNot (i_cZ_ne (i_Call (i_as1 (i_A0 (i_as1 (i_L1 (i_as1 (i_L2 (i_as0 ?_)))))))))))))); (with_reducible refine i_recv0 (by assumption) ?_); (refine m_isBox hO hS hT hT5 (by omega) h1 ⟨_, rfl, ?_⟩); (rw [decide_eq_true e1]); rw [zbI_t]; (with_reducible refine i_t (by omega) ?_); (with_reducible refine i_cNot (i_cZ_ne (i_Call (i_as1 (i_A0 (i_as1 (i_L1 (i_as1 (i_L3 (i_as0 ?_)))))))))); (with_reducible refine i_recv0 (by assumption) ?_); (refine m_isBox hO hS hT hT5 (by omega) h1 ⟨_, rfl, ?_⟩); (rw [decide_eq_false e2]); rw [zbI_f]; (with_reducible refine i_f (by omega) ?_); (with_reducible refine i_RetI (i_I ?_)))
        exact hk
    · ((with_reducible refine i_Seq (i_If (i_cOr (i_cOr (i_cNot (i_cZ_ne (i_Call (i_as1 (i_A0 (i_as1 (i_L1 (i_as1 (i_L2 (i_as0 ?_)))))))))))))); (with_reducible refine i_recv0 (by assumption) ?_); (refine m_isBox hO hS hT hT5 (by omega) h1 ⟨_, rfl, ?_⟩); (rw [decide_eq_false e1]); rw [zbI_f]; (with_reducible refine i_f (by omega) ?_); (with_reducible refine i_RetI (i_I ?_)))
      exact hk
  · ((with_reducible refine i_Seq (i_If (i_cOr (i_cOr (i_cNot (i_cZ_ne (i_Call (i_as1 (i_A0 (i_as1 (i_L1 (i_as1 (i_L2 (i_as0 ?_)))))))))))))); (with_reducible refine i_recv0 (by assumption) ?_); (refine m_isBox_bad hO hS hT ht ⟨_, rfl, ?_⟩); (with_reducible refine i_f (by omega) ?_); (with_reducible refine i_RetI (i_I ?_)))
    exact hk
theorem m_together {O : zOm} (hO : zWld O) (hS : zS O = zmS zC0) {t T n x y : Nat} {A : zTl} {M : zMem} {K : Option zV → zMem → Prop} (hT : M 250 ((11 : Nat) : Int) = ((T : Nat) : Int)) (hT5 : T ≤ 5) (ht : t < T) (hn : M 250 ((1 : Nat) : Int) = ((n : Nat) : Int)) (hn1 : 0 < n) (hn2 : n ≤ 16) (hA : rTe M t n A) (hw : zTw n A) (h01 : ∀ j : Nat, j < 256 → M ((267 : Nat) : Int) ((j : Nat) : Int) = 0 ∨ M ((267 : Nat) : Int) ((j : Nat) : Int) = 1) (hx : x < tm A) (hy : y < tm A) (hxy : x ≠ y)
    (hk : ∀ M', (∀ b j, ¬ ((b = 258 ∧ j = ((t : Nat) : Int) ∨ (b = 259 ∨ b = 260 ∨ b = 262 ∨ b = 263) ∧ ((16 * t : Nat) : Int) ≤ j ∧ j < ((16 * t + 16 : Nat) : Int) ∨ (b = 261 ∨ b = 264 ∨ b = 265 ∨ b = 266) ∧ ((256 * t : Nat) : Int) ≤ j ∧ j < ((256 * t + 256 : Nat) : Int)) ∨ ((267 : Nat) : Int) ≤ b ∧ b ≤ ((272 : Nat) : Int) ∨ b = 283 ∨ b = 284) → M' b j = M b j) → rTe M' t n (zRq n (zBd n A) (zjc (tf A) x y)) → K (some (0, ((zLgt n (zBd n A) (zjc (tf A) x y) : Nat) : Int))) M') : zR O F_Model_together [(2, 250), (0, ((t : Nat) : Int)), (0, ((x : Nat) : Int)), (0, ((y : Nat) : Int))] M K := by
  have h1 := hA.1.1
  have hm := hw.1.1
  apply r_Model_together hO
  unfold B_Model_together
  have f1 := zMF (k := 1) hS rfl; have f26 := zMF (k := 26) hS rfl; have a272 := zMA (a := 272) (ty := .int) (n := 16) hS rfl; have zo := zMO hS
  ((with_reducible refine i_Seq (i_If (i_cOr (i_cOr (i_cNot (i_cZ_ne (i_Call (i_as1 (i_A0 (i_as1 (i_L1 (i_as1 (i_L2 (i_as0 ?_)))))))))))))); (with_reducible refine i_recv0 (by assumption) ?_); (refine m_isBox hO hS hT hT5 ht h1 ⟨_, rfl, ?_⟩); (rw [decide_eq_true (show 0 ≤ ((x : Nat) : Int) ∧ ((x : Nat) : Int) < ((tm A : Nat) : Int) by omega)]); rw [zbI_t]; (with_reducible refine i_t (by omega) ?_); (with_reducible refine i_cNot (i_cZ_ne (i_Call (i_as1 (i_A0 (i_as1 (i_L1 (i_as1 (i_L3 (i_as0 ?_)))))))))); (with_reducible refine i_recv0 (by assumption) ?_); (refine m_isBox hO hS hT hT5 ht h1 ⟨_, rfl, ?_⟩); (rw [decide_eq_true (show 0 ≤ ((y : Nat) : Int) ∧ ((y : Nat) : Int) < ((tm A : Nat) : Int) by omega)]); rw [zbI_t]; (with_reducible refine i_t (by omega) ?_); (with_reducible refine i_cI_eq (i_L2 (i_L3 ?_))); (with_reducible refine i_f (by omega) ?_); (with_reducible refine i_Seq (i_sCall (i_as1 (i_A0 (i_as1 (i_L1 (i_as0 ?_))))))); (with_reducible refine i_recv0 (by assumption) ?_))
  refine m_aimAt hO hS (by omega) hn hn2 hA hw h01 (fun M1 T1 f1' g1 e1 => ⟨rfl, ?_⟩)
  have n1 : M1 250 ((1 : Nat) : Int) = ((n : Nat) : Int) := by rw [f1' _ _ (by omega)]; exact hn
  have A1 : rTe M1 t n A := hA.to hn2 hw (fun b j q => f1' b j (by omega))
  ((with_reducible refine i_Seq (i_sCall (i_as1 (i_A0 (i_as1 (i_L1 (i_as0 ?_))))))); (with_reducible refine i_recv0 (by assumption) ?_))
  refine m_labelsOf hO hS (by omega) n1 hn2 A1.1.2.1 (fun M2 f2 g2 => ⟨rfl, ?_⟩)
  ((with_reducible refine i_Seq (i_Blk (i_Seq (i_Set (i_I ?_))))); simp only [w_set0, w_set1, w_setn0, w_setn1])
  refine w_ForN n (fun k ρ M' => (∃ l, ρ = 250 :: ((t : Nat) : Int) :: ((x : Nat) : Int) :: ((y : Nat) : Int) :: ((k : Nat) : Int) :: l) ∧ (∀ b j, ¬ b = 272 → M' b j = M2 b j) ∧ ∀ p : Nat, p < n → M' ((272 : Nat) : Int) ((p : Nat) : Int) = ((if p < k then zjc (tf A) x y p else tf A p : Nat) : Int)) ⟨⟨_, rfl⟩, fun _ _ _ => rfl, fun p hp => by rw [if_neg (by omega)]; exact g2 p hp⟩ ?_ ?_
  · rintro k ρ M3 X hk1 ⟨⟨l, rfl⟩, f3, g3⟩ hX
    have n3 : M3 250 ((1 : Nat) : Int) = ((n : Nat) : Int) := by rw [f3 _ _ (by omega), f2 _ _ (by omega)]; exact n1
    have v3 := g3 k hk1
    rw [if_neg (Nat.lt_irrefl _)] at v3
    by_cases e : tf A k = y
    · have hz : zjc (tf A) x y k = x := if_pos e
      ((with_reducible refine i_turn (i_cI_lt (i_L4 (i_F (i_A0 ?_))))); (with_reducible refine i_fld (by assumption) ?_); (rw [n3]); (with_reducible refine i_t (by omega) ?_); (with_reducible refine i_If (i_cI_eq (i_IA (i_FR (i_A0 ?_))))); (with_reducible refine i_fldR (by assumption) ?_); (with_reducible refine i_L4 ?_); (with_reducible refine i_in (by assumption) (by omega) (by omega) ?_); (with_reducible refine i_L3 ?_); (rw [v3]); (with_reducible refine i_t (by omega) ?_); (with_reducible refine i_sIA (i_FR (i_A0 ?_))); (with_reducible refine i_fldR (by assumption) ?_); (with_reducible refine i_L4 (i_L2 ?_)); (with_reducible refine i_in (by assumption) (by omega) (by omega) ?_); (with_reducible refine i_up (i_Inc4 ?_)); rw [zx_inc (by omega)]; simp only [w_set0, w_set1, w_setn0, w_setn1])
      refine hX _ _ ⟨⟨_, rfl⟩, fun b j q => by rw [zg_n _ _ _ (by omega)]; exact f3 b j q, fun p hp => ?_⟩
      by_cases w : p = k
      · subst w; rw [zg_s, if_pos (by omega), hz]
      · rw [zg_m _ _ _ _ _ (by omega), g3 p hp]
        by_cases w2 : p < k
        · rw [if_pos w2, if_pos (by omega)]
        · rw [if_neg w2, if_neg (by omega)]
    · have hz : zjc (tf A) x y k = tf A k := if_neg e
      ((with_reducible refine i_turn (i_cI_lt (i_L4 (i_F (i_A0 ?_))))); (with_reducible refine i_fld (by assumption) ?_); (rw [n3]); (with_reducible refine i_t (by omega) ?_); (with_reducible refine i_If (i_cI_eq (i_IA (i_FR (i_A0 ?_))))); (with_reducible refine i_fldR (by assumption) ?_); (with_reducible refine i_L4 ?_); (with_reducible refine i_in (by assumption) (by omega) (by omega) ?_); (with_reducible refine i_L3 ?_); (rw [v3]); (with_reducible refine i_f (by omega) ?_); (with_reducible refine i_up (i_Inc4 ?_)); rw [zx_inc (by omega)]; simp only [w_set0, w_set1, w_setn0, w_setn1])
      refine hX _ _ ⟨⟨_, rfl⟩, f3, fun p hp => ?_⟩
      rw [g3 p hp]
      by_cases w : p = k
      · subst w; rw [if_neg (Nat.lt_irrefl _), if_pos (by omega), hz]
      · by_cases w2 : p < k
        · rw [if_pos w2, if_pos (by omega)]
        · rw [if_neg w2, if_neg (by omega)]
  · rintro ρ M3 X ⟨⟨l, rfl⟩, f3, g3⟩
    have n3 : M3 250 ((1 : Nat) : Int) = ((n : Nat) : Int) := by rw [f3 _ _ (by omega), f2 _ _ (by omega)]; exact n1
    have gl : rLab M3 n (zjc (tf A) x y) := fun p hp => by rw [g3 p hp, if_pos hp]
    ((with_reducible refine i_turn (i_cI_lt (i_L4 (i_F (i_A0 ?_))))); (with_reducible refine i_fld (by assumption) ?_); (rw [n3]); (with_reducible refine i_f (by omega) ?_); (with_reducible refine i_Seq (i_sCall (i_as1 (i_A0 (i_as1 (i_L1 (i_as0 ?_))))))); (with_reducible refine i_recv0 (by assumption) ?_))
    refine m_settle hO hS (by omega) n3 hn2 gl (zjc_16 (by omega) hw.f16) (g1.to (fun j => by rw [f3 _ _ (by omega), f2 _ _ (by omega)])) (fun M4 f4 g4 => ⟨rfl, ?_⟩)
    rw [zRq_T hn1 e1] at g4
    have n4 : M4 250 ((1 : Nat) : Int) = ((n : Nat) : Int) := by rw [f4 _ _ (by omega)]; exact n3
    ((with_reducible refine i_RetI (i_Call (i_as1 (i_A0 (i_as1 (i_L1 (i_as0 ?_))))))); (with_reducible refine i_recv0 (by assumption) ?_))
    refine m_lengthOf hO hS (by omega) n4 hn2 g4 (zRq_w hn2) (fun M5 f5 _ _ => ⟨_, rfl, ?_⟩)
    rw [tLen_rq hn2]
    (skip)
    exact hk M5 (fun b j q => by rw [f5 b j (by omega), f4 b j (by omega), f3 b j (by omega), f2 b j (by omega), f1' b j (by omega)]) (g4.to hn2 (zRq_w hn2) (fun b j q => f5 b j (by omega)))
theorem c_together_bad {O : zOm} (hO : zWld O) (hS : zS O = zmS zC0) {t a b : Int} {T n : Nat} {A : Nat → zTl} {M : zMem} {K : Option zV → zMem → Prop} (hT : M ((0 : Nat) : Int) ((4 : Nat) : Int) = ((T : Nat) : Int)) (hT5 : T ≤ 5) (hA : ∀ t : Nat, t < T → zTR M (185 + 13 * t) n (A t)) (hb : ∀ t' : Nat, t = ((t' : Nat) : Int) → t' < T → ¬ ((0 ≤ a ∧ a < ((tm (A t') : Nat) : Int)) ∧ (0 ≤ b ∧ b < ((tm (A t') : Nat) : Int)) ∧ a ≠ b)) (hk : K (some (0, -1)) M) : zR O F_ToldNet_together [(2, ((0 : Nat) : Int)), (0, t), (0, a), (0, b)] M K := by
  apply r_ToldNet_together hO
  unfold B_ToldNet_together
  have f0_13 := zf_0_13 hS; have f0_6 := zf_0_6 hS; have z0 := zo_0 hS
  ((with_reducible refine i_Seq (i_Set (i_Call (i_as1 (i_A0 (i_as1 (i_L1 (i_as0 ?_)))))))); (with_reducible refine i_recv0 (by assumption) ?_); simp only [w_set0, w_set1, w_setn0, w_setn1])
  refine c_find hO hS hT hT5 (fun hx => ⟨_, rfl, ?_⟩) (fun k e hk1 => ⟨_, rfl, ?_⟩)
  · ((with_reducible refine i_Seq (i_If (i_cOr (i_cOr (i_cOr (i_cN (i_A4 ?_))))))); simp only [w_set0, w_set1, w_setn0, w_setn1]; (with_reducible refine i_t trivial ?_); (with_reducible refine i_RetI (i_I ?_)))
    exact hk
  · obtain ⟨⟨x0, x1, x2, x3, x4, x5, x6, x7⟩, -, hP, -⟩ := zTelT hS (show k < 5 by omega)
    have p0 := hP.1
    have h1 := (hA k hk1).1.2.1
    have h2 := hb k e hk1
    by_cases e1 : 0 ≤ a ∧ a < ((tm (A k) : Nat) : Int)
    · by_cases e2 : 0 ≤ b ∧ b < ((tm (A k) : Nat) : Int)
      · ((with_reducible refine i_Seq (i_If (i_cOr (i_cOr (i_cOr (i_cN (i_A4 ?_))))))); (with_reducible refine i_f (by omega) ?_); (with_reducible refine i_cNot (i_cZ_ne (i_Call (i_as1 (i_FR (i_A4 ?_)))))); (with_reducible refine i_fldR (by assumption) ?_); (with_reducible refine i_as1 (i_L2 (i_as0 ?_))); (with_reducible refine i_recv0 (by assumption) ?_); (refine c_isBox hO hP h1 ⟨_, rfl, ?_⟩); (rw [decide_eq_true e1]); rw [zbI_t]; (with_reducible refine i_t (by omega) ?_); (with_reducible refine i_cNot (i_cZ_ne (i_Call (i_as1 (i_FR (i_A4 ?_)))))); (with_reducible refine i_fldR (by assumption) ?_); (with_reducible refine i_as1 (i_L3 (i_as0 ?_))); (with_reducible refine i_recv0 (by assumption) ?_); (refine c_isBox hO hP h1 ⟨_, rfl, ?_⟩); (rw [decide_eq_true e2]); rw [zbI_t]; (with_reducible refine i_t (by omega) ?_); (with_reducible refine i_cI_eq (i_L2 (i_L3 ?_))); (with_reducible refine i_t (by omega) ?_); (with_reducible refine i_RetI (i_I ?_)))
        exact hk
      · ((with_reducible refine i_Seq (i_If (i_cOr (i_cOr (i_cOr (i_cN (i_A4 ?_))))))); (with_reducible refine i_f (by omega) ?_); (with_reducible refine i_cNot (i_cZ_ne (i_Call (i_as1 (i_FR (i_A4 ?_)))))); (with_reducible refine i_fldR (by assumption) ?_); (with_reducible refine i_as1 (i_L2 (i_as0 ?_))); (with_reducible refine i_recv0 (by assumption) ?_); (refine c_isBox hO hP h1 ⟨_, rfl, ?_⟩); (rw [decide_eq_true e1]); rw [zbI_t]; (with_reducible refine i_t (by omega) ?_); (with_reducible refine i_cNot (i_cZ_ne (i_Call (i_as1 (i_FR (i_A4 ?_)))))); (with_reducible refine i_fldR (by assumption) ?_); (with_reducible refine i_as1 (i_L3 (i_as0 ?_))); (with_reducible refine i_recv0 (by assumption) ?_); (refine c_isBox hO hP h1 ⟨_, rfl, ?_⟩); (rw [decide_eq_false e2]); rw [zbI_f]; (with_reducible refine i_f (by omega) ?_); (with_reducible refine i_RetI (i_I ?_)))
        exact hk
    · ((with_reducible refine i_Seq (i_If (i_cOr (i_cOr (i_cOr (i_cN (i_A4 ?_))))))); (with_reducible refine i_f (by omega) ?_); (with_reducible refine i_cNot (i_cZ_ne (i_Call (i_as1 (i_FR (i_A4 ?_)))))); (with_reducible refine i_fldR (by assumption) ?_); (with_reducible refine i_as1 (i_L2 (i_as0 ?_))); (with_reducible refine i_recv0 (by assumption) ?_); (refine c_isBox hO hP h1 ⟨_, rfl, ?_⟩); (rw [decide_eq_false e1]); rw [zbI_f]; (with_reducible refine i_f (by omega) ?_); (with_reducible refine i_RetI (i_I ?_)))
      exact hk
theorem c_together {O : zOm} (hO : zWld O) (hS : zS O = zmS zC0) {t T n x y : Nat} {A : zTl} {M : zMem} {K : Option zV → zMem → Prop} (hT : M ((0 : Nat) : Int) ((4 : Nat) : Int) = ((T : Nat) : Int)) (hT5 : T ≤ 5) (ht : t < T) (hn1 : 0 < n) (hn2 : n ≤ 16) (hA : zTR M (185 + 13 * t) n A) (hw : zTw n A) (hx : x < tm A) (hy : y < tm A) (hxy : x ≠ y)
    (hk : ∀ M', (∀ b j, ¬ (b = ((106 : Nat) : Int) ∨ b = ((107 : Nat) : Int) ∨ ((183 : Nat) : Int) ≤ b ∧ b ≤ ((184 : Nat) : Int) ∨ ((185 + 13 * t : Nat) : Int) ≤ b ∧ b ≤ ((197 + 13 * t : Nat) : Int)) → M' b j = M b j) → zTR M' (185 + 13 * t) n (zRq n (zBd n A) (zjc (tf A) x y)) → K (some (0, ((zLgt n (zBd n A) (zjc (tf A) x y) : Nat) : Int))) M') : zR O F_ToldNet_together [(2, ((0 : Nat) : Int)), (0, ((t : Nat) : Int)), (0, ((x : Nat) : Int)), (0, ((y : Nat) : Int))] M K := by
  have hxT := zTelT hS (show t < 5 by omega)
  obtain ⟨⟨x0, x1, x2, x3, x4, x5, x6, x7⟩, -, hP, -⟩ := id hxT
  have p0 := hP.1
  have h1 := hA.1.2.1
  have hm := hw.1.1
  have hs := zNet183 hS
  have o106 := zo_106 hS
  apply r_ToldNet_together hO
  unfold B_ToldNet_together
  have f0_13 := zf_0_13 hS; have f0_6 := zf_0_6 hS; have z0 := zo_0 hS
  ((with_reducible refine i_Seq (i_Set (i_Call (i_as1 (i_A0 (i_as1 (i_L1 (i_as0 ?_)))))))); (with_reducible refine i_recv0 (by assumption) ?_); simp only [w_set0, w_set1, w_setn0, w_setn1])
  refine c_find hO hS hT hT5 (fun hx => absurd (show 0 ≤ ((t : Nat) : Int) ∧ ((t : Nat) : Int) < ((T : Nat) : Int) by omega) hx) (fun k e hk1 => ⟨_, rfl, ?_⟩)
  rw [show k = t by omega]
  ((with_reducible refine i_Seq (i_If (i_cOr (i_cOr (i_cOr (i_cN (i_A4 ?_))))))); (with_reducible refine i_f (by omega) ?_); (with_reducible refine i_cNot (i_cZ_ne (i_Call (i_as1 (i_FR (i_A4 ?_)))))); (with_reducible refine i_fldR (by assumption) ?_); (with_reducible refine i_as1 (i_L2 (i_as0 ?_))); (with_reducible refine i_recv0 (by assumption) ?_); (refine c_isBox hO hP h1 ⟨_, rfl, ?_⟩); (rw [decide_eq_true (show 0 ≤ ((x : Nat) : Int) ∧ ((x : Nat) : Int) < ((tm A : Nat) : Int) by omega)]); rw [zbI_t]; (with_reducible refine i_t (by omega) ?_); (with_reducible refine i_cNot (i_cZ_ne (i_Call (i_as1 (i_FR (i_A4 ?_)))))); (with_reducible refine i_fldR (by assumption) ?_); (with_reducible refine i_as1 (i_L3 (i_as0 ?_))); (with_reducible refine i_recv0 (by assumption) ?_); (refine c_isBox hO hP h1 ⟨_, rfl, ?_⟩); (rw [decide_eq_true (show 0 ≤ ((y : Nat) : Int) ∧ ((y : Nat) : Int) < ((tm A : Nat) : Int) by omega)]); rw [zbI_t]; (with_reducible refine i_t (by omega) ?_); (with_reducible refine i_cI_eq (i_L2 (i_L3 ?_))); (with_reducible refine i_f (by omega) ?_); (with_reducible refine i_Seq (i_sCall (i_as1 (i_A4 (i_as1 (i_FR (i_A0 ?_))))))); (with_reducible refine i_fldR (by assumption) ?_); (with_reducible refine i_as0 ?_); (with_reducible refine i_recv0 (by assumption) ?_))
  refine c_build hO hxT hs hA (fun M1 f1 g1 => ⟨rfl, ?_⟩)
  ((with_reducible refine i_Seq (i_sCall (i_as1 (i_FR (i_A4 ?_))))); (with_reducible refine i_fldR (by assumption) ?_); (with_reducible refine i_as1 (i_L2 (i_as1 (i_L3 (i_as0 ?_))))); (with_reducible refine i_recv0 (by assumption) ?_))
  refine c_pjoin hO hP hn1 hn2 ((hA.pc hw).fr (fun b j a1 a2 => f1 b j (by omega))) (show x ≤ 16 by omega) (show y ≤ 16 by omega) (fun M2 f2 g2 => ⟨rfl, ?_⟩)
  ((with_reducible refine i_RetI (i_Call (i_as1 (i_FR (i_A0 ?_))))); (with_reducible refine i_fldR (by assumption) ?_); (with_reducible refine i_as1 (i_FR (i_A0 ?_))); (with_reducible refine i_fldR (by assumption) ?_); (with_reducible refine i_as1 (i_A4 (i_as0 ?_))); (with_reducible refine i_recv0 (by assumption) ?_))
  refine c_tellA hO (zRl_106 hS) hxT hs (by omega) (by omega) (by omega) (g1.to (fun b j a1 a2 => f2 b j (by omega))) (zBd_reg hw) g2 hn2 (fun M3 f3 g3 => ⟨_, rfl, ?_⟩)
  rw [zjc_cg hn1 hw] at g3
  rw [show zLgt n (zBd n A) (zjc (zcg n (tf A)) x y) = zLgt n (zBd n A) (zjc (tf A) x y) from congrArg (zPl n) (zjc_cg hn1 hw)]
  (skip)
  exact hk M3 (fun b j q => by rw [f3 b j (by omega), f2 b j (by omega), f1 b j (by omega)]) g3
theorem m_apart_bad {O : zOm} (hO : zWld O) (hS : zS O = zmS zC0) {t p : Int} {T n : Nat} {M : zMem} {K : Option zV → zMem → Prop} (hT : M 250 ((11 : Nat) : Int) = ((T : Nat) : Int)) (hn : M 250 ((1 : Nat) : Int) = ((n : Nat) : Int)) (hb : ¬ ((0 ≤ t ∧ t < ((T : Nat) : Int)) ∧ 0 ≤ p ∧ p < ((n : Nat) : Int))) (hk : K (some (0, -1)) M) : zR O F_Model_apart [(2, 250), (0, t), (0, p)] M K := by
  apply r_Model_apart hO
  unfold B_Model_apart
  have f14 := zMF (k := 14) hS rfl; have a260 := zMA (a := 260) (ty := .int) (n := 112) hS rfl; have f13 := zMF (k := 13) hS rfl; have a259 := zMA (a := 259) (ty := .int) (n := 112) hS rfl; have f26 := zMF (k := 26) hS rfl; have a272 := zMA (a := 272) (ty := .int) (n := 16) hS rfl; have f12 := zMF (k := 12) hS rfl; have a258 := zMA (a := 258) (ty := .int) (n := 7) hS rfl; have zo := zMO hS
  by_cases ht : 0 ≤ t ∧ t < ((T : Nat) : Int)
  · ((with_reducible refine i_Seq (i_If (i_cOr (i_cOr (i_cNot (i_cZ_ne (i_Call (i_as1 (i_A0 (i_as1 (i_L1 (i_as0 ?_)))))))))))); (with_reducible refine i_recv0 (by assumption) ?_); (refine m_isTelling hO hS hT ⟨_, rfl, ?_⟩); (rw [decide_eq_true ht]); rw [zbI_t]; (with_reducible refine i_t (by omega) ?_); (with_reducible refine i_cNot (i_cZ_ne (i_Call (i_as1 (i_A0 (i_as1 (i_L2 (i_as0 ?_)))))))); (with_reducible refine i_recv0 (by assumption) ?_); (refine m_isPost hO hS hn ⟨_, rfl, ?_⟩); (rw [decide_eq_false (fun z => hb ⟨ht, z⟩)]); rw [zbI_f]; (with_reducible refine i_f (by omega) ?_); (with_reducible refine i_RetI (i_I ?_)))
    exact hk
  · ((with_reducible refine i_Seq (i_If (i_cOr (i_cOr (i_cNot (i_cZ_ne (i_Call (i_as1 (i_A0 (i_as1 (i_L1 (i_as0 ?_)))))))))))); (with_reducible refine i_recv0 (by assumption) ?_); (refine m_isTelling hO hS hT ⟨_, rfl, ?_⟩); (rw [decide_eq_false ht]); rw [zbI_f]; (with_reducible refine i_f (by omega) ?_); (with_reducible refine i_RetI (i_I ?_)))
    exact hk
theorem m_apart_al {O : zOm} (hO : zWld O) (hS : zS O = zmS zC0) {t p T n : Nat} {A : zTl} {M : zMem} {K : Option zV → zMem → Prop} (hT : M 250 ((11 : Nat) : Int) = ((T : Nat) : Int)) (hT5 : T ≤ 5) (ht : t < T) (hn : M 250 ((1 : Nat) : Int) = ((n : Nat) : Int)) (hn2 : n ≤ 16) (hA : rTe M t n A) (hw : zTw n A) (hp : p < n) (hal : zSz (tf A) n (tf A p) = 1) (hk : K (some (0, -1)) M) : zR O F_Model_apart [(2, 250), (0, ((t : Nat) : Int)), (0, ((p : Nat) : Int))] M K := by
  have h1 := hA.1.2.1 p hp
  have h16 := hw.f16 p hp
  have h2 := hA.1.2.2 (tf A p) h16
  rw [hal] at h2
  generalize tf A p = z at h1 h2 h16
  apply r_Model_apart hO
  unfold B_Model_apart
  have f14 := zMF (k := 14) hS rfl; have a260 := zMA (a := 260) (ty := .int) (n := 112) hS rfl; have f13 := zMF (k := 13) hS rfl; have a259 := zMA (a := 259) (ty := .int) (n := 112) hS rfl; have f26 := zMF (k := 26) hS rfl; have a272 := zMA (a := 272) (ty := .int) (n := 16) hS rfl; have f12 := zMF (k := 12) hS rfl; have a258 := zMA (a := 258) (ty := .int) (n := 7) hS rfl; have zo := zMO hS
  ((with_reducible refine i_Seq (i_If (i_cOr (i_cOr (i_cNot (i_cZ_ne (i_Call (i_as1 (i_A0 (i_as1 (i_L1 (i_as0 ?_)))))))))))); (with_reducible refine i_recv0 (by assumption) ?_); (refine m_isTelling hO hS hT ⟨_, rfl, ?_⟩); (rw [decide_eq_true (show 0 ≤ ((t : Nat) : Int) ∧ ((t : Nat) : Int) < ((T : Nat) : Int) by omega)]); rw [zbI_t]; (with_reducible refine i_t (by omega) ?_); (with_reducible refine i_cNot (i_cZ_ne (i_Call (i_as1 (i_A0 (i_as1 (i_L2 (i_as0 ?_)))))))); (with_reducible refine i_recv0 (by assumption) ?_); (refine m_isPost hO hS hn ⟨_, rfl, ?_⟩); (rw [decide_eq_true (show 0 ≤ ((p : Nat) : Int) ∧ ((p : Nat) : Int) < ((n : Nat) : Int) by omega)]); rw [zbI_t]; (with_reducible refine i_t (by omega) ?_); (with_reducible refine i_cI_eq (i_IA (i_FR (i_A0 ?_)))); (with_reducible refine i_fldR (by assumption) ?_); (with_reducible refine i_Add (i_Mul (i_I (i_L1 (i_IA (i_FR (i_A0 ?_))))))); (with_reducible refine i_fldR (by assumption) ?_); (with_reducible refine i_Add (i_Mul (i_I (i_L1 (i_L2 ?_))))); rw [zx_cmul (by omega)]; rw [zx_add (by omega)]; (with_reducible refine i_in (by assumption) (by omega) (by omega) ?_); (rw [h1]); rw [zx_add (by omega)]; (with_reducible refine i_in (by assumption) (by omega) (by omega) ?_); (with_reducible refine i_I ?_); (rw [h2]); (with_reducible refine i_t (by omega) ?_); (with_reducible refine i_RetI (i_I ?_)))
  exact hk
theorem m_apart {O : zOm} (hO : zWld O) (hS : zS O = zmS zC0) {t p T n : Nat} {A : zTl} {M : zMem} {K : Option zV → zMem → Prop} (hT : M 250 ((11 : Nat) : Int) = ((T : Nat) : Int)) (hT5 : T ≤ 5) (ht : t < T) (hn : M 250 ((1 : Nat) : Int) = ((n : Nat) : Int)) (hn1 : 0 < n) (hn2 : n ≤ 16) (hA : rTe M t n A) (hw : zTw n A) (h01 : ∀ j : Nat, j < 256 → M ((267 : Nat) : Int) ((j : Nat) : Int) = 0 ∨ M ((267 : Nat) : Int) ((j : Nat) : Int) = 1) (hp : p < n) (hal : zSz (tf A) n (tf A p) ≠ 1)
    (hk : ∀ M', (∀ b j, ¬ ((b = 258 ∧ j = ((t : Nat) : Int) ∨ (b = 259 ∨ b = 260 ∨ b = 262 ∨ b = 263) ∧ ((16 * t : Nat) : Int) ≤ j ∧ j < ((16 * t + 16 : Nat) : Int) ∨ (b = 261 ∨ b = 264 ∨ b = 265 ∨ b = 266) ∧ ((256 * t : Nat) : Int) ≤ j ∧ j < ((256 * t + 256 : Nat) : Int)) ∨ ((267 : Nat) : Int) ≤ b ∧ b ≤ ((272 : Nat) : Int) ∨ b = 283 ∨ b = 284) → M' b j = M b j) → rTe M' t n (zRq n (zBd n A) (zap A p)) → K (some (0, ((zLgt n (zBd n A) (zap A p) : Nat) : Int))) M') : zR O F_Model_apart [(2, 250), (0, ((t : Nat) : Int)), (0, ((p : Nat) : Int))] M K := by
  have h1 := hA.1.2.1 p hp
  have h16 := hw.f16 p hp
  have h2 := hA.1.2.2 (tf A p) h16
  have hm := hw.1.1
  generalize hz : tf A p = z at h1 h2 h16 hal
  generalize zSz (tf A) n z = sz at h2 hal
  apply r_Model_apart hO
  unfold B_Model_apart
  have f14 := zMF (k := 14) hS rfl; have a260 := zMA (a := 260) (ty := .int) (n := 112) hS rfl; have f13 := zMF (k := 13) hS rfl; have a259 := zMA (a := 259) (ty := .int) (n := 112) hS rfl; have f26 := zMF (k := 26) hS rfl; have a272 := zMA (a := 272) (ty := .int) (n := 16) hS rfl; have f12 := zMF (k := 12) hS rfl; have a258 := zMA (a := 258) (ty := .int) (n := 7) hS rfl; have zo := zMO hS
  ((with_reducible refine i_Seq (i_If (i_cOr (i_cOr (i_cNot (i_cZ_ne (i_Call (i_as1 (i_A0 (i_as1 (i_L1 (i_as0 ?_)))))))))))); (with_reducible refine i_recv0 (by assumption) ?_); (refine m_isTelling hO hS hT ⟨_, rfl, ?_⟩); (rw [decide_eq_true (show 0 ≤ ((t : Nat) : Int) ∧ ((t : Nat) : Int) < ((T : Nat) : Int) by omega)]); rw [zbI_t]; (with_reducible refine i_t (by omega) ?_); (with_reducible refine i_cNot (i_cZ_ne (i_Call (i_as1 (i_A0 (i_as1 (i_L2 (i_as0 ?_)))))))); (with_reducible refine i_recv0 (by assumption) ?_); (refine m_isPost hO hS hn ⟨_, rfl, ?_⟩); (rw [decide_eq_true (show 0 ≤ ((p : Nat) : Int) ∧ ((p : Nat) : Int) < ((n : Nat) : Int) by omega)]); rw [zbI_t]; (with_reducible refine i_t (by omega) ?_); (with_reducible refine i_cI_eq (i_IA (i_FR (i_A0 ?_)))); (with_reducible refine i_fldR (by assumption) ?_); (with_reducible refine i_Add (i_Mul (i_I (i_L1 (i_IA (i_FR (i_A0 ?_))))))); (with_reducible refine i_fldR (by assumption) ?_); (with_reducible refine i_Add (i_Mul (i_I (i_L1 (i_L2 ?_))))); rw [zx_cmul (by omega)]; rw [zx_add (by omega)]; (with_reducible refine i_in (by assumption) (by omega) (by omega) ?_); (rw [h1]); rw [zx_add (by omega)]; (with_reducible refine i_in (by assumption) (by omega) (by omega) ?_); (with_reducible refine i_I ?_); (rw [h2]); (with_reducible refine i_f (by omega) ?_); (with_reducible refine i_Seq (i_sCall (i_as1 (i_A0 (i_as1 (i_L1 (i_as0 ?_))))))); (with_reducible refine i_recv0 (by assumption) ?_))
  refine m_aimAt hO hS (by omega) hn hn2 hA hw h01 (fun M1 T1 f1' g1 e1 => ⟨rfl, ?_⟩)
  have n1 : M1 250 ((1 : Nat) : Int) = ((n : Nat) : Int) := by rw [f1' _ _ (by omega)]; exact hn
  have A1 : rTe M1 t n A := hA.to hn2 hw (fun b j q => f1' b j (by omega))
  ((with_reducible refine i_Seq (i_sCall (i_as1 (i_A0 (i_as1 (i_L1 (i_as0 ?_))))))); (with_reducible refine i_recv0 (by assumption) ?_))
  refine m_labelsOf hO hS (by omega) n1 hn2 A1.1.2.1 (fun M2 f2 g2 => ⟨rfl, ?_⟩)
  have m2 : M2 ((258 : Nat) : Int) ((t : Nat) : Int) = ((tm A : Nat) : Int) := by rw [f2 _ _ (by omega)]; exact A1.1.1
  ((with_reducible refine i_Seq (i_sIA (i_FR (i_A0 ?_)))); (with_reducible refine i_fldR (by assumption) ?_); (with_reducible refine i_L2 (i_IA (i_FR (i_A0 ?_)))); (with_reducible refine i_fldR (by assumption) ?_); (with_reducible refine i_L1 ?_); (with_reducible refine i_in (by assumption) (by omega) (by omega) ?_); (with_reducible refine i_in (by assumption) (by omega) (by omega) ?_); (with_reducible refine i_Seq (i_sCall (i_as1 (i_A0 (i_as1 (i_L1 (i_as0 ?_))))))); (with_reducible refine i_recv0 (by assumption) ?_); (rw [m2]))
  have gl : rLab (zput M2 ((272 : Nat) : Int) (zup (M2 ((272 : Nat) : Int)) ((p : Nat) : Int) ((tm A : Nat) : Int))) n (zap A p) := fun q hq => by
    unfold zap
    by_cases w : q = p
    · subst w; rw [zg_s, if_pos rfl]
    · rw [zg_m _ _ _ _ _ (by omega), if_neg w]; exact g2 q hq
  have f3 : ∀ b j, ¬ b = ((272 : Nat) : Int) → zput M2 ((272 : Nat) : Int) (zup (M2 ((272 : Nat) : Int)) ((p : Nat) : Int) ((tm A : Nat) : Int)) b j = M2 b j := fun b j q => by rw [zg_n _ _ _ (by omega)]
  generalize zput M2 ((272 : Nat) : Int) (zup (M2 ((272 : Nat) : Int)) ((p : Nat) : Int) ((tm A : Nat) : Int)) = M3 at gl f3 ⊢
  have n3 : M3 250 ((1 : Nat) : Int) = ((n : Nat) : Int) := by rw [f3 _ _ (by omega), f2 _ _ (by omega)]; exact n1
  refine m_settle hO hS (by omega) n3 hn2 gl (fun q hq => by have := hw.f16 q hq; unfold zap; split <;> omega) (g1.to (fun j => by rw [f3 _ _ (by omega), f2 _ _ (by omega)])) (fun M4 f4 g4 => ⟨rfl, ?_⟩)
  rw [zRq_T hn1 e1] at g4
  have n4 : M4 250 ((1 : Nat) : Int) = ((n : Nat) : Int) := by rw [f4 _ _ (by omega)]; exact n3
  ((with_reducible refine i_RetI (i_Call (i_as1 (i_A0 (i_as1 (i_L1 (i_as0 ?_))))))); (with_reducible refine i_recv0 (by assumption) ?_))
  refine m_lengthOf hO hS (by omega) n4 hn2 g4 (zRq_w hn2) (fun M5 f5 _ _ => ⟨_, rfl, ?_⟩)
  rw [tLen_rq hn2]
  (skip)
  exact hk M5 (fun b j q => by rw [f5 b j (by omega), f4 b j (by omega), f3 b j (by omega), f2 b j (by omega), f1' b j (by omega)]) (g4.to hn2 (zRq_w hn2) (fun b j q => f5 b j (by omega)))
theorem c_apart_bad {O : zOm} (hO : zWld O) (hS : zS O = zmS zC0) {t p : Int} {T n : Nat} {M : zMem} {K : Option zV → zMem → Prop} (hT : M ((0 : Nat) : Int) ((4 : Nat) : Int) = ((T : Nat) : Int)) (hT5 : T ≤ 5) (hP : M ((1 : Nat) : Int) ((2 : Nat) : Int) = ((n : Nat) : Int)) (hb : ¬ ((0 ≤ t ∧ t < ((T : Nat) : Int)) ∧ 0 ≤ p ∧ p < ((n : Nat) : Int))) (hk : K (some (0, -1)) M) : zR O F_ToldNet_apart [(2, ((0 : Nat) : Int)), (0, t), (0, p)] M K := by
  have o1 := zo_1 hS
  apply r_ToldNet_apart hO
  unfold B_ToldNet_apart
  have f0_0 := zf_0_0 hS; have f0_13 := zf_0_13 hS; have f0_6 := zf_0_6 hS; have z0 := zo_0 hS; have z1 := zo_1 hS
  ((with_reducible refine i_Seq (i_Set (i_Call (i_as1 (i_A0 (i_as1 (i_L1 (i_as0 ?_)))))))); (with_reducible refine i_recv0 (by assumption) ?_); simp only [w_set0, w_set1, w_setn0, w_setn1])
  refine c_find hO hS hT hT5 (fun hx => ⟨_, rfl, ?_⟩) (fun k e hk1 => ⟨_, rfl, ?_⟩)
  · ((with_reducible refine i_Seq (i_If (i_cOr (i_cOr (i_cN (i_A3 ?_)))))); simp only [w_set0, w_set1, w_setn0, w_setn1]; (with_reducible refine i_t trivial ?_); (with_reducible refine i_RetI (i_I ?_)))
    exact hk
  · ((with_reducible refine i_Seq (i_If (i_cOr (i_cOr (i_cN (i_A3 ?_)))))); (with_reducible refine i_f (by omega) ?_); (with_reducible refine i_cNot (i_cZ_ne (i_Call (i_as1 (i_FR (i_A0 ?_)))))); (with_reducible refine i_fldR (by assumption) ?_); (with_reducible refine i_as1 (i_L2 (i_as0 ?_))); (with_reducible refine i_recv0 (by assumption) ?_); (refine c_isPost hO hS hP ⟨_, rfl, ?_⟩); (rw [decide_eq_false (show ¬ (0 ≤ p ∧ p < ((n : Nat) : Int)) from fun z => hb ⟨by omega, z⟩)]); rw [zbI_f]; (with_reducible refine i_f (by omega) ?_); (with_reducible refine i_RetI (i_I ?_)))
    exact hk
theorem c_apart_al {O : zOm} (hO : zWld O) (hS : zS O = zmS zC0) {t p T n : Nat} {A : zTl} {M : zMem} {K : Option zV → zMem → Prop} (hT : M ((0 : Nat) : Int) ((4 : Nat) : Int) = ((T : Nat) : Int)) (hT5 : T ≤ 5) (ht : t < T) (hP : M ((1 : Nat) : Int) ((2 : Nat) : Int) = ((n : Nat) : Int)) (hn2 : n ≤ 16) (hA : zTR M (185 + 13 * t) n A) (hw : zTw n A) (hp : p < n) (hal : zSz (tf A) n (tf A p) = 1) (hk : K (some (0, -1)) M) : zR O F_ToldNet_apart [(2, ((0 : Nat) : Int)), (0, ((t : Nat) : Int)), (0, ((p : Nat) : Int))] M K := by
  have hxT := zTelT hS (show t < 5 by omega)
  obtain ⟨⟨x0, x1, x2, x3, x4, x5, x6, x7⟩, -, hP', -⟩ := id hxT
  have p0 := hP'.1
  have o1 := zo_1 hS
  have hpc := hA.pc hw
  apply r_ToldNet_apart hO
  unfold B_ToldNet_apart
  have f0_0 := zf_0_0 hS; have f0_13 := zf_0_13 hS; have f0_6 := zf_0_6 hS; have z0 := zo_0 hS; have z1 := zo_1 hS
  ((with_reducible refine i_Seq (i_Set (i_Call (i_as1 (i_A0 (i_as1 (i_L1 (i_as0 ?_)))))))); (with_reducible refine i_recv0 (by assumption) ?_); simp only [w_set0, w_set1, w_setn0, w_setn1])
  refine c_find hO hS hT hT5 (fun hx => absurd (show 0 ≤ ((t : Nat) : Int) ∧ ((t : Nat) : Int) < ((T : Nat) : Int) by omega) hx) (fun k e hk1 => ⟨_, rfl, ?_⟩)
  rw [show k = t by omega]
  ((with_reducible refine i_Seq (i_If (i_cOr (i_cOr (i_cN (i_A3 ?_)))))); (with_reducible refine i_f (by omega) ?_); (with_reducible refine i_cNot (i_cZ_ne (i_Call (i_as1 (i_FR (i_A0 ?_)))))); (with_reducible refine i_fldR (by assumption) ?_); (with_reducible refine i_as1 (i_L2 (i_as0 ?_))); (with_reducible refine i_recv0 (by assumption) ?_); (refine c_isPost hO hS hP ⟨_, rfl, ?_⟩); (rw [decide_eq_true (show 0 ≤ ((p : Nat) : Int) ∧ ((p : Nat) : Int) < ((n : Nat) : Int) by omega)]); rw [zbI_t]; (with_reducible refine i_t (by omega) ?_); (with_reducible refine i_cZ_ne (i_Call (i_as1 (i_FR (i_A3 ?_))))); (with_reducible refine i_fldR (by assumption) ?_); (with_reducible refine i_as1 (i_L2 (i_as0 ?_))); (with_reducible refine i_recv0 (by assumption) ?_); (refine c_isAlone hO hP' hn2 hpc hp ⟨_, rfl, ?_⟩); (rw [decide_eq_true (show zSz (zcg n (tf A)) n (zcg n (tf A) p) = 1 by rw [zSz_cg hw hp]; exact hal)]); rw [zbI_t]; (with_reducible refine i_t (by omega) ?_); (with_reducible refine i_RetI (i_I ?_)))
  exact hk
theorem c_apart {O : zOm} (hO : zWld O) (hS : zS O = zmS zC0) {t p T n : Nat} {A : zTl} {M : zMem} {K : Option zV → zMem → Prop} (hT : M ((0 : Nat) : Int) ((4 : Nat) : Int) = ((T : Nat) : Int)) (hT5 : T ≤ 5) (ht : t < T) (hP : M ((1 : Nat) : Int) ((2 : Nat) : Int) = ((n : Nat) : Int)) (hn1 : 0 < n) (hn2 : n ≤ 16) (hA : zTR M (185 + 13 * t) n A) (hw : zTw n A) (hp : p < n) (hal : zSz (tf A) n (tf A p) ≠ 1)
    (hk : ∀ M', (∀ b j, ¬ (b = ((106 : Nat) : Int) ∨ b = ((107 : Nat) : Int) ∨ ((183 : Nat) : Int) ≤ b ∧ b ≤ ((184 : Nat) : Int) ∨ ((185 + 13 * t : Nat) : Int) ≤ b ∧ b ≤ ((197 + 13 * t : Nat) : Int)) → M' b j = M b j) → zTR M' (185 + 13 * t) n (zRq n (zBd n A) (zap A p)) → K (some (0, ((zLgt n (zBd n A) (zap A p) : Nat) : Int))) M') : zR O F_ToldNet_apart [(2, ((0 : Nat) : Int)), (0, ((t : Nat) : Int)), (0, ((p : Nat) : Int))] M K := by
  have hxT := zTelT hS (show t < 5 by omega)
  obtain ⟨⟨x0, x1, x2, x3, x4, x5, x6, x7⟩, -, hP', -⟩ := id hxT
  have p0 := hP'.1
  have o1 := zo_1 hS
  have hpc := hA.pc hw
  have hs := zNet183 hS
  have o106 := zo_106 hS
  apply r_ToldNet_apart hO
  unfold B_ToldNet_apart
  have f0_0 := zf_0_0 hS; have f0_13 := zf_0_13 hS; have f0_6 := zf_0_6 hS; have z0 := zo_0 hS; have z1 := zo_1 hS
  ((with_reducible refine i_Seq (i_Set (i_Call (i_as1 (i_A0 (i_as1 (i_L1 (i_as0 ?_)))))))); (with_reducible refine i_recv0 (by assumption) ?_); simp only [w_set0, w_set1, w_setn0, w_setn1])
  refine c_find hO hS hT hT5 (fun hx => absurd (show 0 ≤ ((t : Nat) : Int) ∧ ((t : Nat) : Int) < ((T : Nat) : Int) by omega) hx) (fun k e hk1 => ⟨_, rfl, ?_⟩)
  rw [show k = t by omega]
  ((with_reducible refine i_Seq (i_If (i_cOr (i_cOr (i_cN (i_A3 ?_)))))); (with_reducible refine i_f (by omega) ?_); (with_reducible refine i_cNot (i_cZ_ne (i_Call (i_as1 (i_FR (i_A0 ?_)))))); (with_reducible refine i_fldR (by assumption) ?_); (with_reducible refine i_as1 (i_L2 (i_as0 ?_))); (with_reducible refine i_recv0 (by assumption) ?_); (refine c_isPost hO hS hP ⟨_, rfl, ?_⟩); (rw [decide_eq_true (show 0 ≤ ((p : Nat) : Int) ∧ ((p : Nat) : Int) < ((n : Nat) : Int) by omega)]); rw [zbI_t]; (with_reducible refine i_t (by omega) ?_); (with_reducible refine i_cZ_ne (i_Call (i_as1 (i_FR (i_A3 ?_))))); (with_reducible refine i_fldR (by assumption) ?_); (with_reducible refine i_as1 (i_L2 (i_as0 ?_))); (with_reducible refine i_recv0 (by assumption) ?_); (refine c_isAlone hO hP' hn2 hpc hp ⟨_, rfl, ?_⟩); (rw [decide_eq_false (show ¬ zSz (zcg n (tf A)) n (zcg n (tf A) p) = 1 by rw [zSz_cg hw hp]; exact hal)]); rw [zbI_f]; (with_reducible refine i_f (by omega) ?_); (with_reducible refine i_Seq (i_sCall (i_as1 (i_A3 (i_as1 (i_FR (i_A0 ?_))))))); (with_reducible refine i_fldR (by assumption) ?_); (with_reducible refine i_as0 ?_); (with_reducible refine i_recv0 (by assumption) ?_))
  refine c_build hO hxT hs hA (fun M1 f1 g1 => ⟨rfl, ?_⟩)
  ((with_reducible refine i_Seq (i_sCall (i_as1 (i_FR (i_A3 ?_))))); (with_reducible refine i_fldR (by assumption) ?_); (with_reducible refine i_as1 (i_L2 (i_as0 ?_))); (with_reducible refine i_recv0 (by assumption) ?_))
  refine c_lift hO hP' hn2 (hpc.fr (fun b j a1 a2 => f1 b j (by omega))) hp (fun M2 f2 g2 => ⟨rfl, ?_⟩)
  ((with_reducible refine i_RetI (i_Call (i_as1 (i_FR (i_A0 ?_))))); (with_reducible refine i_fldR (by assumption) ?_); (with_reducible refine i_as1 (i_FR (i_A0 ?_))); (with_reducible refine i_fldR (by assumption) ?_); (with_reducible refine i_as1 (i_A3 (i_as0 ?_))); (with_reducible refine i_recv0 (by assumption) ?_))
  refine c_tellA hO (zRl_106 hS) hxT hs (by omega) (by omega) (by omega) (g1.to (fun b j a1 a2 => f2 b j (by omega))) (zBd_reg hw) g2 hn2 (fun M3 f3 g3 => ⟨_, rfl, ?_⟩)
  rw [zap_cg hn1 hw] at g3
  rw [show zLgt n (zBd n A) (fun q => if q = p then 16 else zcg n (tf A) q) = zLgt n (zBd n A) (zap A p) from congrArg (zPl n) (zap_cg hn1 hw)]
  (skip)
  exact hk M3 (fun b j q => by rw [f3 b j (by omega), f2 b j (by omega), f1 b j (by omega)]) g3
end
