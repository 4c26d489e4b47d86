/-! ===== rounds of marks: what both compute; the reference ===== -/
theorem zfind_st {s : Nat → Bool} {k : Nat} (h : zfind s k < k) : zfind s (k + 1) = zfind s k :=
  zfind_eq (by omega) ((zfind_ok s k).2.1 h) (fun j hj => (zfind_ok s k).2.2 j hj)
theorem zfind_y {s : Nat → Bool} {k : Nat} (h : ¬ zfind s k < k) (e : s k = true) : zfind s (k + 1) = k :=
  zfind_eq (by omega) e (fun j hj => (zfind_ok s k).2.2 j (by have := zfind_le s k; omega))
theorem zfind_nn {s : Nat → Bool} {k : Nat} (h : ¬ zfind s k < k) (e : s k = false) : zfind s (k + 1) = k + 1 :=
  zfind_no fun j hj => by
    by_cases w : j = k
    · subst w; exact e
    · exact (zfind_ok s k).2.2 j (by have := zfind_le s k; omega)
/-- each with the first that it is alike to -/
def zG (A : Nat → Nat → Bool) (p : Nat) : Nat := zfind (A p) p
theorem zG_le (A : Nat → Nat → Bool) (p : Nat) : zG A p ≤ p := zfind_le _ _
theorem zG_y {A : Nat → Nat → Bool} (hs : ∀ p q, A p q = A q p) (ht : ∀ p q r, A p q = true → A q r = true → A p r = true) {p : Nat} (h : zG A p < p) : zNum (zG A) (zG A p) = zNum (zG A) p ∧ zNew (zG A) p = false := by
  have h1 := (zfind_ok (A p) p).2.1 h
  have h2 := (zfind_ok (A p) p).2.2
  have e : zG A (zG A p) = zG A p := zfind_no fun j hj => by
    cases w : A (zG A p) j with
    | false => rfl
    | true =>
      have h3 := h2 j hj
      rw [ht p (zG A p) j h1 w] at h3
      cases h3
  refine ⟨zNum_inj.mpr e, zNew_n ?_⟩
  have := zfind_ok (fun q => decide (zG A q = zG A p)) p
  refine Classical.byContradiction fun z => ?_
  exact zfl_no (f := zG A) (l := zG A p) (k := p) (j := zG A p) (by omega) e
theorem zG_n {A : Nat → Nat → Bool} {p : Nat} (h : ¬ zG A p < p) : zNew (zG A) p = true ∧ zNum (zG A) p = zcnt (zNew (zG A)) p := by
  have hp : zG A p = p := by have := zG_le A p; omega
  have hz : ¬ zfl (zG A) (zG A p) p < p := fun z => by
    have h1 := zfl_at z
    have h2 := zG_le A (zfl (zG A) (zG A p) p)
    omega
  exact ⟨zNew_y hz, zNum_y hz⟩
/-- the ties of a post into a box -/
def zdg (n : Nat) (f : Nat → Nat) (T : Nat → Nat → Bool) (p c : Nat) : Nat := zcnt (fun r => decide (f r = c) && T p r) n
def zal (n m : Nat) (f : Nat → Nat) (T : Nat → Nat → Bool) (p q : Nat) : Bool := decide (f p = f q ∧ ∀ c, c < m → zdg n f T p c = zdg n f T q c)
theorem zal_s (n m : Nat) (f : Nat → Nat) (T : Nat → Nat → Bool) (p q : Nat) : zal n m f T p q = zal n m f T q p :=
  decide_eq_decide.mpr ⟨fun h => ⟨h.1.symm, fun c hc => (h.2 c hc).symm⟩, fun h => ⟨h.1.symm, fun c hc => (h.2 c hc).symm⟩⟩
theorem zal_t (n m : Nat) (f : Nat → Nat) (T : Nat → Nat → Bool) (p q r : Nat) (h1 : zal n m f T p q = true) (h2 : zal n m f T q r = true) : zal n m f T p r = true := by
  have a := of_decide_eq_true h1
  have b := of_decide_eq_true h2
  exact decide_eq_true ⟨a.1.trans b.1, fun c hc => (a.2 c hc).trans (b.2 c hc)⟩
/-- the boxes behind k rounds -/
def zcr (n : Nat) (T : Nat → Nat → Bool) (μ : Nat → Nat) : Nat → Nat → Nat
  | 0 => zcg n μ
  | k + 1 => zcg n (zG (zal n (zcmx n (zcr n T μ k)) (zcr n T μ k) T))
theorem zcr_su (n : Nat) (T : Nat → Nat → Bool) (μ : Nat → Nat) (k : Nat) : zcr n T μ (k + 1) = zcg n (zG (zal n (zcmx n (zcr n T μ k)) (zcr n T μ k) T)) := rfl
theorem zcr_cg {n : Nat} (hn : 0 < n) (T : Nat → Nat → Bool) (μ : Nat → Nat) (k : Nat) : zcg n (zcr n T μ k) = zcr n T μ k := by
  cases k with
  | zero => exact (zcg_id hn _).1
  | succ k => exact (zcg_id hn _).1
theorem zcr_cm {n : Nat} (hn : 0 < n) (T : Nat → Nat → Bool) (μ : Nat → Nat) (k : Nat) : zcmx n (zcr n T μ (k + 1)) = zcmx n (zG (zal n (zcmx n (zcr n T μ k)) (zcr n T μ k) T)) := (zcg_id hn _).2
theorem zcm_pos {n : Nat} (hn : 0 < n) (f : Nat → Nat) : 0 < zcmx n f := by have := zcg_lt (f := f) hn; omega
/-- how many rounds part some -/
def zrE (n : Nat) (T : Nat → Nat → Bool) (μ : Nat → Nat) (R : Nat) : Prop := (∀ j, j < R → zcmx n (zcr n T μ j) < zcmx n (zcr n T μ (j + 1))) ∧ ¬ zcmx n (zcr n T μ R) < zcmx n (zcr n T μ (R + 1))
theorem zrE_up {n : Nat} (hn : 0 < n) (T : Nat → Nat → Bool) (μ : Nat → Nat) (k : Nat) : (∃ R, R < k ∧ zrE n T μ R) ∨ ((∀ j, j < k → zcmx n (zcr n T μ j) < zcmx n (zcr n T μ (j + 1))) ∧ k < zcmx n (zcr n T μ k)) := by
  induction k with
  | zero => exact Or.inr ⟨fun j hj => absurd hj (Nat.not_lt_zero _), zcm_pos hn _⟩
  | succ k ih =>
    rcases ih with ⟨R, h1, h2⟩ | ⟨h1, h2⟩
    · exact Or.inl ⟨R, by omega, h2⟩
    · by_cases w : zcmx n (zcr n T μ k) < zcmx n (zcr n T μ (k + 1))
      · refine Or.inr ⟨fun j hj => ?_, by omega⟩
        by_cases e : j = k
        · subst e; exact w
        · exact h1 j (by omega)
      · exact Or.inl ⟨k, by omega, h1, w⟩
theorem zrE_ex {n : Nat} (hn : 0 < n) (T : Nat → Nat → Bool) (μ : Nat → Nat) : ∃ R, R < n ∧ zrE n T μ R := by
  rcases zrE_up hn T μ n with h | ⟨-, h⟩
  · exact h
  · have := zcm_le n (zcr n T μ n); omega
noncomputable def zrR (n : Nat) (T : Nat → Nat → Bool) (μ : Nat → Nat) : Nat := Classical.epsilon fun R => R < n ∧ zrE n T μ R
theorem zrR_ok {n : Nat} (hn : 0 < n) (T : Nat → Nat → Bool) (μ : Nat → Nat) : zrR n T μ < n ∧ zrE n T μ (zrR n T μ) := Classical.epsilon_spec (zrE_ex hn T μ)
theorem m_isLike {O : zOm} (hO : zWld O) (hS : zS O = zmS zC0) {n m p q : Nat} {f : Nat → Nat} {T : Nat → Nat → Bool} {M : zMem} {K : Option zV → zMem → Prop} (hn : M 250 ((1 : Nat) : Int) = ((n : Nat) : Int)) (hn2 : n ≤ 16) (hT : rMx M 251 T) (hT0 : ∀ a, T a a = false) (hc : ∀ r : Nat, r < n → M ((292 : Nat) : Int) ((r : Nat) : Int) = ((f r : Nat) : Int)) (hp : p < n) (hq : q < n) (hm : m ≤ 16)
    (hk : K (some (0, zbI (zal n m f T p q))) M) : zR O F_Model_isLike [(2, 250), (0, ((p : Nat) : Int)), (0, ((q : Nat) : Int)), (0, ((m : Nat) : Int))] M K := by
  have gp := hc p hp
  have gq := hc q hq
  apply r_Model_isLike hO
  unfold B_Model_isLike
  have f57 := zMF (k := 57) hS rfl; have a292 := zMA (a := 292) (ty := .int) (n := 16) hS rfl; have f1 := zMF (k := 1) hS rfl; have f2 := zMF (k := 2) hS rfl; have a251 := zMA (a := 251) (ty := .boolean) (n := 256) hS rfl; have zo := zMO hS
  by_cases w : f p = f q
  · ((with_reducible refine i_Seq (i_If (i_cI_ne (i_IA (i_FR (i_A0 ?_)))))); (with_reducible refine i_fldR (by assumption) ?_); (with_reducible refine i_L1 ?_); (with_reducible refine i_in (by assumption) (by omega) (by omega) ?_); (with_reducible refine i_IA (i_FR (i_A0 ?_))); (with_reducible refine i_fldR (by assumption) ?_); (with_reducible refine i_L2 ?_); (with_reducible refine i_in (by assumption) (by omega) (by omega) ?_); (rw [gp]); (rw [gq]); ((with_reducible refine i_f (show ¬ (((f p : Nat) : Int) : Int) ≠ ((f q : Nat) : Int) by omega) ?_)); (with_reducible refine i_Seq (i_Blk (i_Seq (i_Set (i_I ?_))))); simp only [w_set0, w_set1, w_setn0, w_setn1])
    refine w_ForN m (fun c ρ M' => (∃ l, ρ = 250 :: ((p : Nat) : Int) :: ((q : Nat) : Int) :: ((m : Nat) : Int) :: ((c : Nat) : Int) :: l) ∧ (∀ d, d < c → zdg n f T p d = zdg n f T q d) ∧ M' = M) ⟨⟨_, rfl⟩, fun d hd => absurd hd (Nat.not_lt_zero _), rfl⟩ ?_ ?_
    · rintro c ρ M1 X hcm ⟨⟨l, rfl⟩, hd, rfl⟩ hX
      ((with_reducible refine i_turn (i_cI_lt (i_L4 (i_L3 ?_)))); (with_reducible refine i_t (by omega) ?_); (with_reducible refine i_Blk (i_Seq (i_Set (i_I (i_Seq (i_Set (i_I (i_Seq (i_Blk (i_Seq (i_Set (i_I ?_)))))))))))); simp only [w_set0, w_set1, w_setn0, w_setn1]; rw [w_setT]; simp only [w_set0, w_set1, w_setn0, w_setn1]; rw [w_setT]; simp only [w_set0, w_set1, w_setn0, w_setn1]; rw [w_setT])
      refine w_ForN n (fun r ρ M' => (∃ l, ρ = 250 :: ((p : Nat) : Int) :: ((q : Nat) : Int) :: ((m : Nat) : Int) :: ((c : Nat) : Int) :: ((zcnt (fun r => decide (f r = c) && T p r) r : Nat) : Int) :: ((zcnt (fun r => decide (f r = c) && T q r) r : Nat) : Int) :: ((r : Nat) : Int) :: l) ∧ M' = M1) ⟨⟨_, rfl⟩, rfl⟩ ?_ ?_
      · rintro r ρ M2 X1 hr ⟨⟨l2, rfl⟩, rfl⟩ hX1
        have gr := hc r hr
        have gTp := hT p r (by omega) (by omega)
        have gTq := hT q r (by omega) (by omega)
        have hp2 : r = p → T p r = false := fun e => by rw [e]; exact hT0 p
        have hq2 : r = q → T q r = false := fun e => by rw [e]; exact hT0 q
        have hX2 : ∀ (l : zLoc) (ee tp tq : Bool), decide (f r = c) = ee → T p r = tp → T q r = tq → X1 (250 :: ((p : Nat) : Int) :: ((q : Nat) : Int) :: ((m : Nat) : Int) :: ((c : Nat) : Int) :: ((zcnt (fun r => decide (f r = c) && T p r) r + (if (ee && tp) = true then 1 else 0) : Nat) : Int) :: ((zcnt (fun r => decide (f r = c) && T q r) r + (if (ee && tq) = true then 1 else 0) : Nat) : Int) :: ((r + 1 : Nat) : Int) :: l) M2 := fun l ee tp tq h1 h2 h3 => by subst h1; subst h2; subst h3; exact hX1 _ _ ⟨⟨l, rfl⟩, rfl⟩
        have hc1 := zcnt_le (fun r => decide (f r = c) && T p r) r
        have hc2 := zcnt_le (fun r => decide (f r = c) && T q r) r
        clear hX1
        generalize zcnt (fun r => decide (f r = c) && T p r) r = u at hc1 hX2 ⊢
        generalize zcnt (fun r => decide (f r = c) && T q r) r = v at hc2 hX2 ⊢
        by_cases e1 : f r = c
        · generalize T p r = tp at gTp hp2 hX2
          generalize T q r = tq at gTq hq2 hX2
          by_cases e2 : r = p <;> by_cases e3 : r = q <;> cases tp <;> cases tq
          all_goals first
            | exact absurd (hp2 e2) (by decide)
            | exact absurd (hq2 e3) (by decide)
            | skip
          all_goals
            (first | (((with_reducible refine i_turn (i_cI_lt (i_L7 (i_F (i_A0 ?_))))); (with_reducible refine i_fld (by assumption) ?_); (rw [hn]); (with_reducible refine i_t (by omega) ?_); (with_reducible refine i_Seq (i_IfBrk (i_cI_ne (i_IA (i_FR (i_A0 ?_)))))); (with_reducible refine i_fldR (by assumption) ?_); (with_reducible refine i_L7 ?_); (with_reducible refine i_in (by assumption) (by omega) (by omega) ?_); (with_reducible refine i_L4 ?_); (rw [gr]); (with_reducible refine i_f (by omega) ?_); (with_reducible refine i_Seq (i_If (i_cAnd (i_cI_ne (i_L7 (i_L1 ?_)))))); (with_reducible refine i_t (by omega) ?_); (with_reducible refine i_cZ_ne (i_ZA (i_FR (i_A0 ?_)))); (with_reducible refine i_fldR (by assumption) ?_); (with_reducible refine i_Add (i_Mul (i_I (i_L1 (i_L7 ?_))))); rw [zx_cmul (by omega)]; rw [zx_add (by omega)]; (with_reducible refine i_in (by assumption) (by omega) (by omega) ?_); (rw [gTp]); rw [zbI_t]; (with_reducible refine i_t (by omega) ?_); (with_reducible refine i_Inc5 (i_If (i_cAnd (i_cI_ne ?_)))); rw [zx_inc (by omega)]; simp only [w_set0, w_set1, w_setn0, w_setn1]; (with_reducible refine i_L7 (i_L2 ?_)); (with_reducible refine i_t (by omega) ?_); (with_reducible refine i_cZ_ne (i_ZA (i_FR (i_A0 ?_)))); (with_reducible refine i_fldR (by assumption) ?_); (with_reducible refine i_Add (i_Mul (i_I (i_L2 (i_L7 ?_))))); rw [zx_cmul (by omega)]; rw [zx_add (by omega)]; (with_reducible refine i_in (by assumption) (by omega) (by omega) ?_); (rw [gTq]); rw [zbI_t]; (with_reducible refine i_t (by omega) ?_); (with_reducible refine i_Inc6 (i_up ?_)); rw [zx_inc (by omega)]; simp only [w_set0, w_set1, w_setn0, w_setn1]; (with_reducible refine i_Inc7 ?_); rw [zx_inc (by omega)]; simp only [w_set0, w_set1, w_setn0, w_setn1])) | (((with_reducible refine i_turn (i_cI_lt (i_L7 (i_F (i_A0 ?_))))); (with_reducible refine i_fld (by assumption) ?_); (rw [hn]); (with_reducible refine i_t (by omega) ?_); (with_reducible refine i_Seq (i_IfBrk (i_cI_ne (i_IA (i_FR (i_A0 ?_)))))); (with_reducible refine i_fldR (by assumption) ?_); (with_reducible refine i_L7 ?_); (with_reducible refine i_in (by assumption) (by omega) (by omega) ?_); (with_reducible refine i_L4 ?_); (rw [gr]); (with_reducible refine i_f (by omega) ?_); (with_reducible refine i_Seq (i_If (i_cAnd (i_cI_ne (i_L7 (i_L1 ?_)))))); (with_reducible refine i_t (by omega) ?_); (with_reducible refine i_cZ_ne (i_ZA (i_FR (i_A0 ?_)))); (with_reducible refine i_fldR (by assumption) ?_); (with_reducible refine i_Add (i_Mul (i_I (i_L1 (i_L7 ?_))))); rw [zx_cmul (by omega)]; rw [zx_add (by omega)]; (with_reducible refine i_in (by assumption) (by omega) (by omega) ?_); (rw [gTp]); rw [zbI_f]; (with_reducible refine i_f (by omega) ?_); (with_reducible refine i_If (i_cAnd (i_cI_ne (i_L7 (i_L2 ?_))))); (with_reducible refine i_t (by omega) ?_); (with_reducible refine i_cZ_ne (i_ZA (i_FR (i_A0 ?_)))); (with_reducible refine i_fldR (by assumption) ?_); (with_reducible refine i_Add (i_Mul (i_I (i_L2 (i_L7 ?_))))); rw [zx_cmul (by omega)]; rw [zx_add (by omega)]; (with_reducible refine i_in (by assumption) (by omega) (by omega) ?_); (rw [gTq]); rw [zbI_t]; (with_reducible refine i_t (by omega) ?_); (with_reducible refine i_Inc6 (i_up ?_)); rw [zx_inc (by omega)]; simp only [w_set0, w_set1, w_setn0, w_setn1]; (with_reducible refine i_Inc7 ?_); rw [zx_inc (by omega)]; simp only [w_set0, w_set1, w_setn0, w_setn1])) | (((with_reducible refine i_turn (i_cI_lt (i_L7 (i_F (i_A0 ?_))))); (with_reducible refine i_fld (by assumption) ?_); (rw [hn]); (with_reducible refine i_t (by omega) ?_); (with_reducible refine i_Seq (i_IfBrk (i_cI_ne (i_IA (i_FR (i_A0 ?_)))))); (with_reducible refine i_fldR (by assumption) ?_); (with_reducible refine i_L7 ?_); (with_reducible refine i_in (by assumption) (by omega) (by omega) ?_); (with_reducible refine i_L4 ?_); (rw [gr]); (with_reducible refine i_f (by omega) ?_); (with_reducible refine i_Seq (i_If (i_cAnd (i_cI_ne (i_L7 (i_L1 ?_)))))); (with_reducible refine i_t (by omega) ?_); (with_reducible refine i_cZ_ne (i_ZA (i_FR (i_A0 ?_)))); (with_reducible refine i_fldR (by assumption) ?_); (with_reducible refine i_Add (i_Mul (i_I (i_L1 (i_L7 ?_))))); rw [zx_cmul (by omega)]; rw [zx_add (by omega)]; (with_reducible refine i_in (by assumption) (by omega) (by omega) ?_); (rw [gTp]); rw [zbI_t]; (with_reducible refine i_t (by omega) ?_); (with_reducible refine i_Inc5 (i_If (i_cAnd (i_cI_ne ?_)))); rw [zx_inc (by omega)]; simp only [w_set0, w_set1, w_setn0, w_setn1]; (with_reducible refine i_L7 (i_L2 ?_)); (with_reducible refine i_t (by omega) ?_); (with_reducible refine i_cZ_ne (i_ZA (i_FR (i_A0 ?_)))); (with_reducible refine i_fldR (by assumption) ?_); (with_reducible refine i_Add (i_Mul (i_I (i_L2 (i_L7 ?_))))); rw [zx_cmul (by omega)]; rw [zx_add (by omega)]; (with_reducible refine i_in (by assumption) (by omega) (by omega) ?_); (rw [gTq]); rw [zbI_f]; (with_reducible refine i_f (by omega) ?_); (with_reducible refine i_up (i_Inc7 ?_)); rw [zx_inc (by omega)]; simp only [w_set0, w_set1, w_setn0, w_setn1])) | (((with_reducible refine i_turn (i_cI_lt (i_L7 (i_F (i_A0 ?_))))); (with_reducible refine i_fld (by assumption) ?_); (rw [hn]); (with_reducible refine i_t (by omega) ?_); (with_reducible refine i_Seq (i_IfBrk (i_cI_ne (i_IA (i_FR (i_A0 ?_)))))); (with_reducible refine i_fldR (by assumption) ?_); (with_reducible refine i_L7 ?_); (with_reducible refine i_in (by assumption) (by omega) (by omega) ?_); (with_reducible refine i_L4 ?_); (rw [gr]); (with_reducible refine i_f (by omega) ?_); (with_reducible refine i_Seq (i_If (i_cAnd (i_cI_ne (i_L7 (i_L1 ?_)))))); (with_reducible refine i_t (by omega) ?_); (with_reducible refine i_cZ_ne (i_ZA (i_FR (i_A0 ?_)))); (with_reducible refine i_fldR (by assumption) ?_); (with_reducible refine i_Add (i_Mul (i_I (i_L1 (i_L7 ?_))))); rw [zx_cmul (by omega)]; rw [zx_add (by omega)]; (with_reducible refine i_in (by assumption) (by omega) (by omega) ?_); (rw [gTp]); rw [zbI_f]; (with_reducible refine i_f (by omega) ?_); (with_reducible refine i_If (i_cAnd (i_cI_ne (i_L7 (i_L2 ?_))))); (with_reducible refine i_t (by omega) ?_); (with_reducible refine i_cZ_ne (i_ZA (i_FR (i_A0 ?_)))); (with_reducible refine i_fldR (by assumption) ?_); (with_reducible refine i_Add (i_Mul (i_I (i_L2 (i_L7 ?_))))); rw [zx_cmul (by omega)]; rw [zx_add (by omega)]; (with_reducible refine i_in (by assumption) (by omega) (by omega) ?_); (rw [gTq]); rw [zbI_f]; (with_reducible refine i_f (by omega) ?_); (with_reducible refine i_up (i_Inc7 ?_)); rw [zx_inc (by omega)]; simp only [w_set0, w_set1, w_setn0, w_setn1])) | (((with_reducible refine i_turn (i_cI_lt (i_L7 (i_F (i_A0 ?_))))); (with_reducible refine i_fld (by assumption) ?_); (rw [hn]); (with_reducible refine i_t (by omega) ?_); (with_reducible refine i_Seq (i_IfBrk (i_cI_ne (i_IA (i_FR (i_A0 ?_)))))); (with_reducible refine i_fldR (by assumption) ?_); (with_reducible refine i_L7 ?_); (with_reducible refine i_in (by assumption) (by omega) (by omega) ?_); (with_reducible refine i_L4 ?_); (rw [gr]); (with_reducible refine i_f (by omega) ?_); (with_reducible refine i_Seq (i_If (i_cAnd (i_cI_ne (i_L7 (i_L1 ?_)))))); (with_reducible refine i_f (by omega) ?_); (with_reducible refine i_If (i_cAnd (i_cI_ne (i_L7 (i_L2 ?_))))); (with_reducible refine i_t (by omega) ?_); (with_reducible refine i_cZ_ne (i_ZA (i_FR (i_A0 ?_)))); (with_reducible refine i_fldR (by assumption) ?_); (with_reducible refine i_Add (i_Mul (i_I (i_L2 (i_L7 ?_))))); rw [zx_cmul (by omega)]; rw [zx_add (by omega)]; (with_reducible refine i_in (by assumption) (by omega) (by omega) ?_); (rw [gTq]); rw [zbI_t]; (with_reducible refine i_t (by omega) ?_); (with_reducible refine i_Inc6 (i_up ?_)); rw [zx_inc (by omega)]; simp only [w_set0, w_set1, w_setn0, w_setn1]; (with_reducible refine i_Inc7 ?_); rw [zx_inc (by omega)]; simp only [w_set0, w_set1, w_setn0, w_setn1])) | (((with_reducible refine i_turn (i_cI_lt (i_L7 (i_F (i_A0 ?_))))); (with_reducible refine i_fld (by assumption) ?_); (rw [hn]); (with_reducible refine i_t (by omega) ?_); (with_reducible refine i_Seq (i_IfBrk (i_cI_ne (i_IA (i_FR (i_A0 ?_)))))); (with_reducible refine i_fldR (by assumption) ?_); (with_reducible refine i_L7 ?_); (with_reducible refine i_in (by assumption) (by omega) (by omega) ?_); (with_reducible refine i_L4 ?_); (rw [gr]); (with_reducible refine i_f (by omega) ?_); (with_reducible refine i_Seq (i_If (i_cAnd (i_cI_ne (i_L7 (i_L1 ?_)))))); (with_reducible refine i_t (by omega) ?_); (with_reducible refine i_cZ_ne (i_ZA (i_FR (i_A0 ?_)))); (with_reducible refine i_fldR (by assumption) ?_); (with_reducible refine i_Add (i_Mul (i_I (i_L1 (i_L7 ?_))))); rw [zx_cmul (by omega)]; rw [zx_add (by omega)]; (with_reducible refine i_in (by assumption) (by omega) (by omega) ?_); (rw [gTp]); rw [zbI_t]; (with_reducible refine i_t (by omega) ?_); (with_reducible refine i_Inc5 (i_If (i_cAnd (i_cI_ne ?_)))); rw [zx_inc (by omega)]; simp only [w_set0, w_set1, w_setn0, w_setn1]; (with_reducible refine i_L7 (i_L2 ?_)); (with_reducible refine i_f (by omega) ?_); (with_reducible refine i_up (i_Inc7 ?_)); rw [zx_inc (by omega)]; simp only [w_set0, w_set1, w_setn0, w_setn1])) | (((with_reducible refine i_turn (i_cI_lt (i_L7 (i_F (i_A0 ?_))))); (with_reducible refine i_fld (by assumption) ?_); (rw [hn]); (with_reducible refine i_t (by omega) ?_); (with_reducible refine i_Seq (i_IfBrk (i_cI_ne (i_IA (i_FR (i_A0 ?_)))))); (with_reducible refine i_fldR (by assumption) ?_); (with_reducible refine i_L7 ?_); (with_reducible refine i_in (by assumption) (by omega) (by omega) ?_); (with_reducible refine i_L4 ?_); (rw [gr]); (with_reducible refine i_f (by omega) ?_); (with_reducible refine i_Seq (i_If (i_cAnd (i_cI_ne (i_L7 (i_L1 ?_)))))); (with_reducible refine i_f (by omega) ?_); (with_reducible refine i_If (i_cAnd (i_cI_ne (i_L7 (i_L2 ?_))))); (with_reducible refine i_t (by omega) ?_); (with_reducible refine i_cZ_ne (i_ZA (i_FR (i_A0 ?_)))); (with_reducible refine i_fldR (by assumption) ?_); (with_reducible refine i_Add (i_Mul (i_I (i_L2 (i_L7 ?_))))); rw [zx_cmul (by omega)]; rw [zx_add (by omega)]; (with_reducible refine i_in (by assumption) (by omega) (by omega) ?_); (rw [gTq]); rw [zbI_f]; (with_reducible refine i_f (by omega) ?_); (with_reducible refine i_up (i_Inc7 ?_)); rw [zx_inc (by omega)]; simp only [w_set0, w_set1, w_setn0, w_setn1])) | (((with_reducible refine i_turn (i_cI_lt (i_L7 (i_F (i_A0 ?_))))); (with_reducible refine i_fld (by assumption) ?_); (rw [hn]); (with_reducible refine i_t (by omega) ?_); (with_reducible refine i_Seq (i_IfBrk (i_cI_ne (i_IA (i_FR (i_A0 ?_)))))); (with_reducible refine i_fldR (by assumption) ?_); (with_reducible refine i_L7 ?_); (with_reducible refine i_in (by assumption) (by omega) (by omega) ?_); (with_reducible refine i_L4 ?_); (rw [gr]); (with_reducible refine i_f (by omega) ?_); (with_reducible refine i_Seq (i_If (i_cAnd (i_cI_ne (i_L7 (i_L1 ?_)))))); (with_reducible refine i_t (by omega) ?_); (with_reducible refine i_cZ_ne (i_ZA (i_FR (i_A0 ?_)))); (with_reducible refine i_fldR (by assumption) ?_); (with_reducible refine i_Add (i_Mul (i_I (i_L1 (i_L7 ?_))))); rw [zx_cmul (by omega)]; rw [zx_add (by omega)]; (with_reducible refine i_in (by assumption) (by omega) (by omega) ?_); (rw [gTp]); rw [zbI_f]; (with_reducible refine i_f (by omega) ?_); (with_reducible refine i_If (i_cAnd (i_cI_ne (i_L7 (i_L2 ?_))))); (with_reducible refine i_f (by omega) ?_); (with_reducible refine i_up (i_Inc7 ?_)); rw [zx_inc (by omega)]; simp only [w_set0, w_set1, w_setn0, w_setn1])) | (((with_reducible refine i_turn (i_cI_lt (i_L7 (i_F (i_A0 ?_))))); (with_reducible refine i_fld (by assumption) ?_); (rw [hn]); (with_reducible refine i_t (by omega) ?_); (with_reducible refine i_Seq (i_IfBrk (i_cI_ne (i_IA (i_FR (i_A0 ?_)))))); (with_reducible refine i_fldR (by assumption) ?_); (with_reducible refine i_L7 ?_); (with_reducible refine i_in (by assumption) (by omega) (by omega) ?_); (with_reducible refine i_L4 ?_); (rw [gr]); (with_reducible refine i_f (by omega) ?_); (with_reducible refine i_Seq (i_If (i_cAnd (i_cI_ne (i_L7 (i_L1 ?_)))))); (with_reducible refine i_f (by omega) ?_); (with_reducible refine i_If (i_cAnd (i_cI_ne (i_L7 (i_L2 ?_))))); (with_reducible refine i_f (by omega) ?_); (with_reducible refine i_up (i_Inc7 ?_)); rw [zx_inc (by omega)]; simp only [w_set0, w_set1, w_setn0, w_setn1])))
            exact hX2 _ true _ _ (decide_eq_true e1) rfl rfl
        · ((with_reducible refine i_turn (i_cI_lt (i_L7 (i_F (i_A0 ?_))))); (with_reducible refine i_fld (by assumption) ?_); (rw [hn]); (with_reducible refine i_t (by omega) ?_); (with_reducible refine i_Seq (i_IfBrk (i_cI_ne (i_IA (i_FR (i_A0 ?_)))))); (with_reducible refine i_fldR (by assumption) ?_); (with_reducible refine i_L7 ?_); (with_reducible refine i_in (by assumption) (by omega) (by omega) ?_); (with_reducible refine i_L4 ?_); (rw [gr]); (with_reducible refine i_t (by omega) ?_); (with_reducible refine i_lab1 (i_up (i_Inc7 ?_))); rw [zx_inc (by omega)]; simp only [w_set0, w_set1, w_setn0, w_setn1])
          exact hX2 _ false _ _ (decide_eq_false e1) rfl rfl
      · rintro ρ M2 X1 ⟨⟨l2, rfl⟩, rfl⟩
        by_cases e : zdg n f T p c = zdg n f T q c
        · have e' := e
          unfold zdg at e'
          have hne : ¬ (((zcnt (fun r => decide (f r = c) && T p r) n : Nat) : Int) : Int) ≠ ((zcnt (fun r => decide (f r = c) && T q r) n : Nat) : Int) := fun z => z (congrArg _ e')
          ((with_reducible refine i_turn (i_cI_lt (i_L7 (i_F (i_A0 ?_))))); (with_reducible refine i_fld (by assumption) ?_); (rw [hn]); (with_reducible refine i_f (by omega) ?_); (with_reducible refine i_If (i_cI_ne (i_L5 (i_L6 ?_)))); ((with_reducible refine i_f hne ?_)); (with_reducible refine i_up (i_Inc4 ?_)); rw [zx_inc (by omega)]; simp only [w_set0, w_set1, w_setn0, w_setn1])
          refine hX _ _ ⟨⟨_, rfl⟩, fun d hd2 => ?_, rfl⟩
          by_cases z : d = c
          · subst z; exact e
          · exact hd d (by omega)
        · have e' := e
          unfold zdg at e'
          have hz : zal n m f T p q = false := decide_eq_false fun z => e (z.2 c hcm)
          rw [hz] at hk
          have hne : (((zcnt (fun r => decide (f r = c) && T p r) n : Nat) : Int) : Int) ≠ ((zcnt (fun r => decide (f r = c) && T q r) n : Nat) : Int) := fun z => e' (Int.ofNat.inj z)
          ((with_reducible refine i_turn (i_cI_lt (i_L7 (i_F (i_A0 ?_))))); (with_reducible refine i_fld (by assumption) ?_); (rw [hn]); (with_reducible refine i_f (by omega) ?_); (with_reducible refine i_If (i_cI_ne (i_L5 (i_L6 ?_)))); ((with_reducible refine i_t hne ?_)); (with_reducible refine i_RetZ (i_I ?_)); (with_reducible refine i_z (Or.inl rfl) ?_))
          exact hk
    · rintro ρ M1 X ⟨⟨l, rfl⟩, hd, rfl⟩
      have hz : zal n m f T p q = true := decide_eq_true ⟨w, hd⟩
      rw [hz] at hk
      ((with_reducible refine i_turn (i_cI_lt (i_L4 (i_L3 ?_)))); (with_reducible refine i_f (by omega) ?_); (with_reducible refine i_RetZ (i_I ?_)); (with_reducible refine i_z (Or.inr rfl) ?_))
      exact hk
  · have hz : zal n m f T p q = false := decide_eq_false fun z => w z.1
    rw [hz] at hk
    ((with_reducible refine i_Seq (i_If (i_cI_ne (i_IA (i_FR (i_A0 ?_)))))); (with_reducible refine i_fldR (by assumption) ?_); (with_reducible refine i_L1 ?_); (with_reducible refine i_in (by assumption) (by omega) (by omega) ?_); (with_reducible refine i_IA (i_FR (i_A0 ?_))); (with_reducible refine i_fldR (by assumption) ?_); (with_reducible refine i_L2 ?_); (with_reducible refine i_in (by assumption) (by omega) (by omega) ?_); (rw [gp]); (rw [gq]); ((with_reducible refine i_t (show (((f p : Nat) : Int) : Int) ≠ ((f q : Nat) : Int) by omega) ?_)); (with_reducible refine i_RetZ (i_I ?_)); (with_reducible refine i_z (Or.inl rfl) ?_))
    exact hk
theorem zfl_sw {f : Nat → Nat} {l k : Nat} : zfl f l (k + 1) < k + 1 ↔ zfl f l k < k ∨ f k = l := by
  have := zfl_le f l k
  rw [zfl_su]
  by_cases w : zfl f l k < k
  · rw [if_pos w]; exact ⟨fun _ => Or.inl w, fun _ => by omega⟩
  · rw [if_neg w]
    by_cases e : f k = l
    · rw [if_pos e]; exact ⟨fun _ => Or.inr e, fun _ => by omega⟩
    · rw [if_neg e]; exact ⟨fun z => absurd z (by omega), fun z => by rcases z with z | z <;> contradiction⟩
/-- how the reference numbers: the first of alike ones, else anew -/
theorem m_refine {O : zOm} (hO : zWld O) (hS : zS O = zmS zC0) {n : Nat} {μ : Nat → Nat} {T : Nat → Nat → Bool} {M : zMem} {K : Option zV → zMem → Prop} (hn : M 250 ((1 : Nat) : Int) = ((n : Nat) : Int)) (hn1 : 0 < n) (hn2 : n ≤ 16) (hT : rMx M 251 T) (hT0 : ∀ a, T a a = false) (hμ : ∀ r : Nat, r < n → M ((252 : Nat) : Int) ((r : Nat) : Int) = ((μ r : Nat) : Int) ∧ μ r < 100)
    (hk : ∀ M', (∀ b j, ¬ (b = ((292 : Nat) : Int) ∨ b = ((293 : Nat) : Int)) → M' b j = M b j) → (∀ r : Nat, r < n → M' ((292 : Nat) : Int) ((r : Nat) : Int) = ((zcr n T μ (zrR n T μ + 1) r : Nat) : Int)) → K (some (0, ((zrR n T μ : Nat) : Int))) M') : zR O F_Model_refine [(2, 250)] M K := by
  obtain ⟨hR1, hR2⟩ := zrR_ok hn1 T μ
  generalize zrR n T μ = R at hR1 hR2 hk
  apply r_Model_refine hO
  unfold B_Model_refine
  have f1 := zMF (k := 1) hS rfl; have f57 := zMF (k := 57) hS rfl; have a292 := zMA (a := 292) (ty := .int) (n := 16) hS rfl; have f3 := zMF (k := 3) hS rfl; have a252 := zMA (a := 252) (ty := .int) (n := 16) hS rfl; have f58 := zMF (k := 58) hS rfl; have a293 := zMA (a := 293) (ty := .int) (n := 16) hS rfl; have zo := zMO hS
  ((with_reducible refine i_Seq (i_Set (i_I (i_Seq (i_Blk (i_Seq (i_Set (i_I ?_)))))))); simp only [w_set0, w_set1, w_setn0, w_setn1])
  refine w_ForN n (fun p ρ M' => (∃ l, ρ = 250 :: ((zcnt (zNew μ) p : Nat) : Int) :: ((p : Nat) : Int) :: l) ∧ (∀ b j, ¬ b = ((292 : Nat) : Int) → M' b j = M b j) ∧ ∀ r : Nat, r < p → M' ((292 : Nat) : Int) ((r : Nat) : Int) = ((zNum μ r : Nat) : Int)) ⟨⟨_, rfl⟩, fun _ _ _ => rfl, fun r h => absurd h (Nat.not_lt_zero _)⟩ ?_ ?_
  · rintro p ρ M1 X hp ⟨⟨l, rfl⟩, f1', h1⟩ hX
    have gn := (f1' _ _ (by omega)).trans hn
    have gμ : ∀ r : Nat, r < n → M1 ((252 : Nat) : Int) ((r : Nat) : Int) = ((μ r : Nat) : Int) := fun r hr => (f1' _ _ (by omega)).trans (hμ r hr).1
    have hc := zcnt_le (zNew μ) p
    ((with_reducible refine i_turn (i_cI_lt (i_L2 (i_F (i_A0 ?_))))); (with_reducible refine i_fld (by assumption) ?_); (rw [gn]); (with_reducible refine i_t (by omega) ?_); (with_reducible refine i_Seq (i_sIA (i_FR (i_A0 ?_)))); (with_reducible refine i_fldR (by assumption) ?_); (with_reducible refine i_L2 (i_I ?_)); (with_reducible refine i_in (by assumption) (by omega) (by omega) ?_); (with_reducible refine i_Seq (i_Blk (i_Seq (i_Set (i_I ?_))))); simp only [w_set0, w_set1, w_setn0, w_setn1]; rw [w_setT])
    refine w_ForN p (fun q ρ M' => (∃ l, ρ = 250 :: ((zcnt (zNew μ) p : Nat) : Int) :: ((p : Nat) : Int) :: ((q : Nat) : Int) :: l) ∧ (∀ b j, ¬ (b = ((292 : Nat) : Int) ∧ j = ((p : Nat) : Int)) → M' b j = M1 b j) ∧ M' ((292 : Nat) : Int) ((p : Nat) : Int) = (if zfl μ (μ p) q < q then ((zNum μ p : Nat) : Int) else -1)) ⟨⟨_, rfl⟩, fun b j q => by rw [zg_o _ _ (by omega)], by rw [if_neg (Nat.not_lt_zero _)]; exact zg_s _ _ _ _ _⟩ ?_ ?_
    · rintro q ρ M2 X1 hq ⟨⟨l2, rfl⟩, f2, h2⟩ hX1
      have g1 : M2 ((252 : Nat) : Int) ((q : Nat) : Int) = ((μ q : Nat) : Int) := (f2 _ _ (by omega)).trans (gμ q (by omega))
      have g2 : M2 ((252 : Nat) : Int) ((p : Nat) : Int) = ((μ p : Nat) : Int) := (f2 _ _ (by omega)).trans (gμ p hp)
      have g3 : M2 ((292 : Nat) : Int) ((q : Nat) : Int) = ((zNum μ q : Nat) : Int) := (f2 _ _ (by omega)).trans (h1 q hq)
      by_cases e : μ q = μ p
      · ((with_reducible refine i_turn (i_cI_lt (i_L3 (i_L2 ?_)))); (with_reducible refine i_t (by omega) ?_); (with_reducible refine i_If (i_cI_eq (i_IA (i_FR (i_A0 ?_))))); (with_reducible refine i_fldR (by assumption) ?_); (with_reducible refine i_L3 ?_); (with_reducible refine i_in (by assumption) (by omega) (by omega) ?_); (with_reducible refine i_IA (i_FR (i_A0 ?_))); (with_reducible refine i_fldR (by assumption) ?_); (with_reducible refine i_L2 ?_); (with_reducible refine i_in (by assumption) (by omega) (by omega) ?_); (rw [g1]); (rw [g2]); ((with_reducible refine i_t (show (((μ q : Nat) : Int) : Int) = ((μ p : Nat) : Int) by omega) ?_)); (with_reducible refine i_sIA (i_FR (i_A0 ?_))); (with_reducible refine i_fldR (by assumption) ?_); (with_reducible refine i_L2 (i_IA (i_FR (i_A0 ?_)))); (with_reducible refine i_fldR (by assumption) ?_); (with_reducible refine i_L3 ?_); (with_reducible refine i_in (by assumption) (by omega) (by omega) ?_); (with_reducible refine i_in (by assumption) (by omega) (by omega) ?_); (with_reducible refine i_up (i_Inc3 ?_)); (rw [g3]); rw [zx_inc (by omega)]; simp only [w_set0, w_set1, w_setn0, w_setn1])
        refine hX1 _ _ ⟨⟨_, rfl⟩, fun b j z => by rw [zg_o _ _ (by omega)]; exact f2 b j z, ?_⟩
        rw [zg_s, if_pos (zfl_sw.mpr (Or.inr e)), zNum_inj.mpr e]
      · ((with_reducible refine i_turn (i_cI_lt (i_L3 (i_L2 ?_)))); (with_reducible refine i_t (by omega) ?_); (with_reducible refine i_If (i_cI_eq (i_IA (i_FR (i_A0 ?_))))); (with_reducible refine i_fldR (by assumption) ?_); (with_reducible refine i_L3 ?_); (with_reducible refine i_in (by assumption) (by omega) (by omega) ?_); (with_reducible refine i_IA (i_FR (i_A0 ?_))); (with_reducible refine i_fldR (by assumption) ?_); (with_reducible refine i_L2 ?_); (with_reducible refine i_in (by assumption) (by omega) (by omega) ?_); (rw [g1]); (rw [g2]); ((with_reducible refine i_f (show ¬ (((μ q : Nat) : Int) : Int) = ((μ p : Nat) : Int) by omega) ?_)); (with_reducible refine i_up (i_Inc3 ?_)); rw [zx_inc (by omega)]; simp only [w_set0, w_set1, w_setn0, w_setn1])
        refine hX1 _ _ ⟨⟨_, rfl⟩, f2, ?_⟩
        rw [h2]
        by_cases w : zfl μ (μ p) q < q
        · rw [if_pos w, if_pos (zfl_sw.mpr (Or.inl w))]
        · rw [if_neg w, if_neg (fun z => by rcases zfl_sw.mp z with z | z <;> contradiction)]
    · rintro ρ M2 X1 ⟨⟨l2, rfl⟩, f2, h2⟩
      have hfr : ∀ b j, ¬ b = ((292 : Nat) : Int) → M2 b j = M b j := fun b j q => by rw [f2 b j (by omega), f1' b j q]
      by_cases w : zfl μ (μ p) p < p
      · rw [if_pos w] at h2
        ((with_reducible refine i_turn (i_cI_lt (i_L3 (i_L2 ?_)))); (with_reducible refine i_f (by omega) ?_); (with_reducible refine i_Seq (i_IfBrk (i_cZ_ge (i_IA (i_FR (i_A0 ?_)))))); (with_reducible refine i_fldR (by assumption) ?_); (with_reducible refine i_L2 ?_); (with_reducible refine i_in (by assumption) (by omega) (by omega) ?_); (rw [h2]); (with_reducible refine i_t (by omega) ?_); (with_reducible refine i_lab1 (i_up (i_Inc2 ?_))); rw [zx_inc (by omega)]; simp only [w_set0, w_set1, w_setn0, w_setn1])
        refine hX _ _ ⟨⟨_, by rw [zcnt_su, zNew_n w]; rfl⟩, hfr, fun r hr => ?_⟩
        by_cases e : r = p
        · subst e; exact h2
        · rw [f2 _ _ (by omega)]; exact h1 r (by omega)
      · rw [if_neg w] at h2
        ((with_reducible refine i_turn (i_cI_lt (i_L3 (i_L2 ?_)))); (with_reducible refine i_f (by omega) ?_); (with_reducible refine i_Seq (i_IfBrk (i_cZ_ge (i_IA (i_FR (i_A0 ?_)))))); (with_reducible refine i_fldR (by assumption) ?_); (with_reducible refine i_L2 ?_); (with_reducible refine i_in (by assumption) (by omega) (by omega) ?_); (rw [h2]); (with_reducible refine i_f (by omega) ?_); (with_reducible refine i_Seq (i_sIA (i_FR (i_A0 ?_)))); (with_reducible refine i_fldR (by assumption) ?_); (with_reducible refine i_L2 (i_L1 ?_)); (with_reducible refine i_in (by assumption) (by omega) (by omega) ?_); (with_reducible refine i_Inc1 (i_up ?_)); rw [zx_inc (by omega)]; simp only [w_set0, w_set1, w_setn0, w_setn1]; (with_reducible refine i_Inc2 ?_); rw [zx_inc (by omega)]; simp only [w_set0, w_set1, w_setn0, w_setn1])
        refine hX _ _ ⟨⟨_, by rw [zcnt_su, zNew_y w]; rfl⟩, fun b j q => by rw [zg_o _ _ (by omega)]; exact hfr b j q, fun r hr => ?_⟩
        by_cases e : r = p
        · subst e; rw [zg_s, zNum_y w]
        · rw [zg_o _ _ (by omega), f2 _ _ (by omega)]; exact h1 r (by omega)
  rintro ρ M1 X ⟨⟨l, rfl⟩, f1', h1⟩
  have gn1 := (f1' _ _ (by omega)).trans hn
  rw [← zcm_in]
  have hc0 : ∀ r : Nat, r < n → M1 ((292 : Nat) : Int) ((r : Nat) : Int) = ((zcr n T μ 0 r : Nat) : Int) := fun r hr => by rw [h1 r hr]; show _ = ((zcg n μ r : Nat) : Int); rw [zcg_in hr]
  have hm0 : zcmx n μ = zcmx n (zcr n T μ 0) := (zcg_id hn1 μ).2.symm
  rw [hm0]
  ((with_reducible refine i_turn (i_cI_lt (i_L2 (i_F (i_A0 ?_))))); (with_reducible refine i_fld (by assumption) ?_); (rw [gn1]); (with_reducible refine i_f (by omega) ?_); (with_reducible refine i_Seq (i_Set (i_I (i_Seq (i_Set (i_I (i_Seq ?_))))))); simp only [w_set0, w_set1, w_setn0, w_setn1]; rw [w_setT])
  refine w_WhileM (fun w ρ M' => ∃ k b l, ρ = 250 :: ((zcmx n (zcr n T μ k) : Nat) : Int) :: ((if b = true then k else R : Nat) : Int) :: zbI b :: l ∧ (∀ b j, ¬ (b = ((292 : Nat) : Int) ∨ b = ((293 : Nat) : Int)) → M' b j = M b j) ∧ (∀ r : Nat, r < n → M' ((292 : Nat) : Int) ((r : Nat) : Int) = ((zcr n T μ k r : Nat) : Int)) ∧ (b = true → k ≤ R) ∧ (b = false → k = R + 1) ∧ w = R + 1 - k) _ ⟨0, true, _, rfl, fun b j q => f1' b j (by omega), hc0, fun _ => Nat.zero_le _, (fun z => by cases z), rfl⟩ ?_
  clear f1' h1 hc0 hm0 gn1
  rintro w ρ M2 X ⟨k, b, l, rfl, f2, h2, hbt, hbf, rfl⟩ hX
  have gn2 : M2 250 ((1 : Nat) : Int) = ((n : Nat) : Int) := (f2 _ _ (by omega)).trans hn
  cases b
  · clear hX
    have e := hbf rfl
    subst e
    rw [if_neg (by decide)]
    ((with_reducible refine i_turn (i_cZ_ne (i_L3 ?_))); rw [zbI_f]; (with_reducible refine i_f (by omega) ?_); (with_reducible refine i_RetI (i_L2 ?_)))
    exact hk M2 f2 h2
  · have hkR := hbt rfl
    rw [if_pos rfl]
    have gT2 : rMx M2 251 T := hT.to (fun j => f2 _ _ (by omega))
    have hm16 := zcm_le n (zcr n T μ k)
    have hcs := zcr_su n T μ k
    have hcm := zcr_cm hn1 T μ k
    have hpar : (zcmx n (zcr n T μ k) < zcmx n (zcr n T μ (k + 1)) ↔ k < R) := by
      constructor
      · intro z
        refine Classical.byContradiction fun y => ?_
        have : k = R := by omega
        subst this
        exact hR2.2 z
      · intro z; exact hR2.1 k z
    have hzs := zal_s n (zcmx n (zcr n T μ k)) (zcr n T μ k) T
    have hzt := zal_t n (zcmx n (zcr n T μ k)) (zcr n T μ k) T
    have hlk := fun (M' : zMem) (a1 : M' 250 ((1 : Nat) : Int) = ((n : Nat) : Int)) (a2 : rMx M' 251 T) (a3 : ∀ r : Nat, r < n → M' ((292 : Nat) : Int) ((r : Nat) : Int) = ((zcr n T μ k r : Nat) : Int)) (p q : Nat) (a4 : p < n) (a5 : q < n) (K' : Option zV → zMem → Prop) (a6 : K' (some (0, zbI (zal n (zcmx n (zcr n T μ k)) (zcr n T μ k) T p q))) M') => m_isLike hO hS a1 hn2 a2 hT0 a3 a4 a5 (show zcmx n (zcr n T μ k) ≤ 16 by omega) (K := K') a6
    generalize zal n (zcmx n (zcr n T μ k)) (zcr n T μ k) T = A at hcs hcm hzs hzt hlk
    have hcm' : zcmx n (zcr n T μ (k + 1)) = zcnt (zNew (zG A)) n := hcm.trans (zcm_in n _)
    rw [hcm] at hpar
    generalize zcmx n (zcr n T μ k) = m at hm16 hpar hlk ⊢
    ((with_reducible refine i_turn (i_cZ_ne (i_L3 ?_))); rw [zbI_t]; (with_reducible refine i_t (by omega) ?_); (with_reducible refine i_Blk (i_Seq (i_Set (i_I (i_Seq (i_Blk (i_Seq (i_Set (i_I ?_))))))))); simp only [w_set0, w_set1, w_setn0, w_setn1]; rw [w_setT]; simp only [w_set0, w_set1, w_setn0, w_setn1]; rw [w_setT])
    refine w_ForN n (fun p ρ M' => (∃ l, ρ = 250 :: ((m : Nat) : Int) :: ((k : Nat) : Int) :: 1 :: ((zcnt (zNew (zG A)) p : Nat) : Int) :: ((p : Nat) : Int) :: l) ∧ (∀ b j, ¬ b = ((293 : Nat) : Int) → M' b j = M2 b j) ∧ ∀ r : Nat, r < p → M' ((293 : Nat) : Int) ((r : Nat) : Int) = ((zNum (zG A) r : Nat) : Int)) ⟨⟨_, rfl⟩, fun _ _ _ => rfl, fun r h => absurd h (Nat.not_lt_zero _)⟩ ?_ ?_
    · rintro p ρ M3 X3 hp ⟨⟨l3, rfl⟩, f3, h3⟩ hX3
      have gn3 : M3 250 ((1 : Nat) : Int) = ((n : Nat) : Int) := (f3 _ _ (by omega)).trans gn2
      have hc := zcnt_le (zNew (zG A)) p
      ((with_reducible refine i_turn (i_cI_lt (i_L5 (i_F (i_A0 ?_))))); (with_reducible refine i_fld (by assumption) ?_); (rw [gn3]); (with_reducible refine i_t (by omega) ?_); (with_reducible refine i_Seq (i_sIA (i_FR (i_A0 ?_)))); (with_reducible refine i_fldR (by assumption) ?_); (with_reducible refine i_L5 (i_I ?_)); (with_reducible refine i_in (by assumption) (by omega) (by omega) ?_); (with_reducible refine i_Seq (i_Blk (i_Seq (i_Set (i_I ?_))))); simp only [w_set0, w_set1, w_setn0, w_setn1]; rw [w_setT])
      refine w_ForN p (fun q ρ M' => (∃ l, ρ = 250 :: ((m : Nat) : Int) :: ((k : Nat) : Int) :: 1 :: ((zcnt (zNew (zG A)) p : Nat) : Int) :: ((p : Nat) : Int) :: ((q : Nat) : Int) :: l) ∧ (∀ b j, ¬ (b = ((293 : Nat) : Int) ∧ j = ((p : Nat) : Int)) → M' b j = M3 b j) ∧ M' ((293 : Nat) : Int) ((p : Nat) : Int) = (if zfind (A p) q < q then ((zNum (zG A) (zfind (A p) q) : Nat) : Int) else -1)) ⟨⟨_, rfl⟩, fun b j q => by rw [zg_o _ _ (by omega)], by rw [if_neg (Nat.not_lt_zero _)]; exact zg_s _ _ _ _ _⟩ ?_ ?_
      · rintro q ρ M4 X4 hq ⟨⟨l4, rfl⟩, f4, h4⟩ hX4
        have gq : M4 ((293 : Nat) : Int) ((q : Nat) : Int) = ((zNum (zG A) q : Nat) : Int) := (f4 _ _ (by omega)).trans (h3 q hq)
        have gn4 : M4 250 ((1 : Nat) : Int) = ((n : Nat) : Int) := (f4 _ _ (by omega)).trans gn3
        have gT4 : rMx M4 251 T := gT2.to (fun j => by rw [f4 _ _ (by omega), f3 _ _ (by omega)])
        have gc4 : ∀ r : Nat, r < n → M4 ((292 : Nat) : Int) ((r : Nat) : Int) = ((zcr n T μ k r : Nat) : Int) := fun r hr => by rw [f4 _ _ (by omega), f3 _ _ (by omega)]; exact h2 r hr
        by_cases w : zfind (A p) q < q
        · rw [if_pos w] at h4
          ((with_reducible refine i_turn (i_cI_lt (i_L6 (i_L5 ?_)))); (with_reducible refine i_t (by omega) ?_); (with_reducible refine i_If (i_cAnd (i_cZ_lt (i_IA (i_FR (i_A0 ?_)))))); (with_reducible refine i_fldR (by assumption) ?_); (with_reducible refine i_L5 ?_); (with_reducible refine i_in (by assumption) (by omega) (by omega) ?_); (rw [h4]); (with_reducible refine i_f (by omega) ?_); (with_reducible refine i_up (i_Inc6 ?_)); rw [zx_inc (by omega)]; simp only [w_set0, w_set1, w_setn0, w_setn1])
          refine hX4 _ _ ⟨⟨_, rfl⟩, f4, ?_⟩
          rw [zfind_st w, if_pos (by omega)]; exact h4
        · rw [if_neg w] at h4
          cases hA : A p q
          · ((with_reducible refine i_turn (i_cI_lt (i_L6 (i_L5 ?_)))); (with_reducible refine i_t (by omega) ?_); (with_reducible refine i_If (i_cAnd (i_cZ_lt (i_IA (i_FR (i_A0 ?_)))))); (with_reducible refine i_fldR (by assumption) ?_); (with_reducible refine i_L5 ?_); (with_reducible refine i_in (by assumption) (by omega) (by omega) ?_); (rw [h4]); (with_reducible refine i_t (by omega) ?_); (with_reducible refine i_cZ_ne (i_Call (i_as1 (i_A0 (i_as1 (i_L5 (i_as1 (i_L6 (i_as1 (i_L1 (i_as0 ?_))))))))))); (with_reducible refine i_recv0 (by assumption) ?_); (refine hlk M4 gn4 gT4 gc4 p q hp (by omega) _ ⟨_, rfl, ?_⟩); (rw [hA]); rw [zbI_f]; (with_reducible refine i_f (by omega) ?_); (with_reducible refine i_up (i_Inc6 ?_)); rw [zx_inc (by omega)]; simp only [w_set0, w_set1, w_setn0, w_setn1])
            refine hX4 _ _ ⟨⟨_, rfl⟩, f4, ?_⟩
            rw [zfind_nn w hA, if_neg (Nat.lt_irrefl _)]; exact h4
          · ((with_reducible refine i_turn (i_cI_lt (i_L6 (i_L5 ?_)))); (with_reducible refine i_t (by omega) ?_); (with_reducible refine i_If (i_cAnd (i_cZ_lt (i_IA (i_FR (i_A0 ?_)))))); (with_reducible refine i_fldR (by assumption) ?_); (with_reducible refine i_L5 ?_); (with_reducible refine i_in (by assumption) (by omega) (by omega) ?_); (rw [h4]); (with_reducible refine i_t (by omega) ?_); (with_reducible refine i_cZ_ne (i_Call (i_as1 (i_A0 (i_as1 (i_L5 (i_as1 (i_L6 (i_as1 (i_L1 (i_as0 ?_))))))))))); (with_reducible refine i_recv0 (by assumption) ?_); (refine hlk M4 gn4 gT4 gc4 p q hp (by omega) _ ⟨_, rfl, ?_⟩); (rw [hA]); rw [zbI_t]; (with_reducible refine i_t (by omega) ?_); (with_reducible refine i_sIA (i_FR (i_A0 ?_))); (with_reducible refine i_fldR (by assumption) ?_); (with_reducible refine i_L5 (i_IA (i_FR (i_A0 ?_)))); (with_reducible refine i_fldR (by assumption) ?_); (with_reducible refine i_L6 ?_); (with_reducible refine i_in (by assumption) (by omega) (by omega) ?_); (with_reducible refine i_in (by assumption) (by omega) (by omega) ?_); (with_reducible refine i_up (i_Inc6 ?_)); (rw [gq]); rw [zx_inc (by omega)]; simp only [w_set0, w_set1, w_setn0, w_setn1])
            refine hX4 _ _ ⟨⟨_, rfl⟩, fun b j z => by rw [zg_o _ _ (by omega)]; exact f4 b j z, ?_⟩
            rw [zfind_y w hA, if_pos (by omega)]; exact zg_s _ _ _ _ _
      · rintro ρ M4 X4 ⟨⟨l4, rfl⟩, f4, h4⟩
        have hfr : ∀ b j, ¬ b = ((293 : Nat) : Int) → M4 b j = M2 b j := fun b j q => by rw [f4 b j (by omega), f3 b j q]
        by_cases w : zG A p < p
        · obtain ⟨e1, e2⟩ := zG_y hzs hzt w
          rw [if_pos (show zfind (A p) p < p from w), show zfind (A p) p = zG A p from rfl, e1] at h4
          ((with_reducible refine i_turn (i_cI_lt (i_L6 (i_L5 ?_)))); (with_reducible refine i_f (by omega) ?_); (with_reducible refine i_Seq (i_IfBrk (i_cZ_ge (i_IA (i_FR (i_A0 ?_)))))); (with_reducible refine i_fldR (by assumption) ?_); (with_reducible refine i_L5 ?_); (with_reducible refine i_in (by assumption) (by omega) (by omega) ?_); (rw [h4]); (with_reducible refine i_t (by omega) ?_); (with_reducible refine i_lab1 (i_up (i_Inc5 ?_))); rw [zx_inc (by omega)]; simp only [w_set0, w_set1, w_setn0, w_setn1])
          refine hX3 _ _ ⟨⟨_, by rw [zcnt_su, e2]; rfl⟩, hfr, fun r hr => ?_⟩
          by_cases e : r = p
          · subst e; exact h4
          · rw [f4 _ _ (by omega)]; exact h3 r (by omega)
        · obtain ⟨e1, e2⟩ := zG_n w
          rw [if_neg (show ¬ zfind (A p) p < p from w)] at h4
          ((with_reducible refine i_turn (i_cI_lt (i_L6 (i_L5 ?_)))); (with_reducible refine i_f (by omega) ?_); (with_reducible refine i_Seq (i_IfBrk (i_cZ_ge (i_IA (i_FR (i_A0 ?_)))))); (with_reducible refine i_fldR (by assumption) ?_); (with_reducible refine i_L5 ?_); (with_reducible refine i_in (by assumption) (by omega) (by omega) ?_); (rw [h4]); (with_reducible refine i_f (by omega) ?_); (with_reducible refine i_Seq (i_sIA (i_FR (i_A0 ?_)))); (with_reducible refine i_fldR (by assumption) ?_); (with_reducible refine i_L5 (i_L4 ?_)); (with_reducible refine i_in (by assumption) (by omega) (by omega) ?_); (with_reducible refine i_Inc4 (i_up ?_)); rw [zx_inc (by omega)]; simp only [w_set0, w_set1, w_setn0, w_setn1]; (with_reducible refine i_Inc5 ?_); rw [zx_inc (by omega)]; simp only [w_set0, w_set1, w_setn0, w_setn1])
          refine hX3 _ _ ⟨⟨_, by rw [zcnt_su, e1]; rfl⟩, fun b j q => by rw [zg_o _ _ (by omega)]; exact hfr b j q, fun r hr => ?_⟩
          by_cases e : r = p
          · subst e; rw [zg_s, e2]
          · rw [zg_o _ _ (by omega), f4 _ _ (by omega)]; exact h3 r (by omega)
    · rintro ρ M3 X3 ⟨⟨l3, rfl⟩, f3, h3⟩
      have gn3 : M3 250 ((1 : Nat) : Int) = ((n : Nat) : Int) := (f3 _ _ (by omega)).trans gn2
      rw [← hcm']
      rw [← hcm] at hpar
      have hX5 : ∀ (l : zLoc) (M' : zMem) (b : Bool) (c : Nat), b = decide (k < R) → c = (if b = true then k + 1 else k) → (∀ b j, ¬ (b = ((292 : Nat) : Int) ∨ b = ((293 : Nat) : Int)) → M' b j = M b j) → (∀ r : Nat, r < n → M' ((292 : Nat) : Int) ((r : Nat) : Int) = ((zcr n T μ (k + 1) r : Nat) : Int)) → X (250 :: ((zcmx n (zcr n T μ (k + 1)) : Nat) : Int) :: ((c : Nat) : Int) :: zbI b :: l) M' := fun l M' b c hb hc2 hf h => by
        subst hb; subst hc2
        refine hX (R + 1 - (k + 1)) _ M' (by omega) ⟨k + 1, decide (k < R), l, ?_, hf, h, fun z => by have := of_decide_eq_true z; omega, fun z => by have := of_decide_eq_false z; omega, rfl⟩
        by_cases z : k < R
        · rw [decide_eq_true z, if_pos rfl, if_pos rfl]
        · rw [decide_eq_false z, if_neg (by decide), if_neg (by decide), show k = R by omega]
      have hm2 := zcm_le n (zcr n T μ (k + 1))
      clear hX
      by_cases z : k < R
      all_goals
        first | have zz := hpar.mpr z | have zz := (not_congr hpar).mpr z
        (first | (((with_reducible refine i_turn (i_cI_lt (i_L5 (i_F (i_A0 ?_))))); (with_reducible refine i_fld (by assumption) ?_); (rw [gn3]); (with_reducible refine i_f (by omega) ?_); (with_reducible refine i_Seq (i_Set (i_eIf (i_cI_gt (i_L4 (i_L1 ?_)))))); (with_reducible refine i_t (by omega) ?_); (with_reducible refine i_I (i_Seq (i_If (i_cZ_ne ?_)))); simp only [w_set0, w_set1, w_setn0, w_setn1]; (with_reducible refine i_L3 ?_); (with_reducible refine i_t (by omega) ?_); (with_reducible refine i_Inc2 (i_Seq (i_Blk (i_Seq (i_Set (i_I ?_)))))); rw [zx_inc (by omega)]; simp only [w_set0, w_set1, w_setn0, w_setn1])) | (((with_reducible refine i_turn (i_cI_lt (i_L5 (i_F (i_A0 ?_))))); (with_reducible refine i_fld (by assumption) ?_); (rw [gn3]); (with_reducible refine i_f (by omega) ?_); (with_reducible refine i_Seq (i_Set (i_eIf (i_cI_gt (i_L4 (i_L1 ?_)))))); (with_reducible refine i_f (by omega) ?_); (with_reducible refine i_I (i_Seq (i_If (i_cZ_ne ?_)))); simp only [w_set0, w_set1, w_setn0, w_setn1]; (with_reducible refine i_L3 ?_); (with_reducible refine i_f (by omega) ?_); (with_reducible refine i_Seq (i_Blk (i_Seq (i_Set (i_I ?_))))); simp only [w_set0, w_set1, w_setn0, w_setn1])))
        refine w_ForN n (fun r ρ M' => (∃ l, ρ = 250 :: ((m : Nat) : Int) :: ((if k < R then k + 1 else k : Nat) : Int) :: zbI (decide (k < R)) :: ((zcmx n (zcr n T μ (k + 1)) : Nat) : Int) :: ((r : Nat) : Int) :: l) ∧ (∀ b j, ¬ b = ((292 : Nat) : Int) → M' b j = M3 b j) ∧ ∀ x : Nat, x < r → M' ((292 : Nat) : Int) ((x : Nat) : Int) = ((zNum (zG A) x : Nat) : Int)) ⟨⟨_, by first | rw [if_pos z, decide_eq_true z]; rfl | rw [if_neg z, decide_eq_false z]; rfl⟩, fun _ _ _ => rfl, fun x h => absurd h (Nat.not_lt_zero _)⟩ ?_ ?_
        · rintro r ρ M4 X4 hr ⟨⟨l4, rfl⟩, f4, h4⟩ hX4
          have gn4 : M4 250 ((1 : Nat) : Int) = ((n : Nat) : Int) := (f4 _ _ (by omega)).trans gn3
          have gr : M4 ((293 : Nat) : Int) ((r : Nat) : Int) = ((zNum (zG A) r : Nat) : Int) := (f4 _ _ (by omega)).trans (h3 r hr)
          ((with_reducible refine i_turn (i_cI_lt (i_L5 (i_F (i_A0 ?_))))); (with_reducible refine i_fld (by assumption) ?_); (rw [gn4]); (with_reducible refine i_t (by omega) ?_); (with_reducible refine i_sIA (i_FR (i_A0 ?_))); (with_reducible refine i_fldR (by assumption) ?_); (with_reducible refine i_L5 (i_IA (i_FR (i_A0 ?_)))); (with_reducible refine i_fldR (by assumption) ?_); (with_reducible refine i_L5 ?_); (with_reducible refine i_in (by assumption) (by omega) (by omega) ?_); (with_reducible refine i_in (by assumption) (by omega) (by omega) ?_); (with_reducible refine i_up (i_Inc5 ?_)); (rw [gr]); rw [zx_inc (by omega)]; simp only [w_set0, w_set1, w_setn0, w_setn1])
          refine hX4 _ _ ⟨⟨_, rfl⟩, fun b j q => by rw [zg_n _ _ _ (by omega)]; exact f4 b j q, fun x hx => ?_⟩
          by_cases e : x = r
          · subst e; rw [zg_s]
          · rw [zg_m _ _ _ _ _ (by omega)]; exact h4 x (by omega)
        · rintro ρ M4 X4 ⟨⟨l4, rfl⟩, f4, h4⟩
          have gn4 : M4 250 ((1 : Nat) : Int) = ((n : Nat) : Int) := (f4 _ _ (by omega)).trans gn3
          ((with_reducible refine i_turn (i_cI_lt (i_L5 (i_F (i_A0 ?_))))); (with_reducible refine i_fld (by assumption) ?_); (rw [gn4]); (with_reducible refine i_f (by omega) ?_); (with_reducible refine i_Set (i_L4 ?_)); simp only [w_set0, w_set1, w_setn0, w_setn1])
          exact hX5 _ M4 _ _ rfl (by first | rw [decide_eq_true z, if_pos z]; rfl | rw [decide_eq_false z, if_neg z]; rfl) (fun b j q => by rw [f4 b j (by omega), f3 b j (by omega), f2 b j q]) (fun x hx => by rw [h4 x hx, hcs, zcg_in hx])
