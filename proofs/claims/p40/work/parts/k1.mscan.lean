/-! ===== tokens of a text: the reference ===== -/
theorem zcmp_0 {x y : Int} : zcmp x y = 0 ↔ x = y := by
  unfold zcmp
  split
  · exact ⟨fun h => absurd h (by decide), fun h => by omega⟩
  · split
    · exact ⟨fun _ => by assumption, fun _ => rfl⟩
    · exact ⟨fun h => absurd h (by decide), fun h => absurd h (by assumption)⟩
theorem zcmp_ge {x y : Int} : 0 ≤ zcmp x y ↔ y ≤ x := by
  unfold zcmp
  split
  · exact ⟨fun h => absurd h (by decide), fun h => by omega⟩
  · split
    · exact ⟨fun _ => by omega, fun _ => by decide⟩
    · exact ⟨fun _ => by omega, fun _ => by decide⟩
theorem i_cmp {x y : Int} {A B : Prop} (h : (x = y → A) ∧ (¬ x = y → B)) : (zcmp x y = 0 → A) ∧ (¬ zcmp x y = 0 → B) := by rw [zcmp_0]; exact h
theorem i_cmpge {x y : Int} {A B : Prop} (h : (y ≤ x → A) ∧ (¬ y ≤ x → B)) : (0 ≤ zcmp x y → A) ∧ (¬ 0 ≤ zcmp x y → B) := by rw [zcmp_ge]; exact h
theorem zkcs_0i {c : Nat} : zkcs c = 0 ↔ c = 9 ∨ c = 10 ∨ c = 13 ∨ c = 32 := by
  unfold zkcs
  refine ⟨fun h => ?_, fun h => if_pos h⟩
  split at h
  · assumption
  · split at h
    · omega
    · split at h
      · omega
      · split at h <;> omega
theorem zkcs_1i {c : Nat} : zkcs c = 1 ↔ 97 ≤ c ∧ c ≤ 122 := by
  refine ⟨zkcs_1, fun h => ?_⟩
  unfold zkcs
  rw [if_neg (by omega), if_pos h]
theorem zkcs_2i {c : Nat} : zkcs c = 2 ↔ 48 ≤ c ∧ c ≤ 57 := by
  refine ⟨zkcs_2, fun h => ?_⟩
  unfold zkcs
  rw [if_neg (by omega), if_neg (by omega), if_pos h]
theorem zkcs_3i {c : Nat} : zkcs c = 3 ↔ c = 59 := by
  refine ⟨zkcs_3, fun h => ?_⟩
  subst h
  rfl
def rTp (M : zMem) (s : Nat) (B : Nat → Nat) : Prop := M 250 ((33 : Nat) : Int) = ((s : Nat) : Int) ∧ s ≤ 2000 ∧ ∀ i : Nat, i < s → M ((278 : Nat) : Int) ((i : Nat) : Int) = ((B i : Nat) : Int)
theorem rTp.to {M M' : zMem} {s : Nat} {B : Nat → Nat} (h : rTp M s B) (e : ∀ b j, b = 250 ∧ j = 33 ∨ b = ((278 : Nat) : Int) → M' b j = M b j) : rTp M' s B := ⟨by rw [e _ _ (by omega)]; exact h.1, h.2.1, fun i hi => by rw [e _ _ (by omega)]; exact h.2.2 i hi⟩
theorem m_byteAt {O : zOm} (hO : zWld O) (hS : zS O = zmS zC0) {k s : Nat} {B : Nat → Nat} {M : zMem} {K : Option zV → zMem → Prop} (hT : rTp M s B) (hk : K (some (0, ((zby B s k : Nat) : Int))) M) : zR O F_Model_byteAt [(2, 250), (0, ((k : Nat) : Int))] M K := by
  obtain ⟨t1, t2, t3⟩ := hT
  apply r_Model_byteAt hO
  unfold B_Model_byteAt
  have f33 := zMF (k := 33) hS rfl; have f34 := zMF (k := 34) hS rfl; have a278 := zMA (a := 278) (ty := .int) (n := 2000) hS rfl; have zo := zMO hS
  unfold zby at hk
  by_cases h : k < s
  · rw [if_pos h] at hk
    have g := t3 k h
    ((with_reducible refine i_RetI (i_eIf (i_cI_lt (i_L1 (i_F (i_A0 ?_)))))); (with_reducible refine i_fld (by assumption) ?_); (rw [t1]); (with_reducible refine i_t (by omega) ?_); (with_reducible refine i_IA (i_FR (i_A0 ?_))); (with_reducible refine i_fldR (by assumption) ?_); (with_reducible refine i_L1 ?_); (with_reducible refine i_in (by assumption) (by omega) (by omega) ?_); (rw [g]))
    exact hk
  · rw [if_neg h] at hk
    ((with_reducible refine i_RetI (i_eIf (i_cI_lt (i_L1 (i_F (i_A0 ?_)))))); (with_reducible refine i_fld (by assumption) ?_); (rw [t1]); (with_reducible refine i_f (by omega) ?_); (with_reducible refine i_I ?_))
    exact hk
theorem m_isLetter {O : zOm} (hO : zWld O) (hS : zS O = zmS zC0) {k s : Nat} {B : Nat → Nat} {M : zMem} {K : Option zV → zMem → Prop} (hT : rTp M s B) (hk : K (some (0, zbI (decide (zsr B s k = 1)))) M) : zR O F_Model_isLetter [(2, 250), (0, ((k : Nat) : Int))] M K := by
  apply r_Model_isLetter hO
  unfold B_Model_isLetter
  have zo := zMO hS
  have hi := zkcs_1i (c := zby B s k)
  have hk2 : K (some (0, zbI (decide (97 ≤ zby B s k ∧ zby B s k ≤ 122)))) M := by
    rw [decide_eq_decide.mpr hi.symm]; exact hk
  clear hk hi
  by_cases h2 : 97 ≤ zby B s k
  · by_cases h3 : zby B s k ≤ 122
    · rw [decide_eq_true ⟨h2, h3⟩] at hk2
      ((with_reducible refine i_RetZ (i_eIf (i_cAnd (i_cI_ge (i_Call (i_as1 (i_A0 (i_as1 (i_L1 (i_as0 ?_)))))))))); (with_reducible refine i_recv0 (by assumption) ?_); (refine m_byteAt hO hS hT ⟨_, rfl, ?_⟩); (with_reducible refine i_I ?_); (with_reducible refine i_t (by omega) ?_); (with_reducible refine i_cI_le (i_Call (i_as1 (i_A0 (i_as1 (i_L1 (i_as0 ?_))))))); (with_reducible refine i_recv0 (by assumption) ?_); (refine m_byteAt hO hS hT ⟨_, rfl, ?_⟩); (with_reducible refine i_I ?_); (with_reducible refine i_t (by omega) ?_); (with_reducible refine i_I ?_); (with_reducible refine i_z (Or.inr rfl) ?_))
      exact hk2
    · rw [decide_eq_false (fun z => h3 z.2)] at hk2
      ((with_reducible refine i_RetZ (i_eIf (i_cAnd (i_cI_ge (i_Call (i_as1 (i_A0 (i_as1 (i_L1 (i_as0 ?_)))))))))); (with_reducible refine i_recv0 (by assumption) ?_); (refine m_byteAt hO hS hT ⟨_, rfl, ?_⟩); (with_reducible refine i_I ?_); (with_reducible refine i_t (by omega) ?_); (with_reducible refine i_cI_le (i_Call (i_as1 (i_A0 (i_as1 (i_L1 (i_as0 ?_))))))); (with_reducible refine i_recv0 (by assumption) ?_); (refine m_byteAt hO hS hT ⟨_, rfl, ?_⟩); (with_reducible refine i_I ?_); (with_reducible refine i_f (by omega) ?_); (with_reducible refine i_I ?_); (with_reducible refine i_z (Or.inl rfl) ?_))
      exact hk2
  · rw [decide_eq_false (fun z => h2 z.1)] at hk2
    ((with_reducible refine i_RetZ (i_eIf (i_cAnd (i_cI_ge (i_Call (i_as1 (i_A0 (i_as1 (i_L1 (i_as0 ?_)))))))))); (with_reducible refine i_recv0 (by assumption) ?_); (refine m_byteAt hO hS hT ⟨_, rfl, ?_⟩); (with_reducible refine i_I ?_); (with_reducible refine i_f (by omega) ?_); (with_reducible refine i_I ?_); (with_reducible refine i_z (Or.inl rfl) ?_))
    exact hk2
theorem m_isDigit {O : zOm} (hO : zWld O) (hS : zS O = zmS zC0) {k s : Nat} {B : Nat → Nat} {M : zMem} {K : Option zV → zMem → Prop} (hT : rTp M s B) (hk : K (some (0, zbI (decide (zsr B s k = 2)))) M) : zR O F_Model_isDigit [(2, 250), (0, ((k : Nat) : Int))] M K := by
  apply r_Model_isDigit hO
  unfold B_Model_isDigit
  have zo := zMO hS
  have hi := zkcs_2i (c := zby B s k)
  have hk2 : K (some (0, zbI (decide (48 ≤ zby B s k ∧ zby B s k ≤ 57)))) M := by
    rw [decide_eq_decide.mpr hi.symm]; exact hk
  clear hk hi
  by_cases h2 : 48 ≤ zby B s k
  · by_cases h3 : zby B s k ≤ 57
    · rw [decide_eq_true ⟨h2, h3⟩] at hk2
      ((with_reducible refine i_RetZ (i_eIf (i_cAnd (i_cI_ge (i_Call (i_as1 (i_A0 (i_as1 (i_L1 (i_as0 ?_)))))))))); (with_reducible refine i_recv0 (by assumption) ?_); (refine m_byteAt hO hS hT ⟨_, rfl, ?_⟩); (with_reducible refine i_I ?_); (with_reducible refine i_t (by omega) ?_); (with_reducible refine i_cI_le (i_Call (i_as1 (i_A0 (i_as1 (i_L1 (i_as0 ?_))))))); (with_reducible refine i_recv0 (by assumption) ?_); (refine m_byteAt hO hS hT ⟨_, rfl, ?_⟩); (with_reducible refine i_I ?_); (with_reducible refine i_t (by omega) ?_); (with_reducible refine i_I ?_); (with_reducible refine i_z (Or.inr rfl) ?_))
      exact hk2
    · rw [decide_eq_false (fun z => h3 z.2)] at hk2
      ((with_reducible refine i_RetZ (i_eIf (i_cAnd (i_cI_ge (i_Call (i_as1 (i_A0 (i_as1 (i_L1 (i_as0 ?_)))))))))); (with_reducible refine i_recv0 (by assumption) ?_); (refine m_byteAt hO hS hT ⟨_, rfl, ?_⟩); (with_reducible refine i_I ?_); (with_reducible refine i_t (by omega) ?_); (with_reducible refine i_cI_le (i_Call (i_as1 (i_A0 (i_as1 (i_L1 (i_as0 ?_))))))); (with_reducible refine i_recv0 (by assumption) ?_); (refine m_byteAt hO hS hT ⟨_, rfl, ?_⟩); (with_reducible refine i_I ?_); (with_reducible refine i_f (by omega) ?_); (with_reducible refine i_I ?_); (with_reducible refine i_z (Or.inl rfl) ?_))
      exact hk2
  · rw [decide_eq_false (fun z => h2 z.1)] at hk2
    ((with_reducible refine i_RetZ (i_eIf (i_cAnd (i_cI_ge (i_Call (i_as1 (i_A0 (i_as1 (i_L1 (i_as0 ?_)))))))))); (with_reducible refine i_recv0 (by assumption) ?_); (refine m_byteAt hO hS hT ⟨_, rfl, ?_⟩); (with_reducible refine i_I ?_); (with_reducible refine i_f (by omega) ?_); (with_reducible refine i_I ?_); (with_reducible refine i_z (Or.inl rfl) ?_))
    exact hk2
theorem m_token {O : zOm} (hO : zWld O) (hS : zS O = zmS zC0) {a b c d : Int} {i : Nat} {M : zMem} {K : Option zV → zMem → Prop} (hi : M 250 ((35 : Nat) : Int) = ((i : Nat) : Int)) (h20 : i ≤ 2000)
    (hk : ∀ M', (∀ b j, ¬ (b = 250 ∧ j = 35 ∨ (((279 : Nat) : Int) ≤ b ∧ b ≤ ((282 : Nat) : Int)) ∧ j = ((i : Nat) : Int)) → M' b j = M b j) → M' 250 ((35 : Nat) : Int) = ((i + 1 : Nat) : Int) → M' ((279 : Nat) : Int) ((i : Nat) : Int) = a → M' ((280 : Nat) : Int) ((i : Nat) : Int) = b → M' ((282 : Nat) : Int) ((i : Nat) : Int) = d → K none M') : zR O F_Model_token [(2, 250), (0, a), (0, b), (0, c), (0, d)] M K := by
  apply r_Model_token hO
  unfold B_Model_token
  have f36 := zMF (k := 36) hS rfl; have a279 := zMA (a := 279) (ty := .int) (n := 2001) hS rfl; have f35 := zMF (k := 35) hS rfl; have f37 := zMF (k := 37) hS rfl; have a280 := zMA (a := 280) (ty := .int) (n := 2001) hS rfl; have f38 := zMF (k := 38) hS rfl; have a281 := zMA (a := 281) (ty := .int) (n := 2001) hS rfl; have f39 := zMF (k := 39) hS rfl; have a282 := zMA (a := 282) (ty := .int) (n := 2001) hS rfl; have zo := zMO hS
  ((with_reducible refine i_Seq (i_Seq (i_sIA (i_FR (i_A0 ?_))))); (with_reducible refine i_fldR (by assumption) ?_); (with_reducible refine i_F (i_A0 ?_)); (with_reducible refine i_fld (by assumption) ?_); (with_reducible refine i_L1 ?_); (with_reducible refine i_in (by assumption) (by omega) (by omega) ?_); (with_reducible refine i_Seq (i_sIA (i_FR (i_A0 ?_)))); (with_reducible refine i_fldR (by assumption) ?_); (with_reducible refine i_F (i_A0 ?_)); (with_reducible refine i_fld (by assumption) ?_); (with_reducible refine i_L2 ?_); rw [zg_n _ _ _ (by omega)]; (with_reducible refine i_in (by assumption) (by omega) (by omega) ?_); (with_reducible refine i_Seq (i_sIA (i_FR (i_A0 ?_)))); (with_reducible refine i_fldR (by assumption) ?_); (with_reducible refine i_F (i_A0 ?_)); (with_reducible refine i_fld (by assumption) ?_); (with_reducible refine i_L3 ?_); rw [zg_n _ _ _ (by omega)]; rw [zg_n _ _ _ (by omega)]; (with_reducible refine i_in (by assumption) (by omega) (by omega) ?_); (with_reducible refine i_Seq (i_sIA (i_FR (i_A0 ?_)))); (with_reducible refine i_fldR (by assumption) ?_); (with_reducible refine i_F (i_A0 ?_)); (with_reducible refine i_fld (by assumption) ?_); (with_reducible refine i_L4 ?_); rw [zg_n _ _ _ (by omega)]; rw [zg_n _ _ _ (by omega)]; rw [zg_n _ _ _ (by omega)]; (with_reducible refine i_in (by assumption) (by omega) (by omega) ?_); (with_reducible refine i_FO (i_A0 ?_)); (with_reducible refine i_fld (by assumption) ?_); (with_reducible refine i_I ?_); (with_reducible refine i_fld (by assumption) ?_); (with_reducible refine i_RetV ?_); rw [zg_n _ _ _ (by omega)]; rw [zg_n _ _ _ (by omega)]; rw [zg_n _ _ _ (by omega)]; rw [zg_n _ _ _ (by omega)]; (rw [hi]); rw [zx_inc (by omega)])
  exact hk _ (fun b j q => by rw [zg_o _ _ (by omega), zg_o _ _ (by omega), zg_o _ _ (by omega), zg_o _ _ (by omega), zg_o _ _ (by omega)]) (zg_s _ _ _ _ _) (by (rw [zg_n _ _ _ (by omega)]; rw [zg_n _ _ _ (by omega)]; rw [zg_n _ _ _ (by omega)]; rw [zg_n _ _ _ (by omega)]; rw [zg_s])) (by (rw [zg_n _ _ _ (by omega)]; rw [zg_n _ _ _ (by omega)]; rw [zg_n _ _ _ (by omega)]; rw [zg_s])) (by (rw [zg_n _ _ _ (by omega)]; rw [zg_s]))
def zwI (k : Nat) : Int := if k = 0 then -1 else ((k : Nat) : Int) - 3
theorem m_wordOf {O : zOm} (hO : zWld O) {v : Nat} {M : zMem} {K : Option zV → zMem → Prop} (hk : K (some (0, zwI (zwn v))) M) : zR O F_Model_wordOf [(1, ((v : Nat) : Int))] M K := by
  apply r_Model_wordOf hO
  unfold B_Model_wordOf
  unfold zwn at hk
  by_cases e1 : v = 1887
  · rw [if_pos e1] at hk
    ((with_reducible refine i_Seq (i_If (i_cZ_eq (i_CmpL (i_Ll0 (i_LdcL ?_)))))); (refine i_cmp ?_); (with_reducible refine i_t (by omega) ?_); (with_reducible refine i_RetI (i_I ?_)))
    exact hk
  rw [if_neg e1] at hk
  by_cases e2 : v = 1960177
  · rw [if_pos e2] at hk
    ((with_reducible refine i_Seq (i_If (i_cZ_eq (i_CmpL (i_Ll0 (i_LdcL ?_)))))); (refine i_cmp ?_); (with_reducible refine i_f (by omega) ?_); (with_reducible refine i_Seq (i_If (i_cZ_eq (i_CmpL (i_Ll0 (i_LdcL ?_)))))); (refine i_cmp ?_); (with_reducible refine i_t (by omega) ?_); (with_reducible refine i_RetI (i_I ?_)))
    exact hk
  rw [if_neg e2] at hk
  by_cases e3 : v = 1752773
  · rw [if_pos e3] at hk
    ((with_reducible refine i_Seq (i_If (i_cZ_eq (i_CmpL (i_Ll0 (i_LdcL ?_)))))); (refine i_cmp ?_); (with_reducible refine i_f (by omega) ?_); (with_reducible refine i_Seq (i_If (i_cZ_eq (i_CmpL (i_Ll0 (i_LdcL ?_)))))); (refine i_cmp ?_); (with_reducible refine i_f (by omega) ?_); (with_reducible refine i_Seq (i_If (i_cZ_eq (i_CmpL (i_Ll0 (i_LdcL ?_)))))); (refine i_cmp ?_); (with_reducible refine i_t (by omega) ?_); (with_reducible refine i_RetI (i_I ?_)))
    exact hk
  rw [if_neg e3] at hk
  by_cases e4 : v = 10277596
  · rw [if_pos e4] at hk
    ((with_reducible refine i_Seq (i_If (i_cZ_eq (i_CmpL (i_Ll0 (i_LdcL ?_)))))); (refine i_cmp ?_); (with_reducible refine i_f (by omega) ?_); (with_reducible refine i_Seq (i_If (i_cZ_eq (i_CmpL (i_Ll0 (i_LdcL ?_)))))); (refine i_cmp ?_); (with_reducible refine i_f (by omega) ?_); (with_reducible refine i_Seq (i_If (i_cZ_eq (i_CmpL (i_Ll0 (i_LdcL ?_)))))); (refine i_cmp ?_); (with_reducible refine i_f (by omega) ?_); (with_reducible refine i_Seq (i_If (i_cZ_eq (i_CmpL (i_Ll0 (i_LdcL ?_)))))); (refine i_cmp ?_); (with_reducible refine i_t (by omega) ?_); (with_reducible refine i_RetI (i_I ?_)))
    exact hk
  rw [if_neg e4] at hk
  by_cases e5 : v = 388602
  · rw [if_pos e5] at hk
    ((with_reducible refine i_Seq (i_If (i_cZ_eq (i_CmpL (i_Ll0 (i_LdcL ?_)))))); (refine i_cmp ?_); (with_reducible refine i_f (by omega) ?_); (with_reducible refine i_Seq (i_If (i_cZ_eq (i_CmpL (i_Ll0 (i_LdcL ?_)))))); (refine i_cmp ?_); (with_reducible refine i_f (by omega) ?_); (with_reducible refine i_Seq (i_If (i_cZ_eq (i_CmpL (i_Ll0 (i_LdcL ?_)))))); (refine i_cmp ?_); (with_reducible refine i_f (by omega) ?_); (with_reducible refine i_Seq (i_If (i_cZ_eq (i_CmpL (i_Ll0 (i_LdcL ?_)))))); (refine i_cmp ?_); (with_reducible refine i_f (by omega) ?_); (with_reducible refine i_Seq (i_If (i_cZ_eq (i_CmpL (i_Ll0 (i_LdcL ?_)))))); (refine i_cmp ?_); (with_reducible refine i_t (by omega) ?_); (with_reducible refine i_RetI (i_I ?_)))
    exact hk
  rw [if_neg e5] at hk
  by_cases e6 : v = 10631
  · rw [if_pos e6] at hk
    ((with_reducible refine i_Seq (i_If (i_cZ_eq (i_CmpL (i_Ll0 (i_LdcL ?_)))))); (refine i_cmp ?_); (with_reducible refine i_f (by omega) ?_); (with_reducible refine i_Seq (i_If (i_cZ_eq (i_CmpL (i_Ll0 (i_LdcL ?_)))))); (refine i_cmp ?_); (with_reducible refine i_f (by omega) ?_); (with_reducible refine i_Seq (i_If (i_cZ_eq (i_CmpL (i_Ll0 (i_LdcL ?_)))))); (refine i_cmp ?_); (with_reducible refine i_f (by omega) ?_); (with_reducible refine i_Seq (i_If (i_cZ_eq (i_CmpL (i_Ll0 (i_LdcL ?_)))))); (refine i_cmp ?_); (with_reducible refine i_f (by omega) ?_); (with_reducible refine i_Seq (i_If (i_cZ_eq (i_CmpL (i_Ll0 (i_LdcL ?_)))))); (refine i_cmp ?_); (with_reducible refine i_f (by omega) ?_); (with_reducible refine i_Seq (i_If (i_cZ_eq (i_CmpL (i_Ll0 (i_LdcL ?_)))))); (refine i_cmp ?_); (with_reducible refine i_t (by omega) ?_); (with_reducible refine i_RetI (i_I ?_)))
    exact hk
  rw [if_neg e6] at hk
  by_cases e7 : v = 28959
  · rw [if_pos e7] at hk
    ((with_reducible refine i_Seq (i_If (i_cZ_eq (i_CmpL (i_Ll0 (i_LdcL ?_)))))); (refine i_cmp ?_); (with_reducible refine i_f (by omega) ?_); (with_reducible refine i_Seq (i_If (i_cZ_eq (i_CmpL (i_Ll0 (i_LdcL ?_)))))); (refine i_cmp ?_); (with_reducible refine i_f (by omega) ?_); (with_reducible refine i_Seq (i_If (i_cZ_eq (i_CmpL (i_Ll0 (i_LdcL ?_)))))); (refine i_cmp ?_); (with_reducible refine i_f (by omega) ?_); (with_reducible refine i_Seq (i_If (i_cZ_eq (i_CmpL (i_Ll0 (i_LdcL ?_)))))); (refine i_cmp ?_); (with_reducible refine i_f (by omega) ?_); (with_reducible refine i_Seq (i_If (i_cZ_eq (i_CmpL (i_Ll0 (i_LdcL ?_)))))); (refine i_cmp ?_); (with_reducible refine i_f (by omega) ?_); (with_reducible refine i_Seq (i_If (i_cZ_eq (i_CmpL (i_Ll0 (i_LdcL ?_)))))); (refine i_cmp ?_); (with_reducible refine i_f (by omega) ?_); (with_reducible refine i_RetI (i_eIf (i_cZ_eq (i_CmpL (i_Ll0 (i_LdcL ?_)))))); (refine i_cmp ?_); (with_reducible refine i_t (by omega) ?_); (with_reducible refine i_I ?_))
    exact hk
  · rw [if_neg e7] at hk
    ((with_reducible refine i_Seq (i_If (i_cZ_eq (i_CmpL (i_Ll0 (i_LdcL ?_)))))); (refine i_cmp ?_); (with_reducible refine i_f (by omega) ?_); (with_reducible refine i_Seq (i_If (i_cZ_eq (i_CmpL (i_Ll0 (i_LdcL ?_)))))); (refine i_cmp ?_); (with_reducible refine i_f (by omega) ?_); (with_reducible refine i_Seq (i_If (i_cZ_eq (i_CmpL (i_Ll0 (i_LdcL ?_)))))); (refine i_cmp ?_); (with_reducible refine i_f (by omega) ?_); (with_reducible refine i_Seq (i_If (i_cZ_eq (i_CmpL (i_Ll0 (i_LdcL ?_)))))); (refine i_cmp ?_); (with_reducible refine i_f (by omega) ?_); (with_reducible refine i_Seq (i_If (i_cZ_eq (i_CmpL (i_Ll0 (i_LdcL ?_)))))); (refine i_cmp ?_); (with_reducible refine i_f (by omega) ?_); (with_reducible refine i_Seq (i_If (i_cZ_eq (i_CmpL (i_Ll0 (i_LdcL ?_)))))); (refine i_cmp ?_); (with_reducible refine i_f (by omega) ?_); (with_reducible refine i_RetI (i_eIf (i_cZ_eq (i_CmpL (i_Ll0 (i_LdcL ?_)))))); (refine i_cmp ?_); (with_reducible refine i_f (by omega) ?_); (with_reducible refine i_I ?_))
    exact hk
def zksS (k : Nat) : Nat := if k = 10 then 5 else if 3 ≤ k then 3 else k
set_option maxHeartbeats 1600000 in
theorem m_scan {O : zOm} (hO : zWld O) (hS : zS O = zmS zC0) {k i s : Nat} {B : Nat → Nat} {M : zMem} {K : Option zV → zMem → Prop} (hT : rTp M s B) (hks : k < s) (hi : M 250 ((35 : Nat) : Int) = ((i : Nat) : Int)) (h20 : i ≤ 2000)
    (hk : ∀ M', (∀ b j, ¬ (b = 250 ∧ j = 35 ∨ (((279 : Nat) : Int) ≤ b ∧ b ≤ ((282 : Nat) : Int) ∨ b = ((299 : Nat) : Int)) ∧ j = ((i : Nat) : Int)) → M' b j = M b j) → M' 250 ((35 : Nat) : Int) = ((i + 1 : Nat) : Int) → M' ((279 : Nat) : Int) ((i : Nat) : Int) = ((zksS (zkd B s k (zen B s k)) : Nat) : Int) → M' ((280 : Nat) : Int) ((i : Nat) : Int) = ((k : Nat) : Int) →
      (3 ≤ zkd B s k (zen B s k) → zkd B s k (zen B s k) ≤ 9 → M' ((282 : Nat) : Int) ((i : Nat) : Int) = ((zkd B s k (zen B s k) : Nat) : Int) - 3) → (zkd B s k (zen B s k) = 1 → M' ((282 : Nat) : Int) ((i : Nat) : Int) = ((zkvl B s k (zen B s k) : Nat) : Int)) → (zkd B s k (zen B s k) = 0 → M' ((299 : Nat) : Int) ((i : Nat) : Int) = ((zkvl B s k (zen B s k) : Nat) : Int)) → K (some (0, ((zen B s k : Nat) : Int))) M') : zR O F_Model_scan [(2, 250), (0, ((k : Nat) : Int))] M K := by
  obtain ⟨w1, w2, w3, w4⟩ := zen_ok B hks
  have hs2 := hT.2.1
  obtain ⟨L, hL⟩ : ∃ L, zen B s k = k + L := ⟨zen B s k - k, by omega⟩
  have hv := zVi_lt hks hL.symm
  rw [hL] at w1 w2 w3 w4 hk
  have hd : ∀ j, j < L → zsr B s (k + j) = zsr B s k := fun j hj => by
    rcases Nat.eq_zero_or_pos j with q | q
    · rw [q]; rfl
    · exact (zcp_t (w3 (k + j) (by omega) (by omega))).1
  have hfe := zcp_f w4
  have hb : ∀ j, j < L → zby B s (k + j) = B (k + j) := fun j hj => if_pos (by omega)
  clear w3 w4
  apply r_Model_scan hO
  unfold B_Model_scan
  have f65 := zMF (k := 65) hS rfl; have a299 := zMA (a := 299) (ty := .long) (n := 2001) hS rfl; have f35 := zMF (k := 35) hS rfl; have zo := zMO hS
  by_cases h1 : zsr B s k = 1
  · have hz : zkvl B s k (k + L) = zvg 27 96 B k (min L 8) := by
      unfold zkvl; rw [if_pos h1, show k + L - k = L by omega]
    have hkd : zkd B s k (k + L) = if 8 < L then 10 else zwn (zvg 27 96 B k (min L 8)) := by
      unfold zkd; rw [if_pos h1, hz, show k + L - k = L by omega]
    have hv1 := hv.1 h1
    rw [hz] at hv1
    rw [hkd, hz] at hk
    have hlt : ∀ c, c ≤ L → zvg 27 96 B k (min c 8) < 282429536481 := fun c hc => by
      have h5 := zvg_lt (m := 27) (d := 96) (B := B) (k := k) (min c 8) (fun j hj => by
        have h6 := hd j (by omega)
        rw [h1, zsr_in (by omega)] at h6
        have := zkcs_1 h6
        omega)
      have h6 : 27 ^ (min c 8) ≤ 27 ^ 8 := Nat.pow_le_pow_right (by decide) (by omega)
      have h7 : 27 ^ 8 = 282429536481 := by decide
      omega
    ((with_reducible refine i_Seq (i_Set (i_L1 (i_Seq (i_If (i_cZ_ne (i_Call (i_as1 ?_)))))))); simp only [w_set0, w_set1, w_setn0, w_setn1]; (with_reducible refine i_A0 (i_as1 (i_L1 (i_as0 ?_)))); (with_reducible refine i_recv0 (by assumption) ?_); (refine m_isLetter hO hS hT ⟨_, rfl, ?_⟩); (rw [decide_eq_true h1]); rw [zbI_t]; (with_reducible refine i_t (by omega) ?_); (with_reducible refine i_Seq (i_Set (i_IL (i_Seq ?_)))); simp only [w_set0, w_set1, w_setn0, w_setn1])
    refine w_WhileN L (fun c ρ M' => ρ = [250, ((k : Nat) : Int), ((k + c : Nat) : Int), ((zvg 27 96 B k (min c 8) : Nat) : Int)] ∧ M' = M) ⟨rfl, rfl⟩ ?_ ?_
    · rintro c ρ M1 X hc ⟨rfl, rfl⟩ hX
      have hs1 : zsr B s (k + c) = 1 := (hd c hc).trans h1
      have hb1 := hb c hc
      have hr := hs1
      rw [zsr_in (by omega)] at hr
      have hr1 := zkcs_1 hr
      have hl1 := hlt c (by omega)
      by_cases h8 : c < 8
      · rw [show min c 8 = c by omega] at hl1 ⊢
        have hst : ((zvg 27 96 B k c : Nat) : Int) * 27 + ((B (k + c) : Nat) : Int) - 96 = ((zvg 27 96 B k (min (c + 1) 8) : Nat) : Int) := by
          rw [show min (c + 1) 8 = c + 1 by omega]
          show _ = ((zvg 27 96 B k c * 27 + (B (k + c) - 96) : Nat) : Int)
          omega
        ((with_reducible refine i_turn (i_cZ_ne (i_Call (i_as1 (i_A0 (i_as1 (i_L2 (i_as0 ?_)))))))); (with_reducible refine i_recv0 (by assumption) ?_); (refine m_isLetter hO hS hT ⟨_, rfl, ?_⟩); (rw [decide_eq_true hs1]); rw [zbI_t]; (with_reducible refine i_t (by omega) ?_); (with_reducible refine i_Seq (i_If (i_cI_lt (i_Sub (i_L2 (i_L1 (i_I ?_))))))); rw [zx_sub (by omega) (by omega)]; (with_reducible refine i_t (by omega) ?_); (with_reducible refine i_Set (i_SubL (i_AddL (i_MulL (i_Ll3 (i_LdcL (i_I2L (i_Call (i_as1 (i_A0 (i_as1 (i_L2 (i_as0 ?_))))))))))))); (with_reducible refine i_recv0 (by assumption) ?_); (refine m_byteAt hO hS hT ⟨_, rfl, ?_⟩); (with_reducible refine i_LdcL ?_); (rw [hb1]); (rw [zw64_id (x := ((zvg 27 96 B k c : Nat) : Int) * 27) ⟨by omega, by omega⟩]); (rw [zw64_id (x := ((zvg 27 96 B k c : Nat) : Int) * 27 + ((B (k + c) : Nat) : Int)) ⟨by omega, by omega⟩]); (rw [zw64_id (x := ((zvg 27 96 B k c : Nat) : Int) * 27 + ((B (k + c) : Nat) : Int) - 96) ⟨by omega, by omega⟩]); (rw [hst]); simp only [w_set0, w_set1, w_setn0, w_setn1]; (with_reducible refine i_Inc2 ?_); rw [zx_inc (by omega)]; simp only [w_set0, w_set1, w_setn0, w_setn1])
        exact hX _ _ ⟨rfl, rfl⟩
      · ((with_reducible refine i_turn (i_cZ_ne (i_Call (i_as1 (i_A0 (i_as1 (i_L2 (i_as0 ?_)))))))); (with_reducible refine i_recv0 (by assumption) ?_); (refine m_isLetter hO hS hT ⟨_, rfl, ?_⟩); (rw [decide_eq_true hs1]); rw [zbI_t]; (with_reducible refine i_t (by omega) ?_); (with_reducible refine i_Seq (i_If (i_cI_lt (i_Sub (i_L2 (i_L1 (i_I ?_))))))); rw [zx_sub (by omega) (by omega)]; (with_reducible refine i_f (by omega) ?_); (with_reducible refine i_Inc2 ?_); rw [zx_inc (by omega)]; simp only [w_set0, w_set1, w_setn0, w_setn1])
        exact hX _ _ ⟨by rw [show min (c + 1) 8 = min c 8 by omega]; rfl, rfl⟩
    · rintro ρ M1 X ⟨rfl, rfl⟩
      have hne : ¬ zsr B s (k + L) = 1 := fun z => hfe ⟨z.trans h1.symm, Or.inl h1⟩
      have hl1 := hlt L (Nat.le_refl _)
      generalize zvg 27 96 B k (min L 8) = v at hk hl1 ⊢
      by_cases h8 : 8 < L
      · rw [if_pos h8] at hk
        ((with_reducible refine i_turn (i_cZ_ne (i_Call (i_as1 (i_A0 (i_as1 (i_L2 (i_as0 ?_)))))))); (with_reducible refine i_recv0 (by assumption) ?_); (refine m_isLetter hO hS hT ⟨_, rfl, ?_⟩); (rw [decide_eq_false hne]); rw [zbI_f]; (with_reducible refine i_f (by omega) ?_); (with_reducible refine i_Seq (i_Set (i_eIf (i_cI_gt (i_Sub (i_L2 (i_L1 (i_I ?_)))))))); rw [zx_sub (by omega) (by omega)]; (with_reducible refine i_t (by omega) ?_); (with_reducible refine i_I (i_Seq (i_sLA (i_FR ?_)))); simp only [w_set0, w_set1, w_setn0, w_setn1]; (with_reducible refine i_A0 ?_); (with_reducible refine i_fldR (by assumption) ?_); (with_reducible refine i_F (i_A0 ?_)); (with_reducible refine i_fld (by assumption) ?_); (with_reducible refine i_Ll3 ?_); (with_reducible refine i_in (by assumption) (by omega) (by omega) ?_); (with_reducible refine i_Seq (i_sCall (i_as1 (i_A0 (i_as1 (i_eIf (i_cI_gt (i_Sub (i_L2 (i_L1 (i_I ?_))))))))))); (rw [hi]); rw [zx_sub (by omega) (by omega)]; (with_reducible refine i_t (by omega) ?_); (with_reducible refine i_I (i_as1 (i_L1 (i_as1 (i_L2 (i_as1 (i_L5 (i_as0 ?_)))))))); (with_reducible refine i_recv0 (by assumption) ?_))
        refine m_token hO hS (i := i) (by first | exact hi | (rw [zg_n _ _ _ (by omega)]; exact hi)) h20 (fun M2 f2 g2 s1 s2 s3 => ⟨rfl, ?_⟩)
        (with_reducible refine i_RetI (i_L2 ?_))
        exact hk M2 (fun b j q => by rw [f2 b j (by omega), zg_o _ _ (by omega)]) g2 s1 s2 (fun _ z => absurd z (by decide)) (fun z => absurd z (by decide)) (fun z => absurd z (by decide))
      · rw [if_neg h8] at hk
        rcases zwn_le v with hz | hz
        · rw [hz] at hk
          have hw : zwI (zwn v) = -1 := by rw [hz]; rfl
          ((with_reducible refine i_turn (i_cZ_ne (i_Call (i_as1 (i_A0 (i_as1 (i_L2 (i_as0 ?_)))))))); (with_reducible refine i_recv0 (by assumption) ?_); (refine m_isLetter hO hS hT ⟨_, rfl, ?_⟩); (rw [decide_eq_false hne]); rw [zbI_f]; (with_reducible refine i_f (by omega) ?_); (with_reducible refine i_Seq (i_Set (i_eIf (i_cI_gt (i_Sub (i_L2 (i_L1 (i_I ?_)))))))); rw [zx_sub (by omega) (by omega)]; (with_reducible refine i_f (by omega) ?_); (with_reducible refine i_Call (i_as1 (i_Ll3 (i_as0 (i_recv1 ?_))))); (refine m_wordOf hO ⟨_, rfl, ?_⟩); (with_reducible refine i_Seq (i_sLA (i_FR ?_))); (rw [hw]); simp only [w_set0, w_set1, w_setn0, w_setn1]; (with_reducible refine i_A0 ?_); (with_reducible refine i_fldR (by assumption) ?_); (with_reducible refine i_F (i_A0 ?_)); (with_reducible refine i_fld (by assumption) ?_); (with_reducible refine i_Ll3 ?_); (with_reducible refine i_in (by assumption) (by omega) (by omega) ?_); (with_reducible refine i_Seq (i_sCall (i_as1 (i_A0 (i_as1 (i_eIf (i_cI_gt (i_Sub (i_L2 (i_L1 (i_I ?_))))))))))); (rw [hi]); rw [zx_sub (by omega) (by omega)]; (with_reducible refine i_f (by omega) ?_); (with_reducible refine i_eIf (i_cZ_ge (i_L5 ?_))); (with_reducible refine i_f (by omega) ?_); (with_reducible refine i_I (i_as1 (i_L1 (i_as1 (i_L2 (i_as1 (i_L5 (i_as0 ?_)))))))); (with_reducible refine i_recv0 (by assumption) ?_))
          refine m_token hO hS (i := i) (by first | exact hi | (rw [zg_n _ _ _ (by omega)]; exact hi)) h20 (fun M2 f2 g2 s1 s2 s3 => ⟨rfl, ?_⟩)
          (with_reducible refine i_RetI (i_L2 ?_))
          exact hk M2 (fun b j q => by rw [f2 b j (by omega), zg_o _ _ (by omega)]) g2 s1 s2 (fun z => absurd z (by decide)) (fun z => absurd z (by decide)) (fun _ => by rw [f2 _ _ (by omega)]; exact zg_s _ _ _ _ _)
        · have hw : zwI (zwn v) = ((zwn v : Nat) : Int) - 3 := if_neg (by omega)
          have hw0 : 0 ≤ zwI (zwn v) := by rw [hw]; omega
          have hzs : zksS (zwn v) = 3 := by unfold zksS; rw [if_neg (by omega), if_pos (by omega)]
          rw [hzs] at hk
          ((with_reducible refine i_turn (i_cZ_ne (i_Call (i_as1 (i_A0 (i_as1 (i_L2 (i_as0 ?_)))))))); (with_reducible refine i_recv0 (by assumption) ?_); (refine m_isLetter hO hS hT ⟨_, rfl, ?_⟩); (rw [decide_eq_false hne]); rw [zbI_f]; (with_reducible refine i_f (by omega) ?_); (with_reducible refine i_Seq (i_Set (i_eIf (i_cI_gt (i_Sub (i_L2 (i_L1 (i_I ?_)))))))); rw [zx_sub (by omega) (by omega)]; (with_reducible refine i_f (by omega) ?_); (with_reducible refine i_Call (i_as1 (i_Ll3 (i_as0 (i_recv1 ?_))))); (refine m_wordOf hO ⟨_, rfl, ?_⟩); (with_reducible refine i_Seq (i_sLA (i_FR ?_))); simp only [w_set0, w_set1, w_setn0, w_setn1]; (with_reducible refine i_A0 ?_); (with_reducible refine i_fldR (by assumption) ?_); (with_reducible refine i_F (i_A0 ?_)); (with_reducible refine i_fld (by assumption) ?_); (with_reducible refine i_Ll3 ?_); (with_reducible refine i_in (by assumption) (by omega) (by omega) ?_); (with_reducible refine i_Seq (i_sCall (i_as1 (i_A0 (i_as1 (i_eIf (i_cI_gt (i_Sub (i_L2 (i_L1 (i_I ?_))))))))))); (rw [hi]); rw [zx_sub (by omega) (by omega)]; (with_reducible refine i_f (by omega) ?_); (with_reducible refine i_eIf (i_cZ_ge (i_L5 ?_))); (with_reducible refine i_t (by omega) ?_); (with_reducible refine i_I (i_as1 (i_L1 (i_as1 (i_L2 (i_as1 (i_L5 (i_as0 ?_)))))))); (with_reducible refine i_recv0 (by assumption) ?_))
          refine m_token hO hS (i := i) (by first | exact hi | (rw [zg_n _ _ _ (by omega)]; exact hi)) h20 (fun M2 f2 g2 s1 s2 s3 => ⟨rfl, ?_⟩)
          (with_reducible refine i_RetI (i_L2 ?_))
          exact hk M2 (fun b j q => by rw [f2 b j (by omega), zg_o _ _ (by omega)]) g2 s1 s2 (fun _ _ => by rw [s3]; exact hw) (fun z => absurd z (by omega)) (fun z => absurd z (by omega))
  by_cases h2 : zsr B s k = 2
  · have hz : L ≤ 4 → zkvl B s k (k + L) = zvg 10 48 B k (min L 4) := fun h4 => by
      unfold zkvl; rw [if_neg h1, show k + L - k = L by omega, show min L 8 = min L 4 by omega]
    have hkd : zkd B s k (k + L) = if 4 < L then 10 else 1 := by
      unfold zkd; rw [if_neg h1, if_pos h2, show k + L - k = L by omega]
    rw [hkd] at hk
    have hlt : ∀ c, c ≤ L → zvg 10 48 B k (min c 4) < 10000 := fun c hc => by
      have h5 := zvg_lt (m := 10) (d := 48) (B := B) (k := k) (min c 4) (fun j hj => by
        have h6 := hd j (by omega)
        rw [h2, zsr_in (by omega)] at h6
        have := zkcs_2 h6
        omega)
      have h6 : 10 ^ (min c 4) ≤ 10 ^ 4 := Nat.pow_le_pow_right (by decide) (by omega)
      have h7 : 10 ^ 4 = 10000 := by decide
      omega
    ((with_reducible refine i_Seq (i_Set (i_L1 (i_Seq (i_If (i_cZ_ne (i_Call (i_as1 ?_)))))))); simp only [w_set0, w_set1, w_setn0, w_setn1]; (with_reducible refine i_A0 (i_as1 (i_L1 (i_as0 ?_)))); (with_reducible refine i_recv0 (by assumption) ?_); (refine m_isLetter hO hS hT ⟨_, rfl, ?_⟩); (rw [decide_eq_false h1]); rw [zbI_f]; (with_reducible refine i_f (by omega) ?_); (with_reducible refine i_Seq (i_If (i_cZ_ne (i_Call (i_as1 (i_A0 (i_as1 (i_L1 (i_as0 ?_))))))))); (with_reducible refine i_recv0 (by assumption) ?_); (refine m_isDigit hO hS hT ⟨_, rfl, ?_⟩); (rw [decide_eq_true h2]); rw [zbI_t]; (with_reducible refine i_t (by omega) ?_); (with_reducible refine i_Seq (i_Set (i_I (i_Seq ?_)))); simp only [w_set0, w_set1, w_setn0, w_setn1])
    refine w_WhileN L (fun c ρ M' => (∃ l, ρ = 250 :: ((k : Nat) : Int) :: ((k + c : Nat) : Int) :: ((zvg 10 48 B k (min c 4) : Nat) : Int) :: l) ∧ M' = M) ⟨⟨_, rfl⟩, rfl⟩ ?_ ?_
    · rintro c ρ M1 X hc ⟨⟨l, rfl⟩, rfl⟩ hX
      have hs1 : zsr B s (k + c) = 2 := (hd c hc).trans h2
      have hb1 := hb c hc
      have hr := hs1
      rw [zsr_in (by omega)] at hr
      have hr1 := zkcs_2 hr
      have hl1 := hlt c (by omega)
      by_cases h8 : c < 4
      · rw [show min c 4 = c by omega] at hl1 ⊢
        have hst : 10 * zvg 10 48 B k c + B (k + c) - 48 = zvg 10 48 B k (min (c + 1) 4) := by
          rw [show min (c + 1) 4 = c + 1 by omega]
          show _ = zvg 10 48 B k c * 10 + (B (k + c) - 48)
          omega
        ((with_reducible refine i_turn (i_cZ_ne (i_Call (i_as1 (i_A0 (i_as1 (i_L2 (i_as0 ?_)))))))); (with_reducible refine i_recv0 (by assumption) ?_); (refine m_isDigit hO hS hT ⟨_, rfl, ?_⟩); (rw [decide_eq_true hs1]); rw [zbI_t]; (with_reducible refine i_t (by omega) ?_); (with_reducible refine i_Seq (i_If (i_cI_lt (i_Sub (i_L2 (i_L1 (i_I ?_))))))); rw [zx_sub (by omega) (by omega)]; (with_reducible refine i_t (by omega) ?_); (with_reducible refine i_Set (i_Sub (i_Add (i_Mul (i_I (i_L3 (i_Call (i_as1 (i_A0 (i_as1 (i_L2 (i_as0 ?_)))))))))))); (with_reducible refine i_recv0 (by assumption) ?_); (refine m_byteAt hO hS hT ⟨_, rfl, ?_⟩); (with_reducible refine i_I ?_); (rw [hb1]); rw [zx_cmul (by omega)]; rw [zx_add (by omega)]; rw [zx_subc (by omega) (by omega)]; simp only [w_set0, w_set1, w_setn0, w_setn1]; (with_reducible refine i_Inc2 ?_); rw [zx_inc (by omega)]; simp only [w_set0, w_set1, w_setn0, w_setn1])
        exact hX _ _ ⟨⟨_, by rw [← hst]; rfl⟩, rfl⟩
      · ((with_reducible refine i_turn (i_cZ_ne (i_Call (i_as1 (i_A0 (i_as1 (i_L2 (i_as0 ?_)))))))); (with_reducible refine i_recv0 (by assumption) ?_); (refine m_isDigit hO hS hT ⟨_, rfl, ?_⟩); (rw [decide_eq_true hs1]); rw [zbI_t]; (with_reducible refine i_t (by omega) ?_); (with_reducible refine i_Seq (i_If (i_cI_lt (i_Sub (i_L2 (i_L1 (i_I ?_))))))); rw [zx_sub (by omega) (by omega)]; (with_reducible refine i_f (by omega) ?_); (with_reducible refine i_Inc2 ?_); rw [zx_inc (by omega)]; simp only [w_set0, w_set1, w_setn0, w_setn1])
        exact hX _ _ ⟨⟨_, by rw [show min (c + 1) 4 = min c 4 by omega]; rfl⟩, rfl⟩
    · rintro ρ M1 X ⟨⟨l, rfl⟩, rfl⟩
      have hne : ¬ zsr B s (k + L) = 2 := fun z => hfe ⟨z.trans h2.symm, Or.inr h2⟩
      have hl1 := hlt L (Nat.le_refl _)
      by_cases h8 : 4 < L
      · rw [if_pos h8] at hk
        ((with_reducible refine i_turn (i_cZ_ne (i_Call (i_as1 (i_A0 (i_as1 (i_L2 (i_as0 ?_)))))))); (with_reducible refine i_recv0 (by assumption) ?_); (refine m_isDigit hO hS hT ⟨_, rfl, ?_⟩); (rw [decide_eq_false hne]); rw [zbI_f]; (with_reducible refine i_f (by omega) ?_); (with_reducible refine i_Seq (i_sCall (i_as1 (i_A0 (i_as1 (i_eIf (i_cI_gt (i_Sub (i_L2 (i_L1 (i_I ?_))))))))))); rw [zx_sub (by omega) (by omega)]; (with_reducible refine i_t (by omega) ?_); (with_reducible refine i_I (i_as1 (i_L1 (i_as1 (i_L2 (i_as1 (i_L3 (i_as0 ?_)))))))); (with_reducible refine i_recv0 (by assumption) ?_))
        refine m_token hO hS (i := i) hi h20 (fun M2 f2 g2 s1 s2 s3 => ⟨rfl, ?_⟩)
        (with_reducible refine i_RetI (i_L2 ?_))
        exact hk M2 (fun b j q => f2 b j (by omega)) g2 s1 s2 (fun _ z => absurd z (by decide)) (fun z => absurd z (by decide)) (fun z => absurd z (by decide))
      · rw [if_neg h8] at hk
        ((with_reducible refine i_turn (i_cZ_ne (i_Call (i_as1 (i_A0 (i_as1 (i_L2 (i_as0 ?_)))))))); (with_reducible refine i_recv0 (by assumption) ?_); (refine m_isDigit hO hS hT ⟨_, rfl, ?_⟩); (rw [decide_eq_false hne]); rw [zbI_f]; (with_reducible refine i_f (by omega) ?_); (with_reducible refine i_Seq (i_sCall (i_as1 (i_A0 (i_as1 (i_eIf (i_cI_gt (i_Sub (i_L2 (i_L1 (i_I ?_))))))))))); rw [zx_sub (by omega) (by omega)]; (with_reducible refine i_f (by omega) ?_); (with_reducible refine i_I (i_as1 (i_L1 (i_as1 (i_L2 (i_as1 (i_L3 (i_as0 ?_)))))))); (with_reducible refine i_recv0 (by assumption) ?_))
        refine m_token hO hS (i := i) hi h20 (fun M2 f2 g2 s1 s2 s3 => ⟨rfl, ?_⟩)
        (with_reducible refine i_RetI (i_L2 ?_))
        exact hk M2 (fun b j q => f2 b j (by omega)) g2 s1 s2 (fun z => absurd z (by decide)) (fun _ => by rw [s3, hz (by omega)]) (fun z => absurd z (by decide))
  · have hL1 : L = 1 := by
      rcases Nat.lt_or_ge 1 L with q | q
      · exfalso
        have h3 := (zen_ok B hks).2.2.1 (k + 1) (by omega) (by omega)
        exact (zcp_t h3).2.elim h1 h2
      · omega
    subst hL1
    have hkd : zkd B s k (k + 1) = if zsr B s k = 3 then 2 else 10 := by
      unfold zkd; rw [if_neg h1, if_neg h2]
    rw [hkd] at hk
    have hb0 : zby B s k = B k := if_pos hks
    by_cases h3 : zsr B s k = 3
    · have hb3 : zby B s k = 59 := zkcs_3 h3
      rw [if_pos h3] at hk
      ((with_reducible refine i_Seq (i_Set (i_L1 (i_Seq (i_If (i_cZ_ne (i_Call (i_as1 ?_)))))))); simp only [w_set0, w_set1, w_setn0, w_setn1]; (with_reducible refine i_A0 (i_as1 (i_L1 (i_as0 ?_)))); (with_reducible refine i_recv0 (by assumption) ?_); (refine m_isLetter hO hS hT ⟨_, rfl, ?_⟩); (rw [decide_eq_false h1]); rw [zbI_f]; (with_reducible refine i_f (by omega) ?_); (with_reducible refine i_Seq (i_If (i_cZ_ne (i_Call (i_as1 (i_A0 (i_as1 (i_L1 (i_as0 ?_))))))))); (with_reducible refine i_recv0 (by assumption) ?_); (refine m_isDigit hO hS hT ⟨_, rfl, ?_⟩); (rw [decide_eq_false h2]); rw [zbI_f]; (with_reducible refine i_f (by omega) ?_); (with_reducible refine i_Seq (i_sCall (i_as1 (i_A0 (i_as1 (i_eIf (i_cI_eq (i_Call (i_as1 (i_A0 (i_as1 (i_L1 (i_as0 ?_))))))))))))); (with_reducible refine i_recv0 (by assumption) ?_); (refine m_byteAt hO hS hT ⟨_, rfl, ?_⟩); (with_reducible refine i_I ?_); (rw [hb3]); (with_reducible refine i_t (by omega) ?_); (with_reducible refine i_I (i_as1 (i_L1 (i_as1 (i_Add (i_L1 (i_I (i_as1 (i_I (i_as0 ?_)))))))))); (with_reducible refine i_recv0 (by assumption) ?_); rw [zx_inc (by omega)])
      refine m_token hO hS (i := i) hi h20 (fun M2 f2 g2 s1 s2 s3 => ⟨rfl, ?_⟩)
      ((with_reducible refine i_RetI (i_Add (i_L1 (i_I ?_)))); rw [zx_inc (by omega)])
      exact hk M2 (fun b j q => f2 b j (by omega)) g2 s1 s2 (fun z => absurd z (by decide)) (fun z => absurd z (by decide)) (fun z => absurd z (by decide))
    · have hb3 : ¬ zby B s k = 59 := fun z => h3 (zkcs_3i.mpr z)
      rw [if_neg h3] at hk
      ((with_reducible refine i_Seq (i_Set (i_L1 (i_Seq (i_If (i_cZ_ne (i_Call (i_as1 ?_)))))))); simp only [w_set0, w_set1, w_setn0, w_setn1]; (with_reducible refine i_A0 (i_as1 (i_L1 (i_as0 ?_)))); (with_reducible refine i_recv0 (by assumption) ?_); (refine m_isLetter hO hS hT ⟨_, rfl, ?_⟩); (rw [decide_eq_false h1]); rw [zbI_f]; (with_reducible refine i_f (by omega) ?_); (with_reducible refine i_Seq (i_If (i_cZ_ne (i_Call (i_as1 (i_A0 (i_as1 (i_L1 (i_as0 ?_))))))))); (with_reducible refine i_recv0 (by assumption) ?_); (refine m_isDigit hO hS hT ⟨_, rfl, ?_⟩); (rw [decide_eq_false h2]); rw [zbI_f]; (with_reducible refine i_f (by omega) ?_); (with_reducible refine i_Seq (i_sCall (i_as1 (i_A0 (i_as1 (i_eIf (i_cI_eq (i_Call (i_as1 (i_A0 (i_as1 (i_L1 (i_as0 ?_))))))))))))); (with_reducible refine i_recv0 (by assumption) ?_); (refine m_byteAt hO hS hT ⟨_, rfl, ?_⟩); (with_reducible refine i_I ?_); (with_reducible refine i_f (by omega) ?_); (with_reducible refine i_I (i_as1 (i_L1 (i_as1 (i_Add (i_L1 (i_I (i_as1 (i_I (i_as0 ?_)))))))))); (with_reducible refine i_recv0 (by assumption) ?_); rw [zx_inc (by omega)])
      refine m_token hO hS (i := i) hi h20 (fun M2 f2 g2 s1 s2 s3 => ⟨rfl, ?_⟩)
      ((with_reducible refine i_RetI (i_Add (i_L1 (i_I ?_)))); rw [zx_inc (by omega)])
      exact hk M2 (fun b j q => f2 b j (by omega)) g2 s1 s2 (fun _ z => absurd z (by decide)) (fun z => absurd z (by decide)) (fun z => absurd z (by decide))
def rTk (M : zMem) (B : Nat → Nat) (s j : Nat) : Prop := M ((279 : Nat) : Int) ((j : Nat) : Int) = ((zksS (zKi B s j) : Nat) : Int) ∧ M ((280 : Nat) : Int) ((j : Nat) : Int) = ((zps B s j : Nat) : Int) ∧ (3 ≤ zKi B s j → zKi B s j ≤ 9 → M ((282 : Nat) : Int) ((j : Nat) : Int) = ((zKi B s j : Nat) : Int) - 3) ∧ (zKi B s j = 1 → M ((282 : Nat) : Int) ((j : Nat) : Int) = ((zVi B s j : Nat) : Int)) ∧ (zKi B s j = 0 → M ((299 : Nat) : Int) ((j : Nat) : Int) = ((zVi B s j : Nat) : Int))
theorem rTk.to {M M' : zMem} {B : Nat → Nat} {s j : Nat} (h : rTk M B s j) (e : ∀ b, ((279 : Nat) : Int) ≤ b ∧ b ≤ ((282 : Nat) : Int) ∨ b = ((299 : Nat) : Int) → M' b ((j : Nat) : Int) = M b ((j : Nat) : Int)) : rTk M' B s j := ⟨by rw [e _ (by omega)]; exact h.1, by rw [e _ (by omega)]; exact h.2.1, fun a b => by rw [e _ (by omega)]; exact h.2.2.1 a b, fun a => by rw [e _ (by omega)]; exact h.2.2.2.1 a, fun a => by rw [e _ (by omega)]; exact h.2.2.2.2 a⟩
/-- the tokens as they are kept for the parse -/
def rTt (M : zMem) (B : Nat → Nat) (s : Nat) : Prop := ∀ i : Nat, i ≤ zhh B s → (zps B s i < s → M ((279 : Nat) : Int) ((i : Nat) : Int) = ((zksS (zKi B s i) : Nat) : Int) ∧ M ((280 : Nat) : Int) ((i : Nat) : Int) = ((zps B s i : Nat) : Int)) ∧ (zps B s i = s → M ((279 : Nat) : Int) ((i : Nat) : Int) = 4 ∧ M ((280 : Nat) : Int) ((i : Nat) : Int) = ((s : Nat) : Int)) ∧ (zps B s i < s → zKi B s i ≠ 10 → rTk M B s i)
theorem rTt.to {M M' : zMem} {B : Nat → Nat} {s : Nat} (h : rTt M B s) (e : ∀ b j, ((279 : Nat) : Int) ≤ b ∧ b ≤ ((282 : Nat) : Int) ∨ b = ((299 : Nat) : Int) → M' b j = M b j) : rTt M' B s := fun i hi => ⟨fun z => by rw [e _ _ (by omega), e _ _ (by omega)]; exact (h i hi).1 z, fun z => by rw [e _ _ (by omega), e _ _ (by omega)]; exact (h i hi).2.1 z, fun z w => ((h i hi).2.2 z w).to (fun b q => e b _ q)⟩
theorem rTt.tk {M : zMem} {B : Nat → Nat} {s i : Nat} (h : rTt M B s) (hi : i < zhh B s) : rTk M B s i := (h i (Nat.le_of_lt hi)).2.2 ((zhh_ok B s).2.1 i hi).1 (by have := zKi_h hi; omega)
theorem rTt_of {M : zMem} {B : Nat → Nat} {s g : Nat} (h1 : ∀ j, j < g → zps B s j < s ∧ zKi B s j ≠ 10 ∧ rTk M B s j) (h2 : (zps B s g = s ∧ M ((279 : Nat) : Int) ((g : Nat) : Int) = 4 ∧ M ((280 : Nat) : Int) ((g : Nat) : Int) = ((s : Nat) : Int)) ∨ (zps B s g < s ∧ zKi B s g = 10 ∧ M ((279 : Nat) : Int) ((g : Nat) : Int) = 5 ∧ M ((280 : Nat) : Int) ((g : Nat) : Int) = ((zps B s g : Nat) : Int))) : rTt M B s := by
  have hg : zhh B s ≤ g := by
    rcases Nat.lt_or_ge g (zhh B s) with q | q
    · exfalso
      have a1 := ((zhh_ok B s).2.1 g q).1
      have a2 := zKi_h q
      rcases h2 with h2 | h2
      · omega
      · omega
    · exact q
  intro i hi
  rcases Nat.lt_or_ge i g with q | q
  · obtain ⟨b1, b2, b3⟩ := h1 i q
    exact ⟨fun _ => ⟨b3.1, b3.2.1⟩, fun z => absurd z (by omega), fun _ _ => b3⟩
  · obtain rfl : i = g := by omega
    refine ⟨fun z => ?_, fun z => ?_, fun z w => ?_⟩
    · rcases h2 with h2 | h2
      · omega
      · obtain ⟨c1, c2, c3, c4⟩ := h2
        rw [c2]
        exact ⟨c3, c4⟩
    · rcases h2 with h2 | h2
      · exact h2.2
      · omega
    · exfalso
      rcases h2 with h2 | h2
      · omega
      · omega
theorem zksk_bl {B : Nat → Nat} {s k : Nat} (h : zsr B s k = 0) : zksk B s k = zksk B s (k + 1) := zfind_ext fun j _ => decide_eq_decide.mpr ⟨fun z => ⟨by
  rcases Nat.lt_or_ge k j with q | q
  · exact q
  · exfalso
    obtain rfl : j = k := by omega
    exact z.2 h, z.2⟩, fun z => ⟨by omega, z.2⟩⟩
theorem zksk_nb {B : Nat → Nat} {s k : Nat} (hk : k < s) (h : zsr B s k ≠ 0) : zksk B s k = k := by
  obtain ⟨a, b, c, d⟩ := zksk_ok B (Nat.le_of_lt hk)
  rcases Nat.lt_or_ge k (zksk B s k) with q | q
  · exact absurd (c k (Nat.le_refl _) q) h
  · omega
set_option maxHeartbeats 1600000 in
theorem m_scanAll {O : zOm} (hO : zWld O) (hS : zS O = zmS zC0) {s : Nat} {B : Nat → Nat} {M : zMem} {K : Option zV → zMem → Prop} (hT : rTp M s B)
    (hk : ∀ M', (∀ b j, ¬ (b = 250 ∧ j = 35 ∨ ((279 : Nat) : Int) ≤ b ∧ b ≤ ((282 : Nat) : Int) ∨ b = ((299 : Nat) : Int)) → M' b j = M b j) → rTt M' B s → K none M') : zR O F_Model_scanAll [(2, 250)] M K := by
  have hs2 := hT.2.1
  have t1 := hT.1
  apply r_Model_scanAll hO
  unfold B_Model_scanAll
  have f35 := zMF (k := 35) hS rfl; have f33 := zMF (k := 33) hS rfl; have f36 := zMF (k := 36) hS rfl; have a279 := zMA (a := 279) (ty := .int) (n := 2001) hS rfl; have zo := zMO hS
  ((with_reducible refine i_Seq (i_Seq (i_sF (i_A0 (i_I ?_))))); (with_reducible refine i_fld (by assumption) ?_); (with_reducible refine i_Seq (i_Set (i_I (i_Seq (i_Set (i_I (i_Seq ?_))))))); simp only [w_set0, w_set1, w_setn0, w_setn1])
  generalize hM0 : zput M 250 (zup (M 250) ((35 : Nat) : Int) 0) = M0
  have f0 : ∀ b j, ¬ (b = 250 ∧ j = 35) → M0 b j = M b j := fun b j q => by rw [← hM0, zg_o _ _ (by omega)]
  have g0 : M0 250 ((35 : Nat) : Int) = ((0 : Nat) : Int) := by rw [← hM0]; exact zg_s _ _ _ _ _
  clear hM0
  refine w_While (α := zLoc × zMem × Nat × Nat × Bool) (fun x => (x.1, x.2.1)) (fun x => (∃ l, x.1 = 250 :: ((x.2.2.1 : Nat) : Int) :: zbI x.2.2.2.2 :: l) ∧ (∀ b j, ¬ (b = 250 ∧ j = 35 ∨ ((279 : Nat) : Int) ≤ b ∧ b ≤ ((282 : Nat) : Int) ∨ b = ((299 : Nat) : Int)) → x.2.1 b j = M b j) ∧ x.2.1 250 ((35 : Nat) : Int) = ((x.2.2.2.1 : Nat) : Int) ∧ x.2.2.2.1 ≤ x.2.2.1 ∧ x.2.2.1 ≤ s ∧
    (x.2.2.2.2 = true → zksk B s x.2.2.1 = zps B s x.2.2.2.1 ∧ ∀ j, j < x.2.2.2.1 → zps B s j < s ∧ zKi B s j ≠ 10 ∧ rTk x.2.1 B s j) ∧
    (x.2.2.2.2 = false → rTt x.2.1 B s)) (fun x => s - x.2.2.1) (fun x X hx hy => ?_) (_, M0, 0, 0, true) ⟨⟨_, rfl⟩, fun b j q => f0 b j (fun z => q (Or.inl z)), g0, Nat.le_refl _, Nat.zero_le _, fun _ => ⟨rfl, fun j hj => absurd hj (Nat.not_lt_zero _)⟩, fun z => by cases z⟩
  obtain ⟨ρ, M1, kk, i, good⟩ := x
  (try dsimp only at hx)
  obtain ⟨⟨l, rfl⟩, f1, g1, hik, hks, hG, hB⟩ := hx
  (try dsimp only at f1 g1 hik hks hG hB hy ⊢)
  have hT1 : rTp M1 s B := hT.to (fun b j q => f1 b j (by omega))
  have t11 := hT1.1
  have hy2 : ∀ (l : zLoc) (M' : zMem) (kk' i' : Nat) (gd : Bool), (∀ b j, ¬ (b = 250 ∧ j = 35 ∨ ((279 : Nat) : Int) ≤ b ∧ b ≤ ((282 : Nat) : Int) ∨ b = ((299 : Nat) : Int)) → M' b j = M b j) → M' 250 ((35 : Nat) : Int) = ((i' : Nat) : Int) → i' ≤ kk' → kk' ≤ s → (gd = true → zksk B s kk' = zps B s i' ∧ ∀ j, j < i' → zps B s j < s ∧ zKi B s j ≠ 10 ∧ rTk M' B s j) → (gd = false → rTt M' B s) → kk < kk' → X (250 :: ((kk' : Nat) : Int) :: zbI gd :: l) M' := fun l M' kk' i' gd a1 a2 a3 a4 a5 a6 a7 => hy (250 :: ((kk' : Nat) : Int) :: zbI gd :: l, M', kk', i', gd) ⟨⟨l, rfl⟩, a1, a2, a3, a4, a5, a6⟩ (by (try dsimp only); omega)
  clear hy
  cases good
  · by_cases hlt : kk < s
    · ((with_reducible refine i_turn (i_cAnd (i_cI_lt (i_L1 (i_F (i_A0 ?_)))))); (with_reducible refine i_fld (by assumption) ?_); rw [zbI_f]; (rw [t11]); (with_reducible refine i_t (by omega) ?_); (with_reducible refine i_cZ_ne (i_L2 ?_)); (with_reducible refine i_f (by omega) ?_); (with_reducible refine i_If (i_cZ_ne (i_L2 ?_))); (with_reducible refine i_f (by omega) ?_); (with_reducible refine i_RetV ?_))
      exact hk M1 f1 (hB rfl)
    · ((with_reducible refine i_turn (i_cAnd (i_cI_lt (i_L1 (i_F (i_A0 ?_)))))); (with_reducible refine i_fld (by assumption) ?_); rw [zbI_f]; (rw [t11]); (with_reducible refine i_f (by omega) ?_); (with_reducible refine i_If (i_cZ_ne (i_L2 ?_))); (with_reducible refine i_f (by omega) ?_); (with_reducible refine i_RetV ?_))
      exact hk M1 f1 (hB rfl)
  obtain ⟨e1, e2⟩ := hG rfl
  by_cases hlt : kk < s
  · have hby : zby B s kk = B kk := if_pos hlt
    by_cases hbl : zsr B s kk = 0
    · have hc := zkcs_0i.mp hbl
      have hgo : ∀ l, X (250 :: ((kk + 1 : Nat) : Int) :: 1 :: l) M1 := fun l => hy2 l M1 (kk + 1) i true f1 g1 (by omega) hlt (fun _ => ⟨by rw [← zksk_bl hbl]; exact e1, e2⟩) (fun z => by cases z) (by omega)
      rcases hc with hc | hc | hc | hc
      · ((with_reducible refine i_turn (i_cAnd (i_cI_lt (i_L1 (i_F (i_A0 ?_)))))); (with_reducible refine i_fld (by assumption) ?_); rw [zbI_t]; (rw [t11]); (with_reducible refine i_t (by omega) ?_); (with_reducible refine i_cZ_ne (i_L2 ?_)); (with_reducible refine i_t (by omega) ?_); (with_reducible refine i_Blk (i_Seq (i_Set (i_Call (i_as1 (i_A0 (i_as1 (i_L1 (i_as0 ?_))))))))); (with_reducible refine i_recv0 (by assumption) ?_); (refine m_byteAt hO hS hT1 ⟨_, rfl, ?_⟩); (with_reducible refine i_Seq (i_If (i_cOr (i_cOr (i_cOr (i_cI_eq ?_)))))); (rw [hc]); simp only [w_set0, w_set1, w_setn0, w_setn1]; rw [w_setT]; (with_reducible refine i_L3 (i_I ?_)); (with_reducible refine i_f (by omega) ?_); (with_reducible refine i_cI_eq (i_L3 (i_I ?_))); (with_reducible refine i_t (by omega) ?_); (with_reducible refine i_Seq (i_Inc1 (i_Brk (i_lab1 ?_)))); rw [zx_inc (by omega)]; simp only [w_set0, w_set1, w_setn0, w_setn1])
        exact hgo _
      · ((with_reducible refine i_turn (i_cAnd (i_cI_lt (i_L1 (i_F (i_A0 ?_)))))); (with_reducible refine i_fld (by assumption) ?_); rw [zbI_t]; (rw [t11]); (with_reducible refine i_t (by omega) ?_); (with_reducible refine i_cZ_ne (i_L2 ?_)); (with_reducible refine i_t (by omega) ?_); (with_reducible refine i_Blk (i_Seq (i_Set (i_Call (i_as1 (i_A0 (i_as1 (i_L1 (i_as0 ?_))))))))); (with_reducible refine i_recv0 (by assumption) ?_); (refine m_byteAt hO hS hT1 ⟨_, rfl, ?_⟩); (with_reducible refine i_Seq (i_If (i_cOr (i_cOr (i_cOr (i_cI_eq ?_)))))); (rw [hc]); simp only [w_set0, w_set1, w_setn0, w_setn1]; rw [w_setT]; (with_reducible refine i_L3 (i_I ?_)); (with_reducible refine i_f (by omega) ?_); (with_reducible refine i_cI_eq (i_L3 (i_I ?_))); (with_reducible refine i_f (by omega) ?_); (with_reducible refine i_cI_eq (i_L3 (i_I ?_))); (with_reducible refine i_t (by omega) ?_); (with_reducible refine i_Seq (i_Inc1 (i_Brk (i_lab1 ?_)))); rw [zx_inc (by omega)]; simp only [w_set0, w_set1, w_setn0, w_setn1])
        exact hgo _
      · ((with_reducible refine i_turn (i_cAnd (i_cI_lt (i_L1 (i_F (i_A0 ?_)))))); (with_reducible refine i_fld (by assumption) ?_); rw [zbI_t]; (rw [t11]); (with_reducible refine i_t (by omega) ?_); (with_reducible refine i_cZ_ne (i_L2 ?_)); (with_reducible refine i_t (by omega) ?_); (with_reducible refine i_Blk (i_Seq (i_Set (i_Call (i_as1 (i_A0 (i_as1 (i_L1 (i_as0 ?_))))))))); (with_reducible refine i_recv0 (by assumption) ?_); (refine m_byteAt hO hS hT1 ⟨_, rfl, ?_⟩); (with_reducible refine i_Seq (i_If (i_cOr (i_cOr (i_cOr (i_cI_eq ?_)))))); (rw [hc]); simp only [w_set0, w_set1, w_setn0, w_setn1]; rw [w_setT]; (with_reducible refine i_L3 (i_I ?_)); (with_reducible refine i_f (by omega) ?_); (with_reducible refine i_cI_eq (i_L3 (i_I ?_))); (with_reducible refine i_f (by omega) ?_); (with_reducible refine i_cI_eq (i_L3 (i_I ?_))); (with_reducible refine i_f (by omega) ?_); (with_reducible refine i_cI_eq (i_L3 (i_I ?_))); (with_reducible refine i_t (by omega) ?_); (with_reducible refine i_Seq (i_Inc1 (i_Brk (i_lab1 ?_)))); rw [zx_inc (by omega)]; simp only [w_set0, w_set1, w_setn0, w_setn1])
        exact hgo _
      · ((with_reducible refine i_turn (i_cAnd (i_cI_lt (i_L1 (i_F (i_A0 ?_)))))); (with_reducible refine i_fld (by assumption) ?_); rw [zbI_t]; (rw [t11]); (with_reducible refine i_t (by omega) ?_); (with_reducible refine i_cZ_ne (i_L2 ?_)); (with_reducible refine i_t (by omega) ?_); (with_reducible refine i_Blk (i_Seq (i_Set (i_Call (i_as1 (i_A0 (i_as1 (i_L1 (i_as0 ?_))))))))); (with_reducible refine i_recv0 (by assumption) ?_); (refine m_byteAt hO hS hT1 ⟨_, rfl, ?_⟩); (with_reducible refine i_Seq (i_If (i_cOr (i_cOr (i_cOr (i_cI_eq ?_)))))); (rw [hc]); simp only [w_set0, w_set1, w_setn0, w_setn1]; rw [w_setT]; (with_reducible refine i_L3 (i_I ?_)); (with_reducible refine i_t (by omega) ?_); (with_reducible refine i_Seq (i_Inc1 (i_Brk (i_lab1 ?_)))); rw [zx_inc (by omega)]; simp only [w_set0, w_set1, w_setn0, w_setn1])
        exact hgo _
    · have hc : ¬ (zby B s kk = 9 ∨ zby B s kk = 10 ∨ zby B s kk = 13 ∨ zby B s kk = 32) := fun z => hbl (zkcs_0i.mpr z)
      have hp : zps B s i = kk := by rw [← e1]; exact zksk_nb hlt hbl
      obtain ⟨w1, w2, -, -⟩ := zen_ok B hlt
      have hKi : zKi B s i = zkd B s kk (zen B s kk) := by unfold zKi; rw [hp]
      have hVi : zVi B s i = zkvl B s kk (zen B s kk) := by unfold zVi; rw [hp]
      ((with_reducible refine i_turn (i_cAnd (i_cI_lt (i_L1 (i_F (i_A0 ?_)))))); (with_reducible refine i_fld (by assumption) ?_); rw [zbI_t]; (rw [t11]); (with_reducible refine i_t (by omega) ?_); (with_reducible refine i_cZ_ne (i_L2 ?_)); (with_reducible refine i_t (by omega) ?_); (with_reducible refine i_Blk (i_Seq (i_Set (i_Call (i_as1 (i_A0 (i_as1 (i_L1 (i_as0 ?_))))))))); (with_reducible refine i_recv0 (by assumption) ?_); (refine m_byteAt hO hS hT1 ⟨_, rfl, ?_⟩); (with_reducible refine i_Seq (i_If (i_cOr (i_cOr (i_cOr (i_cI_eq ?_)))))); simp only [w_set0, w_set1, w_setn0, w_setn1]; rw [w_setT]; (with_reducible refine i_L3 (i_I ?_)); (with_reducible refine i_f (by omega) ?_); (with_reducible refine i_cI_eq (i_L3 (i_I ?_))); (with_reducible refine i_f (by omega) ?_); (with_reducible refine i_cI_eq (i_L3 (i_I ?_))); (with_reducible refine i_f (by omega) ?_); (with_reducible refine i_cI_eq (i_L3 (i_I ?_))); (with_reducible refine i_f (by omega) ?_); (with_reducible refine i_Seq (i_Set (i_Call (i_as1 (i_A0 (i_as1 (i_L1 (i_as0 ?_)))))))); (with_reducible refine i_recv0 (by assumption) ?_); simp only [w_set0, w_set1, w_setn0, w_setn1])
      refine m_scan hO hS hT1 hlt g1 (by omega) (fun M2 f2 g2 s1 s2 s3 s4 s5 => ⟨_, rfl, ?_⟩)
      rw [← hKi] at s1 s3 s4 s5
      rw [← hVi] at s4 s5
      have hk2 : rTk M2 B s i := ⟨s1, by rw [s2, hp], s3, s4, s5⟩
      have f3 : ∀ b j, ¬ (b = 250 ∧ j = 35 ∨ ((279 : Nat) : Int) ≤ b ∧ b ≤ ((282 : Nat) : Int) ∨ b = ((299 : Nat) : Int)) → M2 b j = M b j := fun b j q => by rw [f2 b j (by omega)]; exact f1 b j q
      have hold : ∀ j, j < i → zps B s j < s ∧ zKi B s j ≠ 10 ∧ rTk M2 B s j := fun j hj => ⟨(e2 j hj).1, (e2 j hj).2.1, (e2 j hj).2.2.to (fun b q => f2 b _ (by omega))⟩
      by_cases hbad : zKi B s i = 10
      · rw [hbad] at s1
        have s1' : M2 ((279 : Nat) : Int) ((i : Nat) : Int) = 5 := s1
        ((with_reducible refine i_Set (i_eIf (i_cI_ne (i_IA (i_FR (i_A0 ?_)))))); (with_reducible refine i_fldR (by assumption) ?_); (with_reducible refine i_Sub (i_F (i_A0 ?_))); (with_reducible refine i_fld (by assumption) ?_); (with_reducible refine i_I ?_); (rw [g2]); rw [zx_subc (by omega) (by omega)]; (with_reducible refine i_in (by assumption) (by omega) (by omega) ?_); (with_reducible refine i_I ?_); (rw [show i + 1 - 1 = i by omega]); (rw [s1']); (with_reducible refine i_f (by omega) ?_); (with_reducible refine i_I ?_); simp only [w_set0, w_set1, w_setn0, w_setn1])
        exact hy2 _ M2 (zen B s kk) (i + 1) false f3 g2 (by omega) w2 (fun z => by cases z) (fun _ => rTt_of hold (Or.inr ⟨by omega, hbad, s1', hk2.2.1⟩)) w1
      · have hne : zksS (zKi B s i) ≠ 5 := by
          have := zKi_le B s i
          unfold zksS
          rw [if_neg hbad]
          split <;> omega
        ((with_reducible refine i_Set (i_eIf (i_cI_ne (i_IA (i_FR (i_A0 ?_)))))); (with_reducible refine i_fldR (by assumption) ?_); (with_reducible refine i_Sub (i_F (i_A0 ?_))); (with_reducible refine i_fld (by assumption) ?_); (with_reducible refine i_I ?_); (rw [g2]); rw [zx_subc (by omega) (by omega)]; (with_reducible refine i_in (by assumption) (by omega) (by omega) ?_); (with_reducible refine i_I ?_); (rw [show i + 1 - 1 = i by omega]); (rw [s1]); (with_reducible refine i_t (by omega) ?_); (with_reducible refine i_I ?_); simp only [w_set0, w_set1, w_setn0, w_setn1])
        refine hy2 _ M2 (zen B s kk) (i + 1) true f3 g2 (by omega) w2 (fun _ => ⟨by rw [← hp]; rfl, fun j hj => ?_⟩) (fun z => by cases z) w1
        rcases Nat.lt_or_ge j i with q | q
        · exact hold j q
        · obtain rfl : j = i := by omega
          exact ⟨by omega, hbad, hk2⟩
  · obtain rfl : kk = s := by omega
    rw [zksk_s] at e1
    ((with_reducible refine i_turn (i_cAnd (i_cI_lt (i_L1 (i_F (i_A0 ?_)))))); (with_reducible refine i_fld (by assumption) ?_); rw [zbI_t]; (rw [t11]); (with_reducible refine i_f (by omega) ?_); (with_reducible refine i_If (i_cZ_ne (i_L2 ?_))); (with_reducible refine i_t (by omega) ?_); (with_reducible refine i_sCall (i_as1 (i_A0 (i_as1 (i_I (i_as1 (i_F (i_A0 ?_)))))))); (with_reducible refine i_fld (by assumption) ?_); (with_reducible refine i_as1 (i_F (i_A0 ?_))); (with_reducible refine i_fld (by assumption) ?_); (with_reducible refine i_as1 (i_I (i_as0 ?_))); (with_reducible refine i_recv0 (by assumption) ?_); (rw [t11]))
    refine m_token hO hS g1 (by omega) (fun M2 f2 g2 s1 s2 s3 => ⟨rfl, ?_⟩)
    (with_reducible refine i_RetV ?_)
    exact hk M2 (fun b j q => by rw [f2 b j (by omega)]; exact f1 b j q) (rTt_of (g := i) (fun j hj => ⟨(e2 j hj).1, (e2 j hj).2.1, (e2 j hj).2.2.to (fun b q => f2 b _ (by omega))⟩) (Or.inl ⟨e1.symm, s1, s2⟩))
