section
-- part k1.mscan.lean.txt
/-! ===== tokens of a text: the reference ===== -/
theorem zcmp_0 {x y : Int} : zcmp x y = 0 ↔ x = y := by
  unfold zcmp
  split
  · exact ⟨fun h => absurd h (by decide), fun h => by omega⟩
  · split
    · exact ⟨fun _ => by assumption, fun _ => rfl⟩
    · exact ⟨fun h => absurd h (by decide), fun h => absurd h (by assumption)⟩
theorem zcmp_ge {x y : Int} : 0 ≤ zcmp x y ↔ y ≤ x := by
  unfold zcmp
  split
  · exact ⟨fun h => absurd h (by decide), fun h => by omega⟩
  · split
    · exact ⟨fun _ => by omega, fun _ => by decide⟩
    · exact ⟨fun _ => by omega, fun _ => by decide⟩
theorem i_cmp {x y : Int} {A B : Prop} (h : (x = y → A) ∧ (¬ x = y → B)) : (zcmp x y = 0 → A) ∧ (¬ zcmp x y = 0 → B) := by rw [zcmp_0]; exact h
theorem i_cmpge {x y : Int} {A B : Prop} (h : (y ≤ x → A) ∧ (¬ y ≤ x → B)) : (0 ≤ zcmp x y → A) ∧ (¬ 0 ≤ zcmp x y → B) := by rw [zcmp_ge]; exact h
theorem zkcs_0i {c : Nat} : zkcs c = 0 ↔ c = 9 ∨ c = 10 ∨ c = 13 ∨ c = 32 := by
  unfold zkcs
  refine ⟨fun h => ?_, fun h => if_pos h⟩
  split at h
  · assumption
  · split at h
    · omega
    · split at h
      · omega
      · split at h <;> omega
theorem zkcs_1i {c : Nat} : zkcs c = 1 ↔ 97 ≤ c ∧ c ≤ 122 := by
  refine ⟨zkcs_1, fun h => ?_⟩
  unfold zkcs
  rw [if_neg (by omega), if_pos h]
theorem zkcs_2i {c : Nat} : zkcs c = 2 ↔ 48 ≤ c ∧ c ≤ 57 := by
  refine ⟨zkcs_2, fun h => ?_⟩
  unfold zkcs
  rw [if_neg (by omega), if_neg (by omega), if_pos h]
theorem zkcs_3i {c : Nat} : zkcs c = 3 ↔ c = 59 := by
  refine ⟨zkcs_3, fun h => ?_⟩
  subst h
  rfl
def rTp (M : zMem) (s : Nat) (B : Nat → Nat) : Prop := M 250 ((33 : Nat) : Int) = ((s : Nat) : Int) ∧ s ≤ 2000 ∧ ∀ i : Nat, i < s → M ((278 : Nat) : Int) ((i : Nat) : Int) = ((B i : Nat) : Int)
theorem rTp.to {M M' : zMem} {s : Nat} {B : Nat → Nat} (h : rTp M s B) (e : ∀ b j, b = 250 ∧ j = 33 ∨ b = ((278 : Nat) : Int) → M' b j = M b j) : rTp M' s B := ⟨by rw [e _ _ (by omega)]; exact h.1, h.2.1, fun i hi => by rw [e _ _ (by omega)]; exact h.2.2 i hi⟩
theorem m_byteAt {O : zOm} (hO : zWld O) (hS : zS O = zmS zC0) {k s : Nat} {B : Nat → Nat} {M : zMem} {K : Option zV → zMem → Prop} (hT : rTp M s B) (hk : K (some (0, ((zby B s k : Nat) : Int))) M) : zR O F_Model_byteAt [(2, 250), (0, ((k : Nat) : Int))] M K := by
  obtain ⟨t1, t2, t3⟩ := hT
  apply r_Model_byteAt hO
  unfold B_Model_byteAt
  have f33 := zMF (k := 33) hS rfl; have f34 := zMF (k := 34) hS rfl; have a278 := zMA (a := 278) (ty := .int) (n := 2000) hS rfl; have zo := zMO hS
  unfold zby at hk
  by_cases h : k < s
  · rw [if_pos h] at hk
    have g := t3 k h
    ((with_reducible refine i_RetI (i_eIf (i_cI_lt (i_L1 (i_F (i_A0 ?_)))))); (with_reducible refine i_fld (by assumption) ?_); (rw [t1]); (with_reducible refine i_t (by omega) ?_); (with_reducible refine i_IA (i_FR (i_A0 ?_))); (with_reducible refine i_fldR (by assumption) ?_); (with_reducible refine i_L1 ?_); (with_reducible refine i_in (by assumption) (by omega) (by omega) ?_); (rw [g]))
    exact hk
  · rw [if_neg h] at hk
    ((with_reducible refine i_RetI (i_eIf (i_cI_lt (i_L1 (i_F (i_A0 ?_)))))); (with_reducible refine i_fld (by assumption) ?_); (rw [t1]); (with_reducible refine i_f (by omega) ?_); (with_reducible refine i_I ?_))
    exact hk
theorem m_isLetter {O : zOm} (hO : zWld O) (hS : zS O = zmS zC0) {k s : Nat} {B : Nat → Nat} {M : zMem} {K : Option zV → zMem → Prop} (hT : rTp M s B) (hk : K (some (0, zbI (decide (zsr B s k = 1)))) M) : zR O F_Model_isLetter [(2, 250), (0, ((k : Nat) : Int))] M K := by
  apply r_Model_isLetter hO
  unfold B_Model_isLetter
  have zo := zMO hS
  have hi := zkcs_1i (c := zby B s k)
  have hk2 : K (some (0, zbI (decide (97 ≤ zby B s k ∧ zby B s k ≤ 122)))) M := by
    rw [decide_eq_decide.mpr hi.symm]; exact hk
  clear hk hi
  by_cases h2 : 97 ≤ zby B s k
  · by_cases h3 : zby B s k ≤ 122
    · rw [decide_eq_true ⟨h2, h3⟩] at hk2
      ((with_reducible refine i_RetZ (i_eIf (i_cAnd (i_cI_ge (i_Call (i_as1 (i_A0 (i_as1 (i_L1 (i_as0 ?_)))))))))); (with_reducible refine i_recv0 (by assumption) ?_); (refine m_byteAt hO hS hT ⟨_, rfl, ?_⟩); (with_reducible refine i_I ?_); (with_reducible refine i_t (by omega) ?_); (with_reducible refine i_cI_le (i_Call (i_as1 (i_A0 (i_as1 (i_L1 (i_as0 ?_))))))); (with_reducible refine i_recv0 (by assumption) ?_); (refine m_byteAt hO hS hT ⟨_, rfl, ?_⟩); (with_reducible refine i_I ?_); (with_reducible refine i_t (by omega) ?_); (with_reducible refine i_I ?_); (with_reducible refine i_z (Or.inr rfl) ?_))
      exact hk2
    · rw [decide_eq_false (fun z => h3 z.2)] at hk2
      ((with_reducible refine i_RetZ (i_eIf (i_cAnd (i_cI_ge (i_Call (i_as1 (i_A0 (i_as1 (i_L1 (i_as0 ?_)))))))))); (with_reducible refine i_recv0 (by assumption) ?_); (refine m_byteAt hO hS hT ⟨_, rfl, ?_⟩); (with_reducible refine i_I ?_); (with_reducible refine i_t (by omega) ?_); (with_reducible refine i_cI_le (i_Call (i_as1 (i_A0 (i_as1 (i_L1 (i_as0 ?_))))))); (with_reducible refine i_recv0 (by assumption) ?_); (refine m_byteAt hO hS hT ⟨_, rfl, ?_⟩); (with_reducible refine i_I ?_); (with_reducible refine i_f (by omega) ?_); (with_reducible refine i_I ?_); (with_reducible refine i_z (Or.inl rfl) ?_))
      exact hk2
  · rw [decide_eq_false (fun z => h2 z.1)] at hk2
    ((with_reducible refine i_RetZ (i_eIf (i_cAnd (i_cI_ge (i_Call (i_as1 (i_A0 (i_as1 (i_L1 (i_as0 ?_)))))))))); (with_reducible refine i_recv0 (by assumption) ?_); (refine m_byteAt hO hS hT ⟨_, rfl, ?_⟩); (with_reducible refine i_I ?_); (with_reducible refine i_f (by omega) ?_); (with_reducible refine i_I ?_); (with_reducible refine i_z (Or.inl rfl) ?_))
    exact hk2
theorem m_isDigit {O : zOm} (hO : zWld O) (hS : zS O = zmS zC0) {k s : Nat} {B : Nat → Nat} {M : zMem} {K : Option zV → zMem → Prop} (hT : rTp M s B) (hk : K (some (0, zbI (decide (zsr B s k = 2)))) M) : zR O F_Model_isDigit [(2, 250), (0, ((k : Nat) : Int))] M K := by
  apply r_Model_isDigit hO
  unfold B_Model_isDigit
  have zo := zMO hS
  have hi := zkcs_2i (c := zby B s k)
  have hk2 : K (some (0, zbI (decide (48 ≤ zby B s k ∧ zby B s k ≤ 57)))) M := by
    rw [decide_eq_decide.mpr hi.symm]; exact hk
  clear hk hi
  by_cases h2 : 48 ≤ zby B s k
  · by_cases h3 : zby B s k ≤ 57
    · rw [decide_eq_true ⟨h2, h3⟩] at hk2
      ((with_reducible refine i_RetZ (i_eIf (i_cAnd (i_cI_ge (i_Call (i_as1 (i_A0 (i_as1 (i_L1 (i_as0 ?_)))))))))); (with_reducible refine i_recv0 (by assumption) ?_); (refine m_byteAt hO hS hT ⟨_, rfl, ?_⟩); (with_reducible refine i_I ?_); (with_reducible refine i_t (by omega) ?_); (with_reducible refine i_cI_le (i_Call (i_as1 (i_A0 (i_as1 (i_L1 (i_as0 ?_))))))); (with_reducible refine i_recv0 (by assumption) ?_); (refine m_byteAt hO hS hT ⟨_, rfl, ?_⟩); (with_reducible refine i_I ?_); (with_reducible refine i_t (by omega) ?_); (with_reducible refine i_I ?_); (with_reducible refine i_z (Or.inr rfl) ?_))
      exact hk2
    · rw [decide_eq_false (fun z => h3 z.2)] at hk2
      ((with_reducible refine i_RetZ (i_eIf (i_cAnd (i_cI_ge (i_Call (i_as1 (i_A0 (i_as1 (i_L1 (i_as0 ?_)))))))))); (with_reducible refine i_recv0 (by assumption) ?_); (refine m_byteAt hO hS hT ⟨_, rfl, ?_⟩); (with_reducible refine i_I ?_); (with_reducible refine i_t (by omega) ?_); (with_reducible refine i_cI_le (i_Call (i_as1 (i_A0 (i_as1 (i_L1 (i_as0 ?_))))))); (with_reducible refine i_recv0 (by assumption) ?_); (refine m_byteAt hO hS hT ⟨_, rfl, ?_⟩); (with_reducible refine i_I ?_); (with_reducible refine i_f (by omega) ?_); (with_reducible refine i_I ?_); (with_reducible refine i_z (Or.inl rfl) ?_))
      exact hk2
  · rw [decide_eq_false (fun z => h2 z.1)] at hk2
    ((with_reducible refine i_RetZ (i_eIf (i_cAnd (i_cI_ge (i_Call (i_as1 (i_A0 (i_as1 (i_L1 (i_as0 ?_)))))))))); (with_reducible refine i_recv0 (by assumption) ?_); (refine m_byteAt hO hS hT ⟨_, rfl, ?_⟩); (with_reducible refine i_I ?_); (with_reducible refine i_f (by omega) ?_); (with_reducible refine i_I ?_); (with_reducible refine i_z (Or.inl rfl) ?_))
    exact hk2
theorem m_token {O : zOm} (hO : zWld O) (hS : zS O = zmS zC0) {a b c d : Int} {i : Nat} {M : zMem} {K : Option zV → zMem → Prop} (hi : M 250 ((35 : Nat) : Int) = ((i : Nat) : Int)) (h20 : i ≤ 2000)
    (hk : ∀ M', (∀ b j, ¬ (b = 250 ∧ j = 35 ∨ (((279 : Nat) : Int) ≤ b ∧ b ≤ ((282 : Nat) : Int)) ∧ j = ((i : Nat) : Int)) → M' b j = M b j) → M' 250 ((35 : Nat) : Int) = ((i + 1 : Nat) : Int) → M' ((279 : Nat) : Int) ((i : Nat) : Int) = a → M' ((280 : Nat) : Int) ((i : Nat) : Int) = b → M' ((282 : Nat) : Int) ((i : Nat) : Int) = d → K none M') : zR O F_Model_token [(2, 250), (0, a), (0, b), (0, c), (0, d)] M K := by
  apply r_Model_token hO
  unfold B_Model_token
  have f36 := zMF (k := 36) hS rfl; have a279 := zMA (a := 279) (ty := .int) (n := 2001) hS rfl; have f35 := zMF (k := 35) hS rfl; have f37 := zMF (k := 37) hS rfl; have a280 := zMA (a := 280) (ty := .int) (n := 2001) hS rfl; have f38 := zMF (k := 38) hS rfl; have a281 := zMA (a := 281) (ty := .int) (n := 2001) hS rfl; have f39 := zMF (k := 39) hS rfl; have a282 := zMA (a := 282) (ty := .int) (n := 2001) hS rfl; have zo := zMO hS
  ((with_reducible refine i_Seq (i_Seq (i_sIA (i_FR (i_A0 ?_))))); (with_reducible refine i_fldR (by assumption) ?_); (with_reducible refine i_F (i_A0 ?_)); (with_reducible refine i_fld (by assumption) ?_); (with_reducible refine i_L1 ?_); (with_reducible refine i_in (by assumption) (by omega) (by omega) ?_); (with_reducible refine i_Seq (i_sIA (i_FR (i_A0 ?_)))); (with_reducible refine i_fldR (by assumption) ?_); (with_reducible refine i_F (i_A0 ?_)); (with_reducible refine i_fld (by assumption) ?_); (with_reducible refine i_L2 ?_); rw [zg_n _ _ _ (by omega)]; (with_reducible refine i_in (by assumption) (by omega) (by omega) ?_); (with_reducible refine i_Seq (i_sIA (i_FR (i_A0 ?_)))); (with_reducible refine i_fldR (by assumption) ?_); (with_reducible refine i_F (i_A0 ?_)); (with_reducible refine i_fld (by assumption) ?_); (with_reducible refine i_L3 ?_); rw [zg_n _ _ _ (by omega)]; rw [zg_n _ _ _ (by omega)]; (with_reducible refine i_in (by assumption) (by omega) (by omega) ?_); (with_reducible refine i_Seq (i_sIA (i_FR (i_A0 ?_)))); (with_reducible refine i_fldR (by assumption) ?_); (with_reducible refine i_F (i_A0 ?_)); (with_reducible refine i_fld (by assumption) ?_); (with_reducible refine i_L4 ?_); rw [zg_n _ _ _ (by omega)]; rw [zg_n _ _ _ (by omega)]; rw [zg_n _ _ _ (by omega)]; (with_reducible refine i_in (by assumption) (by omega) (by omega) ?_); (with_reducible refine i_FO (i_A0 ?_)); (with_reducible refine i_fld (by assumption) ?_); (with_reducible refine i_I ?_); (with_reducible refine i_fld (by assumption) ?_); (with_reducible refine i_RetV ?_); rw [zg_n _ _ _ (by omega)]; rw [zg_n _ _ _ (by omega)]; rw [zg_n _ _ _ (by omega)]; rw [zg_n _ _ _ (by omega)]; (rw [hi]); rw [zx_inc (by omega)])
  exact hk _ (fun b j q => by rw [zg_o _ _ (by omega), zg_o _ _ (by omega), zg_o _ _ (by omega), zg_o _ _ (by omega), zg_o _ _ (by omega)]) (zg_s _ _ _ _ _) (by (rw [zg_n _ _ _ (by omega)]; rw [zg_n _ _ _ (by omega)]; rw [zg_n _ _ _ (by omega)]; rw [zg_n _ _ _ (by omega)]; rw [zg_s])) (by (rw [zg_n _ _ _ (by omega)]; rw [zg_n _ _ _ (by omega)]; rw [zg_n _ _ _ (by omega)]; rw [zg_s])) (by (rw [zg_n _ _ _ (by omega)]; rw [zg_s]))
def zwI (k : Nat) : Int := if k = 0 then -1 else ((k : Nat) : Int) - 3
theorem m_wordOf {O : zOm} (hO : zWld O) {v : Nat} {M : zMem} {K : Option zV → zMem → Prop} (hk : K (some (0, zwI (zwn v))) M) : zR O F_Model_wordOf [(1, ((v : Nat) : Int))] M K := by
  apply r_Model_wordOf hO
  unfold B_Model_wordOf
  unfold zwn at hk
  by_cases e1 : v = 1887
  · rw [if_pos e1] at hk
    ((with_reducible refine i_Seq (i_If (i_cZ_eq (i_CmpL (i_Ll0 (i_LdcL ?_)))))); (refine i_cmp ?_); (with_reducible refine i_t (by omega) ?_); (with_reducible refine i_RetI (i_I ?_)))
    exact hk
  rw [if_neg e1] at hk
  by_cases e2 : v = 1960177
  · rw [if_pos e2] at hk
    ((with_reducible refine i_Seq (i_If (i_cZ_eq (i_CmpL (i_Ll0 (i_LdcL ?_)))))); (refine i_cmp ?_); (with_reducible refine i_f (by omega) ?_); (with_reducible refine i_Seq (i_If (i_cZ_eq (i_CmpL (i_Ll0 (i_LdcL ?_)))))); (refine i_cmp ?_); (with_reducible refine i_t (by omega) ?_); (with_reducible refine i_RetI (i_I ?_)))
    exact hk
  rw [if_neg e2] at hk
  by_cases e3 : v = 1752773
  · rw [if_pos e3] at hk
    ((with_reducible refine i_Seq (i_If (i_cZ_eq (i_CmpL (i_Ll0 (i_LdcL ?_)))))); (refine i_cmp ?_); (with_reducible refine i_f (by omega) ?_); (with_reducible refine i_Seq (i_If (i_cZ_eq (i_CmpL (i_Ll0 (i_LdcL ?_)))))); (refine i_cmp ?_); (with_reducible refine i_f (by omega) ?_); (with_reducible refine i_Seq (i_If (i_cZ_eq (i_CmpL (i_Ll0 (i_LdcL ?_)))))); (refine i_cmp ?_); (with_reducible refine i_t (by omega) ?_); (with_reducible refine i_RetI (i_I ?_)))
    exact hk
  rw [if_neg e3] at hk
  by_cases e4 : v = 10277596
  · rw [if_pos e4] at hk
    ((with_reducible refine i_Seq (i_If (i_cZ_eq (i_CmpL (i_Ll0 (i_LdcL ?_)))))); (refine i_cmp ?_); (with_reducible refine i_f (by omega) ?_); (with_reducible refine i_Seq (i_If (i_cZ_eq (i_CmpL (i_Ll0 (i_LdcL ?_)))))); (refine i_cmp ?_); (with_reducible refine i_f (by omega) ?_); (with_reducible refine i_Seq (i_If (i_cZ_eq (i_CmpL (i_Ll0 (i_LdcL ?_)))))); (refine i_cmp ?_); (with_reducible refine i_f (by omega) ?_); (with_reducible refine i_Seq (i_If (i_cZ_eq (i_CmpL (i_Ll0 (i_LdcL ?_)))))); (refine i_cmp ?_); (with_reducible refine i_t (by omega) ?_); (with_reducible refine i_RetI (i_I ?_)))
    exact hk
  rw [if_neg e4] at hk
  by_cases e5 : v = 388602
  · rw [if_pos e5] at hk
    ((with_reducible refine i_Seq (i_If (i_cZ_eq (i_CmpL (i_Ll0 (i_LdcL ?_)))))); (refine i_cmp ?_); (with_reducible refine i_f (by omega) ?_); (with_reducible refine i_Seq (i_If (i_cZ_eq (i_CmpL (i_Ll0 (i_LdcL ?_)))))); (refine i_cmp ?_); (with_reducible refine i_f (by omega) ?_); (with_reducible refine i_Seq (i_If (i_cZ_eq (i_CmpL (i_Ll0 (i_LdcL ?_)))))); (refine i_cmp ?_); (with_reducible refine i_f (by omega) ?_); (with_reducible refine i_Seq (i_If (i_cZ_eq (i_CmpL (i_Ll0 (i_LdcL ?_)))))); (refine i_cmp ?_); (with_reducible refine i_f (by omega) ?_); (with_reducible refine i_Seq (i_If (i_cZ_eq (i_CmpL (i_Ll0 (i_LdcL ?_)))))); (refine i_cmp ?_); (with_reducible refine i_t (by omega) ?_); (with_reducible refine i_RetI (i_I ?_)))
    exact hk
  rw [if_neg e5] at hk
  by_cases e6 : v = 10631
  · rw [if_pos e6] at hk
    ((with_reducible refine i_Seq (i_If (i_cZ_eq (i_CmpL (i_Ll0 (i_LdcL ?_)))))); (refine i_cmp ?_); (with_reducible refine i_f (by omega) ?_); (with_reducible refine i_Seq (i_If (i_cZ_eq (i_CmpL (i_Ll0 (i_LdcL ?_)))))); (refine i_cmp ?_); (with_reducible refine i_f (by omega) ?_); (with_reducible refine i_Seq (i_If (i_cZ_eq (i_CmpL (i_Ll0 (i_LdcL ?_)))))); (refine i_cmp ?_); (with_reducible refine i_f (by omega) ?_); (with_reducible refine i_Seq (i_If (i_cZ_eq (i_CmpL (i_Ll0 (i_LdcL ?_)))))); (refine i_cmp ?_); (with_reducible refine i_f (by omega) ?_); (with_reducible refine i_Seq (i_If (i_cZ_eq (i_CmpL (i_Ll0 (i_LdcL ?_)))))); (refine i_cmp ?_); (with_reducible refine i_f (by omega) ?_); (with_reducible refine i_Seq (i_If (i_cZ_eq (i_CmpL (i_Ll0 (i_LdcL ?_)))))); (refine i_cmp ?_); (with_reducible refine i_t (by omega) ?_); (with_reducible refine i_RetI (i_I ?_)))
    exact hk
  rw [if_neg e6] at hk
  by_cases e7 : v = 28959
  · rw [if_pos e7] at hk
    ((with_reducible refine i_Seq (i_If (i_cZ_eq (i_CmpL (i_Ll0 (i_LdcL ?_)))))); (refine i_cmp ?_); (with_reducible refine i_f (by omega) ?_); (with_reducible refine i_Seq (i_If (i_cZ_eq (i_CmpL (i_Ll0 (i_LdcL ?_)))))); (refine i_cmp ?_); (with_reducible refine i_f (by omega) ?_); (with_reducible refine i_Seq (i_If (i_cZ_eq (i_CmpL (i_Ll0 (i_LdcL ?_)))))); (refine i_cmp ?_); (with_reducible refine i_f (by omega) ?_); (with_reducible refine i_Seq (i_If (i_cZ_eq (i_CmpL (i_Ll0 (i_LdcL ?_)))))); (refine i_cmp ?_); (with_reducible refine i_f (by omega) ?_); (with_reducible refine i_Seq (i_If (i_cZ_eq (i_CmpL (i_Ll0 (i_LdcL ?_)))))); (refine i_cmp ?_); (with_reducible refine i_f (by omega) ?_); (with_reducible refine i_Seq (i_If (i_cZ_eq (i_CmpL (i_Ll0 (i_LdcL ?_)))))); (refine i_cmp ?_); (with_reducible refine i_f (by omega) ?_); (with_reducible refine i_RetI (i_eIf (i_cZ_eq (i_CmpL (i_Ll0 (i_LdcL ?_)))))); (refine i_cmp ?_); (with_reducible refine i_t (by omega) ?_); (with_reducible refine i_I ?_))
    exact hk
  · rw [if_neg e7] at hk
    ((with_reducible refine i_Seq (i_If (i_cZ_eq (i_CmpL (i_Ll0 (i_LdcL ?_)))))); (refine i_cmp ?_); (with_reducible refine i_f (by omega) ?_); (with_reducible refine i_Seq (i_If (i_cZ_eq (i_CmpL (i_Ll0 (i_LdcL ?_)))))); (refine i_cmp ?_); (with_reducible refine i_f (by omega) ?_); (with_reducible refine i_Seq (i_If (i_cZ_eq (i_CmpL (i_Ll0 (i_LdcL ?_)))))); (refine i_cmp ?_); (with_reducible refine i_f (by omega) ?_); (with_reducible refine i_Seq (i_If (i_cZ_eq (i_CmpL (i_Ll0 (i_LdcL ?_)))))); (refine i_cmp ?_); (with_reducible refine i_f (by omega) ?_); (with_reducible refine i_Seq (i_If (i_cZ_eq (i_CmpL (i_Ll0 (i_LdcL ?_)))))); (refine i_cmp ?_); (with_reducible refine i_f (by omega) ?_); (with_reducible refine i_Seq (i_If (i_cZ_eq (i_CmpL (i_Ll0 (i_LdcL ?_)))))); (refine i_cmp ?_); (with_reducible refine i_f (by omega) ?_); (with_reducible refine i_RetI (i_eIf (i_cZ_eq (i_CmpL (i_Ll0 (i_LdcL ?_)))))); (refine i_cmp ?_); (with_reducible refine i_f (by omega) ?_); (with_reducible refine i_I ?_))
    exact hk
def zksS (k : Nat) : Nat := if k = 10 then 5 else if 3 ≤ k then 3 else k
set_option maxHeartbeats 1600000 in
theorem m_scan {O : zOm} (hO : zWld O) (hS : zS O = zmS zC0) {k i s : Nat} {B : Nat → Nat} {M : zMem} {K : Option zV → zMem → Prop} (hT : rTp M s B) (hks : k < s) (hi : M 250 ((35 : Nat) : Int) = ((i : Nat) : Int)) (h20 : i ≤ 2000)
    (hk : ∀ M', (∀ b j, ¬ (b = 250 ∧ j = 35 ∨ (((279 : Nat) : Int) ≤ b ∧ b ≤ ((282 : Nat) : Int) ∨ b = ((299 : Nat) : Int)) ∧ j = ((i : Nat) : Int)) → M' b j = M b j) → M' 250 ((35 : Nat) : Int) = ((i + 1 : Nat) : Int) → M' ((279 : Nat) : Int) ((i : Nat) : Int) = ((zksS (zkd B s k (zen B s k)) : Nat) : Int) → M' ((280 : Nat) : Int) ((i : Nat) : Int) = ((k : Nat) : Int) →
      (3 ≤ zkd B s k (zen B s k) → zkd B s k (zen B s k) ≤ 9 → M' ((282 : Nat) : Int) ((i : Nat) : Int) = ((zkd B s k (zen B s k) : Nat) : Int) - 3) → (zkd B s k (zen B s k) = 1 → M' ((282 : Nat) : Int) ((i : Nat) : Int) = ((zkvl B s k (zen B s k) : Nat) : Int)) → (zkd B s k (zen B s k) = 0 → M' ((299 : Nat) : Int) ((i : Nat) : Int) = ((zkvl B s k (zen B s k) : Nat) : Int)) → K (some (0, ((zen B s k : Nat) : Int))) M') : zR O F_Model_scan [(2, 250), (0, ((k : Nat) : Int))] M K := by
  obtain ⟨w1, w2, w3, w4⟩ := zen_ok B hks
  have hs2 := hT.2.1
  obtain ⟨L, hL⟩ : ∃ L, zen B s k = k + L := ⟨zen B s k - k, by omega⟩
  have hv := zVi_lt hks hL.symm
  rw [hL] at w1 w2 w3 w4 hk
  have hd : ∀ j, j < L → zsr B s (k + j) = zsr B s k := fun j hj => by
    rcases Nat.eq_zero_or_pos j with q | q
    · rw [q]; rfl
    · exact (zcp_t (w3 (k + j) (by omega) (by omega))).1
  have hfe := zcp_f w4
  have hb : ∀ j, j < L → zby B s (k + j) = B (k + j) := fun j hj => if_pos (by omega)
  clear w3 w4
  apply r_Model_scan hO
  unfold B_Model_scan
  have f65 := zMF (k := 65) hS rfl; have a299 := zMA (a := 299) (ty := .long) (n := 2001) hS rfl; have f35 := zMF (k := 35) hS rfl; have zo := zMO hS
  by_cases h1 : zsr B s k = 1
  · have hz : zkvl B s k (k + L) = zvg 27 96 B k (min L 8) := by
      unfold zkvl; rw [if_pos h1, show k + L - k = L by omega]
    have hkd : zkd B s k (k + L) = if 8 < L then 10 else zwn (zvg 27 96 B k (min L 8)) := by
      unfold zkd; rw [if_pos h1, hz, show k + L - k = L by omega]
    have hv1 := hv.1 h1
    rw [hz] at hv1
    rw [hkd, hz] at hk
    have hlt : ∀ c, c ≤ L → zvg 27 96 B k (min c 8) < 282429536481 := fun c hc => by
      have h5 := zvg_lt (m := 27) (d := 96) (B := B) (k := k) (min c 8) (fun j hj => by
        have h6 := hd j (by omega)
        rw [h1, zsr_in (by omega)] at h6
        have := zkcs_1 h6
        omega)
      have h6 : 27 ^ (min c 8) ≤ 27 ^ 8 := Nat.pow_le_pow_right (by decide) (by omega)
      have h7 : 27 ^ 8 = 282429536481 := by decide
      omega
    ((with_reducible refine i_Seq (i_Set (i_L1 (i_Seq (i_If (i_cZ_ne (i_Call (i_as1 ?_)))))))); simp only [w_set0, w_set1, w_setn0, w_setn1]; (with_reducible refine i_A0 (i_as1 (i_L1 (i_as0 ?_)))); (with_reducible refine i_recv0 (by assumption) ?_); (refine m_isLetter hO hS hT ⟨_, rfl, ?_⟩); (rw [decide_eq_true h1]); rw [zbI_t]; (with_reducible refine i_t (by omega) ?_); (with_reducible refine i_Seq (i_Set (i_IL (i_Seq ?_)))); simp only [w_set0, w_set1, w_setn0, w_setn1])
    refine w_WhileN L (fun c ρ M' => ρ = [250, ((k : Nat) : Int), ((k + c : Nat) : Int), ((zvg 27 96 B k (min c 8) : Nat) : Int)] ∧ M' = M) ⟨rfl, rfl⟩ ?_ ?_
    · rintro c ρ M1 X hc ⟨rfl, rfl⟩ hX
      have hs1 : zsr B s (k + c) = 1 := (hd c hc).trans h1
      have hb1 := hb c hc
      have hr := hs1
      rw [zsr_in (by omega)] at hr
      have hr1 := zkcs_1 hr
      have hl1 := hlt c (by omega)
      by_cases h8 : c < 8
      · rw [show min c 8 = c by omega] at hl1 ⊢
        have hst : ((zvg 27 96 B k c : Nat) : Int) * 27 + ((B (k + c) : Nat) : Int) - 96 = ((zvg 27 96 B k (min (c + 1) 8) : Nat) : Int) := by
          rw [show min (c + 1) 8 = c + 1 by omega]
          show _ = ((zvg 27 96 B k c * 27 + (B (k + c) - 96) : Nat) : Int)
          omega
        ((with_reducible refine i_turn (i_cZ_ne (i_Call (i_as1 (i_A0 (i_as1 (i_L2 (i_as0 ?_)))))))); (with_reducible refine i_recv0 (by assumption) ?_); (refine m_isLetter hO hS hT ⟨_, rfl, ?_⟩); (rw [decide_eq_true hs1]); rw [zbI_t]; (with_reducible refine i_t (by omega) ?_); (with_reducible refine i_Seq (i_If (i_cI_lt (i_Sub (i_L2 (i_L1 (i_I ?_))))))); rw [zx_sub (by omega) (by omega)]; (with_reducible refine i_t (by omega) ?_); (with_reducible refine i_Set (i_SubL (i_AddL (i_MulL (i_Ll3 (i_LdcL (i_I2L (i_Call (i_as1 (i_A0 (i_as1 (i_L2 (i_as0 ?_))))))))))))); (with_reducible refine i_recv0 (by assumption) ?_); (refine m_byteAt hO hS hT ⟨_, rfl, ?_⟩); (with_reducible refine i_LdcL ?_); (rw [hb1]); (rw [zw64_id (x := ((zvg 27 96 B k c : Nat) : Int) * 27) ⟨by omega, by omega⟩]); (rw [zw64_id (x := ((zvg 27 96 B k c : Nat) : Int) * 27 + ((B (k + c) : Nat) : Int)) ⟨by omega, by omega⟩]); (rw [zw64_id (x := ((zvg 27 96 B k c : Nat) : Int) * 27 + ((B (k + c) : Nat) : Int) - 96) ⟨by omega, by omega⟩]); (rw [hst]); simp only [w_set0, w_set1, w_setn0, w_setn1]; (with_reducible refine i_Inc2 ?_); rw [zx_inc (by omega)]; simp only [w_set0, w_set1, w_setn0, w_setn1])
        exact hX _ _ ⟨rfl, rfl⟩
      · ((with_reducible refine i_turn (i_cZ_ne (i_Call (i_as1 (i_A0 (i_as1 (i_L2 (i_as0 ?_)))))))); (with_reducible refine i_recv0 (by assumption) ?_); (refine m_isLetter hO hS hT ⟨_, rfl, ?_⟩); (rw [decide_eq_true hs1]); rw [zbI_t]; (with_reducible refine i_t (by omega) ?_); (with_reducible refine i_Seq (i_If (i_cI_lt (i_Sub (i_L2 (i_L1 (i_I ?_))))))); rw [zx_sub (by omega) (by omega)]; (with_reducible refine i_f (by omega) ?_); (with_reducible refine i_Inc2 ?_); rw [zx_inc (by omega)]; simp only [w_set0, w_set1, w_setn0, w_setn1])
        exact hX _ _ ⟨by rw [show min (c + 1) 8 = min c 8 by omega]; rfl, rfl⟩
    · rintro ρ M1 X ⟨rfl, rfl⟩
      have hne : ¬ zsr B s (k + L) = 1 := fun z => hfe ⟨z.trans h1.symm, Or.inl h1⟩
      have hl1 := hlt L (Nat.le_refl _)
      generalize zvg 27 96 B k (min L 8) = v at hk hl1 ⊢
      by_cases h8 : 8 < L
      · rw [if_pos h8] at hk
        ((with_reducible refine i_turn (i_cZ_ne (i_Call (i_as1 (i_A0 (i_as1 (i_L2 (i_as0 ?_)))))))); (with_reducible refine i_recv0 (by assumption) ?_); (refine m_isLetter hO hS hT ⟨_, rfl, ?_⟩); (rw [decide_eq_false hne]); rw [zbI_f]; (with_reducible refine i_f (by omega) ?_); (with_reducible refine i_Seq (i_Set (i_eIf (i_cI_gt (i_Sub (i_L2 (i_L1 (i_I ?_)))))))); rw [zx_sub (by omega) (by omega)]; (with_reducible refine i_t (by omega) ?_); (with_reducible refine i_I (i_Seq (i_sLA (i_FR ?_)))); simp only [w_set0, w_set1, w_setn0, w_setn1]; (with_reducible refine i_A0 ?_); (with_reducible refine i_fldR (by assumption) ?_); (with_reducible refine i_F (i_A0 ?_)); (with_reducible refine i_fld (by assumption) ?_); (with_reducible refine i_Ll3 ?_); (with_reducible refine i_in (by assumption) (by omega) (by omega) ?_); (with_reducible refine i_Seq (i_sCall (i_as1 (i_A0 (i_as1 (i_eIf (i_cI_gt (i_Sub (i_L2 (i_L1 (i_I ?_))))))))))); (rw [hi]); rw [zx_sub (by omega) (by omega)]; (with_reducible refine i_t (by omega) ?_); (with_reducible refine i_I (i_as1 (i_L1 (i_as1 (i_L2 (i_as1 (i_L5 (i_as0 ?_)))))))); (with_reducible refine i_recv0 (by assumption) ?_))
        refine m_token hO hS (i := i) (by first | exact hi | (rw [zg_n _ _ _ (by omega)]; exact hi)) h20 (fun M2 f2 g2 s1 s2 s3 => ⟨rfl, ?_⟩)
        (with_reducible refine i_RetI (i_L2 ?_))
        exact hk M2 (fun b j q => by rw [f2 b j (by omega), zg_o _ _ (by omega)]) g2 s1 s2 (fun _ z => absurd z (by decide)) (fun z => absurd z (by decide)) (fun z => absurd z (by decide))
      · rw [if_neg h8] at hk
        rcases zwn_le v with hz | hz
        · rw [hz] at hk
          have hw : zwI (zwn v) = -1 := by rw [hz]; rfl
          ((with_reducible refine i_turn (i_cZ_ne (i_Call (i_as1 (i_A0 (i_as1 (i_L2 (i_as0 ?_)))))))); (with_reducible refine i_recv0 (by assumption) ?_); (refine m_isLetter hO hS hT ⟨_, rfl, ?_⟩); (rw [decide_eq_false hne]); rw [zbI_f]; (with_reducible refine i_f (by omega) ?_); (with_reducible refine i_Seq (i_Set (i_eIf (i_cI_gt (i_Sub (i_L2 (i_L1 (i_I ?_)))))))); rw [zx_sub (by omega) (by omega)]; (with_reducible refine i_f (by omega) ?_); (with_reducible refine i_Call (i_as1 (i_Ll3 (i_as0 (i_recv1 ?_))))); (refine m_wordOf hO ⟨_, rfl, ?_⟩); (with_reducible refine i_Seq (i_sLA (i_FR ?_))); (rw [hw]); simp only [w_set0, w_set1, w_setn0, w_setn1]; (with_reducible refine i_A0 ?_); (with_reducible refine i_fldR (by assumption) ?_); (with_reducible refine i_F (i_A0 ?_)); (with_reducible refine i_fld (by assumption) ?_); (with_reducible refine i_Ll3 ?_); (with_reducible refine i_in (by assumption) (by omega) (by omega) ?_); (with_reducible refine i_Seq (i_sCall (i_as1 (i_A0 (i_as1 (i_eIf (i_cI_gt (i_Sub (i_L2 (i_L1 (i_I ?_))))))))))); (rw [hi]); rw [zx_sub (by omega) (by omega)]; (with_reducible refine i_f (by omega) ?_); (with_reducible refine i_eIf (i_cZ_ge (i_L5 ?_))); (with_reducible refine i_f (by omega) ?_); (with_reducible refine i_I (i_as1 (i_L1 (i_as1 (i_L2 (i_as1 (i_L5 (i_as0 ?_)))))))); (with_reducible refine i_recv0 (by assumption) ?_))
          refine m_token hO hS (i := i) (by first | exact hi | (rw [zg_n _ _ _ (by omega)]; exact hi)) h20 (fun M2 f2 g2 s1 s2 s3 => ⟨rfl, ?_⟩)
          (with_reducible refine i_RetI (i_L2 ?_))
          exact hk M2 (fun b j q => by rw [f2 b j (by omega), zg_o _ _ (by omega)]) g2 s1 s2 (fun z => absurd z (by decide)) (fun z => absurd z (by decide)) (fun _ => by rw [f2 _ _ (by omega)]; exact zg_s _ _ _ _ _)
        · have hw : zwI (zwn v) = ((zwn v : Nat) : Int) - 3 := if_neg (by omega)
          have hw0 : 0 ≤ zwI (zwn v) := by rw [hw]; omega
          have hzs : zksS (zwn v) = 3 := by unfold zksS; rw [if_neg (by omega), if_pos (by omega)]
          rw [hzs] at hk
          ((with_reducible refine i_turn (i_cZ_ne (i_Call (i_as1 (i_A0 (i_as1 (i_L2 (i_as0 ?_)))))))); (with_reducible refine i_recv0 (by assumption) ?_); (refine m_isLetter hO hS hT ⟨_, rfl, ?_⟩); (rw [decide_eq_false hne]); rw [zbI_f]; (with_reducible refine i_f (by omega) ?_); (with_reducible refine i_Seq (i_Set (i_eIf (i_cI_gt (i_Sub (i_L2 (i_L1 (i_I ?_)))))))); rw [zx_sub (by omega) (by omega)]; (with_reducible refine i_f (by omega) ?_); (with_reducible refine i_Call (i_as1 (i_Ll3 (i_as0 (i_recv1 ?_))))); (refine m_wordOf hO ⟨_, rfl, ?_⟩); (with_reducible refine i_Seq (i_sLA (i_FR ?_))); simp only [w_set0, w_set1, w_setn0, w_setn1]; (with_reducible refine i_A0 ?_); (with_reducible refine i_fldR (by assumption) ?_); (with_reducible refine i_F (i_A0 ?_)); (with_reducible refine i_fld (by assumption) ?_); (with_reducible refine i_Ll3 ?_); (with_reducible refine i_in (by assumption) (by omega) (by omega) ?_); (with_reducible refine i_Seq (i_sCall (i_as1 (i_A0 (i_as1 (i_eIf (i_cI_gt (i_Sub (i_L2 (i_L1 (i_I ?_))))))))))); (rw [hi]); rw [zx_sub (by omega) (by omega)]; (with_reducible refine i_f (by omega) ?_); (with_reducible refine i_eIf (i_cZ_ge (i_L5 ?_))); (with_reducible refine i_t (by omega) ?_); (with_reducible refine i_I (i_as1 (i_L1 (i_as1 (i_L2 (i_as1 (i_L5 (i_as0 ?_)))))))); (with_reducible refine i_recv0 (by assumption) ?_))
          refine m_token hO hS (i := i) (by first | exact hi | (rw [zg_n _ _ _ (by omega)]; exact hi)) h20 (fun M2 f2 g2 s1 s2 s3 => ⟨rfl, ?_⟩)
          (with_reducible refine i_RetI (i_L2 ?_))
          exact hk M2 (fun b j q => by rw [f2 b j (by omega), zg_o _ _ (by omega)]) g2 s1 s2 (fun _ _ => by rw [s3]; exact hw) (fun z => absurd z (by omega)) (fun z => absurd z (by omega))
  by_cases h2 : zsr B s k = 2
  · have hz : L ≤ 4 → zkvl B s k (k + L) = zvg 10 48 B k (min L 4) := fun h4 => by
      unfold zkvl; rw [if_neg h1, show k + L - k = L by omega, show min L 8 = min L 4 by omega]
    have hkd : zkd B s k (k + L) = if 4 < L then 10 else 1 := by
      unfold zkd; rw [if_neg h1, if_pos h2, show k + L - k = L by omega]
    rw [hkd] at hk
    have hlt : ∀ c, c ≤ L → zvg 10 48 B k (min c 4) < 10000 := fun c hc => by
      have h5 := zvg_lt (m := 10) (d := 48) (B := B) (k := k) (min c 4) (fun j hj => by
        have h6 := hd j (by omega)
        rw [h2, zsr_in (by omega)] at h6
        have := zkcs_2 h6
        omega)
      have h6 : 10 ^ (min c 4) ≤ 10 ^ 4 := Nat.pow_le_pow_right (by decide) (by omega)
      have h7 : 10 ^ 4 = 10000 := by decide
      omega
    ((with_reducible refine i_Seq (i_Set (i_L1 (i_Seq (i_If (i_cZ_ne (i_Call (i_as1 ?_)))))))); simp only [w_set0, w_set1, w_setn0, w_setn1]; (with_reducible refine i_A0 (i_as1 (i_L1 (i_as0 ?_)))); (with_reducible refine i_recv0 (by assumption) ?_); (refine m_isLetter hO hS hT ⟨_, rfl, ?_⟩); (rw [decide_eq_false h1]); rw [zbI_f]; (with_reducible refine i_f (by omega) ?_); (with_reducible refine i_Seq (i_If (i_cZ_ne (i_Call (i_as1 (i_A0 (i_as1 (i_L1 (i_as0 ?_))))))))); (with_reducible refine i_recv0 (by assumption) ?_); (refine m_isDigit hO hS hT ⟨_, rfl, ?_⟩); (rw [decide_eq_true h2]); rw [zbI_t]; (with_reducible refine i_t (by omega) ?_); (with_reducible refine i_Seq (i_Set (i_I (i_Seq ?_)))); simp only [w_set0, w_set1, w_setn0, w_setn1])
    refine w_WhileN L (fun c ρ M' => (∃ l, ρ = 250 :: ((k : Nat) : Int) :: ((k + c : Nat) : Int) :: ((zvg 10 48 B k (min c 4) : Nat) : Int) :: l) ∧ M' = M) ⟨⟨_, rfl⟩, rfl⟩ ?_ ?_
    · rintro c ρ M1 X hc ⟨⟨l, rfl⟩, rfl⟩ hX
      have hs1 : zsr B s (k + c) = 2 := (hd c hc).trans h2
      have hb1 := hb c hc
      have hr := hs1
      rw [zsr_in (by omega)] at hr
      have hr1 := zkcs_2 hr
      have hl1 := hlt c (by omega)
      by_cases h8 : c < 4
      · rw [show min c 4 = c by omega] at hl1 ⊢
        have hst : 10 * zvg 10 48 B k c + B (k + c) - 48 = zvg 10 48 B k (min (c + 1) 4) := by
          rw [show min (c + 1) 4 = c + 1 by omega]
          show _ = zvg 10 48 B k c * 10 + (B (k + c) - 48)
          omega
        ((with_reducible refine i_turn (i_cZ_ne (i_Call (i_as1 (i_A0 (i_as1 (i_L2 (i_as0 ?_)))))))); (with_reducible refine i_recv0 (by assumption) ?_); (refine m_isDigit hO hS hT ⟨_, rfl, ?_⟩); (rw [decide_eq_true hs1]); rw [zbI_t]; (with_reducible refine i_t (by omega) ?_); (with_reducible refine i_Seq (i_If (i_cI_lt (i_Sub (i_L2 (i_L1 (i_I ?_))))))); rw [zx_sub (by omega) (by omega)]; (with_reducible refine i_t (by omega) ?_); (with_reducible refine i_Set (i_Sub (i_Add (i_Mul (i_I (i_L3 (i_Call (i_as1 (i_A0 (i_as1 (i_L2 (i_as0 ?_)))))))))))); (with_reducible refine i_recv0 (by assumption) ?_); (refine m_byteAt hO hS hT ⟨_, rfl, ?_⟩); (with_reducible refine i_I ?_); (rw [hb1]); rw [zx_cmul (by omega)]; rw [zx_add (by omega)]; rw [zx_subc (by omega) (by omega)]; simp only [w_set0, w_set1, w_setn0, w_setn1]; (with_reducible refine i_Inc2 ?_); rw [zx_inc (by omega)]; simp only [w_set0, w_set1, w_setn0, w_setn1])
        exact hX _ _ ⟨⟨_, by rw [← hst]; rfl⟩, rfl⟩
      · ((with_reducible refine i_turn (i_cZ_ne (i_Call (i_as1 (i_A0 (i_as1 (i_L2 (i_as0 ?_)))))))); (with_reducible refine i_recv0 (by assumption) ?_); (refine m_isDigit hO hS hT ⟨_, rfl, ?_⟩); (rw [decide_eq_true hs1]); rw [zbI_t]; (with_reducible refine i_t (by omega) ?_); (with_reducible refine i_Seq (i_If (i_cI_lt (i_Sub (i_L2 (i_L1 (i_I ?_))))))); rw [zx_sub (by omega) (by omega)]; (with_reducible refine i_f (by omega) ?_); (with_reducible refine i_Inc2 ?_); rw [zx_inc (by omega)]; simp only [w_set0, w_set1, w_setn0, w_setn1])
        exact hX _ _ ⟨⟨_, by rw [show min (c + 1) 4 = min c 4 by omega]; rfl⟩, rfl⟩
    · rintro ρ M1 X ⟨⟨l, rfl⟩, rfl⟩
      have hne : ¬ zsr B s (k + L) = 2 := fun z => hfe ⟨z.trans h2.symm, Or.inr h2⟩
      have hl1 := hlt L (Nat.le_refl _)
      by_cases h8 : 4 < L
      · rw [if_pos h8] at hk
        ((with_reducible refine i_turn (i_cZ_ne (i_Call (i_as1 (i_A0 (i_as1 (i_L2 (i_as0 ?_)))))))); (with_reducible refine i_recv0 (by assumption) ?_); (refine m_isDigit hO hS hT ⟨_, rfl, ?_⟩); (rw [decide_eq_false hne]); rw [zbI_f]; (with_reducible refine i_f (by omega) ?_); (with_reducible refine i_Seq (i_sCall (i_as1 (i_A0 (i_as1 (i_eIf (i_cI_gt (i_Sub (i_L2 (i_L1 (i_I ?_))))))))))); rw [zx_sub (by omega) (by omega)]; (with_reducible refine i_t (by omega) ?_); (with_reducible refine i_I (i_as1 (i_L1 (i_as1 (i_L2 (i_as1 (i_L3 (i_as0 ?_)))))))); (with_reducible refine i_recv0 (by assumption) ?_))
        refine m_token hO hS (i := i) hi h20 (fun M2 f2 g2 s1 s2 s3 => ⟨rfl, ?_⟩)
        (with_reducible refine i_RetI (i_L2 ?_))
        exact hk M2 (fun b j q => f2 b j (by omega)) g2 s1 s2 (fun _ z => absurd z (by decide)) (fun z => absurd z (by decide)) (fun z => absurd z (by decide))
      · rw [if_neg h8] at hk
        ((with_reducible refine i_turn (i_cZ_ne (i_Call (i_as1 (i_A0 (i_as1 (i_L2 (i_as0 ?_)))))))); (with_reducible refine i_recv0 (by assumption) ?_); (refine m_isDigit hO hS hT ⟨_, rfl, ?_⟩); (rw [decide_eq_false hne]); rw [zbI_f]; (with_reducible refine i_f (by omega) ?_); (with_reducible refine i_Seq (i_sCall (i_as1 (i_A0 (i_as1 (i_eIf (i_cI_gt (i_Sub (i_L2 (i_L1 (i_I ?_))))))))))); rw [zx_sub (by omega) (by omega)]; (with_reducible refine i_f (by omega) ?_); (with_reducible refine i_I (i_as1 (i_L1 (i_as1 (i_L2 (i_as1 (i_L3 (i_as0 ?_)))))))); (with_reducible refine i_recv0 (by assumption) ?_))
        refine m_token hO hS (i := i) hi h20 (fun M2 f2 g2 s1 s2 s3 => ⟨rfl, ?_⟩)
        (with_reducible refine i_RetI (i_L2 ?_))
        exact hk M2 (fun b j q => f2 b j (by omega)) g2 s1 s2 (fun z => absurd z (by decide)) (fun _ => by rw [s3, hz (by omega)]) (fun z => absurd z (by decide))
  · have hL1 : L = 1 := by
      rcases Nat.lt_or_ge 1 L with q | q
      · exfalso
        have h3 := (zen_ok B hks).2.2.1 (k + 1) (by omega) (by omega)
        exact (zcp_t h3).2.elim h1 h2
      · omega
    subst hL1
    have hkd : zkd B s k (k + 1) = if zsr B s k = 3 then 2 else 10 := by
      unfold zkd; rw [if_neg h1, if_neg h2]
    rw [hkd] at hk
    have hb0 : zby B s k = B k := if_pos hks
    by_cases h3 : zsr B s k = 3
    · have hb3 : zby B s k = 59 := zkcs_3 h3
      rw [if_pos h3] at hk
      ((with_reducible refine i_Seq (i_Set (i_L1 (i_Seq (i_If (i_cZ_ne (i_Call (i_as1 ?_)))))))); simp only [w_set0, w_set1, w_setn0, w_setn1]; (with_reducible refine i_A0 (i_as1 (i_L1 (i_as0 ?_)))); (with_reducible refine i_recv0 (by assumption) ?_); (refine m_isLetter hO hS hT ⟨_, rfl, ?_⟩); (rw [decide_eq_false h1]); rw [zbI_f]; (with_reducible refine i_f (by omega) ?_); (with_reducible refine i_Seq (i_If (i_cZ_ne (i_Call (i_as1 (i_A0 (i_as1 (i_L1 (i_as0 ?_))))))))); (with_reducible refine i_recv0 (by assumption) ?_); (refine m_isDigit hO hS hT ⟨_, rfl, ?_⟩); (rw [decide_eq_false h2]); rw [zbI_f]; (with_reducible refine i_f (by omega) ?_); (with_reducible refine i_Seq (i_sCall (i_as1 (i_A0 (i_as1 (i_eIf (i_cI_eq (i_Call (i_as1 (i_A0 (i_as1 (i_L1 (i_as0 ?_))))))))))))); (with_reducible refine i_recv0 (by assumption) ?_); (refine m_byteAt hO hS hT ⟨_, rfl, ?_⟩); (with_reducible refine i_I ?_); (rw [hb3]); (with_reducible refine i_t (by omega) ?_); (with_reducible refine i_I (i_as1 (i_L1 (i_as1 (i_Add (i_L1 (i_I (i_as1 (i_I (i_as0 ?_)))))))))); (with_reducible refine i_recv0 (by assumption) ?_); rw [zx_inc (by omega)])
      refine m_token hO hS (i := i) hi h20 (fun M2 f2 g2 s1 s2 s3 => ⟨rfl, ?_⟩)
      ((with_reducible refine i_RetI (i_Add (i_L1 (i_I ?_)))); rw [zx_inc (by omega)])
      exact hk M2 (fun b j q => f2 b j (by omega)) g2 s1 s2 (fun z => absurd z (by decide)) (fun z => absurd z (by decide)) (fun z => absurd z (by decide))
    · have hb3 : ¬ zby B s k = 59 := fun z => h3 (zkcs_3i.mpr z)
      rw [if_neg h3] at hk
      ((with_reducible refine i_Seq (i_Set (i_L1 (i_Seq (i_If (i_cZ_ne (i_Call (i_as1 ?_)))))))); simp only [w_set0, w_set1, w_setn0, w_setn1]; (with_reducible refine i_A0 (i_as1 (i_L1 (i_as0 ?_)))); (with_reducible refine i_recv0 (by assumption) ?_); (refine m_isLetter hO hS hT ⟨_, rfl, ?_⟩); (rw [decide_eq_false h1]); rw [zbI_f]; (with_reducible refine i_f (by omega) ?_); (with_reducible refine i_Seq (i_If (i_cZ_ne (i_Call (i_as1 (i_A0 (i_as1 (i_L1 (i_as0 ?_))))))))); (with_reducible refine i_recv0 (by assumption) ?_); (refine m_isDigit hO hS hT ⟨_, rfl, ?_⟩); (rw [decide_eq_false h2]); rw [zbI_f]; (with_reducible refine i_f (by omega) ?_); (with_reducible refine i_Seq (i_sCall (i_as1 (i_A0 (i_as1 (i_eIf (i_cI_eq (i_Call (i_as1 (i_A0 (i_as1 (i_L1 (i_as0 ?_))))))))))))); (with_reducible refine i_recv0 (by assumption) ?_); (refine m_byteAt hO hS hT ⟨_, rfl, ?_⟩); (with_reducible refine i_I ?_); (with_reducible refine i_f (by omega) ?_); (with_reducible refine i_I (i_as1 (i_L1 (i_as1 (i_Add (i_L1 (i_I (i_as1 (i_I (i_as0 ?_)))))))))); (with_reducible refine i_recv0 (by assumption) ?_); rw [zx_inc (by omega)])
      refine m_token hO hS (i := i) hi h20 (fun M2 f2 g2 s1 s2 s3 => ⟨rfl, ?_⟩)
      ((with_reducible refine i_RetI (i_Add (i_L1 (i_I ?_)))); rw [zx_inc (by omega)])
      exact hk M2 (fun b j q => f2 b j (by omega)) g2 s1 s2 (fun _ z => absurd z (by decide)) (fun z => absurd z (by decide)) (fun z => absurd z (by decide))
def rTk (M : zMem) (B : Nat → Nat) (s j : Nat) : Prop := M ((279 : Nat) : Int) ((j : Nat) : Int) = ((zksS (zKi B s j) : Nat) : Int) ∧ M ((280 : Nat) : Int) ((j : Nat) : Int) = ((zps B s j : Nat) : Int) ∧ (3 ≤ zKi B s j → zKi B s j ≤ 9 → M ((282 : Nat) : Int) ((j : Nat) : Int) = ((zKi B s j : Nat) : Int) - 3) ∧ (zKi B s j = 1 → M ((282 : Nat) : Int) ((j : Nat) : Int) = ((zVi B s j : Nat) : Int)) ∧ (zKi B s j = 0 → M ((299 : Nat) : Int) ((j : Nat) : Int) = ((zVi B s j : Nat) : Int))
theorem rTk.to {M M' : zMem} {B : Nat → Nat} {s j : Nat} (h : rTk M B s j) (e : ∀ b, ((279 : Nat) : Int) ≤ b ∧ b ≤ ((282 : Nat) : Int) ∨ b = ((299 : Nat) : Int) → M' b ((j : Nat) : Int) = M b ((j : Nat) : Int)) : rTk M' B s j := ⟨by rw [e _ (by omega)]; exact h.1, by rw [e _ (by omega)]; exact h.2.1, fun a b => by rw [e _ (by omega)]; exact h.2.2.1 a b, fun a => by rw [e _ (by omega)]; exact h.2.2.2.1 a, fun a => by rw [e _ (by omega)]; exact h.2.2.2.2 a⟩
/-- the tokens as they are kept for the parse -/
def rTt (M : zMem) (B : Nat → Nat) (s : Nat) : Prop := ∀ i : Nat, i ≤ zhh B s → (zps B s i < s → M ((279 : Nat) : Int) ((i : Nat) : Int) = ((zksS (zKi B s i) : Nat) : Int) ∧ M ((280 : Nat) : Int) ((i : Nat) : Int) = ((zps B s i : Nat) : Int)) ∧ (zps B s i = s → M ((279 : Nat) : Int) ((i : Nat) : Int) = 4 ∧ M ((280 : Nat) : Int) ((i : Nat) : Int) = ((s : Nat) : Int)) ∧ (zps B s i < s → zKi B s i ≠ 10 → rTk M B s i)
theorem rTt.to {M M' : zMem} {B : Nat → Nat} {s : Nat} (h : rTt M B s) (e : ∀ b j, ((279 : Nat) : Int) ≤ b ∧ b ≤ ((282 : Nat) : Int) ∨ b = ((299 : Nat) : Int) → M' b j = M b j) : rTt M' B s := fun i hi => ⟨fun z => by rw [e _ _ (by omega), e _ _ (by omega)]; exact (h i hi).1 z, fun z => by rw [e _ _ (by omega), e _ _ (by omega)]; exact (h i hi).2.1 z, fun z w => ((h i hi).2.2 z w).to (fun b q => e b _ q)⟩
theorem rTt.tk {M : zMem} {B : Nat → Nat} {s i : Nat} (h : rTt M B s) (hi : i < zhh B s) : rTk M B s i := (h i (Nat.le_of_lt hi)).2.2 ((zhh_ok B s).2.1 i hi).1 (by have := zKi_h hi; omega)
theorem rTt_of {M : zMem} {B : Nat → Nat} {s g : Nat} (h1 : ∀ j, j < g → zps B s j < s ∧ zKi B s j ≠ 10 ∧ rTk M B s j) (h2 : (zps B s g = s ∧ M ((279 : Nat) : Int) ((g : Nat) : Int) = 4 ∧ M ((280 : Nat) : Int) ((g : Nat) : Int) = ((s : Nat) : Int)) ∨ (zps B s g < s ∧ zKi B s g = 10 ∧ M ((279 : Nat) : Int) ((g : Nat) : Int) = 5 ∧ M ((280 : Nat) : Int) ((g : Nat) : Int) = ((zps B s g : Nat) : Int))) : rTt M B s := by
  have hg : zhh B s ≤ g := by
    rcases Nat.lt_or_ge g (zhh B s) with q | q
    · exfalso
      have a1 := ((zhh_ok B s).2.1 g q).1
      have a2 := zKi_h q
      rcases h2 with h2 | h2
      · omega
      · omega
    · exact q
  intro i hi
  rcases Nat.lt_or_ge i g with q | q
  · obtain ⟨b1, b2, b3⟩ := h1 i q
    exact ⟨fun _ => ⟨b3.1, b3.2.1⟩, fun z => absurd z (by omega), fun _ _ => b3⟩
  · obtain rfl : i = g := by omega
    refine ⟨fun z => ?_, fun z => ?_, fun z w => ?_⟩
    · rcases h2 with h2 | h2
      · omega
      · obtain ⟨c1, c2, c3, c4⟩ := h2
        rw [c2]
        exact ⟨c3, c4⟩
    · rcases h2 with h2 | h2
      · exact h2.2
      · omega
    · exfalso
      rcases h2 with h2 | h2
      · omega
      · omega
theorem zksk_bl {B : Nat → Nat} {s k : Nat} (h : zsr B s k = 0) : zksk B s k = zksk B s (k + 1) := zfind_ext fun j _ => decide_eq_decide.mpr ⟨fun z => ⟨by
  rcases Nat.lt_or_ge k j with q | q
  · exact q
  · exfalso
    obtain rfl : j = k := by omega
    exact z.2 h, z.2⟩, fun z => ⟨by omega, z.2⟩⟩
theorem zksk_nb {B : Nat → Nat} {s k : Nat} (hk : k < s) (h : zsr B s k ≠ 0) : zksk B s k = k := by
  obtain ⟨a, b, c, d⟩ := zksk_ok B (Nat.le_of_lt hk)
  rcases Nat.lt_or_ge k (zksk B s k) with q | q
  · exact absurd (c k (Nat.le_refl _) q) h
  · omega
set_option maxHeartbeats 1600000 in
theorem m_scanAll {O : zOm} (hO : zWld O) (hS : zS O = zmS zC0) {s : Nat} {B : Nat → Nat} {M : zMem} {K : Option zV → zMem → Prop} (hT : rTp M s B)
    (hk : ∀ M', (∀ b j, ¬ (b = 250 ∧ j = 35 ∨ ((279 : Nat) : Int) ≤ b ∧ b ≤ ((282 : Nat) : Int) ∨ b = ((299 : Nat) : Int)) → M' b j = M b j) → rTt M' B s → K none M') : zR O F_Model_scanAll [(2, 250)] M K := by
  have hs2 := hT.2.1
  have t1 := hT.1
  apply r_Model_scanAll hO
  unfold B_Model_scanAll
  have f35 := zMF (k := 35) hS rfl; have f33 := zMF (k := 33) hS rfl; have f36 := zMF (k := 36) hS rfl; have a279 := zMA (a := 279) (ty := .int) (n := 2001) hS rfl; have zo := zMO hS
  ((with_reducible refine i_Seq (i_Seq (i_sF (i_A0 (i_I ?_))))); (with_reducible refine i_fld (by assumption) ?_); (with_reducible refine i_Seq (i_Set (i_I (i_Seq (i_Set (i_I (i_Seq ?_))))))); simp only [w_set0, w_set1, w_setn0, w_setn1])
  generalize hM0 : zput M 250 (zup (M 250) ((35 : Nat) : Int) 0) = M0
  have f0 : ∀ b j, ¬ (b = 250 ∧ j = 35) → M0 b j = M b j := fun b j q => by rw [← hM0, zg_o _ _ (by omega)]
  have g0 : M0 250 ((35 : Nat) : Int) = ((0 : Nat) : Int) := by rw [← hM0]; exact zg_s _ _ _ _ _
  clear hM0
  refine w_While (α := zLoc × zMem × Nat × Nat × Bool) (fun x => (x.1, x.2.1)) (fun x => (∃ l, x.1 = 250 :: ((x.2.2.1 : Nat) : Int) :: zbI x.2.2.2.2 :: l) ∧ (∀ b j, ¬ (b = 250 ∧ j = 35 ∨ ((279 : Nat) : Int) ≤ b ∧ b ≤ ((282 : Nat) : Int) ∨ b = ((299 : Nat) : Int)) → x.2.1 b j = M b j) ∧ x.2.1 250 ((35 : Nat) : Int) = ((x.2.2.2.1 : Nat) : Int) ∧ x.2.2.2.1 ≤ x.2.2.1 ∧ x.2.2.1 ≤ s ∧
    (x.2.2.2.2 = true → zksk B s x.2.2.1 = zps B s x.2.2.2.1 ∧ ∀ j, j < x.2.2.2.1 → zps B s j < s ∧ zKi B s j ≠ 10 ∧ rTk x.2.1 B s j) ∧
    (x.2.2.2.2 = false → rTt x.2.1 B s)) (fun x => s - x.2.2.1) (fun x X hx hy => ?_) (_, M0, 0, 0, true) ⟨⟨_, rfl⟩, fun b j q => f0 b j (fun z => q (Or.inl z)), g0, Nat.le_refl _, Nat.zero_le _, fun _ => ⟨rfl, fun j hj => absurd hj (Nat.not_lt_zero _)⟩, fun z => by cases z⟩
  obtain ⟨ρ, M1, kk, i, good⟩ := x
  (try dsimp only at hx)
  obtain ⟨⟨l, rfl⟩, f1, g1, hik, hks, hG, hB⟩ := hx
  (try dsimp only at f1 g1 hik hks hG hB hy ⊢)
  have hT1 : rTp M1 s B := hT.to (fun b j q => f1 b j (by omega))
  have t11 := hT1.1
  have hy2 : ∀ (l : zLoc) (M' : zMem) (kk' i' : Nat) (gd : Bool), (∀ b j, ¬ (b = 250 ∧ j = 35 ∨ ((279 : Nat) : Int) ≤ b ∧ b ≤ ((282 : Nat) : Int) ∨ b = ((299 : Nat) : Int)) → M' b j = M b j) → M' 250 ((35 : Nat) : Int) = ((i' : Nat) : Int) → i' ≤ kk' → kk' ≤ s → (gd = true → zksk B s kk' = zps B s i' ∧ ∀ j, j < i' → zps B s j < s ∧ zKi B s j ≠ 10 ∧ rTk M' B s j) → (gd = false → rTt M' B s) → kk < kk' → X (250 :: ((kk' : Nat) : Int) :: zbI gd :: l) M' := fun l M' kk' i' gd a1 a2 a3 a4 a5 a6 a7 => hy (250 :: ((kk' : Nat) : Int) :: zbI gd :: l, M', kk', i', gd) ⟨⟨l, rfl⟩, a1, a2, a3, a4, a5, a6⟩ (by (try dsimp only); omega)
  clear hy
  cases good
  · by_cases hlt : kk < s
    · ((with_reducible refine i_turn (i_cAnd (i_cI_lt (i_L1 (i_F (i_A0 ?_)))))); (with_reducible refine i_fld (by assumption) ?_); rw [zbI_f]; (rw [t11]); (with_reducible refine i_t (by omega) ?_); (with_reducible refine i_cZ_ne (i_L2 ?_)); (with_reducible refine i_f (by omega) ?_); (with_reducible refine i_If (i_cZ_ne (i_L2 ?_))); (with_reducible refine i_f (by omega) ?_); (with_reducible refine i_RetV ?_))
      exact hk M1 f1 (hB rfl)
    · ((with_reducible refine i_turn (i_cAnd (i_cI_lt (i_L1 (i_F (i_A0 ?_)))))); (with_reducible refine i_fld (by assumption) ?_); rw [zbI_f]; (rw [t11]); (with_reducible refine i_f (by omega) ?_); (with_reducible refine i_If (i_cZ_ne (i_L2 ?_))); (with_reducible refine i_f (by omega) ?_); (with_reducible refine i_RetV ?_))
      exact hk M1 f1 (hB rfl)
  obtain ⟨e1, e2⟩ := hG rfl
  by_cases hlt : kk < s
  · have hby : zby B s kk = B kk := if_pos hlt
    by_cases hbl : zsr B s kk = 0
    · have hc := zkcs_0i.mp hbl
      have hgo : ∀ l, X (250 :: ((kk + 1 : Nat) : Int) :: 1 :: l) M1 := fun l => hy2 l M1 (kk + 1) i true f1 g1 (by omega) hlt (fun _ => ⟨by rw [← zksk_bl hbl]; exact e1, e2⟩) (fun z => by cases z) (by omega)
      rcases hc with hc | hc | hc | hc
      · ((with_reducible refine i_turn (i_cAnd (i_cI_lt (i_L1 (i_F (i_A0 ?_)))))); (with_reducible refine i_fld (by assumption) ?_); rw [zbI_t]; (rw [t11]); (with_reducible refine i_t (by omega) ?_); (with_reducible refine i_cZ_ne (i_L2 ?_)); (with_reducible refine i_t (by omega) ?_); (with_reducible refine i_Blk (i_Seq (i_Set (i_Call (i_as1 (i_A0 (i_as1 (i_L1 (i_as0 ?_))))))))); (with_reducible refine i_recv0 (by assumption) ?_); (refine m_byteAt hO hS hT1 ⟨_, rfl, ?_⟩); (with_reducible refine i_Seq (i_If (i_cOr (i_cOr (i_cOr (i_cI_eq ?_)))))); (rw [hc]); simp only [w_set0, w_set1, w_setn0, w_setn1]; rw [w_setT]; (with_reducible refine i_L3 (i_I ?_)); (with_reducible refine i_f (by omega) ?_); (with_reducible refine i_cI_eq (i_L3 (i_I ?_))); (with_reducible refine i_t (by omega) ?_); (with_reducible refine i_Seq (i_Inc1 (i_Brk (i_lab1 ?_)))); rw [zx_inc (by omega)]; simp only [w_set0, w_set1, w_setn0, w_setn1])
        exact hgo _
      · ((with_reducible refine i_turn (i_cAnd (i_cI_lt (i_L1 (i_F (i_A0 ?_)))))); (with_reducible refine i_fld (by assumption) ?_); rw [zbI_t]; (rw [t11]); (with_reducible refine i_t (by omega) ?_); (with_reducible refine i_cZ_ne (i_L2 ?_)); (with_reducible refine i_t (by omega) ?_); (with_reducible refine i_Blk (i_Seq (i_Set (i_Call (i_as1 (i_A0 (i_as1 (i_L1 (i_as0 ?_))))))))); (with_reducible refine i_recv0 (by assumption) ?_); (refine m_byteAt hO hS hT1 ⟨_, rfl, ?_⟩); (with_reducible refine i_Seq (i_If (i_cOr (i_cOr (i_cOr (i_cI_eq ?_)))))); (rw [hc]); simp only [w_set0, w_set1, w_setn0, w_setn1]; rw [w_setT]; (with_reducible refine i_L3 (i_I ?_)); (with_reducible refine i_f (by omega) ?_); (with_reducible refine i_cI_eq (i_L3 (i_I ?_))); (with_reducible refine i_f (by omega) ?_); (with_reducible refine i_cI_eq (i_L3 (i_I ?_))); (with_reducible refine i_t (by omega) ?_); (with_reducible refine i_Seq (i_Inc1 (i_Brk (i_lab1 ?_)))); rw [zx_inc (by omega)]; simp only [w_set0, w_set1, w_setn0, w_setn1])
        exact hgo _
      · ((with_reducible refine i_turn (i_cAnd (i_cI_lt (i_L1 (i_F (i_A0 ?_)))))); (with_reducible refine i_fld (by assumption) ?_); rw [zbI_t]; (rw [t11]); (with_reducible refine i_t (by omega) ?_); (with_reducible refine i_cZ_ne (i_L2 ?_)); (with_reducible refine i_t (by omega) ?_); (with_reducible refine i_Blk (i_Seq (i_Set (i_Call (i_as1 (i_A0 (i_as1 (i_L1 (i_as0 ?_))))))))); (with_reducible refine i_recv0 (by assumption) ?_); (refine m_byteAt hO hS hT1 ⟨_, rfl, ?_⟩); (with_reducible refine i_Seq (i_If (i_cOr (i_cOr (i_cOr (i_cI_eq ?_)))))); (rw [hc]); simp only [w_set0, w_set1, w_setn0, w_setn1]; rw [w_setT]; (with_reducible refine i_L3 (i_I ?_)); (with_reducible refine i_f (by omega) ?_); (with_reducible refine i_cI_eq (i_L3 (i_I ?_))); (with_reducible refine i_f (by omega) ?_); (with_reducible refine i_cI_eq (i_L3 (i_I ?_))); (with_reducible refine i_f (by omega) ?_); (with_reducible refine i_cI_eq (i_L3 (i_I ?_))); (with_reducible refine i_t (by omega) ?_); (with_reducible refine i_Seq (i_Inc1 (i_Brk (i_lab1 ?_)))); rw [zx_inc (by omega)]; simp only [w_set0, w_set1, w_setn0, w_setn1])
        exact hgo _
      · ((with_reducible refine i_turn (i_cAnd (i_cI_lt (i_L1 (i_F (i_A0 ?_)))))); (with_reducible refine i_fld (by assumption) ?_); rw [zbI_t]; (rw [t11]); (with_reducible refine i_t (by omega) ?_); (with_reducible refine i_cZ_ne (i_L2 ?_)); (with_reducible refine i_t (by omega) ?_); (with_reducible refine i_Blk (i_Seq (i_Set (i_Call (i_as1 (i_A0 (i_as1 (i_L1 (i_as0 ?_))))))))); (with_reducible refine i_recv0 (by assumption) ?_); (refine m_byteAt hO hS hT1 ⟨_, rfl, ?_⟩); (with_reducible refine i_Seq (i_If (i_cOr (i_cOr (i_cOr (i_cI_eq ?_)))))); (rw [hc]); simp only [w_set0, w_set1, w_setn0, w_setn1]; rw [w_setT]; (with_reducible refine i_L3 (i_I ?_)); (with_reducible refine i_t (by omega) ?_); (with_reducible refine i_Seq (i_Inc1 (i_Brk (i_lab1 ?_)))); rw [zx_inc (by omega)]; simp only [w_set0, w_set1, w_setn0, w_setn1])
        exact hgo _
    · have hc : ¬ (zby B s kk = 9 ∨ zby B s kk = 10 ∨ zby B s kk = 13 ∨ zby B s kk = 32) := fun z => hbl (zkcs_0i.mpr z)
      have hp : zps B s i = kk := by rw [← e1]; exact zksk_nb hlt hbl
      obtain ⟨w1, w2, -, -⟩ := zen_ok B hlt
      have hKi : zKi B s i = zkd B s kk (zen B s kk) := by unfold zKi; rw [hp]
      have hVi : zVi B s i = zkvl B s kk (zen B s kk) := by unfold zVi; rw [hp]
      ((with_reducible refine i_turn (i_cAnd (i_cI_lt (i_L1 (i_F (i_A0 ?_)))))); (with_reducible refine i_fld (by assumption) ?_); rw [zbI_t]; (rw [t11]); (with_reducible refine i_t (by omega) ?_); (with_reducible refine i_cZ_ne (i_L2 ?_)); (with_reducible refine i_t (by omega) ?_); (with_reducible refine i_Blk (i_Seq (i_Set (i_Call (i_as1 (i_A0 (i_as1 (i_L1 (i_as0 ?_))))))))); (with_reducible refine i_recv0 (by assumption) ?_); (refine m_byteAt hO hS hT1 ⟨_, rfl, ?_⟩); (with_reducible refine i_Seq (i_If (i_cOr (i_cOr (i_cOr (i_cI_eq ?_)))))); simp only [w_set0, w_set1, w_setn0, w_setn1]; rw [w_setT]; (with_reducible refine i_L3 (i_I ?_)); (with_reducible refine i_f (by omega) ?_); (with_reducible refine i_cI_eq (i_L3 (i_I ?_))); (with_reducible refine i_f (by omega) ?_); (with_reducible refine i_cI_eq (i_L3 (i_I ?_))); (with_reducible refine i_f (by omega) ?_); (with_reducible refine i_cI_eq (i_L3 (i_I ?_))); (with_reducible refine i_f (by omega) ?_); (with_reducible refine i_Seq (i_Set (i_Call (i_as1 (i_A0 (i_as1 (i_L1 (i_as0 ?_)))))))); (with_reducible refine i_recv0 (by assumption) ?_); simp only [w_set0, w_set1, w_setn0, w_setn1])
      refine m_scan hO hS hT1 hlt g1 (by omega) (fun M2 f2 g2 s1 s2 s3 s4 s5 => ⟨_, rfl, ?_⟩)
      rw [← hKi] at s1 s3 s4 s5
      rw [← hVi] at s4 s5
      have hk2 : rTk M2 B s i := ⟨s1, by rw [s2, hp], s3, s4, s5⟩
      have f3 : ∀ b j, ¬ (b = 250 ∧ j = 35 ∨ ((279 : Nat) : Int) ≤ b ∧ b ≤ ((282 : Nat) : Int) ∨ b = ((299 : Nat) : Int)) → M2 b j = M b j := fun b j q => by rw [f2 b j (by omega)]; exact f1 b j q
      have hold : ∀ j, j < i → zps B s j < s ∧ zKi B s j ≠ 10 ∧ rTk M2 B s j := fun j hj => ⟨(e2 j hj).1, (e2 j hj).2.1, (e2 j hj).2.2.to (fun b q => f2 b _ (by omega))⟩
      by_cases hbad : zKi B s i = 10
      · rw [hbad] at s1
        have s1' : M2 ((279 : Nat) : Int) ((i : Nat) : Int) = 5 := s1
        ((with_reducible refine i_Set (i_eIf (i_cI_ne (i_IA (i_FR (i_A0 ?_)))))); (with_reducible refine i_fldR (by assumption) ?_); (with_reducible refine i_Sub (i_F (i_A0 ?_))); (with_reducible refine i_fld (by assumption) ?_); (with_reducible refine i_I ?_); (rw [g2]); rw [zx_subc (by omega) (by omega)]; (with_reducible refine i_in (by assumption) (by omega) (by omega) ?_); (with_reducible refine i_I ?_); (rw [show i + 1 - 1 = i by omega]); (rw [s1']); (with_reducible refine i_f (by omega) ?_); (with_reducible refine i_I ?_); simp only [w_set0, w_set1, w_setn0, w_setn1])
        exact hy2 _ M2 (zen B s kk) (i + 1) false f3 g2 (by omega) w2 (fun z => by cases z) (fun _ => rTt_of hold (Or.inr ⟨by omega, hbad, s1', hk2.2.1⟩)) w1
      · have hne : zksS (zKi B s i) ≠ 5 := by
          have := zKi_le B s i
          unfold zksS
          rw [if_neg hbad]
          split <;> omega
        ((with_reducible refine i_Set (i_eIf (i_cI_ne (i_IA (i_FR (i_A0 ?_)))))); (with_reducible refine i_fldR (by assumption) ?_); (with_reducible refine i_Sub (i_F (i_A0 ?_))); (with_reducible refine i_fld (by assumption) ?_); (with_reducible refine i_I ?_); (rw [g2]); rw [zx_subc (by omega) (by omega)]; (with_reducible refine i_in (by assumption) (by omega) (by omega) ?_); (with_reducible refine i_I ?_); (rw [show i + 1 - 1 = i by omega]); (rw [s1]); (with_reducible refine i_t (by omega) ?_); (with_reducible refine i_I ?_); simp only [w_set0, w_set1, w_setn0, w_setn1])
        refine hy2 _ M2 (zen B s kk) (i + 1) true f3 g2 (by omega) w2 (fun _ => ⟨by rw [← hp]; rfl, fun j hj => ?_⟩) (fun z => by cases z) w1
        rcases Nat.lt_or_ge j i with q | q
        · exact hold j q
        · obtain rfl : j = i := by omega
          exact ⟨by omega, hbad, hk2⟩
  · obtain rfl : kk = s := by omega
    rw [zksk_s] at e1
    ((with_reducible refine i_turn (i_cAnd (i_cI_lt (i_L1 (i_F (i_A0 ?_)))))); (with_reducible refine i_fld (by assumption) ?_); rw [zbI_t]; (rw [t11]); (with_reducible refine i_f (by omega) ?_); (with_reducible refine i_If (i_cZ_ne (i_L2 ?_))); (with_reducible refine i_t (by omega) ?_); (with_reducible refine i_sCall (i_as1 (i_A0 (i_as1 (i_I (i_as1 (i_F (i_A0 ?_)))))))); (with_reducible refine i_fld (by assumption) ?_); (with_reducible refine i_as1 (i_F (i_A0 ?_))); (with_reducible refine i_fld (by assumption) ?_); (with_reducible refine i_as1 (i_I (i_as0 ?_))); (with_reducible refine i_recv0 (by assumption) ?_); (rw [t11]))
    refine m_token hO hS g1 (by omega) (fun M2 f2 g2 s1 s2 s3 => ⟨rfl, ?_⟩)
    (with_reducible refine i_RetV ?_)
    exact hk M2 (fun b j q => by rw [f2 b j (by omega)]; exact f1 b j q) (rTt_of (g := i) (fun j hj => ⟨(e2 j hj).1, (e2 j hj).2.1, (e2 j hj).2.2.to (fun b q => f2 b _ (by omega))⟩) (Or.inl ⟨e1.symm, s1, s2⟩))
end
section
-- part k2.mparse.lean.txt
/-! ===== the parse: the reference ===== -/
theorem zhh_stop {B : Nat → Nat} {s i : Nat} (hi : i ≤ zhh B s) (h : ¬ (zps B s i < s ∧ zqs B s (i + 1) ≠ 10 ∧ i < 400 ∧ zkwc B s (i + 1) ≤ 40)) : i = zhh B s := by
  rcases Nat.lt_or_ge i (zhh B s) with q | q
  · exact absurd ((zhh_ok B s).2.1 i q) h
  · omega
theorem zksS_x {k x : Nat} (hx : x < 3) (h : zksS k = x) : k = x := by
  unfold zksS at h
  split at h
  · omega
  · split at h <;> omega
theorem zksS_3 {k : Nat} (h : zksS k = 3) : 3 ≤ k ∧ k ≠ 10 := by
  unfold zksS at h
  split at h
  · omega
  · split at h <;> omega
theorem zkwc_x {B : Nat → Nat} {s i : Nat} (h : zksS (zKi B s i) ≠ 3) : zkwc B s (i + 1) = zkwc B s i := by
  rw [zkwc_su, if_neg, Nat.add_zero]
  intro z
  have z2 : 4 ≤ zKi B s i ∧ zKi B s i ≤ 7 := of_decide_eq_true z
  apply h
  unfold zksS
  rw [if_neg (by omega), if_pos (by omega)]
theorem m_wrong {O : zOm} (hO : zWld O) (hS : zS O = zmS zC0) {i : Nat} {f p : Int} {M : zMem} {K : Option zV → zMem → Prop} (hh : M 250 ((67 : Nat) : Int) = ((i : Nat) : Int)) (h20 : i ≤ 2000) (hp : M ((280 : Nat) : Int) ((i : Nat) : Int) = p)
    (hk : ∀ M', (∀ b j, ¬ (b = 250 ∧ (j = 40 ∨ j = 66)) → M' b j = M b j) → M' 250 ((66 : Nat) : Int) = f → M' 250 ((40 : Nat) : Int) = p → K (some (0, 0)) M') : zR O F_Model_wrong [(2, 250), (0, f)] M K := by
  apply r_Model_wrong hO
  unfold B_Model_wrong
  have f66 := zMF (k := 66) hS rfl; have f37 := zMF (k := 37) hS rfl; have a280 := zMA (a := 280) (ty := .int) (n := 2001) hS rfl; have f67 := zMF (k := 67) hS rfl; have f40 := zMF (k := 40) hS rfl; have zo := zMO hS
  ((with_reducible refine i_Seq (i_sF (i_A0 (i_L1 ?_)))); (with_reducible refine i_fld (by assumption) ?_); (with_reducible refine i_Seq (i_sF (i_A0 (i_IA (i_FR (i_A0 ?_)))))); (with_reducible refine i_fldR (by assumption) ?_); (with_reducible refine i_F (i_A0 ?_)); (with_reducible refine i_fld (by assumption) ?_); rw [zg_m _ _ _ _ _ (by omega)]; (with_reducible refine i_in (by assumption) (by omega) (by omega) ?_); (with_reducible refine i_fld (by assumption) ?_); (with_reducible refine i_RetZ (i_I ?_)); (with_reducible refine i_z (Or.inl rfl) ?_); rw [zg_n _ _ _ (by omega)]; (rw [hh]); (rw [hp]))
  exact hk _ (fun b j q => by rw [zg_o _ _ (by omega), zg_o _ _ (by omega)]) (by rw [zg_o _ _ (by omega)]; exact zg_s _ _ _ _ _) (zg_s _ _ _ _ _)
theorem m_takes {O : zOm} (hO : zWld O) (hS : zS O = zmS zC0) {i x s : Nat} {xi : Int} {B : Nat → Nat} {M : zMem} {K : Option zV → zMem → Prop} (hxi : xi = ((x : Nat) : Int)) (hR : rTt M B s) (hs2 : s ≤ 2000) (hh : M 250 ((67 : Nat) : Int) = ((i : Nat) : Int)) (hi : i ≤ zhh B s) (h1 : zps B s i < s → (zqs B s (i + 1) = 10 ↔ zksS (zKi B s i) ≠ x)) (h0 : zps B s i = s → zqs B s i ≠ 0) (hx : x < 4) (hw : zksS (zKi B s i) = x → zkwc B s (i + 1) ≤ 40)
    (hno : ∀ M', (∀ b j, ¬ (b = 250 ∧ (j = 40 ∨ j = 66)) → M' b j = M b j) → M' 250 ((66 : Nat) : Int) = ((zFf (zksF B s) : Nat) : Int) → M' 250 ((40 : Nat) : Int) = zFq (zksF B s) → zksF B s ≠ 99999 → K (some (0, 0)) M')
    (hyes : ∀ M', (∀ b j, ¬ (b = 250 ∧ j = 67) → M' b j = M b j) → M' 250 ((67 : Nat) : Int) = ((i + 1 : Nat) : Int) → i < zhh B s → zksS (zKi B s i) = x → K (some (0, 1)) M') : zR O F_Model_takes [(2, 250), (0, xi)] M K := by
  subst hxi
  have h400 := (zhh_ok B s).1
  have hz := zps_le B s i
  obtain ⟨r1, r2, r3⟩ := hR i hi
  apply r_Model_takes hO
  unfold B_Model_takes
  have f36 := zMF (k := 36) hS rfl; have a279 := zMA (a := 279) (ty := .int) (n := 2001) hS rfl; have f67 := zMF (k := 67) hS rfl; have zo := zMO hS
  by_cases hse : zps B s i = s
  · have hst : i = zhh B s := zhh_stop hi (fun z => by omega)
    have hF : zksF B s = 8 * s + 1 := by
      unfold zksF
      rw [← hst, if_pos hse, if_neg (h0 hse)]
    obtain ⟨r4, r5⟩ := r2 hse
    rw [hF, (zFf_1 hs2).1, (zFf_1 hs2).2] at hno
    ((with_reducible refine i_Seq (i_If (i_cI_ne (i_IA (i_FR (i_A0 ?_)))))); (with_reducible refine i_fldR (by assumption) ?_); (with_reducible refine i_F (i_A0 ?_)); (with_reducible refine i_fld (by assumption) ?_); (with_reducible refine i_in (by assumption) (by omega) (by omega) ?_); (with_reducible refine i_L1 ?_); (rw [hh]); (rw [r4]); (with_reducible refine i_t (by omega) ?_); (with_reducible refine i_RetZ (i_Call (i_as1 (i_A0 (i_as1 (i_I (i_as0 ?_))))))); (with_reducible refine i_recv0 (by assumption) ?_))
    refine m_wrong hO hS hh (by omega) r5 (fun M1 f1 g1 g2 => ⟨_, rfl, ?_⟩)
    (with_reducible refine i_z (Or.inl rfl) ?_)
    exact hno M1 f1 g1 g2 (by omega)
  have hlt : zps B s i < s := by omega
  obtain ⟨r4, r5⟩ := r1 hlt
  have h2 := h1 hlt
  by_cases e : zksS (zKi B s i) = x
  · have hne : zqs B s (i + 1) ≠ 10 := fun z => h2.mp z e
    by_cases h4 : 400 ≤ i
    · have hst : i = zhh B s := zhh_stop hi (fun z => by omega)
      have hF : zksF B s = 8 * zps B s i + 2 := by
        unfold zksF
        rw [← hst, if_neg hse, if_neg hne]
      rw [hF, (zFf_2 (show zps B s i ≤ 2000 by omega)).1, (zFf_2 (show zps B s i ≤ 2000 by omega)).2] at hno
      ((with_reducible refine i_Seq (i_If (i_cI_ne (i_IA (i_FR (i_A0 ?_)))))); (with_reducible refine i_fldR (by assumption) ?_); (with_reducible refine i_F (i_A0 ?_)); (with_reducible refine i_fld (by assumption) ?_); (with_reducible refine i_in (by assumption) (by omega) (by omega) ?_); (with_reducible refine i_L1 ?_); (rw [hh]); (rw [r4]); (with_reducible refine i_f (by omega) ?_); (with_reducible refine i_Seq (i_If (i_cI_ge (i_F (i_A0 ?_))))); (with_reducible refine i_fld (by assumption) ?_); (with_reducible refine i_I ?_); (rw [hh]); (with_reducible refine i_t (by omega) ?_); (with_reducible refine i_RetZ (i_Call (i_as1 (i_A0 (i_as1 (i_I (i_as0 ?_))))))); (with_reducible refine i_recv0 (by assumption) ?_))
      refine m_wrong hO hS hh (by omega) r5 (fun M1 f1 g1 g2 => ⟨_, rfl, ?_⟩)
      (with_reducible refine i_z (Or.inl rfl) ?_)
      exact hno M1 f1 g1 g2 (by omega)
    · have hlt2 : i < zhh B s := by
        rcases Nat.lt_or_ge i (zhh B s) with q | q
        · exact q
        · have e9 : i = zhh B s := by omega
          exact absurd (show zps B s (zhh B s) < s ∧ zqs B s (zhh B s + 1) ≠ 10 ∧ zhh B s < 400 ∧ zkwc B s (zhh B s + 1) ≤ 40 from by rw [← e9]; exact ⟨hlt, hne, by omega, hw e⟩) (zhh_ok B s).2.2
      ((with_reducible refine i_Seq (i_If (i_cI_ne (i_IA (i_FR (i_A0 ?_)))))); (with_reducible refine i_fldR (by assumption) ?_); (with_reducible refine i_F (i_A0 ?_)); (with_reducible refine i_fld (by assumption) ?_); (with_reducible refine i_in (by assumption) (by omega) (by omega) ?_); (with_reducible refine i_L1 ?_); (rw [hh]); (rw [r4]); (with_reducible refine i_f (by omega) ?_); (with_reducible refine i_Seq (i_If (i_cI_ge (i_F (i_A0 ?_))))); (with_reducible refine i_fld (by assumption) ?_); (with_reducible refine i_I ?_); (rw [hh]); (with_reducible refine i_f (by omega) ?_); (with_reducible refine i_Seq (i_FO (i_A0 ?_))); (with_reducible refine i_fld (by assumption) ?_); (with_reducible refine i_I ?_); (with_reducible refine i_fld (by assumption) ?_); (with_reducible refine i_RetZ (i_I ?_)); (with_reducible refine i_z (Or.inr rfl) ?_); (rw [hh]); rw [zx_inc (by omega)])
      exact hyes _ (fun b j q => by rw [zg_o _ _ (by omega)]) (zg_s _ _ _ _ _) hlt2 e
  · have h10 : zqs B s (i + 1) = 10 := h2.mpr e
    have hst : i = zhh B s := zhh_stop hi (fun z => z.2.1 h10)
    have hF : zksF B s = 8 * zps B s i + 1 := by
      unfold zksF
      rw [← hst, if_neg hse, if_pos h10]
    rw [hF, (zFf_1 (show zps B s i ≤ 2000 by omega)).1, (zFf_1 (show zps B s i ≤ 2000 by omega)).2] at hno
    ((with_reducible refine i_Seq (i_If (i_cI_ne (i_IA (i_FR (i_A0 ?_)))))); (with_reducible refine i_fldR (by assumption) ?_); (with_reducible refine i_F (i_A0 ?_)); (with_reducible refine i_fld (by assumption) ?_); (with_reducible refine i_in (by assumption) (by omega) (by omega) ?_); (with_reducible refine i_L1 ?_); (rw [hh]); (rw [r4]); (with_reducible refine i_t (by omega) ?_); (with_reducible refine i_RetZ (i_Call (i_as1 (i_A0 (i_as1 (i_I (i_as0 ?_))))))); (with_reducible refine i_recv0 (by assumption) ?_))
    refine m_wrong hO hS hh (by omega) r5 (fun M1 f1 g1 g2 => ⟨_, rfl, ?_⟩)
    (with_reducible refine i_z (Or.inl rfl) ?_)
    exact hno M1 f1 g1 g2 (by omega)
theorem m_takeN {O : zOm} (hO : zWld O) (hS : zS O = zmS zC0) {i x q s : Nat} {xi : Int} {B : Nat → Nat} {M : zMem} {K : Option zV → zMem → Prop} (hxi : xi = ((x : Nat) : Int)) (hR : rTt M B s) (hs2 : s ≤ 2000) (hh : M 250 ((67 : Nat) : Int) = ((i : Nat) : Int)) (hi : i ≤ zhh B s) (hq : zqs B s i = q) (hq0 : q ≠ 0) (hx : x < 3) (hd : zsp q (zKi B s i) = 10 ↔ zksS (zKi B s i) ≠ x)
    (hno : ∀ M', (∀ b j, ¬ (b = 250 ∧ (j = 40 ∨ j = 66)) → M' b j = M b j) → M' 250 ((66 : Nat) : Int) = ((zFf (zksF B s) : Nat) : Int) → M' 250 ((40 : Nat) : Int) = zFq (zksF B s) → zksF B s ≠ 99999 → K (some (0, 0)) M')
    (hyes : ∀ M', (∀ b j, ¬ (b = 250 ∧ j = 67) → M' b j = M b j) → M' 250 ((67 : Nat) : Int) = ((i + 1 : Nat) : Int) → i < zhh B s → zKi B s i = x → zqs B s (i + 1) = zsp q x → zkwc B s (i + 1) = zkwc B s i → K (some (0, 1)) M') : zR O F_Model_takes [(2, 250), (0, xi)] M K := by
  have hqe : zqs B s (i + 1) = zsp q (zKi B s i) := by
    show zsp (zqs B s i) (zKi B s i) = _
    rw [hq]
  refine m_takes hO hS hxi hR hs2 hh hi (fun _ => by rw [hqe]; exact hd) (fun _ => by rw [hq]; exact hq0) (by omega) (fun z => by rw [zkwc_x (by omega)]; exact zkwc_h hi) hno (fun M' f g a b => ?_)
  have e := zksS_x hx b
  exact hyes M' f g a e (by rw [hqe, e]) (zkwc_x (by omega))
theorem m_takesTwo {O : zOm} (hO : zWld O) (hS : zS O = zmS zC0) {i x y q q2 s : Nat} {xi yi : Int} {B : Nat → Nat} {M : zMem} {K : Option zV → zMem → Prop} (hxi : xi = ((x : Nat) : Int)) (hyi : yi = ((y : Nat) : Int)) (hR : rTt M B s) (hs2 : s ≤ 2000) (hh : M 250 ((67 : Nat) : Int) = ((i : Nat) : Int)) (hi : i ≤ zhh B s) (hq : zqs B s i = q) (hq0 : q ≠ 0) (hx : x < 3) (hy : y < 3) (hd : ∀ k, k < 11 → (zsp q k = 10 ↔ zksS k ≠ x)) (hq2 : zsp q x = q2) (hq20 : q2 ≠ 0) (hd2 : ∀ k, k < 11 → (zsp q2 k = 10 ↔ zksS k ≠ y)) (hq5 : zsp q2 y = 5)
    (hno : ∀ M', (∀ b j, ¬ (b = 250 ∧ (j = 40 ∨ j = 66 ∨ j = 67)) → M' b j = M b j) → M' 250 ((66 : Nat) : Int) = ((zFf (zksF B s) : Nat) : Int) → M' 250 ((40 : Nat) : Int) = zFq (zksF B s) → zksF B s ≠ 99999 → K (some (0, 0)) M')
    (hyes : ∀ M', (∀ b j, ¬ (b = 250 ∧ j = 67) → M' b j = M b j) → M' 250 ((67 : Nat) : Int) = ((i + 3 : Nat) : Int) → i + 3 ≤ zhh B s → zqs B s (i + 3) = 0 → zkwc B s (i + 3) = zkwc B s i → K (some (0, 1)) M') : zR O F_Model_takesTwo [(2, 250), (0, xi), (0, yi)] M K := by
  have hkl : ∀ j, zKi B s j < 11 := fun j => by have := zKi_le B s j; omega
  apply r_Model_takesTwo hO
  unfold B_Model_takesTwo
  have zo := zMO hS
  ((with_reducible refine i_RetZ (i_eIf (i_cAnd (i_cAnd (i_cZ_ne (i_Call (i_as1 (i_A0 (i_as1 (i_L1 (i_as0 ?_))))))))))); (with_reducible refine i_recv0 (by assumption) ?_))
  refine m_takeN hO hS hxi hR hs2 hh hi hq hq0 hx (hd _ (hkl i)) (fun M1 f1 g1 g2 g3 => ⟨_, rfl, ?_⟩) (fun M1 f1 g1 g2 g3 g4 g5 => ⟨_, rfl, ?_⟩)
  · ((with_reducible refine i_f (by omega) ?_); (with_reducible refine i_I ?_); (with_reducible refine i_z (Or.inl rfl) ?_))
    exact hno M1 (fun b j q => f1 b j (by omega)) g1 g2 g3
  rw [hq2] at g4
  ((with_reducible refine i_t (by omega) ?_); (with_reducible refine i_cZ_ne (i_Call (i_as1 (i_A0 (i_as1 (i_L2 (i_as0 ?_))))))); (with_reducible refine i_recv0 (by assumption) ?_))
  refine m_takeN hO hS hyi (hR.to (fun b j q => f1 b j (by omega))) hs2 g1 (by omega) g4 hq20 hy (hd2 _ (hkl (i + 1))) (fun M2 f2 h1 h2 h3 => ⟨_, rfl, ?_⟩) (fun M2 f2 h1 h2 h3 h4 h5 => ⟨_, rfl, ?_⟩)
  · ((with_reducible refine i_f (by omega) ?_); (with_reducible refine i_I ?_); (with_reducible refine i_z (Or.inl rfl) ?_))
    exact hno M2 (fun b j q => by rw [f2 b j (by omega), f1 b j (by omega)]) h1 h2 h3
  rw [hq5] at h4
  ((with_reducible refine i_t (by omega) ?_); (with_reducible refine i_cZ_ne (i_Call (i_as1 (i_A0 (i_as1 (i_I (i_as0 ?_))))))); (with_reducible refine i_recv0 (by assumption) ?_))
  refine m_takeN hO hS (x := 2) rfl (hR.to (fun b j q => by rw [f2 b j (by omega), f1 b j (by omega)])) hs2 h1 (by omega) h4 (by decide) (by decide) ((by decide : ∀ k, k < 11 → (zsp 5 k = 10 ↔ zksS k ≠ 2)) _ (hkl (i + 1 + 1))) (fun M3 f3 k1 k2 k3 => ⟨_, rfl, ?_⟩) (fun M3 f3 k1 k2 k3 k4 k5 => ⟨_, rfl, ?_⟩)
  · ((with_reducible refine i_f (by omega) ?_); (with_reducible refine i_I ?_); (with_reducible refine i_z (Or.inl rfl) ?_))
    exact hno M3 (fun b j q => by rw [f3 b j (by omega), f2 b j (by omega), f1 b j (by omega)]) k1 k2 k3
  · ((with_reducible refine i_t (by omega) ?_); (with_reducible refine i_I ?_); (with_reducible refine i_z (Or.inr rfl) ?_))
    exact hyes M3 (fun b j q => by rw [f3 b j q, f2 b j q, f1 b j q]) k1 k2 k4 (by rw [show i + 3 = i + 1 + 1 + 1 by omega, k5, h5, g5])
set_option maxHeartbeats 1600000 in
theorem m_goesThrough {O : zOm} (hO : zWld O) (hS : zS O = zmS zC0) {i s : Nat} {B : Nat → Nat} {M : zMem} {K : Option zV → zMem → Prop} (hR : rTt M B s) (hs2 : s ≤ 2000) (hh : M 250 ((67 : Nat) : Int) = ((i : Nat) : Int)) (hi : i ≤ zhh B s) (hq : zqs B s i = 0) (hlt : zps B s i < s) (hw : zksS (zKi B s i) = 3 → zkwc B s (i + 1) ≤ 40)
    (hno : ∀ M', (∀ b j, ¬ (b = 250 ∧ (j = 40 ∨ j = 66 ∨ j = 67)) → M' b j = M b j) → M' 250 ((66 : Nat) : Int) = ((zFf (zksF B s) : Nat) : Int) → M' 250 ((40 : Nat) : Int) = zFq (zksF B s) → zksF B s ≠ 99999 → K (some (0, 0)) M')
    (hyes : ∀ M' i', (∀ b j, ¬ (b = 250 ∧ j = 67) → M' b j = M b j) → M' 250 ((67 : Nat) : Int) = ((i' : Nat) : Int) → i < i' → i' ≤ zhh B s → zqs B s i' = 0 → zkwc B s i' = zkwc B s (i + 1) → K (some (0, 1)) M') : zR O F_Model_goesThrough [(2, 250)] M K := by
  have h400 := (zhh_ok B s).1
  have hkl : ∀ j, zKi B s j < 11 := fun j => by have := zKi_le B s j; omega
  apply r_Model_goesThrough hO
  unfold B_Model_goesThrough
  have f39 := zMF (k := 39) hS rfl; have a282 := zMA (a := 282) (ty := .int) (n := 2001) hS rfl; have f67 := zMF (k := 67) hS rfl; have f36 := zMF (k := 36) hS rfl; have a279 := zMA (a := 279) (ty := .int) (n := 2001) hS rfl; have zo := zMO hS
  ((with_reducible refine i_Seq (i_Set (i_IA (i_FR (i_A0 ?_))))); (with_reducible refine i_fldR (by assumption) ?_); (with_reducible refine i_F (i_A0 ?_)); (with_reducible refine i_fld (by assumption) ?_); (with_reducible refine i_in (by assumption) (by omega) (by omega) ?_); (with_reducible refine i_Seq (i_If (i_cNot (i_cZ_ne (i_Call (i_as1 ?_)))))); (rw [hh]); simp only [w_set0, w_set1, w_setn0, w_setn1]; (with_reducible refine i_A0 (i_as1 (i_I (i_as0 ?_)))); (with_reducible refine i_recv0 (by assumption) ?_))
  refine m_takes hO hS (x := 3) rfl hR hs2 hh hi (fun _ => by show zsp (zqs B s i) (zKi B s i) = 10 ↔ _; rw [hq]; exact (by decide : ∀ k, k < 11 → (zsp 0 k = 10 ↔ zksS k ≠ 3)) _ (hkl i)) (fun z => by omega) (by decide) hw (fun M1 f1 g1 g2 g3 => ⟨_, rfl, ?_⟩) (fun M1 f1 g1 g2 g3 => ⟨_, rfl, ?_⟩)
  · ((with_reducible refine i_f (by omega) ?_); (with_reducible refine i_RetZ (i_I ?_)); (with_reducible refine i_z (Or.inl rfl) ?_))
    exact hno M1 (fun b j q => f1 b j (by omega)) g1 g2 g3
  have hK9 := zKi_h g2
  have hK3 := zksS_3 g3
  have hwv : M ((282 : Nat) : Int) ((i : Nat) : Int) = ((zKi B s i : Nat) : Int) - 3 := (hR.tk g2).2.2.1 (by omega) (by omega)
  have hq1 : zqs B s (i + 1) = zsp 0 (zKi B s i) := by
    show zsp (zqs B s i) (zKi B s i) = _
    rw [hq]
  have hR1 : rTt M1 B s := hR.to (fun b j q => f1 b j (by omega))
  have hno1 : ∀ M', (∀ b j, ¬ (b = 250 ∧ (j = 40 ∨ j = 66 ∨ j = 67)) → M' b j = M1 b j) → M' 250 ((66 : Nat) : Int) = ((zFf (zksF B s) : Nat) : Int) → M' 250 ((40 : Nat) : Int) = zFq (zksF B s) → zksF B s ≠ 99999 → K (some (0, 0)) M' := fun M' f a b c => hno M' (fun b j q => by rw [f b j (by omega), f1 b j (by omega)]) a b c
  generalize hkk : zKi B s i = k at hK9 hK3 hwv hq1
  clear hno hw g3
  have hcase : k = 3 ∨ (k = 4 ∨ k = 5) ∨ k = 6 ∨ k = 7 ∨ (k = 8 ∨ k = 9) := by omega
  rcases hcase with e | e | e | e | e
  · have hq1' : zqs B s (i + 1) = 1 := by rw [hq1, e]; rfl
    ((rw [hwv]); (with_reducible refine i_t (by omega) ?_); (with_reducible refine i_Seq (i_If (i_cZ_eq (i_L1 ?_)))); (with_reducible refine i_t (by omega) ?_); (with_reducible refine i_Seq (i_If (i_cOr (i_cNot (i_cZ_ne (i_Call (i_as1 (i_A0 (i_as1 (i_I (i_as0 ?_))))))))))); (with_reducible refine i_recv0 (by assumption) ?_))
    refine m_takeN hO hS (x := 0) rfl hR1 hs2 g1 (by omega) hq1' (by decide) (by decide) ((by decide : ∀ k, k < 11 → (zsp 1 k = 10 ↔ zksS k ≠ 0)) _ (hkl (i + 1))) (fun M2 f2 h1 h2 h3 => ⟨_, rfl, ?_⟩) (fun M2 f2 h1 h2 h3 h4 h5 => ⟨_, rfl, ?_⟩)
    · ((with_reducible refine i_f (by omega) ?_); (with_reducible refine i_RetZ (i_I ?_)); (with_reducible refine i_z (Or.inl rfl) ?_))
      exact hno1 M2 (fun b j q => f2 b j (by omega)) h1 h2 h3
    have h4' : zqs B s (i + 1 + 1) = 2 := h4
    have hR2 : rTt M2 B s := hR1.to (fun b j q => f2 b j (by omega))
    ((with_reducible refine i_t (by omega) ?_); (with_reducible refine i_cNot (i_cZ_ne (i_Call (i_as1 (i_A0 (i_as1 (i_I (i_as0 ?_)))))))); (with_reducible refine i_recv0 (by assumption) ?_))
    refine m_takeN hO hS (x := 1) rfl hR2 hs2 h1 (by omega) h4' (by decide) (by decide) ((by decide : ∀ k, k < 11 → (zsp 2 k = 10 ↔ zksS k ≠ 1)) _ (hkl (i + 1 + 1))) (fun M3 f3 k1 k2 k3 => ⟨_, rfl, ?_⟩) (fun M3 f3 k1 k2 k3 k4 k5 => ⟨_, rfl, ?_⟩)
    · ((with_reducible refine i_f (by omega) ?_); (with_reducible refine i_RetZ (i_I ?_)); (with_reducible refine i_z (Or.inl rfl) ?_))
      exact hno1 M3 (fun b j q => by rw [f3 b j (by omega), f2 b j (by omega)]) k1 k2 k3
    have k4' : zqs B s (i + 1 + 1 + 1) = 3 := k4
    ((with_reducible refine i_t (by omega) ?_); (with_reducible refine i_Seq ?_))
    have i0 : ∀ b j, ¬ (b = 250 ∧ j = 67) → M3 b j = M1 b j := fun b j q => by rw [f3 b j q, f2 b j q]
    have i2 : i < i + 1 + 1 + 1 := by omega
    have i3 : i + 1 + 1 + 1 ≤ zhh B s := by omega
    have i5 : zkwc B s (i + 1 + 1 + 1) = zkwc B s (i + 1) := by rw [k5, h5]
    refine w_WhileR (α := zLoc × zMem × Nat) (fun x => (x.1, x.2.1)) (fun x => (∃ l, x.1 = 250 :: l) ∧ (∀ b j, ¬ (b = 250 ∧ j = 67) → x.2.1 b j = M1 b j) ∧ x.2.1 250 ((67 : Nat) : Int) = ((x.2.2 : Nat) : Int) ∧ i < x.2.2 ∧ x.2.2 ≤ zhh B s ∧ zqs B s x.2.2 = 3 ∧ zkwc B s x.2.2 = zkwc B s (i + 1)) (fun x => zhh B s - x.2.2) (fun x X hx hy => ?_) (_, M3, i + 1 + 1 + 1) ⟨⟨_, rfl⟩, i0, k1, i2, i3, k4', i5⟩
    obtain ⟨ρ, M4, j⟩ := x
    (try dsimp only at hx)
    obtain ⟨⟨l, rfl⟩, f4, j1, j2, j3, j4, j5⟩ := hx
    (try dsimp only at f4 j1 j2 j3 j4 j5 hy ⊢)
    have hR4 : rTt M4 B s := hR1.to (fun b j q => f4 b j (by omega))
    have hy2 : ∀ (l : zLoc) (M' : zMem) (j' : Nat), (∀ b j, ¬ (b = 250 ∧ j = 67) → M' b j = M1 b j) → M' 250 ((67 : Nat) : Int) = ((j' : Nat) : Int) → i < j' → j' ≤ zhh B s → zqs B s j' = 3 → zkwc B s j' = zkwc B s (i + 1) → j < j' → X (250 :: l) M' := fun l M' j' a1 a2 a3 a4 a5 a6 a7 => hy (250 :: l, M', j') ⟨⟨l, rfl⟩, a1, a2, a3, a4, a5, a6⟩ (by (try dsimp only); omega)
    have hzj := zps_le B s j
    have hsort : ∃ v : Nat, M4 ((279 : Nat) : Int) ((j : Nat) : Int) = ((v : Nat) : Int) ∧ (v = 1 → zksS (zKi B s j) = 1 ∧ zps B s j < s) ∧ (v ≠ 1 → zps B s j < s → zksS (zKi B s j) ≠ 1) := by
      by_cases hz : zps B s j = s
      · exact ⟨4, ((hR4 j j3).2.1 hz).1, fun z => absurd z (by decide), fun _ z => by omega⟩
      · exact ⟨_, ((hR4 j j3).1 (by omega)).1, fun z => ⟨z, by omega⟩, fun z _ => z⟩
    obtain ⟨v, v1, v2, v3⟩ := hsort
    by_cases hv : v = 1
    · obtain ⟨v4, v5⟩ := v2 hv
      have v6 := zksS_x (by decide) v4
      ((with_reducible refine i_turn (i_cI_eq (i_IA (i_FR (i_A0 ?_))))); (with_reducible refine i_fldR (by assumption) ?_); (with_reducible refine i_F (i_A0 ?_)); (with_reducible refine i_fld (by assumption) ?_); (with_reducible refine i_in (by assumption) (by omega) (by omega) ?_); (with_reducible refine i_I ?_); (rw [j1]); (rw [v1]); (with_reducible refine i_t (by omega) ?_); (with_reducible refine i_IfR (i_cNot (i_cZ_ne (i_Call (i_as1 (i_A0 (i_as1 (i_I (i_as0 ?_))))))))); (with_reducible refine i_recv0 (by assumption) ?_))
      refine m_takeN hO hS (x := 1) rfl hR4 hs2 j1 j3 j4 (by decide) (by decide) (by rw [v6]; decide) (fun M5 f5 l1 l2 l3 => ⟨_, rfl, ?_⟩) (fun M5 f5 l1 l2 l3 l4 l5 => ⟨_, rfl, ?_⟩)
      · ((with_reducible refine i_f (by omega) ?_); (with_reducible refine i_RetZ (i_I ?_)); (with_reducible refine i_z (Or.inl rfl) ?_))
        exact hno1 M5 (fun b j q => by rw [f5 b j (by omega), f4 b j (by omega)]) l1 l2 l3
      · (with_reducible refine i_t (by omega) ?_)
        exact hy2 _ M5 (j + 1) (fun b j q => by rw [f5 b j q, f4 b j q]) l1 (by omega) (by omega) l4 (by rw [l5, j5]) (by omega)
    · have hd : zsp 3 (zKi B s j) = 10 ↔ zksS (zKi B s j) ≠ 2 := by
        have h3 : zksS (zKi B s j) ≠ 1 := by
          by_cases hz : zps B s j < s
          · exact v3 hv hz
          · have hzs : zKi B s j = 10 := by
              have e2 : zps B s j = s := by omega
              unfold zKi zkd
              rw [e2, zsr_end (Nat.le_refl s)]
              rfl
            rw [hzs]; decide
        exact (by decide : ∀ k, k < 11 → zksS k ≠ 1 → (zsp 3 k = 10 ↔ zksS k ≠ 2)) _ (hkl j) h3
      ((with_reducible refine i_turn (i_cI_eq (i_IA (i_FR (i_A0 ?_))))); (with_reducible refine i_fldR (by assumption) ?_); (with_reducible refine i_F (i_A0 ?_)); (with_reducible refine i_fld (by assumption) ?_); (with_reducible refine i_in (by assumption) (by omega) (by omega) ?_); (with_reducible refine i_I ?_); (rw [j1]); (rw [v1]); (with_reducible refine i_f (by omega) ?_); (with_reducible refine i_RetZ (i_Call (i_as1 (i_A0 (i_as1 (i_I (i_as0 ?_))))))); (with_reducible refine i_recv0 (by assumption) ?_))
      refine m_takeN hO hS (x := 2) rfl hR4 hs2 j1 j3 j4 (by decide) (by decide) hd (fun M5 f5 l1 l2 l3 => ⟨_, rfl, ?_⟩) (fun M5 f5 l1 l2 l3 l4 l5 => ⟨_, rfl, ?_⟩)
      · (with_reducible refine i_z (Or.inl rfl) ?_)
        exact hno1 M5 (fun b j q => by rw [f5 b j (by omega), f4 b j (by omega)]) l1 l2 l3
      · (with_reducible refine i_z (Or.inr rfl) ?_)
        exact hyes M5 (j + 1) (fun b j q => by rw [f5 b j q, f4 b j q, f1 b j q]) l1 (by omega) (by omega) l4 (by rw [l5, j5])
  · have hq1' : zqs B s (i + 1) = 4 := by
      rw [hq1]
      rcases e with e | e <;> (rw [e]; rfl)
    ((rw [hwv]); (with_reducible refine i_t (by omega) ?_); (with_reducible refine i_Seq (i_If (i_cZ_eq (i_L1 ?_)))); (with_reducible refine i_f (by omega) ?_); (with_reducible refine i_Seq (i_If (i_cI_lt (i_L1 (i_I ?_))))); (with_reducible refine i_t (by omega) ?_); (with_reducible refine i_RetZ (i_eIf (i_cAnd (i_cZ_ne (i_Call (i_as1 (i_A0 (i_as1 (i_I (i_as0 ?_)))))))))); (with_reducible refine i_recv0 (by assumption) ?_))
    refine m_takeN hO hS (x := 0) rfl hR1 hs2 g1 (by omega) hq1' (by decide) (by decide) ((by decide : ∀ k, k < 11 → (zsp 4 k = 10 ↔ zksS k ≠ 0)) _ (hkl (i + 1))) (fun M2 f2 h1 h2 h3 => ⟨_, rfl, ?_⟩) (fun M2 f2 h1 h2 h3 h4 h5 => ⟨_, rfl, ?_⟩)
    · ((with_reducible refine i_f (by omega) ?_); (with_reducible refine i_I ?_); (with_reducible refine i_z (Or.inl rfl) ?_))
      exact hno1 M2 (fun b j q => f2 b j (by omega)) h1 h2 h3
    have h4' : zqs B s (i + 1 + 1) = 5 := h4
    have hR2 : rTt M2 B s := hR1.to (fun b j q => f2 b j (by omega))
    ((with_reducible refine i_t (by omega) ?_); (with_reducible refine i_cZ_ne (i_Call (i_as1 (i_A0 (i_as1 (i_I (i_as0 ?_))))))); (with_reducible refine i_recv0 (by assumption) ?_))
    refine m_takeN hO hS (x := 2) rfl hR2 hs2 h1 (by omega) h4' (by decide) (by decide) ((by decide : ∀ k, k < 11 → (zsp 5 k = 10 ↔ zksS k ≠ 2)) _ (hkl (i + 1 + 1))) (fun M3 f3 k1 k2 k3 => ⟨_, rfl, ?_⟩) (fun M3 f3 k1 k2 k3 k4 k5 => ⟨_, rfl, ?_⟩)
    · ((with_reducible refine i_f (by omega) ?_); (with_reducible refine i_I ?_); (with_reducible refine i_z (Or.inl rfl) ?_))
      exact hno1 M3 (fun b j q => by rw [f3 b j (by omega), f2 b j (by omega)]) k1 k2 k3
    · ((with_reducible refine i_t (by omega) ?_); (with_reducible refine i_I ?_); (with_reducible refine i_z (Or.inr rfl) ?_))
      exact hyes M3 (i + 1 + 1 + 1) (fun b j q => by rw [f3 b j q, f2 b j q, f1 b j q]) k1 (by omega) (by omega) k4 (by rw [k5, h5])
  · have hq1' : zqs B s (i + 1) = 6 := by rw [hq1, e]; rfl
    ((rw [hwv]); (with_reducible refine i_t (by omega) ?_); (with_reducible refine i_Seq (i_If (i_cZ_eq (i_L1 ?_)))); (with_reducible refine i_f (by omega) ?_); (with_reducible refine i_Seq (i_If (i_cI_lt (i_L1 (i_I ?_))))); (with_reducible refine i_f (by omega) ?_); (with_reducible refine i_RetZ (i_eIf (i_cI_eq (i_L1 (i_I ?_))))); (with_reducible refine i_t (by omega) ?_); (with_reducible refine i_Call (i_as1 (i_A0 (i_as1 (i_I (i_as1 (i_I (i_as0 ?_)))))))); (with_reducible refine i_recv0 (by assumption) ?_))
    refine m_takesTwo hO hS (x := 0) (y := 0) rfl rfl hR1 hs2 g1 (by omega) hq1' (by decide) (by decide) (by decide) (by decide) (q2 := 4) rfl (by decide) (by decide) rfl (fun M2 f2 h1 h2 h3 => ⟨_, rfl, ?_⟩) (fun M2 f2 h1 h2 h3 h4 => ⟨_, rfl, ?_⟩)
    · (with_reducible refine i_z (Or.inl rfl) ?_)
      exact hno1 M2 f2 h1 h2 h3
    · (with_reducible refine i_z (Or.inr rfl) ?_)
      exact hyes M2 (i + 1 + 3) (fun b j q => by rw [f2 b j q, f1 b j q]) h1 (by omega) h2 h3 h4
  · have hq1' : zqs B s (i + 1) = 7 := by rw [hq1, e]; rfl
    ((rw [hwv]); (with_reducible refine i_t (by omega) ?_); (with_reducible refine i_Seq (i_If (i_cZ_eq (i_L1 ?_)))); (with_reducible refine i_f (by omega) ?_); (with_reducible refine i_Seq (i_If (i_cI_lt (i_L1 (i_I ?_))))); (with_reducible refine i_f (by omega) ?_); (with_reducible refine i_RetZ (i_eIf (i_cI_eq (i_L1 (i_I ?_))))); (with_reducible refine i_f (by omega) ?_); (with_reducible refine i_eIf (i_cI_eq (i_L1 (i_I ?_)))); (with_reducible refine i_t (by omega) ?_); (with_reducible refine i_Call (i_as1 (i_A0 (i_as1 (i_I (i_as1 (i_I (i_as0 ?_)))))))); (with_reducible refine i_recv0 (by assumption) ?_))
    refine m_takesTwo hO hS (x := 1) (y := 0) rfl rfl hR1 hs2 g1 (by omega) hq1' (by decide) (by decide) (by decide) (by decide) (q2 := 4) rfl (by decide) (by decide) rfl (fun M2 f2 h1 h2 h3 => ⟨_, rfl, ?_⟩) (fun M2 f2 h1 h2 h3 h4 => ⟨_, rfl, ?_⟩)
    · (with_reducible refine i_z (Or.inl rfl) ?_)
      exact hno1 M2 f2 h1 h2 h3
    · (with_reducible refine i_z (Or.inr rfl) ?_)
      exact hyes M2 (i + 1 + 3) (fun b j q => by rw [f2 b j q, f1 b j q]) h1 (by omega) h2 h3 h4
  · have hq1' : zqs B s (i + 1) = 8 := by
      rw [hq1]
      rcases e with e | e <;> (rw [e]; rfl)
    ((rw [hwv]); (with_reducible refine i_t (by omega) ?_); (with_reducible refine i_Seq (i_If (i_cZ_eq (i_L1 ?_)))); (with_reducible refine i_f (by omega) ?_); (with_reducible refine i_Seq (i_If (i_cI_lt (i_L1 (i_I ?_))))); (with_reducible refine i_f (by omega) ?_); (with_reducible refine i_RetZ (i_eIf (i_cI_eq (i_L1 (i_I ?_))))); (with_reducible refine i_f (by omega) ?_); (with_reducible refine i_eIf (i_cI_eq (i_L1 (i_I ?_)))); (with_reducible refine i_f (by omega) ?_); (with_reducible refine i_Call (i_as1 (i_A0 (i_as1 (i_I (i_as1 (i_I (i_as0 ?_)))))))); (with_reducible refine i_recv0 (by assumption) ?_))
    refine m_takesTwo hO hS (x := 1) (y := 1) rfl rfl hR1 hs2 g1 (by omega) hq1' (by decide) (by decide) (by decide) (by decide) (q2 := 9) rfl (by decide) (by decide) rfl (fun M2 f2 h1 h2 h3 => ⟨_, rfl, ?_⟩) (fun M2 f2 h1 h2 h3 h4 => ⟨_, rfl, ?_⟩)
    · (with_reducible refine i_z (Or.inl rfl) ?_)
      exact hno1 M2 f2 h1 h2 h3
    · (with_reducible refine i_z (Or.inr rfl) ?_)
      exact hyes M2 (i + 1 + 3) (fun b j q => by rw [f2 b j q, f1 b j q]) h1 (by omega) h2 h3 h4
set_option maxHeartbeats 1600000 in
theorem m_parses {O : zOm} (hO : zWld O) (hS : zS O = zmS zC0) {s : Nat} {B : Nat → Nat} {M : zMem} {K : Option zV → zMem → Prop} (hR : rTt M B s) (hs2 : s ≤ 2000) (hf0 : M 250 ((66 : Nat) : Int) = 0)
    (hno : ∀ M', (∀ b j, ¬ (b = 250 ∧ (j = 40 ∨ j = 66 ∨ j = 67)) → M' b j = M b j) → M' 250 ((66 : Nat) : Int) = ((zFf (zksF B s) : Nat) : Int) → M' 250 ((40 : Nat) : Int) = zFq (zksF B s) → zksF B s ≠ 99999 → K (some (0, 0)) M')
    (hyes : ∀ M', (∀ b j, ¬ (b = 250 ∧ j = 67) → M' b j = M b j) → zksF B s = 99999 → K (some (0, 1)) M') : zR O F_Model_parses [(2, 250)] M K := by
  have h400 := (zhh_ok B s).1
  apply r_Model_parses hO
  unfold B_Model_parses
  have f67 := zMF (k := 67) hS rfl; have f36 := zMF (k := 36) hS rfl; have a279 := zMA (a := 279) (ty := .int) (n := 2001) hS rfl; have f39 := zMF (k := 39) hS rfl; have a282 := zMA (a := 282) (ty := .int) (n := 2001) hS rfl; have zo := zMO hS
  ((with_reducible refine i_Seq (i_Set (i_I (i_Seq (i_sF ?_))))); simp only [w_set0, w_set1, w_setn0, w_setn1]; (with_reducible refine i_A0 (i_I ?_)); (with_reducible refine i_fld (by assumption) ?_); (with_reducible refine i_Seq ?_))
  generalize hM0 : zput M 250 (zup (M 250) ((67 : Nat) : Int) 0) = M0
  have f0 : ∀ b j, ¬ (b = 250 ∧ j = 67) → M0 b j = M b j := fun b j q => by rw [← hM0, zg_o _ _ (by omega)]
  have g0 : M0 250 ((67 : Nat) : Int) = ((0 : Nat) : Int) := by rw [← hM0]; exact zg_s _ _ _ _ _
  clear hM0
  refine w_WhileR (α := zLoc × zMem × Nat) (fun x => (x.1, x.2.1)) (fun x => (∃ l, x.1 = 250 :: ((zkwc B s x.2.2 : Nat) : Int) :: l) ∧ (∀ b j, ¬ (b = 250 ∧ j = 67) → x.2.1 b j = M b j) ∧ x.2.1 250 ((67 : Nat) : Int) = ((x.2.2 : Nat) : Int) ∧ x.2.2 ≤ zhh B s ∧ zqs B s x.2.2 = 0) (fun x => zhh B s - x.2.2) (fun x X hx hy => ?_) (_, M0, 0) ⟨⟨_, rfl⟩, f0, g0, Nat.zero_le _, rfl⟩
  obtain ⟨ρ, M1, i⟩ := x
  (try dsimp only at hx)
  obtain ⟨⟨l, rfl⟩, f1, g1, hi, hq⟩ := hx
  (try dsimp only at f1 g1 hi hq hy ⊢)
  have hR1 : rTt M1 B s := hR.to (fun b j q => f1 b j (by omega))
  have hz := zps_le B s i
  have hwc := zkwc_h hi
  by_cases hse : zps B s i = s
  · have hst : i = zhh B s := zhh_stop hi (fun z => by omega)
    have hF : zksF B s = 99999 := by
      unfold zksF
      rw [← hst, if_pos hse, if_pos hq]
    have v1 := ((hR1 i hi).2.1 hse).1
    ((with_reducible refine i_turn (i_cI_ne (i_IA (i_FR (i_A0 ?_))))); (with_reducible refine i_fldR (by assumption) ?_); (with_reducible refine i_F (i_A0 ?_)); (with_reducible refine i_fld (by assumption) ?_); (with_reducible refine i_in (by assumption) (by omega) (by omega) ?_); (with_reducible refine i_I ?_); (rw [g1]); (rw [v1]); (with_reducible refine i_f (by omega) ?_); (with_reducible refine i_RetZ (i_I ?_)); (with_reducible refine i_z (Or.inr rfl) ?_))
    exact hyes M1 f1 hF
  have hlt : zps B s i < s := by omega
  obtain ⟨v1, v2⟩ := (hR1 i hi).1 hlt
  have hkl := zKi_le B s i
  have hS5 : zksS (zKi B s i) ≠ 4 := by
    unfold zksS
    split
    · decide
    · split <;> omega
  -- one tell
  have go : ∀ (l : zLoc) (c : Nat), (zksS (zKi B s i) = 3 → c = zkwc B s (i + 1) ∧ c ≤ 40) → ∀ M2 i', (∀ b j, ¬ (b = 250 ∧ j = 67) → M2 b j = M1 b j) → M2 250 ((67 : Nat) : Int) = ((i' : Nat) : Int) → i < i' → i' ≤ zhh B s → zqs B s i' = 0 → zkwc B s i' = zkwc B s (i + 1) → zksS (zKi B s i) = 3 → X (250 :: ((c : Nat) : Int) :: l) M2 := fun l c hc M2 i' f2 a1 a2 a3 a4 a5 a6 => hy (250 :: ((c : Nat) : Int) :: l, M2, i') ⟨⟨l, by rw [(hc a6).1, a5]⟩, fun b j q => (f2 b j q).trans (f1 b j q), a1, a3, a4⟩ (by (try dsimp only); omega)
  have hno1 : ∀ M', (∀ b j, ¬ (b = 250 ∧ (j = 40 ∨ j = 66 ∨ j = 67)) → M' b j = M1 b j) → M' 250 ((66 : Nat) : Int) = ((zFf (zksF B s) : Nat) : Int) → M' 250 ((40 : Nat) : Int) = zFq (zksF B s) → zksF B s ≠ 99999 → K (some (0, 0)) M' := fun M' f a b c => hno M' (fun b j q => by rw [f b j (by omega), f1 b j (by omega)]) a b c
  by_cases h3 : zksS (zKi B s i) = 3
  · have hK := zksS_3 h3
    have hwv := ((hR1 i hi).2.2 hlt hK.2).2.2.1 (by omega) (by omega)
    have hne : zqs B s (i + 1) ≠ 10 := by
      show zsp (zqs B s i) (zKi B s i) ≠ 10
      rw [hq]
      exact fun z => ((by decide : ∀ k, k < 11 → (zsp 0 k = 10 ↔ zksS k ≠ 3)) _ (by omega)).mp z h3
    by_cases hwd : 4 ≤ zKi B s i ∧ zKi B s i ≤ 7
    · have hc : zkwc B s (i + 1) = zkwc B s i + 1 := by rw [zkwc_su, if_pos (show zwd _ = true from decide_eq_true hwd)]
      by_cases h40 : zkwc B s i = 40
      · have hst : i = zhh B s := zhh_stop hi (fun z => by omega)
        have hF : zksF B s = 8 * zps B s i + 2 := by
          unfold zksF
          rw [← hst, if_neg hse, if_neg hne]
        rw [hF, (zFf_2 (show zps B s i ≤ 2000 by omega)).1, (zFf_2 (show zps B s i ≤ 2000 by omega)).2] at hno1
        ((with_reducible refine i_turn (i_cI_ne (i_IA (i_FR (i_A0 ?_))))); (with_reducible refine i_fldR (by assumption) ?_); (with_reducible refine i_F (i_A0 ?_)); (with_reducible refine i_fld (by assumption) ?_); (with_reducible refine i_in (by assumption) (by omega) (by omega) ?_); (with_reducible refine i_I ?_); (rw [g1]); (rw [v1]); (with_reducible refine i_t (by omega) ?_); (with_reducible refine i_Seq (i_If (i_cAnd (i_cAnd (i_cI_eq (i_IA (i_FR (i_A0 ?_)))))))); (with_reducible refine i_fldR (by assumption) ?_); (with_reducible refine i_F (i_A0 ?_)); (with_reducible refine i_fld (by assumption) ?_); (with_reducible refine i_in (by assumption) (by omega) (by omega) ?_); (with_reducible refine i_I ?_); (rw [g1]); (rw [v1]); (with_reducible refine i_t (by omega) ?_); (with_reducible refine i_cZ_gt (i_IA (i_FR (i_A0 ?_)))); (with_reducible refine i_fldR (by assumption) ?_); (with_reducible refine i_F (i_A0 ?_)); (with_reducible refine i_fld (by assumption) ?_); (with_reducible refine i_in (by assumption) (by omega) (by omega) ?_); (rw [g1]); (rw [hwv]); (with_reducible refine i_t (by omega) ?_); (with_reducible refine i_cI_lt (i_IA (i_FR (i_A0 ?_)))); (with_reducible refine i_fldR (by assumption) ?_); (with_reducible refine i_F (i_A0 ?_)); (with_reducible refine i_fld (by assumption) ?_); (with_reducible refine i_in (by assumption) (by omega) (by omega) ?_); (with_reducible refine i_I ?_); (rw [g1]); (rw [hwv]); (with_reducible refine i_t (by omega) ?_); (with_reducible refine i_Seq (i_If (i_cI_eq (i_L1 (i_I ?_))))); (with_reducible refine i_t (by omega) ?_); (with_reducible refine i_RetZ (i_Call (i_as1 (i_A0 (i_as1 (i_I (i_as0 ?_))))))); (with_reducible refine i_recv0 (by assumption) ?_))
        refine m_wrong hO hS g1 (by omega) v2 (fun M2 f2 a1 a2 => ⟨_, rfl, ?_⟩)
        (with_reducible refine i_z (Or.inl rfl) ?_)
        exact hno1 M2 (fun b j q => f2 b j (by omega)) a1 a2 (by omega)
      · ((with_reducible refine i_turn (i_cI_ne (i_IA (i_FR (i_A0 ?_))))); (with_reducible refine i_fldR (by assumption) ?_); (with_reducible refine i_F (i_A0 ?_)); (with_reducible refine i_fld (by assumption) ?_); (with_reducible refine i_in (by assumption) (by omega) (by omega) ?_); (with_reducible refine i_I ?_); (rw [g1]); (rw [v1]); (with_reducible refine i_t (by omega) ?_); (with_reducible refine i_Seq (i_If (i_cAnd (i_cAnd (i_cI_eq (i_IA (i_FR (i_A0 ?_)))))))); (with_reducible refine i_fldR (by assumption) ?_); (with_reducible refine i_F (i_A0 ?_)); (with_reducible refine i_fld (by assumption) ?_); (with_reducible refine i_in (by assumption) (by omega) (by omega) ?_); (with_reducible refine i_I ?_); (rw [g1]); (rw [v1]); (with_reducible refine i_t (by omega) ?_); (with_reducible refine i_cZ_gt (i_IA (i_FR (i_A0 ?_)))); (with_reducible refine i_fldR (by assumption) ?_); (with_reducible refine i_F (i_A0 ?_)); (with_reducible refine i_fld (by assumption) ?_); (with_reducible refine i_in (by assumption) (by omega) (by omega) ?_); (rw [g1]); (rw [hwv]); (with_reducible refine i_t (by omega) ?_); (with_reducible refine i_cI_lt (i_IA (i_FR (i_A0 ?_)))); (with_reducible refine i_fldR (by assumption) ?_); (with_reducible refine i_F (i_A0 ?_)); (with_reducible refine i_fld (by assumption) ?_); (with_reducible refine i_in (by assumption) (by omega) (by omega) ?_); (with_reducible refine i_I ?_); (rw [g1]); (rw [hwv]); (with_reducible refine i_t (by omega) ?_); (with_reducible refine i_Seq (i_If (i_cI_eq (i_L1 (i_I ?_))))); (with_reducible refine i_f (by omega) ?_); (with_reducible refine i_Inc1 (i_IfR (i_cNot (i_cZ_ne (i_Call (i_as1 ?_)))))); rw [zx_inc (by omega)]; simp only [w_set0, w_set1, w_setn0, w_setn1]; (with_reducible refine i_A0 (i_as0 ?_)); (with_reducible refine i_recv0 (by assumption) ?_))
        refine m_goesThrough hO hS hR1 hs2 g1 hi hq hlt (fun _ => by omega) (fun M2 f2 a1 a2 a3 => ⟨_, rfl, ?_⟩) (fun M2 i' f2 a1 a2 a3 a4 a5 => ⟨_, rfl, ?_⟩)
        · ((with_reducible refine i_f (by omega) ?_); (with_reducible refine i_RetZ (i_I ?_)); (with_reducible refine i_z (Or.inl rfl) ?_))
          exact hno1 M2 f2 a1 a2 a3
        · (with_reducible refine i_t (by omega) ?_)
          exact go _ _ (fun _ => ⟨hc.symm, by omega⟩) M2 i' f2 a1 a2 a3 a4 a5 h3
    · have hc : zkwc B s (i + 1) = zkwc B s i := by rw [zkwc_su, if_neg (show ¬ zwd _ = true from fun z => hwd (of_decide_eq_true z)), Nat.add_zero]
      by_cases h33 : zKi B s i = 3
      · ((with_reducible refine i_turn (i_cI_ne (i_IA (i_FR (i_A0 ?_))))); (with_reducible refine i_fldR (by assumption) ?_); (with_reducible refine i_F (i_A0 ?_)); (with_reducible refine i_fld (by assumption) ?_); (with_reducible refine i_in (by assumption) (by omega) (by omega) ?_); (with_reducible refine i_I ?_); (rw [g1]); (rw [v1]); (with_reducible refine i_t (by omega) ?_); (with_reducible refine i_Seq (i_If (i_cAnd (i_cAnd (i_cI_eq (i_IA (i_FR (i_A0 ?_)))))))); (with_reducible refine i_fldR (by assumption) ?_); (with_reducible refine i_F (i_A0 ?_)); (with_reducible refine i_fld (by assumption) ?_); (with_reducible refine i_in (by assumption) (by omega) (by omega) ?_); (with_reducible refine i_I ?_); (rw [g1]); (rw [v1]); (with_reducible refine i_t (by omega) ?_); (with_reducible refine i_cZ_gt (i_IA (i_FR (i_A0 ?_)))); (with_reducible refine i_fldR (by assumption) ?_); (with_reducible refine i_F (i_A0 ?_)); (with_reducible refine i_fld (by assumption) ?_); (with_reducible refine i_in (by assumption) (by omega) (by omega) ?_); (rw [g1]); (rw [hwv]); (with_reducible refine i_f (by omega) ?_); (with_reducible refine i_IfR (i_cNot (i_cZ_ne (i_Call (i_as1 (i_A0 (i_as0 ?_))))))); (with_reducible refine i_recv0 (by assumption) ?_))
        refine m_goesThrough hO hS hR1 hs2 g1 hi hq hlt (fun _ => by omega) (fun M2 f2 a1 a2 a3 => ⟨_, rfl, ?_⟩) (fun M2 i' f2 a1 a2 a3 a4 a5 => ⟨_, rfl, ?_⟩)
        · ((with_reducible refine i_f (by omega) ?_); (with_reducible refine i_RetZ (i_I ?_)); (with_reducible refine i_z (Or.inl rfl) ?_))
          exact hno1 M2 f2 a1 a2 a3
        · (with_reducible refine i_t (by omega) ?_)
          exact go _ _ (fun _ => ⟨hc.symm, by omega⟩) M2 i' f2 a1 a2 a3 a4 a5 h3
      · ((with_reducible refine i_turn (i_cI_ne (i_IA (i_FR (i_A0 ?_))))); (with_reducible refine i_fldR (by assumption) ?_); (with_reducible refine i_F (i_A0 ?_)); (with_reducible refine i_fld (by assumption) ?_); (with_reducible refine i_in (by assumption) (by omega) (by omega) ?_); (with_reducible refine i_I ?_); (rw [g1]); (rw [v1]); (with_reducible refine i_t (by omega) ?_); (with_reducible refine i_Seq (i_If (i_cAnd (i_cAnd (i_cI_eq (i_IA (i_FR (i_A0 ?_)))))))); (with_reducible refine i_fldR (by assumption) ?_); (with_reducible refine i_F (i_A0 ?_)); (with_reducible refine i_fld (by assumption) ?_); (with_reducible refine i_in (by assumption) (by omega) (by omega) ?_); (with_reducible refine i_I ?_); (rw [g1]); (rw [v1]); (with_reducible refine i_t (by omega) ?_); (with_reducible refine i_cZ_gt (i_IA (i_FR (i_A0 ?_)))); (with_reducible refine i_fldR (by assumption) ?_); (with_reducible refine i_F (i_A0 ?_)); (with_reducible refine i_fld (by assumption) ?_); (with_reducible refine i_in (by assumption) (by omega) (by omega) ?_); (rw [g1]); (rw [hwv]); (with_reducible refine i_t (by omega) ?_); (with_reducible refine i_cI_lt (i_IA (i_FR (i_A0 ?_)))); (with_reducible refine i_fldR (by assumption) ?_); (with_reducible refine i_F (i_A0 ?_)); (with_reducible refine i_fld (by assumption) ?_); (with_reducible refine i_in (by assumption) (by omega) (by omega) ?_); (with_reducible refine i_I ?_); (rw [g1]); (rw [hwv]); (with_reducible refine i_f (by omega) ?_); (with_reducible refine i_IfR (i_cNot (i_cZ_ne (i_Call (i_as1 (i_A0 (i_as0 ?_))))))); (with_reducible refine i_recv0 (by assumption) ?_))
        refine m_goesThrough hO hS hR1 hs2 g1 hi hq hlt (fun _ => by omega) (fun M2 f2 a1 a2 a3 => ⟨_, rfl, ?_⟩) (fun M2 i' f2 a1 a2 a3 a4 a5 => ⟨_, rfl, ?_⟩)
        · ((with_reducible refine i_f (by omega) ?_); (with_reducible refine i_RetZ (i_I ?_)); (with_reducible refine i_z (Or.inl rfl) ?_))
          exact hno1 M2 f2 a1 a2 a3
        · (with_reducible refine i_t (by omega) ?_)
          exact go _ _ (fun _ => ⟨hc.symm, by omega⟩) M2 i' f2 a1 a2 a3 a4 a5 h3
  · have hc : zkwc B s (i + 1) = zkwc B s i := zkwc_x h3
    ((with_reducible refine i_turn (i_cI_ne (i_IA (i_FR (i_A0 ?_))))); (with_reducible refine i_fldR (by assumption) ?_); (with_reducible refine i_F (i_A0 ?_)); (with_reducible refine i_fld (by assumption) ?_); (with_reducible refine i_in (by assumption) (by omega) (by omega) ?_); (with_reducible refine i_I ?_); (rw [g1]); (rw [v1]); (with_reducible refine i_t (by omega) ?_); (with_reducible refine i_Seq (i_If (i_cAnd (i_cAnd (i_cI_eq (i_IA (i_FR (i_A0 ?_)))))))); (with_reducible refine i_fldR (by assumption) ?_); (with_reducible refine i_F (i_A0 ?_)); (with_reducible refine i_fld (by assumption) ?_); (with_reducible refine i_in (by assumption) (by omega) (by omega) ?_); (with_reducible refine i_I ?_); (rw [g1]); (rw [v1]); (with_reducible refine i_f (by omega) ?_); (with_reducible refine i_IfR (i_cNot (i_cZ_ne (i_Call (i_as1 (i_A0 (i_as0 ?_))))))); (with_reducible refine i_recv0 (by assumption) ?_))
    refine m_goesThrough hO hS hR1 hs2 g1 hi hq hlt (fun z => absurd z h3) (fun M2 f2 a1 a2 a3 => ⟨_, rfl, ?_⟩) (fun M2 i' f2 a1 a2 a3 a4 a5 => ⟨_, rfl, ?_⟩)
    · ((with_reducible refine i_f (by omega) ?_); (with_reducible refine i_RetZ (i_I ?_)); (with_reducible refine i_z (Or.inl rfl) ?_))
      exact hno1 M2 f2 a1 a2 a3
    · exfalso
      have h10 := ((zhh_ok B s).2.1 i (by omega)).2.1
      apply h10
      show zsp (zqs B s i) (zKi B s i) = 10
      rw [hq]
      exact ((by decide : ∀ k, k < 11 → (zsp 0 k = 10 ↔ zksS k ≠ 3)) _ (by omega)).mpr h3
end
