/-! ===== the parse: the reference ===== -/
theorem zhh_stop {B : Nat → Nat} {s i : Nat} (hi : i ≤ zhh B s) (h : ¬ (zps B s i < s ∧ zqs B s (i + 1) ≠ 10 ∧ i < 400 ∧ zkwc B s (i + 1) ≤ 40)) : i = zhh B s := by
  rcases Nat.lt_or_ge i (zhh B s) with q | q
  · exact absurd ((zhh_ok B s).2.1 i q) h
  · omega
theorem zksS_x {k x : Nat} (hx : x < 3) (h : zksS k = x) : k = x := by
  unfold zksS at h
  split at h
  · omega
  · split at h <;> omega
theorem zksS_3 {k : Nat} (h : zksS k = 3) : 3 ≤ k ∧ k ≠ 10 := by
  unfold zksS at h
  split at h
  · omega
  · split at h <;> omega
theorem zkwc_x {B : Nat → Nat} {s i : Nat} (h : zksS (zKi B s i) ≠ 3) : zkwc B s (i + 1) = zkwc B s i := by
  rw [zkwc_su, if_neg, Nat.add_zero]
  intro z
  have z2 : 4 ≤ zKi B s i ∧ zKi B s i ≤ 7 := of_decide_eq_true z
  apply h
  unfold zksS
  rw [if_neg (by omega), if_pos (by omega)]
theorem m_wrong {O : zOm} (hO : zWld O) (hS : zS O = zmS zC0) {i : Nat} {f p : Int} {M : zMem} {K : Option zV → zMem → Prop} (hh : M 250 ((67 : Nat) : Int) = ((i : Nat) : Int)) (h20 : i ≤ 2000) (hp : M ((280 : Nat) : Int) ((i : Nat) : Int) = p)
    (hk : ∀ M', (∀ b j, ¬ (b = 250 ∧ (j = 40 ∨ j = 66)) → M' b j = M b j) → M' 250 ((66 : Nat) : Int) = f → M' 250 ((40 : Nat) : Int) = p → K (some (0, 0)) M') : zR O F_Model_wrong [(2, 250), (0, f)] M K := by
  apply r_Model_wrong hO
  unfold B_Model_wrong
  have f66 := zMF (k := 66) hS rfl; have f37 := zMF (k := 37) hS rfl; have a280 := zMA (a := 280) (ty := .int) (n := 2001) hS rfl; have f67 := zMF (k := 67) hS rfl; have f40 := zMF (k := 40) hS rfl; have zo := zMO hS
  ((with_reducible refine i_Seq (i_sF (i_A0 (i_L1 ?_)))); (with_reducible refine i_fld (by assumption) ?_); (with_reducible refine i_Seq (i_sF (i_A0 (i_IA (i_FR (i_A0 ?_)))))); (with_reducible refine i_fldR (by assumption) ?_); (with_reducible refine i_F (i_A0 ?_)); (with_reducible refine i_fld (by assumption) ?_); rw [zg_m _ _ _ _ _ (by omega)]; (with_reducible refine i_in (by assumption) (by omega) (by omega) ?_); (with_reducible refine i_fld (by assumption) ?_); (with_reducible refine i_RetZ (i_I ?_)); (with_reducible refine i_z (Or.inl rfl) ?_); rw [zg_n _ _ _ (by omega)]; (rw [hh]); (rw [hp]))
  exact hk _ (fun b j q => by rw [zg_o _ _ (by omega), zg_o _ _ (by omega)]) (by rw [zg_o _ _ (by omega)]; exact zg_s _ _ _ _ _) (zg_s _ _ _ _ _)
theorem m_takes {O : zOm} (hO : zWld O) (hS : zS O = zmS zC0) {i x s : Nat} {xi : Int} {B : Nat → Nat} {M : zMem} {K : Option zV → zMem → Prop} (hxi : xi = ((x : Nat) : Int)) (hR : rTt M B s) (hs2 : s ≤ 2000) (hh : M 250 ((67 : Nat) : Int) = ((i : Nat) : Int)) (hi : i ≤ zhh B s) (h1 : zps B s i < s → (zqs B s (i + 1) = 10 ↔ zksS (zKi B s i) ≠ x)) (h0 : zps B s i = s → zqs B s i ≠ 0) (hx : x < 4) (hw : zksS (zKi B s i) = x → zkwc B s (i + 1) ≤ 40)
    (hno : ∀ M', (∀ b j, ¬ (b = 250 ∧ (j = 40 ∨ j = 66)) → M' b j = M b j) → M' 250 ((66 : Nat) : Int) = ((zFf (zksF B s) : Nat) : Int) → M' 250 ((40 : Nat) : Int) = zFq (zksF B s) → zksF B s ≠ 99999 → K (some (0, 0)) M')
    (hyes : ∀ M', (∀ b j, ¬ (b = 250 ∧ j = 67) → M' b j = M b j) → M' 250 ((67 : Nat) : Int) = ((i + 1 : Nat) : Int) → i < zhh B s → zksS (zKi B s i) = x → K (some (0, 1)) M') : zR O F_Model_takes [(2, 250), (0, xi)] M K := by
  subst hxi
  have h400 := (zhh_ok B s).1
  have hz := zps_le B s i
  obtain ⟨r1, r2, r3⟩ := hR i hi
  apply r_Model_takes hO
  unfold B_Model_takes
  have f36 := zMF (k := 36) hS rfl; have a279 := zMA (a := 279) (ty := .int) (n := 2001) hS rfl; have f67 := zMF (k := 67) hS rfl; have zo := zMO hS
  by_cases hse : zps B s i = s
  · have hst : i = zhh B s := zhh_stop hi (fun z => by omega)
    have hF : zksF B s = 8 * s + 1 := by
      unfold zksF
      rw [← hst, if_pos hse, if_neg (h0 hse)]
    obtain ⟨r4, r5⟩ := r2 hse
    rw [hF, (zFf_1 hs2).1, (zFf_1 hs2).2] at hno
    ((with_reducible refine i_Seq (i_If (i_cI_ne (i_IA (i_FR (i_A0 ?_)))))); (with_reducible refine i_fldR (by assumption) ?_); (with_reducible refine i_F (i_A0 ?_)); (with_reducible refine i_fld (by assumption) ?_); (with_reducible refine i_in (by assumption) (by omega) (by omega) ?_); (with_reducible refine i_L1 ?_); (rw [hh]); (rw [r4]); (with_reducible refine i_t (by omega) ?_); (with_reducible refine i_RetZ (i_Call (i_as1 (i_A0 (i_as1 (i_I (i_as0 ?_))))))); (with_reducible refine i_recv0 (by assumption) ?_))
    refine m_wrong hO hS hh (by omega) r5 (fun M1 f1 g1 g2 => ⟨_, rfl, ?_⟩)
    (with_reducible refine i_z (Or.inl rfl) ?_)
    exact hno M1 f1 g1 g2 (by omega)
  have hlt : zps B s i < s := by omega
  obtain ⟨r4, r5⟩ := r1 hlt
  have h2 := h1 hlt
  by_cases e : zksS (zKi B s i) = x
  · have hne : zqs B s (i + 1) ≠ 10 := fun z => h2.mp z e
    by_cases h4 : 400 ≤ i
    · have hst : i = zhh B s := zhh_stop hi (fun z => by omega)
      have hF : zksF B s = 8 * zps B s i + 2 := by
        unfold zksF
        rw [← hst, if_neg hse, if_neg hne]
      rw [hF, (zFf_2 (show zps B s i ≤ 2000 by omega)).1, (zFf_2 (show zps B s i ≤ 2000 by omega)).2] at hno
      ((with_reducible refine i_Seq (i_If (i_cI_ne (i_IA (i_FR (i_A0 ?_)))))); (with_reducible refine i_fldR (by assumption) ?_); (with_reducible refine i_F (i_A0 ?_)); (with_reducible refine i_fld (by assumption) ?_); (with_reducible refine i_in (by assumption) (by omega) (by omega) ?_); (with_reducible refine i_L1 ?_); (rw [hh]); (rw [r4]); (with_reducible refine i_f (by omega) ?_); (with_reducible refine i_Seq (i_If (i_cI_ge (i_F (i_A0 ?_))))); (with_reducible refine i_fld (by assumption) ?_); (with_reducible refine i_I ?_); (rw [hh]); (with_reducible refine i_t (by omega) ?_); (with_reducible refine i_RetZ (i_Call (i_as1 (i_A0 (i_as1 (i_I (i_as0 ?_))))))); (with_reducible refine i_recv0 (by assumption) ?_))
      refine m_wrong hO hS hh (by omega) r5 (fun M1 f1 g1 g2 => ⟨_, rfl, ?_⟩)
      (with_reducible refine i_z (Or.inl rfl) ?_)
      exact hno M1 f1 g1 g2 (by omega)
    · have hlt2 : i < zhh B s := by
        rcases Nat.lt_or_ge i (zhh B s) with q | q
        · exact q
        · have e9 : i = zhh B s := by omega
          exact absurd (show zps B s (zhh B s) < s ∧ zqs B s (zhh B s + 1) ≠ 10 ∧ zhh B s < 400 ∧ zkwc B s (zhh B s + 1) ≤ 40 from by rw [← e9]; exact ⟨hlt, hne, by omega, hw e⟩) (zhh_ok B s).2.2
      ((with_reducible refine i_Seq (i_If (i_cI_ne (i_IA (i_FR (i_A0 ?_)))))); (with_reducible refine i_fldR (by assumption) ?_); (with_reducible refine i_F (i_A0 ?_)); (with_reducible refine i_fld (by assumption) ?_); (with_reducible refine i_in (by assumption) (by omega) (by omega) ?_); (with_reducible refine i_L1 ?_); (rw [hh]); (rw [r4]); (with_reducible refine i_f (by omega) ?_); (with_reducible refine i_Seq (i_If (i_cI_ge (i_F (i_A0 ?_))))); (with_reducible refine i_fld (by assumption) ?_); (with_reducible refine i_I ?_); (rw [hh]); (with_reducible refine i_f (by omega) ?_); (with_reducible refine i_Seq (i_FO (i_A0 ?_))); (with_reducible refine i_fld (by assumption) ?_); (with_reducible refine i_I ?_); (with_reducible refine i_fld (by assumption) ?_); (with_reducible refine i_RetZ (i_I ?_)); (with_reducible refine i_z (Or.inr rfl) ?_); (rw [hh]); rw [zx_inc (by omega)])
      exact hyes _ (fun b j q => by rw [zg_o _ _ (by omega)]) (zg_s _ _ _ _ _) hlt2 e
  · have h10 : zqs B s (i + 1) = 10 := h2.mpr e
    have hst : i = zhh B s := zhh_stop hi (fun z => z.2.1 h10)
    have hF : zksF B s = 8 * zps B s i + 1 := by
      unfold zksF
      rw [← hst, if_neg hse, if_pos h10]
    rw [hF, (zFf_1 (show zps B s i ≤ 2000 by omega)).1, (zFf_1 (show zps B s i ≤ 2000 by omega)).2] at hno
    ((with_reducible refine i_Seq (i_If (i_cI_ne (i_IA (i_FR (i_A0 ?_)))))); (with_reducible refine i_fldR (by assumption) ?_); (with_reducible refine i_F (i_A0 ?_)); (with_reducible refine i_fld (by assumption) ?_); (with_reducible refine i_in (by assumption) (by omega) (by omega) ?_); (with_reducible refine i_L1 ?_); (rw [hh]); (rw [r4]); (with_reducible refine i_t (by omega) ?_); (with_reducible refine i_RetZ (i_Call (i_as1 (i_A0 (i_as1 (i_I (i_as0 ?_))))))); (with_reducible refine i_recv0 (by assumption) ?_))
    refine m_wrong hO hS hh (by omega) r5 (fun M1 f1 g1 g2 => ⟨_, rfl, ?_⟩)
    (with_reducible refine i_z (Or.inl rfl) ?_)
    exact hno M1 f1 g1 g2 (by omega)
theorem m_takeN {O : zOm} (hO : zWld O) (hS : zS O = zmS zC0) {i x q s : Nat} {xi : Int} {B : Nat → Nat} {M : zMem} {K : Option zV → zMem → Prop} (hxi : xi = ((x : Nat) : Int)) (hR : rTt M B s) (hs2 : s ≤ 2000) (hh : M 250 ((67 : Nat) : Int) = ((i : Nat) : Int)) (hi : i ≤ zhh B s) (hq : zqs B s i = q) (hq0 : q ≠ 0) (hx : x < 3) (hd : zsp q (zKi B s i) = 10 ↔ zksS (zKi B s i) ≠ x)
    (hno : ∀ M', (∀ b j, ¬ (b = 250 ∧ (j = 40 ∨ j = 66)) → M' b j = M b j) → M' 250 ((66 : Nat) : Int) = ((zFf (zksF B s) : Nat) : Int) → M' 250 ((40 : Nat) : Int) = zFq (zksF B s) → zksF B s ≠ 99999 → K (some (0, 0)) M')
    (hyes : ∀ M', (∀ b j, ¬ (b = 250 ∧ j = 67) → M' b j = M b j) → M' 250 ((67 : Nat) : Int) = ((i + 1 : Nat) : Int) → i < zhh B s → zKi B s i = x → zqs B s (i + 1) = zsp q x → zkwc B s (i + 1) = zkwc B s i → K (some (0, 1)) M') : zR O F_Model_takes [(2, 250), (0, xi)] M K := by
  have hqe : zqs B s (i + 1) = zsp q (zKi B s i) := by
    show zsp (zqs B s i) (zKi B s i) = _
    rw [hq]
  refine m_takes hO hS hxi hR hs2 hh hi (fun _ => by rw [hqe]; exact hd) (fun _ => by rw [hq]; exact hq0) (by omega) (fun z => by rw [zkwc_x (by omega)]; exact zkwc_h hi) hno (fun M' f g a b => ?_)
  have e := zksS_x hx b
  exact hyes M' f g a e (by rw [hqe, e]) (zkwc_x (by omega))
theorem m_takesTwo {O : zOm} (hO : zWld O) (hS : zS O = zmS zC0) {i x y q q2 s : Nat} {xi yi : Int} {B : Nat → Nat} {M : zMem} {K : Option zV → zMem → Prop} (hxi : xi = ((x : Nat) : Int)) (hyi : yi = ((y : Nat) : Int)) (hR : rTt M B s) (hs2 : s ≤ 2000) (hh : M 250 ((67 : Nat) : Int) = ((i : Nat) : Int)) (hi : i ≤ zhh B s) (hq : zqs B s i = q) (hq0 : q ≠ 0) (hx : x < 3) (hy : y < 3) (hd : ∀ k, k < 11 → (zsp q k = 10 ↔ zksS k ≠ x)) (hq2 : zsp q x = q2) (hq20 : q2 ≠ 0) (hd2 : ∀ k, k < 11 → (zsp q2 k = 10 ↔ zksS k ≠ y)) (hq5 : zsp q2 y = 5)
    (hno : ∀ M', (∀ b j, ¬ (b = 250 ∧ (j = 40 ∨ j = 66 ∨ j = 67)) → M' b j = M b j) → M' 250 ((66 : Nat) : Int) = ((zFf (zksF B s) : Nat) : Int) → M' 250 ((40 : Nat) : Int) = zFq (zksF B s) → zksF B s ≠ 99999 → K (some (0, 0)) M')
    (hyes : ∀ M', (∀ b j, ¬ (b = 250 ∧ j = 67) → M' b j = M b j) → M' 250 ((67 : Nat) : Int) = ((i + 3 : Nat) : Int) → i + 3 ≤ zhh B s → zqs B s (i + 3) = 0 → zkwc B s (i + 3) = zkwc B s i → K (some (0, 1)) M') : zR O F_Model_takesTwo [(2, 250), (0, xi), (0, yi)] M K := by
  have hkl : ∀ j, zKi B s j < 11 := fun j => by have := zKi_le B s j; omega
  apply r_Model_takesTwo hO
  unfold B_Model_takesTwo
  have zo := zMO hS
  ((with_reducible refine i_RetZ (i_eIf (i_cAnd (i_cAnd (i_cZ_ne (i_Call (i_as1 (i_A0 (i_as1 (i_L1 (i_as0 ?_))))))))))); (with_reducible refine i_recv0 (by assumption) ?_))
  refine m_takeN hO hS hxi hR hs2 hh hi hq hq0 hx (hd _ (hkl i)) (fun M1 f1 g1 g2 g3 => ⟨_, rfl, ?_⟩) (fun M1 f1 g1 g2 g3 g4 g5 => ⟨_, rfl, ?_⟩)
  · ((with_reducible refine i_f (by omega) ?_); (with_reducible refine i_I ?_); (with_reducible refine i_z (Or.inl rfl) ?_))
    exact hno M1 (fun b j q => f1 b j (by omega)) g1 g2 g3
  rw [hq2] at g4
  ((with_reducible refine i_t (by omega) ?_); (with_reducible refine i_cZ_ne (i_Call (i_as1 (i_A0 (i_as1 (i_L2 (i_as0 ?_))))))); (with_reducible refine i_recv0 (by assumption) ?_))
  refine m_takeN hO hS hyi (hR.to (fun b j q => f1 b j (by omega))) hs2 g1 (by omega) g4 hq20 hy (hd2 _ (hkl (i + 1))) (fun M2 f2 h1 h2 h3 => ⟨_, rfl, ?_⟩) (fun M2 f2 h1 h2 h3 h4 h5 => ⟨_, rfl, ?_⟩)
  · ((with_reducible refine i_f (by omega) ?_); (with_reducible refine i_I ?_); (with_reducible refine i_z (Or.inl rfl) ?_))
    exact hno M2 (fun b j q => by rw [f2 b j (by omega), f1 b j (by omega)]) h1 h2 h3
  rw [hq5] at h4
  ((with_reducible refine i_t (by omega) ?_); (with_reducible refine i_cZ_ne (i_Call (i_as1 (i_A0 (i_as1 (i_I (i_as0 ?_))))))); (with_reducible refine i_recv0 (by assumption) ?_))
  refine m_takeN hO hS (x := 2) rfl (hR.to (fun b j q => by rw [f2 b j (by omega), f1 b j (by omega)])) hs2 h1 (by omega) h4 (by decide) (by decide) ((by decide : ∀ k, k < 11 → (zsp 5 k = 10 ↔ zksS k ≠ 2)) _ (hkl (i + 1 + 1))) (fun M3 f3 k1 k2 k3 => ⟨_, rfl, ?_⟩) (fun M3 f3 k1 k2 k3 k4 k5 => ⟨_, rfl, ?_⟩)
  · ((with_reducible refine i_f (by omega) ?_); (with_reducible refine i_I ?_); (with_reducible refine i_z (Or.inl rfl) ?_))
    exact hno M3 (fun b j q => by rw [f3 b j (by omega), f2 b j (by omega), f1 b j (by omega)]) k1 k2 k3
  · ((with_reducible refine i_t (by omega) ?_); (with_reducible refine i_I ?_); (with_reducible refine i_z (Or.inr rfl) ?_))
    exact hyes M3 (fun b j q => by rw [f3 b j q, f2 b j q, f1 b j q]) k1 k2 k4 (by rw [show i + 3 = i + 1 + 1 + 1 by omega, k5, h5, g5])
set_option maxHeartbeats 1600000 in
theorem m_goesThrough {O : zOm} (hO : zWld O) (hS : zS O = zmS zC0) {i s : Nat} {B : Nat → Nat} {M : zMem} {K : Option zV → zMem → Prop} (hR : rTt M B s) (hs2 : s ≤ 2000) (hh : M 250 ((67 : Nat) : Int) = ((i : Nat) : Int)) (hi : i ≤ zhh B s) (hq : zqs B s i = 0) (hlt : zps B s i < s) (hw : zksS (zKi B s i) = 3 → zkwc B s (i + 1) ≤ 40)
    (hno : ∀ M', (∀ b j, ¬ (b = 250 ∧ (j = 40 ∨ j = 66 ∨ j = 67)) → M' b j = M b j) → M' 250 ((66 : Nat) : Int) = ((zFf (zksF B s) : Nat) : Int) → M' 250 ((40 : Nat) : Int) = zFq (zksF B s) → zksF B s ≠ 99999 → K (some (0, 0)) M')
    (hyes : ∀ M' i', (∀ b j, ¬ (b = 250 ∧ j = 67) → M' b j = M b j) → M' 250 ((67 : Nat) : Int) = ((i' : Nat) : Int) → i < i' → i' ≤ zhh B s → zqs B s i' = 0 → zkwc B s i' = zkwc B s (i + 1) → K (some (0, 1)) M') : zR O F_Model_goesThrough [(2, 250)] M K := by
  have h400 := (zhh_ok B s).1
  have hkl : ∀ j, zKi B s j < 11 := fun j => by have := zKi_le B s j; omega
  apply r_Model_goesThrough hO
  unfold B_Model_goesThrough
  have f39 := zMF (k := 39) hS rfl; have a282 := zMA (a := 282) (ty := .int) (n := 2001) hS rfl; have f67 := zMF (k := 67) hS rfl; have f36 := zMF (k := 36) hS rfl; have a279 := zMA (a := 279) (ty := .int) (n := 2001) hS rfl; have zo := zMO hS
  ((with_reducible refine i_Seq (i_Set (i_IA (i_FR (i_A0 ?_))))); (with_reducible refine i_fldR (by assumption) ?_); (with_reducible refine i_F (i_A0 ?_)); (with_reducible refine i_fld (by assumption) ?_); (with_reducible refine i_in (by assumption) (by omega) (by omega) ?_); (with_reducible refine i_Seq (i_If (i_cNot (i_cZ_ne (i_Call (i_as1 ?_)))))); (rw [hh]); simp only [w_set0, w_set1, w_setn0, w_setn1]; (with_reducible refine i_A0 (i_as1 (i_I (i_as0 ?_)))); (with_reducible refine i_recv0 (by assumption) ?_))
  refine m_takes hO hS (x := 3) rfl hR hs2 hh hi (fun _ => by show zsp (zqs B s i) (zKi B s i) = 10 ↔ _; rw [hq]; exact (by decide : ∀ k, k < 11 → (zsp 0 k = 10 ↔ zksS k ≠ 3)) _ (hkl i)) (fun z => by omega) (by decide) hw (fun M1 f1 g1 g2 g3 => ⟨_, rfl, ?_⟩) (fun M1 f1 g1 g2 g3 => ⟨_, rfl, ?_⟩)
  · ((with_reducible refine i_f (by omega) ?_); (with_reducible refine i_RetZ (i_I ?_)); (with_reducible refine i_z (Or.inl rfl) ?_))
    exact hno M1 (fun b j q => f1 b j (by omega)) g1 g2 g3
  have hK9 := zKi_h g2
  have hK3 := zksS_3 g3
  have hwv : M ((282 : Nat) : Int) ((i : Nat) : Int) = ((zKi B s i : Nat) : Int) - 3 := (hR.tk g2).2.2.1 (by omega) (by omega)
  have hq1 : zqs B s (i + 1) = zsp 0 (zKi B s i) := by
    show zsp (zqs B s i) (zKi B s i) = _
    rw [hq]
  have hR1 : rTt M1 B s := hR.to (fun b j q => f1 b j (by omega))
  have hno1 : ∀ M', (∀ b j, ¬ (b = 250 ∧ (j = 40 ∨ j = 66 ∨ j = 67)) → M' b j = M1 b j) → M' 250 ((66 : Nat) : Int) = ((zFf (zksF B s) : Nat) : Int) → M' 250 ((40 : Nat) : Int) = zFq (zksF B s) → zksF B s ≠ 99999 → K (some (0, 0)) M' := fun M' f a b c => hno M' (fun b j q => by rw [f b j (by omega), f1 b j (by omega)]) a b c
  generalize hkk : zKi B s i = k at hK9 hK3 hwv hq1
  clear hno hw g3
  have hcase : k = 3 ∨ (k = 4 ∨ k = 5) ∨ k = 6 ∨ k = 7 ∨ (k = 8 ∨ k = 9) := by omega
  rcases hcase with e | e | e | e | e
  · have hq1' : zqs B s (i + 1) = 1 := by rw [hq1, e]; rfl
    ((rw [hwv]); (with_reducible refine i_t (by omega) ?_); (with_reducible refine i_Seq (i_If (i_cZ_eq (i_L1 ?_)))); (with_reducible refine i_t (by omega) ?_); (with_reducible refine i_Seq (i_If (i_cOr (i_cNot (i_cZ_ne (i_Call (i_as1 (i_A0 (i_as1 (i_I (i_as0 ?_))))))))))); (with_reducible refine i_recv0 (by assumption) ?_))
    refine m_takeN hO hS (x := 0) rfl hR1 hs2 g1 (by omega) hq1' (by decide) (by decide) ((by decide : ∀ k, k < 11 → (zsp 1 k = 10 ↔ zksS k ≠ 0)) _ (hkl (i + 1))) (fun M2 f2 h1 h2 h3 => ⟨_, rfl, ?_⟩) (fun M2 f2 h1 h2 h3 h4 h5 => ⟨_, rfl, ?_⟩)
    · ((with_reducible refine i_f (by omega) ?_); (with_reducible refine i_RetZ (i_I ?_)); (with_reducible refine i_z (Or.inl rfl) ?_))
      exact hno1 M2 (fun b j q => f2 b j (by omega)) h1 h2 h3
    have h4' : zqs B s (i + 1 + 1) = 2 := h4
    have hR2 : rTt M2 B s := hR1.to (fun b j q => f2 b j (by omega))
    ((with_reducible refine i_t (by omega) ?_); (with_reducible refine i_cNot (i_cZ_ne (i_Call (i_as1 (i_A0 (i_as1 (i_I (i_as0 ?_)))))))); (with_reducible refine i_recv0 (by assumption) ?_))
    refine m_takeN hO hS (x := 1) rfl hR2 hs2 h1 (by omega) h4' (by decide) (by decide) ((by decide : ∀ k, k < 11 → (zsp 2 k = 10 ↔ zksS k ≠ 1)) _ (hkl (i + 1 + 1))) (fun M3 f3 k1 k2 k3 => ⟨_, rfl, ?_⟩) (fun M3 f3 k1 k2 k3 k4 k5 => ⟨_, rfl, ?_⟩)
    · ((with_reducible refine i_f (by omega) ?_); (with_reducible refine i_RetZ (i_I ?_)); (with_reducible refine i_z (Or.inl rfl) ?_))
      exact hno1 M3 (fun b j q => by rw [f3 b j (by omega), f2 b j (by omega)]) k1 k2 k3
    have k4' : zqs B s (i + 1 + 1 + 1) = 3 := k4
    ((with_reducible refine i_t (by omega) ?_); (with_reducible refine i_Seq ?_))
    have i0 : ∀ b j, ¬ (b = 250 ∧ j = 67) → M3 b j = M1 b j := fun b j q => by rw [f3 b j q, f2 b j q]
    have i2 : i < i + 1 + 1 + 1 := by omega
    have i3 : i + 1 + 1 + 1 ≤ zhh B s := by omega
    have i5 : zkwc B s (i + 1 + 1 + 1) = zkwc B s (i + 1) := by rw [k5, h5]
    refine w_WhileR (α := zLoc × zMem × Nat) (fun x => (x.1, x.2.1)) (fun x => (∃ l, x.1 = 250 :: l) ∧ (∀ b j, ¬ (b = 250 ∧ j = 67) → x.2.1 b j = M1 b j) ∧ x.2.1 250 ((67 : Nat) : Int) = ((x.2.2 : Nat) : Int) ∧ i < x.2.2 ∧ x.2.2 ≤ zhh B s ∧ zqs B s x.2.2 = 3 ∧ zkwc B s x.2.2 = zkwc B s (i + 1)) (fun x => zhh B s - x.2.2) (fun x X hx hy => ?_) (_, M3, i + 1 + 1 + 1) ⟨⟨_, rfl⟩, i0, k1, i2, i3, k4', i5⟩
    obtain ⟨ρ, M4, j⟩ := x
    (try dsimp only at hx)
    obtain ⟨⟨l, rfl⟩, f4, j1, j2, j3, j4, j5⟩ := hx
    (try dsimp only at f4 j1 j2 j3 j4 j5 hy ⊢)
    have hR4 : rTt M4 B s := hR1.to (fun b j q => f4 b j (by omega))
    have hy2 : ∀ (l : zLoc) (M' : zMem) (j' : Nat), (∀ b j, ¬ (b = 250 ∧ j = 67) → M' b j = M1 b j) → M' 250 ((67 : Nat) : Int) = ((j' : Nat) : Int) → i < j' → j' ≤ zhh B s → zqs B s j' = 3 → zkwc B s j' = zkwc B s (i + 1) → j < j' → X (250 :: l) M' := fun l M' j' a1 a2 a3 a4 a5 a6 a7 => hy (250 :: l, M', j') ⟨⟨l, rfl⟩, a1, a2, a3, a4, a5, a6⟩ (by (try dsimp only); omega)
    have hzj := zps_le B s j
    have hsort : ∃ v : Nat, M4 ((279 : Nat) : Int) ((j : Nat) : Int) = ((v : Nat) : Int) ∧ (v = 1 → zksS (zKi B s j) = 1 ∧ zps B s j < s) ∧ (v ≠ 1 → zps B s j < s → zksS (zKi B s j) ≠ 1) := by
      by_cases hz : zps B s j = s
      · exact ⟨4, ((hR4 j j3).2.1 hz).1, fun z => absurd z (by decide), fun _ z => by omega⟩
      · exact ⟨_, ((hR4 j j3).1 (by omega)).1, fun z => ⟨z, by omega⟩, fun z _ => z⟩
    obtain ⟨v, v1, v2, v3⟩ := hsort
    by_cases hv : v = 1
    · obtain ⟨v4, v5⟩ := v2 hv
      have v6 := zksS_x (by decide) v4
      ((with_reducible refine i_turn (i_cI_eq (i_IA (i_FR (i_A0 ?_))))); (with_reducible refine i_fldR (by assumption) ?_); (with_reducible refine i_F (i_A0 ?_)); (with_reducible refine i_fld (by assumption) ?_); (with_reducible refine i_in (by assumption) (by omega) (by omega) ?_); (with_reducible refine i_I ?_); (rw [j1]); (rw [v1]); (with_reducible refine i_t (by omega) ?_); (with_reducible refine i_IfR (i_cNot (i_cZ_ne (i_Call (i_as1 (i_A0 (i_as1 (i_I (i_as0 ?_))))))))); (with_reducible refine i_recv0 (by assumption) ?_))
      refine m_takeN hO hS (x := 1) rfl hR4 hs2 j1 j3 j4 (by decide) (by decide) (by rw [v6]; decide) (fun M5 f5 l1 l2 l3 => ⟨_, rfl, ?_⟩) (fun M5 f5 l1 l2 l3 l4 l5 => ⟨_, rfl, ?_⟩)
      · ((with_reducible refine i_f (by omega) ?_); (with_reducible refine i_RetZ (i_I ?_)); (with_reducible refine i_z (Or.inl rfl) ?_))
        exact hno1 M5 (fun b j q => by rw [f5 b j (by omega), f4 b j (by omega)]) l1 l2 l3
      · (with_reducible refine i_t (by omega) ?_)
        exact hy2 _ M5 (j + 1) (fun b j q => by rw [f5 b j q, f4 b j q]) l1 (by omega) (by omega) l4 (by rw [l5, j5]) (by omega)
    · have hd : zsp 3 (zKi B s j) = 10 ↔ zksS (zKi B s j) ≠ 2 := by
        have h3 : zksS (zKi B s j) ≠ 1 := by
          by_cases hz : zps B s j < s
          · exact v3 hv hz
          · have hzs : zKi B s j = 10 := by
              have e2 : zps B s j = s := by omega
              unfold zKi zkd
              rw [e2, zsr_end (Nat.le_refl s)]
              rfl
            rw [hzs]; decide
        exact (by decide : ∀ k, k < 11 → zksS k ≠ 1 → (zsp 3 k = 10 ↔ zksS k ≠ 2)) _ (hkl j) h3
      ((with_reducible refine i_turn (i_cI_eq (i_IA (i_FR (i_A0 ?_))))); (with_reducible refine i_fldR (by assumption) ?_); (with_reducible refine i_F (i_A0 ?_)); (with_reducible refine i_fld (by assumption) ?_); (with_reducible refine i_in (by assumption) (by omega) (by omega) ?_); (with_reducible refine i_I ?_); (rw [j1]); (rw [v1]); (with_reducible refine i_f (by omega) ?_); (with_reducible refine i_RetZ (i_Call (i_as1 (i_A0 (i_as1 (i_I (i_as0 ?_))))))); (with_reducible refine i_recv0 (by assumption) ?_))
      refine m_takeN hO hS (x := 2) rfl hR4 hs2 j1 j3 j4 (by decide) (by decide) hd (fun M5 f5 l1 l2 l3 => ⟨_, rfl, ?_⟩) (fun M5 f5 l1 l2 l3 l4 l5 => ⟨_, rfl, ?_⟩)
      · (with_reducible refine i_z (Or.inl rfl) ?_)
        exact hno1 M5 (fun b j q => by rw [f5 b j (by omega), f4 b j (by omega)]) l1 l2 l3
      · (with_reducible refine i_z (Or.inr rfl) ?_)
        exact hyes M5 (j + 1) (fun b j q => by rw [f5 b j q, f4 b j q, f1 b j q]) l1 (by omega) (by omega) l4 (by rw [l5, j5])
  · have hq1' : zqs B s (i + 1) = 4 := by
      rw [hq1]
      rcases e with e | e <;> (rw [e]; rfl)
    ((rw [hwv]); (with_reducible refine i_t (by omega) ?_); (with_reducible refine i_Seq (i_If (i_cZ_eq (i_L1 ?_)))); (with_reducible refine i_f (by omega) ?_); (with_reducible refine i_Seq (i_If (i_cI_lt (i_L1 (i_I ?_))))); (with_reducible refine i_t (by omega) ?_); (with_reducible refine i_RetZ (i_eIf (i_cAnd (i_cZ_ne (i_Call (i_as1 (i_A0 (i_as1 (i_I (i_as0 ?_)))))))))); (with_reducible refine i_recv0 (by assumption) ?_))
    refine m_takeN hO hS (x := 0) rfl hR1 hs2 g1 (by omega) hq1' (by decide) (by decide) ((by decide : ∀ k, k < 11 → (zsp 4 k = 10 ↔ zksS k ≠ 0)) _ (hkl (i + 1))) (fun M2 f2 h1 h2 h3 => ⟨_, rfl, ?_⟩) (fun M2 f2 h1 h2 h3 h4 h5 => ⟨_, rfl, ?_⟩)
    · ((with_reducible refine i_f (by omega) ?_); (with_reducible refine i_I ?_); (with_reducible refine i_z (Or.inl rfl) ?_))
      exact hno1 M2 (fun b j q => f2 b j (by omega)) h1 h2 h3
    have h4' : zqs B s (i + 1 + 1) = 5 := h4
    have hR2 : rTt M2 B s := hR1.to (fun b j q => f2 b j (by omega))
    ((with_reducible refine i_t (by omega) ?_); (with_reducible refine i_cZ_ne (i_Call (i_as1 (i_A0 (i_as1 (i_I (i_as0 ?_))))))); (with_reducible refine i_recv0 (by assumption) ?_))
    refine m_takeN hO hS (x := 2) rfl hR2 hs2 h1 (by omega) h4' (by decide) (by decide) ((by decide : ∀ k, k < 11 → (zsp 5 k = 10 ↔ zksS k ≠ 2)) _ (hkl (i + 1 + 1))) (fun M3 f3 k1 k2 k3 => ⟨_, rfl, ?_⟩) (fun M3 f3 k1 k2 k3 k4 k5 => ⟨_, rfl, ?_⟩)
    · ((with_reducible refine i_f (by omega) ?_); (with_reducible refine i_I ?_); (with_reducible refine i_z (Or.inl rfl) ?_))
      exact hno1 M3 (fun b j q => by rw [f3 b j (by omega), f2 b j (by omega)]) k1 k2 k3
    · ((with_reducible refine i_t (by omega) ?_); (with_reducible refine i_I ?_); (with_reducible refine i_z (Or.inr rfl) ?_))
      exact hyes M3 (i + 1 + 1 + 1) (fun b j q => by rw [f3 b j q, f2 b j q, f1 b j q]) k1 (by omega) (by omega) k4 (by rw [k5, h5])
  · have hq1' : zqs B s (i + 1) = 6 := by rw [hq1, e]; rfl
    ((rw [hwv]); (with_reducible refine i_t (by omega) ?_); (with_reducible refine i_Seq (i_If (i_cZ_eq (i_L1 ?_)))); (with_reducible refine i_f (by omega) ?_); (with_reducible refine i_Seq (i_If (i_cI_lt (i_L1 (i_I ?_))))); (with_reducible refine i_f (by omega) ?_); (with_reducible refine i_RetZ (i_eIf (i_cI_eq (i_L1 (i_I ?_))))); (with_reducible refine i_t (by omega) ?_); (with_reducible refine i_Call (i_as1 (i_A0 (i_as1 (i_I (i_as1 (i_I (i_as0 ?_)))))))); (with_reducible refine i_recv0 (by assumption) ?_))
    refine m_takesTwo hO hS (x := 0) (y := 0) rfl rfl hR1 hs2 g1 (by omega) hq1' (by decide) (by decide) (by decide) (by decide) (q2 := 4) rfl (by decide) (by decide) rfl (fun M2 f2 h1 h2 h3 => ⟨_, rfl, ?_⟩) (fun M2 f2 h1 h2 h3 h4 => ⟨_, rfl, ?_⟩)
    · (with_reducible refine i_z (Or.inl rfl) ?_)
      exact hno1 M2 f2 h1 h2 h3
    · (with_reducible refine i_z (Or.inr rfl) ?_)
      exact hyes M2 (i + 1 + 3) (fun b j q => by rw [f2 b j q, f1 b j q]) h1 (by omega) h2 h3 h4
  · have hq1' : zqs B s (i + 1) = 7 := by rw [hq1, e]; rfl
    ((rw [hwv]); (with_reducible refine i_t (by omega) ?_); (with_reducible refine i_Seq (i_If (i_cZ_eq (i_L1 ?_)))); (with_reducible refine i_f (by omega) ?_); (with_reducible refine i_Seq (i_If (i_cI_lt (i_L1 (i_I ?_))))); (with_reducible refine i_f (by omega) ?_); (with_reducible refine i_RetZ (i_eIf (i_cI_eq (i_L1 (i_I ?_))))); (with_reducible refine i_f (by omega) ?_); (with_reducible refine i_eIf (i_cI_eq (i_L1 (i_I ?_)))); (with_reducible refine i_t (by omega) ?_); (with_reducible refine i_Call (i_as1 (i_A0 (i_as1 (i_I (i_as1 (i_I (i_as0 ?_)))))))); (with_reducible refine i_recv0 (by assumption) ?_))
    refine m_takesTwo hO hS (x := 1) (y := 0) rfl rfl hR1 hs2 g1 (by omega) hq1' (by decide) (by decide) (by decide) (by decide) (q2 := 4) rfl (by decide) (by decide) rfl (fun M2 f2 h1 h2 h3 => ⟨_, rfl, ?_⟩) (fun M2 f2 h1 h2 h3 h4 => ⟨_, rfl, ?_⟩)
    · (with_reducible refine i_z (Or.inl rfl) ?_)
      exact hno1 M2 f2 h1 h2 h3
    · (with_reducible refine i_z (Or.inr rfl) ?_)
      exact hyes M2 (i + 1 + 3) (fun b j q => by rw [f2 b j q, f1 b j q]) h1 (by omega) h2 h3 h4
  · have hq1' : zqs B s (i + 1) = 8 := by
      rw [hq1]
      rcases e with e | e <;> (rw [e]; rfl)
    ((rw [hwv]); (with_reducible refine i_t (by omega) ?_); (with_reducible refine i_Seq (i_If (i_cZ_eq (i_L1 ?_)))); (with_reducible refine i_f (by omega) ?_); (with_reducible refine i_Seq (i_If (i_cI_lt (i_L1 (i_I ?_))))); (with_reducible refine i_f (by omega) ?_); (with_reducible refine i_RetZ (i_eIf (i_cI_eq (i_L1 (i_I ?_))))); (with_reducible refine i_f (by omega) ?_); (with_reducible refine i_eIf (i_cI_eq (i_L1 (i_I ?_)))); (with_reducible refine i_f (by omega) ?_); (with_reducible refine i_Call (i_as1 (i_A0 (i_as1 (i_I (i_as1 (i_I (i_as0 ?_)))))))); (with_reducible refine i_recv0 (by assumption) ?_))
    refine m_takesTwo hO hS (x := 1) (y := 1) rfl rfl hR1 hs2 g1 (by omega) hq1' (by decide) (by decide) (by decide) (by decide) (q2 := 9) rfl (by decide) (by decide) rfl (fun M2 f2 h1 h2 h3 => ⟨_, rfl, ?_⟩) (fun M2 f2 h1 h2 h3 h4 => ⟨_, rfl, ?_⟩)
    · (with_reducible refine i_z (Or.inl rfl) ?_)
      exact hno1 M2 f2 h1 h2 h3
    · (with_reducible refine i_z (Or.inr rfl) ?_)
      exact hyes M2 (i + 1 + 3) (fun b j q => by rw [f2 b j q, f1 b j q]) h1 (by omega) h2 h3 h4
set_option maxHeartbeats 1600000 in
theorem m_parses {O : zOm} (hO : zWld O) (hS : zS O = zmS zC0) {s : Nat} {B : Nat → Nat} {M : zMem} {K : Option zV → zMem → Prop} (hR : rTt M B s) (hs2 : s ≤ 2000) (hf0 : M 250 ((66 : Nat) : Int) = 0)
    (hno : ∀ M', (∀ b j, ¬ (b = 250 ∧ (j = 40 ∨ j = 66 ∨ j = 67)) → M' b j = M b j) → M' 250 ((66 : Nat) : Int) = ((zFf (zksF B s) : Nat) : Int) → M' 250 ((40 : Nat) : Int) = zFq (zksF B s) → zksF B s ≠ 99999 → K (some (0, 0)) M')
    (hyes : ∀ M', (∀ b j, ¬ (b = 250 ∧ j = 67) → M' b j = M b j) → zksF B s = 99999 → K (some (0, 1)) M') : zR O F_Model_parses [(2, 250)] M K := by
  have h400 := (zhh_ok B s).1
  apply r_Model_parses hO
  unfold B_Model_parses
  have f67 := zMF (k := 67) hS rfl; have f36 := zMF (k := 36) hS rfl; have a279 := zMA (a := 279) (ty := .int) (n := 2001) hS rfl; have f39 := zMF (k := 39) hS rfl; have a282 := zMA (a := 282) (ty := .int) (n := 2001) hS rfl; have zo := zMO hS
  ((with_reducible refine i_Seq (i_Set (i_I (i_Seq (i_sF ?_))))); simp only [w_set0, w_set1, w_setn0, w_setn1]; (with_reducible refine i_A0 (i_I ?_)); (with_reducible refine i_fld (by assumption) ?_); (with_reducible refine i_Seq ?_))
  generalize hM0 : zput M 250 (zup (M 250) ((67 : Nat) : Int) 0) = M0
  have f0 : ∀ b j, ¬ (b = 250 ∧ j = 67) → M0 b j = M b j := fun b j q => by rw [← hM0, zg_o _ _ (by omega)]
  have g0 : M0 250 ((67 : Nat) : Int) = ((0 : Nat) : Int) := by rw [← hM0]; exact zg_s _ _ _ _ _
  clear hM0
  refine w_WhileR (α := zLoc × zMem × Nat) (fun x => (x.1, x.2.1)) (fun x => (∃ l, x.1 = 250 :: ((zkwc B s x.2.2 : Nat) : Int) :: l) ∧ (∀ b j, ¬ (b = 250 ∧ j = 67) → x.2.1 b j = M b j) ∧ x.2.1 250 ((67 : Nat) : Int) = ((x.2.2 : Nat) : Int) ∧ x.2.2 ≤ zhh B s ∧ zqs B s x.2.2 = 0) (fun x => zhh B s - x.2.2) (fun x X hx hy => ?_) (_, M0, 0) ⟨⟨_, rfl⟩, f0, g0, Nat.zero_le _, rfl⟩
  obtain ⟨ρ, M1, i⟩ := x
  (try dsimp only at hx)
  obtain ⟨⟨l, rfl⟩, f1, g1, hi, hq⟩ := hx
  (try dsimp only at f1 g1 hi hq hy ⊢)
  have hR1 : rTt M1 B s := hR.to (fun b j q => f1 b j (by omega))
  have hz := zps_le B s i
  have hwc := zkwc_h hi
  by_cases hse : zps B s i = s
  · have hst : i = zhh B s := zhh_stop hi (fun z => by omega)
    have hF : zksF B s = 99999 := by
      unfold zksF
      rw [← hst, if_pos hse, if_pos hq]
    have v1 := ((hR1 i hi).2.1 hse).1
    ((with_reducible refine i_turn (i_cI_ne (i_IA (i_FR (i_A0 ?_))))); (with_reducible refine i_fldR (by assumption) ?_); (with_reducible refine i_F (i_A0 ?_)); (with_reducible refine i_fld (by assumption) ?_); (with_reducible refine i_in (by assumption) (by omega) (by omega) ?_); (with_reducible refine i_I ?_); (rw [g1]); (rw [v1]); (with_reducible refine i_f (by omega) ?_); (with_reducible refine i_RetZ (i_I ?_)); (with_reducible refine i_z (Or.inr rfl) ?_))
    exact hyes M1 f1 hF
  have hlt : zps B s i < s := by omega
  obtain ⟨v1, v2⟩ := (hR1 i hi).1 hlt
  have hkl := zKi_le B s i
  have hS5 : zksS (zKi B s i) ≠ 4 := by
    unfold zksS
    split
    · decide
    · split <;> omega
  -- one tell
  have go : ∀ (l : zLoc) (c : Nat), (zksS (zKi B s i) = 3 → c = zkwc B s (i + 1) ∧ c ≤ 40) → ∀ M2 i', (∀ b j, ¬ (b = 250 ∧ j = 67) → M2 b j = M1 b j) → M2 250 ((67 : Nat) : Int) = ((i' : Nat) : Int) → i < i' → i' ≤ zhh B s → zqs B s i' = 0 → zkwc B s i' = zkwc B s (i + 1) → zksS (zKi B s i) = 3 → X (250 :: ((c : Nat) : Int) :: l) M2 := fun l c hc M2 i' f2 a1 a2 a3 a4 a5 a6 => hy (250 :: ((c : Nat) : Int) :: l, M2, i') ⟨⟨l, by rw [(hc a6).1, a5]⟩, fun b j q => (f2 b j q).trans (f1 b j q), a1, a3, a4⟩ (by (try dsimp only); omega)
  have hno1 : ∀ M', (∀ b j, ¬ (b = 250 ∧ (j = 40 ∨ j = 66 ∨ j = 67)) → M' b j = M1 b j) → M' 250 ((66 : Nat) : Int) = ((zFf (zksF B s) : Nat) : Int) → M' 250 ((40 : Nat) : Int) = zFq (zksF B s) → zksF B s ≠ 99999 → K (some (0, 0)) M' := fun M' f a b c => hno M' (fun b j q => by rw [f b j (by omega), f1 b j (by omega)]) a b c
  by_cases h3 : zksS (zKi B s i) = 3
  · have hK := zksS_3 h3
    have hwv := ((hR1 i hi).2.2 hlt hK.2).2.2.1 (by omega) (by omega)
    have hne : zqs B s (i + 1) ≠ 10 := by
      show zsp (zqs B s i) (zKi B s i) ≠ 10
      rw [hq]
      exact fun z => ((by decide : ∀ k, k < 11 → (zsp 0 k = 10 ↔ zksS k ≠ 3)) _ (by omega)).mp z h3
    by_cases hwd : 4 ≤ zKi B s i ∧ zKi B s i ≤ 7
    · have hc : zkwc B s (i + 1) = zkwc B s i + 1 := by rw [zkwc_su, if_pos (show zwd _ = true from decide_eq_true hwd)]
      by_cases h40 : zkwc B s i = 40
      · have hst : i = zhh B s := zhh_stop hi (fun z => by omega)
        have hF : zksF B s = 8 * zps B s i + 2 := by
          unfold zksF
          rw [← hst, if_neg hse, if_neg hne]
        rw [hF, (zFf_2 (show zps B s i ≤ 2000 by omega)).1, (zFf_2 (show zps B s i ≤ 2000 by omega)).2] at hno1
        ((with_reducible refine i_turn (i_cI_ne (i_IA (i_FR (i_A0 ?_))))); (with_reducible refine i_fldR (by assumption) ?_); (with_reducible refine i_F (i_A0 ?_)); (with_reducible refine i_fld (by assumption) ?_); (with_reducible refine i_in (by assumption) (by omega) (by omega) ?_); (with_reducible refine i_I ?_); (rw [g1]); (rw [v1]); (with_reducible refine i_t (by omega) ?_); (with_reducible refine i_Seq (i_If (i_cAnd (i_cAnd (i_cI_eq (i_IA (i_FR (i_A0 ?_)))))))); (with_reducible refine i_fldR (by assumption) ?_); (with_reducible refine i_F (i_A0 ?_)); (with_reducible refine i_fld (by assumption) ?_); (with_reducible refine i_in (by assumption) (by omega) (by omega) ?_); (with_reducible refine i_I ?_); (rw [g1]); (rw [v1]); (with_reducible refine i_t (by omega) ?_); (with_reducible refine i_cZ_gt (i_IA (i_FR (i_A0 ?_)))); (with_reducible refine i_fldR (by assumption) ?_); (with_reducible refine i_F (i_A0 ?_)); (with_reducible refine i_fld (by assumption) ?_); (with_reducible refine i_in (by assumption) (by omega) (by omega) ?_); (rw [g1]); (rw [hwv]); (with_reducible refine i_t (by omega) ?_); (with_reducible refine i_cI_lt (i_IA (i_FR (i_A0 ?_)))); (with_reducible refine i_fldR (by assumption) ?_); (with_reducible refine i_F (i_A0 ?_)); (with_reducible refine i_fld (by assumption) ?_); (with_reducible refine i_in (by assumption) (by omega) (by omega) ?_); (with_reducible refine i_I ?_); (rw [g1]); (rw [hwv]); (with_reducible refine i_t (by omega) ?_); (with_reducible refine i_Seq (i_If (i_cI_eq (i_L1 (i_I ?_))))); (with_reducible refine i_t (by omega) ?_); (with_reducible refine i_RetZ (i_Call (i_as1 (i_A0 (i_as1 (i_I (i_as0 ?_))))))); (with_reducible refine i_recv0 (by assumption) ?_))
        refine m_wrong hO hS g1 (by omega) v2 (fun M2 f2 a1 a2 => ⟨_, rfl, ?_⟩)
        (with_reducible refine i_z (Or.inl rfl) ?_)
        exact hno1 M2 (fun b j q => f2 b j (by omega)) a1 a2 (by omega)
      · ((with_reducible refine i_turn (i_cI_ne (i_IA (i_FR (i_A0 ?_))))); (with_reducible refine i_fldR (by assumption) ?_); (with_reducible refine i_F (i_A0 ?_)); (with_reducible refine i_fld (by assumption) ?_); (with_reducible refine i_in (by assumption) (by omega) (by omega) ?_); (with_reducible refine i_I ?_); (rw [g1]); (rw [v1]); (with_reducible refine i_t (by omega) ?_); (with_reducible refine i_Seq (i_If (i_cAnd (i_cAnd (i_cI_eq (i_IA (i_FR (i_A0 ?_)))))))); (with_reducible refine i_fldR (by assumption) ?_); (with_reducible refine i_F (i_A0 ?_)); (with_reducible refine i_fld (by assumption) ?_); (with_reducible refine i_in (by assumption) (by omega) (by omega) ?_); (with_reducible refine i_I ?_); (rw [g1]); (rw [v1]); (with_reducible refine i_t (by omega) ?_); (with_reducible refine i_cZ_gt (i_IA (i_FR (i_A0 ?_)))); (with_reducible refine i_fldR (by assumption) ?_); (with_reducible refine i_F (i_A0 ?_)); (with_reducible refine i_fld (by assumption) ?_); (with_reducible refine i_in (by assumption) (by omega) (by omega) ?_); (rw [g1]); (rw [hwv]); (with_reducible refine i_t (by omega) ?_); (with_reducible refine i_cI_lt (i_IA (i_FR (i_A0 ?_)))); (with_reducible refine i_fldR (by assumption) ?_); (with_reducible refine i_F (i_A0 ?_)); (with_reducible refine i_fld (by assumption) ?_); (with_reducible refine i_in (by assumption) (by omega) (by omega) ?_); (with_reducible refine i_I ?_); (rw [g1]); (rw [hwv]); (with_reducible refine i_t (by omega) ?_); (with_reducible refine i_Seq (i_If (i_cI_eq (i_L1 (i_I ?_))))); (with_reducible refine i_f (by omega) ?_); (with_reducible refine i_Inc1 (i_IfR (i_cNot (i_cZ_ne (i_Call (i_as1 ?_)))))); rw [zx_inc (by omega)]; simp only [w_set0, w_set1, w_setn0, w_setn1]; (with_reducible refine i_A0 (i_as0 ?_)); (with_reducible refine i_recv0 (by assumption) ?_))
        refine m_goesThrough hO hS hR1 hs2 g1 hi hq hlt (fun _ => by omega) (fun M2 f2 a1 a2 a3 => ⟨_, rfl, ?_⟩) (fun M2 i' f2 a1 a2 a3 a4 a5 => ⟨_, rfl, ?_⟩)
        · ((with_reducible refine i_f (by omega) ?_); (with_reducible refine i_RetZ (i_I ?_)); (with_reducible refine i_z (Or.inl rfl) ?_))
          exact hno1 M2 f2 a1 a2 a3
        · (with_reducible refine i_t (by omega) ?_)
          exact go _ _ (fun _ => ⟨hc.symm, by omega⟩) M2 i' f2 a1 a2 a3 a4 a5 h3
    · have hc : zkwc B s (i + 1) = zkwc B s i := by rw [zkwc_su, if_neg (show ¬ zwd _ = true from fun z => hwd (of_decide_eq_true z)), Nat.add_zero]
      by_cases h33 : zKi B s i = 3
      · ((with_reducible refine i_turn (i_cI_ne (i_IA (i_FR (i_A0 ?_))))); (with_reducible refine i_fldR (by assumption) ?_); (with_reducible refine i_F (i_A0 ?_)); (with_reducible refine i_fld (by assumption) ?_); (with_reducible refine i_in (by assumption) (by omega) (by omega) ?_); (with_reducible refine i_I ?_); (rw [g1]); (rw [v1]); (with_reducible refine i_t (by omega) ?_); (with_reducible refine i_Seq (i_If (i_cAnd (i_cAnd (i_cI_eq (i_IA (i_FR (i_A0 ?_)))))))); (with_reducible refine i_fldR (by assumption) ?_); (with_reducible refine i_F (i_A0 ?_)); (with_reducible refine i_fld (by assumption) ?_); (with_reducible refine i_in (by assumption) (by omega) (by omega) ?_); (with_reducible refine i_I ?_); (rw [g1]); (rw [v1]); (with_reducible refine i_t (by omega) ?_); (with_reducible refine i_cZ_gt (i_IA (i_FR (i_A0 ?_)))); (with_reducible refine i_fldR (by assumption) ?_); (with_reducible refine i_F (i_A0 ?_)); (with_reducible refine i_fld (by assumption) ?_); (with_reducible refine i_in (by assumption) (by omega) (by omega) ?_); (rw [g1]); (rw [hwv]); (with_reducible refine i_f (by omega) ?_); (with_reducible refine i_IfR (i_cNot (i_cZ_ne (i_Call (i_as1 (i_A0 (i_as0 ?_))))))); (with_reducible refine i_recv0 (by assumption) ?_))
        refine m_goesThrough hO hS hR1 hs2 g1 hi hq hlt (fun _ => by omega) (fun M2 f2 a1 a2 a3 => ⟨_, rfl, ?_⟩) (fun M2 i' f2 a1 a2 a3 a4 a5 => ⟨_, rfl, ?_⟩)
        · ((with_reducible refine i_f (by omega) ?_); (with_reducible refine i_RetZ (i_I ?_)); (with_reducible refine i_z (Or.inl rfl) ?_))
          exact hno1 M2 f2 a1 a2 a3
        · (with_reducible refine i_t (by omega) ?_)
          exact go _ _ (fun _ => ⟨hc.symm, by omega⟩) M2 i' f2 a1 a2 a3 a4 a5 h3
      · ((with_reducible refine i_turn (i_cI_ne (i_IA (i_FR (i_A0 ?_))))); (with_reducible refine i_fldR (by assumption) ?_); (with_reducible refine i_F (i_A0 ?_)); (with_reducible refine i_fld (by assumption) ?_); (with_reducible refine i_in (by assumption) (by omega) (by omega) ?_); (with_reducible refine i_I ?_); (rw [g1]); (rw [v1]); (with_reducible refine i_t (by omega) ?_); (with_reducible refine i_Seq (i_If (i_cAnd (i_cAnd (i_cI_eq (i_IA (i_FR (i_A0 ?_)))))))); (with_reducible refine i_fldR (by assumption) ?_); (with_reducible refine i_F (i_A0 ?_)); (with_reducible refine i_fld (by assumption) ?_); (with_reducible refine i_in (by assumption) (by omega) (by omega) ?_); (with_reducible refine i_I ?_); (rw [g1]); (rw [v1]); (with_reducible refine i_t (by omega) ?_); (with_reducible refine i_cZ_gt (i_IA (i_FR (i_A0 ?_)))); (with_reducible refine i_fldR (by assumption) ?_); (with_reducible refine i_F (i_A0 ?_)); (with_reducible refine i_fld (by assumption) ?_); (with_reducible refine i_in (by assumption) (by omega) (by omega) ?_); (rw [g1]); (rw [hwv]); (with_reducible refine i_t (by omega) ?_); (with_reducible refine i_cI_lt (i_IA (i_FR (i_A0 ?_)))); (with_reducible refine i_fldR (by assumption) ?_); (with_reducible refine i_F (i_A0 ?_)); (with_reducible refine i_fld (by assumption) ?_); (with_reducible refine i_in (by assumption) (by omega) (by omega) ?_); (with_reducible refine i_I ?_); (rw [g1]); (rw [hwv]); (with_reducible refine i_f (by omega) ?_); (with_reducible refine i_IfR (i_cNot (i_cZ_ne (i_Call (i_as1 (i_A0 (i_as0 ?_))))))); (with_reducible refine i_recv0 (by assumption) ?_))
        refine m_goesThrough hO hS hR1 hs2 g1 hi hq hlt (fun _ => by omega) (fun M2 f2 a1 a2 a3 => ⟨_, rfl, ?_⟩) (fun M2 i' f2 a1 a2 a3 a4 a5 => ⟨_, rfl, ?_⟩)
        · ((with_reducible refine i_f (by omega) ?_); (with_reducible refine i_RetZ (i_I ?_)); (with_reducible refine i_z (Or.inl rfl) ?_))
          exact hno1 M2 f2 a1 a2 a3
        · (with_reducible refine i_t (by omega) ?_)
          exact go _ _ (fun _ => ⟨hc.symm, by omega⟩) M2 i' f2 a1 a2 a3 a4 a5 h3
  · have hc : zkwc B s (i + 1) = zkwc B s i := zkwc_x h3
    ((with_reducible refine i_turn (i_cI_ne (i_IA (i_FR (i_A0 ?_))))); (with_reducible refine i_fldR (by assumption) ?_); (with_reducible refine i_F (i_A0 ?_)); (with_reducible refine i_fld (by assumption) ?_); (with_reducible refine i_in (by assumption) (by omega) (by omega) ?_); (with_reducible refine i_I ?_); (rw [g1]); (rw [v1]); (with_reducible refine i_t (by omega) ?_); (with_reducible refine i_Seq (i_If (i_cAnd (i_cAnd (i_cI_eq (i_IA (i_FR (i_A0 ?_)))))))); (with_reducible refine i_fldR (by assumption) ?_); (with_reducible refine i_F (i_A0 ?_)); (with_reducible refine i_fld (by assumption) ?_); (with_reducible refine i_in (by assumption) (by omega) (by omega) ?_); (with_reducible refine i_I ?_); (rw [g1]); (rw [v1]); (with_reducible refine i_f (by omega) ?_); (with_reducible refine i_IfR (i_cNot (i_cZ_ne (i_Call (i_as1 (i_A0 (i_as0 ?_))))))); (with_reducible refine i_recv0 (by assumption) ?_))
    refine m_goesThrough hO hS hR1 hs2 g1 hi hq hlt (fun z => absurd z h3) (fun M2 f2 a1 a2 a3 => ⟨_, rfl, ?_⟩) (fun M2 i' f2 a1 a2 a3 a4 a5 => ⟨_, rfl, ?_⟩)
    · ((with_reducible refine i_f (by omega) ?_); (with_reducible refine i_RetZ (i_I ?_)); (with_reducible refine i_z (Or.inl rfl) ?_))
      exact hno1 M2 f2 a1 a2 a3
    · exfalso
      have h10 := ((zhh_ok B s).2.1 i (by omega)).2.1
      apply h10
      show zsp (zqs B s i) (zKi B s i) = 10
      rw [hq]
      exact ((by decide : ∀ k, k < 11 → (zsp 0 k = 10 ↔ zksS k ≠ 3)) _ (by omega)).mpr h3
