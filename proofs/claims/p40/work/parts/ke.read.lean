/-! ===== read: both sides ===== -/
theorem zksF_k {B : Nat → Nat} {s : Nat} (hs : s ≤ 2000) : uFk (zksF B s) := by
  have h := zps_le B s (zhh B s)
  unfold uFk zksF
  by_cases e1 : zps B s (zhh B s) = s
  · rw [if_pos e1]
    by_cases e2 : zqs B s (zhh B s) = 0
    · rw [if_pos e2]; exact Or.inl rfl
    · rw [if_neg e2]; exact Or.inr ⟨by omega, by omega⟩
  · rw [if_neg e1]
    by_cases e2 : zqs B s (zhh B s + 1) = 10
    · rw [if_pos e2]; exact Or.inr ⟨by omega, by omega⟩
    · rw [if_neg e2]; exact Or.inr ⟨by omega, by omega⟩
theorem uFin_k {B : Nat → Nat} {s n i : Nat} {Z : zZt} (hs : s ≤ 2000) (hA : uAll B s n Z i) : uFk (uFin s n Z) := by
  have hPs : ∀ k, k < ut Z → (up Z k).2.2.2 ≤ s := fun k hk => by
    obtain ⟨-, -, -, j, -, e2, -⟩ := hA.2.1 k hk
    rw [e2]
    exact zps_le B s _
  have hG := uG1_k hs hA.1.2.2.1 hPs (ut Z) (Nat.le_refl _)
  unfold uFin
  split
  · exact uFk_min hG hs (by decide) (by decide)
  · exact hG
theorem zFf_0 {F : Nat} (h : uFk F) : zFf F = 0 ↔ F = 99999 := by
  unfold uFk at h
  unfold zFf
  split <;> omega
/-- the fault of a text, and whether it is one -/
def uRF (B : Nat → Nat) (s n : Nat) : Nat := if zksF B s = 99999 then uFin s n (uZT B s n) else zksF B s
theorem uFin_0 {s n : Nat} {Z : zZt} (u2 : uFk (uF Z)) (e : uFin s n Z = 99999) : uF Z = 99999 := by
  have u1 : uG1 Z (ut Z) ≤ uG1 Z 0 := uG1_mono (Nat.zero_le _)
  have u0 : uG1 Z 0 = uF Z := rfl
  have u3 : uFin s n Z ≤ uG1 Z (ut Z) := by
    unfold uFin
    split
    · exact Nat.min_le_left _ _
    · exact Nat.le_refl _
  unfold uFk at u2
  omega
theorem rZ_tup {M : zMem} {Z : zZt} {F : Nat} (z : rZt M (Z.1, Z.2.1, Z.2.2.1, F)) : rZb M Z ∧ rZo M Z ∧ rZw M Z ∧ rZp M Z := ⟨z.1.to (fun _ _ _ => rfl) rfl, z.2.1.to (fun _ _ _ => rfl) rfl, z.2.2.1.to (fun _ _ _ => rfl) rfl, z.2.2.2.1.to (fun _ _ _ => rfl) rfl⟩
theorem cZ_tup {M : zMem} {n F : Nat} {Z : zZt} (z2 : cZt M n (Z.1, Z.2.1, Z.2.2.1, F)) (h : cZf M (uF Z)) : cZt M n Z := ⟨z2.1.to (fun _ _ _ => rfl) (usd_e rfl rfl) (upr_e rfl), z2.2.1.to (fun _ _ _ => rfl) rfl, z2.2.2.1.to (fun _ _ _ => rfl) rfl, z2.2.2.2.1.to (fun _ _ _ => rfl) rfl (fun _ _ => uM_e rfl _), h⟩
theorem cZt.all {M M' : zMem} {n : Nat} {Z : zZt} (hZ : cZt M n Z) (f : ∀ b j, ((92 : Nat) : Int) ≤ b ∧ b ≤ ((104 : Nat) : Int) → M' b j = M b j) : cZt M' n Z := ⟨hZ.1.to (fun b j q => f b j (by omega)) (fun _ _ => rfl) (fun _ _ => rfl), hZ.2.1.to (fun b j q => f b j (by omega)) rfl, hZ.2.2.1.to (fun b j q => f b j (by omega)) rfl, hZ.2.2.2.1.to (fun b j q => f b j (by omega)) rfl (fun _ _ => rfl), ⟨by rw [f _ _ (by omega)]; exact hZ.2.2.2.2.1, by rw [f _ _ (by omega)]; exact hZ.2.2.2.2.2⟩⟩
theorem m_read_bad {O : zOm} (hO : zWld O) (hS : zS O = zmS zC0) {M : zMem} {K : Option zV → zMem → Prop} (hT : M 250 ((11 : Nat) : Int) = 5) (hk : K (some (0, -2)) M) : zR O F_Model_read [(2, 250)] M K := by
  apply r_Model_read hO
  unfold B_Model_read
  have f11 := zMF (k := 11) hS rfl; have f66 := zMF (k := 66) hS rfl; have f40 := zMF (k := 40) hS rfl; have f33 := zMF (k := 33) hS rfl; have zo := zMO hS
  ((with_reducible refine i_Seq (i_If (i_cI_eq (i_F (i_A0 ?_))))); (with_reducible refine i_fld (by assumption) ?_); (with_reducible refine i_I ?_); (rw [hT]); simp only [w_set0, w_set1, w_setn0, w_setn1]; (with_reducible refine i_t trivial ?_); (with_reducible refine i_RetI (i_I ?_)))
  exact hk
set_option maxHeartbeats 1600000 in
theorem m_read {O : zOm} (hO : zWld O) (hS : zS O = zmS zC0) {T s n : Nat} {B : Nat → Nat} {M : zMem} {K : Option zV → zMem → Prop} (hT : M 250 ((11 : Nat) : Int) = ((T : Nat) : Int)) (hT5 : T < 5) (hn : M 250 ((1 : Nat) : Int) = ((n : Nat) : Int)) (hn16 : n ≤ 16) (hP : rTp M s B)
    (hk : ∀ M', (∀ b j, ¬ (b = 250 ∧ (j = 11 ∨ j = 33 ∨ j = 35 ∨ j = 40 ∨ j = 66 ∨ j = 67 ∨ j = 68 ∨ j = 73 ∨ j = 77) ∨ ((279 : Nat) : Int) ≤ b ∧ b ≤ ((282 : Nat) : Int) ∨ ((299 : Nat) : Int) ≤ b ∧ b ≤ ((310 : Nat) : Int) ∨ (b = 258 ∧ j = ((T : Nat) : Int) ∨ (b = 259 ∨ b = 260 ∨ b = 262 ∨ b = 263) ∧ ((16 * T : Nat) : Int) ≤ j ∧ j < ((16 * T + 16 : Nat) : Int) ∨ (b = 261 ∨ b = 264 ∨ b = 265 ∨ b = 266) ∧ ((256 * T : Nat) : Int) ≤ j ∧ j < ((256 * T + 256 : Nat) : Int)) ∨ b = 271) → M' b j = M b j) → M' 250 ((33 : Nat) : Int) = 0 → M' 250 ((40 : Nat) : Int) = zFq (uRF B s n) → (uRF B s n = 99999 → M' 250 ((11 : Nat) : Int) = ((T + 1 : Nat) : Int) ∧ rTe M' T n (uTl n (uZT B s n)) ∧ uGood n (uZT B s n)) → (uRF B s n ≠ 99999 → M' 250 ((11 : Nat) : Int) = ((T : Nat) : Int)) → K (some (0, ((zFf (uRF B s n) : Nat) : Int))) M') : zR O F_Model_read [(2, 250)] M K := by
  have t2 := hP.2.1
  apply r_Model_read hO
  unfold B_Model_read
  have f11 := zMF (k := 11) hS rfl; have f66 := zMF (k := 66) hS rfl; have f40 := zMF (k := 40) hS rfl; have f33 := zMF (k := 33) hS rfl; have zo := zMO hS
  ((with_reducible refine i_Seq (i_If (i_cI_eq (i_F (i_A0 ?_))))); (with_reducible refine i_fld (by assumption) ?_); (with_reducible refine i_I ?_); (rw [hT]); (with_reducible refine i_f (by omega) ?_); (with_reducible refine i_Seq (i_sF (i_A0 (i_I ?_)))); (with_reducible refine i_fld (by assumption) ?_); (with_reducible refine i_Seq (i_sF (i_A0 (i_I ?_)))); (with_reducible refine i_fld (by assumption) ?_); (with_reducible refine i_Seq (i_sCall (i_as1 (i_A0 (i_as0 ?_))))); (with_reducible refine i_recv0 (by assumption) ?_))
  refine m_scanAll hO hS (s := s) (B := B) (hP.to (fun b j q => by rw [zg_o _ _ (by omega), zg_o _ _ (by omega)])) (fun M1 f1 r1 => ⟨rfl, ?_⟩)
  have g66 : M1 250 ((66 : Nat) : Int) = 0 := by rw [f1 _ _ (by omega), zg_o _ _ (by omega)]; exact zg_s _ _ _ _ _
  have g40 : M1 250 ((40 : Nat) : Int) = -1 := by rw [f1 _ _ (by omega)]; exact zg_s _ _ _ _ _
  have k1 : ∀ b j, ¬ (b = 250 ∧ (j = 35 ∨ j = 40 ∨ j = 66) ∨ ((279 : Nat) : Int) ≤ b ∧ b ≤ ((282 : Nat) : Int) ∨ b = ((299 : Nat) : Int)) → M1 b j = M b j := fun b j q => by rw [f1 b j (by omega), zg_o _ _ (by omega), zg_o _ _ (by omega)]
  clear f1
  ((with_reducible refine i_Seq (i_If (i_cZ_ne (i_Call (i_as1 (i_A0 (i_as0 ?_))))))); (with_reducible refine i_recv0 (by assumption) ?_))
  refine m_parses hO hS r1 t2 g66 (fun M2 f2 a2 b2 c2 => ⟨_, rfl, ?_⟩) (fun M2 f2 c2 => ⟨_, rfl, ?_⟩)
  · have hRF : uRF B s n = zksF B s := if_neg c2
    have hF0 : zFf (zksF B s) ≠ 0 := fun z => c2 ((zFf_0 (zksF_k t2)).mp z)
    rw [hRF] at hk
    have t11 : M2 250 ((11 : Nat) : Int) = ((T : Nat) : Int) := by rw [f2 _ _ (by omega), k1 _ _ (by omega)]; exact hT
    have a2' : M2 250 ((66 : Nat) : Int) = ((zFf (zksF B s) : Nat) : Int) := a2
    have hk2 : ∀ M' : zMem, (∀ b j, ¬ (b = 250 ∧ j = 33) → M' b j = M2 b j) → M' 250 ((33 : Nat) : Int) = 0 → K (some (0, ((zFf (zksF B s) : Nat) : Int))) M' := fun M' f g => hk M' (fun b j q => by rw [f b j (by omega), f2 b j (by omega), k1 b j (by omega)]) g (by rw [f _ _ (by omega)]; exact b2) (fun z => absurd z c2) (fun _ => by rw [f _ _ (by omega)]; exact t11)
    clear hk
    generalize zFf (zksF B s) = f at *
    ((with_reducible refine i_f (by omega) ?_); (with_reducible refine i_Seq (i_If (i_cZ_eq (i_F (i_A0 ?_))))); (with_reducible refine i_fld (by assumption) ?_); (rw [a2']); (with_reducible refine i_f (by omega) ?_); (with_reducible refine i_Seq (i_sF (i_A0 (i_I ?_)))); (with_reducible refine i_fld (by assumption) ?_); (with_reducible refine i_RetI (i_F (i_A0 ?_))); (with_reducible refine i_fld (by assumption) ?_); rw [zg_m _ _ _ _ _ (by omega)]; (rw [a2']))
    exact hk2 _ (fun b j q => by rw [zg_o _ _ (by omega)]) (zg_s _ _ _ _ _)
  · have hRF : uRF B s n = uFin s n (uZT B s n) := if_pos c2
    rw [hRF] at hk
    have n2 : M2 250 ((1 : Nat) : Int) = ((n : Nat) : Int) := by rw [f2 _ _ (by omega), k1 _ _ (by omega)]; exact hn
    have t2s : M2 250 ((33 : Nat) : Int) = ((s : Nat) : Int) := by rw [f2 _ _ (by omega), k1 _ _ (by omega)]; exact hP.1
    have g662 : M2 250 ((66 : Nat) : Int) = 0 := by rw [f2 _ _ (by omega)]; exact g66
    have g402 : M2 250 ((40 : Nat) : Int) = -1 := by rw [f2 _ _ (by omega)]; exact g40
    ((with_reducible refine i_t (by omega) ?_); (with_reducible refine i_sCall (i_as1 (i_A0 (i_as0 ?_)))); (with_reducible refine i_recv0 (by assumption) ?_))
    refine m_tellAll hO hS t2 hn16 c2 (r1.to (fun b j q => f2 b j (by omega))) n2 t2s g662 g402 (fun M3 f3 hA z3 => ⟨rfl, ?_⟩)
    have hFk := uFin_k t2 hA
    have F3 : M3 250 ((66 : Nat) : Int) = ((zFf (uFin s n (uZT B s n)) : Nat) : Int) := z3.2.2.2.2.1
    have P3 : M3 250 ((40 : Nat) : Int) = zFq (uFin s n (uZT B s n)) := z3.2.2.2.2.2
    have t11 : M3 250 ((11 : Nat) : Int) = ((T : Nat) : Int) := by rw [f3 _ _ (by omega), f2 _ _ (by omega), k1 _ _ (by omega)]; exact hT
    have n3 : M3 250 ((1 : Nat) : Int) = ((n : Nat) : Int) := by rw [f3 _ _ (by omega)]; exact n2
    have hf := zFf_0 hFk
    by_cases e : uFin s n (uZT B s n) = 99999
    · have hG := uGood_of t2 hA e
      have F3' : M3 250 ((66 : Nat) : Int) = 0 := by rw [F3, e]; rfl
      rw [e] at hk P3
      ((with_reducible refine i_Seq (i_If (i_cZ_eq (i_F (i_A0 ?_))))); (with_reducible refine i_fld (by assumption) ?_); (rw [F3']); simp only [w_set0, w_set1, w_setn0, w_setn1]; (with_reducible refine i_t trivial ?_); (with_reducible refine i_Seq (i_sCall (i_as1 (i_A0 (i_as1 (i_F (i_A0 ?_))))))); (with_reducible refine i_fld (by assumption) ?_); (with_reducible refine i_as0 ?_); (with_reducible refine i_recv0 (by assumption) ?_); (rw [t11]))
      obtain ⟨zb3, zo3, zw3, zp3⟩ := rZ_tup (Z := uZT B s n) (F := uFin s n (uZT B s n)) z3
      refine m_build hO hS hT5 n3 hn16 hG zb3 zo3 zw3 zp3 (fun M4 f4 A4 => ⟨rfl, ?_⟩)
      have t4 : M4 250 ((11 : Nat) : Int) = ((T : Nat) : Int) := by rw [f4 _ _ (by omega)]; exact t11
      have F4 : M4 250 ((66 : Nat) : Int) = 0 := by rw [f4 _ _ (by omega)]; exact F3'
      ((with_reducible refine i_FO (i_A0 ?_)); (with_reducible refine i_fld (by assumption) ?_); (with_reducible refine i_I ?_); (with_reducible refine i_fld (by assumption) ?_); (with_reducible refine i_Seq (i_sF (i_A0 (i_I ?_)))); (with_reducible refine i_fld (by assumption) ?_); (with_reducible refine i_RetI (i_F (i_A0 ?_))); (with_reducible refine i_fld (by assumption) ?_); rw [zg_m _ _ _ _ _ (by omega)]; rw [zg_m _ _ _ _ _ (by omega)]; (rw [t4]); (rw [F4]); rw [zx_inc (by omega)])
      refine hk _ (fun b j q => by rw [zg_o _ _ (by omega), zg_o _ _ (by omega), f4 b j (by omega), f3 b j (by omega), f2 b j (by omega), k1 b j (by omega)]) (zg_s _ _ _ _ _) (by rw [zg_o _ _ (by omega), zg_o _ _ (by omega), f4 _ _ (by omega)]; exact P3) (fun _ => ⟨by rw [zg_o _ _ (by omega)]; exact zg_s _ _ _ _ _, A4.to hn16 (uTl_w hn16 hG) (fun b j q => by rw [zg_o _ _ (by omega), zg_o _ _ (by omega)]), hG⟩) (fun z => absurd rfl z)
    · have hF0 : zFf (uFin s n (uZT B s n)) ≠ 0 := fun z => e (hf.mp z)
      have hk2 : ∀ M' : zMem, (∀ b j, ¬ (b = 250 ∧ j = 33) → M' b j = M3 b j) → M' 250 ((33 : Nat) : Int) = 0 → K (some (0, ((zFf (uFin s n (uZT B s n)) : Nat) : Int))) M' := fun M' f g => hk M' (fun b j q => by rw [f b j (by omega), f3 b j (by omega), f2 b j (by omega), k1 b j (by omega)]) g (by rw [f _ _ (by omega)]; exact P3) (fun z => absurd z e) (fun _ => by rw [f _ _ (by omega)]; exact t11)
      clear hk hf
      generalize zFf (uFin s n (uZT B s n)) = f at *
      ((with_reducible refine i_Seq (i_If (i_cZ_eq (i_F (i_A0 ?_))))); (with_reducible refine i_fld (by assumption) ?_); (rw [F3]); (with_reducible refine i_f (by omega) ?_); (with_reducible refine i_Seq (i_sF (i_A0 (i_I ?_)))); (with_reducible refine i_fld (by assumption) ?_); (with_reducible refine i_RetI (i_F (i_A0 ?_))); (with_reducible refine i_fld (by assumption) ?_); rw [zg_m _ _ _ _ _ (by omega)]; (rw [F3]))
      exact hk2 _ (fun b j q => by rw [zg_o _ _ (by omega)]) (zg_s _ _ _ _ _)
theorem c_read_bad {O : zOm} (hO : zWld O) (hS : zS O = zmS zC0) {M : zMem} {K : Option zV → zMem → Prop} (hT : M ((0 : Nat) : Int) ((4 : Nat) : Int) = 5) (hk : K (some (0, -2)) M) : zR O F_ToldNet_read [(2, ((0 : Nat) : Int))] M K := by
  apply r_ToldNet_read hO
  unfold B_ToldNet_read
  have f0_4 := zf_0_4 hS; have f0_1 := zf_0_1 hS; have f86_7 := zf_86_7 hS; have f86_8 := zf_86_8 hS; have f0_5 := zf_0_5 hS; have f0_2 := zf_0_2 hS; have f0_0 := zf_0_0 hS; have f1_2 := zf_1_2 hS; have f92_14 := zf_92_14 hS; have f92_15 := zf_92_15 hS; have f86_5 := zf_86_5 hS; have f0_3 := zf_0_3 hS; have z0 := zo_0 hS; have z1 := zo_1 hS; have z86 := zo_86 hS; have z92 := zo_92 hS
  ((with_reducible refine i_Seq (i_If (i_cI_ge (i_F (i_A0 ?_))))); (with_reducible refine i_fld (by assumption) ?_); (with_reducible refine i_I ?_); (rw [hT]); (with_reducible refine i_t (by omega) ?_); (with_reducible refine i_RetI (i_I ?_)))
  exact hk
set_option maxHeartbeats 1600000 in
theorem c_read {O : zOm} (hO : zWld O) (hS : zS O = zmS zC0) {T s n : Nat} {B : Nat → Nat} {M : zMem} {K : Option zV → zMem → Prop} (hT : M ((0 : Nat) : Int) ((4 : Nat) : Int) = ((T : Nat) : Int)) (hT5 : T < 5) (hP : M ((1 : Nat) : Int) ((2 : Nat) : Int) = ((n : Nat) : Int)) (hn1 : 0 < n) (hn16 : n ≤ 16) (hTp : cTp M s B) (hQ : cQt M)
    (hk : ∀ M', (∀ b j, ¬ (b = ((0 : Nat) : Int) ∧ (j = 4 ∨ j = 5) ∨ b = ((86 : Nat) : Int) ∧ 5 ≤ j ∧ j ≤ 8 ∨ ((88 : Nat) : Int) ≤ b ∧ b ≤ ((90 : Nat) : Int) ∨ ((92 : Nat) : Int) ≤ b ∧ b ≤ ((104 : Nat) : Int) ∨ ((185 + 13 * T : Nat) : Int) ≤ b ∧ b ≤ ((197 + 13 * T : Nat) : Int)) → M' b j = M b j) → M' ((86 : Nat) : Int) ((5 : Nat) : Int) = 0 → (uRF B s n = 99999 → M' ((0 : Nat) : Int) ((4 : Nat) : Int) = ((T + 1 : Nat) : Int) ∧ zTR M' (185 + 13 * T) n (uTl n (uZT B s n)) ∧ uGood n (uZT B s n)) → (uRF B s n ≠ 99999 → M' ((0 : Nat) : Int) ((4 : Nat) : Int) = ((T : Nat) : Int)) → ∀ r, K (some (0, r)) M') : zR O F_ToldNet_read [(2, ((0 : Nat) : Int))] M K := by
  have t2 := hTp.2.1
  have hx := zTelT hS hT5
  have hx0 := hx.1.1
  have o1 := zo_1 hS
  have o86 := zo_86 hS
  have o92 := zo_92 hS
  have hta := fun (M : zMem) => zPr_tel (S := zS O) (M := M) hS hT5
  apply r_ToldNet_read hO
  unfold B_ToldNet_read
  have f0_4 := zf_0_4 hS; have f0_1 := zf_0_1 hS; have f86_7 := zf_86_7 hS; have f86_8 := zf_86_8 hS; have f0_5 := zf_0_5 hS; have f0_2 := zf_0_2 hS; have f0_0 := zf_0_0 hS; have f1_2 := zf_1_2 hS; have f92_14 := zf_92_14 hS; have f92_15 := zf_92_15 hS; have f86_5 := zf_86_5 hS; have f0_3 := zf_0_3 hS; have z0 := zo_0 hS; have z1 := zo_1 hS; have z86 := zo_86 hS; have z92 := zo_92 hS
  ((with_reducible refine i_Seq (i_If (i_cI_ge (i_F (i_A0 ?_))))); (with_reducible refine i_fld (by assumption) ?_); (with_reducible refine i_I ?_); (rw [hT]); (with_reducible refine i_f (by omega) ?_); (with_reducible refine i_Seq (i_sCall (i_as1 (i_FR (i_A0 ?_))))); (with_reducible refine i_fldR (by assumption) ?_); (with_reducible refine i_as0 ?_); (with_reducible refine i_recv0 (by assumption) ?_))
  refine c_scan hO hS hTp hQ (fun M1 f1 a1 b1 c1 d1 => ⟨rfl, ?_⟩)
  have t11 : M1 ((0 : Nat) : Int) ((4 : Nat) : Int) = ((T : Nat) : Int) := by rw [f1 _ _ (by omega)]; exact hT
  have s1 : M1 ((86 : Nat) : Int) ((5 : Nat) : Int) = ((s : Nat) : Int) := by rw [f1 _ _ (by omega)]; exact hTp.1
  have n1 : M1 ((1 : Nat) : Int) ((2 : Nat) : Int) = ((n : Nat) : Int) := by rw [f1 _ _ (by omega)]; exact hP
  by_cases c2 : zksF B s = 99999
  · have hRF : uRF B s n = uFin s n (uZT B s n) := if_pos c2
    rw [hRF] at hk
    have b1' : M1 ((86 : Nat) : Int) ((7 : Nat) : Int) = 0 := by rw [b1, c2]; rfl
    have hTa : cTa M1 B s := ⟨a1, s1, d1⟩
    ((with_reducible refine i_Seq (i_Set (i_F (i_FR (i_A0 ?_))))); (with_reducible refine i_fldR (by assumption) ?_); (with_reducible refine i_fld (by assumption) ?_); (with_reducible refine i_Seq (i_sF ?_)); (rw [b1']); simp only [w_set0, w_set1, w_setn0, w_setn1]; (with_reducible refine i_A0 (i_F (i_FR (i_A0 ?_)))); (with_reducible refine i_fldR (by assumption) ?_); (with_reducible refine i_fld (by assumption) ?_); (with_reducible refine i_fld (by assumption) ?_); (with_reducible refine i_Seq (i_If (i_cZ_eq (i_L1 ?_)))); (rw [c1]); simp only [w_set0, w_set1, w_setn0, w_setn1]; (with_reducible refine i_t trivial ?_); (with_reducible refine i_Seq (i_sCall (i_as1 (i_FR (i_A0 ?_))))); (with_reducible refine i_fldR (by assumption) ?_); (with_reducible refine i_as1 (i_FR (i_A0 ?_))); (with_reducible refine i_fldR (by assumption) ?_); (with_reducible refine i_as1 (i_F (i_FR (i_A0 ?_)))); (with_reducible refine i_fldR (by assumption) ?_); (with_reducible refine i_fld (by assumption) ?_); (with_reducible refine i_as0 ?_); (with_reducible refine i_recv0 (by assumption) ?_); rw [zg_n _ _ _ (by omega)]; (rw [n1]))
    refine c_understand hO hS t2 hn1 hn16 c2 (hTa.to (fun b j q => by rw [zg_o _ _ (by omega)])) (fun M2 f2 hA z2 => ⟨rfl, ?_⟩)
    have f02 : ∀ b j, ¬ (b = ((0 : Nat) : Int) ∧ j = 5 ∨ ((92 : Nat) : Int) ≤ b ∧ b ≤ ((104 : Nat) : Int)) → M2 b j = M1 b j := fun b j q => by rw [f2 b j (by omega), zg_o _ _ (by omega)]
    clear f2
    have hFk := uFin_k t2 hA
    have hf := zFf_0 hFk
    have t12 : M2 ((0 : Nat) : Int) ((4 : Nat) : Int) = ((T : Nat) : Int) := by rw [f02 _ _ (by omega)]; exact t11
    by_cases e : uFin s n (uZT B s n) = 99999
    · have hG := uGood_of t2 hA e
      have z2 := z2.elim id (fun z => absurd e z.1)
      have F2 : M2 ((92 : Nat) : Int) ((14 : Nat) : Int) = ((zFf (uFin s n (uZT B s n)) : Nat) : Int) := z2.2.2.2.2.1
      have P2 : M2 ((92 : Nat) : Int) ((15 : Nat) : Int) = zFq (uFin s n (uZT B s n)) := z2.2.2.2.2.2
      have F2' : M2 ((92 : Nat) : Int) ((14 : Nat) : Int) = 0 := by rw [F2, e]; rfl
      rw [e] at hk P2
      have h0 : uF (uZT B s n) = 99999 := uFin_0 hA.1.2.2.1 e
      have hZ : cZt M2 n (uZT B s n) := cZ_tup (Z := uZT B s n) (F := uFin s n (uZT B s n)) z2 (by rw [h0]; exact ⟨by rw [F2, e], P2⟩)
      have hZ2 : ∀ M' : zMem, (∀ b j, ((92 : Nat) : Int) ≤ b ∧ b ≤ ((104 : Nat) : Int) → M' b j = M2 b j) → cZt M' n (uZT B s n) := fun M' f => hZ.all f
      · ((with_reducible refine i_Seq (i_Set (i_F (i_FR (i_A0 ?_))))); (with_reducible refine i_fldR (by assumption) ?_); (with_reducible refine i_fld (by assumption) ?_); (with_reducible refine i_sF ?_); (rw [F2']); simp only [w_set0, w_set1, w_setn0, w_setn1]; (with_reducible refine i_A0 (i_F (i_FR (i_A0 ?_)))); (with_reducible refine i_fldR (by assumption) ?_); (with_reducible refine i_fld (by assumption) ?_); (with_reducible refine i_fld (by assumption) ?_); (with_reducible refine i_Seq (i_sF (i_FR (i_A0 ?_)))); (with_reducible refine i_fldR (by assumption) ?_); (with_reducible refine i_I ?_); (with_reducible refine i_fld (by assumption) ?_); (with_reducible refine i_Seq (i_If (i_cZ_eq (i_L1 ?_)))); (rw [P2]); simp only [w_set0, w_set1, w_setn0, w_setn1]; (with_reducible refine i_t trivial ?_); (with_reducible refine i_Seq (i_sCall (i_as1 (i_FR (i_A0 ?_))))); (with_reducible refine i_fldR (by assumption) ?_); (with_reducible refine i_as1 (i_RA (i_FR (i_A0 ?_)))); (with_reducible refine i_fldR (by assumption) ?_); (with_reducible refine i_F (i_A0 ?_)); (with_reducible refine i_fld (by assumption) ?_); rw [zg_n _ _ _ (by omega)]; rw [zg_m _ _ _ _ _ (by omega)]; (rw [t12]); (refine i_ra (hta _) ?_); (with_reducible refine i_as0 ?_); (with_reducible refine i_recv0 (by assumption) ?_))
        refine c_write hO hS hx (by omega) hn16 hG (hZ2 _ (fun b j q => by rw [zg_o _ _ (by omega), zg_o _ _ (by omega)])) (fun M3 f3 A3 => ⟨rfl, ?_⟩)
        have t13 : M3 ((0 : Nat) : Int) ((4 : Nat) : Int) = ((T : Nat) : Int) := by rw [f3 _ _ (by omega), zg_o _ _ (by omega), zg_o _ _ (by omega)]; exact t12
        ((with_reducible refine i_FO (i_A0 ?_)); (with_reducible refine i_fld (by assumption) ?_); (with_reducible refine i_I ?_); (with_reducible refine i_fld (by assumption) ?_); (with_reducible refine i_RetI (i_L1 ?_)); (rw [t13]); rw [zx_inc (by omega)])
        refine hk _ (fun b j q => by rw [zg_o _ _ (by omega), f3 b j (by omega), zg_o _ _ (by omega), zg_o _ _ (by omega), f02 b j (by omega), f1 b j (by omega)]) (by rw [zg_o _ _ (by omega), f3 _ _ (by omega)]; exact zg_s _ _ _ _ _) (fun _ => ⟨zg_s _ _ _ _ _, A3.to (fun b j a1 a2 => by rw [zg_o _ _ (by omega)]), hG⟩) (fun z => absurd rfl z) _
    · have hne : M2 ((92 : Nat) : Int) ((14 : Nat) : Int) ≠ 0 := by
        rcases z2 with z2 | ⟨-, z2⟩
        · have F2 : M2 ((92 : Nat) : Int) ((14 : Nat) : Int) = ((zFf (uFin s n (uZT B s n)) : Nat) : Int) := z2.2.2.2.2.1
          rw [F2]
          have hF0 : zFf (uFin s n (uZT B s n)) ≠ 0 := fun z => e (hf.mp z)
          omega
        · exact z2
      have hk2 : ∀ M' : zMem, (∀ b j, ¬ (b = ((0 : Nat) : Int) ∧ j = 5 ∨ b = ((86 : Nat) : Int) ∧ j = 5) → M' b j = M2 b j) → M' ((86 : Nat) : Int) ((5 : Nat) : Int) = 0 → ∀ r, K (some (0, r)) M' := fun M' f g => hk M' (fun b j q => by rw [f b j (by omega), f02 b j (by omega), f1 b j (by omega)]) g (fun z => absurd z e) (fun _ => by rw [f _ _ (by omega)]; exact t12)
      clear hk hf
      generalize hF : M2 ((92 : Nat) : Int) ((14 : Nat) : Int) = F at *
      generalize hP : M2 ((92 : Nat) : Int) ((15 : Nat) : Int) = P at *
      ((with_reducible refine i_Seq (i_Set (i_F (i_FR (i_A0 ?_))))); (with_reducible refine i_fldR (by assumption) ?_); (with_reducible refine i_fld (by assumption) ?_); (with_reducible refine i_sF ?_); (rw [hF]); simp only [w_set0, w_set1, w_setn0, w_setn1]; (with_reducible refine i_A0 (i_F (i_FR (i_A0 ?_)))); (with_reducible refine i_fldR (by assumption) ?_); (with_reducible refine i_fld (by assumption) ?_); (with_reducible refine i_fld (by assumption) ?_); (with_reducible refine i_Seq (i_sF (i_FR (i_A0 ?_)))); (with_reducible refine i_fldR (by assumption) ?_); (with_reducible refine i_I ?_); (with_reducible refine i_fld (by assumption) ?_); (with_reducible refine i_Seq (i_If (i_cZ_eq (i_L1 ?_)))); (rw [hP]); (with_reducible refine i_f (by omega) ?_); (with_reducible refine i_RetI (i_L1 ?_)))
      exact hk2 _ (fun b j q => by rw [zg_o _ _ (by omega), zg_o _ _ (by omega)]) (zg_s _ _ _ _ _) _
  · have hRF : uRF B s n = zksF B s := if_neg c2
    have hF0 : zFf (zksF B s) ≠ 0 := fun z => c2 ((zFf_0 (zksF_k t2)).mp z)
    rw [hRF] at hk
    have hk2 : ∀ M' : zMem, (∀ b j, ¬ (b = ((0 : Nat) : Int) ∧ j = 5 ∨ b = ((86 : Nat) : Int) ∧ j = 5) → M' b j = M1 b j) → M' ((86 : Nat) : Int) ((5 : Nat) : Int) = 0 → K (some (0, ((zFf (zksF B s) : Nat) : Int))) M' := fun M' f g => hk M' (fun b j q => by rw [f b j (by omega), f1 b j (by omega)]) g (fun z => absurd z c2) (fun _ => by rw [f _ _ (by omega)]; exact t11) _
    clear hk
    generalize zFf (zksF B s) = f at *
    ((with_reducible refine i_Seq (i_Set (i_F (i_FR (i_A0 ?_))))); (with_reducible refine i_fldR (by assumption) ?_); (with_reducible refine i_fld (by assumption) ?_); (with_reducible refine i_Seq (i_sF ?_)); (rw [b1]); simp only [w_set0, w_set1, w_setn0, w_setn1]; (with_reducible refine i_A0 (i_F (i_FR (i_A0 ?_)))); (with_reducible refine i_fldR (by assumption) ?_); (with_reducible refine i_fld (by assumption) ?_); (with_reducible refine i_fld (by assumption) ?_); (with_reducible refine i_Seq (i_If (i_cZ_eq (i_L1 ?_)))); (rw [c1]); (with_reducible refine i_f (by omega) ?_); (with_reducible refine i_Seq (i_sF (i_FR (i_A0 ?_)))); (with_reducible refine i_fldR (by assumption) ?_); (with_reducible refine i_I ?_); (with_reducible refine i_fld (by assumption) ?_); (with_reducible refine i_Seq (i_If (i_cZ_eq (i_L1 ?_)))); (with_reducible refine i_f (by omega) ?_); (with_reducible refine i_RetI (i_L1 ?_)))
    exact hk2 _ (fun b j q => by rw [zg_o _ _ (by omega), zg_o _ _ (by omega)]) (zg_s _ _ _ _ _)
