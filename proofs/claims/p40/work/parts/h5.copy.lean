/-! ===== copy: both sides ===== -/
theorem zTR.pc {M : zMem} {x n : Nat} {A : zTl} (hw : zTw n A) (h : zTR M x n A) : zPC M (x + 1) n (tf A) := by
  unfold zPC
  rw [zcm_in, ← hw.1.2.1]
  exact h.1.ext (fun q hq => by rw [zcg_in hq]; exact (hw.1.2.2 q hq).2.symm)
theorem zPR.of_pc {M : zMem} {p n : Nat} {A : zTl} (hw : zTw n A) (h : zPC M p n (tf A)) : zPR M p n (tf A) (tm A) := by
  unfold zPC at h
  rw [zcm_in, ← hw.1.2.1] at h
  exact h.ext (fun q hq => by rw [zcg_in hq]; exact (hw.1.2.2 q hq).2)
theorem c_tbecome {O : zOm} (hO : zWld O) {x y n : Nat} {A : zTl} {M : zMem} {K : Option zV → zMem → Prop} (hx : zTeC (zS O) x) (hy : zTeC (zS O) y) (hxy : x + 12 < y ∨ y + 12 < x) (hn2 : n ≤ 16) (hA : zTR M y n A) (hw : zTw n A)
    (hk : ∀ M', (∀ b j, ¬ (((x : Nat) : Int) ≤ b ∧ b ≤ ((x + 12 : Nat) : Int)) → M' b j = M b j) → zTR M' x n A → K none M') : zR O F_Telling_become [(2, ((x : Nat) : Int)), (2, ((y : Nat) : Int))] M K := by
  obtain ⟨⟨o, x0, x1, x2, x3, x4, x5, x6⟩, ⟨xa, xb⟩, hp, ⟨n7, n9, n11⟩⟩ := hx
  obtain ⟨⟨o', y0, y1, y2, y3, y4, y5, y6⟩, ⟨ya, yb⟩, hp', ⟨m7, m9, m11⟩⟩ := hy
  have hp0 := hp.1
  have r7 := n7.2.2.2
  have r9 := n9.2.2.2
  have r11 := n11.2.2.2
  have hpc := hA.pc hw
  obtain ⟨-, hrow, ⟨⟨hW1, hW2⟩, hW3⟩, hS1, hX, hL⟩ := id hA
  apply r_Telling_become hO
  unfold B_Telling_become
  ((with_reducible refine i_Seq (i_Seq (i_sCall (i_as1 (i_FR (i_A0 ?_)))))); (with_reducible refine i_fldR (by assumption) ?_); (with_reducible refine i_as1 (i_FR (i_A1 ?_))); (with_reducible refine i_fldR (by assumption) ?_); (with_reducible refine i_as0 ?_); (with_reducible refine i_recv0 (by assumption) ?_))
  refine c_pbecome hO hp hp' (by omega) hn2 hpc (fun M1 f1 g1 => ⟨rfl, ?_⟩)
  have w1 : M1 ((y : Nat) : Int) ((6 : Nat) : Int) = ((zcnt (zWsn A) 1024 : Nat) : Int) := by rw [f1 _ _ (by omega)]; exact hW1
  ((with_reducible refine i_Seq (i_Copy (i_FR (i_A1 ?_)))); (with_reducible refine i_fldR (by assumption) ?_); (with_reducible refine i_I (i_FR (i_A0 ?_))); (with_reducible refine i_fldR (by assumption) ?_); (with_reducible refine i_I (i_I ?_)); (with_reducible refine i_copy (by assumption) (by assumption) (by omega) ?_); (with_reducible refine i_Seq (i_Copy (i_FR (i_A1 ?_)))); (with_reducible refine i_fldR (by assumption) ?_); (with_reducible refine i_I (i_FR (i_A0 ?_))); (with_reducible refine i_fldR (by assumption) ?_); (with_reducible refine i_I (i_I ?_)); (with_reducible refine i_copy (by assumption) (by assumption) (by omega) ?_); (with_reducible refine i_Seq (i_sF (i_A0 (i_F (i_A1 ?_))))); (with_reducible refine i_fld (by assumption) ?_); (with_reducible refine i_fld (by assumption) ?_); (with_reducible refine i_Seq (i_sCall (i_as1 (i_FR (i_A0 ?_))))); (with_reducible refine i_fldR (by assumption) ?_); (with_reducible refine i_as1 (i_FR (i_A1 ?_))); (with_reducible refine i_fldR (by assumption) ?_); (with_reducible refine i_as0 ?_); (with_reducible refine i_recv0 (by assumption) ?_); rw [zg_n _ _ _ (by omega)]; rw [zg_n _ _ _ (by omega)]; (rw [w1]))
  refine s_Net_become hO n7 m7 (hS1.to (fun b j a1 a2 => by rw [zg_o _ _ (by omega), zput_ne _ _ (by omega), zput_ne _ _ (by omega), f1 b j (by omega)])) (fun M2 f2 g2 => ⟨rfl, ?_⟩)
  have k2 : ∀ b j, ¬ (((x : Nat) : Int) ≤ b ∧ b ≤ ((x + 12 : Nat) : Int)) → M2 b j = M b j := fun b j q => by rw [f2 b (by simp <;> omega), zg_o _ _ (by omega), zput_ne _ _ (by omega), zput_ne _ _ (by omega), f1 b j (by omega)]
  have kr : ∀ j : Nat, j < 16 → M2 ((x + 5 : Nat) : Int) ((j : Nat) : Int) = M ((y + 5 : Nat) : Int) ((j : Nat) : Int) := fun j hj => by
    rw [f2 _ (by simp <;> omega), zg_n _ _ _ (by omega), zput_ne _ _ (by omega), zput_self]
    unfold zcpy
    rw [if_pos (by omega), show (0 : Int) + (((j : Nat) : Int) - 0) = ((j : Nat) : Int) by omega, f1 _ _ (by omega)]
  have kw : ∀ j : Nat, j < 120 → M2 ((x + 6 : Nat) : Int) ((j : Nat) : Int) = M ((y + 6 : Nat) : Int) ((j : Nat) : Int) := fun j hj => by
    rw [f2 _ (by simp <;> omega), zg_n _ _ _ (by omega), zput_self]
    unfold zcpy
    rw [if_pos (by omega), zput_ne _ _ (by omega), show (0 : Int) + (((j : Nat) : Int) - 0) = ((j : Nat) : Int) by omega, f1 _ _ (by omega)]
  have kc : M2 ((x : Nat) : Int) ((6 : Nat) : Int) = ((zcnt (zWsn A) 1024 : Nat) : Int) := by rw [f2 _ (by simp <;> omega)]; exact zg_s _ _ _ _ _
  have kp : zPC M2 (x + 1) n (tf A) := g1.fr (fun b j a1 a2 => by rw [f2 b (by simp <;> omega), zg_o _ _ (by omega), zput_ne _ _ (by omega), zput_ne _ _ (by omega)])
  ((with_reducible refine i_Seq (i_sCall (i_as1 (i_FR (i_A0 ?_))))); (with_reducible refine i_fldR (by assumption) ?_); (with_reducible refine i_as1 (i_FR (i_A1 ?_))); (with_reducible refine i_fldR (by assumption) ?_); (with_reducible refine i_as0 ?_); (with_reducible refine i_recv0 (by assumption) ?_))
  refine s_Net_become hO n9 m9 (hX.to (fun b j a1 a2 => k2 b j (by omega))) (fun M3 f3 g3 => ⟨rfl, ?_⟩)
  ((with_reducible refine i_sCall (i_as1 (i_FR (i_A0 ?_)))); (with_reducible refine i_fldR (by assumption) ?_); (with_reducible refine i_as1 (i_FR (i_A1 ?_))); (with_reducible refine i_fldR (by assumption) ?_); (with_reducible refine i_as0 ?_); (with_reducible refine i_recv0 (by assumption) ?_))
  refine s_Net_become hO n11 m11 (hL.to (fun b j a1 a2 => by rw [f3 b (by simp <;> omega), k2 b j (by omega)])) (fun M4 f4 g4 => ⟨rfl, ?_⟩)
  have k4 : ∀ b j, ¬ (((x + 9 : Nat) : Int) ≤ b ∧ b ≤ ((x + 12 : Nat) : Int)) → M4 b j = M2 b j := fun b j q => by rw [f4 b (by simp <;> omega), f3 b (by simp <;> omega)]
  (with_reducible refine i_RetV ?_)
  refine hk M4 (fun b j q => by rw [k4 b j (by omega), k2 b j q]) ⟨zPR.of_pc hw (kp.fr (fun b j a1 a2 => k4 b j (by omega))), fun b k hb hkk => ?_, ⟨⟨?_, fun c hc hcw => ?_⟩, hW3⟩, g2.to (fun b j a1 a2 => k4 b j (by omega)), g3.to (fun b j a1 a2 => by rw [f4 b (by simp <;> omega)]), g4⟩
  · have h1 : zSt0 (tf A) n b + zSz (tf A) n b ≤ zSt0 (tf A) n (b + 1) := zSt0_in (tf A) n (Nat.lt_succ_self b)
    have h2 := zSt0_le (tf A) n (b + 1)
    rw [k4 _ _ (by omega), kr _ (by omega)]
    exact hrow b k hb hkk
  · rw [k4 _ _ (by omega)]; exact kc
  · have := zcnt_lt3 hcw hc
    rw [k4 _ _ (by omega), kw _ (by omega)]
    exact hW2 c hc hcw
theorem m_copy_bad {O : zOm} (hO : zWld O) (hS : zS O = zmS zC0) {t : Int} {T : Nat} {M : zMem} {K : Option zV → zMem → Prop} (hT : M 250 ((11 : Nat) : Int) = ((T : Nat) : Int)) (hb : ¬ (T < 5 ∧ 0 ≤ t ∧ t < ((T : Nat) : Int))) (hT5 : T ≤ 5) (hk : K (some (0, -1)) M) : zR O F_Model_copy [(2, 250), (0, t)] M K := by
  apply r_Model_copy hO
  unfold B_Model_copy
  have f11 := zMF (k := 11) hS rfl; have zo := zMO hS
  by_cases e : T = 5
  · ((with_reducible refine i_Seq (i_If (i_cOr (i_cI_eq (i_F (i_A0 ?_)))))); (with_reducible refine i_fld (by assumption) ?_); (with_reducible refine i_I ?_); (rw [hT]); (with_reducible refine i_t (by omega) ?_); (with_reducible refine i_RetI (i_I ?_)))
    exact hk
  · ((with_reducible refine i_Seq (i_If (i_cOr (i_cI_eq (i_F (i_A0 ?_)))))); (with_reducible refine i_fld (by assumption) ?_); (with_reducible refine i_I ?_); (rw [hT]); (with_reducible refine i_f (by omega) ?_); (with_reducible refine i_cNot (i_cZ_ne (i_Call (i_as1 (i_A0 (i_as1 (i_L1 (i_as0 ?_)))))))); (with_reducible refine i_recv0 (by assumption) ?_); (refine m_isTelling hO hS hT ⟨_, rfl, ?_⟩); (rw [decide_eq_false (show ¬ (0 ≤ t ∧ t < ((T : Nat) : Int)) from fun z => hb ⟨by omega, z⟩)]); rw [zbI_f]; (with_reducible refine i_f (by omega) ?_); (with_reducible refine i_RetI (i_I ?_)))
    exact hk
theorem m_copy {O : zOm} (hO : zWld O) (hS : zS O = zmS zC0) {t T n : Nat} {A : zTl} {M : zMem} {K : Option zV → zMem → Prop} (hT : M 250 ((11 : Nat) : Int) = ((T : Nat) : Int)) (hT5 : T < 5) (ht : t < T) (hn2 : n ≤ 16) (hA : rTe M t n A) (hw : zTw n A)
    (hk : ∀ M', (∀ b j, ¬ (b = 250 ∧ j = 11 ∨ (b = 258 ∧ j = ((T : Nat) : Int) ∨ (b = 259 ∨ b = 260 ∨ b = 262 ∨ b = 263) ∧ ((16 * T : Nat) : Int) ≤ j ∧ j < ((16 * T + 16 : Nat) : Int) ∨ (b = 261 ∨ b = 264 ∨ b = 265 ∨ b = 266) ∧ ((256 * T : Nat) : Int) ≤ j ∧ j < ((256 * T + 256 : Nat) : Int))) → M' b j = M b j) → M' 250 ((11 : Nat) : Int) = ((T + 1 : Nat) : Int) → rTe M' T n A → K (some (0, ((T : Nat) : Int))) M') : zR O F_Model_copy [(2, 250), (0, ((t : Nat) : Int))] M K := by
  apply r_Model_copy hO
  unfold B_Model_copy
  have f11 := zMF (k := 11) hS rfl; have zo := zMO hS
  ((with_reducible refine i_Seq (i_If (i_cOr (i_cI_eq (i_F (i_A0 ?_)))))); (with_reducible refine i_fld (by assumption) ?_); (with_reducible refine i_I ?_); (rw [hT]); (with_reducible refine i_f (by omega) ?_); (with_reducible refine i_cNot (i_cZ_ne (i_Call (i_as1 (i_A0 (i_as1 (i_L1 (i_as0 ?_)))))))); (with_reducible refine i_recv0 (by assumption) ?_); (refine m_isTelling hO hS hT ⟨_, rfl, ?_⟩); (rw [decide_eq_true (show 0 ≤ ((t : Nat) : Int) ∧ ((t : Nat) : Int) < ((T : Nat) : Int) by omega)]); rw [zbI_t]; (with_reducible refine i_t (by omega) ?_); (with_reducible refine i_Seq (i_sCall (i_as1 (i_A0 (i_as1 (i_L1 (i_as1 (i_F (i_A0 ?_))))))))); (with_reducible refine i_fld (by assumption) ?_); (with_reducible refine i_as0 ?_); (with_reducible refine i_recv0 (by assumption) ?_); (rw [hT]))
  refine m_become hO hS (by omega) (show T < 7 by omega) (by omega) hn2 hA hw (fun M1 f1 g1 => ⟨rfl, ?_⟩)
  have t1 : M1 250 ((11 : Nat) : Int) = ((T : Nat) : Int) := by rw [f1 _ _ (by omega)]; exact hT
  ((with_reducible refine i_Seq (i_FO (i_A0 ?_))); (with_reducible refine i_fld (by assumption) ?_); (with_reducible refine i_I ?_); (with_reducible refine i_fld (by assumption) ?_); (with_reducible refine i_RetI (i_Sub (i_F (i_A0 ?_)))); (with_reducible refine i_fld (by assumption) ?_); (with_reducible refine i_I ?_); rw [zg_s]; (rw [t1]); rw [zx_inc (by omega)]; rw [zx_subc (by omega) (by omega)])
  refine hk _ (fun b j q => by rw [zg_o _ _ (by omega), f1 b j (by omega)]) (zg_s _ _ _ _ _) ?_
  exact g1.to hn2 hw (fun b j q => by rw [zg_o _ _ (by omega)])
theorem c_copy_bad {O : zOm} (hO : zWld O) (hS : zS O = zmS zC0) {t : Int} {T : Nat} {M : zMem} {K : Option zV → zMem → Prop} (hT : M ((0 : Nat) : Int) ((4 : Nat) : Int) = ((T : Nat) : Int)) (hT5 : T ≤ 5) (hb : ¬ (T < 5 ∧ 0 ≤ t ∧ t < ((T : Nat) : Int))) (hk : K (some (0, -1)) M) : zR O F_ToldNet_copy [(2, ((0 : Nat) : Int)), (0, t)] M K := by
  apply r_ToldNet_copy hO
  unfold B_ToldNet_copy
  have f0_4 := zf_0_4 hS; have f0_3 := zf_0_3 hS; have z0 := zo_0 hS
  ((with_reducible refine i_Seq (i_Set (i_Call (i_as1 (i_A0 (i_as1 (i_L1 (i_as0 ?_)))))))); (with_reducible refine i_recv0 (by assumption) ?_); simp only [w_set0, w_set1, w_setn0, w_setn1])
  refine c_find hO hS hT hT5 (fun hx => ⟨_, rfl, ?_⟩) (fun k e hk1 => ⟨_, rfl, ?_⟩)
  · ((with_reducible refine i_Seq (i_If (i_cOr (i_cN (i_A2 ?_))))); simp only [w_set0, w_set1, w_setn0, w_setn1]; (with_reducible refine i_t trivial ?_); (with_reducible refine i_RetI (i_I ?_)))
    exact hk
  · ((with_reducible refine i_Seq (i_If (i_cOr (i_cN (i_A2 ?_))))); (with_reducible refine i_f (by omega) ?_); (with_reducible refine i_cI_ge (i_F (i_A0 ?_))); (with_reducible refine i_fld (by assumption) ?_); (with_reducible refine i_I ?_); (rw [hT]); (with_reducible refine i_t (by omega) ?_); (with_reducible refine i_RetI (i_I ?_)))
    exact hk
theorem c_copy {O : zOm} (hO : zWld O) (hS : zS O = zmS zC0) {t T n : Nat} {A : zTl} {M : zMem} {K : Option zV → zMem → Prop} (hT : M ((0 : Nat) : Int) ((4 : Nat) : Int) = ((T : Nat) : Int)) (hT5 : T < 5) (ht : t < T) (hn2 : n ≤ 16) (hA : zTR M (185 + 13 * t) n A) (hw : zTw n A)
    (hk : ∀ M', (∀ b j, ¬ (b = ((0 : Nat) : Int) ∧ j = 4 ∨ ((185 + 13 * T : Nat) : Int) ≤ b ∧ b ≤ ((197 + 13 * T : Nat) : Int)) → M' b j = M b j) → M' ((0 : Nat) : Int) ((4 : Nat) : Int) = ((T + 1 : Nat) : Int) → zTR M' (185 + 13 * T) n A → K (some (0, ((T : Nat) : Int))) M') : zR O F_ToldNet_copy [(2, ((0 : Nat) : Int)), (0, ((t : Nat) : Int))] M K := by
  have hx := zTelT hS hT5
  have hy := zTelT hS (show t < 5 by omega)
  have hx0 := hx.1.1
  apply r_ToldNet_copy hO
  unfold B_ToldNet_copy
  have f0_4 := zf_0_4 hS; have f0_3 := zf_0_3 hS; have z0 := zo_0 hS
  ((with_reducible refine i_Seq (i_Set (i_Call (i_as1 (i_A0 (i_as1 (i_L1 (i_as0 ?_)))))))); (with_reducible refine i_recv0 (by assumption) ?_); simp only [w_set0, w_set1, w_setn0, w_setn1])
  refine c_find hO hS hT (by omega) (fun hx => absurd (show 0 ≤ ((t : Nat) : Int) ∧ ((t : Nat) : Int) < ((T : Nat) : Int) by omega) hx) (fun k e hk1 => ⟨_, rfl, ?_⟩)
  rw [show k = t by omega]
  ((with_reducible refine i_Seq (i_If (i_cOr (i_cN (i_A2 ?_))))); (with_reducible refine i_f (by omega) ?_); (with_reducible refine i_cI_ge (i_F (i_A0 ?_))); (with_reducible refine i_fld (by assumption) ?_); (with_reducible refine i_I ?_); (rw [hT]); (with_reducible refine i_f (by omega) ?_); (with_reducible refine i_Seq (i_sCall (i_as1 (i_RA (i_FR (i_A0 ?_)))))); (with_reducible refine i_fldR (by assumption) ?_); (with_reducible refine i_F (i_A0 ?_)); (with_reducible refine i_fld (by assumption) ?_); (rw [hT]); (refine i_ra (zPr_tel hS hT5) ?_); (with_reducible refine i_as1 (i_A2 (i_as0 ?_))); (with_reducible refine i_recv0 (by assumption) ?_))
  refine c_tbecome hO hx hy (by omega) hn2 hA hw (fun M1 f1 g1 => ⟨rfl, ?_⟩)
  have t1 : M1 ((0 : Nat) : Int) ((4 : Nat) : Int) = ((T : Nat) : Int) := by rw [f1 _ _ (by omega)]; exact hT
  ((with_reducible refine i_Seq (i_FO (i_A0 ?_))); (with_reducible refine i_fld (by assumption) ?_); (with_reducible refine i_I ?_); (with_reducible refine i_fld (by assumption) ?_); (with_reducible refine i_RetI (i_Sub (i_F (i_A0 ?_)))); (with_reducible refine i_fld (by assumption) ?_); (with_reducible refine i_I ?_); rw [zg_s]; (rw [t1]); rw [zx_inc (by omega)]; rw [zx_subc (by omega) (by omega)])
  refine hk _ (fun b j q => by rw [zg_o _ _ (by omega), f1 b j (by omega)]) (zg_s _ _ _ _ _) ?_
  exact g1.to (fun b j a1 a2 => by rw [zg_o _ _ (by omega)])
