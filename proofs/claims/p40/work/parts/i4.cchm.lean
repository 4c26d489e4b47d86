/-! ===== nets by chance: the class ===== -/
theorem c_swap {O : zOm} (hO : zWld O) {y n a b c d : Nat} {T : Nat → Nat → Bool} {M : zMem} {K : Option zV → zMem → Prop} (hy : zNet (zS O) y) (hN : zNR M y n T) (hR : zReg n T) (hn2 : n ≤ 16) (hab : T a b = true) (hcd : T c d = true)
    (hk : ∀ M', (∀ b j, ¬ b = ((y + 1 : Nat) : Int) → M' b j = M b j) → zNR M' y n (zSw4 T a b c d) → K none M') : zR O F_Net_swap [(2, ((y : Nat) : Int)), (0, ((a : Nat) : Int)), (0, ((b : Nat) : Int)), (0, ((c : Nat) : Int)), (0, ((d : Nat) : Int))] M K := by
  have hy4 := hy.2.2.2
  have hne1 : a ≠ b := fun z => by rw [z, hR.2.1] at hab; cases hab
  have hne2 : c ≠ d := fun z => by rw [z, hR.2.1] at hcd; cases hcd
  obtain ⟨a1, b1⟩ := hR.lt hab
  obtain ⟨c1, d1⟩ := hR.lt hcd
  apply r_Net_swap hO
  unfold B_Net_swap
  by_cases h4 : a ≠ c ∧ a ≠ d ∧ b ≠ c ∧ b ≠ d
  · obtain ⟨q1, q2, q3, q4⟩ := h4
    cases e5 : T a d
    · cases e6 : T c b
      · have hk2 : ∀ M', (∀ b j, ¬ b = ((y + 1 : Nat) : Int) → M' b j = M b j) → zNR M' y n (zSwf T a b c d) → K none M' := fun M' z1 z2 => hk M' z1 (by unfold zSw4; rw [if_pos ⟨q1, q2, q3, q4, e5, e6⟩]; exact z2)
        ((with_reducible refine i_Seq (i_Seq (i_Set (i_eIf (i_cAnd (i_cAnd (i_cAnd (i_cI_ne (i_L1 (i_L3 ?_)))))))))); (with_reducible refine i_t (by omega) ?_); (with_reducible refine i_cI_ne (i_L1 (i_L4 ?_))); (with_reducible refine i_t (by omega) ?_); (with_reducible refine i_cI_ne (i_L2 (i_L3 ?_))); (with_reducible refine i_t (by omega) ?_); (with_reducible refine i_cI_ne (i_L2 (i_L4 ?_))); (with_reducible refine i_t (by omega) ?_); (with_reducible refine i_I (i_If (i_cAnd (i_cAnd (i_cZ_ne ?_))))); simp only [w_set0, w_set1, w_setn0, w_setn1]; (with_reducible refine i_L5 ?_); (with_reducible refine i_t (by omega) ?_); (with_reducible refine i_cNot (i_cZ_ne (i_Call (i_as1 (i_A0 (i_as1 (i_L1 (i_as1 (i_L4 (i_as0 ?_)))))))))); (with_reducible refine i_recv0 (by assumption) ?_); (refine s_joins hO hy hN (by omega) (by omega) ⟨_, rfl, ?_⟩); (rw [e5]); rw [zbI_f]; (with_reducible refine i_f (by omega) ?_); (with_reducible refine i_cNot (i_cZ_ne (i_Call (i_as1 (i_A0 (i_as1 (i_L3 (i_as1 (i_L2 (i_as0 ?_)))))))))); (with_reducible refine i_recv0 (by assumption) ?_); (refine s_joins hO hy hN (by omega) (by omega) ⟨_, rfl, ?_⟩); (rw [e6]); rw [zbI_f]; (with_reducible refine i_f (by omega) ?_); (with_reducible refine i_Seq (i_sCall (i_as1 (i_A0 (i_as1 (i_L1 (i_as1 (i_L2 (i_as0 ?_))))))))); (with_reducible refine i_recv0 (by assumption) ?_))
        refine s_Net_flip hO hy hN (show a < 16 by omega) (show b < 16 by omega) hne1 (fun M1 f1 g1 => ⟨rfl, ?_⟩)
        ((with_reducible refine i_Seq (i_sCall (i_as1 (i_A0 (i_as1 (i_L3 (i_as1 (i_L4 (i_as0 ?_))))))))); (with_reducible refine i_recv0 (by assumption) ?_))
        refine s_Net_flip hO hy g1 (show c < 16 by omega) (show d < 16 by omega) hne2 (fun M2 f2 g2 => ⟨rfl, ?_⟩)
        ((with_reducible refine i_Seq (i_sCall (i_as1 (i_A0 (i_as1 (i_L1 (i_as1 (i_L4 (i_as0 ?_))))))))); (with_reducible refine i_recv0 (by assumption) ?_))
        refine s_Net_flip hO hy g2 (show a < 16 by omega) (show d < 16 by omega) q2 (fun M3 f3 g3 => ⟨rfl, ?_⟩)
        ((with_reducible refine i_sCall (i_as1 (i_A0 (i_as1 (i_L3 (i_as1 (i_L2 (i_as0 ?_)))))))); (with_reducible refine i_recv0 (by assumption) ?_))
        refine s_Net_flip hO hy g3 (show c < 16 by omega) (show b < 16 by omega) (Ne.symm q3) (fun M4 f4 g4 => ⟨rfl, ?_⟩)
        (with_reducible refine i_RetV ?_)
        exact hk2 M4 (fun b j q => by rw [f4 b (by simp <;> omega), f3 b (by simp <;> omega), f2 b (by simp <;> omega), f1 b (by simp <;> omega)]) g4
      · have hk2 : K none M := hk M (fun _ _ _ => rfl) (by unfold zSw4; rw [if_neg (fun z => by rw [z.2.2.2.2.2] at e6; cases e6)]; exact hN)
        ((with_reducible refine i_Seq (i_Seq (i_Set (i_eIf (i_cAnd (i_cAnd (i_cAnd (i_cI_ne (i_L1 (i_L3 ?_)))))))))); (with_reducible refine i_t (by omega) ?_); (with_reducible refine i_cI_ne (i_L1 (i_L4 ?_))); (with_reducible refine i_t (by omega) ?_); (with_reducible refine i_cI_ne (i_L2 (i_L3 ?_))); (with_reducible refine i_t (by omega) ?_); (with_reducible refine i_cI_ne (i_L2 (i_L4 ?_))); (with_reducible refine i_t (by omega) ?_); (with_reducible refine i_I (i_If (i_cAnd (i_cAnd (i_cZ_ne ?_))))); simp only [w_set0, w_set1, w_setn0, w_setn1]; (with_reducible refine i_L5 ?_); (with_reducible refine i_t (by omega) ?_); (with_reducible refine i_cNot (i_cZ_ne (i_Call (i_as1 (i_A0 (i_as1 (i_L1 (i_as1 (i_L4 (i_as0 ?_)))))))))); (with_reducible refine i_recv0 (by assumption) ?_); (refine s_joins hO hy hN (by omega) (by omega) ⟨_, rfl, ?_⟩); (rw [e5]); rw [zbI_f]; (with_reducible refine i_f (by omega) ?_); (with_reducible refine i_cNot (i_cZ_ne (i_Call (i_as1 (i_A0 (i_as1 (i_L3 (i_as1 (i_L2 (i_as0 ?_)))))))))); (with_reducible refine i_recv0 (by assumption) ?_); (refine s_joins hO hy hN (by omega) (by omega) ⟨_, rfl, ?_⟩); (rw [e6]); rw [zbI_t]; (with_reducible refine i_t (by omega) ?_); (with_reducible refine i_RetV ?_))
        exact hk2
    · have hk2 : K none M := hk M (fun _ _ _ => rfl) (by unfold zSw4; rw [if_neg (fun z => by rw [z.2.2.2.2.1] at e5; cases e5)]; exact hN)
      ((with_reducible refine i_Seq (i_Seq (i_Set (i_eIf (i_cAnd (i_cAnd (i_cAnd (i_cI_ne (i_L1 (i_L3 ?_)))))))))); (with_reducible refine i_t (by omega) ?_); (with_reducible refine i_cI_ne (i_L1 (i_L4 ?_))); (with_reducible refine i_t (by omega) ?_); (with_reducible refine i_cI_ne (i_L2 (i_L3 ?_))); (with_reducible refine i_t (by omega) ?_); (with_reducible refine i_cI_ne (i_L2 (i_L4 ?_))); (with_reducible refine i_t (by omega) ?_); (with_reducible refine i_I (i_If (i_cAnd (i_cAnd (i_cZ_ne ?_))))); simp only [w_set0, w_set1, w_setn0, w_setn1]; (with_reducible refine i_L5 ?_); (with_reducible refine i_t (by omega) ?_); (with_reducible refine i_cNot (i_cZ_ne (i_Call (i_as1 (i_A0 (i_as1 (i_L1 (i_as1 (i_L4 (i_as0 ?_)))))))))); (with_reducible refine i_recv0 (by assumption) ?_); (refine s_joins hO hy hN (by omega) (by omega) ⟨_, rfl, ?_⟩); (rw [e5]); rw [zbI_t]; (with_reducible refine i_t (by omega) ?_); (with_reducible refine i_RetV ?_))
      exact hk2
  · have hk2 : K none M := hk M (fun _ _ _ => rfl) (by unfold zSw4; rw [if_neg (fun z => h4 ⟨z.1, z.2.1, z.2.2.1, z.2.2.2.1⟩)]; exact hN)
    (focus ((with_reducible refine i_Seq (i_Seq (i_Set (i_eIf (i_cAnd (i_cAnd (i_cAnd (i_cI_ne (i_L1 (i_L3 ?_)))))))))); (with_reducible refine i_br ?_ ?_ <;> intro hc); (focus ((with_reducible refine i_cI_ne (i_L1 (i_L4 ?_))); (with_reducible refine i_br ?_ ?_ <;> intro hc); (focus ((with_reducible refine i_cI_ne (i_L2 (i_L3 ?_))); (with_reducible refine i_br ?_ ?_ <;> intro hc); (focus ((with_reducible refine i_cI_ne (i_L2 (i_L4 ?_))); (with_reducible refine i_f (by omega) ?_); (with_reducible refine i_I (i_If (i_cAnd (i_cAnd (i_cZ_ne ?_))))); simp only [w_set0, w_set1, w_setn0, w_setn1]; (with_reducible refine i_L5 ?_); (with_reducible refine i_f (by omega) ?_); (with_reducible refine i_RetV ?_))); rotate_left; (focus ((with_reducible refine i_I (i_If (i_cAnd (i_cAnd (i_cZ_ne ?_))))); simp only [w_set0, w_set1, w_setn0, w_setn1]; (with_reducible refine i_L5 ?_); (with_reducible refine i_f (by omega) ?_); (with_reducible refine i_RetV ?_))); rotate_right)); rotate_left 2; (focus ((with_reducible refine i_I (i_If (i_cAnd (i_cAnd (i_cZ_ne ?_))))); simp only [w_set0, w_set1, w_setn0, w_setn1]; (with_reducible refine i_L5 ?_); (with_reducible refine i_f (by omega) ?_); (with_reducible refine i_RetV ?_))); rotate_right 2)); rotate_left 3; (focus ((with_reducible refine i_I (i_If (i_cAnd (i_cAnd (i_cZ_ne ?_))))); simp only [w_set0, w_set1, w_setn0, w_setn1]; (with_reducible refine i_L5 ?_); (with_reducible refine i_f (by omega) ?_); (with_reducible refine i_RetV ?_))); rotate_right 3))
    all_goals first | exact hk2 | (exfalso; omega)
theorem c_shuffle {O : zOm} (hO : zWld O) {y z n : Nat} {seed : Int} {N : Nat → Nat → Bool} {M : zMem} {K : Option zV → zMem → Prop} (hy : zNet (zS O) y) (hz : zNet (zS O) z) (hyz : y + 1 < z ∨ z + 1 < y) (hN : zNR M z n N) (hR : zReg n N) (hn2 : n ≤ 16)
    (hk : ∀ M', (∀ b j, ¬ (((y : Nat) : Int) ≤ b ∧ b ≤ ((y + 1 : Nat) : Int)) → M' b j = M b j) → zNR M' y n (zCh n N seed) → K none M') : zR O F_Net_shuffle [(2, ((y : Nat) : Int)), (2, ((z : Nat) : Int)), (0, seed)] M K := by
  have hy4 := hy.2.2.2
  have hm120 : zp2 N n ≤ 120 := zp2_le _ hn2
  unfold zCh at hk
  apply r_Net_shuffle hO
  unfold B_Net_shuffle
  ((with_reducible refine i_Seq (i_Seq (i_sCall (i_as1 (i_A0 (i_as1 (i_A1 (i_as0 ?_)))))))); (with_reducible refine i_recv0 (by assumption) ?_))
  refine s_Net_become hO hy hz hN (fun M1 f1 g1 => ⟨rfl, ?_⟩)
  ((with_reducible refine i_Seq (i_Set (i_Call (i_as1 (i_A0 (i_as0 ?_)))))); (with_reducible refine i_recv0 (by assumption) ?_); simp only [w_set0, w_set1, w_setn0, w_setn1])
  refine s_Net_pairs hO hy g1 hn2 ⟨_, rfl, ?_⟩
  rw [zpairs_p2 hR hn2]
  have hok := zShf_ok hR hn2 rfl seed
  generalize hm : zp2 N n = m at hk hm120 hok ⊢
  ((with_reducible refine i_Blk (i_Seq (i_Set (i_I ?_)))); simp only [w_set0, w_set1, w_setn0, w_setn1])
  refine w_ForN (4 * m) (fun k ρ M' => (∃ l, ρ = ((y : Nat) : Int) :: ((z : Nat) : Int) :: seed :: ((m : Nat) : Int) :: ((k : Nat) : Int) :: l) ∧ (∀ b j, ¬ (((y : Nat) : Int) ≤ b ∧ b ≤ ((y + 1 : Nat) : Int)) → M' b j = M b j) ∧ zNR M' y n (zShf N seed m k)) ⟨⟨_, rfl⟩, fun b j q => by rw [f1 b (by simp <;> omega)], g1⟩ ?_ ?_
  · rintro k ρ M2 X hk1 ⟨⟨l, rfl⟩, f2, g2⟩ hX
    have hm0 : 0 < m := by omega
    obtain ⟨r1, r2⟩ := hok k (by omega)
    have hX2 : ∀ l M', (∀ b j, ¬ (((y : Nat) : Int) ≤ b ∧ b ≤ ((y + 1 : Nat) : Int)) → M' b j = M b j) → zNR M' y n (zSf (zShf N seed m k) seed m k) → X (((y : Nat) : Int) :: ((z : Nat) : Int) :: seed :: ((m : Nat) : Int) :: ((k + 1 : Nat) : Int) :: l) M' := fun l M' a1 a2 => hX _ _ ⟨⟨l, rfl⟩, a1, a2⟩
    clear hX hk hok
    generalize zShf N seed m k = T at g2 r1 r2 hX2
    have hl1 := zlot_lt (seed := seed) (which := ((2 * k : Nat) : Int)) hm0
    obtain ⟨x, w, h, x1, w1, x2, w2, h1, h2, x3, w3, e⟩ := zSf_at r1 hn2 r2 hm0 seed k
    rw [e] at hX2
    clear e
    ((with_reducible refine i_turn (i_cI_lt (i_L4 (i_Mul (i_I (i_L3 ?_)))))); rw [zx_cmul (by omega)]; (with_reducible refine i_t (by omega) ?_); (with_reducible refine i_Blk (i_Seq (i_Set (i_Call (i_as1 (i_A0 (i_as1 (i_Call (i_as1 (i_L2 (i_as1 (i_Mul (i_I (i_L4 (i_as1 (i_L3 (i_as0 (i_recv1 ?_)))))))))))))))))); rw [zx_cmul (by omega)])
    refine s_Net_lot hO ⟨_, rfl, ?_⟩
    ((with_reducible refine i_as0 ?_); (with_reducible refine i_recv0 (by assumption) ?_); simp only [w_set0, w_set1, w_setn0, w_setn1])
    refine s_Net_pairAt hO hy g2 hn2 r1 ⟨by omega, by omega⟩ ⟨_, rfl, ?_⟩
    rw [x3]
    ((with_reducible refine i_Seq (i_Set (i_Call (i_as1 (i_L2 (i_as1 (i_Add (i_Mul (i_I (i_L4 (i_I (i_as1 (i_Mul (i_I (i_L3 (i_as0 (i_recv1 ?_))))))))))))))))); rw [zx_cmul (by omega)]; rw [zx_inc (by omega)]; rw [zx_cmul (by omega)]; simp only [w_set0, w_set1, w_setn0, w_setn1]; rw [w_setT]; simp only [w_set0, w_set1, w_setn0, w_setn1])
    refine s_Net_lot hO ⟨_, rfl, ?_⟩
    rw [h1]
    ((with_reducible refine i_Seq (i_Set (i_Call (i_as1 (i_A0 (i_as1 (i_Div ?_))))))); rw [w_setT]; (with_reducible refine i_L6 (i_I ?_)); rw [zx_divc (by omega)]; (with_reducible refine i_nn (by decide) ?_); (with_reducible refine i_as0 ?_); (with_reducible refine i_recv0 (by assumption) ?_); simp only [w_set0, w_set1, w_setn0, w_setn1])
    refine s_Net_pairAt hO hy g2 hn2 r1 ⟨by omega, by omega⟩ ⟨_, rfl, ?_⟩
    rw [w3]
    by_cases hh : h % 2 = 0
    · rw [if_pos hh, if_pos hh] at hX2
      ((with_reducible refine i_If (i_cAnd (i_cI_ne (i_L5 (i_I ?_))))); rw [w_setT]; (with_reducible refine i_t (by omega) ?_); (with_reducible refine i_cI_ne (i_L7 (i_I ?_))); (with_reducible refine i_t (by omega) ?_); (with_reducible refine i_Blk (i_Seq (i_Set (i_eIf (i_cI_eq (i_Rem (i_L6 (i_I ?_)))))))); rw [zx_modc]; (with_reducible refine i_nn (by decide) ?_); (with_reducible refine i_I ?_); (with_reducible refine i_f (by omega) ?_); (with_reducible refine i_I (i_Seq (i_Set (i_eIf (i_cZ_ne ?_))))); simp only [w_set0, w_set1, w_setn0, w_setn1]; rw [w_setT]; (with_reducible refine i_L8 ?_); (with_reducible refine i_f (by omega) ?_); (with_reducible refine i_Call (i_as1 (i_L7 (i_as0 (i_recv1 ?_))))); (refine s_Net_lesserOf hO (by omega) ⟨_, rfl, ?_⟩); (with_reducible refine i_Seq (i_Set (i_eIf (i_cZ_ne ?_)))); simp only [w_set0, w_set1, w_setn0, w_setn1]; (with_reducible refine i_L8 ?_); rw [w_setT]; (with_reducible refine i_f (by omega) ?_); (with_reducible refine i_Call (i_as1 (i_L7 (i_as0 (i_recv1 ?_))))); (refine s_Net_otherOf hO ⟨_, rfl, ?_⟩); (with_reducible refine i_sCall (i_as1 ?_)); simp only [w_set0, w_set1, w_setn0, w_setn1]; (with_reducible refine i_A0 (i_as1 (i_Call (i_as1 (i_L5 (i_as0 (i_recv1 ?_))))))); (refine s_Net_lesserOf hO (by omega) ⟨_, rfl, ?_⟩); (with_reducible refine i_as1 (i_Call (i_as1 (i_L5 (i_as0 (i_recv1 ?_)))))); (refine s_Net_otherOf hO ⟨_, rfl, ?_⟩); (with_reducible refine i_as1 (i_L9 (i_as1 ?_))); rw [w_setT]; (with_reducible refine i_L10 (i_as0 ?_)); (with_reducible refine i_recv0 (by assumption) ?_))
      refine c_swap hO hy g2 r1 hn2 x2 w2 (fun M3 f3 g3 => ⟨rfl, ?_⟩)
      ((with_reducible refine i_up (i_Inc4 ?_)); rw [zx_inc (by omega)]; simp only [w_set0, w_set1, w_setn0, w_setn1])
      exact hX2 _ M3 (fun b j q => by rw [f3 b j (by omega)]; exact f2 b j q) g3
    · rw [if_neg hh, if_neg hh] at hX2
      ((with_reducible refine i_If (i_cAnd (i_cI_ne (i_L5 (i_I ?_))))); rw [w_setT]; (with_reducible refine i_t (by omega) ?_); (with_reducible refine i_cI_ne (i_L7 (i_I ?_))); (with_reducible refine i_t (by omega) ?_); (with_reducible refine i_Blk (i_Seq (i_Set (i_eIf (i_cI_eq (i_Rem (i_L6 (i_I ?_)))))))); rw [zx_modc]; (with_reducible refine i_nn (by decide) ?_); (with_reducible refine i_I ?_); (with_reducible refine i_t (by omega) ?_); (with_reducible refine i_I (i_Seq (i_Set (i_eIf (i_cZ_ne ?_))))); simp only [w_set0, w_set1, w_setn0, w_setn1]; rw [w_setT]; (with_reducible refine i_L8 ?_); (with_reducible refine i_t (by omega) ?_); (with_reducible refine i_Call (i_as1 (i_L7 (i_as0 (i_recv1 ?_))))); (refine s_Net_otherOf hO ⟨_, rfl, ?_⟩); (with_reducible refine i_Seq (i_Set (i_eIf (i_cZ_ne ?_)))); simp only [w_set0, w_set1, w_setn0, w_setn1]; (with_reducible refine i_L8 ?_); rw [w_setT]; (with_reducible refine i_t (by omega) ?_); (with_reducible refine i_Call (i_as1 (i_L7 (i_as0 (i_recv1 ?_))))); (refine s_Net_lesserOf hO (by omega) ⟨_, rfl, ?_⟩); (with_reducible refine i_sCall (i_as1 ?_)); simp only [w_set0, w_set1, w_setn0, w_setn1]; (with_reducible refine i_A0 (i_as1 (i_Call (i_as1 (i_L5 (i_as0 (i_recv1 ?_))))))); (refine s_Net_lesserOf hO (by omega) ⟨_, rfl, ?_⟩); (with_reducible refine i_as1 (i_Call (i_as1 (i_L5 (i_as0 (i_recv1 ?_)))))); (refine s_Net_otherOf hO ⟨_, rfl, ?_⟩); (with_reducible refine i_as1 (i_L9 (i_as1 ?_))); rw [w_setT]; (with_reducible refine i_L10 (i_as0 ?_)); (with_reducible refine i_recv0 (by assumption) ?_))
      refine c_swap hO hy g2 r1 hn2 x2 (by rw [r1.1]; exact w2) (fun M3 f3 g3 => ⟨rfl, ?_⟩)
      ((with_reducible refine i_up (i_Inc4 ?_)); rw [zx_inc (by omega)]; simp only [w_set0, w_set1, w_setn0, w_setn1])
      exact hX2 _ M3 (fun b j q => by rw [f3 b j (by omega)]; exact f2 b j q) g3
  · rintro ρ M2 X ⟨⟨l, rfl⟩, f2, g2⟩
    ((with_reducible refine i_turn (i_cI_lt (i_L4 (i_Mul (i_I (i_L3 ?_)))))); rw [zx_cmul (by omega)]; (with_reducible refine i_f (by omega) ?_); (with_reducible refine i_RetV ?_))
    exact hk M2 f2 g2
theorem c_chance_bad {O : zOm} (hO : zWld O) (hS : zS O = zmS zC0) {seed a b : Int} {n : Nat} {M : zMem} {K : Option zV → zMem → Prop} (hP : M ((1 : Nat) : Int) ((2 : Nat) : Int) = ((n : Nat) : Int)) (hb : ¬ ((0 ≤ a ∧ a < ((n : Nat) : Int)) ∧ (0 ≤ b ∧ b < ((n : Nat) : Int)) ∧ a ≠ b)) (hk : K (some (0, -1)) M) : zR O F_ToldNet_chance [(2, ((0 : Nat) : Int)), (0, seed), (0, a), (0, b)] M K := by
  have o1 := zo_1 hS
  apply r_ToldNet_chance hO
  unfold B_ToldNet_chance
  have f0_0 := zf_0_0 hS; have f0_13 := zf_0_13 hS; have z0 := zo_0 hS; have z1 := zo_1 hS
  ((with_reducible refine i_Seq (i_If (i_cNot (i_cZ_ne (i_Call (i_as1 (i_FR (i_A0 ?_)))))))); (with_reducible refine i_fldR (by assumption) ?_); (with_reducible refine i_as1 (i_L2 (i_as1 (i_L3 (i_as0 ?_))))); (with_reducible refine i_recv0 (by assumption) ?_); (refine c_isPair hO hS hP ⟨_, rfl, ?_⟩); (rw [decide_eq_false hb]); rw [zbI_f]; (with_reducible refine i_f (by omega) ?_); (with_reducible refine i_RetI (i_I ?_)))
  exact hk
theorem c_chance {O : zOm} (hO : zWld O) (hS : zS O = zmS zC0) {seed : Int} {n a b td c : Nat} {N : Nat → Nat → Nat → Bool} {M : zMem} {K : Option zV → zMem → Prop} (hD : cDy M n td c N) (htd : td < 41) (hR : zReg n (N td)) (hn2 : n ≤ 16) (ha : a < n) (hb : b < n) (hab : a ≠ b)
    (hk : ∀ M', (∀ b j, ¬ (((183 : Nat) : Int) ≤ b ∧ b ≤ ((184 : Nat) : Int)) → M' b j = M b j) → K (some (0, zbI (zCh n (N td) seed a b))) M') : zR O F_ToldNet_chance [(2, ((0 : Nat) : Int)), (0, seed), (0, ((a : Nat) : Int)), (0, ((b : Nat) : Int))] M K := by
  obtain ⟨d1, d2, d3, d4⟩ := hD
  have hs := zNet183 hS
  have hs4 := hs.2.2.2
  have o1 := zo_1 hS
  apply r_ToldNet_chance hO
  unfold B_ToldNet_chance
  have f0_0 := zf_0_0 hS; have f0_13 := zf_0_13 hS; have z0 := zo_0 hS; have z1 := zo_1 hS
  ((with_reducible refine i_Seq (i_If (i_cNot (i_cZ_ne (i_Call (i_as1 (i_FR (i_A0 ?_)))))))); (with_reducible refine i_fldR (by assumption) ?_); (with_reducible refine i_as1 (i_L2 (i_as1 (i_L3 (i_as0 ?_))))); (with_reducible refine i_recv0 (by assumption) ?_); (refine c_isPair hO hS d1 ⟨_, rfl, ?_⟩); (rw [decide_eq_true (show (0 ≤ ((a : Nat) : Int) ∧ ((a : Nat) : Int) < ((n : Nat) : Int)) ∧ (0 ≤ ((b : Nat) : Int) ∧ ((b : Nat) : Int) < ((n : Nat) : Int)) ∧ ((a : Nat) : Int) ≠ ((b : Nat) : Int) by omega)]); rw [zbI_t]; (with_reducible refine i_t (by omega) ?_); (with_reducible refine i_Seq (i_sCall (i_as1 (i_FR (i_A0 ?_))))); (with_reducible refine i_fldR (by assumption) ?_); (with_reducible refine i_as1 (i_Call (i_as1 (i_FR (i_A0 ?_))))); (with_reducible refine i_fldR (by assumption) ?_); (with_reducible refine i_as0 ?_); (with_reducible refine i_recv0 (by assumption) ?_); (refine c_now hO hS d2 htd ⟨_, rfl, ?_⟩); (with_reducible refine i_as1 (i_L1 (i_as0 ?_))); (with_reducible refine i_recv0 (by assumption) ?_))
  refine c_shuffle hO hs (zNetD hS htd) (by omega) (d4 td (Nat.le_refl _)) hR hn2 (fun M1 f1 g1 => ⟨rfl, ?_⟩)
  have h2 := hk M1 (fun b j q => f1 b j (by omega))
  ((with_reducible refine i_RetI (i_eIf (i_cZ_ne (i_Call (i_as1 (i_FR (i_A0 ?_))))))); (with_reducible refine i_fldR (by assumption) ?_); (with_reducible refine i_as1 (i_L2 (i_as1 (i_L3 (i_as0 ?_))))); (with_reducible refine i_recv0 (by assumption) ?_))
  refine s_joins hO hs g1 (by omega) (by omega) ⟨_, rfl, ?_⟩
  generalize zCh n (N td) seed a b = v at h2 ⊢
  cases v
  · (rw [zbI_f]; (with_reducible refine i_f (by omega) ?_); (with_reducible refine i_I ?_))
    exact h2
  · (rw [zbI_t]; (with_reducible refine i_t (by omega) ?_); (with_reducible refine i_I ?_))
    exact h2
theorem c_odds_bad {O : zOm} (hO : zWld O) (hS : zS O = zmS zC0) {t seed k : Int} {T : Nat} {M : zMem} {K : Option zV → zMem → Prop} (hT : M ((0 : Nat) : Int) ((4 : Nat) : Int) = ((T : Nat) : Int)) (hT5 : T ≤ 5) (hb : ¬ ((0 ≤ t ∧ t < ((T : Nat) : Int)) ∧ 1 ≤ k ∧ k ≤ 40)) (hk : K (some (0, -1)) M) : zR O F_ToldNet_odds [(2, ((0 : Nat) : Int)), (0, t), (0, seed), (0, k)] M K := by
  apply r_ToldNet_odds hO
  unfold B_ToldNet_odds
  have f0_11 := zf_0_11 hS; have f0_6 := zf_0_6 hS; have f0_0 := zf_0_0 hS; have f0_13 := zf_0_13 hS; have z0 := zo_0 hS; have z1 := zo_1 hS
  ((with_reducible refine i_Seq (i_Set (i_Call (i_as1 (i_A0 (i_as1 (i_L1 (i_as0 ?_)))))))); (with_reducible refine i_recv0 (by assumption) ?_); simp only [w_set0, w_set1, w_setn0, w_setn1])
  refine c_find hO hS hT hT5 (fun hx => ⟨_, rfl, ?_⟩) (fun i e hk1 => ⟨_, rfl, ?_⟩)
  · ((with_reducible refine i_Seq (i_If (i_cOr (i_cOr (i_cN (i_A4 ?_)))))); simp only [w_set0, w_set1, w_setn0, w_setn1]; (with_reducible refine i_t trivial ?_); (with_reducible refine i_RetI (i_I ?_)))
    exact hk
  · by_cases h1 : k < 1
    · ((with_reducible refine i_Seq (i_If (i_cOr (i_cOr (i_cN (i_A4 ?_)))))); (with_reducible refine i_f (by omega) ?_); (with_reducible refine i_cI_lt (i_L3 (i_I ?_))); (with_reducible refine i_t (by omega) ?_); (with_reducible refine i_RetI (i_I ?_)))
      exact hk
    · have h2 : 40 < k := by omega
      ((with_reducible refine i_Seq (i_If (i_cOr (i_cOr (i_cN (i_A4 ?_)))))); (with_reducible refine i_f (by omega) ?_); (with_reducible refine i_cI_lt (i_L3 (i_I ?_))); (with_reducible refine i_f (by omega) ?_); (with_reducible refine i_cI_gt (i_L3 (i_I ?_))); (with_reducible refine i_t (by omega) ?_); (with_reducible refine i_RetI (i_I ?_)))
      exact hk
theorem c_odds {O : zOm} (hO : zWld O) (hS : zS O = zmS zC0) {t T n k td c : Nat} {seed : Int} {A : zTl} {N : Nat → Nat → Nat → Bool} {M : zMem} {K : Option zV → zMem → Prop} (hT : M ((0 : Nat) : Int) ((4 : Nat) : Int) = ((T : Nat) : Int)) (hT5 : T ≤ 5) (ht : t < T) (hD : cDy M n td c N) (htd : td < 41) (hR : zReg n (N td)) (hn2 : n ≤ 16) (hA : zTR M (185 + 13 * t) n A) (hw : zTw n A) (hk1 : 1 ≤ k) (hk40 : k ≤ 40)
    (hk : ∀ M', (∀ b j, ¬ (b = ((106 : Nat) : Int) ∨ b = ((107 : Nat) : Int) ∨ ((166 : Nat) : Int) ≤ b ∧ b ≤ ((178 : Nat) : Int) ∨ ((183 : Nat) : Int) ≤ b ∧ b ≤ ((184 : Nat) : Int)) → M' b j = M b j) → K (some (0, ((zcnt (zOdd n (N td) (tf A) seed) k : Nat) : Int))) M') : zR O F_ToldNet_odds [(2, ((0 : Nat) : Int)), (0, ((t : Nat) : Int)), (0, seed), (0, ((k : Nat) : Int))] M K := by
  obtain ⟨d1, d2, d3, d4⟩ := hD
  have hxT := zTelT hS (show t < 5 by omega)
  obtain ⟨⟨x0, x1, x2, x3, x4, x5, x6, x7⟩, -, hP, -⟩ := id hxT
  have hd := zTeC166 hS
  have e0 : zFld (zS O) ((166 : Nat) : Int) 4 0 = some (some (some 167)) := hd.1.2.1
  have hdp : zPar (zS O) 167 := hd.2.2.1
  have hdp0 := hdp.1
  have hs := zNet183 hS
  have hs4 := hs.2.2.2
  have hy := zNetD hS (d := td) htd
  have hyN := d4 td (Nat.le_refl _)
  have o106 := zo_106 hS
  have o1 := zo_1 hS
  apply r_ToldNet_odds hO
  unfold B_ToldNet_odds
  have f0_11 := zf_0_11 hS; have f0_6 := zf_0_6 hS; have f0_0 := zf_0_0 hS; have f0_13 := zf_0_13 hS; have z0 := zo_0 hS; have z1 := zo_1 hS
  ((with_reducible refine i_Seq (i_Set (i_Call (i_as1 (i_A0 (i_as1 (i_L1 (i_as0 ?_)))))))); (with_reducible refine i_recv0 (by assumption) ?_); simp only [w_set0, w_set1, w_setn0, w_setn1])
  refine c_find hO hS hT hT5 (fun hx => absurd (show 0 ≤ ((t : Nat) : Int) ∧ ((t : Nat) : Int) < ((T : Nat) : Int) by omega) hx) (fun i e hk1 => ⟨_, rfl, ?_⟩)
  rw [show i = t by omega]
  ((with_reducible refine i_Seq (i_If (i_cOr (i_cOr (i_cN (i_A4 ?_)))))); (with_reducible refine i_f (by omega) ?_); (with_reducible refine i_cI_lt (i_L3 (i_I ?_))); (with_reducible refine i_f (by omega) ?_); (with_reducible refine i_cI_gt (i_L3 (i_I ?_))); (with_reducible refine i_f (by omega) ?_); (with_reducible refine i_Seq (i_sCall (i_as1 (i_FR (i_FR (i_A0 ?_)))))); (with_reducible refine i_fldR (by assumption) ?_); (with_reducible refine i_fldR (by assumption) ?_); (with_reducible refine i_as1 (i_FR (i_A4 ?_))); (with_reducible refine i_fldR (by assumption) ?_); (with_reducible refine i_as0 ?_); (with_reducible refine i_recv0 (by assumption) ?_))
  refine c_pbecome hO hdp hP (by omega) hn2 (hA.pc hw) (fun M1 f1 g1 => ⟨rfl, ?_⟩)
  have e1 : M1 ((1 : Nat) : Int) ((3 : Nat) : Int) = ((td : Nat) : Int) := by rw [f1 _ _ (by omega)]; exact d2
  ((with_reducible refine i_Seq (i_Set (i_Call (i_as1 (i_FR (i_A0 ?_)))))); (with_reducible refine i_fldR (by assumption) ?_); (with_reducible refine i_as1 (i_Call (i_as1 (i_FR (i_A0 ?_))))); (with_reducible refine i_fldR (by assumption) ?_); (with_reducible refine i_as0 ?_); (with_reducible refine i_recv0 (by assumption) ?_); (refine c_now hO hS e1 htd ⟨_, rfl, ?_⟩); (with_reducible refine i_as1 (i_FR (i_A0 ?_))); (with_reducible refine i_fldR (by assumption) ?_); (with_reducible refine i_as0 ?_); (with_reducible refine i_recv0 (by assumption) ?_); simp only [w_set0, w_set1, w_setn0, w_setn1])
  refine c_tellA hO (zRl_106 hS) hd hy (by omega) (by omega) (by omega) (hyN.to (fun b j a1 a2 => f1 b j (by omega))) hR g1 hn2 (fun M2 f2 g2 => ⟨_, rfl, ?_⟩)
  have k2 : ∀ b j, ¬ (b = ((106 : Nat) : Int) ∨ b = ((107 : Nat) : Int) ∨ ((166 : Nat) : Int) ≤ b ∧ b ≤ ((178 : Nat) : Int) ∨ ((183 : Nat) : Int) ≤ b ∧ b ≤ ((184 : Nat) : Int)) → M2 b j = M b j := fun b j q => by rw [f2 b j (by omega), f1 b j (by omega)]
  have g2' : zPC M2 167 n (tf A) := g1.fr (fun b j a1 a2 => f2 b j (by omega))
  ((with_reducible refine i_Seq (i_Set (i_I (i_Seq (i_Blk (i_Seq (i_Set (i_I ?_)))))))); simp only [w_set0, w_set1, w_setn0, w_setn1])
  refine w_ForN k (fun i ρ M' => (∃ l, ρ = ((0 : Nat) : Int) :: ((t : Nat) : Int) :: seed :: ((k : Nat) : Int) :: ((185 + 13 * t : Nat) : Int) :: ((zLgt n (N td) (tf A) : Nat) : Int) :: ((zcnt (zOdd n (N td) (tf A) seed) i : Nat) : Int) :: ((i : Nat) : Int) :: l) ∧ (∀ b j, ¬ (b = ((106 : Nat) : Int) ∨ b = ((107 : Nat) : Int) ∨ ((166 : Nat) : Int) ≤ b ∧ b ≤ ((178 : Nat) : Int) ∨ ((183 : Nat) : Int) ≤ b ∧ b ≤ ((184 : Nat) : Int)) → M' b j = M b j) ∧ zPC M' 167 n (tf A)) ⟨⟨_, rfl⟩, k2, g2'⟩ ?_ ?_
  · rintro i ρ M3 X hi ⟨⟨l, rfl⟩, f3, g3⟩ hX
    have e3 : M3 ((1 : Nat) : Int) ((3 : Nat) : Int) = ((td : Nat) : Int) := by rw [f3 _ _ (by omega)]; exact d2
    have hzc := zcnt_le (zOdd n (N td) (tf A) seed) i
    have hX2 : ∀ l M' (c : Nat), (∀ b j, ¬ (b = ((106 : Nat) : Int) ∨ b = ((107 : Nat) : Int) ∨ ((166 : Nat) : Int) ≤ b ∧ b ≤ ((178 : Nat) : Int) ∨ ((183 : Nat) : Int) ≤ b ∧ b ≤ ((184 : Nat) : Int)) → M' b j = M b j) → zPC M' 167 n (tf A) → c = zcnt (zOdd n (N td) (tf A) seed) i + (if zOdd n (N td) (tf A) seed i = true then 1 else 0) → X (((0 : Nat) : Int) :: ((t : Nat) : Int) :: seed :: ((k : Nat) : Int) :: ((185 + 13 * t : Nat) : Int) :: ((zLgt n (N td) (tf A) : Nat) : Int) :: ((c : Nat) : Int) :: ((i + 1 : Nat) : Int) :: l) M' := fun l M' c a1 a2 hc => by subst hc; exact hX _ _ ⟨⟨l, rfl⟩, a1, a2⟩
    clear hX
    ((with_reducible refine i_turn (i_cI_lt (i_L7 (i_L3 ?_)))); (with_reducible refine i_t (by omega) ?_); (with_reducible refine i_Seq (i_sCall (i_as1 (i_FR (i_A0 ?_))))); (with_reducible refine i_fldR (by assumption) ?_); (with_reducible refine i_as1 (i_Call (i_as1 (i_FR (i_A0 ?_))))); (with_reducible refine i_fldR (by assumption) ?_); (with_reducible refine i_as0 ?_); (with_reducible refine i_recv0 (by assumption) ?_); (refine c_now hO hS e3 htd ⟨_, rfl, ?_⟩); (with_reducible refine i_as1 (i_Add (i_L2 (i_L7 (i_as0 ?_))))); (with_reducible refine i_recv0 (by assumption) ?_))
    refine c_shuffle hO hs hy (by omega) (hyN.to (fun b j a1 a2 => f3 b j (by omega))) hR hn2 (fun M4 f4 g4 => ⟨rfl, ?_⟩)
    ((with_reducible refine i_If (i_cI_le (i_Call (i_as1 (i_FR (i_A0 ?_)))))); (with_reducible refine i_fldR (by assumption) ?_); (with_reducible refine i_as1 (i_FR (i_A0 ?_))); (with_reducible refine i_fldR (by assumption) ?_); (with_reducible refine i_as1 (i_FR (i_A0 ?_))); (with_reducible refine i_fldR (by assumption) ?_); (with_reducible refine i_as0 ?_); (with_reducible refine i_recv0 (by assumption) ?_))
    refine c_tellA hO (zRl_106 hS) hd hs (by omega) (by omega) (by omega) g4 (zCh_reg hR hn2 _) (g3.fr (fun b j a1 a2 => f4 b j (by omega))) hn2 (fun M5 f5 g5 => ⟨_, rfl, ?_⟩)
    have k5 : ∀ b j, ¬ (b = ((106 : Nat) : Int) ∨ b = ((107 : Nat) : Int) ∨ ((166 : Nat) : Int) ≤ b ∧ b ≤ ((178 : Nat) : Int) ∨ ((183 : Nat) : Int) ≤ b ∧ b ≤ ((184 : Nat) : Int)) → M5 b j = M b j := fun b j q => by rw [f5 b j (by omega), f4 b j (by omega), f3 b j q]
    have g5' : zPC M5 167 n (tf A) := g3.fr (fun b j a1 a2 => by rw [f5 b j (by omega), f4 b j (by omega)])
    have hX3 := fun l c => hX2 l M5 c k5 g5'
    clear hX2
    by_cases w : zLgt n (zCh n (N td) (zw32 (seed + ((i : Nat) : Int)))) (tf A) ≤ zLgt n (N td) (tf A)
    · rw [if_pos (show zOdd n (N td) (tf A) seed i = true from decide_eq_true w)] at hX3
      generalize zcnt (zOdd n (N td) (tf A) seed) i = z at hX3 hzc ⊢
      ((with_reducible refine i_L5 ?_); (with_reducible refine i_t (by omega) ?_); (with_reducible refine i_Inc6 (i_up ?_)); rw [zx_inc (by omega)]; simp only [w_set0, w_set1, w_setn0, w_setn1]; (with_reducible refine i_Inc7 ?_); rw [zx_inc (by omega)]; simp only [w_set0, w_set1, w_setn0, w_setn1])
      exact hX3 _ _ rfl
    · rw [if_neg (show ¬ zOdd n (N td) (tf A) seed i = true from fun z => w (of_decide_eq_true z))] at hX3
      generalize zcnt (zOdd n (N td) (tf A) seed) i = z at hX3 hzc ⊢
      ((with_reducible refine i_L5 ?_); (with_reducible refine i_f (by omega) ?_); (with_reducible refine i_up (i_Inc7 ?_)); rw [zx_inc (by omega)]; simp only [w_set0, w_set1, w_setn0, w_setn1])
      exact hX3 _ _ rfl
  · rintro ρ M3 X ⟨⟨l, rfl⟩, f3, g3⟩
    ((with_reducible refine i_turn (i_cI_lt (i_L7 (i_L3 ?_)))); (with_reducible refine i_f (by omega) ?_); (with_reducible refine i_RetI (i_L6 ?_)))
    exact hk M3 f3
