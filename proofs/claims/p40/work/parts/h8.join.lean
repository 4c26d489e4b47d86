/-! ===== together, apart: both sides ===== -/
theorem zjc_cg {n a b : Nat} {A : zTl} {T : Nat → Nat → Bool} (hn : 0 < n) (hw : zTw n A) : zRq n T (zjc (zcg n (tf A)) a b) = zRq n T (zjc (tf A) a b) := zRq_ext hn (fun p q hp hq => by
  unfold zjc
  rw [zcg_in hp, zcg_in hq, (hw.1.2.2 p hp).2, (hw.1.2.2 q hq).2])
/-- a post taken out -/
def zap (A : zTl) (r : Nat) : Nat → Nat := fun q => if q = r then tm A else tf A q
theorem zap_cg {n r : Nat} {A : zTl} {T : Nat → Nat → Bool} (hn : 0 < n) (hw : zTw n A) : zRq n T (fun q => if q = r then 16 else zcg n (tf A) q) = zRq n T (zap A r) := zRq_ext hn (fun p q hp hq => by
  have h1 := (hw.1.2.2 p hp)
  have h2 := (hw.1.2.2 q hq)
  have h3 := hw.1.1
  unfold zap
  try dsimp only
  rw [zcg_in hp, zcg_in hq, h1.2, h2.2]
  split <;> split <;> omega)
theorem zSz_cg {n r : Nat} {A : zTl} (hw : zTw n A) (hr : r < n) : zSz (zcg n (tf A)) n (zcg n (tf A) r) = zSz (tf A) n (tf A r) := zcnt_ext fun q hq => by rw [zcg_in hq, zcg_in hr, (hw.1.2.2 q hq).2, (hw.1.2.2 r hr).2]
theorem m_together_bad {O : zOm} (hO : zWld O) (hS : zS O = zmS zC0) {t a b : Int} {T : Nat} {A : Nat → zTl} {M : zMem} {K : Option zV → zMem → Prop} (hT : M 250 ((11 : Nat) : Int) = ((T : Nat) : Int)) (hT5 : T ≤ 5) (hA : ∀ t : Nat, t < T → M ((258 : Nat) : Int) ((t : Nat) : Int) = ((tm (A t) : Nat) : Int)) (hb : ∀ t' : Nat, t = ((t' : Nat) : Int) → t' < T → ¬ ((0 ≤ a ∧ a < ((tm (A t') : Nat) : Int)) ∧ (0 ≤ b ∧ b < ((tm (A t') : Nat) : Int)) ∧ a ≠ b)) (hk : K (some (0, -1)) M) : zR O F_Model_together [(2, 250), (0, t), (0, a), (0, b)] M K := by
  apply r_Model_together hO
  unfold B_Model_together
  have f1 := zMF (k := 1) hS rfl; have f26 := zMF (k := 26) hS rfl; have a272 := zMA (a := 272) (ty := .int) (n := 16) hS rfl; have zo := zMO hS
  by_cases ht : 0 ≤ t ∧ t < ((T : Nat) : Int)
  · obtain ⟨t, rfl⟩ : ∃ t' : Nat, t = ((t' : Nat) : Int) := ⟨t.toNat, by omega⟩
    have h1 := hA t (by omega)
    have h2 := hb t rfl (by omega)
    by_cases e1 : 0 ≤ a ∧ a < ((tm (A t) : Nat) : Int)
    · by_cases e2 : 0 ≤ b ∧ b < ((tm (A t) : Nat) : Int)
      · ((with_reducible refine i_Seq (i_If (i_cOr (i_cOr (i_cNot (i_cZ_ne (i_Call (i_as1 (i_A0 (i_as1 (i_L1 (i_as1 (i_L2 (i_as0 ?_)))))))))))))); (with_reducible refine i_recv0 (by assumption) ?_); (refine m_isBox hO hS hT hT5 (by omega) h1 ⟨_, rfl, ?_⟩); (rw [decide_eq_true e1]); rw [zbI_t]; (with_reducible refine i_t (by omega) ?_); (with_reducible refine i_cNot (i_cZ_ne (i_Call (i_as1 (i_A0 (i_as1 (i_L1 (i_as1 (i_L3 (i_as0 ?_)))))))))); (with_reducible refine i_recv0 (by assumption) ?_); (refine m_isBox hO hS hT hT5 (by omega) h1 ⟨_, rfl, ?_⟩); (rw [decide_eq_true e2]); rw [zbI_t]; (with_reducible refine i_t (by omega) ?_); (with_reducible refine i_cI_eq (i_L2 (i_L3 ?_))); (with_reducible refine i_t (by omega) ?_); (with_reducible refine i_RetI (i_I ?_)))
        exact hk
      · ((with_reducible refine i_Seq (i_If (i_cOr (i_cOr (i_cNot (i_cZ_ne (i_Call (i_as1 (i_A0 (i_as1 (i_L1 (i_as1 (i_L2 (i_as0 ?_)))))))))))))); (with_reducible refine i_recv0 (by assumption) ?_); (refine m_isBox hO hS hT hT5 (by omega) h1 ⟨_, rfl, ?_⟩); (rw [decide_eq_true e1]); rw [zbI_t]; (with_reducible refine i_t (by omega) ?_); (with_reducible refine i_cNot (i_cZ_ne (i_Call (i_as1 (i_A0 (i_as1 (i_L1 (i_as1 (i_L3 (i_as0 ?_)))))))))); (with_reducible refine i_recv0 (by assumption) ?_); (refine m_isBox hO hS hT hT5 (by omega) h1 ⟨_, rfl, ?_⟩); (rw [decide_eq_false e2]); rw [zbI_f]; (with_reducible refine i_f (by omega) ?_); (with_reducible refine i_RetI (i_I ?_)))
        exact hk
    · ((with_reducible refine i_Seq (i_If (i_cOr (i_cOr (i_cNot (i_cZ_ne (i_Call (i_as1 (i_A0 (i_as1 (i_L1 (i_as1 (i_L2 (i_as0 ?_)))))))))))))); (with_reducible refine i_recv0 (by assumption) ?_); (refine m_isBox hO hS hT hT5 (by omega) h1 ⟨_, rfl, ?_⟩); (rw [decide_eq_false e1]); rw [zbI_f]; (with_reducible refine i_f (by omega) ?_); (with_reducible refine i_RetI (i_I ?_)))
      exact hk
  · ((with_reducible refine i_Seq (i_If (i_cOr (i_cOr (i_cNot (i_cZ_ne (i_Call (i_as1 (i_A0 (i_as1 (i_L1 (i_as1 (i_L2 (i_as0 ?_)))))))))))))); (with_reducible refine i_recv0 (by assumption) ?_); (refine m_isBox_bad hO hS hT ht ⟨_, rfl, ?_⟩); (with_reducible refine i_f (by omega) ?_); (with_reducible refine i_RetI (i_I ?_)))
    exact hk
theorem m_together {O : zOm} (hO : zWld O) (hS : zS O = zmS zC0) {t T n x y : Nat} {A : zTl} {M : zMem} {K : Option zV → zMem → Prop} (hT : M 250 ((11 : Nat) : Int) = ((T : Nat) : Int)) (hT5 : T ≤ 5) (ht : t < T) (hn : M 250 ((1 : Nat) : Int) = ((n : Nat) : Int)) (hn1 : 0 < n) (hn2 : n ≤ 16) (hA : rTe M t n A) (hw : zTw n A) (h01 : ∀ j : Nat, j < 256 → M ((267 : Nat) : Int) ((j : Nat) : Int) = 0 ∨ M ((267 : Nat) : Int) ((j : Nat) : Int) = 1) (hx : x < tm A) (hy : y < tm A) (hxy : x ≠ y)
    (hk : ∀ M', (∀ b j, ¬ ((b = 258 ∧ j = ((t : Nat) : Int) ∨ (b = 259 ∨ b = 260 ∨ b = 262 ∨ b = 263) ∧ ((16 * t : Nat) : Int) ≤ j ∧ j < ((16 * t + 16 : Nat) : Int) ∨ (b = 261 ∨ b = 264 ∨ b = 265 ∨ b = 266) ∧ ((256 * t : Nat) : Int) ≤ j ∧ j < ((256 * t + 256 : Nat) : Int)) ∨ ((267 : Nat) : Int) ≤ b ∧ b ≤ ((272 : Nat) : Int) ∨ b = 283 ∨ b = 284) → M' b j = M b j) → rTe M' t n (zRq n (zBd n A) (zjc (tf A) x y)) → K (some (0, ((zLgt n (zBd n A) (zjc (tf A) x y) : Nat) : Int))) M') : zR O F_Model_together [(2, 250), (0, ((t : Nat) : Int)), (0, ((x : Nat) : Int)), (0, ((y : Nat) : Int))] M K := by
  have h1 := hA.1.1
  have hm := hw.1.1
  apply r_Model_together hO
  unfold B_Model_together
  have f1 := zMF (k := 1) hS rfl; have f26 := zMF (k := 26) hS rfl; have a272 := zMA (a := 272) (ty := .int) (n := 16) hS rfl; have zo := zMO hS
  ((with_reducible refine i_Seq (i_If (i_cOr (i_cOr (i_cNot (i_cZ_ne (i_Call (i_as1 (i_A0 (i_as1 (i_L1 (i_as1 (i_L2 (i_as0 ?_)))))))))))))); (with_reducible refine i_recv0 (by assumption) ?_); (refine m_isBox hO hS hT hT5 ht h1 ⟨_, rfl, ?_⟩); (rw [decide_eq_true (show 0 ≤ ((x : Nat) : Int) ∧ ((x : Nat) : Int) < ((tm A : Nat) : Int) by omega)]); rw [zbI_t]; (with_reducible refine i_t (by omega) ?_); (with_reducible refine i_cNot (i_cZ_ne (i_Call (i_as1 (i_A0 (i_as1 (i_L1 (i_as1 (i_L3 (i_as0 ?_)))))))))); (with_reducible refine i_recv0 (by assumption) ?_); (refine m_isBox hO hS hT hT5 ht h1 ⟨_, rfl, ?_⟩); (rw [decide_eq_true (show 0 ≤ ((y : Nat) : Int) ∧ ((y : Nat) : Int) < ((tm A : Nat) : Int) by omega)]); rw [zbI_t]; (with_reducible refine i_t (by omega) ?_); (with_reducible refine i_cI_eq (i_L2 (i_L3 ?_))); (with_reducible refine i_f (by omega) ?_); (with_reducible refine i_Seq (i_sCall (i_as1 (i_A0 (i_as1 (i_L1 (i_as0 ?_))))))); (with_reducible refine i_recv0 (by assumption) ?_))
  refine m_aimAt hO hS (by omega) hn hn2 hA hw h01 (fun M1 T1 f1' g1 e1 => ⟨rfl, ?_⟩)
  have n1 : M1 250 ((1 : Nat) : Int) = ((n : Nat) : Int) := by rw [f1' _ _ (by omega)]; exact hn
  have A1 : rTe M1 t n A := hA.to hn2 hw (fun b j q => f1' b j (by omega))
  ((with_reducible refine i_Seq (i_sCall (i_as1 (i_A0 (i_as1 (i_L1 (i_as0 ?_))))))); (with_reducible refine i_recv0 (by assumption) ?_))
  refine m_labelsOf hO hS (by omega) n1 hn2 A1.1.2.1 (fun M2 f2 g2 => ⟨rfl, ?_⟩)
  ((with_reducible refine i_Seq (i_Blk (i_Seq (i_Set (i_I ?_))))); simp only [w_set0, w_set1, w_setn0, w_setn1])
  refine w_ForN n (fun k ρ M' => (∃ l, ρ = 250 :: ((t : Nat) : Int) :: ((x : Nat) : Int) :: ((y : Nat) : Int) :: ((k : Nat) : Int) :: l) ∧ (∀ b j, ¬ b = 272 → M' b j = M2 b j) ∧ ∀ p : Nat, p < n → M' ((272 : Nat) : Int) ((p : Nat) : Int) = ((if p < k then zjc (tf A) x y p else tf A p : Nat) : Int)) ⟨⟨_, rfl⟩, fun _ _ _ => rfl, fun p hp => by rw [if_neg (by omega)]; exact g2 p hp⟩ ?_ ?_
  · rintro k ρ M3 X hk1 ⟨⟨l, rfl⟩, f3, g3⟩ hX
    have n3 : M3 250 ((1 : Nat) : Int) = ((n : Nat) : Int) := by rw [f3 _ _ (by omega), f2 _ _ (by omega)]; exact n1
    have v3 := g3 k hk1
    rw [if_neg (Nat.lt_irrefl _)] at v3
    by_cases e : tf A k = y
    · have hz : zjc (tf A) x y k = x := if_pos e
      ((with_reducible refine i_turn (i_cI_lt (i_L4 (i_F (i_A0 ?_))))); (with_reducible refine i_fld (by assumption) ?_); (rw [n3]); (with_reducible refine i_t (by omega) ?_); (with_reducible refine i_If (i_cI_eq (i_IA (i_FR (i_A0 ?_))))); (with_reducible refine i_fldR (by assumption) ?_); (with_reducible refine i_L4 ?_); (with_reducible refine i_in (by assumption) (by omega) (by omega) ?_); (with_reducible refine i_L3 ?_); (rw [v3]); (with_reducible refine i_t (by omega) ?_); (with_reducible refine i_sIA (i_FR (i_A0 ?_))); (with_reducible refine i_fldR (by assumption) ?_); (with_reducible refine i_L4 (i_L2 ?_)); (with_reducible refine i_in (by assumption) (by omega) (by omega) ?_); (with_reducible refine i_up (i_Inc4 ?_)); rw [zx_inc (by omega)]; simp only [w_set0, w_set1, w_setn0, w_setn1])
      refine hX _ _ ⟨⟨_, rfl⟩, fun b j q => by rw [zg_n _ _ _ (by omega)]; exact f3 b j q, fun p hp => ?_⟩
      by_cases w : p = k
      · subst w; rw [zg_s, if_pos (by omega), hz]
      · rw [zg_m _ _ _ _ _ (by omega), g3 p hp]
        by_cases w2 : p < k
        · rw [if_pos w2, if_pos (by omega)]
        · rw [if_neg w2, if_neg (by omega)]
    · have hz : zjc (tf A) x y k = tf A k := if_neg e
      ((with_reducible refine i_turn (i_cI_lt (i_L4 (i_F (i_A0 ?_))))); (with_reducible refine i_fld (by assumption) ?_); (rw [n3]); (with_reducible refine i_t (by omega) ?_); (with_reducible refine i_If (i_cI_eq (i_IA (i_FR (i_A0 ?_))))); (with_reducible refine i_fldR (by assumption) ?_); (with_reducible refine i_L4 ?_); (with_reducible refine i_in (by assumption) (by omega) (by omega) ?_); (with_reducible refine i_L3 ?_); (rw [v3]); (with_reducible refine i_f (by omega) ?_); (with_reducible refine i_up (i_Inc4 ?_)); rw [zx_inc (by omega)]; simp only [w_set0, w_set1, w_setn0, w_setn1])
      refine hX _ _ ⟨⟨_, rfl⟩, f3, fun p hp => ?_⟩
      rw [g3 p hp]
      by_cases w : p = k
      · subst w; rw [if_neg (Nat.lt_irrefl _), if_pos (by omega), hz]
      · by_cases w2 : p < k
        · rw [if_pos w2, if_pos (by omega)]
        · rw [if_neg w2, if_neg (by omega)]
  · rintro ρ M3 X ⟨⟨l, rfl⟩, f3, g3⟩
    have n3 : M3 250 ((1 : Nat) : Int) = ((n : Nat) : Int) := by rw [f3 _ _ (by omega), f2 _ _ (by omega)]; exact n1
    have gl : rLab M3 n (zjc (tf A) x y) := fun p hp => by rw [g3 p hp, if_pos hp]
    ((with_reducible refine i_turn (i_cI_lt (i_L4 (i_F (i_A0 ?_))))); (with_reducible refine i_fld (by assumption) ?_); (rw [n3]); (with_reducible refine i_f (by omega) ?_); (with_reducible refine i_Seq (i_sCall (i_as1 (i_A0 (i_as1 (i_L1 (i_as0 ?_))))))); (with_reducible refine i_recv0 (by assumption) ?_))
    refine m_settle hO hS (by omega) n3 hn2 gl (zjc_16 (by omega) hw.f16) (g1.to (fun j => by rw [f3 _ _ (by omega), f2 _ _ (by omega)])) (fun M4 f4 g4 => ⟨rfl, ?_⟩)
    rw [zRq_T hn1 e1] at g4
    have n4 : M4 250 ((1 : Nat) : Int) = ((n : Nat) : Int) := by rw [f4 _ _ (by omega)]; exact n3
    ((with_reducible refine i_RetI (i_Call (i_as1 (i_A0 (i_as1 (i_L1 (i_as0 ?_))))))); (with_reducible refine i_recv0 (by assumption) ?_))
    refine m_lengthOf hO hS (by omega) n4 hn2 g4 (zRq_w hn2) (fun M5 f5 _ _ => ⟨_, rfl, ?_⟩)
    rw [tLen_rq hn2]
    (skip)
    exact hk M5 (fun b j q => by rw [f5 b j (by omega), f4 b j (by omega), f3 b j (by omega), f2 b j (by omega), f1' b j (by omega)]) (g4.to hn2 (zRq_w hn2) (fun b j q => f5 b j (by omega)))
theorem c_together_bad {O : zOm} (hO : zWld O) (hS : zS O = zmS zC0) {t a b : Int} {T n : Nat} {A : Nat → zTl} {M : zMem} {K : Option zV → zMem → Prop} (hT : M ((0 : Nat) : Int) ((4 : Nat) : Int) = ((T : Nat) : Int)) (hT5 : T ≤ 5) (hA : ∀ t : Nat, t < T → zTR M (185 + 13 * t) n (A t)) (hb : ∀ t' : Nat, t = ((t' : Nat) : Int) → t' < T → ¬ ((0 ≤ a ∧ a < ((tm (A t') : Nat) : Int)) ∧ (0 ≤ b ∧ b < ((tm (A t') : Nat) : Int)) ∧ a ≠ b)) (hk : K (some (0, -1)) M) : zR O F_ToldNet_together [(2, ((0 : Nat) : Int)), (0, t), (0, a), (0, b)] M K := by
  apply r_ToldNet_together hO
  unfold B_ToldNet_together
  have f0_13 := zf_0_13 hS; have f0_6 := zf_0_6 hS; have z0 := zo_0 hS
  ((with_reducible refine i_Seq (i_Set (i_Call (i_as1 (i_A0 (i_as1 (i_L1 (i_as0 ?_)))))))); (with_reducible refine i_recv0 (by assumption) ?_); simp only [w_set0, w_set1, w_setn0, w_setn1])
  refine c_find hO hS hT hT5 (fun hx => ⟨_, rfl, ?_⟩) (fun k e hk1 => ⟨_, rfl, ?_⟩)
  · ((with_reducible refine i_Seq (i_If (i_cOr (i_cOr (i_cOr (i_cN (i_A4 ?_))))))); simp only [w_set0, w_set1, w_setn0, w_setn1]; (with_reducible refine i_t trivial ?_); (with_reducible refine i_RetI (i_I ?_)))
    exact hk
  · obtain ⟨⟨x0, x1, x2, x3, x4, x5, x6, x7⟩, -, hP, -⟩ := zTelT hS (show k < 5 by omega)
    have p0 := hP.1
    have h1 := (hA k hk1).1.2.1
    have h2 := hb k e hk1
    by_cases e1 : 0 ≤ a ∧ a < ((tm (A k) : Nat) : Int)
    · by_cases e2 : 0 ≤ b ∧ b < ((tm (A k) : Nat) : Int)
      · ((with_reducible refine i_Seq (i_If (i_cOr (i_cOr (i_cOr (i_cN (i_A4 ?_))))))); (with_reducible refine i_f (by omega) ?_); (with_reducible refine i_cNot (i_cZ_ne (i_Call (i_as1 (i_FR (i_A4 ?_)))))); (with_reducible refine i_fldR (by assumption) ?_); (with_reducible refine i_as1 (i_L2 (i_as0 ?_))); (with_reducible refine i_recv0 (by assumption) ?_); (refine c_isBox hO hP h1 ⟨_, rfl, ?_⟩); (rw [decide_eq_true e1]); rw [zbI_t]; (with_reducible refine i_t (by omega) ?_); (with_reducible refine i_cNot (i_cZ_ne (i_Call (i_as1 (i_FR (i_A4 ?_)))))); (with_reducible refine i_fldR (by assumption) ?_); (with_reducible refine i_as1 (i_L3 (i_as0 ?_))); (with_reducible refine i_recv0 (by assumption) ?_); (refine c_isBox hO hP h1 ⟨_, rfl, ?_⟩); (rw [decide_eq_true e2]); rw [zbI_t]; (with_reducible refine i_t (by omega) ?_); (with_reducible refine i_cI_eq (i_L2 (i_L3 ?_))); (with_reducible refine i_t (by omega) ?_); (with_reducible refine i_RetI (i_I ?_)))
        exact hk
      · ((with_reducible refine i_Seq (i_If (i_cOr (i_cOr (i_cOr (i_cN (i_A4 ?_))))))); (with_reducible refine i_f (by omega) ?_); (with_reducible refine i_cNot (i_cZ_ne (i_Call (i_as1 (i_FR (i_A4 ?_)))))); (with_reducible refine i_fldR (by assumption) ?_); (with_reducible refine i_as1 (i_L2 (i_as0 ?_))); (with_reducible refine i_recv0 (by assumption) ?_); (refine c_isBox hO hP h1 ⟨_, rfl, ?_⟩); (rw [decide_eq_true e1]); rw [zbI_t]; (with_reducible refine i_t (by omega) ?_); (with_reducible refine i_cNot (i_cZ_ne (i_Call (i_as1 (i_FR (i_A4 ?_)))))); (with_reducible refine i_fldR (by assumption) ?_); (with_reducible refine i_as1 (i_L3 (i_as0 ?_))); (with_reducible refine i_recv0 (by assumption) ?_); (refine c_isBox hO hP h1 ⟨_, rfl, ?_⟩); (rw [decide_eq_false e2]); rw [zbI_f]; (with_reducible refine i_f (by omega) ?_); (with_reducible refine i_RetI (i_I ?_)))
        exact hk
    · ((with_reducible refine i_Seq (i_If (i_cOr (i_cOr (i_cOr (i_cN (i_A4 ?_))))))); (with_reducible refine i_f (by omega) ?_); (with_reducible refine i_cNot (i_cZ_ne (i_Call (i_as1 (i_FR (i_A4 ?_)))))); (with_reducible refine i_fldR (by assumption) ?_); (with_reducible refine i_as1 (i_L2 (i_as0 ?_))); (with_reducible refine i_recv0 (by assumption) ?_); (refine c_isBox hO hP h1 ⟨_, rfl, ?_⟩); (rw [decide_eq_false e1]); rw [zbI_f]; (with_reducible refine i_f (by omega) ?_); (with_reducible refine i_RetI (i_I ?_)))
      exact hk
theorem c_together {O : zOm} (hO : zWld O) (hS : zS O = zmS zC0) {t T n x y : Nat} {A : zTl} {M : zMem} {K : Option zV → zMem → Prop} (hT : M ((0 : Nat) : Int) ((4 : Nat) : Int) = ((T : Nat) : Int)) (hT5 : T ≤ 5) (ht : t < T) (hn1 : 0 < n) (hn2 : n ≤ 16) (hA : zTR M (185 + 13 * t) n A) (hw : zTw n A) (hx : x < tm A) (hy : y < tm A) (hxy : x ≠ y)
    (hk : ∀ M', (∀ b j, ¬ (b = ((106 : Nat) : Int) ∨ b = ((107 : Nat) : Int) ∨ ((183 : Nat) : Int) ≤ b ∧ b ≤ ((184 : Nat) : Int) ∨ ((185 + 13 * t : Nat) : Int) ≤ b ∧ b ≤ ((197 + 13 * t : Nat) : Int)) → M' b j = M b j) → zTR M' (185 + 13 * t) n (zRq n (zBd n A) (zjc (tf A) x y)) → K (some (0, ((zLgt n (zBd n A) (zjc (tf A) x y) : Nat) : Int))) M') : zR O F_ToldNet_together [(2, ((0 : Nat) : Int)), (0, ((t : Nat) : Int)), (0, ((x : Nat) : Int)), (0, ((y : Nat) : Int))] M K := by
  have hxT := zTelT hS (show t < 5 by omega)
  obtain ⟨⟨x0, x1, x2, x3, x4, x5, x6, x7⟩, -, hP, -⟩ := id hxT
  have p0 := hP.1
  have h1 := hA.1.2.1
  have hm := hw.1.1
  have hs := zNet183 hS
  have o106 := zo_106 hS
  apply r_ToldNet_together hO
  unfold B_ToldNet_together
  have f0_13 := zf_0_13 hS; have f0_6 := zf_0_6 hS; have z0 := zo_0 hS
  ((with_reducible refine i_Seq (i_Set (i_Call (i_as1 (i_A0 (i_as1 (i_L1 (i_as0 ?_)))))))); (with_reducible refine i_recv0 (by assumption) ?_); simp only [w_set0, w_set1, w_setn0, w_setn1])
  refine c_find hO hS hT hT5 (fun hx => absurd (show 0 ≤ ((t : Nat) : Int) ∧ ((t : Nat) : Int) < ((T : Nat) : Int) by omega) hx) (fun k e hk1 => ⟨_, rfl, ?_⟩)
  rw [show k = t by omega]
  ((with_reducible refine i_Seq (i_If (i_cOr (i_cOr (i_cOr (i_cN (i_A4 ?_))))))); (with_reducible refine i_f (by omega) ?_); (with_reducible refine i_cNot (i_cZ_ne (i_Call (i_as1 (i_FR (i_A4 ?_)))))); (with_reducible refine i_fldR (by assumption) ?_); (with_reducible refine i_as1 (i_L2 (i_as0 ?_))); (with_reducible refine i_recv0 (by assumption) ?_); (refine c_isBox hO hP h1 ⟨_, rfl, ?_⟩); (rw [decide_eq_true (show 0 ≤ ((x : Nat) : Int) ∧ ((x : Nat) : Int) < ((tm A : Nat) : Int) by omega)]); rw [zbI_t]; (with_reducible refine i_t (by omega) ?_); (with_reducible refine i_cNot (i_cZ_ne (i_Call (i_as1 (i_FR (i_A4 ?_)))))); (with_reducible refine i_fldR (by assumption) ?_); (with_reducible refine i_as1 (i_L3 (i_as0 ?_))); (with_reducible refine i_recv0 (by assumption) ?_); (refine c_isBox hO hP h1 ⟨_, rfl, ?_⟩); (rw [decide_eq_true (show 0 ≤ ((y : Nat) : Int) ∧ ((y : Nat) : Int) < ((tm A : Nat) : Int) by omega)]); rw [zbI_t]; (with_reducible refine i_t (by omega) ?_); (with_reducible refine i_cI_eq (i_L2 (i_L3 ?_))); (with_reducible refine i_f (by omega) ?_); (with_reducible refine i_Seq (i_sCall (i_as1 (i_A4 (i_as1 (i_FR (i_A0 ?_))))))); (with_reducible refine i_fldR (by assumption) ?_); (with_reducible refine i_as0 ?_); (with_reducible refine i_recv0 (by assumption) ?_))
  refine c_build hO hxT hs hA (fun M1 f1 g1 => ⟨rfl, ?_⟩)
  ((with_reducible refine i_Seq (i_sCall (i_as1 (i_FR (i_A4 ?_))))); (with_reducible refine i_fldR (by assumption) ?_); (with_reducible refine i_as1 (i_L2 (i_as1 (i_L3 (i_as0 ?_))))); (with_reducible refine i_recv0 (by assumption) ?_))
  refine c_pjoin hO hP hn1 hn2 ((hA.pc hw).fr (fun b j a1 a2 => f1 b j (by omega))) (show x ≤ 16 by omega) (show y ≤ 16 by omega) (fun M2 f2 g2 => ⟨rfl, ?_⟩)
  ((with_reducible refine i_RetI (i_Call (i_as1 (i_FR (i_A0 ?_))))); (with_reducible refine i_fldR (by assumption) ?_); (with_reducible refine i_as1 (i_FR (i_A0 ?_))); (with_reducible refine i_fldR (by assumption) ?_); (with_reducible refine i_as1 (i_A4 (i_as0 ?_))); (with_reducible refine i_recv0 (by assumption) ?_))
  refine c_tellA hO (zRl_106 hS) hxT hs (by omega) (by omega) (by omega) (g1.to (fun b j a1 a2 => f2 b j (by omega))) (zBd_reg hw) g2 hn2 (fun M3 f3 g3 => ⟨_, rfl, ?_⟩)
  rw [zjc_cg hn1 hw] at g3
  rw [show zLgt n (zBd n A) (zjc (zcg n (tf A)) x y) = zLgt n (zBd n A) (zjc (tf A) x y) from congrArg (zPl n) (zjc_cg hn1 hw)]
  (skip)
  exact hk M3 (fun b j q => by rw [f3 b j (by omega), f2 b j (by omega), f1 b j (by omega)]) g3
theorem m_apart_bad {O : zOm} (hO : zWld O) (hS : zS O = zmS zC0) {t p : Int} {T n : Nat} {M : zMem} {K : Option zV → zMem → Prop} (hT : M 250 ((11 : Nat) : Int) = ((T : Nat) : Int)) (hn : M 250 ((1 : Nat) : Int) = ((n : Nat) : Int)) (hb : ¬ ((0 ≤ t ∧ t < ((T : Nat) : Int)) ∧ 0 ≤ p ∧ p < ((n : Nat) : Int))) (hk : K (some (0, -1)) M) : zR O F_Model_apart [(2, 250), (0, t), (0, p)] M K := by
  apply r_Model_apart hO
  unfold B_Model_apart
  have f14 := zMF (k := 14) hS rfl; have a260 := zMA (a := 260) (ty := .int) (n := 112) hS rfl; have f13 := zMF (k := 13) hS rfl; have a259 := zMA (a := 259) (ty := .int) (n := 112) hS rfl; have f26 := zMF (k := 26) hS rfl; have a272 := zMA (a := 272) (ty := .int) (n := 16) hS rfl; have f12 := zMF (k := 12) hS rfl; have a258 := zMA (a := 258) (ty := .int) (n := 7) hS rfl; have zo := zMO hS
  by_cases ht : 0 ≤ t ∧ t < ((T : Nat) : Int)
  · ((with_reducible refine i_Seq (i_If (i_cOr (i_cOr (i_cNot (i_cZ_ne (i_Call (i_as1 (i_A0 (i_as1 (i_L1 (i_as0 ?_)))))))))))); (with_reducible refine i_recv0 (by assumption) ?_); (refine m_isTelling hO hS hT ⟨_, rfl, ?_⟩); (rw [decide_eq_true ht]); rw [zbI_t]; (with_reducible refine i_t (by omega) ?_); (with_reducible refine i_cNot (i_cZ_ne (i_Call (i_as1 (i_A0 (i_as1 (i_L2 (i_as0 ?_)))))))); (with_reducible refine i_recv0 (by assumption) ?_); (refine m_isPost hO hS hn ⟨_, rfl, ?_⟩); (rw [decide_eq_false (fun z => hb ⟨ht, z⟩)]); rw [zbI_f]; (with_reducible refine i_f (by omega) ?_); (with_reducible refine i_RetI (i_I ?_)))
    exact hk
  · ((with_reducible refine i_Seq (i_If (i_cOr (i_cOr (i_cNot (i_cZ_ne (i_Call (i_as1 (i_A0 (i_as1 (i_L1 (i_as0 ?_)))))))))))); (with_reducible refine i_recv0 (by assumption) ?_); (refine m_isTelling hO hS hT ⟨_, rfl, ?_⟩); (rw [decide_eq_false ht]); rw [zbI_f]; (with_reducible refine i_f (by omega) ?_); (with_reducible refine i_RetI (i_I ?_)))
    exact hk
theorem m_apart_al {O : zOm} (hO : zWld O) (hS : zS O = zmS zC0) {t p T n : Nat} {A : zTl} {M : zMem} {K : Option zV → zMem → Prop} (hT : M 250 ((11 : Nat) : Int) = ((T : Nat) : Int)) (hT5 : T ≤ 5) (ht : t < T) (hn : M 250 ((1 : Nat) : Int) = ((n : Nat) : Int)) (hn2 : n ≤ 16) (hA : rTe M t n A) (hw : zTw n A) (hp : p < n) (hal : zSz (tf A) n (tf A p) = 1) (hk : K (some (0, -1)) M) : zR O F_Model_apart [(2, 250), (0, ((t : Nat) : Int)), (0, ((p : Nat) : Int))] M K := by
  have h1 := hA.1.2.1 p hp
  have h16 := hw.f16 p hp
  have h2 := hA.1.2.2 (tf A p) h16
  rw [hal] at h2
  generalize tf A p = z at h1 h2 h16
  apply r_Model_apart hO
  unfold B_Model_apart
  have f14 := zMF (k := 14) hS rfl; have a260 := zMA (a := 260) (ty := .int) (n := 112) hS rfl; have f13 := zMF (k := 13) hS rfl; have a259 := zMA (a := 259) (ty := .int) (n := 112) hS rfl; have f26 := zMF (k := 26) hS rfl; have a272 := zMA (a := 272) (ty := .int) (n := 16) hS rfl; have f12 := zMF (k := 12) hS rfl; have a258 := zMA (a := 258) (ty := .int) (n := 7) hS rfl; have zo := zMO hS
  ((with_reducible refine i_Seq (i_If (i_cOr (i_cOr (i_cNot (i_cZ_ne (i_Call (i_as1 (i_A0 (i_as1 (i_L1 (i_as0 ?_)))))))))))); (with_reducible refine i_recv0 (by assumption) ?_); (refine m_isTelling hO hS hT ⟨_, rfl, ?_⟩); (rw [decide_eq_true (show 0 ≤ ((t : Nat) : Int) ∧ ((t : Nat) : Int) < ((T : Nat) : Int) by omega)]); rw [zbI_t]; (with_reducible refine i_t (by omega) ?_); (with_reducible refine i_cNot (i_cZ_ne (i_Call (i_as1 (i_A0 (i_as1 (i_L2 (i_as0 ?_)))))))); (with_reducible refine i_recv0 (by assumption) ?_); (refine m_isPost hO hS hn ⟨_, rfl, ?_⟩); (rw [decide_eq_true (show 0 ≤ ((p : Nat) : Int) ∧ ((p : Nat) : Int) < ((n : Nat) : Int) by omega)]); rw [zbI_t]; (with_reducible refine i_t (by omega) ?_); (with_reducible refine i_cI_eq (i_IA (i_FR (i_A0 ?_)))); (with_reducible refine i_fldR (by assumption) ?_); (with_reducible refine i_Add (i_Mul (i_I (i_L1 (i_IA (i_FR (i_A0 ?_))))))); (with_reducible refine i_fldR (by assumption) ?_); (with_reducible refine i_Add (i_Mul (i_I (i_L1 (i_L2 ?_))))); rw [zx_cmul (by omega)]; rw [zx_add (by omega)]; (with_reducible refine i_in (by assumption) (by omega) (by omega) ?_); (rw [h1]); rw [zx_add (by omega)]; (with_reducible refine i_in (by assumption) (by omega) (by omega) ?_); (with_reducible refine i_I ?_); (rw [h2]); (with_reducible refine i_t (by omega) ?_); (with_reducible refine i_RetI (i_I ?_)))
  exact hk
theorem m_apart {O : zOm} (hO : zWld O) (hS : zS O = zmS zC0) {t p T n : Nat} {A : zTl} {M : zMem} {K : Option zV → zMem → Prop} (hT : M 250 ((11 : Nat) : Int) = ((T : Nat) : Int)) (hT5 : T ≤ 5) (ht : t < T) (hn : M 250 ((1 : Nat) : Int) = ((n : Nat) : Int)) (hn1 : 0 < n) (hn2 : n ≤ 16) (hA : rTe M t n A) (hw : zTw n A) (h01 : ∀ j : Nat, j < 256 → M ((267 : Nat) : Int) ((j : Nat) : Int) = 0 ∨ M ((267 : Nat) : Int) ((j : Nat) : Int) = 1) (hp : p < n) (hal : zSz (tf A) n (tf A p) ≠ 1)
    (hk : ∀ M', (∀ b j, ¬ ((b = 258 ∧ j = ((t : Nat) : Int) ∨ (b = 259 ∨ b = 260 ∨ b = 262 ∨ b = 263) ∧ ((16 * t : Nat) : Int) ≤ j ∧ j < ((16 * t + 16 : Nat) : Int) ∨ (b = 261 ∨ b = 264 ∨ b = 265 ∨ b = 266) ∧ ((256 * t : Nat) : Int) ≤ j ∧ j < ((256 * t + 256 : Nat) : Int)) ∨ ((267 : Nat) : Int) ≤ b ∧ b ≤ ((272 : Nat) : Int) ∨ b = 283 ∨ b = 284) → M' b j = M b j) → rTe M' t n (zRq n (zBd n A) (zap A p)) → K (some (0, ((zLgt n (zBd n A) (zap A p) : Nat) : Int))) M') : zR O F_Model_apart [(2, 250), (0, ((t : Nat) : Int)), (0, ((p : Nat) : Int))] M K := by
  have h1 := hA.1.2.1 p hp
  have h16 := hw.f16 p hp
  have h2 := hA.1.2.2 (tf A p) h16
  have hm := hw.1.1
  generalize hz : tf A p = z at h1 h2 h16 hal
  generalize zSz (tf A) n z = sz at h2 hal
  apply r_Model_apart hO
  unfold B_Model_apart
  have f14 := zMF (k := 14) hS rfl; have a260 := zMA (a := 260) (ty := .int) (n := 112) hS rfl; have f13 := zMF (k := 13) hS rfl; have a259 := zMA (a := 259) (ty := .int) (n := 112) hS rfl; have f26 := zMF (k := 26) hS rfl; have a272 := zMA (a := 272) (ty := .int) (n := 16) hS rfl; have f12 := zMF (k := 12) hS rfl; have a258 := zMA (a := 258) (ty := .int) (n := 7) hS rfl; have zo := zMO hS
  ((with_reducible refine i_Seq (i_If (i_cOr (i_cOr (i_cNot (i_cZ_ne (i_Call (i_as1 (i_A0 (i_as1 (i_L1 (i_as0 ?_)))))))))))); (with_reducible refine i_recv0 (by assumption) ?_); (refine m_isTelling hO hS hT ⟨_, rfl, ?_⟩); (rw [decide_eq_true (show 0 ≤ ((t : Nat) : Int) ∧ ((t : Nat) : Int) < ((T : Nat) : Int) by omega)]); rw [zbI_t]; (with_reducible refine i_t (by omega) ?_); (with_reducible refine i_cNot (i_cZ_ne (i_Call (i_as1 (i_A0 (i_as1 (i_L2 (i_as0 ?_)))))))); (with_reducible refine i_recv0 (by assumption) ?_); (refine m_isPost hO hS hn ⟨_, rfl, ?_⟩); (rw [decide_eq_true (show 0 ≤ ((p : Nat) : Int) ∧ ((p : Nat) : Int) < ((n : Nat) : Int) by omega)]); rw [zbI_t]; (with_reducible refine i_t (by omega) ?_); (with_reducible refine i_cI_eq (i_IA (i_FR (i_A0 ?_)))); (with_reducible refine i_fldR (by assumption) ?_); (with_reducible refine i_Add (i_Mul (i_I (i_L1 (i_IA (i_FR (i_A0 ?_))))))); (with_reducible refine i_fldR (by assumption) ?_); (with_reducible refine i_Add (i_Mul (i_I (i_L1 (i_L2 ?_))))); rw [zx_cmul (by omega)]; rw [zx_add (by omega)]; (with_reducible refine i_in (by assumption) (by omega) (by omega) ?_); (rw [h1]); rw [zx_add (by omega)]; (with_reducible refine i_in (by assumption) (by omega) (by omega) ?_); (with_reducible refine i_I ?_); (rw [h2]); (with_reducible refine i_f (by omega) ?_); (with_reducible refine i_Seq (i_sCall (i_as1 (i_A0 (i_as1 (i_L1 (i_as0 ?_))))))); (with_reducible refine i_recv0 (by assumption) ?_))
  refine m_aimAt hO hS (by omega) hn hn2 hA hw h01 (fun M1 T1 f1' g1 e1 => ⟨rfl, ?_⟩)
  have n1 : M1 250 ((1 : Nat) : Int) = ((n : Nat) : Int) := by rw [f1' _ _ (by omega)]; exact hn
  have A1 : rTe M1 t n A := hA.to hn2 hw (fun b j q => f1' b j (by omega))
  ((with_reducible refine i_Seq (i_sCall (i_as1 (i_A0 (i_as1 (i_L1 (i_as0 ?_))))))); (with_reducible refine i_recv0 (by assumption) ?_))
  refine m_labelsOf hO hS (by omega) n1 hn2 A1.1.2.1 (fun M2 f2 g2 => ⟨rfl, ?_⟩)
  have m2 : M2 ((258 : Nat) : Int) ((t : Nat) : Int) = ((tm A : Nat) : Int) := by rw [f2 _ _ (by omega)]; exact A1.1.1
  ((with_reducible refine i_Seq (i_sIA (i_FR (i_A0 ?_)))); (with_reducible refine i_fldR (by assumption) ?_); (with_reducible refine i_L2 (i_IA (i_FR (i_A0 ?_)))); (with_reducible refine i_fldR (by assumption) ?_); (with_reducible refine i_L1 ?_); (with_reducible refine i_in (by assumption) (by omega) (by omega) ?_); (with_reducible refine i_in (by assumption) (by omega) (by omega) ?_); (with_reducible refine i_Seq (i_sCall (i_as1 (i_A0 (i_as1 (i_L1 (i_as0 ?_))))))); (with_reducible refine i_recv0 (by assumption) ?_); (rw [m2]))
  have gl : rLab (zput M2 ((272 : Nat) : Int) (zup (M2 ((272 : Nat) : Int)) ((p : Nat) : Int) ((tm A : Nat) : Int))) n (zap A p) := fun q hq => by
    unfold zap
    by_cases w : q = p
    · subst w; rw [zg_s, if_pos rfl]
    · rw [zg_m _ _ _ _ _ (by omega), if_neg w]; exact g2 q hq
  have f3 : ∀ b j, ¬ b = ((272 : Nat) : Int) → zput M2 ((272 : Nat) : Int) (zup (M2 ((272 : Nat) : Int)) ((p : Nat) : Int) ((tm A : Nat) : Int)) b j = M2 b j := fun b j q => by rw [zg_n _ _ _ (by omega)]
  generalize zput M2 ((272 : Nat) : Int) (zup (M2 ((272 : Nat) : Int)) ((p : Nat) : Int) ((tm A : Nat) : Int)) = M3 at gl f3 ⊢
  have n3 : M3 250 ((1 : Nat) : Int) = ((n : Nat) : Int) := by rw [f3 _ _ (by omega), f2 _ _ (by omega)]; exact n1
  refine m_settle hO hS (by omega) n3 hn2 gl (fun q hq => by have := hw.f16 q hq; unfold zap; split <;> omega) (g1.to (fun j => by rw [f3 _ _ (by omega), f2 _ _ (by omega)])) (fun M4 f4 g4 => ⟨rfl, ?_⟩)
  rw [zRq_T hn1 e1] at g4
  have n4 : M4 250 ((1 : Nat) : Int) = ((n : Nat) : Int) := by rw [f4 _ _ (by omega)]; exact n3
  ((with_reducible refine i_RetI (i_Call (i_as1 (i_A0 (i_as1 (i_L1 (i_as0 ?_))))))); (with_reducible refine i_recv0 (by assumption) ?_))
  refine m_lengthOf hO hS (by omega) n4 hn2 g4 (zRq_w hn2) (fun M5 f5 _ _ => ⟨_, rfl, ?_⟩)
  rw [tLen_rq hn2]
  (skip)
  exact hk M5 (fun b j q => by rw [f5 b j (by omega), f4 b j (by omega), f3 b j (by omega), f2 b j (by omega), f1' b j (by omega)]) (g4.to hn2 (zRq_w hn2) (fun b j q => f5 b j (by omega)))
theorem c_apart_bad {O : zOm} (hO : zWld O) (hS : zS O = zmS zC0) {t p : Int} {T n : Nat} {M : zMem} {K : Option zV → zMem → Prop} (hT : M ((0 : Nat) : Int) ((4 : Nat) : Int) = ((T : Nat) : Int)) (hT5 : T ≤ 5) (hP : M ((1 : Nat) : Int) ((2 : Nat) : Int) = ((n : Nat) : Int)) (hb : ¬ ((0 ≤ t ∧ t < ((T : Nat) : Int)) ∧ 0 ≤ p ∧ p < ((n : Nat) : Int))) (hk : K (some (0, -1)) M) : zR O F_ToldNet_apart [(2, ((0 : Nat) : Int)), (0, t), (0, p)] M K := by
  have o1 := zo_1 hS
  apply r_ToldNet_apart hO
  unfold B_ToldNet_apart
  have f0_0 := zf_0_0 hS; have f0_13 := zf_0_13 hS; have f0_6 := zf_0_6 hS; have z0 := zo_0 hS; have z1 := zo_1 hS
  ((with_reducible refine i_Seq (i_Set (i_Call (i_as1 (i_A0 (i_as1 (i_L1 (i_as0 ?_)))))))); (with_reducible refine i_recv0 (by assumption) ?_); simp only [w_set0, w_set1, w_setn0, w_setn1])
  refine c_find hO hS hT hT5 (fun hx => ⟨_, rfl, ?_⟩) (fun k e hk1 => ⟨_, rfl, ?_⟩)
  · ((with_reducible refine i_Seq (i_If (i_cOr (i_cOr (i_cN (i_A3 ?_)))))); simp only [w_set0, w_set1, w_setn0, w_setn1]; (with_reducible refine i_t trivial ?_); (with_reducible refine i_RetI (i_I ?_)))
    exact hk
  · ((with_reducible refine i_Seq (i_If (i_cOr (i_cOr (i_cN (i_A3 ?_)))))); (with_reducible refine i_f (by omega) ?_); (with_reducible refine i_cNot (i_cZ_ne (i_Call (i_as1 (i_FR (i_A0 ?_)))))); (with_reducible refine i_fldR (by assumption) ?_); (with_reducible refine i_as1 (i_L2 (i_as0 ?_))); (with_reducible refine i_recv0 (by assumption) ?_); (refine c_isPost hO hS hP ⟨_, rfl, ?_⟩); (rw [decide_eq_false (show ¬ (0 ≤ p ∧ p < ((n : Nat) : Int)) from fun z => hb ⟨by omega, z⟩)]); rw [zbI_f]; (with_reducible refine i_f (by omega) ?_); (with_reducible refine i_RetI (i_I ?_)))
    exact hk
theorem c_apart_al {O : zOm} (hO : zWld O) (hS : zS O = zmS zC0) {t p T n : Nat} {A : zTl} {M : zMem} {K : Option zV → zMem → Prop} (hT : M ((0 : Nat) : Int) ((4 : Nat) : Int) = ((T : Nat) : Int)) (hT5 : T ≤ 5) (ht : t < T) (hP : M ((1 : Nat) : Int) ((2 : Nat) : Int) = ((n : Nat) : Int)) (hn2 : n ≤ 16) (hA : zTR M (185 + 13 * t) n A) (hw : zTw n A) (hp : p < n) (hal : zSz (tf A) n (tf A p) = 1) (hk : K (some (0, -1)) M) : zR O F_ToldNet_apart [(2, ((0 : Nat) : Int)), (0, ((t : Nat) : Int)), (0, ((p : Nat) : Int))] M K := by
  have hxT := zTelT hS (show t < 5 by omega)
  obtain ⟨⟨x0, x1, x2, x3, x4, x5, x6, x7⟩, -, hP', -⟩ := id hxT
  have p0 := hP'.1
  have o1 := zo_1 hS
  have hpc := hA.pc hw
  apply r_ToldNet_apart hO
  unfold B_ToldNet_apart
  have f0_0 := zf_0_0 hS; have f0_13 := zf_0_13 hS; have f0_6 := zf_0_6 hS; have z0 := zo_0 hS; have z1 := zo_1 hS
  ((with_reducible refine i_Seq (i_Set (i_Call (i_as1 (i_A0 (i_as1 (i_L1 (i_as0 ?_)))))))); (with_reducible refine i_recv0 (by assumption) ?_); simp only [w_set0, w_set1, w_setn0, w_setn1])
  refine c_find hO hS hT hT5 (fun hx => absurd (show 0 ≤ ((t : Nat) : Int) ∧ ((t : Nat) : Int) < ((T : Nat) : Int) by omega) hx) (fun k e hk1 => ⟨_, rfl, ?_⟩)
  rw [show k = t by omega]
  ((with_reducible refine i_Seq (i_If (i_cOr (i_cOr (i_cN (i_A3 ?_)))))); (with_reducible refine i_f (by omega) ?_); (with_reducible refine i_cNot (i_cZ_ne (i_Call (i_as1 (i_FR (i_A0 ?_)))))); (with_reducible refine i_fldR (by assumption) ?_); (with_reducible refine i_as1 (i_L2 (i_as0 ?_))); (with_reducible refine i_recv0 (by assumption) ?_); (refine c_isPost hO hS hP ⟨_, rfl, ?_⟩); (rw [decide_eq_true (show 0 ≤ ((p : Nat) : Int) ∧ ((p : Nat) : Int) < ((n : Nat) : Int) by omega)]); rw [zbI_t]; (with_reducible refine i_t (by omega) ?_); (with_reducible refine i_cZ_ne (i_Call (i_as1 (i_FR (i_A3 ?_))))); (with_reducible refine i_fldR (by assumption) ?_); (with_reducible refine i_as1 (i_L2 (i_as0 ?_))); (with_reducible refine i_recv0 (by assumption) ?_); (refine c_isAlone hO hP' hn2 hpc hp ⟨_, rfl, ?_⟩); (rw [decide_eq_true (show zSz (zcg n (tf A)) n (zcg n (tf A) p) = 1 by rw [zSz_cg hw hp]; exact hal)]); rw [zbI_t]; (with_reducible refine i_t (by omega) ?_); (with_reducible refine i_RetI (i_I ?_)))
  exact hk
theorem c_apart {O : zOm} (hO : zWld O) (hS : zS O = zmS zC0) {t p T n : Nat} {A : zTl} {M : zMem} {K : Option zV → zMem → Prop} (hT : M ((0 : Nat) : Int) ((4 : Nat) : Int) = ((T : Nat) : Int)) (hT5 : T ≤ 5) (ht : t < T) (hP : M ((1 : Nat) : Int) ((2 : Nat) : Int) = ((n : Nat) : Int)) (hn1 : 0 < n) (hn2 : n ≤ 16) (hA : zTR M (185 + 13 * t) n A) (hw : zTw n A) (hp : p < n) (hal : zSz (tf A) n (tf A p) ≠ 1)
    (hk : ∀ M', (∀ b j, ¬ (b = ((106 : Nat) : Int) ∨ b = ((107 : Nat) : Int) ∨ ((183 : Nat) : Int) ≤ b ∧ b ≤ ((184 : Nat) : Int) ∨ ((185 + 13 * t : Nat) : Int) ≤ b ∧ b ≤ ((197 + 13 * t : Nat) : Int)) → M' b j = M b j) → zTR M' (185 + 13 * t) n (zRq n (zBd n A) (zap A p)) → K (some (0, ((zLgt n (zBd n A) (zap A p) : Nat) : Int))) M') : zR O F_ToldNet_apart [(2, ((0 : Nat) : Int)), (0, ((t : Nat) : Int)), (0, ((p : Nat) : Int))] M K := by
  have hxT := zTelT hS (show t < 5 by omega)
  obtain ⟨⟨x0, x1, x2, x3, x4, x5, x6, x7⟩, -, hP', -⟩ := id hxT
  have p0 := hP'.1
  have o1 := zo_1 hS
  have hpc := hA.pc hw
  have hs := zNet183 hS
  have o106 := zo_106 hS
  apply r_ToldNet_apart hO
  unfold B_ToldNet_apart
  have f0_0 := zf_0_0 hS; have f0_13 := zf_0_13 hS; have f0_6 := zf_0_6 hS; have z0 := zo_0 hS; have z1 := zo_1 hS
  ((with_reducible refine i_Seq (i_Set (i_Call (i_as1 (i_A0 (i_as1 (i_L1 (i_as0 ?_)))))))); (with_reducible refine i_recv0 (by assumption) ?_); simp only [w_set0, w_set1, w_setn0, w_setn1])
  refine c_find hO hS hT hT5 (fun hx => absurd (show 0 ≤ ((t : Nat) : Int) ∧ ((t : Nat) : Int) < ((T : Nat) : Int) by omega) hx) (fun k e hk1 => ⟨_, rfl, ?_⟩)
  rw [show k = t by omega]
  ((with_reducible refine i_Seq (i_If (i_cOr (i_cOr (i_cN (i_A3 ?_)))))); (with_reducible refine i_f (by omega) ?_); (with_reducible refine i_cNot (i_cZ_ne (i_Call (i_as1 (i_FR (i_A0 ?_)))))); (with_reducible refine i_fldR (by assumption) ?_); (with_reducible refine i_as1 (i_L2 (i_as0 ?_))); (with_reducible refine i_recv0 (by assumption) ?_); (refine c_isPost hO hS hP ⟨_, rfl, ?_⟩); (rw [decide_eq_true (show 0 ≤ ((p : Nat) : Int) ∧ ((p : Nat) : Int) < ((n : Nat) : Int) by omega)]); rw [zbI_t]; (with_reducible refine i_t (by omega) ?_); (with_reducible refine i_cZ_ne (i_Call (i_as1 (i_FR (i_A3 ?_))))); (with_reducible refine i_fldR (by assumption) ?_); (with_reducible refine i_as1 (i_L2 (i_as0 ?_))); (with_reducible refine i_recv0 (by assumption) ?_); (refine c_isAlone hO hP' hn2 hpc hp ⟨_, rfl, ?_⟩); (rw [decide_eq_false (show ¬ zSz (zcg n (tf A)) n (zcg n (tf A) p) = 1 by rw [zSz_cg hw hp]; exact hal)]); rw [zbI_f]; (with_reducible refine i_f (by omega) ?_); (with_reducible refine i_Seq (i_sCall (i_as1 (i_A3 (i_as1 (i_FR (i_A0 ?_))))))); (with_reducible refine i_fldR (by assumption) ?_); (with_reducible refine i_as0 ?_); (with_reducible refine i_recv0 (by assumption) ?_))
  refine c_build hO hxT hs hA (fun M1 f1 g1 => ⟨rfl, ?_⟩)
  ((with_reducible refine i_Seq (i_sCall (i_as1 (i_FR (i_A3 ?_))))); (with_reducible refine i_fldR (by assumption) ?_); (with_reducible refine i_as1 (i_L2 (i_as0 ?_))); (with_reducible refine i_recv0 (by assumption) ?_))
  refine c_lift hO hP' hn2 (hpc.fr (fun b j a1 a2 => f1 b j (by omega))) hp (fun M2 f2 g2 => ⟨rfl, ?_⟩)
  ((with_reducible refine i_RetI (i_Call (i_as1 (i_FR (i_A0 ?_))))); (with_reducible refine i_fldR (by assumption) ?_); (with_reducible refine i_as1 (i_FR (i_A0 ?_))); (with_reducible refine i_fldR (by assumption) ?_); (with_reducible refine i_as1 (i_A3 (i_as0 ?_))); (with_reducible refine i_recv0 (by assumption) ?_))
  refine c_tellA hO (zRl_106 hS) hxT hs (by omega) (by omega) (by omega) (g1.to (fun b j a1 a2 => f2 b j (by omega))) (zBd_reg hw) g2 hn2 (fun M3 f3 g3 => ⟨_, rfl, ?_⟩)
  rw [zap_cg hn1 hw] at g3
  rw [show zLgt n (zBd n A) (fun q => if q = p then 16 else zcg n (tf A) q) = zLgt n (zBd n A) (zap A p) from congrArg (zPl n) (zap_cg hn1 hw)]
  (skip)
  exact hk M3 (fun b j q => by rw [f3 b j (by omega), f2 b j (by omega), f1 b j (by omega)]) g3
