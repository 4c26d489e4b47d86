/-! ===== the reference: tellings by labels ===== -/
/-- labels -/
def rLab (M : zMem) (n : Nat) (f : Nat → Nat) : Prop := ∀ p : Nat, p < n → M ((272 : Nat) : Int) ((p : Nat) : Int) = ((f p : Nat) : Int)
theorem m_ruleA {O : zOm} (hO : zWld O) (hS : zS O = zmS zC0) {t n : Nat} {f : Nat → Nat} {T : Nat → Nat → Bool} {M : zMem} {K : Option zV → zMem → Prop} (ht : t < 7) (hn : M 250 ((1 : Nat) : Int) = ((n : Nat) : Int)) (hn2 : n ≤ 16) (hb : rBox M t n f) (hb2 : ∀ q : Nat, q < n → f q ≤ 16) (hT : rMx M 267 T)
    (hk : ∀ M', (∀ b j, ¬ ((b = 258 ∧ j = ((t : Nat) : Int) ∨ (b = 259 ∨ b = 260 ∨ b = 262 ∨ b = 263) ∧ ((16 * t : Nat) : Int) ≤ j ∧ j < ((16 * t + 16 : Nat) : Int) ∨ (b = 261 ∨ b = 264 ∨ b = 265 ∨ b = 266) ∧ ((256 * t : Nat) : Int) ≤ j ∧ j < ((256 * t + 256 : Nat) : Int)) ∨ b = 268 ∨ b = 271 ∨ b = 283 ∨ b = 284) → M' b j = M b j) → rTe M' t n (zRq n T f) → K none M') : zR O F_Model_rule [(2, 250), (0, ((t : Nat) : Int))] M K := by
  refine m_rule hO hS ht hn hn2 (f := zclp n f) (fun q hq => by rw [zcl_in hq]; exact hb q hq) (fun q hq => by rw [zcl_in hq]; exact hb2 q hq) hT rfl rfl (fun M' h0 h1 h2 h3 h4 h5 h6 h7 h8 h9 => hk M' h0 ⟨⟨h1, h2, h3⟩, ⟨h4, h5, h6, h7⟩, h8, h9⟩)
theorem m_labelsOf {O : zOm} (hO : zWld O) (hS : zS O = zmS zC0) {t n : Nat} {f : Nat → Nat} {M : zMem} {K : Option zV → zMem → Prop} (ht : t < 7) (hn : M 250 ((1 : Nat) : Int) = ((n : Nat) : Int)) (hn2 : n ≤ 16) (hb : rBox M t n f)
    (hk : ∀ M', (∀ b j, ¬ b = 272 → M' b j = M b j) → rLab M' n f → K none M') : zR O F_Model_labelsOf [(2, 250), (0, ((t : Nat) : Int))] M K := by
  apply r_Model_labelsOf hO
  unfold B_Model_labelsOf
  have f1 := zMF (k := 1) hS rfl; have f26 := zMF (k := 26) hS rfl; have a272 := zMA (a := 272) (ty := .int) (n := 16) hS rfl; have f13 := zMF (k := 13) hS rfl; have a259 := zMA (a := 259) (ty := .int) (n := 112) hS rfl; have zo := zMO hS
  ((with_reducible refine i_Seq (i_Blk (i_Seq (i_Set (i_I ?_))))); simp only [w_set0, w_set1, w_setn0, w_setn1])
  refine w_ForN n (fun k ρ M' => ρ = [250, ((t : Nat) : Int), ((k : Nat) : Int)] ∧ (∀ b j, ¬ b = 272 → M' b j = M b j) ∧ ∀ p : Nat, p < k → M' ((272 : Nat) : Int) ((p : Nat) : Int) = ((f p : Nat) : Int)) ⟨rfl, fun _ _ _ => rfl, fun p hp => absurd hp (by omega)⟩ ?_ ?_
  · rintro k ρ M1 X hk1 ⟨rfl, hf, h⟩ hX
    have gn : M1 250 ((1 : Nat) : Int) = ((n : Nat) : Int) := (hf _ _ (by omega)).trans hn
    have gb : M1 ((259 : Nat) : Int) ((16 * t + k : Nat) : Int) = ((f k : Nat) : Int) := (hf _ _ (by omega)).trans (hb k hk1)
    ((with_reducible refine i_turn (i_cI_lt (i_L2 (i_F (i_A0 ?_))))); (with_reducible refine i_fld (by assumption) ?_); (rw [gn]); (with_reducible refine i_t (by omega) ?_); (with_reducible refine i_sIA (i_FR (i_A0 ?_))); (with_reducible refine i_fldR (by assumption) ?_); (with_reducible refine i_L2 (i_IA (i_FR (i_A0 ?_)))); (with_reducible refine i_fldR (by assumption) ?_); (with_reducible refine i_Add (i_Mul (i_I (i_L1 (i_L2 ?_))))); rw [zx_cmul (by omega)]; rw [zx_add (by omega)]; (with_reducible refine i_in (by assumption) (by omega) (by omega) ?_); (with_reducible refine i_in (by assumption) (by omega) (by omega) ?_); (with_reducible refine i_up (i_Inc2 ?_)); (rw [gb]); rw [zx_inc (by omega)]; simp only [w_set0, w_set1, w_setn0, w_setn1])
    refine hX _ _ ⟨rfl, (by intro b j q; ((rw [zg_n _ _ _ (by omega)])); first | done | rfl | exact hf b j (by omega)), fun p hp => ?_⟩
    by_cases e : p = k
    · subst e; rw [zg_s]
    · rw [zg_m _ _ _ _ _ (by omega)]; exact h p (by omega)
  · rintro ρ M1 X ⟨rfl, hf, h⟩
    have gn : M1 250 ((1 : Nat) : Int) = ((n : Nat) : Int) := (hf _ _ (by omega)).trans hn
    ((with_reducible refine i_turn (i_cI_lt (i_L2 (i_F (i_A0 ?_))))); (with_reducible refine i_fld (by assumption) ?_); (rw [gn]); (with_reducible refine i_f (by omega) ?_); (with_reducible refine i_RetV ?_))
    exact hk _ hf h
theorem m_settle {O : zOm} (hO : zWld O) (hS : zS O = zmS zC0) {t n : Nat} {f : Nat → Nat} {T : Nat → Nat → Bool} {M : zMem} {K : Option zV → zMem → Prop} (ht : t < 7) (hn : M 250 ((1 : Nat) : Int) = ((n : Nat) : Int)) (hn2 : n ≤ 16) (hb : rLab M n f) (hb2 : ∀ q : Nat, q < n → f q ≤ 16) (hT : rMx M 267 T)
    (hk : ∀ M', (∀ b j, ¬ ((b = 258 ∧ j = ((t : Nat) : Int) ∨ (b = 259 ∨ b = 260 ∨ b = 262 ∨ b = 263) ∧ ((16 * t : Nat) : Int) ≤ j ∧ j < ((16 * t + 16 : Nat) : Int) ∨ (b = 261 ∨ b = 264 ∨ b = 265 ∨ b = 266) ∧ ((256 * t : Nat) : Int) ≤ j ∧ j < ((256 * t + 256 : Nat) : Int)) ∨ b = 268 ∨ b = 271 ∨ b = 283 ∨ b = 284) → M' b j = M b j) → rTe M' t n (zRq n T f) → K none M') : zR O F_Model_settle [(2, 250), (0, ((t : Nat) : Int))] M K := by
  apply r_Model_settle hO
  unfold B_Model_settle
  have f1 := zMF (k := 1) hS rfl; have f13 := zMF (k := 13) hS rfl; have a259 := zMA (a := 259) (ty := .int) (n := 112) hS rfl; have f26 := zMF (k := 26) hS rfl; have a272 := zMA (a := 272) (ty := .int) (n := 16) hS rfl; have zo := zMO hS
  ((with_reducible refine i_Seq (i_Seq (i_Blk (i_Seq (i_Set (i_I ?_)))))); simp only [w_set0, w_set1, w_setn0, w_setn1])
  refine w_ForN n (fun k ρ M' => ρ = [250, ((t : Nat) : Int), ((k : Nat) : Int)] ∧ (∀ b j, ¬ (b = 259 ∧ ((16 * t : Nat) : Int) ≤ j ∧ j < ((16 * t + 16 : Nat) : Int)) → M' b j = M b j) ∧ ∀ p : Nat, p < k → M' ((259 : Nat) : Int) ((16 * t + p : Nat) : Int) = ((f p : Nat) : Int)) ⟨rfl, fun _ _ _ => rfl, fun p hp => absurd hp (by omega)⟩ ?_ ?_
  · rintro k ρ M1 X hk1 ⟨rfl, hf, h⟩ hX
    have gn : M1 250 ((1 : Nat) : Int) = ((n : Nat) : Int) := (hf _ _ (by omega)).trans hn
    have gb : M1 ((272 : Nat) : Int) ((k : Nat) : Int) = ((f k : Nat) : Int) := (hf _ _ (by omega)).trans (hb k hk1)
    ((with_reducible refine i_turn (i_cI_lt (i_L2 (i_F (i_A0 ?_))))); (with_reducible refine i_fld (by assumption) ?_); (rw [gn]); (with_reducible refine i_t (by omega) ?_); (with_reducible refine i_sIA (i_FR (i_A0 ?_))); (with_reducible refine i_fldR (by assumption) ?_); (with_reducible refine i_Add (i_Mul (i_I (i_L1 (i_L2 (i_IA (i_FR (i_A0 ?_)))))))); (with_reducible refine i_fldR (by assumption) ?_); (with_reducible refine i_L2 ?_); (with_reducible refine i_in (by assumption) (by omega) (by omega) ?_); (rw [gb]); rw [zx_cmul (by omega)]; rw [zx_add (by omega)]; (with_reducible refine i_in (by assumption) (by omega) (by omega) ?_); (with_reducible refine i_up (i_Inc2 ?_)); rw [zx_inc (by omega)]; simp only [w_set0, w_set1, w_setn0, w_setn1])
    refine hX _ _ ⟨rfl, (by intro b j q; ((rw [zg_o _ _ (by omega)])); first | done | rfl | exact hf b j (by omega)), fun p hp => ?_⟩
    by_cases e : p = k
    · subst e; rw [zg_s]
    · rw [zg_m _ _ _ _ _ (by omega)]; exact h p (by omega)
  · rintro ρ M1 X ⟨rfl, hf, h⟩
    have gn : M1 250 ((1 : Nat) : Int) = ((n : Nat) : Int) := (hf _ _ (by omega)).trans hn
    ((with_reducible refine i_turn (i_cI_lt (i_L2 (i_F (i_A0 ?_))))); (with_reducible refine i_fld (by assumption) ?_); (rw [gn]); (with_reducible refine i_f (by omega) ?_); (with_reducible refine i_sCall (i_as1 (i_A0 (i_as1 (i_L1 (i_as0 ?_)))))); (with_reducible refine i_recv0 (by assumption) ?_))
    refine m_ruleA hO hS ht gn hn2 h hb2 (hT.to (fun j => hf _ _ (by omega))) (fun M2 hf2 h2 => ⟨rfl, ?_⟩)
    (with_reducible refine i_RetV ?_)
    exact hk _ (fun b j q => by rw [hf2 b j q, hf b j (by omega)]) h2
theorem m_lengthBy {O : zOm} (hO : zWld O) (hS : zS O = zmS zC0) {n : Nat} {f : Nat → Nat} {T : Nat → Nat → Bool} {M : zMem} {K : Option zV → zMem → Prop} (hn : M 250 ((1 : Nat) : Int) = ((n : Nat) : Int)) (hn2 : n ≤ 16) (hb : rLab M n f) (hb2 : ∀ q : Nat, q < n → f q ≤ 16) (hT : rMx M 267 T)
    (hk : ∀ M', (∀ b j, ¬ ((b = 258 ∧ j = ((6 : Nat) : Int) ∨ (b = 259 ∨ b = 260 ∨ b = 262 ∨ b = 263) ∧ ((16 * 6 : Nat) : Int) ≤ j ∧ j < ((16 * 6 + 16 : Nat) : Int) ∨ (b = 261 ∨ b = 264 ∨ b = 265 ∨ b = 266) ∧ ((256 * 6 : Nat) : Int) ≤ j ∧ j < ((256 * 6 + 256 : Nat) : Int)) ∨ b = 268 ∨ b = 269 ∨ b = 270 ∨ b = 271 ∨ b = 283 ∨ b = 284) → M' b j = M b j) → K (some (0, ((zLgt n T f : Nat) : Int))) M') : zR O F_Model_lengthBy [(2, 250)] M K := by
  apply r_Model_lengthBy hO
  unfold B_Model_lengthBy
  have f1 := zMF (k := 1) hS rfl; have f13 := zMF (k := 13) hS rfl; have a259 := zMA (a := 259) (ty := .int) (n := 112) hS rfl; have f26 := zMF (k := 26) hS rfl; have a272 := zMA (a := 272) (ty := .int) (n := 16) hS rfl; have zo := zMO hS
  ((with_reducible refine i_Seq (i_Blk (i_Seq (i_Set (i_I ?_))))); simp only [w_set0, w_set1, w_setn0, w_setn1])
  refine w_ForN n (fun k ρ M' => ρ = [250, ((k : Nat) : Int)] ∧ (∀ b j, ¬ (b = 259 ∧ ((96 : Nat) : Int) ≤ j ∧ j < ((112 : Nat) : Int)) → M' b j = M b j) ∧ ∀ p : Nat, p < k → M' ((259 : Nat) : Int) ((96 + p : Nat) : Int) = ((f p : Nat) : Int)) ⟨rfl, fun _ _ _ => rfl, fun p hp => absurd hp (by omega)⟩ ?_ ?_
  · rintro k ρ M1 X hk1 ⟨rfl, hf, h⟩ hX
    have gn : M1 250 ((1 : Nat) : Int) = ((n : Nat) : Int) := (hf _ _ (by omega)).trans hn
    have gb : M1 ((272 : Nat) : Int) ((k : Nat) : Int) = ((f k : Nat) : Int) := (hf _ _ (by omega)).trans (hb k hk1)
    ((with_reducible refine i_turn (i_cI_lt (i_L1 (i_F (i_A0 ?_))))); (with_reducible refine i_fld (by assumption) ?_); (rw [gn]); (with_reducible refine i_t (by omega) ?_); (with_reducible refine i_sIA (i_FR (i_A0 ?_))); (with_reducible refine i_fldR (by assumption) ?_); (with_reducible refine i_Add (i_I (i_L1 (i_IA (i_FR (i_A0 ?_)))))); (with_reducible refine i_fldR (by assumption) ?_); (with_reducible refine i_L1 ?_); (with_reducible refine i_in (by assumption) (by omega) (by omega) ?_); (rw [gb]); rw [zx_cadd (by omega)]; (with_reducible refine i_in (by assumption) (by omega) (by omega) ?_); (with_reducible refine i_up (i_Inc1 ?_)); rw [zx_inc (by omega)]; simp only [w_set0, w_set1, w_setn0, w_setn1])
    refine hX _ _ ⟨rfl, (by intro b j q; ((rw [zg_o _ _ (by omega)])); first | done | rfl | exact hf b j (by omega)), fun p hp => ?_⟩
    by_cases e : p = k
    · subst e
      exact zg_s _ _ _ _ _
    · rw [zg_m _ _ _ _ _ (by omega)]; exact h p (by omega)
  · rintro ρ M1 X ⟨rfl, hf, h⟩
    have gn : M1 250 ((1 : Nat) : Int) = ((n : Nat) : Int) := (hf _ _ (by omega)).trans hn
    ((with_reducible refine i_turn (i_cI_lt (i_L1 (i_F (i_A0 ?_))))); (with_reducible refine i_fld (by assumption) ?_); (rw [gn]); (with_reducible refine i_f (by omega) ?_); (with_reducible refine i_Seq (i_sCall (i_as1 (i_A0 (i_as1 (i_I (i_as0 ?_))))))); (with_reducible refine i_recv0 (by assumption) ?_))
    refine m_ruleA hO hS (t := 6) (by omega) gn hn2 h hb2 (hT.to (fun j => hf _ _ (by omega))) (fun M2 hf2 h2 => ⟨rfl, ?_⟩)
    have gn2 : M2 250 ((1 : Nat) : Int) = ((n : Nat) : Int) := (hf2 _ _ (by omega)).trans gn
    ((with_reducible refine i_RetI (i_Call (i_as1 (i_A0 (i_as1 (i_I (i_as0 ?_))))))); (with_reducible refine i_recv0 (by assumption) ?_))
    refine m_lengthOf hO hS (t := 6) (by omega) gn2 hn2 h2 (zRq_w hn2) (fun M3 hf3 h3 h4 => ⟨_, rfl, ?_⟩)
    (skip)
    rw [tLen_rq hn2]
    exact hk _ (fun b j q => by rw [hf3 b j (by omega), hf2 b j (by omega), hf b j (by omega)])
theorem m_become {O : zOm} (hO : zWld O) (hS : zS O = zmS zC0) {s t n : Nat} {A : zTl} {M : zMem} {K : Option zV → zMem → Prop} (hs : s < 7) (ht : t < 7) (hst : s ≠ t) (hn2 : n ≤ 16) (hA : rTe M s n A) (hw : zTw n A)
    (hk : ∀ M', (∀ b j, ¬ (b = 258 ∧ j = ((t : Nat) : Int) ∨ (b = 259 ∨ b = 260 ∨ b = 262 ∨ b = 263) ∧ ((16 * t : Nat) : Int) ≤ j ∧ j < ((16 * t + 16 : Nat) : Int) ∨ (b = 261 ∨ b = 264 ∨ b = 265 ∨ b = 266) ∧ ((256 * t : Nat) : Int) ≤ j ∧ j < ((256 * t + 256 : Nat) : Int)) → M' b j = M b j) → rTe M' t n A → K none M') : zR O F_Model_become [(2, 250), (0, ((s : Nat) : Int)), (0, ((t : Nat) : Int))] M K := by
  obtain ⟨⟨h1, h2, h3⟩, ⟨h4, h5, h6, h7⟩, h8, h9⟩ := hA
  have c4 : ∀ k : Nat, k < 16 → M ((262 : Nat) : Int) ((16 * s + k : Nat) : Int) = 0 ∨ M ((262 : Nat) : Int) ((16 * s + k : Nat) : Int) = 1 := fun k hk1 => by rw [h4 k hk1]; exact zbI_01 _
  have c7 : ∀ k : Nat, k < 16 → M ((263 : Nat) : Int) ((16 * s + k : Nat) : Int) = 0 ∨ M ((263 : Nat) : Int) ((16 * s + k : Nat) : Int) = 1 := fun k hk1 => by rw [h7 k hk1]; exact zbI_01 _
  have e256 : ∀ k : Nat, k < 256 → 256 * s + 16 * (k / 16) + k % 16 = 256 * s + k := fun k _ => by omega
  have c5 : ∀ k : Nat, k < 256 → M ((264 : Nat) : Int) ((256 * s + k : Nat) : Int) = 0 ∨ M ((264 : Nat) : Int) ((256 * s + k : Nat) : Int) = 1 := fun k hk1 => by have := h5 (k / 16) (k % 16) (by omega) (by omega); rw [e256 k hk1] at this; rw [this]; exact zbI_01 _
  have c6 : ∀ k : Nat, k < 256 → M ((265 : Nat) : Int) ((256 * s + k : Nat) : Int) = 0 ∨ M ((265 : Nat) : Int) ((256 * s + k : Nat) : Int) = 1 := fun k hk1 => by have := h6 (k / 16) (k % 16) (by omega) (by omega); rw [e256 k hk1] at this; rw [this]; exact zbI_01 _
  apply r_Model_become hO
  unfold B_Model_become
  have f12 := zMF (k := 12) hS rfl; have a258 := zMA (a := 258) (ty := .int) (n := 7) hS rfl; have f13 := zMF (k := 13) hS rfl; have a259 := zMA (a := 259) (ty := .int) (n := 112) hS rfl; have f14 := zMF (k := 14) hS rfl; have a260 := zMA (a := 260) (ty := .int) (n := 112) hS rfl; have f16 := zMF (k := 16) hS rfl; have a262 := zMA (a := 262) (ty := .boolean) (n := 112) hS rfl; have f17 := zMF (k := 17) hS rfl; have a263 := zMA (a := 263) (ty := .boolean) (n := 112) hS rfl; have f15 := zMF (k := 15) hS rfl; have a261 := zMA (a := 261) (ty := .int) (n := 1792) hS rfl; have f18 := zMF (k := 18) hS rfl; have a264 := zMA (a := 264) (ty := .boolean) (n := 1792) hS rfl; have f19 := zMF (k := 19) hS rfl; have a265 := zMA (a := 265) (ty := .boolean) (n := 1792) hS rfl; have f20 := zMF (k := 20) hS rfl; have a266 := zMA (a := 266) (ty := .int) (n := 1792) hS rfl; have zo := zMO hS
  ((with_reducible refine i_Seq (i_Seq (i_sIA (i_FR (i_A0 ?_))))); (with_reducible refine i_fldR (by assumption) ?_); (with_reducible refine i_L2 (i_IA (i_FR (i_A0 ?_)))); (with_reducible refine i_fldR (by assumption) ?_); (with_reducible refine i_L1 ?_); (with_reducible refine i_in (by assumption) (by omega) (by omega) ?_); (with_reducible refine i_in (by assumption) (by omega) (by omega) ?_); (with_reducible refine i_Seq (i_Blk (i_Seq (i_Set (i_I ?_))))); (rw [h1]); simp only [w_set0, w_set1, w_setn0, w_setn1])
  have f0 : ∀ b j, ¬ (b = 258 ∧ j = ((t : Nat) : Int)) → zput M ((258 : Nat) : Int) (zup (M ((258 : Nat) : Int)) ((t : Nat) : Int) ((tm A : Nat) : Int)) b j = M b j := fun b j q => by rw [zg_o _ _ (by omega)]
  have g0 : zput M ((258 : Nat) : Int) (zup (M ((258 : Nat) : Int)) ((t : Nat) : Int) ((tm A : Nat) : Int)) ((258 : Nat) : Int) ((t : Nat) : Int) = ((tm A : Nat) : Int) := zg_s _ _ _ _ _
  generalize zput M ((258 : Nat) : Int) (zup (M ((258 : Nat) : Int)) ((t : Nat) : Int) ((tm A : Nat) : Int)) = M0 at f0 g0 ⊢
  refine w_ForN 16 (fun k ρ M' => ρ = [250, ((s : Nat) : Int), ((t : Nat) : Int), ((k : Nat) : Int)] ∧ (∀ b j, ¬ ((b = 259 ∨ b = 260 ∨ b = 262 ∨ b = 263) ∧ ((16 * t : Nat) : Int) ≤ j ∧ j < ((16 * t + 16 : Nat) : Int)) → M' b j = M0 b j) ∧ ∀ j : Nat, j < k → M' ((259 : Nat) : Int) ((16 * t + j : Nat) : Int) = M ((259 : Nat) : Int) ((16 * s + j : Nat) : Int) ∧ M' ((260 : Nat) : Int) ((16 * t + j : Nat) : Int) = M ((260 : Nat) : Int) ((16 * s + j : Nat) : Int) ∧ M' ((262 : Nat) : Int) ((16 * t + j : Nat) : Int) = M ((262 : Nat) : Int) ((16 * s + j : Nat) : Int) ∧ M' ((263 : Nat) : Int) ((16 * t + j : Nat) : Int) = M ((263 : Nat) : Int) ((16 * s + j : Nat) : Int)) ⟨rfl, fun _ _ _ => rfl, fun j hj => absurd hj (by omega)⟩ ?_ ?_
  · rintro k ρ M1 X hk1 ⟨rfl, hf, h⟩ hX
    have d1 : M1 ((259 : Nat) : Int) ((16 * s + k : Nat) : Int) = M ((259 : Nat) : Int) ((16 * s + k : Nat) : Int) := by rw [hf _ _ (by omega), f0 _ _ (by omega)]
    have d2 : M1 ((260 : Nat) : Int) ((16 * s + k : Nat) : Int) = M ((260 : Nat) : Int) ((16 * s + k : Nat) : Int) := by rw [hf _ _ (by omega), f0 _ _ (by omega)]
    have d3 : M1 ((262 : Nat) : Int) ((16 * s + k : Nat) : Int) = M ((262 : Nat) : Int) ((16 * s + k : Nat) : Int) := by rw [hf _ _ (by omega), f0 _ _ (by omega)]
    have d4 : M1 ((263 : Nat) : Int) ((16 * s + k : Nat) : Int) = M ((263 : Nat) : Int) ((16 * s + k : Nat) : Int) := by rw [hf _ _ (by omega), f0 _ _ (by omega)]
    have z3 := c4 k hk1
    have z4 := c7 k hk1
    ((with_reducible refine i_turn (i_cI_lt (i_L3 (i_I ?_)))); (with_reducible refine i_t (by omega) ?_); (with_reducible refine i_Seq (i_sIA (i_FR (i_A0 ?_)))); (with_reducible refine i_fldR (by assumption) ?_); (with_reducible refine i_Add (i_Mul (i_I (i_L2 (i_L3 (i_IA (i_FR (i_A0 ?_)))))))); (with_reducible refine i_fldR (by assumption) ?_); (with_reducible refine i_Add (i_Mul (i_I (i_L1 (i_L3 ?_))))); rw [zx_cmul (by omega)]; rw [zx_add (by omega)]; (with_reducible refine i_in (by assumption) (by omega) (by omega) ?_); (rw [d1]); rw [zx_cmul (by omega)]; rw [zx_add (by omega)]; (with_reducible refine i_in (by assumption) (by omega) (by omega) ?_); (with_reducible refine i_Seq (i_sIA (i_FR (i_A0 ?_)))); (with_reducible refine i_fldR (by assumption) ?_); (with_reducible refine i_Add (i_Mul (i_I (i_L2 (i_L3 (i_IA (i_FR (i_A0 ?_)))))))); (with_reducible refine i_fldR (by assumption) ?_); (with_reducible refine i_Add (i_Mul (i_I (i_L1 (i_L3 ?_))))); rw [zg_n _ _ _ (by omega)]; rw [zx_cmul (by omega)]; rw [zx_add (by omega)]; (with_reducible refine i_in (by assumption) (by omega) (by omega) ?_); (rw [d2]); rw [zx_cmul (by omega)]; rw [zx_add (by omega)]; (with_reducible refine i_in (by assumption) (by omega) (by omega) ?_); (with_reducible refine i_Seq (i_sZA (i_FR (i_A0 ?_)))); (with_reducible refine i_fldR (by assumption) ?_); (with_reducible refine i_Add (i_Mul (i_I (i_L2 (i_L3 (i_ZA (i_FR (i_A0 ?_)))))))); (with_reducible refine i_fldR (by assumption) ?_); (with_reducible refine i_Add (i_Mul (i_I (i_L1 (i_L3 ?_))))); rw [zg_n _ _ _ (by omega)]; rw [zg_n _ _ _ (by omega)]; rw [zx_cmul (by omega)]; rw [zx_add (by omega)]; (with_reducible refine i_in (by assumption) (by omega) (by omega) ?_); (rw [d3]); rw [zx_cmul (by omega)]; rw [zx_add (by omega)]; (with_reducible refine i_zin (by assumption) (by assumption) (by omega) (by omega) ?_); (with_reducible refine i_sZA (i_FR (i_A0 ?_))); (with_reducible refine i_fldR (by assumption) ?_); (with_reducible refine i_Add (i_Mul (i_I (i_L2 (i_L3 (i_ZA (i_FR (i_A0 ?_)))))))); (with_reducible refine i_fldR (by assumption) ?_); (with_reducible refine i_Add (i_Mul (i_I (i_L1 (i_L3 ?_))))); rw [zg_n _ _ _ (by omega)]; rw [zg_n _ _ _ (by omega)]; rw [zg_n _ _ _ (by omega)]; rw [zx_cmul (by omega)]; rw [zx_add (by omega)]; (with_reducible refine i_in (by assumption) (by omega) (by omega) ?_); (rw [d4]); rw [zx_cmul (by omega)]; rw [zx_add (by omega)]; (with_reducible refine i_zin (by assumption) (by assumption) (by omega) (by omega) ?_); (with_reducible refine i_up (i_Inc3 ?_)); rw [zx_inc (by omega)]; simp only [w_set0, w_set1, w_setn0, w_setn1])
    refine hX _ _ ⟨rfl, fun b j q => ?_, fun j hj => ?_⟩
    · (rw [zg_o _ _ (by omega)]; rw [zg_o _ _ (by omega)]; rw [zg_o _ _ (by omega)]; rw [zg_o _ _ (by omega)])
      exact hf b j q
    · by_cases e : j = k
      · subst e
        refine ⟨?_, ?_, ?_, ?_⟩
        · (rw [zg_n _ _ _ (by omega)]; rw [zg_n _ _ _ (by omega)]; rw [zg_n _ _ _ (by omega)]; rw [zg_s])
        · (rw [zg_n _ _ _ (by omega)]; rw [zg_n _ _ _ (by omega)]; rw [zg_s])
        · (rw [zg_n _ _ _ (by omega)]; rw [zg_s])
        · (rw [zg_s])
      · obtain ⟨w1, w2, w3, w4⟩ := h j (by omega)
        refine ⟨?_, ?_, ?_, ?_⟩
        · (rw [zg_n _ _ _ (by omega)]; rw [zg_n _ _ _ (by omega)]; rw [zg_n _ _ _ (by omega)]; rw [zg_m _ _ _ _ _ (by omega)])
          exact w1
        · (rw [zg_n _ _ _ (by omega)]; rw [zg_n _ _ _ (by omega)]; rw [zg_m _ _ _ _ _ (by omega)]; rw [zg_n _ _ _ (by omega)])
          exact w2
        · (rw [zg_n _ _ _ (by omega)]; rw [zg_m _ _ _ _ _ (by omega)]; rw [zg_n _ _ _ (by omega)]; rw [zg_n _ _ _ (by omega)])
          exact w3
        · (rw [zg_m _ _ _ _ _ (by omega)]; rw [zg_n _ _ _ (by omega)]; rw [zg_n _ _ _ (by omega)]; rw [zg_n _ _ _ (by omega)])
          exact w4
  rintro ρ M1 X ⟨rfl, hf1, g1⟩
  ((with_reducible refine i_turn (i_cI_lt (i_L3 (i_I ?_)))); (with_reducible refine i_f (by omega) ?_); (with_reducible refine i_Blk (i_Seq (i_Set (i_I ?_)))); simp only [w_set0, w_set1, w_setn0, w_setn1])
  refine w_ForN 256 (fun k ρ M' => ρ = [250, ((s : Nat) : Int), ((t : Nat) : Int), ((k : Nat) : Int)] ∧ (∀ b j, ¬ ((b = 261 ∨ b = 264 ∨ b = 265 ∨ b = 266) ∧ ((256 * t : Nat) : Int) ≤ j ∧ j < ((256 * t + 256 : Nat) : Int)) → M' b j = M1 b j) ∧ ∀ j : Nat, j < k → M' ((261 : Nat) : Int) ((256 * t + j : Nat) : Int) = M ((261 : Nat) : Int) ((256 * s + j : Nat) : Int) ∧ M' ((264 : Nat) : Int) ((256 * t + j : Nat) : Int) = M ((264 : Nat) : Int) ((256 * s + j : Nat) : Int) ∧ M' ((265 : Nat) : Int) ((256 * t + j : Nat) : Int) = M ((265 : Nat) : Int) ((256 * s + j : Nat) : Int) ∧ M' ((266 : Nat) : Int) ((256 * t + j : Nat) : Int) = M ((266 : Nat) : Int) ((256 * s + j : Nat) : Int)) ⟨rfl, fun _ _ _ => rfl, fun j hj => absurd hj (by omega)⟩ ?_ ?_
  · rintro k ρ M2 X hk1 ⟨rfl, hf, h⟩ hX
    have d1 : M2 ((261 : Nat) : Int) ((256 * s + k : Nat) : Int) = M ((261 : Nat) : Int) ((256 * s + k : Nat) : Int) := by rw [hf _ _ (by omega), hf1 _ _ (by omega), f0 _ _ (by omega)]
    have d2 : M2 ((264 : Nat) : Int) ((256 * s + k : Nat) : Int) = M ((264 : Nat) : Int) ((256 * s + k : Nat) : Int) := by rw [hf _ _ (by omega), hf1 _ _ (by omega), f0 _ _ (by omega)]
    have d3 : M2 ((265 : Nat) : Int) ((256 * s + k : Nat) : Int) = M ((265 : Nat) : Int) ((256 * s + k : Nat) : Int) := by rw [hf _ _ (by omega), hf1 _ _ (by omega), f0 _ _ (by omega)]
    have d4 : M2 ((266 : Nat) : Int) ((256 * s + k : Nat) : Int) = M ((266 : Nat) : Int) ((256 * s + k : Nat) : Int) := by rw [hf _ _ (by omega), hf1 _ _ (by omega), f0 _ _ (by omega)]
    have z3 := c5 k hk1
    have z4 := c6 k hk1
    ((with_reducible refine i_turn (i_cI_lt (i_L3 (i_I ?_)))); (with_reducible refine i_t (by omega) ?_); (with_reducible refine i_Seq (i_sIA (i_FR (i_A0 ?_)))); (with_reducible refine i_fldR (by assumption) ?_); (with_reducible refine i_Add (i_Mul (i_I (i_L2 (i_L3 (i_IA (i_FR (i_A0 ?_)))))))); (with_reducible refine i_fldR (by assumption) ?_); (with_reducible refine i_Add (i_Mul (i_I (i_L1 (i_L3 ?_))))); rw [zx_cmul (by omega)]; rw [zx_add (by omega)]; (with_reducible refine i_in (by assumption) (by omega) (by omega) ?_); (rw [d1]); rw [zx_cmul (by omega)]; rw [zx_add (by omega)]; (with_reducible refine i_in (by assumption) (by omega) (by omega) ?_); (with_reducible refine i_Seq (i_sZA (i_FR (i_A0 ?_)))); (with_reducible refine i_fldR (by assumption) ?_); (with_reducible refine i_Add (i_Mul (i_I (i_L2 (i_L3 (i_ZA (i_FR (i_A0 ?_)))))))); (with_reducible refine i_fldR (by assumption) ?_); (with_reducible refine i_Add (i_Mul (i_I (i_L1 (i_L3 ?_))))); rw [zg_n _ _ _ (by omega)]; rw [zx_cmul (by omega)]; rw [zx_add (by omega)]; (with_reducible refine i_in (by assumption) (by omega) (by omega) ?_); (rw [d2]); rw [zx_cmul (by omega)]; rw [zx_add (by omega)]; (with_reducible refine i_zin (by assumption) (by assumption) (by omega) (by omega) ?_); (with_reducible refine i_Seq (i_sZA (i_FR (i_A0 ?_)))); (with_reducible refine i_fldR (by assumption) ?_); (with_reducible refine i_Add (i_Mul (i_I (i_L2 (i_L3 (i_ZA (i_FR (i_A0 ?_)))))))); (with_reducible refine i_fldR (by assumption) ?_); (with_reducible refine i_Add (i_Mul (i_I (i_L1 (i_L3 ?_))))); rw [zg_n _ _ _ (by omega)]; rw [zg_n _ _ _ (by omega)]; rw [zx_cmul (by omega)]; rw [zx_add (by omega)]; (with_reducible refine i_in (by assumption) (by omega) (by omega) ?_); (rw [d3]); rw [zx_cmul (by omega)]; rw [zx_add (by omega)]; (with_reducible refine i_zin (by assumption) (by assumption) (by omega) (by omega) ?_); (with_reducible refine i_sIA (i_FR (i_A0 ?_))); (with_reducible refine i_fldR (by assumption) ?_); (with_reducible refine i_Add (i_Mul (i_I (i_L2 (i_L3 (i_IA (i_FR (i_A0 ?_)))))))); (with_reducible refine i_fldR (by assumption) ?_); (with_reducible refine i_Add (i_Mul (i_I (i_L1 (i_L3 ?_))))); rw [zg_n _ _ _ (by omega)]; rw [zg_n _ _ _ (by omega)]; rw [zg_n _ _ _ (by omega)]; rw [zx_cmul (by omega)]; rw [zx_add (by omega)]; (with_reducible refine i_in (by assumption) (by omega) (by omega) ?_); (rw [d4]); rw [zx_cmul (by omega)]; rw [zx_add (by omega)]; (with_reducible refine i_in (by assumption) (by omega) (by omega) ?_); (with_reducible refine i_up (i_Inc3 ?_)); rw [zx_inc (by omega)]; simp only [w_set0, w_set1, w_setn0, w_setn1])
    refine hX _ _ ⟨rfl, fun b j q => ?_, fun j hj => ?_⟩
    · (rw [zg_o _ _ (by omega)]; rw [zg_o _ _ (by omega)]; rw [zg_o _ _ (by omega)]; rw [zg_o _ _ (by omega)])
      exact hf b j q
    · by_cases e : j = k
      · subst e
        refine ⟨?_, ?_, ?_, ?_⟩
        · (rw [zg_n _ _ _ (by omega)]; rw [zg_n _ _ _ (by omega)]; rw [zg_n _ _ _ (by omega)]; rw [zg_s])
        · (rw [zg_n _ _ _ (by omega)]; rw [zg_n _ _ _ (by omega)]; rw [zg_s])
        · (rw [zg_n _ _ _ (by omega)]; rw [zg_s])
        · (rw [zg_s])
      · obtain ⟨w1, w2, w3, w4⟩ := h j (by omega)
        refine ⟨?_, ?_, ?_, ?_⟩
        · (rw [zg_n _ _ _ (by omega)]; rw [zg_n _ _ _ (by omega)]; rw [zg_n _ _ _ (by omega)]; rw [zg_m _ _ _ _ _ (by omega)])
          exact w1
        · (rw [zg_n _ _ _ (by omega)]; rw [zg_n _ _ _ (by omega)]; rw [zg_m _ _ _ _ _ (by omega)]; rw [zg_n _ _ _ (by omega)])
          exact w2
        · (rw [zg_n _ _ _ (by omega)]; rw [zg_m _ _ _ _ _ (by omega)]; rw [zg_n _ _ _ (by omega)]; rw [zg_n _ _ _ (by omega)])
          exact w3
        · (rw [zg_m _ _ _ _ _ (by omega)]; rw [zg_n _ _ _ (by omega)]; rw [zg_n _ _ _ (by omega)]; rw [zg_n _ _ _ (by omega)])
          exact w4
  rintro ρ M2 X ⟨rfl, hf2, g2⟩
  ((with_reducible refine i_turn (i_cI_lt (i_L3 (i_I ?_)))); (with_reducible refine i_f (by omega) ?_); (with_reducible refine i_RetV ?_))
  have a257 : ∀ a b : Nat, a < 16 → b < 16 → 256 * t + 16 * a + b = 256 * t + (16 * a + b) ∧ 256 * s + 16 * a + b = 256 * s + (16 * a + b) := fun a b _ _ => by omega
  refine hk M2 (fun b j q => by rw [hf2 b j (by omega), hf1 b j (by omega), f0 b j (by omega)]) ⟨⟨?_, fun q hq => ?_, fun b hb => ?_⟩, ⟨fun b hb => ?_, fun a b ha hb => ?_, fun a b ha hb => ?_, fun b hb => ?_⟩, fun i k hi hk1 => ?_, fun a b ha hb => ?_⟩
  · rw [hf2 _ _ (by omega), hf1 _ _ (by omega)]; exact g0
  · rw [hf2 _ _ (by omega), (g1 q (by omega)).1]; exact h2 q hq
  · rw [hf2 _ _ (by omega), (g1 b hb).2.1]; exact h3 b hb
  · rw [hf2 _ _ (by omega), (g1 b hb).2.2.1]; exact h4 b hb
  · rw [(a257 a b ha hb).1, (g2 (16 * a + b) (by omega)).2.1, ← (a257 a b ha hb).2]; exact h5 a b ha hb
  · rw [(a257 a b ha hb).1, (g2 (16 * a + b) (by omega)).2.2.1, ← (a257 a b ha hb).2]; exact h6 a b ha hb
  · rw [hf2 _ _ (by omega), (g1 b hb).2.2.2]; exact h7 b hb
  · have := hw.1.1
    have := zSz_le (tf A) n i
    rw [(a257 i k (by omega) (by omega)).1, (g2 (16 * i + k) (by omega)).1, ← (a257 i k (by omega) (by omega)).2]; exact h8 i k hi hk1
  · rw [(a257 a b ha hb).1, (g2 (16 * a + b) (by omega)).2.2.2, ← (a257 a b ha hb).2]; exact h9 a b ha hb
