section
-- part d1.mlab.lean.txt
/-! ===== the reference: tellings by labels ===== -/
/-- labels -/
def rLab (M : zMem) (n : Nat) (f : Nat → Nat) : Prop := ∀ p : Nat, p < n → M ((272 : Nat) : Int) ((p : Nat) : Int) = ((f p : Nat) : Int)
theorem m_ruleA {O : zOm} (hO : zWld O) (hS : zS O = zmS zC0) {t n : Nat} {f : Nat → Nat} {T : Nat → Nat → Bool} {M : zMem} {K : Option zV → zMem → Prop} (ht : t < 7) (hn : M 250 ((1 : Nat) : Int) = ((n : Nat) : Int)) (hn2 : n ≤ 16) (hb : rBox M t n f) (hb2 : ∀ q : Nat, q < n → f q ≤ 16) (hT : rMx M 267 T)
    (hk : ∀ M', (∀ b j, ¬ ((b = 258 ∧ j = ((t : Nat) : Int) ∨ (b = 259 ∨ b = 260 ∨ b = 262 ∨ b = 263) ∧ ((16 * t : Nat) : Int) ≤ j ∧ j < ((16 * t + 16 : Nat) : Int) ∨ (b = 261 ∨ b = 264 ∨ b = 265 ∨ b = 266) ∧ ((256 * t : Nat) : Int) ≤ j ∧ j < ((256 * t + 256 : Nat) : Int)) ∨ b = 268 ∨ b = 271 ∨ b = 283 ∨ b = 284) → M' b j = M b j) → rTe M' t n (zRq n T f) → K none M') : zR O F_Model_rule [(2, 250), (0, ((t : Nat) : Int))] M K := by
  refine m_rule hO hS ht hn hn2 (f := zclp n f) (fun q hq => by rw [zcl_in hq]; exact hb q hq) (fun q hq => by rw [zcl_in hq]; exact hb2 q hq) hT rfl rfl (fun M' h0 h1 h2 h3 h4 h5 h6 h7 h8 h9 => hk M' h0 ⟨⟨h1, h2, h3⟩, ⟨h4, h5, h6, h7⟩, h8, h9⟩)
theorem m_labelsOf {O : zOm} (hO : zWld O) (hS : zS O = zmS zC0) {t n : Nat} {f : Nat → Nat} {M : zMem} {K : Option zV → zMem → Prop} (ht : t < 7) (hn : M 250 ((1 : Nat) : Int) = ((n : Nat) : Int)) (hn2 : n ≤ 16) (hb : rBox M t n f)
    (hk : ∀ M', (∀ b j, ¬ b = 272 → M' b j = M b j) → rLab M' n f → K none M') : zR O F_Model_labelsOf [(2, 250), (0, ((t : Nat) : Int))] M K := by
  apply r_Model_labelsOf hO
  unfold B_Model_labelsOf
  have f1 := zMF (k := 1) hS rfl; have f26 := zMF (k := 26) hS rfl; have a272 := zMA (a := 272) (ty := .int) (n := 16) hS rfl; have f13 := zMF (k := 13) hS rfl; have a259 := zMA (a := 259) (ty := .int) (n := 112) hS rfl; have zo := zMO hS
  ((with_reducible refine i_Seq (i_Blk (i_Seq (i_Set (i_I ?_))))); simp only [w_set0, w_set1, w_setn0, w_setn1])
  refine w_ForN n (fun k ρ M' => ρ = [250, ((t : Nat) : Int), ((k : Nat) : Int)] ∧ (∀ b j, ¬ b = 272 → M' b j = M b j) ∧ ∀ p : Nat, p < k → M' ((272 : Nat) : Int) ((p : Nat) : Int) = ((f p : Nat) : Int)) ⟨rfl, fun _ _ _ => rfl, fun p hp => absurd hp (by omega)⟩ ?_ ?_
  · rintro k ρ M1 X hk1 ⟨rfl, hf, h⟩ hX
    have gn : M1 250 ((1 : Nat) : Int) = ((n : Nat) : Int) := (hf _ _ (by omega)).trans hn
    have gb : M1 ((259 : Nat) : Int) ((16 * t + k : Nat) : Int) = ((f k : Nat) : Int) := (hf _ _ (by omega)).trans (hb k hk1)
    ((with_reducible refine i_turn (i_cI_lt (i_L2 (i_F (i_A0 ?_))))); (with_reducible refine i_fld (by assumption) ?_); (rw [gn]); (with_reducible refine i_t (by omega) ?_); (with_reducible refine i_sIA (i_FR (i_A0 ?_))); (with_reducible refine i_fldR (by assumption) ?_); (with_reducible refine i_L2 (i_IA (i_FR (i_A0 ?_)))); (with_reducible refine i_fldR (by assumption) ?_); (with_reducible refine i_Add (i_Mul (i_I (i_L1 (i_L2 ?_))))); rw [zx_cmul (by omega)]; rw [zx_add (by omega)]; (with_reducible refine i_in (by assumption) (by omega) (by omega) ?_); (with_reducible refine i_in (by assumption) (by omega) (by omega) ?_); (with_reducible refine i_up (i_Inc2 ?_)); (rw [gb]); rw [zx_inc (by omega)]; simp only [w_set0, w_set1, w_setn0, w_setn1])
    refine hX _ _ ⟨rfl, (by intro b j q; ((rw [zg_n _ _ _ (by omega)])); first | done | rfl | exact hf b j (by omega)), fun p hp => ?_⟩
    by_cases e : p = k
    · subst e; rw [zg_s]
    · rw [zg_m _ _ _ _ _ (by omega)]; exact h p (by omega)
  · rintro ρ M1 X ⟨rfl, hf, h⟩
    have gn : M1 250 ((1 : Nat) : Int) = ((n : Nat) : Int) := (hf _ _ (by omega)).trans hn
    ((with_reducible refine i_turn (i_cI_lt (i_L2 (i_F (i_A0 ?_))))); (with_reducible refine i_fld (by assumption) ?_); (rw [gn]); (with_reducible refine i_f (by omega) ?_); (with_reducible refine i_RetV ?_))
    exact hk _ hf h
theorem m_settle {O : zOm} (hO : zWld O) (hS : zS O = zmS zC0) {t n : Nat} {f : Nat → Nat} {T : Nat → Nat → Bool} {M : zMem} {K : Option zV → zMem → Prop} (ht : t < 7) (hn : M 250 ((1 : Nat) : Int) = ((n : Nat) : Int)) (hn2 : n ≤ 16) (hb : rLab M n f) (hb2 : ∀ q : Nat, q < n → f q ≤ 16) (hT : rMx M 267 T)
    (hk : ∀ M', (∀ b j, ¬ ((b = 258 ∧ j = ((t : Nat) : Int) ∨ (b = 259 ∨ b = 260 ∨ b = 262 ∨ b = 263) ∧ ((16 * t : Nat) : Int) ≤ j ∧ j < ((16 * t + 16 : Nat) : Int) ∨ (b = 261 ∨ b = 264 ∨ b = 265 ∨ b = 266) ∧ ((256 * t : Nat) : Int) ≤ j ∧ j < ((256 * t + 256 : Nat) : Int)) ∨ b = 268 ∨ b = 271 ∨ b = 283 ∨ b = 284) → M' b j = M b j) → rTe M' t n (zRq n T f) → K none M') : zR O F_Model_settle [(2, 250), (0, ((t : Nat) : Int))] M K := by
  apply r_Model_settle hO
  unfold B_Model_settle
  have f1 := zMF (k := 1) hS rfl; have f13 := zMF (k := 13) hS rfl; have a259 := zMA (a := 259) (ty := .int) (n := 112) hS rfl; have f26 := zMF (k := 26) hS rfl; have a272 := zMA (a := 272) (ty := .int) (n := 16) hS rfl; have zo := zMO hS
  ((with_reducible refine i_Seq (i_Seq (i_Blk (i_Seq (i_Set (i_I ?_)))))); simp only [w_set0, w_set1, w_setn0, w_setn1])
  refine w_ForN n (fun k ρ M' => ρ = [250, ((t : Nat) : Int), ((k : Nat) : Int)] ∧ (∀ b j, ¬ (b = 259 ∧ ((16 * t : Nat) : Int) ≤ j ∧ j < ((16 * t + 16 : Nat) : Int)) → M' b j = M b j) ∧ ∀ p : Nat, p < k → M' ((259 : Nat) : Int) ((16 * t + p : Nat) : Int) = ((f p : Nat) : Int)) ⟨rfl, fun _ _ _ => rfl, fun p hp => absurd hp (by omega)⟩ ?_ ?_
  · rintro k ρ M1 X hk1 ⟨rfl, hf, h⟩ hX
    have gn : M1 250 ((1 : Nat) : Int) = ((n : Nat) : Int) := (hf _ _ (by omega)).trans hn
    have gb : M1 ((272 : Nat) : Int) ((k : Nat) : Int) = ((f k : Nat) : Int) := (hf _ _ (by omega)).trans (hb k hk1)
    ((with_reducible refine i_turn (i_cI_lt (i_L2 (i_F (i_A0 ?_))))); (with_reducible refine i_fld (by assumption) ?_); (rw [gn]); (with_reducible refine i_t (by omega) ?_); (with_reducible refine i_sIA (i_FR (i_A0 ?_))); (with_reducible refine i_fldR (by assumption) ?_); (with_reducible refine i_Add (i_Mul (i_I (i_L1 (i_L2 (i_IA (i_FR (i_A0 ?_)))))))); (with_reducible refine i_fldR (by assumption) ?_); (with_reducible refine i_L2 ?_); (with_reducible refine i_in (by assumption) (by omega) (by omega) ?_); (rw [gb]); rw [zx_cmul (by omega)]; rw [zx_add (by omega)]; (with_reducible refine i_in (by assumption) (by omega) (by omega) ?_); (with_reducible refine i_up (i_Inc2 ?_)); rw [zx_inc (by omega)]; simp only [w_set0, w_set1, w_setn0, w_setn1])
    refine hX _ _ ⟨rfl, (by intro b j q; ((rw [zg_o _ _ (by omega)])); first | done | rfl | exact hf b j (by omega)), fun p hp => ?_⟩
    by_cases e : p = k
    · subst e; rw [zg_s]
    · rw [zg_m _ _ _ _ _ (by omega)]; exact h p (by omega)
  · rintro ρ M1 X ⟨rfl, hf, h⟩
    have gn : M1 250 ((1 : Nat) : Int) = ((n : Nat) : Int) := (hf _ _ (by omega)).trans hn
    ((with_reducible refine i_turn (i_cI_lt (i_L2 (i_F (i_A0 ?_))))); (with_reducible refine i_fld (by assumption) ?_); (rw [gn]); (with_reducible refine i_f (by omega) ?_); (with_reducible refine i_sCall (i_as1 (i_A0 (i_as1 (i_L1 (i_as0 ?_)))))); (with_reducible refine i_recv0 (by assumption) ?_))
    refine m_ruleA hO hS ht gn hn2 h hb2 (hT.to (fun j => hf _ _ (by omega))) (fun M2 hf2 h2 => ⟨rfl, ?_⟩)
    (with_reducible refine i_RetV ?_)
    exact hk _ (fun b j q => by rw [hf2 b j q, hf b j (by omega)]) h2
theorem m_lengthBy {O : zOm} (hO : zWld O) (hS : zS O = zmS zC0) {n : Nat} {f : Nat → Nat} {T : Nat → Nat → Bool} {M : zMem} {K : Option zV → zMem → Prop} (hn : M 250 ((1 : Nat) : Int) = ((n : Nat) : Int)) (hn2 : n ≤ 16) (hb : rLab M n f) (hb2 : ∀ q : Nat, q < n → f q ≤ 16) (hT : rMx M 267 T)
    (hk : ∀ M', (∀ b j, ¬ ((b = 258 ∧ j = ((6 : Nat) : Int) ∨ (b = 259 ∨ b = 260 ∨ b = 262 ∨ b = 263) ∧ ((16 * 6 : Nat) : Int) ≤ j ∧ j < ((16 * 6 + 16 : Nat) : Int) ∨ (b = 261 ∨ b = 264 ∨ b = 265 ∨ b = 266) ∧ ((256 * 6 : Nat) : Int) ≤ j ∧ j < ((256 * 6 + 256 : Nat) : Int)) ∨ b = 268 ∨ b = 269 ∨ b = 270 ∨ b = 271 ∨ b = 283 ∨ b = 284) → M' b j = M b j) → K (some (0, ((zLgt n T f : Nat) : Int))) M') : zR O F_Model_lengthBy [(2, 250)] M K := by
  apply r_Model_lengthBy hO
  unfold B_Model_lengthBy
  have f1 := zMF (k := 1) hS rfl; have f13 := zMF (k := 13) hS rfl; have a259 := zMA (a := 259) (ty := .int) (n := 112) hS rfl; have f26 := zMF (k := 26) hS rfl; have a272 := zMA (a := 272) (ty := .int) (n := 16) hS rfl; have zo := zMO hS
  ((with_reducible refine i_Seq (i_Blk (i_Seq (i_Set (i_I ?_))))); simp only [w_set0, w_set1, w_setn0, w_setn1])
  refine w_ForN n (fun k ρ M' => ρ = [250, ((k : Nat) : Int)] ∧ (∀ b j, ¬ (b = 259 ∧ ((96 : Nat) : Int) ≤ j ∧ j < ((112 : Nat) : Int)) → M' b j = M b j) ∧ ∀ p : Nat, p < k → M' ((259 : Nat) : Int) ((96 + p : Nat) : Int) = ((f p : Nat) : Int)) ⟨rfl, fun _ _ _ => rfl, fun p hp => absurd hp (by omega)⟩ ?_ ?_
  · rintro k ρ M1 X hk1 ⟨rfl, hf, h⟩ hX
    have gn : M1 250 ((1 : Nat) : Int) = ((n : Nat) : Int) := (hf _ _ (by omega)).trans hn
    have gb : M1 ((272 : Nat) : Int) ((k : Nat) : Int) = ((f k : Nat) : Int) := (hf _ _ (by omega)).trans (hb k hk1)
    ((with_reducible refine i_turn (i_cI_lt (i_L1 (i_F (i_A0 ?_))))); (with_reducible refine i_fld (by assumption) ?_); (rw [gn]); (with_reducible refine i_t (by omega) ?_); (with_reducible refine i_sIA (i_FR (i_A0 ?_))); (with_reducible refine i_fldR (by assumption) ?_); (with_reducible refine i_Add (i_I (i_L1 (i_IA (i_FR (i_A0 ?_)))))); (with_reducible refine i_fldR (by assumption) ?_); (with_reducible refine i_L1 ?_); (with_reducible refine i_in (by assumption) (by omega) (by omega) ?_); (rw [gb]); rw [zx_cadd (by omega)]; (with_reducible refine i_in (by assumption) (by omega) (by omega) ?_); (with_reducible refine i_up (i_Inc1 ?_)); rw [zx_inc (by omega)]; simp only [w_set0, w_set1, w_setn0, w_setn1])
    refine hX _ _ ⟨rfl, (by intro b j q; ((rw [zg_o _ _ (by omega)])); first | done | rfl | exact hf b j (by omega)), fun p hp => ?_⟩
    by_cases e : p = k
    · subst e
      exact zg_s _ _ _ _ _
    · rw [zg_m _ _ _ _ _ (by omega)]; exact h p (by omega)
  · rintro ρ M1 X ⟨rfl, hf, h⟩
    have gn : M1 250 ((1 : Nat) : Int) = ((n : Nat) : Int) := (hf _ _ (by omega)).trans hn
    ((with_reducible refine i_turn (i_cI_lt (i_L1 (i_F (i_A0 ?_))))); (with_reducible refine i_fld (by assumption) ?_); (rw [gn]); (with_reducible refine i_f (by omega) ?_); (with_reducible refine i_Seq (i_sCall (i_as1 (i_A0 (i_as1 (i_I (i_as0 ?_))))))); (with_reducible refine i_recv0 (by assumption) ?_))
    refine m_ruleA hO hS (t := 6) (by omega) gn hn2 h hb2 (hT.to (fun j => hf _ _ (by omega))) (fun M2 hf2 h2 => ⟨rfl, ?_⟩)
    have gn2 : M2 250 ((1 : Nat) : Int) = ((n : Nat) : Int) := (hf2 _ _ (by omega)).trans gn
    ((with_reducible refine i_RetI (i_Call (i_as1 (i_A0 (i_as1 (i_I (i_as0 ?_))))))); (with_reducible refine i_recv0 (by assumption) ?_))
    refine m_lengthOf hO hS (t := 6) (by omega) gn2 hn2 h2 (zRq_w hn2) (fun M3 hf3 h3 h4 => ⟨_, rfl, ?_⟩)
    (skip)
    rw [tLen_rq hn2]
    exact hk _ (fun b j q => by rw [hf3 b j (by omega), hf2 b j (by omega), hf b j (by omega)])
theorem m_become {O : zOm} (hO : zWld O) (hS : zS O = zmS zC0) {s t n : Nat} {A : zTl} {M : zMem} {K : Option zV → zMem → Prop} (hs : s < 7) (ht : t < 7) (hst : s ≠ t) (hn2 : n ≤ 16) (hA : rTe M s n A) (hw : zTw n A)
    (hk : ∀ M', (∀ b j, ¬ (b = 258 ∧ j = ((t : Nat) : Int) ∨ (b = 259 ∨ b = 260 ∨ b = 262 ∨ b = 263) ∧ ((16 * t : Nat) : Int) ≤ j ∧ j < ((16 * t + 16 : Nat) : Int) ∨ (b = 261 ∨ b = 264 ∨ b = 265 ∨ b = 266) ∧ ((256 * t : Nat) : Int) ≤ j ∧ j < ((256 * t + 256 : Nat) : Int)) → M' b j = M b j) → rTe M' t n A → K none M') : zR O F_Model_become [(2, 250), (0, ((s : Nat) : Int)), (0, ((t : Nat) : Int))] M K := by
  obtain ⟨⟨h1, h2, h3⟩, ⟨h4, h5, h6, h7⟩, h8, h9⟩ := hA
  have c4 : ∀ k : Nat, k < 16 → M ((262 : Nat) : Int) ((16 * s + k : Nat) : Int) = 0 ∨ M ((262 : Nat) : Int) ((16 * s + k : Nat) : Int) = 1 := fun k hk1 => by rw [h4 k hk1]; exact zbI_01 _
  have c7 : ∀ k : Nat, k < 16 → M ((263 : Nat) : Int) ((16 * s + k : Nat) : Int) = 0 ∨ M ((263 : Nat) : Int) ((16 * s + k : Nat) : Int) = 1 := fun k hk1 => by rw [h7 k hk1]; exact zbI_01 _
  have e256 : ∀ k : Nat, k < 256 → 256 * s + 16 * (k / 16) + k % 16 = 256 * s + k := fun k _ => by omega
  have c5 : ∀ k : Nat, k < 256 → M ((264 : Nat) : Int) ((256 * s + k : Nat) : Int) = 0 ∨ M ((264 : Nat) : Int) ((256 * s + k : Nat) : Int) = 1 := fun k hk1 => by have := h5 (k / 16) (k % 16) (by omega) (by omega); rw [e256 k hk1] at this; rw [this]; exact zbI_01 _
  have c6 : ∀ k : Nat, k < 256 → M ((265 : Nat) : Int) ((256 * s + k : Nat) : Int) = 0 ∨ M ((265 : Nat) : Int) ((256 * s + k : Nat) : Int) = 1 := fun k hk1 => by have := h6 (k / 16) (k % 16) (by omega) (by omega); rw [e256 k hk1] at this; rw [this]; exact zbI_01 _
  apply r_Model_become hO
  unfold B_Model_become
  have f12 := zMF (k := 12) hS rfl; have a258 := zMA (a := 258) (ty := .int) (n := 7) hS rfl; have f13 := zMF (k := 13) hS rfl; have a259 := zMA (a := 259) (ty := .int) (n := 112) hS rfl; have f14 := zMF (k := 14) hS rfl; have a260 := zMA (a := 260) (ty := .int) (n := 112) hS rfl; have f16 := zMF (k := 16) hS rfl; have a262 := zMA (a := 262) (ty := .boolean) (n := 112) hS rfl; have f17 := zMF (k := 17) hS rfl; have a263 := zMA (a := 263) (ty := .boolean) (n := 112) hS rfl; have f15 := zMF (k := 15) hS rfl; have a261 := zMA (a := 261) (ty := .int) (n := 1792) hS rfl; have f18 := zMF (k := 18) hS rfl; have a264 := zMA (a := 264) (ty := .boolean) (n := 1792) hS rfl; have f19 := zMF (k := 19) hS rfl; have a265 := zMA (a := 265) (ty := .boolean) (n := 1792) hS rfl; have f20 := zMF (k := 20) hS rfl; have a266 := zMA (a := 266) (ty := .int) (n := 1792) hS rfl; have zo := zMO hS
  ((with_reducible refine i_Seq (i_Seq (i_sIA (i_FR (i_A0 ?_))))); (with_reducible refine i_fldR (by assumption) ?_); (with_reducible refine i_L2 (i_IA (i_FR (i_A0 ?_)))); (with_reducible refine i_fldR (by assumption) ?_); (with_reducible refine i_L1 ?_); (with_reducible refine i_in (by assumption) (by omega) (by omega) ?_); (with_reducible refine i_in (by assumption) (by omega) (by omega) ?_); (with_reducible refine i_Seq (i_Blk (i_Seq (i_Set (i_I ?_))))); (rw [h1]); simp only [w_set0, w_set1, w_setn0, w_setn1])
  have f0 : ∀ b j, ¬ (b = 258 ∧ j = ((t : Nat) : Int)) → zput M ((258 : Nat) : Int) (zup (M ((258 : Nat) : Int)) ((t : Nat) : Int) ((tm A : Nat) : Int)) b j = M b j := fun b j q => by rw [zg_o _ _ (by omega)]
  have g0 : zput M ((258 : Nat) : Int) (zup (M ((258 : Nat) : Int)) ((t : Nat) : Int) ((tm A : Nat) : Int)) ((258 : Nat) : Int) ((t : Nat) : Int) = ((tm A : Nat) : Int) := zg_s _ _ _ _ _
  generalize zput M ((258 : Nat) : Int) (zup (M ((258 : Nat) : Int)) ((t : Nat) : Int) ((tm A : Nat) : Int)) = M0 at f0 g0 ⊢
  refine w_ForN 16 (fun k ρ M' => ρ = [250, ((s : Nat) : Int), ((t : Nat) : Int), ((k : Nat) : Int)] ∧ (∀ b j, ¬ ((b = 259 ∨ b = 260 ∨ b = 262 ∨ b = 263) ∧ ((16 * t : Nat) : Int) ≤ j ∧ j < ((16 * t + 16 : Nat) : Int)) → M' b j = M0 b j) ∧ ∀ j : Nat, j < k → M' ((259 : Nat) : Int) ((16 * t + j : Nat) : Int) = M ((259 : Nat) : Int) ((16 * s + j : Nat) : Int) ∧ M' ((260 : Nat) : Int) ((16 * t + j : Nat) : Int) = M ((260 : Nat) : Int) ((16 * s + j : Nat) : Int) ∧ M' ((262 : Nat) : Int) ((16 * t + j : Nat) : Int) = M ((262 : Nat) : Int) ((16 * s + j : Nat) : Int) ∧ M' ((263 : Nat) : Int) ((16 * t + j : Nat) : Int) = M ((263 : Nat) : Int) ((16 * s + j : Nat) : Int)) ⟨rfl, fun _ _ _ => rfl, fun j hj => absurd hj (by omega)⟩ ?_ ?_
  · rintro k ρ M1 X hk1 ⟨rfl, hf, h⟩ hX
    have d1 : M1 ((259 : Nat) : Int) ((16 * s + k : Nat) : Int) = M ((259 : Nat) : Int) ((16 * s + k : Nat) : Int) := by rw [hf _ _ (by omega), f0 _ _ (by omega)]
    have d2 : M1 ((260 : Nat) : Int) ((16 * s + k : Nat) : Int) = M ((260 : Nat) : Int) ((16 * s + k : Nat) : Int) := by rw [hf _ _ (by omega), f0 _ _ (by omega)]
    have d3 : M1 ((262 : Nat) : Int) ((16 * s + k : Nat) : Int) = M ((262 : Nat) : Int) ((16 * s + k : Nat) : Int) := by rw [hf _ _ (by omega), f0 _ _ (by omega)]
    have d4 : M1 ((263 : Nat) : Int) ((16 * s + k : Nat) : Int) = M ((263 : Nat) : Int) ((16 * s + k : Nat) : Int) := by rw [hf _ _ (by omega), f0 _ _ (by omega)]
    have z3 := c4 k hk1
    have z4 := c7 k hk1
    ((with_reducible refine i_turn (i_cI_lt (i_L3 (i_I ?_)))); (with_reducible refine i_t (by omega) ?_); (with_reducible refine i_Seq (i_sIA (i_FR (i_A0 ?_)))); (with_reducible refine i_fldR (by assumption) ?_); (with_reducible refine i_Add (i_Mul (i_I (i_L2 (i_L3 (i_IA (i_FR (i_A0 ?_)))))))); (with_reducible refine i_fldR (by assumption) ?_); (with_reducible refine i_Add (i_Mul (i_I (i_L1 (i_L3 ?_))))); rw [zx_cmul (by omega)]; rw [zx_add (by omega)]; (with_reducible refine i_in (by assumption) (by omega) (by omega) ?_); (rw [d1]); rw [zx_cmul (by omega)]; rw [zx_add (by omega)]; (with_reducible refine i_in (by assumption) (by omega) (by omega) ?_); (with_reducible refine i_Seq (i_sIA (i_FR (i_A0 ?_)))); (with_reducible refine i_fldR (by assumption) ?_); (with_reducible refine i_Add (i_Mul (i_I (i_L2 (i_L3 (i_IA (i_FR (i_A0 ?_)))))))); (with_reducible refine i_fldR (by assumption) ?_); (with_reducible refine i_Add (i_Mul (i_I (i_L1 (i_L3 ?_))))); rw [zg_n _ _ _ (by omega)]; rw [zx_cmul (by omega)]; rw [zx_add (by omega)]; (with_reducible refine i_in (by assumption) (by omega) (by omega) ?_); (rw [d2]); rw [zx_cmul (by omega)]; rw [zx_add (by omega)]; (with_reducible refine i_in (by assumption) (by omega) (by omega) ?_); (with_reducible refine i_Seq (i_sZA (i_FR (i_A0 ?_)))); (with_reducible refine i_fldR (by assumption) ?_); (with_reducible refine i_Add (i_Mul (i_I (i_L2 (i_L3 (i_ZA (i_FR (i_A0 ?_)))))))); (with_reducible refine i_fldR (by assumption) ?_); (with_reducible refine i_Add (i_Mul (i_I (i_L1 (i_L3 ?_))))); rw [zg_n _ _ _ (by omega)]; rw [zg_n _ _ _ (by omega)]; rw [zx_cmul (by omega)]; rw [zx_add (by omega)]; (with_reducible refine i_in (by assumption) (by omega) (by omega) ?_); (rw [d3]); rw [zx_cmul (by omega)]; rw [zx_add (by omega)]; (with_reducible refine i_zin (by assumption) (by assumption) (by omega) (by omega) ?_); (with_reducible refine i_sZA (i_FR (i_A0 ?_))); (with_reducible refine i_fldR (by assumption) ?_); (with_reducible refine i_Add (i_Mul (i_I (i_L2 (i_L3 (i_ZA (i_FR (i_A0 ?_)))))))); (with_reducible refine i_fldR (by assumption) ?_); (with_reducible refine i_Add (i_Mul (i_I (i_L1 (i_L3 ?_))))); rw [zg_n _ _ _ (by omega)]; rw [zg_n _ _ _ (by omega)]; rw [zg_n _ _ _ (by omega)]; rw [zx_cmul (by omega)]; rw [zx_add (by omega)]; (with_reducible refine i_in (by assumption) (by omega) (by omega) ?_); (rw [d4]); rw [zx_cmul (by omega)]; rw [zx_add (by omega)]; (with_reducible refine i_zin (by assumption) (by assumption) (by omega) (by omega) ?_); (with_reducible refine i_up (i_Inc3 ?_)); rw [zx_inc (by omega)]; simp only [w_set0, w_set1, w_setn0, w_setn1])
    refine hX _ _ ⟨rfl, fun b j q => ?_, fun j hj => ?_⟩
    · (rw [zg_o _ _ (by omega)]; rw [zg_o _ _ (by omega)]; rw [zg_o _ _ (by omega)]; rw [zg_o _ _ (by omega)])
      exact hf b j q
    · by_cases e : j = k
      · subst e
        refine ⟨?_, ?_, ?_, ?_⟩
        · (rw [zg_n _ _ _ (by omega)]; rw [zg_n _ _ _ (by omega)]; rw [zg_n _ _ _ (by omega)]; rw [zg_s])
        · (rw [zg_n _ _ _ (by omega)]; rw [zg_n _ _ _ (by omega)]; rw [zg_s])
        · (rw [zg_n _ _ _ (by omega)]; rw [zg_s])
        · (rw [zg_s])
      · obtain ⟨w1, w2, w3, w4⟩ := h j (by omega)
        refine ⟨?_, ?_, ?_, ?_⟩
        · (rw [zg_n _ _ _ (by omega)]; rw [zg_n _ _ _ (by omega)]; rw [zg_n _ _ _ (by omega)]; rw [zg_m _ _ _ _ _ (by omega)])
          exact w1
        · (rw [zg_n _ _ _ (by omega)]; rw [zg_n _ _ _ (by omega)]; rw [zg_m _ _ _ _ _ (by omega)]; rw [zg_n _ _ _ (by omega)])
          exact w2
        · (rw [zg_n _ _ _ (by omega)]; rw [zg_m _ _ _ _ _ (by omega)]; rw [zg_n _ _ _ (by omega)]; rw [zg_n _ _ _ (by omega)])
          exact w3
        · (rw [zg_m _ _ _ _ _ (by omega)]; rw [zg_n _ _ _ (by omega)]; rw [zg_n _ _ _ (by omega)]; rw [zg_n _ _ _ (by omega)])
          exact w4
  rintro ρ M1 X ⟨rfl, hf1, g1⟩
  ((with_reducible refine i_turn (i_cI_lt (i_L3 (i_I ?_)))); (with_reducible refine i_f (by omega) ?_); (with_reducible refine i_Blk (i_Seq (i_Set (i_I ?_)))); simp only [w_set0, w_set1, w_setn0, w_setn1])
  refine w_ForN 256 (fun k ρ M' => ρ = [250, ((s : Nat) : Int), ((t : Nat) : Int), ((k : Nat) : Int)] ∧ (∀ b j, ¬ ((b = 261 ∨ b = 264 ∨ b = 265 ∨ b = 266) ∧ ((256 * t : Nat) : Int) ≤ j ∧ j < ((256 * t + 256 : Nat) : Int)) → M' b j = M1 b j) ∧ ∀ j : Nat, j < k → M' ((261 : Nat) : Int) ((256 * t + j : Nat) : Int) = M ((261 : Nat) : Int) ((256 * s + j : Nat) : Int) ∧ M' ((264 : Nat) : Int) ((256 * t + j : Nat) : Int) = M ((264 : Nat) : Int) ((256 * s + j : Nat) : Int) ∧ M' ((265 : Nat) : Int) ((256 * t + j : Nat) : Int) = M ((265 : Nat) : Int) ((256 * s + j : Nat) : Int) ∧ M' ((266 : Nat) : Int) ((256 * t + j : Nat) : Int) = M ((266 : Nat) : Int) ((256 * s + j : Nat) : Int)) ⟨rfl, fun _ _ _ => rfl, fun j hj => absurd hj (by omega)⟩ ?_ ?_
  · rintro k ρ M2 X hk1 ⟨rfl, hf, h⟩ hX
    have d1 : M2 ((261 : Nat) : Int) ((256 * s + k : Nat) : Int) = M ((261 : Nat) : Int) ((256 * s + k : Nat) : Int) := by rw [hf _ _ (by omega), hf1 _ _ (by omega), f0 _ _ (by omega)]
    have d2 : M2 ((264 : Nat) : Int) ((256 * s + k : Nat) : Int) = M ((264 : Nat) : Int) ((256 * s + k : Nat) : Int) := by rw [hf _ _ (by omega), hf1 _ _ (by omega), f0 _ _ (by omega)]
    have d3 : M2 ((265 : Nat) : Int) ((256 * s + k : Nat) : Int) = M ((265 : Nat) : Int) ((256 * s + k : Nat) : Int) := by rw [hf _ _ (by omega), hf1 _ _ (by omega), f0 _ _ (by omega)]
    have d4 : M2 ((266 : Nat) : Int) ((256 * s + k : Nat) : Int) = M ((266 : Nat) : Int) ((256 * s + k : Nat) : Int) := by rw [hf _ _ (by omega), hf1 _ _ (by omega), f0 _ _ (by omega)]
    have z3 := c5 k hk1
    have z4 := c6 k hk1
    ((with_reducible refine i_turn (i_cI_lt (i_L3 (i_I ?_)))); (with_reducible refine i_t (by omega) ?_); (with_reducible refine i_Seq (i_sIA (i_FR (i_A0 ?_)))); (with_reducible refine i_fldR (by assumption) ?_); (with_reducible refine i_Add (i_Mul (i_I (i_L2 (i_L3 (i_IA (i_FR (i_A0 ?_)))))))); (with_reducible refine i_fldR (by assumption) ?_); (with_reducible refine i_Add (i_Mul (i_I (i_L1 (i_L3 ?_))))); rw [zx_cmul (by omega)]; rw [zx_add (by omega)]; (with_reducible refine i_in (by assumption) (by omega) (by omega) ?_); (rw [d1]); rw [zx_cmul (by omega)]; rw [zx_add (by omega)]; (with_reducible refine i_in (by assumption) (by omega) (by omega) ?_); (with_reducible refine i_Seq (i_sZA (i_FR (i_A0 ?_)))); (with_reducible refine i_fldR (by assumption) ?_); (with_reducible refine i_Add (i_Mul (i_I (i_L2 (i_L3 (i_ZA (i_FR (i_A0 ?_)))))))); (with_reducible refine i_fldR (by assumption) ?_); (with_reducible refine i_Add (i_Mul (i_I (i_L1 (i_L3 ?_))))); rw [zg_n _ _ _ (by omega)]; rw [zx_cmul (by omega)]; rw [zx_add (by omega)]; (with_reducible refine i_in (by assumption) (by omega) (by omega) ?_); (rw [d2]); rw [zx_cmul (by omega)]; rw [zx_add (by omega)]; (with_reducible refine i_zin (by assumption) (by assumption) (by omega) (by omega) ?_); (with_reducible refine i_Seq (i_sZA (i_FR (i_A0 ?_)))); (with_reducible refine i_fldR (by assumption) ?_); (with_reducible refine i_Add (i_Mul (i_I (i_L2 (i_L3 (i_ZA (i_FR (i_A0 ?_)))))))); (with_reducible refine i_fldR (by assumption) ?_); (with_reducible refine i_Add (i_Mul (i_I (i_L1 (i_L3 ?_))))); rw [zg_n _ _ _ (by omega)]; rw [zg_n _ _ _ (by omega)]; rw [zx_cmul (by omega)]; rw [zx_add (by omega)]; (with_reducible refine i_in (by assumption) (by omega) (by omega) ?_); (rw [d3]); rw [zx_cmul (by omega)]; rw [zx_add (by omega)]; (with_reducible refine i_zin (by assumption) (by assumption) (by omega) (by omega) ?_); (with_reducible refine i_sIA (i_FR (i_A0 ?_))); (with_reducible refine i_fldR (by assumption) ?_); (with_reducible refine i_Add (i_Mul (i_I (i_L2 (i_L3 (i_IA (i_FR (i_A0 ?_)))))))); (with_reducible refine i_fldR (by assumption) ?_); (with_reducible refine i_Add (i_Mul (i_I (i_L1 (i_L3 ?_))))); rw [zg_n _ _ _ (by omega)]; rw [zg_n _ _ _ (by omega)]; rw [zg_n _ _ _ (by omega)]; rw [zx_cmul (by omega)]; rw [zx_add (by omega)]; (with_reducible refine i_in (by assumption) (by omega) (by omega) ?_); (rw [d4]); rw [zx_cmul (by omega)]; rw [zx_add (by omega)]; (with_reducible refine i_in (by assumption) (by omega) (by omega) ?_); (with_reducible refine i_up (i_Inc3 ?_)); rw [zx_inc (by omega)]; simp only [w_set0, w_set1, w_setn0, w_setn1])
    refine hX _ _ ⟨rfl, fun b j q => ?_, fun j hj => ?_⟩
    · (rw [zg_o _ _ (by omega)]; rw [zg_o _ _ (by omega)]; rw [zg_o _ _ (by omega)]; rw [zg_o _ _ (by omega)])
      exact hf b j q
    · by_cases e : j = k
      · subst e
        refine ⟨?_, ?_, ?_, ?_⟩
        · (rw [zg_n _ _ _ (by omega)]; rw [zg_n _ _ _ (by omega)]; rw [zg_n _ _ _ (by omega)]; rw [zg_s])
        · (rw [zg_n _ _ _ (by omega)]; rw [zg_n _ _ _ (by omega)]; rw [zg_s])
        · (rw [zg_n _ _ _ (by omega)]; rw [zg_s])
        · (rw [zg_s])
      · obtain ⟨w1, w2, w3, w4⟩ := h j (by omega)
        refine ⟨?_, ?_, ?_, ?_⟩
        · (rw [zg_n _ _ _ (by omega)]; rw [zg_n _ _ _ (by omega)]; rw [zg_n _ _ _ (by omega)]; rw [zg_m _ _ _ _ _ (by omega)])
          exact w1
        · (rw [zg_n _ _ _ (by omega)]; rw [zg_n _ _ _ (by omega)]; rw [zg_m _ _ _ _ _ (by omega)]; rw [zg_n _ _ _ (by omega)])
          exact w2
        · (rw [zg_n _ _ _ (by omega)]; rw [zg_m _ _ _ _ _ (by omega)]; rw [zg_n _ _ _ (by omega)]; rw [zg_n _ _ _ (by omega)])
          exact w3
        · (rw [zg_m _ _ _ _ _ (by omega)]; rw [zg_n _ _ _ (by omega)]; rw [zg_n _ _ _ (by omega)]; rw [zg_n _ _ _ (by omega)])
          exact w4
  rintro ρ M2 X ⟨rfl, hf2, g2⟩
  ((with_reducible refine i_turn (i_cI_lt (i_L3 (i_I ?_)))); (with_reducible refine i_f (by omega) ?_); (with_reducible refine i_RetV ?_))
  have a257 : ∀ a b : Nat, a < 16 → b < 16 → 256 * t + 16 * a + b = 256 * t + (16 * a + b) ∧ 256 * s + 16 * a + b = 256 * s + (16 * a + b) := fun a b _ _ => by omega
  refine hk M2 (fun b j q => by rw [hf2 b j (by omega), hf1 b j (by omega), f0 b j (by omega)]) ⟨⟨?_, fun q hq => ?_, fun b hb => ?_⟩, ⟨fun b hb => ?_, fun a b ha hb => ?_, fun a b ha hb => ?_, fun b hb => ?_⟩, fun i k hi hk1 => ?_, fun a b ha hb => ?_⟩
  · rw [hf2 _ _ (by omega), hf1 _ _ (by omega)]; exact g0
  · rw [hf2 _ _ (by omega), (g1 q (by omega)).1]; exact h2 q hq
  · rw [hf2 _ _ (by omega), (g1 b hb).2.1]; exact h3 b hb
  · rw [hf2 _ _ (by omega), (g1 b hb).2.2.1]; exact h4 b hb
  · rw [(a257 a b ha hb).1, (g2 (16 * a + b) (by omega)).2.1, ← (a257 a b ha hb).2]; exact h5 a b ha hb
  · rw [(a257 a b ha hb).1, (g2 (16 * a + b) (by omega)).2.2.1, ← (a257 a b ha hb).2]; exact h6 a b ha hb
  · rw [hf2 _ _ (by omega), (g1 b hb).2.2.2]; exact h7 b hb
  · have := hw.1.1
    have := zSz_le (tf A) n i
    rw [(a257 i k (by omega) (by omega)).1, (g2 (16 * i + k) (by omega)).1, ← (a257 i k (by omega) (by omega)).2]; exact h8 i k hi hk1
  · rw [(a257 a b ha hb).1, (g2 (16 * a + b) (by omega)).2.2.2, ← (a257 a b ha hb).2]; exact h9 a b ha hb
end
section
-- part d2.psea.lean.txt
/-! ===== partings by the rule: the search as a function ===== -/
/-- two boxes joined -/
def zjc (g : Nat → Nat) (i j : Nat) : Nat → Nat := fun q => if g q = j then i else g q
def zJst (n : Nat) (T : Nat → Nat → Bool) (g : Nat → Nat) (i j : Nat) (s : Nat × Nat × Nat) : Nat × Nat × Nat := if zLgt n T (zjc g i j) < s.1 then (zLgt n T (zjc g i j), i, j) else s
def zJin (n : Nat) (T : Nat → Nat → Bool) (g : Nat → Nat) (i : Nat) (s : Nat × Nat × Nat) : Nat → Nat × Nat × Nat
  | 0 => s
  | k + 1 => zJst n T g i (i + 1 + k) (zJin n T g i s k)
def zJout (n : Nat) (T : Nat → Nat → Bool) (g : Nat → Nat) (m : Nat) (s : Nat × Nat × Nat) : Nat → Nat × Nat × Nat
  | 0 => s
  | i + 1 => zJin n T g i (zJout n T g m s i) (m - (i + 1))
/-- the best two to join: its length, and they -/
def zJb (n : Nat) (T : Nat → Nat → Bool) (g : Nat → Nat) (cur : Nat) : Nat × Nat × Nat := zJout n T g (zcmx n g) (cur, 0, 0) (zcmx n g)
theorem zJin_su (n : Nat) (T : Nat → Nat → Bool) (g : Nat → Nat) (i : Nat) (s : Nat × Nat × Nat) (k : Nat) : zJin n T g i s (k + 1) = zJst n T g i (i + 1 + k) (zJin n T g i s k) := rfl
theorem zJout_su (n : Nat) (T : Nat → Nat → Bool) (g : Nat → Nat) (m : Nat) (s : Nat × Nat × Nat) (i : Nat) : zJout n T g m s (i + 1) = zJin n T g i (zJout n T g m s i) (m - (i + 1)) := rfl
/-- what holds of the best so far -/
def zJok (m cur : Nat) (s : Nat × Nat × Nat) : Prop := s.1 ≤ cur ∧ (s.1 < cur → s.2.1 < s.2.2 ∧ s.2.2 < m)
theorem zJst_ok {n m cur i j : Nat} {T : Nat → Nat → Bool} {g : Nat → Nat} {s : Nat × Nat × Nat} (h : zJok m cur s) (hij : i < j) (hj : j < m) : zJok m cur (zJst n T g i j s) := by
  unfold zJst
  split
  next w => exact ⟨by have := h.1; show zLgt n T (zjc g i j) ≤ cur; omega, fun _ => ⟨hij, hj⟩⟩
  next => exact h
theorem zJin_ok {n m cur i : Nat} {T : Nat → Nat → Bool} {g : Nat → Nat} {s : Nat × Nat × Nat} (h : zJok m cur s) : ∀ k, i + 1 + k ≤ m → zJok m cur (zJin n T g i s k) := by
  intro k
  induction k with
  | zero => intro _; exact h
  | succ k ih => intro hk; exact zJst_ok (ih (by omega)) (by omega) (by omega)
theorem zJout_ok {n m cur : Nat} {T : Nat → Nat → Bool} {g : Nat → Nat} {s : Nat × Nat × Nat} (h : zJok m cur s) : ∀ i, i ≤ m → zJok m cur (zJout n T g m s i) := by
  intro i
  induction i with
  | zero => intro _; exact h
  | succ i ih => intro hi; exact zJin_ok (ih (by omega)) _ (by omega)
theorem zJb_ok (n : Nat) (T : Nat → Nat → Bool) (g : Nat → Nat) (cur : Nat) : zJok (zcmx n g) cur (zJb n T g cur) := zJout_ok ⟨Nat.le_refl _, fun h => absurd h (Nat.lt_irrefl _)⟩ _ (Nat.le_refl _)
def zJ1 (n : Nat) (T : Nat → Nat → Bool) (x : (Nat → Nat) × Nat) : (Nat → Nat) × Nat := if (zJb n T x.1 x.2).1 < x.2 then (zcg n (zjc x.1 (zJb n T x.1 x.2).2.1 (zJb n T x.1 x.2).2.2), (zJb n T x.1 x.2).1) else x
/-- behind k joins -/
def zJs (n : Nat) (T : Nat → Nat → Bool) : Nat → (Nat → Nat) × Nat
  | 0 => (zcg n (fun q => q), zLgt n T (fun q => q))
  | k + 1 => zJ1 n T (zJs n T k)
theorem zJs_su (n : Nat) (T : Nat → Nat → Bool) (k : Nat) : zJs n T (k + 1) = zJ1 n T (zJs n T k) := rfl
theorem zjc_few {n i j : Nat} {g : Nat → Nat} (hij : i < j) (hi : ∃ p, p < n ∧ g p = i) (hj : ∃ p, p < n ∧ g p = j) : zcnt (zNew (zjc g i j)) n < zcnt (zNew g) n := by
  obtain ⟨p, p1, p2⟩ := hi
  obtain ⟨q, q1, q2⟩ := hj
  have w1 : zfl g i n < n := by
    rcases Nat.lt_or_ge (zfl g i n) n with w | w
    · exact w
    · exact absurd p2 (zfl_no (k := n) (by omega))
  have w2 : zfl g j n < n := by
    rcases Nat.lt_or_ge (zfl g j n) n with w | w
    · exact w
    · exact absurd q2 (zfl_no (k := n) (by omega))
  have v1 := zfl_at w1
  have v2 := zfl_at w2
  have n1 := zNew_at w1
  have n2 := zNew_at w2
  have hne : zfl g i n ≠ zfl g j n := fun z => by rw [z, v2] at v1; omega
  have hsame : ∀ a b, g a = g b → zjc g i j a = zjc g i j b := fun a b h => by unfold zjc; rw [h]
  have hold : ∀ a b, a < b → zjc g i j a = zjc g i j b → zNew (zjc g i j) b = false := fun a b hab h => by
    unfold zNew
    refine decide_eq_false (fun z => ?_)
    exact absurd h (zfl_no (k := b) (by omega))
  refine zcnt_sub1 (i := if zfl g i n < zfl g j n then zfl g j n else zfl g i n) (fun a _ ha => ?_) (by split <;> omega) ?_ (by split; exact n2; exact n1)
  · cases e : zNew g a
    · have : zfl g (g a) a < a := by
        have := zfl_le g (g a) a
        have h2 : ¬ zfl g (g a) a = a := of_decide_eq_false e
        omega
      rw [hold _ a this (hsame _ _ (zfl_at this))] at ha
      cases ha
    · rfl
  · have hv : zjc g i j (zfl g i n) = i ∧ zjc g i j (zfl g j n) = i := by
      unfold zjc
      rw [v1, v2, if_neg (by omega), if_pos rfl]
      exact ⟨rfl, rfl⟩
    split
    next z => exact hold _ _ z (hv.1.trans hv.2.symm)
    next z => exact hold _ _ (show zfl g j n < zfl g i n by omega) (hv.2.trans hv.1.symm)
theorem zJs_g {n : Nat} (hn : 0 < n) (T : Nat → Nat → Bool) (k : Nat) : ∃ f, (zJs n T k).1 = zcg n f ∧ (zJs n T k).2 = zLgt n T f := by
  induction k with
  | zero => exact ⟨_, rfl, rfl⟩
  | succ k ih =>
    rw [zJs_su]
    unfold zJ1
    split
    next h =>
      refine ⟨_, rfl, ?_⟩
      have key : ∀ (m : Nat) (s : Nat × Nat × Nat) (g : Nat → Nat) (cur : Nat), (s.1 < cur → s.1 = zLgt n T (zjc g s.2.1 s.2.2)) → ∀ i, ((zJout n T g m s i).1 < cur → (zJout n T g m s i).1 = zLgt n T (zjc g (zJout n T g m s i).2.1 (zJout n T g m s i).2.2)) := by
        intro m s g cur hs i
        have hin : ∀ (s : Nat × Nat × Nat) (i k : Nat), (s.1 < cur → s.1 = zLgt n T (zjc g s.2.1 s.2.2)) → ((zJin n T g i s k).1 < cur → (zJin n T g i s k).1 = zLgt n T (zjc g (zJin n T g i s k).2.1 (zJin n T g i s k).2.2)) := by
          intro s i k hs
          induction k with
          | zero => exact hs
          | succ k ih =>
            rw [zJin_su]
            unfold zJst
            split
            · exact fun _ => rfl
            · exact ih
        induction i with
        | zero => exact hs
        | succ i ih => rw [zJout_su]; exact hin _ _ _ ih
      exact key _ _ _ _ (fun h => absurd h (Nat.lt_irrefl _)) _ h
    next => exact ih
theorem zJs_fx {n : Nat} {T : Nat → Nat → Bool} {k : Nat} (h : ¬ (zJb n T (zJs n T k).1 (zJs n T k).2).1 < (zJs n T k).2) (j : Nat) : zJs n T (k + j) = zJs n T k := by
  induction j with
  | zero => rfl
  | succ j ih => rw [← Nat.add_assoc, zJs_su, ih]; unfold zJ1; rw [if_neg h]
/-- as long as there are joins, there are fewer boxes -/
theorem zJs_few {n : Nat} (hn : 0 < n) (T : Nat → Nat → Bool) (k : Nat) : (∃ j, j < k ∧ ¬ (zJb n T (zJs n T j).1 (zJs n T j).2).1 < (zJs n T j).2) ∨ zcmx n (zJs n T k).1 + k ≤ n := by
  induction k with
  | zero => exact Or.inr (by have := zcm_le n (zJs n T 0).1; omega)
  | succ k ih =>
    rcases ih with ⟨j, h1, h2⟩ | h
    · exact Or.inl ⟨j, by omega, h2⟩
    · by_cases c : (zJb n T (zJs n T k).1 (zJs n T k).2).1 < (zJs n T k).2
      · refine Or.inr ?_
        have hok := (zJb_ok n T (zJs n T k).1 (zJs n T k).2).2 c
        obtain ⟨f, e1, -⟩ := zJs_g hn T k
        have e2 := zcg_id hn f
        rw [← e1] at e2
        have hon : ∀ b, b < zcmx n (zJs n T k).1 → ∃ p, p < n ∧ (zJs n T k).1 p = b := fun b hb => by
          have := zcg_on hb
          rwa [e2.1] at this
        have h3 := zjc_few hok.1 (hon _ (by omega)) (hon _ hok.2)
        rw [zJs_su]
        unfold zJ1
        rw [if_pos c]
        show zcmx n (zcg n _) + (k + 1) ≤ n
        rw [(zcg_id hn _).2, zcm_in]
        rw [zcm_in] at h
        omega
      · exact Or.inl ⟨k, by omega, c⟩
theorem zJs_end {n : Nat} (hn : 0 < n) (hn2 : n ≤ 16) {T : Nat → Nat → Bool} {k : Nat} (h : ¬ (zJb n T (zJs n T k).1 (zJs n T k).2).1 < (zJs n T k).2) : zJs n T k = zJs n T 16 := by
  rcases Nat.lt_or_ge 16 k with w | w
  · rcases zJs_few hn T 16 with ⟨j, h1, h2⟩ | h3
    · have e1 := zJs_fx h2 (16 - j)
      have e2 := zJs_fx h2 (k - j)
      rw [show j + (16 - j) = 16 by omega] at e1
      rw [show j + (k - j) = k by omega] at e2
      rw [e1, e2]
    · have h4 : 0 < zcmx n (zJs n T 16).1 := by
        have := zcg_lt (f := (zJs n T 16).1) hn
        omega
      omega
  · have e1 := zJs_fx h (16 - k)
    rw [show k + (16 - k) = 16 by omega] at e1
    exact e1.symm
/-! a post moved -/
/-- the others' labels, in a line -/
def zot (g : Nat → Nat) (p : Nat) : Nat → Nat := fun q => if q < p then g q else g (q + 1)
/-- the others' numbers -/
def zwi (g : Nat → Nat) (p q : Nat) : Nat := zNum (zot g p) (if q < p then q else q - 1)
def znb (n : Nat) (g : Nat → Nat) (p : Nat) : Nat := zcnt (zNew (zot g p)) (n - 1)
def zmc (g : Nat → Nat) (p c : Nat) : Nat → Nat := fun q => if q = p then c else zwi g p q
/-- the best of the first c boxes: its length, its number and 1 (0: none) -/
def zMb (n : Nat) (T : Nat → Nat → Bool) (g : Nat → Nat) (p cur : Nat) : Nat → Nat × Nat
  | 0 => (cur, 0)
  | c + 1 => if zLgt n T (zmc g p c) < (zMb n T g p cur c).1 then (zLgt n T (zmc g p c), c + 1) else zMb n T g p cur c
theorem zMb_su (n : Nat) (T : Nat → Nat → Bool) (g : Nat → Nat) (p cur c : Nat) : zMb n T g p cur (c + 1) = if zLgt n T (zmc g p c) < (zMb n T g p cur c).1 then (zLgt n T (zmc g p c), c + 1) else zMb n T g p cur c := rfl
def zM1 (n : Nat) (T : Nat → Nat → Bool) (p : Nat) (x : (Nat → Nat) × Nat) : (Nat → Nat) × Nat := if (zMb n T x.1 p x.2 (znb n x.1 p + 1)).2 = 0 then x else (zcg n (zmc x.1 p ((zMb n T x.1 p x.2 (znb n x.1 p + 1)).2 - 1)), (zMb n T x.1 p x.2 (znb n x.1 p + 1)).1)
/-- the posts moved one by one -/
def zMr (n : Nat) (T : Nat → Nat → Bool) (x : (Nat → Nat) × Nat) : Nat → (Nat → Nat) × Nat
  | 0 => x
  | p + 1 => zM1 n T p (zMr n T x p)
theorem zMr_su (n : Nat) (T : Nat → Nat → Bool) (x : (Nat → Nat) × Nat) (p : Nat) : zMr n T x (p + 1) = zM1 n T p (zMr n T x p) := rfl
def zMs (n : Nat) (T : Nat → Nat → Bool) (x : (Nat → Nat) × Nat) : Nat → (Nat → Nat) × Nat
  | 0 => x
  | k + 1 => zMr n T (zMs n T x k) n
theorem zMs_su (n : Nat) (T : Nat → Nat → Bool) (x : (Nat → Nat) × Nat) (k : Nat) : zMs n T x (k + 1) = zMr n T (zMs n T x k) n := rfl
/-- the parting by the rule, and its length -/
def zPt (n : Nat) (T : Nat → Nat → Bool) : (Nat → Nat) × Nat := zMs n T (zJs n T 16) 20001
theorem zMb_ok (n : Nat) (T : Nat → Nat → Bool) (g : Nat → Nat) (p cur c : Nat) : (zMb n T g p cur c).1 ≤ cur ∧ ((zMb n T g p cur c).2 = 0 → zMb n T g p cur c = (cur, 0)) ∧ ((zMb n T g p cur c).2 ≠ 0 → (zMb n T g p cur c).1 < cur ∧ (zMb n T g p cur c).2 ≤ c ∧ (zMb n T g p cur c).1 = zLgt n T (zmc g p ((zMb n T g p cur c).2 - 1))) := by
  induction c with
  | zero => exact ⟨Nat.le_refl _, fun _ => rfl, fun h => absurd rfl h⟩
  | succ c ih =>
    rw [zMb_su]
    split
    next h => exact ⟨by have := ih.1; show zLgt n T (zmc g p c) ≤ cur; omega, fun z => absurd z (Nat.succ_ne_zero c), fun _ => ⟨by have := ih.1; show zLgt n T (zmc g p c) < cur; omega, Nat.le_refl _, rfl⟩⟩
    next h => exact ⟨ih.1, ih.2.1, fun z => ⟨(ih.2.2 z).1, by have := (ih.2.2 z).2.1; omega, (ih.2.2 z).2.2⟩⟩
theorem zM1_ok {n : Nat} {T : Nat → Nat → Bool} {p : Nat} {x : (Nat → Nat) × Nat} : (zM1 n T p x).2 ≤ x.2 ∧ (¬ (zM1 n T p x).2 < x.2 → zM1 n T p x = x) := by
  have h := zMb_ok n T x.1 p x.2 (znb n x.1 p + 1)
  unfold zM1
  split
  next e => exact ⟨Nat.le_refl _, fun _ => rfl⟩
  next e => exact ⟨h.1, fun z => absurd (h.2.2 e).1 z⟩
theorem zMr_ok {n : Nat} {T : Nat → Nat → Bool} {x : (Nat → Nat) × Nat} (p : Nat) : (zMr n T x p).2 ≤ x.2 ∧ (¬ (zMr n T x p).2 < x.2 → zMr n T x p = x) := by
  induction p with
  | zero => exact ⟨Nat.le_refl _, fun _ => rfl⟩
  | succ p ih =>
    rw [zMr_su]
    have h := zM1_ok (n := n) (T := T) (p := p) (x := zMr n T x p)
    refine ⟨by have := ih.1; omega, fun z => ?_⟩
    have e1 := h.2 (by have := ih.1; omega)
    rw [e1] at z ⊢
    exact ih.2 z
theorem zMs_fx {n : Nat} {T : Nat → Nat → Bool} {x : (Nat → Nat) × Nat} {k : Nat} (h : ¬ (zMs n T x (k + 1)).2 < (zMs n T x k).2) (j : Nat) : zMs n T x (k + j) = zMs n T x k := by
  have e := (zMr_ok (n := n) (T := T) (x := zMs n T x k) n).2 h
  induction j with
  | zero => rfl
  | succ j ih => rw [← Nat.add_assoc, zMs_su, ih, e]
theorem zMs_end {n : Nat} {T : Nat → Nat → Bool} {x : (Nat → Nat) × Nat} {k : Nat} (h : ¬ (zMs n T x (k + 1)).2 < (zMs n T x k).2) (hk : k ≤ 20001) : zMs n T x 20001 = zMs n T x k := by
  have := zMs_fx h (20001 - k)
  rwa [show k + (20001 - k) = 20001 by omega] at this
/-- the others' numbers, and those with the post alone -/
theorem zwi_lt {n p q : Nat} {g : Nat → Nat} (hp : p < n) (hq : q < n) (h : q ≠ p) : zwi g p q < znb n g p := by
  unfold zwi znb
  exact zNum_lt (by split <;> omega)
theorem zwi_eq {p q r : Nat} {g : Nat → Nat} (hq : q ≠ p) (hr : r ≠ p) : zwi g p q = zwi g p r ↔ g q = g r := by
  have e : ∀ q, q ≠ p → zot g p (if q < p then q else q - 1) = g q := fun q hq => by
    unfold zot
    by_cases w : q < p
    · rw [if_pos w, if_pos w]
    · rw [if_neg w, if_neg (by omega), show q - 1 + 1 = q by omega]
  unfold zwi
  rw [zNum_inj, e q hq, e r hr]
end
section
-- part d3.mpart.lean.txt
/-! ===== partings by the rule: the reference ===== -/
theorem w_WhileM {S : List zSh} {Rn : zRnT} {kn : zK} {kb : Nat → zK} {kr : Option zV → zMem → Prop} {D : Nat} {c : zC} {a : zSt} {ρ : zLoc} {M : zMem} (J : Nat → zLoc → zMem → Prop) (k : Nat) (h0 : J k ρ M)
    (hs : ∀ k ρ M (X : zK), J k ρ M → (∀ k' ρ' M', k' < k → J k' ρ' M' → X ρ' M') → zTurn c a S Rn kn kb kr X ρ M) : zsw (zsWhile D c a) S Rn kn kb kr ρ M := by
  refine w_While (α := Nat × zLoc × zMem) (fun x => x.2) (fun x => J x.1 x.2.1 x.2.2) (fun x => x.1) (fun x X hx hy => ?_) (k, ρ, M) h0
  obtain ⟨k, ρ, M⟩ := x
  exact hs k ρ M X hx (fun k' ρ' M' h1 h2 => hy (k', ρ', M') h2 h1)
theorem w_ForM {S : List zSh} {Rn : zRnT} {kn : zK} {kb : Nat → zK} {kr : Option zV → zMem → Prop} {U D : Nat} {c : zC} {a u : zSt} {ρ : zLoc} {M : zMem} (J : Nat → zLoc → zMem → Prop) (k : Nat) (h0 : J k ρ M)
    (hs : ∀ k ρ M (X : zK), J k ρ M → (∀ k' ρ' M', k' < k → J k' ρ' M' → X ρ' M') → zTurn c a S Rn kn kb kr (zUp u S Rn kr X) ρ M) : zsw (zsFor U D c a u) S Rn kn kb kr ρ M := by
  refine w_For (α := Nat × zLoc × zMem) (fun x => x.2) (fun x => J x.1 x.2.1 x.2.2) (fun x => x.1) (fun x X hx hy => ?_) (k, ρ, M) h0
  obtain ⟨k, ρ, M⟩ := x
  exact hs k ρ M X hx (fun k' ρ' M' h1 h2 => hy (k', ρ', M') h2 h1)
theorem zRq_cg {n : Nat} (hn : 0 < n) (T : Nat → Nat → Bool) (f : Nat → Nat) : zRq n T (zcg n f) = zRq n T f := by
  unfold zRq
  rw [(zcg_id hn f).1, (zcg_id hn f).2]
theorem zLn_cg {n : Nat} (hn : 0 < n) (T : Nat → Nat → Bool) (f : Nat → Nat) : zLgt n T (zcg n f) = zLgt n T f := by
  unfold zLgt
  rw [zRq_cg hn]
theorem rTe.box {M : zMem} {t n : Nat} {T : Nat → Nat → Bool} {g : Nat → Nat} (h : rTe M t n (zRq n T g)) (hg : zcg n g = g) : M ((258 : Nat) : Int) ((t : Nat) : Int) = ((zcmx n g : Nat) : Int) ∧ rBox M t n g := by
  refine ⟨h.1.1, fun q hq => ?_⟩
  have h2 : M ((259 : Nat) : Int) ((16 * t + q : Nat) : Int) = ((zcg n g q : Nat) : Int) := h.1.2.1 q hq
  rwa [hg] at h2
theorem zmc_16 {n p c : Nat} {g : Nat → Nat} (hn2 : n ≤ 16) (hp : p < n) (hc : c ≤ znb n g p) : ∀ q : Nat, q < n → zmc g p c q ≤ 16 := fun q hq => by
  have h1 : znb n g p ≤ n - 1 := zcnt_le _ _
  unfold zmc
  by_cases e : q = p
  · rw [if_pos e]; omega
  · rw [if_neg e]
    have := zwi_lt (g := g) hp hq e
    omega
theorem m_moved {O : zOm} (hO : zWld O) (hS : zS O = zmS zC0) {t p n cur : Nat} {g : Nat → Nat} {T : Nat → Nat → Bool} {M : zMem} {K : Option zV → zMem → Prop} (ht : t < 6) (hn : M 250 ((1 : Nat) : Int) = ((n : Nat) : Int)) (hn1 : 0 < n) (hn2 : n ≤ 16) (hp : p < n) (hc : cur ≤ 20000) (hg : zcg n g = g) (hA : rTe M t n (zRq n T g)) (hT : rMx M 267 T)
    (hk : ∀ M', (∀ b j, ¬ ((b = 258 ∧ j = ((t : Nat) : Int) ∨ (b = 259 ∨ b = 260 ∨ b = 262 ∨ b = 263) ∧ ((16 * t : Nat) : Int) ≤ j ∧ j < ((16 * t + 16 : Nat) : Int) ∨ (b = 261 ∨ b = 264 ∨ b = 265 ∨ b = 266) ∧ ((256 * t : Nat) : Int) ≤ j ∧ j < ((256 * t + 256 : Nat) : Int)) ∨ (b = 258 ∧ j = ((6 : Nat) : Int) ∨ (b = 259 ∨ b = 260 ∨ b = 262 ∨ b = 263) ∧ ((16 * 6 : Nat) : Int) ≤ j ∧ j < ((16 * 6 + 16 : Nat) : Int) ∨ (b = 261 ∨ b = 264 ∨ b = 265 ∨ b = 266) ∧ ((256 * 6 : Nat) : Int) ≤ j ∧ j < ((256 * 6 + 256 : Nat) : Int)) ∨ b = 268 ∨ b = 269 ∨ b = 270 ∨ b = 271 ∨ b = 272 ∨ b = 283 ∨ b = 284 ∨ b = 285) → M' b j = M b j) → rTe M' t n (zRq n T (zM1 n T p (g, cur)).1) → K (some (0, (((zM1 n T p (g, cur)).2 : Nat) : Int))) M') : zR O F_Model_moved [(2, 250), (0, ((t : Nat) : Int)), (0, ((p : Nat) : Int)), (0, ((cur : Nat) : Int))] M K := by
  have hgb := (hA.box hg).2
  have hg16 : ∀ q, q < n → g q < 16 := fun q hq => by
    have h1 := zcg_lt (f := g) hq
    have h2 := zcm_le n g
    rw [hg] at h1; omega
  apply r_Model_moved hO
  unfold B_Model_moved
  have f25 := zMF (k := 25) hS rfl; have a271 := zMA (a := 271) (ty := .int) (n := 17) hS rfl; have f1 := zMF (k := 1) hS rfl; have f13 := zMF (k := 13) hS rfl; have a259 := zMA (a := 259) (ty := .int) (n := 112) hS rfl; have f43 := zMF (k := 43) hS rfl; have a285 := zMA (a := 285) (ty := .int) (n := 16) hS rfl; have f26 := zMF (k := 26) hS rfl; have a272 := zMA (a := 272) (ty := .int) (n := 16) hS rfl; have zo := zMO hS
  ((with_reducible refine i_Seq (i_Blk (i_Seq (i_Set (i_I ?_))))); simp only [w_set0, w_set1, w_setn0, w_setn1])
  refine w_ForN 17 (fun k ρ M' => ρ = [250, ((t : Nat) : Int), ((p : Nat) : Int), ((cur : Nat) : Int), ((k : Nat) : Int)] ∧ (∀ b j, ¬ b = ((271 : Nat) : Int) → M' b j = M b j) ∧ ∀ j : Nat, j < k → M' ((271 : Nat) : Int) ((j : Nat) : Int) = -1) ⟨rfl, fun _ _ _ => rfl, fun j hj => absurd hj (by omega)⟩ ?_ ?_
  · rintro k ρ M9 X hk1 ⟨rfl, hf, h⟩ hX
    ((with_reducible refine i_turn (i_cI_lt (i_L4 (i_I ?_)))); (with_reducible refine i_t (by omega) ?_); (with_reducible refine i_sIA (i_FR (i_A0 ?_))); (with_reducible refine i_fldR (by assumption) ?_); (with_reducible refine i_L4 (i_I ?_)); (with_reducible refine i_in (by assumption) (by omega) (by omega) ?_); (with_reducible refine i_up (i_Inc4 ?_)); rw [zx_inc (by omega)]; simp only [w_set0, w_set1, w_setn0, w_setn1])
    refine hX _ _ ⟨rfl, (by intro b j q; ((rw [zg_n _ _ _ (by omega)])); first | done | rfl | exact hf b j (by omega)), fun j hj => ?_⟩
    by_cases e : j = k
    · subst e; rw [zg_s]
    · rw [zg_m _ _ _ _ _ (by omega)]; exact h j (by omega)
  rintro ρ M1 X ⟨rfl, hf1, h1⟩
  ((with_reducible refine i_turn (i_cI_lt (i_L4 (i_I ?_)))); (with_reducible refine i_f (by omega) ?_); (with_reducible refine i_Seq (i_Set (i_I (i_Seq (i_Blk (i_Seq (i_Set (i_I ?_)))))))); simp only [w_set0, w_set1, w_setn0, w_setn1])
  refine w_ForN n (fun q ρ M' => (∃ l, ρ = 250 :: ((t : Nat) : Int) :: ((p : Nat) : Int) :: ((cur : Nat) : Int) :: ((zcnt (zNew (zot g p)) (if q ≤ p then q else q - 1) : Nat) : Int) :: ((q : Nat) : Int) :: l) ∧ (∀ b j, ¬ (b = 271 ∨ b = 285) → M' b j = M b j) ∧ (∀ l : Nat, l ≤ 16 → M' ((271 : Nat) : Int) ((l : Nat) : Int) = zFre (zot g p) (if q ≤ p then q else q - 1) l) ∧ ∀ r : Nat, r < q → r ≠ p → M' ((285 : Nat) : Int) ((r : Nat) : Int) = ((zwi g p r : Nat) : Int)) ⟨⟨_, by rw [if_pos (Nat.zero_le _)]; rfl⟩, fun b j q => hf1 b j (by omega), fun l hl => by rw [if_pos (Nat.zero_le _), h1 l (by omega)]; unfold zFre; rw [if_neg (Nat.not_lt_zero _)], fun r h => absurd h (Nat.not_lt_zero _)⟩ ?_ ?_
  · rintro q ρ M2 X hq ⟨⟨l, rfl⟩, hf, hm, hw⟩ hX
    have gn : M2 250 ((1 : Nat) : Int) = ((n : Nat) : Int) := (hf _ _ (by omega)).trans hn
    have gb : M2 ((259 : Nat) : Int) ((16 * t + q : Nat) : Int) = ((g q : Nat) : Int) := (hf _ _ (by omega)).trans (hgb q hq)
    have hgq := hg16 q hq
    by_cases e : q = p
    · subst e
      rw [if_neg (show ¬ q + 1 ≤ q by omega), show q + 1 - 1 = q by omega] at hX
      rw [if_pos (Nat.le_refl _)] at hm ⊢
      ((with_reducible refine i_turn (i_cI_lt (i_L5 (i_F (i_A0 ?_))))); (with_reducible refine i_fld (by assumption) ?_); (rw [gn]); (with_reducible refine i_t (by omega) ?_); (with_reducible refine i_Blk (i_Seq (i_IfBrk (i_cI_eq (i_L5 (i_L2 ?_)))))); simp only [w_set0, w_set1, w_setn0, w_setn1]; (with_reducible refine i_t trivial ?_); (with_reducible refine i_lab1 (i_up (i_Inc5 ?_))); rw [zx_inc (by omega)]; simp only [w_set0, w_set1, w_setn0, w_setn1])
      exact hX _ _ ⟨⟨_, rfl⟩, hf, hm, fun r h1 h2 => hw r (by omega) h2⟩
    · have hkk : (if q + 1 ≤ p then q + 1 else q + 1 - 1) = (if q ≤ p then q else q - 1) + 1 := by split <;> split <;> omega
      have hot : zot g p (if q ≤ p then q else q - 1) = g q := by
        unfold zot
        by_cases w : q ≤ p
        · rw [if_pos w, if_pos (by omega)]
        · rw [if_neg w, if_neg (by omega), show q - 1 + 1 = q by omega]
      have hwi : zwi g p q = zNum (zot g p) (if q ≤ p then q else q - 1) := by
        unfold zwi
        congr 1
        split <;> split <;> omega
      have hk15 : (if q ≤ p then q else q - 1) < 16 := by split <;> omega
      rw [hkk] at hX
      generalize (if q ≤ p then q else q - 1) = k at hm hX hot hwi hk15 ⊢
      generalize zot g p = F at hm hX hot hwi ⊢
      have ge := hm (g q) (by omega)
      rw [← hot] at ge
      have hcl := zcnt_le (zNew F) k
      by_cases hd : zfl F (F k) k < k
      · rw [zNum_f hd, hot] at ge
        have hlt := zNum_le F k
        ((with_reducible refine i_turn (i_cI_lt (i_L5 (i_F (i_A0 ?_))))); (with_reducible refine i_fld (by assumption) ?_); (rw [gn]); (with_reducible refine i_t (by omega) ?_); (with_reducible refine i_Blk (i_Seq (i_IfBrk (i_cI_eq (i_L5 (i_L2 ?_)))))); (with_reducible refine i_f (by omega) ?_); (with_reducible refine i_Seq (i_Set (i_IA (i_FR (i_A0 ?_))))); (with_reducible refine i_fldR (by assumption) ?_); (with_reducible refine i_Add (i_Mul (i_I (i_L1 (i_L5 ?_))))); rw [zx_cmul (by omega)]; rw [zx_add (by omega)]; (with_reducible refine i_in (by assumption) (by omega) (by omega) ?_); (with_reducible refine i_Seq (i_If (i_cZ_lt (i_IA (i_FR ?_))))); (rw [gb]); simp only [w_set0, w_set1, w_setn0, w_setn1]; (with_reducible refine i_A0 ?_); (with_reducible refine i_fldR (by assumption) ?_); rw [w_setT]; (with_reducible refine i_L6 ?_); (with_reducible refine i_in (by assumption) (by omega) (by omega) ?_); (rw [ge]); (with_reducible refine i_f (by omega) ?_); (with_reducible refine i_sIA (i_FR (i_A0 ?_))); (with_reducible refine i_fldR (by assumption) ?_); (with_reducible refine i_L5 (i_IA (i_FR (i_A0 ?_)))); (with_reducible refine i_fldR (by assumption) ?_); (with_reducible refine i_L6 ?_); (with_reducible refine i_in (by assumption) (by omega) (by omega) ?_); (with_reducible refine i_in (by assumption) (by omega) (by omega) ?_); (with_reducible refine i_up (i_Inc5 ?_)); (rw [ge]); rw [zx_inc (by omega)]; simp only [w_set0, w_set1, w_setn0, w_setn1])
        refine hX _ _ ⟨⟨_, by rw [show zcnt (zNew F) (k + 1) = zcnt (zNew F) k by rw [zcnt, zNew_n hd]; rfl]⟩, (by intro b j q; ((rw [zg_n _ _ _ (by omega)])); first | done | rfl | exact hf b j (by omega)), fun l hl => ?_, fun r h1 h2 => ?_⟩
        · rw [zFre_n hd]
          (rw [zg_n _ _ _ (by omega)])
          exact hm l hl
        · by_cases w : r = q
          · subst w; rw [zg_s, hwi]
          · (rw [zg_m _ _ _ _ _ (by omega)])
            exact hw r (by omega) h2
      · have ge1 : M2 ((271 : Nat) : Int) ((g q : Nat) : Int) = -1 := by rw [hot] at ge; rw [ge]; unfold zFre; rw [← hot, if_neg hd]
        have hy := zNum_y hd
        ((with_reducible refine i_turn (i_cI_lt (i_L5 (i_F (i_A0 ?_))))); (with_reducible refine i_fld (by assumption) ?_); (rw [gn]); (with_reducible refine i_t (by omega) ?_); (with_reducible refine i_Blk (i_Seq (i_IfBrk (i_cI_eq (i_L5 (i_L2 ?_)))))); (with_reducible refine i_f (by omega) ?_); (with_reducible refine i_Seq (i_Set (i_IA (i_FR (i_A0 ?_))))); (with_reducible refine i_fldR (by assumption) ?_); (with_reducible refine i_Add (i_Mul (i_I (i_L1 (i_L5 ?_))))); rw [zx_cmul (by omega)]; rw [zx_add (by omega)]; (with_reducible refine i_in (by assumption) (by omega) (by omega) ?_); (with_reducible refine i_Seq (i_If (i_cZ_lt (i_IA (i_FR ?_))))); (rw [gb]); simp only [w_set0, w_set1, w_setn0, w_setn1]; (with_reducible refine i_A0 ?_); (with_reducible refine i_fldR (by assumption) ?_); rw [w_setT]; (with_reducible refine i_L6 ?_); (with_reducible refine i_in (by assumption) (by omega) (by omega) ?_); (rw [ge1]); (with_reducible refine i_t (by omega) ?_); (with_reducible refine i_Seq (i_sIA (i_FR (i_A0 ?_)))); (with_reducible refine i_fldR (by assumption) ?_); (with_reducible refine i_L6 (i_L4 ?_)); (with_reducible refine i_in (by assumption) (by omega) (by omega) ?_); (with_reducible refine i_Inc4 (i_sIA (i_FR ?_))); rw [zx_inc (by omega)]; simp only [w_set0, w_set1, w_setn0, w_setn1]; (with_reducible refine i_A0 ?_); (with_reducible refine i_fldR (by assumption) ?_); (with_reducible refine i_L5 (i_IA (i_FR (i_A0 ?_)))); (with_reducible refine i_fldR (by assumption) ?_); (with_reducible refine i_L6 ?_); (with_reducible refine i_in (by assumption) (by omega) (by omega) ?_); (with_reducible refine i_in (by assumption) (by omega) (by omega) ?_); (with_reducible refine i_up (i_Inc5 ?_)); rw [zg_s]; rw [zx_inc (by omega)]; simp only [w_set0, w_set1, w_setn0, w_setn1])
        refine hX _ _ ⟨⟨_, by rw [show zcnt (zNew F) (k + 1) = zcnt (zNew F) k + 1 by rw [zcnt, zNew_y hd]; rfl]⟩, (by intro b j q; ((rw [zg_n _ _ _ (by omega)]; rw [zg_n _ _ _ (by omega)])); first | done | rfl | exact hf b j (by omega)), fun l hl => ?_, fun r h1 h2 => ?_⟩
        · rw [zFre_y hd]
          by_cases w : l = F k
          · rw [if_pos w, w, hot]
            (rw [zg_n _ _ _ (by omega)]; rw [zg_s])
          · rw [if_neg w]
            rw [hot] at w
            (rw [zg_n _ _ _ (by omega)]; rw [zg_m _ _ _ _ _ (by omega)])
            exact hm l hl
        · by_cases w : r = q
          · subst w; rw [hwi, hy]
            (rw [zg_s])
          · (rw [zg_m _ _ _ _ _ (by omega)]; rw [zg_n _ _ _ (by omega)])
            exact hw r (by omega) h2
  rintro ρ M2 X ⟨⟨l, rfl⟩, hf2, -, hw⟩
  have hnb : zcnt (zNew (zot g p)) (if n ≤ p then n else n - 1) = znb n g p := by rw [if_neg (by omega)]; rfl
  rw [hnb]
  have hnb15 : znb n g p ≤ n - 1 := zcnt_le _ _
  have gn2 : M2 250 ((1 : Nat) : Int) = ((n : Nat) : Int) := (hf2 _ _ (by omega)).trans hn
  have gT2 : rMx M2 267 T := hT.to (fun j => hf2 _ _ (by omega))
  have hA2 : rTe M2 t n (zRq n T g) := hA.to hn2 (zRq_w hn2) (fun b j q => hf2 b j (by omega))
  ((with_reducible refine i_turn (i_cI_lt (i_L5 (i_F (i_A0 ?_))))); (with_reducible refine i_fld (by assumption) ?_); (rw [gn2]); (with_reducible refine i_f (by omega) ?_); (with_reducible refine i_Seq (i_Set (i_L3 (i_Seq (i_Set (i_I (i_Seq (i_Blk (i_Seq (i_Set (i_I ?_))))))))))); simp only [w_set0, w_set1, w_setn0, w_setn1]; rw [w_setT]; simp only [w_set0, w_set1, w_setn0, w_setn1]; rw [w_setT])
  have hmb := zMb_ok n T g p cur
  refine w_ForN (znb n g p + 1) (fun c ρ M' => (∃ l, ρ = 250 :: ((t : Nat) : Int) :: ((p : Nat) : Int) :: ((cur : Nat) : Int) :: ((znb n g p : Nat) : Int) :: (((zMb n T g p cur c).1 : Nat) : Int) :: ((((zMb n T g p cur c).2 : Nat) : Int) - 1) :: ((c : Nat) : Int) :: l) ∧ (∀ b j, ¬ ((b = 258 ∧ j = ((6 : Nat) : Int) ∨ (b = 259 ∨ b = 260 ∨ b = 262 ∨ b = 263) ∧ ((16 * 6 : Nat) : Int) ≤ j ∧ j < ((16 * 6 + 16 : Nat) : Int) ∨ (b = 261 ∨ b = 264 ∨ b = 265 ∨ b = 266) ∧ ((256 * 6 : Nat) : Int) ≤ j ∧ j < ((256 * 6 + 256 : Nat) : Int)) ∨ b = 268 ∨ b = 269 ∨ b = 270 ∨ b = 271 ∨ b = 272 ∨ b = 283 ∨ b = 284) → M' b j = M2 b j)) ⟨⟨_, rfl⟩, fun _ _ _ => rfl⟩ ?_ ?_
  · rintro c ρ M3 X1 hc1 ⟨⟨l, rfl⟩, hf3⟩ hX1
    have hb1 := (hmb c).1
    have hln := zLn_le (T := T) (f := zmc g p c) hn2
    ((with_reducible refine i_turn (i_cI_le (i_L7 (i_L4 ?_)))); (with_reducible refine i_t (by omega) ?_); (with_reducible refine i_Blk (i_Seq (i_Blk (i_Seq (i_Set (i_I ?_)))))); simp only [w_set0, w_set1, w_setn0, w_setn1]; rw [w_setT])
    refine w_ForN n (fun r ρ M' => (∃ l, ρ = 250 :: ((t : Nat) : Int) :: ((p : Nat) : Int) :: ((cur : Nat) : Int) :: ((znb n g p : Nat) : Int) :: (((zMb n T g p cur c).1 : Nat) : Int) :: ((((zMb n T g p cur c).2 : Nat) : Int) - 1) :: ((c : Nat) : Int) :: ((r : Nat) : Int) :: l) ∧ (∀ b j, ¬ b = 272 → M' b j = M3 b j) ∧ ∀ x : Nat, x < r → M' ((272 : Nat) : Int) ((x : Nat) : Int) = ((zmc g p c x : Nat) : Int)) ⟨⟨_, rfl⟩, fun _ _ _ => rfl, fun x h => absurd h (Nat.not_lt_zero _)⟩ ?_ ?_
    · rintro r ρ M4 X2 hr ⟨⟨l, rfl⟩, hf4, h4⟩ hX2
      have gn4 : M4 250 ((1 : Nat) : Int) = ((n : Nat) : Int) := by rw [hf4 _ _ (by omega), hf3 _ _ (by omega)]; exact gn2
      by_cases e : r = p
      · have hz : zmc g p c r = c := if_pos e
        ((with_reducible refine i_turn (i_cI_lt (i_L8 (i_F (i_A0 ?_))))); (with_reducible refine i_fld (by assumption) ?_); (rw [gn4]); (with_reducible refine i_t (by omega) ?_); (with_reducible refine i_sIA (i_FR (i_A0 ?_))); (with_reducible refine i_fldR (by assumption) ?_); (with_reducible refine i_L8 (i_eIf (i_cI_eq (i_L8 (i_L2 ?_))))); (with_reducible refine i_t (by omega) ?_); (with_reducible refine i_L7 ?_); (with_reducible refine i_in (by assumption) (by omega) (by omega) ?_); (with_reducible refine i_up (i_Inc8 ?_)); rw [zx_inc (by omega)]; simp only [w_set0, w_set1, w_setn0, w_setn1])
        refine hX2 _ _ ⟨⟨_, rfl⟩, fun b j q => by rw [zg_n _ _ _ (by omega)]; exact hf4 b j q, fun x hx => ?_⟩
        by_cases w : x = r
        · subst w; rw [zg_s, hz]
        · rw [zg_m _ _ _ _ _ (by omega)]; exact h4 x (by omega)
      · have hz : zmc g p c r = zwi g p r := if_neg e
        have gw : M4 ((285 : Nat) : Int) ((r : Nat) : Int) = ((zwi g p r : Nat) : Int) := by rw [hf4 _ _ (by omega), hf3 _ _ (by omega)]; exact hw r hr e
        ((with_reducible refine i_turn (i_cI_lt (i_L8 (i_F (i_A0 ?_))))); (with_reducible refine i_fld (by assumption) ?_); (rw [gn4]); (with_reducible refine i_t (by omega) ?_); (with_reducible refine i_sIA (i_FR (i_A0 ?_))); (with_reducible refine i_fldR (by assumption) ?_); (with_reducible refine i_L8 (i_eIf (i_cI_eq (i_L8 (i_L2 ?_))))); (with_reducible refine i_f (by omega) ?_); (with_reducible refine i_IA (i_FR (i_A0 ?_))); (with_reducible refine i_fldR (by assumption) ?_); (with_reducible refine i_L8 ?_); (with_reducible refine i_in (by assumption) (by omega) (by omega) ?_); (with_reducible refine i_in (by assumption) (by omega) (by omega) ?_); (with_reducible refine i_up (i_Inc8 ?_)); (rw [gw]); rw [zx_inc (by omega)]; simp only [w_set0, w_set1, w_setn0, w_setn1])
        refine hX2 _ _ ⟨⟨_, rfl⟩, fun b j q => by rw [zg_n _ _ _ (by omega)]; exact hf4 b j q, fun x hx => ?_⟩
        by_cases w : x = r
        · subst w; rw [zg_s, hz]
        · rw [zg_m _ _ _ _ _ (by omega)]; exact h4 x (by omega)
    · rintro ρ M4 X2 ⟨⟨l, rfl⟩, hf4, h4⟩
      have gn4 : M4 250 ((1 : Nat) : Int) = ((n : Nat) : Int) := by rw [hf4 _ _ (by omega), hf3 _ _ (by omega)]; exact gn2
      ((with_reducible refine i_turn (i_cI_lt (i_L8 (i_F (i_A0 ?_))))); (with_reducible refine i_fld (by assumption) ?_); (rw [gn4]); (with_reducible refine i_f (by omega) ?_); (with_reducible refine i_Seq (i_Set (i_Call (i_as1 (i_A0 (i_as0 ?_)))))); (with_reducible refine i_recv0 (by assumption) ?_); simp only [w_set0, w_set1, w_setn0, w_setn1])
      refine m_lengthBy hO hS gn4 hn2 h4 (zmc_16 hn2 hp (by omega)) (gT2.to (fun j => by rw [hf4 _ _ (by omega), hf3 _ _ (by omega)])) (fun M5 hf5 => ⟨_, rfl, ?_⟩)
      have hf53 : ∀ b j, ¬ ((b = 258 ∧ j = ((6 : Nat) : Int) ∨ (b = 259 ∨ b = 260 ∨ b = 262 ∨ b = 263) ∧ ((16 * 6 : Nat) : Int) ≤ j ∧ j < ((16 * 6 + 16 : Nat) : Int) ∨ (b = 261 ∨ b = 264 ∨ b = 265 ∨ b = 266) ∧ ((256 * 6 : Nat) : Int) ≤ j ∧ j < ((256 * 6 + 256 : Nat) : Int)) ∨ b = 268 ∨ b = 269 ∨ b = 270 ∨ b = 271 ∨ b = 272 ∨ b = 283 ∨ b = 284) → M5 b j = M2 b j := fun b j q => by rw [hf5 b j (by omega), hf4 b j (by omega), hf3 b j q]
      have hX3 : ∀ (l : zLoc) (a b : Nat) (z : Int), (a, b) = zMb n T g p cur (c + 1) → z = ((b : Nat) : Int) - 1 → X1 (250 :: ((t : Nat) : Int) :: ((p : Nat) : Int) :: ((cur : Nat) : Int) :: ((znb n g p : Nat) : Int) :: ((a : Nat) : Int) :: z :: ((c + 1 : Nat) : Int) :: l) M5 := fun l a b z h1 h2 => by
        subst h2
        have e1 : a = (zMb n T g p cur (c + 1)).1 := by rw [← h1]
        have e2 : b = (zMb n T g p cur (c + 1)).2 := by rw [← h1]
        subst e1; subst e2
        exact hX1 _ _ ⟨⟨l, rfl⟩, hf53⟩
      rw [zMb_su] at hX3
      by_cases w : zLgt n T (zmc g p c) < (zMb n T g p cur c).1
      · rw [if_pos w] at hX3
        ((with_reducible refine i_Seq (i_IfBrk (i_cI_ge (i_L8 (i_L5 ?_))))); (with_reducible refine i_f (by omega) ?_); (with_reducible refine i_Seq (i_Set (i_L8 (i_Set ?_)))); simp only [w_set0, w_set1, w_setn0, w_setn1]; (with_reducible refine i_L7 (i_up ?_)); simp only [w_set0, w_set1, w_setn0, w_setn1]; (with_reducible refine i_Inc7 ?_); rw [zx_inc (by omega)]; simp only [w_set0, w_set1, w_setn0, w_setn1])
        exact hX3 _ _ _ _ rfl (by omega)
      · rw [if_neg w] at hX3
        ((with_reducible refine i_Seq (i_IfBrk (i_cI_ge (i_L8 (i_L5 ?_))))); (with_reducible refine i_t (by omega) ?_); (with_reducible refine i_lab1 (i_up (i_Inc7 ?_))); rw [zx_inc (by omega)]; simp only [w_set0, w_set1, w_setn0, w_setn1])
        exact hX3 _ _ _ _ rfl rfl
  rintro ρ M3 X1 ⟨⟨l, rfl⟩, hf3⟩
  have hmb1 := hmb (znb n g p + 1)
  have gn3 : M3 250 ((1 : Nat) : Int) = ((n : Nat) : Int) := (hf3 _ _ (by omega)).trans gn2
  have fin : ∀ M', (∀ b j, ¬ ((b = 258 ∧ j = ((t : Nat) : Int) ∨ (b = 259 ∨ b = 260 ∨ b = 262 ∨ b = 263) ∧ ((16 * t : Nat) : Int) ≤ j ∧ j < ((16 * t + 16 : Nat) : Int) ∨ (b = 261 ∨ b = 264 ∨ b = 265 ∨ b = 266) ∧ ((256 * t : Nat) : Int) ≤ j ∧ j < ((256 * t + 256 : Nat) : Int)) ∨ (b = 258 ∧ j = ((6 : Nat) : Int) ∨ (b = 259 ∨ b = 260 ∨ b = 262 ∨ b = 263) ∧ ((16 * 6 : Nat) : Int) ≤ j ∧ j < ((16 * 6 + 16 : Nat) : Int) ∨ (b = 261 ∨ b = 264 ∨ b = 265 ∨ b = 266) ∧ ((256 * 6 : Nat) : Int) ≤ j ∧ j < ((256 * 6 + 256 : Nat) : Int)) ∨ b = 268 ∨ b = 269 ∨ b = 270 ∨ b = 271 ∨ b = 272 ∨ b = 283 ∨ b = 284 ∨ b = 285) → M' b j = M b j) → rTe M' t n (zRq n T (zM1 n T p (g, cur)).1) → K (some (0, (((zM1 n T p (g, cur)).2 : Nat) : Int))) M' := hk
  unfold zM1 at fin
  dsimp only at fin
  generalize hz : (zMb n T g p cur (znb n g p + 1)) = z at hmb1 fin ⊢
  by_cases w : z.2 = 0
  · rw [if_pos w] at fin
    have := hmb1.2.1 w
    ((with_reducible refine i_turn (i_cI_le (i_L7 (i_L4 ?_)))); (with_reducible refine i_f (by omega) ?_); (with_reducible refine i_Seq (i_If (i_cZ_lt (i_L6 ?_)))); (with_reducible refine i_t (by omega) ?_); (with_reducible refine i_RetI (i_L3 ?_)))
    exact fin M3 (fun b j q => by rw [hf3 b j (by omega), hf2 b j (by omega)]) (hA2.to hn2 (zRq_w hn2) (fun b j q => hf3 b j (by omega)))
  · rw [if_neg w] at fin
    have hz2 := hmb1.2.2 w
    rw [show (((z.2 : Nat) : Int) - 1 : Int) = ((z.2 - 1 : Nat) : Int) by omega]
    ((with_reducible refine i_turn (i_cI_le (i_L7 (i_L4 ?_)))); (with_reducible refine i_f (by omega) ?_); (with_reducible refine i_Seq (i_If (i_cZ_lt (i_L6 ?_)))); (with_reducible refine i_f (by omega) ?_); (with_reducible refine i_Seq (i_Blk (i_Seq (i_Set (i_I ?_))))); simp only [w_set0, w_set1, w_setn0, w_setn1])
    refine w_ForN n (fun r ρ M' => (∃ l, ρ = 250 :: ((t : Nat) : Int) :: ((p : Nat) : Int) :: ((cur : Nat) : Int) :: ((znb n g p : Nat) : Int) :: ((z.1 : Nat) : Int) :: ((z.2 - 1 : Nat) : Int) :: ((r : Nat) : Int) :: l) ∧ (∀ b j, ¬ b = 272 → M' b j = M3 b j) ∧ ∀ x : Nat, x < r → M' ((272 : Nat) : Int) ((x : Nat) : Int) = ((zmc g p (z.2 - 1) x : Nat) : Int)) ⟨⟨_, rfl⟩, fun _ _ _ => rfl, fun x h => absurd h (Nat.not_lt_zero _)⟩ ?_ ?_
    · rintro r ρ M4 X2 hr ⟨⟨l, rfl⟩, hf4, h4⟩ hX2
      have gn4 : M4 250 ((1 : Nat) : Int) = ((n : Nat) : Int) := by rw [hf4 _ _ (by omega)]; exact gn3
      by_cases e : r = p
      · have hz : zmc g p (z.2 - 1) r = z.2 - 1 := if_pos e
        ((with_reducible refine i_turn (i_cI_lt (i_L7 (i_F (i_A0 ?_))))); (with_reducible refine i_fld (by assumption) ?_); (rw [gn4]); (with_reducible refine i_t (by omega) ?_); (with_reducible refine i_sIA (i_FR (i_A0 ?_))); (with_reducible refine i_fldR (by assumption) ?_); (with_reducible refine i_L7 (i_eIf (i_cI_eq (i_L7 (i_L2 ?_))))); (with_reducible refine i_t (by omega) ?_); (with_reducible refine i_L6 ?_); (with_reducible refine i_in (by assumption) (by omega) (by omega) ?_); (with_reducible refine i_up (i_Inc7 ?_)); rw [zx_inc (by omega)]; simp only [w_set0, w_set1, w_setn0, w_setn1])
        refine hX2 _ _ ⟨⟨_, rfl⟩, fun b j q => by rw [zg_n _ _ _ (by omega)]; exact hf4 b j q, fun x hx => ?_⟩
        by_cases w : x = r
        · subst w; rw [zg_s, hz]
        · rw [zg_m _ _ _ _ _ (by omega)]; exact h4 x (by omega)
      · have hz : zmc g p (z.2 - 1) r = zwi g p r := if_neg e
        have gw : M4 ((285 : Nat) : Int) ((r : Nat) : Int) = ((zwi g p r : Nat) : Int) := by rw [hf4 _ _ (by omega), hf3 _ _ (by omega)]; exact hw r hr e
        ((with_reducible refine i_turn (i_cI_lt (i_L7 (i_F (i_A0 ?_))))); (with_reducible refine i_fld (by assumption) ?_); (rw [gn4]); (with_reducible refine i_t (by omega) ?_); (with_reducible refine i_sIA (i_FR (i_A0 ?_))); (with_reducible refine i_fldR (by assumption) ?_); (with_reducible refine i_L7 (i_eIf (i_cI_eq (i_L7 (i_L2 ?_))))); (with_reducible refine i_f (by omega) ?_); (with_reducible refine i_IA (i_FR (i_A0 ?_))); (with_reducible refine i_fldR (by assumption) ?_); (with_reducible refine i_L7 ?_); (with_reducible refine i_in (by assumption) (by omega) (by omega) ?_); (with_reducible refine i_in (by assumption) (by omega) (by omega) ?_); (with_reducible refine i_up (i_Inc7 ?_)); (rw [gw]); rw [zx_inc (by omega)]; simp only [w_set0, w_set1, w_setn0, w_setn1])
        refine hX2 _ _ ⟨⟨_, rfl⟩, fun b j q => by rw [zg_n _ _ _ (by omega)]; exact hf4 b j q, fun x hx => ?_⟩
        by_cases w : x = r
        · subst w; rw [zg_s, hz]
        · rw [zg_m _ _ _ _ _ (by omega)]; exact h4 x (by omega)
    · rintro ρ M4 X2 ⟨⟨l, rfl⟩, hf4, h4⟩
      have gn4 : M4 250 ((1 : Nat) : Int) = ((n : Nat) : Int) := by rw [hf4 _ _ (by omega)]; exact gn3
      ((with_reducible refine i_turn (i_cI_lt (i_L7 (i_F (i_A0 ?_))))); (with_reducible refine i_fld (by assumption) ?_); (rw [gn4]); (with_reducible refine i_f (by omega) ?_); (with_reducible refine i_Seq (i_sCall (i_as1 (i_A0 (i_as1 (i_L1 (i_as0 ?_))))))); (with_reducible refine i_recv0 (by assumption) ?_))
      refine m_settle hO hS (by omega) gn4 hn2 h4 (zmc_16 hn2 hp (by omega)) (gT2.to (fun j => by rw [hf4 _ _ (by omega), hf3 _ _ (by omega)])) (fun M5 hf5 h5 => ⟨rfl, ?_⟩)
      (with_reducible refine i_RetI (i_L5 ?_))
      refine fin M5 (fun b j q => by rw [hf5 b j (by omega), hf4 b j (by omega), hf3 b j (by omega), hf2 b j (by omega)]) ?_
      show rTe M5 t n (zRq n T (zcg n _))
      rw [zRq_cg hn1]
      exact h5
end
