/-! ===== partings by the rule: the reference ===== -/
theorem w_WhileM {S : List zSh} {Rn : zRnT} {kn : zK} {kb : Nat → zK} {kr : Option zV → zMem → Prop} {D : Nat} {c : zC} {a : zSt} {ρ : zLoc} {M : zMem} (J : Nat → zLoc → zMem → Prop) (k : Nat) (h0 : J k ρ M)
    (hs : ∀ k ρ M (X : zK), J k ρ M → (∀ k' ρ' M', k' < k → J k' ρ' M' → X ρ' M') → zTurn c a S Rn kn kb kr X ρ M) : zsw (zsWhile D c a) S Rn kn kb kr ρ M := by
  refine w_While (α := Nat × zLoc × zMem) (fun x => x.2) (fun x => J x.1 x.2.1 x.2.2) (fun x => x.1) (fun x X hx hy => ?_) (k, ρ, M) h0
  obtain ⟨k, ρ, M⟩ := x
  exact hs k ρ M X hx (fun k' ρ' M' h1 h2 => hy (k', ρ', M') h2 h1)
theorem w_ForM {S : List zSh} {Rn : zRnT} {kn : zK} {kb : Nat → zK} {kr : Option zV → zMem → Prop} {U D : Nat} {c : zC} {a u : zSt} {ρ : zLoc} {M : zMem} (J : Nat → zLoc → zMem → Prop) (k : Nat) (h0 : J k ρ M)
    (hs : ∀ k ρ M (X : zK), J k ρ M → (∀ k' ρ' M', k' < k → J k' ρ' M' → X ρ' M') → zTurn c a S Rn kn kb kr (zUp u S Rn kr X) ρ M) : zsw (zsFor U D c a u) S Rn kn kb kr ρ M := by
  refine w_For (α := Nat × zLoc × zMem) (fun x => x.2) (fun x => J x.1 x.2.1 x.2.2) (fun x => x.1) (fun x X hx hy => ?_) (k, ρ, M) h0
  obtain ⟨k, ρ, M⟩ := x
  exact hs k ρ M X hx (fun k' ρ' M' h1 h2 => hy (k', ρ', M') h2 h1)
theorem zRq_cg {n : Nat} (hn : 0 < n) (T : Nat → Nat → Bool) (f : Nat → Nat) : zRq n T (zcg n f) = zRq n T f := by
  unfold zRq
  rw [(zcg_id hn f).1, (zcg_id hn f).2]
theorem zLn_cg {n : Nat} (hn : 0 < n) (T : Nat → Nat → Bool) (f : Nat → Nat) : zLgt n T (zcg n f) = zLgt n T f := by
  unfold zLgt
  rw [zRq_cg hn]
theorem rTe.box {M : zMem} {t n : Nat} {T : Nat → Nat → Bool} {g : Nat → Nat} (h : rTe M t n (zRq n T g)) (hg : zcg n g = g) : M ((258 : Nat) : Int) ((t : Nat) : Int) = ((zcmx n g : Nat) : Int) ∧ rBox M t n g := by
  refine ⟨h.1.1, fun q hq => ?_⟩
  have h2 : M ((259 : Nat) : Int) ((16 * t + q : Nat) : Int) = ((zcg n g q : Nat) : Int) := h.1.2.1 q hq
  rwa [hg] at h2
theorem zmc_16 {n p c : Nat} {g : Nat → Nat} (hn2 : n ≤ 16) (hp : p < n) (hc : c ≤ znb n g p) : ∀ q : Nat, q < n → zmc g p c q ≤ 16 := fun q hq => by
  have h1 : znb n g p ≤ n - 1 := zcnt_le _ _
  unfold zmc
  by_cases e : q = p
  · rw [if_pos e]; omega
  · rw [if_neg e]
    have := zwi_lt (g := g) hp hq e
    omega
theorem m_moved {O : zOm} (hO : zWld O) (hS : zS O = zmS zC0) {t p n cur : Nat} {g : Nat → Nat} {T : Nat → Nat → Bool} {M : zMem} {K : Option zV → zMem → Prop} (ht : t < 6) (hn : M 250 ((1 : Nat) : Int) = ((n : Nat) : Int)) (hn1 : 0 < n) (hn2 : n ≤ 16) (hp : p < n) (hc : cur ≤ 20000) (hg : zcg n g = g) (hA : rTe M t n (zRq n T g)) (hT : rMx M 267 T)
    (hk : ∀ M', (∀ b j, ¬ ((b = 258 ∧ j = ((t : Nat) : Int) ∨ (b = 259 ∨ b = 260 ∨ b = 262 ∨ b = 263) ∧ ((16 * t : Nat) : Int) ≤ j ∧ j < ((16 * t + 16 : Nat) : Int) ∨ (b = 261 ∨ b = 264 ∨ b = 265 ∨ b = 266) ∧ ((256 * t : Nat) : Int) ≤ j ∧ j < ((256 * t + 256 : Nat) : Int)) ∨ (b = 258 ∧ j = ((6 : Nat) : Int) ∨ (b = 259 ∨ b = 260 ∨ b = 262 ∨ b = 263) ∧ ((16 * 6 : Nat) : Int) ≤ j ∧ j < ((16 * 6 + 16 : Nat) : Int) ∨ (b = 261 ∨ b = 264 ∨ b = 265 ∨ b = 266) ∧ ((256 * 6 : Nat) : Int) ≤ j ∧ j < ((256 * 6 + 256 : Nat) : Int)) ∨ b = 268 ∨ b = 269 ∨ b = 270 ∨ b = 271 ∨ b = 272 ∨ b = 283 ∨ b = 284 ∨ b = 285) → M' b j = M b j) → rTe M' t n (zRq n T (zM1 n T p (g, cur)).1) → K (some (0, (((zM1 n T p (g, cur)).2 : Nat) : Int))) M') : zR O F_Model_moved [(2, 250), (0, ((t : Nat) : Int)), (0, ((p : Nat) : Int)), (0, ((cur : Nat) : Int))] M K := by
  have hgb := (hA.box hg).2
  have hg16 : ∀ q, q < n → g q < 16 := fun q hq => by
    have h1 := zcg_lt (f := g) hq
    have h2 := zcm_le n g
    rw [hg] at h1; omega
  apply r_Model_moved hO
  unfold B_Model_moved
  have f25 := zMF (k := 25) hS rfl; have a271 := zMA (a := 271) (ty := .int) (n := 17) hS rfl; have f1 := zMF (k := 1) hS rfl; have f13 := zMF (k := 13) hS rfl; have a259 := zMA (a := 259) (ty := .int) (n := 112) hS rfl; have f43 := zMF (k := 43) hS rfl; have a285 := zMA (a := 285) (ty := .int) (n := 16) hS rfl; have f26 := zMF (k := 26) hS rfl; have a272 := zMA (a := 272) (ty := .int) (n := 16) hS rfl; have zo := zMO hS
  ((with_reducible refine i_Seq (i_Blk (i_Seq (i_Set (i_I ?_))))); simp only [w_set0, w_set1, w_setn0, w_setn1])
  refine w_ForN 17 (fun k ρ M' => ρ = [250, ((t : Nat) : Int), ((p : Nat) : Int), ((cur : Nat) : Int), ((k : Nat) : Int)] ∧ (∀ b j, ¬ b = ((271 : Nat) : Int) → M' b j = M b j) ∧ ∀ j : Nat, j < k → M' ((271 : Nat) : Int) ((j : Nat) : Int) = -1) ⟨rfl, fun _ _ _ => rfl, fun j hj => absurd hj (by omega)⟩ ?_ ?_
  · rintro k ρ M9 X hk1 ⟨rfl, hf, h⟩ hX
    ((with_reducible refine i_turn (i_cI_lt (i_L4 (i_I ?_)))); (with_reducible refine i_t (by omega) ?_); (with_reducible refine i_sIA (i_FR (i_A0 ?_))); (with_reducible refine i_fldR (by assumption) ?_); (with_reducible refine i_L4 (i_I ?_)); (with_reducible refine i_in (by assumption) (by omega) (by omega) ?_); (with_reducible refine i_up (i_Inc4 ?_)); rw [zx_inc (by omega)]; simp only [w_set0, w_set1, w_setn0, w_setn1])
    refine hX _ _ ⟨rfl, (by intro b j q; ((rw [zg_n _ _ _ (by omega)])); first | done | rfl | exact hf b j (by omega)), fun j hj => ?_⟩
    by_cases e : j = k
    · subst e; rw [zg_s]
    · rw [zg_m _ _ _ _ _ (by omega)]; exact h j (by omega)
  rintro ρ M1 X ⟨rfl, hf1, h1⟩
  ((with_reducible refine i_turn (i_cI_lt (i_L4 (i_I ?_)))); (with_reducible refine i_f (by omega) ?_); (with_reducible refine i_Seq (i_Set (i_I (i_Seq (i_Blk (i_Seq (i_Set (i_I ?_)))))))); simp only [w_set0, w_set1, w_setn0, w_setn1])
  refine w_ForN n (fun q ρ M' => (∃ l, ρ = 250 :: ((t : Nat) : Int) :: ((p : Nat) : Int) :: ((cur : Nat) : Int) :: ((zcnt (zNew (zot g p)) (if q ≤ p then q else q - 1) : Nat) : Int) :: ((q : Nat) : Int) :: l) ∧ (∀ b j, ¬ (b = 271 ∨ b = 285) → M' b j = M b j) ∧ (∀ l : Nat, l ≤ 16 → M' ((271 : Nat) : Int) ((l : Nat) : Int) = zFre (zot g p) (if q ≤ p then q else q - 1) l) ∧ ∀ r : Nat, r < q → r ≠ p → M' ((285 : Nat) : Int) ((r : Nat) : Int) = ((zwi g p r : Nat) : Int)) ⟨⟨_, by rw [if_pos (Nat.zero_le _)]; rfl⟩, fun b j q => hf1 b j (by omega), fun l hl => by rw [if_pos (Nat.zero_le _), h1 l (by omega)]; unfold zFre; rw [if_neg (Nat.not_lt_zero _)], fun r h => absurd h (Nat.not_lt_zero _)⟩ ?_ ?_
  · rintro q ρ M2 X hq ⟨⟨l, rfl⟩, hf, hm, hw⟩ hX
    have gn : M2 250 ((1 : Nat) : Int) = ((n : Nat) : Int) := (hf _ _ (by omega)).trans hn
    have gb : M2 ((259 : Nat) : Int) ((16 * t + q : Nat) : Int) = ((g q : Nat) : Int) := (hf _ _ (by omega)).trans (hgb q hq)
    have hgq := hg16 q hq
    by_cases e : q = p
    · subst e
      rw [if_neg (show ¬ q + 1 ≤ q by omega), show q + 1 - 1 = q by omega] at hX
      rw [if_pos (Nat.le_refl _)] at hm ⊢
      ((with_reducible refine i_turn (i_cI_lt (i_L5 (i_F (i_A0 ?_))))); (with_reducible refine i_fld (by assumption) ?_); (rw [gn]); (with_reducible refine i_t (by omega) ?_); (with_reducible refine i_Blk (i_Seq (i_IfBrk (i_cI_eq (i_L5 (i_L2 ?_)))))); simp only [w_set0, w_set1, w_setn0, w_setn1]; (with_reducible refine i_t trivial ?_); (with_reducible refine i_lab1 (i_up (i_Inc5 ?_))); rw [zx_inc (by omega)]; simp only [w_set0, w_set1, w_setn0, w_setn1])
      exact hX _ _ ⟨⟨_, rfl⟩, hf, hm, fun r h1 h2 => hw r (by omega) h2⟩
    · have hkk : (if q + 1 ≤ p then q + 1 else q + 1 - 1) = (if q ≤ p then q else q - 1) + 1 := by split <;> split <;> omega
      have hot : zot g p (if q ≤ p then q else q - 1) = g q := by
        unfold zot
        by_cases w : q ≤ p
        · rw [if_pos w, if_pos (by omega)]
        · rw [if_neg w, if_neg (by omega), show q - 1 + 1 = q by omega]
      have hwi : zwi g p q = zNum (zot g p) (if q ≤ p then q else q - 1) := by
        unfold zwi
        congr 1
        split <;> split <;> omega
      have hk15 : (if q ≤ p then q else q - 1) < 16 := by split <;> omega
      rw [hkk] at hX
      generalize (if q ≤ p then q else q - 1) = k at hm hX hot hwi hk15 ⊢
      generalize zot g p = F at hm hX hot hwi ⊢
      have ge := hm (g q) (by omega)
      rw [← hot] at ge
      have hcl := zcnt_le (zNew F) k
      by_cases hd : zfl F (F k) k < k
      · rw [zNum_f hd, hot] at ge
        have hlt := zNum_le F k
        ((with_reducible refine i_turn (i_cI_lt (i_L5 (i_F (i_A0 ?_))))); (with_reducible refine i_fld (by assumption) ?_); (rw [gn]); (with_reducible refine i_t (by omega) ?_); (with_reducible refine i_Blk (i_Seq (i_IfBrk (i_cI_eq (i_L5 (i_L2 ?_)))))); (with_reducible refine i_f (by omega) ?_); (with_reducible refine i_Seq (i_Set (i_IA (i_FR (i_A0 ?_))))); (with_reducible refine i_fldR (by assumption) ?_); (with_reducible refine i_Add (i_Mul (i_I (i_L1 (i_L5 ?_))))); rw [zx_cmul (by omega)]; rw [zx_add (by omega)]; (with_reducible refine i_in (by assumption) (by omega) (by omega) ?_); (with_reducible refine i_Seq (i_If (i_cZ_lt (i_IA (i_FR ?_))))); (rw [gb]); simp only [w_set0, w_set1, w_setn0, w_setn1]; (with_reducible refine i_A0 ?_); (with_reducible refine i_fldR (by assumption) ?_); rw [w_setT]; (with_reducible refine i_L6 ?_); (with_reducible refine i_in (by assumption) (by omega) (by omega) ?_); (rw [ge]); (with_reducible refine i_f (by omega) ?_); (with_reducible refine i_sIA (i_FR (i_A0 ?_))); (with_reducible refine i_fldR (by assumption) ?_); (with_reducible refine i_L5 (i_IA (i_FR (i_A0 ?_)))); (with_reducible refine i_fldR (by assumption) ?_); (with_reducible refine i_L6 ?_); (with_reducible refine i_in (by assumption) (by omega) (by omega) ?_); (with_reducible refine i_in (by assumption) (by omega) (by omega) ?_); (with_reducible refine i_up (i_Inc5 ?_)); (rw [ge]); rw [zx_inc (by omega)]; simp only [w_set0, w_set1, w_setn0, w_setn1])
        refine hX _ _ ⟨⟨_, by rw [show zcnt (zNew F) (k + 1) = zcnt (zNew F) k by rw [zcnt, zNew_n hd]; rfl]⟩, (by intro b j q; ((rw [zg_n _ _ _ (by omega)])); first | done | rfl | exact hf b j (by omega)), fun l hl => ?_, fun r h1 h2 => ?_⟩
        · rw [zFre_n hd]
          (rw [zg_n _ _ _ (by omega)])
          exact hm l hl
        · by_cases w : r = q
          · subst w; rw [zg_s, hwi]
          · (rw [zg_m _ _ _ _ _ (by omega)])
            exact hw r (by omega) h2
      · have ge1 : M2 ((271 : Nat) : Int) ((g q : Nat) : Int) = -1 := by rw [hot] at ge; rw [ge]; unfold zFre; rw [← hot, if_neg hd]
        have hy := zNum_y hd
        ((with_reducible refine i_turn (i_cI_lt (i_L5 (i_F (i_A0 ?_))))); (with_reducible refine i_fld (by assumption) ?_); (rw [gn]); (with_reducible refine i_t (by omega) ?_); (with_reducible refine i_Blk (i_Seq (i_IfBrk (i_cI_eq (i_L5 (i_L2 ?_)))))); (with_reducible refine i_f (by omega) ?_); (with_reducible refine i_Seq (i_Set (i_IA (i_FR (i_A0 ?_))))); (with_reducible refine i_fldR (by assumption) ?_); (with_reducible refine i_Add (i_Mul (i_I (i_L1 (i_L5 ?_))))); rw [zx_cmul (by omega)]; rw [zx_add (by omega)]; (with_reducible refine i_in (by assumption) (by omega) (by omega) ?_); (with_reducible refine i_Seq (i_If (i_cZ_lt (i_IA (i_FR ?_))))); (rw [gb]); simp only [w_set0, w_set1, w_setn0, w_setn1]; (with_reducible refine i_A0 ?_); (with_reducible refine i_fldR (by assumption) ?_); rw [w_setT]; (with_reducible refine i_L6 ?_); (with_reducible refine i_in (by assumption) (by omega) (by omega) ?_); (rw [ge1]); (with_reducible refine i_t (by omega) ?_); (with_reducible refine i_Seq (i_sIA (i_FR (i_A0 ?_)))); (with_reducible refine i_fldR (by assumption) ?_); (with_reducible refine i_L6 (i_L4 ?_)); (with_reducible refine i_in (by assumption) (by omega) (by omega) ?_); (with_reducible refine i_Inc4 (i_sIA (i_FR ?_))); rw [zx_inc (by omega)]; simp only [w_set0, w_set1, w_setn0, w_setn1]; (with_reducible refine i_A0 ?_); (with_reducible refine i_fldR (by assumption) ?_); (with_reducible refine i_L5 (i_IA (i_FR (i_A0 ?_)))); (with_reducible refine i_fldR (by assumption) ?_); (with_reducible refine i_L6 ?_); (with_reducible refine i_in (by assumption) (by omega) (by omega) ?_); (with_reducible refine i_in (by assumption) (by omega) (by omega) ?_); (with_reducible refine i_up (i_Inc5 ?_)); rw [zg_s]; rw [zx_inc (by omega)]; simp only [w_set0, w_set1, w_setn0, w_setn1])
        refine hX _ _ ⟨⟨_, by rw [show zcnt (zNew F) (k + 1) = zcnt (zNew F) k + 1 by rw [zcnt, zNew_y hd]; rfl]⟩, (by intro b j q; ((rw [zg_n _ _ _ (by omega)]; rw [zg_n _ _ _ (by omega)])); first | done | rfl | exact hf b j (by omega)), fun l hl => ?_, fun r h1 h2 => ?_⟩
        · rw [zFre_y hd]
          by_cases w : l = F k
          · rw [if_pos w, w, hot]
            (rw [zg_n _ _ _ (by omega)]; rw [zg_s])
          · rw [if_neg w]
            rw [hot] at w
            (rw [zg_n _ _ _ (by omega)]; rw [zg_m _ _ _ _ _ (by omega)])
            exact hm l hl
        · by_cases w : r = q
          · subst w; rw [hwi, hy]
            (rw [zg_s])
          · (rw [zg_m _ _ _ _ _ (by omega)]; rw [zg_n _ _ _ (by omega)])
            exact hw r (by omega) h2
  rintro ρ M2 X ⟨⟨l, rfl⟩, hf2, -, hw⟩
  have hnb : zcnt (zNew (zot g p)) (if n ≤ p then n else n - 1) = znb n g p := by rw [if_neg (by omega)]; rfl
  rw [hnb]
  have hnb15 : znb n g p ≤ n - 1 := zcnt_le _ _
  have gn2 : M2 250 ((1 : Nat) : Int) = ((n : Nat) : Int) := (hf2 _ _ (by omega)).trans hn
  have gT2 : rMx M2 267 T := hT.to (fun j => hf2 _ _ (by omega))
  have hA2 : rTe M2 t n (zRq n T g) := hA.to hn2 (zRq_w hn2) (fun b j q => hf2 b j (by omega))
  ((with_reducible refine i_turn (i_cI_lt (i_L5 (i_F (i_A0 ?_))))); (with_reducible refine i_fld (by assumption) ?_); (rw [gn2]); (with_reducible refine i_f (by omega) ?_); (with_reducible refine i_Seq (i_Set (i_L3 (i_Seq (i_Set (i_I (i_Seq (i_Blk (i_Seq (i_Set (i_I ?_))))))))))); simp only [w_set0, w_set1, w_setn0, w_setn1]; rw [w_setT]; simp only [w_set0, w_set1, w_setn0, w_setn1]; rw [w_setT])
  have hmb := zMb_ok n T g p cur
  refine w_ForN (znb n g p + 1) (fun c ρ M' => (∃ l, ρ = 250 :: ((t : Nat) : Int) :: ((p : Nat) : Int) :: ((cur : Nat) : Int) :: ((znb n g p : Nat) : Int) :: (((zMb n T g p cur c).1 : Nat) : Int) :: ((((zMb n T g p cur c).2 : Nat) : Int) - 1) :: ((c : Nat) : Int) :: l) ∧ (∀ b j, ¬ ((b = 258 ∧ j = ((6 : Nat) : Int) ∨ (b = 259 ∨ b = 260 ∨ b = 262 ∨ b = 263) ∧ ((16 * 6 : Nat) : Int) ≤ j ∧ j < ((16 * 6 + 16 : Nat) : Int) ∨ (b = 261 ∨ b = 264 ∨ b = 265 ∨ b = 266) ∧ ((256 * 6 : Nat) : Int) ≤ j ∧ j < ((256 * 6 + 256 : Nat) : Int)) ∨ b = 268 ∨ b = 269 ∨ b = 270 ∨ b = 271 ∨ b = 272 ∨ b = 283 ∨ b = 284) → M' b j = M2 b j)) ⟨⟨_, rfl⟩, fun _ _ _ => rfl⟩ ?_ ?_
  · rintro c ρ M3 X1 hc1 ⟨⟨l, rfl⟩, hf3⟩ hX1
    have hb1 := (hmb c).1
    have hln := zLn_le (T := T) (f := zmc g p c) hn2
    ((with_reducible refine i_turn (i_cI_le (i_L7 (i_L4 ?_)))); (with_reducible refine i_t (by omega) ?_); (with_reducible refine i_Blk (i_Seq (i_Blk (i_Seq (i_Set (i_I ?_)))))); simp only [w_set0, w_set1, w_setn0, w_setn1]; rw [w_setT])
    refine w_ForN n (fun r ρ M' => (∃ l, ρ = 250 :: ((t : Nat) : Int) :: ((p : Nat) : Int) :: ((cur : Nat) : Int) :: ((znb n g p : Nat) : Int) :: (((zMb n T g p cur c).1 : Nat) : Int) :: ((((zMb n T g p cur c).2 : Nat) : Int) - 1) :: ((c : Nat) : Int) :: ((r : Nat) : Int) :: l) ∧ (∀ b j, ¬ b = 272 → M' b j = M3 b j) ∧ ∀ x : Nat, x < r → M' ((272 : Nat) : Int) ((x : Nat) : Int) = ((zmc g p c x : Nat) : Int)) ⟨⟨_, rfl⟩, fun _ _ _ => rfl, fun x h => absurd h (Nat.not_lt_zero _)⟩ ?_ ?_
    · rintro r ρ M4 X2 hr ⟨⟨l, rfl⟩, hf4, h4⟩ hX2
      have gn4 : M4 250 ((1 : Nat) : Int) = ((n : Nat) : Int) := by rw [hf4 _ _ (by omega), hf3 _ _ (by omega)]; exact gn2
      by_cases e : r = p
      · have hz : zmc g p c r = c := if_pos e
        ((with_reducible refine i_turn (i_cI_lt (i_L8 (i_F (i_A0 ?_))))); (with_reducible refine i_fld (by assumption) ?_); (rw [gn4]); (with_reducible refine i_t (by omega) ?_); (with_reducible refine i_sIA (i_FR (i_A0 ?_))); (with_reducible refine i_fldR (by assumption) ?_); (with_reducible refine i_L8 (i_eIf (i_cI_eq (i_L8 (i_L2 ?_))))); (with_reducible refine i_t (by omega) ?_); (with_reducible refine i_L7 ?_); (with_reducible refine i_in (by assumption) (by omega) (by omega) ?_); (with_reducible refine i_up (i_Inc8 ?_)); rw [zx_inc (by omega)]; simp only [w_set0, w_set1, w_setn0, w_setn1])
        refine hX2 _ _ ⟨⟨_, rfl⟩, fun b j q => by rw [zg_n _ _ _ (by omega)]; exact hf4 b j q, fun x hx => ?_⟩
        by_cases w : x = r
        · subst w; rw [zg_s, hz]
        · rw [zg_m _ _ _ _ _ (by omega)]; exact h4 x (by omega)
      · have hz : zmc g p c r = zwi g p r := if_neg e
        have gw : M4 ((285 : Nat) : Int) ((r : Nat) : Int) = ((zwi g p r : Nat) : Int) := by rw [hf4 _ _ (by omega), hf3 _ _ (by omega)]; exact hw r hr e
        ((with_reducible refine i_turn (i_cI_lt (i_L8 (i_F (i_A0 ?_))))); (with_reducible refine i_fld (by assumption) ?_); (rw [gn4]); (with_reducible refine i_t (by omega) ?_); (with_reducible refine i_sIA (i_FR (i_A0 ?_))); (with_reducible refine i_fldR (by assumption) ?_); (with_reducible refine i_L8 (i_eIf (i_cI_eq (i_L8 (i_L2 ?_))))); (with_reducible refine i_f (by omega) ?_); (with_reducible refine i_IA (i_FR (i_A0 ?_))); (with_reducible refine i_fldR (by assumption) ?_); (with_reducible refine i_L8 ?_); (with_reducible refine i_in (by assumption) (by omega) (by omega) ?_); (with_reducible refine i_in (by assumption) (by omega) (by omega) ?_); (with_reducible refine i_up (i_Inc8 ?_)); (rw [gw]); rw [zx_inc (by omega)]; simp only [w_set0, w_set1, w_setn0, w_setn1])
        refine hX2 _ _ ⟨⟨_, rfl⟩, fun b j q => by rw [zg_n _ _ _ (by omega)]; exact hf4 b j q, fun x hx => ?_⟩
        by_cases w : x = r
        · subst w; rw [zg_s, hz]
        · rw [zg_m _ _ _ _ _ (by omega)]; exact h4 x (by omega)
    · rintro ρ M4 X2 ⟨⟨l, rfl⟩, hf4, h4⟩
      have gn4 : M4 250 ((1 : Nat) : Int) = ((n : Nat) : Int) := by rw [hf4 _ _ (by omega), hf3 _ _ (by omega)]; exact gn2
      ((with_reducible refine i_turn (i_cI_lt (i_L8 (i_F (i_A0 ?_))))); (with_reducible refine i_fld (by assumption) ?_); (rw [gn4]); (with_reducible refine i_f (by omega) ?_); (with_reducible refine i_Seq (i_Set (i_Call (i_as1 (i_A0 (i_as0 ?_)))))); (with_reducible refine i_recv0 (by assumption) ?_); simp only [w_set0, w_set1, w_setn0, w_setn1])
      refine m_lengthBy hO hS gn4 hn2 h4 (zmc_16 hn2 hp (by omega)) (gT2.to (fun j => by rw [hf4 _ _ (by omega), hf3 _ _ (by omega)])) (fun M5 hf5 => ⟨_, rfl, ?_⟩)
      have hf53 : ∀ b j, ¬ ((b = 258 ∧ j = ((6 : Nat) : Int) ∨ (b = 259 ∨ b = 260 ∨ b = 262 ∨ b = 263) ∧ ((16 * 6 : Nat) : Int) ≤ j ∧ j < ((16 * 6 + 16 : Nat) : Int) ∨ (b = 261 ∨ b = 264 ∨ b = 265 ∨ b = 266) ∧ ((256 * 6 : Nat) : Int) ≤ j ∧ j < ((256 * 6 + 256 : Nat) : Int)) ∨ b = 268 ∨ b = 269 ∨ b = 270 ∨ b = 271 ∨ b = 272 ∨ b = 283 ∨ b = 284) → M5 b j = M2 b j := fun b j q => by rw [hf5 b j (by omega), hf4 b j (by omega), hf3 b j q]
      have hX3 : ∀ (l : zLoc) (a b : Nat) (z : Int), (a, b) = zMb n T g p cur (c + 1) → z = ((b : Nat) : Int) - 1 → X1 (250 :: ((t : Nat) : Int) :: ((p : Nat) : Int) :: ((cur : Nat) : Int) :: ((znb n g p : Nat) : Int) :: ((a : Nat) : Int) :: z :: ((c + 1 : Nat) : Int) :: l) M5 := fun l a b z h1 h2 => by
        subst h2
        have e1 : a = (zMb n T g p cur (c + 1)).1 := by rw [← h1]
        have e2 : b = (zMb n T g p cur (c + 1)).2 := by rw [← h1]
        subst e1; subst e2
        exact hX1 _ _ ⟨⟨l, rfl⟩, hf53⟩
      rw [zMb_su] at hX3
      by_cases w : zLgt n T (zmc g p c) < (zMb n T g p cur c).1
      · rw [if_pos w] at hX3
        ((with_reducible refine i_Seq (i_IfBrk (i_cI_ge (i_L8 (i_L5 ?_))))); (with_reducible refine i_f (by omega) ?_); (with_reducible refine i_Seq (i_Set (i_L8 (i_Set ?_)))); simp only [w_set0, w_set1, w_setn0, w_setn1]; (with_reducible refine i_L7 (i_up ?_)); simp only [w_set0, w_set1, w_setn0, w_setn1]; (with_reducible refine i_Inc7 ?_); rw [zx_inc (by omega)]; simp only [w_set0, w_set1, w_setn0, w_setn1])
        exact hX3 _ _ _ _ rfl (by omega)
      · rw [if_neg w] at hX3
        ((with_reducible refine i_Seq (i_IfBrk (i_cI_ge (i_L8 (i_L5 ?_))))); (with_reducible refine i_t (by omega) ?_); (with_reducible refine i_lab1 (i_up (i_Inc7 ?_))); rw [zx_inc (by omega)]; simp only [w_set0, w_set1, w_setn0, w_setn1])
        exact hX3 _ _ _ _ rfl rfl
  rintro ρ M3 X1 ⟨⟨l, rfl⟩, hf3⟩
  have hmb1 := hmb (znb n g p + 1)
  have gn3 : M3 250 ((1 : Nat) : Int) = ((n : Nat) : Int) := (hf3 _ _ (by omega)).trans gn2
  have fin : ∀ M', (∀ b j, ¬ ((b = 258 ∧ j = ((t : Nat) : Int) ∨ (b = 259 ∨ b = 260 ∨ b = 262 ∨ b = 263) ∧ ((16 * t : Nat) : Int) ≤ j ∧ j < ((16 * t + 16 : Nat) : Int) ∨ (b = 261 ∨ b = 264 ∨ b = 265 ∨ b = 266) ∧ ((256 * t : Nat) : Int) ≤ j ∧ j < ((256 * t + 256 : Nat) : Int)) ∨ (b = 258 ∧ j = ((6 : Nat) : Int) ∨ (b = 259 ∨ b = 260 ∨ b = 262 ∨ b = 263) ∧ ((16 * 6 : Nat) : Int) ≤ j ∧ j < ((16 * 6 + 16 : Nat) : Int) ∨ (b = 261 ∨ b = 264 ∨ b = 265 ∨ b = 266) ∧ ((256 * 6 : Nat) : Int) ≤ j ∧ j < ((256 * 6 + 256 : Nat) : Int)) ∨ b = 268 ∨ b = 269 ∨ b = 270 ∨ b = 271 ∨ b = 272 ∨ b = 283 ∨ b = 284 ∨ b = 285) → M' b j = M b j) → rTe M' t n (zRq n T (zM1 n T p (g, cur)).1) → K (some (0, (((zM1 n T p (g, cur)).2 : Nat) : Int))) M' := hk
  unfold zM1 at fin
  dsimp only at fin
  generalize hz : (zMb n T g p cur (znb n g p + 1)) = z at hmb1 fin ⊢
  by_cases w : z.2 = 0
  · rw [if_pos w] at fin
    have := hmb1.2.1 w
    ((with_reducible refine i_turn (i_cI_le (i_L7 (i_L4 ?_)))); (with_reducible refine i_f (by omega) ?_); (with_reducible refine i_Seq (i_If (i_cZ_lt (i_L6 ?_)))); (with_reducible refine i_t (by omega) ?_); (with_reducible refine i_RetI (i_L3 ?_)))
    exact fin M3 (fun b j q => by rw [hf3 b j (by omega), hf2 b j (by omega)]) (hA2.to hn2 (zRq_w hn2) (fun b j q => hf3 b j (by omega)))
  · rw [if_neg w] at fin
    have hz2 := hmb1.2.2 w
    rw [show (((z.2 : Nat) : Int) - 1 : Int) = ((z.2 - 1 : Nat) : Int) by omega]
    ((with_reducible refine i_turn (i_cI_le (i_L7 (i_L4 ?_)))); (with_reducible refine i_f (by omega) ?_); (with_reducible refine i_Seq (i_If (i_cZ_lt (i_L6 ?_)))); (with_reducible refine i_f (by omega) ?_); (with_reducible refine i_Seq (i_Blk (i_Seq (i_Set (i_I ?_))))); simp only [w_set0, w_set1, w_setn0, w_setn1])
    refine w_ForN n (fun r ρ M' => (∃ l, ρ = 250 :: ((t : Nat) : Int) :: ((p : Nat) : Int) :: ((cur : Nat) : Int) :: ((znb n g p : Nat) : Int) :: ((z.1 : Nat) : Int) :: ((z.2 - 1 : Nat) : Int) :: ((r : Nat) : Int) :: l) ∧ (∀ b j, ¬ b = 272 → M' b j = M3 b j) ∧ ∀ x : Nat, x < r → M' ((272 : Nat) : Int) ((x : Nat) : Int) = ((zmc g p (z.2 - 1) x : Nat) : Int)) ⟨⟨_, rfl⟩, fun _ _ _ => rfl, fun x h => absurd h (Nat.not_lt_zero _)⟩ ?_ ?_
    · rintro r ρ M4 X2 hr ⟨⟨l, rfl⟩, hf4, h4⟩ hX2
      have gn4 : M4 250 ((1 : Nat) : Int) = ((n : Nat) : Int) := by rw [hf4 _ _ (by omega)]; exact gn3
      by_cases e : r = p
      · have hz : zmc g p (z.2 - 1) r = z.2 - 1 := if_pos e
        ((with_reducible refine i_turn (i_cI_lt (i_L7 (i_F (i_A0 ?_))))); (with_reducible refine i_fld (by assumption) ?_); (rw [gn4]); (with_reducible refine i_t (by omega) ?_); (with_reducible refine i_sIA (i_FR (i_A0 ?_))); (with_reducible refine i_fldR (by assumption) ?_); (with_reducible refine i_L7 (i_eIf (i_cI_eq (i_L7 (i_L2 ?_))))); (with_reducible refine i_t (by omega) ?_); (with_reducible refine i_L6 ?_); (with_reducible refine i_in (by assumption) (by omega) (by omega) ?_); (with_reducible refine i_up (i_Inc7 ?_)); rw [zx_inc (by omega)]; simp only [w_set0, w_set1, w_setn0, w_setn1])
        refine hX2 _ _ ⟨⟨_, rfl⟩, fun b j q => by rw [zg_n _ _ _ (by omega)]; exact hf4 b j q, fun x hx => ?_⟩
        by_cases w : x = r
        · subst w; rw [zg_s, hz]
        · rw [zg_m _ _ _ _ _ (by omega)]; exact h4 x (by omega)
      · have hz : zmc g p (z.2 - 1) r = zwi g p r := if_neg e
        have gw : M4 ((285 : Nat) : Int) ((r : Nat) : Int) = ((zwi g p r : Nat) : Int) := by rw [hf4 _ _ (by omega), hf3 _ _ (by omega)]; exact hw r hr e
        ((with_reducible refine i_turn (i_cI_lt (i_L7 (i_F (i_A0 ?_))))); (with_reducible refine i_fld (by assumption) ?_); (rw [gn4]); (with_reducible refine i_t (by omega) ?_); (with_reducible refine i_sIA (i_FR (i_A0 ?_))); (with_reducible refine i_fldR (by assumption) ?_); (with_reducible refine i_L7 (i_eIf (i_cI_eq (i_L7 (i_L2 ?_))))); (with_reducible refine i_f (by omega) ?_); (with_reducible refine i_IA (i_FR (i_A0 ?_))); (with_reducible refine i_fldR (by assumption) ?_); (with_reducible refine i_L7 ?_); (with_reducible refine i_in (by assumption) (by omega) (by omega) ?_); (with_reducible refine i_in (by assumption) (by omega) (by omega) ?_); (with_reducible refine i_up (i_Inc7 ?_)); (rw [gw]); rw [zx_inc (by omega)]; simp only [w_set0, w_set1, w_setn0, w_setn1])
        refine hX2 _ _ ⟨⟨_, rfl⟩, fun b j q => by rw [zg_n _ _ _ (by omega)]; exact hf4 b j q, fun x hx => ?_⟩
        by_cases w : x = r
        · subst w; rw [zg_s, hz]
        · rw [zg_m _ _ _ _ _ (by omega)]; exact h4 x (by omega)
    · rintro ρ M4 X2 ⟨⟨l, rfl⟩, hf4, h4⟩
      have gn4 : M4 250 ((1 : Nat) : Int) = ((n : Nat) : Int) := by rw [hf4 _ _ (by omega)]; exact gn3
      ((with_reducible refine i_turn (i_cI_lt (i_L7 (i_F (i_A0 ?_))))); (with_reducible refine i_fld (by assumption) ?_); (rw [gn4]); (with_reducible refine i_f (by omega) ?_); (with_reducible refine i_Seq (i_sCall (i_as1 (i_A0 (i_as1 (i_L1 (i_as0 ?_))))))); (with_reducible refine i_recv0 (by assumption) ?_))
      refine m_settle hO hS (by omega) gn4 hn2 h4 (zmc_16 hn2 hp (by omega)) (gT2.to (fun j => by rw [hf4 _ _ (by omega), hf3 _ _ (by omega)])) (fun M5 hf5 h5 => ⟨rfl, ?_⟩)
      (with_reducible refine i_RetI (i_L5 ?_))
      refine fin M5 (fun b j q => by rw [hf5 b j (by omega), hf4 b j (by omega), hf3 b j (by omega), hf2 b j (by omega)]) ?_
      show rTe M5 t n (zRq n T (zcg n _))
      rw [zRq_cg hn1]
      exact h5
