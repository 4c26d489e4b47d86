/-! ===== all partings one by one: both sides ===== -/
theorem m_goesOn {O : zOm} (hO : zWld O) (hS : zS O = zmS zC0) {m : Nat} {f : Nat → Nat} {M : zMem} {K : Option zV → zMem → Prop} (hm1 : 0 < m) (hm2 : m ≤ 16) (hl : rLab M m f) (hf : zRG m f)
    (hk : ∀ M', (∀ b j, ¬ b = 272 → M' b j = M b j) → rLab M' m (if zgq f m = 0 then f else zgo f (zgq f m)) → K (some (0, zbI (decide (zgq f m ≠ 0)))) M') : zR O F_Model_goesOn [(2, 250), (0, ((m : Nat) : Int))] M K := by
  apply r_Model_goesOn hO
  unfold B_Model_goesOn
  have f26 := zMF (k := 26) hS rfl; have a272 := zMA (a := 272) (ty := .int) (n := 16) hS rfl; have zo := zMO hS
  ((with_reducible refine i_Seq (i_Blk (i_Seq (i_Set (i_Sub (i_L1 (i_I ?_))))))); rw [zx_subc (by omega) (by omega)]; simp only [w_set0, w_set1, w_setn0, w_setn1])
  refine w_ForM (fun μ ρ M' => ∃ i l, ρ = 250 :: ((m : Nat) : Int) :: ((i : Nat) : Int) :: l ∧ M' = M ∧ i < m ∧ zgq f m = zgq f (i + 1) ∧ μ = i) (m - 1) ⟨m - 1, _, rfl, rfl, by omega, by rw [show m - 1 + 1 = m by omega], rfl⟩ ?_
  rintro i ρ M1 X ⟨_, l, rfl, rfl, hi, hz, rfl⟩ hX
  by_cases h0 : 0 < i
  · have hw : zmU f i ≤ i := zRG_mU hf (by omega)
    ((with_reducible refine i_turn (i_cZ_gt (i_L2 ?_))); (with_reducible refine i_t (by omega) ?_); (with_reducible refine i_Blk (i_Seq (i_Set (i_I (i_Seq (i_Blk (i_Seq (i_Set (i_I ?_))))))))); simp only [w_set0, w_set1, w_setn0, w_setn1]; rw [w_setT]; simp only [w_set0, w_set1, w_setn0, w_setn1]; rw [w_setT])
    refine w_ForN i (fun k ρ M' => (∃ l, ρ = 250 :: ((m : Nat) : Int) :: ((i : Nat) : Int) :: ((zmU f k - 1 : Nat) : Int) :: ((k : Nat) : Int) :: l) ∧ M' = M1) ⟨⟨_, rfl⟩, rfl⟩ ?_ ?_
    · rintro k ρ M2 X1 hk1 ⟨⟨l2, rfl⟩, rfl⟩ hX1
      have gk := hl k (by omega)
      have hfk := zRG_le hf (q := k) (by omega)
      have hU : zmU f k ≤ k := zRG_mU hf (by omega)
      have hX2 : ∀ (l : zLoc) (c : Nat), c = zmU f (k + 1) - 1 → X1 (250 :: ((m : Nat) : Int) :: ((i : Nat) : Int) :: ((c : Nat) : Int) :: ((k + 1 : Nat) : Int) :: l) M2 := fun l c hc => by subst hc; exact hX1 _ _ ⟨⟨l, rfl⟩, rfl⟩
      rw [zmU_su] at hX2
      by_cases w : zmU f k - 1 < f k
      · ((with_reducible refine i_turn (i_cI_lt (i_L4 (i_L2 ?_)))); (with_reducible refine i_t (by omega) ?_); (with_reducible refine i_Set (i_eIf (i_cI_gt (i_IA (i_FR (i_A0 ?_)))))); (with_reducible refine i_fldR (by assumption) ?_); (with_reducible refine i_L4 ?_); (with_reducible refine i_in (by assumption) (by omega) (by omega) ?_); (with_reducible refine i_L3 ?_); (rw [gk]); (with_reducible refine i_t (by omega) ?_); (with_reducible refine i_IA (i_FR (i_A0 ?_))); (with_reducible refine i_fldR (by assumption) ?_); (with_reducible refine i_L4 ?_); (with_reducible refine i_in (by assumption) (by omega) (by omega) ?_); (with_reducible refine i_up ?_); (rw [gk]); simp only [w_set0, w_set1, w_setn0, w_setn1]; (with_reducible refine i_Inc4 ?_); rw [zx_inc (by omega)]; simp only [w_set0, w_set1, w_setn0, w_setn1])
        exact hX2 _ _ (by omega)
      · ((with_reducible refine i_turn (i_cI_lt (i_L4 (i_L2 ?_)))); (with_reducible refine i_t (by omega) ?_); (with_reducible refine i_Set (i_eIf (i_cI_gt (i_IA (i_FR (i_A0 ?_)))))); (with_reducible refine i_fldR (by assumption) ?_); (with_reducible refine i_L4 ?_); (with_reducible refine i_in (by assumption) (by omega) (by omega) ?_); (with_reducible refine i_L3 ?_); (rw [gk]); (with_reducible refine i_f (by omega) ?_); (with_reducible refine i_L3 (i_up ?_)); simp only [w_set0, w_set1, w_setn0, w_setn1]; (with_reducible refine i_Inc4 ?_); rw [zx_inc (by omega)]; simp only [w_set0, w_set1, w_setn0, w_setn1])
        exact hX2 _ _ (by omega)
    · rintro ρ M2 X1 ⟨⟨l2, rfl⟩, rfl⟩
      have gi := hl i hi
      have hfi := zRG_le hf hi
      have hp := zmU_pos (f := f) h0
      by_cases w : f i < zmU f i
      · have hq : zgq f m = i := by rw [hz, zgq_su, if_pos ⟨h0, w⟩]
        rw [hq, if_neg (by omega), decide_eq_true (show i ≠ 0 by omega)] at hk
        ((with_reducible refine i_turn (i_cI_lt (i_L4 (i_L2 ?_)))); (with_reducible refine i_f (by omega) ?_); (with_reducible refine i_If (i_cI_le (i_IA (i_FR (i_A0 ?_))))); (with_reducible refine i_fldR (by assumption) ?_); (with_reducible refine i_L2 ?_); (with_reducible refine i_in (by assumption) (by omega) (by omega) ?_); (with_reducible refine i_L3 ?_); (rw [gi]); (with_reducible refine i_t (by omega) ?_); (with_reducible refine i_Seq (i_IO (i_FR (i_A0 ?_)))); (with_reducible refine i_fldR (by assumption) ?_); (with_reducible refine i_L2 ?_); (with_reducible refine i_in (by assumption) (by omega) (by omega) ?_); (with_reducible refine i_I (i_Seq (i_Blk (i_Seq (i_Set (i_Add (i_L2 (i_I ?_)))))))); (rw [gi]); rw [zx_inc (by omega)]; rw [zx_inc (by omega)]; simp only [w_set0, w_set1, w_setn0, w_setn1])
        refine w_ForN (m - (i + 1)) (fun k ρ M' => (∃ l, ρ = 250 :: ((m : Nat) : Int) :: ((i : Nat) : Int) :: ((zmU f i - 1 : Nat) : Int) :: ((i + 1 + k : Nat) : Int) :: l) ∧ (∀ b j, ¬ b = 272 → M' b j = M2 b j) ∧ ∀ x : Nat, x < m → M' ((272 : Nat) : Int) ((x : Nat) : Int) = ((if x < i + 1 + k then zgo f i x else f x : Nat) : Int)) ⟨⟨_, rfl⟩, fun b j q => by rw [zg_n _ _ _ (by omega)], fun x hx => ?_⟩ ?_ ?_
        · by_cases e : x = i
          · subst e; rw [zg_s, if_pos (by omega)]; unfold zgo; rw [if_neg (Nat.lt_irrefl _), if_pos rfl]
          · rw [zg_m _ _ _ _ _ (by omega), hl x hx]
            by_cases v : x < i
            · rw [if_pos (by omega)]; unfold zgo; rw [if_pos v]
            · rw [if_neg (by omega)]
        · rintro k ρ M3 X2 hk2 ⟨⟨l3, rfl⟩, hf3, h3⟩ hX3
          ((with_reducible refine i_turn (i_cI_lt (i_L4 (i_L1 ?_)))); (with_reducible refine i_t (by omega) ?_); (with_reducible refine i_sIA (i_FR (i_A0 ?_))); (with_reducible refine i_fldR (by assumption) ?_); (with_reducible refine i_L4 (i_I ?_)); (with_reducible refine i_in (by assumption) (by omega) (by omega) ?_); (with_reducible refine i_up (i_Inc4 ?_)); rw [zx_inc (by omega)]; simp only [w_set0, w_set1, w_setn0, w_setn1])
          refine hX3 _ _ ⟨⟨_, rfl⟩, fun b j q => by rw [zg_n _ _ _ (by omega)]; exact hf3 b j q, fun x hx => ?_⟩
          by_cases e : x = i + 1 + k
          · rw [e, zg_s, if_pos (by omega)]; unfold zgo; rw [if_neg (by omega), if_neg (by omega)]; rfl
          · rw [zg_m _ _ _ _ _ (by omega), h3 x hx]
            by_cases v : x < i + 1 + k
            · rw [if_pos v, if_pos (by omega)]
            · rw [if_neg v, if_neg (by omega)]
        · rintro ρ M3 X2 ⟨⟨l3, rfl⟩, hf3, h3⟩
          ((with_reducible refine i_turn (i_cI_lt (i_L4 (i_L1 ?_)))); (with_reducible refine i_f (by omega) ?_); (with_reducible refine i_RetZ (i_I ?_)); (with_reducible refine i_z (Or.inr rfl) ?_))
          exact hk M3 hf3 (fun x hx => by rw [h3 x hx, if_pos (by omega)])
      · have hq : zgq f m = zgq f (i - 1 + 1) := by rw [hz, zgq_su, if_neg (fun z => w z.2), show i - 1 + 1 = i by omega]
        ((with_reducible refine i_turn (i_cI_lt (i_L4 (i_L2 ?_)))); (with_reducible refine i_f (by omega) ?_); (with_reducible refine i_If (i_cI_le (i_IA (i_FR (i_A0 ?_))))); (with_reducible refine i_fldR (by assumption) ?_); (with_reducible refine i_L2 ?_); (with_reducible refine i_in (by assumption) (by omega) (by omega) ?_); (with_reducible refine i_L3 ?_); (rw [gi]); (with_reducible refine i_f (by omega) ?_); (with_reducible refine i_up (i_Inc2 ?_)); (rw [show zw32 (((i : Nat) : Int) + -1) = ((i - 1 : Nat) : Int) from zx_n (by omega) (by omega)]); simp only [w_set0, w_set1, w_setn0, w_setn1])
        exact hX _ _ _ (by omega) ⟨i - 1, _, rfl, rfl, by omega, hq, rfl⟩
  · have h00 : i = 0 := by omega
    subst h00
    have hq : zgq f m = 0 := by rw [hz, zgq_su, if_neg (by omega)]; rfl
    rw [hq, if_pos rfl, decide_eq_false (show ¬ (0 : Nat) ≠ 0 by omega)] at hk
    ((with_reducible refine i_turn (i_cZ_gt (i_L2 ?_))); (with_reducible refine i_f (by omega) ?_); (with_reducible refine i_RetZ (i_I ?_)); (with_reducible refine i_z (Or.inl rfl) ?_))
    exact hk M1 (fun _ _ _ => rfl) hl
theorem m_leastOfAll {O : zOm} (hO : zWld O) (hS : zS O = zmS zC0) {n K0 : Nat} {T : Nat → Nat → Bool} {M : zMem} {K : Option zV → zMem → Prop} (hn : M 250 ((1 : Nat) : Int) = ((n : Nat) : Int)) (hn1 : 0 < n) (hn2 : n ≤ 16) (hT : rMx M 267 T) (hE : zgE n K0) (hK0 : K0 < 1000000)
    (hk : ∀ M', (∀ b j, ¬ (b = 250 ∧ j = 44 ∨ (b = 258 ∧ j = ((6 : Nat) : Int) ∨ (b = 259 ∨ b = 260 ∨ b = 262 ∨ b = 263) ∧ ((16 * 6 : Nat) : Int) ≤ j ∧ j < ((16 * 6 + 16 : Nat) : Int) ∨ (b = 261 ∨ b = 264 ∨ b = 265 ∨ b = 266) ∧ ((256 * 6 : Nat) : Int) ≤ j ∧ j < ((256 * 6 + 256 : Nat) : Int)) ∨ b = 268 ∨ b = 269 ∨ b = 270 ∨ b = 271 ∨ b = 272 ∨ b = 273 ∨ b = 283 ∨ b = 284) → M' b j = M b j) → M' 250 ((44 : Nat) : Int) = (((zLs n T K0).2.1 : Nat) : Int) → (∀ p : Nat, p < n → M' ((273 : Nat) : Int) ((p : Nat) : Int) = (((zLs n T K0).2.2 p : Nat) : Int)) → K (some (0, (((zLs n T K0).1 : Nat) : Int))) M') : zR O F_Model_leastOfAll [(2, 250)] M K := by
  apply r_Model_leastOfAll hO
  unfold B_Model_leastOfAll
  have f1 := zMF (k := 1) hS rfl; have f26 := zMF (k := 26) hS rfl; have a272 := zMA (a := 272) (ty := .int) (n := 16) hS rfl; have f44 := zMF (k := 44) hS rfl; have f27 := zMF (k := 27) hS rfl; have a273 := zMA (a := 273) (ty := .int) (n := 16) hS rfl; have zo := zMO hS
  ((with_reducible refine i_Seq (i_Blk (i_Seq (i_Set (i_I ?_))))); simp only [w_set0, w_set1, w_setn0, w_setn1])
  refine w_ForN n (fun k ρ M' => ρ = [250, ((k : Nat) : Int)] ∧ (∀ b j, ¬ b = ((272 : Nat) : Int) → M' b j = M b j) ∧ ∀ j : Nat, j < k → M' ((272 : Nat) : Int) ((j : Nat) : Int) = 0) ⟨rfl, fun _ _ _ => rfl, fun j hj => absurd hj (by omega)⟩ ?_ ?_
  · rintro k ρ M9 X hk1 ⟨rfl, hf, h⟩ hX
    ((with_reducible refine i_turn (i_cI_lt (i_L1 (i_F (i_A0 ?_))))); (with_reducible refine i_fld (by assumption) ?_); rw [show M9 250 ((1 : Nat) : Int) = ((n : Nat) : Int) from (hf _ _ (by omega)).trans hn]; (with_reducible refine i_t (by omega) ?_); (with_reducible refine i_sIA (i_FR (i_A0 ?_))); (with_reducible refine i_fldR (by assumption) ?_); (with_reducible refine i_L1 (i_I ?_)); (with_reducible refine i_in (by assumption) (by omega) (by omega) ?_); (with_reducible refine i_up (i_Inc1 ?_)); rw [zx_inc (by omega)]; simp only [w_set0, w_set1, w_setn0, w_setn1])
    refine hX _ _ ⟨rfl, (by intro b j q; ((rw [zg_n _ _ _ (by omega)])); first | done | rfl | exact hf b j (by omega)), fun j hj => ?_⟩
    by_cases e : j = k
    · subst e; rw [zg_s]
    · rw [zg_m _ _ _ _ _ (by omega)]; exact h j (by omega)
  rintro ρ M1 X ⟨rfl, hf1, h1⟩
  ((with_reducible refine i_turn (i_cI_lt (i_L1 (i_F (i_A0 ?_))))); (with_reducible refine i_fld (by assumption) ?_); rw [show M1 250 ((1 : Nat) : Int) = ((n : Nat) : Int) from (hf1 _ _ (by omega)).trans hn]; (with_reducible refine i_f (by omega) ?_); (with_reducible refine i_Seq (i_Set (i_I (i_Seq (i_sF ?_))))); simp only [w_set0, w_set1, w_setn0, w_setn1]; (with_reducible refine i_A0 (i_I ?_)); (with_reducible refine i_fld (by assumption) ?_); (with_reducible refine i_Seq (i_Set (i_I (i_Seq ?_)))); simp only [w_set0, w_set1, w_setn0, w_setn1])
  refine w_WhileM (fun μ ρ M' => ∃ k b l, ρ = 250 :: (if k = 0 then -1 else (((zLs n T (k - 1)).1 : Nat) : Int)) :: zbI b :: l ∧ (∀ b j, ¬ (b = 250 ∧ j = 44 ∨ (b = 258 ∧ j = ((6 : Nat) : Int) ∨ (b = 259 ∨ b = 260 ∨ b = 262 ∨ b = 263) ∧ ((16 * 6 : Nat) : Int) ≤ j ∧ j < ((16 * 6 + 16 : Nat) : Int) ∨ (b = 261 ∨ b = 264 ∨ b = 265 ∨ b = 266) ∧ ((256 * 6 : Nat) : Int) ≤ j ∧ j < ((256 * 6 + 256 : Nat) : Int)) ∨ b = 268 ∨ b = 269 ∨ b = 270 ∨ b = 271 ∨ b = 272 ∨ b = 273 ∨ b = 283 ∨ b = 284) → M' b j = M b j) ∧ M' 250 ((44 : Nat) : Int) = (if k = 0 then 0 else (((zLs n T (k - 1)).2.1 : Nat) : Int)) ∧ (k ≠ 0 → ∀ p : Nat, p < n → M' ((273 : Nat) : Int) ((p : Nat) : Int) = (((zLs n T (k - 1)).2.2 p : Nat) : Int)) ∧ k ≤ K0 + 1 ∧ (b = true → k ≤ K0 ∧ rLab M' n (zgs n k)) ∧ (b = false → k = K0 + 1) ∧ μ = K0 + 1 - k) _ ⟨0, true, _, rfl, fun b j q => by rw [zg_o _ _ (by omega)]; exact hf1 b j (by omega), zg_s _ _ _ _ _, fun z => absurd rfl z, by omega, fun _ => ⟨Nat.zero_le _, fun p hp => by rw [zg_n _ _ _ (by omega)]; exact h1 p hp⟩, (fun z => by cases z), rfl⟩ ?_
  clear hf1 h1
  rintro μ ρ M2 X ⟨k, b, l, rfl, hf2, hm2, hk2, hle, hbt, hbf, rfl⟩ hX
  cases b
  · clear hX
    have e := hbf rfl
    subst e
    rw [if_neg (by omega)] at hm2 ⊢
    ((with_reducible refine i_turn (i_cZ_ne (i_L2 ?_))); rw [zbI_f]; (with_reducible refine i_f (by omega) ?_); (with_reducible refine i_RetI (i_L1 ?_)))
    exact hk M2 hf2 hm2 (hk2 (by omega))
  · obtain ⟨hkK, hL2⟩ := hbt rfl
    have gn2 : M2 250 ((1 : Nat) : Int) = ((n : Nat) : Int) := (hf2 _ _ (by omega)).trans hn
    have gT2 : rMx M2 267 T := hT.to (fun j => hf2 _ _ (by omega))
    have hRG := zgs_RG n k
    ((with_reducible refine i_turn (i_cZ_ne (i_L2 ?_))); rw [zbI_t]; (with_reducible refine i_t (by omega) ?_); (with_reducible refine i_Blk (i_Seq (i_Set (i_Call (i_as1 (i_A0 (i_as0 ?_))))))); (with_reducible refine i_recv0 (by assumption) ?_); simp only [w_set0, w_set1, w_setn0, w_setn1])
    refine m_lengthBy hO hS gn2 hn2 hL2 (fun q hq => by have := zRG_le hRG hq; omega) gT2 (fun M3 hf3 => ⟨_, rfl, ?_⟩)
    have gn3 : M3 250 ((1 : Nat) : Int) = ((n : Nat) : Int) := (hf3 _ _ (by omega)).trans gn2
    have hL3 : rLab M3 n (zgs n k) := fun q hq => by rw [hf3 _ _ (by omega)]; exact hL2 q hq
    have gm3 : M3 250 ((44 : Nat) : Int) = (if k = 0 then 0 else (((zLs n T (k - 1)).2.1 : Nat) : Int)) := by rw [hf3 _ _ (by omega)]; exact hm2
    have hf32 : ∀ b j, ¬ (b = 250 ∧ j = 44 ∨ (b = 258 ∧ j = ((6 : Nat) : Int) ∨ (b = 259 ∨ b = 260 ∨ b = 262 ∨ b = 263) ∧ ((16 * 6 : Nat) : Int) ≤ j ∧ j < ((16 * 6 + 16 : Nat) : Int) ∨ (b = 261 ∨ b = 264 ∨ b = 265 ∨ b = 266) ∧ ((256 * 6 : Nat) : Int) ≤ j ∧ j < ((256 * 6 + 256 : Nat) : Int)) ∨ b = 268 ∨ b = 269 ∨ b = 270 ∨ b = 271 ∨ b = 272 ∨ b = 273 ∨ b = 283 ∨ b = 284) → M3 b j = M b j := fun b j q => by rw [hf3 b j (by omega), hf2 b j q]
    have hk3 : k ≠ 0 → ∀ p : Nat, p < n → M3 ((273 : Nat) : Int) ((p : Nat) : Int) = (((zLs n T (k - 1)).2.2 p : Nat) : Int) := fun z p hp => by rw [hf3 _ _ (by omega)]; exact hk2 z p hp
    have hln := zLn_le (T := T) (f := zgs n k) hn2
    have hb0 := zLs_b hn2 T (k - 1)
    have hbk := zLs_b hn2 T k
    clear hm2 hk2 hf2 gn2 gT2 hL2 hbt hbf
    have tail : ∀ (l : zLoc) (M4 M5 : zMem), (∀ b j, ¬ (b = 250 ∧ j = 44 ∨ (b = 258 ∧ j = ((6 : Nat) : Int) ∨ (b = 259 ∨ b = 260 ∨ b = 262 ∨ b = 263) ∧ ((16 * 6 : Nat) : Int) ≤ j ∧ j < ((16 * 6 + 16 : Nat) : Int) ∨ (b = 261 ∨ b = 264 ∨ b = 265 ∨ b = 266) ∧ ((256 * 6 : Nat) : Int) ≤ j ∧ j < ((256 * 6 + 256 : Nat) : Int)) ∨ b = 268 ∨ b = 269 ∨ b = 270 ∨ b = 271 ∨ b = 272 ∨ b = 273 ∨ b = 283 ∨ b = 284) → M4 b j = M b j) → M4 250 ((44 : Nat) : Int) = (((zLs n T k).2.1 : Nat) : Int) → (∀ p : Nat, p < n → M4 ((273 : Nat) : Int) ((p : Nat) : Int) = (((zLs n T k).2.2 p : Nat) : Int)) → (∀ b j, ¬ b = 272 → M5 b j = M4 b j) → rLab M5 n (if zgq (zgs n k) n = 0 then zgs n k else zgo (zgs n k) (zgq (zgs n k) n)) → X (250 :: (((zLs n T k).1 : Nat) : Int) :: zbI (decide (zgq (zgs n k) n ≠ 0)) :: l) M5 := by
      intro l M4 M5 f4 m4 k4 f5 h5
      have f54 : ∀ b j, ¬ (b = 250 ∧ j = 44 ∨ (b = 258 ∧ j = ((6 : Nat) : Int) ∨ (b = 259 ∨ b = 260 ∨ b = 262 ∨ b = 263) ∧ ((16 * 6 : Nat) : Int) ≤ j ∧ j < ((16 * 6 + 16 : Nat) : Int) ∨ (b = 261 ∨ b = 264 ∨ b = 265 ∨ b = 266) ∧ ((256 * 6 : Nat) : Int) ≤ j ∧ j < ((256 * 6 + 256 : Nat) : Int)) ∨ b = 268 ∨ b = 269 ∨ b = 270 ∨ b = 271 ∨ b = 272 ∨ b = 273 ∨ b = 283 ∨ b = 284) → M5 b j = M b j := fun b j q => by rw [f5 b j (by omega), f4 b j q]
      refine hX (K0 - k) _ M5 (by omega) ⟨k + 1, decide (zgq (zgs n k) n ≠ 0), l, by rw [if_neg (by omega)]; rfl, f54, ?_, fun _ p hp => ?_, by omega, fun z => ?_, fun z => ?_, by omega⟩
      · rw [if_neg (by omega), f5 _ _ (by omega)]; exact m4
      · rw [f5 _ _ (by omega)]; exact k4 p hp
      · have z2 := of_decide_eq_true z
        rw [if_neg z2] at h5
        refine ⟨Classical.byContradiction fun w => z2 ?_, by rw [zgs_su z2]; exact h5⟩
        have : k = K0 := by omega
        rw [this]; exact hE.1
      · have z2 := of_decide_eq_false z
        refine Classical.byContradiction fun w => z2 (hE.2 k (by omega))
    clear hX
    obtain ⟨B, hB, hA, hN⟩ : ∃ B : Int, (if k = 0 then (-1 : Int) else (((zLs n T (k - 1)).1 : Nat) : Int)) = B ∧ (B < 0 ∨ ((zLgt n T (zgs n k) : Nat) : Int) < B → zLs n T k = (zLgt n T (zgs n k), 1, zgs n k)) ∧ (¬ B < 0 → ¬ ((zLgt n T (zgs n k) : Nat) : Int) < B → k ≠ 0 ∧ B = (((zLs n T (k - 1)).1 : Nat) : Int) ∧ zLs n T k = if zLgt n T (zgs n k) = (zLs n T (k - 1)).1 then ((zLs n T (k - 1)).1, (zLs n T (k - 1)).2.1 + 1, (zLs n T (k - 1)).2.2) else zLs n T (k - 1)) := by
      cases k with
      | zero => exact ⟨-1, rfl, fun _ => rfl, fun z => absurd (by omega) z⟩
      | succ j =>
        have e : j + 1 - 1 = j := by omega
        rw [e]
        refine ⟨_, if_neg (by omega), fun z => ?_, fun _ z => ⟨by omega, rfl, ?_⟩⟩
        · rw [zLs_su, if_pos (by omega)]
        · rw [zLs_su, if_neg (by omega)]
    rw [hB]
    generalize zLgt n T (zgs n k) = v at hln hA hN ⊢
    rcases (show (¬ B < 0 ∧ ¬ ((v : Nat) : Int) < B) ∨ B < 0 ∨ (¬ B < 0 ∧ ((v : Nat) : Int) < B) by omega) with ⟨w0, w⟩ | w | ⟨w0, w⟩
    · obtain ⟨hk0, e1, e2⟩ := hN w0 w
      subst e1
      rw [if_neg hk0] at gm3
      have k3 := hk3 hk0
      have hcn := hb0.2.1
      by_cases z : v = (zLs n T (k - 1)).1
      · rw [if_pos z] at e2
        rw [e2] at tail
        dsimp only at tail
        ((with_reducible refine i_Seq (i_If (i_cOr (i_cZ_lt (i_L1 ?_))))); rw [w_setT]; (with_reducible refine i_f (by omega) ?_); (with_reducible refine i_cI_lt (i_L3 (i_L1 ?_))); (with_reducible refine i_f (by omega) ?_); (with_reducible refine i_Seq (i_If (i_cI_eq (i_L3 (i_L1 ?_))))); ((with_reducible refine i_t (show ((v : Nat) : Int) = (((zLs n T (k - 1)).1 : Nat) : Int) by omega) ?_)); (with_reducible refine i_FO (i_A0 ?_)); (with_reducible refine i_fld (by assumption) ?_); (with_reducible refine i_I ?_); (with_reducible refine i_fld (by assumption) ?_); (with_reducible refine i_Set (i_Call (i_as1 (i_A0 (i_as1 (i_F (i_A0 ?_))))))); (with_reducible refine i_fld (by assumption) ?_); (with_reducible refine i_as0 ?_); (with_reducible refine i_recv0 (by assumption) ?_); rw [zg_m _ _ _ _ _ (by omega)]; (rw [gm3]); (rw [gn3]); rw [zx_inc (by omega)]; simp only [w_set0, w_set1, w_setn0, w_setn1])
        refine m_goesOn hO hS hn1 hn2 (fun q hq => by rw [zg_n _ _ _ (by omega)]; exact hL3 q hq) hRG (fun M5 f5 h5 => ⟨_, rfl, ?_⟩)
        (skip)
        exact tail _ _ M5 (fun b j q => by rw [zg_o _ _ (by omega)]; exact hf32 b j q) (zg_s _ _ _ _ _) (fun p hp => by rw [zg_n _ _ _ (by omega)]; exact k3 p hp) f5 h5
      · rw [if_neg z] at e2
        rw [e2] at tail
        ((with_reducible refine i_Seq (i_If (i_cOr (i_cZ_lt (i_L1 ?_))))); rw [w_setT]; (with_reducible refine i_f (by omega) ?_); (with_reducible refine i_cI_lt (i_L3 (i_L1 ?_))); (with_reducible refine i_f (by omega) ?_); (with_reducible refine i_Seq (i_If (i_cI_eq (i_L3 (i_L1 ?_))))); ((with_reducible refine i_f (show ¬ ((v : Nat) : Int) = (((zLs n T (k - 1)).1 : Nat) : Int) by omega) ?_)); (with_reducible refine i_Set (i_Call (i_as1 (i_A0 (i_as1 (i_F (i_A0 ?_))))))); (with_reducible refine i_fld (by assumption) ?_); (with_reducible refine i_as0 ?_); (with_reducible refine i_recv0 (by assumption) ?_); (rw [gn3]); simp only [w_set0, w_set1, w_setn0, w_setn1])
        refine m_goesOn hO hS hn1 hn2 hL3 hRG (fun M5 f5 h5 => ⟨_, rfl, ?_⟩)
        (skip)
        exact tail _ M3 M5 hf32 gm3 k3 f5 h5
    all_goals
      have eA := hA (by omega)
      rw [eA] at tail
      dsimp only at tail
      have gn4 : zput M3 250 (zup (M3 250) ((44 : Nat) : Int) 0) 250 ((1 : Nat) : Int) = ((n : Nat) : Int) := by rw [zg_o _ _ (by omega)]; exact gn3
      have gL4 : ∀ p : Nat, p < n → zput M3 250 (zup (M3 250) ((44 : Nat) : Int) 0) ((272 : Nat) : Int) ((p : Nat) : Int) = ((zgs n k p : Nat) : Int) := fun p hp => by rw [zg_n _ _ _ (by omega)]; exact hL3 p hp
      have g44 : zput M3 250 (zup (M3 250) ((44 : Nat) : Int) 0) 250 ((44 : Nat) : Int) = ((0 : Nat) : Int) := zg_s _ _ _ _ _
      have fr4 : ∀ b j, ¬ (b = 250 ∧ j = 44 ∨ (b = 258 ∧ j = ((6 : Nat) : Int) ∨ (b = 259 ∨ b = 260 ∨ b = 262 ∨ b = 263) ∧ ((16 * 6 : Nat) : Int) ≤ j ∧ j < ((16 * 6 + 16 : Nat) : Int) ∨ (b = 261 ∨ b = 264 ∨ b = 265 ∨ b = 266) ∧ ((256 * 6 : Nat) : Int) ≤ j ∧ j < ((256 * 6 + 256 : Nat) : Int)) ∨ b = 268 ∨ b = 269 ∨ b = 270 ∨ b = 271 ∨ b = 272 ∨ b = 273 ∨ b = 283 ∨ b = 284) → zput M3 250 (zup (M3 250) ((44 : Nat) : Int) 0) b j = M b j := fun b j q => by rw [zg_o _ _ (by omega)]; exact hf32 b j q
      (first | (((with_reducible refine i_Seq (i_If (i_cOr (i_cZ_lt (i_L1 ?_))))); rw [w_setT]; (with_reducible refine i_f (by omega) ?_); (with_reducible refine i_cI_lt (i_L3 (i_L1 ?_))); (with_reducible refine i_t (by omega) ?_); (with_reducible refine i_Seq (i_Set (i_L3 (i_Seq (i_sF ?_))))); simp only [w_set0, w_set1, w_setn0, w_setn1]; (with_reducible refine i_A0 (i_I ?_)); (with_reducible refine i_fld (by assumption) ?_); (with_reducible refine i_Blk (i_Seq (i_Set (i_I ?_)))); simp only [w_set0, w_set1, w_setn0, w_setn1]; rw [w_setT])) | (((with_reducible refine i_Seq (i_If (i_cOr (i_cZ_lt (i_L1 ?_))))); rw [w_setT]; (with_reducible refine i_t (by omega) ?_); (with_reducible refine i_Seq (i_Set (i_L3 (i_Seq (i_sF ?_))))); simp only [w_set0, w_set1, w_setn0, w_setn1]; (with_reducible refine i_A0 (i_I ?_)); (with_reducible refine i_fld (by assumption) ?_); (with_reducible refine i_Blk (i_Seq (i_Set (i_I ?_)))); simp only [w_set0, w_set1, w_setn0, w_setn1]; rw [w_setT])))
      generalize zput M3 250 (zup (M3 250) ((44 : Nat) : Int) 0) = M4 at gn4 gL4 g44 fr4 ⊢
      refine w_ForN n (fun p ρ M' => (∃ l, ρ = 250 :: ((v : Nat) : Int) :: 1 :: ((v : Nat) : Int) :: ((p : Nat) : Int) :: l) ∧ (∀ b j, ¬ b = 273 → M' b j = M4 b j) ∧ ∀ x : Nat, x < p → M' ((273 : Nat) : Int) ((x : Nat) : Int) = ((zgs n k x : Nat) : Int)) ⟨⟨_, rfl⟩, fun _ _ _ => rfl, fun x hx => absurd hx (Nat.not_lt_zero _)⟩ ?_ ?_
      · rintro p ρ M5 X5 hp ⟨⟨l5, rfl⟩, hf5, h5⟩ hX5
        have gn5 : M5 250 ((1 : Nat) : Int) = ((n : Nat) : Int) := (hf5 _ _ (by omega)).trans gn4
        have gl5 : M5 ((272 : Nat) : Int) ((p : Nat) : Int) = ((zgs n k p : Nat) : Int) := (hf5 _ _ (by omega)).trans (gL4 p hp)
        ((with_reducible refine i_turn (i_cI_lt (i_L4 (i_F (i_A0 ?_))))); (with_reducible refine i_fld (by assumption) ?_); (rw [gn5]); (with_reducible refine i_t (by omega) ?_); (with_reducible refine i_sIA (i_FR (i_A0 ?_))); (with_reducible refine i_fldR (by assumption) ?_); (with_reducible refine i_L4 (i_IA (i_FR (i_A0 ?_)))); (with_reducible refine i_fldR (by assumption) ?_); (with_reducible refine i_L4 ?_); (with_reducible refine i_in (by assumption) (by omega) (by omega) ?_); (with_reducible refine i_in (by assumption) (by omega) (by omega) ?_); (with_reducible refine i_up (i_Inc4 ?_)); (rw [gl5]); rw [zx_inc (by omega)]; simp only [w_set0, w_set1, w_setn0, w_setn1])
        refine hX5 _ _ ⟨⟨_, rfl⟩, fun b j q => by rw [zg_n _ _ _ (by omega)]; exact hf5 b j q, fun x hx => ?_⟩
        by_cases e : x = p
        · subst e; rw [zg_s]
        · rw [zg_m _ _ _ _ _ (by omega)]; exact h5 x (by omega)
      · rintro ρ M5 X5 ⟨⟨l5, rfl⟩, hf5, h5⟩
        have gn5 : M5 250 ((1 : Nat) : Int) = ((n : Nat) : Int) := (hf5 _ _ (by omega)).trans gn4
        have g445 : M5 250 ((44 : Nat) : Int) = ((0 : Nat) : Int) := (hf5 _ _ (by omega)).trans g44
        ((with_reducible refine i_turn (i_cI_lt (i_L4 (i_F (i_A0 ?_))))); (with_reducible refine i_fld (by assumption) ?_); (rw [gn5]); (with_reducible refine i_f (by omega) ?_); (with_reducible refine i_Seq (i_If (i_cI_eq (i_L3 (i_L1 ?_))))); ((with_reducible refine i_t (show ((v : Nat) : Int) = ((v : Nat) : Int) from rfl) ?_)); (with_reducible refine i_FO (i_A0 ?_)); (with_reducible refine i_fld (by assumption) ?_); (with_reducible refine i_I ?_); (with_reducible refine i_fld (by assumption) ?_); (with_reducible refine i_Set (i_Call (i_as1 (i_A0 (i_as1 (i_F (i_A0 ?_))))))); (with_reducible refine i_fld (by assumption) ?_); (with_reducible refine i_as0 ?_); (with_reducible refine i_recv0 (by assumption) ?_); rw [zg_m _ _ _ _ _ (by omega)]; (rw [gn5]); (rw [g445]); rw [zx_inc (by omega)]; simp only [w_set0, w_set1, w_setn0, w_setn1])
        refine m_goesOn hO hS hn1 hn2 (fun q hq => by rw [zg_n _ _ _ (by omega), hf5 _ _ (by omega)]; exact gL4 q hq) hRG (fun M6 f6 h6 => ⟨_, rfl, ?_⟩)
        (skip)
        exact tail _ _ M6 (fun b j q => by rw [zg_o _ _ (by omega), hf5 b j (by omega)]; exact fr4 b j q) (zg_s _ _ _ _ _) (fun p hp => by rw [zg_n _ _ _ (by omega)]; exact h5 p hp) f6 h6
theorem m_bests {O : zOm} (hO : zWld O) (hS : zS O = zmS zC0) {n K0 : Nat} {T : Nat → Nat → Bool} {M : zMem} {K : Option zV → zMem → Prop} (hn : M 250 ((1 : Nat) : Int) = ((n : Nat) : Int)) (hn1 : 0 < n) (hn2 : n ≤ 8) (hT : rMx M 251 T) (hE : zgE n K0) (hK0 : K0 < 1000000)
    (hk : ∀ M', (∀ b j, ¬ (b = 250 ∧ j = 44 ∨ (b = 258 ∧ j = ((6 : Nat) : Int) ∨ (b = 259 ∨ b = 260 ∨ b = 262 ∨ b = 263) ∧ ((16 * 6 : Nat) : Int) ≤ j ∧ j < ((16 * 6 + 16 : Nat) : Int) ∨ (b = 261 ∨ b = 264 ∨ b = 265 ∨ b = 266) ∧ ((256 * 6 : Nat) : Int) ≤ j ∧ j < ((256 * 6 + 256 : Nat) : Int)) ∨ b = 267 ∨ b = 268 ∨ b = 269 ∨ b = 270 ∨ b = 271 ∨ b = 272 ∨ b = 273 ∨ b = 283 ∨ b = 284) → M' b j = M b j) → K (some (0, (((zLs n T K0).2.1 : Nat) : Int))) M') : zR O F_Model_bests [(2, 250)] M K := by
  apply r_Model_bests hO
  unfold B_Model_bests
  have f1 := zMF (k := 1) hS rfl; have f44 := zMF (k := 44) hS rfl; have zo := zMO hS
  ((with_reducible refine i_Seq (i_If (i_cI_gt (i_F (i_A0 ?_))))); (with_reducible refine i_fld (by assumption) ?_); (with_reducible refine i_I ?_); (rw [hn]); (with_reducible refine i_f (by omega) ?_); (with_reducible refine i_Seq (i_sCall (i_as1 (i_A0 (i_as0 ?_))))); (with_reducible refine i_recv0 (by assumption) ?_))
  refine m_aimAtNet hO hS hT (fun j hj => hT.b01 hj) (fun M1 f1 h1 => ⟨rfl, ?_⟩)
  ((with_reducible refine i_Seq (i_Set (i_Call (i_as1 (i_A0 (i_as0 ?_)))))); (with_reducible refine i_recv0 (by assumption) ?_); simp only [w_set0, w_set1, w_setn0, w_setn1])
  refine m_leastOfAll hO hS (show M1 250 ((1 : Nat) : Int) = ((n : Nat) : Int) from (f1 _ _ (by omega)).trans hn) hn1 (by omega) h1 hE hK0 (fun M2 f2 h44 _ => ⟨_, rfl, ?_⟩)
  ((with_reducible refine i_RetI (i_F (i_A0 ?_))); (with_reducible refine i_fld (by assumption) ?_); (rw [h44]))
  exact hk M2 (fun b j q => by rw [f2 b j (by omega), f1 b j (by omega)])
theorem m_bests_bad {O : zOm} (hO : zWld O) (hS : zS O = zmS zC0) {n : Nat} {M : zMem} {K : Option zV → zMem → Prop} (hn : M 250 ((1 : Nat) : Int) = ((n : Nat) : Int)) (hn2 : 8 < n) (hk : K (some (0, -1)) M) : zR O F_Model_bests [(2, 250)] M K := by
  apply r_Model_bests hO
  unfold B_Model_bests
  have f1 := zMF (k := 1) hS rfl; have f44 := zMF (k := 44) hS rfl; have zo := zMO hS
  ((with_reducible refine i_Seq (i_If (i_cI_gt (i_F (i_A0 ?_))))); (with_reducible refine i_fld (by assumption) ?_); (with_reducible refine i_I ?_); (rw [hn]); (with_reducible refine i_t (by omega) ?_); (with_reducible refine i_RetI (i_I ?_)))
  exact hk
/-! the class -/
theorem c_goOn {O : zOm} (hO : zWld O) {p n : Nat} {f : Nat → Nat} {M : zMem} {K : Option zV → zMem → Prop} (hp : zPar (zS O) p) (hn1 : 0 < n) (hn2 : n ≤ 16) (hM : zPC M p n f) (hf : zRG n f)
    (hk : ∀ M', (∀ b j, ¬ (((p : Nat) : Int) ≤ b ∧ b ≤ ((p + 3 : Nat) : Int)) → M' b j = M b j) → zPC M' p n (if zgq f n = 0 then f else zgo f (zgq f n)) → K (some (0, zbI (decide (zgq f n ≠ 0)))) M') : zR O F_Parting_goOn [(2, ((p : Nat) : Int))] M K := by
  have hp0 := hp
  obtain ⟨p0, p1, p2, p3, p4, p5, p6, p7, p8⟩ := hp
  have hM0 := hM
  obtain ⟨m1, m2, m3, m4⟩ := hM
  have hl : ∀ q : Nat, q < n → M ((p + 1 : Nat) : Int) ((q : Nat) : Int) = ((f q : Nat) : Int) := fun q hq => by rw [m3 q hq, (zRG_cg hf).1 q hq]
  apply r_Parting_goOn hO
  unfold B_Parting_goOn
  ((with_reducible refine i_Seq (i_Blk (i_Seq (i_Set (i_Sub (i_F (i_A0 ?_))))))); (with_reducible refine i_fld (by assumption) ?_); (with_reducible refine i_I ?_); (rw [m1]); rw [zx_subc (by omega) (by omega)]; simp only [w_set0, w_set1, w_setn0, w_setn1])
  refine w_ForM (fun μ ρ M' => ∃ i l, ρ = ((p : Nat) : Int) :: ((i : Nat) : Int) :: l ∧ M' = M ∧ i < n ∧ zgq f n = zgq f (i + 1) ∧ μ = i) (n - 1) ⟨n - 1, _, rfl, rfl, by omega, by rw [show n - 1 + 1 = n by omega], rfl⟩ ?_
  rintro i ρ M1 X ⟨_, l, rfl, rfl, hi, hz, rfl⟩ hX
  by_cases h0 : 0 < i
  · have hw : zmU f i ≤ i := zRG_mU hf (by omega)
    ((with_reducible refine i_turn (i_cZ_gt (i_L1 ?_))); (with_reducible refine i_t (by omega) ?_); (with_reducible refine i_Blk (i_Seq (i_Set (i_I (i_Seq (i_Blk (i_Seq (i_Set (i_I ?_))))))))); simp only [w_set0, w_set1, w_setn0, w_setn1]; rw [w_setT]; simp only [w_set0, w_set1, w_setn0, w_setn1]; rw [w_setT])
    refine w_ForN i (fun k ρ M' => (∃ l, ρ = ((p : Nat) : Int) :: ((i : Nat) : Int) :: ((zmU f k - 1 : Nat) : Int) :: ((k : Nat) : Int) :: l) ∧ M' = M1) ⟨⟨_, rfl⟩, rfl⟩ ?_ ?_
    · rintro k ρ M2 X1 hk1 ⟨⟨l2, rfl⟩, rfl⟩ hX1
      have gk := hl k (by omega)
      have hX2 : ∀ (l : zLoc) (c : Int), c = ((zmU f (k + 1) - 1 : Nat) : Int) → X1 (((p : Nat) : Int) :: ((i : Nat) : Int) :: c :: ((k + 1 : Nat) : Int) :: l) M2 := fun l c hc => by subst hc; exact hX1 _ _ ⟨⟨l, rfl⟩, rfl⟩
      rw [zmU_su] at hX2
      ((with_reducible refine i_turn (i_cI_lt (i_L3 (i_L1 ?_)))); (with_reducible refine i_t (by omega) ?_); (with_reducible refine i_Set (i_MM (i_L2 (i_IA (i_FR (i_A0 ?_)))))); (with_reducible refine i_fldR (by assumption) ?_); (with_reducible refine i_L3 ?_); (with_reducible refine i_in (by assumption) (by omega) (by omega) ?_); (with_reducible refine i_up ?_); (rw [gk]); (rw [if_pos (show (3 : Nat) = 3 from rfl)]); simp only [w_set0, w_set1, w_setn0, w_setn1]; (with_reducible refine i_Inc3 ?_); rw [zx_inc (by omega)]; simp only [w_set0, w_set1, w_setn0, w_setn1])
      exact hX2 _ _ (by omega)
    · rintro ρ M2 X1 ⟨⟨l2, rfl⟩, rfl⟩
      have gi := hl i hi
      have hfi := zRG_le hf hi
      have hp' := zmU_pos (f := f) h0
      by_cases w : f i < zmU f i
      · have hq : zgq f n = i := by rw [hz, zgq_su, if_pos ⟨h0, w⟩]
        rw [hq, if_neg (by omega), decide_eq_true (show i ≠ 0 by omega)] at hk
        ((with_reducible refine i_turn (i_cI_lt (i_L3 (i_L1 ?_)))); (with_reducible refine i_f (by omega) ?_); (with_reducible refine i_If (i_cI_le (i_IA (i_FR (i_A0 ?_))))); (with_reducible refine i_fldR (by assumption) ?_); (with_reducible refine i_L1 ?_); (with_reducible refine i_in (by assumption) (by omega) (by omega) ?_); (with_reducible refine i_L2 ?_); (rw [gi]); (with_reducible refine i_t (by omega) ?_); (with_reducible refine i_Seq (i_IO (i_FR (i_A0 ?_)))); (with_reducible refine i_fldR (by assumption) ?_); (with_reducible refine i_L1 ?_); (with_reducible refine i_in (by assumption) (by omega) (by omega) ?_); (with_reducible refine i_I (i_Seq (i_Blk (i_Seq (i_Set (i_Add (i_L1 (i_I ?_)))))))); (rw [gi]); rw [zx_inc (by omega)]; rw [zx_inc (by omega)]; simp only [w_set0, w_set1, w_setn0, w_setn1])
        refine w_ForN (n - (i + 1)) (fun k ρ M' => (∃ l, ρ = ((p : Nat) : Int) :: ((i : Nat) : Int) :: ((zmU f i - 1 : Nat) : Int) :: ((i + 1 + k : Nat) : Int) :: l) ∧ (∀ b j, ¬ b = ((p + 1 : Nat) : Int) → M' b j = M2 b j) ∧ ∀ x : Nat, x < n → M' ((p + 1 : Nat) : Int) ((x : Nat) : Int) = ((if x < i + 1 + k then zgo f i x else f x : Nat) : Int)) ⟨⟨_, rfl⟩, fun b j q => by rw [zg_n _ _ _ (by omega)], fun x hx => ?_⟩ ?_ ?_
        · by_cases e : x = i
          · subst e; rw [zg_s, if_pos (by omega)]; unfold zgo; rw [if_neg (Nat.lt_irrefl _), if_pos rfl]
          · rw [zg_m _ _ _ _ _ (by omega), hl x hx]
            by_cases v : x < i
            · rw [if_pos (by omega)]; unfold zgo; rw [if_pos v]
            · rw [if_neg (by omega)]
        · rintro k ρ M3 X2 hk2 ⟨⟨l3, rfl⟩, hf3, h3⟩ hX3
          have gn3 : M3 ((p : Nat) : Int) ((3 : Nat) : Int) = ((n : Nat) : Int) := (hf3 _ _ (by omega)).trans m1
          ((with_reducible refine i_turn (i_cI_lt (i_L3 (i_F (i_A0 ?_))))); (with_reducible refine i_fld (by assumption) ?_); (rw [gn3]); (with_reducible refine i_t (by omega) ?_); (with_reducible refine i_sIA (i_FR (i_A0 ?_))); (with_reducible refine i_fldR (by assumption) ?_); (with_reducible refine i_L3 (i_I ?_)); (with_reducible refine i_in (by assumption) (by omega) (by omega) ?_); (with_reducible refine i_up (i_Inc3 ?_)); rw [zx_inc (by omega)]; simp only [w_set0, w_set1, w_setn0, w_setn1])
          refine hX3 _ _ ⟨⟨_, rfl⟩, fun b j q => by rw [zg_n _ _ _ (by omega)]; exact hf3 b j q, fun x hx => ?_⟩
          by_cases e : x = i + 1 + k
          · rw [e, zg_s, if_pos (by omega)]; unfold zgo; rw [if_neg (by omega), if_neg (by omega)]; rfl
          · rw [zg_m _ _ _ _ _ (by omega), h3 x hx]
            by_cases v : x < i + 1 + k
            · rw [if_pos v, if_pos (by omega)]
            · rw [if_neg v, if_neg (by omega)]
        · rintro ρ M3 X2 ⟨⟨l3, rfl⟩, hf3, h3⟩
          have gn3 : M3 ((p : Nat) : Int) ((3 : Nat) : Int) = ((n : Nat) : Int) := (hf3 _ _ (by omega)).trans m1
          have hRG := zRG_go hf w
          ((with_reducible refine i_turn (i_cI_lt (i_L3 (i_F (i_A0 ?_))))); (with_reducible refine i_fld (by assumption) ?_); (rw [gn3]); (with_reducible refine i_f (by omega) ?_); (with_reducible refine i_Seq (i_sCall (i_as1 (i_A0 (i_as0 ?_))))); (with_reducible refine i_recv0 (by assumption) ?_))
          refine c_numberA hO hp0 gn3 hn2 (f := zgo f i) (fun q hq => ⟨by rw [h3 q hq, if_pos (by omega)], by have := zRG_le hRG hq; omega⟩) (fun M4 f4 h4 => ⟨rfl, ?_⟩)
          ((with_reducible refine i_RetZ (i_I ?_)); (with_reducible refine i_z (Or.inr rfl) ?_))
          exact hk M4 (fun b j q => by rw [f4 b j (by omega), hf3 b j (by omega)]) h4
      · have hq : zgq f n = zgq f (i - 1 + 1) := by rw [hz, zgq_su, if_neg (fun z => w z.2), show i - 1 + 1 = i by omega]
        ((with_reducible refine i_turn (i_cI_lt (i_L3 (i_L1 ?_)))); (with_reducible refine i_f (by omega) ?_); (with_reducible refine i_If (i_cI_le (i_IA (i_FR (i_A0 ?_))))); (with_reducible refine i_fldR (by assumption) ?_); (with_reducible refine i_L1 ?_); (with_reducible refine i_in (by assumption) (by omega) (by omega) ?_); (with_reducible refine i_L2 ?_); (rw [gi]); (with_reducible refine i_f (by omega) ?_); (with_reducible refine i_up (i_Inc1 ?_)); (rw [show zw32 (((i : Nat) : Int) + -1) = ((i - 1 : Nat) : Int) from zx_n (by omega) (by omega)]); simp only [w_set0, w_set1, w_setn0, w_setn1])
        exact hX _ _ _ (by omega) ⟨i - 1, _, rfl, rfl, by omega, hq, rfl⟩
  · have h00 : i = 0 := by omega
    subst h00
    have hq : zgq f n = 0 := by rw [hz, zgq_su, if_neg (by omega)]; rfl
    rw [hq, if_pos rfl, decide_eq_false (show ¬ (0 : Nat) ≠ 0 by omega)] at hk
    ((with_reducible refine i_turn (i_cZ_gt (i_L1 ?_))); (with_reducible refine i_f (by omega) ?_); (with_reducible refine i_RetZ (i_I ?_)); (with_reducible refine i_z (Or.inl rfl) ?_))
    exact hk M1 (fun _ _ _ => rfl) hM0
theorem c_partLeast {O : zOm} (hO : zWld O) (hS : zS O = zmS zC0) {y o n K0 : Nat} {T : Nat → Nat → Bool} {M : zMem} {K : Option zV → zMem → Prop} (hy : zNet (zS O) y) (hy7 : y + 1 < 108) (ho : zPar (zS O) o) (ho7 : 131 < o) (hN : zNR M y n T) (hT : zReg n T) (hn1 : 0 < n) (hn2 : n ≤ 16) (hE : zgE n K0) (hK0 : K0 < 100000)
    (hk : ∀ M', (∀ b j, ¬ (((108 : Nat) : Int) ≤ b ∧ b ≤ ((131 : Nat) : Int) ∨ ((o : Nat) : Int) ≤ b ∧ b ≤ ((o + 2 : Nat) : Int)) → M' b j = M b j) → zPC M' o n (zLs n T K0).2.2 → K (some (0, (((zLs n T K0).2.1 : Nat) : Int))) M') : zR O F_Search_partLeast [(2, ((108 : Nat) : Int)), (2, ((y : Nat) : Int)), (2, ((o : Nat) : Int))] M K := by
  have t0 := zo_108 hS
  have t1 := zf_108_0 hS
  have t2 := zf_108_1 hS
  have t5 := zf_108_6 hS
  have hR := zRl_109 hS
  have hX := zTeB.to hS zTe_111
  have hR0 := hR
  have hX0 := hX
  have ho0 := ho
  have hy0 := hy
  obtain ⟨y0, y1, y2, y3⟩ := hy
  obtain ⟨r0, r1, r2, r3, r4, r5⟩ := hR
  obtain ⟨⟨x0, x1, x2, x3, x4, x5, x6, x7⟩, ⟨xa, xb⟩, hQ0, -⟩ := hX
  have hQ := hQ0
  obtain ⟨q0, q1, q2, q3, q4, q5, q6, q7, q8⟩ := hQ
  obtain ⟨o0, o1, o2, o3, o4, o5, o6, o7, o8⟩ := ho
  have gy : M ((y : Nat) : Int) ((1 : Nat) : Int) = ((n : Nat) : Int) := hN.1
  apply r_Search_partLeast hO
  unfold B_Search_partLeast
  ((with_reducible refine i_Seq (i_sCall (i_as1 (i_FR (i_FR (i_A0 ?_)))))); (with_reducible refine i_fldR (by assumption) ?_); (with_reducible refine i_fldR (by assumption) ?_); (with_reducible refine i_as1 (i_F (i_A1 ?_))); (with_reducible refine i_fld (by assumption) ?_); (with_reducible refine i_as0 ?_); (with_reducible refine i_recv0 (by assumption) ?_); (rw [gy]))
  refine c_setWhole hO (p := 112) hQ0 hn2 (fun M1 f1 h1 => ⟨rfl, ?_⟩)
  ((with_reducible refine i_Seq (i_sCall (i_as1 (i_A2 (i_as1 (i_FR (i_FR (i_A0 ?_)))))))); (with_reducible refine i_fldR (by assumption) ?_); (with_reducible refine i_fldR (by assumption) ?_); (with_reducible refine i_as0 ?_); (with_reducible refine i_recv0 (by assumption) ?_))
  refine c_pbecome hO (p := o) (q := 112) ho0 hQ0 (by omega) hn2 h1 (fun M2 f2 h2 => ⟨rfl, ?_⟩)
  have h21 : zPC M2 112 n (zgs n 0) := h1.fr (fun b j a1 a2 => f2 b j (by omega))
  change zPC M2 o n (zgs n 0) at h2
  ((with_reducible refine i_Seq (i_sF (i_A0 (i_Call (i_as1 (i_FR (i_A0 ?_))))))); (with_reducible refine i_fldR (by assumption) ?_); (with_reducible refine i_as1 (i_A1 (i_as1 (i_FR (i_A0 ?_))))); (with_reducible refine i_fldR (by assumption) ?_); (with_reducible refine i_as0 ?_); (with_reducible refine i_recv0 (by assumption) ?_))
  refine c_tellA hO (r := 109) (x := 111) hR0 hX0 hy0 (by omega) (by omega) (by omega) (hN.to (fun b j a1 a2 => by rw [f2 b j (by omega), f1 b j (by omega)])) hT h21 hn2 (fun M3 f3 _ => ⟨_, rfl, ?_⟩)
  have fr0 : ∀ b j, ¬ (((108 : Nat) : Int) ≤ b ∧ b ≤ ((131 : Nat) : Int) ∨ ((o : Nat) : Int) ≤ b ∧ b ≤ ((o + 2 : Nat) : Int)) → M3 b j = M b j := fun b j q => by rw [f3 b j (by omega), f2 b j (by omega), f1 b j (by omega)]
  have h31 : zPC M3 112 n (zgs n 0) := h21.fr (fun b j a1 a2 => f3 b j (by omega))
  have h3o : zPC M3 o n (zgs n 0) := h2.fr (fun b j a1 a2 => f3 b j (by omega))
  clear f1 f2 f3 h1 h2 h21
  ((with_reducible refine i_fld (by assumption) ?_); (with_reducible refine i_Seq (i_Set (i_I (i_Seq (i_Set (i_Call (i_as1 (i_FR (i_FR ?_))))))))); simp only [w_set0, w_set1, w_setn0, w_setn1]; (with_reducible refine i_A0 ?_); (with_reducible refine i_fldR (by assumption) ?_); (with_reducible refine i_fldR (by assumption) ?_); (with_reducible refine i_as0 ?_); (with_reducible refine i_recv0 (by assumption) ?_); simp only [w_set0, w_set1, w_setn0, w_setn1])
  refine c_goOn hO (p := 112) hQ0 hn1 hn2 (h31.fr (fun b j a1 a2 => by rw [zg_n _ _ _ (by omega)])) (zgs_RG n 0) (fun M4 f4 h4 => ⟨_, rfl, ?_⟩)
  ((with_reducible refine i_Seq (i_Blk (i_Seq (i_Set (i_I ?_))))); simp only [w_set0, w_set1, w_setn0, w_setn1])
  refine w_ForM (fun μ ρ M' => ∃ k b l, ρ = ((108 : Nat) : Int) :: ((y : Nat) : Int) :: ((o : Nat) : Int) :: (((zLs n T k).2.1 : Nat) : Int) :: zbI b :: ((k : Nat) : Int) :: l ∧ (∀ b j, ¬ (((108 : Nat) : Int) ≤ b ∧ b ≤ ((131 : Nat) : Int) ∨ ((o : Nat) : Int) ≤ b ∧ b ≤ ((o + 2 : Nat) : Int)) → M' b j = M b j) ∧ M' ((108 : Nat) : Int) ((6 : Nat) : Int) = (((zLs n T k).1 : Nat) : Int) ∧ zPC M' o n (zLs n T k).2.2 ∧ k ≤ K0 ∧ (b = true → k < K0 ∧ zPC M' 112 n (zgs n (k + 1))) ∧ (b = false → k = K0) ∧ μ = K0 - k) _ ⟨0, decide (zgq (zgs n 0) n ≠ 0), _, rfl, fun b j q => by rw [f4 b j (by omega), zg_n _ _ _ (by omega)]; exact fr0 b j q, by rw [f4 _ _ (by omega)]; exact zg_s _ _ _ _ _, h3o.fr (fun b j a1 a2 => by rw [f4 b j (by omega), zg_n _ _ _ (by omega)]), Nat.zero_le _, fun z => ?_, fun z => ?_, rfl⟩ ?_
  · have z2 := of_decide_eq_true z
    rw [if_neg z2] at h4
    refine ⟨Nat.pos_of_ne_zero fun w => z2 ?_, by rw [zgs_su z2]; exact h4⟩
    subst w; exact hE.1
  · have z2 := of_decide_eq_false z
    exact Classical.byContradiction fun w => z2 (hE.2 0 (by omega))
  clear fr0 h31 h3o f4 h4
  rintro μ ρ M5 X ⟨k, b, l, rfl, f5, hs5, ho5, hle, hbt, hbf, rfl⟩ hX5
  cases b
  · have e := hbf rfl
    subst e
    ((with_reducible refine i_turn (i_cAnd (i_cZ_ne (i_L4 ?_)))); rw [zbI_f]; (with_reducible refine i_f (by omega) ?_); (with_reducible refine i_RetI (i_L3 ?_)))
    exact hk M5 f5 ho5
  · obtain ⟨hkK, h5⟩ := hbt rfl
    have hRG := zgs_RG n (k + 1)
    have gN5 : zNR M5 y n T := hN.to (fun b j a1 a2 => f5 b j (by omega))
    have hb0 := zLs_b hn2 T k
    have hls := zLs_su n T k
    ((with_reducible refine i_turn (i_cAnd (i_cZ_ne (i_L4 ?_)))); rw [zbI_t]; (with_reducible refine i_t (by omega) ?_); (with_reducible refine i_cI_lt (i_L5 (i_Ldc ?_))); (with_reducible refine i_t (by omega) ?_); (with_reducible refine i_Blk (i_Seq (i_Set (i_Call (i_as1 (i_FR (i_A0 ?_))))))); (with_reducible refine i_fldR (by assumption) ?_); (with_reducible refine i_as1 (i_A1 (i_as1 (i_FR (i_A0 ?_))))); (with_reducible refine i_fldR (by assumption) ?_); (with_reducible refine i_as0 ?_); (with_reducible refine i_recv0 (by assumption) ?_); simp only [w_set0, w_set1, w_setn0, w_setn1])
    refine c_tellA hO (r := 109) (x := 111) hR0 hX0 hy0 (by omega) (by omega) (by omega) gN5 hT h5 hn2 (fun M6 f6 _ => ⟨_, rfl, ?_⟩)
    have h6 : zPC M6 112 n (zgs n (k + 1)) := h5.fr (fun b j a1 a2 => f6 b j (by omega))
    have hs6 : M6 ((108 : Nat) : Int) ((6 : Nat) : Int) = (((zLs n T k).1 : Nat) : Int) := by rw [f6 _ _ (by omega)]; exact hs5
    have ho6 : zPC M6 o n (zLs n T k).2.2 := ho5.fr (fun b j a1 a2 => f6 b j (by omega))
    have f65 : ∀ b j, ¬ (((108 : Nat) : Int) ≤ b ∧ b ≤ ((131 : Nat) : Int) ∨ ((o : Nat) : Int) ≤ b ∧ b ≤ ((o + 2 : Nat) : Int)) → M6 b j = M b j := fun b j q => by rw [f6 b j (by omega), f5 b j q]
    have hln := zLn_le (T := T) (f := zgs n (k + 1)) hn2
    have tail : ∀ (l : zLoc) (M7 M8 : zMem), (∀ b j, ¬ (((108 : Nat) : Int) ≤ b ∧ b ≤ ((131 : Nat) : Int) ∨ ((o : Nat) : Int) ≤ b ∧ b ≤ ((o + 2 : Nat) : Int)) → M7 b j = M b j) → M7 ((108 : Nat) : Int) ((6 : Nat) : Int) = (((zLs n T (k + 1)).1 : Nat) : Int) → zPC M7 o n (zLs n T (k + 1)).2.2 → (∀ b j, ¬ (((112 : Nat) : Int) ≤ b ∧ b ≤ ((112 + 3 : Nat) : Int)) → M8 b j = M7 b j) → zPC M8 112 n (if zgq (zgs n (k + 1)) n = 0 then zgs n (k + 1) else zgo (zgs n (k + 1)) (zgq (zgs n (k + 1)) n)) → X (((108 : Nat) : Int) :: ((y : Nat) : Int) :: ((o : Nat) : Int) :: (((zLs n T (k + 1)).2.1 : Nat) : Int) :: zbI (decide (zgq (zgs n (k + 1)) n ≠ 0)) :: ((k + 1 : Nat) : Int) :: l) M8 := by
      intro l M7 M8 f7 s7 o7 f8 h8
      refine hX5 (K0 - (k + 1)) _ M8 (by omega) ⟨k + 1, _, l, rfl, fun b j q => by rw [f8 b j (by omega), f7 b j q], by rw [f8 _ _ (by omega)]; exact s7, o7.fr (fun b j a1 a2 => f8 b j (by omega)), by omega, fun z => ?_, fun z => ?_, rfl⟩
      · have z2 := of_decide_eq_true z
        rw [if_neg z2] at h8
        refine ⟨Classical.byContradiction fun w => z2 ?_, by rw [zgs_su z2]; exact h8⟩
        have : k + 1 = K0 := by omega
        rw [this]; exact hE.1
      · have z2 := of_decide_eq_false z
        exact Classical.byContradiction fun w => z2 (hE.2 (k + 1) (by omega))
    clear hX5 f6 f5 hs5 ho5 h5
    generalize zLgt n T (zgs n (k + 1)) = v at hln hls ⊢
    by_cases w : v < (zLs n T k).1
    · rw [if_pos w] at hls
      rw [hls] at tail
      dsimp only at tail
      ((with_reducible refine i_Seq (i_Ite (i_cI_lt ?_))); rw [w_setT]; (with_reducible refine i_L6 (i_F (i_A0 ?_))); (with_reducible refine i_fld (by assumption) ?_); (rw [hs6]); (with_reducible refine i_t (by omega) ?_); (with_reducible refine i_Seq (i_sF (i_A0 (i_L6 ?_)))); (with_reducible refine i_fld (by assumption) ?_); (with_reducible refine i_Seq (i_sCall (i_as1 (i_A2 (i_as1 (i_FR (i_FR (i_A0 ?_)))))))); (with_reducible refine i_fldR (by assumption) ?_); (with_reducible refine i_fldR (by assumption) ?_); (with_reducible refine i_as0 ?_); (with_reducible refine i_recv0 (by assumption) ?_))
      refine c_pbecome hO (p := o) (q := 112) ho0 hQ0 (by omega) hn2 (h6.fr (fun b j a1 a2 => by rw [zg_n _ _ _ (by omega)])) (fun M7 f7 h7 => ⟨rfl, ?_⟩)
      ((with_reducible refine i_Set (i_I (i_Set (i_Call (i_as1 (i_FR (i_FR ?_))))))); simp only [w_set0, w_set1, w_setn0, w_setn1]; (with_reducible refine i_A0 ?_); (with_reducible refine i_fldR (by assumption) ?_); (with_reducible refine i_fldR (by assumption) ?_); (with_reducible refine i_as0 ?_); (with_reducible refine i_recv0 (by assumption) ?_); simp only [w_set0, w_set1, w_setn0, w_setn1])
      refine c_goOn hO (p := 112) hQ0 hn1 hn2 (h6.fr (fun b j a1 a2 => by rw [f7 b j (by omega), zg_n _ _ _ (by omega)])) hRG (fun M8 f8 h8 => ⟨_, rfl, ?_⟩)
      ((with_reducible refine i_up (i_Inc5 ?_)); rw [zx_inc (by omega)]; simp only [w_set0, w_set1, w_setn0, w_setn1])
      exact tail _ M7 M8 (fun b j q => by rw [f7 b j (by omega), zg_n _ _ _ (by omega)]; exact f65 b j q) (by rw [f7 _ _ (by omega)]; exact zg_s _ _ _ _ _) h7 f8 h8
    · rw [if_neg w] at hls
      by_cases z : v = (zLs n T k).1
      · rw [if_pos z] at hls
        rw [hls] at tail
        dsimp only at tail
        ((with_reducible refine i_Seq (i_Ite (i_cI_lt ?_))); rw [w_setT]; (with_reducible refine i_L6 (i_F (i_A0 ?_))); (with_reducible refine i_fld (by assumption) ?_); (rw [hs6]); (with_reducible refine i_f (by omega) ?_); (with_reducible refine i_If (i_cI_eq (i_L6 (i_F (i_A0 ?_))))); (with_reducible refine i_fld (by assumption) ?_); (rw [hs6]); ((with_reducible refine i_t (show ((v : Nat) : Int) = (((zLs n T k).1 : Nat) : Int) by omega) ?_)); (with_reducible refine i_Inc3 (i_Set (i_Call (i_as1 (i_FR (i_FR ?_)))))); rw [zx_inc (by omega)]; simp only [w_set0, w_set1, w_setn0, w_setn1]; (with_reducible refine i_A0 ?_); (with_reducible refine i_fldR (by assumption) ?_); (with_reducible refine i_fldR (by assumption) ?_); (with_reducible refine i_as0 ?_); (with_reducible refine i_recv0 (by assumption) ?_); simp only [w_set0, w_set1, w_setn0, w_setn1])
        refine c_goOn hO (p := 112) hQ0 hn1 hn2 h6 hRG (fun M8 f8 h8 => ⟨_, rfl, ?_⟩)
        ((with_reducible refine i_up (i_Inc5 ?_)); rw [zx_inc (by omega)]; simp only [w_set0, w_set1, w_setn0, w_setn1])
        exact tail _ M6 M8 f65 hs6 ho6 f8 h8
      · rw [if_neg z] at hls
        rw [hls] at tail
        ((with_reducible refine i_Seq (i_Ite (i_cI_lt ?_))); rw [w_setT]; (with_reducible refine i_L6 (i_F (i_A0 ?_))); (with_reducible refine i_fld (by assumption) ?_); (rw [hs6]); (with_reducible refine i_f (by omega) ?_); (with_reducible refine i_If (i_cI_eq (i_L6 (i_F (i_A0 ?_))))); (with_reducible refine i_fld (by assumption) ?_); (rw [hs6]); ((with_reducible refine i_f (show ¬ ((v : Nat) : Int) = (((zLs n T k).1 : Nat) : Int) by omega) ?_)); (with_reducible refine i_Set (i_Call (i_as1 (i_FR (i_FR (i_A0 ?_)))))); (with_reducible refine i_fldR (by assumption) ?_); (with_reducible refine i_fldR (by assumption) ?_); (with_reducible refine i_as0 ?_); (with_reducible refine i_recv0 (by assumption) ?_); simp only [w_set0, w_set1, w_setn0, w_setn1])
        refine c_goOn hO (p := 112) hQ0 hn1 hn2 h6 hRG (fun M8 f8 h8 => ⟨_, rfl, ?_⟩)
        ((with_reducible refine i_up (i_Inc5 ?_)); rw [zx_inc (by omega)]; simp only [w_set0, w_set1, w_setn0, w_setn1])
        exact tail _ M6 M8 f65 hs6 ho6 f8 h8
