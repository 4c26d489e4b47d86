/-! ===== partings by the rule: the reference, the whole search ===== -/
theorem zjc_16 {n i j : Nat} {g : Nat → Nat} (hi : i ≤ 16) (h : ∀ q, q < n → g q < 16) : ∀ q : Nat, q < n → zjc g i j q ≤ 16 := fun q hq => by
  have := h q hq
  unfold zjc
  split <;> omega
theorem m_part {O : zOm} (hO : zWld O) (hS : zS O = zmS zC0) {t n : Nat} {T : Nat → Nat → Bool} {M : zMem} {K : Option zV → zMem → Prop} (ht : t < 6) (hn : M 250 ((1 : Nat) : Int) = ((n : Nat) : Int)) (hn1 : 0 < n) (hn2 : n ≤ 16) (hT : rMx M 267 T)
    (hk : ∀ M', (∀ b j, ¬ ((b = 258 ∧ j = ((t : Nat) : Int) ∨ (b = 259 ∨ b = 260 ∨ b = 262 ∨ b = 263) ∧ ((16 * t : Nat) : Int) ≤ j ∧ j < ((16 * t + 16 : Nat) : Int) ∨ (b = 261 ∨ b = 264 ∨ b = 265 ∨ b = 266) ∧ ((256 * t : Nat) : Int) ≤ j ∧ j < ((256 * t + 256 : Nat) : Int)) ∨ (b = 258 ∧ j = ((6 : Nat) : Int) ∨ (b = 259 ∨ b = 260 ∨ b = 262 ∨ b = 263) ∧ ((16 * 6 : Nat) : Int) ≤ j ∧ j < ((16 * 6 + 16 : Nat) : Int) ∨ (b = 261 ∨ b = 264 ∨ b = 265 ∨ b = 266) ∧ ((256 * 6 : Nat) : Int) ≤ j ∧ j < ((256 * 6 + 256 : Nat) : Int)) ∨ b = 268 ∨ b = 269 ∨ b = 270 ∨ b = 271 ∨ b = 272 ∨ b = 283 ∨ b = 284 ∨ b = 285) → M' b j = M b j) → rTe M' t n (zRq n T (zPt n T).1) → K (some (0, (((zPt n T).2 : Nat) : Int))) M') : zR O F_Model_part [(2, 250), (0, ((t : Nat) : Int))] M K := by
  apply r_Model_part hO
  unfold B_Model_part
  have f1 := zMF (k := 1) hS rfl; have f26 := zMF (k := 26) hS rfl; have a272 := zMA (a := 272) (ty := .int) (n := 16) hS rfl; have f12 := zMF (k := 12) hS rfl; have a258 := zMA (a := 258) (ty := .int) (n := 7) hS rfl; have zo := zMO hS
  ((with_reducible refine i_Seq (i_Blk (i_Seq (i_Set (i_I ?_))))); simp only [w_set0, w_set1, w_setn0, w_setn1])
  refine w_ForN n (fun k ρ M' => ρ = [250, ((t : Nat) : Int), ((k : Nat) : Int)] ∧ (∀ b j, ¬ b = 272 → M' b j = M b j) ∧ ∀ x : Nat, x < k → M' ((272 : Nat) : Int) ((x : Nat) : Int) = ((x : Nat) : Int)) ⟨rfl, fun _ _ _ => rfl, fun x h => absurd h (Nat.not_lt_zero _)⟩ ?_ ?_
  · rintro k ρ M1 X hk1 ⟨rfl, hf, h⟩ hX
    have gn : M1 250 ((1 : Nat) : Int) = ((n : Nat) : Int) := (hf _ _ (by omega)).trans hn
    ((with_reducible refine i_turn (i_cI_lt (i_L2 (i_F (i_A0 ?_))))); (with_reducible refine i_fld (by assumption) ?_); (rw [gn]); (with_reducible refine i_t (by omega) ?_); (with_reducible refine i_sIA (i_FR (i_A0 ?_))); (with_reducible refine i_fldR (by assumption) ?_); (with_reducible refine i_L2 (i_L2 ?_)); (with_reducible refine i_in (by assumption) (by omega) (by omega) ?_); (with_reducible refine i_up (i_Inc2 ?_)); rw [zx_inc (by omega)]; simp only [w_set0, w_set1, w_setn0, w_setn1])
    refine hX _ _ ⟨rfl, (by intro b j q; ((rw [zg_n _ _ _ (by omega)])); first | done | rfl | exact hf b j (by omega)), fun x hx => ?_⟩
    by_cases e : x = k
    · subst e; rw [zg_s]
    · rw [zg_m _ _ _ _ _ (by omega)]; exact h x (by omega)
  rintro ρ M1 X ⟨rfl, hf1, h1⟩
  have gn1 : M1 250 ((1 : Nat) : Int) = ((n : Nat) : Int) := (hf1 _ _ (by omega)).trans hn
  ((with_reducible refine i_turn (i_cI_lt (i_L2 (i_F (i_A0 ?_))))); (with_reducible refine i_fld (by assumption) ?_); (rw [gn1]); (with_reducible refine i_f (by omega) ?_); (with_reducible refine i_Seq (i_sCall (i_as1 (i_A0 (i_as1 (i_L1 (i_as0 ?_))))))); (with_reducible refine i_recv0 (by assumption) ?_))
  refine m_settle hO hS (f := fun q => q) (by omega) gn1 hn2 h1 (fun q hq => by show q ≤ 16; omega) (hT.to (fun j => hf1 _ _ (by omega))) (fun M2 hf2 h2 => ⟨rfl, ?_⟩)
  have gn2 : M2 250 ((1 : Nat) : Int) = ((n : Nat) : Int) := (hf2 _ _ (by omega)).trans gn1
  ((with_reducible refine i_Seq (i_Set (i_Call (i_as1 (i_A0 (i_as1 (i_L1 (i_as0 ?_)))))))); (with_reducible refine i_recv0 (by assumption) ?_); simp only [w_set0, w_set1, w_setn0, w_setn1])
  refine m_lengthOf hO hS (by omega) gn2 hn2 h2 (zRq_w hn2) (fun M3 hf3 _ _ => ⟨_, rfl, ?_⟩)
  rw [tLen_rq hn2]
  have h3 : rTe M3 t n (zRq n T (zJs n T 0).1) := by
    show rTe M3 t n (zRq n T (zcg n (fun q => q)))
    rw [zRq_cg hn1]
    exact h2.to hn2 (zRq_w hn2) (fun b j q => hf3 b j (by omega))
  have fr3 : ∀ b j, ¬ ((b = 258 ∧ j = ((t : Nat) : Int) ∨ (b = 259 ∨ b = 260 ∨ b = 262 ∨ b = 263) ∧ ((16 * t : Nat) : Int) ≤ j ∧ j < ((16 * t + 16 : Nat) : Int) ∨ (b = 261 ∨ b = 264 ∨ b = 265 ∨ b = 266) ∧ ((256 * t : Nat) : Int) ≤ j ∧ j < ((256 * t + 256 : Nat) : Int)) ∨ (b = 258 ∧ j = ((6 : Nat) : Int) ∨ (b = 259 ∨ b = 260 ∨ b = 262 ∨ b = 263) ∧ ((16 * 6 : Nat) : Int) ≤ j ∧ j < ((16 * 6 + 16 : Nat) : Int) ∨ (b = 261 ∨ b = 264 ∨ b = 265 ∨ b = 266) ∧ ((256 * 6 : Nat) : Int) ≤ j ∧ j < ((256 * 6 + 256 : Nat) : Int)) ∨ b = 268 ∨ b = 269 ∨ b = 270 ∨ b = 271 ∨ b = 272 ∨ b = 283 ∨ b = 284 ∨ b = 285) → M3 b j = M b j := fun b j q => by rw [hf3 b j (by omega), hf2 b j (by omega), hf1 b j (by omega)]
  clear hf1 hf2 hf3 h1 h2 gn1 gn2
  ((with_reducible refine i_Seq (i_Set (i_I (i_Seq ?_)))); simp only [w_set0, w_set1, w_setn0, w_setn1])
  refine w_WhileM (fun μ ρ M' => ∃ k b l, ρ = 250 :: ((t : Nat) : Int) :: (((zJs n T k).2 : Nat) : Int) :: zbI b :: l ∧ (∀ b j, ¬ ((b = 258 ∧ j = ((t : Nat) : Int) ∨ (b = 259 ∨ b = 260 ∨ b = 262 ∨ b = 263) ∧ ((16 * t : Nat) : Int) ≤ j ∧ j < ((16 * t + 16 : Nat) : Int) ∨ (b = 261 ∨ b = 264 ∨ b = 265 ∨ b = 266) ∧ ((256 * t : Nat) : Int) ≤ j ∧ j < ((256 * t + 256 : Nat) : Int)) ∨ (b = 258 ∧ j = ((6 : Nat) : Int) ∨ (b = 259 ∨ b = 260 ∨ b = 262 ∨ b = 263) ∧ ((16 * 6 : Nat) : Int) ≤ j ∧ j < ((16 * 6 + 16 : Nat) : Int) ∨ (b = 261 ∨ b = 264 ∨ b = 265 ∨ b = 266) ∧ ((256 * 6 : Nat) : Int) ≤ j ∧ j < ((256 * 6 + 256 : Nat) : Int)) ∨ b = 268 ∨ b = 269 ∨ b = 270 ∨ b = 271 ∨ b = 272 ∨ b = 283 ∨ b = 284 ∨ b = 285) → M' b j = M b j) ∧ rTe M' t n (zRq n T (zJs n T k).1) ∧ (b = false → ¬ (zJb n T (zJs n T k).1 (zJs n T k).2).1 < (zJs n T k).2) ∧ μ = (zJs n T k).2 + (if b = true then 1 else 0)) _ ⟨0, true, _, rfl, fr3, h3, (fun z => by cases z), rfl⟩ ?_
  clear fr3 h3
  rintro μ ρ M4 X ⟨k, b, l, rfl, hf4, h4, hfx, rfl⟩ hX
  obtain ⟨f0, ef, el⟩ := zJs_g hn1 T k
  have hg : zcg n (zJs n T k).1 = (zJs n T k).1 := by rw [ef]; exact (zcg_id hn1 f0).1
  have gn4 : M4 250 ((1 : Nat) : Int) = ((n : Nat) : Int) := (hf4 _ _ (by omega)).trans hn
  have gT4 : rMx M4 267 T := hT.to (fun j => hf4 _ _ (by omega))
  cases b
  · clear hX
    have hend := zJs_end hn1 hn2 (hfx rfl)
    rw [hend] at h4 hg ⊢
    clear hfx ef el hend
    have hx20 : (zJs n T 16).2 ≤ 20000 := by
      obtain ⟨f, -, e⟩ := zJs_g hn1 T 16
      rw [e]; exact zLn_le hn2
    have hMs : ∀ k, ∃ f, (zMs n T (zJs n T 16) k).1 = zcg n f := by
      have hMr : ∀ x : (Nat → Nat) × Nat, (∃ f, x.1 = zcg n f) → ∀ p, ∃ f, (zMr n T x p).1 = zcg n f := fun x hx p => by
        induction p with
        | zero => exact hx
        | succ p ih =>
          rw [zMr_su]
          unfold zM1
          split
          · exact ih
          · exact ⟨_, rfl⟩
      intro k
      induction k with
      | zero =>
        obtain ⟨f, e, -⟩ := zJs_g hn1 T 16
        exact ⟨f, e⟩
      | succ k ih => rw [zMs_su]; exact hMr _ ih n
    ((with_reducible refine i_turn (i_cZ_ne (i_L3 ?_))); rw [zbI_f]; (with_reducible refine i_f (by omega) ?_); (with_reducible refine i_Seq (i_Set (i_I (i_Seq ?_)))); simp only [w_set0, w_set1, w_setn0, w_setn1])
    unfold zPt at hk
    generalize zJs n T 16 = x0 at h4 hg hx20 hMs hk ⊢
    refine w_WhileM (fun μ ρ M' => ∃ k b l, ρ = 250 :: ((t : Nat) : Int) :: (((zMs n T x0 k).2 : Nat) : Int) :: zbI b :: l ∧ (∀ b j, ¬ ((b = 258 ∧ j = ((t : Nat) : Int) ∨ (b = 259 ∨ b = 260 ∨ b = 262 ∨ b = 263) ∧ ((16 * t : Nat) : Int) ≤ j ∧ j < ((16 * t + 16 : Nat) : Int) ∨ (b = 261 ∨ b = 264 ∨ b = 265 ∨ b = 266) ∧ ((256 * t : Nat) : Int) ≤ j ∧ j < ((256 * t + 256 : Nat) : Int)) ∨ (b = 258 ∧ j = ((6 : Nat) : Int) ∨ (b = 259 ∨ b = 260 ∨ b = 262 ∨ b = 263) ∧ ((16 * 6 : Nat) : Int) ≤ j ∧ j < ((16 * 6 + 16 : Nat) : Int) ∨ (b = 261 ∨ b = 264 ∨ b = 265 ∨ b = 266) ∧ ((256 * 6 : Nat) : Int) ≤ j ∧ j < ((256 * 6 + 256 : Nat) : Int)) ∨ b = 268 ∨ b = 269 ∨ b = 270 ∨ b = 271 ∨ b = 272 ∨ b = 283 ∨ b = 284 ∨ b = 285) → M' b j = M b j) ∧ rTe M' t n (zRq n T (zMs n T x0 k).1) ∧ (b = false → zMs n T x0 20001 = zMs n T x0 k) ∧ k + (zMs n T x0 k).2 ≤ 20000 + (if b = true then 0 else 1) ∧ μ = (zMs n T x0 k).2 + (if b = true then 1 else 0)) _ ⟨0, true, _, rfl, hf4, h4, (fun z => by cases z), by show 0 + x0.2 ≤ 20000; omega, rfl⟩ ?_
    clear h4 hf4 gn4 gT4
    rintro μ ρ M5 X5 ⟨k5, b5, l5, rfl, hf5, h5, hfx5, hle5, rfl⟩ hX5
    cases b5
    · clear hX5
      rw [← hfx5 rfl] at h5 ⊢
      ((with_reducible refine i_turn (i_cZ_ne (i_L3 ?_))); rw [zbI_f]; (with_reducible refine i_f (by omega) ?_); (with_reducible refine i_RetI (i_L2 ?_)))
      exact hk M5 hf5 h5
    · have gn5 : M5 250 ((1 : Nat) : Int) = ((n : Nat) : Int) := (hf5 _ _ (by omega)).trans hn
      have hle6 : k5 + (zMs n T x0 k5).2 ≤ 20000 := by simpa using hle5
      have hmrok := fun p => zMr_ok (n := n) (T := T) (x := zMs n T x0 k5) p
      ((with_reducible refine i_turn (i_cZ_ne (i_L3 ?_))); rw [zbI_t]; (with_reducible refine i_t (by omega) ?_); (with_reducible refine i_Seq (i_Set (i_I (i_Blk (i_Seq (i_Set (i_I ?_))))))); simp only [w_set0, w_set1, w_setn0, w_setn1]; rw [w_setT])
      refine w_ForN n (fun p ρ M' => (∃ l, ρ = 250 :: ((t : Nat) : Int) :: (((zMr n T (zMs n T x0 k5) p).2 : Nat) : Int) :: zbI (decide ((zMr n T (zMs n T x0 k5) p).2 < (zMs n T x0 k5).2)) :: ((p : Nat) : Int) :: l) ∧ (∀ b j, ¬ ((b = 258 ∧ j = ((t : Nat) : Int) ∨ (b = 259 ∨ b = 260 ∨ b = 262 ∨ b = 263) ∧ ((16 * t : Nat) : Int) ≤ j ∧ j < ((16 * t + 16 : Nat) : Int) ∨ (b = 261 ∨ b = 264 ∨ b = 265 ∨ b = 266) ∧ ((256 * t : Nat) : Int) ≤ j ∧ j < ((256 * t + 256 : Nat) : Int)) ∨ (b = 258 ∧ j = ((6 : Nat) : Int) ∨ (b = 259 ∨ b = 260 ∨ b = 262 ∨ b = 263) ∧ ((16 * 6 : Nat) : Int) ≤ j ∧ j < ((16 * 6 + 16 : Nat) : Int) ∨ (b = 261 ∨ b = 264 ∨ b = 265 ∨ b = 266) ∧ ((256 * 6 : Nat) : Int) ≤ j ∧ j < ((256 * 6 + 256 : Nat) : Int)) ∨ b = 268 ∨ b = 269 ∨ b = 270 ∨ b = 271 ∨ b = 272 ∨ b = 283 ∨ b = 284 ∨ b = 285) → M' b j = M b j) ∧ rTe M' t n (zRq n T (zMr n T (zMs n T x0 k5) p).1)) ⟨⟨_, by rw [show (decide ((zMr n T (zMs n T x0 k5) 0).2 < (zMs n T x0 k5).2)) = false from decide_eq_false (Nat.lt_irrefl _)]; rfl⟩, hf5, h5⟩ ?_ ?_
      · rintro p ρ M6 X6 hp ⟨⟨l6, rfl⟩, hf6, h6⟩ hX6
        have gn6 : M6 250 ((1 : Nat) : Int) = ((n : Nat) : Int) := (hf6 _ _ (by omega)).trans hn
        have gT6 : rMx M6 267 T := hT.to (fun j => hf6 _ _ (by omega))
        have hgr : zcg n (zMr n T (zMs n T x0 k5) p).1 = (zMr n T (zMs n T x0 k5) p).1 := by
          have : ∀ p, ∃ f, (zMr n T (zMs n T x0 k5) p).1 = zcg n f := fun p => by
            induction p with
            | zero => exact hMs k5
            | succ p ih =>
              rw [zMr_su]
              unfold zM1
              split
              · exact ih
              · exact ⟨_, rfl⟩
          obtain ⟨f, e⟩ := this p
          rw [e]; exact (zcg_id hn1 f).1
        have hr1 := (hmrok p).1
        have hr2 := (zM1_ok (n := n) (T := T) (p := p) (x := zMr n T (zMs n T x0 k5) p)).1
        ((with_reducible refine i_turn (i_cI_lt (i_L4 (i_F (i_A0 ?_))))); (with_reducible refine i_fld (by assumption) ?_); (rw [gn6]); (with_reducible refine i_t (by omega) ?_); (with_reducible refine i_Blk (i_Seq (i_Set (i_Call (i_as1 (i_A0 (i_as1 (i_L1 (i_as1 (i_L4 (i_as1 (i_L2 (i_as0 ?_))))))))))))); (with_reducible refine i_recv0 (by assumption) ?_); simp only [w_set0, w_set1, w_setn0, w_setn1])
        refine m_moved hO hS ht gn6 hn1 hn2 hp (by omega) hgr h6 gT6 (fun M7 hf7 h7 => ⟨_, rfl, ?_⟩)
        have hf76 : ∀ b j, ¬ ((b = 258 ∧ j = ((t : Nat) : Int) ∨ (b = 259 ∨ b = 260 ∨ b = 262 ∨ b = 263) ∧ ((16 * t : Nat) : Int) ≤ j ∧ j < ((16 * t + 16 : Nat) : Int) ∨ (b = 261 ∨ b = 264 ∨ b = 265 ∨ b = 266) ∧ ((256 * t : Nat) : Int) ≤ j ∧ j < ((256 * t + 256 : Nat) : Int)) ∨ (b = 258 ∧ j = ((6 : Nat) : Int) ∨ (b = 259 ∨ b = 260 ∨ b = 262 ∨ b = 263) ∧ ((16 * 6 : Nat) : Int) ≤ j ∧ j < ((16 * 6 + 16 : Nat) : Int) ∨ (b = 261 ∨ b = 264 ∨ b = 265 ∨ b = 266) ∧ ((256 * 6 : Nat) : Int) ≤ j ∧ j < ((256 * 6 + 256 : Nat) : Int)) ∨ b = 268 ∨ b = 269 ∨ b = 270 ∨ b = 271 ∨ b = 272 ∨ b = 283 ∨ b = 284 ∨ b = 285) → M7 b j = M b j := fun b j q => by rw [hf7 b j q, hf6 b j q]
        have hX7 : ∀ (l : zLoc) (b : Bool), b = decide ((zM1 n T p (zMr n T (zMs n T x0 k5) p)).2 < (zMs n T x0 k5).2) → X6 (250 :: ((t : Nat) : Int) :: (((zM1 n T p (zMr n T (zMs n T x0 k5) p)).2 : Nat) : Int) :: zbI b :: ((p + 1 : Nat) : Int) :: l) M7 := fun l b hb => by
          subst hb
          exact hX6 _ _ ⟨⟨l, rfl⟩, hf76, h7⟩
        change (∀ b j, _ → M7 b j = M6 b j) at hf7
        rw [show ((zMr n T (zMs n T x0 k5) p).1, (zMr n T (zMs n T x0 k5) p).2) = zMr n T (zMs n T x0 k5) p from rfl] at *
        generalize (zM1 n T p (zMr n T (zMs n T x0 k5) p)).2 = v at hr2 hX7 ⊢
        generalize (zMr n T (zMs n T x0 k5) p).2 = cu at hr1 hr2 hX7 ⊢
        by_cases w : v < cu
        · ((with_reducible refine i_Seq (i_If (i_cI_lt ?_))); rw [w_setT]; (with_reducible refine i_L5 (i_L2 ?_)); (with_reducible refine i_t (by omega) ?_); (with_reducible refine i_Set (i_I (i_Set ?_))); simp only [w_set0, w_set1, w_setn0, w_setn1]; (with_reducible refine i_L5 (i_up ?_)); simp only [w_set0, w_set1, w_setn0, w_setn1]; (with_reducible refine i_Inc4 ?_); rw [zx_inc (by omega)]; simp only [w_set0, w_set1, w_setn0, w_setn1])
          exact hX7 _ true (decide_eq_true (by omega)).symm
        · have : v = cu := by omega
          subst this
          ((with_reducible refine i_Seq (i_If (i_cI_lt ?_))); rw [w_setT]; (with_reducible refine i_L5 (i_L2 ?_)); (with_reducible refine i_f (by omega) ?_); (with_reducible refine i_Set (i_L5 (i_up ?_))); simp only [w_set0, w_set1, w_setn0, w_setn1]; (with_reducible refine i_Inc4 ?_); rw [zx_inc (by omega)]; simp only [w_set0, w_set1, w_setn0, w_setn1])
          exact hX7 _ _ rfl
      · rintro ρ M6 X6 ⟨⟨l6, rfl⟩, hf6, h6⟩
        have gn6 : M6 250 ((1 : Nat) : Int) = ((n : Nat) : Int) := (hf6 _ _ (by omega)).trans hn
        ((with_reducible refine i_turn (i_cI_lt (i_L4 (i_F (i_A0 ?_))))); (with_reducible refine i_fld (by assumption) ?_); (rw [gn6]); (with_reducible refine i_f (by omega) ?_))
        have hsu := zMs_su n T x0 k5
        rw [← hsu] at h6 ⊢
        have hr1 := (hmrok n).1
        rw [← hsu] at hr1
        by_cases w : (zMs n T x0 (k5 + 1)).2 < (zMs n T x0 k5).2
        · rw [decide_eq_true w]
          refine hX5 _ _ _ ?_ ⟨k5 + 1, true, _, rfl, hf6, h6, (fun z => by cases z), by simp only [if_true]; omega, rfl⟩
          simp only [if_true]; omega
        · rw [decide_eq_false w]
          have e := zMs_fx w 1
          refine hX5 _ _ _ ?_ ⟨k5 + 1, false, _, rfl, hf6, h6, fun _ => by rw [zMs_end w (by omega), e], by simp only [Bool.false_eq_true, if_false]; omega, rfl⟩
          simp only [if_true, Bool.false_eq_true, if_false]; omega
  · clear hfx
    have hbox := h4.box hg
    have hg16 : ∀ q, q < n → (zJs n T k).1 q < 16 := fun q hq => by
      have h1 := zcg_lt (f := (zJs n T k).1) hq
      have h2 := zcm_le n (zJs n T k).1
      rw [hg] at h1; omega
    have hm16 := zcm_le n (zJs n T k).1
    have hcur : (zJs n T k).2 ≤ 20000 := by rw [el]; exact zLn_le hn2
    have hJ1 : zJs n T (k + 1) = zJ1 n T (zJs n T k) := zJs_su n T k
    have hJok := zJb_ok n T (zJs n T k).1 (zJs n T k).2
    have hfin : ∀ l M', (∀ b j, ¬ ((b = 258 ∧ j = ((t : Nat) : Int) ∨ (b = 259 ∨ b = 260 ∨ b = 262 ∨ b = 263) ∧ ((16 * t : Nat) : Int) ≤ j ∧ j < ((16 * t + 16 : Nat) : Int) ∨ (b = 261 ∨ b = 264 ∨ b = 265 ∨ b = 266) ∧ ((256 * t : Nat) : Int) ≤ j ∧ j < ((256 * t + 256 : Nat) : Int)) ∨ (b = 258 ∧ j = ((6 : Nat) : Int) ∨ (b = 259 ∨ b = 260 ∨ b = 262 ∨ b = 263) ∧ ((16 * 6 : Nat) : Int) ≤ j ∧ j < ((16 * 6 + 16 : Nat) : Int) ∨ (b = 261 ∨ b = 264 ∨ b = 265 ∨ b = 266) ∧ ((256 * 6 : Nat) : Int) ≤ j ∧ j < ((256 * 6 + 256 : Nat) : Int)) ∨ b = 268 ∨ b = 269 ∨ b = 270 ∨ b = 271 ∨ b = 272 ∨ b = 283 ∨ b = 284 ∨ b = 285) → M' b j = M b j) → (zJb n T (zJs n T k).1 (zJs n T k).2).1 < (zJs n T k).2 → rTe M' t n (zRq n T (zjc (zJs n T k).1 (zJb n T (zJs n T k).1 (zJs n T k).2).2.1 (zJb n T (zJs n T k).1 (zJs n T k).2).2.2)) → X (250 :: ((t : Nat) : Int) :: (((zJb n T (zJs n T k).1 (zJs n T k).2).1 : Nat) : Int) :: 1 :: l) M' := fun l M' h1 h2 h3 => by
      unfold zJ1 at hJ1
      rw [if_pos h2] at hJ1
      refine hX _ _ M' ?_ ⟨k + 1, true, l, by rw [hJ1]; rfl, h1, ?_, (fun z => by cases z), rfl⟩
      · rw [hJ1]; simp only [if_true]; omega
      · rw [hJ1]
        show rTe M' t n (zRq n T (zcg n _))
        rw [zRq_cg hn1]; exact h3
    have hfin2 : ∀ l M', (∀ b j, ¬ ((b = 258 ∧ j = ((t : Nat) : Int) ∨ (b = 259 ∨ b = 260 ∨ b = 262 ∨ b = 263) ∧ ((16 * t : Nat) : Int) ≤ j ∧ j < ((16 * t + 16 : Nat) : Int) ∨ (b = 261 ∨ b = 264 ∨ b = 265 ∨ b = 266) ∧ ((256 * t : Nat) : Int) ≤ j ∧ j < ((256 * t + 256 : Nat) : Int)) ∨ (b = 258 ∧ j = ((6 : Nat) : Int) ∨ (b = 259 ∨ b = 260 ∨ b = 262 ∨ b = 263) ∧ ((16 * 6 : Nat) : Int) ≤ j ∧ j < ((16 * 6 + 16 : Nat) : Int) ∨ (b = 261 ∨ b = 264 ∨ b = 265 ∨ b = 266) ∧ ((256 * 6 : Nat) : Int) ≤ j ∧ j < ((256 * 6 + 256 : Nat) : Int)) ∨ b = 268 ∨ b = 269 ∨ b = 270 ∨ b = 271 ∨ b = 272 ∨ b = 283 ∨ b = 284 ∨ b = 285) → M' b j = M b j) → ¬ (zJb n T (zJs n T k).1 (zJs n T k).2).1 < (zJs n T k).2 → rTe M' t n (zRq n T (zJs n T k).1) → X (250 :: ((t : Nat) : Int) :: (((zJs n T k).2 : Nat) : Int) :: 0 :: l) M' := fun l M' h1 h2 h3 => hX _ _ M' (by simp only [if_true, Bool.false_eq_true, if_false]; omega) ⟨k, false, l, rfl, h1, h3, fun _ => h2, rfl⟩
    clear hX hJ1 ef el
    unfold zJb at hfin hfin2 hJok
    generalize (zJs n T k).1 = g at h4 hg hbox hg16 hm16 hfin hfin2 hJok ⊢
    generalize (zJs n T k).2 = cur at hcur hfin hfin2 hJok ⊢
    obtain ⟨hb1, hb2⟩ := hbox
    generalize hme : zcmx n g = m at hb1 hm16 hfin hfin2 hJok
    have hJo := fun i hi => zJout_ok (n := n) (T := T) (g := g) (m := m) (cur := cur) (s := (cur, 0, 0)) ⟨Nat.le_refl _, fun h => absurd h (Nat.lt_irrefl _)⟩ i hi
    ((with_reducible refine i_turn (i_cZ_ne (i_L3 ?_))); rw [zbI_t]; (with_reducible refine i_t (by omega) ?_); (with_reducible refine i_Blk (i_Seq (i_Set (i_L2 (i_Seq (i_Set (i_I (i_Seq (i_Set (i_I (i_Seq (i_Blk (i_Seq (i_Set (i_I ?_))))))))))))))); simp only [w_set0, w_set1, w_setn0, w_setn1]; rw [w_setT]; simp only [w_set0, w_set1, w_setn0, w_setn1]; rw [w_setT]; simp only [w_set0, w_set1, w_setn0, w_setn1]; rw [w_setT]; simp only [w_set0, w_set1, w_setn0, w_setn1]; rw [w_setT])
    refine w_ForN m (fun i ρ M' => (∃ l, ρ = 250 :: ((t : Nat) : Int) :: ((cur : Nat) : Int) :: 1 :: (((zJout n T g m (cur, 0, 0) i).1 : Nat) : Int) :: (((zJout n T g m (cur, 0, 0) i).2.1 : Nat) : Int) :: (((zJout n T g m (cur, 0, 0) i).2.2 : Nat) : Int) :: ((i : Nat) : Int) :: l) ∧ (∀ b j, ¬ ((b = 258 ∧ j = ((6 : Nat) : Int) ∨ (b = 259 ∨ b = 260 ∨ b = 262 ∨ b = 263) ∧ ((16 * 6 : Nat) : Int) ≤ j ∧ j < ((16 * 6 + 16 : Nat) : Int) ∨ (b = 261 ∨ b = 264 ∨ b = 265 ∨ b = 266) ∧ ((256 * 6 : Nat) : Int) ≤ j ∧ j < ((256 * 6 + 256 : Nat) : Int)) ∨ b = 268 ∨ b = 269 ∨ b = 270 ∨ b = 271 ∨ b = 272 ∨ b = 283 ∨ b = 284) → M' b j = M4 b j)) ⟨⟨_, rfl⟩, fun _ _ _ => rfl⟩ ?_ ?_
    · rintro i ρ M5 X5 hi ⟨⟨l5, rfl⟩, hf5⟩ hX5
      have gm5 : M5 ((258 : Nat) : Int) ((t : Nat) : Int) = ((m : Nat) : Int) := (hf5 _ _ (by omega)).trans hb1
      have hoi := hJo i (by omega)
      rw [zJout_su] at hX5
      generalize zJout n T g m (cur, 0, 0) i = s0 at hoi hX5 ⊢
      ((with_reducible refine i_turn (i_cI_lt (i_L7 (i_IA (i_FR (i_A0 ?_)))))); (with_reducible refine i_fldR (by assumption) ?_); (with_reducible refine i_L1 ?_); (with_reducible refine i_in (by assumption) (by omega) (by omega) ?_); (rw [gm5]); (with_reducible refine i_t (by omega) ?_); (with_reducible refine i_Blk (i_Seq (i_Set (i_Add (i_L7 (i_I ?_)))))); rw [zx_inc (by omega)]; simp only [w_set0, w_set1, w_setn0, w_setn1]; rw [w_setT])
      refine w_ForN (m - (i + 1)) (fun j ρ M' => (∃ l, ρ = 250 :: ((t : Nat) : Int) :: ((cur : Nat) : Int) :: 1 :: (((zJin n T g i s0 j).1 : Nat) : Int) :: (((zJin n T g i s0 j).2.1 : Nat) : Int) :: (((zJin n T g i s0 j).2.2 : Nat) : Int) :: ((i : Nat) : Int) :: ((i + 1 + j : Nat) : Int) :: l) ∧ (∀ b j, ¬ ((b = 258 ∧ j = ((6 : Nat) : Int) ∨ (b = 259 ∨ b = 260 ∨ b = 262 ∨ b = 263) ∧ ((16 * 6 : Nat) : Int) ≤ j ∧ j < ((16 * 6 + 16 : Nat) : Int) ∨ (b = 261 ∨ b = 264 ∨ b = 265 ∨ b = 266) ∧ ((256 * 6 : Nat) : Int) ≤ j ∧ j < ((256 * 6 + 256 : Nat) : Int)) ∨ b = 268 ∨ b = 269 ∨ b = 270 ∨ b = 271 ∨ b = 272 ∨ b = 283 ∨ b = 284) → M' b j = M4 b j)) ⟨⟨_, rfl⟩, hf5⟩ ?_ ?_
      · rintro j0 ρ M6 X6 hj ⟨⟨l6, rfl⟩, hf6⟩ hX6
        have gm6 : M6 ((258 : Nat) : Int) ((t : Nat) : Int) = ((m : Nat) : Int) := (hf6 _ _ (by omega)).trans hb1
        have gn6 : M6 250 ((1 : Nat) : Int) = ((n : Nat) : Int) := (hf6 _ _ (by omega)).trans gn4
        have gb6 : rBox M6 t n g := fun q hq => by rw [hf6 _ _ (by omega)]; exact hb2 q hq
        have hoj := zJin_ok (n := n) (T := T) (g := g) (i := i) hoi j0 (by omega)
        rw [zJin_su, show i + 1 + (j0 + 1) = i + 1 + j0 + 1 by omega] at hX6
        have hjm : i + 1 + j0 < m := by omega
        generalize zJin n T g i s0 j0 = s at hoj hX6 ⊢
        generalize i + 1 + j0 = j at hX6 hjm ⊢
        ((with_reducible refine i_turn (i_cI_lt (i_L8 (i_IA (i_FR (i_A0 ?_)))))); (with_reducible refine i_fldR (by assumption) ?_); (with_reducible refine i_L1 ?_); (with_reducible refine i_in (by assumption) (by omega) (by omega) ?_); (rw [gm6]); (with_reducible refine i_t (by omega) ?_); (with_reducible refine i_Blk (i_Seq (i_sCall (i_as1 (i_A0 (i_as1 (i_L1 (i_as0 ?_)))))))); (with_reducible refine i_recv0 (by assumption) ?_))
        refine m_labelsOf hO hS (by omega) gn6 hn2 gb6 (fun M7 hf7 h7 => ⟨rfl, ?_⟩)
        ((with_reducible refine i_Seq (i_Blk (i_Seq (i_Set (i_I ?_))))); simp only [w_set0, w_set1, w_setn0, w_setn1]; rw [w_setT])
        refine w_ForN n (fun r ρ M' => (∃ l, ρ = 250 :: ((t : Nat) : Int) :: ((cur : Nat) : Int) :: 1 :: ((s.1 : Nat) : Int) :: ((s.2.1 : Nat) : Int) :: ((s.2.2 : Nat) : Int) :: ((i : Nat) : Int) :: ((j : Nat) : Int) :: ((r : Nat) : Int) :: l) ∧ (∀ b j, ¬ b = 272 → M' b j = M6 b j) ∧ ∀ x : Nat, x < n → M' ((272 : Nat) : Int) ((x : Nat) : Int) = ((if x < r then zjc g i j x else g x : Nat) : Int)) ⟨⟨_, rfl⟩, hf7, fun x hx => by rw [if_neg (Nat.not_lt_zero _)]; exact h7 x hx⟩ ?_ ?_
        · rintro r ρ M8 X8 hr ⟨⟨l8, rfl⟩, hf8, h8⟩ hX8
          have gn8 : M8 250 ((1 : Nat) : Int) = ((n : Nat) : Int) := (hf8 _ _ (by omega)).trans gn6
          have gr := h8 r hr
          rw [if_neg (Nat.lt_irrefl _)] at gr
          have hgr := hg16 r hr
          by_cases e : g r = j
          · ((with_reducible refine i_turn (i_cI_lt (i_L9 (i_F (i_A0 ?_))))); (with_reducible refine i_fld (by assumption) ?_); (rw [gn8]); (with_reducible refine i_t (by omega) ?_); (with_reducible refine i_If (i_cI_eq (i_IA (i_FR (i_A0 ?_))))); (with_reducible refine i_fldR (by assumption) ?_); (with_reducible refine i_L9 ?_); (with_reducible refine i_in (by assumption) (by omega) (by omega) ?_); (with_reducible refine i_L8 ?_); (rw [gr]); (with_reducible refine i_t (by omega) ?_); (with_reducible refine i_sIA (i_FR (i_A0 ?_))); (with_reducible refine i_fldR (by assumption) ?_); (with_reducible refine i_L9 (i_L7 ?_)); (with_reducible refine i_in (by assumption) (by omega) (by omega) ?_); (with_reducible refine i_up (i_Inc9 ?_)); rw [zx_inc (by omega)]; simp only [w_set0, w_set1, w_setn0, w_setn1])
            refine hX8 _ _ ⟨⟨_, rfl⟩, fun b j q => by rw [zg_n _ _ _ (by omega)]; exact hf8 b j q, fun x hx => ?_⟩
            by_cases w : x = r
            · subst w; rw [zg_s, if_pos (by omega)]; unfold zjc; rw [if_pos e]
            · rw [zg_m _ _ _ _ _ (by omega), h8 x hx]
              by_cases w2 : x < r
              · rw [if_pos w2, if_pos (by omega)]
              · rw [if_neg w2, if_neg (by omega)]
          · ((with_reducible refine i_turn (i_cI_lt (i_L9 (i_F (i_A0 ?_))))); (with_reducible refine i_fld (by assumption) ?_); (rw [gn8]); (with_reducible refine i_t (by omega) ?_); (with_reducible refine i_If (i_cI_eq (i_IA (i_FR (i_A0 ?_))))); (with_reducible refine i_fldR (by assumption) ?_); (with_reducible refine i_L9 ?_); (with_reducible refine i_in (by assumption) (by omega) (by omega) ?_); (with_reducible refine i_L8 ?_); (rw [gr]); (with_reducible refine i_f (by omega) ?_); (with_reducible refine i_up (i_Inc9 ?_)); rw [zx_inc (by omega)]; simp only [w_set0, w_set1, w_setn0, w_setn1])
            refine hX8 _ _ ⟨⟨_, rfl⟩, hf8, fun x hx => ?_⟩
            rw [h8 x hx]
            by_cases w : x = r
            · subst w; rw [if_neg (Nat.lt_irrefl _), if_pos (by omega)]; unfold zjc; rw [if_neg e]
            · by_cases w2 : x < r
              · rw [if_pos w2, if_pos (by omega)]
              · rw [if_neg w2, if_neg (by omega)]
        · rintro ρ M8 X8 ⟨⟨l8, rfl⟩, hf8, h8⟩
          have gn8 : M8 250 ((1 : Nat) : Int) = ((n : Nat) : Int) := (hf8 _ _ (by omega)).trans gn6
          ((with_reducible refine i_turn (i_cI_lt (i_L9 (i_F (i_A0 ?_))))); (with_reducible refine i_fld (by assumption) ?_); (rw [gn8]); (with_reducible refine i_f (by omega) ?_); (with_reducible refine i_Seq (i_Set (i_Call (i_as1 (i_A0 (i_as0 ?_)))))); (with_reducible refine i_recv0 (by assumption) ?_); simp only [w_set0, w_set1, w_setn0, w_setn1])
          refine m_lengthBy hO hS gn8 hn2 (f := zjc g i j) (fun x hx => by rw [h8 x hx, if_pos hx]) (zjc_16 (by omega) hg16) (gT4.to (fun j => by rw [hf8 _ _ (by omega), hf6 _ _ (by omega)])) (fun M9 hf9 => ⟨_, rfl, ?_⟩)
          have hf93 : ∀ b j, ¬ ((b = 258 ∧ j = ((6 : Nat) : Int) ∨ (b = 259 ∨ b = 260 ∨ b = 262 ∨ b = 263) ∧ ((16 * 6 : Nat) : Int) ≤ j ∧ j < ((16 * 6 + 16 : Nat) : Int) ∨ (b = 261 ∨ b = 264 ∨ b = 265 ∨ b = 266) ∧ ((256 * 6 : Nat) : Int) ≤ j ∧ j < ((256 * 6 + 256 : Nat) : Int)) ∨ b = 268 ∨ b = 269 ∨ b = 270 ∨ b = 271 ∨ b = 272 ∨ b = 283 ∨ b = 284) → M9 b j = M4 b j := fun b j q => by rw [hf9 b j (by omega), hf8 b j (by omega), hf6 b j q]
          have hln := zLn_le (T := T) (f := zjc g i j) hn2
          have hX9 : ∀ (l : zLoc) (a b c : Nat), (a, b, c) = zJst n T g i j s → X6 (250 :: ((t : Nat) : Int) :: ((cur : Nat) : Int) :: 1 :: ((a : Nat) : Int) :: ((b : Nat) : Int) :: ((c : Nat) : Int) :: ((i : Nat) : Int) :: ((j + 1 : Nat) : Int) :: l) M9 := fun l a b c h1 => by
            have e1 : a = (zJst n T g i j s).1 := by rw [← h1]
            have e2 : b = (zJst n T g i j s).2.1 := by rw [← h1]
            have e3 : c = (zJst n T g i j s).2.2 := by rw [← h1]
            subst e1; subst e2; subst e3
            exact hX6 _ _ ⟨⟨l, rfl⟩, hf93⟩
          unfold zJst at hX9
          have hs1 := hoj.1
          by_cases w : zLgt n T (zjc g i j) < s.1
          · rw [if_pos w] at hX9
            ((with_reducible refine i_Seq (i_IfBrk (i_cI_ge (i_L9 (i_L4 ?_))))); (with_reducible refine i_f (by omega) ?_); (with_reducible refine i_Seq (i_Set (i_L9 (i_Seq (i_Set ?_))))); simp only [w_set0, w_set1, w_setn0, w_setn1]; (with_reducible refine i_L7 (i_Set ?_)); simp only [w_set0, w_set1, w_setn0, w_setn1]; (with_reducible refine i_L8 (i_up ?_)); simp only [w_set0, w_set1, w_setn0, w_setn1]; (with_reducible refine i_Inc8 ?_); rw [zx_inc (by omega)]; simp only [w_set0, w_set1, w_setn0, w_setn1])
            exact hX9 _ _ _ _ rfl
          · rw [if_neg w] at hX9
            ((with_reducible refine i_Seq (i_IfBrk (i_cI_ge (i_L9 (i_L4 ?_))))); (with_reducible refine i_t (by omega) ?_); (with_reducible refine i_lab1 (i_up (i_Inc8 ?_))); rw [zx_inc (by omega)]; simp only [w_set0, w_set1, w_setn0, w_setn1])
            exact hX9 _ _ _ _ rfl
      · rintro ρ M6 X6 ⟨⟨l6, rfl⟩, hf6⟩
        have gm6 : M6 ((258 : Nat) : Int) ((t : Nat) : Int) = ((m : Nat) : Int) := (hf6 _ _ (by omega)).trans hb1
        by_cases w : i + 1 ≤ m
        · rw [show i + 1 + (m - (i + 1)) = m by omega]
          ((with_reducible refine i_turn (i_cI_lt (i_L8 (i_IA (i_FR (i_A0 ?_)))))); (with_reducible refine i_fldR (by assumption) ?_); (with_reducible refine i_L1 ?_); (with_reducible refine i_in (by assumption) (by omega) (by omega) ?_); (rw [gm6]); (with_reducible refine i_f (by omega) ?_); (with_reducible refine i_up (i_Inc7 ?_)); rw [zx_inc (by omega)]; simp only [w_set0, w_set1, w_setn0, w_setn1])
          exact hX5 _ _ ⟨⟨_, rfl⟩, hf6⟩
        · omega
    rintro ρ M5 X5 ⟨⟨l5, rfl⟩, hf5⟩
    have gm5 : M5 ((258 : Nat) : Int) ((t : Nat) : Int) = ((m : Nat) : Int) := (hf5 _ _ (by omega)).trans hb1
    have gn5 : M5 250 ((1 : Nat) : Int) = ((n : Nat) : Int) := (hf5 _ _ (by omega)).trans gn4
    have gb5 : rBox M5 t n g := fun q hq => by rw [hf5 _ _ (by omega)]; exact hb2 q hq
    have hs5 := hJok
    generalize zJout n T g m (cur, 0, 0) m = s at hs5 hfin hfin2 ⊢
    have hs1 := hs5.1
    by_cases w : s.1 < cur
    · obtain ⟨hxy, hym⟩ := hs5.2 w
      ((with_reducible refine i_turn (i_cI_lt (i_L7 (i_IA (i_FR (i_A0 ?_)))))); (with_reducible refine i_fldR (by assumption) ?_); (with_reducible refine i_L1 ?_); (with_reducible refine i_in (by assumption) (by omega) (by omega) ?_); (rw [gm5]); (with_reducible refine i_f (by omega) ?_); (with_reducible refine i_Seq (i_Set (i_eIf (i_cI_lt (i_L4 (i_L2 ?_)))))); (with_reducible refine i_t (by omega) ?_); (with_reducible refine i_I (i_Seq (i_IfBrk (i_cNot (i_cZ_ne ?_))))); simp only [w_set0, w_set1, w_setn0, w_setn1]; (with_reducible refine i_L3 ?_); (with_reducible refine i_t (by omega) ?_); (with_reducible refine i_Seq (i_sCall (i_as1 (i_A0 (i_as1 (i_L1 (i_as0 ?_))))))); (with_reducible refine i_recv0 (by assumption) ?_))
      refine m_labelsOf hO hS (by omega) gn5 hn2 gb5 (fun M7 hf7 h7 => ⟨rfl, ?_⟩)
      ((with_reducible refine i_Seq (i_Blk (i_Seq (i_Set (i_I ?_))))); simp only [w_set0, w_set1, w_setn0, w_setn1])
      refine w_ForN n (fun r ρ M' => (∃ l, ρ = 250 :: ((t : Nat) : Int) :: ((cur : Nat) : Int) :: 1 :: ((s.1 : Nat) : Int) :: ((s.2.1 : Nat) : Int) :: ((s.2.2 : Nat) : Int) :: ((r : Nat) : Int) :: l) ∧ (∀ b j, ¬ b = 272 → M' b j = M5 b j) ∧ ∀ x : Nat, x < n → M' ((272 : Nat) : Int) ((x : Nat) : Int) = ((if x < r then zjc g s.2.1 s.2.2 x else g x : Nat) : Int)) ⟨⟨_, rfl⟩, hf7, fun x hx => by rw [if_neg (Nat.not_lt_zero _)]; exact h7 x hx⟩ ?_ ?_
      · rintro r ρ M8 X8 hr ⟨⟨l8, rfl⟩, hf8, h8⟩ hX8
        have gn8 : M8 250 ((1 : Nat) : Int) = ((n : Nat) : Int) := (hf8 _ _ (by omega)).trans gn5
        have gr := h8 r hr
        rw [if_neg (Nat.lt_irrefl _)] at gr
        have hgr := hg16 r hr
        by_cases e : g r = s.2.2
        · ((with_reducible refine i_turn (i_cI_lt (i_L7 (i_F (i_A0 ?_))))); (with_reducible refine i_fld (by assumption) ?_); (rw [gn8]); (with_reducible refine i_t (by omega) ?_); (with_reducible refine i_If (i_cI_eq (i_IA (i_FR (i_A0 ?_))))); (with_reducible refine i_fldR (by assumption) ?_); (with_reducible refine i_L7 ?_); (with_reducible refine i_in (by assumption) (by omega) (by omega) ?_); (with_reducible refine i_L6 ?_); (rw [gr]); (with_reducible refine i_t (by omega) ?_); (with_reducible refine i_sIA (i_FR (i_A0 ?_))); (with_reducible refine i_fldR (by assumption) ?_); (with_reducible refine i_L7 (i_L5 ?_)); (with_reducible refine i_in (by assumption) (by omega) (by omega) ?_); (with_reducible refine i_up (i_Inc7 ?_)); rw [zx_inc (by omega)]; simp only [w_set0, w_set1, w_setn0, w_setn1])
          refine hX8 _ _ ⟨⟨_, rfl⟩, fun b j q => by rw [zg_n _ _ _ (by omega)]; exact hf8 b j q, fun x hx => ?_⟩
          by_cases w : x = r
          · subst w; rw [zg_s, if_pos (by omega)]; unfold zjc; rw [if_pos e]
          · rw [zg_m _ _ _ _ _ (by omega), h8 x hx]
            by_cases w2 : x < r
            · rw [if_pos w2, if_pos (by omega)]
            · rw [if_neg w2, if_neg (by omega)]
        · ((with_reducible refine i_turn (i_cI_lt (i_L7 (i_F (i_A0 ?_))))); (with_reducible refine i_fld (by assumption) ?_); (rw [gn8]); (with_reducible refine i_t (by omega) ?_); (with_reducible refine i_If (i_cI_eq (i_IA (i_FR (i_A0 ?_))))); (with_reducible refine i_fldR (by assumption) ?_); (with_reducible refine i_L7 ?_); (with_reducible refine i_in (by assumption) (by omega) (by omega) ?_); (with_reducible refine i_L6 ?_); (rw [gr]); (with_reducible refine i_f (by omega) ?_); (with_reducible refine i_up (i_Inc7 ?_)); rw [zx_inc (by omega)]; simp only [w_set0, w_set1, w_setn0, w_setn1])
          refine hX8 _ _ ⟨⟨_, rfl⟩, hf8, fun x hx => ?_⟩
          rw [h8 x hx]
          by_cases w : x = r
          · subst w; rw [if_neg (Nat.lt_irrefl _), if_pos (by omega)]; unfold zjc; rw [if_neg e]
          · by_cases w2 : x < r
            · rw [if_pos w2, if_pos (by omega)]
            · rw [if_neg w2, if_neg (by omega)]
      · rintro ρ M8 X8 ⟨⟨l8, rfl⟩, hf8, h8⟩
        have gn8 : M8 250 ((1 : Nat) : Int) = ((n : Nat) : Int) := (hf8 _ _ (by omega)).trans gn5
        ((with_reducible refine i_turn (i_cI_lt (i_L7 (i_F (i_A0 ?_))))); (with_reducible refine i_fld (by assumption) ?_); (rw [gn8]); (with_reducible refine i_f (by omega) ?_); (with_reducible refine i_Seq (i_sCall (i_as1 (i_A0 (i_as1 (i_L1 (i_as0 ?_))))))); (with_reducible refine i_recv0 (by assumption) ?_))
        refine m_settle hO hS (by omega) gn8 hn2 (f := zjc g s.2.1 s.2.2) (fun x hx => by rw [h8 x hx, if_pos hx]) (zjc_16 (by omega) hg16) (gT4.to (fun j => by rw [hf8 _ _ (by omega), hf5 _ _ (by omega)])) (fun M9 hf9 h9 => ⟨rfl, ?_⟩)
        ((with_reducible refine i_Set (i_L4 ?_)); simp only [w_set0, w_set1, w_setn0, w_setn1])
        exact hfin _ _ (fun b j q => by rw [hf9 b j (by omega), hf8 b j (by omega), hf5 b j (by omega), hf4 b j q]) w h9
    · ((with_reducible refine i_turn (i_cI_lt (i_L7 (i_IA (i_FR (i_A0 ?_)))))); (with_reducible refine i_fldR (by assumption) ?_); (with_reducible refine i_L1 ?_); (with_reducible refine i_in (by assumption) (by omega) (by omega) ?_); (rw [gm5]); (with_reducible refine i_f (by omega) ?_); (with_reducible refine i_Seq (i_Set (i_eIf (i_cI_lt (i_L4 (i_L2 ?_)))))); (with_reducible refine i_f (by omega) ?_); (with_reducible refine i_I (i_Seq (i_IfBrk (i_cNot (i_cZ_ne ?_))))); simp only [w_set0, w_set1, w_setn0, w_setn1]; (with_reducible refine i_L3 ?_); (with_reducible refine i_f (by omega) ?_); (with_reducible refine i_lab1 ?_))
      exact hfin2 _ _ (fun b j q => by rw [hf5 b j (by omega), hf4 b j q]) w (h4.to hn2 (zRq_w hn2) (fun b j q => hf5 b j (by omega)))
