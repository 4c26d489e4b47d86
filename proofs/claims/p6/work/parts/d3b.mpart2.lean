section
-- part d3b.mpart2.lean.txt
/-! ===== partings by the rule: the reference, the whole search ===== -/
theorem zjc_16 {n i j : Nat} {g : Nat → Nat} (hi : i ≤ 16) (h : ∀ q, q < n → g q < 16) : ∀ q : Nat, q < n → zjc g i j q ≤ 16 := fun q hq => by
  have := h q hq
  unfold zjc
  split <;> omega
theorem m_part {O : zOm} (hO : zWld O) (hS : zS O = zmS zC0) {t n : Nat} {T : Nat → Nat → Bool} {M : zMem} {K : Option zV → zMem → Prop} (ht : t < 6) (hn : M 250 ((1 : Nat) : Int) = ((n : Nat) : Int)) (hn1 : 0 < n) (hn2 : n ≤ 16) (hT : rMx M 267 T)
    (hk : ∀ M', (∀ b j, ¬ ((b = 258 ∧ j = ((t : Nat) : Int) ∨ (b = 259 ∨ b = 260 ∨ b = 262 ∨ b = 263) ∧ ((16 * t : Nat) : Int) ≤ j ∧ j < ((16 * t + 16 : Nat) : Int) ∨ (b = 261 ∨ b = 264 ∨ b = 265 ∨ b = 266) ∧ ((256 * t : Nat) : Int) ≤ j ∧ j < ((256 * t + 256 : Nat) : Int)) ∨ (b = 258 ∧ j = ((6 : Nat) : Int) ∨ (b = 259 ∨ b = 260 ∨ b = 262 ∨ b = 263) ∧ ((16 * 6 : Nat) : Int) ≤ j ∧ j < ((16 * 6 + 16 : Nat) : Int) ∨ (b = 261 ∨ b = 264 ∨ b = 265 ∨ b = 266) ∧ ((256 * 6 : Nat) : Int) ≤ j ∧ j < ((256 * 6 + 256 : Nat) : Int)) ∨ b = 268 ∨ b = 269 ∨ b = 270 ∨ b = 271 ∨ b = 272 ∨ b = 283 ∨ b = 284 ∨ b = 285) → M' b j = M b j) → rTe M' t n (zRq n T (zPt n T).1) → K (some (0, (((zPt n T).2 : Nat) : Int))) M') : zR O F_Model_part [(2, 250), (0, ((t : Nat) : Int))] M K := by
  apply r_Model_part hO
  unfold B_Model_part
  have f1 := zMF (k := 1) hS rfl; have f26 := zMF (k := 26) hS rfl; have a272 := zMA (a := 272) (ty := .int) (n := 16) hS rfl; have f12 := zMF (k := 12) hS rfl; have a258 := zMA (a := 258) (ty := .int) (n := 7) hS rfl; have zo := zMO hS
  ((with_reducible refine i_Seq (i_Blk (i_Seq (i_Set (i_I ?_))))); simp only [w_set0, w_set1, w_setn0, w_setn1])
  refine w_ForN n (fun k ρ M' => ρ = [250, ((t : Nat) : Int), ((k : Nat) : Int)] ∧ (∀ b j, ¬ b = 272 → M' b j = M b j) ∧ ∀ x : Nat, x < k → M' ((272 : Nat) : Int) ((x : Nat) : Int) = ((x : Nat) : Int)) ⟨rfl, fun _ _ _ => rfl, fun x h => absurd h (Nat.not_lt_zero _)⟩ ?_ ?_
  · rintro k ρ M1 X hk1 ⟨rfl, hf, h⟩ hX
    have gn : M1 250 ((1 : Nat) : Int) = ((n : Nat) : Int) := (hf _ _ (by omega)).trans hn
    ((with_reducible refine i_turn (i_cI_lt (i_L2 (i_F (i_A0 ?_))))); (with_reducible refine i_fld (by assumption) ?_); (rw [gn]); (with_reducible refine i_t (by omega) ?_); (with_reducible refine i_sIA (i_FR (i_A0 ?_))); (with_reducible refine i_fldR (by assumption) ?_); (with_reducible refine i_L2 (i_L2 ?_)); (with_reducible refine i_in (by assumption) (by omega) (by omega) ?_); (with_reducible refine i_up (i_Inc2 ?_)); rw [zx_inc (by omega)]; simp only [w_set0, w_set1, w_setn0, w_setn1])
    refine hX _ _ ⟨rfl, (by intro b j q; ((rw [zg_n _ _ _ (by omega)])); first | done | rfl | exact hf b j (by omega)), fun x hx => ?_⟩
    by_cases e : x = k
    · subst e; rw [zg_s]
    · rw [zg_m _ _ _ _ _ (by omega)]; exact h x (by omega)
  rintro ρ M1 X ⟨rfl, hf1, h1⟩
  have gn1 : M1 250 ((1 : Nat) : Int) = ((n : Nat) : Int) := (hf1 _ _ (by omega)).trans hn
  ((with_reducible refine i_turn (i_cI_lt (i_L2 (i_F (i_A0 ?_))))); (with_reducible refine i_fld (by assumption) ?_); (rw [gn1]); (with_reducible refine i_f (by omega) ?_); (with_reducible refine i_Seq (i_sCall (i_as1 (i_A0 (i_as1 (i_L1 (i_as0 ?_))))))); (with_reducible refine i_recv0 (by assumption) ?_))
  refine m_settle hO hS (f := fun q => q) (by omega) gn1 hn2 h1 (fun q hq => by show q ≤ 16; omega) (hT.to (fun j => hf1 _ _ (by omega))) (fun M2 hf2 h2 => ⟨rfl, ?_⟩)
  have gn2 : M2 250 ((1 : Nat) : Int) = ((n : Nat) : Int) := (hf2 _ _ (by omega)).trans gn1
  ((with_reducible refine i_Seq (i_Set (i_Call (i_as1 (i_A0 (i_as1 (i_L1 (i_as0 ?_)))))))); (with_reducible refine i_recv0 (by assumption) ?_); simp only [w_set0, w_set1, w_setn0, w_setn1])
  refine m_lengthOf hO hS (by omega) gn2 hn2 h2 (zRq_w hn2) (fun M3 hf3 _ _ => ⟨_, rfl, ?_⟩)
  rw [tLen_rq hn2]
  have h3 : rTe M3 t n (zRq n T (zJs n T 0).1) := by
    show rTe M3 t n (zRq n T (zcg n (fun q => q)))
    rw [zRq_cg hn1]
    exact h2.to hn2 (zRq_w hn2) (fun b j q => hf3 b j (by omega))
  have fr3 : ∀ b j, ¬ ((b = 258 ∧ j = ((t : Nat) : Int) ∨ (b = 259 ∨ b = 260 ∨ b = 262 ∨ b = 263) ∧ ((16 * t : Nat) : Int) ≤ j ∧ j < ((16 * t + 16 : Nat) : Int) ∨ (b = 261 ∨ b = 264 ∨ b = 265 ∨ b = 266) ∧ ((256 * t : Nat) : Int) ≤ j ∧ j < ((256 * t + 256 : Nat) : Int)) ∨ (b = 258 ∧ j = ((6 : Nat) : Int) ∨ (b = 259 ∨ b = 260 ∨ b = 262 ∨ b = 263) ∧ ((16 * 6 : Nat) : Int) ≤ j ∧ j < ((16 * 6 + 16 : Nat) : Int) ∨ (b = 261 ∨ b = 264 ∨ b = 265 ∨ b = 266) ∧ ((256 * 6 : Nat) : Int) ≤ j ∧ j < ((256 * 6 + 256 : Nat) : Int)) ∨ b = 268 ∨ b = 269 ∨ b = 270 ∨ b = 271 ∨ b = 272 ∨ b = 283 ∨ b = 284 ∨ b = 285) → M3 b j = M b j := fun b j q => by rw [hf3 b j (by omega), hf2 b j (by omega), hf1 b j (by omega)]
  clear hf1 hf2 hf3 h1 h2 gn1 gn2
  ((with_reducible refine i_Seq (i_Set (i_I (i_Seq ?_)))); simp only [w_set0, w_set1, w_setn0, w_setn1])
  refine w_WhileM (fun μ ρ M' => ∃ k b l, ρ = 250 :: ((t : Nat) : Int) :: (((zJs n T k).2 : Nat) : Int) :: zbI b :: l ∧ (∀ b j, ¬ ((b = 258 ∧ j = ((t : Nat) : Int) ∨ (b = 259 ∨ b = 260 ∨ b = 262 ∨ b = 263) ∧ ((16 * t : Nat) : Int) ≤ j ∧ j < ((16 * t + 16 : Nat) : Int) ∨ (b = 261 ∨ b = 264 ∨ b = 265 ∨ b = 266) ∧ ((256 * t : Nat) : Int) ≤ j ∧ j < ((256 * t + 256 : Nat) : Int)) ∨ (b = 258 ∧ j = ((6 : Nat) : Int) ∨ (b = 259 ∨ b = 260 ∨ b = 262 ∨ b = 263) ∧ ((16 * 6 : Nat) : Int) ≤ j ∧ j < ((16 * 6 + 16 : Nat) : Int) ∨ (b = 261 ∨ b = 264 ∨ b = 265 ∨ b = 266) ∧ ((256 * 6 : Nat) : Int) ≤ j ∧ j < ((256 * 6 + 256 : Nat) : Int)) ∨ b = 268 ∨ b = 269 ∨ b = 270 ∨ b = 271 ∨ b = 272 ∨ b = 283 ∨ b = 284 ∨ b = 285) → M' b j = M b j) ∧ rTe M' t n (zRq n T (zJs n T k).1) ∧ (b = false → ¬ (zJb n T (zJs n T k).1 (zJs n T k).2).1 < (zJs n T k).2) ∧ μ = (zJs n T k).2 + (if b = true then 1 else 0)) _ ⟨0, true, _, rfl, fr3, h3, (fun z => by cases z), rfl⟩ ?_
  clear fr3 h3
  rintro μ ρ M4 X ⟨k, b, l, rfl, hf4, h4, hfx, rfl⟩ hX
  obtain ⟨f0, ef, el⟩ := zJs_g hn1 T k
  have hg : zcg n (zJs n T k).1 = (zJs n T k).1 := by rw [ef]; exact (zcg_id hn1 f0).1
  have gn4 : M4 250 ((1 : Nat) : Int) = ((n : Nat) : Int) := (hf4 _ _ (by omega)).trans hn
  have gT4 : rMx M4 267 T := hT.to (fun j => hf4 _ _ (by omega))
  cases b
  · clear hX
    have hend := zJs_end hn1 hn2 (hfx rfl)
    rw [hend] at h4 hg ⊢
    clear hfx ef el hend
    have hx20 : (zJs n T 16).2 ≤ 20000 := by
      obtain ⟨f, -, e⟩ := zJs_g hn1 T 16
      rw [e]; exact zLn_le hn2
    have hMs : ∀ k, ∃ f, (zMs n T (zJs n T 16) k).1 = zcg n f := by
      have hMr : ∀ x : (Nat → Nat) × Nat, (∃ f, x.1 = zcg n f) → ∀ p, ∃ f, (zMr n T x p).1 = zcg n f := fun x hx p => by
        induction p with
        | zero => exact hx
        | succ p ih =>
          rw [zMr_su]
          unfold zM1
          split
          · exact ih
          · exact ⟨_, rfl⟩
      intro k
      induction k with
      | zero =>
        obtain ⟨f, e, -⟩ := zJs_g hn1 T 16
        exact ⟨f, e⟩
      | succ k ih => rw [zMs_su]; exact hMr _ ih n
    ((with_reducible refine i_turn (i_cZ_ne (i_L3 ?_))); rw [zbI_f]; (with_reducible refine i_f (by omega) ?_); (with_reducible refine i_Seq (i_Set (i_I (i_Seq ?_)))); simp only [w_set0, w_set1, w_setn0, w_setn1])
    unfold zPt at hk
    generalize zJs n T 16 = x0 at h4 hg hx20 hMs hk ⊢
    refine w_WhileM (fun μ ρ M' => ∃ k b l, ρ = 250 :: ((t : Nat) : Int) :: (((zMs n T x0 k).2 : Nat) : Int) :: zbI b :: l ∧ (∀ b j, ¬ ((b = 258 ∧ j = ((t : Nat) : Int) ∨ (b = 259 ∨ b = 260 ∨ b = 262 ∨ b = 263) ∧ ((16 * t : Nat) : Int) ≤ j ∧ j < ((16 * t + 16 : Nat) : Int) ∨ (b = 261 ∨ b = 264 ∨ b = 265 ∨ b = 266) ∧ ((256 * t : Nat) : Int) ≤ j ∧ j < ((256 * t + 256 : Nat) : Int)) ∨ (b = 258 ∧ j = ((6 : Nat) : Int) ∨ (b = 259 ∨ b = 260 ∨ b = 262 ∨ b = 263) ∧ ((16 * 6 : Nat) : Int) ≤ j ∧ j < ((16 * 6 + 16 : Nat) : Int) ∨ (b = 261 ∨ b = 264 ∨ b = 265 ∨ b = 266) ∧ ((256 * 6 : Nat) : Int) ≤ j ∧ j < ((256 * 6 + 256 : Nat) : Int)) ∨ b = 268 ∨ b = 269 ∨ b = 270 ∨ b = 271 ∨ b = 272 ∨ b = 283 ∨ b = 284 ∨ b = 285) → M' b j = M b j) ∧ rTe M' t n (zRq n T (zMs n T x0 k).1) ∧ (b = false → zMs n T x0 20001 = zMs n T x0 k) ∧ k + (zMs n T x0 k).2 ≤ 20000 + (if b = true then 0 else 1) ∧ μ = (zMs n T x0 k).2 + (if b = true then 1 else 0)) _ ⟨0, true, _, rfl, hf4, h4, (fun z => by cases z), by show 0 + x0.2 ≤ 20000; omega, rfl⟩ ?_
    clear h4 hf4 gn4 gT4
    rintro μ ρ M5 X5 ⟨k5, b5, l5, rfl, hf5, h5, hfx5, hle5, rfl⟩ hX5
    cases b5
    · clear hX5
      rw [← hfx5 rfl] at h5 ⊢
      ((with_reducible refine i_turn (i_cZ_ne (i_L3 ?_))); rw [zbI_f]; (with_reducible refine i_f (by omega) ?_); (with_reducible refine i_RetI (i_L2 ?_)))
      exact hk M5 hf5 h5
    · have gn5 : M5 250 ((1 : Nat) : Int) = ((n : Nat) : Int) := (hf5 _ _ (by omega)).trans hn
      have hle6 : k5 + (zMs n T x0 k5).2 ≤ 20000 := by simpa using hle5
      have hmrok := fun p => zMr_ok (n := n) (T := T) (x := zMs n T x0 k5) p
      ((with_reducible refine i_turn (i_cZ_ne (i_L3 ?_))); rw [zbI_t]; (with_reducible refine i_t (by omega) ?_); (with_reducible refine i_Seq (i_Set (i_I (i_Blk (i_Seq (i_Set (i_I ?_))))))); simp only [w_set0, w_set1, w_setn0, w_setn1]; rw [w_setT])
      refine w_ForN n (fun p ρ M' => (∃ l, ρ = 250 :: ((t : Nat) : Int) :: (((zMr n T (zMs n T x0 k5) p).2 : Nat) : Int) :: zbI (decide ((zMr n T (zMs n T x0 k5) p).2 < (zMs n T x0 k5).2)) :: ((p : Nat) : Int) :: l) ∧ (∀ b j, ¬ ((b = 258 ∧ j = ((t : Nat) : Int) ∨ (b = 259 ∨ b = 260 ∨ b = 262 ∨ b = 263) ∧ ((16 * t : Nat) : Int) ≤ j ∧ j < ((16 * t + 16 : Nat) : Int) ∨ (b = 261 ∨ b = 264 ∨ b = 265 ∨ b = 266) ∧ ((256 * t : Nat) : Int) ≤ j ∧ j < ((256 * t + 256 : Nat) : Int)) ∨ (b = 258 ∧ j = ((6 : Nat) : Int) ∨ (b = 259 ∨ b = 260 ∨ b = 262 ∨ b = 263) ∧ ((16 * 6 : Nat) : Int) ≤ j ∧ j < ((16 * 6 + 16 : Nat) : Int) ∨ (b = 261 ∨ b = 264 ∨ b = 265 ∨ b = 266) ∧ ((256 * 6 : Nat) : Int) ≤ j ∧ j < ((256 * 6 + 256 : Nat) : Int)) ∨ b = 268 ∨ b = 269 ∨ b = 270 ∨ b = 271 ∨ b = 272 ∨ b = 283 ∨ b = 284 ∨ b = 285) → M' b j = M b j) ∧ rTe M' t n (zRq n T (zMr n T (zMs n T x0 k5) p).1)) ⟨⟨_, by rw [show (decide ((zMr n T (zMs n T x0 k5) 0).2 < (zMs n T x0 k5).2)) = false from decide_eq_false (Nat.lt_irrefl _)]; rfl⟩, hf5, h5⟩ ?_ ?_
      · rintro p ρ M6 X6 hp ⟨⟨l6, rfl⟩, hf6, h6⟩ hX6
        have gn6 : M6 250 ((1 : Nat) : Int) = ((n : Nat) : Int) := (hf6 _ _ (by omega)).trans hn
        have gT6 : rMx M6 267 T := hT.to (fun j => hf6 _ _ (by omega))
        have hgr : zcg n (zMr n T (zMs n T x0 k5) p).1 = (zMr n T (zMs n T x0 k5) p).1 := by
          have : ∀ p, ∃ f, (zMr n T (zMs n T x0 k5) p).1 = zcg n f := fun p => by
            induction p with
            | zero => exact hMs k5
            | succ p ih =>
              rw [zMr_su]
              unfold zM1
              split
              · exact ih
              · exact ⟨_, rfl⟩
          obtain ⟨f, e⟩ := this p
          rw [e]; exact (zcg_id hn1 f).1
        have hr1 := (hmrok p).1
        have hr2 := (zM1_ok (n := n) (T := T) (p := p) (x := zMr n T (zMs n T x0 k5) p)).1
        ((with_reducible refine i_turn (i_cI_lt (i_L4 (i_F (i_A0 ?_))))); (with_reducible refine i_fld (by assumption) ?_); (rw [gn6]); (with_reducible refine i_t (by omega) ?_); (with_reducible refine i_Blk (i_Seq (i_Set (i_Call (i_as1 (i_A0 (i_as1 (i_L1 (i_as1 (i_L4 (i_as1 (i_L2 (i_as0 ?_))))))))))))); (with_reducible refine i_recv0 (by assumption) ?_); simp only [w_set0, w_set1, w_setn0, w_setn1])
        refine m_moved hO hS ht gn6 hn1 hn2 hp (by omega) hgr h6 gT6 (fun M7 hf7 h7 => ⟨_, rfl, ?_⟩)
        have hf76 : ∀ b j, ¬ ((b = 258 ∧ j = ((t : Nat) : Int) ∨ (b = 259 ∨ b = 260 ∨ b = 262 ∨ b = 263) ∧ ((16 * t : Nat) : Int) ≤ j ∧ j < ((16 * t + 16 : Nat) : Int) ∨ (b = 261 ∨ b = 264 ∨ b = 265 ∨ b = 266) ∧ ((256 * t : Nat) : Int) ≤ j ∧ j < ((256 * t + 256 : Nat) : Int)) ∨ (b = 258 ∧ j = ((6 : Nat) : Int) ∨ (b = 259 ∨ b = 260 ∨ b = 262 ∨ b = 263) ∧ ((16 * 6 : Nat) : Int) ≤ j ∧ j < ((16 * 6 + 16 : Nat) : Int) ∨ (b = 261 ∨ b = 264 ∨ b = 265 ∨ b = 266) ∧ ((256 * 6 : Nat) : Int) ≤ j ∧ j < ((256 * 6 + 256 : Nat) : Int)) ∨ b = 268 ∨ b = 269 ∨ b = 270 ∨ b = 271 ∨ b = 272 ∨ b = 283 ∨ b = 284 ∨ b = 285) → M7 b j = M b j := fun b j q => by rw [hf7 b j q, hf6 b j q]
        have hX7 : ∀ (l : zLoc) (b : Bool), b = decide ((zM1 n T p (zMr n T (zMs n T x0 k5) p)).2 < (zMs n T x0 k5).2) → X6 (250 :: ((t : Nat) : Int) :: (((zM1 n T p (zMr n T (zMs n T x0 k5) p)).2 : Nat) : Int) :: zbI b :: ((p + 1 : Nat) : Int) :: l) M7 := fun l b hb => by
          subst hb
          exact hX6 _ _ ⟨⟨l, rfl⟩, hf76, h7⟩
        change (∀ b j, _ → M7 b j = M6 b j) at hf7
        rw [show ((zMr n T (zMs n T x0 k5) p).1, (zMr n T (zMs n T x0 k5) p).2) = zMr n T (zMs n T x0 k5) p from rfl] at *
        generalize (zM1 n T p (zMr n T (zMs n T x0 k5) p)).2 = v at hr2 hX7 ⊢
        generalize (zMr n T (zMs n T x0 k5) p).2 = cu at hr1 hr2 hX7 ⊢
        by_cases w : v < cu
        · ((with_reducible refine i_Seq (i_If (i_cI_lt ?_))); rw [w_setT]; (with_reducible refine i_L5 (i_L2 ?_)); (with_reducible refine i_t (by omega) ?_); (with_reducible refine i_Set (i_I (i_Set ?_))); simp only [w_set0, w_set1, w_setn0, w_setn1]; (with_reducible refine i_L5 (i_up ?_)); simp only [w_set0, w_set1, w_setn0, w_setn1]; (with_reducible refine i_Inc4 ?_); rw [zx_inc (by omega)]; simp only [w_set0, w_set1, w_setn0, w_setn1])
          exact hX7 _ true (decide_eq_true (by omega)).symm
        · have : v = cu := by omega
          subst this
          ((with_reducible refine i_Seq (i_If (i_cI_lt ?_))); rw [w_setT]; (with_reducible refine i_L5 (i_L2 ?_)); (with_reducible refine i_f (by omega) ?_); (with_reducible refine i_Set (i_L5 (i_up ?_))); simp only [w_set0, w_set1, w_setn0, w_setn1]; (with_reducible refine i_Inc4 ?_); rw [zx_inc (by omega)]; simp only [w_set0, w_set1, w_setn0, w_setn1])
          exact hX7 _ _ rfl
      · rintro ρ M6 X6 ⟨⟨l6, rfl⟩, hf6, h6⟩
        have gn6 : M6 250 ((1 : Nat) : Int) = ((n : Nat) : Int) := (hf6 _ _ (by omega)).trans hn
        ((with_reducible refine i_turn (i_cI_lt (i_L4 (i_F (i_A0 ?_))))); (with_reducible refine i_fld (by assumption) ?_); (rw [gn6]); (with_reducible refine i_f (by omega) ?_))
        have hsu := zMs_su n T x0 k5
        rw [← hsu] at h6 ⊢
        have hr1 := (hmrok n).1
        rw [← hsu] at hr1
        by_cases w : (zMs n T x0 (k5 + 1)).2 < (zMs n T x0 k5).2
        · rw [decide_eq_true w]
          refine hX5 _ _ _ ?_ ⟨k5 + 1, true, _, rfl, hf6, h6, (fun z => by cases z), by simp only [if_true]; omega, rfl⟩
          simp only [if_true]; omega
        · rw [decide_eq_false w]
          have e := zMs_fx w 1
          refine hX5 _ _ _ ?_ ⟨k5 + 1, false, _, rfl, hf6, h6, fun _ => by rw [zMs_end w (by omega), e], by simp only [Bool.false_eq_true, if_false]; omega, rfl⟩
          simp only [if_true, Bool.false_eq_true, if_false]; omega
  · clear hfx
    have hbox := h4.box hg
    have hg16 : ∀ q, q < n → (zJs n T k).1 q < 16 := fun q hq => by
      have h1 := zcg_lt (f := (zJs n T k).1) hq
      have h2 := zcm_le n (zJs n T k).1
      rw [hg] at h1; omega
    have hm16 := zcm_le n (zJs n T k).1
    have hcur : (zJs n T k).2 ≤ 20000 := by rw [el]; exact zLn_le hn2
    have hJ1 : zJs n T (k + 1) = zJ1 n T (zJs n T k) := zJs_su n T k
    have hJok := zJb_ok n T (zJs n T k).1 (zJs n T k).2
    have hfin : ∀ l M', (∀ b j, ¬ ((b = 258 ∧ j = ((t : Nat) : Int) ∨ (b = 259 ∨ b = 260 ∨ b = 262 ∨ b = 263) ∧ ((16 * t : Nat) : Int) ≤ j ∧ j < ((16 * t + 16 : Nat) : Int) ∨ (b = 261 ∨ b = 264 ∨ b = 265 ∨ b = 266) ∧ ((256 * t : Nat) : Int) ≤ j ∧ j < ((256 * t + 256 : Nat) : Int)) ∨ (b = 258 ∧ j = ((6 : Nat) : Int) ∨ (b = 259 ∨ b = 260 ∨ b = 262 ∨ b = 263) ∧ ((16 * 6 : Nat) : Int) ≤ j ∧ j < ((16 * 6 + 16 : Nat) : Int) ∨ (b = 261 ∨ b = 264 ∨ b = 265 ∨ b = 266) ∧ ((256 * 6 : Nat) : Int) ≤ j ∧ j < ((256 * 6 + 256 : Nat) : Int)) ∨ b = 268 ∨ b = 269 ∨ b = 270 ∨ b = 271 ∨ b = 272 ∨ b = 283 ∨ b = 284 ∨ b = 285) → M' b j = M b j) → (zJb n T (zJs n T k).1 (zJs n T k).2).1 < (zJs n T k).2 → rTe M' t n (zRq n T (zjc (zJs n T k).1 (zJb n T (zJs n T k).1 (zJs n T k).2).2.1 (zJb n T (zJs n T k).1 (zJs n T k).2).2.2)) → X (250 :: ((t : Nat) : Int) :: (((zJb n T (zJs n T k).1 (zJs n T k).2).1 : Nat) : Int) :: 1 :: l) M' := fun l M' h1 h2 h3 => by
      unfold zJ1 at hJ1
      rw [if_pos h2] at hJ1
      refine hX _ _ M' ?_ ⟨k + 1, true, l, by rw [hJ1]; rfl, h1, ?_, (fun z => by cases z), rfl⟩
      · rw [hJ1]; simp only [if_true]; omega
      · rw [hJ1]
        show rTe M' t n (zRq n T (zcg n _))
        rw [zRq_cg hn1]; exact h3
    have hfin2 : ∀ l M', (∀ b j, ¬ ((b = 258 ∧ j = ((t : Nat) : Int) ∨ (b = 259 ∨ b = 260 ∨ b = 262 ∨ b = 263) ∧ ((16 * t : Nat) : Int) ≤ j ∧ j < ((16 * t + 16 : Nat) : Int) ∨ (b = 261 ∨ b = 264 ∨ b = 265 ∨ b = 266) ∧ ((256 * t : Nat) : Int) ≤ j ∧ j < ((256 * t + 256 : Nat) : Int)) ∨ (b = 258 ∧ j = ((6 : Nat) : Int) ∨ (b = 259 ∨ b = 260 ∨ b = 262 ∨ b = 263) ∧ ((16 * 6 : Nat) : Int) ≤ j ∧ j < ((16 * 6 + 16 : Nat) : Int) ∨ (b = 261 ∨ b = 264 ∨ b = 265 ∨ b = 266) ∧ ((256 * 6 : Nat) : Int) ≤ j ∧ j < ((256 * 6 + 256 : Nat) : Int)) ∨ b = 268 ∨ b = 269 ∨ b = 270 ∨ b = 271 ∨ b = 272 ∨ b = 283 ∨ b = 284 ∨ b = 285) → M' b j = M b j) → ¬ (zJb n T (zJs n T k).1 (zJs n T k).2).1 < (zJs n T k).2 → rTe M' t n (zRq n T (zJs n T k).1) → X (250 :: ((t : Nat) : Int) :: (((zJs n T k).2 : Nat) : Int) :: 0 :: l) M' := fun l M' h1 h2 h3 => hX _ _ M' (by simp only [if_true, Bool.false_eq_true, if_false]; omega) ⟨k, false, l, rfl, h1, h3, fun _ => h2, rfl⟩
    clear hX hJ1 ef el
    unfold zJb at hfin hfin2 hJok
    generalize (zJs n T k).1 = g at h4 hg hbox hg16 hm16 hfin hfin2 hJok ⊢
    generalize (zJs n T k).2 = cur at hcur hfin hfin2 hJok ⊢
    obtain ⟨hb1, hb2⟩ := hbox
    generalize hme : zcmx n g = m at hb1 hm16 hfin hfin2 hJok
    have hJo := fun i hi => zJout_ok (n := n) (T := T) (g := g) (m := m) (cur := cur) (s := (cur, 0, 0)) ⟨Nat.le_refl _, fun h => absurd h (Nat.lt_irrefl _)⟩ i hi
    ((with_reducible refine i_turn (i_cZ_ne (i_L3 ?_))); rw [zbI_t]; (with_reducible refine i_t (by omega) ?_); (with_reducible refine i_Blk (i_Seq (i_Set (i_L2 (i_Seq (i_Set (i_I (i_Seq (i_Set (i_I (i_Seq (i_Blk (i_Seq (i_Set (i_I ?_))))))))))))))); simp only [w_set0, w_set1, w_setn0, w_setn1]; rw [w_setT]; simp only [w_set0, w_set1, w_setn0, w_setn1]; rw [w_setT]; simp only [w_set0, w_set1, w_setn0, w_setn1]; rw [w_setT]; simp only [w_set0, w_set1, w_setn0, w_setn1]; rw [w_setT])
    refine w_ForN m (fun i ρ M' => (∃ l, ρ = 250 :: ((t : Nat) : Int) :: ((cur : Nat) : Int) :: 1 :: (((zJout n T g m (cur, 0, 0) i).1 : Nat) : Int) :: (((zJout n T g m (cur, 0, 0) i).2.1 : Nat) : Int) :: (((zJout n T g m (cur, 0, 0) i).2.2 : Nat) : Int) :: ((i : Nat) : Int) :: l) ∧ (∀ b j, ¬ ((b = 258 ∧ j = ((6 : Nat) : Int) ∨ (b = 259 ∨ b = 260 ∨ b = 262 ∨ b = 263) ∧ ((16 * 6 : Nat) : Int) ≤ j ∧ j < ((16 * 6 + 16 : Nat) : Int) ∨ (b = 261 ∨ b = 264 ∨ b = 265 ∨ b = 266) ∧ ((256 * 6 : Nat) : Int) ≤ j ∧ j < ((256 * 6 + 256 : Nat) : Int)) ∨ b = 268 ∨ b = 269 ∨ b = 270 ∨ b = 271 ∨ b = 272 ∨ b = 283 ∨ b = 284) → M' b j = M4 b j)) ⟨⟨_, rfl⟩, fun _ _ _ => rfl⟩ ?_ ?_
    · rintro i ρ M5 X5 hi ⟨⟨l5, rfl⟩, hf5⟩ hX5
      have gm5 : M5 ((258 : Nat) : Int) ((t : Nat) : Int) = ((m : Nat) : Int) := (hf5 _ _ (by omega)).trans hb1
      have hoi := hJo i (by omega)
      rw [zJout_su] at hX5
      generalize zJout n T g m (cur, 0, 0) i = s0 at hoi hX5 ⊢
      ((with_reducible refine i_turn (i_cI_lt (i_L7 (i_IA (i_FR (i_A0 ?_)))))); (with_reducible refine i_fldR (by assumption) ?_); (with_reducible refine i_L1 ?_); (with_reducible refine i_in (by assumption) (by omega) (by omega) ?_); (rw [gm5]); (with_reducible refine i_t (by omega) ?_); (with_reducible refine i_Blk (i_Seq (i_Set (i_Add (i_L7 (i_I ?_)))))); rw [zx_inc (by omega)]; simp only [w_set0, w_set1, w_setn0, w_setn1]; rw [w_setT])
      refine w_ForN (m - (i + 1)) (fun j ρ M' => (∃ l, ρ = 250 :: ((t : Nat) : Int) :: ((cur : Nat) : Int) :: 1 :: (((zJin n T g i s0 j).1 : Nat) : Int) :: (((zJin n T g i s0 j).2.1 : Nat) : Int) :: (((zJin n T g i s0 j).2.2 : Nat) : Int) :: ((i : Nat) : Int) :: ((i + 1 + j : Nat) : Int) :: l) ∧ (∀ b j, ¬ ((b = 258 ∧ j = ((6 : Nat) : Int) ∨ (b = 259 ∨ b = 260 ∨ b = 262 ∨ b = 263) ∧ ((16 * 6 : Nat) : Int) ≤ j ∧ j < ((16 * 6 + 16 : Nat) : Int) ∨ (b = 261 ∨ b = 264 ∨ b = 265 ∨ b = 266) ∧ ((256 * 6 : Nat) : Int) ≤ j ∧ j < ((256 * 6 + 256 : Nat) : Int)) ∨ b = 268 ∨ b = 269 ∨ b = 270 ∨ b = 271 ∨ b = 272 ∨ b = 283 ∨ b = 284) → M' b j = M4 b j)) ⟨⟨_, rfl⟩, hf5⟩ ?_ ?_
      · rintro j0 ρ M6 X6 hj ⟨⟨l6, rfl⟩, hf6⟩ hX6
        have gm6 : M6 ((258 : Nat) : Int) ((t : Nat) : Int) = ((m : Nat) : Int) := (hf6 _ _ (by omega)).trans hb1
        have gn6 : M6 250 ((1 : Nat) : Int) = ((n : Nat) : Int) := (hf6 _ _ (by omega)).trans gn4
        have gb6 : rBox M6 t n g := fun q hq => by rw [hf6 _ _ (by omega)]; exact hb2 q hq
        have hoj := zJin_ok (n := n) (T := T) (g := g) (i := i) hoi j0 (by omega)
        rw [zJin_su, show i + 1 + (j0 + 1) = i + 1 + j0 + 1 by omega] at hX6
        have hjm : i + 1 + j0 < m := by omega
        generalize zJin n T g i s0 j0 = s at hoj hX6 ⊢
        generalize i + 1 + j0 = j at hX6 hjm ⊢
        ((with_reducible refine i_turn (i_cI_lt (i_L8 (i_IA (i_FR (i_A0 ?_)))))); (with_reducible refine i_fldR (by assumption) ?_); (with_reducible refine i_L1 ?_); (with_reducible refine i_in (by assumption) (by omega) (by omega) ?_); (rw [gm6]); (with_reducible refine i_t (by omega) ?_); (with_reducible refine i_Blk (i_Seq (i_sCall (i_as1 (i_A0 (i_as1 (i_L1 (i_as0 ?_)))))))); (with_reducible refine i_recv0 (by assumption) ?_))
        refine m_labelsOf hO hS (by omega) gn6 hn2 gb6 (fun M7 hf7 h7 => ⟨rfl, ?_⟩)
        ((with_reducible refine i_Seq (i_Blk (i_Seq (i_Set (i_I ?_))))); simp only [w_set0, w_set1, w_setn0, w_setn1]; rw [w_setT])
        refine w_ForN n (fun r ρ M' => (∃ l, ρ = 250 :: ((t : Nat) : Int) :: ((cur : Nat) : Int) :: 1 :: ((s.1 : Nat) : Int) :: ((s.2.1 : Nat) : Int) :: ((s.2.2 : Nat) : Int) :: ((i : Nat) : Int) :: ((j : Nat) : Int) :: ((r : Nat) : Int) :: l) ∧ (∀ b j, ¬ b = 272 → M' b j = M6 b j) ∧ ∀ x : Nat, x < n → M' ((272 : Nat) : Int) ((x : Nat) : Int) = ((if x < r then zjc g i j x else g x : Nat) : Int)) ⟨⟨_, rfl⟩, hf7, fun x hx => by rw [if_neg (Nat.not_lt_zero _)]; exact h7 x hx⟩ ?_ ?_
        · rintro r ρ M8 X8 hr ⟨⟨l8, rfl⟩, hf8, h8⟩ hX8
          have gn8 : M8 250 ((1 : Nat) : Int) = ((n : Nat) : Int) := (hf8 _ _ (by omega)).trans gn6
          have gr := h8 r hr
          rw [if_neg (Nat.lt_irrefl _)] at gr
          have hgr := hg16 r hr
          by_cases e : g r = j
          · ((with_reducible refine i_turn (i_cI_lt (i_L9 (i_F (i_A0 ?_))))); (with_reducible refine i_fld (by assumption) ?_); (rw [gn8]); (with_reducible refine i_t (by omega) ?_); (with_reducible refine i_If (i_cI_eq (i_IA (i_FR (i_A0 ?_))))); (with_reducible refine i_fldR (by assumption) ?_); (with_reducible refine i_L9 ?_); (with_reducible refine i_in (by assumption) (by omega) (by omega) ?_); (with_reducible refine i_L8 ?_); (rw [gr]); (with_reducible refine i_t (by omega) ?_); (with_reducible refine i_sIA (i_FR (i_A0 ?_))); (with_reducible refine i_fldR (by assumption) ?_); (with_reducible refine i_L9 (i_L7 ?_)); (with_reducible refine i_in (by assumption) (by omega) (by omega) ?_); (with_reducible refine i_up (i_Inc9 ?_)); rw [zx_inc (by omega)]; simp only [w_set0, w_set1, w_setn0, w_setn1])
            refine hX8 _ _ ⟨⟨_, rfl⟩, fun b j q => by rw [zg_n _ _ _ (by omega)]; exact hf8 b j q, fun x hx => ?_⟩
            by_cases w : x = r
            · subst w; rw [zg_s, if_pos (by omega)]; unfold zjc; rw [if_pos e]
            · rw [zg_m _ _ _ _ _ (by omega), h8 x hx]
              by_cases w2 : x < r
              · rw [if_pos w2, if_pos (by omega)]
              · rw [if_neg w2, if_neg (by omega)]
          · ((with_reducible refine i_turn (i_cI_lt (i_L9 (i_F (i_A0 ?_))))); (with_reducible refine i_fld (by assumption) ?_); (rw [gn8]); (with_reducible refine i_t (by omega) ?_); (with_reducible refine i_If (i_cI_eq (i_IA (i_FR (i_A0 ?_))))); (with_reducible refine i_fldR (by assumption) ?_); (with_reducible refine i_L9 ?_); (with_reducible refine i_in (by assumption) (by omega) (by omega) ?_); (with_reducible refine i_L8 ?_); (rw [gr]); (with_reducible refine i_f (by omega) ?_); (with_reducible refine i_up (i_Inc9 ?_)); rw [zx_inc (by omega)]; simp only [w_set0, w_set1, w_setn0, w_setn1])
            refine hX8 _ _ ⟨⟨_, rfl⟩, hf8, fun x hx => ?_⟩
            rw [h8 x hx]
            by_cases w : x = r
            · subst w; rw [if_neg (Nat.lt_irrefl _), if_pos (by omega)]; unfold zjc; rw [if_neg e]
            · by_cases w2 : x < r
              · rw [if_pos w2, if_pos (by omega)]
              · rw [if_neg w2, if_neg (by omega)]
        · rintro ρ M8 X8 ⟨⟨l8, rfl⟩, hf8, h8⟩
          have gn8 : M8 250 ((1 : Nat) : Int) = ((n : Nat) : Int) := (hf8 _ _ (by omega)).trans gn6
          ((with_reducible refine i_turn (i_cI_lt (i_L9 (i_F (i_A0 ?_))))); (with_reducible refine i_fld (by assumption) ?_); (rw [gn8]); (with_reducible refine i_f (by omega) ?_); (with_reducible refine i_Seq (i_Set (i_Call (i_as1 (i_A0 (i_as0 ?_)))))); (with_reducible refine i_recv0 (by assumption) ?_); simp only [w_set0, w_set1, w_setn0, w_setn1])
          refine m_lengthBy hO hS gn8 hn2 (f := zjc g i j) (fun x hx => by rw [h8 x hx, if_pos hx]) (zjc_16 (by omega) hg16) (gT4.to (fun j => by rw [hf8 _ _ (by omega), hf6 _ _ (by omega)])) (fun M9 hf9 => ⟨_, rfl, ?_⟩)
          have hf93 : ∀ b j, ¬ ((b = 258 ∧ j = ((6 : Nat) : Int) ∨ (b = 259 ∨ b = 260 ∨ b = 262 ∨ b = 263) ∧ ((16 * 6 : Nat) : Int) ≤ j ∧ j < ((16 * 6 + 16 : Nat) : Int) ∨ (b = 261 ∨ b = 264 ∨ b = 265 ∨ b = 266) ∧ ((256 * 6 : Nat) : Int) ≤ j ∧ j < ((256 * 6 + 256 : Nat) : Int)) ∨ b = 268 ∨ b = 269 ∨ b = 270 ∨ b = 271 ∨ b = 272 ∨ b = 283 ∨ b = 284) → M9 b j = M4 b j := fun b j q => by rw [hf9 b j (by omega), hf8 b j (by omega), hf6 b j q]
          have hln := zLn_le (T := T) (f := zjc g i j) hn2
          have hX9 : ∀ (l : zLoc) (a b c : Nat), (a, b, c) = zJst n T g i j s → X6 (250 :: ((t : Nat) : Int) :: ((cur : Nat) : Int) :: 1 :: ((a : Nat) : Int) :: ((b : Nat) : Int) :: ((c : Nat) : Int) :: ((i : Nat) : Int) :: ((j + 1 : Nat) : Int) :: l) M9 := fun l a b c h1 => by
            have e1 : a = (zJst n T g i j s).1 := by rw [← h1]
            have e2 : b = (zJst n T g i j s).2.1 := by rw [← h1]
            have e3 : c = (zJst n T g i j s).2.2 := by rw [← h1]
            subst e1; subst e2; subst e3
            exact hX6 _ _ ⟨⟨l, rfl⟩, hf93⟩
          unfold zJst at hX9
          have hs1 := hoj.1
          by_cases w : zLgt n T (zjc g i j) < s.1
          · rw [if_pos w] at hX9
            ((with_reducible refine i_Seq (i_IfBrk (i_cI_ge (i_L9 (i_L4 ?_))))); (with_reducible refine i_f (by omega) ?_); (with_reducible refine i_Seq (i_Set (i_L9 (i_Seq (i_Set ?_))))); simp only [w_set0, w_set1, w_setn0, w_setn1]; (with_reducible refine i_L7 (i_Set ?_)); simp only [w_set0, w_set1, w_setn0, w_setn1]; (with_reducible refine i_L8 (i_up ?_)); simp only [w_set0, w_set1, w_setn0, w_setn1]; (with_reducible refine i_Inc8 ?_); rw [zx_inc (by omega)]; simp only [w_set0, w_set1, w_setn0, w_setn1])
            exact hX9 _ _ _ _ rfl
          · rw [if_neg w] at hX9
            ((with_reducible refine i_Seq (i_IfBrk (i_cI_ge (i_L9 (i_L4 ?_))))); (with_reducible refine i_t (by omega) ?_); (with_reducible refine i_lab1 (i_up (i_Inc8 ?_))); rw [zx_inc (by omega)]; simp only [w_set0, w_set1, w_setn0, w_setn1])
            exact hX9 _ _ _ _ rfl
      · rintro ρ M6 X6 ⟨⟨l6, rfl⟩, hf6⟩
        have gm6 : M6 ((258 : Nat) : Int) ((t : Nat) : Int) = ((m : Nat) : Int) := (hf6 _ _ (by omega)).trans hb1
        by_cases w : i + 1 ≤ m
        · rw [show i + 1 + (m - (i + 1)) = m by omega]
          ((with_reducible refine i_turn (i_cI_lt (i_L8 (i_IA (i_FR (i_A0 ?_)))))); (with_reducible refine i_fldR (by assumption) ?_); (with_reducible refine i_L1 ?_); (with_reducible refine i_in (by assumption) (by omega) (by omega) ?_); (rw [gm6]); (with_reducible refine i_f (by omega) ?_); (with_reducible refine i_up (i_Inc7 ?_)); rw [zx_inc (by omega)]; simp only [w_set0, w_set1, w_setn0, w_setn1])
          exact hX5 _ _ ⟨⟨_, rfl⟩, hf6⟩
        · omega
    rintro ρ M5 X5 ⟨⟨l5, rfl⟩, hf5⟩
    have gm5 : M5 ((258 : Nat) : Int) ((t : Nat) : Int) = ((m : Nat) : Int) := (hf5 _ _ (by omega)).trans hb1
    have gn5 : M5 250 ((1 : Nat) : Int) = ((n : Nat) : Int) := (hf5 _ _ (by omega)).trans gn4
    have gb5 : rBox M5 t n g := fun q hq => by rw [hf5 _ _ (by omega)]; exact hb2 q hq
    have hs5 := hJok
    generalize zJout n T g m (cur, 0, 0) m = s at hs5 hfin hfin2 ⊢
    have hs1 := hs5.1
    by_cases w : s.1 < cur
    · obtain ⟨hxy, hym⟩ := hs5.2 w
      ((with_reducible refine i_turn (i_cI_lt (i_L7 (i_IA (i_FR (i_A0 ?_)))))); (with_reducible refine i_fldR (by assumption) ?_); (with_reducible refine i_L1 ?_); (with_reducible refine i_in (by assumption) (by omega) (by omega) ?_); (rw [gm5]); (with_reducible refine i_f (by omega) ?_); (with_reducible refine i_Seq (i_Set (i_eIf (i_cI_lt (i_L4 (i_L2 ?_)))))); (with_reducible refine i_t (by omega) ?_); (with_reducible refine i_I (i_Seq (i_IfBrk (i_cNot (i_cZ_ne ?_))))); simp only [w_set0, w_set1, w_setn0, w_setn1]; (with_reducible refine i_L3 ?_); (with_reducible refine i_t (by omega) ?_); (with_reducible refine i_Seq (i_sCall (i_as1 (i_A0 (i_as1 (i_L1 (i_as0 ?_))))))); (with_reducible refine i_recv0 (by assumption) ?_))
      refine m_labelsOf hO hS (by omega) gn5 hn2 gb5 (fun M7 hf7 h7 => ⟨rfl, ?_⟩)
      ((with_reducible refine i_Seq (i_Blk (i_Seq (i_Set (i_I ?_))))); simp only [w_set0, w_set1, w_setn0, w_setn1])
      refine w_ForN n (fun r ρ M' => (∃ l, ρ = 250 :: ((t : Nat) : Int) :: ((cur : Nat) : Int) :: 1 :: ((s.1 : Nat) : Int) :: ((s.2.1 : Nat) : Int) :: ((s.2.2 : Nat) : Int) :: ((r : Nat) : Int) :: l) ∧ (∀ b j, ¬ b = 272 → M' b j = M5 b j) ∧ ∀ x : Nat, x < n → M' ((272 : Nat) : Int) ((x : Nat) : Int) = ((if x < r then zjc g s.2.1 s.2.2 x else g x : Nat) : Int)) ⟨⟨_, rfl⟩, hf7, fun x hx => by rw [if_neg (Nat.not_lt_zero _)]; exact h7 x hx⟩ ?_ ?_
      · rintro r ρ M8 X8 hr ⟨⟨l8, rfl⟩, hf8, h8⟩ hX8
        have gn8 : M8 250 ((1 : Nat) : Int) = ((n : Nat) : Int) := (hf8 _ _ (by omega)).trans gn5
        have gr := h8 r hr
        rw [if_neg (Nat.lt_irrefl _)] at gr
        have hgr := hg16 r hr
        by_cases e : g r = s.2.2
        · ((with_reducible refine i_turn (i_cI_lt (i_L7 (i_F (i_A0 ?_))))); (with_reducible refine i_fld (by assumption) ?_); (rw [gn8]); (with_reducible refine i_t (by omega) ?_); (with_reducible refine i_If (i_cI_eq (i_IA (i_FR (i_A0 ?_))))); (with_reducible refine i_fldR (by assumption) ?_); (with_reducible refine i_L7 ?_); (with_reducible refine i_in (by assumption) (by omega) (by omega) ?_); (with_reducible refine i_L6 ?_); (rw [gr]); (with_reducible refine i_t (by omega) ?_); (with_reducible refine i_sIA (i_FR (i_A0 ?_))); (with_reducible refine i_fldR (by assumption) ?_); (with_reducible refine i_L7 (i_L5 ?_)); (with_reducible refine i_in (by assumption) (by omega) (by omega) ?_); (with_reducible refine i_up (i_Inc7 ?_)); rw [zx_inc (by omega)]; simp only [w_set0, w_set1, w_setn0, w_setn1])
          refine hX8 _ _ ⟨⟨_, rfl⟩, fun b j q => by rw [zg_n _ _ _ (by omega)]; exact hf8 b j q, fun x hx => ?_⟩
          by_cases w : x = r
          · subst w; rw [zg_s, if_pos (by omega)]; unfold zjc; rw [if_pos e]
          · rw [zg_m _ _ _ _ _ (by omega), h8 x hx]
            by_cases w2 : x < r
            · rw [if_pos w2, if_pos (by omega)]
            · rw [if_neg w2, if_neg (by omega)]
        · ((with_reducible refine i_turn (i_cI_lt (i_L7 (i_F (i_A0 ?_))))); (with_reducible refine i_fld (by assumption) ?_); (rw [gn8]); (with_reducible refine i_t (by omega) ?_); (with_reducible refine i_If (i_cI_eq (i_IA (i_FR (i_A0 ?_))))); (with_reducible refine i_fldR (by assumption) ?_); (with_reducible refine i_L7 ?_); (with_reducible refine i_in (by assumption) (by omega) (by omega) ?_); (with_reducible refine i_L6 ?_); (rw [gr]); (with_reducible refine i_f (by omega) ?_); (with_reducible refine i_up (i_Inc7 ?_)); rw [zx_inc (by omega)]; simp only [w_set0, w_set1, w_setn0, w_setn1])
          refine hX8 _ _ ⟨⟨_, rfl⟩, hf8, fun x hx => ?_⟩
          rw [h8 x hx]
          by_cases w : x = r
          · subst w; rw [if_neg (Nat.lt_irrefl _), if_pos (by omega)]; unfold zjc; rw [if_neg e]
          · by_cases w2 : x < r
            · rw [if_pos w2, if_pos (by omega)]
            · rw [if_neg w2, if_neg (by omega)]
      · rintro ρ M8 X8 ⟨⟨l8, rfl⟩, hf8, h8⟩
        have gn8 : M8 250 ((1 : Nat) : Int) = ((n : Nat) : Int) := (hf8 _ _ (by omega)).trans gn5
        ((with_reducible refine i_turn (i_cI_lt (i_L7 (i_F (i_A0 ?_))))); (with_reducible refine i_fld (by assumption) ?_); (rw [gn8]); (with_reducible refine i_f (by omega) ?_); (with_reducible refine i_Seq (i_sCall (i_as1 (i_A0 (i_as1 (i_L1 (i_as0 ?_))))))); (with_reducible refine i_recv0 (by assumption) ?_))
        refine m_settle hO hS (by omega) gn8 hn2 (f := zjc g s.2.1 s.2.2) (fun x hx => by rw [h8 x hx, if_pos hx]) (zjc_16 (by omega) hg16) (gT4.to (fun j => by rw [hf8 _ _ (by omega), hf5 _ _ (by omega)])) (fun M9 hf9 h9 => ⟨rfl, ?_⟩)
        ((with_reducible refine i_Set (i_L4 ?_)); simp only [w_set0, w_set1, w_setn0, w_setn1])
        exact hfin _ _ (fun b j q => by rw [hf9 b j (by omega), hf8 b j (by omega), hf5 b j (by omega), hf4 b j q]) w h9
    · ((with_reducible refine i_turn (i_cI_lt (i_L7 (i_IA (i_FR (i_A0 ?_)))))); (with_reducible refine i_fldR (by assumption) ?_); (with_reducible refine i_L1 ?_); (with_reducible refine i_in (by assumption) (by omega) (by omega) ?_); (rw [gm5]); (with_reducible refine i_f (by omega) ?_); (with_reducible refine i_Seq (i_Set (i_eIf (i_cI_lt (i_L4 (i_L2 ?_)))))); (with_reducible refine i_f (by omega) ?_); (with_reducible refine i_I (i_Seq (i_IfBrk (i_cNot (i_cZ_ne ?_))))); simp only [w_set0, w_set1, w_setn0, w_setn1]; (with_reducible refine i_L3 ?_); (with_reducible refine i_f (by omega) ?_); (with_reducible refine i_lab1 ?_))
      exact hfin2 _ _ (fun b j q => by rw [hf5 b j (by omega), hf4 b j q]) w (h4.to hn2 (zRq_w hn2) (fun b j q => hf5 b j (by omega)))
end
section
-- part d4.cpar.lean.txt
/-! ===== the class: partings ===== -/
/-- parting p has n posts, parted as f says -/
def zPC (M : zMem) (p n : Nat) (f : Nat → Nat) : Prop := zPR M p n (zcg n f) (zcmx n f)
theorem zPR.ext {M : zMem} {p n m : Nat} {f g : Nat → Nat} (h : zPR M p n f m) (e : ∀ q, q < n → f q = g q) : zPR M p n g m := by
  refine ⟨h.1, h.2.1, fun q hq => ?_, fun b hb => ?_⟩
  · rw [← e q hq]; exact h.2.2.1 q hq
  · rw [h.2.2.2 b hb]
    refine zmk_ext fun q _ => ?_
    by_cases w : q < n
    · rw [e q w]
    · rw [decide_eq_false w]; rfl
theorem zPC.fr {M M' : zMem} {p n : Nat} {f : Nat → Nat} (h : zPC M p n f) (hf : ∀ (b : Int) (j : Int), ((p : Nat) : Int) ≤ b → b ≤ ((p + 2 : Nat) : Int) → M' b j = M b j) : zPC M' p n f := zPR.fr h hf
theorem zPC.ext {M : zMem} {p n : Nat} (hn : 0 < n) {f g : Nat → Nat} (h : zPC M p n f) (e : ∀ a b, a < n → b < n → (f a = f b ↔ g a = g b)) : zPC M p n g := by
  unfold zPC
  rw [← (zcg_ext hn e).1, ← (zcg_ext hn e).2]
  exact h
theorem zPC.cg {M : zMem} {p n : Nat} (hn : 0 < n) {f : Nat → Nat} (h : zPC M p n f) : zPC M p n (zcg n f) := by
  unfold zPC
  rw [(zcg_id hn f).1, (zcg_id hn f).2]
  exact h
theorem c_numberA {O : zOm} (hO : zWld O) {p n : Nat} {f : Nat → Nat} {M : zMem} {K : Option zV → zMem → Prop} (hp : zPar (zS O) p) (hn : M ((p : Nat) : Int) ((3 : Nat) : Int) = ((n : Nat) : Int)) (hn2 : n ≤ 16) (hb : ∀ q : Nat, q < n → M ((p + 1 : Nat) : Int) ((q : Nat) : Int) = ((f q : Nat) : Int) ∧ f q ≤ 16)
    (hk : ∀ M', (∀ b j, ¬ (b = ((p : Nat) : Int) ∧ j = 4 ∨ ((p + 1 : Nat) : Int) ≤ b ∧ b ≤ ((p + 3 : Nat) : Int)) → M' b j = M b j) → zPC M' p n f → K none M') : zR O F_Parting_number [(2, ((p : Nat) : Int))] M K := by
  refine c_number hO hp hn hn2 hb (fun M' h1 h2 => hk M' h1 ?_)
  unfold zPC
  rw [zcm_in]
  exact h2.ext (fun q hq => (zcg_in hq).symm)
theorem c_setAlone {O : zOm} (hO : zWld O) {p n : Nat} {M : zMem} {K : Option zV → zMem → Prop} (hp : zPar (zS O) p) (hn2 : n ≤ 16)
    (hk : ∀ M', (∀ b j, ¬ (((p : Nat) : Int) ≤ b ∧ b ≤ ((p + 3 : Nat) : Int)) → M' b j = M b j) → zPC M' p n (fun q => q) → K none M') : zR O F_Parting_setAlone [(2, ((p : Nat) : Int)), (0, ((n : Nat) : Int))] M K := by
  have hp0 := hp
  obtain ⟨p0, p1, p2, p3, p4, p5, p6, p7, p8⟩ := hp
  apply r_Parting_setAlone hO
  unfold B_Parting_setAlone
  ((with_reducible refine i_Seq (i_Seq (i_sF (i_A0 (i_L1 ?_))))); (with_reducible refine i_fld (by assumption) ?_); (with_reducible refine i_Seq (i_Blk (i_Seq (i_Set (i_I ?_))))); simp only [w_set0, w_set1, w_setn0, w_setn1])
  refine w_ForN n (fun k ρ M' => ρ = [((p : Nat) : Int), ((n : Nat) : Int), ((k : Nat) : Int)] ∧ (∀ b j, ¬ (((p : Nat) : Int) ≤ b ∧ b ≤ ((p + 3 : Nat) : Int)) → M' b j = M b j) ∧ M' ((p : Nat) : Int) ((3 : Nat) : Int) = ((n : Nat) : Int) ∧ ∀ q : Nat, q < k → M' ((p + 1 : Nat) : Int) ((q : Nat) : Int) = ((q : Nat) : Int)) ⟨rfl, fun b j q => by rw [zg_n _ _ _ (by omega)], zg_s _ _ _ _ _, fun q h => absurd h (Nat.not_lt_zero _)⟩ ?_ ?_
  · rintro k ρ M1 X hk1 ⟨rfl, hf, h3, h⟩ hX
    ((with_reducible refine i_turn (i_cI_lt (i_L2 (i_L1 ?_)))); (with_reducible refine i_t (by omega) ?_); (with_reducible refine i_sIA (i_FR (i_A0 ?_))); (with_reducible refine i_fldR (by assumption) ?_); (with_reducible refine i_L2 (i_L2 ?_)); (with_reducible refine i_in (by assumption) (by omega) (by omega) ?_); (with_reducible refine i_up (i_Inc2 ?_)); rw [zx_inc (by omega)]; simp only [w_set0, w_set1, w_setn0, w_setn1])
    refine hX _ _ ⟨rfl, fun b j q => by rw [zg_n _ _ _ (by omega)]; exact hf b j q, by rw [zg_n _ _ _ (by omega)]; exact h3, fun q hq => ?_⟩
    by_cases e : q = k
    · subst e; rw [zg_s]
    · rw [zg_m _ _ _ _ _ (by omega)]; exact h q (by omega)
  · rintro ρ M1 X ⟨rfl, hf, h3, h⟩
    ((with_reducible refine i_turn (i_cI_lt (i_L2 (i_L1 ?_)))); (with_reducible refine i_f (by omega) ?_); (with_reducible refine i_sCall (i_as1 (i_A0 (i_as0 ?_)))); (with_reducible refine i_recv0 (by assumption) ?_))
    refine c_numberA hO hp0 h3 hn2 (f := fun q => q) (fun q hq => ⟨h q hq, by show q ≤ 16; omega⟩) (fun M2 f2 h2 => ⟨rfl, ?_⟩)
    (with_reducible refine i_RetV ?_)
    exact hk M2 (fun b j q => by rw [f2 b j (by omega), hf b j q]) h2
theorem c_setWhole {O : zOm} (hO : zWld O) {p n : Nat} {M : zMem} {K : Option zV → zMem → Prop} (hp : zPar (zS O) p) (hn2 : n ≤ 16)
    (hk : ∀ M', (∀ b j, ¬ (((p : Nat) : Int) ≤ b ∧ b ≤ ((p + 3 : Nat) : Int)) → M' b j = M b j) → zPC M' p n (fun _ => 0) → K none M') : zR O F_Parting_setWhole [(2, ((p : Nat) : Int)), (0, ((n : Nat) : Int))] M K := by
  have hp0 := hp
  obtain ⟨p0, p1, p2, p3, p4, p5, p6, p7, p8⟩ := hp
  apply r_Parting_setWhole hO
  unfold B_Parting_setWhole
  ((with_reducible refine i_Seq (i_Seq (i_sF (i_A0 (i_L1 ?_))))); (with_reducible refine i_fld (by assumption) ?_); (with_reducible refine i_Seq (i_sCall (i_as1 (i_FR (i_A0 ?_))))); (with_reducible refine i_fldR (by assumption) ?_); (with_reducible refine i_as1 (i_I (i_as0 (i_recv1 ?_)))))
  refine s_fill hO p6 (by decide) (fun M1 f1 h1 _ => ⟨rfl, ?_⟩)
  have g3 : M1 ((p : Nat) : Int) ((3 : Nat) : Int) = ((n : Nat) : Int) := by
    rw [f1 _ (by simp <;> omega)]
    exact zg_s _ _ _ _ _
  ((with_reducible refine i_sCall (i_as1 (i_A0 (i_as0 ?_)))); (with_reducible refine i_recv0 (by assumption) ?_))
  refine c_numberA hO hp0 g3 hn2 (f := fun _ => 0) (fun q hq => ⟨h1 q (by omega), Nat.zero_le _⟩) (fun M2 f2 h2 => ⟨rfl, ?_⟩)
  (with_reducible refine i_RetV ?_)
  exact hk M2 (fun b j q => by rw [f2 b j (by omega), f1 b (by simp <;> omega), zg_n _ _ _ (by omega)]) h2
theorem c_pbecome {O : zOm} (hO : zWld O) {p q n : Nat} {f : Nat → Nat} {M : zMem} {K : Option zV → zMem → Prop} (hp : zPar (zS O) p) (hq : zPar (zS O) q) (hpq : p + 3 < q ∨ q + 3 < p) (hn2 : n ≤ 16) (hM : zPC M q n f)
    (hk : ∀ M', (∀ b j, ¬ (((p : Nat) : Int) ≤ b ∧ b ≤ ((p + 2 : Nat) : Int)) → M' b j = M b j) → zPC M' p n f → K none M') : zR O F_Parting_become [(2, ((p : Nat) : Int)), (2, ((q : Nat) : Int))] M K := by
  obtain ⟨p0, p1, p2, p3, p4, p5, p6, p7, p8⟩ := hp
  obtain ⟨q0, q1, q2, q3, q4, q5, q6, q7, q8⟩ := hq
  obtain ⟨m1, m2, m3, m4⟩ := hM
  have hm := zcm_le n f
  apply r_Parting_become hO
  unfold B_Parting_become
  ((with_reducible refine i_Seq (i_Seq (i_sF (i_A0 (i_F (i_A1 ?_)))))); (with_reducible refine i_fld (by assumption) ?_); (with_reducible refine i_fld (by assumption) ?_); (with_reducible refine i_Seq (i_sF (i_A0 (i_F (i_A1 ?_))))); (with_reducible refine i_fld (by assumption) ?_); (with_reducible refine i_fld (by assumption) ?_); (with_reducible refine i_Seq (i_Copy (i_FR (i_A1 ?_)))); (with_reducible refine i_fldR (by assumption) ?_); (with_reducible refine i_I (i_FR (i_A0 ?_))); (with_reducible refine i_fldR (by assumption) ?_); (with_reducible refine i_I (i_I ?_)); (with_reducible refine i_copy (by assumption) (by assumption) (by omega) ?_); (with_reducible refine i_Copy (i_FR (i_A1 ?_))); (with_reducible refine i_fldR (by assumption) ?_); (with_reducible refine i_I (i_FR (i_A0 ?_))); (with_reducible refine i_fldR (by assumption) ?_); (with_reducible refine i_I (i_I ?_)); (with_reducible refine i_copy (by assumption) (by assumption) (by omega) ?_); (with_reducible refine i_RetV ?_); rw [zg_n _ _ _ (by omega)]; (rw [m1]); (rw [m2]))
  refine hk _ (fun b j z => ?_) ⟨?_, ?_, fun r hr => ?_, fun b hb => ?_⟩
  · rw [zput_ne _ _ (by omega), zput_ne _ _ (by omega), zg_n _ _ _ (by omega), zg_n _ _ _ (by omega)]
  · rw [zput_ne _ _ (by omega), zput_ne _ _ (by omega)]
    (rw [zg_m _ _ _ _ _ (by omega)]; rw [zg_s])
  · rw [zput_ne _ _ (by omega), zput_ne _ _ (by omega)]
    (rw [zg_s])
  · rw [zput_ne _ _ (by omega), zput_self]
    unfold zcpy
    rw [if_pos (by omega), zg_n _ _ _ (by omega), zg_n _ _ _ (by omega), show (0 : Int) + (((r : Nat) : Int) - 0) = ((r : Nat) : Int) by omega]
    exact m3 r hr
  · rw [zput_self]
    unfold zcpy
    rw [if_pos (by omega), zput_ne _ _ (by omega), zg_n _ _ _ (by omega), zg_n _ _ _ (by omega), show (0 : Int) + (((b : Nat) : Int) - 0) = ((b : Nat) : Int) by omega]
    exact m4 b hb
theorem c_pjoin {O : zOm} (hO : zWld O) {p n a b : Nat} {f : Nat → Nat} {M : zMem} {K : Option zV → zMem → Prop} (hp : zPar (zS O) p) (hn1 : 0 < n) (hn2 : n ≤ 16) (hM : zPC M p n f) (ha : a ≤ 16) (hb : b ≤ 16)
    (hk : ∀ M', (∀ b j, ¬ (((p : Nat) : Int) ≤ b ∧ b ≤ ((p + 3 : Nat) : Int)) → M' b j = M b j) → zPC M' p n (zjc (zcg n f) a b) → K none M') : zR O F_Parting_join [(2, ((p : Nat) : Int)), (0, ((a : Nat) : Int)), (0, ((b : Nat) : Int))] M K := by
  have hp0 := hp
  obtain ⟨p0, p1, p2, p3, p4, p5, p6, p7, p8⟩ := hp
  obtain ⟨m1, m2, m3, m4⟩ := hM
  have hg16 : ∀ q, q < n → zcg n f q < 16 := fun q hq => by
    have h1 := zcg_lt (f := f) hq
    have h2 := zcm_le n f
    omega
  apply r_Parting_join hO
  unfold B_Parting_join
  ((with_reducible refine i_Seq (i_Seq (i_Blk (i_Seq (i_Set (i_I ?_)))))); simp only [w_set0, w_set1, w_setn0, w_setn1])
  refine w_ForN n (fun r ρ M' => ρ = [((p : Nat) : Int), ((a : Nat) : Int), ((b : Nat) : Int), ((r : Nat) : Int)] ∧ (∀ b j, ¬ b = ((p + 1 : Nat) : Int) → M' b j = M b j) ∧ ∀ x : Nat, x < n → M' ((p + 1 : Nat) : Int) ((x : Nat) : Int) = ((if x < r then zjc (zcg n f) a b x else zcg n f x : Nat) : Int)) ⟨rfl, fun _ _ _ => rfl, fun x hx => by rw [if_neg (Nat.not_lt_zero _)]; exact m3 x hx⟩ ?_ ?_
  · rintro r ρ M8 X8 hr ⟨rfl, hf8, h8⟩ hX8
    have gn8 : M8 ((p : Nat) : Int) ((3 : Nat) : Int) = ((n : Nat) : Int) := (hf8 _ _ (by omega)).trans m1
    have gr := h8 r hr
    rw [if_neg (Nat.lt_irrefl _)] at gr
    have hgr := hg16 r hr
    by_cases e : zcg n f r = b
    · ((with_reducible refine i_turn (i_cI_lt (i_L3 (i_F (i_A0 ?_))))); (with_reducible refine i_fld (by assumption) ?_); (rw [gn8]); (with_reducible refine i_t (by omega) ?_); (with_reducible refine i_If (i_cI_eq (i_IA (i_FR (i_A0 ?_))))); (with_reducible refine i_fldR (by assumption) ?_); (with_reducible refine i_L3 ?_); (with_reducible refine i_in (by assumption) (by omega) (by omega) ?_); (with_reducible refine i_L2 ?_); (rw [gr]); (with_reducible refine i_t (by omega) ?_); (with_reducible refine i_sIA (i_FR (i_A0 ?_))); (with_reducible refine i_fldR (by assumption) ?_); (with_reducible refine i_L3 (i_L1 ?_)); (with_reducible refine i_in (by assumption) (by omega) (by omega) ?_); (with_reducible refine i_up (i_Inc3 ?_)); rw [zx_inc (by omega)]; simp only [w_set0, w_set1, w_setn0, w_setn1])
      refine hX8 _ _ ⟨rfl, fun b j q => by rw [zg_n _ _ _ q]; exact hf8 b j q, fun x hx => ?_⟩
      by_cases w : x = r
      · subst w; rw [zg_s, if_pos (by omega)]; unfold zjc; rw [if_pos e]
      · rw [zg_m _ _ _ _ _ (by omega), h8 x hx]
        by_cases w2 : x < r
        · rw [if_pos w2, if_pos (by omega)]
        · rw [if_neg w2, if_neg (by omega)]
    · ((with_reducible refine i_turn (i_cI_lt (i_L3 (i_F (i_A0 ?_))))); (with_reducible refine i_fld (by assumption) ?_); (rw [gn8]); (with_reducible refine i_t (by omega) ?_); (with_reducible refine i_If (i_cI_eq (i_IA (i_FR (i_A0 ?_))))); (with_reducible refine i_fldR (by assumption) ?_); (with_reducible refine i_L3 ?_); (with_reducible refine i_in (by assumption) (by omega) (by omega) ?_); (with_reducible refine i_L2 ?_); (rw [gr]); (with_reducible refine i_f (by omega) ?_); (with_reducible refine i_up (i_Inc3 ?_)); rw [zx_inc (by omega)]; simp only [w_set0, w_set1, w_setn0, w_setn1])
      refine hX8 _ _ ⟨rfl, hf8, fun x hx => ?_⟩
      rw [h8 x hx]
      by_cases w : x = r
      · subst w; rw [if_neg (Nat.lt_irrefl _), if_pos (by omega)]; unfold zjc; rw [if_neg e]
      · by_cases w2 : x < r
        · rw [if_pos w2, if_pos (by omega)]
        · rw [if_neg w2, if_neg (by omega)]
  · rintro ρ M8 X8 ⟨rfl, hf8, h8⟩
    have gn8 : M8 ((p : Nat) : Int) ((3 : Nat) : Int) = ((n : Nat) : Int) := (hf8 _ _ (by omega)).trans m1
    ((with_reducible refine i_turn (i_cI_lt (i_L3 (i_F (i_A0 ?_))))); (with_reducible refine i_fld (by assumption) ?_); (rw [gn8]); (with_reducible refine i_f (by omega) ?_); (with_reducible refine i_sCall (i_as1 (i_A0 (i_as0 ?_)))); (with_reducible refine i_recv0 (by assumption) ?_))
    refine c_numberA hO hp0 gn8 hn2 (f := zjc (zcg n f) a b) (fun q hq => ⟨by rw [h8 q hq, if_pos hq], zjc_16 ha hg16 q hq⟩) (fun M2 f2 h2 => ⟨rfl, ?_⟩)
    (with_reducible refine i_RetV ?_)
    exact hk M2 (fun b j q => by rw [f2 b j (by omega), hf8 b j (by omega)]) h2
theorem c_put {O : zOm} (hO : zWld O) {p n r b : Nat} {f : Nat → Nat} {M : zMem} {K : Option zV → zMem → Prop} (hp : zPar (zS O) p) (hn2 : n ≤ 16) (hM : zPC M p n f) (hr : r < n) (hb : b ≤ 16)
    (hk : ∀ M', (∀ b j, ¬ (((p : Nat) : Int) ≤ b ∧ b ≤ ((p + 3 : Nat) : Int)) → M' b j = M b j) → zPC M' p n (fun q => if q = r then b else zcg n f q) → K none M') : zR O F_Parting_put [(2, ((p : Nat) : Int)), (0, ((r : Nat) : Int)), (0, ((b : Nat) : Int))] M K := by
  have hp0 := hp
  obtain ⟨p0, p1, p2, p3, p4, p5, p6, p7, p8⟩ := hp
  obtain ⟨m1, m2, m3, m4⟩ := hM
  apply r_Parting_put hO
  unfold B_Parting_put
  ((with_reducible refine i_Seq (i_Seq (i_sIA (i_FR (i_A0 ?_))))); (with_reducible refine i_fldR (by assumption) ?_); (with_reducible refine i_L1 (i_L2 ?_)); (with_reducible refine i_in (by assumption) (by omega) (by omega) ?_); (with_reducible refine i_sCall (i_as1 (i_A0 (i_as0 ?_)))); (with_reducible refine i_recv0 (by assumption) ?_))
  refine c_numberA hO hp0 (n := n) (f := fun q => if q = r then b else zcg n f q) ?_ hn2 (fun q hq => ⟨?_, ?_⟩) (fun M2 f2 h2 => ⟨rfl, ?_⟩)
  · (rw [zg_n _ _ _ (by omega)])
    exact m1
  · by_cases e : q = r
    · subst e
      rw [zg_s]
      show ((b : Nat) : Int) = ((if q = q then b else zcg n f q : Nat) : Int)
      rw [if_pos rfl]
    · (rw [zg_m _ _ _ _ _ (by omega)])
      show _ = ((if q = r then b else zcg n f q : Nat) : Int)
      rw [if_neg e]; exact m3 q hq
  · show (if q = r then b else zcg n f q) ≤ 16
    have h1 := zcg_lt (f := f) hq
    have h2 := zcm_le n f
    split <;> omega
  · (with_reducible refine i_RetV ?_)
    exact hk M2 (fun b j q => by rw [f2 b j (by omega), zg_n _ _ _ (by omega)]) h2
theorem c_lift {O : zOm} (hO : zWld O) {p n r : Nat} {f : Nat → Nat} {M : zMem} {K : Option zV → zMem → Prop} (hp : zPar (zS O) p) (hn2 : n ≤ 16) (hM : zPC M p n f) (hr : r < n)
    (hk : ∀ M', (∀ b j, ¬ (((p : Nat) : Int) ≤ b ∧ b ≤ ((p + 3 : Nat) : Int)) → M' b j = M b j) → zPC M' p n (fun q => if q = r then 16 else zcg n f q) → K none M') : zR O F_Parting_lift [(2, ((p : Nat) : Int)), (0, ((r : Nat) : Int))] M K := by
  have hp0 := hp
  obtain ⟨p0, p1, p2, p3, p4, p5, p6, p7, p8⟩ := hp
  obtain ⟨m1, m2, m3, m4⟩ := hM
  apply r_Parting_lift hO
  unfold B_Parting_lift
  ((with_reducible refine i_Seq (i_Seq (i_sIA (i_FR (i_A0 ?_))))); (with_reducible refine i_fldR (by assumption) ?_); (with_reducible refine i_L1 (i_I ?_)); (with_reducible refine i_in (by assumption) (by omega) (by omega) ?_); (with_reducible refine i_sCall (i_as1 (i_A0 (i_as0 ?_)))); (with_reducible refine i_recv0 (by assumption) ?_))
  refine c_numberA hO hp0 (n := n) (f := fun q => if q = r then 16 else zcg n f q) ?_ hn2 (fun q hq => ⟨?_, ?_⟩) (fun M2 f2 h2 => ⟨rfl, ?_⟩)
  · (rw [zg_n _ _ _ (by omega)])
    exact m1
  · by_cases e : q = r
    · subst e
      rw [zg_s]
      show (16 : Int) = ((if q = q then 16 else zcg n f q : Nat) : Int)
      rw [if_pos rfl]; rfl
    · (rw [zg_m _ _ _ _ _ (by omega)])
      show _ = ((if q = r then 16 else zcg n f q : Nat) : Int)
      rw [if_neg e]; exact m3 q hq
  · show (if q = r then 16 else zcg n f q) ≤ 16
    have h1 := zcg_lt (f := f) hq
    have h2 := zcm_le n f
    split <;> omega
  · (with_reducible refine i_RetV ?_)
    exact hk M2 (fun b j q => by rw [f2 b j (by omega), zg_n _ _ _ (by omega)]) h2
theorem c_isAlone {O : zOm} (hO : zWld O) {p n r : Nat} {f : Nat → Nat} {M : zMem} {K : Option zV → zMem → Prop} (hp : zPar (zS O) p) (hn2 : n ≤ 16) (hM : zPC M p n f) (hr : r < n)
    (hk : K (some (0, zbI (decide (zSz (zcg n f) n (zcg n f r) = 1)))) M) : zR O F_Parting_isAlone [(2, ((p : Nat) : Int)), (0, ((r : Nat) : Int))] M K := by
  obtain ⟨p0, p1, p2, p3, p4, p5, p6, p7, p8⟩ := hp
  obtain ⟨m1, m2, m3, m4⟩ := hM
  have h1 := zcg_lt (f := f) hr
  have h2 := zcm_le n f
  have e1 := m3 r hr
  have e2 := m4 _ h1
  have hiff : (zmk (fun q => decide (q < n) && decide (zcg n f q = zcg n f r)) = zmk (fun i => decide (i = r))) ↔ zSz (zcg n f) n (zcg n f r) = 1 := by
    constructor
    · intro h
      have h3 := zmk_inj h
      have h4 : zSz (zcg n f) n (zcg n f r) = zcnt (fun i => decide (i = r)) n := zcnt_ext fun i hi => by
        have := h3 i (by omega)
        rw [decide_eq_true hi, Bool.true_and] at this
        exact this
      have h5 := zcnt_ins (W := fun _ => false) (c := r) rfl n
      rw [h4]
      rw [zcnt_z (fun _ _ => rfl), if_pos hr] at h5
      have h6 : zcnt (fun i => decide (i = r)) n = 0 + 1 := by
        rw [← h5]
        exact zcnt_ext fun i _ => by simp
      omega
    · intro h
      refine zmk_ext fun i _ => ?_
      by_cases w : i = r
      · subst w; rw [decide_eq_true hr]; simp
      · rw [decide_eq_false w]
        by_cases v : i < n
        · rw [decide_eq_true v, Bool.true_and]
          refine decide_eq_false (fun z => ?_)
          unfold zSz at h
          rcases Nat.lt_or_ge i r with u | u
          · have := zcnt_two (s := fun q => decide (zcg n f q = zcg n f r)) u hr (decide_eq_true z) (decide_eq_true rfl)
            omega
          · have := zcnt_two (s := fun q => decide (zcg n f q = zcg n f r)) (show r < i by omega) v (decide_eq_true rfl) (decide_eq_true z)
            omega
        · rw [decide_eq_false v]; rfl
  apply r_Parting_isAlone hO
  unfold B_Parting_isAlone
  by_cases c : zSz (zcg n f) n (zcg n f r) = 1
  · rw [decide_eq_true c] at hk
    have c2 := hiff.mpr c
    ((with_reducible refine i_RetZ (i_eIf (i_cI_eq (i_IA (i_FR (i_A0 ?_)))))); (with_reducible refine i_fldR (by assumption) ?_); (with_reducible refine i_IA (i_FR (i_A0 ?_))); (with_reducible refine i_fldR (by assumption) ?_); (with_reducible refine i_L1 ?_); (with_reducible refine i_in (by assumption) (by omega) (by omega) ?_); (with_reducible refine i_in (by assumption) (by omega) (by omega) ?_); (with_reducible refine i_Shl (i_I (i_L1 ?_))); (rw [e1]); (rw [e2]); (rw [yshl_mk (by omega)]); (refine i_t c2 ?_); (with_reducible refine i_I ?_); (with_reducible refine i_z (Or.inr rfl) ?_))
    exact hk
  · rw [decide_eq_false c] at hk
    have c2 : ¬ _ = _ := fun z => c (hiff.mp z)
    ((with_reducible refine i_RetZ (i_eIf (i_cI_eq (i_IA (i_FR (i_A0 ?_)))))); (with_reducible refine i_fldR (by assumption) ?_); (with_reducible refine i_IA (i_FR (i_A0 ?_))); (with_reducible refine i_fldR (by assumption) ?_); (with_reducible refine i_L1 ?_); (with_reducible refine i_in (by assumption) (by omega) (by omega) ?_); (with_reducible refine i_in (by assumption) (by omega) (by omega) ?_); (with_reducible refine i_Shl (i_I (i_L1 ?_))); (rw [e1]); (rw [e2]); (rw [yshl_mk (by omega)]); (refine i_f c2 ?_); (with_reducible refine i_I ?_); (with_reducible refine i_z (Or.inl rfl) ?_))
    exact hk
end
section
-- part d5.cjoin.lean.txt
/-! ===== partings by the rule: the class ===== -/
theorem zRl_109 {S : List zSh} (hS : S = zmS zC0) : zRl S 109 := ⟨zo_109 hS, zf_109_0 hS, zf_109_1 hS, zf_109_2 hS, zf_109_3 hS, zCA (a := 110) (ty := .int) (n := 256) hS rfl⟩
theorem zRl_106 {S : List zSh} (hS : S = zmS zC0) : zRl S 106 := ⟨zo_106 hS, zf_106_0 hS, zf_106_1 hS, zf_106_2 hS, zf_106_3 hS, zCA (a := 107) (ty := .int) (n := 256) hS rfl⟩
theorem zcg_16 {n : Nat} (hn : n ≤ 16) (f : Nat → Nat) (q : Nat) : zcg n f q < 16 := by
  by_cases h : q < n
  · have h1 := zcg_lt (f := f) h
    have h2 := zcm_le n f
    omega
  · rw [zcg_0 f h]; omega
/-- the rule's telling of a parting set in it -/
theorem c_tellA {O : zOm} (hO : zWld O) {r x y n : Nat} {f : Nat → Nat} {T : Nat → Nat → Bool} {M : zMem} {K : Option zV → zMem → Prop} (hr : zRl (zS O) r) (hx : zTeC (zS O) x) (hy : zNet (zS O) y) (hrx : r + 1 < x) (hyx : y + 1 < x ∨ x + 12 < y) (hyr : y + 1 < r ∨ r + 1 < y) (hN : zNR M y n T) (hT : zReg n T) (hM : zPC M (x + 1) n f) (hn : n ≤ 16)
    (hk : ∀ M', (∀ b j, ¬ (b = ((r : Nat) : Int) ∨ b = ((r + 1 : Nat) : Int) ∨ b = ((x : Nat) : Int) ∨ ((x + 5 : Nat) : Int) ≤ b ∧ b ≤ ((x + 12 : Nat) : Int)) → M' b j = M b j) → zTR M' x n (zRq n T f) → K (some (0, ((zLgt n T f : Nat) : Int))) M') : zR O F_Rule_tell [(2, ((r : Nat) : Int)), (2, ((y : Nat) : Int)), (2, ((x : Nat) : Int))] M K :=
  c_tell hO hr hx hy hrx hyx hyr hN hT hM hn (by have := zcm_le n f; omega) (fun q hq => zcg_lt hq) (fun i hi => zcg_on hi) hk
theorem zNR.to {M M' : zMem} {y n : Nat} {T : Nat → Nat → Bool} (h : zNR M y n T) (e : ∀ b j : Int, ((y : Nat) : Int) ≤ b → b ≤ ((y + 1 : Nat) : Int) → M' b j = M b j) : zNR M' y n T :=
  ⟨by rw [e _ _ (by omega) (by omega)]; exact h.1, fun p hp => by rw [e _ _ (by omega) (by omega)]; exact h.2 p hp⟩
theorem c_joinTwo {O : zOm} (hO : zWld O) (hS : zS O = zmS zC0) {y n cur : Nat} {g : Nat → Nat} {T : Nat → Nat → Bool} {M : zMem} {K : Option zV → zMem → Prop} (hy : zNet (zS O) y) (hy7 : y + 1 < 108 ∨ 131 < y) (hN : zNR M y n T) (hT : zReg n T) (hn1 : 0 < n) (hn2 : n ≤ 16) (hg : zcg n g = g) (hB : zPC M 124 n g) (hs : M ((108 : Nat) : Int) ((6 : Nat) : Int) = ((cur : Nat) : Int)) (hc : cur ≤ 20000)
    (hk : ∀ M', (∀ b j, ¬ (((108 : Nat) : Int) ≤ b ∧ b ≤ ((131 : Nat) : Int)) → M' b j = M b j) → zPC M' 124 n (zJ1 n T (g, cur)).1 → M' ((108 : Nat) : Int) ((6 : Nat) : Int) = (((zJ1 n T (g, cur)).2 : Nat) : Int) → K (some (0, zbI (decide ((zJb n T g cur).1 < cur)))) M') : zR O F_Search_joinTwo [(2, ((108 : Nat) : Int)), (2, ((y : Nat) : Int))] M K := by
  have t0 := zo_108 hS
  have t1 := zf_108_0 hS
  have t2 := zf_108_1 hS
  have t3 := zf_108_2 hS
  have t4 := zf_108_3 hS
  have t5 := zf_108_6 hS
  have hR := zRl_109 hS
  have hX := zTeB.to hS zTe_111
  have hP := zParB.to hS zPa_124
  have hR0 := hR
  have hX0 := hX
  have hP0 := hP
  obtain ⟨r0, r1, r2, r3, r4, r5⟩ := hR
  obtain ⟨⟨x0, x1, x2, x3, x4, x5, x6, x7⟩, ⟨xa, xb⟩, hQ0, -⟩ := hX
  have hQ := hQ0
  obtain ⟨q0, q1, q2, q3, q4, q5, q6, q7, q8⟩ := hQ
  obtain ⟨p0, p1, p2, p3, p4, p5, p6, p7, p8⟩ := hP
  have hm16 := zcm_le n g
  apply r_Search_joinTwo hO
  unfold B_Search_joinTwo
  have hJok := zJb_ok n T g cur
  unfold zJ1 at hk
  dsimp only at hk
  unfold zJb at hk hJok
  generalize hme : zcmx n g = m at hm16 hk hJok
  have hB2 : M ((124 : Nat) : Int) ((4 : Nat) : Int) = ((m : Nat) : Int) := by rw [← hme]; exact hB.2.1
  have hJo := fun i hi => zJout_ok (n := n) (T := T) (g := g) (m := m) (cur := cur) (s := (cur, 0, 0)) ⟨Nat.le_refl _, fun h => absurd h (Nat.lt_irrefl _)⟩ i hi
  ((with_reducible refine i_Seq (i_Set (i_I (i_Seq (i_Set (i_I (i_Seq (i_Blk (i_Seq (i_Set (i_I ?_))))))))))); simp only [w_set0, w_set1, w_setn0, w_setn1])
  refine w_ForN m (fun i ρ M' => (∃ A B l, ρ = ((108 : Nat) : Int) :: ((y : Nat) : Int) :: A :: B :: ((i : Nat) : Int) :: l ∧ ((zJout n T g m (cur, 0, 0) i).1 < cur → A = (((zJout n T g m (cur, 0, 0) i).2.1 : Nat) : Int) ∧ B = (((zJout n T g m (cur, 0, 0) i).2.2 : Nat) : Int)) ∧ (¬ (zJout n T g m (cur, 0, 0) i).1 < cur → A = -1)) ∧ (∀ b j, ¬ (b = ((108 : Nat) : Int) ∧ j = 6 ∨ ((109 : Nat) : Int) ≤ b ∧ b ≤ ((123 : Nat) : Int)) → M' b j = M b j) ∧ M' ((108 : Nat) : Int) ((6 : Nat) : Int) = (((zJout n T g m (cur, 0, 0) i).1 : Nat) : Int)) ⟨⟨_, _, _, rfl, fun h => absurd h (Nat.lt_irrefl _), fun _ => rfl⟩, fun _ _ _ => rfl, hs⟩ ?_ ?_
  · rintro i ρ M5 X5 hi ⟨⟨A, B, l5, rfl, hA1, hA2⟩, hf5, hs5⟩ hX5
    have gm5 : M5 ((124 : Nat) : Int) ((4 : Nat) : Int) = ((m : Nat) : Int) := (hf5 _ _ (by omega)).trans hB2
    have hoi := hJo i (by omega)
    rw [zJout_su] at hX5
    generalize zJout n T g m (cur, 0, 0) i = s0 at hoi hX5 hA1 hA2 hs5 ⊢
    ((with_reducible refine i_turn (i_cI_lt (i_L4 (i_F (i_FR (i_A0 ?_)))))); (with_reducible refine i_fldR (by assumption) ?_); (with_reducible refine i_fld (by assumption) ?_); (rw [gm5]); (with_reducible refine i_t (by omega) ?_); (with_reducible refine i_Blk (i_Seq (i_Set (i_Add (i_L4 (i_I ?_)))))); rw [zx_inc (by omega)]; simp only [w_set0, w_set1, w_setn0, w_setn1]; rw [w_setT])
    refine w_ForN (m - (i + 1)) (fun j ρ M' => (∃ A B l, ρ = ((108 : Nat) : Int) :: ((y : Nat) : Int) :: A :: B :: ((i : Nat) : Int) :: ((i + 1 + j : Nat) : Int) :: l ∧ ((zJin n T g i s0 j).1 < cur → A = (((zJin n T g i s0 j).2.1 : Nat) : Int) ∧ B = (((zJin n T g i s0 j).2.2 : Nat) : Int)) ∧ (¬ (zJin n T g i s0 j).1 < cur → A = -1)) ∧ (∀ b j, ¬ (b = ((108 : Nat) : Int) ∧ j = 6 ∨ ((109 : Nat) : Int) ≤ b ∧ b ≤ ((123 : Nat) : Int)) → M' b j = M b j) ∧ M' ((108 : Nat) : Int) ((6 : Nat) : Int) = (((zJin n T g i s0 j).1 : Nat) : Int)) ⟨⟨_, _, _, rfl, hA1, hA2⟩, hf5, hs5⟩ ?_ ?_
    · rintro j0 ρ M6 X6 hj ⟨⟨A, B, l6, rfl, hA1, hA2⟩, hf6, hs6⟩ hX6
      have gm6 : M6 ((124 : Nat) : Int) ((4 : Nat) : Int) = ((m : Nat) : Int) := (hf6 _ _ (by omega)).trans hB2
      have gB6 : zPC M6 124 n g := hB.fr (fun b j h1 h2 => hf6 b j (by omega))
      have gN6 : zNR M6 y n T := hN.to (fun b j h1 h2 => hf6 b j (by omega))
      have hoj := zJin_ok (n := n) (T := T) (g := g) (i := i) hoi j0 (by omega)
      rw [zJin_su, show i + 1 + (j0 + 1) = i + 1 + j0 + 1 by omega] at hX6
      have hjm : i + 1 + j0 < m := by omega
      generalize zJin n T g i s0 j0 = s at hoj hX6 hA1 hA2 hs6 ⊢
      generalize i + 1 + j0 = j at hX6 hjm ⊢
      ((with_reducible refine i_turn (i_cI_lt (i_L5 (i_F (i_FR (i_A0 ?_)))))); (with_reducible refine i_fldR (by assumption) ?_); (with_reducible refine i_fld (by assumption) ?_); (rw [gm6]); (with_reducible refine i_t (by omega) ?_); (with_reducible refine i_Blk (i_Seq (i_sCall (i_as1 (i_FR (i_FR (i_A0 ?_))))))); (with_reducible refine i_fldR (by assumption) ?_); (with_reducible refine i_fldR (by assumption) ?_); (with_reducible refine i_as1 (i_FR (i_A0 ?_))); (with_reducible refine i_fldR (by assumption) ?_); (with_reducible refine i_as0 ?_); (with_reducible refine i_recv0 (by assumption) ?_))
      refine c_pbecome hO (p := 112) (q := 124) hQ0 hP0 (by omega) hn2 gB6 (fun M7 f7 h7 => ⟨rfl, ?_⟩)
      ((with_reducible refine i_Seq (i_sCall (i_as1 (i_FR (i_FR (i_A0 ?_)))))); (with_reducible refine i_fldR (by assumption) ?_); (with_reducible refine i_fldR (by assumption) ?_); (with_reducible refine i_as1 (i_L4 (i_as1 (i_L5 (i_as0 ?_))))); (with_reducible refine i_recv0 (by assumption) ?_))
      refine c_pjoin hO (p := 112) hQ0 hn1 hn2 h7 (by omega) (by omega) (fun M8 f8 h8 => ⟨rfl, ?_⟩)
      rw [hg] at h8
      ((with_reducible refine i_Seq (i_Set (i_Call (i_as1 (i_FR (i_A0 ?_)))))); (with_reducible refine i_fldR (by assumption) ?_); (with_reducible refine i_as1 (i_A1 (i_as1 (i_FR (i_A0 ?_))))); (with_reducible refine i_fldR (by assumption) ?_); (with_reducible refine i_as0 ?_); (with_reducible refine i_recv0 (by assumption) ?_); simp only [w_set0, w_set1, w_setn0, w_setn1])
      refine c_tellA hO (r := 109) (x := 111) hR0 hX0 hy (by omega) (by omega) (by omega) (gN6.to (fun b j h1 h2 => by rw [f8 b j (by omega), f7 b j (by omega)])) hT h8 hn2 (fun M9 f9 h9 => ⟨_, rfl, ?_⟩)
      have hs9 : M9 ((108 : Nat) : Int) ((6 : Nat) : Int) = ((s.1 : Nat) : Int) := by rw [f9 _ _ (by omega), f8 _ _ (by omega), f7 _ _ (by omega)]; exact hs6
      have hf9 : ∀ b j, ¬ (b = ((108 : Nat) : Int) ∧ j = 6 ∨ ((109 : Nat) : Int) ≤ b ∧ b ≤ ((123 : Nat) : Int)) → M9 b j = M b j := fun b j q => by rw [f9 b j (by omega), f8 b j (by omega), f7 b j (by omega), hf6 b j q]
      have hln := zLn_le (T := T) (f := zjc g i j) hn2
      have hs1 := hoj.1
      unfold zJst at hX6
      by_cases w : zLgt n T (zjc g i j) < s.1
      · rw [if_pos w] at hX6
        ((with_reducible refine i_If (i_cI_lt ?_)); rw [w_setT]; (with_reducible refine i_L6 (i_F (i_A0 ?_))); (with_reducible refine i_fld (by assumption) ?_); (rw [hs9]); (with_reducible refine i_t (by omega) ?_); (with_reducible refine i_Seq (i_sF (i_A0 (i_L6 ?_)))); (with_reducible refine i_fld (by assumption) ?_); (with_reducible refine i_Seq (i_Set (i_L4 (i_Set ?_)))); simp only [w_set0, w_set1, w_setn0, w_setn1]; (with_reducible refine i_L5 (i_up ?_)); simp only [w_set0, w_set1, w_setn0, w_setn1]; (with_reducible refine i_Inc5 ?_); rw [zx_inc (by omega)]; simp only [w_set0, w_set1, w_setn0, w_setn1])
        refine hX6 _ _ ⟨⟨_, _, _, rfl, fun _ => ⟨rfl, rfl⟩, fun z => absurd (show zLgt n T (zjc g i j) < cur by omega) z⟩, fun b j q => ?_, zg_s _ _ _ _ _⟩
        rw [zg_o _ _ (by omega)]; exact hf9 b j q
      · rw [if_neg w] at hX6
        ((with_reducible refine i_If (i_cI_lt ?_)); rw [w_setT]; (with_reducible refine i_L6 (i_F (i_A0 ?_))); (with_reducible refine i_fld (by assumption) ?_); (rw [hs9]); (with_reducible refine i_f (by omega) ?_); (with_reducible refine i_up (i_Inc5 ?_)); rw [zx_inc (by omega)]; simp only [w_set0, w_set1, w_setn0, w_setn1])
        exact hX6 _ _ ⟨⟨_, _, _, rfl, hA1, hA2⟩, hf9, hs9⟩
    · rintro ρ M6 X6 ⟨⟨A, B, l6, rfl, hA1, hA2⟩, hf6, hs6⟩
      have gm6 : M6 ((124 : Nat) : Int) ((4 : Nat) : Int) = ((m : Nat) : Int) := (hf6 _ _ (by omega)).trans hB2
      rw [show i + 1 + (m - (i + 1)) = m by omega]
      ((with_reducible refine i_turn (i_cI_lt (i_L5 (i_F (i_FR (i_A0 ?_)))))); (with_reducible refine i_fldR (by assumption) ?_); (with_reducible refine i_fld (by assumption) ?_); (rw [gm6]); (with_reducible refine i_f (by omega) ?_); (with_reducible refine i_up (i_Inc4 ?_)); rw [zx_inc (by omega)]; simp only [w_set0, w_set1, w_setn0, w_setn1])
      exact hX5 _ _ ⟨⟨_, _, _, rfl, hA1, hA2⟩, hf6, hs6⟩
  · rintro ρ M5 X5 ⟨⟨A, B, l5, rfl, hA1, hA2⟩, hf5, hs5⟩
    have gm5 : M5 ((124 : Nat) : Int) ((4 : Nat) : Int) = ((m : Nat) : Int) := (hf5 _ _ (by omega)).trans hB2
    have gB5 : zPC M5 124 n g := hB.fr (fun b j h1 h2 => hf5 b j (by omega))
    generalize zJout n T g m (cur, 0, 0) m = s at hJok hk hA1 hA2 hs5
    by_cases w : s.1 < cur
    · obtain ⟨a1, a2⟩ := hA1 w
      obtain ⟨hxy, hym⟩ := hJok.2 w
      subst a1; subst a2
      rw [if_pos w, decide_eq_true w] at hk
      ((with_reducible refine i_turn (i_cI_lt (i_L4 (i_F (i_FR (i_A0 ?_)))))); (with_reducible refine i_fldR (by assumption) ?_); (with_reducible refine i_fld (by assumption) ?_); (rw [gm5]); (with_reducible refine i_f (by omega) ?_); (with_reducible refine i_Seq (i_If (i_cI_eq (i_L2 (i_I ?_))))); (with_reducible refine i_f (by omega) ?_); (with_reducible refine i_Seq (i_sCall (i_as1 (i_FR (i_A0 ?_))))); (with_reducible refine i_fldR (by assumption) ?_); (with_reducible refine i_as1 (i_L2 (i_as1 (i_L3 (i_as0 ?_))))); (with_reducible refine i_recv0 (by assumption) ?_))
      refine c_pjoin hO (p := 124) hP0 hn1 hn2 gB5 (by omega) (by omega) (fun M8 f8 h8 => ⟨rfl, ?_⟩)
      rw [hg] at h8
      ((with_reducible refine i_RetZ (i_I ?_)); (with_reducible refine i_z (Or.inr rfl) ?_))
      exact hk M8 (fun b j q => by rw [f8 b j (by omega), hf5 b j (by omega)]) (h8.cg hn1) (by rw [f8 _ _ (by omega)]; exact hs5)
    · have a1 := hA2 w
      subst a1
      rw [if_neg w, decide_eq_false w] at hk
      have e : s.1 = cur := by have := hJok.1; omega
      ((with_reducible refine i_turn (i_cI_lt (i_L4 (i_F (i_FR (i_A0 ?_)))))); (with_reducible refine i_fldR (by assumption) ?_); (with_reducible refine i_fld (by assumption) ?_); (rw [gm5]); (with_reducible refine i_f (by omega) ?_); (with_reducible refine i_Seq (i_If (i_cI_eq (i_L2 (i_I ?_))))); simp only [w_set0, w_set1, w_setn0, w_setn1]; (with_reducible refine i_t trivial ?_); (with_reducible refine i_RetZ (i_I ?_)); (with_reducible refine i_z (Or.inl rfl) ?_))
      exact hk M5 (fun b j q => hf5 b j (by omega)) gB5 (by rw [← e]; exact hs5)
end
