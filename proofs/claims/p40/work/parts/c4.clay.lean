/-! ===== the class: rows and chains by the rule; excepts anew ===== -/
theorem c_layRows {O : zOm} (hO : zWld O) {r x y n m : Nat} {g : Nat → Nat} {T : Nat → Nat → Bool} {M : zMem} {K : Option zV → zMem → Prop} (hx : zTeC (zS O) x) (hy : zNet (zS O) y) (hyx : y + 1 < x ∨ x + 12 < y) (hN : zNR M y n T) (hT : zReg n T) (hM : zPR M (x + 1) n g m) (hn : n ≤ 16) (hm : m ≤ 16) (hon : ∀ i, i < m → ∃ p, p < n ∧ g p = i)
    (hk : ∀ M', (∀ b j, ¬ b = ((x + 5 : Nat) : Int) → M' b j = M b j) → (∀ b k : Nat, b < m → k < zSz g n b → M' ((x + 5 : Nat) : Int) ((zSt0 g n b + k : Nat) : Int) = ((zrow n g T b k : Nat) : Int)) → K none M') : zR O F_Rule_layRows [(2, ((r : Nat) : Int)), (2, ((y : Nat) : Int)), (2, ((x : Nat) : Int))] M K := by
  obtain ⟨⟨o, x0, x1, x2, x3, x4, x5, x6⟩, ⟨y1, y2⟩, hp, -⟩ := hx
  have hy0 := hy
  obtain ⟨u1, u2, u3, u4⟩ := hy
  have hp0 := hp
  obtain ⟨p0, p1, p2, p3, p4, p5, p6, p7, p8⟩ := hp
  apply r_Rule_layRows hO
  unfold B_Rule_layRows
  ((with_reducible refine i_Seq (i_Seq (i_Set (i_FR (i_A2 ?_))))); (with_reducible refine i_fldR (by assumption) ?_); (with_reducible refine i_Seq (i_Set (i_I (i_Blk (i_Seq (i_Set (i_I ?_))))))); simp only [w_set0, w_set1, w_setn0, w_setn1])
  refine w_ForN m (fun b ρ M' => (∃ l, ρ = ((r : Nat) : Int) :: ((y : Nat) : Int) :: ((x : Nat) : Int) :: ((x + 1 : Nat) : Int) :: ((zSt0 g n b : Nat) : Int) :: ((b : Nat) : Int) :: l) ∧ (∀ b j, ¬ b = ((x + 5 : Nat) : Int) → M' b j = M b j) ∧ ∀ b' k : Nat, b' < b → k < zSz g n b' → M' ((x + 5 : Nat) : Int) ((zSt0 g n b' + k : Nat) : Int) = ((zrow n g T b' k : Nat) : Int)) ⟨⟨_, rfl⟩, fun _ _ _ => rfl, fun _ _ h => absurd h (by omega)⟩ ?_ ?_
  · rintro b ρ M1 X hb ⟨⟨l, rfl⟩, hf, hR⟩ hX
    have gm : M1 ((x + 1 : Nat) : Int) ((4 : Nat) : Int) = ((m : Nat) : Int) := (hf _ _ (by omega)).trans hM.2.1
    have gP : zPR M1 (x + 1) n g m := hM.fr (fun b j h1 h2 => hf b j (by omega))
    have gk : M1 ((x + 1 + 2 : Nat) : Int) ((b : Nat) : Int) = zmk (fun q => decide (q < n) && decide (g q = b)) := gP.2.2.2 b hb
    have gN : zNR M1 y n T := ⟨by rw [hf _ _ (by omega)]; exact hN.1, fun p hp => by rw [hf _ _ (by omega)]; exact hN.2 p hp⟩
    have hin := zSt0_su g n b
    have hle := zSt0_le g n (b + 1)
    ((with_reducible refine i_turn (i_cI_lt (i_L5 (i_F (i_A3 ?_))))); (with_reducible refine i_fld (by assumption) ?_); (rw [gm]); (with_reducible refine i_t (by omega) ?_); (with_reducible refine i_Blk (i_Seq (i_Set (i_IA (i_FR (i_A3 ?_)))))); (with_reducible refine i_fldR (by assumption) ?_); (with_reducible refine i_L5 ?_); (with_reducible refine i_in (by assumption) (by omega) (by omega) ?_); (with_reducible refine i_Seq (i_Set (i_Call (i_as1 ?_)))); (rw [gk]); simp only [w_set0, w_set1, w_setn0, w_setn1]; (with_reducible refine i_A3 (i_as1 (i_L5 (i_as0 ?_)))); (with_reducible refine i_recv0 (by assumption) ?_); (refine c_sizeOf hO hp0 gP hn hm hb ⟨_, rfl, ?_⟩); (with_reducible refine i_Seq (i_Set (i_Call (i_as1 ?_)))); simp only [w_set0, w_set1, w_setn0, w_setn1]; (with_reducible refine i_A1 (i_as1 ?_)); rw [w_setT]; simp only [w_set0, w_set1, w_setn0, w_setn1]; (with_reducible refine i_L6 (i_as0 (i_recv1 ?_))); simp only [w_set0, w_set1, w_setn0, w_setn1]; rw [w_setT]; simp only [w_set0, w_set1, w_setn0, w_setn1])
    refine c_firstInRow hO hy0 gN hn hT (hon b hb) (fun fst e1 e2 e3 => ⟨_, rfl, ?_⟩)
    have er : ∀ k, zrow n g T b k = (zlyS n (fun p => decide (g p = b)) T fst k).1 := fun k => by unfold zrow; rw [e1]; rfl
    ((with_reducible refine i_Blk (i_Seq (i_Set (i_I ?_)))); simp only [w_set0, w_set1, w_setn0, w_setn1]; rw [w_setT]; simp only [w_set0, w_set1, w_setn0, w_setn1]; rw [w_setT])
    refine w_ForN (zSz g n b) (fun i ρ M' => (∃ l, ρ = ((r : Nat) : Int) :: ((y : Nat) : Int) :: ((x : Nat) : Int) :: ((x + 1 : Nat) : Int) :: ((zSt0 g n b + i : Nat) : Int) :: ((b : Nat) : Int) :: zmk (fun q => (decide (q < n) && decide (g q = b)) && !(zlyS n (fun p => decide (g p = b)) T fst i).2 q) :: ((zSz g n b : Nat) : Int) :: (((zlyS n (fun p => decide (g p = b)) T fst i).1 : Nat) : Int) :: ((i : Nat) : Int) :: l) ∧ (∀ b j, ¬ b = ((x + 5 : Nat) : Int) → M' b j = M b j) ∧ (∀ b' k : Nat, b' < b → k < zSz g n b' → M' ((x + 5 : Nat) : Int) ((zSt0 g n b' + k : Nat) : Int) = ((zrow n g T b' k : Nat) : Int)) ∧ ∀ k : Nat, k < i → M' ((x + 5 : Nat) : Int) ((zSt0 g n b + k : Nat) : Int) = ((zrow n g T b k : Nat) : Int)) ⟨⟨_, by
      rw [zmk_ext (s := fun q => (decide (q < n) && decide (g q = b)) && !(zlyS n (fun p => decide (g p = b)) T fst 0).2 q) (t := fun q => decide (q < n) && decide (g q = b)) (fun q _ => by show ((decide (q < n) && decide (g q = b)) && !false) = _; simp)]; rfl⟩, hf, hR, fun _ h => absurd h (by omega)⟩ ?_ ?_
    · rintro i ρ M2 X1 hi ⟨⟨l, rfl⟩, hf, hR, hr⟩ hX1
      have hlt := zlyS_lt (n := n) (B := fun p => decide (g p = b)) (T := T) (first := fst) e2 i
      have e5 : zlyS n (fun p => decide (g p = b)) T fst (i + 1) = (znxt n (fun p => decide (g p = b)) T (fun q => (zlyS n (fun p => decide (g p = b)) T fst i).2 q || decide (q = (zlyS n (fun p => decide (g p = b)) T fst i).1)) (zlyS n (fun p => decide (g p = b)) T fst i).1, fun q => (zlyS n (fun p => decide (g p = b)) T fst i).2 q || decide (q = (zlyS n (fun p => decide (g p = b)) T fst i).1)) := rfl
      have e6 := er i
      rw [e5] at hX1
      generalize (zlyS n (fun p => decide (g p = b)) T fst i).1 = last at hlt e6 hX1 ⊢
      generalize (zlyS n (fun p => decide (g p = b)) T fst i).2 = L at hX1 ⊢
      have hfm : zmk (fun j => ((decide (j < n) && decide (g j = b)) && !L j) && !decide (j = last)) = zmk (fun j => decide (j < n) && (decide (g j = b) && !(L j || decide (j = last)))) := zmk_ext fun j _ => by
        cases decide (j < n) <;> cases decide (g j = b) <;> cases L j <;> cases decide (j = last) <;> rfl
      have hfm2 : zmk (fun q => (decide (q < n) && decide (g q = b)) && !(L q || decide (q = last))) = zmk (fun j => decide (j < n) && (decide (g j = b) && !(L j || decide (j = last)))) := zmk_ext fun j _ => by
        cases decide (j < n) <;> rfl
      have hM5 : ∀ k : Nat, k < i + 1 → zput M2 ((x + 5 : Nat) : Int) (zup (M2 ((x + 5 : Nat) : Int)) ((zSt0 g n b + i : Nat) : Int) ((last : Nat) : Int)) ((x + 5 : Nat) : Int) ((zSt0 g n b + k : Nat) : Int) = ((zrow n g T b k : Nat) : Int) := fun k hk1 => by
        by_cases e : k = i
        · subst e; rw [zg_s, e6]
        · rw [zg_m _ _ _ _ _ (by omega)]; exact hr k (by omega)
      have hR5 : ∀ b' k : Nat, b' < b → k < zSz g n b' → zput M2 ((x + 5 : Nat) : Int) (zup (M2 ((x + 5 : Nat) : Int)) ((zSt0 g n b + i : Nat) : Int) ((last : Nat) : Int)) ((x + 5 : Nat) : Int) ((zSt0 g n b' + k : Nat) : Int) = ((zrow n g T b' k : Nat) : Int) := fun b' k h1 h2 => by
        have := zSt0_in g n h1
        rw [zg_m _ _ _ _ _ (by omega)]; exact hR b' k h1 h2
      have hf5 : ∀ b' j, ¬ b' = ((x + 5 : Nat) : Int) → zput M2 ((x + 5 : Nat) : Int) (zup (M2 ((x + 5 : Nat) : Int)) ((zSt0 g n b + i : Nat) : Int) ((last : Nat) : Int)) b' j = M b' j := fun b' j q => by rw [zg_n _ _ _ q]; exact hf b' j q
      have gr : M2 ((y + 1 : Nat) : Int) ((last : Nat) : Int) = zmk (T last) := (hf _ _ (by omega)).trans (hN.2 last (by omega))
      have hX2 : ∀ (l : zLoc) (v : Nat), v = znxt n (fun p => decide (g p = b)) T (fun q => L q || decide (q = last)) last → X1 (((r : Nat) : Int) :: ((y : Nat) : Int) :: ((x : Nat) : Int) :: ((x + 1 : Nat) : Int) :: ((zSt0 g n b + i + 1 : Nat) : Int) :: ((b : Nat) : Int) :: zmk (fun j => decide (j < n) && (decide (g j = b) && !(L j || decide (j = last)))) :: ((zSz g n b : Nat) : Int) :: ((v : Nat) : Int) :: ((i + 1 : Nat) : Int) :: l) (zput M2 ((x + 5 : Nat) : Int) (zup (M2 ((x + 5 : Nat) : Int)) ((zSt0 g n b + i : Nat) : Int) ((last : Nat) : Int))) := fun l v hv => by
        subst hv
        exact hX1 _ _ ⟨⟨l, by rw [← hfm2]; rfl⟩, hf5, hR5, hM5⟩
      unfold znxt at hX2
      obtain ⟨q1, q2, q3⟩ := zfind_ok (fun q => (decide (g q = b) && !(L q || decide (q = last))) && T last q) n
      obtain ⟨q4, q5, q6⟩ := zfind_ok (fun q => decide (g q = b) && !(L q || decide (q = last))) n
      generalize hz1 : zfind (fun q => (decide (g q = b) && !(L q || decide (q = last))) && T last q) n = z1 at q1 q2 q3 hX2
      generalize hz2 : zfind (fun q => decide (g q = b) && !(L q || decide (q = last))) n = z2 at q4 q5 q6 hX2
      by_cases c1 : z1 < n
      · have hb1 := q2 c1
        have hs1 : (fun j => (decide (j < n) && (decide (g j = b) && !(L j || decide (j = last)))) && T last j) z1 = true := by
          show ((decide (z1 < n) && (decide (g z1 = b) && !(L z1 || decide (z1 = last)))) && T last z1) = true
          rw [decide_eq_true c1, Bool.true_and]; exact hb1
        have hs2 : ∀ j, j < z1 → (fun j => (decide (j < n) && (decide (g j = b) && !(L j || decide (j = last)))) && T last j) j = false := fun j hj => by
          show ((decide (j < n) && (decide (g j = b) && !(L j || decide (j = last)))) && T last j) = false
          rw [Bool.and_assoc, show ((decide (g j = b) && !(L j || decide (j = last))) && T last j) = false from q3 j hj, Bool.and_false]
        have hn1 : zmk (fun j => (decide (j < n) && (decide (g j = b) && !(L j || decide (j = last)))) && T last j) ≠ 0 := fun h => by
          rw [zmk_eq0] at h; have := hs1.symm.trans (h z1 (by omega)); cases this
        have hn2 : zmk (fun j => decide (j < n) && (decide (g j = b) && !(L j || decide (j = last)))) ≠ 0 := fun h => by
          rw [zmk_eq0] at h
          have := h z1 (by omega)
          have h3 : (decide (z1 < n) && (decide (g z1 = b) && !(L z1 || decide (z1 = last)))) = true := by
            rw [Bool.and_eq_true] at hs1; exact hs1.1
          have h4 := h3.symm.trans this; cases h4
        ((with_reducible refine i_turn (i_cAnd (i_cI_lt (i_L9 (i_L7 ?_))))); (with_reducible refine i_t (by omega) ?_); (with_reducible refine i_cI_lt (i_L4 (i_I ?_))); (with_reducible refine i_t (by omega) ?_); (with_reducible refine i_Blk (i_Seq (i_sIA (i_FR (i_A2 ?_))))); (with_reducible refine i_fldR (by assumption) ?_); (with_reducible refine i_L4 (i_L8 ?_)); (with_reducible refine i_in (by assumption) (by omega) (by omega) ?_); (with_reducible refine i_Seq (i_Inc4 (i_Seq (i_Set (i_And ?_))))); rw [zx_inc (by omega)]; simp only [w_set0, w_set1, w_setn0, w_setn1]; (with_reducible refine i_L6 (i_Xor (i_Shl (i_I (i_L8 (i_I (i_Seq (i_Set (i_And ?_))))))))); (rw [yshl_mk (by omega)]); (rw [ynot_mk]); (rw [hfm]); simp only [w_set0, w_set1, w_setn0, w_setn1]; (with_reducible refine i_L6 (i_IA (i_FR (i_A1 ?_)))); (with_reducible refine i_fldR (by assumption) ?_); (with_reducible refine i_L8 ?_); (with_reducible refine i_in (by assumption) (by omega) (by omega) ?_); (with_reducible refine i_If (i_cZ_ne ?_)); rw [zg_n _ _ _ (by omega)]; (rw [gr]); (rw [yand_mk]); simp only [w_set0, w_set1, w_setn0, w_setn1]; (with_reducible refine i_L6 ?_); rw [w_setT]; (with_reducible refine i_t (by omega) ?_); (with_reducible refine i_Set (i_Call (i_as1 (i_eIf (i_cZ_ne (i_L10 ?_)))))); (with_reducible refine i_t (by omega) ?_); (with_reducible refine i_L10 (i_as0 (i_recv2 ?_))); (refine s_leastOf hO (by omega) hs1 hs2 ⟨_, rfl, ?_⟩); (with_reducible refine i_up ?_); simp only [w_set0, w_set1, w_setn0, w_setn1]; (with_reducible refine i_Inc9 ?_); rw [zx_inc (by omega)]; simp only [w_set0, w_set1, w_setn0, w_setn1])
        exact hX2 _ _ (by rw [if_pos c1])
      · have hn1 : zmk (fun j => (decide (j < n) && (decide (g j = b) && !(L j || decide (j = last)))) && T last j) = 0 := by
          rw [zmk_eq0]
          intro j _
          show ((decide (j < n) && (decide (g j = b) && !(L j || decide (j = last)))) && T last j) = false
          by_cases w : j < n
          · rw [Bool.and_assoc, show ((decide (g j = b) && !(L j || decide (j = last))) && T last j) = false from q3 j (by omega), Bool.and_false]
          · rw [decide_eq_false w]; rfl
        by_cases c2 : z2 < n
        · have hb1 := q5 c2
          have hs1 : (fun j => decide (j < n) && (decide (g j = b) && !(L j || decide (j = last)))) z2 = true := by
            show (decide (z2 < n) && (decide (g z2 = b) && !(L z2 || decide (z2 = last)))) = true
            rw [decide_eq_true c2, Bool.true_and]; exact hb1
          have hs2 : ∀ j, j < z2 → (fun j => decide (j < n) && (decide (g j = b) && !(L j || decide (j = last)))) j = false := fun j hj => by
            show (decide (j < n) && (decide (g j = b) && !(L j || decide (j = last)))) = false
            rw [show (decide (g j = b) && !(L j || decide (j = last))) = false from q6 j hj, Bool.and_false]
          have hn2 : zmk (fun j => decide (j < n) && (decide (g j = b) && !(L j || decide (j = last)))) ≠ 0 := fun h => by
            rw [zmk_eq0] at h; have := hs1.symm.trans (h z2 (by omega)); cases this
          ((with_reducible refine i_turn (i_cAnd (i_cI_lt (i_L9 (i_L7 ?_))))); (with_reducible refine i_t (by omega) ?_); (with_reducible refine i_cI_lt (i_L4 (i_I ?_))); (with_reducible refine i_t (by omega) ?_); (with_reducible refine i_Blk (i_Seq (i_sIA (i_FR (i_A2 ?_))))); (with_reducible refine i_fldR (by assumption) ?_); (with_reducible refine i_L4 (i_L8 ?_)); (with_reducible refine i_in (by assumption) (by omega) (by omega) ?_); (with_reducible refine i_Seq (i_Inc4 (i_Seq (i_Set (i_And ?_))))); rw [zx_inc (by omega)]; simp only [w_set0, w_set1, w_setn0, w_setn1]; (with_reducible refine i_L6 (i_Xor (i_Shl (i_I (i_L8 (i_I (i_Seq (i_Set (i_And ?_))))))))); (rw [yshl_mk (by omega)]); (rw [ynot_mk]); (rw [hfm]); simp only [w_set0, w_set1, w_setn0, w_setn1]; (with_reducible refine i_L6 (i_IA (i_FR (i_A1 ?_)))); (with_reducible refine i_fldR (by assumption) ?_); (with_reducible refine i_L8 ?_); (with_reducible refine i_in (by assumption) (by omega) (by omega) ?_); (with_reducible refine i_If (i_cZ_ne ?_)); rw [zg_n _ _ _ (by omega)]; (rw [gr]); (rw [yand_mk]); simp only [w_set0, w_set1, w_setn0, w_setn1]; (with_reducible refine i_L6 ?_); rw [w_setT]; (with_reducible refine i_t (by omega) ?_); (with_reducible refine i_Set (i_Call (i_as1 (i_eIf (i_cZ_ne (i_L10 ?_)))))); (with_reducible refine i_f (by omega) ?_); (with_reducible refine i_L6 (i_as0 (i_recv2 ?_))); (refine s_leastOf hO (by omega) hs1 hs2 ⟨_, rfl, ?_⟩); (with_reducible refine i_up ?_); simp only [w_set0, w_set1, w_setn0, w_setn1]; (with_reducible refine i_Inc9 ?_); rw [zx_inc (by omega)]; simp only [w_set0, w_set1, w_setn0, w_setn1])
          exact hX2 _ _ (by rw [if_neg c1, if_pos c2])
        · have hn2 : zmk (fun j => decide (j < n) && (decide (g j = b) && !(L j || decide (j = last)))) = 0 := by
            rw [zmk_eq0]
            intro j _
            show (decide (j < n) && (decide (g j = b) && !(L j || decide (j = last)))) = false
            by_cases w : j < n
            · rw [show (decide (g j = b) && !(L j || decide (j = last))) = false from q6 j (by omega), Bool.and_false]
            · rw [decide_eq_false w]; rfl
          ((with_reducible refine i_turn (i_cAnd (i_cI_lt (i_L9 (i_L7 ?_))))); (with_reducible refine i_t (by omega) ?_); (with_reducible refine i_cI_lt (i_L4 (i_I ?_))); (with_reducible refine i_t (by omega) ?_); (with_reducible refine i_Blk (i_Seq (i_sIA (i_FR (i_A2 ?_))))); (with_reducible refine i_fldR (by assumption) ?_); (with_reducible refine i_L4 (i_L8 ?_)); (with_reducible refine i_in (by assumption) (by omega) (by omega) ?_); (with_reducible refine i_Seq (i_Inc4 (i_Seq (i_Set (i_And ?_))))); rw [zx_inc (by omega)]; simp only [w_set0, w_set1, w_setn0, w_setn1]; (with_reducible refine i_L6 (i_Xor (i_Shl (i_I (i_L8 (i_I (i_Seq (i_Set (i_And ?_))))))))); (rw [yshl_mk (by omega)]); (rw [ynot_mk]); (rw [hfm]); simp only [w_set0, w_set1, w_setn0, w_setn1]; (with_reducible refine i_L6 (i_IA (i_FR (i_A1 ?_)))); (with_reducible refine i_fldR (by assumption) ?_); (with_reducible refine i_L8 ?_); (with_reducible refine i_in (by assumption) (by omega) (by omega) ?_); (with_reducible refine i_If (i_cZ_ne ?_)); rw [zg_n _ _ _ (by omega)]; (rw [gr]); (rw [yand_mk]); simp only [w_set0, w_set1, w_setn0, w_setn1]; (with_reducible refine i_L6 ?_); rw [w_setT]; (with_reducible refine i_f (by omega) ?_); (with_reducible refine i_up (i_Inc9 ?_)); rw [zx_inc (by omega)]; simp only [w_set0, w_set1, w_setn0, w_setn1])
          exact hX2 _ _ (by rw [if_neg c1, if_neg c2])
    · rintro ρ M2 X1 ⟨⟨l, rfl⟩, hf, hR, hr⟩
      generalize zmk (fun q => (decide (q < n) && decide (g q = b)) && !(zlyS n (fun p => decide (g p = b)) T fst (zSz g n b)).2 q) = w1
      generalize (zlyS n (fun p => decide (g p = b)) T fst (zSz g n b)).1 = w2
      ((with_reducible refine i_turn (i_cAnd (i_cI_lt (i_L9 (i_L7 ?_))))); (with_reducible refine i_f (by omega) ?_); (with_reducible refine i_up (i_Inc5 ?_)); rw [zx_inc (by omega)]; simp only [w_set0, w_set1, w_setn0, w_setn1])
      refine hX _ _ ⟨⟨_, rfl⟩, hf, fun b' k h1 h2 => ?_⟩
      by_cases e : b' = b
      · subst e; exact hr k h2
      · exact hR b' k (by omega) h2
  · rintro ρ M1 X ⟨⟨l, rfl⟩, hf, hR⟩
    have gm : M1 ((x + 1 : Nat) : Int) ((4 : Nat) : Int) = ((m : Nat) : Int) := (hf _ _ (by omega)).trans hM.2.1
    ((with_reducible refine i_turn (i_cI_lt (i_L5 (i_F (i_A3 ?_))))); (with_reducible refine i_fld (by assumption) ?_); (rw [gm]); (with_reducible refine i_f (by omega) ?_); (with_reducible refine i_RetV ?_))
    exact hk _ hf hR
theorem zchn_sh (S : Nat → Nat → Bool) (w v : Nat → Nat) (f k : Nat) (h : ∀ i, i ≤ k → w (f + i) = v i) : zchn S w f k = zchn S v 0 k := by
  induction k with
  | zero => rfl
  | succ k ih =>
    funext p q
    rw [zchn_su, zchn_su, ih (fun i hi => h i (by omega)), h k (by omega), show f + k + 1 = f + (k + 1) by omega, h (k + 1) (by omega), Nat.zero_add]
theorem zchn_up {S : Nat → Nat → Bool} {w : Nat → Nat} {f k : Nat} (a b : Nat) (h : S a b = true) : zchn S w f k a b = true := by
  induction k with
  | zero => exact h
  | succ k ih => rw [zchn_su, ih]; rfl
theorem zchn_at {S : Nat → Nat → Bool} {w : Nat → Nat} {f k i : Nat} (h : i < k) : zchn S w f k (w (f + i)) (w (f + i + 1)) = true := by
  induction k with
  | zero => exact absurd h (Nat.not_lt_zero _)
  | succ k ih =>
    rw [zchn_su]
    by_cases e : i = k
    · subst e; simp
    · rw [ih (by omega)]; rfl
theorem zrow_lt {n i : Nat} {g : Nat → Nat} {T : Nat → Nat → Bool} (h : ∃ p, p < n ∧ g p = i) (k : Nat) : zrow n g T i k < n := by
  rcases zmnF_ok (fun p => decide (g p = i)) (zdeg n (fun p => decide (g p = i)) T) n with ⟨q1, q2, q3⟩ | ⟨p, q1, q2, q3, q4, q5⟩
  · obtain ⟨p, w1, w2⟩ := h
    exact absurd (q3 p w1) (by simp [w2])
  · unfold zrow
    rw [q1]
    exact zlyS_lt q3 k
theorem c_takeChains {O : zOm} (hO : zWld O) {r x y n m : Nat} {g : Nat → Nat} {T : Nat → Nat → Bool} {M : zMem} {K : Option zV → zMem → Prop} (hr : zRl (zS O) r) (hx : zTeC (zS O) x) (hy : zNet (zS O) y) (hrx : r + 1 < x) (hyx : y + 1 < x ∨ x + 12 < y) (hN : zNR M y n T) (hT : zReg n T) (hE : M ((r : Nat) : Int) ((1 : Nat) : Int) = ((2 + 2 * zBits n : Nat) : Int)) (hB : M ((r : Nat) : Int) ((2 : Nat) : Int) = ((zBits m : Nat) : Int)) (hM : zPR M (x + 1) n g m) (hn : n ≤ 16) (hm : m ≤ 16) (hon : ∀ i, i < m → ∃ p, p < n ∧ g p = i) (hrw : ∀ b k : Nat, b < m → k < zSz g n b → M ((x + 5 : Nat) : Int) ((zSt0 g n b + k : Nat) : Int) = ((zrow n g T b k : Nat) : Int)) (hS : zTk M x n m T g 768 (zrP n m T g n))
    (hk : ∀ M', (∀ b j, ¬ (b = ((x : Nat) : Int) ∧ j = 6 ∨ b = ((x + 6 : Nat) : Int) ∨ b = ((x + 8 : Nat) : Int)) → M' b j = M b j) → zTk M' x n m T g 1024 (zrSd n m T g) → K none M') : zR O F_Rule_takeChains [(2, ((r : Nat) : Int)), (2, ((y : Nat) : Int)), (2, ((x : Nat) : Int))] M K := by
  have hr0 := hr
  have hx0 := hx
  obtain ⟨r0, r1, r2, r3, r4, r5⟩ := hr
  obtain ⟨⟨o, x0, x1, x2, x3, x4, x5, x6⟩, ⟨y1, y2⟩, hp, n1, n2, n3⟩ := hx
  have n10 := n1
  obtain ⟨v1, v2, v3, v4⟩ := n1
  obtain ⟨u1, u2, u3, u4⟩ := hy
  have hp0 := hp
  obtain ⟨p0, p1, p2, p3, p4, p5, p6, p7, p8⟩ := hp
  have hb4 := zBits_4 hm
  have hbn4 := zBits_4 hn
  apply r_Rule_takeChains hO
  unfold B_Rule_takeChains
  ((with_reducible refine i_Seq (i_Seq (i_Set (i_FR (i_A2 ?_))))); (with_reducible refine i_fldR (by assumption) ?_); (with_reducible refine i_Seq (i_Set (i_I (i_Blk (i_Seq (i_Set (i_I ?_))))))); simp only [w_set0, w_set1, w_setn0, w_setn1])
  refine w_ForN m (fun b ρ M' => (∃ l, ρ = ((r : Nat) : Int) :: ((y : Nat) : Int) :: ((x : Nat) : Int) :: ((x + 1 : Nat) : Int) :: ((zSt0 g n b : Nat) : Int) :: ((b : Nat) : Int) :: l) ∧ (∀ b j, ¬ (b = ((x : Nat) : Int) ∧ j = 6 ∨ b = ((x + 6 : Nat) : Int) ∨ b = ((x + 8 : Nat) : Int)) → M' b j = M b j) ∧ zTk M' x n m T g (768 + 16 * b) (zrQ n m T g b)) ⟨⟨_, rfl⟩, fun _ _ _ => rfl, hS⟩ ?_ ?_
  · rintro b ρ M1 X hb ⟨⟨l, rfl⟩, hf, hK⟩ hX
    have gm : M1 ((x + 1 : Nat) : Int) ((4 : Nat) : Int) = ((m : Nat) : Int) := (hf _ _ (by omega)).trans hM.2.1
    have gP : zPR M1 (x + 1) n g m := hM.fr (fun b j h1 h2 => hf b j (by omega))
    have gE : M1 ((r : Nat) : Int) ((1 : Nat) : Int) = ((2 + 2 * zBits n : Nat) : Int) := (hf _ _ (by omega)).trans hE
    have gB : M1 ((r : Nat) : Int) ((2 : Nat) : Int) = ((zBits m : Nat) : Int) := (hf _ _ (by omega)).trans hB
    have hin := zSt0_su g n b
    have hle := zSt0_le g n (b + 1)
    have hsz := zSz_le g n b
    have hpos : 0 < zSz g n b := by
      obtain ⟨p, w1, w2⟩ := hon b hb
      exact zcnt_ex w1 (decide_eq_true w2)
    have hHv : zrH n m T g b = zrh n m T g (zrQ n m T g b) b := by unfold zrH; rw [decide_eq_true hb]; rfl
    have hsym := zrQ_sym n m T g b
    have gr : ∀ k : Nat, k < zSz g n b → M1 ((x + 5 : Nat) : Int) ((zSt0 g n b + k : Nat) : Int) = ((zrow n g T b k : Nat) : Int) := fun k hk1 => (hf _ _ (by omega)).trans (hrw b k hb hk1)
    have hrl : ∀ k, zrow n g T b k < n := fun k => zrow_lt (hon b hb) k
    rw [zrQ_su] at hX
    generalize zrQ n m T g b = S at hK hX hHv hsym
    have hWb := zrW_h (n := n) (m := m) (T := T) (g := g) (b := b) (by omega)
    rw [hHv] at hWb
    have hlm : ∀ c, c < 1024 → zrW n m T g c = true → (c < 768 + 16 * b + 1 ↔ c < 768 + 16 * (b + 1)) := fun c _ hc => by
      by_cases e : 768 ≤ c
      · have := (zrW_big hc).2.2 e
        omega
      · omega
    have hcv : zrh n m T g S b = decide (1 < zSz g n b ∧ ((3 + zBits m : Nat) : Int) < ((2 + 2 * zBits n : Nat) : Int) * (2 * ((zcnt (fun k => T (zrow n g T b k) (zrow n g T b (k + 1)) && !S (zrow n g T b k) (zrow n g T b (k + 1))) (zSz g n b - 1) : Nat) : Int) - ((zcnt (fun k => !S (zrow n g T b k) (zrow n g T b (k + 1))) (zSz g n b - 1) : Nat) : Int))) := by
      unfold zrh
      rw [zrK_cnt]
      apply decide_eq_decide.mpr
      generalize ((2 + 2 * zBits n : Nat) : Int) * (2 * ((zcnt (fun k => T (zrow n g T b k) (zrow n g T b (k + 1)) && !S (zrow n g T b k) (zrow n g T b (k + 1))) (zSz g n b - 1) : Nat) : Int) - ((zcnt (fun k => !S (zrow n g T b k) (zrow n g T b (k + 1))) (zSz g n b - 1) : Nat) : Int)) = w
      constructor <;> intro h <;> refine ⟨?_, ?_⟩ <;> omega
    have hrd : ∀ k, k + 1 < zSz g n b → zrow n g T b k ≠ zrow n g T b (k + 1) := fun k h z => by
      have := (zrow_ok (T := T) (show k < zSz g n b by omega)).2.2 (k + 1) (by omega) z.symm
      omega
    generalize zrow n g T b = w at gr hrl hX hcv hrd
    ((with_reducible refine i_turn (i_cI_lt (i_L5 (i_F (i_A3 ?_))))); (with_reducible refine i_fld (by assumption) ?_); (rw [gm]); (with_reducible refine i_t (by omega) ?_); (with_reducible refine i_Blk (i_Seq (i_Set (i_Call (i_as1 (i_A3 (i_as1 (i_L5 (i_as0 ?_))))))))); (with_reducible refine i_recv0 (by assumption) ?_); (refine c_sizeOf hO hp0 gP hn hm hb ⟨_, rfl, ?_⟩); (with_reducible refine i_Seq (i_Set (i_I (i_Seq (i_Set (i_I (i_Seq (i_Blk (i_Seq (i_Set ?_)))))))))); simp only [w_set0, w_set1, w_setn0, w_setn1]; (with_reducible refine i_L4 ?_); simp only [w_set0, w_set1, w_setn0, w_setn1]; rw [w_setT]; simp only [w_set0, w_set1, w_setn0, w_setn1]; rw [w_setT]; simp only [w_set0, w_set1, w_setn0, w_setn1]; rw [w_setT]; simp only [w_set0, w_set1, w_setn0, w_setn1]; rw [w_setT])
    refine w_ForN (zSz g n b - 1) (fun k ρ M' => (∃ l, ρ = ((r : Nat) : Int) :: ((y : Nat) : Int) :: ((x : Nat) : Int) :: ((x + 1 : Nat) : Int) :: ((zSt0 g n b : Nat) : Int) :: ((b : Nat) : Int) :: ((zSz g n b : Nat) : Int) :: ((zcnt (fun k => T (w k) (w (k + 1)) && !S (w k) (w (k + 1))) k : Nat) : Int) :: ((zcnt (fun k => !S (w k) (w (k + 1))) k : Nat) : Int) :: ((zSt0 g n b + k : Nat) : Int) :: l) ∧ M' = M1) ⟨⟨_, rfl⟩, rfl⟩ ?_ ?_
    · rintro k ρ M2 X1 hk1 ⟨⟨l, rfl⟩, rfl⟩ hX1
      have g1 := gr k (by omega)
      have g2 := gr (k + 1) (by omega)
      rw [← Nat.add_assoc] at g2
      have l1 := hrl k
      have l2 := hrl (k + 1)
      have gT : M2 ((y + 1 : Nat) : Int) ((w k : Nat) : Int) = zmk (T (w k)) := (hf _ _ (by omega)).trans (hN.2 _ (by omega))
      have c1 := zcnt_le (fun k => T (w k) (w (k + 1)) && !S (w k) (w (k + 1))) k
      have c2 := zcnt_le (fun k => !S (w k) (w (k + 1))) k
      have hX2 : ∀ (l : zLoc) (a c : Nat), a = zcnt (fun k => T (w k) (w (k + 1)) && !S (w k) (w (k + 1))) (k + 1) → c = zcnt (fun k => !S (w k) (w (k + 1))) (k + 1) → X1 (((r : Nat) : Int) :: ((y : Nat) : Int) :: ((x : Nat) : Int) :: ((x + 1 : Nat) : Int) :: ((zSt0 g n b : Nat) : Int) :: ((b : Nat) : Int) :: ((zSz g n b : Nat) : Int) :: ((a : Nat) : Int) :: ((c : Nat) : Int) :: ((zSt0 g n b + k + 1 : Nat) : Int) :: l) M2 := fun l a c h1 h2 => by subst h1; subst h2; exact hX1 _ _ ⟨⟨l, rfl⟩, rfl⟩
      rw [zcnt_su, zcnt_su] at hX2
      cases eS : S (w k) (w (k + 1)) <;> cases eT : T (w k) (w (k + 1)) <;> simp only [eS, eT, Bool.not_false, Bool.not_true, Bool.and_true, Bool.and_false, Bool.false_eq_true, if_true, if_false, Nat.add_zero] at hX2
      all_goals (first | (((with_reducible refine i_turn (i_cI_lt (i_L9 (i_Sub (i_Add (i_L4 (i_L6 (i_I ?_)))))))); rw [zx_add (by omega)]; rw [zx_subc (by omega) (by omega)]; (with_reducible refine i_t (by omega) ?_); (with_reducible refine i_Blk (i_Seq (i_Set (i_IA (i_FR (i_A2 ?_)))))); (with_reducible refine i_fldR (by assumption) ?_); (with_reducible refine i_L9 ?_); (with_reducible refine i_in (by assumption) (by omega) (by omega) ?_); (with_reducible refine i_Seq (i_Set (i_IA (i_FR ?_)))); (rw [g1]); simp only [w_set0, w_set1, w_setn0, w_setn1]; (with_reducible refine i_A2 ?_); (with_reducible refine i_fldR (by assumption) ?_); (with_reducible refine i_Add (i_L9 (i_I ?_))); rw [zx_inc (by omega)]; (with_reducible refine i_in (by assumption) (by omega) (by omega) ?_); (with_reducible refine i_If (i_cNot (i_cZ_ne (i_Call (i_as1 (i_FR ?_)))))); (rw [g2]); simp only [w_set0, w_set1, w_setn0, w_setn1]; (with_reducible refine i_A2 ?_); (with_reducible refine i_fldR (by assumption) ?_); (with_reducible refine i_as1 ?_); rw [w_setT]; simp only [w_set0, w_set1, w_setn0, w_setn1]; (with_reducible refine i_L10 (i_as1 ?_)); rw [w_setT]; (with_reducible refine i_L11 (i_as0 ?_)); (with_reducible refine i_recv0 (by assumption) ?_); (refine s_joins hO n10 hK.1 (by omega) (by omega) ⟨_, rfl, ?_⟩); (rw [eS]); rw [zbI_f]; (with_reducible refine i_f (by omega) ?_); (with_reducible refine i_Seq (i_Inc8 (i_Set (i_Add ?_)))); rw [zx_inc (by omega)]; simp only [w_set0, w_set1, w_setn0, w_setn1]; (with_reducible refine i_L7 (i_And (i_Shr (i_IA (i_FR (i_A1 ?_)))))); (with_reducible refine i_fldR (by assumption) ?_); (with_reducible refine i_L10 ?_); (with_reducible refine i_in (by assumption) (by omega) (by omega) ?_); (with_reducible refine i_L11 (i_I (i_up ?_))); (rw [gT]); (rw [yand_1 _ (by omega)]); (rw [eT]); (rw [if_neg Bool.false_ne_true]); rw [zx_addc (by omega)]; simp only [w_set0, w_set1, w_setn0, w_setn1]; (with_reducible refine i_Inc9 ?_); rw [zx_inc (by omega)]; simp only [w_set0, w_set1, w_setn0, w_setn1])) | (((with_reducible refine i_turn (i_cI_lt (i_L9 (i_Sub (i_Add (i_L4 (i_L6 (i_I ?_)))))))); rw [zx_add (by omega)]; rw [zx_subc (by omega) (by omega)]; (with_reducible refine i_t (by omega) ?_); (with_reducible refine i_Blk (i_Seq (i_Set (i_IA (i_FR (i_A2 ?_)))))); (with_reducible refine i_fldR (by assumption) ?_); (with_reducible refine i_L9 ?_); (with_reducible refine i_in (by assumption) (by omega) (by omega) ?_); (with_reducible refine i_Seq (i_Set (i_IA (i_FR ?_)))); (rw [g1]); simp only [w_set0, w_set1, w_setn0, w_setn1]; (with_reducible refine i_A2 ?_); (with_reducible refine i_fldR (by assumption) ?_); (with_reducible refine i_Add (i_L9 (i_I ?_))); rw [zx_inc (by omega)]; (with_reducible refine i_in (by assumption) (by omega) (by omega) ?_); (with_reducible refine i_If (i_cNot (i_cZ_ne (i_Call (i_as1 (i_FR ?_)))))); (rw [g2]); simp only [w_set0, w_set1, w_setn0, w_setn1]; (with_reducible refine i_A2 ?_); (with_reducible refine i_fldR (by assumption) ?_); (with_reducible refine i_as1 ?_); rw [w_setT]; simp only [w_set0, w_set1, w_setn0, w_setn1]; (with_reducible refine i_L10 (i_as1 ?_)); rw [w_setT]; (with_reducible refine i_L11 (i_as0 ?_)); (with_reducible refine i_recv0 (by assumption) ?_); (refine s_joins hO n10 hK.1 (by omega) (by omega) ⟨_, rfl, ?_⟩); (rw [eS]); rw [zbI_f]; (with_reducible refine i_f (by omega) ?_); (with_reducible refine i_Seq (i_Inc8 (i_Set (i_Add ?_)))); rw [zx_inc (by omega)]; simp only [w_set0, w_set1, w_setn0, w_setn1]; (with_reducible refine i_L7 (i_And (i_Shr (i_IA (i_FR (i_A1 ?_)))))); (with_reducible refine i_fldR (by assumption) ?_); (with_reducible refine i_L10 ?_); (with_reducible refine i_in (by assumption) (by omega) (by omega) ?_); (with_reducible refine i_L11 (i_I (i_up ?_))); (rw [gT]); (rw [yand_1 _ (by omega)]); (rw [eT]); (rw [if_pos rfl]); rw [zx_inc (by omega)]; simp only [w_set0, w_set1, w_setn0, w_setn1]; (with_reducible refine i_Inc9 ?_); rw [zx_inc (by omega)]; simp only [w_set0, w_set1, w_setn0, w_setn1])) | (((with_reducible refine i_turn (i_cI_lt (i_L9 (i_Sub (i_Add (i_L4 (i_L6 (i_I ?_)))))))); rw [zx_add (by omega)]; rw [zx_subc (by omega) (by omega)]; (with_reducible refine i_t (by omega) ?_); (with_reducible refine i_Blk (i_Seq (i_Set (i_IA (i_FR (i_A2 ?_)))))); (with_reducible refine i_fldR (by assumption) ?_); (with_reducible refine i_L9 ?_); (with_reducible refine i_in (by assumption) (by omega) (by omega) ?_); (with_reducible refine i_Seq (i_Set (i_IA (i_FR ?_)))); (rw [g1]); simp only [w_set0, w_set1, w_setn0, w_setn1]; (with_reducible refine i_A2 ?_); (with_reducible refine i_fldR (by assumption) ?_); (with_reducible refine i_Add (i_L9 (i_I ?_))); rw [zx_inc (by omega)]; (with_reducible refine i_in (by assumption) (by omega) (by omega) ?_); (with_reducible refine i_If (i_cNot (i_cZ_ne (i_Call (i_as1 (i_FR ?_)))))); (rw [g2]); simp only [w_set0, w_set1, w_setn0, w_setn1]; (with_reducible refine i_A2 ?_); (with_reducible refine i_fldR (by assumption) ?_); (with_reducible refine i_as1 ?_); rw [w_setT]; simp only [w_set0, w_set1, w_setn0, w_setn1]; (with_reducible refine i_L10 (i_as1 ?_)); rw [w_setT]; (with_reducible refine i_L11 (i_as0 ?_)); (with_reducible refine i_recv0 (by assumption) ?_); (refine s_joins hO n10 hK.1 (by omega) (by omega) ⟨_, rfl, ?_⟩); (rw [eS]); rw [zbI_t]; (with_reducible refine i_t (by omega) ?_); (with_reducible refine i_up (i_Inc9 ?_)); rw [zx_inc (by omega)]; simp only [w_set0, w_set1, w_setn0, w_setn1])))
      all_goals exact hX2 _ _ _ (by first | rfl | omega) (by first | rfl | omega)
    · rintro ρ M2 X1 ⟨⟨l, rfl⟩, rfl⟩
      have c1 := zcnt_le (fun k => T (w k) (w (k + 1)) && !S (w k) (w (k + 1))) (zSz g n b - 1)
      have c2 := zcnt_le (fun k => !S (w k) (w (k + 1))) (zSz g n b - 1)
      by_cases hc : 1 < zSz g n b ∧ ((3 + zBits m : Nat) : Int) < ((2 + 2 * zBits n : Nat) : Int) * (2 * ((zcnt (fun k => T (w k) (w (k + 1)) && !S (w k) (w (k + 1))) (zSz g n b - 1) : Nat) : Int) - ((zcnt (fun k => !S (w k) (w (k + 1))) (zSz g n b - 1) : Nat) : Int))
      · rw [decide_eq_true hc] at hcv
        rw [hcv] at hX hWb
        simp only [if_true] at hX
        have hpos2 : 0 < zcnt (fun k => T (w k) (w (k + 1)) && !S (w k) (w (k + 1))) (zSz g n b - 1) := Classical.byContradiction fun z => by
          have z0 : zcnt (fun k => T (w k) (w (k + 1)) && !S (w k) (w (k + 1))) (zSz g n b - 1) = 0 := by omega
          have hc2 := hc.2
          rw [z0] at hc2
          have : ((2 + 2 * zBits n : Nat) : Int) * (2 * ((0 : Nat) : Int) - ((zcnt (fun k => !S (w k) (w (k + 1))) (zSz g n b - 1) : Nat) : Int)) ≤ 0 := Int.mul_nonpos_of_nonneg_of_nonpos (by omega) (by omega)
          omega
        obtain ⟨k, q1, q2, -⟩ := zcnt_has _ _ 0 hpos2
        rw [Bool.and_eq_true] at q2
        have q3 : S (w k) (w (k + 1)) = false := by have := q2.2; cases e : S (w k) (w (k + 1)); rfl; rw [e] at this; cases this
        have q4 : w k ≠ w (k + 1) := fun z => by have := q2.1; rw [z, hT.2.1] at this; cases this
        have hs : ∀ a c, S a c = true → zchn S w 0 (zSz g n b - 1) a c = true := fun a c h => zchn_up a c h
        have hup : zchn S w 0 (zSz g n b - 1) (w k) (w (k + 1)) = true := by
          have := zchn_at (S := S) (w := w) (f := 0) q1
          rwa [Nat.zero_add] at this
        have l1 := hrl k
        have l2 := hrl (k + 1)
        have hex : ∃ a c, a < c ∧ c < n ∧ S a c = false ∧ zchn S w 0 (zSz g n b - 1) a c = true := by
          rcases Nat.lt_or_ge (w k) (w (k + 1)) with z | z
          · exact ⟨w k, w (k + 1), z, l2, q3, hup⟩
          · exact ⟨w (k + 1), w k, by omega, l1, by rw [hsym]; exact q3, by rw [zchn_sym hsym]; exact hup⟩
        obtain ⟨a, c, w1, w2, hf1, hf2⟩ := hex
        have hfew := zrV_few hK.2.2 hn hs w1 w2 hf1 hf2
        ((with_reducible refine i_turn (i_cI_lt (i_L9 (i_Sub (i_Add (i_L4 (i_L6 (i_I ?_)))))))); rw [zx_add (by omega)]; rw [zx_subc (by omega) (by omega)]; (with_reducible refine i_f (by omega) ?_); (with_reducible refine i_Seq (i_If (i_cAnd (i_cI_gt (i_L6 (i_I ?_)))))); (with_reducible refine i_t (by omega) ?_); (with_reducible refine i_cZ_ne (i_Call (i_as1 (i_A0 (i_as1 (i_L7 (i_as1 (i_L8 (i_as1 (i_Add (i_I (i_F (i_A0 ?_))))))))))))); (with_reducible refine i_fld (by assumption) ?_); (with_reducible refine i_as0 ?_); (with_reducible refine i_recv0 (by assumption) ?_); (rw [gB]); rw [zx_cadd (by omega)])
        refine c_isSparing hO hr0 gE (by omega) (by omega) (by omega) (by omega) ⟨_, rfl, ?_⟩
        ((rw [decide_eq_true hc.2]); rw [zbI_t]; (with_reducible refine i_t (by omega) ?_); (with_reducible refine i_Seq (i_sCall (i_as1 (i_A2 (i_as1 (i_Call (i_as1 (i_I (i_as1 (i_L5 (i_as1 (i_I (i_as0 (i_recv1 ?_)))))))))))))); (refine c_wordOf hO (k := 3) (by omega) (by omega) (b := 0) (by omega) ⟨_, rfl, ?_⟩); (with_reducible refine i_as0 ?_); (with_reducible refine i_recv0 (by assumption) ?_))
        rw [show 256 * 3 + 16 * b + 0 = 768 + 16 * b by omega]
        refine c_addWord hO hx0 hK.2.1 (by omega) (fun d hd => zrV_top d hd) hfew (fun M3 f3 h3 => ⟨rfl, ?_⟩)
        have gN2 : zNR M3 (x + 7) n S := ⟨by rw [f3 _ _ (by omega)]; exact hK.1.1, fun p hp => by rw [f3 _ _ (by omega)]; exact hK.1.2 p hp⟩
        ((with_reducible refine i_sCall (i_as1 (i_FR (i_A2 ?_)))); (with_reducible refine i_fldR (by assumption) ?_); (with_reducible refine i_as1 (i_FR (i_A2 ?_))); (with_reducible refine i_fldR (by assumption) ?_); (with_reducible refine i_as1 (i_L4 (i_as1 (i_L6 (i_as0 ?_))))); (with_reducible refine i_recv0 (by assumption) ?_))
        refine s_Net_chain hO n10 gN2 y1 (w := fun i => w (i - zSt0 g n b)) (fun i h1 h2 => ⟨?_, ?_⟩) (fun i h1 h2 => by
          have := hrd (i - zSt0 g n b) (by omega)
          (try dsimp only)
          rw [show i + 1 - zSt0 g n b = i - zSt0 g n b + 1 by omega]
          exact this) (by omega) (by omega) (by omega) (fun M4 f4 h4 => ⟨rfl, ?_⟩)
        · have := gr (i - zSt0 g n b) (by omega)
          rw [show zSt0 g n b + (i - zSt0 g n b) = i by omega] at this
          rw [f3 _ _ (by omega)]; exact this
        · have := hrl (i - zSt0 g n b)
          show w (i - zSt0 g n b) < 16
          omega
        rw [zchn_sh S _ w _ _ (fun i _ => by show w (zSt0 g n b + i - zSt0 g n b) = _; rw [Nat.add_sub_cancel_left])] at h4
        ((with_reducible refine i_Set (i_Add (i_L4 (i_L6 (i_up ?_))))); rw [zx_add (by omega)]; simp only [w_set0, w_set1, w_setn0, w_setn1]; (with_reducible refine i_Inc5 ?_); rw [zx_inc (by omega)]; simp only [w_set0, w_set1, w_setn0, w_setn1])
        rw [← zSt0_su]
        refine hX _ _ ⟨⟨_, rfl⟩, fun b' j q => ?_, (zTk.add (L := 768 + 16 * b) hK.2.2 (by omega) hWb h4 (h3.to (fun j => by rw [f4 _ (by simp <;> omega)]) (fun j => by rw [f4 _ (by simp <;> omega)])) hs w1 w2 hf1 hf2).lim hlm⟩
        rw [f4 b' (by simp <;> omega), f3 b' j (by omega)]
        exact hf b' j q
      · rw [decide_eq_false hc] at hcv
        rw [hcv] at hX hWb
        simp only [Bool.false_eq_true, if_false] at hX
        have hfin : ∀ l, X (((r : Nat) : Int) :: ((y : Nat) : Int) :: ((x : Nat) : Int) :: ((x + 1 : Nat) : Int) :: ((zSt0 g n b + zSz g n b : Nat) : Int) :: ((b + 1 : Nat) : Int) :: l) M2 := fun l => hX _ _ ⟨⟨l, by rw [zSt0_su]⟩, hf, (hK.no hWb).lim hlm⟩
        by_cases h1 : 1 < zSz g n b
        · have hc2 : ¬ ((3 + zBits m : Nat) : Int) < ((2 + 2 * zBits n : Nat) : Int) * (2 * ((zcnt (fun k => T (w k) (w (k + 1)) && !S (w k) (w (k + 1))) (zSz g n b - 1) : Nat) : Int) - ((zcnt (fun k => !S (w k) (w (k + 1))) (zSz g n b - 1) : Nat) : Int)) := fun z => hc ⟨h1, z⟩
          ((with_reducible refine i_turn (i_cI_lt (i_L9 (i_Sub (i_Add (i_L4 (i_L6 (i_I ?_)))))))); rw [zx_add (by omega)]; rw [zx_subc (by omega) (by omega)]; (with_reducible refine i_f (by omega) ?_); (with_reducible refine i_Seq (i_If (i_cAnd (i_cI_gt (i_L6 (i_I ?_)))))); (with_reducible refine i_t (by omega) ?_); (with_reducible refine i_cZ_ne (i_Call (i_as1 (i_A0 (i_as1 (i_L7 (i_as1 (i_L8 (i_as1 (i_Add (i_I (i_F (i_A0 ?_))))))))))))); (with_reducible refine i_fld (by assumption) ?_); (with_reducible refine i_as0 ?_); (with_reducible refine i_recv0 (by assumption) ?_); (rw [gB]); rw [zx_cadd (by omega)])
          refine c_isSparing hO hr0 gE (by omega) (by omega) (by omega) (by omega) ⟨_, rfl, ?_⟩
          ((rw [decide_eq_false hc2]); rw [zbI_f]; (with_reducible refine i_f (by omega) ?_); (with_reducible refine i_Set (i_Add (i_L4 (i_L6 (i_up ?_))))); rw [zx_add (by omega)]; simp only [w_set0, w_set1, w_setn0, w_setn1]; (with_reducible refine i_Inc5 ?_); rw [zx_inc (by omega)]; simp only [w_set0, w_set1, w_setn0, w_setn1])
          exact hfin _
        · ((with_reducible refine i_turn (i_cI_lt (i_L9 (i_Sub (i_Add (i_L4 (i_L6 (i_I ?_)))))))); rw [zx_add (by omega)]; rw [zx_subc (by omega) (by omega)]; (with_reducible refine i_f (by omega) ?_); (with_reducible refine i_Seq (i_If (i_cAnd (i_cI_gt (i_L6 (i_I ?_)))))); (with_reducible refine i_f (by omega) ?_); (with_reducible refine i_Set (i_Add (i_L4 (i_L6 (i_up ?_))))); rw [zx_add (by omega)]; simp only [w_set0, w_set1, w_setn0, w_setn1]; (with_reducible refine i_Inc5 ?_); rw [zx_inc (by omega)]; simp only [w_set0, w_set1, w_setn0, w_setn1])
          exact hfin _
  · rintro ρ M1 X ⟨⟨l, rfl⟩, hf, hK⟩
    have gm : M1 ((x + 1 : Nat) : Int) ((4 : Nat) : Int) = ((m : Nat) : Int) := (hf _ _ (by omega)).trans hM.2.1
    ((with_reducible refine i_turn (i_cI_lt (i_L5 (i_F (i_A3 ?_))))); (with_reducible refine i_fld (by assumption) ?_); (rw [gm]); (with_reducible refine i_f (by omega) ?_); (with_reducible refine i_RetV ?_))
    refine hk _ hf (hK.lim (fun c h1 h2 => ?_))
    by_cases e : 768 ≤ c
    · have := (zrW_big h2).2.2 e
      omega
    · omega
theorem c_correct {O : zOm} (hO : zWld O) {x y n : Nat} {S T : Nat → Nat → Bool} {M : zMem} {K : Option zV → zMem → Prop} (hx : zTeC (zS O) x) (hy : zNet (zS O) y) (hyx : y + 1 < x ∨ x + 12 < y) (hn : M ((x + 1 : Nat) : Int) ((3 : Nat) : Int) = ((n : Nat) : Int)) (hS1 : zNR M (x + 7) n S) (hN : zNR M y n T)
    (hk : ∀ M', (∀ b j, ¬ (((x + 9 : Nat) : Int) ≤ b ∧ b ≤ ((x + 12 : Nat) : Int)) → M' b j = M b j) → zNR M' (x + 9) n (fun p q => S p q ^^ T p q) → zNR M' (x + 11) n (fun _ _ => false) → K none M') : zR O F_Telling_correct [(2, ((x : Nat) : Int)), (2, ((y : Nat) : Int))] M K := by
  obtain ⟨⟨o, x0, x1, x2, x3, x4, x5, x6⟩, ⟨y1, y2⟩, ⟨p0, p1, p2, p3, p4, p5, p6, p7, p8⟩, n1, n2, n3⟩ := hx
  have o1 := n1.2.2.2
  have o2 := n2.2.2.2
  have o3 := n3.2.2.2
  apply r_Telling_correct hO
  unfold B_Telling_correct
  ((with_reducible refine i_Seq (i_Seq (i_sCall (i_as1 (i_FR (i_A0 ?_)))))); (with_reducible refine i_fldR (by assumption) ?_); (with_reducible refine i_as1 (i_FR (i_A0 ?_))); (with_reducible refine i_fldR (by assumption) ?_); (with_reducible refine i_as1 (i_A1 (i_as0 ?_))); (with_reducible refine i_recv0 (by assumption) ?_))
  refine s_Net_differ hO n2 n1 hy hS1 hN (fun M1 f1 h1 => ⟨rfl, ?_⟩)
  have g1 : M1 ((x + 1 : Nat) : Int) ((3 : Nat) : Int) = ((n : Nat) : Int) := by rw [f1 _ (by simp <;> omega)]; exact hn
  ((with_reducible refine i_sCall (i_as1 (i_FR (i_A0 ?_)))); (with_reducible refine i_fldR (by assumption) ?_); (with_reducible refine i_as1 (i_F (i_FR (i_A0 ?_)))); (with_reducible refine i_fldR (by assumption) ?_); (with_reducible refine i_fld (by assumption) ?_); (with_reducible refine i_as0 ?_); (with_reducible refine i_recv0 (by assumption) ?_); (rw [g1]); (refine s_Net_clear hO n3 (fun M2 f2 h2 => ⟨rfl, ?_⟩)); (with_reducible refine i_RetV ?_))
  exact hk _ (fun b j q => by rw [f2 b (by simp <;> omega), f1 b (by simp <;> omega)]) (h1.fr f2 (by simp <;> omega) (by simp <;> omega)) h2
