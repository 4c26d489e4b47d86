section
-- part c4.clay.lean.txt
/-! ===== the class: rows and chains by the rule; excepts anew ===== -/
theorem c_layRows {O : zOm} (hO : zWld O) {r x y n m : Nat} {g : Nat → Nat} {T : Nat → Nat → Bool} {M : zMem} {K : Option zV → zMem → Prop} (hx : zTeC (zS O) x) (hy : zNet (zS O) y) (hyx : y + 1 < x ∨ x + 12 < y) (hN : zNR M y n T) (hT : zReg n T) (hM : zPR M (x + 1) n g m) (hn : n ≤ 16) (hm : m ≤ 16) (hon : ∀ i, i < m → ∃ p, p < n ∧ g p = i)
    (hk : ∀ M', (∀ b j, ¬ b = ((x + 5 : Nat) : Int) → M' b j = M b j) → (∀ b k : Nat, b < m → k < zSz g n b → M' ((x + 5 : Nat) : Int) ((zSt0 g n b + k : Nat) : Int) = ((zrow n g T b k : Nat) : Int)) → K none M') : zR O F_Rule_layRows [(2, ((r : Nat) : Int)), (2, ((y : Nat) : Int)), (2, ((x : Nat) : Int))] M K := by
  obtain ⟨⟨o, x0, x1, x2, x3, x4, x5, x6⟩, ⟨y1, y2⟩, hp, -⟩ := hx
  have hy0 := hy
  obtain ⟨u1, u2, u3, u4⟩ := hy
  have hp0 := hp
  obtain ⟨p0, p1, p2, p3, p4, p5, p6, p7, p8⟩ := hp
  apply r_Rule_layRows hO
  unfold B_Rule_layRows
  ((with_reducible refine i_Seq (i_Seq (i_Set (i_FR (i_A2 ?_))))); (with_reducible refine i_fldR (by assumption) ?_); (with_reducible refine i_Seq (i_Set (i_I (i_Blk (i_Seq (i_Set (i_I ?_))))))); simp only [w_set0, w_set1, w_setn0, w_setn1])
  refine w_ForN m (fun b ρ M' => (∃ l, ρ = ((r : Nat) : Int) :: ((y : Nat) : Int) :: ((x : Nat) : Int) :: ((x + 1 : Nat) : Int) :: ((zSt0 g n b : Nat) : Int) :: ((b : Nat) : Int) :: l) ∧ (∀ b j, ¬ b = ((x + 5 : Nat) : Int) → M' b j = M b j) ∧ ∀ b' k : Nat, b' < b → k < zSz g n b' → M' ((x + 5 : Nat) : Int) ((zSt0 g n b' + k : Nat) : Int) = ((zrow n g T b' k : Nat) : Int)) ⟨⟨_, rfl⟩, fun _ _ _ => rfl, fun _ _ h => absurd h (by omega)⟩ ?_ ?_
  · rintro b ρ M1 X hb ⟨⟨l, rfl⟩, hf, hR⟩ hX
    have gm : M1 ((x + 1 : Nat) : Int) ((4 : Nat) : Int) = ((m : Nat) : Int) := (hf _ _ (by omega)).trans hM.2.1
    have gP : zPR M1 (x + 1) n g m := hM.fr (fun b j h1 h2 => hf b j (by omega))
    have gk : M1 ((x + 1 + 2 : Nat) : Int) ((b : Nat) : Int) = zmk (fun q => decide (q < n) && decide (g q = b)) := gP.2.2.2 b hb
    have gN : zNR M1 y n T := ⟨by rw [hf _ _ (by omega)]; exact hN.1, fun p hp => by rw [hf _ _ (by omega)]; exact hN.2 p hp⟩
    have hin := zSt0_su g n b
    have hle := zSt0_le g n (b + 1)
    ((with_reducible refine i_turn (i_cI_lt (i_L5 (i_F (i_A3 ?_))))); (with_reducible refine i_fld (by assumption) ?_); (rw [gm]); (with_reducible refine i_t (by omega) ?_); (with_reducible refine i_Blk (i_Seq (i_Set (i_IA (i_FR (i_A3 ?_)))))); (with_reducible refine i_fldR (by assumption) ?_); (with_reducible refine i_L5 ?_); (with_reducible refine i_in (by assumption) (by omega) (by omega) ?_); (with_reducible refine i_Seq (i_Set (i_Call (i_as1 ?_)))); (rw [gk]); simp only [w_set0, w_set1, w_setn0, w_setn1]; (with_reducible refine i_A3 (i_as1 (i_L5 (i_as0 ?_)))); (with_reducible refine i_recv0 (by assumption) ?_); (refine c_sizeOf hO hp0 gP hn hm hb ⟨_, rfl, ?_⟩); (with_reducible refine i_Seq (i_Set (i_Call (i_as1 ?_)))); simp only [w_set0, w_set1, w_setn0, w_setn1]; (with_reducible refine i_A1 (i_as1 ?_)); rw [w_setT]; simp only [w_set0, w_set1, w_setn0, w_setn1]; (with_reducible refine i_L6 (i_as0 (i_recv1 ?_))); simp only [w_set0, w_set1, w_setn0, w_setn1]; rw [w_setT]; simp only [w_set0, w_set1, w_setn0, w_setn1])
    refine c_firstInRow hO hy0 gN hn hT (hon b hb) (fun fst e1 e2 e3 => ⟨_, rfl, ?_⟩)
    have er : ∀ k, zrow n g T b k = (zlyS n (fun p => decide (g p = b)) T fst k).1 := fun k => by unfold zrow; rw [e1]; rfl
    ((with_reducible refine i_Blk (i_Seq (i_Set (i_I ?_)))); simp only [w_set0, w_set1, w_setn0, w_setn1]; rw [w_setT]; simp only [w_set0, w_set1, w_setn0, w_setn1]; rw [w_setT])
    refine w_ForN (zSz g n b) (fun i ρ M' => (∃ l, ρ = ((r : Nat) : Int) :: ((y : Nat) : Int) :: ((x : Nat) : Int) :: ((x + 1 : Nat) : Int) :: ((zSt0 g n b + i : Nat) : Int) :: ((b : Nat) : Int) :: zmk (fun q => (decide (q < n) && decide (g q = b)) && !(zlyS n (fun p => decide (g p = b)) T fst i).2 q) :: ((zSz g n b : Nat) : Int) :: (((zlyS n (fun p => decide (g p = b)) T fst i).1 : Nat) : Int) :: ((i : Nat) : Int) :: l) ∧ (∀ b j, ¬ b = ((x + 5 : Nat) : Int) → M' b j = M b j) ∧ (∀ b' k : Nat, b' < b → k < zSz g n b' → M' ((x + 5 : Nat) : Int) ((zSt0 g n b' + k : Nat) : Int) = ((zrow n g T b' k : Nat) : Int)) ∧ ∀ k : Nat, k < i → M' ((x + 5 : Nat) : Int) ((zSt0 g n b + k : Nat) : Int) = ((zrow n g T b k : Nat) : Int)) ⟨⟨_, by
      rw [zmk_ext (s := fun q => (decide (q < n) && decide (g q = b)) && !(zlyS n (fun p => decide (g p = b)) T fst 0).2 q) (t := fun q => decide (q < n) && decide (g q = b)) (fun q _ => by show ((decide (q < n) && decide (g q = b)) && !false) = _; simp)]; rfl⟩, hf, hR, fun _ h => absurd h (by omega)⟩ ?_ ?_
    · rintro i ρ M2 X1 hi ⟨⟨l, rfl⟩, hf, hR, hr⟩ hX1
      have hlt := zlyS_lt (n := n) (B := fun p => decide (g p = b)) (T := T) (first := fst) e2 i
      have e5 : zlyS n (fun p => decide (g p = b)) T fst (i + 1) = (znxt n (fun p => decide (g p = b)) T (fun q => (zlyS n (fun p => decide (g p = b)) T fst i).2 q || decide (q = (zlyS n (fun p => decide (g p = b)) T fst i).1)) (zlyS n (fun p => decide (g p = b)) T fst i).1, fun q => (zlyS n (fun p => decide (g p = b)) T fst i).2 q || decide (q = (zlyS n (fun p => decide (g p = b)) T fst i).1)) := rfl
      have e6 := er i
      rw [e5] at hX1
      generalize (zlyS n (fun p => decide (g p = b)) T fst i).1 = last at hlt e6 hX1 ⊢
      generalize (zlyS n (fun p => decide (g p = b)) T fst i).2 = L at hX1 ⊢
      have hfm : zmk (fun j => ((decide (j < n) && decide (g j = b)) && !L j) && !decide (j = last)) = zmk (fun j => decide (j < n) && (decide (g j = b) && !(L j || decide (j = last)))) := zmk_ext fun j _ => by
        cases decide (j < n) <;> cases decide (g j = b) <;> cases L j <;> cases decide (j = last) <;> rfl
      have hfm2 : zmk (fun q => (decide (q < n) && decide (g q = b)) && !(L q || decide (q = last))) = zmk (fun j => decide (j < n) && (decide (g j = b) && !(L j || decide (j = last)))) := zmk_ext fun j _ => by
        cases decide (j < n) <;> rfl
      have hM5 : ∀ k : Nat, k < i + 1 → zput M2 ((x + 5 : Nat) : Int) (zup (M2 ((x + 5 : Nat) : Int)) ((zSt0 g n b + i : Nat) : Int) ((last : Nat) : Int)) ((x + 5 : Nat) : Int) ((zSt0 g n b + k : Nat) : Int) = ((zrow n g T b k : Nat) : Int) := fun k hk1 => by
        by_cases e : k = i
        · subst e; rw [zg_s, e6]
        · rw [zg_m _ _ _ _ _ (by omega)]; exact hr k (by omega)
      have hR5 : ∀ b' k : Nat, b' < b → k < zSz g n b' → zput M2 ((x + 5 : Nat) : Int) (zup (M2 ((x + 5 : Nat) : Int)) ((zSt0 g n b + i : Nat) : Int) ((last : Nat) : Int)) ((x + 5 : Nat) : Int) ((zSt0 g n b' + k : Nat) : Int) = ((zrow n g T b' k : Nat) : Int) := fun b' k h1 h2 => by
        have := zSt0_in g n h1
        rw [zg_m _ _ _ _ _ (by omega)]; exact hR b' k h1 h2
      have hf5 : ∀ b' j, ¬ b' = ((x + 5 : Nat) : Int) → zput M2 ((x + 5 : Nat) : Int) (zup (M2 ((x + 5 : Nat) : Int)) ((zSt0 g n b + i : Nat) : Int) ((last : Nat) : Int)) b' j = M b' j := fun b' j q => by rw [zg_n _ _ _ q]; exact hf b' j q
      have gr : M2 ((y + 1 : Nat) : Int) ((last : Nat) : Int) = zmk (T last) := (hf _ _ (by omega)).trans (hN.2 last (by omega))
      have hX2 : ∀ (l : zLoc) (v : Nat), v = znxt n (fun p => decide (g p = b)) T (fun q => L q || decide (q = last)) last → X1 (((r : Nat) : Int) :: ((y : Nat) : Int) :: ((x : Nat) : Int) :: ((x + 1 : Nat) : Int) :: ((zSt0 g n b + i + 1 : Nat) : Int) :: ((b : Nat) : Int) :: zmk (fun j => decide (j < n) && (decide (g j = b) && !(L j || decide (j = last)))) :: ((zSz g n b : Nat) : Int) :: ((v : Nat) : Int) :: ((i + 1 : Nat) : Int) :: l) (zput M2 ((x + 5 : Nat) : Int) (zup (M2 ((x + 5 : Nat) : Int)) ((zSt0 g n b + i : Nat) : Int) ((last : Nat) : Int))) := fun l v hv => by
        subst hv
        exact hX1 _ _ ⟨⟨l, by rw [← hfm2]; rfl⟩, hf5, hR5, hM5⟩
      unfold znxt at hX2
      obtain ⟨q1, q2, q3⟩ := zfind_ok (fun q => (decide (g q = b) && !(L q || decide (q = last))) && T last q) n
      obtain ⟨q4, q5, q6⟩ := zfind_ok (fun q => decide (g q = b) && !(L q || decide (q = last))) n
      generalize hz1 : zfind (fun q => (decide (g q = b) && !(L q || decide (q = last))) && T last q) n = z1 at q1 q2 q3 hX2
      generalize hz2 : zfind (fun q => decide (g q = b) && !(L q || decide (q = last))) n = z2 at q4 q5 q6 hX2
      by_cases c1 : z1 < n
      · have hb1 := q2 c1
        have hs1 : (fun j => (decide (j < n) && (decide (g j = b) && !(L j || decide (j = last)))) && T last j) z1 = true := by
          show ((decide (z1 < n) && (decide (g z1 = b) && !(L z1 || decide (z1 = last)))) && T last z1) = true
          rw [decide_eq_true c1, Bool.true_and]; exact hb1
        have hs2 : ∀ j, j < z1 → (fun j => (decide (j < n) && (decide (g j = b) && !(L j || decide (j = last)))) && T last j) j = false := fun j hj => by
          show ((decide (j < n) && (decide (g j = b) && !(L j || decide (j = last)))) && T last j) = false
          rw [Bool.and_assoc, show ((decide (g j = b) && !(L j || decide (j = last))) && T last j) = false from q3 j hj, Bool.and_false]
        have hn1 : zmk (fun j => (decide (j < n) && (decide (g j = b) && !(L j || decide (j = last)))) && T last j) ≠ 0 := fun h => by
          rw [zmk_eq0] at h; have := hs1.symm.trans (h z1 (by omega)); cases this
        have hn2 : zmk (fun j => decide (j < n) && (decide (g j = b) && !(L j || decide (j = last)))) ≠ 0 := fun h => by
          rw [zmk_eq0] at h
          have := h z1 (by omega)
          have h3 : (decide (z1 < n) && (decide (g z1 = b) && !(L z1 || decide (z1 = last)))) = true := by
            rw [Bool.and_eq_true] at hs1; exact hs1.1
          have h4 := h3.symm.trans this; cases h4
        ((with_reducible refine i_turn (i_cAnd (i_cI_lt (i_L9 (i_L7 ?_))))); (with_reducible refine i_t (by omega) ?_); (with_reducible refine i_cI_lt (i_L4 (i_I ?_))); (with_reducible refine i_t (by omega) ?_); (with_reducible refine i_Blk (i_Seq (i_sIA (i_FR (i_A2 ?_))))); (with_reducible refine i_fldR (by assumption) ?_); (with_reducible refine i_L4 (i_L8 ?_)); (with_reducible refine i_in (by assumption) (by omega) (by omega) ?_); (with_reducible refine i_Seq (i_Inc4 (i_Seq (i_Set (i_And ?_))))); rw [zx_inc (by omega)]; simp only [w_set0, w_set1, w_setn0, w_setn1]; (with_reducible refine i_L6 (i_Xor (i_Shl (i_I (i_L8 (i_I (i_Seq (i_Set (i_And ?_))))))))); (rw [yshl_mk (by omega)]); (rw [ynot_mk]); (rw [hfm]); simp only [w_set0, w_set1, w_setn0, w_setn1]; (with_reducible refine i_L6 (i_IA (i_FR (i_A1 ?_)))); (with_reducible refine i_fldR (by assumption) ?_); (with_reducible refine i_L8 ?_); (with_reducible refine i_in (by assumption) (by omega) (by omega) ?_); (with_reducible refine i_If (i_cZ_ne ?_)); rw [zg_n _ _ _ (by omega)]; (rw [gr]); (rw [yand_mk]); simp only [w_set0, w_set1, w_setn0, w_setn1]; (with_reducible refine i_L6 ?_); rw [w_setT]; (with_reducible refine i_t (by omega) ?_); (with_reducible refine i_Set (i_Call (i_as1 (i_eIf (i_cZ_ne (i_L10 ?_)))))); (with_reducible refine i_t (by omega) ?_); (with_reducible refine i_L10 (i_as0 (i_recv2 ?_))); (refine s_leastOf hO (by omega) hs1 hs2 ⟨_, rfl, ?_⟩); (with_reducible refine i_up ?_); simp only [w_set0, w_set1, w_setn0, w_setn1]; (with_reducible refine i_Inc9 ?_); rw [zx_inc (by omega)]; simp only [w_set0, w_set1, w_setn0, w_setn1])
        exact hX2 _ _ (by rw [if_pos c1])
      · have hn1 : zmk (fun j => (decide (j < n) && (decide (g j = b) && !(L j || decide (j = last)))) && T last j) = 0 := by
          rw [zmk_eq0]
          intro j _
          show ((decide (j < n) && (decide (g j = b) && !(L j || decide (j = last)))) && T last j) = false
          by_cases w : j < n
          · rw [Bool.and_assoc, show ((decide (g j = b) && !(L j || decide (j = last))) && T last j) = false from q3 j (by omega), Bool.and_false]
          · rw [decide_eq_false w]; rfl
        by_cases c2 : z2 < n
        · have hb1 := q5 c2
          have hs1 : (fun j => decide (j < n) && (decide (g j = b) && !(L j || decide (j = last)))) z2 = true := by
            show (decide (z2 < n) && (decide (g z2 = b) && !(L z2 || decide (z2 = last)))) = true
            rw [decide_eq_true c2, Bool.true_and]; exact hb1
          have hs2 : ∀ j, j < z2 → (fun j => decide (j < n) && (decide (g j = b) && !(L j || decide (j = last)))) j = false := fun j hj => by
            show (decide (j < n) && (decide (g j = b) && !(L j || decide (j = last)))) = false
            rw [show (decide (g j = b) && !(L j || decide (j = last))) = false from q6 j hj, Bool.and_false]
          have hn2 : zmk (fun j => decide (j < n) && (decide (g j = b) && !(L j || decide (j = last)))) ≠ 0 := fun h => by
            rw [zmk_eq0] at h; have := hs1.symm.trans (h z2 (by omega)); cases this
          ((with_reducible refine i_turn (i_cAnd (i_cI_lt (i_L9 (i_L7 ?_))))); (with_reducible refine i_t (by omega) ?_); (with_reducible refine i_cI_lt (i_L4 (i_I ?_))); (with_reducible refine i_t (by omega) ?_); (with_reducible refine i_Blk (i_Seq (i_sIA (i_FR (i_A2 ?_))))); (with_reducible refine i_fldR (by assumption) ?_); (with_reducible refine i_L4 (i_L8 ?_)); (with_reducible refine i_in (by assumption) (by omega) (by omega) ?_); (with_reducible refine i_Seq (i_Inc4 (i_Seq (i_Set (i_And ?_))))); rw [zx_inc (by omega)]; simp only [w_set0, w_set1, w_setn0, w_setn1]; (with_reducible refine i_L6 (i_Xor (i_Shl (i_I (i_L8 (i_I (i_Seq (i_Set (i_And ?_))))))))); (rw [yshl_mk (by omega)]); (rw [ynot_mk]); (rw [hfm]); simp only [w_set0, w_set1, w_setn0, w_setn1]; (with_reducible refine i_L6 (i_IA (i_FR (i_A1 ?_)))); (with_reducible refine i_fldR (by assumption) ?_); (with_reducible refine i_L8 ?_); (with_reducible refine i_in (by assumption) (by omega) (by omega) ?_); (with_reducible refine i_If (i_cZ_ne ?_)); rw [zg_n _ _ _ (by omega)]; (rw [gr]); (rw [yand_mk]); simp only [w_set0, w_set1, w_setn0, w_setn1]; (with_reducible refine i_L6 ?_); rw [w_setT]; (with_reducible refine i_t (by omega) ?_); (with_reducible refine i_Set (i_Call (i_as1 (i_eIf (i_cZ_ne (i_L10 ?_)))))); (with_reducible refine i_f (by omega) ?_); (with_reducible refine i_L6 (i_as0 (i_recv2 ?_))); (refine s_leastOf hO (by omega) hs1 hs2 ⟨_, rfl, ?_⟩); (with_reducible refine i_up ?_); simp only [w_set0, w_set1, w_setn0, w_setn1]; (with_reducible refine i_Inc9 ?_); rw [zx_inc (by omega)]; simp only [w_set0, w_set1, w_setn0, w_setn1])
          exact hX2 _ _ (by rw [if_neg c1, if_pos c2])
        · have hn2 : zmk (fun j => decide (j < n) && (decide (g j = b) && !(L j || decide (j = last)))) = 0 := by
            rw [zmk_eq0]
            intro j _
            show (decide (j < n) && (decide (g j = b) && !(L j || decide (j = last)))) = false
            by_cases w : j < n
            · rw [show (decide (g j = b) && !(L j || decide (j = last))) = false from q6 j (by omega), Bool.and_false]
            · rw [decide_eq_false w]; rfl
          ((with_reducible refine i_turn (i_cAnd (i_cI_lt (i_L9 (i_L7 ?_))))); (with_reducible refine i_t (by omega) ?_); (with_reducible refine i_cI_lt (i_L4 (i_I ?_))); (with_reducible refine i_t (by omega) ?_); (with_reducible refine i_Blk (i_Seq (i_sIA (i_FR (i_A2 ?_))))); (with_reducible refine i_fldR (by assumption) ?_); (with_reducible refine i_L4 (i_L8 ?_)); (with_reducible refine i_in (by assumption) (by omega) (by omega) ?_); (with_reducible refine i_Seq (i_Inc4 (i_Seq (i_Set (i_And ?_))))); rw [zx_inc (by omega)]; simp only [w_set0, w_set1, w_setn0, w_setn1]; (with_reducible refine i_L6 (i_Xor (i_Shl (i_I (i_L8 (i_I (i_Seq (i_Set (i_And ?_))))))))); (rw [yshl_mk (by omega)]); (rw [ynot_mk]); (rw [hfm]); simp only [w_set0, w_set1, w_setn0, w_setn1]; (with_reducible refine i_L6 (i_IA (i_FR (i_A1 ?_)))); (with_reducible refine i_fldR (by assumption) ?_); (with_reducible refine i_L8 ?_); (with_reducible refine i_in (by assumption) (by omega) (by omega) ?_); (with_reducible refine i_If (i_cZ_ne ?_)); rw [zg_n _ _ _ (by omega)]; (rw [gr]); (rw [yand_mk]); simp only [w_set0, w_set1, w_setn0, w_setn1]; (with_reducible refine i_L6 ?_); rw [w_setT]; (with_reducible refine i_f (by omega) ?_); (with_reducible refine i_up (i_Inc9 ?_)); rw [zx_inc (by omega)]; simp only [w_set0, w_set1, w_setn0, w_setn1])
          exact hX2 _ _ (by rw [if_neg c1, if_neg c2])
    · rintro ρ M2 X1 ⟨⟨l, rfl⟩, hf, hR, hr⟩
      generalize zmk (fun q => (decide (q < n) && decide (g q = b)) && !(zlyS n (fun p => decide (g p = b)) T fst (zSz g n b)).2 q) = w1
      generalize (zlyS n (fun p => decide (g p = b)) T fst (zSz g n b)).1 = w2
      ((with_reducible refine i_turn (i_cAnd (i_cI_lt (i_L9 (i_L7 ?_))))); (with_reducible refine i_f (by omega) ?_); (with_reducible refine i_up (i_Inc5 ?_)); rw [zx_inc (by omega)]; simp only [w_set0, w_set1, w_setn0, w_setn1])
      refine hX _ _ ⟨⟨_, rfl⟩, hf, fun b' k h1 h2 => ?_⟩
      by_cases e : b' = b
      · subst e; exact hr k h2
      · exact hR b' k (by omega) h2
  · rintro ρ M1 X ⟨⟨l, rfl⟩, hf, hR⟩
    have gm : M1 ((x + 1 : Nat) : Int) ((4 : Nat) : Int) = ((m : Nat) : Int) := (hf _ _ (by omega)).trans hM.2.1
    ((with_reducible refine i_turn (i_cI_lt (i_L5 (i_F (i_A3 ?_))))); (with_reducible refine i_fld (by assumption) ?_); (rw [gm]); (with_reducible refine i_f (by omega) ?_); (with_reducible refine i_RetV ?_))
    exact hk _ hf hR
theorem zchn_sh (S : Nat → Nat → Bool) (w v : Nat → Nat) (f k : Nat) (h : ∀ i, i ≤ k → w (f + i) = v i) : zchn S w f k = zchn S v 0 k := by
  induction k with
  | zero => rfl
  | succ k ih =>
    funext p q
    rw [zchn_su, zchn_su, ih (fun i hi => h i (by omega)), h k (by omega), show f + k + 1 = f + (k + 1) by omega, h (k + 1) (by omega), Nat.zero_add]
theorem zchn_up {S : Nat → Nat → Bool} {w : Nat → Nat} {f k : Nat} (a b : Nat) (h : S a b = true) : zchn S w f k a b = true := by
  induction k with
  | zero => exact h
  | succ k ih => rw [zchn_su, ih]; rfl
theorem zchn_at {S : Nat → Nat → Bool} {w : Nat → Nat} {f k i : Nat} (h : i < k) : zchn S w f k (w (f + i)) (w (f + i + 1)) = true := by
  induction k with
  | zero => exact absurd h (Nat.not_lt_zero _)
  | succ k ih =>
    rw [zchn_su]
    by_cases e : i = k
    · subst e; simp
    · rw [ih (by omega)]; rfl
theorem zrow_lt {n i : Nat} {g : Nat → Nat} {T : Nat → Nat → Bool} (h : ∃ p, p < n ∧ g p = i) (k : Nat) : zrow n g T i k < n := by
  rcases zmnF_ok (fun p => decide (g p = i)) (zdeg n (fun p => decide (g p = i)) T) n with ⟨q1, q2, q3⟩ | ⟨p, q1, q2, q3, q4, q5⟩
  · obtain ⟨p, w1, w2⟩ := h
    exact absurd (q3 p w1) (by simp [w2])
  · unfold zrow
    rw [q1]
    exact zlyS_lt q3 k
theorem c_takeChains {O : zOm} (hO : zWld O) {r x y n m : Nat} {g : Nat → Nat} {T : Nat → Nat → Bool} {M : zMem} {K : Option zV → zMem → Prop} (hr : zRl (zS O) r) (hx : zTeC (zS O) x) (hy : zNet (zS O) y) (hrx : r + 1 < x) (hyx : y + 1 < x ∨ x + 12 < y) (hN : zNR M y n T) (hT : zReg n T) (hE : M ((r : Nat) : Int) ((1 : Nat) : Int) = ((2 + 2 * zBits n : Nat) : Int)) (hB : M ((r : Nat) : Int) ((2 : Nat) : Int) = ((zBits m : Nat) : Int)) (hM : zPR M (x + 1) n g m) (hn : n ≤ 16) (hm : m ≤ 16) (hon : ∀ i, i < m → ∃ p, p < n ∧ g p = i) (hrw : ∀ b k : Nat, b < m → k < zSz g n b → M ((x + 5 : Nat) : Int) ((zSt0 g n b + k : Nat) : Int) = ((zrow n g T b k : Nat) : Int)) (hS : zTk M x n m T g 768 (zrP n m T g n))
    (hk : ∀ M', (∀ b j, ¬ (b = ((x : Nat) : Int) ∧ j = 6 ∨ b = ((x + 6 : Nat) : Int) ∨ b = ((x + 8 : Nat) : Int)) → M' b j = M b j) → zTk M' x n m T g 1024 (zrSd n m T g) → K none M') : zR O F_Rule_takeChains [(2, ((r : Nat) : Int)), (2, ((y : Nat) : Int)), (2, ((x : Nat) : Int))] M K := by
  have hr0 := hr
  have hx0 := hx
  obtain ⟨r0, r1, r2, r3, r4, r5⟩ := hr
  obtain ⟨⟨o, x0, x1, x2, x3, x4, x5, x6⟩, ⟨y1, y2⟩, hp, n1, n2, n3⟩ := hx
  have n10 := n1
  obtain ⟨v1, v2, v3, v4⟩ := n1
  obtain ⟨u1, u2, u3, u4⟩ := hy
  have hp0 := hp
  obtain ⟨p0, p1, p2, p3, p4, p5, p6, p7, p8⟩ := hp
  have hb4 := zBits_4 hm
  have hbn4 := zBits_4 hn
  apply r_Rule_takeChains hO
  unfold B_Rule_takeChains
  ((with_reducible refine i_Seq (i_Seq (i_Set (i_FR (i_A2 ?_))))); (with_reducible refine i_fldR (by assumption) ?_); (with_reducible refine i_Seq (i_Set (i_I (i_Blk (i_Seq (i_Set (i_I ?_))))))); simp only [w_set0, w_set1, w_setn0, w_setn1])
  refine w_ForN m (fun b ρ M' => (∃ l, ρ = ((r : Nat) : Int) :: ((y : Nat) : Int) :: ((x : Nat) : Int) :: ((x + 1 : Nat) : Int) :: ((zSt0 g n b : Nat) : Int) :: ((b : Nat) : Int) :: l) ∧ (∀ b j, ¬ (b = ((x : Nat) : Int) ∧ j = 6 ∨ b = ((x + 6 : Nat) : Int) ∨ b = ((x + 8 : Nat) : Int)) → M' b j = M b j) ∧ zTk M' x n m T g (768 + 16 * b) (zrQ n m T g b)) ⟨⟨_, rfl⟩, fun _ _ _ => rfl, hS⟩ ?_ ?_
  · rintro b ρ M1 X hb ⟨⟨l, rfl⟩, hf, hK⟩ hX
    have gm : M1 ((x + 1 : Nat) : Int) ((4 : Nat) : Int) = ((m : Nat) : Int) := (hf _ _ (by omega)).trans hM.2.1
    have gP : zPR M1 (x + 1) n g m := hM.fr (fun b j h1 h2 => hf b j (by omega))
    have gE : M1 ((r : Nat) : Int) ((1 : Nat) : Int) = ((2 + 2 * zBits n : Nat) : Int) := (hf _ _ (by omega)).trans hE
    have gB : M1 ((r : Nat) : Int) ((2 : Nat) : Int) = ((zBits m : Nat) : Int) := (hf _ _ (by omega)).trans hB
    have hin := zSt0_su g n b
    have hle := zSt0_le g n (b + 1)
    have hsz := zSz_le g n b
    have hpos : 0 < zSz g n b := by
      obtain ⟨p, w1, w2⟩ := hon b hb
      exact zcnt_ex w1 (decide_eq_true w2)
    have hHv : zrH n m T g b = zrh n m T g (zrQ n m T g b) b := by unfold zrH; rw [decide_eq_true hb]; rfl
    have hsym := zrQ_sym n m T g b
    have gr : ∀ k : Nat, k < zSz g n b → M1 ((x + 5 : Nat) : Int) ((zSt0 g n b + k : Nat) : Int) = ((zrow n g T b k : Nat) : Int) := fun k hk1 => (hf _ _ (by omega)).trans (hrw b k hb hk1)
    have hrl : ∀ k, zrow n g T b k < n := fun k => zrow_lt (hon b hb) k
    rw [zrQ_su] at hX
    generalize zrQ n m T g b = S at hK hX hHv hsym
    have hWb := zrW_h (n := n) (m := m) (T := T) (g := g) (b := b) (by omega)
    rw [hHv] at hWb
    have hlm : ∀ c, c < 1024 → zrW n m T g c = true → (c < 768 + 16 * b + 1 ↔ c < 768 + 16 * (b + 1)) := fun c _ hc => by
      by_cases e : 768 ≤ c
      · have := (zrW_big hc).2.2 e
        omega
      · omega
    have hcv : zrh n m T g S b = decide (1 < zSz g n b ∧ ((3 + zBits m : Nat) : Int) < ((2 + 2 * zBits n : Nat) : Int) * (2 * ((zcnt (fun k => T (zrow n g T b k) (zrow n g T b (k + 1)) && !S (zrow n g T b k) (zrow n g T b (k + 1))) (zSz g n b - 1) : Nat) : Int) - ((zcnt (fun k => !S (zrow n g T b k) (zrow n g T b (k + 1))) (zSz g n b - 1) : Nat) : Int))) := by
      unfold zrh
      rw [zrK_cnt]
      apply decide_eq_decide.mpr
      generalize ((2 + 2 * zBits n : Nat) : Int) * (2 * ((zcnt (fun k => T (zrow n g T b k) (zrow n g T b (k + 1)) && !S (zrow n g T b k) (zrow n g T b (k + 1))) (zSz g n b - 1) : Nat) : Int) - ((zcnt (fun k => !S (zrow n g T b k) (zrow n g T b (k + 1))) (zSz g n b - 1) : Nat) : Int)) = w
      constructor <;> intro h <;> refine ⟨?_, ?_⟩ <;> omega
    have hrd : ∀ k, k + 1 < zSz g n b → zrow n g T b k ≠ zrow n g T b (k + 1) := fun k h z => by
      have := (zrow_ok (T := T) (show k < zSz g n b by omega)).2.2 (k + 1) (by omega) z.symm
      omega
    generalize zrow n g T b = w at gr hrl hX hcv hrd
    ((with_reducible refine i_turn (i_cI_lt (i_L5 (i_F (i_A3 ?_))))); (with_reducible refine i_fld (by assumption) ?_); (rw [gm]); (with_reducible refine i_t (by omega) ?_); (with_reducible refine i_Blk (i_Seq (i_Set (i_Call (i_as1 (i_A3 (i_as1 (i_L5 (i_as0 ?_))))))))); (with_reducible refine i_recv0 (by assumption) ?_); (refine c_sizeOf hO hp0 gP hn hm hb ⟨_, rfl, ?_⟩); (with_reducible refine i_Seq (i_Set (i_I (i_Seq (i_Set (i_I (i_Seq (i_Blk (i_Seq (i_Set ?_)))))))))); simp only [w_set0, w_set1, w_setn0, w_setn1]; (with_reducible refine i_L4 ?_); simp only [w_set0, w_set1, w_setn0, w_setn1]; rw [w_setT]; simp only [w_set0, w_set1, w_setn0, w_setn1]; rw [w_setT]; simp only [w_set0, w_set1, w_setn0, w_setn1]; rw [w_setT]; simp only [w_set0, w_set1, w_setn0, w_setn1]; rw [w_setT])
    refine w_ForN (zSz g n b - 1) (fun k ρ M' => (∃ l, ρ = ((r : Nat) : Int) :: ((y : Nat) : Int) :: ((x : Nat) : Int) :: ((x + 1 : Nat) : Int) :: ((zSt0 g n b : Nat) : Int) :: ((b : Nat) : Int) :: ((zSz g n b : Nat) : Int) :: ((zcnt (fun k => T (w k) (w (k + 1)) && !S (w k) (w (k + 1))) k : Nat) : Int) :: ((zcnt (fun k => !S (w k) (w (k + 1))) k : Nat) : Int) :: ((zSt0 g n b + k : Nat) : Int) :: l) ∧ M' = M1) ⟨⟨_, rfl⟩, rfl⟩ ?_ ?_
    · rintro k ρ M2 X1 hk1 ⟨⟨l, rfl⟩, rfl⟩ hX1
      have g1 := gr k (by omega)
      have g2 := gr (k + 1) (by omega)
      rw [← Nat.add_assoc] at g2
      have l1 := hrl k
      have l2 := hrl (k + 1)
      have gT : M2 ((y + 1 : Nat) : Int) ((w k : Nat) : Int) = zmk (T (w k)) := (hf _ _ (by omega)).trans (hN.2 _ (by omega))
      have c1 := zcnt_le (fun k => T (w k) (w (k + 1)) && !S (w k) (w (k + 1))) k
      have c2 := zcnt_le (fun k => !S (w k) (w (k + 1))) k
      have hX2 : ∀ (l : zLoc) (a c : Nat), a = zcnt (fun k => T (w k) (w (k + 1)) && !S (w k) (w (k + 1))) (k + 1) → c = zcnt (fun k => !S (w k) (w (k + 1))) (k + 1) → X1 (((r : Nat) : Int) :: ((y : Nat) : Int) :: ((x : Nat) : Int) :: ((x + 1 : Nat) : Int) :: ((zSt0 g n b : Nat) : Int) :: ((b : Nat) : Int) :: ((zSz g n b : Nat) : Int) :: ((a : Nat) : Int) :: ((c : Nat) : Int) :: ((zSt0 g n b + k + 1 : Nat) : Int) :: l) M2 := fun l a c h1 h2 => by subst h1; subst h2; exact hX1 _ _ ⟨⟨l, rfl⟩, rfl⟩
      rw [zcnt_su, zcnt_su] at hX2
      cases eS : S (w k) (w (k + 1)) <;> cases eT : T (w k) (w (k + 1)) <;> simp only [eS, eT, Bool.not_false, Bool.not_true, Bool.and_true, Bool.and_false, Bool.false_eq_true, if_true, if_false, Nat.add_zero] at hX2
      all_goals (first | (((with_reducible refine i_turn (i_cI_lt (i_L9 (i_Sub (i_Add (i_L4 (i_L6 (i_I ?_)))))))); rw [zx_add (by omega)]; rw [zx_subc (by omega) (by omega)]; (with_reducible refine i_t (by omega) ?_); (with_reducible refine i_Blk (i_Seq (i_Set (i_IA (i_FR (i_A2 ?_)))))); (with_reducible refine i_fldR (by assumption) ?_); (with_reducible refine i_L9 ?_); (with_reducible refine i_in (by assumption) (by omega) (by omega) ?_); (with_reducible refine i_Seq (i_Set (i_IA (i_FR ?_)))); (rw [g1]); simp only [w_set0, w_set1, w_setn0, w_setn1]; (with_reducible refine i_A2 ?_); (with_reducible refine i_fldR (by assumption) ?_); (with_reducible refine i_Add (i_L9 (i_I ?_))); rw [zx_inc (by omega)]; (with_reducible refine i_in (by assumption) (by omega) (by omega) ?_); (with_reducible refine i_If (i_cNot (i_cZ_ne (i_Call (i_as1 (i_FR ?_)))))); (rw [g2]); simp only [w_set0, w_set1, w_setn0, w_setn1]; (with_reducible refine i_A2 ?_); (with_reducible refine i_fldR (by assumption) ?_); (with_reducible refine i_as1 ?_); rw [w_setT]; simp only [w_set0, w_set1, w_setn0, w_setn1]; (with_reducible refine i_L10 (i_as1 ?_)); rw [w_setT]; (with_reducible refine i_L11 (i_as0 ?_)); (with_reducible refine i_recv0 (by assumption) ?_); (refine s_joins hO n10 hK.1 (by omega) (by omega) ⟨_, rfl, ?_⟩); (rw [eS]); rw [zbI_f]; (with_reducible refine i_f (by omega) ?_); (with_reducible refine i_Seq (i_Inc8 (i_Set (i_Add ?_)))); rw [zx_inc (by omega)]; simp only [w_set0, w_set1, w_setn0, w_setn1]; (with_reducible refine i_L7 (i_And (i_Shr (i_IA (i_FR (i_A1 ?_)))))); (with_reducible refine i_fldR (by assumption) ?_); (with_reducible refine i_L10 ?_); (with_reducible refine i_in (by assumption) (by omega) (by omega) ?_); (with_reducible refine i_L11 (i_I (i_up ?_))); (rw [gT]); (rw [yand_1 _ (by omega)]); (rw [eT]); (rw [if_neg Bool.false_ne_true]); rw [zx_addc (by omega)]; simp only [w_set0, w_set1, w_setn0, w_setn1]; (with_reducible refine i_Inc9 ?_); rw [zx_inc (by omega)]; simp only [w_set0, w_set1, w_setn0, w_setn1])) | (((with_reducible refine i_turn (i_cI_lt (i_L9 (i_Sub (i_Add (i_L4 (i_L6 (i_I ?_)))))))); rw [zx_add (by omega)]; rw [zx_subc (by omega) (by omega)]; (with_reducible refine i_t (by omega) ?_); (with_reducible refine i_Blk (i_Seq (i_Set (i_IA (i_FR (i_A2 ?_)))))); (with_reducible refine i_fldR (by assumption) ?_); (with_reducible refine i_L9 ?_); (with_reducible refine i_in (by assumption) (by omega) (by omega) ?_); (with_reducible refine i_Seq (i_Set (i_IA (i_FR ?_)))); (rw [g1]); simp only [w_set0, w_set1, w_setn0, w_setn1]; (with_reducible refine i_A2 ?_); (with_reducible refine i_fldR (by assumption) ?_); (with_reducible refine i_Add (i_L9 (i_I ?_))); rw [zx_inc (by omega)]; (with_reducible refine i_in (by assumption) (by omega) (by omega) ?_); (with_reducible refine i_If (i_cNot (i_cZ_ne (i_Call (i_as1 (i_FR ?_)))))); (rw [g2]); simp only [w_set0, w_set1, w_setn0, w_setn1]; (with_reducible refine i_A2 ?_); (with_reducible refine i_fldR (by assumption) ?_); (with_reducible refine i_as1 ?_); rw [w_setT]; simp only [w_set0, w_set1, w_setn0, w_setn1]; (with_reducible refine i_L10 (i_as1 ?_)); rw [w_setT]; (with_reducible refine i_L11 (i_as0 ?_)); (with_reducible refine i_recv0 (by assumption) ?_); (refine s_joins hO n10 hK.1 (by omega) (by omega) ⟨_, rfl, ?_⟩); (rw [eS]); rw [zbI_f]; (with_reducible refine i_f (by omega) ?_); (with_reducible refine i_Seq (i_Inc8 (i_Set (i_Add ?_)))); rw [zx_inc (by omega)]; simp only [w_set0, w_set1, w_setn0, w_setn1]; (with_reducible refine i_L7 (i_And (i_Shr (i_IA (i_FR (i_A1 ?_)))))); (with_reducible refine i_fldR (by assumption) ?_); (with_reducible refine i_L10 ?_); (with_reducible refine i_in (by assumption) (by omega) (by omega) ?_); (with_reducible refine i_L11 (i_I (i_up ?_))); (rw [gT]); (rw [yand_1 _ (by omega)]); (rw [eT]); (rw [if_pos rfl]); rw [zx_inc (by omega)]; simp only [w_set0, w_set1, w_setn0, w_setn1]; (with_reducible refine i_Inc9 ?_); rw [zx_inc (by omega)]; simp only [w_set0, w_set1, w_setn0, w_setn1])) | (((with_reducible refine i_turn (i_cI_lt (i_L9 (i_Sub (i_Add (i_L4 (i_L6 (i_I ?_)))))))); rw [zx_add (by omega)]; rw [zx_subc (by omega) (by omega)]; (with_reducible refine i_t (by omega) ?_); (with_reducible refine i_Blk (i_Seq (i_Set (i_IA (i_FR (i_A2 ?_)))))); (with_reducible refine i_fldR (by assumption) ?_); (with_reducible refine i_L9 ?_); (with_reducible refine i_in (by assumption) (by omega) (by omega) ?_); (with_reducible refine i_Seq (i_Set (i_IA (i_FR ?_)))); (rw [g1]); simp only [w_set0, w_set1, w_setn0, w_setn1]; (with_reducible refine i_A2 ?_); (with_reducible refine i_fldR (by assumption) ?_); (with_reducible refine i_Add (i_L9 (i_I ?_))); rw [zx_inc (by omega)]; (with_reducible refine i_in (by assumption) (by omega) (by omega) ?_); (with_reducible refine i_If (i_cNot (i_cZ_ne (i_Call (i_as1 (i_FR ?_)))))); (rw [g2]); simp only [w_set0, w_set1, w_setn0, w_setn1]; (with_reducible refine i_A2 ?_); (with_reducible refine i_fldR (by assumption) ?_); (with_reducible refine i_as1 ?_); rw [w_setT]; simp only [w_set0, w_set1, w_setn0, w_setn1]; (with_reducible refine i_L10 (i_as1 ?_)); rw [w_setT]; (with_reducible refine i_L11 (i_as0 ?_)); (with_reducible refine i_recv0 (by assumption) ?_); (refine s_joins hO n10 hK.1 (by omega) (by omega) ⟨_, rfl, ?_⟩); (rw [eS]); rw [zbI_t]; (with_reducible refine i_t (by omega) ?_); (with_reducible refine i_up (i_Inc9 ?_)); rw [zx_inc (by omega)]; simp only [w_set0, w_set1, w_setn0, w_setn1])))
      all_goals exact hX2 _ _ _ (by first | rfl | omega) (by first | rfl | omega)
    · rintro ρ M2 X1 ⟨⟨l, rfl⟩, rfl⟩
      have c1 := zcnt_le (fun k => T (w k) (w (k + 1)) && !S (w k) (w (k + 1))) (zSz g n b - 1)
      have c2 := zcnt_le (fun k => !S (w k) (w (k + 1))) (zSz g n b - 1)
      by_cases hc : 1 < zSz g n b ∧ ((3 + zBits m : Nat) : Int) < ((2 + 2 * zBits n : Nat) : Int) * (2 * ((zcnt (fun k => T (w k) (w (k + 1)) && !S (w k) (w (k + 1))) (zSz g n b - 1) : Nat) : Int) - ((zcnt (fun k => !S (w k) (w (k + 1))) (zSz g n b - 1) : Nat) : Int))
      · rw [decide_eq_true hc] at hcv
        rw [hcv] at hX hWb
        simp only [if_true] at hX
        have hpos2 : 0 < zcnt (fun k => T (w k) (w (k + 1)) && !S (w k) (w (k + 1))) (zSz g n b - 1) := Classical.byContradiction fun z => by
          have z0 : zcnt (fun k => T (w k) (w (k + 1)) && !S (w k) (w (k + 1))) (zSz g n b - 1) = 0 := by omega
          have hc2 := hc.2
          rw [z0] at hc2
          have : ((2 + 2 * zBits n : Nat) : Int) * (2 * ((0 : Nat) : Int) - ((zcnt (fun k => !S (w k) (w (k + 1))) (zSz g n b - 1) : Nat) : Int)) ≤ 0 := Int.mul_nonpos_of_nonneg_of_nonpos (by omega) (by omega)
          omega
        obtain ⟨k, q1, q2, -⟩ := zcnt_has _ _ 0 hpos2
        rw [Bool.and_eq_true] at q2
        have q3 : S (w k) (w (k + 1)) = false := by have := q2.2; cases e : S (w k) (w (k + 1)); rfl; rw [e] at this; cases this
        have q4 : w k ≠ w (k + 1) := fun z => by have := q2.1; rw [z, hT.2.1] at this; cases this
        have hs : ∀ a c, S a c = true → zchn S w 0 (zSz g n b - 1) a c = true := fun a c h => zchn_up a c h
        have hup : zchn S w 0 (zSz g n b - 1) (w k) (w (k + 1)) = true := by
          have := zchn_at (S := S) (w := w) (f := 0) q1
          rwa [Nat.zero_add] at this
        have l1 := hrl k
        have l2 := hrl (k + 1)
        have hex : ∃ a c, a < c ∧ c < n ∧ S a c = false ∧ zchn S w 0 (zSz g n b - 1) a c = true := by
          rcases Nat.lt_or_ge (w k) (w (k + 1)) with z | z
          · exact ⟨w k, w (k + 1), z, l2, q3, hup⟩
          · exact ⟨w (k + 1), w k, by omega, l1, by rw [hsym]; exact q3, by rw [zchn_sym hsym]; exact hup⟩
        obtain ⟨a, c, w1, w2, hf1, hf2⟩ := hex
        have hfew := zrV_few hK.2.2 hn hs w1 w2 hf1 hf2
        ((with_reducible refine i_turn (i_cI_lt (i_L9 (i_Sub (i_Add (i_L4 (i_L6 (i_I ?_)))))))); rw [zx_add (by omega)]; rw [zx_subc (by omega) (by omega)]; (with_reducible refine i_f (by omega) ?_); (with_reducible refine i_Seq (i_If (i_cAnd (i_cI_gt (i_L6 (i_I ?_)))))); (with_reducible refine i_t (by omega) ?_); (with_reducible refine i_cZ_ne (i_Call (i_as1 (i_A0 (i_as1 (i_L7 (i_as1 (i_L8 (i_as1 (i_Add (i_I (i_F (i_A0 ?_))))))))))))); (with_reducible refine i_fld (by assumption) ?_); (with_reducible refine i_as0 ?_); (with_reducible refine i_recv0 (by assumption) ?_); (rw [gB]); rw [zx_cadd (by omega)])
        refine c_isSparing hO hr0 gE (by omega) (by omega) (by omega) (by omega) ⟨_, rfl, ?_⟩
        ((rw [decide_eq_true hc.2]); rw [zbI_t]; (with_reducible refine i_t (by omega) ?_); (with_reducible refine i_Seq (i_sCall (i_as1 (i_A2 (i_as1 (i_Call (i_as1 (i_I (i_as1 (i_L5 (i_as1 (i_I (i_as0 (i_recv1 ?_)))))))))))))); (refine c_wordOf hO (k := 3) (by omega) (by omega) (b := 0) (by omega) ⟨_, rfl, ?_⟩); (with_reducible refine i_as0 ?_); (with_reducible refine i_recv0 (by assumption) ?_))
        rw [show 256 * 3 + 16 * b + 0 = 768 + 16 * b by omega]
        refine c_addWord hO hx0 hK.2.1 (by omega) (fun d hd => zrV_top d hd) hfew (fun M3 f3 h3 => ⟨rfl, ?_⟩)
        have gN2 : zNR M3 (x + 7) n S := ⟨by rw [f3 _ _ (by omega)]; exact hK.1.1, fun p hp => by rw [f3 _ _ (by omega)]; exact hK.1.2 p hp⟩
        ((with_reducible refine i_sCall (i_as1 (i_FR (i_A2 ?_)))); (with_reducible refine i_fldR (by assumption) ?_); (with_reducible refine i_as1 (i_FR (i_A2 ?_))); (with_reducible refine i_fldR (by assumption) ?_); (with_reducible refine i_as1 (i_L4 (i_as1 (i_L6 (i_as0 ?_))))); (with_reducible refine i_recv0 (by assumption) ?_))
        refine s_Net_chain hO n10 gN2 y1 (w := fun i => w (i - zSt0 g n b)) (fun i h1 h2 => ⟨?_, ?_⟩) (fun i h1 h2 => by
          have := hrd (i - zSt0 g n b) (by omega)
          (try dsimp only)
          rw [show i + 1 - zSt0 g n b = i - zSt0 g n b + 1 by omega]
          exact this) (by omega) (by omega) (by omega) (fun M4 f4 h4 => ⟨rfl, ?_⟩)
        · have := gr (i - zSt0 g n b) (by omega)
          rw [show zSt0 g n b + (i - zSt0 g n b) = i by omega] at this
          rw [f3 _ _ (by omega)]; exact this
        · have := hrl (i - zSt0 g n b)
          show w (i - zSt0 g n b) < 16
          omega
        rw [zchn_sh S _ w _ _ (fun i _ => by show w (zSt0 g n b + i - zSt0 g n b) = _; rw [Nat.add_sub_cancel_left])] at h4
        ((with_reducible refine i_Set (i_Add (i_L4 (i_L6 (i_up ?_))))); rw [zx_add (by omega)]; simp only [w_set0, w_set1, w_setn0, w_setn1]; (with_reducible refine i_Inc5 ?_); rw [zx_inc (by omega)]; simp only [w_set0, w_set1, w_setn0, w_setn1])
        rw [← zSt0_su]
        refine hX _ _ ⟨⟨_, rfl⟩, fun b' j q => ?_, (zTk.add (L := 768 + 16 * b) hK.2.2 (by omega) hWb h4 (h3.to (fun j => by rw [f4 _ (by simp <;> omega)]) (fun j => by rw [f4 _ (by simp <;> omega)])) hs w1 w2 hf1 hf2).lim hlm⟩
        rw [f4 b' (by simp <;> omega), f3 b' j (by omega)]
        exact hf b' j q
      · rw [decide_eq_false hc] at hcv
        rw [hcv] at hX hWb
        simp only [Bool.false_eq_true, if_false] at hX
        have hfin : ∀ l, X (((r : Nat) : Int) :: ((y : Nat) : Int) :: ((x : Nat) : Int) :: ((x + 1 : Nat) : Int) :: ((zSt0 g n b + zSz g n b : Nat) : Int) :: ((b + 1 : Nat) : Int) :: l) M2 := fun l => hX _ _ ⟨⟨l, by rw [zSt0_su]⟩, hf, (hK.no hWb).lim hlm⟩
        by_cases h1 : 1 < zSz g n b
        · have hc2 : ¬ ((3 + zBits m : Nat) : Int) < ((2 + 2 * zBits n : Nat) : Int) * (2 * ((zcnt (fun k => T (w k) (w (k + 1)) && !S (w k) (w (k + 1))) (zSz g n b - 1) : Nat) : Int) - ((zcnt (fun k => !S (w k) (w (k + 1))) (zSz g n b - 1) : Nat) : Int)) := fun z => hc ⟨h1, z⟩
          ((with_reducible refine i_turn (i_cI_lt (i_L9 (i_Sub (i_Add (i_L4 (i_L6 (i_I ?_)))))))); rw [zx_add (by omega)]; rw [zx_subc (by omega) (by omega)]; (with_reducible refine i_f (by omega) ?_); (with_reducible refine i_Seq (i_If (i_cAnd (i_cI_gt (i_L6 (i_I ?_)))))); (with_reducible refine i_t (by omega) ?_); (with_reducible refine i_cZ_ne (i_Call (i_as1 (i_A0 (i_as1 (i_L7 (i_as1 (i_L8 (i_as1 (i_Add (i_I (i_F (i_A0 ?_))))))))))))); (with_reducible refine i_fld (by assumption) ?_); (with_reducible refine i_as0 ?_); (with_reducible refine i_recv0 (by assumption) ?_); (rw [gB]); rw [zx_cadd (by omega)])
          refine c_isSparing hO hr0 gE (by omega) (by omega) (by omega) (by omega) ⟨_, rfl, ?_⟩
          ((rw [decide_eq_false hc2]); rw [zbI_f]; (with_reducible refine i_f (by omega) ?_); (with_reducible refine i_Set (i_Add (i_L4 (i_L6 (i_up ?_))))); rw [zx_add (by omega)]; simp only [w_set0, w_set1, w_setn0, w_setn1]; (with_reducible refine i_Inc5 ?_); rw [zx_inc (by omega)]; simp only [w_set0, w_set1, w_setn0, w_setn1])
          exact hfin _
        · ((with_reducible refine i_turn (i_cI_lt (i_L9 (i_Sub (i_Add (i_L4 (i_L6 (i_I ?_)))))))); rw [zx_add (by omega)]; rw [zx_subc (by omega) (by omega)]; (with_reducible refine i_f (by omega) ?_); (with_reducible refine i_Seq (i_If (i_cAnd (i_cI_gt (i_L6 (i_I ?_)))))); (with_reducible refine i_f (by omega) ?_); (with_reducible refine i_Set (i_Add (i_L4 (i_L6 (i_up ?_))))); rw [zx_add (by omega)]; simp only [w_set0, w_set1, w_setn0, w_setn1]; (with_reducible refine i_Inc5 ?_); rw [zx_inc (by omega)]; simp only [w_set0, w_set1, w_setn0, w_setn1])
          exact hfin _
  · rintro ρ M1 X ⟨⟨l, rfl⟩, hf, hK⟩
    have gm : M1 ((x + 1 : Nat) : Int) ((4 : Nat) : Int) = ((m : Nat) : Int) := (hf _ _ (by omega)).trans hM.2.1
    ((with_reducible refine i_turn (i_cI_lt (i_L5 (i_F (i_A3 ?_))))); (with_reducible refine i_fld (by assumption) ?_); (rw [gm]); (with_reducible refine i_f (by omega) ?_); (with_reducible refine i_RetV ?_))
    refine hk _ hf (hK.lim (fun c h1 h2 => ?_))
    by_cases e : 768 ≤ c
    · have := (zrW_big h2).2.2 e
      omega
    · omega
theorem c_correct {O : zOm} (hO : zWld O) {x y n : Nat} {S T : Nat → Nat → Bool} {M : zMem} {K : Option zV → zMem → Prop} (hx : zTeC (zS O) x) (hy : zNet (zS O) y) (hyx : y + 1 < x ∨ x + 12 < y) (hn : M ((x + 1 : Nat) : Int) ((3 : Nat) : Int) = ((n : Nat) : Int)) (hS1 : zNR M (x + 7) n S) (hN : zNR M y n T)
    (hk : ∀ M', (∀ b j, ¬ (((x + 9 : Nat) : Int) ≤ b ∧ b ≤ ((x + 12 : Nat) : Int)) → M' b j = M b j) → zNR M' (x + 9) n (fun p q => S p q ^^ T p q) → zNR M' (x + 11) n (fun _ _ => false) → K none M') : zR O F_Telling_correct [(2, ((x : Nat) : Int)), (2, ((y : Nat) : Int))] M K := by
  obtain ⟨⟨o, x0, x1, x2, x3, x4, x5, x6⟩, ⟨y1, y2⟩, ⟨p0, p1, p2, p3, p4, p5, p6, p7, p8⟩, n1, n2, n3⟩ := hx
  have o1 := n1.2.2.2
  have o2 := n2.2.2.2
  have o3 := n3.2.2.2
  apply r_Telling_correct hO
  unfold B_Telling_correct
  ((with_reducible refine i_Seq (i_Seq (i_sCall (i_as1 (i_FR (i_A0 ?_)))))); (with_reducible refine i_fldR (by assumption) ?_); (with_reducible refine i_as1 (i_FR (i_A0 ?_))); (with_reducible refine i_fldR (by assumption) ?_); (with_reducible refine i_as1 (i_A1 (i_as0 ?_))); (with_reducible refine i_recv0 (by assumption) ?_))
  refine s_Net_differ hO n2 n1 hy hS1 hN (fun M1 f1 h1 => ⟨rfl, ?_⟩)
  have g1 : M1 ((x + 1 : Nat) : Int) ((3 : Nat) : Int) = ((n : Nat) : Int) := by rw [f1 _ (by simp <;> omega)]; exact hn
  ((with_reducible refine i_sCall (i_as1 (i_FR (i_A0 ?_)))); (with_reducible refine i_fldR (by assumption) ?_); (with_reducible refine i_as1 (i_F (i_FR (i_A0 ?_)))); (with_reducible refine i_fldR (by assumption) ?_); (with_reducible refine i_fld (by assumption) ?_); (with_reducible refine i_as0 ?_); (with_reducible refine i_recv0 (by assumption) ?_); (rw [g1]); (refine s_Net_clear hO n3 (fun M2 f2 h2 => ⟨rfl, ?_⟩)); (with_reducible refine i_RetV ?_))
  exact hk _ (fun b j q => by rw [f2 b (by simp <;> omega), f1 b (by simp <;> omega)]) (h1.fr f2 (by simp <;> omega) (by simp <;> omega)) h2
end
section
-- part c4b.cwell.lean.txt
/-! ===== the class: a telling as one thing; what the rule makes is well formed ===== -/
/-- its words as numbers -/
def zWsn (A : zTl) (c : Nat) : Bool :=
  if c < 256 then decide (c % 16 = 0) && tC A (c / 16) else if c < 512 then tD A (c / 16 % 16) (c % 16) else if c < 768 then tG A (c / 16 % 16) (c % 16) else decide (c % 16 = 0) && (decide (c < 1024) && tH A (c / 16 % 16))
/-- what is said of a pair: 0 no except, 1 told, 2 left out -/
def tvs (A : zTl) (p q : Nat) : Nat := if p < q then tv A p q else tv A q p
def zTR (M : zMem) (x n : Nat) (A : zTl) : Prop := zPR M (x + 1) n (tf A) (tm A) ∧ (∀ b k : Nat, b < tm A → k < zSz (tf A) n b → M ((x + 5 : Nat) : Int) ((zSt0 (tf A) n b + k : Nat) : Int) = ((tr A b k : Nat) : Int)) ∧ (zWd M x (zWsn A) ∧ zcnt (zWsn A) 1024 ≤ 120) ∧ zNR M (x + 7) n (tS n A) ∧ zNR M (x + 9) n (fun p q => decide (tvs A p q ≠ 0)) ∧ zNR M (x + 11) n (fun p q => decide (tvs A p q = 2))
/-- the telling that the rule makes -/
def zRul (n m : Nat) (T : Nat → Nat → Bool) (g : Nat → Nat) : zTl := ((m, g), (zrC n m T g, zrD n m T g, zrG n m T g, zrH n m T g), zrow n g T, zxe (fun p q => zrSd n m T g p q ^^ T p q) n)
theorem zWs_rul (n m : Nat) (T : Nat → Nat → Bool) (g : Nat → Nat) (c : Nat) : zWsn (zRul n m T g) c = zrW n m T g c := rfl
theorem zRul_P (n m : Nat) (T : Nat → Nat → Bool) (g : Nat → Nat) (hg : ∀ q, q < n → g q < m) (p : Nat) (hp : p ≤ n) (a c : Nat) : zrP n m T g p a c = (decide (a < n ∧ c < n ∧ a ≠ c) && zWq g (zrC n m T g) (zrD n m T g) (fun x i => decide (x < p) && zrG n m T g x i) a c) := by
  induction p generalizing a c with
  | zero =>
    show zrS0 n m T g a c = _
    unfold zrS0 zWq
    dsimp only
    rw [decide_eq_false (Nat.not_lt_zero _), decide_eq_false (Nat.not_lt_zero _)]
    rfl
  | succ p ih =>
    have key : ∀ i, i ≤ m → ∀ a c, zrI n m T g (zrP n m T g p) p i a c = (decide (a < n ∧ c < n ∧ a ≠ c) && zWq g (zrC n m T g) (zrD n m T g) (fun x j => decide (x < p ∨ x = p ∧ j < i) && zrG n m T g x j) a c) := by
      intro i
      induction i with
      | zero =>
        intro _ a c
        show zrP n m T g p a c = _
        rw [ih (by omega)]
        congr 1
        unfold zWq
        dsimp only
        rw [zdb (show a < p ↔ (a < p ∨ a = p ∧ g c < 0) by omega), zdb (show c < p ↔ (c < p ∨ c = p ∧ g a < 0) by omega)]
      | succ i ihi =>
        intro hi a c
        have hG := zrG_in (T := T) (g := g) (show p < n by omega) (show i < m by omega)
        rw [zrI_su]
        by_cases hc : zrc n m T g (zrI n m T g (zrP n m T g p) p i) p i = true
        · rw [if_pos hc]
          rw [hc] at hG
          unfold zrA
          rw [ihi (by omega)]
          by_cases h : a < n ∧ c < n ∧ a ≠ c
          · rw [decide_eq_true h, Bool.true_and, Bool.true_and]
            unfold zWq
            dsimp only
            generalize (if g a = g c then zrC n m T g (g a) else if g a < g c then zrD n m T g (g a) (g c) else zrD n m T g (g c) (g a)) = w
            by_cases e1 : a = p ∧ g c = i
            · have e2 : ¬ (c = p ∧ g a = i) := fun z => h.2.2 (e1.1.trans z.1.symm)
              rw [decide_eq_true (show a = p ∧ c ≠ p ∧ c < n ∧ g c = i from ⟨e1.1, fun z => h.2.2 (e1.1.trans z.symm), h.2.1, e1.2⟩), decide_eq_true (show a < p ∨ a = p ∧ g c < i + 1 by omega), e1.1, e1.2, hG]
              simp
            · by_cases e2 : c = p ∧ g a = i
              · rw [decide_eq_true (show c = p ∧ a ≠ p ∧ a < n ∧ g a = i from ⟨e2.1, fun z => h.2.2 (z.trans e2.1.symm), h.1, e2.2⟩), decide_eq_true (show c < p ∨ c = p ∧ g a < i + 1 by omega), e2.1, e2.2, hG]
                simp
              · rw [decide_eq_false (show ¬ (a = p ∧ c ≠ p ∧ c < n ∧ g c = i) from fun z => e1 ⟨z.1, z.2.2.2⟩), decide_eq_false (show ¬ (c = p ∧ a ≠ p ∧ a < n ∧ g a = i) from fun z => e2 ⟨z.1, z.2.2.2⟩), Bool.or_false, Bool.or_false]
                rw [zdb (show (a < p ∨ a = p ∧ g c < i) ↔ (a < p ∨ a = p ∧ g c < i + 1) by omega), zdb (show (c < p ∨ c = p ∧ g a < i) ↔ (c < p ∨ c = p ∧ g a < i + 1) by omega)]
          · rw [decide_eq_false h, Bool.false_and, Bool.false_and, Bool.false_or, decide_eq_false (show ¬ (a = p ∧ c ≠ p ∧ c < n ∧ g c = i) from fun z => h ⟨by omega, z.2.2.1, fun w => z.2.1 (w.symm.trans z.1)⟩), decide_eq_false (show ¬ (c = p ∧ a ≠ p ∧ a < n ∧ g a = i) from fun z => h ⟨z.2.2.1, by omega, fun w => z.2.1 (w.trans z.1)⟩)]
            rfl
        · rw [if_neg hc, ihi (by omega)]
          have hG2 : zrG n m T g p i = false := by rw [hG]; cases e : zrc n m T g (zrI n m T g (zrP n m T g p) p i) p i; rfl; exact absurd e hc
          congr 1
          unfold zWq
          dsimp only
          have e : ∀ x j, (decide (x < p ∨ x = p ∧ j < i) && zrG n m T g x j) = (decide (x < p ∨ x = p ∧ j < i + 1) && zrG n m T g x j) := fun x j => by
            by_cases z : x = p ∧ j = i
            · rw [z.1, z.2, hG2, Bool.and_false, Bool.and_false]
            · exact zdb (by omega)
          rw [e a, e c]
    show zrI n m T g (zrP n m T g p) p m a c = _
    rw [key m (Nat.le_refl _)]
    by_cases h : a < n ∧ c < n ∧ a ≠ c
    · have h1 := hg a h.1
      have h2 := hg c h.2.1
      congr 1
      unfold zWq
      dsimp only
      rw [zdb (show (a < p ∨ a = p ∧ g c < m) ↔ a < p + 1 by omega), zdb (show (c < p ∨ c = p ∧ g a < m) ↔ c < p + 1 by omega)]
    · rw [decide_eq_false h]; rfl
theorem zRul_S (n m : Nat) (T : Nat → Nat → Bool) (g : Nat → Nat) (hg : ∀ q, q < n → g q < m) : tS n (zRul n m T g) = zrSd n m T g := by
  have h0 : (fun p q => decide (p < n ∧ q < n ∧ p ≠ q) && zWq g (zrC n m T g) (zrD n m T g) (zrG n m T g) p q) = zrP n m T g n := by
    funext a c
    rw [zRul_P n m T g hg n (Nat.le_refl _)]
    by_cases h : a < n ∧ c < n ∧ a ≠ c
    · congr 1
      unfold zWq
      dsimp only
      rw [decide_eq_true h.1, decide_eq_true h.2.1, Bool.true_and, Bool.true_and]
    · rw [decide_eq_false h]; rfl
  have h1 : ∀ i, i ≤ m → zChs (zrP n m T g n) (zrH n m T g) (zrow n g T) (zSz g n) i = zrQ n m T g i := by
    intro i
    induction i with
    | zero => intro _; rfl
    | succ i ih =>
      intro hi
      rw [zrQ_su, ← ih (by omega)]
      show (if zrH n m T g i = true then _ else _) = _
      have e : zrH n m T g i = zrh n m T g (zChs (zrP n m T g n) (zrH n m T g) (zrow n g T) (zSz g n) i) i := by rw [ih (by omega)]; unfold zrH; rw [decide_eq_true (show i < m by omega)]; rfl
      rw [← e]
  show zChs (fun p q => decide (p < n ∧ q < n ∧ p ≠ q) && zWq g (zrC n m T g) (zrD n m T g) (zrG n m T g) p q) (zrH n m T g) (zrow n g T) (zSz g n) m = _
  rw [h0]
  exact h1 m (Nat.le_refl _)
theorem zchn_in {S : Nat → Nat → Bool} {w : Nat → Nat} {f k : Nat} {P : Nat → Nat → Prop} (h : ∀ a c, S a c = true → P a c) (hw : ∀ j, j < k → P (w (f + j)) (w (f + j + 1)) ∧ P (w (f + j + 1)) (w (f + j))) : ∀ a c, zchn S w f k a c = true → P a c := by
  induction k with
  | zero => exact h
  | succ k ih =>
    intro a c hz
    rw [zchn_su, Bool.or_eq_true, Bool.or_eq_true, Bool.and_eq_true, Bool.and_eq_true] at hz
    rcases hz with (z | z) | z
    · exact ih (fun j hj => hw j (by omega)) a c z
    · rw [of_decide_eq_true z.1, of_decide_eq_true z.2]; exact (hw k (by omega)).1
    · rw [of_decide_eq_true z.1, of_decide_eq_true z.2]; exact (hw k (by omega)).2
theorem zrQ_in {n m : Nat} {T : Nat → Nat → Bool} {g : Nat → Nat} (hg : ∀ q, q < n → g q < m) (i : Nat) : ∀ a c, zrQ n m T g i a c = true → a < n ∧ c < n ∧ a ≠ c := by
  induction i with
  | zero =>
    intro a c h
    have h2 : zrP n m T g n a c = true := h
    rw [zRul_P n m T g hg n (Nat.le_refl _), Bool.and_eq_true] at h2
    exact of_decide_eq_true h2.1
  | succ i ih =>
    rw [zrQ_su]
    split
    · refine zchn_in ih (fun j hj => ?_)
      rw [Nat.zero_add]
      obtain ⟨a1, a2, a3⟩ := zrow_ok (T := T) (show j < zSz g n i by omega)
      obtain ⟨b1, b2, b3⟩ := zrow_ok (T := T) (show j + 1 < zSz g n i by omega)
      have hne : zrow n g T i j ≠ zrow n g T i (j + 1) := fun z => by have := b3 j (by omega) z; omega
      exact ⟨⟨a1, b1, hne⟩, b1, a1, fun z => hne z.symm⟩
    · exact ih
theorem zRul_X {n m : Nat} {T : Nat → Nat → Bool} {g : Nat → Nat} (hg : ∀ q, q < n → g q < m) (hT : zReg n T) (a b : Nat) : decide (tvs (zRul n m T g) a b ≠ 0) = (zrSd n m T g a b ^^ T a b) := by
  have hsy : ∀ a b, (zrSd n m T g a b ^^ T a b) = (zrSd n m T g b a ^^ T b a) := fun a b => by rw [show zrSd n m T g a b = zrSd n m T g b a from zrQ_sym n m T g m a b, hT.1 a b]
  have hin : ∀ a b, (zrSd n m T g a b ^^ T a b) = true → a < n ∧ b < n ∧ a ≠ b := fun a b h => by
    cases e : zrSd n m T g a b
    · rw [e, Bool.false_xor] at h
      exact ⟨(hT.lt h).1, (hT.lt h).2, fun z => by rw [z, hT.2.1] at h; cases h⟩
    · exact zrQ_in hg m a b e
  have hz : ∀ a b, a < b → decide (zxe (fun p q => zrSd n m T g p q ^^ T p q) n a b ≠ 0) = (zrSd n m T g a b ^^ T a b) := fun a b h => by
    unfold zxe
    dsimp only
    by_cases e : (zrSd n m T g a b ^^ T a b) = true
    · rw [if_pos ⟨h, (hin a b e).2.1, e⟩, e]; rfl
    · rw [if_neg (fun z => e z.2.2), Bool.eq_false_iff.mpr e]; rfl
  show decide ((if a < b then zxe (fun p q => zrSd n m T g p q ^^ T p q) n a b else zxe (fun p q => zrSd n m T g p q ^^ T p q) n b a) ≠ 0) = _
  rcases Nat.lt_trichotomy a b with q | q | q
  · rw [if_pos q]; exact hz a b q
  · subst q
    rw [if_neg (Nat.lt_irrefl _)]
    unfold zxe
    rw [if_neg (fun z => absurd z.1 (Nat.lt_irrefl _))]
    cases e : (zrSd n m T g a a ^^ T a a)
    · rfl
    · exact absurd rfl (hin a a e).2.2
  · rw [if_neg (by omega), hsy a b]; exact hz b a q
theorem zRul_v {n m : Nat} {T : Nat → Nat → Bool} {g : Nat → Nat} (a b : Nat) : (tv (zRul n m T g) a b ≠ 0 → a < b ∧ b < n) ∧ tv (zRul n m T g) a b ≤ 1 := by
  show (zxe (fun p q => zrSd n m T g p q ^^ T p q) n a b ≠ 0 → _) ∧ zxe (fun p q => zrSd n m T g p q ^^ T p q) n a b ≤ 1
  unfold zxe
  split
  next h => exact ⟨fun _ => ⟨h.1, h.2.1⟩, Nat.le_refl _⟩
  next h => exact ⟨fun w => absurd rfl w, by omega⟩
theorem zNum_id (f : Nat → Nat) (p : Nat) : zNum (zNum f) p = zNum f p ∧ zNew (zNum f) p = zNew f p := by
  have h : ∀ p, zfl (zNum f) (zNum f p) p = zfl f (f p) p := fun p => zfind_ext fun q _ => by
    show decide (zNum f q = zNum f p) = decide (f q = f p)
    exact decide_eq_decide.mpr zNum_inj
  have h2 : ∀ p, zNew (zNum f) p = zNew f p := fun p => by unfold zNew; rw [h p]
  exact ⟨by show zcnt (zNew (zNum f)) (zfl (zNum f) (zNum f p) p) = zcnt (zNew f) (zfl f (f p) p); rw [h p]; exact zcnt_ext (fun i _ => h2 i), h2 p⟩
theorem zTw_rul {n m : Nat} {T : Nat → Nat → Bool} {g : Nat → Nat} (hm : m ≤ 16) (hm2 : m = zcnt (zNew g) n) (hg : ∀ q, q < n → g q < m ∧ zNum g q = g q) : zTw n (zRul n m T g) := by
  refine ⟨⟨hm, hm2, hg⟩, fun i k _ hk => zrow_ok hk, ⟨fun i h => ?_, fun i j h => ?_, fun p i h => ?_, fun i h => ?_⟩, fun a b => (zRul_v a b).1, fun a b => by have := (zRul_v (n := n) (m := m) (T := T) (g := g) a b).2; omega⟩
  · have h2 : zrC n m T g i = true := h
    unfold zrC at h2
    have h3 := of_decide_eq_true h2
    exact ⟨h3.1, h3.2.1⟩
  · have h2 : zrD n m T g i j = true := h
    unfold zrD at h2
    have h3 := of_decide_eq_true h2
    exact ⟨h3.1, h3.2.1⟩
  · have h2 : zrG n m T g p i = true := h
    unfold zrG at h2
    rw [Bool.and_eq_true] at h2
    have h3 := of_decide_eq_true h2.1
    refine ⟨h3.1, h3.2, Classical.byContradiction fun z => ?_⟩
    have h4 := h2.2
    unfold zrc at h4
    have h5 := of_decide_eq_true h4
    have h6 : zrO n T g (zrI n m T g (zrP n m T g p) p i) p i = 0 := zsI_0 fun q hq => by
      unfold zrw
      rw [if_neg (fun w => z ⟨q, hq, w.1, w.2.1⟩)]
    rw [h6, Int.mul_zero] at h5
    omega
  · have h2 : zrH n m T g i = true := h
    unfold zrH at h2
    rw [Bool.and_eq_true] at h2
    have h4 := h2.2
    unfold zrh at h4
    exact ⟨of_decide_eq_true h2.1, (of_decide_eq_true h4).1⟩
end
section
-- part c5.ctell.lean.txt
/-! ===== the class: its plain length; words told by the rule ===== -/
/-! sums over words -/
theorem zWd.at {M : zMem} {x k : Nat} {W : Nat → Bool} (h : zWd M x W) (hk : k < zcnt W 1024) : ∃ c, c < 1024 ∧ W c = true ∧ zcnt W c = k ∧ M ((x + 6 : Nat) : Int) ((k : Nat) : Int) = ((c : Nat) : Int) := by
  obtain ⟨c, h1, h2, h3⟩ := zcnt_has W 1024 k hk
  exact ⟨c, h1, h2, h3, by rw [← h3]; exact h.2 c h1 h2⟩
def zac (W : Nat → Bool) (F : Nat → Nat) (k n : Nat) : Nat := zsum (fun c => if W c = true ∧ zcnt W c < k then F c else 0) n
theorem zac_0 (W : Nat → Bool) (F : Nat → Nat) (n : Nat) : zac W F 0 n = 0 := zsum_z fun i _ => if_neg (by omega)
theorem zac_su {W : Nat → Bool} {F : Nat → Nat} {c k : Nat} (hW : W c = true) (hz : zcnt W c = k) (n : Nat) : zac W F (k + 1) n = zac W F k n + (if c < n then F c else 0) := by
  unfold zac
  induction n with
  | zero => rfl
  | succ n ih =>
    rw [zsum_su, zsum_su, ih]
    by_cases e : n = c
    · subst e
      rw [if_pos (show W n = true ∧ zcnt W n < k + 1 from ⟨hW, by omega⟩), if_neg (show ¬ (W n = true ∧ zcnt W n < k) from fun q => by omega), if_neg (Nat.lt_irrefl n), if_pos (show n < n + 1 by omega)]
    · have h1 : (W n = true ∧ zcnt W n < k + 1) ↔ (W n = true ∧ zcnt W n < k) := ⟨fun q => ⟨q.1, by
        by_cases w : zcnt W n = k
        · exact absurd (zcnt_inj W q.1 hW (w.trans hz.symm)) e
        · have := q.2; omega⟩, fun q => ⟨q.1, by have := q.2; omega⟩⟩
      have h2 : (if W n = true ∧ zcnt W n < k + 1 then F n else 0) = (if W n = true ∧ zcnt W n < k then F n else 0) := by
        by_cases w : W n = true ∧ zcnt W n < k
        · rw [if_pos w, if_pos (h1.mpr w)]
        · rw [if_neg w, if_neg (fun q => w (h1.mp q))]
      rw [h2]
      by_cases w : c < n
      · rw [if_pos w, if_pos (show c < n + 1 by omega)]; omega
      · rw [if_neg w, if_neg (show ¬ c < n + 1 by omega)]; omega
theorem zac_end (W : Nat → Bool) (F : Nat → Nat) (n : Nat) : zac W F (zcnt W n) n = zsum (fun c => if W c = true then F c else 0) n := zsum_ext fun c hc => by
  by_cases e : W c = true
  · rw [if_pos e, if_pos ⟨e, zcnt_lt W hc e⟩]
  · rw [if_neg e, if_neg (fun q => e q.1)]
theorem zac_le {W : Nat → Bool} {F : Nat → Nat} {B : Nat} (h : ∀ c, F c ≤ B) (k n : Nat) : zac W F k n ≤ n * B := zsum_le (fun c => zite_le (h c)) n
/-- bits of a word -/
def zbo (n m c : Nat) : Nat := if c / 256 = 1 then 3 + 2 * zBits m else if c / 256 = 2 then 3 + zBits n + zBits m else 3 + zBits m
theorem zbo_le {n m : Nat} (hn : n ≤ 16) (hm : m ≤ 16) (c : Nat) : zbo n m c ≤ 11 := by
  have := zBits_4 hn
  have := zBits_4 hm
  unfold zbo
  split
  · omega
  · split <;> omega
theorem c_bitsOf {O : zOm} (hO : zWld O) {x n m c : Nat} {M : zMem} {K : Option zV → zMem → Prop} (hx : zTeC (zS O) x) (hn : M ((x + 1 : Nat) : Int) ((3 : Nat) : Int) = ((n : Nat) : Int)) (hn2 : n ≤ 16) (hm : M ((x + 1 : Nat) : Int) ((4 : Nat) : Int) = ((m : Nat) : Int)) (hm2 : m ≤ 16) (hc : c < 1024) (hk : K (some (0, ((zbo n m c : Nat) : Int))) M) : zR O F_Telling_bitsOf [(2, ((x : Nat) : Int)), (0, ((c : Nat) : Int))] M K := by
  obtain ⟨⟨o, x0, x1, x2, x3, x4, x5, x6⟩, ⟨y1, y2⟩, ⟨p0, p1, p2, p3, p4, p5, p6, p7, p8⟩, n1, n2, n3⟩ := hx
  have := zBits_4 hn2
  have := zBits_4 hm2
  apply r_Telling_bitsOf hO
  unfold B_Telling_bitsOf
  unfold zbo at hk
  ((with_reducible refine i_Seq (i_Set (i_Call (i_as1 (i_F (i_FR (i_A0 ?_))))))); (with_reducible refine i_fldR (by assumption) ?_); (with_reducible refine i_fld (by assumption) ?_); (with_reducible refine i_as0 (i_recv2 ?_)); (rw [hm]); (refine s_bits hO (by omega) ⟨_, rfl, ?_⟩); (with_reducible refine i_Sw (i_Call (i_as1 ?_))); simp only [w_set0, w_set1, w_setn0, w_setn1]; (with_reducible refine i_L1 (i_as0 (i_recv1 ?_))); (refine c_kindOf hO hc ⟨_, rfl, ?_⟩); (with_reducible refine i_sw1 ?_))
  by_cases e1 : c / 256 = 1
  · rw [if_pos e1] at hk
    rw [e1]
    ((refine i_t (by decide) ?_); (with_reducible refine i_RetI (i_Add (i_I (i_Mul (i_I (i_L2 ?_)))))); rw [zx_cmul (by omega)]; rw [zx_cadd (by omega)])
    exact hk
  · rw [if_neg e1] at hk
    by_cases e2 : c / 256 = 2
    · rw [if_pos e2] at hk
      rw [e2]
      ((refine i_f (by decide) ?_); (with_reducible refine i_sw1 ?_); (refine i_t (by decide) ?_); (with_reducible refine i_RetI (i_Add (i_Add (i_I (i_Call (i_as1 (i_F (i_FR (i_A0 ?_))))))))); (with_reducible refine i_fldR (by assumption) ?_); (with_reducible refine i_fld (by assumption) ?_); (with_reducible refine i_as0 (i_recv2 ?_)); (rw [hn]); (refine s_bits hO (by omega) ⟨_, rfl, ?_⟩); (with_reducible refine i_L2 ?_); rw [zx_cadd (by omega)]; rw [zx_add (by omega)])
      exact hk
    · rw [if_neg e2] at hk
      have h1 : ¬ (((c / 256 : Nat) : Int) ∈ [(1 : Int)]) := fun z => by rw [List.mem_singleton] at z; omega
      have h2 : ¬ (((c / 256 : Nat) : Int) ∈ [(2 : Int)]) := fun z => by rw [List.mem_singleton] at z; omega
      ((refine i_f h1 ?_); (with_reducible refine i_sw1 ?_); (refine i_f h2 ?_); (with_reducible refine i_sw0 (i_RetI (i_Add (i_I (i_L2 ?_))))); rw [zx_cadd (by omega)])
      exact hk
theorem zpairs_p2 {n : Nat} {T : Nat → Nat → Bool} (hT : zReg n T) (hn : n ≤ 16) : zpairs n T = zp2 T n := by
  have e1 := zS2_P2 (fun p q => zbI (T p q)) n
  have e2 : zsI (fun p => zbI (T p p)) n = 0 := zsI_0 fun p _ => by rw [hT.2.1]; rfl
  have e3 : zP2 (fun p q => zbI (T p q) + zbI (T q p)) n = zP2 (fun p q => 2 * zbI (T p q) + 0 * zbI (T p q)) n := zP2_ext fun p q _ _ => by rw [hT.1 q p]; omega
  have e4 : zS2 (fun p q => zbI (T p q)) n = ((zsum (fun p => zcnt (T p) 16) n : Nat) : Int) := by
    unfold zS2
    rw [← zsum_zsI]
    refine zsI_ext fun p _ => ?_
    rw [zcnt_zsI, zcnt_top (W := T p) (c := n) (fun d hd => by
      cases e : T p d
      · rfl
      · have := (hT.lt e).2; omega) hn]
  rw [e2, e3, zP2_lin, zP2_zp2, e4] at e1
  unfold zpairs
  omega
theorem zp2_add {f g h : Nat → Nat → Bool} {n : Nat} (e : ∀ p q, p < q → q < n → (if f p q = true then 1 else 0) = (if g p q = true then 1 else 0) + (if h p q = true then 1 else 0)) : zp2 f n = zp2 g n + zp2 h n := by
  have e1 : zP2 (fun p q => zbI (f p q)) n = zP2 (fun p q => 1 * zbI (g p q) + 1 * zbI (h p q)) n := zP2_ext fun p q h1 h2 => by
    have := e p q h1 h2
    revert this
    cases f p q <;> cases g p q <;> cases h p q <;> simp [zbI]
  rw [zP2_lin, zP2_zp2, zP2_zp2, zP2_zp2] at e1
  omega
/-- lengths without what sorts take -/
def zPl (n : Nat) (A : zTl) : Nat := n * zBits n + 4 * tm A + zsum (fun c => if zWsn A c = true then zbo n (tm A) c else 0) 1024 + (2 + 2 * zBits n) * zp2 (fun p q => decide (tv A p q = 1)) n
theorem tvs_lt {A : zTl} {p q : Nat} (h : p < q) : tvs A p q = tv A p q := if_pos h
theorem tvs_reg {n : Nat} {A : zTl} (hw : ∀ a b, tv A a b ≠ 0 → a < b ∧ b < n) (v : Nat → Bool) (hv : v 0 = false) : zReg n (fun p q => v (tvs A p q)) := by
  have h0 : ∀ a b, ¬ (a < b ∧ b < n) → tv A a b = 0 := fun a b h => Classical.byContradiction fun z => h (hw a b z)
  refine ⟨fun a b => ?_, fun a => ?_, fun a b h => ?_⟩
  · show v (tvs A a b) = v (tvs A b a)
    unfold tvs
    rcases Nat.lt_trichotomy a b with q | q | q
    · rw [if_pos q, if_neg (by omega)]
    · subst q; rfl
    · rw [if_neg (by omega), if_pos q]
  · show v (tvs A a a) = false
    unfold tvs
    rw [if_neg (Nat.lt_irrefl _), h0 a a (by omega), hv]
  · have h1 : v (tvs A a b) = true := h
    unfold tvs at h1
    by_cases q : a < b
    · rw [if_pos q] at h1
      by_cases w : b < n
      · omega
      · rw [h0 a b (fun z => w z.2), hv] at h1; cases h1
    · rw [if_neg q] at h1
      by_cases w : b < a ∧ a < n
      · omega
      · rw [h0 b a w, hv] at h1; cases h1
theorem c_plainLength {O : zOm} (hO : zWld O) {x n : Nat} {A : zTl} {M : zMem} {K : Option zV → zMem → Prop} (hx : zTeC (zS O) x) (hA : zTR M x n A) (hn : n ≤ 16) (hm : tm A ≤ 16) (hv1 : ∀ a b, tv A a b ≠ 0 → a < b ∧ b < n) (hv2 : ∀ a b, tv A a b ≤ 2) (hk : K (some (0, ((zPl n A : Nat) : Int))) M) : zR O F_Telling_plainLength [(2, ((x : Nat) : Int))] M K := by
  have hx0 := hx
  obtain ⟨⟨o, x0, x1, x2, x3, x4, x5, x6⟩, ⟨y1, y2⟩, ⟨p0, p1, p2, p3, p4, p5, p6, p7, p8⟩, n1, n2, n3⟩ := hx
  obtain ⟨hP, hr, ⟨hW, hW2⟩, hS, hX, hL⟩ := hA
  have o2 := n2.2.2.2
  have o3 := n3.2.2.2
  have hP1 := hP.1
  have hP2 := hP.2.1
  have hb4 := zBits_4 hm
  have hbn4 := zBits_4 hn
  have hW1 := hW.1
  have hnb : n * zBits n ≤ 16 * 4 := Nat.mul_le_mul hn hbn4
  have rX := tvs_reg hv1 (fun k => decide (k ≠ 0)) rfl
  have rL := tvs_reg hv1 (fun k => decide (k = 2)) rfl
  have pX := zpairs_p2 rX hn
  have pL := zpairs_p2 rL hn
  have hadd : zp2 (fun p q => decide (tvs A p q ≠ 0)) n = zp2 (fun p q => decide (tv A p q = 1)) n + zp2 (fun p q => decide (tvs A p q = 2)) n := zp2_add fun p q h1 _ => by
    rw [tvs_lt h1]
    have := hv2 p q
    rcases (show tv A p q = 0 ∨ tv A p q = 1 ∨ tv A p q = 2 by omega) with e | e | e <;> rw [e] <;> rfl
  have hle := zp2_le (fun p q => decide (tvs A p q ≠ 0)) hn
  apply r_Telling_plainLength hO
  unfold B_Telling_plainLength
  ((with_reducible refine i_Seq (i_Set (i_F (i_FR (i_A0 ?_))))); (with_reducible refine i_fldR (by assumption) ?_); (with_reducible refine i_fld (by assumption) ?_); (with_reducible refine i_Seq (i_Set (i_Add (i_Mul ?_)))); (rw [hP1]); simp only [w_set0, w_set1, w_setn0, w_setn1]; (with_reducible refine i_L1 (i_Call (i_as1 (i_L1 (i_as0 (i_recv2 ?_)))))); (refine s_bits hO (by omega) ⟨_, rfl, ?_⟩); (with_reducible refine i_Mul (i_I (i_F (i_FR (i_A0 ?_))))); (with_reducible refine i_fldR (by assumption) ?_); (with_reducible refine i_fld (by assumption) ?_); (with_reducible refine i_Seq (i_Blk (i_Seq (i_Set (i_I ?_))))); (rw [hP2]); (rw [zx_mul (by omega)]); rw [zx_cmul (by omega)]; rw [zx_add (by omega)]; simp only [w_set0, w_set1, w_setn0, w_setn1])
  refine w_ForN (zcnt (zWsn A) 1024) (fun k ρ M' => (∃ l, ρ = ((x : Nat) : Int) :: ((n : Nat) : Int) :: ((n * zBits n + 4 * tm A + zac (zWsn A) (zbo n (tm A)) k 1024 : Nat) : Int) :: ((k : Nat) : Int) :: l) ∧ M' = M) ⟨⟨_, by rw [zac_0]; rfl⟩, rfl⟩ ?_ ?_
  · rintro k ρ M1 X hk1 ⟨⟨l, rfl⟩, rfl⟩ hX
    obtain ⟨c, c1, c2, c3, c4⟩ := hW.at hk1
    have h1 := zac_le (W := zWsn A) (zbo_le (n := n) hn hm) k 1024
    have h2 := zbo_le (n := n) hn hm c
    rw [zac_su c2 c3, if_pos c1] at hX
    ((with_reducible refine i_turn (i_cI_lt (i_L3 (i_F (i_A0 ?_))))); (with_reducible refine i_fld (by assumption) ?_); (rw [hW1]); (with_reducible refine i_t (by omega) ?_); (with_reducible refine i_Set (i_Add (i_L2 (i_Call (i_as1 (i_A0 (i_as1 (i_IA (i_FR (i_A0 ?_)))))))))); (with_reducible refine i_fldR (by assumption) ?_); (with_reducible refine i_L3 ?_); (with_reducible refine i_in (by assumption) (by omega) (by omega) ?_); (with_reducible refine i_as0 ?_); (with_reducible refine i_recv0 (by assumption) ?_); (rw [c4]); (refine c_bitsOf hO hx0 hP1 hn hP2 hm c1 ⟨_, rfl, ?_⟩); (with_reducible refine i_up ?_); rw [zx_add (by omega)]; simp only [w_set0, w_set1, w_setn0, w_setn1]; (with_reducible refine i_Inc3 ?_); rw [zx_inc (by omega)]; simp only [w_set0, w_set1, w_setn0, w_setn1])
    exact hX _ _ ⟨⟨_, by rw [← Nat.add_assoc]⟩, rfl⟩
  · rintro ρ M1 X ⟨⟨l, rfl⟩, rfl⟩
    have h1 := zac_le (W := zWsn A) (zbo_le (n := n) hn hm) (zcnt (zWsn A) 1024) 1024
    rw [zac_end] at h1 ⊢
    have h5 : (2 + 2 * zBits n) * zp2 (fun p q => decide (tv A p q = 1)) n ≤ 10 * 120 := Nat.mul_le_mul (by omega) (zp2_le _ hn)
    unfold zPl at hk
    ((with_reducible refine i_turn (i_cI_lt (i_L3 (i_F (i_A0 ?_))))); (with_reducible refine i_fld (by assumption) ?_); (rw [hW1]); (with_reducible refine i_f (by omega) ?_); (with_reducible refine i_RetI (i_Add (i_L2 (i_Mul (i_Call (i_as1 (i_L1 (i_as0 (i_recv2 ?_))))))))); (refine s_exceptBits hO (by omega) ⟨_, rfl, ?_⟩); (with_reducible refine i_Sub (i_Call (i_as1 (i_FR (i_A0 ?_))))); (with_reducible refine i_fldR (by assumption) ?_); (with_reducible refine i_as0 ?_); (with_reducible refine i_recv0 (by assumption) ?_); (refine s_Net_pairs hO n2 hX hn ⟨_, rfl, ?_⟩); (with_reducible refine i_Call (i_as1 (i_FR (i_A0 ?_)))); (with_reducible refine i_fldR (by assumption) ?_); (with_reducible refine i_as0 ?_); (with_reducible refine i_recv0 (by assumption) ?_); (refine s_Net_pairs hO n3 hL hn ⟨_, rfl, ?_⟩); (rw [pX]); (rw [pL]); (rw [hadd]); rw [zx_sub (by omega) (by omega)]; (rw [Nat.add_sub_cancel]); (rw [zx_mul (by omega)]); rw [zx_add (by omega)])
    exact hk
theorem c_tell {O : zOm} (hO : zWld O) {r x y n m : Nat} {g : Nat → Nat} {T : Nat → Nat → Bool} {M : zMem} {K : Option zV → zMem → Prop} (hr : zRl (zS O) r) (hx : zTeC (zS O) x) (hy : zNet (zS O) y) (hrx : r + 1 < x) (hyx : y + 1 < x ∨ x + 12 < y) (hyr : y + 1 < r ∨ r + 1 < y) (hN : zNR M y n T) (hT : zReg n T) (hM : zPR M (x + 1) n g m) (hn : n ≤ 16) (hm : m ≤ 16) (hg : ∀ q, q < n → g q < m) (hon : ∀ i, i < m → ∃ p, p < n ∧ g p = i)
    (hk : ∀ M', (∀ b j, ¬ (b = ((r : Nat) : Int) ∨ b = ((r + 1 : Nat) : Int) ∨ b = ((x : Nat) : Int) ∨ ((x + 5 : Nat) : Int) ≤ b ∧ b ≤ ((x + 12 : Nat) : Int)) → M' b j = M b j) → zTR M' x n (zRul n m T g) → K (some (0, ((zPl n (zRul n m T g) : Nat) : Int))) M') : zR O F_Rule_tell [(2, ((r : Nat) : Int)), (2, ((y : Nat) : Int)), (2, ((x : Nat) : Int))] M K := by
  have hr0 := hr
  have hx0 := hx
  have hy0 := hy
  obtain ⟨r0, r1, r2, r3, r4, r5⟩ := hr
  obtain ⟨⟨o, x0, x1, x2, x3, x4, x5, x6⟩, ⟨y1, y2⟩, hp, n1, n2, n3⟩ := hx
  obtain ⟨u1, u2, u3, u4⟩ := hy
  have hp0 := hp
  obtain ⟨p0, p1, p2, p3, p4, p5, p6, p7, p8⟩ := hp
  have hN1 := hN.1
  have hM2 := hM.2.1
  have hb4 := zBits_4 hm
  have hbn4 := zBits_4 hn
  apply r_Rule_tell hO
  unfold B_Rule_tell
  ((with_reducible refine i_Seq (i_sF (i_A0 (i_Call (i_as1 (i_F (i_A1 ?_))))))); (with_reducible refine i_fld (by assumption) ?_); (with_reducible refine i_as0 (i_recv2 ?_)); (rw [hN1]); (refine s_exceptBits hO (by omega) ⟨_, rfl, ?_⟩); (with_reducible refine i_fld (by assumption) ?_); (with_reducible refine i_Seq (i_sF (i_A0 (i_Call (i_as1 (i_F (i_FR (i_A2 ?_)))))))); (with_reducible refine i_fldR (by assumption) ?_); (with_reducible refine i_fld (by assumption) ?_); (with_reducible refine i_as0 (i_recv2 ?_)); rw [zg_n _ _ _ (by omega)]; (rw [hM2]); (refine s_bits hO (by omega) ⟨_, rfl, ?_⟩); (with_reducible refine i_fld (by assumption) ?_); (with_reducible refine i_Seq (i_sF (i_A0 (i_Call (i_as1 (i_F (i_A1 ?_))))))); (with_reducible refine i_fld (by assumption) ?_); (with_reducible refine i_as0 (i_recv2 ?_)); rw [zg_n _ _ _ (by omega)]; rw [zg_n _ _ _ (by omega)]; (rw [hN1]); (refine s_bits hO (by omega) ⟨_, rfl, ?_⟩); (with_reducible refine i_fld (by assumption) ?_); (with_reducible refine i_Seq (i_sCall (i_as1 (i_A2 (i_as0 ?_))))); (with_reducible refine i_recv0 (by assumption) ?_))
  have e1 : ∀ b j, ¬ b = ((r : Nat) : Int) → zput (zput (zput M ((r : Nat) : Int) (zup (M ((r : Nat) : Int)) ((1 : Nat) : Int) ((2 + 2 * zBits n : Nat) : Int))) ((r : Nat) : Int) (zup (zput M ((r : Nat) : Int) (zup (M ((r : Nat) : Int)) ((1 : Nat) : Int) ((2 + 2 * zBits n : Nat) : Int)) ((r : Nat) : Int)) ((2 : Nat) : Int) ((zBits m : Nat) : Int))) ((r : Nat) : Int) (zup (zput (zput M ((r : Nat) : Int) (zup (M ((r : Nat) : Int)) ((1 : Nat) : Int) ((2 + 2 * zBits n : Nat) : Int))) ((r : Nat) : Int) (zup (zput M ((r : Nat) : Int) (zup (M ((r : Nat) : Int)) ((1 : Nat) : Int) ((2 + 2 * zBits n : Nat) : Int)) ((r : Nat) : Int)) ((2 : Nat) : Int) ((zBits m : Nat) : Int)) ((r : Nat) : Int)) ((3 : Nat) : Int) ((zBits n : Nat) : Int)) b j = M b j := fun b j q => by
    (rw [zg_n _ _ _ (by omega)]; rw [zg_n _ _ _ (by omega)]; rw [zg_n _ _ _ (by omega)])
  have e2 : zput (zput (zput M ((r : Nat) : Int) (zup (M ((r : Nat) : Int)) ((1 : Nat) : Int) ((2 + 2 * zBits n : Nat) : Int))) ((r : Nat) : Int) (zup (zput M ((r : Nat) : Int) (zup (M ((r : Nat) : Int)) ((1 : Nat) : Int) ((2 + 2 * zBits n : Nat) : Int)) ((r : Nat) : Int)) ((2 : Nat) : Int) ((zBits m : Nat) : Int))) ((r : Nat) : Int) (zup (zput (zput M ((r : Nat) : Int) (zup (M ((r : Nat) : Int)) ((1 : Nat) : Int) ((2 + 2 * zBits n : Nat) : Int))) ((r : Nat) : Int) (zup (zput M ((r : Nat) : Int) (zup (M ((r : Nat) : Int)) ((1 : Nat) : Int) ((2 + 2 * zBits n : Nat) : Int)) ((r : Nat) : Int)) ((2 : Nat) : Int) ((zBits m : Nat) : Int)) ((r : Nat) : Int)) ((3 : Nat) : Int) ((zBits n : Nat) : Int)) ((r : Nat) : Int) ((1 : Nat) : Int) = ((2 + 2 * zBits n : Nat) : Int) := by
    (rw [zg_m _ _ _ _ _ (by omega)]; rw [zg_m _ _ _ _ _ (by omega)]; rw [zg_s])
  have e3 : zput (zput (zput M ((r : Nat) : Int) (zup (M ((r : Nat) : Int)) ((1 : Nat) : Int) ((2 + 2 * zBits n : Nat) : Int))) ((r : Nat) : Int) (zup (zput M ((r : Nat) : Int) (zup (M ((r : Nat) : Int)) ((1 : Nat) : Int) ((2 + 2 * zBits n : Nat) : Int)) ((r : Nat) : Int)) ((2 : Nat) : Int) ((zBits m : Nat) : Int))) ((r : Nat) : Int) (zup (zput (zput M ((r : Nat) : Int) (zup (M ((r : Nat) : Int)) ((1 : Nat) : Int) ((2 + 2 * zBits n : Nat) : Int))) ((r : Nat) : Int) (zup (zput M ((r : Nat) : Int) (zup (M ((r : Nat) : Int)) ((1 : Nat) : Int) ((2 + 2 * zBits n : Nat) : Int)) ((r : Nat) : Int)) ((2 : Nat) : Int) ((zBits m : Nat) : Int)) ((r : Nat) : Int)) ((3 : Nat) : Int) ((zBits n : Nat) : Int)) ((r : Nat) : Int) ((2 : Nat) : Int) = ((zBits m : Nat) : Int) := by
    (rw [zg_m _ _ _ _ _ (by omega)]; rw [zg_s])
  have e4 : zput (zput (zput M ((r : Nat) : Int) (zup (M ((r : Nat) : Int)) ((1 : Nat) : Int) ((2 + 2 * zBits n : Nat) : Int))) ((r : Nat) : Int) (zup (zput M ((r : Nat) : Int) (zup (M ((r : Nat) : Int)) ((1 : Nat) : Int) ((2 + 2 * zBits n : Nat) : Int)) ((r : Nat) : Int)) ((2 : Nat) : Int) ((zBits m : Nat) : Int))) ((r : Nat) : Int) (zup (zput (zput M ((r : Nat) : Int) (zup (M ((r : Nat) : Int)) ((1 : Nat) : Int) ((2 + 2 * zBits n : Nat) : Int))) ((r : Nat) : Int) (zup (zput M ((r : Nat) : Int) (zup (M ((r : Nat) : Int)) ((1 : Nat) : Int) ((2 + 2 * zBits n : Nat) : Int)) ((r : Nat) : Int)) ((2 : Nat) : Int) ((zBits m : Nat) : Int)) ((r : Nat) : Int)) ((3 : Nat) : Int) ((zBits n : Nat) : Int)) ((r : Nat) : Int) ((3 : Nat) : Int) = ((zBits n : Nat) : Int) := by
    (rw [zg_s])
  generalize zput (zput (zput M ((r : Nat) : Int) (zup (M ((r : Nat) : Int)) ((1 : Nat) : Int) ((2 + 2 * zBits n : Nat) : Int))) ((r : Nat) : Int) (zup (zput M ((r : Nat) : Int) (zup (M ((r : Nat) : Int)) ((1 : Nat) : Int) ((2 + 2 * zBits n : Nat) : Int)) ((r : Nat) : Int)) ((2 : Nat) : Int) ((zBits m : Nat) : Int))) ((r : Nat) : Int) (zup (zput (zput M ((r : Nat) : Int) (zup (M ((r : Nat) : Int)) ((1 : Nat) : Int) ((2 + 2 * zBits n : Nat) : Int))) ((r : Nat) : Int) (zup (zput M ((r : Nat) : Int) (zup (M ((r : Nat) : Int)) ((1 : Nat) : Int) ((2 + 2 * zBits n : Nat) : Int)) ((r : Nat) : Int)) ((2 : Nat) : Int) ((zBits m : Nat) : Int)) ((r : Nat) : Int)) ((3 : Nat) : Int) ((zBits n : Nat) : Int)) = M1 at e1 e2 e3 e4 ⊢
  have P1 : zPR M1 (x + 1) n g m := hM.fr (fun b j h1 h2 => e1 b j (by omega))
  have N1 : zNR M1 y n T := ⟨by rw [e1 _ _ (by omega)]; exact hN.1, fun p hp => by rw [e1 _ _ (by omega)]; exact hN.2 p hp⟩
  refine c_clearWords hO hx0 P1.1 (fun M2 f2 w2 s2 xx2 ll2 => ⟨rfl, ?_⟩)
  have P2 : zPR M2 (x + 1) n g m := P1.fr (fun b j h1 h2 => f2 b j (by omega))
  have N2 : zNR M2 y n T := ⟨by rw [f2 _ _ (by omega)]; exact N1.1, fun p hp => by rw [f2 _ _ (by omega)]; exact N1.2 p hp⟩
  ((with_reducible refine i_Seq (i_sCall (i_as1 (i_A0 (i_as1 (i_A1 (i_as1 (i_FR (i_A2 ?_))))))))); (with_reducible refine i_fldR (by assumption) ?_); (with_reducible refine i_as0 ?_); (with_reducible refine i_recv0 (by assumption) ?_))
  refine c_countBetween hO hr0 hp0 hy0 P2 hn hm N2 hg (by omega) hyr (fun M3 f3 b3 => ⟨rfl, ?_⟩)
  have P3 : zPR M3 (x + 1) n g m := P2.fr (fun b j h1 h2 => f3 b j (by omega))
  have N3 : zNR M3 y n T := ⟨by rw [f3 _ _ (by omega)]; exact N2.1, fun p hp => by rw [f3 _ _ (by omega)]; exact N2.2 p hp⟩
  have E3 : M3 ((r : Nat) : Int) ((1 : Nat) : Int) = ((2 + 2 * zBits n : Nat) : Int) := by rw [f3 _ _ (by omega), f2 _ _ (by omega)]; exact e2
  have B3 : M3 ((r : Nat) : Int) ((2 : Nat) : Int) = ((zBits m : Nat) : Int) := by rw [f3 _ _ (by omega), f2 _ _ (by omega)]; exact e3
  have C3 : M3 ((r : Nat) : Int) ((3 : Nat) : Int) = ((zBits n : Nat) : Int) := by rw [f3 _ _ (by omega), f2 _ _ (by omega)]; exact e4
  have K3 : zTk M3 x n m T g 0 (fun _ _ => false) := ⟨⟨by rw [f3 _ _ (by omega)]; exact s2.1, fun p hp => by rw [f3 _ _ (by omega)]; exact s2.2 p hp⟩, (w2.to (fun j => f3 _ _ (by omega)) (fun j => f3 _ _ (by omega))).ext (fun c _ => (zrV_top c (Nat.zero_le _)).symm), by rw [zcnt_z (fun c _ => zrV_top c (Nat.zero_le _))]; exact Nat.zero_le _⟩
  ((with_reducible refine i_Seq (i_sCall (i_as1 (i_A0 (i_as1 (i_A2 (i_as0 ?_))))))); (with_reducible refine i_recv0 (by assumption) ?_))
  refine c_takeCrowds hO hr0 hx0 hrx E3 B3 P3 hn hm hg hT b3 K3 (fun M4 f4 K4 => ⟨rfl, ?_⟩)
  have P4 : zPR M4 (x + 1) n g m := P3.fr (fun b j h1 h2 => f4 b j (by omega))
  have N4 : zNR M4 y n T := ⟨by rw [f4 _ _ (by omega)]; exact N3.1, fun p hp => by rw [f4 _ _ (by omega)]; exact N3.2 p hp⟩
  ((with_reducible refine i_Seq (i_sCall (i_as1 (i_A0 (i_as1 (i_A2 (i_as0 ?_))))))); (with_reducible refine i_recv0 (by assumption) ?_))
  refine c_takeSides hO hr0 hx0 hrx ((f4 _ _ (by omega)).trans E3) ((f4 _ _ (by omega)).trans B3) P4 hn hm hg hon hT (fun a b ha hb => (f4 _ _ (by omega)).trans (b3 a b ha hb)) K4 (fun M5 f5 K5 => ⟨rfl, ?_⟩)
  have P5 : zPR M5 (x + 1) n g m := P4.fr (fun b j h1 h2 => f5 b j (by omega))
  have N5 : zNR M5 y n T := ⟨by rw [f5 _ _ (by omega)]; exact N4.1, fun p hp => by rw [f5 _ _ (by omega)]; exact N4.2 p hp⟩
  ((with_reducible refine i_Seq (i_sCall (i_as1 (i_A0 (i_as1 (i_A1 (i_as1 (i_A2 (i_as0 ?_))))))))); (with_reducible refine i_recv0 (by assumption) ?_))
  refine c_takeStars hO hr0 hx0 hy0 hrx hyx N5 (by rw [f5 _ _ (by omega), f4 _ _ (by omega)]; exact E3) (by rw [f5 _ _ (by omega), f4 _ _ (by omega)]; exact B3) (by rw [f5 _ _ (by omega), f4 _ _ (by omega)]; exact C3) P5 hn hm hg K5 (fun M6 f6 K6 => ⟨rfl, ?_⟩)
  have P6 : zPR M6 (x + 1) n g m := P5.fr (fun b j h1 h2 => f6 b j (by omega))
  have N6 : zNR M6 y n T := ⟨by rw [f6 _ _ (by omega)]; exact N5.1, fun p hp => by rw [f6 _ _ (by omega)]; exact N5.2 p hp⟩
  ((with_reducible refine i_Seq (i_sCall (i_as1 (i_A0 (i_as1 (i_A1 (i_as1 (i_A2 (i_as0 ?_))))))))); (with_reducible refine i_recv0 (by assumption) ?_))
  refine c_layRows hO hx0 hy0 hyx N6 hT P6 hn hm hon (fun M7 f7 R7 => ⟨rfl, ?_⟩)
  have P7 : zPR M7 (x + 1) n g m := P6.fr (fun b j h1 h2 => f7 b j (by omega))
  have N7 : zNR M7 y n T := ⟨by rw [f7 _ _ (by omega)]; exact N6.1, fun p hp => by rw [f7 _ _ (by omega)]; exact N6.2 p hp⟩
  have K7 := K6.to (M' := M7) (fun j => f7 _ _ (by omega)) (fun j => f7 _ _ (by omega)) (fun j => f7 _ _ (by omega)) (fun j => f7 _ _ (by omega))
  ((with_reducible refine i_Seq (i_sCall (i_as1 (i_A0 (i_as1 (i_A1 (i_as1 (i_A2 (i_as0 ?_))))))))); (with_reducible refine i_recv0 (by assumption) ?_))
  refine c_takeChains hO hr0 hx0 hy0 hrx hyx N7 hT (by rw [f7 _ _ (by omega), f6 _ _ (by omega), f5 _ _ (by omega), f4 _ _ (by omega)]; exact E3) (by rw [f7 _ _ (by omega), f6 _ _ (by omega), f5 _ _ (by omega), f4 _ _ (by omega)]; exact B3) P7 hn hm hon R7 K7 (fun M8 f8 K8 => ⟨rfl, ?_⟩)
  have P8 : zPR M8 (x + 1) n g m := P7.fr (fun b j h1 h2 => f8 b j (by omega))
  have N8 : zNR M8 y n T := ⟨by rw [f8 _ _ (by omega)]; exact N7.1, fun p hp => by rw [f8 _ _ (by omega)]; exact N7.2 p hp⟩
  have R8 : ∀ b k : Nat, b < m → k < zSz g n b → M8 ((x + 5 : Nat) : Int) ((zSt0 g n b + k : Nat) : Int) = ((zrow n g T b k : Nat) : Int) := fun b k h1 h2 => (f8 _ _ (by omega)).trans (R7 b k h1 h2)
  ((with_reducible refine i_Seq (i_sCall (i_as1 (i_A2 (i_as1 (i_A1 (i_as0 ?_))))))); (with_reducible refine i_recv0 (by assumption) ?_))
  refine c_correct hO hx0 hy0 hyx P8.1 K8.1 N8 (fun M9 f9 x9 l9 => ⟨rfl, ?_⟩)
  have P9 : zPR M9 (x + 1) n g m := P8.fr (fun b j h1 h2 => f9 b j (by omega))
  have K9 := K8.to (M' := M9) (fun j => f9 _ _ (by omega)) (fun j => f9 _ _ (by omega)) (fun j => f9 _ _ (by omega)) (fun j => f9 _ _ (by omega))
  have hA : zTR M9 x n (zRul n m T g) := ⟨P9, fun b k h1 h2 => (f9 _ _ (by omega)).trans (R8 b k h1 h2), ⟨K9.2.1.ext (fun c hc => by unfold zrV; rw [decide_eq_true hc]; rfl), by
      have h1 := K9.2.2
      rw [zcnt_ext (s := zrV n m T g 1024) (t := zWsn (zRul n m T g)) (fun c hc => by unfold zrV; rw [decide_eq_true hc]; rfl)] at h1
      have := zp2_le (zrSd n m T g) hn
      omega⟩, by rw [zRul_S n m T g hg]; exact K9.1, x9.ext (fun p q _ _ => (zRul_X hg hT p q).symm), l9.ext (fun p q _ _ => by
      have h2 : tvs (zRul n m T g) p q ≠ 2 := by
        have w1 := (zRul_v (n := n) (m := m) (T := T) (g := g) p q).2
        have w2 := (zRul_v (n := n) (m := m) (T := T) (g := g) q p).2
        unfold tvs; split <;> omega
      rw [decide_eq_false h2])⟩
  ((with_reducible refine i_RetI (i_Call (i_as1 (i_A2 (i_as0 ?_))))); (with_reducible refine i_recv0 (by assumption) ?_))
  refine c_plainLength hO hx0 hA hn hm (fun a b => (zRul_v a b).1) (fun a b => by have := (zRul_v (n := n) (m := m) (T := T) (g := g) a b).2; omega) ⟨_, rfl, ?_⟩
  (skip)
  refine hk M9 (fun b j q => ?_) hA
  rw [f9 _ _ (by omega), f8 _ _ (by omega), f7 _ _ (by omega), f6 _ _ (by omega), f5 _ _ (by omega), f4 _ _ (by omega), f3 _ _ (by omega), f2 _ _ (by omega), e1 _ _ (by omega)]
end
section
-- part d0.len.lean.txt
/-! ===== lengths of class and reference ===== -/
theorem zsum_app (f : Nat → Nat) (a b : Nat) : zsum f (a + b) = zsum f a + zsum (fun j => f (a + j)) b := by
  induction b with
  | zero => rfl
  | succ b ih => rw [← Nat.add_assoc, zsum_su, ih, zsum_su]; omega
theorem zsum_mul (f : Nat → Nat) (a b : Nat) : zsum f (a * b) = zsum (fun i => zsum (fun j => f (i * b + j)) b) a := by
  induction a with
  | zero => rw [Nat.zero_mul]; rfl
  | succ a ih => rw [Nat.succ_mul, zsum_app, ih, zsum_su]
theorem zsum_addf (f g : Nat → Nat) (n : Nat) : zsum (fun i => f i + g i) n = zsum f n + zsum g n := by
  induction n with
  | zero => rfl
  | succ n ih => rw [zsum_su, zsum_su, zsum_su, ih]; omega
theorem zsum_swap (f : Nat → Nat → Nat) (a b : Nat) : zsum (fun i => zsum (fun j => f i j) b) a = zsum (fun j => zsum (fun i => f i j) a) b := by
  induction a with
  | zero => exact (zsum_z fun _ _ => rfl).symm
  | succ a ih =>
    rw [zsum_su, ih]
    rw [show zsum (fun j => zsum (fun i => f i j) (a + 1)) b = zsum (fun j => zsum (fun i => f i j) a + f a j) b from rfl, zsum_addf]
theorem zsum_top {f : Nat → Nat} {m : Nat} (h : ∀ i, m ≤ i → f i = 0) {n : Nat} (hn : m ≤ n) : zsum f n = zsum f m := by
  rw [show n = m + (n - m) by omega, zsum_app, zsum_z (f := fun j => f (m + j)) (fun i _ => h _ (by omega))]
  omega
theorem zsum_one (P : Prop) [Decidable P] (v n : Nat) : zsum (fun j => if j = 0 ∧ P then v else 0) (n + 1) = if P then v else 0 := by
  rw [show n + 1 = 1 + n by omega, zsum_app, zsum_z (f := fun j => if 1 + j = 0 ∧ P then v else 0) (fun i _ => if_neg (fun z => by omega))]
  show 0 + (if 0 = 0 ∧ P then v else 0) + 0 = _
  by_cases e : P
  · rw [if_pos ⟨rfl, e⟩, if_pos e]; omega
  · rw [if_neg (fun z => e z.2), if_neg e]
theorem zsum_ite (s : Nat → Bool) (v n : Nat) : zsum (fun i => if s i = true then v else 0) n = v * zcnt s n := by
  induction n with
  | zero => rfl
  | succ n ih =>
    rw [zsum_su, zcnt_su, ih]
    cases s n
    · simp
    · simp only [if_true]; rw [Nat.mul_add, Nat.mul_one]
theorem zsum_mulc (f : Nat → Nat) (v n : Nat) : zsum (fun i => v * f i) n = v * zsum f n := by
  induction n with
  | zero => rfl
  | succ n ih => rw [zsum_su, zsum_su, ih, Nat.mul_add]
theorem tlX_sum {n : Nat} {A : zTl} (hn : n ≤ 16) (hv : ∀ a b, tv A a b ≠ 0 → a < b ∧ b < n) : zsum (tlX n 0 A) 256 = (2 + 2 * zBits n) * zp2 (fun p q => decide (tv A p q = 1)) n := by
  rw [show (256 : Nat) = 16 * 16 from rfl, zsum_mul]
  have h0 : ∀ a, zsum (fun j => tlX n 0 A (a * 16 + j)) 16 = (2 + 2 * zBits n) * zcnt (fun b => decide (a < b) && decide (tv A a b = 1)) n := fun a => by
    rw [show zsum (fun j => tlX n 0 A (a * 16 + j)) 16 = zsum (fun b => if (decide (a < b) && decide (tv A a b = 1)) = true then 2 + 2 * zBits n else 0) 16 from zsum_ext fun j hj => by
      unfold tlX
      rw [show (a * 16 + j) / 16 = a by omega, show (a * 16 + j) % 16 = j by omega]
      by_cases e : tv A a j = 1
      · have := (hv a j (by omega)).1
        rw [if_pos e, decide_eq_true e, decide_eq_true this]; rfl
      · rw [if_neg e, decide_eq_false e, Bool.and_false]; rfl]
    rw [zsum_ite, zcnt_top (c := n) (fun d hd => by
      by_cases e : tv A a d = 1
      · have := (hv a d (by omega)).2; omega
      · rw [decide_eq_false e, Bool.and_false]) hn]
  rw [zsum_ext (fun a _ => h0 a), zsum_mulc]
  unfold zp2
  rw [zsum_top (m := n) (fun a ha => zcnt_z (fun b hb => by rw [decide_eq_false (by omega)]; rfl)) hn]
theorem zWsn_c (n : Nat) (A : zTl) {i j : Nat} (hi : i < 16) (hj : j < 16) : zWsn A (i * 16 + j) = (decide (j = 0) && tC A i) ∧ zbo n (tm A) (i * 16 + j) = 3 + zBits (tm A) := by
  unfold zWsn zbo
  rw [if_pos (show i * 16 + j < 256 by omega), if_neg (show ¬ (i * 16 + j) / 256 = 1 by omega), if_neg (show ¬ (i * 16 + j) / 256 = 2 by omega), show (i * 16 + j) / 16 = i by omega, show (i * 16 + j) % 16 = j by omega]
  exact ⟨rfl, rfl⟩
theorem zWsn_d (n : Nat) (A : zTl) {i j : Nat} (hi : i < 16) (hj : j < 16) : zWsn A (16 * 16 + (i * 16 + j)) = tD A i j ∧ zbo n (tm A) (16 * 16 + (i * 16 + j)) = 3 + 2 * zBits (tm A) := by
  unfold zWsn zbo
  rw [if_neg (show ¬ 16 * 16 + (i * 16 + j) < 256 by omega), if_pos (show 16 * 16 + (i * 16 + j) < 512 by omega), if_pos (show (16 * 16 + (i * 16 + j)) / 256 = 1 by omega), show (16 * 16 + (i * 16 + j)) / 16 % 16 = i by omega, show (16 * 16 + (i * 16 + j)) % 16 = j by omega]
  exact ⟨rfl, rfl⟩
theorem zWsn_g (n : Nat) (A : zTl) {i j : Nat} (hi : i < 16) (hj : j < 16) : zWsn A (16 * 16 + 16 * 16 + (i * 16 + j)) = tG A i j ∧ zbo n (tm A) (16 * 16 + 16 * 16 + (i * 16 + j)) = 3 + zBits n + zBits (tm A) := by
  unfold zWsn zbo
  rw [if_neg (show ¬ 16 * 16 + 16 * 16 + (i * 16 + j) < 256 by omega), if_neg (show ¬ 16 * 16 + 16 * 16 + (i * 16 + j) < 512 by omega), if_pos (show 16 * 16 + 16 * 16 + (i * 16 + j) < 768 by omega), if_neg (show ¬ (16 * 16 + 16 * 16 + (i * 16 + j)) / 256 = 1 by omega), if_pos (show (16 * 16 + 16 * 16 + (i * 16 + j)) / 256 = 2 by omega), show (16 * 16 + 16 * 16 + (i * 16 + j)) / 16 % 16 = i by omega, show (16 * 16 + 16 * 16 + (i * 16 + j)) % 16 = j by omega]
  exact ⟨rfl, rfl⟩
theorem zWsn_h (n : Nat) (A : zTl) {i j : Nat} (hi : i < 16) (hj : j < 16) : zWsn A (16 * 16 + 16 * 16 + 16 * 16 + (i * 16 + j)) = (decide (j = 0) && tH A i) ∧ zbo n (tm A) (16 * 16 + 16 * 16 + 16 * 16 + (i * 16 + j)) = 3 + zBits (tm A) := by
  unfold zWsn zbo
  rw [if_neg (show ¬ 16 * 16 + 16 * 16 + 16 * 16 + (i * 16 + j) < 256 by omega), if_neg (show ¬ 16 * 16 + 16 * 16 + 16 * 16 + (i * 16 + j) < 512 by omega), if_neg (show ¬ 16 * 16 + 16 * 16 + 16 * 16 + (i * 16 + j) < 768 by omega), if_neg (show ¬ (16 * 16 + 16 * 16 + 16 * 16 + (i * 16 + j)) / 256 = 1 by omega), if_neg (show ¬ (16 * 16 + 16 * 16 + 16 * 16 + (i * 16 + j)) / 256 = 2 by omega), show (16 * 16 + 16 * 16 + 16 * 16 + (i * 16 + j)) / 16 % 16 = i by omega, show (16 * 16 + 16 * 16 + 16 * 16 + (i * 16 + j)) % 16 = j by omega, decide_eq_true (show 16 * 16 + 16 * 16 + 16 * 16 + (i * 16 + j) < 1024 by omega), Bool.true_and]
  exact ⟨rfl, rfl⟩
theorem zbo_sum {n : Nat} {A : zTl} (hn : n ≤ 16) (hw : zTw n A) : zsum (fun c => if zWsn A c = true then zbo n (tm A) c else 0) 1024 = zsum (tlw n A) (tm A) := by
  obtain ⟨⟨hm, -⟩, -, ⟨hC, hD, hG, hH⟩, -⟩ := hw
  rw [show (1024 : Nat) = 16 * 16 + 16 * 16 + 16 * 16 + 16 * 16 from rfl, zsum_app, zsum_app, zsum_app, zsum_mul, zsum_mul, zsum_mul, zsum_mul]
  have e1 : zsum (fun i => zsum (fun j => if zWsn A (i * 16 + j) = true then zbo n (tm A) (i * 16 + j) else 0) 16) 16 = zsum (fun i => if tC A i = true then 3 + zBits (tm A) else 0) (tm A) := by
    rw [← zsum_top (m := tm A) (f := fun i => if tC A i = true then 3 + zBits (tm A) else 0) (fun i hi => if_neg (fun z => by have := (hC i z).1; omega)) hm]
    refine zsum_ext fun i hi => ?_
    rw [← zsum_one (tC A i = true) (3 + zBits (tm A)) 15]
    refine zsum_ext fun j hj => ?_
    rw [(zWsn_c n A hi hj).1, (zWsn_c n A hi hj).2]
    simp only [Bool.and_eq_true, decide_eq_true_eq]
  have e2 : zsum (fun i => zsum (fun j => if zWsn A (16 * 16 + (i * 16 + j)) = true then zbo n (tm A) (16 * 16 + (i * 16 + j)) else 0) 16) 16 = zsum (fun i => zsum (fun j => if i < j ∧ tD A i j = true then 3 + 2 * zBits (tm A) else 0) (tm A)) (tm A) := by
    rw [← zsum_top (m := tm A) (f := fun i => zsum (fun j => if i < j ∧ tD A i j = true then 3 + 2 * zBits (tm A) else 0) (tm A)) (fun i hi => zsum_z fun j hj => if_neg (fun z => by omega)) hm]
    refine zsum_ext fun i hi => ?_
    rw [← zsum_top (m := tm A) (f := fun j => if i < j ∧ tD A i j = true then 3 + 2 * zBits (tm A) else 0) (fun j hj => if_neg (fun z => by have := (hD i j z.2).2; omega)) hm]
    refine zsum_ext fun j hj => ?_
    rw [(zWsn_d n A hi hj).1, (zWsn_d n A hi hj).2]
    by_cases e : tD A i j = true
    · rw [if_pos e, if_pos ⟨(hD i j e).1, e⟩]
    · rw [if_neg e, if_neg (fun z => e z.2)]
  have e3 : zsum (fun i => zsum (fun j => if zWsn A (16 * 16 + 16 * 16 + (i * 16 + j)) = true then zbo n (tm A) (16 * 16 + 16 * 16 + (i * 16 + j)) else 0) 16) 16 = zsum (fun i => zsum (fun p => if tG A p i = true then 3 + zBits n + zBits (tm A) else 0) n) (tm A) := by
    rw [zsum_swap, ← zsum_top (m := tm A) (f := fun i => zsum (fun p => if tG A p i = true then 3 + zBits n + zBits (tm A) else 0) n) (fun i hi => zsum_z fun p _ => if_neg (fun z => by have := (hG p i z).2.1; omega)) hm]
    refine zsum_ext fun i hi => ?_
    rw [← zsum_top (m := n) (f := fun p => if tG A p i = true then 3 + zBits n + zBits (tm A) else 0) (fun p hp => if_neg (fun z => by have := (hG p i z).1; omega)) hn]
    refine zsum_ext fun p hp => ?_
    rw [(zWsn_g n A hp hi).1, (zWsn_g n A hp hi).2]
  have e4 : zsum (fun i => zsum (fun j => if zWsn A (16 * 16 + 16 * 16 + 16 * 16 + (i * 16 + j)) = true then zbo n (tm A) (16 * 16 + 16 * 16 + 16 * 16 + (i * 16 + j)) else 0) 16) 16 = zsum (fun i => if tH A i = true then 3 + zBits (tm A) else 0) (tm A) := by
    rw [← zsum_top (m := tm A) (f := fun i => if tH A i = true then 3 + zBits (tm A) else 0) (fun i hi => if_neg (fun z => by have := (hH i z).1; omega)) hm]
    refine zsum_ext fun i hi => ?_
    rw [← zsum_one (tH A i = true) (3 + zBits (tm A)) 15]
    refine zsum_ext fun j hj => ?_
    rw [(zWsn_h n A hi hj).1, (zWsn_h n A hi hj).2]
    simp only [Bool.and_eq_true, decide_eq_true_eq]
  rw [e1, e2, e3, e4]
  rw [show zsum (tlw n A) (tm A) = zsum (fun i => (((if tC A i = true then 3 + zBits (tm A) else 0) + (if tH A i = true then 3 + zBits (tm A) else 0)) + zsum (fun j => if i < j ∧ tD A i j = true then 3 + 2 * zBits (tm A) else 0) (tm A)) + zsum (fun p => if tG A p i = true then 3 + zBits n + zBits (tm A) else 0) n) (tm A) from rfl, zsum_addf, zsum_addf, zsum_addf]
  omega
theorem tLen_pl {n : Nat} {A : zTl} (hn : n ≤ 16) (hw : zTw n A) : tLen n A = zPl n A + zsum (tlS n A) 512 := by
  unfold tLen zPl
  rw [zbo_sum hn hw, tlX_sum hn hw.2.2.2.1]
theorem zp2_0 {g : Nat → Nat → Bool} {n : Nat} (h : ∀ p q, p < q → q < n → g p q = false) : zp2 g n = 0 := by
  unfold zp2
  refine zsum_z fun p _ => zcnt_z fun q hq => ?_
  by_cases e : p < q
  · rw [h p q e hq, Bool.and_false]
  · rw [decide_eq_false e]; rfl
/-- labels that part alike give the same numbers -/
theorem zNum_ext {f h : Nat → Nat} {n : Nat} (e : ∀ p q, p < n → q < n → (f p = f q ↔ h p = h q)) {p : Nat} (hp : p < n) : zNum f p = zNum h p ∧ zNew f p = zNew h p := by
  have h1 : ∀ p, p < n → zfl f (f p) p = zfl h (h p) p := fun p hp => zfind_ext fun q hq => decide_eq_decide.mpr (e q p (by omega) hp)
  have h2 : ∀ p, p < n → zNew f p = zNew h p := fun p hp => by unfold zNew; rw [h1 p hp]
  refine ⟨?_, h2 p hp⟩
  show zcnt (zNew f) (zfl f (f p) p) = zcnt (zNew h) (zfl h (h p) p)
  rw [h1 p hp]
  exact zcnt_ext fun i hi => h2 i (by have := zfl_le h (h p) p; omega)
/-- labels of n posts, those behind as that of post 0 -/
def zclp (n : Nat) (f : Nat → Nat) : Nat → Nat := fun q => if q < n then f q else f 0
def zcg (n : Nat) (f : Nat → Nat) : Nat → Nat := zNum (zclp n f)
def zcmx (n : Nat) (f : Nat → Nat) : Nat := zcnt (zNew (zclp n f)) n
theorem zcl_in {n : Nat} {f : Nat → Nat} {q : Nat} (h : q < n) : zclp n f q = f q := if_pos h
theorem zcg_in {n : Nat} {f : Nat → Nat} {q : Nat} (h : q < n) : zcg n f q = zNum f q := (zNum_ext (n := n) (fun p q hp hq => by rw [zcl_in hp, zcl_in hq]) h).1
theorem zcm_in (n : Nat) (f : Nat → Nat) : zcmx n f = zcnt (zNew f) n := zcnt_ext fun i hi => (zNum_ext (n := n) (fun p q hp hq => by rw [zcl_in hp, zcl_in hq]) hi).2
theorem zcg_ext {n : Nat} (hn : 0 < n) {f h : Nat → Nat} (e : ∀ p q, p < n → q < n → (f p = f q ↔ h p = h q)) : zcg n f = zcg n h ∧ zcmx n f = zcmx n h := by
  have e2 : ∀ p q, (zclp n f p = zclp n f q ↔ zclp n h p = zclp n h q) := fun p q => by
    unfold zclp
    by_cases a : p < n <;> by_cases b : q < n
    · rw [if_pos a, if_pos b, if_pos a, if_pos b]; exact e p q a b
    · rw [if_pos a, if_neg b, if_pos a, if_neg b]; exact e p 0 a hn
    · rw [if_neg a, if_pos b, if_neg a, if_pos b]; exact e 0 q hn b
    · rw [if_neg a, if_neg b, if_neg a, if_neg b]; exact ⟨fun _ => rfl, fun _ => rfl⟩
  exact ⟨funext fun p => (zNum_ext (n := p + 1) (fun p q _ _ => e2 p q) (Nat.lt_succ_self p)).1, zcnt_ext fun i hi => (zNum_ext (n := n) (fun p q _ _ => e2 p q) hi).2⟩
theorem zcg_lt {n : Nat} {f : Nat → Nat} {q : Nat} (h : q < n) : zcg n f q < zcmx n f := zNum_lt h
theorem zcm_le (n : Nat) (f : Nat → Nat) : zcmx n f ≤ n := zcnt_le _ _
theorem zcg_on {n : Nat} {f : Nat → Nat} {b : Nat} (h : b < zcmx n f) : ∃ p, p < n ∧ zcg n f p = b := by
  obtain ⟨p, h1, _, h3⟩ := zNum_on h
  exact ⟨p, h1, h3⟩
theorem zcg_inj {n : Nat} {f : Nat → Nat} {p q : Nat} (hp : p < n) (hq : q < n) : zcg n f p = zcg n f q ↔ f p = f q := by
  unfold zcg
  rw [zNum_inj, zcl_in hp, zcl_in hq]
theorem zcg_id {n : Nat} (hn : 0 < n) (f : Nat → Nat) : zcg n (zcg n f) = zcg n f ∧ zcmx n (zcg n f) = zcmx n f := zcg_ext hn (fun _ _ hp hq => zcg_inj hp hq)
theorem zcg_0 {n : Nat} (f : Nat → Nat) {q : Nat} (h : ¬ q < n) : zcg n f q = 0 := by
  have h1 : zcg n f q = zcg n f 0 := zNum_inj.mpr (by unfold zclp; rw [if_neg h]; split <;> rfl)
  have h2 := zNum_le (zclp n f) 0
  have h3 : zcg n f 0 ≤ 0 := h2
  omega
/-- the telling by the rule of any labels -/
def zRq (n : Nat) (T : Nat → Nat → Bool) (f : Nat → Nat) : zTl := zRul n (zcmx n f) T (zcg n f)
theorem zRq_ext {n : Nat} {T : Nat → Nat → Bool} (hn : 0 < n) {f h : Nat → Nat} (e : ∀ p q, p < n → q < n → (f p = f q ↔ h p = h q)) : zRq n T f = zRq n T h := by
  unfold zRq
  rw [(zcg_ext hn e).1, (zcg_ext hn e).2]
theorem zRq_w {n : Nat} {T : Nat → Nat → Bool} {f : Nat → Nat} (hn : n ≤ 16) : zTw n (zRq n T f) := by
  refine zTw_rul ?_ (zcnt_ext (fun i _ => ((zNum_id (zclp n f) i).2).symm)) (fun q hq => ⟨zcg_lt hq, (zNum_id (zclp n f) q).1⟩)
  have := zcm_le n f
  omega
/-- the length by the rule -/
def zLgt (n : Nat) (T : Nat → Nat → Bool) (f : Nat → Nat) : Nat := zPl n (zRq n T f)
theorem zLn_ext {n : Nat} {T : Nat → Nat → Bool} (hn : 0 < n) {f h : Nat → Nat} (e : ∀ p q, p < n → q < n → (f p = f q ↔ h p = h q)) : zLgt n T f = zLgt n T h := by
  unfold zLgt
  rw [zRq_ext hn e]
theorem tLen_rq {n : Nat} {T : Nat → Nat → Bool} {f : Nat → Nat} (hn : n ≤ 16) : tLen n (zRq n T f) = zLgt n T f := by
  rw [tLen_pl hn (zRq_w hn), zsum_z (fun k _ => ?_)]
  · rfl
  · have : tQ n (zRq n T f) k = 0 := zp2_0 fun p q _ _ => by
      have := (zRul_v (n := n) (m := zcmx n f) (T := T) (g := zcg n f) p q).2
      unfold tgC
      exact decide_eq_false (fun z => by have h2 : tv (zRul n (zcmx n f) T (zcg n f)) p q = 2 := z.2; omega)
    unfold tlS
    rw [this, if_neg (Nat.lt_irrefl _)]
theorem zPl_le {n : Nat} {A : zTl} (hn : n ≤ 16) (hm : tm A ≤ 16) : zPl n A ≤ 20000 := by
  have h1 := zBits_4 hn
  have h2 : n * zBits n ≤ 16 * 4 := Nat.mul_le_mul hn h1
  have h3 := zsum_le (f := fun c => if zWsn A c = true then zbo n (tm A) c else 0) (c := 11) (fun c => zite_le (zbo_le hn hm c)) 1024
  have h4 : (2 + 2 * zBits n) * zp2 (fun p q => decide (tv A p q = 1)) n ≤ 10 * 120 := Nat.mul_le_mul (by omega) (zp2_le _ hn)
  unfold zPl
  omega
theorem zLn_le {n : Nat} {T : Nat → Nat → Bool} {f : Nat → Nat} (hn : n ≤ 16) : zLgt n T f ≤ 20000 := zPl_le hn (zRq_w hn).1.1
end
