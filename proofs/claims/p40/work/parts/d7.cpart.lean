/-! ===== the parting by the rule: the class ===== -/
theorem zMs_cg {n : Nat} (hn : 0 < n) {T : Nat → Nat → Bool} {x : (Nat → Nat) × Nat} (hx : zcg n x.1 = x.1) (k p : Nat) : zcg n (zMs n T x k).1 = (zMs n T x k).1 ∧ zcg n (zMr n T (zMs n T x k) p).1 = (zMr n T (zMs n T x k) p).1 := by
  have hMr : ∀ x : (Nat → Nat) × Nat, zcg n x.1 = x.1 → ∀ p, zcg n (zMr n T x p).1 = (zMr n T x p).1 := fun x hx p => by
    induction p with
    | zero => exact hx
    | succ p ih =>
      rw [zMr_su]
      unfold zM1
      split
      · exact ih
      · exact (zcg_id hn _).1
  have hk : ∀ k, zcg n (zMs n T x k).1 = (zMs n T x k).1 := fun k => by
    induction k with
    | zero => exact hx
    | succ k ih => rw [zMs_su]; exact hMr _ ih n
  exact ⟨hk k, hMr _ (hk k) p⟩
theorem c_partByRule {O : zOm} (hO : zWld O) (hS : zS O = zmS zC0) {y o n : Nat} {T : Nat → Nat → Bool} {M : zMem} {K : Option zV → zMem → Prop} (hy : zNet (zS O) y) (hy7 : y + 1 < 108) (ho : zPar (zS O) o) (ho7 : 131 < o) (hN : zNR M y n T) (hT : zReg n T) (hn1 : 0 < n) (hn2 : n ≤ 16)
    (hk : ∀ M', (∀ b j, ¬ (((108 : Nat) : Int) ≤ b ∧ b ≤ ((131 : Nat) : Int) ∨ ((o : Nat) : Int) ≤ b ∧ b ≤ ((o + 2 : Nat) : Int)) → M' b j = M b j) → zPC M' o n (zPt n T).1 → K none M') : zR O F_Search_partByRule [(2, ((108 : Nat) : Int)), (2, ((y : Nat) : Int)), (2, ((o : Nat) : Int))] M K := by
  have t0 := zo_108 hS
  have t1 := zf_108_0 hS
  have t2 := zf_108_1 hS
  have t3 := zf_108_2 hS
  have t4 := zf_108_3 hS
  have t5 := zf_108_6 hS
  have hR := zRl_109 hS
  have hX := zTeB.to hS zTe_111
  have hP := zParB.to hS zPa_124
  have hR0 := hR
  have hX0 := hX
  have hP0 := hP
  have ho0 := ho
  have hy0 := hy
  obtain ⟨y0, y1, y2, y3⟩ := hy
  obtain ⟨r0, r1, r2, r3, r4, r5⟩ := hR
  obtain ⟨⟨x0, x1, x2, x3, x4, x5, x6, x7⟩, ⟨xa, xb⟩, hQ0, -⟩ := hX
  have hQ := hQ0
  obtain ⟨q0, q1, q2, q3, q4, q5, q6, q7, q8⟩ := hQ
  obtain ⟨p0, p1, p2, p3, p4, p5, p6, p7, p8⟩ := hP
  obtain ⟨o0, o1, o2, o3, o4, o5, o6, o7, o8⟩ := ho
  have gy : M ((y : Nat) : Int) ((1 : Nat) : Int) = ((n : Nat) : Int) := hN.1
  apply r_Search_partByRule hO
  unfold B_Search_partByRule
  ((with_reducible refine i_Seq (i_Seq (i_sCall (i_as1 (i_FR (i_FR (i_A0 ?_))))))); (with_reducible refine i_fldR (by assumption) ?_); (with_reducible refine i_fldR (by assumption) ?_); (with_reducible refine i_as1 (i_F (i_A1 ?_))); (with_reducible refine i_fld (by assumption) ?_); (with_reducible refine i_as0 ?_); (with_reducible refine i_recv0 (by assumption) ?_); (rw [gy]))
  refine c_setAlone hO (p := 112) hQ0 hn2 (fun M1 f1 h1 => ⟨rfl, ?_⟩)
  ((with_reducible refine i_Seq (i_sCall (i_as1 (i_FR (i_A0 ?_))))); (with_reducible refine i_fldR (by assumption) ?_); (with_reducible refine i_as1 (i_FR (i_FR (i_A0 ?_)))); (with_reducible refine i_fldR (by assumption) ?_); (with_reducible refine i_fldR (by assumption) ?_); (with_reducible refine i_as0 ?_); (with_reducible refine i_recv0 (by assumption) ?_))
  refine c_pbecome hO (p := 124) (q := 112) hP0 hQ0 (by omega) hn2 h1 (fun M2 f2 h2 => ⟨rfl, ?_⟩)
  have h21 : zPC M2 112 n (fun q => q) := h1.fr (fun b j a1 a2 => f2 b j (by omega))
  ((with_reducible refine i_Seq (i_sF (i_A0 (i_Call (i_as1 (i_FR (i_A0 ?_))))))); (with_reducible refine i_fldR (by assumption) ?_); (with_reducible refine i_as1 (i_A1 (i_as1 (i_FR (i_A0 ?_))))); (with_reducible refine i_fldR (by assumption) ?_); (with_reducible refine i_as0 ?_); (with_reducible refine i_recv0 (by assumption) ?_))
  refine c_tellA hO (r := 109) (x := 111) hR0 hX0 hy0 (by omega) (by omega) (by omega) (hN.to (fun b j a1 a2 => by rw [f2 b j (by omega), f1 b j (by omega)])) hT h21 hn2 (fun M3 f3 _ => ⟨_, rfl, ?_⟩)
  have hs0 : zPC M3 124 n (zJs n T 0).1 := (h2.fr (fun b j a1 a2 => f3 b j (by omega))).cg hn1
  have fr0 : ∀ b j, ¬ (((108 : Nat) : Int) ≤ b ∧ b ≤ ((131 : Nat) : Int)) → M3 b j = M b j := fun b j q => by rw [f3 b j (by omega), f2 b j (by omega), f1 b j (by omega)]
  clear f1 f2 f3 h1 h2 h21
  ((with_reducible refine i_fld (by assumption) ?_); (with_reducible refine i_Seq (i_Set (i_I (i_Seq (i_Blk (i_Seq (i_Set (i_I ?_)))))))); simp only [w_set0, w_set1, w_setn0, w_setn1])
  refine w_ForM (fun μ ρ M' => ∃ k b l, ρ = ((108 : Nat) : Int) :: ((y : Nat) : Int) :: ((o : Nat) : Int) :: zbI b :: ((k : Nat) : Int) :: l ∧ k ≤ 16 ∧ (∀ b j, ¬ (((108 : Nat) : Int) ≤ b ∧ b ≤ ((131 : Nat) : Int)) → M' b j = M b j) ∧ M' ((108 : Nat) : Int) ((6 : Nat) : Int) = (((zJs n T (if b = true then k else 16)).2 : Nat) : Int) ∧ zPC M' 124 n (zJs n T (if b = true then k else 16)).1 ∧ μ = 16 - k) _ ⟨0, true, _, rfl, by omega, fun b j q => by rw [zg_n _ _ _ (by omega)]; exact fr0 b j q, zg_s _ _ _ _ _, hs0.fr (fun b j a1 a2 => by rw [zg_n _ _ _ (by omega)]), rfl⟩ ?_
  clear hs0 fr0
  rintro μ ρ M4 X ⟨k, b, l, rfl, hk16, f4, hs4, hB4, rfl⟩ hX4
  have gN4 : zNR M4 y n T := hN.to (fun b j a1 a2 => f4 b j (by omega))
  have hJc : ∀ k, zcg n (zJs n T k).1 = (zJs n T k).1 ∧ (zJs n T k).2 ≤ 20000 := fun k => by
    obtain ⟨f, e1, e2⟩ := zJs_g hn1 T k
    rw [e1, e2]
    exact ⟨(zcg_id hn1 f).1, zLn_le hn2⟩
  by_cases w : b = true ∧ k < 16
  · obtain ⟨w1, w2⟩ := w
    subst w1
    rw [if_pos rfl] at hs4 hB4
    obtain ⟨hc1, hc2⟩ := hJc k
    ((with_reducible refine i_turn (i_cAnd (i_cZ_ne (i_L3 ?_)))); rw [zbI_t]; (with_reducible refine i_t (by omega) ?_); (with_reducible refine i_cI_lt (i_L4 (i_I ?_))); (with_reducible refine i_t (by omega) ?_); (with_reducible refine i_Set (i_Call (i_as1 (i_A0 (i_as1 (i_A1 (i_as0 ?_))))))); (with_reducible refine i_recv0 (by assumption) ?_); simp only [w_set0, w_set1, w_setn0, w_setn1])
    refine c_joinTwo hO hS (y := y) hy0 (by omega) gN4 hT hn1 hn2 hc1 hB4 hs4 hc2 (fun M5 f5 h5 hs5 => ⟨_, rfl, ?_⟩)
    ((with_reducible refine i_up (i_Inc4 ?_)); rw [zx_inc (by omega)]; simp only [w_set0, w_set1, w_setn0, w_setn1])
    refine hX4 _ _ _ (by omega) ⟨k + 1, decide ((zJb n T (zJs n T k).1 (zJs n T k).2).1 < (zJs n T k).2), _, rfl, by omega, fun b j q => by rw [f5 b j q, f4 b j q], ?_, ?_, rfl⟩
    all_goals
      by_cases z : (zJb n T (zJs n T k).1 (zJs n T k).2).1 < (zJs n T k).2
      · rw [decide_eq_true z, if_pos rfl]
        first | exact hs5 | exact h5
      · rw [decide_eq_false z, if_neg (by decide), ← zJs_end hn1 hn2 z]
        have e := zJs_fx z 1
        rw [← e]
        first | exact hs5 | exact h5
  · have e : (if b = true then k else 16) = 16 := by
      by_cases z : b = true
      · rw [if_pos z]
        have : ¬ k < 16 := fun q => w ⟨z, q⟩
        omega
      · rw [if_neg z]
    rw [e] at hs4 hB4
    clear hX4
    have hb : b = false ∨ b = true ∧ k = 16 := by
      cases b
      · exact Or.inl rfl
      · exact Or.inr ⟨rfl, by have : ¬ k < 16 := fun q => w ⟨rfl, q⟩; omega⟩
    clear e w
    obtain ⟨hxc, hx20⟩ := hJc 16
    unfold zPt at hk
    generalize zJs n T 16 = x0 at hs4 hB4 hxc hx20 hk
    have hMc := fun k p => zMs_cg hn1 (T := T) hxc k p
    rcases hb with rfl | ⟨rfl, rfl⟩
    all_goals
      (first | (((with_reducible refine i_turn (i_cAnd (i_cZ_ne (i_L3 ?_)))); rw [zbI_t]; (with_reducible refine i_t (by omega) ?_); (with_reducible refine i_cI_lt (i_L4 (i_I ?_))); (with_reducible refine i_f (by omega) ?_); (with_reducible refine i_Seq (i_Set (i_I (i_Seq (i_Blk (i_Seq (i_Set (i_I ?_)))))))); simp only [w_set0, w_set1, w_setn0, w_setn1]; rw [w_setT])) | (((with_reducible refine i_turn (i_cAnd (i_cZ_ne (i_L3 ?_)))); rw [zbI_f]; (with_reducible refine i_f (by omega) ?_); (with_reducible refine i_Seq (i_Set (i_I (i_Seq (i_Blk (i_Seq (i_Set (i_I ?_)))))))); simp only [w_set0, w_set1, w_setn0, w_setn1]; rw [w_setT])))
      refine w_ForM (fun μ ρ M' => ∃ k b c l, ρ = ((108 : Nat) : Int) :: ((y : Nat) : Int) :: ((o : Nat) : Int) :: c :: zbI b :: ((k : Nat) : Int) :: l ∧ (∀ b j, ¬ (((108 : Nat) : Int) ≤ b ∧ b ≤ ((131 : Nat) : Int)) → M' b j = M b j) ∧ M' ((108 : Nat) : Int) ((6 : Nat) : Int) = (((zMs n T x0 k).2 : Nat) : Int) ∧ zPC M' 124 n (zMs n T x0 k).1 ∧ (b = false → zMs n T x0 20001 = zMs n T x0 k) ∧ k + (zMs n T x0 k).2 ≤ 20000 + (if b = true then 0 else 1) ∧ μ = 20002 - k) _ ⟨0, true, _, _, rfl, f4, hs4, hB4, (fun z => by cases z), by show 0 + x0.2 ≤ 20000; omega, rfl⟩ ?_
      clear hs4 hB4 gN4
      rintro μ ρ M5 X5 ⟨k5, b5, c3, l5, rfl, f5, hs5, hB5, hfx5, hle5, rfl⟩ hX5
      have gy5 : M5 ((y : Nat) : Int) ((1 : Nat) : Int) = ((n : Nat) : Int) := by rw [f5 _ _ (by omega)]; exact gy
      cases b5
      · clear hX5
        rw [← hfx5 rfl] at hs5 hB5
        have hle6 : k5 + (zMs n T x0 k5).2 ≤ 20001 := by simpa using hle5
        ((with_reducible refine i_turn (i_cAnd (i_cZ_ne (i_L4 ?_)))); rw [zbI_f]; (with_reducible refine i_f (by omega) ?_); (with_reducible refine i_sCall (i_as1 (i_A2 (i_as1 (i_FR (i_A0 ?_)))))); (with_reducible refine i_fldR (by assumption) ?_); (with_reducible refine i_as0 ?_); (with_reducible refine i_recv0 (by assumption) ?_))
        refine c_pbecome hO (p := o) (q := 124) ho0 hP0 (by omega) hn2 hB5 (fun M6 f6 h6 => ⟨rfl, ?_⟩)
        (with_reducible refine i_RetV ?_)
        exact hk M6 (fun b j q => by rw [f6 b j (by omega), f5 b j (by omega)]) h6
      · have hle6 : k5 + (zMs n T x0 k5).2 ≤ 20000 := by simpa using hle5
        have hmrok := fun p => zMr_ok (n := n) (T := T) (x := zMs n T x0 k5) p
        ((with_reducible refine i_turn (i_cAnd (i_cZ_ne (i_L4 ?_)))); rw [zbI_t]; (with_reducible refine i_t (by omega) ?_); (with_reducible refine i_cI_lt (i_L5 (i_Ldc ?_))); (with_reducible refine i_t (by omega) ?_); (with_reducible refine i_Seq (i_Set (i_I (i_Blk (i_Seq (i_Set (i_I ?_))))))); simp only [w_set0, w_set1, w_setn0, w_setn1]; rw [w_setT])
        refine w_ForN n (fun p ρ M' => (∃ l, ρ = ((108 : Nat) : Int) :: ((y : Nat) : Int) :: ((o : Nat) : Int) :: c3 :: zbI (decide ((zMr n T (zMs n T x0 k5) p).2 < (zMs n T x0 k5).2)) :: ((k5 : Nat) : Int) :: ((p : Nat) : Int) :: l) ∧ (∀ b j, ¬ (((108 : Nat) : Int) ≤ b ∧ b ≤ ((131 : Nat) : Int)) → M' b j = M b j) ∧ M' ((108 : Nat) : Int) ((6 : Nat) : Int) = (((zMr n T (zMs n T x0 k5) p).2 : Nat) : Int) ∧ zPC M' 124 n (zMr n T (zMs n T x0 k5) p).1) ⟨⟨_, by rw [show (decide ((zMr n T (zMs n T x0 k5) 0).2 < (zMs n T x0 k5).2)) = false from decide_eq_false (Nat.lt_irrefl _)]; rfl⟩, f5, hs5, hB5⟩ ?_ ?_
        · rintro p ρ M6 X6 hp ⟨⟨l6, rfl⟩, f6, hs6, hB6⟩ hX6
          have gy6 : M6 ((y : Nat) : Int) ((1 : Nat) : Int) = ((n : Nat) : Int) := by rw [f6 _ _ (by omega)]; exact gy
          have gN6 : zNR M6 y n T := hN.to (fun b j a1 a2 => f6 b j (by omega))
          have hgr := (hMc k5 p).2
          have hr1 := (hmrok p).1
          have hr2 := (zM1_ok (n := n) (T := T) (p := p) (x := zMr n T (zMs n T x0 k5) p)).1
          rw [zMr_su] at hX6
          generalize zMr n T (zMs n T x0 k5) p = y6 at hs6 hB6 hgr hr1 hr2 hX6 ⊢
          obtain ⟨g6, c6⟩ := y6
          ((with_reducible refine i_turn (i_cI_lt (i_L6 (i_F (i_A1 ?_))))); (with_reducible refine i_fld (by assumption) ?_); (rw [gy6]); simp only [w_set0, w_set1, w_setn0, w_setn1]; (with_reducible refine i_t (by omega) ?_); (with_reducible refine i_If (i_cZ_ne (i_Call (i_as1 (i_A0 (i_as1 (i_A1 (i_as1 (i_L6 (i_as0 ?_)))))))))); (with_reducible refine i_recv0 (by assumption) ?_))
          refine c_movePost hO hS (y := y) hy0 (by omega) gN6 hT hn1 hn2 hp hgr hB6 hs6 (by dsimp only at hr1; omega) (fun M7 f7 h7 hs7 => ⟨_, rfl, ?_⟩)
          have f76 : ∀ b j, ¬ (((108 : Nat) : Int) ≤ b ∧ b ≤ ((131 : Nat) : Int)) → M7 b j = M b j := fun b j q => by rw [f7 b j q, f6 b j q]
          have hX7 : ∀ (l : zLoc) (b : Bool), b = decide ((zM1 n T p (g6, c6)).2 < (zMs n T x0 k5).2) → X6 (((108 : Nat) : Int) :: ((y : Nat) : Int) :: ((o : Nat) : Int) :: c3 :: zbI b :: ((k5 : Nat) : Int) :: ((p + 1 : Nat) : Int) :: l) M7 := fun l b hb => by
            subst hb
            exact hX6 _ _ ⟨⟨l, rfl⟩, f76, hs7, h7⟩
          dsimp only at hr1 hr2 ⊢
          generalize (zM1 n T p (g6, c6)).2 = v at hr2 hX7 ⊢
          by_cases w : v < c6
          · rw [decide_eq_true w]
            (rw [zbI_t]; (with_reducible refine i_t (by omega) ?_); (with_reducible refine i_Set (i_I (i_up ?_))); simp only [w_set0, w_set1, w_setn0, w_setn1]; (with_reducible refine i_Inc6 ?_); rw [zx_inc (by omega)]; simp only [w_set0, w_set1, w_setn0, w_setn1])
            exact hX7 _ true (decide_eq_true (by omega)).symm
          · have : v = c6 := by omega
            subst this
            rw [decide_eq_false w]
            (rw [zbI_f]; (with_reducible refine i_f (by omega) ?_); (with_reducible refine i_up (i_Inc6 ?_)); rw [zx_inc (by omega)]; simp only [w_set0, w_set1, w_setn0, w_setn1])
            exact hX7 _ _ rfl
        · rintro ρ M6 X6 ⟨⟨l6, rfl⟩, f6, hs6, hB6⟩
          have gy6 : M6 ((y : Nat) : Int) ((1 : Nat) : Int) = ((n : Nat) : Int) := by rw [f6 _ _ (by omega)]; exact gy
          ((with_reducible refine i_turn (i_cI_lt (i_L6 (i_F (i_A1 ?_))))); (with_reducible refine i_fld (by assumption) ?_); (rw [gy6]); (with_reducible refine i_f (by omega) ?_); (with_reducible refine i_up (i_Inc5 ?_)); rw [zx_inc (by omega)]; simp only [w_set0, w_set1, w_setn0, w_setn1])
          have hsu := zMs_su n T x0 k5
          rw [← hsu] at hs6 hB6 ⊢
          have hr1 := (hmrok n).1
          rw [← hsu] at hr1
          by_cases w : (zMs n T x0 (k5 + 1)).2 < (zMs n T x0 k5).2
          · rw [decide_eq_true w]
            exact hX5 _ _ _ (by omega) ⟨k5 + 1, true, _, _, rfl, f6, hs6, hB6, (fun z => by cases z), by simp only [if_true]; omega, rfl⟩
          · rw [decide_eq_false w]
            have e := zMs_fx w 1
            exact hX5 _ _ _ (by omega) ⟨k5 + 1, false, _, _, rfl, f6, hs6, hB6, fun _ => by rw [zMs_end w (by omega), e], by simp only [Bool.false_eq_true, if_false]; omega, rfl⟩
