/-! ===== partings by the rule: the class ===== -/
theorem zRl_109 {S : List zSh} (hS : S = zmS zC0) : zRl S 109 := ⟨zo_109 hS, zf_109_0 hS, zf_109_1 hS, zf_109_2 hS, zf_109_3 hS, zCA (a := 110) (ty := .int) (n := 256) hS rfl⟩
theorem zRl_106 {S : List zSh} (hS : S = zmS zC0) : zRl S 106 := ⟨zo_106 hS, zf_106_0 hS, zf_106_1 hS, zf_106_2 hS, zf_106_3 hS, zCA (a := 107) (ty := .int) (n := 256) hS rfl⟩
theorem zcg_16 {n : Nat} (hn : n ≤ 16) (f : Nat → Nat) (q : Nat) : zcg n f q < 16 := by
  by_cases h : q < n
  · have h1 := zcg_lt (f := f) h
    have h2 := zcm_le n f
    omega
  · rw [zcg_0 f h]; omega
/-- the rule's telling of a parting set in it -/
theorem c_tellA {O : zOm} (hO : zWld O) {r x y n : Nat} {f : Nat → Nat} {T : Nat → Nat → Bool} {M : zMem} {K : Option zV → zMem → Prop} (hr : zRl (zS O) r) (hx : zTeC (zS O) x) (hy : zNet (zS O) y) (hrx : r + 1 < x) (hyx : y + 1 < x ∨ x + 12 < y) (hyr : y + 1 < r ∨ r + 1 < y) (hN : zNR M y n T) (hT : zReg n T) (hM : zPC M (x + 1) n f) (hn : n ≤ 16)
    (hk : ∀ M', (∀ b j, ¬ (b = ((r : Nat) : Int) ∨ b = ((r + 1 : Nat) : Int) ∨ b = ((x : Nat) : Int) ∨ ((x + 5 : Nat) : Int) ≤ b ∧ b ≤ ((x + 12 : Nat) : Int)) → M' b j = M b j) → zTR M' x n (zRq n T f) → K (some (0, ((zLgt n T f : Nat) : Int))) M') : zR O F_Rule_tell [(2, ((r : Nat) : Int)), (2, ((y : Nat) : Int)), (2, ((x : Nat) : Int))] M K :=
  c_tell hO hr hx hy hrx hyx hyr hN hT hM hn (by have := zcm_le n f; omega) (fun q hq => zcg_lt hq) (fun i hi => zcg_on hi) hk
theorem zNR.to {M M' : zMem} {y n : Nat} {T : Nat → Nat → Bool} (h : zNR M y n T) (e : ∀ b j : Int, ((y : Nat) : Int) ≤ b → b ≤ ((y + 1 : Nat) : Int) → M' b j = M b j) : zNR M' y n T :=
  ⟨by rw [e _ _ (by omega) (by omega)]; exact h.1, fun p hp => by rw [e _ _ (by omega) (by omega)]; exact h.2 p hp⟩
theorem c_joinTwo {O : zOm} (hO : zWld O) (hS : zS O = zmS zC0) {y n cur : Nat} {g : Nat → Nat} {T : Nat → Nat → Bool} {M : zMem} {K : Option zV → zMem → Prop} (hy : zNet (zS O) y) (hy7 : y + 1 < 108 ∨ 131 < y) (hN : zNR M y n T) (hT : zReg n T) (hn1 : 0 < n) (hn2 : n ≤ 16) (hg : zcg n g = g) (hB : zPC M 124 n g) (hs : M ((108 : Nat) : Int) ((6 : Nat) : Int) = ((cur : Nat) : Int)) (hc : cur ≤ 20000)
    (hk : ∀ M', (∀ b j, ¬ (((108 : Nat) : Int) ≤ b ∧ b ≤ ((131 : Nat) : Int)) → M' b j = M b j) → zPC M' 124 n (zJ1 n T (g, cur)).1 → M' ((108 : Nat) : Int) ((6 : Nat) : Int) = (((zJ1 n T (g, cur)).2 : Nat) : Int) → K (some (0, zbI (decide ((zJb n T g cur).1 < cur)))) M') : zR O F_Search_joinTwo [(2, ((108 : Nat) : Int)), (2, ((y : Nat) : Int))] M K := by
  have t0 := zo_108 hS
  have t1 := zf_108_0 hS
  have t2 := zf_108_1 hS
  have t3 := zf_108_2 hS
  have t4 := zf_108_3 hS
  have t5 := zf_108_6 hS
  have hR := zRl_109 hS
  have hX := zTeB.to hS zTe_111
  have hP := zParB.to hS zPa_124
  have hR0 := hR
  have hX0 := hX
  have hP0 := hP
  obtain ⟨r0, r1, r2, r3, r4, r5⟩ := hR
  obtain ⟨⟨x0, x1, x2, x3, x4, x5, x6, x7⟩, ⟨xa, xb⟩, hQ0, -⟩ := hX
  have hQ := hQ0
  obtain ⟨q0, q1, q2, q3, q4, q5, q6, q7, q8⟩ := hQ
  obtain ⟨p0, p1, p2, p3, p4, p5, p6, p7, p8⟩ := hP
  have hm16 := zcm_le n g
  apply r_Search_joinTwo hO
  unfold B_Search_joinTwo
  have hJok := zJb_ok n T g cur
  unfold zJ1 at hk
  dsimp only at hk
  unfold zJb at hk hJok
  generalize hme : zcmx n g = m at hm16 hk hJok
  have hB2 : M ((124 : Nat) : Int) ((4 : Nat) : Int) = ((m : Nat) : Int) := by rw [← hme]; exact hB.2.1
  have hJo := fun i hi => zJout_ok (n := n) (T := T) (g := g) (m := m) (cur := cur) (s := (cur, 0, 0)) ⟨Nat.le_refl _, fun h => absurd h (Nat.lt_irrefl _)⟩ i hi
  ((with_reducible refine i_Seq (i_Set (i_I (i_Seq (i_Set (i_I (i_Seq (i_Blk (i_Seq (i_Set (i_I ?_))))))))))); simp only [w_set0, w_set1, w_setn0, w_setn1])
  refine w_ForN m (fun i ρ M' => (∃ A B l, ρ = ((108 : Nat) : Int) :: ((y : Nat) : Int) :: A :: B :: ((i : Nat) : Int) :: l ∧ ((zJout n T g m (cur, 0, 0) i).1 < cur → A = (((zJout n T g m (cur, 0, 0) i).2.1 : Nat) : Int) ∧ B = (((zJout n T g m (cur, 0, 0) i).2.2 : Nat) : Int)) ∧ (¬ (zJout n T g m (cur, 0, 0) i).1 < cur → A = -1)) ∧ (∀ b j, ¬ (b = ((108 : Nat) : Int) ∧ j = 6 ∨ ((109 : Nat) : Int) ≤ b ∧ b ≤ ((123 : Nat) : Int)) → M' b j = M b j) ∧ M' ((108 : Nat) : Int) ((6 : Nat) : Int) = (((zJout n T g m (cur, 0, 0) i).1 : Nat) : Int)) ⟨⟨_, _, _, rfl, fun h => absurd h (Nat.lt_irrefl _), fun _ => rfl⟩, fun _ _ _ => rfl, hs⟩ ?_ ?_
  · rintro i ρ M5 X5 hi ⟨⟨A, B, l5, rfl, hA1, hA2⟩, hf5, hs5⟩ hX5
    have gm5 : M5 ((124 : Nat) : Int) ((4 : Nat) : Int) = ((m : Nat) : Int) := (hf5 _ _ (by omega)).trans hB2
    have hoi := hJo i (by omega)
    rw [zJout_su] at hX5
    generalize zJout n T g m (cur, 0, 0) i = s0 at hoi hX5 hA1 hA2 hs5 ⊢
    ((with_reducible refine i_turn (i_cI_lt (i_L4 (i_F (i_FR (i_A0 ?_)))))); (with_reducible refine i_fldR (by assumption) ?_); (with_reducible refine i_fld (by assumption) ?_); (rw [gm5]); (with_reducible refine i_t (by omega) ?_); (with_reducible refine i_Blk (i_Seq (i_Set (i_Add (i_L4 (i_I ?_)))))); rw [zx_inc (by omega)]; simp only [w_set0, w_set1, w_setn0, w_setn1]; rw [w_setT])
    refine w_ForN (m - (i + 1)) (fun j ρ M' => (∃ A B l, ρ = ((108 : Nat) : Int) :: ((y : Nat) : Int) :: A :: B :: ((i : Nat) : Int) :: ((i + 1 + j : Nat) : Int) :: l ∧ ((zJin n T g i s0 j).1 < cur → A = (((zJin n T g i s0 j).2.1 : Nat) : Int) ∧ B = (((zJin n T g i s0 j).2.2 : Nat) : Int)) ∧ (¬ (zJin n T g i s0 j).1 < cur → A = -1)) ∧ (∀ b j, ¬ (b = ((108 : Nat) : Int) ∧ j = 6 ∨ ((109 : Nat) : Int) ≤ b ∧ b ≤ ((123 : Nat) : Int)) → M' b j = M b j) ∧ M' ((108 : Nat) : Int) ((6 : Nat) : Int) = (((zJin n T g i s0 j).1 : Nat) : Int)) ⟨⟨_, _, _, rfl, hA1, hA2⟩, hf5, hs5⟩ ?_ ?_
    · rintro j0 ρ M6 X6 hj ⟨⟨A, B, l6, rfl, hA1, hA2⟩, hf6, hs6⟩ hX6
      have gm6 : M6 ((124 : Nat) : Int) ((4 : Nat) : Int) = ((m : Nat) : Int) := (hf6 _ _ (by omega)).trans hB2
      have gB6 : zPC M6 124 n g := hB.fr (fun b j h1 h2 => hf6 b j (by omega))
      have gN6 : zNR M6 y n T := hN.to (fun b j h1 h2 => hf6 b j (by omega))
      have hoj := zJin_ok (n := n) (T := T) (g := g) (i := i) hoi j0 (by omega)
      rw [zJin_su, show i + 1 + (j0 + 1) = i + 1 + j0 + 1 by omega] at hX6
      have hjm : i + 1 + j0 < m := by omega
      generalize zJin n T g i s0 j0 = s at hoj hX6 hA1 hA2 hs6 ⊢
      generalize i + 1 + j0 = j at hX6 hjm ⊢
      ((with_reducible refine i_turn (i_cI_lt (i_L5 (i_F (i_FR (i_A0 ?_)))))); (with_reducible refine i_fldR (by assumption) ?_); (with_reducible refine i_fld (by assumption) ?_); (rw [gm6]); (with_reducible refine i_t (by omega) ?_); (with_reducible refine i_Blk (i_Seq (i_sCall (i_as1 (i_FR (i_FR (i_A0 ?_))))))); (with_reducible refine i_fldR (by assumption) ?_); (with_reducible refine i_fldR (by assumption) ?_); (with_reducible refine i_as1 (i_FR (i_A0 ?_))); (with_reducible refine i_fldR (by assumption) ?_); (with_reducible refine i_as0 ?_); (with_reducible refine i_recv0 (by assumption) ?_))
      refine c_pbecome hO (p := 112) (q := 124) hQ0 hP0 (by omega) hn2 gB6 (fun M7 f7 h7 => ⟨rfl, ?_⟩)
      ((with_reducible refine i_Seq (i_sCall (i_as1 (i_FR (i_FR (i_A0 ?_)))))); (with_reducible refine i_fldR (by assumption) ?_); (with_reducible refine i_fldR (by assumption) ?_); (with_reducible refine i_as1 (i_L4 (i_as1 (i_L5 (i_as0 ?_))))); (with_reducible refine i_recv0 (by assumption) ?_))
      refine c_pjoin hO (p := 112) hQ0 hn1 hn2 h7 (by omega) (by omega) (fun M8 f8 h8 => ⟨rfl, ?_⟩)
      rw [hg] at h8
      ((with_reducible refine i_Seq (i_Set (i_Call (i_as1 (i_FR (i_A0 ?_)))))); (with_reducible refine i_fldR (by assumption) ?_); (with_reducible refine i_as1 (i_A1 (i_as1 (i_FR (i_A0 ?_))))); (with_reducible refine i_fldR (by assumption) ?_); (with_reducible refine i_as0 ?_); (with_reducible refine i_recv0 (by assumption) ?_); simp only [w_set0, w_set1, w_setn0, w_setn1])
      refine c_tellA hO (r := 109) (x := 111) hR0 hX0 hy (by omega) (by omega) (by omega) (gN6.to (fun b j h1 h2 => by rw [f8 b j (by omega), f7 b j (by omega)])) hT h8 hn2 (fun M9 f9 h9 => ⟨_, rfl, ?_⟩)
      have hs9 : M9 ((108 : Nat) : Int) ((6 : Nat) : Int) = ((s.1 : Nat) : Int) := by rw [f9 _ _ (by omega), f8 _ _ (by omega), f7 _ _ (by omega)]; exact hs6
      have hf9 : ∀ b j, ¬ (b = ((108 : Nat) : Int) ∧ j = 6 ∨ ((109 : Nat) : Int) ≤ b ∧ b ≤ ((123 : Nat) : Int)) → M9 b j = M b j := fun b j q => by rw [f9 b j (by omega), f8 b j (by omega), f7 b j (by omega), hf6 b j q]
      have hln := zLn_le (T := T) (f := zjc g i j) hn2
      have hs1 := hoj.1
      unfold zJst at hX6
      by_cases w : zLgt n T (zjc g i j) < s.1
      · rw [if_pos w] at hX6
        ((with_reducible refine i_If (i_cI_lt ?_)); rw [w_setT]; (with_reducible refine i_L6 (i_F (i_A0 ?_))); (with_reducible refine i_fld (by assumption) ?_); (rw [hs9]); (with_reducible refine i_t (by omega) ?_); (with_reducible refine i_Seq (i_sF (i_A0 (i_L6 ?_)))); (with_reducible refine i_fld (by assumption) ?_); (with_reducible refine i_Seq (i_Set (i_L4 (i_Set ?_)))); simp only [w_set0, w_set1, w_setn0, w_setn1]; (with_reducible refine i_L5 (i_up ?_)); simp only [w_set0, w_set1, w_setn0, w_setn1]; (with_reducible refine i_Inc5 ?_); rw [zx_inc (by omega)]; simp only [w_set0, w_set1, w_setn0, w_setn1])
        refine hX6 _ _ ⟨⟨_, _, _, rfl, fun _ => ⟨rfl, rfl⟩, fun z => absurd (show zLgt n T (zjc g i j) < cur by omega) z⟩, fun b j q => ?_, zg_s _ _ _ _ _⟩
        rw [zg_o _ _ (by omega)]; exact hf9 b j q
      · rw [if_neg w] at hX6
        ((with_reducible refine i_If (i_cI_lt ?_)); rw [w_setT]; (with_reducible refine i_L6 (i_F (i_A0 ?_))); (with_reducible refine i_fld (by assumption) ?_); (rw [hs9]); (with_reducible refine i_f (by omega) ?_); (with_reducible refine i_up (i_Inc5 ?_)); rw [zx_inc (by omega)]; simp only [w_set0, w_set1, w_setn0, w_setn1])
        exact hX6 _ _ ⟨⟨_, _, _, rfl, hA1, hA2⟩, hf9, hs9⟩
    · rintro ρ M6 X6 ⟨⟨A, B, l6, rfl, hA1, hA2⟩, hf6, hs6⟩
      have gm6 : M6 ((124 : Nat) : Int) ((4 : Nat) : Int) = ((m : Nat) : Int) := (hf6 _ _ (by omega)).trans hB2
      rw [show i + 1 + (m - (i + 1)) = m by omega]
      ((with_reducible refine i_turn (i_cI_lt (i_L5 (i_F (i_FR (i_A0 ?_)))))); (with_reducible refine i_fldR (by assumption) ?_); (with_reducible refine i_fld (by assumption) ?_); (rw [gm6]); (with_reducible refine i_f (by omega) ?_); (with_reducible refine i_up (i_Inc4 ?_)); rw [zx_inc (by omega)]; simp only [w_set0, w_set1, w_setn0, w_setn1])
      exact hX5 _ _ ⟨⟨_, _, _, rfl, hA1, hA2⟩, hf6, hs6⟩
  · rintro ρ M5 X5 ⟨⟨A, B, l5, rfl, hA1, hA2⟩, hf5, hs5⟩
    have gm5 : M5 ((124 : Nat) : Int) ((4 : Nat) : Int) = ((m : Nat) : Int) := (hf5 _ _ (by omega)).trans hB2
    have gB5 : zPC M5 124 n g := hB.fr (fun b j h1 h2 => hf5 b j (by omega))
    generalize zJout n T g m (cur, 0, 0) m = s at hJok hk hA1 hA2 hs5
    by_cases w : s.1 < cur
    · obtain ⟨a1, a2⟩ := hA1 w
      obtain ⟨hxy, hym⟩ := hJok.2 w
      subst a1; subst a2
      rw [if_pos w, decide_eq_true w] at hk
      ((with_reducible refine i_turn (i_cI_lt (i_L4 (i_F (i_FR (i_A0 ?_)))))); (with_reducible refine i_fldR (by assumption) ?_); (with_reducible refine i_fld (by assumption) ?_); (rw [gm5]); (with_reducible refine i_f (by omega) ?_); (with_reducible refine i_Seq (i_If (i_cI_eq (i_L2 (i_I ?_))))); (with_reducible refine i_f (by omega) ?_); (with_reducible refine i_Seq (i_sCall (i_as1 (i_FR (i_A0 ?_))))); (with_reducible refine i_fldR (by assumption) ?_); (with_reducible refine i_as1 (i_L2 (i_as1 (i_L3 (i_as0 ?_))))); (with_reducible refine i_recv0 (by assumption) ?_))
      refine c_pjoin hO (p := 124) hP0 hn1 hn2 gB5 (by omega) (by omega) (fun M8 f8 h8 => ⟨rfl, ?_⟩)
      rw [hg] at h8
      ((with_reducible refine i_RetZ (i_I ?_)); (with_reducible refine i_z (Or.inr rfl) ?_))
      exact hk M8 (fun b j q => by rw [f8 b j (by omega), hf5 b j (by omega)]) (h8.cg hn1) (by rw [f8 _ _ (by omega)]; exact hs5)
    · have a1 := hA2 w
      subst a1
      rw [if_neg w, decide_eq_false w] at hk
      have e : s.1 = cur := by have := hJok.1; omega
      ((with_reducible refine i_turn (i_cI_lt (i_L4 (i_F (i_FR (i_A0 ?_)))))); (with_reducible refine i_fldR (by assumption) ?_); (with_reducible refine i_fld (by assumption) ?_); (rw [gm5]); (with_reducible refine i_f (by omega) ?_); (with_reducible refine i_Seq (i_If (i_cI_eq (i_L2 (i_I ?_))))); simp only [w_set0, w_set1, w_setn0, w_setn1]; (with_reducible refine i_t trivial ?_); (with_reducible refine i_RetZ (i_I ?_)); (with_reducible refine i_z (Or.inl rfl) ?_))
      exact hk M5 (fun b j q => hf5 b j (by omega)) gB5 (by rw [← e]; exact hs5)
