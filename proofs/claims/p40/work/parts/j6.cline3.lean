/-! ===== boxes in a line: the class's programs ===== -/
theorem zA157 {S : List zSh} (hS : S = zmS zC0) : zArr S ((157 : Nat) : Int) .int 256 := zCA (a := 157) (ty := .int) (n := 256) hS rfl
theorem c_sumWith {O : zOm} (hO : zWld O) (hS : zS O = zmS zC0) {x n s v : Nat} {A : zTl} {M : zMem} {K : Option zV → zMem → Prop} (hx : zTeC (zS O) x) (hn2 : n ≤ 16) (hA : zTR M x n A) (hw : zTw n A) (hm8 : tm A ≤ 8) (hB : zNR M 158 n (zBd n A)) (hs : s < 256) (hv : M ((157 : Nat) : Int) ((s : Nat) : Int) = ((v : Nat) : Int)) (hv2 : v ≤ 2000)
    (hk : K (some (0, ((zcu (tm A) (zlw n A) s.testBit + v : Nat) : Int))) M) : zR O F_Order_sumWith [(2, ((156 : Nat) : Int)), (2, ((x : Nat) : Int)), (0, ((s : Nat) : Int))] M K := by
  obtain ⟨⟨s0, s1, s2, s3, s4, s5, s6, s7⟩, ⟨n57, n59, n61⟩, a164, a165⟩ := zO156_ok hS
  have s00 := zf_156_0 hS
  have a157 := zA157 hS
  obtain ⟨y0, y1, y2, y3⟩ := n57
  obtain ⟨⟨o, x0, x1, x2, x3, x4, x5, x6⟩, ⟨xa, xb⟩, ⟨p0, p1, p2, p3, p4, p5, p6, p7, p8⟩, -⟩ := hx
  obtain ⟨m1, m2, m3, m4⟩ := hA.1
  have hb1 := hB.1
  have hf : ∀ q, q < n → tf A q < tm A := fun q hq => (hw.1.2.2 q hq).1
  have hcu : zcu (tm A) (zlw n A) s.testBit = zsum (fun p => if s.testBit (tf A p) = true then zcnt (fun q => zBd n A p q && !s.testBit (tf A q)) n else 0) n := zcu_posts hf
  have hz0 : zmk (fun p => decide (p < n) && (decide (tf A p < 0) && s.testBit (tf A p))) = 0 := (zmk_eq0 _).mpr (fun i _ => by rw [decide_eq_false (Nat.not_lt_zero _), Bool.false_and, Bool.and_false])
  rw [hcu] at hk
  apply r_Order_sumWith hO
  unfold B_Order_sumWith
  ((with_reducible refine i_Seq (i_Set (i_I (i_Seq (i_Blk (i_Seq (i_Set (i_I ?_)))))))); simp only [w_set0, w_set1, w_setn0, w_setn1])
  refine w_ForN (tm A) (fun k ρ M' => (∃ l, ρ = ((156 : Nat) : Int) :: ((x : Nat) : Int) :: ((s : Nat) : Int) :: zmk (fun p => decide (p < n) && (decide (tf A p < k) && s.testBit (tf A p))) :: ((k : Nat) : Int) :: l) ∧ M' = M) ⟨⟨_, by rw [hz0]; rfl⟩, rfl⟩ ?_ ?_
  · rintro k ρ M1 X hk1 ⟨⟨l, rfl⟩, rfl⟩ hX
    have hX2 : ∀ (l : zLoc) (t : Nat → Bool), (∀ i, i < 16 → t i = (decide (i < n) && (decide (tf A i < k + 1) && s.testBit (tf A i)))) → X (((156 : Nat) : Int) :: ((x : Nat) : Int) :: ((s : Nat) : Int) :: zmk t :: ((k + 1 : Nat) : Int) :: l) M1 := fun l t ht => by rw [zmk_ext ht]; exact hX _ _ ⟨⟨l, rfl⟩, rfl⟩
    have g1 := m4 k hk1
    cases e : s.testBit k
    · ((with_reducible refine i_turn (i_cI_lt (i_L4 (i_F (i_FR (i_A1 ?_)))))); (with_reducible refine i_fldR (by assumption) ?_); (with_reducible refine i_fld (by assumption) ?_); (rw [m2]); (with_reducible refine i_t (by omega) ?_); (with_reducible refine i_If (i_cI_eq (i_And (i_Shr (i_L2 (i_L4 (i_I (i_I ?_)))))))); (rw [ybit (by omega) (by omega)]); (rw [e]); rw [zbI_f]; (with_reducible refine i_f (by omega) ?_); (with_reducible refine i_up (i_Inc4 ?_)); rw [zx_inc (by omega)]; simp only [w_set0, w_set1, w_setn0, w_setn1])
      refine hX2 _ _ (fun i _ => ?_)
      by_cases w : tf A i = k
      · simp [w, e]
      · rw [zdb (show tf A i < k ↔ tf A i < k + 1 by omega)]
    · ((with_reducible refine i_turn (i_cI_lt (i_L4 (i_F (i_FR (i_A1 ?_)))))); (with_reducible refine i_fldR (by assumption) ?_); (with_reducible refine i_fld (by assumption) ?_); (rw [m2]); (with_reducible refine i_t (by omega) ?_); (with_reducible refine i_If (i_cI_eq (i_And (i_Shr (i_L2 (i_L4 (i_I (i_I ?_)))))))); (rw [ybit (by omega) (by omega)]); (rw [e]); rw [zbI_t]; simp only [w_set0, w_set1, w_setn0, w_setn1]; (with_reducible refine i_t trivial ?_); (with_reducible refine i_Set (i_Or (i_L3 (i_IA (i_FR (i_FR (i_A1 ?_))))))); (with_reducible refine i_fldR (by assumption) ?_); (with_reducible refine i_fldR (by assumption) ?_); (with_reducible refine i_L4 ?_); (with_reducible refine i_in (by assumption) (by omega) (by omega) ?_); (with_reducible refine i_up ?_); (rw [g1]); (rw [yor_mk]); simp only [w_set0, w_set1, w_setn0, w_setn1]; (with_reducible refine i_Inc4 ?_); rw [zx_inc (by omega)]; simp only [w_set0, w_set1, w_setn0, w_setn1])
      refine hX2 _ _ (fun i _ => ?_)
      by_cases w : tf A i = k
      · rw [w, e, decide_eq_false (Nat.lt_irrefl k), decide_eq_true (Nat.lt_succ_self k), decide_eq_true rfl]
        cases decide (i < n) <;> rfl
      · rw [decide_eq_false w, Bool.and_false, Bool.or_false, zdb (show tf A i < k ↔ tf A i < k + 1 by omega)]
  rintro ρ M1 X ⟨⟨l1, rfl⟩, rfl⟩
  rw [show zmk (fun p => decide (p < n) && (decide (tf A p < tm A) && s.testBit (tf A p))) = zmk (fun p => decide (p < n) && s.testBit (tf A p)) from zmk_ext fun i _ => by
    by_cases w : i < n
    · rw [decide_eq_true (hf i w), Bool.true_and]
    · rw [decide_eq_false w]; rfl]
  have hcap := fun k => zsum_cap (f := fun p => if s.testBit (tf A p) = true then zcnt (fun q => zBd n A p q && !s.testBit (tf A q)) n else 0) (c := 16) (fun p => by
    split
    · exact Nat.le_trans (zcnt_le _ _) hn2
    · omega) k
  ((with_reducible refine i_turn (i_cI_lt (i_L4 (i_F (i_FR (i_A1 ?_)))))); (with_reducible refine i_fldR (by assumption) ?_); (with_reducible refine i_fld (by assumption) ?_); (rw [m2]); (with_reducible refine i_f (by omega) ?_); (with_reducible refine i_Seq (i_Set (i_I (i_Seq (i_Blk (i_Seq (i_Set (i_I ?_)))))))); simp only [w_set0, w_set1, w_setn0, w_setn1]; rw [w_setT])
  refine w_ForN n (fun p ρ M' => (∃ l, ρ = ((156 : Nat) : Int) :: ((x : Nat) : Int) :: ((s : Nat) : Int) :: zmk (fun p => decide (p < n) && s.testBit (tf A p)) :: ((zsum (fun p => if s.testBit (tf A p) = true then zcnt (fun q => zBd n A p q && !s.testBit (tf A q)) n else 0) p : Nat) : Int) :: ((p : Nat) : Int) :: l) ∧ M' = M1) ⟨⟨_, rfl⟩, rfl⟩ ?_ ?_
  · rintro p ρ M2 X hp1 ⟨⟨l, rfl⟩, rfl⟩ hX
    have r3 := hB.2 p (by omega)
    have hX2 : ∀ (l : zLoc) (c : Nat), c = zsum (fun p => if s.testBit (tf A p) = true then zcnt (fun q => zBd n A p q && !s.testBit (tf A q)) n else 0) p + (if s.testBit (tf A p) = true then zcnt (fun q => zBd n A p q && !s.testBit (tf A q)) n else 0) → X (((156 : Nat) : Int) :: ((x : Nat) : Int) :: ((s : Nat) : Int) :: zmk (fun p => decide (p < n) && s.testBit (tf A p)) :: ((c : Nat) : Int) :: ((p + 1 : Nat) : Int) :: l) M2 := fun l c hc => by subst hc; exact hX _ _ ⟨⟨l, rfl⟩, rfl⟩
    have c1 := hcap p
    have hg : yand (yshr (zmk (fun p => decide (p < n) && s.testBit (tf A p))) ((p : Nat) : Int)) 1 = zbI (s.testBit (tf A p)) := by
      rw [yand_1 _ (by omega), decide_eq_true hp1, Bool.true_and]; rfl
    have hcn : zcnt (fun i => zBd n A p i && !(decide (i < n) && s.testBit (tf A i))) 16 = zcnt (fun q => zBd n A p q && !s.testBit (tf A q)) n := by
      rw [zcnt_top (c := n) (fun d hd => by
        cases e : zBd n A p d
        · rfl
        · have := ((zBd_reg hw).lt e).2; omega) hn2]
      exact zcnt_ext fun q hq => by rw [decide_eq_true hq, Bool.true_and]
    have c2 : zcnt (fun q => zBd n A p q && !s.testBit (tf A q)) n ≤ 16 := Nat.le_trans (zcnt_le _ _) hn2
    clear hX hk hcu hcap
    generalize zsum (fun p => if s.testBit (tf A p) = true then zcnt (fun q => zBd n A p q && !s.testBit (tf A q)) n else 0) p = z at hX2 c1 ⊢
    cases e : s.testBit (tf A p)
    · rw [e] at hX2 hg
      ((with_reducible refine i_turn (i_cI_lt (i_L5 (i_F (i_FR (i_A0 ?_)))))); (with_reducible refine i_fldR (by assumption) ?_); (with_reducible refine i_fld (by assumption) ?_); (rw [hb1]); (with_reducible refine i_t (by omega) ?_); (with_reducible refine i_If (i_cI_eq (i_And (i_Shr (i_L3 (i_L5 (i_I (i_I ?_)))))))); (rw [hg]); rw [zbI_f]; (with_reducible refine i_f (by omega) ?_); (with_reducible refine i_up (i_Inc5 ?_)); rw [zx_inc (by omega)]; simp only [w_set0, w_set1, w_setn0, w_setn1])
      exact hX2 _ _ (by simp)
    · rw [e, if_pos rfl] at hX2
      rw [e] at hg
      ((with_reducible refine i_turn (i_cI_lt (i_L5 (i_F (i_FR (i_A0 ?_)))))); (with_reducible refine i_fldR (by assumption) ?_); (with_reducible refine i_fld (by assumption) ?_); (rw [hb1]); (with_reducible refine i_t (by omega) ?_); (with_reducible refine i_If (i_cI_eq (i_And (i_Shr (i_L3 (i_L5 (i_I (i_I ?_)))))))); (rw [hg]); rw [zbI_t]; simp only [w_set0, w_set1, w_setn0, w_setn1]; (with_reducible refine i_t trivial ?_); (with_reducible refine i_Set (i_Add (i_L4 (i_Call (i_as1 (i_And (i_IA (i_FR (i_FR (i_A0 ?_)))))))))); (with_reducible refine i_fldR (by assumption) ?_); (with_reducible refine i_fldR (by assumption) ?_); (with_reducible refine i_L5 ?_); (with_reducible refine i_in (by assumption) (by omega) (by omega) ?_); (with_reducible refine i_Xor (i_L3 (i_I (i_as0 (i_recv1 ?_))))); (rw [r3]); (rw [ynot_mk]); (refine s_bitCount hO ⟨_, rfl, ?_⟩); (with_reducible refine i_up ?_); (rw [hcn]); rw [zx_add (by omega)]; simp only [w_set0, w_set1, w_setn0, w_setn1]; (with_reducible refine i_Inc5 ?_); rw [zx_inc (by omega)]; simp only [w_set0, w_set1, w_setn0, w_setn1])
      exact hX2 _ _ rfl
  · rintro ρ M2 X ⟨⟨l, rfl⟩, rfl⟩
    have c1 := hcap n
    ((with_reducible refine i_turn (i_cI_lt (i_L5 (i_F (i_FR (i_A0 ?_)))))); (with_reducible refine i_fldR (by assumption) ?_); (with_reducible refine i_fld (by assumption) ?_); (rw [hb1]); (with_reducible refine i_f (by omega) ?_); (with_reducible refine i_RetI (i_Add (i_L4 (i_IA (i_FR (i_A0 ?_)))))); (with_reducible refine i_fldR (by assumption) ?_); (with_reducible refine i_L2 ?_); (with_reducible refine i_in (by assumption) (by omega) (by omega) ?_); (rw [hv]); rw [zx_add (by omega)])
    exact hk
theorem c_canFollow {O : zOm} (hO : zWld O) (hS : zS O = zmS zC0) {x n s b v u : Nat} {A : zTl} {M : zMem} {K : Option zV → zMem → Prop} (hx : zTeC (zS O) x) (hn2 : n ≤ 16) (hA : zTR M x n A) (hw : zTw n A) (hm8 : tm A ≤ 8) (hB : zNR M 158 n (zBd n A)) (hs : s < 2 ^ tm A) (hb : b < tm A) (hv : M ((157 : Nat) : Int) ((s ||| 2 ^ b : Nat) : Int) = ((v : Nat) : Int)) (hv2 : v ≤ 2000) (hu : M ((157 : Nat) : Int) ((s : Nat) : Int) = ((u : Nat) : Int))
    (hk : K (some (0, zbI (!s.testBit b && decide (zcu (tm A) (zlw n A) (s ||| 2 ^ b).testBit + v = u)))) M) : zR O F_Order_canFollow [(2, ((156 : Nat) : Int)), (2, ((x : Nat) : Int)), (0, ((s : Nat) : Int)), (0, ((b : Nat) : Int))] M K := by
  obtain ⟨⟨s0, s1, s2, s3, s4, s5, s6, s7⟩, ⟨n57, n59, n61⟩, a164, a165⟩ := zO156_ok hS
  have s00 := zf_156_0 hS
  have a157 := zA157 hS
  have hp8 : 2 ^ tm A ≤ 2 ^ 8 := Nat.pow_le_pow_right (by decide) hm8
  have h256 : (2 : Nat) ^ 8 = 256 := rfl
  have hor := zor_m hs hb
  apply r_Order_canFollow hO
  unfold B_Order_canFollow
  cases e : s.testBit b
  · rw [e] at hk
    ((with_reducible refine i_RetZ (i_eIf (i_cAnd (i_cZ_eq (i_And (i_Shr (i_L2 (i_L3 (i_I ?_))))))))); (rw [ybit (by omega) (by omega)]); (rw [e]); rw [zbI_f]; simp only [w_set0, w_set1, w_setn0, w_setn1]; (with_reducible refine i_t trivial ?_); (with_reducible refine i_cI_eq (i_Call (i_as1 (i_A0 (i_as1 (i_A1 (i_as1 (i_Or (i_L2 (i_Shl (i_I (i_L3 (i_as0 ?_))))))))))))); (with_reducible refine i_recv0 (by assumption) ?_); (rw [ybor (by omega) (by omega)]))
    refine c_sumWith hO hS hx hn2 hA hw hm8 hB (by omega) hv hv2 ⟨_, rfl, ?_⟩
    by_cases w : zcu (tm A) (zlw n A) (s ||| 2 ^ b).testBit + v = u
    · rw [decide_eq_true w] at hk
      ((with_reducible refine i_IA (i_FR (i_A0 ?_))); (with_reducible refine i_fldR (by assumption) ?_); (with_reducible refine i_L2 ?_); (with_reducible refine i_in (by assumption) (by omega) (by omega) ?_); (rw [hu]); (with_reducible refine i_t (by omega) ?_); (with_reducible refine i_I ?_); (with_reducible refine i_z (Or.inr rfl) ?_))
      exact hk
    · rw [decide_eq_false w] at hk
      ((with_reducible refine i_IA (i_FR (i_A0 ?_))); (with_reducible refine i_fldR (by assumption) ?_); (with_reducible refine i_L2 ?_); (with_reducible refine i_in (by assumption) (by omega) (by omega) ?_); (rw [hu]); (with_reducible refine i_f (by omega) ?_); (with_reducible refine i_I ?_); (with_reducible refine i_z (Or.inl rfl) ?_))
      exact hk
  · rw [e] at hk
    ((with_reducible refine i_RetZ (i_eIf (i_cAnd (i_cZ_eq (i_And (i_Shr (i_L2 (i_L3 (i_I ?_))))))))); (rw [ybit (by omega) (by omega)]); (rw [e]); rw [zbI_t]; (with_reducible refine i_f (by omega) ?_); (with_reducible refine i_I ?_); (with_reducible refine i_z (Or.inl rfl) ?_))
    exact hk
theorem c_lay {O : zOm} (hO : zWld O) (hS : zS O = zmS zC0) {x n : Nat} {A : zTl} {M : zMem} {K : Option zV → zMem → Prop} (hx : zTeC (zS O) x) (hx7 : 165 < x) (hn1 : 0 < n) (hn2 : n ≤ 16) (hA : zTR M x n A) (hw : zTw n A) (hm8 : tm A ≤ 8)
    (hk : ∀ M' T, (∀ b j, ¬ (((157 : Nat) : Int) ≤ b ∧ b ≤ ((159 : Nat) : Int)) → M' b j = M b j) → zNR M' 158 n (zBd n A) → zTbl (tm A) (zlw n A) T 0 → (∀ s : Nat, s < 2 ^ tm A → M' ((157 : Nat) : Int) ((s : Nat) : Int) = ((T s : Nat) : Int) ∧ T s ≤ 1920) → K (some (0, ((T 0 : Nat) : Int))) M') : zR O F_Order_lay [(2, ((156 : Nat) : Int)), (2, ((x : Nat) : Int))] M K := by
  obtain ⟨⟨s0, s1, s2, s3, s4, s5, s6, s7⟩, ⟨n57, n59, n61⟩, a164, a165⟩ := zO156_ok hS
  have s00 := zf_156_0 hS
  have a157 := zA157 hS
  have hx0 := hx
  have n57' := n57
  have hm0 : 0 < tm A := by have := (hw.1.2.2 0 hn1).1; omega
  have hp8 : 2 ^ tm A ≤ 2 ^ 8 := Nat.pow_le_pow_right (by decide) hm8
  have h256 : (2 : Nat) ^ 8 = 256 := rfl
  have hp2 : 2 ≤ 2 ^ tm A := Nat.le_trans (show 2 ≤ 2 ^ 1 by decide) (Nat.pow_le_pow_right (by decide) hm0)
  obtain ⟨⟨o, x0, x1, x2, x3, x4, x5, x6⟩, ⟨xa, xb⟩, ⟨p0, p1, p2, p3, p4, p5, p6, p7, p8⟩, -⟩ := hx
  obtain ⟨m1, m2, m3, m4⟩ := hA.1
  have hcap : ∀ s, zcu (tm A) (zlw n A) s ≤ 64 := fun s => zcu_le hn2 (fun q hq => (hw.1.2.2 q hq).1)
  apply r_Order_lay hO
  unfold B_Order_lay
  ((with_reducible refine i_Seq (i_sCall (i_as1 (i_A1 (i_as1 (i_FR (i_A0 ?_))))))); (with_reducible refine i_fldR (by assumption) ?_); (with_reducible refine i_as0 ?_); (with_reducible refine i_recv0 (by assumption) ?_))
  refine c_build hO hx0 n57' hA (fun M1 f1 g1 => ⟨rfl, ?_⟩)
  have m21 : M1 ((x + 1 : Nat) : Int) ((4 : Nat) : Int) = ((tm A : Nat) : Int) := by rw [f1 _ _ (by omega)]; exact m2
  obtain ⟨y0, y1, y2, y3⟩ := n57
  ((with_reducible refine i_Seq (i_Set (i_Sub (i_Shl (i_I (i_F (i_FR (i_A1 ?_)))))))); (with_reducible refine i_fldR (by assumption) ?_); (with_reducible refine i_fld (by assumption) ?_); (with_reducible refine i_I (i_Seq (i_sIA (i_FR ?_)))); (rw [m21]); (rw [yshl_1 (show tm A < 31 by omega)]); rw [zx_subc (by omega) (by omega)]; simp only [w_set0, w_set1, w_setn0, w_setn1]; (with_reducible refine i_A0 ?_); (with_reducible refine i_fldR (by assumption) ?_); (with_reducible refine i_L2 (i_I ?_)); (with_reducible refine i_in (by assumption) (by omega) (by omega) ?_); (with_reducible refine i_Seq (i_Blk (i_Seq (i_Set (i_Sub (i_L2 (i_I ?_))))))); rw [zx_subc (by omega) (by omega)]; simp only [w_set0, w_set1, w_setn0, w_setn1])
  obtain ⟨al, hal⟩ : ∃ al, 2 ^ tm A - 1 = al := ⟨_, rfl⟩
  rw [hal]
  (skip)
  refine w_ForN al (fun k ρ M' => (∃ l, ρ = ((156 : Nat) : Int) :: ((x : Nat) : Int) :: ((al : Nat) : Int) :: (((al : Nat) : Int) - 1 - ((k : Nat) : Int)) :: l) ∧ (∀ b j, ¬ b = ((157 : Nat) : Int) → M' b j = M1 b j) ∧ ∃ T, zTbl (tm A) (zlw n A) T (al - k) ∧ ∀ s : Nat, al - k ≤ s → s ≤ al → M' ((157 : Nat) : Int) ((s : Nat) : Int) = ((T s : Nat) : Int) ∧ T s ≤ 1920) ⟨⟨[], by show [_, _, _, _] = [_, _, _, _]; rw [show (((al - 1 : Nat) : Int) : Int) = ((al : Nat) : Int) - 1 - ((0 : Nat) : Int) by omega]⟩, fun b j q => by rw [zg_n _ _ _ (by omega)], fun _ => 0, ⟨rfl, fun s h1 h2 => absurd h2 (by omega)⟩, fun s h1 h2 => by
    obtain rfl : s = al := by omega
    exact ⟨zg_s _ _ _ _ _, Nat.zero_le _⟩⟩ ?_ ?_
  · rintro k ρ M2 X hk1 ⟨⟨l, rfl⟩, f2, T, hT, gT⟩ hX
    obtain ⟨s, hs⟩ : ∃ s, s = al - 1 - k := ⟨_, rfl⟩
    have e0 : (((al : Nat) : Int) - 1 - ((k : Nat) : Int) : Int) = ((s : Nat) : Int) := by omega
    rw [e0]
    have hsm : s < 2 ^ tm A := by omega
    have hA2 : zTR M2 x n A := hA.to (fun b j a1 a2 => by rw [f2 b j (by omega), f1 b j (by omega)])
    have m22 : M2 ((x + 1 : Nat) : Int) ((4 : Nat) : Int) = ((tm A : Nat) : Int) := hA2.1.2.1
    have hB2 : zNR M2 158 n (zBd n A) := g1.to (fun b j a1 a2 => f2 b j (by omega))
    ((with_reducible refine i_turn (i_cZ_ge (i_L3 ?_))); (with_reducible refine i_t (by omega) ?_); (with_reducible refine i_Blk (i_Seq (i_Set (i_I (i_Seq (i_Blk (i_Seq (i_Set (i_I ?_))))))))); simp only [w_set0, w_set1, w_setn0, w_setn1]; rw [w_setT]; simp only [w_set0, w_set1, w_setn0, w_setn1]; rw [w_setT])
    refine w_ForN (tm A) (fun b ρ M' => (∃ l, ρ = ((156 : Nat) : Int) :: ((x : Nat) : Int) :: ((al : Nat) : Int) :: ((s : Nat) : Int) :: ((zmnB (tm A) (zlw n A) T s b : Nat) : Int) :: ((b : Nat) : Int) :: l) ∧ M' = M2) ⟨⟨_, rfl⟩, rfl⟩ ?_ ?_
    · rintro b ρ M3 X3 hb ⟨⟨l3, rfl⟩, rfl⟩ hX3
      have hzl := (zmnB_le (m := tm A) (w := zlw n A) (T := T) (s := s) b).1
      have hX4 : ∀ (l : zLoc) (c : Nat), c = zmnB (tm A) (zlw n A) T s (b + 1) → X3 (((156 : Nat) : Int) :: ((x : Nat) : Int) :: ((al : Nat) : Int) :: ((s : Nat) : Int) :: ((c : Nat) : Int) :: ((b + 1 : Nat) : Int) :: l) M3 := fun l c hc => by subst hc; exact hX3 _ _ ⟨⟨l, rfl⟩, rfl⟩
      unfold zmnB at hX4
      clear hX3
      generalize zmnB (tm A) (zlw n A) T s b = z at hX4 hzl ⊢
      cases e : s.testBit b
      · have h3 := zor_gt e
        have h4 := zor_m hsm hb
        obtain ⟨g3, g4⟩ := gT (s ||| 2 ^ b) (by omega) (by omega)
        have g5 := hcap (s ||| 2 ^ b).testBit
        rw [e, if_neg (by decide)] at hX4
        ((with_reducible refine i_turn (i_cI_lt (i_L5 (i_F (i_FR (i_A1 ?_)))))); (with_reducible refine i_fldR (by assumption) ?_); (with_reducible refine i_fld (by assumption) ?_); (rw [m22]); (with_reducible refine i_t (by omega) ?_); (with_reducible refine i_If (i_cZ_eq (i_And (i_Shr (i_L3 (i_L5 (i_I ?_))))))); (rw [ybit (by omega) (by omega)]); (rw [e]); rw [zbI_f]; simp only [w_set0, w_set1, w_setn0, w_setn1]; (with_reducible refine i_t trivial ?_); (with_reducible refine i_Set (i_MM (i_L4 (i_Call (i_as1 (i_A0 (i_as1 (i_A1 (i_as1 (i_Or (i_L3 (i_Shl (i_I (i_L5 (i_as0 ?_))))))))))))))); (with_reducible refine i_recv0 (by assumption) ?_); (rw [ybor (by omega) (by omega)]); simp only [w_set0, w_set1, w_setn0, w_setn1])
        refine c_sumWith hO hS hx0 hn2 hA2 hw hm8 hB2 (by omega) g3 (by omega) ⟨_, rfl, ?_⟩
        ((with_reducible refine i_up (i_Inc5 ?_)); (rw [zmn4]); rw [zx_inc (by omega)]; simp only [w_set0, w_set1, w_setn0, w_setn1])
        exact hX4 _ _ rfl
      · rw [e, if_pos rfl] at hX4
        ((with_reducible refine i_turn (i_cI_lt (i_L5 (i_F (i_FR (i_A1 ?_)))))); (with_reducible refine i_fldR (by assumption) ?_); (with_reducible refine i_fld (by assumption) ?_); (rw [m22]); (with_reducible refine i_t (by omega) ?_); (with_reducible refine i_If (i_cZ_eq (i_And (i_Shr (i_L3 (i_L5 (i_I ?_))))))); (rw [ybit (by omega) (by omega)]); (rw [e]); rw [zbI_t]; (with_reducible refine i_f (by omega) ?_); (with_reducible refine i_up (i_Inc5 ?_)); rw [zx_inc (by omega)]; simp only [w_set0, w_set1, w_setn0, w_setn1])
        exact hX4 _ _ rfl
    · rintro ρ M3 X3 ⟨⟨l3, rfl⟩, rfl⟩
      have hzl := zmnB_le (m := tm A) (w := zlw n A) (T := T) (s := s) (tm A)
      ((with_reducible refine i_turn (i_cI_lt (i_L5 (i_F (i_FR (i_A1 ?_)))))); (with_reducible refine i_fldR (by assumption) ?_); (with_reducible refine i_fld (by assumption) ?_); (rw [m22]); (with_reducible refine i_f (by omega) ?_); (with_reducible refine i_sIA (i_FR (i_A0 ?_))); (with_reducible refine i_fldR (by assumption) ?_); (with_reducible refine i_L3 (i_L4 ?_)); (with_reducible refine i_in (by assumption) (by omega) (by omega) ?_); (with_reducible refine i_up (i_Inc3 ?_)); rw [zx_s (by omega) (by omega)]; simp only [w_set0, w_set1, w_setn0, w_setn1])
      have hTe : ∀ k, zmnB (tm A) (zlw n A) (fun s' => if s' = s then zmnB (tm A) (zlw n A) T s (tm A) else T s') s k = zmnB (tm A) (zlw n A) T s k := fun k => by
        induction k with
        | zero => rfl
        | succ k ih =>
          unfold zmnB
          rw [ih]
          cases e : s.testBit k
          · have h3 := zor_gt e
            (try dsimp only)
            rw [if_neg (show ¬ s ||| 2 ^ k = s by omega)]
          · rfl
      have hTo : ∀ s', s < s' → ∀ k, zmnB (tm A) (zlw n A) (fun s' => if s' = s then zmnB (tm A) (zlw n A) T s (tm A) else T s') s' k = zmnB (tm A) (zlw n A) T s' k := fun s' hs' k => by
        induction k with
        | zero => rfl
        | succ k ih =>
          unfold zmnB
          rw [ih]
          cases e : s'.testBit k
          · have h3 := zor_gt e
            (try dsimp only)
            rw [if_neg (show ¬ s' ||| 2 ^ k = s by omega)]
          · rfl
      refine hX _ _ ⟨⟨_, by rw [show (((s : Nat) : Int) + -1 : Int) = ((al : Nat) : Int) - 1 - ((k + 1 : Nat) : Int) by omega]⟩, fun b j q => by rw [zg_n _ _ _ (by omega)]; exact f2 b j q, fun s' => if s' = s then zmnB (tm A) (zlw n A) T s (tm A) else T s', ⟨by (try dsimp only); rw [if_neg (by omega)]; exact hT.1, fun s' h1 h2 => ?_⟩, fun s' h1 h2 => ?_⟩
      · by_cases e : s' = s
        · subst e
          (try dsimp only)
          rw [if_pos rfl, hTe]
        · (try dsimp only)
          rw [if_neg e, hTo s' (by omega)]
          exact hT.2 s' (by omega) h2
      · by_cases e : s' = s
        · subst e
          (try dsimp only)
          rw [if_pos rfl]
          exact ⟨zg_s _ _ _ _ _, hzl.1⟩
        · (try dsimp only)
          rw [if_neg e, zg_m _ _ _ _ _ (by omega)]
          exact gT s' (by omega) h2
  · rintro ρ M2 X ⟨⟨l, rfl⟩, f2, T, hT, gT⟩
    rw [Nat.sub_self] at hT
    obtain ⟨g0, g1'⟩ := gT 0 (by omega) (by omega)
    have g00 : M2 ((157 : Nat) : Int) 0 = ((T 0 : Nat) : Int) := g0
    ((with_reducible refine i_turn (i_cZ_ge (i_L3 ?_))); (with_reducible refine i_f (by omega) ?_); (with_reducible refine i_RetI (i_IA (i_FR (i_A0 ?_)))); (with_reducible refine i_fldR (by assumption) ?_); (with_reducible refine i_I ?_); (with_reducible refine i_in (by assumption) (by omega) (by omega) ?_); (rw [g00]))
    exact hk M2 T (fun b j q => by rw [f2 b j (by omega), f1 b j (by omega)]) (g1.to (fun b j a1 a2 => f2 b j (by omega))) hT (fun s hs => gT s (by omega) (by omega))
theorem c_boxAt {O : zOm} (hO : zWld O) (hS : zS O = zmS zC0) {x n i : Nat} {A : zTl} {T : Nat → Nat} {M : zMem} {K : Option zV → zMem → Prop} (hx : zTeC (zS O) x) (hn2 : n ≤ 16) (hA : zTR M x n A) (hw : zTw n A) (hm8 : tm A ≤ 8) (hB : zNR M 158 n (zBd n A)) (hT : zTbl (tm A) (zlw n A) T 0) (hTM : ∀ s : Nat, s < 2 ^ tm A → M ((157 : Nat) : Int) ((s : Nat) : Int) = ((T s : Nat) : Int) ∧ T s ≤ 1920) (hi : i < tm A)
    (hk : K (some (0, ((zLin (tm A) (zlw n A) i : Nat) : Int))) M) : zR O F_Order_boxAt [(2, ((156 : Nat) : Int)), (2, ((x : Nat) : Int)), (0, ((i : Nat) : Int))] M K := by
  obtain ⟨⟨s0, s1, s2, s3, s4, s5, s6, s7⟩, ⟨n57, n59, n61⟩, a164, a165⟩ := zO156_ok hS
  have hx0 := hx
  have hcap : ∀ s, zcu (tm A) (zlw n A) s ≤ 64 := fun s => zcu_le hn2 (fun q hq => (hw.1.2.2 q hq).1)
  obtain ⟨hg, hgs⟩ := zgr_of hT hm8 hcap
  have hp8 : 2 ^ tm A ≤ 2 ^ 8 := Nat.pow_le_pow_right (by decide) hm8
  have h256 : (2 : Nat) ^ 8 = 256 := rfl
  rw [← (zLin_g hT hm8 hcap).2 i hi] at hk
  obtain ⟨⟨o, x0, x1, x2, x3, x4, x5, x6⟩, ⟨xa, xb⟩, ⟨p0, p1, p2, p3, p4, p5, p6, p7, p8⟩, -⟩ := hx
  obtain ⟨m1, m2, m3, m4⟩ := hA.1
  apply r_Order_boxAt hO
  unfold B_Order_boxAt
  ((with_reducible refine i_Seq (i_Set (i_I (i_Seq (i_Set (i_I (i_Seq (i_Blk (i_Seq (i_Set (i_I ?_))))))))))); simp only [w_set0, w_set1, w_setn0, w_setn1])
  refine w_ForN (i + 1) (fun k ρ M' => (∃ l, ρ = ((156 : Nat) : Int) :: ((x : Nat) : Int) :: ((i : Nat) : Int) :: ((zgs2 (tm A) (zlw n A) T k : Nat) : Int) :: (if k = 0 then -1 else ((zgb2 (tm A) (zlw n A) T (k - 1) : Nat) : Int)) :: ((k : Nat) : Int) :: l) ∧ M' = M) ⟨⟨_, rfl⟩, rfl⟩ ?_ ?_
  · rintro k ρ M1 X hk1 ⟨⟨l, rfl⟩, rfl⟩ hX
    have hsm := (hgs k (by omega)).1
    have hgb := (hg k (by omega)).1
    have hfi : zfind (zcan (tm A) (zlw n A) T (zgs2 (tm A) (zlw n A) T k)) (tm A) < tm A := hgb
    obtain ⟨z1, z2, z3⟩ := zfind_ok (zcan (tm A) (zlw n A) T (zgs2 (tm A) (zlw n A) T k)) (tm A)
    have z2' := z2 hfi
    have hX2 : ∀ l, X (((156 : Nat) : Int) :: ((x : Nat) : Int) :: ((i : Nat) : Int) :: ((zgs2 (tm A) (zlw n A) T k ||| 2 ^ zfind (zcan (tm A) (zlw n A) T (zgs2 (tm A) (zlw n A) T k)) (tm A) : Nat) : Int) :: ((zfind (zcan (tm A) (zlw n A) T (zgs2 (tm A) (zlw n A) T k)) (tm A) : Nat) : Int) :: ((k + 1 : Nat) : Int) :: l) M1 := fun l => hX _ _ ⟨⟨l, by rw [if_neg (by omega), Nat.add_sub_cancel]; rfl⟩, rfl⟩
    clear hX hk
    generalize zfind (zcan (tm A) (zlw n A) T (zgs2 (tm A) (zlw n A) T k)) (tm A) = f at hfi z2' z3 hX2
    generalize zgs2 (tm A) (zlw n A) T k = s at hsm z2' z3 hX2 ⊢
    generalize (if k = 0 then (-1 : Int) else ((zgb2 (tm A) (zlw n A) T (k - 1) : Nat) : Int)) = la
    ((with_reducible refine i_turn (i_cI_le (i_L5 (i_L2 ?_)))); (with_reducible refine i_t (by omega) ?_); (with_reducible refine i_Blk (i_Seq (i_Set (i_I (i_Seq ?_))))); simp only [w_set0, w_set1, w_setn0, w_setn1]; rw [w_setT])
    refine w_WhileN f (fun b ρ M' => (∃ l, ρ = ((156 : Nat) : Int) :: ((x : Nat) : Int) :: ((i : Nat) : Int) :: ((s : Nat) : Int) :: la :: ((k : Nat) : Int) :: ((b : Nat) : Int) :: l) ∧ M' = M1) ⟨⟨_, rfl⟩, rfl⟩ ?_ ?_
    · rintro b ρ M2 X2 hb ⟨⟨l2, rfl⟩, rfl⟩ hX2'
      have hor := zor_m hsm (show b < tm A by omega)
      obtain ⟨g3, g4⟩ := hTM _ hor
      obtain ⟨g5, g6⟩ := hTM _ hsm
      have h0 := z3 b hb
      unfold zcan at h0
      ((with_reducible refine i_turn (i_cAnd (i_cI_lt (i_L6 (i_F (i_FR (i_A1 ?_))))))); (with_reducible refine i_fldR (by assumption) ?_); (with_reducible refine i_fld (by assumption) ?_); (rw [m2]); (with_reducible refine i_t (by omega) ?_); (with_reducible refine i_cNot (i_cZ_ne (i_Call (i_as1 (i_A0 (i_as1 (i_A1 (i_as1 (i_L3 (i_as1 (i_L6 (i_as0 ?_)))))))))))); (with_reducible refine i_recv0 (by assumption) ?_))
      refine c_canFollow hO hS hx0 hn2 hA hw hm8 hB hsm (by omega) g3 (by omega) g5 ⟨_, rfl, ?_⟩
      rw [h0]
      (rw [zbI_f]; (with_reducible refine i_f (by omega) ?_); (with_reducible refine i_Inc6 ?_); rw [zx_inc (by omega)]; simp only [w_set0, w_set1, w_setn0, w_setn1])
      exact hX2' _ _ ⟨⟨_, rfl⟩, rfl⟩
    · rintro ρ M2 X2 ⟨⟨l2, rfl⟩, rfl⟩
      have hor := zor_m hsm hfi
      obtain ⟨g3, g4⟩ := hTM _ hor
      obtain ⟨g5, g6⟩ := hTM _ hsm
      unfold zcan at z2'
      ((with_reducible refine i_turn (i_cAnd (i_cI_lt (i_L6 (i_F (i_FR (i_A1 ?_))))))); (with_reducible refine i_fldR (by assumption) ?_); (with_reducible refine i_fld (by assumption) ?_); (rw [m2]); (with_reducible refine i_t (by omega) ?_); (with_reducible refine i_cNot (i_cZ_ne (i_Call (i_as1 (i_A0 (i_as1 (i_A1 (i_as1 (i_L3 (i_as1 (i_L6 (i_as0 ?_)))))))))))); (with_reducible refine i_recv0 (by assumption) ?_))
      refine c_canFollow hO hS hx0 hn2 hA hw hm8 hB hsm hfi g3 (by omega) g5 ⟨_, rfl, ?_⟩
      rw [z2']
      (rw [zbI_t]; (with_reducible refine i_t (by omega) ?_); (with_reducible refine i_If (i_cI_lt (i_L6 (i_F (i_FR (i_A1 ?_)))))); (with_reducible refine i_fldR (by assumption) ?_); (with_reducible refine i_fld (by assumption) ?_); (rw [m2]); (with_reducible refine i_t (by omega) ?_); (with_reducible refine i_Seq (i_Set (i_L6 (i_Set (i_Or ?_))))); simp only [w_set0, w_set1, w_setn0, w_setn1]; (with_reducible refine i_L3 (i_Shl (i_I (i_L6 (i_up ?_))))); (rw [ybor (by omega) (by omega)]); simp only [w_set0, w_set1, w_setn0, w_setn1]; (with_reducible refine i_Inc5 ?_); rw [zx_inc (by omega)]; simp only [w_set0, w_set1, w_setn0, w_setn1])
      exact hX2 _
  · rintro ρ M1 X ⟨⟨l, rfl⟩, rfl⟩
    rw [if_neg (by omega), Nat.add_sub_cancel]
    ((with_reducible refine i_turn (i_cI_le (i_L5 (i_L2 ?_)))); (with_reducible refine i_f (by omega) ?_); (with_reducible refine i_RetI (i_L4 ?_)))
    exact hk
theorem c_line_bad {O : zOm} (hO : zWld O) (hS : zS O = zmS zC0) {t : Int} {T : Nat} {M : zMem} {K : Option zV → zMem → Prop} (hT : M ((0 : Nat) : Int) ((4 : Nat) : Int) = ((T : Nat) : Int)) (hT5 : T ≤ 5) (ht : ¬ (0 ≤ t ∧ t < ((T : Nat) : Int))) (hk : K (some (0, -1)) M) : zR O F_ToldNet_line [(2, ((0 : Nat) : Int)), (0, t)] M K := by
  apply r_ToldNet_line hO
  unfold B_ToldNet_line
  have f0_10 := zf_0_10 hS; have z0 := zo_0 hS; have z156 := zo_156 hS
  ((with_reducible refine i_Seq (i_Set (i_Call (i_as1 (i_A0 (i_as1 (i_L1 (i_as0 ?_)))))))); (with_reducible refine i_recv0 (by assumption) ?_); simp only [w_set0, w_set1, w_setn0, w_setn1])
  refine c_find hO hS hT hT5 (fun hx => ⟨_, rfl, ?_⟩) (fun k e hk1 => absurd (show 0 ≤ t ∧ t < ((T : Nat) : Int) by omega) ht)
  ((with_reducible refine i_Seq (i_If (i_cN (i_A2 ?_)))); simp only [w_set0, w_set1, w_setn0, w_setn1]; (with_reducible refine i_t trivial ?_); (with_reducible refine i_RetI (i_I ?_)))
  exact hk
theorem c_line_big {O : zOm} (hO : zWld O) (hS : zS O = zmS zC0) {t T n : Nat} {A : zTl} {M : zMem} {K : Option zV → zMem → Prop} (hT : M ((0 : Nat) : Int) ((4 : Nat) : Int) = ((T : Nat) : Int)) (hT5 : T ≤ 5) (ht : t < T) (hA : zTR M (185 + 13 * t) n A) (hm : 8 < tm A) (hk : K (some (0, -2)) M) : zR O F_ToldNet_line [(2, ((0 : Nat) : Int)), (0, ((t : Nat) : Int))] M K := by
  obtain ⟨⟨x0, x1, x2, x3, x4, x5, x6, x7⟩, -, ⟨p0, p1, p2, p3, p4, p5, p6, p7, p8⟩, -⟩ := zTelT hS (show t < 5 by omega)
  have g := hA.1.2.1
  apply r_ToldNet_line hO
  unfold B_ToldNet_line
  have f0_10 := zf_0_10 hS; have z0 := zo_0 hS; have z156 := zo_156 hS
  ((with_reducible refine i_Seq (i_Set (i_Call (i_as1 (i_A0 (i_as1 (i_L1 (i_as0 ?_)))))))); (with_reducible refine i_recv0 (by assumption) ?_); simp only [w_set0, w_set1, w_setn0, w_setn1])
  refine c_find hO hS hT hT5 (fun hx => absurd (show 0 ≤ ((t : Nat) : Int) ∧ ((t : Nat) : Int) < ((T : Nat) : Int) by omega) hx) (fun k e hk1 => ⟨_, rfl, ?_⟩)
  rw [show k = t by omega]
  ((with_reducible refine i_Seq (i_If (i_cN (i_A2 ?_)))); (with_reducible refine i_f (by omega) ?_); (with_reducible refine i_RetI (i_eIf (i_cI_gt (i_F (i_FR (i_A2 ?_)))))); (with_reducible refine i_fldR (by assumption) ?_); (with_reducible refine i_fld (by assumption) ?_); (with_reducible refine i_I ?_); (rw [g]); (with_reducible refine i_t (by omega) ?_); (with_reducible refine i_I ?_))
  exact hk
theorem c_line {O : zOm} (hO : zWld O) (hS : zS O = zmS zC0) {t T n : Nat} {A : zTl} {M : zMem} {K : Option zV → zMem → Prop} (hT : M ((0 : Nat) : Int) ((4 : Nat) : Int) = ((T : Nat) : Int)) (hT5 : T ≤ 5) (ht : t < T) (hn1 : 0 < n) (hn2 : n ≤ 16) (hA : zTR M (185 + 13 * t) n A) (hw : zTw n A) (hm8 : tm A ≤ 8)
    (hk : ∀ M', (∀ b j, ¬ (((157 : Nat) : Int) ≤ b ∧ b ≤ ((159 : Nat) : Int)) → M' b j = M b j) → K (some (0, ((zst2 (tm A) (zlw n A) (zLin (tm A) (zlw n A)) : Nat) : Int))) M') : zR O F_ToldNet_line [(2, ((0 : Nat) : Int)), (0, ((t : Nat) : Int))] M K := by
  have hxT := zTelT hS (show t < 5 by omega)
  obtain ⟨⟨x0, x1, x2, x3, x4, x5, x6, x7⟩, -, ⟨p0, p1, p2, p3, p4, p5, p6, p7, p8⟩, -⟩ := id hxT
  have g := hA.1.2.1
  have o156 := zo_156 hS
  have hcap : ∀ s, zcu (tm A) (zlw n A) s ≤ 64 := fun s => zcu_le hn2 (fun q hq => (hw.1.2.2 q hq).1)
  apply r_ToldNet_line hO
  unfold B_ToldNet_line
  have f0_10 := zf_0_10 hS; have z0 := zo_0 hS; have z156 := zo_156 hS
  ((with_reducible refine i_Seq (i_Set (i_Call (i_as1 (i_A0 (i_as1 (i_L1 (i_as0 ?_)))))))); (with_reducible refine i_recv0 (by assumption) ?_); simp only [w_set0, w_set1, w_setn0, w_setn1])
  refine c_find hO hS hT hT5 (fun hx => absurd (show 0 ≤ ((t : Nat) : Int) ∧ ((t : Nat) : Int) < ((T : Nat) : Int) by omega) hx) (fun k e hk1 => ⟨_, rfl, ?_⟩)
  rw [show k = t by omega]
  ((with_reducible refine i_Seq (i_If (i_cN (i_A2 ?_)))); (with_reducible refine i_f (by omega) ?_); (with_reducible refine i_RetI (i_eIf (i_cI_gt (i_F (i_FR (i_A2 ?_)))))); (with_reducible refine i_fldR (by assumption) ?_); (with_reducible refine i_fld (by assumption) ?_); (with_reducible refine i_I ?_); (rw [g]); (with_reducible refine i_f (by omega) ?_); (with_reducible refine i_Call (i_as1 (i_FR (i_A0 ?_)))); (with_reducible refine i_fldR (by assumption) ?_); (with_reducible refine i_as1 (i_A2 (i_as0 ?_))); (with_reducible refine i_recv0 (by assumption) ?_))
  refine c_lay hO hS hxT (by omega) hn1 hn2 hA hw hm8 (fun M1 T1 f1 g1 h1 h2 => ⟨_, rfl, ?_⟩)
  rw [(zLin_g h1 hm8 hcap).1]
  (skip)
  exact hk M1 f1
theorem c_at_bad {O : zOm} (hO : zWld O) (hS : zS O = zmS zC0) {t i : Int} {T n : Nat} {A : Nat → zTl} {M : zMem} {K : Option zV → zMem → Prop} (hT : M ((0 : Nat) : Int) ((4 : Nat) : Int) = ((T : Nat) : Int)) (hT5 : T ≤ 5) (hA : ∀ t : Nat, t < T → zTR M (185 + 13 * t) n (A t)) (hb : ∀ t' : Nat, t = ((t' : Nat) : Int) → t' < T → ¬ (tm (A t') ≤ 8 ∧ 0 ≤ i ∧ i < ((tm (A t') : Nat) : Int))) (hk : K (some (0, -1)) M) : zR O F_ToldNet_at [(2, ((0 : Nat) : Int)), (0, t), (0, i)] M K := by
  apply r_ToldNet_at hO
  unfold B_ToldNet_at
  have f0_10 := zf_0_10 hS; have z0 := zo_0 hS; have z156 := zo_156 hS
  ((with_reducible refine i_Seq (i_Set (i_Call (i_as1 (i_A0 (i_as1 (i_L1 (i_as0 ?_)))))))); (with_reducible refine i_recv0 (by assumption) ?_); simp only [w_set0, w_set1, w_setn0, w_setn1])
  refine c_find hO hS hT hT5 (fun hx => ⟨_, rfl, ?_⟩) (fun k e hk1 => ⟨_, rfl, ?_⟩)
  · ((with_reducible refine i_Seq (i_If (i_cOr (i_cOr (i_cOr (i_cN (i_A3 ?_))))))); simp only [w_set0, w_set1, w_setn0, w_setn1]; (with_reducible refine i_t trivial ?_); (with_reducible refine i_RetI (i_I ?_)))
    exact hk
  · obtain ⟨⟨x0, x1, x2, x3, x4, x5, x6, x7⟩, -, ⟨p0, p1, p2, p3, p4, p5, p6, p7, p8⟩, -⟩ := zTelT hS (show k < 5 by omega)
    have g := (hA k hk1).1.2.1
    have h2 := hb k e hk1
    by_cases e1 : 8 < tm (A k)
    · ((with_reducible refine i_Seq (i_If (i_cOr (i_cOr (i_cOr (i_cN (i_A3 ?_))))))); (with_reducible refine i_f (by omega) ?_); (with_reducible refine i_cI_gt (i_F (i_FR (i_A3 ?_)))); (with_reducible refine i_fldR (by assumption) ?_); (with_reducible refine i_fld (by assumption) ?_); (with_reducible refine i_I ?_); (rw [g]); (with_reducible refine i_t (by omega) ?_); (with_reducible refine i_RetI (i_I ?_)))
      exact hk
    · by_cases e2 : i < 0
      · ((with_reducible refine i_Seq (i_If (i_cOr (i_cOr (i_cOr (i_cN (i_A3 ?_))))))); (with_reducible refine i_f (by omega) ?_); (with_reducible refine i_cI_gt (i_F (i_FR (i_A3 ?_)))); (with_reducible refine i_fldR (by assumption) ?_); (with_reducible refine i_fld (by assumption) ?_); (with_reducible refine i_I ?_); (rw [g]); (with_reducible refine i_f (by omega) ?_); (with_reducible refine i_cZ_lt (i_L2 ?_)); (with_reducible refine i_t (by omega) ?_); (with_reducible refine i_RetI (i_I ?_)))
        exact hk
      · ((with_reducible refine i_Seq (i_If (i_cOr (i_cOr (i_cOr (i_cN (i_A3 ?_))))))); (with_reducible refine i_f (by omega) ?_); (with_reducible refine i_cI_gt (i_F (i_FR (i_A3 ?_)))); (with_reducible refine i_fldR (by assumption) ?_); (with_reducible refine i_fld (by assumption) ?_); (with_reducible refine i_I ?_); (rw [g]); (with_reducible refine i_f (by omega) ?_); (with_reducible refine i_cZ_lt (i_L2 ?_)); (with_reducible refine i_f (by omega) ?_); (with_reducible refine i_cI_ge (i_L2 (i_F (i_FR (i_A3 ?_))))); (with_reducible refine i_fldR (by assumption) ?_); (with_reducible refine i_fld (by assumption) ?_); (rw [g]); (with_reducible refine i_t (by omega) ?_); (with_reducible refine i_RetI (i_I ?_)))
        exact hk
theorem c_at {O : zOm} (hO : zWld O) (hS : zS O = zmS zC0) {t T n i : Nat} {A : zTl} {M : zMem} {K : Option zV → zMem → Prop} (hT : M ((0 : Nat) : Int) ((4 : Nat) : Int) = ((T : Nat) : Int)) (hT5 : T ≤ 5) (ht : t < T) (hn1 : 0 < n) (hn2 : n ≤ 16) (hA : zTR M (185 + 13 * t) n A) (hw : zTw n A) (hm8 : tm A ≤ 8) (hi : i < tm A)
    (hk : ∀ M', (∀ b j, ¬ (((157 : Nat) : Int) ≤ b ∧ b ≤ ((159 : Nat) : Int)) → M' b j = M b j) → K (some (0, ((zLin (tm A) (zlw n A) i : Nat) : Int))) M') : zR O F_ToldNet_at [(2, ((0 : Nat) : Int)), (0, ((t : Nat) : Int)), (0, ((i : Nat) : Int))] M K := by
  have hxT := zTelT hS (show t < 5 by omega)
  obtain ⟨⟨x0, x1, x2, x3, x4, x5, x6, x7⟩, -, ⟨p0, p1, p2, p3, p4, p5, p6, p7, p8⟩, -⟩ := id hxT
  have g := hA.1.2.1
  have o156 := zo_156 hS
  apply r_ToldNet_at hO
  unfold B_ToldNet_at
  have f0_10 := zf_0_10 hS; have z0 := zo_0 hS; have z156 := zo_156 hS
  ((with_reducible refine i_Seq (i_Set (i_Call (i_as1 (i_A0 (i_as1 (i_L1 (i_as0 ?_)))))))); (with_reducible refine i_recv0 (by assumption) ?_); simp only [w_set0, w_set1, w_setn0, w_setn1])
  refine c_find hO hS hT hT5 (fun hx => absurd (show 0 ≤ ((t : Nat) : Int) ∧ ((t : Nat) : Int) < ((T : Nat) : Int) by omega) hx) (fun k e hk1 => ⟨_, rfl, ?_⟩)
  rw [show k = t by omega]
  ((with_reducible refine i_Seq (i_If (i_cOr (i_cOr (i_cOr (i_cN (i_A3 ?_))))))); (with_reducible refine i_f (by omega) ?_); (with_reducible refine i_cI_gt (i_F (i_FR (i_A3 ?_)))); (with_reducible refine i_fldR (by assumption) ?_); (with_reducible refine i_fld (by assumption) ?_); (with_reducible refine i_I ?_); (rw [g]); (with_reducible refine i_f (by omega) ?_); (with_reducible refine i_cZ_lt (i_L2 ?_)); (with_reducible refine i_f (by omega) ?_); (with_reducible refine i_cI_ge (i_L2 (i_F (i_FR (i_A3 ?_))))); (with_reducible refine i_fldR (by assumption) ?_); (with_reducible refine i_fld (by assumption) ?_); (rw [g]); (with_reducible refine i_f (by omega) ?_); (with_reducible refine i_Seq (i_Pop (i_Call (i_as1 (i_FR (i_A0 ?_)))))); (with_reducible refine i_fldR (by assumption) ?_); (with_reducible refine i_as1 (i_A3 (i_as0 ?_))); (with_reducible refine i_recv0 (by assumption) ?_))
  refine c_lay hO hS hxT (by omega) hn1 hn2 hA hw hm8 (fun M1 T1 f1 g1 h1 h2 => ⟨_, rfl, ?_⟩)
  ((with_reducible refine i_RetI (i_Call (i_as1 (i_FR (i_A0 ?_))))); (with_reducible refine i_fldR (by assumption) ?_); (with_reducible refine i_as1 (i_A3 (i_as1 (i_L2 (i_as0 ?_))))); (with_reducible refine i_recv0 (by assumption) ?_))
  refine c_boxAt hO hS hxT hn2 (hA.to (fun b j a1 a2 => f1 b j (by omega))) hw hm8 g1 h1 h2 hi ⟨_, rfl, ?_⟩
  (skip)
  exact hk M1 f1
