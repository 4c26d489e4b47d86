/-! ===== how far off, and length: the class ===== -/
theorem c_off {O : zOm} (hO : zWld O) (hS : zS O = zmS zC0) {x n kind a b' : Nat} {b : Int} {A : zTl} {M : zMem} {K : Option zV → zMem → Prop} (hx : zTeC (zS O) x) (hx7 : 148 < x) (hpx : M ((x + 1 : Nat) : Int) ((3 : Nat) : Int) = ((n : Nat) : Int)) (hn1 : 0 < n) (hn2 : n ≤ 16) (hw : zTw n A) (hQ : zQok n kind a b b') (hT : cTk M n A)
    (hk : ∀ M', (∀ b j, ¬ (b = ((134 : Nat) : Int) ∧ j = 7 ∨ b = ((138 : Nat) : Int) ∨ b = ((140 : Nat) : Int) ∨ ((145 : Nat) : Int) ≤ b ∧ b ≤ ((146 : Nat) : Int)) → M' b j = M b j) → cTk M' n A → K (some (0, ((zoF n A kind a b' : Nat) : Int))) M') : zR O F_Sorts_off [(2, ((134 : Nat) : Int)), (2, ((x : Nat) : Int)), (0, ((kind : Nat) : Int)), (0, ((a : Nat) : Int)), (0, b)] M K := by
  obtain ⟨⟨s0, s1, s2, s3, s4, s5, s6, s7, s8⟩, ⟨s9, s10, s11, s12, s13⟩, ⟨t1, t2, t3, t4, t5, t6, t7⟩⟩ := zO134_ok hS
  have hx0 := hx
  obtain ⟨⟨x0, x1, x2, x3, x4, x5, x6, x7⟩, ⟨xa, xb⟩, hQ0, -⟩ := hx
  obtain ⟨q0, q1, q2, q3, q4, q5, q6, q7, q8⟩ := hQ0
  apply r_Sorts_off hO
  unfold B_Sorts_off
  by_cases h3 : kind ≤ 2
  · have e : zoF n A kind a b' = zqS n A kind a b' 3 := by
      have := zqS_off n A kind a b'
      unfold zoF zan
      rw [if_pos (by omega), if_pos (by omega)]; omega
    rw [e] at hk
    ((with_reducible refine i_Seq (i_If (i_cI_le (i_L2 (i_I ?_))))); (with_reducible refine i_t (by omega) ?_); (with_reducible refine i_RetI (i_Call (i_as1 (i_A0 (i_as1 (i_F (i_FR (i_A1 ?_)))))))); (with_reducible refine i_fldR (by assumption) ?_); (with_reducible refine i_fld (by assumption) ?_); (with_reducible refine i_as1 (i_L2 (i_as1 (i_L3 (i_as1 (i_L4 (i_as1 (i_I (i_as0 ?_))))))))); (with_reducible refine i_recv0 (by assumption) ?_); (rw [hpx]))
    refine c_sum hO hS (how := 3) hn1 hn2 hw hQ (by omega) (by decide) hT (fun M1 f1 h1 => ⟨_, rfl, ?_⟩)
    (skip)
    exact hk M1 (fun b j z => f1 b j (by omega)) h1
  · have hle := zan_le n A kind a b'
    have hb1 := zan_b (n := n) (A := A) (kind := kind) (a := a) (b' := b') (how := 1) hn2 (Nat.le_refl _)
    unfold zoF at hk
    ((with_reducible refine i_Seq (i_If (i_cI_le (i_L2 (i_I ?_))))); (with_reducible refine i_f (by omega) ?_); (with_reducible refine i_RetI (i_Sub (i_Call (i_as1 (i_A0 (i_as1 (i_A1 (i_as1 (i_L2 (i_as1 (i_L3 (i_as1 (i_L4 (i_as1 (i_I (i_as0 ?_)))))))))))))))); (with_reducible refine i_recv0 (by assumption) ?_))
    refine c_answer hO hS (how := 1) hx0 hx7 hpx hn1 hn2 hw hQ (Or.inl (Nat.le_refl _)) hT (by rw [if_neg (by omega)]) (fun M1 f1 h1 => ⟨_, rfl, ?_⟩)
    ((with_reducible refine i_Call (i_as1 (i_A0 (i_as1 (i_A1 (i_as1 (i_L2 (i_as1 (i_L3 (i_as1 (i_L4 (i_as1 (i_I (i_as0 ?_)))))))))))))); (with_reducible refine i_recv0 (by assumption) ?_))
    refine c_answer hO hS (how := 0) hx0 hx7 (show M1 ((x + 1 : Nat) : Int) ((3 : Nat) : Int) = ((n : Nat) : Int) from (f1 _ _ (by omega)).trans hpx) hn1 hn2 hw hQ (Or.inl (by omega)) h1 (by rw [if_neg (by omega)]) (fun M2 f2 h2 => ⟨_, rfl, ?_⟩)
    (rw [zx_sub (by omega) (by omega)])
    exact hk M2 (fun b j z => by rw [f2 b j z, f1 b j z]) h2
theorem tlS_b {n : Nat} {A : zTl} (hn : n ≤ 16) (hm : tm A ≤ 16) (k : Nat) : tlS n A k ≤ 30 := by
  have h1 := zBits_4 hm
  have h2 := tR_le n A k hn
  have h3 : zBits (tR n A k + 1) ≤ 7 := by unfold zBits; (repeat' split) <;> omega
  unfold tlS
  split <;> omega
theorem c_lengthOf {O : zOm} (hO : zWld O) (hS : zS O = zmS zC0) {x n : Nat} {A : zTl} {M : zMem} {K : Option zV → zMem → Prop} (hx : zTeC (zS O) x) (hx7 : 148 < x) (hA : zTR M x n A) (hn2 : n ≤ 16) (hw : zTw n A) (hT : cTk M n A) (hk : K (some (0, ((tLen n A : Nat) : Int))) M) : zR O F_Sorts_lengthOf [(2, ((134 : Nat) : Int)), (2, ((x : Nat) : Int))] M K := by
  obtain ⟨⟨s0, s1, s2, s3, s4, s5, s6, s7, s8⟩, ⟨s9, s10, s11, s12, s13⟩, ⟨t1, t2, t3, t4, t5, t6, t7⟩⟩ := zO134_ok hS
  have hx0 := hx
  obtain ⟨⟨x0, x1, x2, x3, x4, x5, x6, x7⟩, ⟨xa, xb⟩, hQ0, -⟩ := hx
  obtain ⟨q0, q1, q2, q3, q4, q5, q6, q7, q8⟩ := hQ0
  obtain ⟨k1, ⟨c, U, k2, k3, k4, k5, k6⟩, -⟩ := hT
  have hm := hw.1.1
  have gm := hA.1.2.1
  have hen := zsum_enum (U := U) (F := tlS n A) (c := c) (n := 512) (fun i hi => (k4 i hi).2) k5 (fun k hk1 hn => by
    have h1 := k6 k hk1 hn
    have h2 := tQ_R n A k
    unfold tlS
    rw [if_neg (by omega)])
  rw [tLen_pl hn2 hw, ← hen] at hk
  clear hen
  have hPl := zPl_le (n := n) hn2 hm
  have hcap := fun i => zsum_cap (f := fun i => tlS n A (U i)) (c := 30) (fun i => tlS_b hn2 hm _) i
  have hb4 := zBits_4 hm
  apply r_Sorts_lengthOf hO
  unfold B_Sorts_lengthOf
  ((with_reducible refine i_Seq (i_Set (i_Call (i_as1 (i_A1 (i_as0 ?_)))))); (with_reducible refine i_recv0 (by assumption) ?_); simp only [w_set0, w_set1, w_setn0, w_setn1])
  refine c_plainLength hO hx0 hA hn2 hm hw.2.2.2.1 hw.2.2.2.2 ⟨_, rfl, ?_⟩
  generalize zPl n A = z0 at hk hPl ⊢
  ((with_reducible refine i_Seq (i_Set (i_Call (i_as1 (i_F (i_FR (i_A1 ?_))))))); (with_reducible refine i_fldR (by assumption) ?_); (with_reducible refine i_fld (by assumption) ?_); (with_reducible refine i_as0 (i_recv2 ?_)); (rw [gm]); (refine s_bits hO (show tm A ≤ 128 by omega) ⟨_, rfl, ?_⟩); (with_reducible refine i_Seq (i_Blk (i_Seq (i_Set (i_I ?_))))); simp only [w_set0, w_set1, w_setn0, w_setn1])
  refine w_ForN c (fun i ρ M' => (∃ l, ρ = ((134 : Nat) : Int) :: ((x : Nat) : Int) :: ((z0 + zsum (fun i => tlS n A (U i)) i : Nat) : Int) :: ((zBits (tm A) : Nat) : Int) :: ((i : Nat) : Int) :: l) ∧ M' = M) ⟨⟨_, rfl⟩, rfl⟩ ?_ ?_
  · rintro i ρ M1 X hi ⟨⟨l, rfl⟩, rfl⟩ hX
    obtain ⟨v1, v2⟩ := k4 i hi
    obtain ⟨g1, g2⟩ := k1 (U i) v2
    have hpl := zplc_lt v2
    have hcp := hcap i
    have hcp2 : i * 30 ≤ 120 * 30 := Nat.mul_le_mul_right _ (by omega)
    have hR := tR_le n A (U i) hn2
    have hQ := tQ_R n A (U i)
    have hX2 : ∀ (l : zLoc) (v : Nat), v = z0 + zsum (fun i => tlS n A (U i)) i + tlS n A (U i) → X (((134 : Nat) : Int) :: ((x : Nat) : Int) :: ((v : Nat) : Int) :: ((zBits (tm A) : Nat) : Int) :: ((i + 1 : Nat) : Int) :: l) M1 := fun l v hv => by subst hv; rw [Nat.add_assoc]; exact hX _ _ ⟨⟨l, rfl⟩, rfl⟩
    clear hX
    have hS2 := tlS_b hn2 hm (U i)
    have h3 : zBits (tR n A (U i) + 1) ≤ 7 := by unfold zBits; (repeat' split) <;> omega
    have hv : tlS n A (U i) = if 0 < tQ n A (U i) then 4 + 2 * zBits (tm A) + zBits (tR n A (U i) + 1) else 0 := rfl
    generalize zsum (fun i => tlS n A (U i)) i = u at hX2 hcp ⊢
    generalize tlS n A (U i) = v at hX2 hS2 hv
    by_cases e : 0 < tQ n A (U i)
    · rw [if_pos e] at hv
      ((with_reducible refine i_turn (i_cI_lt (i_L4 (i_F (i_A0 ?_))))); (with_reducible refine i_fld (by assumption) ?_); (rw [k2]); (with_reducible refine i_t (by omega) ?_); (with_reducible refine i_If (i_cZ_gt (i_IA (i_FR (i_A0 ?_))))); (with_reducible refine i_fldR (by assumption) ?_); (with_reducible refine i_IA (i_FR (i_A0 ?_))); (with_reducible refine i_fldR (by assumption) ?_); (with_reducible refine i_L4 ?_); (with_reducible refine i_in (by assumption) (by omega) (by omega) ?_); (with_reducible refine i_in (by assumption) (by omega) (by omega) ?_); (rw [v1]); (rw [g2]); (with_reducible refine i_t (by omega) ?_); (with_reducible refine i_Set (i_Add (i_L2 (i_Add (i_Add (i_I (i_Mul (i_I (i_L3 (i_Call (i_as1 (i_Add (i_IA (i_FR (i_A0 ?_))))))))))))))); (with_reducible refine i_fldR (by assumption) ?_); (with_reducible refine i_IA (i_FR (i_A0 ?_))); (with_reducible refine i_fldR (by assumption) ?_); (with_reducible refine i_L4 ?_); (with_reducible refine i_in (by assumption) (by omega) (by omega) ?_); (with_reducible refine i_in (by assumption) (by omega) (by omega) ?_); (with_reducible refine i_I (i_as0 (i_recv2 ?_))); (rw [v1]); (rw [g1]); (rw [zx_addc (by omega)]); (refine s_bits hO (show tR n A (U i) + 1 ≤ 128 by omega) ⟨_, rfl, ?_⟩); (with_reducible refine i_up ?_); rw [zx_cmul (by omega)]; rw [zx_cadd (by omega)]; rw [zx_add (by omega)]; rw [zx_add (by omega)]; simp only [w_set0, w_set1, w_setn0, w_setn1]; (with_reducible refine i_Inc4 ?_); (rw [zx_addc (by omega)]); simp only [w_set0, w_set1, w_setn0, w_setn1])
      exact hX2 _ _ (by omega)
    · rw [if_neg e] at hv
      ((with_reducible refine i_turn (i_cI_lt (i_L4 (i_F (i_A0 ?_))))); (with_reducible refine i_fld (by assumption) ?_); (rw [k2]); (with_reducible refine i_t (by omega) ?_); (with_reducible refine i_If (i_cZ_gt (i_IA (i_FR (i_A0 ?_))))); (with_reducible refine i_fldR (by assumption) ?_); (with_reducible refine i_IA (i_FR (i_A0 ?_))); (with_reducible refine i_fldR (by assumption) ?_); (with_reducible refine i_L4 ?_); (with_reducible refine i_in (by assumption) (by omega) (by omega) ?_); (with_reducible refine i_in (by assumption) (by omega) (by omega) ?_); (rw [v1]); (rw [g2]); (with_reducible refine i_f (by omega) ?_); (with_reducible refine i_up (i_Inc4 ?_)); rw [zx_inc (by omega)]; simp only [w_set0, w_set1, w_setn0, w_setn1])
      exact hX2 _ _ (by omega)
  · rintro ρ M1 X ⟨⟨l, rfl⟩, rfl⟩
    ((with_reducible refine i_turn (i_cI_lt (i_L4 (i_F (i_A0 ?_))))); (with_reducible refine i_fld (by assumption) ?_); (rw [k2]); (with_reducible refine i_f (by omega) ?_); (with_reducible refine i_RetI (i_L2 ?_)))
    exact hk
theorem zTR.to {M M' : zMem} {x n : Nat} {A : zTl} (h : zTR M x n A) (e : ∀ b j, ((x : Nat) : Int) ≤ b → b ≤ ((x + 12 : Nat) : Int) → M' b j = M b j) : zTR M' x n A := by
  obtain ⟨h1, h2, ⟨h3, h4⟩, h5, h6, h7⟩ := h
  exact ⟨zPR.fr h1 (fun b j a1 a2 => e b j (by omega) (by omega)), fun b k hb hk => by rw [e _ _ (by omega) (by omega)]; exact h2 b k hb hk, ⟨h3.to (fun j => e _ _ (by omega) (by omega)) (fun j => e _ _ (by omega) (by omega)), h4⟩, h5.to (fun b j a1 a2 => e b j (by omega) (by omega)), h6.to (fun b j a1 a2 => e b j (by omega) (by omega)), h7.to (fun b j a1 a2 => e b j (by omega) (by omega))⟩
theorem c_measure {O : zOm} (hO : zWld O) (hS : zS O = zmS zC0) {x n : Nat} {A : zTl} {M : zMem} {K : Option zV → zMem → Prop} (hx : zTeC (zS O) x) (hx7 : 148 < x) (hA : zTR M x n A) (hn2 : n ≤ 16) (hw : zTw n A) (hC : cSo M)
    (hk : ∀ M', (∀ b j, ¬ (b = ((134 : Nat) : Int) ∧ j = 6 ∨ ((135 : Nat) : Int) ≤ b ∧ b ≤ ((137 : Nat) : Int) ∨ b = ((139 : Nat) : Int) ∨ ((141 : Nat) : Int) ≤ b ∧ b ≤ ((144 : Nat) : Int)) → M' b j = M b j) → cTk M' n A → K (some (0, ((tLen n A : Nat) : Int))) M') : zR O F_Sorts_measure [(2, ((134 : Nat) : Int)), (2, ((x : Nat) : Int))] M K := by
  obtain ⟨⟨s0, s1, s2, s3, s4, s5, s6, s7, s8⟩, -⟩ := zO134_ok hS
  apply r_Sorts_measure hO
  unfold B_Sorts_measure
  ((with_reducible refine i_Seq (i_sCall (i_as1 (i_A0 (i_as1 (i_A1 (i_as0 ?_))))))); (with_reducible refine i_recv0 (by assumption) ?_))
  refine c_take hO hS hx hx7 hA hn2 hw hC (fun M1 f1 h1 => ⟨rfl, ?_⟩)
  ((with_reducible refine i_RetI (i_Call (i_as1 (i_A0 (i_as1 (i_A1 (i_as0 ?_))))))); (with_reducible refine i_recv0 (by assumption) ?_))
  refine c_lengthOf hO hS hx hx7 (hA.to (fun b j a1 a2 => f1 b j (by omega))) hn2 hw h1 ⟨_, rfl, ?_⟩
  (skip)
  exact hk M1 f1 h1
