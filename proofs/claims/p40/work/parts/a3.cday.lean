/-! ===== the class: nets of days ===== -/
theorem c_isPost {O : zOm} (hO : zWld O) (hS : zS O = zmS zC0) {a : Int} {P : Nat} {M : zMem} {K : Option zV → zMem → Prop} (hP : M ((1 : Nat) : Int) ((2 : Nat) : Int) = ((P : Nat) : Int)) (hk : K (some (0, zbI (decide (0 ≤ a ∧ a < ((P : Nat) : Int))))) M) : zR O F_Days_isPost [(2, ((1 : Nat) : Int)), (0, a)] M K := by
  apply r_Days_isPost hO
  unfold B_Days_isPost
  have f1_2 := zf_1_2 hS; have z1 := zo_1 hS
  (focus ((with_reducible refine i_RetZ (i_eIf (i_cAnd (i_cZ_ge (i_L1 ?_))))); (with_reducible refine i_br ?_ ?_ <;> intro hc); (focus ((with_reducible refine i_cI_lt (i_L1 (i_F (i_A0 ?_)))); (with_reducible refine i_fld (by assumption) ?_); (rw [hP]); (with_reducible refine i_br ?_ ?_ <;> intro hc); (focus ((with_reducible refine i_I ?_); (with_reducible refine i_z (Or.inr rfl) ?_))); rotate_left; (focus ((with_reducible refine i_I ?_); (with_reducible refine i_z (Or.inl rfl) ?_))); rotate_right)); rotate_left 2; (focus ((with_reducible refine i_I ?_); (with_reducible refine i_z (Or.inl rfl) ?_))); rotate_right 2))
  all_goals first | (rw [decide_eq_true (by omega)] at hk; exact hk) | (rw [decide_eq_false (by omega)] at hk; exact hk)
theorem c_isPair {O : zOm} (hO : zWld O) (hS : zS O = zmS zC0) {a b : Int} {P : Nat} {M : zMem} {K : Option zV → zMem → Prop} (hP : M ((1 : Nat) : Int) ((2 : Nat) : Int) = ((P : Nat) : Int)) (hk : K (some (0, zbI (decide ((0 ≤ a ∧ a < ((P : Nat) : Int)) ∧ (0 ≤ b ∧ b < ((P : Nat) : Int)) ∧ a ≠ b)))) M) : zR O F_Days_isPair [(2, ((1 : Nat) : Int)), (0, a), (0, b)] M K := by
  apply r_Days_isPair hO
  unfold B_Days_isPair
  have z1 := zo_1 hS
  (focus ((with_reducible refine i_RetZ (i_eIf (i_cAnd (i_cAnd (i_cZ_ne (i_Call (i_as1 (i_A0 (i_as1 (i_L1 (i_as0 ?_))))))))))); (with_reducible refine i_recv0 (by assumption) ?_); (refine c_isPost hO hS hP ⟨_, rfl, ?_⟩); (with_reducible refine i_dne ?_ ?_ <;> intro hc); (focus ((with_reducible refine i_cZ_ne (i_Call (i_as1 (i_A0 (i_as1 (i_L2 (i_as0 ?_))))))); (with_reducible refine i_recv0 (by assumption) ?_); (refine c_isPost hO hS hP ⟨_, rfl, ?_⟩); (with_reducible refine i_dne ?_ ?_ <;> intro hc); (focus ((with_reducible refine i_cI_ne (i_L1 (i_L2 ?_))); (with_reducible refine i_br ?_ ?_ <;> intro hc); (focus ((with_reducible refine i_I ?_); (with_reducible refine i_z (Or.inr rfl) ?_))); rotate_left; (focus ((with_reducible refine i_I ?_); (with_reducible refine i_z (Or.inl rfl) ?_))); rotate_right)); rotate_left 2; (focus ((with_reducible refine i_I ?_); (with_reducible refine i_z (Or.inl rfl) ?_))); rotate_right 2)); rotate_left 3; (focus ((with_reducible refine i_I ?_); (with_reducible refine i_z (Or.inl rfl) ?_))); rotate_right 3))
  all_goals first | (rw [decide_eq_true (by omega)] at hk; exact hk) | (rw [decide_eq_false (by omega)] at hk; exact hk)
theorem c_now {O : zOm} (hO : zWld O) (hS : zS O = zmS zC0) {d : Nat} {M : zMem} {K : Option zV → zMem → Prop} (hd : M ((1 : Nat) : Int) ((3 : Nat) : Int) = ((d : Nat) : Int)) (hd2 : d < 41) (hk : K (some (2, ((4 + 2 * d : Nat) : Int))) M) : zR O F_Days_now [(2, ((1 : Nat) : Int))] M K := by
  apply r_Days_now hO
  unfold B_Days_now
  have f1_1 := zf_1_1 hS; have f1_3 := zf_1_3 hS; have z1 := zo_1 hS
  ((with_reducible refine i_RetR (i_RA (i_FR (i_A0 ?_)))); (with_reducible refine i_fldR (by assumption) ?_); (with_reducible refine i_F (i_A0 ?_)); (with_reducible refine i_fld (by assumption) ?_); (rw [hd]); (refine i_ra (zPr_net hS hd2) ?_))
  exact hk
theorem c_on {O : zOm} (hO : zWld O) (hS : zS O = zmS zC0) {x : Int} {d : Nat} {M : zMem} {K : Option zV → zMem → Prop} (hd : M ((1 : Nat) : Int) ((3 : Nat) : Int) = ((d : Nat) : Int)) (hd2 : d < 41) (h0 : ¬ (0 ≤ x ∧ x ≤ ((d : Nat) : Int)) → K (some (2, -1)) M) (h1 : ∀ k : Nat, x = k → k ≤ d → K (some (2, ((4 + 2 * k : Nat) : Int))) M) : zR O F_Days_on [(2, ((1 : Nat) : Int)), (0, x)] M K := by
  apply r_Days_on hO
  unfold B_Days_on
  have f1_3 := zf_1_3 hS; have f1_1 := zf_1_1 hS; have z1 := zo_1 hS
  by_cases hx : 0 ≤ x ∧ x ≤ ((d : Nat) : Int)
  · obtain ⟨k, rfl⟩ : ∃ k : Nat, x = k := ⟨x.toNat, by omega⟩
    have h2 := h1 k rfl (by omega)
    ((with_reducible refine i_RetR (i_eIf (i_cOr (i_cZ_lt (i_L1 ?_))))); (with_reducible refine i_f (by omega) ?_); (with_reducible refine i_cI_gt (i_L1 (i_F (i_A0 ?_)))); (with_reducible refine i_fld (by assumption) ?_); (rw [hd]); (with_reducible refine i_f (by omega) ?_); (with_reducible refine i_RA (i_FR (i_A0 ?_))); (with_reducible refine i_fldR (by assumption) ?_); (with_reducible refine i_L1 ?_); (refine i_ra (zPr_net hS (by omega)) ?_))
    exact h2
  · have h2 := h0 hx
    (focus ((with_reducible refine i_RetR (i_eIf (i_cOr (i_cZ_lt (i_L1 ?_))))); (with_reducible refine i_br ?_ ?_ <;> intro hc); (focus ((with_reducible refine i_Null ?_))); rotate_left; (focus ((with_reducible refine i_cI_gt (i_L1 (i_F (i_A0 ?_)))); (with_reducible refine i_fld (by assumption) ?_); (rw [hd]); (with_reducible refine i_t (by omega) ?_); (with_reducible refine i_Null ?_))); rotate_right))
    all_goals first | exact h2 | (exfalso; omega)
/-- the days of the class -/
def cDy (M : zMem) (n td c : Nat) (N : Nat → Nat → Nat → Bool) : Prop := M ((1 : Nat) : Int) ((2 : Nat) : Int) = ((n : Nat) : Int) ∧ M ((1 : Nat) : Int) ((3 : Nat) : Int) = ((td : Nat) : Int) ∧ M ((1 : Nat) : Int) ((4 : Nat) : Int) = ((c : Nat) : Int) ∧ ∀ d : Nat, d ≤ td → zNR M (4 + 2 * d) n (N d)
theorem c_ties_bad {O : zOm} (hO : zWld O) (hS : zS O = zmS zC0) {a d : Int} {P td : Nat} {M : zMem} {K : Option zV → zMem → Prop} (hP : M ((1 : Nat) : Int) ((2 : Nat) : Int) = ((P : Nat) : Int)) (hT : M ((1 : Nat) : Int) ((3 : Nat) : Int) = ((td : Nat) : Int)) (ht : td < 41) (hb : ¬ ((0 ≤ a ∧ a < ((P : Nat) : Int)) ∧ 0 ≤ d ∧ d ≤ ((td : Nat) : Int))) (hk : K (some (0, -1)) M) : zR O F_ToldNet_ties [(2, ((0 : Nat) : Int)), (0, a), (0, d)] M K := by
  apply r_ToldNet_ties hO
  unfold B_ToldNet_ties
  have f0_0 := zf_0_0 hS; have z0 := zo_0 hS; have z1 := zo_1 hS
  ((with_reducible refine i_Seq (i_Set (i_Call (i_as1 (i_FR (i_A0 ?_)))))); (with_reducible refine i_fldR (by assumption) ?_); (with_reducible refine i_as1 (i_L2 (i_as0 ?_))); (with_reducible refine i_recv0 (by assumption) ?_); simp only [w_set0, w_set1, w_setn0, w_setn1])
  refine c_on hO hS hT ht (fun hx => ⟨_, rfl, ?_⟩) (fun k e hk1 => ⟨_, rfl, ?_⟩)
  · ((with_reducible refine i_Seq (i_If (i_cOr (i_cN (i_A3 ?_))))); simp only [w_set0, w_set1, w_setn0, w_setn1]; (with_reducible refine i_t trivial ?_); (with_reducible refine i_RetI (i_I ?_)))
    exact hk
  · subst e
    (focus ((with_reducible refine i_Seq (i_If (i_cOr (i_cN (i_A3 ?_))))); (with_reducible refine i_f (by omega) ?_); (with_reducible refine i_cNot (i_cZ_ne (i_Call (i_as1 (i_FR (i_A0 ?_)))))); (with_reducible refine i_fldR (by assumption) ?_); (with_reducible refine i_as1 (i_L1 (i_as0 ?_))); (with_reducible refine i_recv0 (by assumption) ?_); (refine c_isPost hO hS hP ⟨_, rfl, ?_⟩); (with_reducible refine i_dne ?_ ?_ <;> intro hc); (focus ((with_reducible refine i_RetI (i_Call (i_as1 (i_IA (i_FR (i_A3 ?_)))))))); rotate_left; (focus ((with_reducible refine i_RetI (i_I ?_)))); rotate_right))
    all_goals first | exact hk | (exfalso; omega)
theorem c_ties {O : zOm} (hO : zWld O) (hS : zS O = zmS zC0) {a d P td c : Nat} {N : Nat → Nat → Nat → Bool} {M : zMem} {K : Option zV → zMem → Prop} (hD : cDy M P td c N) (ht : td < 41) (hP : P ≤ 16) (ha : a < P) (hd : d ≤ td) (hk : K (some (0, ((zcnt (N d a) 16 : Nat) : Int))) M) : zR O F_ToldNet_ties [(2, ((0 : Nat) : Int)), (0, ((a : Nat) : Int)), (0, ((d : Nat) : Int))] M K := by
  obtain ⟨h1, h2, h3, h4⟩ := hD
  have hn := zNetD hS (d := d) (by omega)
  obtain ⟨n1, n2, n3, n4⟩ := hn
  apply r_ToldNet_ties hO
  unfold B_ToldNet_ties
  have f0_0 := zf_0_0 hS; have z0 := zo_0 hS; have z1 := zo_1 hS
  ((with_reducible refine i_Seq (i_Set (i_Call (i_as1 (i_FR (i_A0 ?_)))))); (with_reducible refine i_fldR (by assumption) ?_); (with_reducible refine i_as1 (i_L2 (i_as0 ?_))); (with_reducible refine i_recv0 (by assumption) ?_); simp only [w_set0, w_set1, w_setn0, w_setn1])
  refine c_on hO hS h2 ht (fun hx => absurd hx (by omega)) (fun k e hk1 => ⟨_, rfl, ?_⟩)
  obtain rfl : d = k := by omega
  ((with_reducible refine i_Seq (i_If (i_cOr (i_cN (i_A3 ?_))))); (with_reducible refine i_f (by omega) ?_); (with_reducible refine i_cNot (i_cZ_ne (i_Call (i_as1 (i_FR (i_A0 ?_)))))); (with_reducible refine i_fldR (by assumption) ?_); (with_reducible refine i_as1 (i_L1 (i_as0 ?_))); (with_reducible refine i_recv0 (by assumption) ?_); (refine c_isPost hO hS h1 ⟨_, rfl, ?_⟩); (rw [decide_eq_true (by omega), zbI_t]); (with_reducible refine i_t (by omega) ?_); (with_reducible refine i_RetI (i_Call (i_as1 (i_IA (i_FR (i_A3 ?_)))))); (with_reducible refine i_fldR (by assumption) ?_); (with_reducible refine i_L1 ?_); (with_reducible refine i_in (by assumption) (by omega) (by omega) ?_); (with_reducible refine i_as0 (i_recv1 ?_)); (rw [(h4 _ hd).2 _ (by omega)]); (refine s_bitCount hO ⟨_, rfl, ?_⟩))
  exact hk
theorem c_tied_bad {O : zOm} (hO : zWld O) (hS : zS O = zmS zC0) {a b d : Int} {P td : Nat} {M : zMem} {K : Option zV → zMem → Prop} (hP : M ((1 : Nat) : Int) ((2 : Nat) : Int) = ((P : Nat) : Int)) (hT : M ((1 : Nat) : Int) ((3 : Nat) : Int) = ((td : Nat) : Int)) (ht : td < 41) (hb : ¬ (((0 ≤ a ∧ a < ((P : Nat) : Int)) ∧ (0 ≤ b ∧ b < ((P : Nat) : Int)) ∧ a ≠ b) ∧ 0 ≤ d ∧ d ≤ ((td : Nat) : Int))) (hk : K (some (0, -1)) M) : zR O F_ToldNet_tied [(2, ((0 : Nat) : Int)), (0, a), (0, b), (0, d)] M K := by
  apply r_ToldNet_tied hO
  unfold B_ToldNet_tied
  have f0_0 := zf_0_0 hS; have z0 := zo_0 hS; have z1 := zo_1 hS
  ((with_reducible refine i_Seq (i_Set (i_Call (i_as1 (i_FR (i_A0 ?_)))))); (with_reducible refine i_fldR (by assumption) ?_); (with_reducible refine i_as1 (i_L3 (i_as0 ?_))); (with_reducible refine i_recv0 (by assumption) ?_); simp only [w_set0, w_set1, w_setn0, w_setn1])
  refine c_on hO hS hT ht (fun hx => ⟨_, rfl, ?_⟩) (fun k e hk1 => ⟨_, rfl, ?_⟩)
  · ((with_reducible refine i_Seq (i_If (i_cOr (i_cN (i_A4 ?_))))); simp only [w_set0, w_set1, w_setn0, w_setn1]; (with_reducible refine i_t trivial ?_); (with_reducible refine i_RetI (i_I ?_)))
    exact hk
  · subst e
    (focus ((with_reducible refine i_Seq (i_If (i_cOr (i_cN (i_A4 ?_))))); (with_reducible refine i_f (by omega) ?_); (with_reducible refine i_cNot (i_cZ_ne (i_Call (i_as1 (i_FR (i_A0 ?_)))))); (with_reducible refine i_fldR (by assumption) ?_); (with_reducible refine i_as1 (i_L1 (i_as1 (i_L2 (i_as0 ?_))))); (with_reducible refine i_recv0 (by assumption) ?_); (refine c_isPair hO hS hP ⟨_, rfl, ?_⟩); (with_reducible refine i_dne ?_ ?_ <;> intro hc); (focus ((with_reducible refine i_RetI (i_eIf (i_cZ_ne (i_Call (i_as1 (i_A4 (i_as1 (i_L1 (i_as1 (i_L2 (i_as0 ?_))))))))))))); rotate_left; (focus ((with_reducible refine i_RetI (i_I ?_)))); rotate_right))
    all_goals first | exact hk | (exfalso; omega)
theorem c_tied {O : zOm} (hO : zWld O) (hS : zS O = zmS zC0) {a b d P td c : Nat} {N : Nat → Nat → Nat → Bool} {M : zMem} {K : Option zV → zMem → Prop} (hD : cDy M P td c N) (ht : td < 41) (hP : P ≤ 16) (ha : a < P) (hb : b < P) (hab : a ≠ b) (hd : d ≤ td) (hk : K (some (0, zbI (N d a b))) M) : zR O F_ToldNet_tied [(2, ((0 : Nat) : Int)), (0, ((a : Nat) : Int)), (0, ((b : Nat) : Int)), (0, ((d : Nat) : Int))] M K := by
  obtain ⟨h1, h2, h3, h4⟩ := hD
  have hn := zNetD hS (d := d) (by omega)
  obtain ⟨n1, n2, n3, n4⟩ := id hn
  apply r_ToldNet_tied hO
  unfold B_ToldNet_tied
  have f0_0 := zf_0_0 hS; have z0 := zo_0 hS; have z1 := zo_1 hS
  ((with_reducible refine i_Seq (i_Set (i_Call (i_as1 (i_FR (i_A0 ?_)))))); (with_reducible refine i_fldR (by assumption) ?_); (with_reducible refine i_as1 (i_L3 (i_as0 ?_))); (with_reducible refine i_recv0 (by assumption) ?_); simp only [w_set0, w_set1, w_setn0, w_setn1])
  refine c_on hO hS h2 ht (fun hx => absurd hx (by omega)) (fun k e hk1 => ⟨_, rfl, ?_⟩)
  obtain rfl : d = k := by omega
  ((with_reducible refine i_Seq (i_If (i_cOr (i_cN (i_A4 ?_))))); (with_reducible refine i_f (by omega) ?_); (with_reducible refine i_cNot (i_cZ_ne (i_Call (i_as1 (i_FR (i_A0 ?_)))))); (with_reducible refine i_fldR (by assumption) ?_); (with_reducible refine i_as1 (i_L1 (i_as1 (i_L2 (i_as0 ?_))))); (with_reducible refine i_recv0 (by assumption) ?_); (refine c_isPair hO hS h1 ⟨_, rfl, ?_⟩); (rw [decide_eq_true (by omega), zbI_t]); (with_reducible refine i_t (by omega) ?_); (with_reducible refine i_RetI (i_eIf (i_cZ_ne (i_Call (i_as1 (i_A4 (i_as1 (i_L1 (i_as1 (i_L2 (i_as0 ?_))))))))))); (with_reducible refine i_recv0 (by assumption) ?_); (refine s_joins hO hn (h4 _ hd) (by omega) (by omega) ⟨_, rfl, ?_⟩))
  cases hc : N d a b
  · rw [hc] at hk
    (rw [zbI_f]; (with_reducible refine i_f (by omega) ?_); (with_reducible refine i_I ?_))
    exact hk
  · rw [hc] at hk
    (rw [zbI_t]; (with_reducible refine i_t (by omega) ?_); (with_reducible refine i_I ?_))
    exact hk
