/-! ===== the class: back, place, mark, net, tie, tomorrow, compare ===== -/
theorem c_place {O : zOm} (hO : zWld O) (hS : zS O = zmS zC0) {M : zMem} {K : Option zV → zMem → Prop} (hk : K (some (0, M ((0 : Nat) : Int) ((5 : Nat) : Int))) M) : zR O F_ToldNet_place [(2, ((0 : Nat) : Int))] M K := by
  apply r_ToldNet_place hO
  unfold B_ToldNet_place
  have f0_5 := zf_0_5 hS; have z0 := zo_0 hS
  ((with_reducible refine i_RetI (i_F (i_A0 ?_))); (with_reducible refine i_fld (by assumption) ?_))
  exact hk
theorem c_back_bad {O : zOm} (hO : zWld O) (hS : zS O = zmS zC0) {x : Int} {t : Nat} {M : zMem} {K : Option zV → zMem → Prop} (hn : M ((86 : Nat) : Int) ((5 : Nat) : Int) = ((t : Nat) : Int)) (hb : ¬ (0 ≤ x ∧ x ≤ ((t : Nat) : Int))) (hk : K (some (0, -1)) M) : zR O F_ToldNet_back [(2, ((0 : Nat) : Int)), (0, x)] M K := by
  apply r_ToldNet_back hO
  unfold B_ToldNet_back
  have f0_1 := zf_0_1 hS; have f86_5 := zf_86_5 hS; have z0 := zo_0 hS; have z86 := zo_86 hS
  (focus ((with_reducible refine i_Seq (i_If (i_cOr (i_cZ_lt (i_L1 ?_))))); (with_reducible refine i_br ?_ ?_ <;> intro hc); (focus ((with_reducible refine i_RetI (i_I ?_)))); rotate_left; (focus ((with_reducible refine i_cI_gt (i_L1 (i_F (i_FR (i_A0 ?_))))); (with_reducible refine i_fldR (by assumption) ?_); (with_reducible refine i_fld (by assumption) ?_); (rw [hn]); (with_reducible refine i_t (by omega) ?_); (with_reducible refine i_RetI (i_I ?_)))); rotate_right))
  all_goals first | exact hk | (exfalso; omega)
theorem c_back {O : zOm} (hO : zWld O) (hS : zS O = zmS zC0) {x t : Nat} {M : zMem} {K : Option zV → zMem → Prop} (hn : M ((86 : Nat) : Int) ((5 : Nat) : Int) = ((t : Nat) : Int)) (ht : t ≤ 2000) (hx : x ≤ t) (hk : ∀ M', (∀ b j, ¬ (b = ((86 : Nat) : Int) ∧ j = 5) → M' b j = M b j) → M' ((86 : Nat) : Int) ((5 : Nat) : Int) = ((t - x : Nat) : Int) → K (some (0, ((t - x : Nat) : Int))) M') : zR O F_ToldNet_back [(2, ((0 : Nat) : Int)), (0, ((x : Nat) : Int))] M K := by
  apply r_ToldNet_back hO
  unfold B_ToldNet_back
  have f0_1 := zf_0_1 hS; have f86_5 := zf_86_5 hS; have z0 := zo_0 hS; have z86 := zo_86 hS
  ((with_reducible refine i_Seq (i_If (i_cOr (i_cZ_lt (i_L1 ?_))))); (with_reducible refine i_f (by omega) ?_); (with_reducible refine i_cI_gt (i_L1 (i_F (i_FR (i_A0 ?_))))); (with_reducible refine i_fldR (by assumption) ?_); (with_reducible refine i_fld (by assumption) ?_); (rw [hn]); (with_reducible refine i_f (by omega) ?_); (with_reducible refine i_Seq (i_FO (i_FR (i_A0 ?_)))); (with_reducible refine i_fldR (by assumption) ?_); (with_reducible refine i_fld (by assumption) ?_); (with_reducible refine i_L1 ?_); (with_reducible refine i_fld (by assumption) ?_); (with_reducible refine i_RetI (i_F (i_FR (i_A0 ?_)))); (with_reducible refine i_fldR (by assumption) ?_); (with_reducible refine i_fld (by assumption) ?_); rw [zg_s]; (rw [hn]); rw [zx_sub (by omega) (by omega)])
  exact hk _ (fun b j q => by rw [zg_o _ _ (by omega)]) (zg_s _ _ _ _ _)
theorem c_mark_bad {O : zOm} (hO : zWld O) (hS : zS O = zmS zC0) {a v : Int} {n : Nat} {M : zMem} {K : Option zV → zMem → Prop} (hP : M ((1 : Nat) : Int) ((2 : Nat) : Int) = ((n : Nat) : Int)) (hb : ¬ ((0 ≤ a ∧ a < ((n : Nat) : Int)) ∧ 0 ≤ v ∧ v ≤ 3)) (hk : K (some (0, 0)) M) : zR O F_ToldNet_mark [(2, ((0 : Nat) : Int)), (0, a), (0, v)] M K := by
  have o1 := zo_1 hS
  apply r_ToldNet_mark hO
  unfold B_ToldNet_mark
  have f0_0 := zf_0_0 hS; have f1_0 := zf_1_0 hS; have a2 := zCA (a := 2) (ty := .int) (n := 16) hS rfl; have z0 := zo_0 hS; have z1 := zo_1 hS
  (focus ((with_reducible refine i_Seq (i_If (i_cOr (i_cOr (i_cNot (i_cZ_ne (i_Call (i_as1 (i_FR (i_A0 ?_)))))))))); (with_reducible refine i_fldR (by assumption) ?_); (with_reducible refine i_as1 (i_L1 (i_as0 ?_))); (with_reducible refine i_recv0 (by assumption) ?_); (refine c_isPost hO hS hP ⟨_, rfl, ?_⟩); (with_reducible refine i_dne ?_ ?_ <;> intro hc); (focus ((with_reducible refine i_cZ_lt (i_L2 ?_)); (with_reducible refine i_br ?_ ?_ <;> intro hc); (focus ((with_reducible refine i_RetZ (i_I ?_)); (with_reducible refine i_z (Or.inl rfl) ?_))); rotate_left; (focus ((with_reducible refine i_cI_gt (i_L2 (i_I ?_))); (with_reducible refine i_t (by omega) ?_); (with_reducible refine i_RetZ (i_I ?_)); (with_reducible refine i_z (Or.inl rfl) ?_))); rotate_right)); rotate_left 2; (focus ((with_reducible refine i_RetZ (i_I ?_)); (with_reducible refine i_z (Or.inl rfl) ?_))); rotate_right 2))
  all_goals first | exact hk | (exfalso; omega)
theorem c_mark {O : zOm} (hO : zWld O) (hS : zS O = zmS zC0) {a v n : Nat} {M : zMem} {K : Option zV → zMem → Prop} (hP : M ((1 : Nat) : Int) ((2 : Nat) : Int) = ((n : Nat) : Int)) (hn2 : n ≤ 16) (ha : a < n) (hv : v ≤ 3) (hk : ∀ M', (∀ b j, ¬ (b = ((2 : Nat) : Int) ∧ j = ((a : Nat) : Int)) → M' b j = M b j) → M' ((2 : Nat) : Int) ((a : Nat) : Int) = ((v : Nat) : Int) → K (some (0, 1)) M') : zR O F_ToldNet_mark [(2, ((0 : Nat) : Int)), (0, ((a : Nat) : Int)), (0, ((v : Nat) : Int))] M K := by
  have o1 := zo_1 hS
  apply r_ToldNet_mark hO
  unfold B_ToldNet_mark
  have f0_0 := zf_0_0 hS; have f1_0 := zf_1_0 hS; have a2 := zCA (a := 2) (ty := .int) (n := 16) hS rfl; have z0 := zo_0 hS; have z1 := zo_1 hS
  ((with_reducible refine i_Seq (i_If (i_cOr (i_cOr (i_cNot (i_cZ_ne (i_Call (i_as1 (i_FR (i_A0 ?_)))))))))); (with_reducible refine i_fldR (by assumption) ?_); (with_reducible refine i_as1 (i_L1 (i_as0 ?_))); (with_reducible refine i_recv0 (by assumption) ?_); (refine c_isPost hO hS hP ⟨_, rfl, ?_⟩); (rw [decide_eq_true (show 0 ≤ ((a : Nat) : Int) ∧ ((a : Nat) : Int) < ((n : Nat) : Int) by omega)]); rw [zbI_t]; (with_reducible refine i_t (by omega) ?_); (with_reducible refine i_cZ_lt (i_L2 ?_)); (with_reducible refine i_f (by omega) ?_); (with_reducible refine i_cI_gt (i_L2 (i_I ?_))); (with_reducible refine i_f (by omega) ?_); (with_reducible refine i_Seq (i_sIA (i_FR (i_FR (i_A0 ?_))))); (with_reducible refine i_fldR (by assumption) ?_); (with_reducible refine i_fldR (by assumption) ?_); (with_reducible refine i_L1 (i_L2 ?_)); (with_reducible refine i_in (by assumption) (by omega) (by omega) ?_); (with_reducible refine i_RetZ (i_I ?_)); (with_reducible refine i_z (Or.inr rfl) ?_))
  exact hk _ (fun b j q => by rw [zg_o _ _ (by omega)]) (zg_s _ _ _ _ _)
theorem c_dbegin {O : zOm} (hO : zWld O) (hS : zS O = zmS zC0) {n : Nat} {M : zMem} {K : Option zV → zMem → Prop} (hk : ∀ M', (∀ b j, ¬ (b = ((1 : Nat) : Int) ∧ (j = 2 ∨ j = 3 ∨ j = 4) ∨ b = ((2 : Nat) : Int) ∨ b = ((4 : Nat) : Int) ∨ b = ((5 : Nat) : Int)) → M' b j = M b j) → M' ((1 : Nat) : Int) ((2 : Nat) : Int) = ((n : Nat) : Int) → M' ((1 : Nat) : Int) ((3 : Nat) : Int) = 0 → M' ((1 : Nat) : Int) ((4 : Nat) : Int) = 0 → zNR M' 4 n (fun _ _ => false) → (∀ p : Nat, p < 16 → M' ((2 : Nat) : Int) ((p : Nat) : Int) = 0) → K none M') : zR O F_Days_begin [(2, ((1 : Nat) : Int)), (0, ((n : Nat) : Int))] M K := by
  have hy := zNetD hS (d := 0) (by omega)
  have hy4 := hy.2.2.2
  apply r_Days_begin hO
  unfold B_Days_begin
  have f1_2 := zf_1_2 hS; have f1_3 := zf_1_3 hS; have f1_4 := zf_1_4 hS; have f1_1 := zf_1_1 hS; have f1_0 := zf_1_0 hS; have a2 := zCA (a := 2) (ty := .int) (n := 16) hS rfl; have z1 := zo_1 hS
  ((with_reducible refine i_Seq (i_Seq (i_sF (i_A0 (i_L1 ?_))))); (with_reducible refine i_fld (by assumption) ?_); (with_reducible refine i_Seq (i_sF (i_A0 (i_I ?_)))); (with_reducible refine i_fld (by assumption) ?_); (with_reducible refine i_Seq (i_sF (i_A0 (i_I ?_)))); (with_reducible refine i_fld (by assumption) ?_); (with_reducible refine i_Seq (i_sCall (i_as1 (i_RA (i_FR (i_A0 ?_)))))); (with_reducible refine i_fldR (by assumption) ?_); (with_reducible refine i_I ?_); (refine i_ra (zPr_net hS (d := 0) (by omega)) ?_); (with_reducible refine i_as1 (i_L1 (i_as0 ?_))); (with_reducible refine i_recv0 (by assumption) ?_))
  refine s_Net_clear hO (n := 4) hy (fun M1 f1 h1 => ⟨rfl, ?_⟩)
  ((with_reducible refine i_sCall (i_as1 (i_FR (i_A0 ?_)))); (with_reducible refine i_fldR (by assumption) ?_); (with_reducible refine i_as1 (i_I (i_as0 (i_recv1 ?_)))))
  refine s_fill hO a2 (by decide) (fun M2 f2 h2 _ => ⟨rfl, ?_⟩)
  refine hk M2 (fun b j q => ?_) ?_ ?_ ?_ (h1.fr f2 (by simp) (by simp)) (fun p hp => h2 p hp)
  · rw [f2 b (by simp <;> omega), f1 b (by simp <;> omega)]
    rw [zg_o _ _ (by omega), zg_o _ _ (by omega), zg_o _ _ (by omega)]
  · rw [f2 _ (by simp), f1 _ (by simp)]
    rw [zg_o _ _ (by omega), zg_o _ _ (by omega), zg_s]
  · rw [f2 _ (by simp), f1 _ (by simp)]
    rw [zg_o _ _ (by omega), zg_s]
  · rw [f2 _ (by simp), f1 _ (by simp)]
    rw [zg_s]
theorem c_net_bad {O : zOm} (hO : zWld O) (hS : zS O = zmS zC0) {x : Int} {M : zMem} {K : Option zV → zMem → Prop} (hb : ¬ (2 ≤ x ∧ x ≤ 16)) (hk : K (some (0, 0)) M) : zR O F_ToldNet_net [(2, ((0 : Nat) : Int)), (0, x)] M K := by
  apply r_ToldNet_net hO
  unfold B_ToldNet_net
  have f0_0 := zf_0_0 hS; have f0_4 := zf_0_4 hS; have f0_9 := zf_0_9 hS; have f148_7 := zf_148_7 hS; have z0 := zo_0 hS; have z1 := zo_1 hS; have z148 := zo_148 hS
  (focus ((with_reducible refine i_Seq (i_If (i_cOr (i_cI_lt (i_L1 (i_I ?_)))))); (with_reducible refine i_br ?_ ?_ <;> intro hc); (focus ((with_reducible refine i_RetZ (i_I ?_)); (with_reducible refine i_z (Or.inl rfl) ?_))); rotate_left; (focus ((with_reducible refine i_cI_gt (i_L1 (i_I ?_))); (with_reducible refine i_t (by omega) ?_); (with_reducible refine i_RetZ (i_I ?_)); (with_reducible refine i_z (Or.inl rfl) ?_))); rotate_right))
  all_goals first | exact hk | (exfalso; omega)
theorem c_net {O : zOm} (hO : zWld O) (hS : zS O = zmS zC0) {n : Nat} {M : zMem} {K : Option zV → zMem → Prop} (h2 : 2 ≤ n) (h16 : n ≤ 16)
    (hk : ∀ M', (∀ b j, ¬ (b = ((0 : Nat) : Int) ∧ j = 4 ∨ b = ((148 : Nat) : Int) ∧ j = 7 ∨ b = ((1 : Nat) : Int) ∧ (j = 2 ∨ j = 3 ∨ j = 4) ∨ b = ((2 : Nat) : Int) ∨ b = ((4 : Nat) : Int) ∨ b = ((5 : Nat) : Int)) → M' b j = M b j) → cDy M' n 0 0 (fun _ _ _ => false) → M' ((0 : Nat) : Int) ((4 : Nat) : Int) = 0 → M' ((148 : Nat) : Int) ((7 : Nat) : Int) = 0 → (∀ p : Nat, p < 16 → M' ((2 : Nat) : Int) ((p : Nat) : Int) = 0) → K (some (0, 1)) M') : zR O F_ToldNet_net [(2, ((0 : Nat) : Int)), (0, ((n : Nat) : Int))] M K := by
  have o1 := zo_1 hS
  apply r_ToldNet_net hO
  unfold B_ToldNet_net
  have f0_0 := zf_0_0 hS; have f0_4 := zf_0_4 hS; have f0_9 := zf_0_9 hS; have f148_7 := zf_148_7 hS; have z0 := zo_0 hS; have z1 := zo_1 hS; have z148 := zo_148 hS
  ((with_reducible refine i_Seq (i_If (i_cOr (i_cI_lt (i_L1 (i_I ?_)))))); (with_reducible refine i_f (by omega) ?_); (with_reducible refine i_cI_gt (i_L1 (i_I ?_))); (with_reducible refine i_f (by omega) ?_); (with_reducible refine i_Seq (i_sCall (i_as1 (i_FR (i_A0 ?_))))); (with_reducible refine i_fldR (by assumption) ?_); (with_reducible refine i_as1 (i_L1 (i_as0 ?_))); (with_reducible refine i_recv0 (by assumption) ?_))
  refine c_dbegin hO hS (fun M1 f1 g1 g2 g3 g4 g5 => ⟨rfl, ?_⟩)
  ((with_reducible refine i_Seq (i_sF (i_A0 (i_I ?_)))); (with_reducible refine i_fld (by assumption) ?_); (with_reducible refine i_Seq (i_sF (i_FR (i_A0 ?_)))); (with_reducible refine i_fldR (by assumption) ?_); (with_reducible refine i_I ?_); (with_reducible refine i_fld (by assumption) ?_); (with_reducible refine i_RetZ (i_I ?_)); (with_reducible refine i_z (Or.inr rfl) ?_))
  refine hk _ (fun b j q => by rw [zg_o _ _ (by omega), zg_o _ _ (by omega), f1 b j (by omega)]) ⟨?_, ?_, ?_, fun d hd => ?_⟩ ?_ (zg_s _ _ _ _ _) (fun p hp => ?_)
  · rw [zg_o _ _ (by omega), zg_o _ _ (by omega)]; exact g1
  · rw [zg_o _ _ (by omega), zg_o _ _ (by omega)]; exact g2
  · rw [zg_o _ _ (by omega), zg_o _ _ (by omega)]; exact g3
  · obtain rfl : d = 0 := by omega
    exact zNR.to (y := 4) g4 (fun b j a1 a2 => by rw [zg_o _ _ (by omega), zg_o _ _ (by omega)])
  · rw [zg_o _ _ (by omega), zg_s]
  · rw [zg_o _ _ (by omega), zg_o _ _ (by omega)]; exact g5 p hp
theorem c_tie_bad {O : zOm} (hO : zWld O) (hS : zS O = zmS zC0) {a b v : Int} {n td c : Nat} {N : Nat → Nat → Nat → Bool} {M : zMem} {K : Option zV → zMem → Prop} (hD : cDy M n td c N) (htd : td < 41) (hn2 : n ≤ 16) (hb : ((c : Nat) : Int) = 300 ∨ ¬ ((0 ≤ a ∧ a < ((n : Nat) : Int)) ∧ (0 ≤ b ∧ b < ((n : Nat) : Int)) ∧ a ≠ b) ∨ ∀ a' b' : Nat, a = a' → b = b' → zbI (N td a' b') = v) (hc : c ≤ 300) (hk : K (some (0, -1)) M) : zR O F_ToldNet_tie [(2, ((0 : Nat) : Int)), (0, a), (0, b), (0, v)] M K := by
  obtain ⟨h1, h2, h3, h4⟩ := hD
  have o1 := zo_1 hS
  have hy := zNetD hS (d := td) htd
  have hy4 := hy.2.2.2
  apply r_ToldNet_tie hO
  unfold B_ToldNet_tie
  have f0_0 := zf_0_0 hS; have f1_4 := zf_1_4 hS; have z0 := zo_0 hS; have z1 := zo_1 hS
  by_cases e1 : (0 ≤ a ∧ a < ((n : Nat) : Int)) ∧ (0 ≤ b ∧ b < ((n : Nat) : Int)) ∧ a ≠ b
  · obtain ⟨a, rfl⟩ : ∃ a' : Nat, a = ((a' : Nat) : Int) := ⟨a.toNat, by omega⟩
    obtain ⟨b, rfl⟩ : ∃ b' : Nat, b = ((b' : Nat) : Int) := ⟨b.toNat, by omega⟩
    by_cases e2 : c = 300
    · ((with_reducible refine i_Seq (i_If (i_cOr (i_cOr (i_cNot (i_cZ_ne (i_Call (i_as1 (i_FR (i_A0 ?_)))))))))); (with_reducible refine i_fldR (by assumption) ?_); (with_reducible refine i_as1 (i_L1 (i_as1 (i_L2 (i_as0 ?_))))); (with_reducible refine i_recv0 (by assumption) ?_); (refine c_isPair hO hS h1 ⟨_, rfl, ?_⟩); (rw [decide_eq_true e1]); rw [zbI_t]; (with_reducible refine i_t (by omega) ?_); (with_reducible refine i_cI_ge (i_F (i_FR (i_A0 ?_)))); (with_reducible refine i_fldR (by assumption) ?_); (with_reducible refine i_fld (by assumption) ?_); (with_reducible refine i_I ?_); (rw [h3]); (with_reducible refine i_t (by omega) ?_); (with_reducible refine i_RetI (i_I ?_)))
      exact hk
    · have e3 : zbI (N td a b) = v := by
        rcases hb with hb | hb | hb
        · omega
        · exact absurd e1 hb
        · exact hb a b rfl rfl
      ((with_reducible refine i_Seq (i_If (i_cOr (i_cOr (i_cNot (i_cZ_ne (i_Call (i_as1 (i_FR (i_A0 ?_)))))))))); (with_reducible refine i_fldR (by assumption) ?_); (with_reducible refine i_as1 (i_L1 (i_as1 (i_L2 (i_as0 ?_))))); (with_reducible refine i_recv0 (by assumption) ?_); (refine c_isPair hO hS h1 ⟨_, rfl, ?_⟩); (rw [decide_eq_true e1]); rw [zbI_t]; (with_reducible refine i_t (by omega) ?_); (with_reducible refine i_cI_ge (i_F (i_FR (i_A0 ?_)))); (with_reducible refine i_fldR (by assumption) ?_); (with_reducible refine i_fld (by assumption) ?_); (with_reducible refine i_I ?_); (rw [h3]); (with_reducible refine i_f (by omega) ?_); (with_reducible refine i_cI_eq (i_Call (i_as1 (i_Call (i_as1 (i_FR (i_A0 ?_))))))); (with_reducible refine i_fldR (by assumption) ?_); (with_reducible refine i_as0 ?_); (with_reducible refine i_recv0 (by assumption) ?_); (refine c_now hO hS h2 htd ⟨_, rfl, ?_⟩); (with_reducible refine i_as1 (i_L1 (i_as1 (i_L2 (i_as0 ?_))))); (with_reducible refine i_recv0 (by assumption) ?_); (refine s_joins hO hy (h4 td (Nat.le_refl _)) (by omega) (by omega) ⟨_, rfl, ?_⟩); (with_reducible refine i_L3 ?_); (refine i_t e3 ?_); (with_reducible refine i_RetI (i_I ?_)))
      exact hk
  · ((with_reducible refine i_Seq (i_If (i_cOr (i_cOr (i_cNot (i_cZ_ne (i_Call (i_as1 (i_FR (i_A0 ?_)))))))))); (with_reducible refine i_fldR (by assumption) ?_); (with_reducible refine i_as1 (i_L1 (i_as1 (i_L2 (i_as0 ?_))))); (with_reducible refine i_recv0 (by assumption) ?_); (refine c_isPair hO hS h1 ⟨_, rfl, ?_⟩); (rw [decide_eq_false e1]); rw [zbI_f]; (with_reducible refine i_f (by omega) ?_); (with_reducible refine i_RetI (i_I ?_)))
    exact hk
theorem c_tie {O : zOm} (hO : zWld O) (hS : zS O = zmS zC0) {a b n td c : Nat} {v : Bool} {N : Nat → Nat → Nat → Bool} {M : zMem} {K : Option zV → zMem → Prop} (hD : cDy M n td c N) (htd : td < 41) (hn2 : n ≤ 16) (hc : c < 300) (ha : a < n) (hb : b < n) (hab : a ≠ b) (hv : N td a b ≠ v)
    (hk : ∀ M', (∀ b j, ¬ (b = ((1 : Nat) : Int) ∧ j = 4 ∨ b = ((5 + 2 * td : Nat) : Int)) → M' b j = M b j) → cDy M' n td (c + 1) (fun d => if d = td then zflip (N td) a b else N d) → K (some (0, ((c : Nat) : Int))) M') : zR O F_ToldNet_tie [(2, ((0 : Nat) : Int)), (0, ((a : Nat) : Int)), (0, ((b : Nat) : Int)), (0, zbI v)] M K := by
  obtain ⟨h1, h2, h3, h4⟩ := hD
  have o1 := zo_1 hS
  have hy := zNetD hS (d := td) htd
  have hy4 := hy.2.2.2
  have hne : ¬ zbI (N td a b) = zbI v := fun z => hv (zbI_in.mp z)
  apply r_ToldNet_tie hO
  unfold B_ToldNet_tie
  have f0_0 := zf_0_0 hS; have f1_4 := zf_1_4 hS; have z0 := zo_0 hS; have z1 := zo_1 hS
  ((with_reducible refine i_Seq (i_If (i_cOr (i_cOr (i_cNot (i_cZ_ne (i_Call (i_as1 (i_FR (i_A0 ?_)))))))))); (with_reducible refine i_fldR (by assumption) ?_); (with_reducible refine i_as1 (i_L1 (i_as1 (i_L2 (i_as0 ?_))))); (with_reducible refine i_recv0 (by assumption) ?_); (refine c_isPair hO hS h1 ⟨_, rfl, ?_⟩); (rw [decide_eq_true (show (0 ≤ ((a : Nat) : Int) ∧ ((a : Nat) : Int) < ((n : Nat) : Int)) ∧ (0 ≤ ((b : Nat) : Int) ∧ ((b : Nat) : Int) < ((n : Nat) : Int)) ∧ ((a : Nat) : Int) ≠ ((b : Nat) : Int) by omega)]); rw [zbI_t]; (with_reducible refine i_t (by omega) ?_); (with_reducible refine i_cI_ge (i_F (i_FR (i_A0 ?_)))); (with_reducible refine i_fldR (by assumption) ?_); (with_reducible refine i_fld (by assumption) ?_); (with_reducible refine i_I ?_); (rw [h3]); (with_reducible refine i_f (by omega) ?_); (with_reducible refine i_cI_eq (i_Call (i_as1 (i_Call (i_as1 (i_FR (i_A0 ?_))))))); (with_reducible refine i_fldR (by assumption) ?_); (with_reducible refine i_as0 ?_); (with_reducible refine i_recv0 (by assumption) ?_); (refine c_now hO hS h2 htd ⟨_, rfl, ?_⟩); (with_reducible refine i_as1 (i_L1 (i_as1 (i_L2 (i_as0 ?_))))); (with_reducible refine i_recv0 (by assumption) ?_); (refine s_joins hO hy (h4 td (Nat.le_refl _)) (by omega) (by omega) ⟨_, rfl, ?_⟩); (with_reducible refine i_L3 ?_); (refine i_f hne ?_); (with_reducible refine i_Seq (i_sCall (i_as1 (i_Call (i_as1 (i_FR (i_A0 ?_))))))); (with_reducible refine i_fldR (by assumption) ?_); (with_reducible refine i_as0 ?_); (with_reducible refine i_recv0 (by assumption) ?_); (refine c_now hO hS h2 htd ⟨_, rfl, ?_⟩); (with_reducible refine i_as1 (i_L1 (i_as1 (i_L2 (i_as0 ?_))))); (with_reducible refine i_recv0 (by assumption) ?_))
  refine s_Net_flip hO hy (h4 td (Nat.le_refl _)) (show a < 16 by omega) (show b < 16 by omega) hab (fun M1 f1 g1 => ⟨rfl, ?_⟩)
  have g3 : M1 ((1 : Nat) : Int) ((4 : Nat) : Int) = ((c : Nat) : Int) := by rw [f1 _ (by simp <;> omega)]; exact h3
  ((with_reducible refine i_Seq (i_FO (i_FR (i_A0 ?_)))); (with_reducible refine i_fldR (by assumption) ?_); (with_reducible refine i_fld (by assumption) ?_); (with_reducible refine i_I ?_); (with_reducible refine i_fld (by assumption) ?_); (with_reducible refine i_RetI (i_Sub (i_F (i_FR (i_A0 ?_))))); (with_reducible refine i_fldR (by assumption) ?_); (with_reducible refine i_fld (by assumption) ?_); (with_reducible refine i_I ?_); rw [zg_s]; (rw [g3]); rw [zx_inc (by omega)]; rw [zx_subc (by omega) (by omega)])
  refine hk _ (fun b j q => by rw [zg_o _ _ (by omega), f1 b (by simp <;> omega)]) ⟨?_, ?_, zg_s _ _ _ _ _, fun d hd => ?_⟩
  · rw [zg_o _ _ (by omega), f1 _ (by simp <;> omega)]; exact h1
  · rw [zg_o _ _ (by omega), f1 _ (by simp <;> omega)]; exact h2
  · by_cases e : d = td
    · subst e
      dsimp only
      rw [if_pos rfl]
      exact g1.to (fun b j a1 a2 => by rw [zg_o _ _ (by omega)])
    · dsimp only
      rw [if_neg e]
      exact (h4 d hd).to (fun b j a1 a2 => by rw [zg_o _ _ (by omega), f1 b (by simp <;> omega)])
theorem c_dgoOn {O : zOm} (hO : zWld O) (hS : zS O = zmS zC0) {n td c : Nat} {N : Nat → Nat → Nat → Bool} {M : zMem} {K : Option zV → zMem → Prop} (hD : cDy M n td c N) (htd : td < 40)
    (hk : ∀ M', (∀ b j, ¬ (b = ((1 : Nat) : Int) ∧ j = 3 ∨ b = ((6 + 2 * td : Nat) : Int) ∨ b = ((7 + 2 * td : Nat) : Int)) → M' b j = M b j) → cDy M' n (td + 1) c (fun d => if d = td + 1 then N td else N d) → K none M') : zR O F_Days_goOn [(2, ((1 : Nat) : Int))] M K := by
  obtain ⟨h1, h2, h3, h4⟩ := hD
  have hy := zNetD hS (d := td) (by omega)
  have hy1 := zNetD hS (d := td + 1) (by omega)
  have hy4 := hy1.2.2.2
  apply r_Days_goOn hO
  unfold B_Days_goOn
  have f1_1 := zf_1_1 hS; have f1_3 := zf_1_3 hS; have z1 := zo_1 hS
  ((with_reducible refine i_Seq (i_Seq (i_sCall (i_as1 (i_RA (i_FR (i_A0 ?_))))))); (with_reducible refine i_fldR (by assumption) ?_); (with_reducible refine i_Add (i_F (i_A0 ?_))); (with_reducible refine i_fld (by assumption) ?_); (with_reducible refine i_I ?_); (rw [h2]); (rw [zx_inc (a := td) (by omega)]); ((with_reducible refine i_ra (zPr_net hS (d := td + 1) (by omega)) ?_)); (with_reducible refine i_as1 (i_RA (i_FR (i_A0 ?_)))); (with_reducible refine i_fldR (by assumption) ?_); (with_reducible refine i_F (i_A0 ?_)); (with_reducible refine i_fld (by assumption) ?_); (rw [h2]); ((with_reducible refine i_ra (zPr_net hS (d := td) (by omega)) ?_)); (with_reducible refine i_as0 ?_); (with_reducible refine i_recv0 (by assumption) ?_))
  refine s_Net_become hO hy1 hy (h4 td (Nat.le_refl _)) (fun M1 f1 g1 => ⟨rfl, ?_⟩)
  have g2 : M1 ((1 : Nat) : Int) ((3 : Nat) : Int) = ((td : Nat) : Int) := by rw [f1 _ (by simp <;> omega)]; exact h2
  ((with_reducible refine i_FO (i_A0 ?_)); (with_reducible refine i_fld (by assumption) ?_); (with_reducible refine i_I ?_); (with_reducible refine i_fld (by assumption) ?_); (with_reducible refine i_RetV ?_); (rw [g2]); rw [zx_inc (by omega)])
  refine hk _ (fun b j q => by rw [zg_o _ _ (by omega), f1 b (by simp <;> omega)]) ⟨?_, zg_s _ _ _ _ _, ?_, fun d hd => ?_⟩
  · rw [zg_o _ _ (by omega), f1 _ (by simp <;> omega)]; exact h1
  · rw [zg_o _ _ (by omega), f1 _ (by simp <;> omega)]; exact h3
  · by_cases e : d = td + 1
    · subst e
      dsimp only
      rw [if_pos rfl]
      exact g1.to (fun b j a1 a2 => by rw [zg_o _ _ (by omega)])
    · dsimp only
      rw [if_neg e]
      exact (h4 d (by omega)).to (fun b j a1 a2 => by rw [zg_o _ _ (by omega), f1 b (by simp <;> omega)])
theorem c_tomorrow_bad {O : zOm} (hO : zWld O) (hS : zS O = zmS zC0) {M : zMem} {K : Option zV → zMem → Prop} (hd : M ((1 : Nat) : Int) ((3 : Nat) : Int) = ((40 : Nat) : Int)) (hk : K (some (0, -1)) M) : zR O F_ToldNet_tomorrow [(2, ((0 : Nat) : Int))] M K := by
  have hd2 : M ((1 : Nat) : Int) ((3 : Nat) : Int) = 40 := hd
  have o1 := zo_1 hS
  apply r_ToldNet_tomorrow hO
  unfold B_ToldNet_tomorrow
  have f0_0 := zf_0_0 hS; have f1_3 := zf_1_3 hS; have z0 := zo_0 hS; have z1 := zo_1 hS
  ((with_reducible refine i_Seq (i_If (i_cI_ge (i_F (i_FR (i_A0 ?_)))))); (with_reducible refine i_fldR (by assumption) ?_); (with_reducible refine i_fld (by assumption) ?_); (with_reducible refine i_I ?_); (rw [hd2]); (with_reducible refine i_t (by omega) ?_); (with_reducible refine i_RetI (i_I ?_)))
  exact hk
theorem c_tomorrow {O : zOm} (hO : zWld O) (hS : zS O = zmS zC0) {n td c : Nat} {N : Nat → Nat → Nat → Bool} {M : zMem} {K : Option zV → zMem → Prop} (hD : cDy M n td c N) (htd : td < 40)
    (hk : ∀ M', (∀ b j, ¬ (b = ((1 : Nat) : Int) ∧ j = 3 ∨ b = ((6 + 2 * td : Nat) : Int) ∨ b = ((7 + 2 * td : Nat) : Int)) → M' b j = M b j) → cDy M' n (td + 1) c (fun d => if d = td + 1 then N td else N d) → K (some (0, ((td + 1 : Nat) : Int))) M') : zR O F_ToldNet_tomorrow [(2, ((0 : Nat) : Int))] M K := by
  have h2 := hD.2.1
  have o1 := zo_1 hS
  apply r_ToldNet_tomorrow hO
  unfold B_ToldNet_tomorrow
  have f0_0 := zf_0_0 hS; have f1_3 := zf_1_3 hS; have z0 := zo_0 hS; have z1 := zo_1 hS
  ((with_reducible refine i_Seq (i_If (i_cI_ge (i_F (i_FR (i_A0 ?_)))))); (with_reducible refine i_fldR (by assumption) ?_); (with_reducible refine i_fld (by assumption) ?_); (with_reducible refine i_I ?_); (rw [h2]); (with_reducible refine i_f (by omega) ?_); (with_reducible refine i_Seq (i_sCall (i_as1 (i_FR (i_A0 ?_))))); (with_reducible refine i_fldR (by assumption) ?_); (with_reducible refine i_as0 ?_); (with_reducible refine i_recv0 (by assumption) ?_))
  refine c_dgoOn hO hS hD htd (fun M1 f1 g1 => ⟨rfl, ?_⟩)
  have g2 := g1.2.1
  ((with_reducible refine i_RetI (i_F (i_FR (i_A0 ?_)))); (with_reducible refine i_fldR (by assumption) ?_); (with_reducible refine i_fld (by assumption) ?_); (rw [g2]))
  exact hk M1 f1 g1
theorem c_compare_bad {O : zOm} (hO : zWld O) (hS : zS O = zmS zC0) {a b w : Int} {td : Nat} {M : zMem} {K : Option zV → zMem → Prop} (hd : M ((1 : Nat) : Int) ((3 : Nat) : Int) = ((td : Nat) : Int)) (htd : td < 41) (hb : ¬ ((0 ≤ a ∧ a ≤ ((td : Nat) : Int)) ∧ (0 ≤ b ∧ b ≤ ((td : Nat) : Int)) ∧ 0 ≤ w ∧ w ≤ 2)) (hk : K (some (0, -1)) M) : zR O F_ToldNet_compare [(2, ((0 : Nat) : Int)), (0, a), (0, b), (0, w)] M K := by
  have o1 := zo_1 hS
  apply r_ToldNet_compare hO
  unfold B_ToldNet_compare
  have f0_0 := zf_0_0 hS; have z0 := zo_0 hS; have z1 := zo_1 hS
  ((with_reducible refine i_Seq (i_Set (i_Call (i_as1 (i_FR (i_A0 ?_)))))); (with_reducible refine i_fldR (by assumption) ?_); (with_reducible refine i_as1 (i_L1 (i_as0 ?_))); (with_reducible refine i_recv0 (by assumption) ?_); simp only [w_set0, w_set1, w_setn0, w_setn1])
  refine c_on hO hS hd htd (fun hx => ⟨_, rfl, ?_⟩) (fun k e hk1 => ⟨_, rfl, ?_⟩)
  · ((with_reducible refine i_Seq (i_Set (i_Call (i_as1 (i_FR (i_A0 ?_)))))); (with_reducible refine i_fldR (by assumption) ?_); (with_reducible refine i_as1 (i_L2 (i_as0 ?_))); (with_reducible refine i_recv0 (by assumption) ?_); simp only [w_set0, w_set1, w_setn0, w_setn1])
    refine c_on hO hS hd htd (fun hx2 => ⟨_, rfl, ?_⟩) (fun k2 e2 hk2 => ⟨_, rfl, ?_⟩)
    · ((with_reducible refine i_Seq (i_If (i_cOr (i_cOr (i_cOr (i_cN (i_A4 ?_))))))); simp only [w_set0, w_set1, w_setn0, w_setn1]; (with_reducible refine i_t trivial ?_); (with_reducible refine i_RetI (i_I ?_)))
      exact hk
    · ((with_reducible refine i_Seq (i_If (i_cOr (i_cOr (i_cOr (i_cN (i_A4 ?_))))))); simp only [w_set0, w_set1, w_setn0, w_setn1]; (with_reducible refine i_t trivial ?_); (with_reducible refine i_RetI (i_I ?_)))
      exact hk
  · ((with_reducible refine i_Seq (i_Set (i_Call (i_as1 (i_FR (i_A0 ?_)))))); (with_reducible refine i_fldR (by assumption) ?_); (with_reducible refine i_as1 (i_L2 (i_as0 ?_))); (with_reducible refine i_recv0 (by assumption) ?_); simp only [w_set0, w_set1, w_setn0, w_setn1])
    refine c_on hO hS hd htd (fun hx2 => ⟨_, rfl, ?_⟩) (fun k2 e2 hk2 => ⟨_, rfl, ?_⟩)
    · ((with_reducible refine i_Seq (i_If (i_cOr (i_cOr (i_cOr (i_cN (i_A4 ?_))))))); (with_reducible refine i_f (by omega) ?_); (with_reducible refine i_cN (i_A5 ?_)); simp only [w_set0, w_set1, w_setn0, w_setn1]; (with_reducible refine i_t trivial ?_); (with_reducible refine i_RetI (i_I ?_)))
      exact hk
    · (focus ((with_reducible refine i_Seq (i_If (i_cOr (i_cOr (i_cOr (i_cN (i_A4 ?_))))))); (with_reducible refine i_f (by omega) ?_); (with_reducible refine i_cN (i_A5 ?_)); (with_reducible refine i_f (by omega) ?_); (with_reducible refine i_cZ_lt (i_L3 ?_)); (with_reducible refine i_br ?_ ?_ <;> intro hc); (focus ((with_reducible refine i_RetI (i_I ?_)))); rotate_left; (focus ((with_reducible refine i_cI_gt (i_L3 (i_I ?_))); (with_reducible refine i_t (by omega) ?_); (with_reducible refine i_RetI (i_I ?_)))); rotate_right))
      all_goals first | exact hk | (exfalso; omega)
theorem zcmp_sum {n w : Nat} {T U : Nat → Nat → Bool} (hT : zReg n T) (hU : zReg n U) (hn : n ≤ 16) (hw : w ≤ 2) : zP2 (fun p q => zbI (zcmpW w (T p q) (U p q))) n = if w = 0 then ((zboth n T U : Nat) : Int) else (if w = 1 then ((zpairs n T : Nat) : Int) else ((zpairs n U : Nat) : Int)) - ((zboth n T U : Nat) : Int) := by
  have hB : zReg n (fun p q => T p q && U p q) := ⟨fun a b => by show (T a b && U a b) = (T b a && U b a); rw [hT.1 a b, hU.1 a b], fun a => by show (T a a && U a a) = false; rw [hT.2.1]; rfl, fun a b h => hT.2.2 a b (by simp only [Bool.and_eq_true] at h; exact h.1)⟩
  have eB : zboth n T U = zp2 (fun p q => T p q && U p q) n := zpairs_p2 hB hn
  rw [zP2_zp2, zpairs_p2 hT hn, zpairs_p2 hU hn, eB]
  have e1 : zp2 T n = zp2 (fun p q => T p q && !U p q) n + zp2 (fun p q => T p q && U p q) n := zp2_add fun p q _ _ => by cases T p q <;> cases U p q <;> rfl
  have e2 : zp2 U n = zp2 (fun p q => !T p q && U p q) n + zp2 (fun p q => T p q && U p q) n := zp2_add fun p q _ _ => by cases T p q <;> cases U p q <;> rfl
  unfold zcmpW
  rcases (show w = 0 ∨ w = 1 ∨ w = 2 by omega) with rfl | rfl | rfl
  · rw [if_pos rfl]; rfl
  · rw [if_neg (by decide), if_pos rfl, e1]
    show ((zp2 (fun p q => T p q && !U p q) n : Nat) : Int) = _
    omega
  · rw [if_neg (by decide), if_neg (by decide), e2]
    show ((zp2 (fun p q => !T p q && U p q) n : Nat) : Int) = _
    omega
theorem zboth_le {n : Nat} {T U : Nat → Nat → Bool} (hT : zReg n T) (hU : zReg n U) (hn : n ≤ 16) : zboth n T U ≤ zpairs n T ∧ zboth n T U ≤ zpairs n U ∧ zpairs n T ≤ 120 ∧ zpairs n U ≤ 120 := by
  have hB : zReg n (fun p q => T p q && U p q) := ⟨fun a b => by show (T a b && U a b) = (T b a && U b a); rw [hT.1 a b, hU.1 a b], fun a => by show (T a a && U a a) = false; rw [hT.2.1]; rfl, fun a b h => hT.2.2 a b (by simp only [Bool.and_eq_true] at h; exact h.1)⟩
  have eB : zboth n T U = zp2 (fun p q => T p q && U p q) n := zpairs_p2 hB hn
  rw [eB, zpairs_p2 hT hn, zpairs_p2 hU hn]
  refine ⟨zp2_sub fun p q _ _ h => ?_, zp2_sub fun p q _ _ h => ?_, zp2_le _ hn, zp2_le _ hn⟩
  · simp only [Bool.and_eq_true] at h; exact h.1
  · simp only [Bool.and_eq_true] at h; exact h.2
theorem c_compare {O : zOm} (hO : zWld O) (hS : zS O = zmS zC0) {a b n td c w : Nat} {N : Nat → Nat → Nat → Bool} {M : zMem} {K : Option zV → zMem → Prop} (hD : cDy M n td c N) (htd : td < 41) (hn2 : n ≤ 16) (hR : ∀ d, d ≤ td → zReg n (N d)) (ha : a ≤ td) (hb : b ≤ td) (hw : w ≤ 2)
    (hk : K (some (0, zP2 (fun p q => zbI (zcmpW w (N a p q) (N b p q))) n)) M) : zR O F_ToldNet_compare [(2, ((0 : Nat) : Int)), (0, ((a : Nat) : Int)), (0, ((b : Nat) : Int)), (0, ((w : Nat) : Int))] M K := by
  obtain ⟨h1, h2, h3, h4⟩ := hD
  have o1 := zo_1 hS
  have ya := zNetD hS (d := a) (by omega)
  have yb := zNetD hS (d := b) (by omega)
  have ya4 := ya.2.2.2
  have yb4 := yb.2.2.2
  obtain ⟨l1, l2, l3, l4⟩ := zboth_le (hR a ha) (hR b hb) hn2
  rw [zcmp_sum (hR a ha) (hR b hb) hn2 hw] at hk
  apply r_ToldNet_compare hO
  unfold B_ToldNet_compare
  have f0_0 := zf_0_0 hS; have z0 := zo_0 hS; have z1 := zo_1 hS
  ((with_reducible refine i_Seq (i_Set (i_Call (i_as1 (i_FR (i_A0 ?_)))))); (with_reducible refine i_fldR (by assumption) ?_); (with_reducible refine i_as1 (i_L1 (i_as0 ?_))); (with_reducible refine i_recv0 (by assumption) ?_); simp only [w_set0, w_set1, w_setn0, w_setn1])
  refine c_on hO hS h2 htd (fun hx => absurd hx (by omega)) (fun k e hk1 => ⟨_, rfl, ?_⟩)
  obtain rfl : a = k := by omega
  ((with_reducible refine i_Seq (i_Set (i_Call (i_as1 (i_FR (i_A0 ?_)))))); (with_reducible refine i_fldR (by assumption) ?_); (with_reducible refine i_as1 (i_L2 (i_as0 ?_))); (with_reducible refine i_recv0 (by assumption) ?_); simp only [w_set0, w_set1, w_setn0, w_setn1])
  refine c_on hO hS h2 htd (fun hx => absurd hx (by omega)) (fun k2 e2 hk2 => ⟨_, rfl, ?_⟩)
  obtain rfl : b = k2 := by omega
  ((with_reducible refine i_Seq (i_If (i_cOr (i_cOr (i_cOr (i_cN (i_A4 ?_))))))); (with_reducible refine i_f (by omega) ?_); (with_reducible refine i_cN (i_A5 ?_)); (with_reducible refine i_f (by omega) ?_); (with_reducible refine i_cZ_lt (i_L3 ?_)); (with_reducible refine i_f (by omega) ?_); (with_reducible refine i_cI_gt (i_L3 (i_I ?_))); (with_reducible refine i_f (by omega) ?_); (with_reducible refine i_Seq (i_Set (i_Call (i_as1 (i_A4 (i_as1 (i_A5 (i_as0 ?_)))))))); (with_reducible refine i_recv0 (by assumption) ?_); simp only [w_set0, w_set1, w_setn0, w_setn1])
  refine s_Net_pairsIn hO ya (h4 a ha) yb (h4 b hb) hn2 ⟨_, rfl, ?_⟩
  rcases (show w = 0 ∨ w = 1 ∨ w = 2 by omega) with rfl | rfl | rfl
  · rw [if_pos rfl] at hk
    ((with_reducible refine i_Seq (i_If (i_cZ_eq (i_L3 ?_)))); (with_reducible refine i_t (by omega) ?_); (with_reducible refine i_RetI (i_L6 ?_)))
    exact hk
  · rw [if_neg (by decide), if_pos rfl] at hk
    ((with_reducible refine i_Seq (i_If (i_cZ_eq (i_L3 ?_)))); (with_reducible refine i_f (by omega) ?_); (with_reducible refine i_RetI (i_Sub (i_eIf (i_cI_eq (i_L3 (i_I ?_)))))); (with_reducible refine i_t (by omega) ?_); (with_reducible refine i_Call (i_as1 (i_A4 (i_as0 ?_)))); (with_reducible refine i_recv0 (by assumption) ?_); (refine s_Net_pairs hO ya (h4 a ha) hn2 ⟨_, rfl, ?_⟩); (with_reducible refine i_L6 ?_); rw [zx_sub (by omega) (by omega)])
    rw [show ((zpairs n (N a) : Nat) : Int) - ((zboth n (N a) (N b) : Nat) : Int) = ((zpairs n (N a) - zboth n (N a) (N b) : Nat) : Int) by omega] at hk
    exact hk
  · rw [if_neg (by decide), if_neg (by decide)] at hk
    ((with_reducible refine i_Seq (i_If (i_cZ_eq (i_L3 ?_)))); (with_reducible refine i_f (by omega) ?_); (with_reducible refine i_RetI (i_Sub (i_eIf (i_cI_eq (i_L3 (i_I ?_)))))); (with_reducible refine i_f (by omega) ?_); (with_reducible refine i_Call (i_as1 (i_A5 (i_as0 ?_)))); (with_reducible refine i_recv0 (by assumption) ?_); (refine s_Net_pairs hO yb (h4 b hb) hn2 ⟨_, rfl, ?_⟩); (with_reducible refine i_L6 ?_); rw [zx_sub (by omega) (by omega)])
    rw [show ((zpairs n (N b) : Nat) : Int) - ((zboth n (N a) (N b) : Nat) : Int) = ((zpairs n (N b) - zboth n (N a) (N b) : Nat) : Int) by omega] at hk
    exact hk
