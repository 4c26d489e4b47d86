/-! ===== the reader's questions added: both sides ===== -/
def zQad (Q : zQl) (kd a : Nat) (b : Int) (b' w : Nat) : zQl := (Q.1 + 1, fun i => if i = Q.1 then (kd, a, b, b', w) else Q.2 i)
theorem zQad_s {n kd a b' w : Nat} {b : Int} {Q : zQl} (hQ : zQs n Q) (h : Q.1 < 10) (hk : zQok n kd a b b') (hw : w ≤ 9) : zQs n (zQad Q kd a b b' w) := by
  refine ⟨h, fun i hi => ?_⟩
  unfold qk qa qb qc qw zQad
  dsimp only
  by_cases z : i = Q.1
  · rw [if_pos z]; exact ⟨hk, hw⟩
  · rw [if_neg z]
    have : i < Q.1 + 1 := hi
    exact hQ.2 i (by omega)
theorem m_reader_bad {O : zOm} (hO : zWld O) (hS : zS O = zmS zC0) {n : Nat} {kd a b w : Int} {Q : zQl} {M : zMem} {K : Option zV → zMem → Prop} (hn : M 250 ((1 : Nat) : Int) = ((n : Nat) : Int)) (hn2 : n ≤ 16) (hq : rQs M Q) (hQ : zQs n Q) (hb : ¬ (Q.1 < 10 ∧ zIsQ n kd a b = true ∧ 1 ≤ w ∧ w ≤ 9)) (hk : K (some (0, -1)) M) : zR O F_Model_reader [(2, 250), (0, kd), (0, a), (0, b), (0, w)] M K := by
  have hq10 := hQ.1
  have hq1 := hq.1
  apply r_Model_reader hO
  unfold B_Model_reader
  have f28 := zMF (k := 28) hS rfl; have f29 := zMF (k := 29) hS rfl; have a274 := zMA (a := 274) (ty := .int) (n := 10) hS rfl; have f30 := zMF (k := 30) hS rfl; have a275 := zMA (a := 275) (ty := .int) (n := 10) hS rfl; have f31 := zMF (k := 31) hS rfl; have a276 := zMA (a := 276) (ty := .int) (n := 10) hS rfl; have f32 := zMF (k := 32) hS rfl; have a277 := zMA (a := 277) (ty := .int) (n := 10) hS rfl; have zo := zMO hS
  cases e : zIsQ n kd a b
  · (focus ((with_reducible refine i_Seq (i_If (i_cOr (i_cOr (i_cOr (i_cI_eq (i_F (i_A0 ?_)))))))); (with_reducible refine i_fld (by assumption) ?_); (with_reducible refine i_I ?_); (rw [hq1]); (with_reducible refine i_br ?_ ?_ <;> intro hc); (focus ((with_reducible refine i_RetI (i_I ?_)))); rotate_left; (focus ((with_reducible refine i_cNot (i_cZ_ne (i_Call (i_as1 (i_A0 (i_as1 (i_L1 (i_as1 (i_L2 (i_as1 (i_L3 (i_as0 ?_)))))))))))); (with_reducible refine i_recv0 (by assumption) ?_); (refine m_isQuestion hO hS hn hn2 ⟨_, rfl, ?_⟩); (rw [e]); rw [zbI_f]; (with_reducible refine i_f (by omega) ?_); (with_reducible refine i_RetI (i_I ?_)))); rotate_right))
    all_goals first | exact hk | (exfalso; omega)
  · have hb2 : ¬ (Q.1 < 10 ∧ 1 ≤ w ∧ w ≤ 9) := fun z => hb ⟨z.1, e, z.2⟩
    clear hb
    (focus ((with_reducible refine i_Seq (i_If (i_cOr (i_cOr (i_cOr (i_cI_eq (i_F (i_A0 ?_)))))))); (with_reducible refine i_fld (by assumption) ?_); (with_reducible refine i_I ?_); (rw [hq1]); (with_reducible refine i_br ?_ ?_ <;> intro hc); (focus ((with_reducible refine i_RetI (i_I ?_)))); rotate_left; (focus ((with_reducible refine i_cNot (i_cZ_ne (i_Call (i_as1 (i_A0 (i_as1 (i_L1 (i_as1 (i_L2 (i_as1 (i_L3 (i_as0 ?_)))))))))))); (with_reducible refine i_recv0 (by assumption) ?_); (refine m_isQuestion hO hS hn hn2 ⟨_, rfl, ?_⟩); (rw [e]); rw [zbI_t]; (with_reducible refine i_t (by omega) ?_); (with_reducible refine i_cI_lt (i_L4 (i_I ?_))); (with_reducible refine i_br ?_ ?_ <;> intro hc); (focus ((with_reducible refine i_RetI (i_I ?_)))); rotate_left; (focus ((with_reducible refine i_cI_gt (i_L4 (i_I ?_))); (with_reducible refine i_t (by omega) ?_); (with_reducible refine i_RetI (i_I ?_)))); rotate_right)); rotate_right))
    all_goals first | exact hk | (exfalso; omega)
theorem m_reader {O : zOm} (hO : zWld O) (hS : zS O = zmS zC0) {n kd a b' w : Nat} {b : Int} {Q : zQl} {M : zMem} {K : Option zV → zMem → Prop} (hn : M 250 ((1 : Nat) : Int) = ((n : Nat) : Int)) (hn2 : n ≤ 16) (hq : rQs M Q) (hQ : zQs n Q) (h10 : Q.1 < 10) (hQk : zQok n kd a b b') (hw1 : 1 ≤ w) (hw9 : w ≤ 9)
    (hk : ∀ M', (∀ b j, ¬ (b = 250 ∧ j = 28 ∨ ((274 : Nat) : Int) ≤ b ∧ b ≤ ((277 : Nat) : Int)) → M' b j = M b j) → rQs M' (zQad Q kd a b b' w) → K (some (0, ((Q.1 : Nat) : Int))) M') : zR O F_Model_reader [(2, 250), (0, ((kd : Nat) : Int)), (0, ((a : Nat) : Int)), (0, b), (0, ((w : Nat) : Int))] M K := by
  have hqt := zQok_is hQk
  have hq1 := hq.1
  obtain ⟨-, hq2⟩ := hq
  apply r_Model_reader hO
  unfold B_Model_reader
  have f28 := zMF (k := 28) hS rfl; have f29 := zMF (k := 29) hS rfl; have a274 := zMA (a := 274) (ty := .int) (n := 10) hS rfl; have f30 := zMF (k := 30) hS rfl; have a275 := zMA (a := 275) (ty := .int) (n := 10) hS rfl; have f31 := zMF (k := 31) hS rfl; have a276 := zMA (a := 276) (ty := .int) (n := 10) hS rfl; have f32 := zMF (k := 32) hS rfl; have a277 := zMA (a := 277) (ty := .int) (n := 10) hS rfl; have zo := zMO hS
  ((with_reducible refine i_Seq (i_If (i_cOr (i_cOr (i_cOr (i_cI_eq (i_F (i_A0 ?_)))))))); (with_reducible refine i_fld (by assumption) ?_); (with_reducible refine i_I ?_); (rw [hq1]); (with_reducible refine i_f (by omega) ?_); (with_reducible refine i_cNot (i_cZ_ne (i_Call (i_as1 (i_A0 (i_as1 (i_L1 (i_as1 (i_L2 (i_as1 (i_L3 (i_as0 ?_)))))))))))); (with_reducible refine i_recv0 (by assumption) ?_); (refine m_isQuestion hO hS hn hn2 ⟨_, rfl, ?_⟩); (rw [hqt]); rw [zbI_t]; (with_reducible refine i_t (by omega) ?_); (with_reducible refine i_cI_lt (i_L4 (i_I ?_))); (with_reducible refine i_f (by omega) ?_); (with_reducible refine i_cI_gt (i_L4 (i_I ?_))); (with_reducible refine i_f (by omega) ?_); (with_reducible refine i_Seq (i_sIA (i_FR (i_A0 ?_)))); (with_reducible refine i_fldR (by assumption) ?_); (with_reducible refine i_F (i_A0 ?_)); (with_reducible refine i_fld (by assumption) ?_); (with_reducible refine i_L1 ?_); (with_reducible refine i_in (by assumption) (by omega) (by omega) ?_); (with_reducible refine i_Seq (i_sIA (i_FR (i_A0 ?_)))); (with_reducible refine i_fldR (by assumption) ?_); (with_reducible refine i_F (i_A0 ?_)); (with_reducible refine i_fld (by assumption) ?_); (with_reducible refine i_L2 ?_); rw [zg_n _ _ _ (by omega)]; (with_reducible refine i_in (by assumption) (by omega) (by omega) ?_); (with_reducible refine i_Seq (i_sIA (i_FR (i_A0 ?_)))); (with_reducible refine i_fldR (by assumption) ?_); (with_reducible refine i_F (i_A0 ?_)); (with_reducible refine i_fld (by assumption) ?_); (with_reducible refine i_L3 ?_); rw [zg_n _ _ _ (by omega)]; rw [zg_n _ _ _ (by omega)]; (with_reducible refine i_in (by assumption) (by omega) (by omega) ?_); (with_reducible refine i_Seq (i_sIA (i_FR (i_A0 ?_)))); (with_reducible refine i_fldR (by assumption) ?_); (with_reducible refine i_F (i_A0 ?_)); (with_reducible refine i_fld (by assumption) ?_); (with_reducible refine i_L4 ?_); rw [zg_n _ _ _ (by omega)]; rw [zg_n _ _ _ (by omega)]; rw [zg_n _ _ _ (by omega)]; (with_reducible refine i_in (by assumption) (by omega) (by omega) ?_); (with_reducible refine i_Seq (i_FO (i_A0 ?_))); (with_reducible refine i_fld (by assumption) ?_); (with_reducible refine i_I ?_); (with_reducible refine i_fld (by assumption) ?_); (with_reducible refine i_RetI (i_Sub (i_F (i_A0 ?_)))); (with_reducible refine i_fld (by assumption) ?_); (with_reducible refine i_I ?_); rw [zg_s]; rw [zg_n _ _ _ (by omega)]; rw [zg_n _ _ _ (by omega)]; rw [zg_n _ _ _ (by omega)]; rw [zg_n _ _ _ (by omega)]; (rw [hq1]); rw [zx_inc (by omega)]; rw [zx_subc (by omega) (by omega)])
  refine hk _ (fun b j q => ?_) ⟨?_, fun i hi => ?_⟩
  · (rw [zg_o _ _ (by omega)]; rw [zg_n _ _ _ (by omega)]; rw [zg_n _ _ _ (by omega)]; rw [zg_n _ _ _ (by omega)]; rw [zg_n _ _ _ (by omega)])
  · (rw [zg_s])
    try rfl
  · unfold qk qa qb qw zQad
    by_cases z : i = Q.1
    · subst z
      dsimp only
      rw [if_pos rfl]
      refine ⟨?_, ?_, ?_, ?_⟩
      all_goals ((first | ((rw [zg_n _ _ _ (by omega)]; rw [zg_n _ _ _ (by omega)]; rw [zg_n _ _ _ (by omega)]; rw [zg_n _ _ _ (by omega)]; rw [zg_s])) | ((rw [zg_n _ _ _ (by omega)]; rw [zg_n _ _ _ (by omega)]; rw [zg_n _ _ _ (by omega)]; rw [zg_s])) | ((rw [zg_n _ _ _ (by omega)]; rw [zg_n _ _ _ (by omega)]; rw [zg_s])) | ((rw [zg_n _ _ _ (by omega)]; rw [zg_s]))))
    · have hi2 : i < Q.1 := by
        have : i < Q.1 + 1 := hi
        omega
      obtain ⟨g1, g2, g3, g4⟩ := hq2 i hi2
      dsimp only
      rw [if_neg z]
      refine ⟨?_, ?_, ?_, ?_⟩
      all_goals ((first | ((rw [zg_n _ _ _ (by omega)]; rw [zg_n _ _ _ (by omega)]; rw [zg_n _ _ _ (by omega)]; rw [zg_n _ _ _ (by omega)]; rw [zg_m _ _ _ _ _ (by omega)])) | ((rw [zg_n _ _ _ (by omega)]; rw [zg_n _ _ _ (by omega)]; rw [zg_n _ _ _ (by omega)]; rw [zg_m _ _ _ _ _ (by omega)]; rw [zg_n _ _ _ (by omega)])) | ((rw [zg_n _ _ _ (by omega)]; rw [zg_n _ _ _ (by omega)]; rw [zg_m _ _ _ _ _ (by omega)]; rw [zg_n _ _ _ (by omega)]; rw [zg_n _ _ _ (by omega)])) | ((rw [zg_n _ _ _ (by omega)]; rw [zg_m _ _ _ _ _ (by omega)]; rw [zg_n _ _ _ (by omega)]; rw [zg_n _ _ _ (by omega)]; rw [zg_n _ _ _ (by omega)]))))
      · exact g1
      · exact g2
      · exact g3
      · exact g4
theorem c_reader_bad {O : zOm} (hO : zWld O) (hS : zS O = zmS zC0) {n : Nat} {kd a b w : Int} {Q : zQl} {M : zMem} {K : Option zV → zMem → Prop} (hP : M ((1 : Nat) : Int) ((2 : Nat) : Int) = ((n : Nat) : Int)) (hn2 : n ≤ 16) (hq : cQs M Q) (hQ : zQs n Q) (hb : ¬ (Q.1 < 10 ∧ zIsQ n kd a b = true ∧ 1 ≤ w ∧ w ≤ 9)) (hk : K (some (0, -1)) M) : zR O F_ToldNet_reader [(2, ((0 : Nat) : Int)), (0, kd), (0, a), (0, b), (0, w)] M K := by
  obtain ⟨⟨s0, s1, s2, s3, s4, s5, s6, s7, s8⟩, ⟨t1, t2, t3, t4, t5⟩⟩ := zO148_ok hS
  have o1 := zo_1 hS
  have hq10 := hQ.1
  have hq1 := hq.1
  apply r_ToldNet_reader hO
  unfold B_ToldNet_reader
  have f0_0 := zf_0_0 hS; have f0_9 := zf_0_9 hS; have z0 := zo_0 hS; have z1 := zo_1 hS; have z148 := zo_148 hS
  cases e : zIsQ n kd a b
  · (focus ((with_reducible refine i_Seq (i_If (i_cOr (i_cOr (i_cNot (i_cZ_ne (i_Call (i_as1 (i_FR (i_A0 ?_)))))))))); (with_reducible refine i_fldR (by assumption) ?_); (with_reducible refine i_as1 (i_L1 (i_as1 (i_L2 (i_as1 (i_L3 (i_as0 ?_))))))); (with_reducible refine i_recv0 (by assumption) ?_); (refine c_isQuestion hO hS hP hn2 ⟨_, rfl, ?_⟩); (rw [e]); rw [zbI_f]; (with_reducible refine i_f (by omega) ?_); (with_reducible refine i_RetI (i_I ?_))))
    all_goals first | exact hk | (exfalso; omega)
  · have hb2 : ¬ (Q.1 < 10 ∧ 1 ≤ w ∧ w ≤ 9) := fun z => hb ⟨z.1, e, z.2⟩
    clear hb
    by_cases hw : 1 ≤ w ∧ w ≤ 9
    · ((with_reducible refine i_Seq (i_If (i_cOr (i_cOr (i_cNot (i_cZ_ne (i_Call (i_as1 (i_FR (i_A0 ?_)))))))))); (with_reducible refine i_fldR (by assumption) ?_); (with_reducible refine i_as1 (i_L1 (i_as1 (i_L2 (i_as1 (i_L3 (i_as0 ?_))))))); (with_reducible refine i_recv0 (by assumption) ?_); (refine c_isQuestion hO hS hP hn2 ⟨_, rfl, ?_⟩); (rw [e]); rw [zbI_t]; (with_reducible refine i_t (by omega) ?_); (with_reducible refine i_cI_lt (i_L4 (i_I ?_))); (with_reducible refine i_f (by omega) ?_); (with_reducible refine i_cI_gt (i_L4 (i_I ?_))); (with_reducible refine i_f (by omega) ?_); (with_reducible refine i_RetI (i_Call (i_as1 (i_FR (i_A0 ?_))))); (with_reducible refine i_fldR (by assumption) ?_); (with_reducible refine i_as1 (i_L1 (i_as1 (i_L2 (i_as1 (i_L3 (i_as1 (i_L4 (i_as0 ?_))))))))); (with_reducible refine i_recv0 (by assumption) ?_))
      apply r_Reader_add hO
      unfold B_Reader_add
      ((with_reducible refine i_Seq (i_If (i_cI_ge (i_F (i_A0 ?_))))); (with_reducible refine i_fld (by assumption) ?_); (with_reducible refine i_I ?_); (rw [hq1]); (with_reducible refine i_t (by omega) ?_); (with_reducible refine i_RetI (i_I ?_)))
      exact ⟨_, rfl, hk⟩
    · (focus ((with_reducible refine i_Seq (i_If (i_cOr (i_cOr (i_cNot (i_cZ_ne (i_Call (i_as1 (i_FR (i_A0 ?_)))))))))); (with_reducible refine i_fldR (by assumption) ?_); (with_reducible refine i_as1 (i_L1 (i_as1 (i_L2 (i_as1 (i_L3 (i_as0 ?_))))))); (with_reducible refine i_recv0 (by assumption) ?_); (refine c_isQuestion hO hS hP hn2 ⟨_, rfl, ?_⟩); (rw [e]); rw [zbI_t]; (with_reducible refine i_t (by omega) ?_); (with_reducible refine i_cI_lt (i_L4 (i_I ?_))); (with_reducible refine i_br ?_ ?_ <;> intro hc); (focus ((with_reducible refine i_RetI (i_I ?_)))); rotate_left; (focus ((with_reducible refine i_cI_gt (i_L4 (i_I ?_))); (with_reducible refine i_t (by omega) ?_); (with_reducible refine i_RetI (i_I ?_)))); rotate_right))
      all_goals first | exact hk | (exfalso; omega)
theorem c_reader {O : zOm} (hO : zWld O) (hS : zS O = zmS zC0) {n kd a b' w : Nat} {b : Int} {Q : zQl} {M : zMem} {K : Option zV → zMem → Prop} (hP : M ((1 : Nat) : Int) ((2 : Nat) : Int) = ((n : Nat) : Int)) (hn2 : n ≤ 16) (hq : cQs M Q) (hQ : zQs n Q) (h10 : Q.1 < 10) (hQk : zQok n kd a b b') (hw1 : 1 ≤ w) (hw9 : w ≤ 9)
    (hk : ∀ M', (∀ b j, ¬ (b = ((148 : Nat) : Int) ∧ j = 7 ∨ ((149 : Nat) : Int) ≤ b ∧ b ≤ ((152 : Nat) : Int)) → M' b j = M b j) → cQs M' (zQad Q kd a b b' w) → K (some (0, ((Q.1 : Nat) : Int))) M') : zR O F_ToldNet_reader [(2, ((0 : Nat) : Int)), (0, ((kd : Nat) : Int)), (0, ((a : Nat) : Int)), (0, b), (0, ((w : Nat) : Int))] M K := by
  obtain ⟨⟨s0, s1, s2, s3, s4, s5, s6, s7, s8⟩, ⟨t1, t2, t3, t4, t5⟩⟩ := zO148_ok hS
  have o1 := zo_1 hS
  have hqt := zQok_is hQk
  have hq1 := hq.1
  obtain ⟨-, hq2⟩ := hq
  apply r_ToldNet_reader hO
  unfold B_ToldNet_reader
  have f0_0 := zf_0_0 hS; have f0_9 := zf_0_9 hS; have z0 := zo_0 hS; have z1 := zo_1 hS; have z148 := zo_148 hS
  ((with_reducible refine i_Seq (i_If (i_cOr (i_cOr (i_cNot (i_cZ_ne (i_Call (i_as1 (i_FR (i_A0 ?_)))))))))); (with_reducible refine i_fldR (by assumption) ?_); (with_reducible refine i_as1 (i_L1 (i_as1 (i_L2 (i_as1 (i_L3 (i_as0 ?_))))))); (with_reducible refine i_recv0 (by assumption) ?_); (refine c_isQuestion hO hS hP hn2 ⟨_, rfl, ?_⟩); (rw [hqt]); rw [zbI_t]; (with_reducible refine i_t (by omega) ?_); (with_reducible refine i_cI_lt (i_L4 (i_I ?_))); (with_reducible refine i_f (by omega) ?_); (with_reducible refine i_cI_gt (i_L4 (i_I ?_))); (with_reducible refine i_f (by omega) ?_); (with_reducible refine i_RetI (i_Call (i_as1 (i_FR (i_A0 ?_))))); (with_reducible refine i_fldR (by assumption) ?_); (with_reducible refine i_as1 (i_L1 (i_as1 (i_L2 (i_as1 (i_L3 (i_as1 (i_L4 (i_as0 ?_))))))))); (with_reducible refine i_recv0 (by assumption) ?_))
  apply r_Reader_add hO
  unfold B_Reader_add
  ((with_reducible refine i_Seq (i_If (i_cI_ge (i_F (i_A0 ?_))))); (with_reducible refine i_fld (by assumption) ?_); (with_reducible refine i_I ?_); (rw [hq1]); (with_reducible refine i_f (by omega) ?_); (with_reducible refine i_Seq (i_sIA (i_FR (i_A0 ?_)))); (with_reducible refine i_fldR (by assumption) ?_); (with_reducible refine i_F (i_A0 ?_)); (with_reducible refine i_fld (by assumption) ?_); (with_reducible refine i_L1 ?_); (with_reducible refine i_in (by assumption) (by omega) (by omega) ?_); (with_reducible refine i_Seq (i_sIA (i_FR (i_A0 ?_)))); (with_reducible refine i_fldR (by assumption) ?_); (with_reducible refine i_F (i_A0 ?_)); (with_reducible refine i_fld (by assumption) ?_); (with_reducible refine i_L2 ?_); rw [zg_n _ _ _ (by omega)]; (with_reducible refine i_in (by assumption) (by omega) (by omega) ?_); (with_reducible refine i_Seq (i_sIA (i_FR (i_A0 ?_)))); (with_reducible refine i_fldR (by assumption) ?_); (with_reducible refine i_F (i_A0 ?_)); (with_reducible refine i_fld (by assumption) ?_); (with_reducible refine i_L3 ?_); rw [zg_n _ _ _ (by omega)]; rw [zg_n _ _ _ (by omega)]; (with_reducible refine i_in (by assumption) (by omega) (by omega) ?_); (with_reducible refine i_Seq (i_sIA (i_FR (i_A0 ?_)))); (with_reducible refine i_fldR (by assumption) ?_); (with_reducible refine i_F (i_A0 ?_)); (with_reducible refine i_fld (by assumption) ?_); (with_reducible refine i_L4 ?_); rw [zg_n _ _ _ (by omega)]; rw [zg_n _ _ _ (by omega)]; rw [zg_n _ _ _ (by omega)]; (with_reducible refine i_in (by assumption) (by omega) (by omega) ?_); (with_reducible refine i_Seq (i_FO (i_A0 ?_))); (with_reducible refine i_fld (by assumption) ?_); (with_reducible refine i_I ?_); (with_reducible refine i_fld (by assumption) ?_); (with_reducible refine i_RetI (i_Sub (i_F (i_A0 ?_)))); (with_reducible refine i_fld (by assumption) ?_); (with_reducible refine i_I ?_); rw [zg_s]; rw [zg_n _ _ _ (by omega)]; rw [zg_n _ _ _ (by omega)]; rw [zg_n _ _ _ (by omega)]; rw [zg_n _ _ _ (by omega)]; (rw [hq1]); rw [zx_inc (by omega)]; rw [zx_subc (by omega) (by omega)])
  refine ⟨_, rfl, ?_⟩
  rw [show Q.1 + 1 - 1 = Q.1 from Nat.add_sub_cancel Q.1 1]
  refine hk _ (fun b j q => ?_) ⟨?_, fun i hi => ?_⟩
  · (rw [zg_o _ _ (by omega)]; rw [zg_n _ _ _ (by omega)]; rw [zg_n _ _ _ (by omega)]; rw [zg_n _ _ _ (by omega)]; rw [zg_n _ _ _ (by omega)])
  · (rw [zg_s])
    try rfl
  · unfold qk qa qb qw zQad
    by_cases z : i = Q.1
    · subst z
      dsimp only
      rw [if_pos rfl]
      refine ⟨?_, ?_, ?_, ?_⟩
      all_goals ((first | ((rw [zg_n _ _ _ (by omega)]; rw [zg_n _ _ _ (by omega)]; rw [zg_n _ _ _ (by omega)]; rw [zg_n _ _ _ (by omega)]; rw [zg_s])) | ((rw [zg_n _ _ _ (by omega)]; rw [zg_n _ _ _ (by omega)]; rw [zg_n _ _ _ (by omega)]; rw [zg_s])) | ((rw [zg_n _ _ _ (by omega)]; rw [zg_n _ _ _ (by omega)]; rw [zg_s])) | ((rw [zg_n _ _ _ (by omega)]; rw [zg_s]))))
    · have hi2 : i < Q.1 := by
        have : i < Q.1 + 1 := hi
        omega
      obtain ⟨g1, g2, g3, g4⟩ := hq2 i hi2
      dsimp only
      rw [if_neg z]
      refine ⟨?_, ?_, ?_, ?_⟩
      all_goals ((first | ((rw [zg_n _ _ _ (by omega)]; rw [zg_n _ _ _ (by omega)]; rw [zg_n _ _ _ (by omega)]; rw [zg_n _ _ _ (by omega)]; rw [zg_m _ _ _ _ _ (by omega)])) | ((rw [zg_n _ _ _ (by omega)]; rw [zg_n _ _ _ (by omega)]; rw [zg_n _ _ _ (by omega)]; rw [zg_m _ _ _ _ _ (by omega)]; rw [zg_n _ _ _ (by omega)])) | ((rw [zg_n _ _ _ (by omega)]; rw [zg_n _ _ _ (by omega)]; rw [zg_m _ _ _ _ _ (by omega)]; rw [zg_n _ _ _ (by omega)]; rw [zg_n _ _ _ (by omega)])) | ((rw [zg_n _ _ _ (by omega)]; rw [zg_m _ _ _ _ _ (by omega)]; rw [zg_n _ _ _ (by omega)]; rw [zg_n _ _ _ (by omega)]; rw [zg_n _ _ _ (by omega)]))))
      · exact g1
      · exact g2
      · exact g3
      · exact g4
