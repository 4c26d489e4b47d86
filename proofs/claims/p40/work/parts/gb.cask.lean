/-! ===== questions asked, leads: the class ===== -/
theorem c_ask_bad {O : zOm} (hO : zWld O) (hS : zS O = zmS zC0) {t kd a b how : Int} {T n : Nat} {M : zMem} {K : Option zV → zMem → Prop} (hT : M ((0 : Nat) : Int) ((4 : Nat) : Int) = ((T : Nat) : Int)) (hT5 : T ≤ 5) (hP : M ((1 : Nat) : Int) ((2 : Nat) : Int) = ((n : Nat) : Int)) (hn2 : n ≤ 16) (hb : ¬ ((0 ≤ t ∧ t < ((T : Nat) : Int)) ∧ zIsQ n kd a b = true)) (hk : K (some (0, -1)) M) : zR O F_ToldNet_ask [(2, ((0 : Nat) : Int)), (0, t), (0, kd), (0, a), (0, b), (0, how)] M K := by
  have o1 := zo_1 hS
  apply r_ToldNet_ask hO
  unfold B_ToldNet_ask
  have f0_0 := zf_0_0 hS; have f0_8 := zf_0_8 hS; have z0 := zo_0 hS; have z1 := zo_1 hS; have z134 := zo_134 hS
  ((with_reducible refine i_Seq (i_Set (i_Call (i_as1 (i_A0 (i_as1 (i_L1 (i_as0 ?_)))))))); (with_reducible refine i_recv0 (by assumption) ?_); simp only [w_set0, w_set1, w_setn0, w_setn1])
  refine c_find hO hS hT hT5 (fun hx => ⟨_, rfl, ?_⟩) (fun k e hk1 => ⟨_, rfl, ?_⟩)
  · ((with_reducible refine i_Seq (i_If (i_cOr (i_cN (i_A6 ?_))))); simp only [w_set0, w_set1, w_setn0, w_setn1]; (with_reducible refine i_t trivial ?_); (with_reducible refine i_RetI (i_I ?_)))
    exact hk
  · have hq : zIsQ n kd a b = false := by
      cases e2 : zIsQ n kd a b
      · rfl
      · exact absurd ⟨by omega, e2⟩ hb
    ((with_reducible refine i_Seq (i_If (i_cOr (i_cN (i_A6 ?_))))); (with_reducible refine i_f (by omega) ?_); (with_reducible refine i_cNot (i_cZ_ne (i_Call (i_as1 (i_FR (i_A0 ?_)))))); (with_reducible refine i_fldR (by assumption) ?_); (with_reducible refine i_as1 (i_L2 (i_as1 (i_L3 (i_as1 (i_L4 (i_as0 ?_))))))); (with_reducible refine i_recv0 (by assumption) ?_); (refine c_isQuestion hO hS hP hn2 ⟨_, rfl, ?_⟩); (rw [hq]); rw [zbI_f]; (with_reducible refine i_f (by omega) ?_); (with_reducible refine i_RetI (i_I ?_)))
    exact hk
theorem c_leads_bad {O : zOm} (hO : zWld O) (hS : zS O = zmS zC0) {t kd a b : Int} {T n : Nat} {M : zMem} {K : Option zV → zMem → Prop} (hT : M ((0 : Nat) : Int) ((4 : Nat) : Int) = ((T : Nat) : Int)) (hT5 : T ≤ 5) (hP : M ((1 : Nat) : Int) ((2 : Nat) : Int) = ((n : Nat) : Int)) (hn2 : n ≤ 16) (hb : ¬ ((0 ≤ t ∧ t < ((T : Nat) : Int)) ∧ zIsQ n kd a b = true)) (hk : K (some (0, -1)) M) : zR O F_ToldNet_leads [(2, ((0 : Nat) : Int)), (0, t), (0, kd), (0, a), (0, b)] M K := by
  have o1 := zo_1 hS
  apply r_ToldNet_leads hO
  unfold B_ToldNet_leads
  have f0_0 := zf_0_0 hS; have f0_8 := zf_0_8 hS; have f134_12 := zf_134_12 hS; have z0 := zo_0 hS; have z1 := zo_1 hS; have z134 := zo_134 hS
  ((with_reducible refine i_Seq (i_Set (i_Call (i_as1 (i_A0 (i_as1 (i_L1 (i_as0 ?_)))))))); (with_reducible refine i_recv0 (by assumption) ?_); simp only [w_set0, w_set1, w_setn0, w_setn1])
  refine c_find hO hS hT hT5 (fun hx => ⟨_, rfl, ?_⟩) (fun k e hk1 => ⟨_, rfl, ?_⟩)
  · ((with_reducible refine i_Seq (i_If (i_cOr (i_cN (i_A5 ?_))))); simp only [w_set0, w_set1, w_setn0, w_setn1]; (with_reducible refine i_t trivial ?_); (with_reducible refine i_RetI (i_I ?_)))
    exact hk
  · have hq : zIsQ n kd a b = false := by
      cases e2 : zIsQ n kd a b
      · rfl
      · exact absurd ⟨by omega, e2⟩ hb
    ((with_reducible refine i_Seq (i_If (i_cOr (i_cN (i_A5 ?_))))); (with_reducible refine i_f (by omega) ?_); (with_reducible refine i_cNot (i_cZ_ne (i_Call (i_as1 (i_FR (i_A0 ?_)))))); (with_reducible refine i_fldR (by assumption) ?_); (with_reducible refine i_as1 (i_L2 (i_as1 (i_L3 (i_as1 (i_L4 (i_as0 ?_))))))); (with_reducible refine i_recv0 (by assumption) ?_); (refine c_isQuestion hO hS hP hn2 ⟨_, rfl, ?_⟩); (rw [hq]); rw [zbI_f]; (with_reducible refine i_f (by omega) ?_); (with_reducible refine i_RetI (i_I ?_)))
    exact hk
theorem c_led_bad {O : zOm} (hO : zWld O) (hS : zS O = zmS zC0) {t kd a b i : Int} {T n : Nat} {M : zMem} {K : Option zV → zMem → Prop} (hT : M ((0 : Nat) : Int) ((4 : Nat) : Int) = ((T : Nat) : Int)) (hT5 : T ≤ 5) (hP : M ((1 : Nat) : Int) ((2 : Nat) : Int) = ((n : Nat) : Int)) (hn2 : n ≤ 16) (hb : ¬ ((0 ≤ t ∧ t < ((T : Nat) : Int)) ∧ zIsQ n kd a b = true)) (hk : K (some (0, -1)) M) : zR O F_ToldNet_led [(2, ((0 : Nat) : Int)), (0, t), (0, kd), (0, a), (0, b), (0, i)] M K := by
  have o1 := zo_1 hS
  apply r_ToldNet_led hO
  unfold B_ToldNet_led
  have f0_0 := zf_0_0 hS; have f0_8 := zf_0_8 hS; have f134_12 := zf_134_12 hS; have f134_11 := zf_134_11 hS; have a147 := zCA (a := 147) (ty := .int) (n := 120) hS rfl; have z0 := zo_0 hS; have z1 := zo_1 hS; have z134 := zo_134 hS
  ((with_reducible refine i_Seq (i_Set (i_Call (i_as1 (i_A0 (i_as1 (i_L1 (i_as0 ?_)))))))); (with_reducible refine i_recv0 (by assumption) ?_); simp only [w_set0, w_set1, w_setn0, w_setn1])
  refine c_find hO hS hT hT5 (fun hx => ⟨_, rfl, ?_⟩) (fun k e hk1 => ⟨_, rfl, ?_⟩)
  · ((with_reducible refine i_Seq (i_If (i_cOr (i_cN (i_A6 ?_))))); simp only [w_set0, w_set1, w_setn0, w_setn1]; (with_reducible refine i_t trivial ?_); (with_reducible refine i_RetI (i_I ?_)))
    exact hk
  · have hq : zIsQ n kd a b = false := by
      cases e2 : zIsQ n kd a b
      · rfl
      · exact absurd ⟨by omega, e2⟩ hb
    ((with_reducible refine i_Seq (i_If (i_cOr (i_cN (i_A6 ?_))))); (with_reducible refine i_f (by omega) ?_); (with_reducible refine i_cNot (i_cZ_ne (i_Call (i_as1 (i_FR (i_A0 ?_)))))); (with_reducible refine i_fldR (by assumption) ?_); (with_reducible refine i_as1 (i_L2 (i_as1 (i_L3 (i_as1 (i_L4 (i_as0 ?_))))))); (with_reducible refine i_recv0 (by assumption) ?_); (refine c_isQuestion hO hS hP hn2 ⟨_, rfl, ?_⟩); (rw [hq]); rw [zbI_f]; (with_reducible refine i_f (by omega) ?_); (with_reducible refine i_RetI (i_I ?_)))
    exact hk
theorem c_ask {O : zOm} (hO : zWld O) (hS : zS O = zmS zC0) {t T n kd a b' how : Nat} {b : Int} {A : zTl} {M : zMem} {K : Option zV → zMem → Prop} (hT : M ((0 : Nat) : Int) ((4 : Nat) : Int) = ((T : Nat) : Int)) (hT5 : T ≤ 5) (ht : t < T) (hP : M ((1 : Nat) : Int) ((2 : Nat) : Int) = ((n : Nat) : Int)) (hn1 : 0 < n) (hn2 : n ≤ 16) (hA : zTR M (185 + 13 * t) n A) (hw : zTw n A) (hC : cSo M) (hQ : zQok n kd a b b') (hh : how ≤ 1)
    (hk : ∀ M', (∀ b j, ¬ (b = ((134 : Nat) : Int) ∧ (j = 6 ∨ j = 7) ∨ ((135 : Nat) : Int) ≤ b ∧ b ≤ ((146 : Nat) : Int)) → M' b j = M b j) → cSo M' → K (some (0, ((zan n A kd a b' how : Nat) : Int))) M') : zR O F_ToldNet_ask [(2, ((0 : Nat) : Int)), (0, ((t : Nat) : Int)), (0, ((kd : Nat) : Int)), (0, ((a : Nat) : Int)), (0, b), (0, ((how : Nat) : Int))] M K := by
  have hx := zTelT hS (show t < 5 by omega)
  have hx0 := hx.1.1
  obtain ⟨⟨o134, -⟩, -⟩ := zO134_ok hS
  have o1 := zo_1 hS
  have hqt := zQok_is hQ
  have hm : ∀ how, zan n A kd a b' how = if kd < 3 then zqS n A kd a b' how else zan n A kd a b' how := fun how => by
    by_cases e : kd < 3
    · rw [if_pos e]; unfold zan; rw [if_pos e]
    · rw [if_neg e]
  apply r_ToldNet_ask hO
  unfold B_ToldNet_ask
  have f0_0 := zf_0_0 hS; have f0_8 := zf_0_8 hS; have z0 := zo_0 hS; have z1 := zo_1 hS; have z134 := zo_134 hS
  ((with_reducible refine i_Seq (i_Set (i_Call (i_as1 (i_A0 (i_as1 (i_L1 (i_as0 ?_)))))))); (with_reducible refine i_recv0 (by assumption) ?_); simp only [w_set0, w_set1, w_setn0, w_setn1])
  refine c_find hO hS hT hT5 (fun hx => absurd (show 0 ≤ ((t : Nat) : Int) ∧ ((t : Nat) : Int) < ((T : Nat) : Int) by omega) hx) (fun k e hk1 => ⟨_, rfl, ?_⟩)
  rw [show k = t by omega]
  ((with_reducible refine i_Seq (i_If (i_cOr (i_cN (i_A6 ?_))))); (with_reducible refine i_f (by omega) ?_); (with_reducible refine i_cNot (i_cZ_ne (i_Call (i_as1 (i_FR (i_A0 ?_)))))); (with_reducible refine i_fldR (by assumption) ?_); (with_reducible refine i_as1 (i_L2 (i_as1 (i_L3 (i_as1 (i_L4 (i_as0 ?_))))))); (with_reducible refine i_recv0 (by assumption) ?_); (refine c_isQuestion hO hS hP hn2 ⟨_, rfl, ?_⟩); (rw [hqt]); rw [zbI_t]; (with_reducible refine i_t (by omega) ?_); (with_reducible refine i_Seq (i_sCall (i_as1 (i_FR (i_A0 ?_))))); (with_reducible refine i_fldR (by assumption) ?_); (with_reducible refine i_as1 (i_A6 (i_as0 ?_))); (with_reducible refine i_recv0 (by assumption) ?_))
  refine c_take hO hS hx (by omega) hA hn2 hw hC (fun M1 f1 h1 => ⟨rfl, ?_⟩)
  have hA1 : zTR M1 (185 + 13 * t) n A := hA.to (fun b j a1 a2 => f1 b j (by omega))
  by_cases e0 : how = 0
  · subst e0
    ((with_reducible refine i_RetI (i_Call (i_as1 (i_FR (i_A0 ?_))))); (with_reducible refine i_fldR (by assumption) ?_); (with_reducible refine i_as1 (i_A6 (i_as1 (i_L2 (i_as1 (i_L3 (i_as1 (i_L4 (i_as1 (i_eIf (i_cZ_ne (i_L5 ?_)))))))))))); (with_reducible refine i_f (by omega) ?_); (with_reducible refine i_I (i_as0 ?_)); (with_reducible refine i_recv0 (by assumption) ?_))
    refine c_answer hO hS (how := 0) hx (by omega) hA1.1.1 hn1 hn2 hw hQ (Or.inl (by omega)) h1 (hm 0) (fun M2 f2 h2 => ⟨_, rfl, ?_⟩)
    (skip)
    exact hk M2 (fun b j q => by rw [f2 b j (by omega), f1 b j (by omega)]) h2.so
  · have e1 : how = 1 := by omega
    subst e1
    ((with_reducible refine i_RetI (i_Call (i_as1 (i_FR (i_A0 ?_))))); (with_reducible refine i_fldR (by assumption) ?_); (with_reducible refine i_as1 (i_A6 (i_as1 (i_L2 (i_as1 (i_L3 (i_as1 (i_L4 (i_as1 (i_eIf (i_cZ_ne (i_L5 ?_)))))))))))); (with_reducible refine i_t (by omega) ?_); (with_reducible refine i_I (i_as0 ?_)); (with_reducible refine i_recv0 (by assumption) ?_))
    refine c_answer hO hS (how := 1) hx (by omega) hA1.1.1 hn1 hn2 hw hQ (Or.inl (by omega)) h1 (hm 1) (fun M2 f2 h2 => ⟨_, rfl, ?_⟩)
    (skip)
    exact hk M2 (fun b j q => by rw [f2 b j (by omega), f1 b j (by omega)]) h2.so
theorem c_leads {O : zOm} (hO : zWld O) (hS : zS O = zmS zC0) {t T n kd a b' : Nat} {b : Int} {A : zTl} {M : zMem} {K : Option zV → zMem → Prop} (hT : M ((0 : Nat) : Int) ((4 : Nat) : Int) = ((T : Nat) : Int)) (hT5 : T ≤ 5) (ht : t < T) (hP : M ((1 : Nat) : Int) ((2 : Nat) : Int) = ((n : Nat) : Int)) (hn1 : 0 < n) (hn2 : n ≤ 16) (hA : zTR M (185 + 13 * t) n A) (hw : zTw n A) (hC : cSo M) (hQ : zQok n kd a b b')
    (hk : ∀ M', (∀ b j, ¬ (b = ((134 : Nat) : Int) ∧ (j = 6 ∨ j = 7 ∨ j = 12) ∨ ((135 : Nat) : Int) ≤ b ∧ b ≤ ((147 : Nat) : Int) ∨ b = ((185 + 13 * t + 12 : Nat) : Int)) → M' b j = M b j) → zTR M' (185 + 13 * t) n A → cSo M' → K (some (0, ((zldC n A kd a b' (zcnt (tX A) 256) : Nat) : Int))) M') : zR O F_ToldNet_leads [(2, ((0 : Nat) : Int)), (0, ((t : Nat) : Int)), (0, ((kd : Nat) : Int)), (0, ((a : Nat) : Int)), (0, b)] M K := by
  have hx := zTelT hS (show t < 5 by omega)
  have hx0 := hx.1.1
  obtain ⟨⟨o134, -⟩, -⟩ := zO134_ok hS
  have o1 := zo_1 hS
  have hqt := zQok_is hQ
  apply r_ToldNet_leads hO
  unfold B_ToldNet_leads
  have f0_0 := zf_0_0 hS; have f0_8 := zf_0_8 hS; have f134_12 := zf_134_12 hS; have z0 := zo_0 hS; have z1 := zo_1 hS; have z134 := zo_134 hS
  ((with_reducible refine i_Seq (i_Set (i_Call (i_as1 (i_A0 (i_as1 (i_L1 (i_as0 ?_)))))))); (with_reducible refine i_recv0 (by assumption) ?_); simp only [w_set0, w_set1, w_setn0, w_setn1])
  refine c_find hO hS hT hT5 (fun hx => absurd (show 0 ≤ ((t : Nat) : Int) ∧ ((t : Nat) : Int) < ((T : Nat) : Int) by omega) hx) (fun k e hk1 => ⟨_, rfl, ?_⟩)
  rw [show k = t by omega]
  ((with_reducible refine i_Seq (i_If (i_cOr (i_cN (i_A5 ?_))))); (with_reducible refine i_f (by omega) ?_); (with_reducible refine i_cNot (i_cZ_ne (i_Call (i_as1 (i_FR (i_A0 ?_)))))); (with_reducible refine i_fldR (by assumption) ?_); (with_reducible refine i_as1 (i_L2 (i_as1 (i_L3 (i_as1 (i_L4 (i_as0 ?_))))))); (with_reducible refine i_recv0 (by assumption) ?_); (refine c_isQuestion hO hS hP hn2 ⟨_, rfl, ?_⟩); (rw [hqt]); rw [zbI_t]; (with_reducible refine i_t (by omega) ?_); (with_reducible refine i_Seq (i_sCall (i_as1 (i_FR (i_A0 ?_))))); (with_reducible refine i_fldR (by assumption) ?_); (with_reducible refine i_as1 (i_A5 (i_as1 (i_L2 (i_as1 (i_L3 (i_as1 (i_L4 (i_as0 ?_))))))))); (with_reducible refine i_recv0 (by assumption) ?_))
  refine c_followLeads hO hS hx (by omega) hA hn1 hn2 hw hQ hC (fun M1 f1 hA1 hC1 h1 _ => ⟨rfl, ?_⟩)
  ((with_reducible refine i_RetI (i_F (i_FR (i_A0 ?_)))); (with_reducible refine i_fldR (by assumption) ?_); (with_reducible refine i_fld (by assumption) ?_); (rw [h1]))
  exact hk M1 f1 hA1 hC1
theorem zldC_mono {n : Nat} {A : zTl} {kd a b' k l : Nat} (h : k ≤ l) : zldC n A kd a b' k ≤ zldC n A kd a b' l := zcnt_sub fun c _ hc => by
  rw [Bool.and_eq_true] at hc ⊢
  exact ⟨hc.1, decide_eq_true (Nat.lt_of_lt_of_le (of_decide_eq_true hc.2) h)⟩
/-- the i-th that leads -/
def zlp (n : Nat) (A : zTl) (kd a b' : Nat) (i : Int) (k : Nat) : Prop := k < zcnt (tX A) 256 ∧ zldC n A kd a b' (k + 1) = zldC n A kd a b' k + 1 ∧ ((zldC n A kd a b' k : Nat) : Int) = i
noncomputable def zled (n : Nat) (A : zTl) (kd a b' : Nat) (i : Int) : Int := @dite Int (∃ k, zlp n A kd a b' i k) (Classical.propDecidable _) (fun h => ((Classical.choose h : Nat) : Int)) (fun _ => -1)
theorem zled_no {n : Nat} {A : zTl} {kd a b' : Nat} {i : Int} (h : ∀ k, ¬ zlp n A kd a b' i k) : zled n A kd a b' i = -1 := dif_neg (fun ⟨k, hk⟩ => h k hk)
theorem zled_k {n : Nat} {A : zTl} {kd a b' k : Nat} {i : Int} (h : zlp n A kd a b' i k) : zled n A kd a b' i = ((k : Nat) : Int) := by
  have he : ∃ k, zlp n A kd a b' i k := ⟨k, h⟩
  have h2 := Classical.choose_spec he
  refine (dif_pos he).trans ?_
  generalize Classical.choose he = l at h2 ⊢
  obtain ⟨h3, h4, h5⟩ := h
  obtain ⟨g3, g4, g5⟩ := h2
  have : l = k := by
    rcases Nat.lt_trichotomy l k with z | z | z
    · have := zldC_mono (n := n) (A := A) (kd := kd) (a := a) (b' := b') (show l + 1 ≤ k from z)
      omega
    · exact z
    · have := zldC_mono (n := n) (A := A) (kd := kd) (a := a) (b' := b') (show k + 1 ≤ l from z)
      omega
  rw [this]
theorem m_led_bad {O : zOm} (hO : zWld O) (hS : zS O = zmS zC0) {t kd a b i : Int} {T n : Nat} {M : zMem} {K : Option zV → zMem → Prop} (hT : M 250 ((11 : Nat) : Int) = ((T : Nat) : Int)) (hn : M 250 ((1 : Nat) : Int) = ((n : Nat) : Int)) (hn2 : n ≤ 16) (hb : ¬ ((0 ≤ t ∧ t < ((T : Nat) : Int)) ∧ zIsQ n kd a b = true)) (hk : K (some (0, -1)) M) : zR O F_Model_led [(2, 250), (0, t), (0, kd), (0, a), (0, b), (0, i)] M K := by
  apply r_Model_led hO
  unfold B_Model_led
  have zo := zMO hS
  by_cases ht : 0 ≤ t ∧ t < ((T : Nat) : Int)
  · have hq : zIsQ n kd a b = false := by
      cases e : zIsQ n kd a b
      · rfl
      · exact absurd ⟨ht, e⟩ hb
    ((with_reducible refine i_RetI (i_eIf (i_cAnd (i_cAnd (i_cZ_ne (i_Call (i_as1 (i_A0 (i_as1 (i_L1 (i_as0 ?_))))))))))); (with_reducible refine i_recv0 (by assumption) ?_); (refine m_isTelling hO hS hT ⟨_, rfl, ?_⟩); (rw [decide_eq_true ht]); rw [zbI_t]; (with_reducible refine i_t (by omega) ?_); (with_reducible refine i_cZ_ne (i_Call (i_as1 (i_A0 (i_as1 (i_L2 (i_as1 (i_L3 (i_as1 (i_L4 (i_as0 ?_))))))))))); (with_reducible refine i_recv0 (by assumption) ?_); (refine m_isQuestion hO hS hn hn2 ⟨_, rfl, ?_⟩); (rw [hq]); rw [zbI_f]; (with_reducible refine i_f (by omega) ?_); (with_reducible refine i_I ?_))
    exact hk
  · ((with_reducible refine i_RetI (i_eIf (i_cAnd (i_cAnd (i_cZ_ne (i_Call (i_as1 (i_A0 (i_as1 (i_L1 (i_as0 ?_))))))))))); (with_reducible refine i_recv0 (by assumption) ?_); (refine m_isTelling hO hS hT ⟨_, rfl, ?_⟩); (rw [decide_eq_false ht]); rw [zbI_f]; (with_reducible refine i_f (by omega) ?_); (with_reducible refine i_I ?_))
    exact hk
theorem m_led {O : zOm} (hO : zWld O) (hS : zS O = zmS zC0) {t T n kd a b' : Nat} {b i : Int} {A : zTl} {M : zMem} {K : Option zV → zMem → Prop} (hT : M 250 ((11 : Nat) : Int) = ((T : Nat) : Int)) (hT5 : T ≤ 5) (ht : t < T) (hn : M 250 ((1 : Nat) : Int) = ((n : Nat) : Int)) (hn2 : n ≤ 16) (hA : rTe M t n A) (hw : zTw n A) (hQ : zQok n kd a b b')
    (hk : ∀ M', (∀ b j, ¬ (b = 250 ∧ j = 52 ∨ b = 250 ∧ j = 55 ∨ ((268 : Nat) : Int) ≤ b ∧ b ≤ ((270 : Nat) : Int) ∨ ((288 : Nat) : Int) ≤ b ∧ b ≤ ((290 : Nat) : Int)) → M' b j = M b j) → K (some (0, zled n A kd a b' i)) M') : zR O F_Model_led [(2, 250), (0, ((t : Nat) : Int)), (0, ((kd : Nat) : Int)), (0, ((a : Nat) : Int)), (0, b), (0, i)] M K := by
  have hqt := zQok_is hQ
  apply r_Model_led hO
  unfold B_Model_led
  have zo := zMO hS
  by_cases hi : 0 ≤ i
  · ((with_reducible refine i_RetI (i_eIf (i_cAnd (i_cAnd (i_cZ_ne (i_Call (i_as1 (i_A0 (i_as1 (i_L1 (i_as0 ?_))))))))))); (with_reducible refine i_recv0 (by assumption) ?_); (refine m_isTelling hO hS hT ⟨_, rfl, ?_⟩); (rw [decide_eq_true (show 0 ≤ ((t : Nat) : Int) ∧ ((t : Nat) : Int) < ((T : Nat) : Int) by omega)]); rw [zbI_t]; (with_reducible refine i_t (by omega) ?_); (with_reducible refine i_cZ_ne (i_Call (i_as1 (i_A0 (i_as1 (i_L2 (i_as1 (i_L3 (i_as1 (i_L4 (i_as0 ?_))))))))))); (with_reducible refine i_recv0 (by assumption) ?_); (refine m_isQuestion hO hS hn hn2 ⟨_, rfl, ?_⟩); (rw [hqt]); rw [zbI_t]; (with_reducible refine i_t (by omega) ?_); (with_reducible refine i_cZ_ge (i_L5 ?_)); (with_reducible refine i_t (by omega) ?_); (with_reducible refine i_Call (i_as1 (i_A0 (i_as1 (i_L1 (i_as1 (i_L2 (i_as1 (i_L3 (i_as1 (i_L4 (i_as1 (i_L5 (i_as0 ?_)))))))))))))); (with_reducible refine i_recv0 (by assumption) ?_))
    refine m_leadOf hO hS (by omega) hn hn2 hA hw hQ (fun M1 y f1 _ h1 => ⟨_, rfl, ?_⟩)
    have hy : zled n A kd a b' i = y := by
      rcases h1 with ⟨e, h1⟩ | ⟨k, e, h1, h2, h3⟩
      · rw [e]
        exact zled_no (fun k ⟨g1, g2, g3⟩ => h1 k g1 (by omega) g3)
      · rw [e]
        exact zled_k ⟨h1, h2, h3⟩
    have hk1 := hk M1 f1
    rw [hy] at hk1
    (skip)
    exact hk1
  · have hk1 := hk M (fun _ _ _ => rfl)
    rw [zled_no (fun k ⟨g1, g2, g3⟩ => by omega)] at hk1
    ((with_reducible refine i_RetI (i_eIf (i_cAnd (i_cAnd (i_cZ_ne (i_Call (i_as1 (i_A0 (i_as1 (i_L1 (i_as0 ?_))))))))))); (with_reducible refine i_recv0 (by assumption) ?_); (refine m_isTelling hO hS hT ⟨_, rfl, ?_⟩); (rw [decide_eq_true (show 0 ≤ ((t : Nat) : Int) ∧ ((t : Nat) : Int) < ((T : Nat) : Int) by omega)]); rw [zbI_t]; (with_reducible refine i_t (by omega) ?_); (with_reducible refine i_cZ_ne (i_Call (i_as1 (i_A0 (i_as1 (i_L2 (i_as1 (i_L3 (i_as1 (i_L4 (i_as0 ?_))))))))))); (with_reducible refine i_recv0 (by assumption) ?_); (refine m_isQuestion hO hS hn hn2 ⟨_, rfl, ?_⟩); (rw [hqt]); rw [zbI_t]; (with_reducible refine i_t (by omega) ?_); (with_reducible refine i_cZ_ge (i_L5 ?_)); (with_reducible refine i_f (by omega) ?_); (with_reducible refine i_I ?_))
    exact hk1
theorem c_led {O : zOm} (hO : zWld O) (hS : zS O = zmS zC0) {t T n kd a b' : Nat} {b i : Int} {A : zTl} {M : zMem} {K : Option zV → zMem → Prop} (hT : M ((0 : Nat) : Int) ((4 : Nat) : Int) = ((T : Nat) : Int)) (hT5 : T ≤ 5) (ht : t < T) (hP : M ((1 : Nat) : Int) ((2 : Nat) : Int) = ((n : Nat) : Int)) (hn1 : 0 < n) (hn2 : n ≤ 16) (hA : zTR M (185 + 13 * t) n A) (hw : zTw n A) (hC : cSo M) (hQ : zQok n kd a b b')
    (hk : ∀ M', (∀ b j, ¬ (b = ((134 : Nat) : Int) ∧ (j = 6 ∨ j = 7 ∨ j = 12) ∨ ((135 : Nat) : Int) ≤ b ∧ b ≤ ((147 : Nat) : Int) ∨ b = ((185 + 13 * t + 12 : Nat) : Int)) → M' b j = M b j) → zTR M' (185 + 13 * t) n A → cSo M' → K (some (0, zled n A kd a b' i)) M') : zR O F_ToldNet_led [(2, ((0 : Nat) : Int)), (0, ((t : Nat) : Int)), (0, ((kd : Nat) : Int)), (0, ((a : Nat) : Int)), (0, b), (0, i)] M K := by
  have hx := zTelT hS (show t < 5 by omega)
  have hx0 := hx.1.1
  obtain ⟨⟨o134, -⟩, -⟩ := zO134_ok hS
  have o1 := zo_1 hS
  have hqt := zQok_is hQ
  obtain ⟨-, -, ⟨t1, t2, t3, t4, t5, t6, t7⟩⟩ := zO134_ok hS
  have hE := tX_120 hn2 hw
  have hle := zldC_le n A kd a b' (zcnt (tX A) 256) (Nat.le_refl _)
  apply r_ToldNet_led hO
  unfold B_ToldNet_led
  have f0_0 := zf_0_0 hS; have f0_8 := zf_0_8 hS; have f134_12 := zf_134_12 hS; have f134_11 := zf_134_11 hS; have a147 := zCA (a := 147) (ty := .int) (n := 120) hS rfl; have z0 := zo_0 hS; have z1 := zo_1 hS; have z134 := zo_134 hS
  ((with_reducible refine i_Seq (i_Set (i_Call (i_as1 (i_A0 (i_as1 (i_L1 (i_as0 ?_)))))))); (with_reducible refine i_recv0 (by assumption) ?_); simp only [w_set0, w_set1, w_setn0, w_setn1])
  refine c_find hO hS hT hT5 (fun hx => absurd (show 0 ≤ ((t : Nat) : Int) ∧ ((t : Nat) : Int) < ((T : Nat) : Int) by omega) hx) (fun k e hk1 => ⟨_, rfl, ?_⟩)
  rw [show k = t by omega]
  ((with_reducible refine i_Seq (i_If (i_cOr (i_cN (i_A6 ?_))))); (with_reducible refine i_f (by omega) ?_); (with_reducible refine i_cNot (i_cZ_ne (i_Call (i_as1 (i_FR (i_A0 ?_)))))); (with_reducible refine i_fldR (by assumption) ?_); (with_reducible refine i_as1 (i_L2 (i_as1 (i_L3 (i_as1 (i_L4 (i_as0 ?_))))))); (with_reducible refine i_recv0 (by assumption) ?_); (refine c_isQuestion hO hS hP hn2 ⟨_, rfl, ?_⟩); (rw [hqt]); rw [zbI_t]; (with_reducible refine i_t (by omega) ?_); (with_reducible refine i_Seq (i_sCall (i_as1 (i_FR (i_A0 ?_))))); (with_reducible refine i_fldR (by assumption) ?_); (with_reducible refine i_as1 (i_A6 (i_as1 (i_L2 (i_as1 (i_L3 (i_as1 (i_L4 (i_as0 ?_))))))))); (with_reducible refine i_recv0 (by assumption) ?_))
  refine c_followLeads hO hS hx (by omega) hA hn1 hn2 hw hQ hC (fun M1 f1 hA1 hC1 h1 h2 => ⟨rfl, ?_⟩)
  have hk2 := hk M1 f1 hA1 hC1
  by_cases hi : 0 ≤ i ∧ i < ((zldC n A kd a b' (zcnt (tX A) 256) : Nat) : Int)
  · obtain ⟨j, rfl⟩ : ∃ j : Nat, i = ((j : Nat) : Int) := ⟨i.toNat, by omega⟩
    obtain ⟨l, l1, l2, l3, l4⟩ := h2 j (by omega)
    rw [zled_k ⟨l2, l3, by rw [l4]⟩] at hk2
    generalize zldC n A kd a b' (zcnt (tX A) 256) = N at h1 hi hle ⊢
    generalize zcnt (tX A) 256 = E at hE l2 hle
    ((with_reducible refine i_RetI (i_eIf (i_cOr (i_cZ_lt (i_L5 ?_))))); (with_reducible refine i_f (by omega) ?_); (with_reducible refine i_cI_ge (i_L5 (i_F (i_FR (i_A0 ?_))))); (with_reducible refine i_fldR (by assumption) ?_); (with_reducible refine i_fld (by assumption) ?_); (rw [h1]); (with_reducible refine i_f (by omega) ?_); (with_reducible refine i_IA (i_FR (i_FR (i_A0 ?_)))); (with_reducible refine i_fldR (by assumption) ?_); (with_reducible refine i_fldR (by assumption) ?_); (with_reducible refine i_L5 ?_); (with_reducible refine i_in (by assumption) (by omega) (by omega) ?_); (rw [l1]))
    exact hk2
  · rw [zled_no (fun l ⟨g1, g2, g3⟩ => by
      have := zldC_mono (n := n) (A := A) (kd := kd) (a := a) (b' := b') (show l + 1 ≤ zcnt (tX A) 256 from g1)
      omega)] at hk2
    generalize zldC n A kd a b' (zcnt (tX A) 256) = N at h1 hi hle ⊢
    generalize zcnt (tX A) 256 = E at hE hle
    clear h2
    repeat' (first | (with_reducible first | (show zew _ _ _ _ _ _; first | (show zew (zeL _) _ _ _ _ _; first | refine i_L0 ?_ | refine i_L1 ?_ | refine i_L2 ?_ | refine i_L3 ?_ | refine i_L4 ?_ | refine i_L5 ?_ | refine i_L6 ?_ | refine i_L7 ?_ | refine i_L8 ?_ | refine i_L9 ?_ | refine i_L10 ?_ | refine i_L11 ?_ | refine i_L12 ?_ | refine i_L13 ?_ | refine i_L14 ?_) | (show zew (zeA _) _ _ _ _ _; first | refine i_A0 ?_ | refine i_A1 ?_ | refine i_A2 ?_ | refine i_A3 ?_ | refine i_A4 ?_ | refine i_A5 ?_ | refine i_A6 ?_ | refine i_A7 ?_ | refine i_A8 ?_ | refine i_A9 ?_ | refine i_A10 ?_ | refine i_A11 ?_ | refine i_A12 ?_ | refine i_A13 ?_ | refine i_A14 ?_) | refine i_I ?_ | refine i_F ?_ | refine i_FR ?_ | refine i_IA ?_ | refine i_Add ?_ | refine i_Sub ?_ | refine i_And ?_ | refine i_Len ?_ | refine i_Call ?_ | refine i_RA ?_ | refine i_Ldc ?_ | refine i_LdcL ?_ | refine i_IL ?_ | refine i_Null ?_ | refine i_Mul ?_ | refine i_Div ?_ | refine i_Rem ?_ | refine i_Or ?_ | refine i_Xor ?_ | refine i_Shl ?_ | refine i_Shr ?_ | refine i_Ushr ?_ | refine i_AddL ?_ | refine i_SubL ?_ | refine i_MulL ?_ | refine i_CmpL ?_ | refine i_Neg ?_ | refine i_I2L ?_ | refine i_L2I ?_ | refine i_I2B ?_ | refine i_ZA ?_ | refine i_BA ?_ | refine i_LA ?_ | refine i_MM ?_ | refine i_eIf ?_ | refine i_Ll0 ?_ | refine i_Ll1 ?_ | refine i_Ll2 ?_ | refine i_Ll3 ?_ | refine i_Ll4 ?_ | refine i_Ll5 ?_ | refine i_Ll6 ?_ | refine i_Ll7 ?_ | refine i_Ll8 ?_ | refine i_Ll9 ?_ | refine i_Ll10 ?_ | refine i_Ll11 ?_ | refine i_Ll12 ?_ | refine i_Ll13 ?_ | refine i_Ll14 ?_) | (show zsw _ _ _ _ _ _ _ _; first | refine i_Seq ?_ | refine i_Blk ?_ | refine i_Set ?_ | refine i_If ?_ | refine i_sCall ?_ | refine i_RetV ?_ | refine i_RetI ?_ | refine i_sIA ?_ | refine i_sF ?_ | refine i_Skip ?_ | refine i_FO ?_ | refine i_sLA ?_ | refine i_sZA ?_ | refine i_sBA ?_ | refine i_IO ?_ | refine i_Pop ?_ | refine i_Copy ?_ | refine i_RetZ ?_ | refine i_RetL ?_ | refine i_RetR ?_ | refine i_Ite ?_ | refine i_IteD ?_ | refine i_IfR ?_ | refine i_Brk ?_ | refine i_IfBrk ?_ | refine i_Sw ?_ | refine i_Inc0 ?_ | refine i_Inc1 ?_ | refine i_Inc2 ?_ | refine i_Inc3 ?_ | refine i_Inc4 ?_ | refine i_Inc5 ?_ | refine i_Inc6 ?_ | refine i_Inc7 ?_ | refine i_Inc8 ?_ | refine i_Inc9 ?_ | refine i_Inc10 ?_ | refine i_Inc11 ?_ | refine i_Inc12 ?_ | refine i_Inc13 ?_ | refine i_Inc14 ?_) | (show zcw _ _ _ _ _ _ _; first | refine i_cN ?_ | refine i_cNot ?_ | refine i_cAnd ?_ | refine i_cOr ?_ | refine i_cIf ?_ | refine i_cI_eq ?_ | refine i_cI_ne ?_ | refine i_cI_lt ?_ | refine i_cI_ge ?_ | refine i_cI_gt ?_ | refine i_cI_le ?_ | refine i_cZ_eq ?_ | refine i_cZ_ne ?_ | refine i_cZ_lt ?_ | refine i_cZ_ge ?_ | refine i_cZ_gt ?_ | refine i_cZ_le ?_) | refine i_as0 ?_ | refine i_as1 ?_ | refine i_sw0 ?_ | refine i_sw1 ?_ | refine i_lab0 ?_ | refine i_lab1 ?_ | refine i_lab2 ?_ | refine i_lb0 ?_ | refine i_lb1 ?_ | refine i_recv1 ?_ | refine i_recv2 ?_ | refine i_turn ?_ | refine i_up ?_) | (with_reducible refine i_z (Or.inl rfl) ?_) | (with_reducible refine i_z (Or.inr rfl) ?_) | (with_reducible refine i_z (zbI_01 _) ?_) | (with_reducible refine i_zin (Or.inl rfl) (by assumption) (by omega) (by omega) ?_) | (with_reducible refine i_zin (Or.inr rfl) (by assumption) (by omega) (by omega) ?_) | (with_reducible refine i_zin (zbI_01 _) (by assumption) (by omega) (by omega) ?_) | (with_reducible refine i_zin (by assumption) (by assumption) (by omega) (by omega) ?_) | (with_reducible refine i_recv0 (by assumption) ?_) | (with_reducible refine i_fld (by assumption) ?_) | (with_reducible refine i_fldR (by assumption) ?_) | (with_reducible refine i_in (by assumption) (by omega) (by omega) ?_) | (with_reducible refine i_copy (by assumption) (by assumption) (by omega) ?_) | (with_reducible refine i_len (by assumption) (by omega) ?_) | rw [zbI_t] | rw [zbI_f] | rw [zg_s] | rw [zg_n _ _ _ (by omega)] | rw [zg_m _ _ _ _ _ (by omega)] | rw [zg_o _ _ (by omega)] | (rw [h1]) | rw [zx_inc (by omega)] | rw [zx_addc (by omega)] | rw [zx_cadd (by omega)] | rw [zx_add (by omega)] | rw [zx_subc (by omega) (by omega)] | rw [zx_sub (by omega) (by omega)] | rw [zx_mulc (by omega)] | rw [zx_cmul (by omega)] | rw [zx_divc (by omega)] | rw [zx_modc] | rw [zx_s (by omega) (by omega)] | simp only [w_set0, w_set1, w_setn0, w_setn1] | rw [w_setT] | (with_reducible refine i_t trivial ?_) | (with_reducible refine i_f not_false ?_) | (with_reducible refine i_t (by omega) ?_) | (with_reducible refine i_f (by omega) ?_) | (with_reducible refine i_z (Or.inl rfl) ?_) | (with_reducible refine i_z (Or.inr rfl) ?_) | (with_reducible refine i_nn (by decide) ?_) | (with_reducible refine i_bb ?_ <;> intro hc) | (with_reducible refine i_dne ?_ ?_ <;> intro hc) | (with_reducible refine i_deq ?_ ?_ <;> intro hc) | (with_reducible refine i_bne ?_ ?_ <;> intro hc) | (with_reducible refine i_beq ?_ ?_ <;> intro hc) | (with_reducible refine i_br ?_ ?_ <;> intro hc))
    all_goals first | exact hk2 | (exfalso; omega)
