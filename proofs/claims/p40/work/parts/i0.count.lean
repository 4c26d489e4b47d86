/-! ===== count: both sides ===== -/
/-- what is counted of a telling -/
def zctI (T : Nat) (A : Nat → zTl) (w : Nat) : Int := if w % 10 < T then (if w < 20 then ((tm (A (w % 10)) : Nat) : Int) else if w < 30 then ((zcnt (zWsn (A (w % 10))) 1024 : Nat) : Int) else ((zcnt (tX (A (w % 10))) 256 : Nat) : Int)) else -1
def zctV (n e td c T q s : Nat) (A : Nat → zTl) (w : Int) : Int := if w = 0 then ((n : Nat) : Int) else if w = 1 then ((e : Nat) : Int) else if w = 2 then ((td : Nat) : Int) else if w = 3 then ((c : Nat) : Int) else if w = 4 then ((T : Nat) : Int) else if w = 5 then ((q : Nat) : Int) else if w = 6 then ((s : Nat) : Int) else if 10 ≤ w ∧ w ≤ 39 then zctI T A w.toNat else -1
theorem m_countOf {O : zOm} (hO : zWld O) (hS : zS O = zmS zC0) {T n : Nat} {w : Int} {A : Nat → zTl} {M : zMem} {K : Option zV → zMem → Prop} (hT : M 250 ((11 : Nat) : Int) = ((T : Nat) : Int)) (hT5 : T ≤ 5) (hn : M 250 ((1 : Nat) : Int) = ((n : Nat) : Int)) (hn2 : n ≤ 16) (hA : ∀ t, t < T → rTe M t n (A t) ∧ zTw n (A t))
    (hk : ∀ M', (∀ b j, ¬ (b = 250 ∧ j = 50) → M' b j = M b j) → K (some (0, if 10 ≤ w ∧ w ≤ 39 then zctI T A w.toNat else -1)) M') : zR O F_Model_countOf [(2, 250), (0, w)] M K := by
  apply r_Model_countOf hO
  unfold B_Model_countOf
  have f12 := zMF (k := 12) hS rfl; have a258 := zMA (a := 258) (ty := .int) (n := 7) hS rfl; have zo := zMO hS
  by_cases e : 10 ≤ w ∧ w ≤ 39
  · obtain ⟨w, rfl⟩ : ∃ w' : Nat, w = ((w' : Nat) : Int) := ⟨w.toNat, by omega⟩
    rw [if_pos e] at hk
    have hk2 : ∀ M', (∀ b j, ¬ (b = 250 ∧ j = 50) → M' b j = M b j) → K (some (0, zctI T A w)) M' := hk
    unfold zctI at hk2
    by_cases ht : w % 10 < T
    · rw [if_pos ht] at hk2
      obtain ⟨a1, a2⟩ := hA _ ht
      have g1 := a1.1.1
      by_cases e1 : w < 20
      · rw [if_pos e1] at hk2
        ((with_reducible refine i_Seq (i_If (i_cOr (i_cOr (i_cI_lt (i_L1 (i_I ?_))))))); (with_reducible refine i_f (by omega) ?_); (with_reducible refine i_cI_gt (i_L1 (i_I ?_))); (with_reducible refine i_f (by omega) ?_); (with_reducible refine i_cNot (i_cZ_ne (i_Call (i_as1 (i_A0 (i_as1 (i_Rem (i_L1 (i_I ?_))))))))); rw [zx_modc]; (with_reducible refine i_nn (by decide) ?_); (with_reducible refine i_as0 ?_); (with_reducible refine i_recv0 (by assumption) ?_); (refine m_isTelling hO hS hT ⟨_, rfl, ?_⟩); (rw [decide_eq_true (show 0 ≤ ((w % 10 : Nat) : Int) ∧ ((w % 10 : Nat) : Int) < ((T : Nat) : Int) by omega)]); rw [zbI_t]; (with_reducible refine i_t (by omega) ?_); (with_reducible refine i_Seq (i_Set (i_Rem (i_L1 (i_I ?_))))); rw [zx_modc]; simp only [w_set0, w_set1, w_setn0, w_setn1]; (with_reducible refine i_nn (by decide) ?_); (with_reducible refine i_RetI (i_eIf (i_cI_lt (i_L1 (i_I ?_))))); (with_reducible refine i_t (by omega) ?_); (with_reducible refine i_IA (i_FR (i_A0 ?_))); (with_reducible refine i_fldR (by assumption) ?_); (with_reducible refine i_L2 ?_); (with_reducible refine i_in (by assumption) (by omega) (by omega) ?_); (rw [g1]))
        exact hk2 M (fun _ _ _ => rfl)
      · rw [if_neg e1] at hk2
        by_cases e2 : w < 30
        · rw [if_pos e2] at hk2
          ((with_reducible refine i_Seq (i_If (i_cOr (i_cOr (i_cI_lt (i_L1 (i_I ?_))))))); (with_reducible refine i_f (by omega) ?_); (with_reducible refine i_cI_gt (i_L1 (i_I ?_))); (with_reducible refine i_f (by omega) ?_); (with_reducible refine i_cNot (i_cZ_ne (i_Call (i_as1 (i_A0 (i_as1 (i_Rem (i_L1 (i_I ?_))))))))); rw [zx_modc]; (with_reducible refine i_nn (by decide) ?_); (with_reducible refine i_as0 ?_); (with_reducible refine i_recv0 (by assumption) ?_); (refine m_isTelling hO hS hT ⟨_, rfl, ?_⟩); (rw [decide_eq_true (show 0 ≤ ((w % 10 : Nat) : Int) ∧ ((w % 10 : Nat) : Int) < ((T : Nat) : Int) by omega)]); rw [zbI_t]; (with_reducible refine i_t (by omega) ?_); (with_reducible refine i_Seq (i_Set (i_Rem (i_L1 (i_I ?_))))); rw [zx_modc]; simp only [w_set0, w_set1, w_setn0, w_setn1]; (with_reducible refine i_nn (by decide) ?_); (with_reducible refine i_RetI (i_eIf (i_cI_lt (i_L1 (i_I ?_))))); (with_reducible refine i_f (by omega) ?_); (with_reducible refine i_eIf (i_cI_lt (i_L1 (i_I ?_)))); (with_reducible refine i_t (by omega) ?_); (with_reducible refine i_Call (i_as1 (i_A0 (i_as1 (i_L2 (i_as0 ?_)))))); (with_reducible refine i_recv0 (by assumption) ?_))
          refine m_wordsOf hO hS (by omega) hn hn2 a1 a2 (fun M1 f1 => ⟨_, rfl, ?_⟩)
          exact hk2 M1 f1
        · rw [if_neg e2] at hk2
          ((with_reducible refine i_Seq (i_If (i_cOr (i_cOr (i_cI_lt (i_L1 (i_I ?_))))))); (with_reducible refine i_f (by omega) ?_); (with_reducible refine i_cI_gt (i_L1 (i_I ?_))); (with_reducible refine i_f (by omega) ?_); (with_reducible refine i_cNot (i_cZ_ne (i_Call (i_as1 (i_A0 (i_as1 (i_Rem (i_L1 (i_I ?_))))))))); rw [zx_modc]; (with_reducible refine i_nn (by decide) ?_); (with_reducible refine i_as0 ?_); (with_reducible refine i_recv0 (by assumption) ?_); (refine m_isTelling hO hS hT ⟨_, rfl, ?_⟩); (rw [decide_eq_true (show 0 ≤ ((w % 10 : Nat) : Int) ∧ ((w % 10 : Nat) : Int) < ((T : Nat) : Int) by omega)]); rw [zbI_t]; (with_reducible refine i_t (by omega) ?_); (with_reducible refine i_Seq (i_Set (i_Rem (i_L1 (i_I ?_))))); rw [zx_modc]; simp only [w_set0, w_set1, w_setn0, w_setn1]; (with_reducible refine i_nn (by decide) ?_); (with_reducible refine i_RetI (i_eIf (i_cI_lt (i_L1 (i_I ?_))))); (with_reducible refine i_f (by omega) ?_); (with_reducible refine i_eIf (i_cI_lt (i_L1 (i_I ?_)))); (with_reducible refine i_f (by omega) ?_); (with_reducible refine i_Call (i_as1 (i_A0 (i_as1 (i_L2 (i_as0 ?_)))))); (with_reducible refine i_recv0 (by assumption) ?_); (refine m_exceptsOf hO hS (by omega) a1 a2 ⟨_, rfl, ?_⟩))
          exact hk2 M (fun _ _ _ => rfl)
    · rw [if_neg ht] at hk2
      ((with_reducible refine i_Seq (i_If (i_cOr (i_cOr (i_cI_lt (i_L1 (i_I ?_))))))); (with_reducible refine i_f (by omega) ?_); (with_reducible refine i_cI_gt (i_L1 (i_I ?_))); (with_reducible refine i_f (by omega) ?_); (with_reducible refine i_cNot (i_cZ_ne (i_Call (i_as1 (i_A0 (i_as1 (i_Rem (i_L1 (i_I ?_))))))))); rw [zx_modc]; (with_reducible refine i_nn (by decide) ?_); (with_reducible refine i_as0 ?_); (with_reducible refine i_recv0 (by assumption) ?_); (refine m_isTelling hO hS hT ⟨_, rfl, ?_⟩); (rw [decide_eq_false (show ¬ (0 ≤ ((w % 10 : Nat) : Int) ∧ ((w % 10 : Nat) : Int) < ((T : Nat) : Int)) by omega)]); rw [zbI_f]; (with_reducible refine i_f (by omega) ?_); (with_reducible refine i_RetI (i_I ?_)))
      exact hk2 M (fun _ _ _ => rfl)
  · rw [if_neg e] at hk
    by_cases e1 : w < 10
    · ((with_reducible refine i_Seq (i_If (i_cOr (i_cOr (i_cI_lt (i_L1 (i_I ?_))))))); (with_reducible refine i_t (by omega) ?_); (with_reducible refine i_RetI (i_I ?_)))
      exact hk M (fun _ _ _ => rfl)
    · have e2 : 39 < w := by omega
      ((with_reducible refine i_Seq (i_If (i_cOr (i_cOr (i_cI_lt (i_L1 (i_I ?_))))))); (with_reducible refine i_f (by omega) ?_); (with_reducible refine i_cI_gt (i_L1 (i_I ?_))); (with_reducible refine i_t (by omega) ?_); (with_reducible refine i_RetI (i_I ?_)))
      exact hk M (fun _ _ _ => rfl)
theorem m_count {O : zOm} (hO : zWld O) (hS : zS O = zmS zC0) {T n td c q s : Nat} {w : Int} {A : Nat → zTl} {N : Nat → Nat → Bool} {M : zMem} {K : Option zV → zMem → Prop} (hT : M 250 ((11 : Nat) : Int) = ((T : Nat) : Int)) (hT5 : T ≤ 5) (hn : M 250 ((1 : Nat) : Int) = ((n : Nat) : Int)) (hn2 : n ≤ 16) (hd : M 250 ((4 : Nat) : Int) = ((td : Nat) : Int)) (hc : M 250 ((5 : Nat) : Int) = ((c : Nat) : Int)) (hq : M 250 ((28 : Nat) : Int) = ((q : Nat) : Int)) (hs : M 250 ((33 : Nat) : Int) = ((s : Nat) : Int)) (hN : rMx M 251 N) (hA : ∀ t, t < T → rTe M t n (A t) ∧ zTw n (A t))
    (hk : ∀ M', (∀ b j, ¬ (b = 250 ∧ j = 50 ∨ b = 267) → M' b j = M b j) → K (some (0, zctV n (zp2 N n) td c T q s A w)) M') : zR O F_Model_count [(2, 250), (0, w)] M K := by
  have hb01 : ∀ j : Nat, j < 256 → M ((251 : Nat) : Int) j = 0 ∨ M ((251 : Nat) : Int) j = 1 := fun j hj => hN.b01 hj
  unfold zctV at hk
  apply r_Model_count hO
  unfold B_Model_count
  have f1 := zMF (k := 1) hS rfl; have f4 := zMF (k := 4) hS rfl; have f5 := zMF (k := 5) hS rfl; have f11 := zMF (k := 11) hS rfl; have f28 := zMF (k := 28) hS rfl; have f33 := zMF (k := 33) hS rfl; have zo := zMO hS
  by_cases e0 : w = 0
  · subst e0
    ((with_reducible refine i_Sw (i_L1 (i_sw1 ?_))); (refine i_t (by decide) ?_); (with_reducible refine i_RetI (i_F (i_A0 ?_))); (with_reducible refine i_fld (by assumption) ?_); (rw [hn]))
    exact hk M (fun _ _ _ => rfl)
  rw [if_neg e0] at hk
  by_cases e1 : w = 1
  · subst e1
    ((with_reducible refine i_Sw (i_L1 (i_sw1 ?_))); (refine i_f (by decide) ?_); (with_reducible refine i_sw1 ?_); (refine i_t (by decide) ?_); (with_reducible refine i_Seq (i_sCall (i_as1 (i_A0 (i_as0 ?_))))); (with_reducible refine i_recv0 (by assumption) ?_))
    refine m_aimAtNet hO hS hN hb01 (fun M1 f1' g1 => ⟨rfl, ?_⟩)
    have n1 : M1 250 ((1 : Nat) : Int) = ((n : Nat) : Int) := by rw [f1' _ _ (by omega)]; exact hn
    ((with_reducible refine i_RetI (i_Call (i_as1 (i_A0 (i_as0 ?_))))); (with_reducible refine i_recv0 (by assumption) ?_))
    refine m_tiesOfGoal hO hS n1 hn2 g1 ⟨_, rfl, ?_⟩
    rw [zP2_zp2]
    exact hk M1 (fun b j q => f1' b j (by omega))
  rw [if_neg e1] at hk
  by_cases e2 : w = 2
  · subst e2
    ((with_reducible refine i_Sw (i_L1 (i_sw1 ?_))); (refine i_f (by decide) ?_); (with_reducible refine i_sw1 ?_); (refine i_f (by decide) ?_); (with_reducible refine i_sw1 ?_); (refine i_t (by decide) ?_); (with_reducible refine i_RetI (i_F (i_A0 ?_))); (with_reducible refine i_fld (by assumption) ?_); (rw [hd]))
    exact hk M (fun _ _ _ => rfl)
  rw [if_neg e2] at hk
  by_cases e3 : w = 3
  · subst e3
    ((with_reducible refine i_Sw (i_L1 (i_sw1 ?_))); (refine i_f (by decide) ?_); (with_reducible refine i_sw1 ?_); (refine i_f (by decide) ?_); (with_reducible refine i_sw1 ?_); (refine i_f (by decide) ?_); (with_reducible refine i_sw1 ?_); (refine i_t (by decide) ?_); (with_reducible refine i_RetI (i_F (i_A0 ?_))); (with_reducible refine i_fld (by assumption) ?_); (rw [hc]))
    exact hk M (fun _ _ _ => rfl)
  rw [if_neg e3] at hk
  by_cases e4 : w = 4
  · subst e4
    ((with_reducible refine i_Sw (i_L1 (i_sw1 ?_))); (refine i_f (by decide) ?_); (with_reducible refine i_sw1 ?_); (refine i_f (by decide) ?_); (with_reducible refine i_sw1 ?_); (refine i_f (by decide) ?_); (with_reducible refine i_sw1 ?_); (refine i_f (by decide) ?_); (with_reducible refine i_sw1 ?_); (refine i_t (by decide) ?_); (with_reducible refine i_RetI (i_F (i_A0 ?_))); (with_reducible refine i_fld (by assumption) ?_); (rw [hT]))
    exact hk M (fun _ _ _ => rfl)
  rw [if_neg e4] at hk
  by_cases e5 : w = 5
  · subst e5
    ((with_reducible refine i_Sw (i_L1 (i_sw1 ?_))); (refine i_f (by decide) ?_); (with_reducible refine i_sw1 ?_); (refine i_f (by decide) ?_); (with_reducible refine i_sw1 ?_); (refine i_f (by decide) ?_); (with_reducible refine i_sw1 ?_); (refine i_f (by decide) ?_); (with_reducible refine i_sw1 ?_); (refine i_f (by decide) ?_); (with_reducible refine i_sw1 ?_); (refine i_t (by decide) ?_); (with_reducible refine i_RetI (i_F (i_A0 ?_))); (with_reducible refine i_fld (by assumption) ?_); (rw [hq]))
    exact hk M (fun _ _ _ => rfl)
  rw [if_neg e5] at hk
  by_cases e6 : w = 6
  · subst e6
    ((with_reducible refine i_Sw (i_L1 (i_sw1 ?_))); (refine i_f (by decide) ?_); (with_reducible refine i_sw1 ?_); (refine i_f (by decide) ?_); (with_reducible refine i_sw1 ?_); (refine i_f (by decide) ?_); (with_reducible refine i_sw1 ?_); (refine i_f (by decide) ?_); (with_reducible refine i_sw1 ?_); (refine i_f (by decide) ?_); (with_reducible refine i_sw1 ?_); (refine i_f (by decide) ?_); (with_reducible refine i_sw1 ?_); (refine i_t (by decide) ?_); (with_reducible refine i_RetI (i_F (i_A0 ?_))); (with_reducible refine i_fld (by assumption) ?_); (rw [hs]))
    exact hk M (fun _ _ _ => rfl)
  rw [if_neg e6] at hk
  have z0 : ¬ w ∈ [(0 : Int)] := by simpa using e0
  have z1 : ¬ w ∈ [(1 : Int)] := by simpa using e1
  have z2 : ¬ w ∈ [(2 : Int)] := by simpa using e2
  have z3 : ¬ w ∈ [(3 : Int)] := by simpa using e3
  have z4 : ¬ w ∈ [(4 : Int)] := by simpa using e4
  have z5 : ¬ w ∈ [(5 : Int)] := by simpa using e5
  have z6 : ¬ w ∈ [(6 : Int)] := by simpa using e6
  ((with_reducible refine i_Sw (i_L1 (i_sw1 ?_))); (refine i_f z0 ?_); (with_reducible refine i_sw1 ?_); (refine i_f z1 ?_); (with_reducible refine i_sw1 ?_); (refine i_f z2 ?_); (with_reducible refine i_sw1 ?_); (refine i_f z3 ?_); (with_reducible refine i_sw1 ?_); (refine i_f z4 ?_); (with_reducible refine i_sw1 ?_); (refine i_f z5 ?_); (with_reducible refine i_sw1 ?_); (refine i_f z6 ?_); (with_reducible refine i_sw0 (i_RetI (i_Call (i_as1 (i_A0 (i_as1 (i_L1 (i_as0 ?_)))))))); (with_reducible refine i_recv0 (by assumption) ?_))
  refine m_countOf hO hS hT hT5 hn hn2 hA (fun M1 f1' => ⟨_, rfl, ?_⟩)
  exact hk M1 (fun b j q => f1' b j (by omega))
theorem c_countIn {O : zOm} (hO : zWld O) (hS : zS O = zmS zC0) {T n : Nat} {w : Int} {A : Nat → zTl} {M : zMem} {K : Option zV → zMem → Prop} (hT : M ((0 : Nat) : Int) ((4 : Nat) : Int) = ((T : Nat) : Int)) (hT5 : T ≤ 5) (hn2 : n ≤ 16) (hA : ∀ t, t < T → zTR M (185 + 13 * t) n (A t) ∧ zTw n (A t))
    (hk : K (some (0, if 10 ≤ w ∧ w ≤ 39 then zctI T A w.toNat else -1)) M) : zR O F_ToldNet_countIn [(2, ((0 : Nat) : Int)), (0, w)] M K := by
  apply r_ToldNet_countIn hO
  unfold B_ToldNet_countIn
  have z0 := zo_0 hS
  by_cases e : 10 ≤ w ∧ w ≤ 39
  · obtain ⟨w, rfl⟩ : ∃ w' : Nat, w = ((w' : Nat) : Int) := ⟨w.toNat, by omega⟩
    rw [if_pos e] at hk
    have hk2 : K (some (0, zctI T A w)) M := hk
    unfold zctI at hk2
    ((with_reducible refine i_Seq (i_If (i_cOr (i_cI_lt (i_L1 (i_I ?_)))))); (with_reducible refine i_f (by omega) ?_); (with_reducible refine i_cI_gt (i_L1 (i_I ?_))); (with_reducible refine i_f (by omega) ?_); (with_reducible refine i_Seq (i_Set (i_Call (i_as1 (i_A0 (i_as1 (i_Rem (i_L1 (i_I ?_))))))))); rw [zx_modc]; (with_reducible refine i_nn (by decide) ?_); (with_reducible refine i_as0 ?_); (with_reducible refine i_recv0 (by assumption) ?_); simp only [w_set0, w_set1, w_setn0, w_setn1])
    refine c_find hO hS hT hT5 (fun hx => ⟨_, rfl, ?_⟩) (fun k e3 hk1 => ⟨_, rfl, ?_⟩)
    · rw [if_neg (by omega)] at hk2
      ((with_reducible refine i_Seq (i_If (i_cN (i_A2 ?_)))); simp only [w_set0, w_set1, w_setn0, w_setn1]; (with_reducible refine i_t trivial ?_); (with_reducible refine i_RetI (i_I ?_)))
      exact hk2
    · obtain rfl : w % 10 = k := by omega
      rw [if_pos hk1] at hk2
      obtain ⟨⟨x0, x1, x2, x3, x4, x5, x6, x7⟩, ⟨xa, xb⟩, ⟨p0, p1, p2, p3, p4, p5, p6, p7, p8⟩, ⟨n7, n9, n11⟩⟩ := zTelT hS (show w % 10 < 5 by omega)
      have hxT := zTelT hS (show w % 10 < 5 by omega)
      have r9 := n9.2.2.2
      obtain ⟨a1, a2⟩ := hA _ hk1
      have g1 := a1.1.2.1
      have g2 := a1.2.2.1.1.1
      by_cases e1 : w < 20
      · rw [if_pos e1] at hk2
        ((with_reducible refine i_Seq (i_If (i_cN (i_A2 ?_)))); (with_reducible refine i_f (by omega) ?_); (with_reducible refine i_Seq (i_If (i_cI_lt (i_L1 (i_I ?_))))); (with_reducible refine i_t (by omega) ?_); (with_reducible refine i_RetI (i_F (i_FR (i_A2 ?_)))); (with_reducible refine i_fldR (by assumption) ?_); (with_reducible refine i_fld (by assumption) ?_); (rw [g1]))
        exact hk2
      · rw [if_neg e1] at hk2
        by_cases e2 : w < 30
        · rw [if_pos e2] at hk2
          ((with_reducible refine i_Seq (i_If (i_cN (i_A2 ?_)))); (with_reducible refine i_f (by omega) ?_); (with_reducible refine i_Seq (i_If (i_cI_lt (i_L1 (i_I ?_))))); (with_reducible refine i_f (by omega) ?_); (with_reducible refine i_RetI (i_eIf (i_cI_lt (i_L1 (i_I ?_))))); (with_reducible refine i_t (by omega) ?_); (with_reducible refine i_F (i_A2 ?_)); (with_reducible refine i_fld (by assumption) ?_); (rw [g2]))
          exact hk2
        · rw [if_neg e2] at hk2
          ((with_reducible refine i_Seq (i_If (i_cN (i_A2 ?_)))); (with_reducible refine i_f (by omega) ?_); (with_reducible refine i_Seq (i_If (i_cI_lt (i_L1 (i_I ?_))))); (with_reducible refine i_f (by omega) ?_); (with_reducible refine i_RetI (i_eIf (i_cI_lt (i_L1 (i_I ?_))))); (with_reducible refine i_f (by omega) ?_); (with_reducible refine i_Call (i_as1 (i_FR (i_A2 ?_)))); (with_reducible refine i_fldR (by assumption) ?_); (with_reducible refine i_as0 ?_); (with_reducible refine i_recv0 (by assumption) ?_))
          refine zTR.pairs hO hxT a1 hn2 a2 ⟨_, rfl, ?_⟩
          exact hk2
  · rw [if_neg e] at hk
    by_cases e1 : w < 10
    · ((with_reducible refine i_Seq (i_If (i_cOr (i_cI_lt (i_L1 (i_I ?_)))))); (with_reducible refine i_t (by omega) ?_); (with_reducible refine i_RetI (i_I ?_)))
      exact hk
    · have e2 : 39 < w := by omega
      ((with_reducible refine i_Seq (i_If (i_cOr (i_cI_lt (i_L1 (i_I ?_)))))); (with_reducible refine i_f (by omega) ?_); (with_reducible refine i_cI_gt (i_L1 (i_I ?_))); (with_reducible refine i_t (by omega) ?_); (with_reducible refine i_RetI (i_I ?_)))
      exact hk
theorem c_count {O : zOm} (hO : zWld O) (hS : zS O = zmS zC0) {T n td c q s : Nat} {w : Int} {A : Nat → zTl} {N : Nat → Nat → Nat → Bool} {M : zMem} {K : Option zV → zMem → Prop} (hT : M ((0 : Nat) : Int) ((4 : Nat) : Int) = ((T : Nat) : Int)) (hT5 : T ≤ 5) (hn2 : n ≤ 16) (hD : cDy M n td c N) (htd : td < 41) (hR : zReg n (N td)) (hq : M ((148 : Nat) : Int) ((7 : Nat) : Int) = ((q : Nat) : Int)) (hs : M ((86 : Nat) : Int) ((5 : Nat) : Int) = ((s : Nat) : Int)) (hA : ∀ t, t < T → zTR M (185 + 13 * t) n (A t) ∧ zTw n (A t))
    (hk : K (some (0, zctV n (zp2 (N td) n) td c T q s A w)) M) : zR O F_ToldNet_count [(2, ((0 : Nat) : Int)), (0, w)] M K := by
  obtain ⟨d1, d2, d3, d4⟩ := hD
  have hy := zNetD hS (d := td) htd
  have hy4 := hy.2.2.2
  have o1 := zo_1 hS
  unfold zctV at hk
  apply r_ToldNet_count hO
  unfold B_ToldNet_count
  have f0_0 := zf_0_0 hS; have f1_2 := zf_1_2 hS; have f1_3 := zf_1_3 hS; have f1_4 := zf_1_4 hS; have f0_4 := zf_0_4 hS; have f0_9 := zf_0_9 hS; have f148_7 := zf_148_7 hS; have f0_1 := zf_0_1 hS; have f86_5 := zf_86_5 hS; have z0 := zo_0 hS; have z1 := zo_1 hS; have z86 := zo_86 hS; have z148 := zo_148 hS
  by_cases e0 : w = 0
  · subst e0
    ((with_reducible refine i_Sw (i_L1 (i_sw1 ?_))); (refine i_t (by decide) ?_); (with_reducible refine i_RetI (i_F (i_FR (i_A0 ?_)))); (with_reducible refine i_fldR (by assumption) ?_); (with_reducible refine i_fld (by assumption) ?_); (rw [d1]))
    exact hk
  rw [if_neg e0] at hk
  by_cases e1 : w = 1
  · subst e1
    ((with_reducible refine i_Sw (i_L1 (i_sw1 ?_))); (refine i_f (by decide) ?_); (with_reducible refine i_sw1 ?_); (refine i_t (by decide) ?_); (with_reducible refine i_RetI (i_Call (i_as1 (i_Call (i_as1 (i_FR (i_A0 ?_))))))); (with_reducible refine i_fldR (by assumption) ?_); (with_reducible refine i_as0 ?_); (with_reducible refine i_recv0 (by assumption) ?_); (refine c_now hO hS d2 htd ⟨_, rfl, ?_⟩); (with_reducible refine i_as0 ?_); (with_reducible refine i_recv0 (by assumption) ?_); (refine s_Net_pairs hO hy (d4 td (Nat.le_refl _)) hn2 ⟨_, rfl, ?_⟩))
    rw [zpairs_p2 hR hn2]
    exact hk
  rw [if_neg e1] at hk
  by_cases e2 : w = 2
  · subst e2
    ((with_reducible refine i_Sw (i_L1 (i_sw1 ?_))); (refine i_f (by decide) ?_); (with_reducible refine i_sw1 ?_); (refine i_f (by decide) ?_); (with_reducible refine i_sw1 ?_); (refine i_t (by decide) ?_); (with_reducible refine i_RetI (i_F (i_FR (i_A0 ?_)))); (with_reducible refine i_fldR (by assumption) ?_); (with_reducible refine i_fld (by assumption) ?_); (rw [d2]))
    exact hk
  rw [if_neg e2] at hk
  by_cases e3 : w = 3
  · subst e3
    ((with_reducible refine i_Sw (i_L1 (i_sw1 ?_))); (refine i_f (by decide) ?_); (with_reducible refine i_sw1 ?_); (refine i_f (by decide) ?_); (with_reducible refine i_sw1 ?_); (refine i_f (by decide) ?_); (with_reducible refine i_sw1 ?_); (refine i_t (by decide) ?_); (with_reducible refine i_RetI (i_F (i_FR (i_A0 ?_)))); (with_reducible refine i_fldR (by assumption) ?_); (with_reducible refine i_fld (by assumption) ?_); (rw [d3]))
    exact hk
  rw [if_neg e3] at hk
  by_cases e4 : w = 4
  · subst e4
    ((with_reducible refine i_Sw (i_L1 (i_sw1 ?_))); (refine i_f (by decide) ?_); (with_reducible refine i_sw1 ?_); (refine i_f (by decide) ?_); (with_reducible refine i_sw1 ?_); (refine i_f (by decide) ?_); (with_reducible refine i_sw1 ?_); (refine i_f (by decide) ?_); (with_reducible refine i_sw1 ?_); (refine i_t (by decide) ?_); (with_reducible refine i_RetI (i_F (i_A0 ?_))); (with_reducible refine i_fld (by assumption) ?_); (rw [hT]))
    exact hk
  rw [if_neg e4] at hk
  by_cases e5 : w = 5
  · subst e5
    ((with_reducible refine i_Sw (i_L1 (i_sw1 ?_))); (refine i_f (by decide) ?_); (with_reducible refine i_sw1 ?_); (refine i_f (by decide) ?_); (with_reducible refine i_sw1 ?_); (refine i_f (by decide) ?_); (with_reducible refine i_sw1 ?_); (refine i_f (by decide) ?_); (with_reducible refine i_sw1 ?_); (refine i_f (by decide) ?_); (with_reducible refine i_sw1 ?_); (refine i_t (by decide) ?_); (with_reducible refine i_RetI (i_F (i_FR (i_A0 ?_)))); (with_reducible refine i_fldR (by assumption) ?_); (with_reducible refine i_fld (by assumption) ?_); (rw [hq]))
    exact hk
  rw [if_neg e5] at hk
  by_cases e6 : w = 6
  · subst e6
    ((with_reducible refine i_Sw (i_L1 (i_sw1 ?_))); (refine i_f (by decide) ?_); (with_reducible refine i_sw1 ?_); (refine i_f (by decide) ?_); (with_reducible refine i_sw1 ?_); (refine i_f (by decide) ?_); (with_reducible refine i_sw1 ?_); (refine i_f (by decide) ?_); (with_reducible refine i_sw1 ?_); (refine i_f (by decide) ?_); (with_reducible refine i_sw1 ?_); (refine i_f (by decide) ?_); (with_reducible refine i_sw1 ?_); (refine i_t (by decide) ?_); (with_reducible refine i_RetI (i_F (i_FR (i_A0 ?_)))); (with_reducible refine i_fldR (by assumption) ?_); (with_reducible refine i_fld (by assumption) ?_); (rw [hs]))
    exact hk
  rw [if_neg e6] at hk
  have z0 : ¬ w ∈ [(0 : Int)] := by simpa using e0
  have z1 : ¬ w ∈ [(1 : Int)] := by simpa using e1
  have z2 : ¬ w ∈ [(2 : Int)] := by simpa using e2
  have z3 : ¬ w ∈ [(3 : Int)] := by simpa using e3
  have z4 : ¬ w ∈ [(4 : Int)] := by simpa using e4
  have z5 : ¬ w ∈ [(5 : Int)] := by simpa using e5
  have z6 : ¬ w ∈ [(6 : Int)] := by simpa using e6
  ((with_reducible refine i_Sw (i_L1 (i_sw1 ?_))); (refine i_f z0 ?_); (with_reducible refine i_sw1 ?_); (refine i_f z1 ?_); (with_reducible refine i_sw1 ?_); (refine i_f z2 ?_); (with_reducible refine i_sw1 ?_); (refine i_f z3 ?_); (with_reducible refine i_sw1 ?_); (refine i_f z4 ?_); (with_reducible refine i_sw1 ?_); (refine i_f z5 ?_); (with_reducible refine i_sw1 ?_); (refine i_f z6 ?_); (with_reducible refine i_sw0 (i_RetI (i_Call (i_as1 (i_A0 (i_as1 (i_L1 (i_as0 ?_)))))))); (with_reducible refine i_recv0 (by assumption) ?_))
  exact c_countIn hO hS hT hT5 hn2 hA ⟨_, rfl, hk⟩
