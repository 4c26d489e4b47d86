section
-- part i0.count.lean.txt
/-! ===== count: both sides ===== -/
/-- what is counted of a telling -/
def zctI (T : Nat) (A : Nat → zTl) (w : Nat) : Int := if w % 10 < T then (if w < 20 then ((tm (A (w % 10)) : Nat) : Int) else if w < 30 then ((zcnt (zWsn (A (w % 10))) 1024 : Nat) : Int) else ((zcnt (tX (A (w % 10))) 256 : Nat) : Int)) else -1
def zctV (n e td c T q s : Nat) (A : Nat → zTl) (w : Int) : Int := if w = 0 then ((n : Nat) : Int) else if w = 1 then ((e : Nat) : Int) else if w = 2 then ((td : Nat) : Int) else if w = 3 then ((c : Nat) : Int) else if w = 4 then ((T : Nat) : Int) else if w = 5 then ((q : Nat) : Int) else if w = 6 then ((s : Nat) : Int) else if 10 ≤ w ∧ w ≤ 39 then zctI T A w.toNat else -1
theorem m_countOf {O : zOm} (hO : zWld O) (hS : zS O = zmS zC0) {T n : Nat} {w : Int} {A : Nat → zTl} {M : zMem} {K : Option zV → zMem → Prop} (hT : M 250 ((11 : Nat) : Int) = ((T : Nat) : Int)) (hT5 : T ≤ 5) (hn : M 250 ((1 : Nat) : Int) = ((n : Nat) : Int)) (hn2 : n ≤ 16) (hA : ∀ t, t < T → rTe M t n (A t) ∧ zTw n (A t))
    (hk : ∀ M', (∀ b j, ¬ (b = 250 ∧ j = 50) → M' b j = M b j) → K (some (0, if 10 ≤ w ∧ w ≤ 39 then zctI T A w.toNat else -1)) M') : zR O F_Model_countOf [(2, 250), (0, w)] M K := by
  apply r_Model_countOf hO
  unfold B_Model_countOf
  have f12 := zMF (k := 12) hS rfl; have a258 := zMA (a := 258) (ty := .int) (n := 7) hS rfl; have zo := zMO hS
  by_cases e : 10 ≤ w ∧ w ≤ 39
  · obtain ⟨w, rfl⟩ : ∃ w' : Nat, w = ((w' : Nat) : Int) := ⟨w.toNat, by omega⟩
    rw [if_pos e] at hk
    have hk2 : ∀ M', (∀ b j, ¬ (b = 250 ∧ j = 50) → M' b j = M b j) → K (some (0, zctI T A w)) M' := hk
    unfold zctI at hk2
    by_cases ht : w % 10 < T
    · rw [if_pos ht] at hk2
      obtain ⟨a1, a2⟩ := hA _ ht
      have g1 := a1.1.1
      by_cases e1 : w < 20
      · rw [if_pos e1] at hk2
        ((with_reducible refine i_Seq (i_If (i_cOr (i_cOr (i_cI_lt (i_L1 (i_I ?_))))))); (with_reducible refine i_f (by omega) ?_); (with_reducible refine i_cI_gt (i_L1 (i_I ?_))); (with_reducible refine i_f (by omega) ?_); (with_reducible refine i_cNot (i_cZ_ne (i_Call (i_as1 (i_A0 (i_as1 (i_Rem (i_L1 (i_I ?_))))))))); rw [zx_modc]; (with_reducible refine i_nn (by decide) ?_); (with_reducible refine i_as0 ?_); (with_reducible refine i_recv0 (by assumption) ?_); (refine m_isTelling hO hS hT ⟨_, rfl, ?_⟩); (rw [decide_eq_true (show 0 ≤ ((w % 10 : Nat) : Int) ∧ ((w % 10 : Nat) : Int) < ((T : Nat) : Int) by omega)]); rw [zbI_t]; (with_reducible refine i_t (by omega) ?_); (with_reducible refine i_Seq (i_Set (i_Rem (i_L1 (i_I ?_))))); rw [zx_modc]; simp only [w_set0, w_set1, w_setn0, w_setn1]; (with_reducible refine i_nn (by decide) ?_); (with_reducible refine i_RetI (i_eIf (i_cI_lt (i_L1 (i_I ?_))))); (with_reducible refine i_t (by omega) ?_); (with_reducible refine i_IA (i_FR (i_A0 ?_))); (with_reducible refine i_fldR (by assumption) ?_); (with_reducible refine i_L2 ?_); (with_reducible refine i_in (by assumption) (by omega) (by omega) ?_); (rw [g1]))
        exact hk2 M (fun _ _ _ => rfl)
      · rw [if_neg e1] at hk2
        by_cases e2 : w < 30
        · rw [if_pos e2] at hk2
          ((with_reducible refine i_Seq (i_If (i_cOr (i_cOr (i_cI_lt (i_L1 (i_I ?_))))))); (with_reducible refine i_f (by omega) ?_); (with_reducible refine i_cI_gt (i_L1 (i_I ?_))); (with_reducible refine i_f (by omega) ?_); (with_reducible refine i_cNot (i_cZ_ne (i_Call (i_as1 (i_A0 (i_as1 (i_Rem (i_L1 (i_I ?_))))))))); rw [zx_modc]; (with_reducible refine i_nn (by decide) ?_); (with_reducible refine i_as0 ?_); (with_reducible refine i_recv0 (by assumption) ?_); (refine m_isTelling hO hS hT ⟨_, rfl, ?_⟩); (rw [decide_eq_true (show 0 ≤ ((w % 10 : Nat) : Int) ∧ ((w % 10 : Nat) : Int) < ((T : Nat) : Int) by omega)]); rw [zbI_t]; (with_reducible refine i_t (by omega) ?_); (with_reducible refine i_Seq (i_Set (i_Rem (i_L1 (i_I ?_))))); rw [zx_modc]; simp only [w_set0, w_set1, w_setn0, w_setn1]; (with_reducible refine i_nn (by decide) ?_); (with_reducible refine i_RetI (i_eIf (i_cI_lt (i_L1 (i_I ?_))))); (with_reducible refine i_f (by omega) ?_); (with_reducible refine i_eIf (i_cI_lt (i_L1 (i_I ?_)))); (with_reducible refine i_t (by omega) ?_); (with_reducible refine i_Call (i_as1 (i_A0 (i_as1 (i_L2 (i_as0 ?_)))))); (with_reducible refine i_recv0 (by assumption) ?_))
          refine m_wordsOf hO hS (by omega) hn hn2 a1 a2 (fun M1 f1 => ⟨_, rfl, ?_⟩)
          exact hk2 M1 f1
        · rw [if_neg e2] at hk2
          ((with_reducible refine i_Seq (i_If (i_cOr (i_cOr (i_cI_lt (i_L1 (i_I ?_))))))); (with_reducible refine i_f (by omega) ?_); (with_reducible refine i_cI_gt (i_L1 (i_I ?_))); (with_reducible refine i_f (by omega) ?_); (with_reducible refine i_cNot (i_cZ_ne (i_Call (i_as1 (i_A0 (i_as1 (i_Rem (i_L1 (i_I ?_))))))))); rw [zx_modc]; (with_reducible refine i_nn (by decide) ?_); (with_reducible refine i_as0 ?_); (with_reducible refine i_recv0 (by assumption) ?_); (refine m_isTelling hO hS hT ⟨_, rfl, ?_⟩); (rw [decide_eq_true (show 0 ≤ ((w % 10 : Nat) : Int) ∧ ((w % 10 : Nat) : Int) < ((T : Nat) : Int) by omega)]); rw [zbI_t]; (with_reducible refine i_t (by omega) ?_); (with_reducible refine i_Seq (i_Set (i_Rem (i_L1 (i_I ?_))))); rw [zx_modc]; simp only [w_set0, w_set1, w_setn0, w_setn1]; (with_reducible refine i_nn (by decide) ?_); (with_reducible refine i_RetI (i_eIf (i_cI_lt (i_L1 (i_I ?_))))); (with_reducible refine i_f (by omega) ?_); (with_reducible refine i_eIf (i_cI_lt (i_L1 (i_I ?_)))); (with_reducible refine i_f (by omega) ?_); (with_reducible refine i_Call (i_as1 (i_A0 (i_as1 (i_L2 (i_as0 ?_)))))); (with_reducible refine i_recv0 (by assumption) ?_); (refine m_exceptsOf hO hS (by omega) a1 a2 ⟨_, rfl, ?_⟩))
          exact hk2 M (fun _ _ _ => rfl)
    · rw [if_neg ht] at hk2
      ((with_reducible refine i_Seq (i_If (i_cOr (i_cOr (i_cI_lt (i_L1 (i_I ?_))))))); (with_reducible refine i_f (by omega) ?_); (with_reducible refine i_cI_gt (i_L1 (i_I ?_))); (with_reducible refine i_f (by omega) ?_); (with_reducible refine i_cNot (i_cZ_ne (i_Call (i_as1 (i_A0 (i_as1 (i_Rem (i_L1 (i_I ?_))))))))); rw [zx_modc]; (with_reducible refine i_nn (by decide) ?_); (with_reducible refine i_as0 ?_); (with_reducible refine i_recv0 (by assumption) ?_); (refine m_isTelling hO hS hT ⟨_, rfl, ?_⟩); (rw [decide_eq_false (show ¬ (0 ≤ ((w % 10 : Nat) : Int) ∧ ((w % 10 : Nat) : Int) < ((T : Nat) : Int)) by omega)]); rw [zbI_f]; (with_reducible refine i_f (by omega) ?_); (with_reducible refine i_RetI (i_I ?_)))
      exact hk2 M (fun _ _ _ => rfl)
  · rw [if_neg e] at hk
    by_cases e1 : w < 10
    · ((with_reducible refine i_Seq (i_If (i_cOr (i_cOr (i_cI_lt (i_L1 (i_I ?_))))))); (with_reducible refine i_t (by omega) ?_); (with_reducible refine i_RetI (i_I ?_)))
      exact hk M (fun _ _ _ => rfl)
    · have e2 : 39 < w := by omega
      ((with_reducible refine i_Seq (i_If (i_cOr (i_cOr (i_cI_lt (i_L1 (i_I ?_))))))); (with_reducible refine i_f (by omega) ?_); (with_reducible refine i_cI_gt (i_L1 (i_I ?_))); (with_reducible refine i_t (by omega) ?_); (with_reducible refine i_RetI (i_I ?_)))
      exact hk M (fun _ _ _ => rfl)
theorem m_count {O : zOm} (hO : zWld O) (hS : zS O = zmS zC0) {T n td c q s : Nat} {w : Int} {A : Nat → zTl} {N : Nat → Nat → Bool} {M : zMem} {K : Option zV → zMem → Prop} (hT : M 250 ((11 : Nat) : Int) = ((T : Nat) : Int)) (hT5 : T ≤ 5) (hn : M 250 ((1 : Nat) : Int) = ((n : Nat) : Int)) (hn2 : n ≤ 16) (hd : M 250 ((4 : Nat) : Int) = ((td : Nat) : Int)) (hc : M 250 ((5 : Nat) : Int) = ((c : Nat) : Int)) (hq : M 250 ((28 : Nat) : Int) = ((q : Nat) : Int)) (hs : M 250 ((33 : Nat) : Int) = ((s : Nat) : Int)) (hN : rMx M 251 N) (hA : ∀ t, t < T → rTe M t n (A t) ∧ zTw n (A t))
    (hk : ∀ M', (∀ b j, ¬ (b = 250 ∧ j = 50 ∨ b = 267) → M' b j = M b j) → K (some (0, zctV n (zp2 N n) td c T q s A w)) M') : zR O F_Model_count [(2, 250), (0, w)] M K := by
  have hb01 : ∀ j : Nat, j < 256 → M ((251 : Nat) : Int) j = 0 ∨ M ((251 : Nat) : Int) j = 1 := fun j hj => hN.b01 hj
  unfold zctV at hk
  apply r_Model_count hO
  unfold B_Model_count
  have f1 := zMF (k := 1) hS rfl; have f4 := zMF (k := 4) hS rfl; have f5 := zMF (k := 5) hS rfl; have f11 := zMF (k := 11) hS rfl; have f28 := zMF (k := 28) hS rfl; have f33 := zMF (k := 33) hS rfl; have zo := zMO hS
  by_cases e0 : w = 0
  · subst e0
    ((with_reducible refine i_Sw (i_L1 (i_sw1 ?_))); (refine i_t (by decide) ?_); (with_reducible refine i_RetI (i_F (i_A0 ?_))); (with_reducible refine i_fld (by assumption) ?_); (rw [hn]))
    exact hk M (fun _ _ _ => rfl)
  rw [if_neg e0] at hk
  by_cases e1 : w = 1
  · subst e1
    ((with_reducible refine i_Sw (i_L1 (i_sw1 ?_))); (refine i_f (by decide) ?_); (with_reducible refine i_sw1 ?_); (refine i_t (by decide) ?_); (with_reducible refine i_Seq (i_sCall (i_as1 (i_A0 (i_as0 ?_))))); (with_reducible refine i_recv0 (by assumption) ?_))
    refine m_aimAtNet hO hS hN hb01 (fun M1 f1' g1 => ⟨rfl, ?_⟩)
    have n1 : M1 250 ((1 : Nat) : Int) = ((n : Nat) : Int) := by rw [f1' _ _ (by omega)]; exact hn
    ((with_reducible refine i_RetI (i_Call (i_as1 (i_A0 (i_as0 ?_))))); (with_reducible refine i_recv0 (by assumption) ?_))
    refine m_tiesOfGoal hO hS n1 hn2 g1 ⟨_, rfl, ?_⟩
    rw [zP2_zp2]
    exact hk M1 (fun b j q => f1' b j (by omega))
  rw [if_neg e1] at hk
  by_cases e2 : w = 2
  · subst e2
    ((with_reducible refine i_Sw (i_L1 (i_sw1 ?_))); (refine i_f (by decide) ?_); (with_reducible refine i_sw1 ?_); (refine i_f (by decide) ?_); (with_reducible refine i_sw1 ?_); (refine i_t (by decide) ?_); (with_reducible refine i_RetI (i_F (i_A0 ?_))); (with_reducible refine i_fld (by assumption) ?_); (rw [hd]))
    exact hk M (fun _ _ _ => rfl)
  rw [if_neg e2] at hk
  by_cases e3 : w = 3
  · subst e3
    ((with_reducible refine i_Sw (i_L1 (i_sw1 ?_))); (refine i_f (by decide) ?_); (with_reducible refine i_sw1 ?_); (refine i_f (by decide) ?_); (with_reducible refine i_sw1 ?_); (refine i_f (by decide) ?_); (with_reducible refine i_sw1 ?_); (refine i_t (by decide) ?_); (with_reducible refine i_RetI (i_F (i_A0 ?_))); (with_reducible refine i_fld (by assumption) ?_); (rw [hc]))
    exact hk M (fun _ _ _ => rfl)
  rw [if_neg e3] at hk
  by_cases e4 : w = 4
  · subst e4
    ((with_reducible refine i_Sw (i_L1 (i_sw1 ?_))); (refine i_f (by decide) ?_); (with_reducible refine i_sw1 ?_); (refine i_f (by decide) ?_); (with_reducible refine i_sw1 ?_); (refine i_f (by decide) ?_); (with_reducible refine i_sw1 ?_); (refine i_f (by decide) ?_); (with_reducible refine i_sw1 ?_); (refine i_t (by decide) ?_); (with_reducible refine i_RetI (i_F (i_A0 ?_))); (with_reducible refine i_fld (by assumption) ?_); (rw [hT]))
    exact hk M (fun _ _ _ => rfl)
  rw [if_neg e4] at hk
  by_cases e5 : w = 5
  · subst e5
    ((with_reducible refine i_Sw (i_L1 (i_sw1 ?_))); (refine i_f (by decide) ?_); (with_reducible refine i_sw1 ?_); (refine i_f (by decide) ?_); (with_reducible refine i_sw1 ?_); (refine i_f (by decide) ?_); (with_reducible refine i_sw1 ?_); (refine i_f (by decide) ?_); (with_reducible refine i_sw1 ?_); (refine i_f (by decide) ?_); (with_reducible refine i_sw1 ?_); (refine i_t (by decide) ?_); (with_reducible refine i_RetI (i_F (i_A0 ?_))); (with_reducible refine i_fld (by assumption) ?_); (rw [hq]))
    exact hk M (fun _ _ _ => rfl)
  rw [if_neg e5] at hk
  by_cases e6 : w = 6
  · subst e6
    ((with_reducible refine i_Sw (i_L1 (i_sw1 ?_))); (refine i_f (by decide) ?_); (with_reducible refine i_sw1 ?_); (refine i_f (by decide) ?_); (with_reducible refine i_sw1 ?_); (refine i_f (by decide) ?_); (with_reducible refine i_sw1 ?_); (refine i_f (by decide) ?_); (with_reducible refine i_sw1 ?_); (refine i_f (by decide) ?_); (with_reducible refine i_sw1 ?_); (refine i_f (by decide) ?_); (with_reducible refine i_sw1 ?_); (refine i_t (by decide) ?_); (with_reducible refine i_RetI (i_F (i_A0 ?_))); (with_reducible refine i_fld (by assumption) ?_); (rw [hs]))
    exact hk M (fun _ _ _ => rfl)
  rw [if_neg e6] at hk
  have z0 : ¬ w ∈ [(0 : Int)] := by simpa using e0
  have z1 : ¬ w ∈ [(1 : Int)] := by simpa using e1
  have z2 : ¬ w ∈ [(2 : Int)] := by simpa using e2
  have z3 : ¬ w ∈ [(3 : Int)] := by simpa using e3
  have z4 : ¬ w ∈ [(4 : Int)] := by simpa using e4
  have z5 : ¬ w ∈ [(5 : Int)] := by simpa using e5
  have z6 : ¬ w ∈ [(6 : Int)] := by simpa using e6
  ((with_reducible refine i_Sw (i_L1 (i_sw1 ?_))); (refine i_f z0 ?_); (with_reducible refine i_sw1 ?_); (refine i_f z1 ?_); (with_reducible refine i_sw1 ?_); (refine i_f z2 ?_); (with_reducible refine i_sw1 ?_); (refine i_f z3 ?_); (with_reducible refine i_sw1 ?_); (refine i_f z4 ?_); (with_reducible refine i_sw1 ?_); (refine i_f z5 ?_); (with_reducible refine i_sw1 ?_); (refine i_f z6 ?_); (with_reducible refine i_sw0 (i_RetI (i_Call (i_as1 (i_A0 (i_as1 (i_L1 (i_as0 ?_)))))))); (with_reducible refine i_recv0 (by assumption) ?_))
  refine m_countOf hO hS hT hT5 hn hn2 hA (fun M1 f1' => ⟨_, rfl, ?_⟩)
  exact hk M1 (fun b j q => f1' b j (by omega))
theorem c_countIn {O : zOm} (hO : zWld O) (hS : zS O = zmS zC0) {T n : Nat} {w : Int} {A : Nat → zTl} {M : zMem} {K : Option zV → zMem → Prop} (hT : M ((0 : Nat) : Int) ((4 : Nat) : Int) = ((T : Nat) : Int)) (hT5 : T ≤ 5) (hn2 : n ≤ 16) (hA : ∀ t, t < T → zTR M (185 + 13 * t) n (A t) ∧ zTw n (A t))
    (hk : K (some (0, if 10 ≤ w ∧ w ≤ 39 then zctI T A w.toNat else -1)) M) : zR O F_ToldNet_countIn [(2, ((0 : Nat) : Int)), (0, w)] M K := by
  apply r_ToldNet_countIn hO
  unfold B_ToldNet_countIn
  have z0 := zo_0 hS
  by_cases e : 10 ≤ w ∧ w ≤ 39
  · obtain ⟨w, rfl⟩ : ∃ w' : Nat, w = ((w' : Nat) : Int) := ⟨w.toNat, by omega⟩
    rw [if_pos e] at hk
    have hk2 : K (some (0, zctI T A w)) M := hk
    unfold zctI at hk2
    ((with_reducible refine i_Seq (i_If (i_cOr (i_cI_lt (i_L1 (i_I ?_)))))); (with_reducible refine i_f (by omega) ?_); (with_reducible refine i_cI_gt (i_L1 (i_I ?_))); (with_reducible refine i_f (by omega) ?_); (with_reducible refine i_Seq (i_Set (i_Call (i_as1 (i_A0 (i_as1 (i_Rem (i_L1 (i_I ?_))))))))); rw [zx_modc]; (with_reducible refine i_nn (by decide) ?_); (with_reducible refine i_as0 ?_); (with_reducible refine i_recv0 (by assumption) ?_); simp only [w_set0, w_set1, w_setn0, w_setn1])
    refine c_find hO hS hT hT5 (fun hx => ⟨_, rfl, ?_⟩) (fun k e3 hk1 => ⟨_, rfl, ?_⟩)
    · rw [if_neg (by omega)] at hk2
      ((with_reducible refine i_Seq (i_If (i_cN (i_A2 ?_)))); simp only [w_set0, w_set1, w_setn0, w_setn1]; (with_reducible refine i_t trivial ?_); (with_reducible refine i_RetI (i_I ?_)))
      exact hk2
    · obtain rfl : w % 10 = k := by omega
      rw [if_pos hk1] at hk2
      obtain ⟨⟨x0, x1, x2, x3, x4, x5, x6, x7⟩, ⟨xa, xb⟩, ⟨p0, p1, p2, p3, p4, p5, p6, p7, p8⟩, ⟨n7, n9, n11⟩⟩ := zTelT hS (show w % 10 < 5 by omega)
      have hxT := zTelT hS (show w % 10 < 5 by omega)
      have r9 := n9.2.2.2
      obtain ⟨a1, a2⟩ := hA _ hk1
      have g1 := a1.1.2.1
      have g2 := a1.2.2.1.1.1
      by_cases e1 : w < 20
      · rw [if_pos e1] at hk2
        ((with_reducible refine i_Seq (i_If (i_cN (i_A2 ?_)))); (with_reducible refine i_f (by omega) ?_); (with_reducible refine i_Seq (i_If (i_cI_lt (i_L1 (i_I ?_))))); (with_reducible refine i_t (by omega) ?_); (with_reducible refine i_RetI (i_F (i_FR (i_A2 ?_)))); (with_reducible refine i_fldR (by assumption) ?_); (with_reducible refine i_fld (by assumption) ?_); (rw [g1]))
        exact hk2
      · rw [if_neg e1] at hk2
        by_cases e2 : w < 30
        · rw [if_pos e2] at hk2
          ((with_reducible refine i_Seq (i_If (i_cN (i_A2 ?_)))); (with_reducible refine i_f (by omega) ?_); (with_reducible refine i_Seq (i_If (i_cI_lt (i_L1 (i_I ?_))))); (with_reducible refine i_f (by omega) ?_); (with_reducible refine i_RetI (i_eIf (i_cI_lt (i_L1 (i_I ?_))))); (with_reducible refine i_t (by omega) ?_); (with_reducible refine i_F (i_A2 ?_)); (with_reducible refine i_fld (by assumption) ?_); (rw [g2]))
          exact hk2
        · rw [if_neg e2] at hk2
          ((with_reducible refine i_Seq (i_If (i_cN (i_A2 ?_)))); (with_reducible refine i_f (by omega) ?_); (with_reducible refine i_Seq (i_If (i_cI_lt (i_L1 (i_I ?_))))); (with_reducible refine i_f (by omega) ?_); (with_reducible refine i_RetI (i_eIf (i_cI_lt (i_L1 (i_I ?_))))); (with_reducible refine i_f (by omega) ?_); (with_reducible refine i_Call (i_as1 (i_FR (i_A2 ?_)))); (with_reducible refine i_fldR (by assumption) ?_); (with_reducible refine i_as0 ?_); (with_reducible refine i_recv0 (by assumption) ?_))
          refine zTR.pairs hO hxT a1 hn2 a2 ⟨_, rfl, ?_⟩
          exact hk2
  · rw [if_neg e] at hk
    by_cases e1 : w < 10
    · ((with_reducible refine i_Seq (i_If (i_cOr (i_cI_lt (i_L1 (i_I ?_)))))); (with_reducible refine i_t (by omega) ?_); (with_reducible refine i_RetI (i_I ?_)))
      exact hk
    · have e2 : 39 < w := by omega
      ((with_reducible refine i_Seq (i_If (i_cOr (i_cI_lt (i_L1 (i_I ?_)))))); (with_reducible refine i_f (by omega) ?_); (with_reducible refine i_cI_gt (i_L1 (i_I ?_))); (with_reducible refine i_t (by omega) ?_); (with_reducible refine i_RetI (i_I ?_)))
      exact hk
theorem c_count {O : zOm} (hO : zWld O) (hS : zS O = zmS zC0) {T n td c q s : Nat} {w : Int} {A : Nat → zTl} {N : Nat → Nat → Nat → Bool} {M : zMem} {K : Option zV → zMem → Prop} (hT : M ((0 : Nat) : Int) ((4 : Nat) : Int) = ((T : Nat) : Int)) (hT5 : T ≤ 5) (hn2 : n ≤ 16) (hD : cDy M n td c N) (htd : td < 41) (hR : zReg n (N td)) (hq : M ((148 : Nat) : Int) ((7 : Nat) : Int) = ((q : Nat) : Int)) (hs : M ((86 : Nat) : Int) ((5 : Nat) : Int) = ((s : Nat) : Int)) (hA : ∀ t, t < T → zTR M (185 + 13 * t) n (A t) ∧ zTw n (A t))
    (hk : K (some (0, zctV n (zp2 (N td) n) td c T q s A w)) M) : zR O F_ToldNet_count [(2, ((0 : Nat) : Int)), (0, w)] M K := by
  obtain ⟨d1, d2, d3, d4⟩ := hD
  have hy := zNetD hS (d := td) htd
  have hy4 := hy.2.2.2
  have o1 := zo_1 hS
  unfold zctV at hk
  apply r_ToldNet_count hO
  unfold B_ToldNet_count
  have f0_0 := zf_0_0 hS; have f1_2 := zf_1_2 hS; have f1_3 := zf_1_3 hS; have f1_4 := zf_1_4 hS; have f0_4 := zf_0_4 hS; have f0_9 := zf_0_9 hS; have f148_7 := zf_148_7 hS; have f0_1 := zf_0_1 hS; have f86_5 := zf_86_5 hS; have z0 := zo_0 hS; have z1 := zo_1 hS; have z86 := zo_86 hS; have z148 := zo_148 hS
  by_cases e0 : w = 0
  · subst e0
    ((with_reducible refine i_Sw (i_L1 (i_sw1 ?_))); (refine i_t (by decide) ?_); (with_reducible refine i_RetI (i_F (i_FR (i_A0 ?_)))); (with_reducible refine i_fldR (by assumption) ?_); (with_reducible refine i_fld (by assumption) ?_); (rw [d1]))
    exact hk
  rw [if_neg e0] at hk
  by_cases e1 : w = 1
  · subst e1
    ((with_reducible refine i_Sw (i_L1 (i_sw1 ?_))); (refine i_f (by decide) ?_); (with_reducible refine i_sw1 ?_); (refine i_t (by decide) ?_); (with_reducible refine i_RetI (i_Call (i_as1 (i_Call (i_as1 (i_FR (i_A0 ?_))))))); (with_reducible refine i_fldR (by assumption) ?_); (with_reducible refine i_as0 ?_); (with_reducible refine i_recv0 (by assumption) ?_); (refine c_now hO hS d2 htd ⟨_, rfl, ?_⟩); (with_reducible refine i_as0 ?_); (with_reducible refine i_recv0 (by assumption) ?_); (refine s_Net_pairs hO hy (d4 td (Nat.le_refl _)) hn2 ⟨_, rfl, ?_⟩))
    rw [zpairs_p2 hR hn2]
    exact hk
  rw [if_neg e1] at hk
  by_cases e2 : w = 2
  · subst e2
    ((with_reducible refine i_Sw (i_L1 (i_sw1 ?_))); (refine i_f (by decide) ?_); (with_reducible refine i_sw1 ?_); (refine i_f (by decide) ?_); (with_reducible refine i_sw1 ?_); (refine i_t (by decide) ?_); (with_reducible refine i_RetI (i_F (i_FR (i_A0 ?_)))); (with_reducible refine i_fldR (by assumption) ?_); (with_reducible refine i_fld (by assumption) ?_); (rw [d2]))
    exact hk
  rw [if_neg e2] at hk
  by_cases e3 : w = 3
  · subst e3
    ((with_reducible refine i_Sw (i_L1 (i_sw1 ?_))); (refine i_f (by decide) ?_); (with_reducible refine i_sw1 ?_); (refine i_f (by decide) ?_); (with_reducible refine i_sw1 ?_); (refine i_f (by decide) ?_); (with_reducible refine i_sw1 ?_); (refine i_t (by decide) ?_); (with_reducible refine i_RetI (i_F (i_FR (i_A0 ?_)))); (with_reducible refine i_fldR (by assumption) ?_); (with_reducible refine i_fld (by assumption) ?_); (rw [d3]))
    exact hk
  rw [if_neg e3] at hk
  by_cases e4 : w = 4
  · subst e4
    ((with_reducible refine i_Sw (i_L1 (i_sw1 ?_))); (refine i_f (by decide) ?_); (with_reducible refine i_sw1 ?_); (refine i_f (by decide) ?_); (with_reducible refine i_sw1 ?_); (refine i_f (by decide) ?_); (with_reducible refine i_sw1 ?_); (refine i_f (by decide) ?_); (with_reducible refine i_sw1 ?_); (refine i_t (by decide) ?_); (with_reducible refine i_RetI (i_F (i_A0 ?_))); (with_reducible refine i_fld (by assumption) ?_); (rw [hT]))
    exact hk
  rw [if_neg e4] at hk
  by_cases e5 : w = 5
  · subst e5
    ((with_reducible refine i_Sw (i_L1 (i_sw1 ?_))); (refine i_f (by decide) ?_); (with_reducible refine i_sw1 ?_); (refine i_f (by decide) ?_); (with_reducible refine i_sw1 ?_); (refine i_f (by decide) ?_); (with_reducible refine i_sw1 ?_); (refine i_f (by decide) ?_); (with_reducible refine i_sw1 ?_); (refine i_f (by decide) ?_); (with_reducible refine i_sw1 ?_); (refine i_t (by decide) ?_); (with_reducible refine i_RetI (i_F (i_FR (i_A0 ?_)))); (with_reducible refine i_fldR (by assumption) ?_); (with_reducible refine i_fld (by assumption) ?_); (rw [hq]))
    exact hk
  rw [if_neg e5] at hk
  by_cases e6 : w = 6
  · subst e6
    ((with_reducible refine i_Sw (i_L1 (i_sw1 ?_))); (refine i_f (by decide) ?_); (with_reducible refine i_sw1 ?_); (refine i_f (by decide) ?_); (with_reducible refine i_sw1 ?_); (refine i_f (by decide) ?_); (with_reducible refine i_sw1 ?_); (refine i_f (by decide) ?_); (with_reducible refine i_sw1 ?_); (refine i_f (by decide) ?_); (with_reducible refine i_sw1 ?_); (refine i_f (by decide) ?_); (with_reducible refine i_sw1 ?_); (refine i_t (by decide) ?_); (with_reducible refine i_RetI (i_F (i_FR (i_A0 ?_)))); (with_reducible refine i_fldR (by assumption) ?_); (with_reducible refine i_fld (by assumption) ?_); (rw [hs]))
    exact hk
  rw [if_neg e6] at hk
  have z0 : ¬ w ∈ [(0 : Int)] := by simpa using e0
  have z1 : ¬ w ∈ [(1 : Int)] := by simpa using e1
  have z2 : ¬ w ∈ [(2 : Int)] := by simpa using e2
  have z3 : ¬ w ∈ [(3 : Int)] := by simpa using e3
  have z4 : ¬ w ∈ [(4 : Int)] := by simpa using e4
  have z5 : ¬ w ∈ [(5 : Int)] := by simpa using e5
  have z6 : ¬ w ∈ [(6 : Int)] := by simpa using e6
  ((with_reducible refine i_Sw (i_L1 (i_sw1 ?_))); (refine i_f z0 ?_); (with_reducible refine i_sw1 ?_); (refine i_f z1 ?_); (with_reducible refine i_sw1 ?_); (refine i_f z2 ?_); (with_reducible refine i_sw1 ?_); (refine i_f z3 ?_); (with_reducible refine i_sw1 ?_); (refine i_f z4 ?_); (with_reducible refine i_sw1 ?_); (refine i_f z5 ?_); (with_reducible refine i_sw1 ?_); (refine i_f z6 ?_); (with_reducible refine i_sw0 (i_RetI (i_Call (i_as1 (i_A0 (i_as1 (i_L1 (i_as0 ?_)))))))); (with_reducible refine i_recv0 (by assumption) ?_))
  exact c_countIn hO hS hT hT5 hn2 hA ⟨_, rfl, hk⟩
end
section
-- part i1.feed.lean.txt
/-! ===== feed: both sides ===== -/
/-- the last byte of an int -/
def zB8 (x : Int) : Nat := ((zi x).toInt % 256).toNat
theorem zB8_lt (x : Int) : zB8 x < 256 := by unfold zB8; omega
theorem zB8_nat (x : Int) : zB8 x = (zi x).toBitVec.toNat % 256 := by
  unfold zB8
  have h : (zi x).toInt = (zi x).toBitVec.toInt := rfl
  have h2 := (zi x).toBitVec.isLt
  rw [h, BitVec.toInt_eq_toNat_cond]
  split <;> omega
theorem yand_255 (x : Int) : yand x 255 = ((zB8 x : Nat) : Int) := by
  rw [yand_eq]
  have hl := zB8_lt x
  refine zb_ext (zand_in _ _) ⟨by omega, by omega⟩ fun i hi => ?_
  rw [zb_and, zb_nat (by omega), show (255 : Int) = ((255 : Nat) : Int) from rfl, zb_nat (by decide), zB8_nat, show (256 : Nat) = 2 ^ 8 from rfl, Nat.testBit_mod_two_pow]
  have h1 : zbt x i = (zi x).toBitVec.toNat.testBit i := rfl
  have h2 : (255 : Nat).testBit i = decide (i < 8) := by
    rw [show (255 : Nat) = 2 ^ 8 - 1 from rfl, Nat.testBit_two_pow_sub_one]
  rw [h1, h2, Bool.and_comm]
/-- a byte as the class keeps it -/
def zsgB (b : Nat) : Int := if b < 128 then ((b : Nat) : Int) else ((b : Nat) : Int) - 256
theorem yi2b_B8 (x : Int) : yi2b x = zsgB (zB8 x) := by
  rw [yi2b_eq]
  unfold zi2b zsgB zB8
  rw [Int8.toInt_toInt32, Int32.toInt_toInt8]
  show Int.bmod (zi x).toInt 256 = _
  have h := Int.bmod_def (zi x).toInt 256
  rw [h]
  split <;> split <;> omega
theorem zsgB_in {b : Nat} (h : b < 256) : -128 ≤ zsgB b ∧ zsgB b < 128 := by unfold zsgB; split <;> omega
/-- the k-th byte of a word -/
noncomputable def zfB (v : Int) (k : Nat) : Nat := zB8 (yshr v (24 - 8 * ((k : Nat) : Int)))
theorem m_typed {O : zOm} (hO : zWld O) (hS : zS O = zmS zC0) {v : Int} {s : Nat} {M : zMem} {K : Option zV → zMem → Prop} (hs : M 250 ((33 : Nat) : Int) = ((s : Nat) : Int)) (h4 : s + 4 ≤ 2000)
    (hk : ∀ M', (∀ b j, ¬ (b = 250 ∧ j = 33 ∨ b = ((278 : Nat) : Int) ∧ ((s : Nat) : Int) ≤ j ∧ j < ((s + 4 : Nat) : Int)) → M' b j = M b j) → M' 250 ((33 : Nat) : Int) = ((s + 4 : Nat) : Int) → (∀ k : Nat, k < 4 → M' ((278 : Nat) : Int) ((s + k : Nat) : Int) = ((zfB v k : Nat) : Int)) → K none M') : zR O F_Model_typed [(2, 250), (0, v)] M K := by
  apply r_Model_typed hO
  unfold B_Model_typed
  have f34 := zMF (k := 34) hS rfl; have a278 := zMA (a := 278) (ty := .int) (n := 2000) hS rfl; have f33 := zMF (k := 33) hS rfl; have zo := zMO hS
  ((with_reducible refine i_Seq (i_Blk (i_Seq (i_Set (i_I ?_))))); simp only [w_set0, w_set1, w_setn0, w_setn1])
  refine w_ForN 4 (fun k ρ M' => (∃ l, ρ = 250 :: v :: ((k : Nat) : Int) :: l) ∧ (∀ b j, ¬ (b = 250 ∧ j = 33 ∨ b = ((278 : Nat) : Int) ∧ ((s : Nat) : Int) ≤ j ∧ j < ((s + 4 : Nat) : Int)) → M' b j = M b j) ∧ M' 250 ((33 : Nat) : Int) = ((s + k : Nat) : Int) ∧ ∀ i : Nat, i < k → M' ((278 : Nat) : Int) ((s + i : Nat) : Int) = ((zfB v i : Nat) : Int)) ⟨⟨_, rfl⟩, fun _ _ _ => rfl, hs, fun i hi => absurd hi (by omega)⟩ ?_ ?_
  · rintro k ρ M1 X hk1 ⟨⟨l, rfl⟩, f1, g1, h1⟩ hX
    have hl := zB8_lt (yshr v (24 - 8 * ((k : Nat) : Int)))
    ((with_reducible refine i_turn (i_cI_lt (i_L2 (i_I ?_)))); (with_reducible refine i_t (by omega) ?_); (with_reducible refine i_Seq (i_sIA (i_FR (i_A0 ?_)))); (with_reducible refine i_fldR (by assumption) ?_); (with_reducible refine i_F (i_A0 ?_)); (with_reducible refine i_fld (by assumption) ?_); (with_reducible refine i_And (i_Shr (i_L1 (i_Sub (i_I (i_Mul (i_I (i_L2 (i_I ?_))))))))); (with_reducible refine i_in (by assumption) (by omega) (by omega) ?_); (with_reducible refine i_FO (i_A0 ?_)); (with_reducible refine i_fld (by assumption) ?_); (with_reducible refine i_I ?_); (with_reducible refine i_fld (by assumption) ?_); (with_reducible refine i_up (i_Inc2 ?_)); rw [zg_n _ _ _ (by omega)]; (rw [g1]); (rw [yand_255]); rw [zx_inc (by omega)]; rw [zx_inc (by omega)]; rw [zx_cmul (by omega)]; (rw [show (24 : Int) - ((8 * k : Nat) : Int) = 24 - 8 * ((k : Nat) : Int) by omega]); (rw [zx_s (x := 24 - 8 * ((k : Nat) : Int)) (by omega) (by omega)]); simp only [w_set0, w_set1, w_setn0, w_setn1])
    refine hX _ _ ⟨⟨_, rfl⟩, fun b j q => by rw [zg_o _ _ (by omega), zg_o _ _ (by omega)]; exact f1 b j q, zg_s _ _ _ _ _, fun i hi => ?_⟩
    rw [zg_n _ _ _ (by omega)]
    by_cases e : i = k
    · subst e; rw [zg_s]; rfl
    · rw [zg_m _ _ _ _ _ (by omega)]; exact h1 i (by omega)
  · rintro ρ M1 X ⟨⟨l, rfl⟩, f1, g1, h1⟩
    ((with_reducible refine i_turn (i_cI_lt (i_L2 (i_I ?_)))); (with_reducible refine i_f (by omega) ?_); (with_reducible refine i_RetV ?_))
    exact hk M1 f1 g1 h1
/-- the tape behind five words -/
noncomputable def zfd (B : Nat → Nat) (s : Nat) (a b c d e : Int) (i : Nat) : Nat := if i < s then B i else if i < s + 4 then zfB a (i - s) else if i < s + 8 then zfB b (i - (s + 4)) else if i < s + 12 then zfB c (i - (s + 8)) else if i < s + 16 then zfB d (i - (s + 12)) else zfB e (i - (s + 16))
theorem zfd_lt {B : Nat → Nat} {s : Nat} {a b c d e : Int} (h : ∀ i, B i < 256) (i : Nat) : zfd B s a b c d e i < 256 := by
  unfold zfd
  split
  · exact h i
  · split
    · exact zB8_lt _
    · split
      · exact zB8_lt _
      · split
        · exact zB8_lt _
        · split
          · exact zB8_lt _
          · exact zB8_lt _
theorem zfd_all {F : Nat → Nat → Prop} {B : Nat → Nat} {s : Nat} {a b c d e : Int} (h0 : ∀ i, i < s → F i (B i)) (h1 : ∀ k : Nat, k < 4 → F (s + k) (zfB a k)) (h2 : ∀ k : Nat, k < 4 → F (s + 4 + k) (zfB b k)) (h3 : ∀ k : Nat, k < 4 → F (s + 4 + 4 + k) (zfB c k)) (h4 : ∀ k : Nat, k < 4 → F (s + 4 + 4 + 4 + k) (zfB d k)) (h5 : ∀ k : Nat, k < 4 → F (s + 4 + 4 + 4 + 4 + k) (zfB e k)) (i : Nat) (hi : i < s + 20) : F i (zfd B s a b c d e i) := by
  unfold zfd
  by_cases e0 : i < s
  · rw [if_pos e0]; exact h0 i e0
  rw [if_neg e0]
  by_cases e1 : i < s + 4
  · rw [if_pos e1]; have := h1 (i - s) (by omega); rw [show s + (i - s) = i by omega] at this; exact this
  rw [if_neg e1]
  by_cases e2 : i < s + 8
  · rw [if_pos e2]; have := h2 (i - (s + 4)) (by omega); rw [show s + 4 + (i - (s + 4)) = i by omega] at this; exact this
  rw [if_neg e2]
  by_cases e3 : i < s + 12
  · rw [if_pos e3]; have := h3 (i - (s + 8)) (by omega); rw [show s + 4 + 4 + (i - (s + 8)) = i by omega] at this; exact this
  rw [if_neg e3]
  by_cases e4 : i < s + 16
  · rw [if_pos e4]; have := h4 (i - (s + 12)) (by omega); rw [show s + 4 + 4 + 4 + (i - (s + 12)) = i by omega] at this; exact this
  rw [if_neg e4]
  have := h5 (i - (s + 16)) (by omega)
  rw [show s + 4 + 4 + 4 + 4 + (i - (s + 16)) = i by omega] at this
  exact this
theorem m_feed_bad {O : zOm} (hO : zWld O) (hS : zS O = zmS zC0) {a b c d e : Int} {s : Nat} {M : zMem} {K : Option zV → zMem → Prop} (hs : M 250 ((33 : Nat) : Int) = ((s : Nat) : Int)) (hs2 : s ≤ 2000) (hb : 2000 < s + 20) (hk : K (some (0, -1)) M) : zR O F_Model_feed [(2, 250), (0, a), (0, b), (0, c), (0, d), (0, e)] M K := by
  apply r_Model_feed hO
  unfold B_Model_feed
  have f33 := zMF (k := 33) hS rfl; have zo := zMO hS
  ((with_reducible refine i_Seq (i_If (i_cI_gt (i_Add (i_F (i_A0 ?_)))))); (with_reducible refine i_fld (by assumption) ?_); (with_reducible refine i_I (i_I ?_)); (rw [hs]); rw [zx_addc (by omega)]; (with_reducible refine i_t (by omega) ?_); (with_reducible refine i_RetI (i_I ?_)))
  exact hk
theorem m_feed {O : zOm} (hO : zWld O) (hS : zS O = zmS zC0) {a b c d e : Int} {s : Nat} {B : Nat → Nat} {M : zMem} {K : Option zV → zMem → Prop} (hs : M 250 ((33 : Nat) : Int) = ((s : Nat) : Int)) (hb : s + 20 ≤ 2000) (hB : ∀ i : Nat, i < s → M ((278 : Nat) : Int) ((i : Nat) : Int) = ((B i : Nat) : Int))
    (hk : ∀ M', (∀ b j, ¬ (b = 250 ∧ j = 33 ∨ b = ((278 : Nat) : Int)) → M' b j = M b j) → M' 250 ((33 : Nat) : Int) = ((s + 20 : Nat) : Int) → (∀ i : Nat, i < s + 20 → M' ((278 : Nat) : Int) ((i : Nat) : Int) = ((zfd B s a b c d e i : Nat) : Int)) → K (some (0, ((s + 20 : Nat) : Int))) M') : zR O F_Model_feed [(2, 250), (0, a), (0, b), (0, c), (0, d), (0, e)] M K := by
  apply r_Model_feed hO
  unfold B_Model_feed
  have f33 := zMF (k := 33) hS rfl; have zo := zMO hS
  ((with_reducible refine i_Seq (i_If (i_cI_gt (i_Add (i_F (i_A0 ?_)))))); (with_reducible refine i_fld (by assumption) ?_); (with_reducible refine i_I (i_I ?_)); (rw [hs]); rw [zx_addc (by omega)]; (with_reducible refine i_f (by omega) ?_); (with_reducible refine i_Seq (i_sCall (i_as1 (i_A0 (i_as1 (i_L1 (i_as0 ?_))))))); (with_reducible refine i_recv0 (by assumption) ?_))
  refine m_typed hO hS hs (by omega) (fun M1 f1 g1 h1 => ⟨rfl, ?_⟩)
  ((with_reducible refine i_Seq (i_sCall (i_as1 (i_A0 (i_as1 (i_L2 (i_as0 ?_))))))); (with_reducible refine i_recv0 (by assumption) ?_))
  refine m_typed hO hS g1 (by omega) (fun M2 f2 g2 h2 => ⟨rfl, ?_⟩)
  ((with_reducible refine i_Seq (i_sCall (i_as1 (i_A0 (i_as1 (i_L3 (i_as0 ?_))))))); (with_reducible refine i_recv0 (by assumption) ?_))
  refine m_typed hO hS g2 (by omega) (fun M3 f3 g3 h3 => ⟨rfl, ?_⟩)
  ((with_reducible refine i_Seq (i_sCall (i_as1 (i_A0 (i_as1 (i_L4 (i_as0 ?_))))))); (with_reducible refine i_recv0 (by assumption) ?_))
  refine m_typed hO hS g3 (by omega) (fun M4 f4 g4 h4 => ⟨rfl, ?_⟩)
  ((with_reducible refine i_Seq (i_sCall (i_as1 (i_A0 (i_as1 (i_L5 (i_as0 ?_))))))); (with_reducible refine i_recv0 (by assumption) ?_))
  refine m_typed hO hS g4 (by omega) (fun M5 f5 g5 h5 => ⟨rfl, ?_⟩)
  ((with_reducible refine i_RetI (i_F (i_A0 ?_))); (with_reducible refine i_fld (by assumption) ?_); (rw [g5]))
  refine hk M5 (fun b j q => by rw [f5 b j (by omega), f4 b j (by omega), f3 b j (by omega), f2 b j (by omega), f1 b j (by omega)]) g5 (fun i hi => ?_)
  exact zfd_all (F := fun i x => M5 ((278 : Nat) : Int) ((i : Nat) : Int) = ((x : Nat) : Int)) (fun i hi => by rw [f5 _ _ (by omega), f4 _ _ (by omega), f3 _ _ (by omega), f2 _ _ (by omega), f1 _ _ (by omega)]; exact hB i hi) (fun k hk => by rw [f5 _ _ (by omega), f4 _ _ (by omega), f3 _ _ (by omega), f2 _ _ (by omega)]; exact h1 k hk) (fun k hk => by rw [f5 _ _ (by omega), f4 _ _ (by omega), f3 _ _ (by omega)]; exact h2 k hk) (fun k hk => by rw [f5 _ _ (by omega), f4 _ _ (by omega)]; exact h3 k hk) (fun k hk => by rw [f5 _ _ (by omega)]; exact h4 k hk) h5 i hi
theorem zA87 {S : List zSh} (hS : S = zmS zC0) : zArr S ((87 : Nat) : Int) .byte 2000 := zCA (a := 87) (ty := .byte) (n := 2000) hS rfl
theorem c_tput {O : zOm} (hO : zWld O) (hS : zS O = zmS zC0) {v : Int} {s : Nat} {M : zMem} {K : Option zV → zMem → Prop} (hs : M ((86 : Nat) : Int) ((5 : Nat) : Int) = ((s : Nat) : Int)) (h4 : s + 4 ≤ 2000)
    (hk : ∀ M', (∀ b j, ¬ (b = ((86 : Nat) : Int) ∧ j = 5 ∨ b = ((87 : Nat) : Int) ∧ ((s : Nat) : Int) ≤ j ∧ j < ((s + 4 : Nat) : Int)) → M' b j = M b j) → M' ((86 : Nat) : Int) ((5 : Nat) : Int) = ((s + 4 : Nat) : Int) → (∀ k : Nat, k < 4 → M' ((87 : Nat) : Int) ((s + k : Nat) : Int) = zsgB (zfB v k)) → K none M') : zR O F_Tape_put [(2, ((86 : Nat) : Int)), (0, v)] M K := by
  have a87 := zA87 hS
  apply r_Tape_put hO
  unfold B_Tape_put
  have f86_5 := zf_86_5 hS; have f86_0 := zf_86_0 hS; have a87 := zCA (a := 87) (ty := .byte) (n := 2000) hS rfl; have z86 := zo_86 hS
  ((with_reducible refine i_Seq (i_Blk (i_Seq (i_Set (i_I ?_))))); simp only [w_set0, w_set1, w_setn0, w_setn1])
  refine w_ForN 4 (fun k ρ M' => (∃ l, ρ = ((86 : Nat) : Int) :: v :: (24 - 8 * ((k : Nat) : Int)) :: l) ∧ (∀ b j, ¬ (b = ((86 : Nat) : Int) ∧ j = 5 ∨ b = ((87 : Nat) : Int) ∧ ((s : Nat) : Int) ≤ j ∧ j < ((s + 4 : Nat) : Int)) → M' b j = M b j) ∧ M' ((86 : Nat) : Int) ((5 : Nat) : Int) = ((s + k : Nat) : Int) ∧ ∀ i : Nat, i < k → M' ((87 : Nat) : Int) ((s + i : Nat) : Int) = zsgB (zfB v i)) ⟨⟨_, rfl⟩, fun _ _ _ => rfl, hs, fun i hi => absurd hi (by omega)⟩ ?_ ?_
  · rintro k ρ M1 X hk1 ⟨⟨l, rfl⟩, f1, g1, h1⟩ hX
    have hl := zsgB_in (zB8_lt (yshr v (24 - 8 * ((k : Nat) : Int))))
    ((with_reducible refine i_turn (i_cAnd (i_cZ_ge (i_L2 ?_)))); (with_reducible refine i_t (by omega) ?_); (with_reducible refine i_cI_lt (i_F (i_A0 ?_))); (with_reducible refine i_fld (by assumption) ?_); (with_reducible refine i_I ?_); (rw [g1]); (with_reducible refine i_t (by omega) ?_); (with_reducible refine i_Seq (i_sBA (i_FR (i_A0 ?_)))); (with_reducible refine i_fldR (by assumption) ?_); (with_reducible refine i_F (i_A0 ?_)); (with_reducible refine i_fld (by assumption) ?_); (with_reducible refine i_I2B (i_Shr (i_L1 (i_L2 ?_)))); (rw [g1]); (rw [yi2b_B8]))
    rw [zIn_eq a87]
    refine ⟨⟨hl, by omega, by omega⟩, ?_⟩
    ((with_reducible refine i_FO (i_A0 ?_)); (with_reducible refine i_fld (by assumption) ?_); (with_reducible refine i_I ?_); (with_reducible refine i_fld (by assumption) ?_); (with_reducible refine i_up (i_Inc2 ?_)); rw [zg_n _ _ _ (by omega)]; (rw [g1]); rw [zx_inc (by omega)]; rw [zx_s (by omega) (by omega)]; simp only [w_set0, w_set1, w_setn0, w_setn1])
    refine hX _ _ ⟨⟨l, by congr 3; omega⟩, fun b j q => by rw [zg_o _ _ (by omega), zg_o _ _ (by omega)]; exact f1 b j q, zg_s _ _ _ _ _, fun i hi => ?_⟩
    rw [zg_n _ _ _ (by omega)]
    by_cases e : i = k
    · subst e; rw [zg_s]; rfl
    · rw [zg_m _ _ _ _ _ (by omega)]; exact h1 i (by omega)
  · rintro ρ M1 X ⟨⟨l, rfl⟩, f1, g1, h1⟩
    ((with_reducible refine i_turn (i_cAnd (i_cZ_ge (i_L2 ?_)))); (with_reducible refine i_f (by omega) ?_); (with_reducible refine i_RetV ?_))
    exact hk M1 f1 g1 h1
theorem c_feed_bad {O : zOm} (hO : zWld O) (hS : zS O = zmS zC0) {a b c d e : Int} {s : Nat} {M : zMem} {K : Option zV → zMem → Prop} (hs : M ((86 : Nat) : Int) ((5 : Nat) : Int) = ((s : Nat) : Int)) (hs2 : s ≤ 2000) (hb : 2000 < s + 20) (hk : K (some (0, -1)) M) : zR O F_ToldNet_feed [(2, ((0 : Nat) : Int)), (0, a), (0, b), (0, c), (0, d), (0, e)] M K := by
  apply r_ToldNet_feed hO
  unfold B_ToldNet_feed
  have f0_1 := zf_0_1 hS; have f86_5 := zf_86_5 hS; have z0 := zo_0 hS; have z86 := zo_86 hS
  ((with_reducible refine i_Seq (i_If (i_cI_gt (i_Add (i_F (i_FR (i_A0 ?_))))))); (with_reducible refine i_fldR (by assumption) ?_); (with_reducible refine i_fld (by assumption) ?_); (with_reducible refine i_I (i_I ?_)); (rw [hs]); rw [zx_addc (by omega)]; (with_reducible refine i_t (by omega) ?_); (with_reducible refine i_RetI (i_I ?_)))
  exact hk
theorem c_feed {O : zOm} (hO : zWld O) (hS : zS O = zmS zC0) {a b c d e : Int} {s : Nat} {B : Nat → Nat} {M : zMem} {K : Option zV → zMem → Prop} (hs : M ((86 : Nat) : Int) ((5 : Nat) : Int) = ((s : Nat) : Int)) (hb : s + 20 ≤ 2000) (hB : ∀ i : Nat, i < s → M ((87 : Nat) : Int) ((i : Nat) : Int) = zsgB (B i))
    (hk : ∀ M', (∀ b j, ¬ (b = ((86 : Nat) : Int) ∧ j = 5 ∨ b = ((87 : Nat) : Int)) → M' b j = M b j) → M' ((86 : Nat) : Int) ((5 : Nat) : Int) = ((s + 20 : Nat) : Int) → (∀ i : Nat, i < s + 20 → M' ((87 : Nat) : Int) ((i : Nat) : Int) = zsgB (zfd B s a b c d e i)) → K (some (0, ((s + 20 : Nat) : Int))) M') : zR O F_ToldNet_feed [(2, ((0 : Nat) : Int)), (0, a), (0, b), (0, c), (0, d), (0, e)] M K := by
  apply r_ToldNet_feed hO
  unfold B_ToldNet_feed
  have f0_1 := zf_0_1 hS; have f86_5 := zf_86_5 hS; have z0 := zo_0 hS; have z86 := zo_86 hS
  ((with_reducible refine i_Seq (i_If (i_cI_gt (i_Add (i_F (i_FR (i_A0 ?_))))))); (with_reducible refine i_fldR (by assumption) ?_); (with_reducible refine i_fld (by assumption) ?_); (with_reducible refine i_I (i_I ?_)); (rw [hs]); rw [zx_addc (by omega)]; (with_reducible refine i_f (by omega) ?_); (with_reducible refine i_Seq (i_sCall (i_as1 (i_FR (i_A0 ?_))))); (with_reducible refine i_fldR (by assumption) ?_); (with_reducible refine i_as1 (i_L1 (i_as0 ?_))); (with_reducible refine i_recv0 (by assumption) ?_))
  refine c_tput hO hS hs (by omega) (fun M1 f1 g1 h1 => ⟨rfl, ?_⟩)
  ((with_reducible refine i_Seq (i_sCall (i_as1 (i_FR (i_A0 ?_))))); (with_reducible refine i_fldR (by assumption) ?_); (with_reducible refine i_as1 (i_L2 (i_as0 ?_))); (with_reducible refine i_recv0 (by assumption) ?_))
  refine c_tput hO hS g1 (by omega) (fun M2 f2 g2 h2 => ⟨rfl, ?_⟩)
  ((with_reducible refine i_Seq (i_sCall (i_as1 (i_FR (i_A0 ?_))))); (with_reducible refine i_fldR (by assumption) ?_); (with_reducible refine i_as1 (i_L3 (i_as0 ?_))); (with_reducible refine i_recv0 (by assumption) ?_))
  refine c_tput hO hS g2 (by omega) (fun M3 f3 g3 h3 => ⟨rfl, ?_⟩)
  ((with_reducible refine i_Seq (i_sCall (i_as1 (i_FR (i_A0 ?_))))); (with_reducible refine i_fldR (by assumption) ?_); (with_reducible refine i_as1 (i_L4 (i_as0 ?_))); (with_reducible refine i_recv0 (by assumption) ?_))
  refine c_tput hO hS g3 (by omega) (fun M4 f4 g4 h4 => ⟨rfl, ?_⟩)
  ((with_reducible refine i_Seq (i_sCall (i_as1 (i_FR (i_A0 ?_))))); (with_reducible refine i_fldR (by assumption) ?_); (with_reducible refine i_as1 (i_L5 (i_as0 ?_))); (with_reducible refine i_recv0 (by assumption) ?_))
  refine c_tput hO hS g4 (by omega) (fun M5 f5 g5 h5 => ⟨rfl, ?_⟩)
  ((with_reducible refine i_RetI (i_F (i_FR (i_A0 ?_)))); (with_reducible refine i_fldR (by assumption) ?_); (with_reducible refine i_fld (by assumption) ?_); (rw [g5]))
  refine hk M5 (fun b j q => by rw [f5 b j (by omega), f4 b j (by omega), f3 b j (by omega), f2 b j (by omega), f1 b j (by omega)]) g5 (fun i hi => ?_)
  exact zfd_all (F := fun i x => M5 ((87 : Nat) : Int) ((i : Nat) : Int) = zsgB x) (fun i hi => by rw [f5 _ _ (by omega), f4 _ _ (by omega), f3 _ _ (by omega), f2 _ _ (by omega), f1 _ _ (by omega)]; exact hB i hi) (fun k hk => by rw [f5 _ _ (by omega), f4 _ _ (by omega), f3 _ _ (by omega), f2 _ _ (by omega)]; exact h1 k hk) (fun k hk => by rw [f5 _ _ (by omega), f4 _ _ (by omega), f3 _ _ (by omega)]; exact h2 k hk) (fun k hk => by rw [f5 _ _ (by omega), f4 _ _ (by omega)]; exact h3 k hk) (fun k hk => by rw [f5 _ _ (by omega)]; exact h4 k hk) h5 i hi
end
section
-- part i2.chm.lean.txt
/-! ===== nets by chance: what both compute ===== -/
theorem zp2_one {a b n : Nat} (hab : a < b) (hb : b < n) : zp2 (fun p q => decide (p = a ∧ q = b)) n = 1 := by
  unfold zp2
  have h : zsum (fun p => zcnt (fun q => decide (p < q) && decide (p = a ∧ q = b)) n) n = zsum (fun _ => 0) n + 1 := zsum_at (k := a) (by omega) (by
    have e : zcnt (fun q => decide (a < q) && decide (a = a ∧ q = b)) n = zcnt (fun d => (fun _ => false) d || decide (d = b)) n := zcnt_ext fun q _ => by
      by_cases e : q = b
      · subst e; simp [hab]
      · simp [e]
    show zcnt (fun q => decide (a < q) && decide (a = a ∧ q = b)) n = 0 + 1
    rw [e, zcnt_ins (W := fun _ => false) rfl n, zcnt_z (fun _ _ => rfl), if_pos hb]) (fun i hi => zcnt_z fun q _ => by simp [hi])
  rw [h, zsum_z (fun _ _ => rfl)]
theorem zflip_c (T : Nat → Nat → Bool) (a b : Nat) : zflip T a b = zflip T b a := by
  funext p q
  unfold zflip
  rw [Bool.or_comm]
theorem zflip_at {T : Nat → Nat → Bool} {a b : Nat} : zflip T a b a b = !T a b := by
  unfold zflip
  rw [decide_eq_true ⟨rfl, rfl⟩, Bool.true_or, Bool.xor_true]
theorem zflip_no {T : Nat → Nat → Bool} {a b p q : Nat} (h1 : ¬ (p = a ∧ q = b)) (h2 : ¬ (p = b ∧ q = a)) : zflip T a b p q = T p q := by
  unfold zflip
  rw [decide_eq_false h1, decide_eq_false h2, Bool.or_false, Bool.xor_false]
theorem zp2_fl {T : Nat → Nat → Bool} {n a b : Nat} (hab : a < b) (hb : b < n) : zp2 T n + (if T a b = true then 0 else 1) = zp2 (zflip T a b) n + (if T a b = true then 1 else 0) := by
  have h1 := zp2_one hab hb
  cases e : T a b
  · have h2 : zp2 (zflip T a b) n = zp2 T n + zp2 (fun p q => decide (p = a ∧ q = b)) n := zp2_add fun p q hp hq => by
      by_cases w : p = a ∧ q = b
      · obtain ⟨rfl, rfl⟩ := w
        rw [zflip_at, e]; simp
      · rw [zflip_no w (by omega), decide_eq_false w]; simp
    simp; omega
  · have h2 : zp2 T n = zp2 (zflip T a b) n + zp2 (fun p q => decide (p = a ∧ q = b)) n := zp2_add fun p q hp hq => by
      by_cases w : p = a ∧ q = b
      · obtain ⟨rfl, rfl⟩ := w
        rw [zflip_at, e]; simp
      · rw [zflip_no w (by omega), decide_eq_false w]; simp
    simp; omega
theorem zflip_reg {T : Nat → Nat → Bool} {n a b : Nat} (hT : zReg n T) (ha : a < n) (hb : b < n) (hab : a ≠ b) : zReg n (zflip T a b) := by
  refine ⟨fun p q => ?_, fun p => ?_, fun p q h => ?_⟩
  · unfold zflip
    rw [hT.1 p q]
    congr 1
    rw [Bool.eq_iff_iff]
    simp only [Bool.or_eq_true, decide_eq_true_eq]
    omega
  · rw [zflip_no (by omega) (by omega)]; exact hT.2.1 p
  · by_cases w : p = a ∧ q = b
    · omega
    · by_cases w2 : p = b ∧ q = a
      · omega
      · rw [zflip_no w w2] at h; exact hT.2.2 p q h
theorem zp2_flr {T : Nat → Nat → Bool} {n a b : Nat} (hT : zReg n T) (ha : a < n) (hb : b < n) (hab : a ≠ b) : zp2 T n + (if T a b = true then 0 else 1) = zp2 (zflip T a b) n + (if T a b = true then 1 else 0) := by
  rcases Nat.lt_or_ge a b with w | w
  · exact zp2_fl w hb
  · rw [zflip_c, hT.1 a b]; exact zp2_fl (by omega) ha
/-- two ties exchanged -/
def zSwc (T : Nat → Nat → Bool) (a b c d : Nat) : Prop := a ≠ c ∧ a ≠ d ∧ b ≠ c ∧ b ≠ d ∧ T a d = false ∧ T c b = false
def zSwf (T : Nat → Nat → Bool) (a b c d : Nat) : Nat → Nat → Bool := zflip (zflip (zflip (zflip T a b) c d) a d) c b
def zSw4 (T : Nat → Nat → Bool) (a b c d : Nat) : Nat → Nat → Bool := if a ≠ c ∧ a ≠ d ∧ b ≠ c ∧ b ≠ d ∧ T a d = false ∧ T c b = false then zSwf T a b c d else T
theorem zSw4_ok {T : Nat → Nat → Bool} {n a b c d : Nat} (hT : zReg n T) (hab : T a b = true) (hcd : T c d = true) : zReg n (zSw4 T a b c d) ∧ zp2 (zSw4 T a b c d) n = zp2 T n := by
  have hne1 : a ≠ b := fun z => by rw [z, hT.2.1] at hab; cases hab
  have hne2 : c ≠ d := fun z => by rw [z, hT.2.1] at hcd; cases hcd
  obtain ⟨a1, b1⟩ := hT.lt hab
  obtain ⟨c1, d1⟩ := hT.lt hcd
  unfold zSw4
  by_cases h : a ≠ c ∧ a ≠ d ∧ b ≠ c ∧ b ≠ d ∧ T a d = false ∧ T c b = false
  · rw [if_pos h]
    obtain ⟨e1, e2, e3, e4, e5, e6⟩ := h
    have r1 := zflip_reg hT a1 b1 hne1
    have r2 := zflip_reg r1 c1 d1 hne2
    have r3 := zflip_reg r2 a1 d1 e2
    have r4 := zflip_reg r3 c1 b1 (Ne.symm e3)
    refine ⟨r4, ?_⟩
    have p1 := zp2_flr hT a1 b1 hne1
    have p2 := zp2_flr r1 c1 d1 hne2
    have p3 := zp2_flr r2 a1 d1 e2
    have p4 := zp2_flr r3 c1 b1 (Ne.symm e3)
    rw [hab] at p1
    rw [zflip_no (by omega) (by omega), hcd] at p2
    rw [zflip_no (by omega) (by omega), zflip_no (by omega) (by omega), e5] at p3
    rw [zflip_no (by omega) (by omega), zflip_no (by omega) (by omega), zflip_no (by omega) (by omega), e6] at p4
    simp at p1 p2 p3 p4
    unfold zSwf
    omega
  · rw [if_neg h]; exact ⟨hT, rfl⟩
/-- the i-th tie -/
def zPik (T : Nat → Nat → Bool) (i : Nat) : Nat := (zpk (zut T) ((i : Nat) : Int) 256).toNat
theorem zPik_ok {T : Nat → Nat → Bool} {i : Nat} (hi : i < zcnt (zut T) 256) : ∃ c : Nat, c < 256 ∧ T (c / 16) (c % 16) = true ∧ zpk (zut T) ((i : Nat) : Int) 256 = ((c : Nat) : Int) ∧ zPik T i = c := by
  obtain ⟨c, h1, h2, h3⟩ := zcnt_has (zut T) 256 i hi
  have h4 : zpk (zut T) ((i : Nat) : Int) 256 = ((c : Nat) : Int) := zpk_some h1 h2 (by rw [h3])
  refine ⟨c, h1, ?_, h4, ?_⟩
  · have h5 : (T (c / 16) (c % 16) && decide (c / 16 < c % 16)) = true := h2
    simp only [Bool.and_eq_true] at h5
    exact h5.1
  · unfold zPik; rw [h4]; rfl
theorem zut_cnt {n : Nat} {T : Nat → Nat → Bool} (hT : zReg n T) (hn : n ≤ 16) : zcnt (zut T) 256 = zp2 T n := by
  have h := zcnt_rows T 16 0 (by omega)
  rw [show 16 * 16 + 0 = 256 from rfl] at h
  rw [h]
  show zsum _ 16 + 0 = _
  have h2 : zsum (fun a => zcnt (zutr T a) 16) 16 = zsum (fun a => zcnt (zutr T a) 16) n := zsum_top (fun a ha => zcnt_z fun q _ => by
    unfold zutr
    cases e : T a q
    · rfl
    · have := (hT.lt e).1; omega) hn
  rw [h2]
  unfold zp2
  show zsum _ n = _
  refine zsum_ext fun p hp => ?_
  rw [zcnt_top (c := n) (W := zutr T p) (fun d hd => by
    unfold zutr
    cases e : T p d
    · rfl
    · have := (hT.lt e).2; omega) hn]
  refine zcnt_ext fun q _ => ?_
  unfold zutr
  rw [Bool.and_comm]
/-- one step, and the steps -/
def zSf (T : Nat → Nat → Bool) (seed : Int) (m k : Nat) : Nat → Nat → Bool :=
  zSw4 T (zPik T (zlot seed ((2 * k : Nat) : Int) m) / 16) (zPik T (zlot seed ((2 * k : Nat) : Int) m) % 16)
    (if zlot seed ((2 * k + 1 : Nat) : Int) (2 * m) % 2 = 0 then zPik T (zlot seed ((2 * k + 1 : Nat) : Int) (2 * m) / 2) / 16 else zPik T (zlot seed ((2 * k + 1 : Nat) : Int) (2 * m) / 2) % 16)
    (if zlot seed ((2 * k + 1 : Nat) : Int) (2 * m) % 2 = 0 then zPik T (zlot seed ((2 * k + 1 : Nat) : Int) (2 * m) / 2) % 16 else zPik T (zlot seed ((2 * k + 1 : Nat) : Int) (2 * m) / 2) / 16)
def zShf (T : Nat → Nat → Bool) (seed : Int) (m : Nat) : Nat → Nat → Nat → Bool
  | 0 => T
  | k + 1 => zSf (zShf T seed m k) seed m k
def zCh (n : Nat) (T : Nat → Nat → Bool) (seed : Int) : Nat → Nat → Bool := zShf T seed (zp2 T n) (4 * zp2 T n)
/-- what is drawn in a step: the codes of two ties -/
theorem zSf_at {T : Nat → Nat → Bool} {n m : Nat} (hT : zReg n T) (hn : n ≤ 16) (hm : zp2 T n = m) (hm0 : 0 < m) (seed : Int) (k : Nat) : ∃ x y h : Nat, x < 256 ∧ y < 256 ∧ T (x / 16) (x % 16) = true ∧ T (y / 16) (y % 16) = true ∧ zlot seed ((2 * k + 1 : Nat) : Int) (2 * m) = h ∧ h < 2 * m ∧ zpk (zut T) ((zlot seed ((2 * k : Nat) : Int) m : Nat) : Int) 256 = ((x : Nat) : Int) ∧ zpk (zut T) ((h / 2 : Nat) : Int) 256 = ((y : Nat) : Int) ∧ zSf T seed m k = zSw4 T (x / 16) (x % 16) (if h % 2 = 0 then y / 16 else y % 16) (if h % 2 = 0 then y % 16 else y / 16) := by
  have hc := zut_cnt hT hn
  have l1 := zlot_lt (seed := seed) (which := ((2 * k : Nat) : Int)) hm0
  have l2 := zlot_lt (seed := seed) (which := ((2 * k + 1 : Nat) : Int)) (n := 2 * m) (by omega)
  obtain ⟨x, x1, x2, x3, x4⟩ := zPik_ok (T := T) (i := zlot seed ((2 * k : Nat) : Int) m) (by omega)
  obtain ⟨y, y1, y2, y3, y4⟩ := zPik_ok (T := T) (i := zlot seed ((2 * k + 1 : Nat) : Int) (2 * m) / 2) (by omega)
  refine ⟨x, y, _, x1, y1, x2, y2, rfl, l2, x3, y3, ?_⟩
  unfold zSf
  rw [x4, y4]
theorem zSf_ok {T : Nat → Nat → Bool} {n m : Nat} (hT : zReg n T) (hn : n ≤ 16) (hm : zp2 T n = m) (hm0 : 0 < m) (seed : Int) (k : Nat) : zReg n (zSf T seed m k) ∧ zp2 (zSf T seed m k) n = m := by
  obtain ⟨x, y, h, -, -, x2, y2, -, -, -, -, e⟩ := zSf_at hT hn hm hm0 seed k
  rw [e, ← hm]
  by_cases w : h % 2 = 0
  · rw [if_pos w, if_pos w]; exact zSw4_ok hT x2 y2
  · rw [if_neg w, if_neg w]; exact zSw4_ok hT x2 (by rw [hT.1]; exact y2)
theorem zShf_ok {T : Nat → Nat → Bool} {n m : Nat} (hT : zReg n T) (hn : n ≤ 16) (hm : zp2 T n = m) (seed : Int) (k : Nat) (hk : k ≤ 4 * m) : zReg n (zShf T seed m k) ∧ zp2 (zShf T seed m k) n = m := by
  induction k with
  | zero => exact ⟨hT, hm⟩
  | succ k ih =>
    obtain ⟨h1, h2⟩ := ih (by omega)
    exact zSf_ok h1 hn h2 (by omega) seed k
theorem zCh_reg {T : Nat → Nat → Bool} {n : Nat} (hT : zReg n T) (hn : n ≤ 16) (seed : Int) : zReg n (zCh n T seed) := (zShf_ok hT hn rfl seed _ (Nat.le_refl _)).1
theorem zlnk {T : Nat → Nat → Bool} {a b : Nat} {v : Bool} (hs : T b a = T a b) (hv : T a b = !v) : zmu (zmu T a b v) b a v = zflip T a b := by
  funext p q
  unfold zmu
  by_cases w2 : p = b ∧ q = a
  · obtain ⟨rfl, rfl⟩ := w2
    rw [if_pos ⟨rfl, rfl⟩, zflip_c, zflip_at, hs, hv, Bool.not_not]
  · rw [if_neg w2]
    by_cases w1 : p = a ∧ q = b
    · obtain ⟨rfl, rfl⟩ := w1
      rw [if_pos ⟨rfl, rfl⟩, zflip_at, hv, Bool.not_not]
    · rw [if_neg w1, zflip_no w1 w2]
end
