/-! ===== rounds of marks: the class ===== -/
theorem c_isAlike {O : zOm} (hO : zWld O) {o y n m p q : Nat} {f : Nat → Nat} {T : Nat → Nat → Bool} {M : zMem} {K : Option zV → zMem → Prop} (ho : zPar (zS O) o) (hy : zNet (zS O) y) (hN : zNR M y n T) (hn2 : n ≤ 16) (hM : zPR M o n f m) (hm : m ≤ 16) (hp : p < n) (hq : q < n)
    (hk : K (some (0, zbI (zal n m f T p q))) M) : zR O F_Parting_isAlike [(2, ((o : Nat) : Int)), (2, ((y : Nat) : Int)), (0, ((p : Nat) : Int)), (0, ((q : Nat) : Int))] M K := by
  obtain ⟨o0, o1, o2, o3, o4, o5, o6, o7, o8⟩ := ho
  obtain ⟨y0, y1, y2, y3⟩ := hy
  obtain ⟨m1, m2, m3, m4⟩ := hM
  have gp := m3 p hp
  have gq := m3 q hq
  have gyp : M ((y + 1 : Nat) : Int) ((p : Nat) : Int) = _ := hN.2 p (by omega)
  have gyq : M ((y + 1 : Nat) : Int) ((q : Nat) : Int) = _ := hN.2 q (by omega)
  have hcc : ∀ r c, zcnt (fun i => T r i && (decide (i < n) && decide (f i = c))) 16 = zdg n f T r c := fun r c => by
    rw [zcnt_nb hn2]
    exact zcnt_ext fun i _ => Bool.and_comm _ _
  apply r_Parting_isAlike hO
  unfold B_Parting_isAlike
  by_cases w : f p = f q
  · ((with_reducible refine i_Seq (i_If (i_cI_ne (i_IA (i_FR (i_A0 ?_)))))); (with_reducible refine i_fldR (by assumption) ?_); (with_reducible refine i_L2 ?_); (with_reducible refine i_in (by assumption) (by omega) (by omega) ?_); (with_reducible refine i_IA (i_FR (i_A0 ?_))); (with_reducible refine i_fldR (by assumption) ?_); (with_reducible refine i_L3 ?_); (with_reducible refine i_in (by assumption) (by omega) (by omega) ?_); (rw [gp]); (rw [gq]); ((with_reducible refine i_f (show ¬ (((f p : Nat) : Int) : Int) ≠ ((f q : Nat) : Int) by omega) ?_)); (with_reducible refine i_Seq (i_Blk (i_Seq (i_Set (i_I ?_))))); simp only [w_set0, w_set1, w_setn0, w_setn1])
    refine w_ForN m (fun c ρ M' => (∃ l, ρ = ((o : Nat) : Int) :: ((y : Nat) : Int) :: ((p : Nat) : Int) :: ((q : Nat) : Int) :: ((c : Nat) : Int) :: l) ∧ (∀ d, d < c → zdg n f T p d = zdg n f T q d) ∧ M' = M) ⟨⟨_, rfl⟩, fun d hd => absurd hd (Nat.not_lt_zero _), rfl⟩ ?_ ?_
    · rintro c ρ M1 X hcm ⟨⟨l, rfl⟩, hd, rfl⟩ hX
      have gc := m4 c hcm
      by_cases e : zdg n f T p c = zdg n f T q c
      · have hne : ¬ (((zdg n f T p c : Nat) : Int) : Int) ≠ ((zdg n f T q c : Nat) : Int) := fun z => z (congrArg _ e)
        ((with_reducible refine i_turn (i_cI_lt (i_L4 (i_F (i_A0 ?_))))); (with_reducible refine i_fld (by assumption) ?_); (rw [m2]); (with_reducible refine i_t (by omega) ?_); (with_reducible refine i_If (i_cI_ne (i_Call (i_as1 (i_And (i_IA (i_FR (i_A1 ?_)))))))); (with_reducible refine i_fldR (by assumption) ?_); (with_reducible refine i_L2 ?_); (with_reducible refine i_in (by assumption) (by omega) (by omega) ?_); (with_reducible refine i_IA (i_FR (i_A0 ?_))); (with_reducible refine i_fldR (by assumption) ?_); (with_reducible refine i_L4 ?_); (with_reducible refine i_in (by assumption) (by omega) (by omega) ?_); (with_reducible refine i_as0 (i_recv1 ?_)); (rw [gyp]); (rw [gc]); (rw [yand_mk]); (refine s_bitCount hO ⟨_, rfl, ?_⟩); (with_reducible refine i_Call (i_as1 (i_And (i_IA (i_FR (i_A1 ?_)))))); (with_reducible refine i_fldR (by assumption) ?_); (with_reducible refine i_L3 ?_); (with_reducible refine i_in (by assumption) (by omega) (by omega) ?_); (with_reducible refine i_IA (i_FR (i_A0 ?_))); (with_reducible refine i_fldR (by assumption) ?_); (with_reducible refine i_L4 ?_); (with_reducible refine i_in (by assumption) (by omega) (by omega) ?_); (with_reducible refine i_as0 (i_recv1 ?_)); (rw [gyq]); (rw [gc]); (rw [yand_mk]); (refine s_bitCount hO ⟨_, rfl, ?_⟩); (rw [hcc]); (rw [hcc]); ((with_reducible refine i_f hne ?_)); (with_reducible refine i_up (i_Inc4 ?_)); rw [zx_inc (by omega)]; simp only [w_set0, w_set1, w_setn0, w_setn1])
        refine hX _ _ ⟨⟨_, rfl⟩, fun d hd2 => ?_, rfl⟩
        by_cases z : d = c
        · subst z; exact e
        · exact hd d (by omega)
      · have hz : zal n m f T p q = false := decide_eq_false fun z => e (z.2 c hcm)
        rw [hz] at hk
        have hne : (((zdg n f T p c : Nat) : Int) : Int) ≠ ((zdg n f T q c : Nat) : Int) := fun z => e (Int.ofNat.inj z)
        ((with_reducible refine i_turn (i_cI_lt (i_L4 (i_F (i_A0 ?_))))); (with_reducible refine i_fld (by assumption) ?_); (rw [m2]); (with_reducible refine i_t (by omega) ?_); (with_reducible refine i_If (i_cI_ne (i_Call (i_as1 (i_And (i_IA (i_FR (i_A1 ?_)))))))); (with_reducible refine i_fldR (by assumption) ?_); (with_reducible refine i_L2 ?_); (with_reducible refine i_in (by assumption) (by omega) (by omega) ?_); (with_reducible refine i_IA (i_FR (i_A0 ?_))); (with_reducible refine i_fldR (by assumption) ?_); (with_reducible refine i_L4 ?_); (with_reducible refine i_in (by assumption) (by omega) (by omega) ?_); (with_reducible refine i_as0 (i_recv1 ?_)); (rw [gyp]); (rw [gc]); (rw [yand_mk]); (refine s_bitCount hO ⟨_, rfl, ?_⟩); (with_reducible refine i_Call (i_as1 (i_And (i_IA (i_FR (i_A1 ?_)))))); (with_reducible refine i_fldR (by assumption) ?_); (with_reducible refine i_L3 ?_); (with_reducible refine i_in (by assumption) (by omega) (by omega) ?_); (with_reducible refine i_IA (i_FR (i_A0 ?_))); (with_reducible refine i_fldR (by assumption) ?_); (with_reducible refine i_L4 ?_); (with_reducible refine i_in (by assumption) (by omega) (by omega) ?_); (with_reducible refine i_as0 (i_recv1 ?_)); (rw [gyq]); (rw [gc]); (rw [yand_mk]); (refine s_bitCount hO ⟨_, rfl, ?_⟩); (rw [hcc]); (rw [hcc]); ((with_reducible refine i_t hne ?_)); (with_reducible refine i_RetZ (i_I ?_)); (with_reducible refine i_z (Or.inl rfl) ?_))
        exact hk
    · rintro ρ M1 X ⟨⟨l, rfl⟩, hd, rfl⟩
      have hz : zal n m f T p q = true := decide_eq_true ⟨w, hd⟩
      rw [hz] at hk
      ((with_reducible refine i_turn (i_cI_lt (i_L4 (i_F (i_A0 ?_))))); (with_reducible refine i_fld (by assumption) ?_); (rw [m2]); (with_reducible refine i_f (by omega) ?_); (with_reducible refine i_RetZ (i_I ?_)); (with_reducible refine i_z (Or.inr rfl) ?_))
      exact hk
  · have hz : zal n m f T p q = false := decide_eq_false fun z => w z.1
    rw [hz] at hk
    ((with_reducible refine i_Seq (i_If (i_cI_ne (i_IA (i_FR (i_A0 ?_)))))); (with_reducible refine i_fldR (by assumption) ?_); (with_reducible refine i_L2 ?_); (with_reducible refine i_in (by assumption) (by omega) (by omega) ?_); (with_reducible refine i_IA (i_FR (i_A0 ?_))); (with_reducible refine i_fldR (by assumption) ?_); (with_reducible refine i_L3 ?_); (with_reducible refine i_in (by assumption) (by omega) (by omega) ?_); (rw [gp]); (rw [gq]); ((with_reducible refine i_t (show (((f p : Nat) : Int) : Int) ≠ ((f q : Nat) : Int) by omega) ?_)); (with_reducible refine i_RetZ (i_I ?_)); (with_reducible refine i_z (Or.inl rfl) ?_))
    exact hk
theorem c_partOnce {O : zOm} (hO : zWld O) {o y n : Nat} {f : Nat → Nat} {T : Nat → Nat → Bool} {M : zMem} {K : Option zV → zMem → Prop} (ho : zPar (zS O) o) (hy : zNet (zS O) y) (hyo : y + 1 < o ∨ o + 3 < y) (hN : zNR M y n T) (hn1 : 0 < n) (hn2 : n ≤ 16) (hM : zPC M o n f)
    (hk : ∀ M', (∀ b j, ¬ (((o : Nat) : Int) ≤ b ∧ b ≤ ((o + 3 : Nat) : Int)) → M' b j = M b j) → zPC M' o n (zG (zal n (zcmx n f) (zcg n f) T)) → K none M') : zR O F_Parting_partOnce [(2, ((o : Nat) : Int)), (2, ((y : Nat) : Int))] M K := by
  have ho0 := ho
  obtain ⟨o0, o1, o2, o3, o4, o5, o6, o7, o8⟩ := ho
  have hm := zcm_le n f
  obtain ⟨m1, m2, m3, m4⟩ := hM
  have hal := fun (M' : zMem) (a : zPR M' o n (zcg n f) (zcmx n f)) (a2 : zNR M' y n T) (p q : Nat) (hp : p < n) (hq : q < n) (K' : Option zV → zMem → Prop) (a6 : K' (some (0, zbI (zal n (zcmx n f) (zcg n f) T p q))) M') => c_isAlike hO ho0 hy a2 hn2 a (show zcmx n f ≤ 16 by omega) hp hq a6
  generalize zal n (zcmx n f) (zcg n f) T = A at hal hk
  apply r_Parting_partOnce hO
  unfold B_Parting_partOnce
  ((with_reducible refine i_Seq (i_Seq (i_Blk (i_Seq (i_Set (i_I ?_)))))); simp only [w_set0, w_set1, w_setn0, w_setn1])
  refine w_ForN n (fun p ρ M' => (∃ l, ρ = ((o : Nat) : Int) :: ((y : Nat) : Int) :: ((p : Nat) : Int) :: l) ∧ (∀ b j, ¬ b = ((o + 3 : Nat) : Int) → M' b j = M b j) ∧ ∀ r : Nat, r < p → M' ((o + 3 : Nat) : Int) ((r : Nat) : Int) = ((zG A r : Nat) : Int)) ⟨⟨_, rfl⟩, fun _ _ _ => rfl, fun r h => absurd h (Nat.not_lt_zero _)⟩ ?_ ?_
  · rintro p ρ M1 X hp ⟨⟨l, rfl⟩, f1, h1⟩ hX
    have gn : M1 ((o : Nat) : Int) ((3 : Nat) : Int) = ((n : Nat) : Int) := (f1 _ _ (by omega)).trans m1
    have hP1 : zPR M1 o n (zcg n f) (zcmx n f) := zPR.fr ⟨m1, m2, m3, m4⟩ (fun b j a1 a2 => f1 b j (by omega))
    have hN1 : zNR M1 y n T := hN.to (fun b j a1 a2 => f1 b j (by omega))
    have hgo := zfind_ok (A p) p
    ((with_reducible refine i_turn (i_cI_lt (i_L2 (i_F (i_A0 ?_))))); (with_reducible refine i_fld (by assumption) ?_); (rw [gn]); (with_reducible refine i_t (by omega) ?_); (with_reducible refine i_Blk (i_Seq (i_Set (i_I (i_Seq ?_))))); simp only [w_set0, w_set1, w_setn0, w_setn1]; rw [w_setT])
    refine w_WhileN (zG A p) (fun q ρ M' => (∃ l, ρ = ((o : Nat) : Int) :: ((y : Nat) : Int) :: ((p : Nat) : Int) :: ((q : Nat) : Int) :: l) ∧ M' = M1) ⟨⟨_, rfl⟩, rfl⟩ ?_ ?_
    · rintro q ρ M2 X1 hq ⟨⟨l2, rfl⟩, rfl⟩ hX1
      have hle := zG_le A p
      have hA : A p q = false := hgo.2.2 q hq
      ((with_reducible refine i_turn (i_cAnd (i_cI_lt (i_L3 (i_L2 ?_))))); (with_reducible refine i_t (by omega) ?_); (with_reducible refine i_cNot (i_cZ_ne (i_Call (i_as1 (i_A0 (i_as1 (i_A1 (i_as1 (i_L2 (i_as1 (i_L3 (i_as0 ?_)))))))))))); (with_reducible refine i_recv0 (by assumption) ?_); (refine hal M2 hP1 hN1 p q hp (by omega) _ ⟨_, rfl, ?_⟩); (rw [hA]); rw [zbI_f]; (with_reducible refine i_f (by omega) ?_); (with_reducible refine i_Inc3 ?_); rw [zx_inc (by omega)]; simp only [w_set0, w_set1, w_setn0, w_setn1])
      exact hX1 _ _ ⟨⟨_, rfl⟩, rfl⟩
    · rintro ρ M2 X1 ⟨⟨l2, rfl⟩, rfl⟩
      have hle := zG_le A p
      have hfin : ∀ (l : zLoc), X (((o : Nat) : Int) :: ((y : Nat) : Int) :: ((p + 1 : Nat) : Int) :: l) (zput M2 ((o + 3 : Nat) : Int) (zup (M2 ((o + 3 : Nat) : Int)) ((p : Nat) : Int) ((zG A p : Nat) : Int))) := fun l => by
        refine hX _ _ ⟨⟨l, rfl⟩, fun b j q => by rw [zg_n _ _ _ q]; exact f1 b j q, fun r hr => ?_⟩
        by_cases e : r = p
        · subst e; rw [zg_s]
        · rw [zg_m _ _ _ _ _ (by omega)]; exact h1 r (by omega)
      clear hX
      by_cases w : zG A p < p
      · have hA : A p (zG A p) = true := hgo.2.1 w
        ((with_reducible refine i_turn (i_cAnd (i_cI_lt (i_L3 (i_L2 ?_))))); (with_reducible refine i_t (by omega) ?_); (with_reducible refine i_cNot (i_cZ_ne (i_Call (i_as1 (i_A0 (i_as1 (i_A1 (i_as1 (i_L2 (i_as1 (i_L3 (i_as0 ?_)))))))))))); (with_reducible refine i_recv0 (by assumption) ?_); (refine hal M2 hP1 hN1 p (zG A p) hp (by omega) _ ⟨_, rfl, ?_⟩); (rw [hA]); rw [zbI_t]; (with_reducible refine i_t (by omega) ?_); (with_reducible refine i_sIA (i_FR (i_A0 ?_))); (with_reducible refine i_fldR (by assumption) ?_); (with_reducible refine i_L2 (i_L3 ?_)); (with_reducible refine i_in (by assumption) (by omega) (by omega) ?_); (with_reducible refine i_up (i_Inc2 ?_)); rw [zx_inc (by omega)]; simp only [w_set0, w_set1, w_setn0, w_setn1])
        exact hfin _
      · ((with_reducible refine i_turn (i_cAnd (i_cI_lt (i_L3 (i_L2 ?_))))); (with_reducible refine i_f (by omega) ?_); (with_reducible refine i_sIA (i_FR (i_A0 ?_))); (with_reducible refine i_fldR (by assumption) ?_); (with_reducible refine i_L2 (i_L3 ?_)); (with_reducible refine i_in (by assumption) (by omega) (by omega) ?_); (with_reducible refine i_up (i_Inc2 ?_)); rw [zx_inc (by omega)]; simp only [w_set0, w_set1, w_setn0, w_setn1])
        exact hfin _
  · rintro ρ M1 X ⟨⟨l, rfl⟩, f1, h1⟩
    have gn : M1 ((o : Nat) : Int) ((3 : Nat) : Int) = ((n : Nat) : Int) := (f1 _ _ (by omega)).trans m1
    ((with_reducible refine i_turn (i_cI_lt (i_L2 (i_F (i_A0 ?_))))); (with_reducible refine i_fld (by assumption) ?_); (rw [gn]); (with_reducible refine i_f (by omega) ?_); (with_reducible refine i_Seq (i_Copy (i_FR (i_A0 ?_)))); (with_reducible refine i_fldR (by assumption) ?_); (with_reducible refine i_I (i_FR (i_A0 ?_))); (with_reducible refine i_fldR (by assumption) ?_); (with_reducible refine i_I (i_F (i_A0 ?_))); (with_reducible refine i_fld (by assumption) ?_); (with_reducible refine i_copy (by assumption) (by assumption) (by omega) ?_); (with_reducible refine i_sCall (i_as1 (i_A0 (i_as0 ?_)))); (with_reducible refine i_recv0 (by assumption) ?_); (rw [gn]))
    refine c_numberA hO ho0 (n := n) (f := zG A) ?_ hn2 (fun q hq => ⟨?_, ?_⟩) (fun M2 f2 h2 => ⟨rfl, ?_⟩)
    · rw [zput_ne _ _ (by omega)]; exact gn
    · rw [zput_self]
      unfold zcpy
      rw [if_pos (by omega), show (0 : Int) + (((q : Nat) : Int) - 0) = ((q : Nat) : Int) by omega]
      exact h1 q hq
    · have := zG_le A q; omega
    · (with_reducible refine i_RetV ?_)
      exact hk M2 (fun b j q => by rw [f2 b j (by omega), zput_ne _ _ (by omega), f1 b j (by omega)]) h2
theorem c_refine {O : zOm} (hO : zWld O) (hS : zS O = zmS zC0) {o y n : Nat} {μ : Nat → Nat} {T : Nat → Nat → Bool} {M : zMem} {K : Option zV → zMem → Prop} (ho : zPar (zS O) o) (ho7 : 90 < o) (hy : zNet (zS O) y) (hyo : y + 1 < o ∨ o + 3 < y) (hN : zNR M y n T) (hn1 : 0 < n) (hn2 : n ≤ 16) (hμ : ∀ r : Nat, r < n → M ((2 : Nat) : Int) ((r : Nat) : Int) = ((μ r : Nat) : Int) ∧ μ r ≤ 16)
    (hk : ∀ M', (∀ b j, ¬ (((o : Nat) : Int) ≤ b ∧ b ≤ ((o + 3 : Nat) : Int)) → M' b j = M b j) → zPC M' o n (zcr n T μ (zrR n T μ + 1)) → K (some (0, ((zrR n T μ : Nat) : Int))) M') : zR O F_Parting_refine [(2, ((o : Nat) : Int)), (2, ((y : Nat) : Int)), (2, ((2 : Nat) : Int))] M K := by
  obtain ⟨hR1, hR2⟩ := zrR_ok hn1 T μ
  generalize zrR n T μ = R at hR1 hR2 hk
  have ho0 := ho
  have hy0 := hy
  have am : zArr (zS O) ((2 : Nat) : Int) .int 16 := zCA (a := 2) (ty := .int) (n := 16) hS rfl
  obtain ⟨o0, o1, o2, o3, o4, o5, o6, o7, o8⟩ := ho
  obtain ⟨y0, y1, y2, y3⟩ := hy
  have gy := hN.1
  apply r_Parting_refine hO
  unfold B_Parting_refine
  ((with_reducible refine i_Seq (i_sF (i_A0 (i_F (i_A1 ?_))))); (with_reducible refine i_fld (by assumption) ?_); (with_reducible refine i_fld (by assumption) ?_); (with_reducible refine i_Seq (i_Copy (i_A2 (i_I (i_FR (i_A0 ?_)))))); (with_reducible refine i_fldR (by assumption) ?_); (with_reducible refine i_I (i_I ?_)); (with_reducible refine i_copy (by assumption) (by assumption) (by omega) ?_); (with_reducible refine i_Seq (i_sCall (i_as1 (i_A0 (i_as0 ?_))))); (with_reducible refine i_recv0 (by assumption) ?_); (rw [gy]))
  refine c_numberA hO ho0 (n := n) (f := μ) ?_ hn2 (fun q hq => ⟨?_, (hμ q hq).2⟩) (fun M1 f1 h1 => ⟨rfl, ?_⟩)
  · rw [zput_ne _ _ (by omega)]; exact zg_s _ _ _ _ _
  · rw [zput_self]
    unfold zcpy
    rw [if_pos (by omega), zg_n _ _ _ (by omega), show (0 : Int) + (((q : Nat) : Int) - 0) = ((q : Nat) : Int) by omega]
    exact (hμ q hq).1
  have fr1 : ∀ b j, ¬ (((o : Nat) : Int) ≤ b ∧ b ≤ ((o + 3 : Nat) : Int)) → M1 b j = M b j := fun b j q => by rw [f1 b j (by omega), zput_ne _ _ (by omega), zg_n _ _ _ (by omega)]
  have h10 : zPC M1 o n (zcr n T μ 0) := h1.cg hn1
  clear f1 h1
  ((with_reducible refine i_Seq (i_Set (i_I (i_Seq (i_Set (i_I (i_Seq (i_Blk (i_Seq (i_Set (i_I ?_))))))))))); simp only [w_set0, w_set1, w_setn0, w_setn1])
  refine w_ForM (fun w ρ M' => ∃ k b l, ρ = ((o : Nat) : Int) :: ((y : Nat) : Int) :: ((2 : Nat) : Int) :: ((if b = true then k else R : Nat) : Int) :: zbI b :: ((k : Nat) : Int) :: l ∧ (∀ b j, ¬ (((o : Nat) : Int) ≤ b ∧ b ≤ ((o + 3 : Nat) : Int)) → M' b j = M b j) ∧ zPC M' o n (zcr n T μ k) ∧ (b = true → k ≤ R) ∧ (b = false → k = R + 1) ∧ w = R + 1 - k) _ ⟨0, true, _, rfl, fr1, h10, fun _ => Nat.zero_le _, (fun z => by cases z), rfl⟩ ?_
  clear fr1 h10
  rintro w ρ M2 X ⟨k, b, l, rfl, f2, h2, hbt, hbf, rfl⟩ hX
  cases b
  · clear hX
    have e := hbf rfl
    subst e
    rw [if_neg (by decide)]
    ((with_reducible refine i_turn (i_cAnd (i_cZ_ne (i_L4 ?_)))); rw [zbI_f]; (with_reducible refine i_f (by omega) ?_); (with_reducible refine i_RetI (i_L3 ?_)))
    exact hk M2 f2 h2
  · have hkR := hbt rfl
    rw [if_pos rfl]
    have hN2 : zNR M2 y n T := hN.to (fun b j a1 a2 => f2 b j (by omega))
    have gm2 : M2 ((o : Nat) : Int) ((4 : Nat) : Int) = ((zcmx n (zcr n T μ k) : Nat) : Int) := h2.2.1
    have hm16 := zcm_le n (zcr n T μ k)
    have hpar : (zcmx n (zcr n T μ k) < zcmx n (zcr n T μ (k + 1)) ↔ k < R) := by
      constructor
      · intro z
        refine Classical.byContradiction fun y => ?_
        have : k = R := by omega
        subst this
        exact hR2.2 z
      · intro z; exact hR2.1 k z
    ((with_reducible refine i_turn (i_cAnd (i_cZ_ne (i_L4 ?_)))); rw [zbI_t]; (with_reducible refine i_t (by omega) ?_); (with_reducible refine i_cI_lt (i_L5 (i_I ?_))); (with_reducible refine i_t (by omega) ?_); (with_reducible refine i_Blk (i_Seq (i_Set (i_F (i_A0 ?_))))); (with_reducible refine i_fld (by assumption) ?_); (with_reducible refine i_Seq (i_sCall (i_as1 ?_))); (rw [gm2]); simp only [w_set0, w_set1, w_setn0, w_setn1]; (with_reducible refine i_A0 (i_as1 (i_A1 (i_as0 ?_)))); (with_reducible refine i_recv0 (by assumption) ?_); rw [w_setT])
    refine c_partOnce hO ho0 hy0 hyo hN2 hn1 hn2 h2 (fun M3 f3 h3 => ⟨rfl, ?_⟩)
    rw [zcr_cg hn1] at h3
    have h31 : zPC M3 o n (zcr n T μ (k + 1)) := h3.cg hn1
    have gm3 : M3 ((o : Nat) : Int) ((4 : Nat) : Int) = ((zcmx n (zcr n T μ (k + 1)) : Nat) : Int) := h31.2.1
    have hm3 := zcm_le n (zcr n T μ (k + 1))
    have hX5 : ∀ (l : zLoc) (b : Bool) (c : Nat), b = decide (k < R) → c = (if b = true then k + 1 else k) → X (((o : Nat) : Int) :: ((y : Nat) : Int) :: ((2 : Nat) : Int) :: ((c : Nat) : Int) :: zbI b :: ((k + 1 : Nat) : Int) :: l) M3 := fun l b c hb hc2 => by
      subst hb; subst hc2
      refine hX (R + 1 - (k + 1)) _ M3 (by omega) ⟨k + 1, decide (k < R), l, ?_, fun b j q => by rw [f3 b j q, f2 b j q], h31, fun z => by have := of_decide_eq_true z; omega, fun z => by have := of_decide_eq_false z; omega, rfl⟩
      by_cases z : k < R
      · rw [decide_eq_true z, if_pos rfl, if_pos rfl]
      · rw [decide_eq_false z, if_neg (by decide), if_neg (by decide), show k = R by omega]
    clear hX
    by_cases z : k < R
    · have zz := hpar.mpr z
      ((with_reducible refine i_Seq (i_Set (i_eIf (i_cI_gt (i_F (i_A0 ?_)))))); (with_reducible refine i_fld (by assumption) ?_); (with_reducible refine i_L6 ?_); (rw [gm3]); (with_reducible refine i_t (by omega) ?_); (with_reducible refine i_I (i_If (i_cZ_ne ?_))); simp only [w_set0, w_set1, w_setn0, w_setn1]; (with_reducible refine i_L4 ?_); (with_reducible refine i_t (by omega) ?_); (with_reducible refine i_Inc3 (i_up ?_)); rw [zx_inc (by omega)]; simp only [w_set0, w_set1, w_setn0, w_setn1]; (with_reducible refine i_Inc5 ?_); rw [zx_inc (by omega)]; simp only [w_set0, w_set1, w_setn0, w_setn1])
      exact hX5 _ true _ (decide_eq_true z).symm rfl
    · have zz := (not_congr hpar).mpr z
      ((with_reducible refine i_Seq (i_Set (i_eIf (i_cI_gt (i_F (i_A0 ?_)))))); (with_reducible refine i_fld (by assumption) ?_); (with_reducible refine i_L6 ?_); (rw [gm3]); (with_reducible refine i_f (by omega) ?_); (with_reducible refine i_I (i_If (i_cZ_ne ?_))); simp only [w_set0, w_set1, w_setn0, w_setn1]; (with_reducible refine i_L4 ?_); (with_reducible refine i_f (by omega) ?_); (with_reducible refine i_up (i_Inc5 ?_)); rw [zx_inc (by omega)]; simp only [w_set0, w_set1, w_setn0, w_setn1])
      exact hX5 _ false _ (decide_eq_false z).symm rfl
