/-! ===== answers: the class ===== -/
theorem c_see {O : zOm} (hO : zWld O) (hS : zS O = zmS zC0) {n : Nat} {op : Bool} {A : zTl} {M : zMem} {K : Option zV → zMem → Prop} (hs : zNR M 141 n (zlN n A false)) (ho : zNR M 143 n (zlO n A)) (hk : ∀ M', (∀ b j, ¬ (((145 : Nat) : Int) ≤ b ∧ b ≤ ((146 : Nat) : Int)) → M' b j = M b j) → zNR M' 145 n (zlN n A op) → K none M') : zR O F_Sorts_see [(2, ((134 : Nat) : Int)), (0, zbI op)] M K := by
  obtain ⟨⟨s0, s1, s2, s3, s4, s5, s6, s7, s8⟩, ⟨s9, s10, s11, s12, s13⟩, ⟨t1, t2, t3, t4, t5, t6, t7⟩⟩ := zO134_ok hS
  have y0 := zNetB.to hS zNt_141
  have y2 := zNetB.to hS zNt_143
  have y4 := zNetB.to hS zNt_145
  have y4' := y4
  obtain ⟨-, -, -, yo4⟩ := y4'
  apply r_Sorts_see hO
  unfold B_Sorts_see
  ((with_reducible refine i_Seq (i_Seq (i_sCall (i_as1 (i_FR (i_A0 ?_)))))); (with_reducible refine i_fldR (by assumption) ?_); (with_reducible refine i_as1 (i_FR (i_A0 ?_))); (with_reducible refine i_fldR (by assumption) ?_); (with_reducible refine i_as0 ?_); (with_reducible refine i_recv0 (by assumption) ?_))
  refine s_Net_become hO y4 y0 hs (fun M1 f1 h1 => ⟨rfl, ?_⟩)
  have fr1 : ∀ b j, ¬ (((145 : Nat) : Int) ≤ b ∧ b ≤ ((146 : Nat) : Int)) → M1 b j = M b j := fun b j q => by rw [f1 b (by simp <;> omega)]
  cases op
  · ((with_reducible refine i_If (i_cZ_ne (i_L1 ?_))); rw [zbI_f]; (with_reducible refine i_f (by omega) ?_); (with_reducible refine i_RetV ?_))
    exact hk M1 fr1 h1
  · ((with_reducible refine i_If (i_cZ_ne (i_L1 ?_))); rw [zbI_t]; (with_reducible refine i_t (by omega) ?_); (with_reducible refine i_sCall (i_as1 (i_FR (i_A0 ?_)))); (with_reducible refine i_fldR (by assumption) ?_); (with_reducible refine i_as1 (i_FR (i_A0 ?_))); (with_reducible refine i_fldR (by assumption) ?_); (with_reducible refine i_as1 (i_FR (i_A0 ?_))); (with_reducible refine i_fldR (by assumption) ?_); (with_reducible refine i_as0 ?_); (with_reducible refine i_recv0 (by assumption) ?_))
    refine s_Net_differ hO y4 y4 y2 h1 (ho.to (fun b j a1 a2 => fr1 b j (by omega))) (fun M2 f2 h2 => ⟨rfl, ?_⟩)
    (with_reducible refine i_RetV ?_)
    refine hk M2 (fun b j q => by rw [f2 b (by simp <;> omega)]; exact fr1 b j q) (h2.ext (fun p q _ _ => ?_))
    have hm := zlN_mono n A p q
    unfold zlO
    cases h : zlN n A false p q
    · simp
    · rw [hm h]; rfl
theorem zre_in {n : Nat} {L : Nat → Nat → Bool} {a : Nat} (ha : a < n) (hL : ∀ p q, L p q = true → q < n) (k q : Nat) (h : zre n L a k q = true) : q < n := by
  cases k with
  | zero => have := of_decide_eq_true h; omega
  | succ k =>
    induction k generalizing q with
    | zero =>
      rw [zre_su, Bool.or_eq_true] at h
      rcases h with h | h
      · have := of_decide_eq_true h; omega
      · obtain ⟨p, h1, h2⟩ := of_decide_eq_true h
        rw [Bool.and_eq_true] at h2
        exact hL p q h2.2
    | succ k ih =>
      rw [zre_su, Bool.or_eq_true] at h
      rcases h with h | h
      · exact ih q h
      · obtain ⟨p, h1, h2⟩ := of_decide_eq_true h
        rw [Bool.and_eq_true] at h2
        exact hL p q h2.2
/-- posts reached, and those that the first p of them reach -/
def zrx (n : Nat) (L : Nat → Nat → Bool) (a k p q : Nat) : Bool := zre n L a k q || decide (∃ r, r < p ∧ (zre n L a k r && L r q) = true)
theorem zrx_0 (n : Nat) (L : Nat → Nat → Bool) (a k q : Nat) : zrx n L a k 0 q = zre n L a k q := by
  unfold zrx
  rw [decide_eq_false (fun ⟨r, h, _⟩ => absurd h (Nat.not_lt_zero _)), Bool.or_false]
theorem c_countSteps {O : zOm} (hO : zWld O) (hS : zS O = zmS zC0) {n a b : Nat} {L : Nat → Nat → Bool} {M : zMem} {K : Option zV → zMem → Prop} (hN : zNR M 145 n L) (hn2 : n ≤ 16) (hn1 : 0 < n) (ha : a < n) (hb : b < n) (hab : a ≠ b)
    (hk : K (some (0, ((zfar n L a b : Nat) : Int))) M) : zR O F_Sorts_countSteps [(2, ((134 : Nat) : Int)), (0, ((a : Nat) : Int)), (0, ((b : Nat) : Int))] M K := by
  obtain ⟨⟨s0, s1, s2, s3, s4, s5, s6, s7, s8⟩, ⟨s9, s10, s11, s12, s13⟩, -⟩ := zO134_ok hS
  obtain ⟨y0, y1, y2, y3⟩ := zNetB.to hS zNt_145
  have gy : M ((145 : Nat) : Int) ((1 : Nat) : Int) = ((n : Nat) : Int) := hN.1
  apply r_Sorts_countSteps hO
  unfold B_Sorts_countSteps
  ((with_reducible refine i_Seq (i_Set (i_Shl (i_I (i_L1 (i_Seq (i_Blk (i_Seq (i_Set (i_I ?_)))))))))); (rw [yshl_mk (show a < 16 by omega)]); simp only [w_set0, w_set1, w_setn0, w_setn1])
  refine w_ForN (n - 1) (fun k ρ M' => (∃ l, ρ = ((134 : Nat) : Int) :: ((a : Nat) : Int) :: ((b : Nat) : Int) :: zmk (zre n L a k) :: ((1 + k : Nat) : Int) :: l) ∧ M' = M ∧ ∀ j, j ≤ k → zre n L a j b = false) ⟨⟨_, rfl⟩, rfl, fun j hj => by rw [show j = 0 by omega]; exact decide_eq_false (fun z => hab z.symm)⟩ ?_ ?_
  · rintro k ρ M1 X hk1 ⟨⟨l, rfl⟩, rfl, hno⟩ hX
    ((with_reducible refine i_turn (i_cI_lt (i_L4 (i_F (i_FR (i_A0 ?_)))))); (with_reducible refine i_fldR (by assumption) ?_); (with_reducible refine i_fld (by assumption) ?_); (rw [gy]); (with_reducible refine i_t (by omega) ?_); (with_reducible refine i_Blk (i_Seq (i_Set (i_L3 (i_Seq (i_Blk (i_Seq (i_Set (i_I ?_))))))))); simp only [w_set0, w_set1, w_setn0, w_setn1]; rw [w_setT]; simp only [w_set0, w_set1, w_setn0, w_setn1]; rw [w_setT])
    refine w_ForN n (fun p ρ M' => (∃ l, ρ = ((134 : Nat) : Int) :: ((a : Nat) : Int) :: ((b : Nat) : Int) :: zmk (zre n L a k) :: ((1 + k : Nat) : Int) :: zmk (zrx n L a k p) :: ((p : Nat) : Int) :: l) ∧ M' = M1) ⟨⟨_, by rw [zmk_ext (s := zrx n L a k 0) (t := zre n L a k) (fun q _ => zrx_0 n L a k q)]; rfl⟩, rfl⟩ ?_ ?_
    · rintro p ρ M2 X2 hp ⟨⟨l2, rfl⟩, rfl⟩ hX2
      have gp : M2 ((145 + 1 : Nat) : Int) ((p : Nat) : Int) = zmk (L p) := hN.2 p (by omega)
      have gp' : M2 ((146 : Nat) : Int) ((p : Nat) : Int) = zmk (L p) := gp
      have hyd := yand_1 (zre n L a k) (k := p) (by omega)
      have hX3 : ∀ (l : zLoc) (s : Nat → Bool), (∀ q, s q = zrx n L a k (p + 1) q) → X2 (((134 : Nat) : Int) :: ((a : Nat) : Int) :: ((b : Nat) : Int) :: zmk (zre n L a k) :: ((1 + k : Nat) : Int) :: zmk s :: ((p + 1 : Nat) : Int) :: l) M2 := fun l s h => hX2 _ _ ⟨⟨l, by rw [show s = zrx n L a k (p + 1) from funext h]⟩, rfl⟩
      clear hX2
      by_cases e : zre n L a k p = true
      · rw [if_pos e] at hyd
        ((with_reducible refine i_turn (i_cI_lt (i_L6 (i_F (i_FR (i_A0 ?_)))))); (with_reducible refine i_fldR (by assumption) ?_); (with_reducible refine i_fld (by assumption) ?_); (rw [gy]); (with_reducible refine i_t (by omega) ?_); (with_reducible refine i_If (i_cI_eq (i_And (i_Shr (i_L3 (i_L6 (i_I (i_I ?_)))))))); (rw [hyd]); simp only [w_set0, w_set1, w_setn0, w_setn1]; (with_reducible refine i_t trivial ?_); (with_reducible refine i_Set (i_Or (i_L5 (i_IA (i_FR (i_FR (i_A0 ?_))))))); (with_reducible refine i_fldR (by assumption) ?_); (with_reducible refine i_fldR (by assumption) ?_); (with_reducible refine i_L6 ?_); (with_reducible refine i_in (by assumption) (by omega) (by omega) ?_); (with_reducible refine i_up ?_); (rw [gp']); (rw [yor_mk]); simp only [w_set0, w_set1, w_setn0, w_setn1]; (with_reducible refine i_Inc6 ?_); rw [zx_inc (by omega)]; simp only [w_set0, w_set1, w_setn0, w_setn1])
        refine hX3 _ _ (fun q => ?_)
        unfold zrx
        rw [Bool.or_assoc]
        congr 1
        rw [Bool.eq_iff_iff, Bool.or_eq_true, decide_eq_true_eq, decide_eq_true_eq]
        constructor
        · rintro (⟨r, h1, h2⟩ | h)
          · exact ⟨r, by omega, h2⟩
          · exact ⟨p, by omega, by rw [e, h]; rfl⟩
        · rintro ⟨r, h1, h2⟩
          by_cases w : r = p
          · subst w
            rw [Bool.and_eq_true] at h2
            exact Or.inr h2.2
          · exact Or.inl ⟨r, by omega, h2⟩
      · rw [if_neg e] at hyd
        ((with_reducible refine i_turn (i_cI_lt (i_L6 (i_F (i_FR (i_A0 ?_)))))); (with_reducible refine i_fldR (by assumption) ?_); (with_reducible refine i_fld (by assumption) ?_); (rw [gy]); (with_reducible refine i_t (by omega) ?_); (with_reducible refine i_If (i_cI_eq (i_And (i_Shr (i_L3 (i_L6 (i_I (i_I ?_)))))))); (rw [hyd]); (with_reducible refine i_f (by omega) ?_); (with_reducible refine i_up (i_Inc6 ?_)); rw [zx_inc (by omega)]; simp only [w_set0, w_set1, w_setn0, w_setn1])
        refine hX3 _ _ (fun q => ?_)
        unfold zrx
        congr 1
        refine decide_eq_decide.mpr ⟨fun ⟨r, h1, h2⟩ => ⟨r, by omega, h2⟩, fun ⟨r, h1, h2⟩ => ⟨r, ?_, h2⟩⟩
        by_cases w : r = p
        · subst w
          rw [Bool.and_eq_true] at h2
          exact absurd h2.1 e
        · omega
    · rintro ρ M2 X2 ⟨⟨l2, rfl⟩, rfl⟩
      have hyd := yand_1 (zre n L a (k + 1)) (k := b) (by omega)
      have hz : zrx n L a k n = zre n L a (k + 1) := funext fun q => (zre_su n L a k q).symm
      rw [hz]
      cases e : zre n L a (k + 1) b
      · rw [e, if_neg (by decide)] at hyd
        ((with_reducible refine i_turn (i_cI_lt (i_L6 (i_F (i_FR (i_A0 ?_)))))); (with_reducible refine i_fldR (by assumption) ?_); (with_reducible refine i_fld (by assumption) ?_); (rw [gy]); (with_reducible refine i_f (by omega) ?_); (with_reducible refine i_Seq (i_Set (i_L5 (i_If (i_cI_eq (i_And (i_Shr ?_))))))); simp only [w_set0, w_set1, w_setn0, w_setn1]; (with_reducible refine i_L3 (i_L2 (i_I (i_I ?_)))); (rw [hyd]); (with_reducible refine i_f (by omega) ?_); (with_reducible refine i_up (i_Inc4 ?_)); rw [zx_inc (by omega)]; simp only [w_set0, w_set1, w_setn0, w_setn1])
        refine hX _ _ ⟨⟨_, rfl⟩, rfl, fun j hj => ?_⟩
        by_cases w : j = k + 1
        · rw [w]; exact e
        · exact hno j (by omega)
      · rw [e, if_pos rfl] at hyd
        have hf : zfar n L a b = 1 + k := by
          rw [show 1 + k = k + 1 by omega]
          exact zfind_eq (by omega) e (fun j hj => hno j (by omega))
        rw [hf] at hk
        ((with_reducible refine i_turn (i_cI_lt (i_L6 (i_F (i_FR (i_A0 ?_)))))); (with_reducible refine i_fldR (by assumption) ?_); (with_reducible refine i_fld (by assumption) ?_); (rw [gy]); (with_reducible refine i_f (by omega) ?_); (with_reducible refine i_Seq (i_Set (i_L5 (i_If (i_cI_eq (i_And (i_Shr ?_))))))); simp only [w_set0, w_set1, w_setn0, w_setn1]; (with_reducible refine i_L3 (i_L2 (i_I (i_I ?_)))); (rw [hyd]); simp only [w_set0, w_set1, w_setn0, w_setn1]; (with_reducible refine i_t trivial ?_); (with_reducible refine i_RetI (i_L4 ?_)))
        exact hk
  · rintro ρ M1 X ⟨⟨l, rfl⟩, rfl, hno⟩
    have hf : zfar n L a b = n := zfind_no (fun j hj => hno j (by omega))
    rw [hf] at hk
    ((with_reducible refine i_turn (i_cI_lt (i_L4 (i_F (i_FR (i_A0 ?_)))))); (with_reducible refine i_fldR (by assumption) ?_); (with_reducible refine i_fld (by assumption) ?_); (rw [gy]); (with_reducible refine i_f (by omega) ?_); (with_reducible refine i_RetI (i_F (i_FR (i_A0 ?_)))); (with_reducible refine i_fldR (by assumption) ?_); (with_reducible refine i_fld (by assumption) ?_); (rw [gy]))
    exact hk
theorem zcnt_L {n : Nat} (hn : n ≤ 16) {L : Nat → Nat → Bool} (hL : ∀ p q, L p q = true → q < n) (p a : Nat) : zcnt (fun q => L p q && L a q) 16 = zcnt (fun q => L p q && L a q) n := zcnt_top (fun d hd => by
  cases h : L p d
  · rfl
  · have := hL p d h; omega) hn
theorem c_countTrios {O : zOm} (hO : zWld O) (hS : zS O = zmS zC0) {n a : Nat} {L : Nat → Nat → Bool} {M : zMem} {K : Option zV → zMem → Prop} (hN : zNR M 145 n L) (hn2 : n ≤ 16) (ha : a < n) (hs : ∀ p q, L p q = L q p) (h0 : ∀ p, L p p = false) (hL : ∀ p q, L p q = true → q < n)
    (hk : K (some (0, ((zp2 (fun p q => L a p && (L a q && L p q)) n : Nat) : Int))) M) : zR O F_Sorts_countTrios [(2, ((134 : Nat) : Int)), (0, ((a : Nat) : Int))] M K := by
  obtain ⟨⟨s0, s1, s2, s3, s4, s5, s6, s7, s8⟩, ⟨s9, s10, s11, s12, s13⟩, -⟩ := zO134_ok hS
  have hy := zNetB.to hS zNt_145
  obtain ⟨y0, y1, y2, y3⟩ := zNetB.to hS zNt_145
  have gy : M ((145 : Nat) : Int) ((1 : Nat) : Int) = ((n : Nat) : Int) := hN.1
  have ht := ztrio (n := n) (a := a) hs h0
  apply r_Sorts_countTrios hO
  unfold B_Sorts_countTrios
  ((with_reducible refine i_Seq (i_Set (i_I (i_Seq (i_Blk (i_Seq (i_Set (i_I ?_)))))))); simp only [w_set0, w_set1, w_setn0, w_setn1])
  refine w_ForN n (fun p ρ M' => (∃ l, ρ = ((134 : Nat) : Int) :: ((a : Nat) : Int) :: ((zsum (fun p => if L a p = true then zcnt (fun q => L p q && L a q) n else 0) p : Nat) : Int) :: ((p : Nat) : Int) :: l) ∧ M' = M) ⟨⟨_, rfl⟩, rfl⟩ ?_ ?_
  · rintro p ρ M1 X hp ⟨⟨l, rfl⟩, rfl⟩ hX
    have gp : M1 ((146 : Nat) : Int) ((p : Nat) : Int) = zmk (L p) := hN.2 p (by omega)
    have ga : M1 ((146 : Nat) : Int) ((a : Nat) : Int) = zmk (L a) := hN.2 a (by omega)
    have hcap := zsum_cap (f := fun p => if L a p = true then zcnt (fun q => L p q && L a q) n else 0) (c := 16) (fun p => by
      have := zcnt_le (fun q => L p q && L a q) n
      split <;> omega) p
    have hcap2 : p * 16 ≤ 16 * 16 := Nat.mul_le_mul_right _ (by omega)
    have hX2 : ∀ (l : zLoc) (c : Nat), c = zsum (fun p => if L a p = true then zcnt (fun q => L p q && L a q) n else 0) p + (if L a p = true then zcnt (fun q => L p q && L a q) n else 0) → X (((134 : Nat) : Int) :: ((a : Nat) : Int) :: ((c : Nat) : Int) :: ((p + 1 : Nat) : Int) :: l) M1 := fun l c hc => by subst hc; exact hX _ _ ⟨⟨l, rfl⟩, rfl⟩
    clear hX
    generalize zsum (fun p => if L a p = true then zcnt (fun q => L p q && L a q) n else 0) p = u at hcap hX2 ⊢
    have hcl := zcnt_le (fun q => L p q && L a q) n
    have hcn := zcnt_L hn2 hL p a
    cases e : L a p
    · rw [e, if_neg (by decide)] at hX2
      ((with_reducible refine i_turn (i_cI_lt (i_L3 (i_F (i_FR (i_A0 ?_)))))); (with_reducible refine i_fldR (by assumption) ?_); (with_reducible refine i_fld (by assumption) ?_); (rw [gy]); (with_reducible refine i_t (by omega) ?_); (with_reducible refine i_If (i_cZ_ne (i_Call (i_as1 (i_FR (i_A0 ?_)))))); (with_reducible refine i_fldR (by assumption) ?_); (with_reducible refine i_as1 (i_L1 (i_as1 (i_L3 (i_as0 ?_))))); (with_reducible refine i_recv0 (by assumption) ?_); (refine s_joins hO hy hN (show a < 16 by omega) (show p < 16 by omega) ⟨_, rfl, ?_⟩); (rw [e]); rw [zbI_f]; (with_reducible refine i_f (by omega) ?_); (with_reducible refine i_up (i_Inc3 ?_)); rw [zx_inc (by omega)]; simp only [w_set0, w_set1, w_setn0, w_setn1])
      exact hX2 _ _ (by omega)
    · rw [e, if_pos rfl] at hX2
      ((with_reducible refine i_turn (i_cI_lt (i_L3 (i_F (i_FR (i_A0 ?_)))))); (with_reducible refine i_fldR (by assumption) ?_); (with_reducible refine i_fld (by assumption) ?_); (rw [gy]); (with_reducible refine i_t (by omega) ?_); (with_reducible refine i_If (i_cZ_ne (i_Call (i_as1 (i_FR (i_A0 ?_)))))); (with_reducible refine i_fldR (by assumption) ?_); (with_reducible refine i_as1 (i_L1 (i_as1 (i_L3 (i_as0 ?_))))); (with_reducible refine i_recv0 (by assumption) ?_); (refine s_joins hO hy hN (show a < 16 by omega) (show p < 16 by omega) ⟨_, rfl, ?_⟩); (rw [e]); rw [zbI_t]; (with_reducible refine i_t (by omega) ?_); (with_reducible refine i_Set (i_Add (i_L2 (i_Call (i_as1 (i_And (i_IA (i_FR (i_FR (i_A0 ?_)))))))))); (with_reducible refine i_fldR (by assumption) ?_); (with_reducible refine i_fldR (by assumption) ?_); (with_reducible refine i_L3 ?_); (with_reducible refine i_in (by assumption) (by omega) (by omega) ?_); (with_reducible refine i_IA (i_FR (i_FR (i_A0 ?_)))); (with_reducible refine i_fldR (by assumption) ?_); (with_reducible refine i_fldR (by assumption) ?_); (with_reducible refine i_L1 ?_); (with_reducible refine i_in (by assumption) (by omega) (by omega) ?_); (with_reducible refine i_as0 (i_recv1 ?_)); (rw [gp]); (rw [ga]); (rw [yand_mk]); (refine s_bitCount hO ⟨_, rfl, ?_⟩); (with_reducible refine i_up ?_); (rw [hcn]); rw [zx_add (by omega)]; simp only [w_set0, w_set1, w_setn0, w_setn1]; (with_reducible refine i_Inc3 ?_); rw [zx_inc (by omega)]; simp only [w_set0, w_set1, w_setn0, w_setn1])
      exact hX2 _ _ rfl
  · rintro ρ M1 X ⟨⟨l, rfl⟩, rfl⟩
    have h2 := zp2_le (fun p q => L a p && (L a q && L p q)) hn2
    rw [ht]
    ((with_reducible refine i_turn (i_cI_lt (i_L3 (i_F (i_FR (i_A0 ?_)))))); (with_reducible refine i_fldR (by assumption) ?_); (with_reducible refine i_fld (by assumption) ?_); (rw [gy]); (with_reducible refine i_f (by omega) ?_); (with_reducible refine i_RetI (i_Div (i_L2 (i_I ?_)))); rw [zx_divc (by omega)]; (with_reducible refine i_nn (by decide) ?_))
    rw [show 2 * zp2 (fun p q => L a p && (L a q && L p q)) n / 2 = zp2 (fun p q => L a p && (L a q && L p q)) n by omega]
    exact hk
/-! sums over sorts -/
/-- the pairs as the class goes through them: each in one order -/
def zod (kind a b p q : Nat) : Bool := if kind = 0 then decide (p = a ∧ q = b) else if kind = 1 then decide (p = a ∧ q ≠ a) else (a.testBit p && !a.testBit q)
theorem zod_aq {kind a b p q : Nat} (h : kind = 0 → a ≠ b) (hpq : p ≠ q) : zaq kind a b p q = (zod kind a b p q || zod kind a b q p) ∧ (zod kind a b p q && zod kind a b q p) = false := by
  unfold zaq zod
  by_cases h0 : kind = 0
  · have := h h0
    rw [if_pos h0, if_pos h0, if_pos h0]
    refine ⟨?_, ?_⟩
    · rw [Bool.eq_iff_iff, Bool.or_eq_true, decide_eq_true_eq, decide_eq_true_eq, decide_eq_true_eq]; omega
    · rw [← Bool.not_eq_true, Bool.and_eq_true, decide_eq_true_eq, decide_eq_true_eq]; omega
  · by_cases h1 : kind = 1
    · rw [if_neg h0, if_neg h0, if_neg h0, if_pos h1, if_pos h1, if_pos h1]
      refine ⟨?_, ?_⟩
      · rw [Bool.eq_iff_iff, Bool.or_eq_true, decide_eq_true_eq, decide_eq_true_eq, decide_eq_true_eq]; omega
      · rw [← Bool.not_eq_true, Bool.and_eq_true, decide_eq_true_eq, decide_eq_true_eq]; omega
    · rw [if_neg h0, if_neg h0, if_neg h0, if_neg h1, if_neg h1, if_neg h1]
      cases a.testBit p <;> cases a.testBit q <;> exact ⟨rfl, rfl⟩
theorem zod_ne {kind a b p : Nat} (h : kind = 0 → a ≠ b) : zod kind a b p p = false := by
  unfold zod
  by_cases h0 : kind = 0
  · have := h h0
    rw [if_pos h0]; exact decide_eq_false (by omega)
  · by_cases h1 : kind = 1
    · rw [if_neg h0, if_pos h1]; exact decide_eq_false (by omega)
    · rw [if_neg h0, if_neg h1]; cases a.testBit p <;> rfl
/-- of rows, counted up to a place -/
def zsq (g : Nat → Nat → Bool) (n p q : Nat) : Nat := zsum (fun r => zcnt (g r) n) p + zcnt (g p) q
theorem zsq_su (g : Nat → Nat → Bool) (n p q : Nat) : zsq g n p (q + 1) = zsq g n p q + (if g p q = true then 1 else 0) := by
  unfold zsq
  rw [zcnt_su, Nat.add_assoc]
theorem zsq_nx (g : Nat → Nat → Bool) (n p : Nat) : zsq g n (p + 1) 0 = zsq g n p n := rfl
theorem zsq_all {g : Nat → Nat → Bool} {n p q : Nat} (hp : p < n) (hq : q ≤ n) : zsq g n p q ≤ zsum (fun r => zcnt (g r) n) n := by
  unfold zsq
  have h1 := zcnt_mono (g p) hq
  have h2 := zsum_sub (f := fun r => zcnt (g r) n) (show p + 1 ≤ n by omega)
  rw [zsum_su] at h2
  omega
theorem zsq_p2 {kind a b n : Nat} {G : Nat → Nat → Bool} (h : kind = 0 → a ≠ b) (hG : ∀ p q, G p q = G q p) : zsum (fun r => zcnt (fun q => zod kind a b r q && G r q) n) n = zp2 (fun p q => zaq kind a b p q && G p q) n := by
  have e1 : (((zsum (fun r => zcnt (fun q => zod kind a b r q && G r q) n) n : Nat) : Int) : Int) = zS2 (fun p q => zbI (zod kind a b p q && G p q)) n := by
    unfold zS2
    rw [← zsum_zsI]
    exact zsI_ext fun p _ => (zcnt_zsI _ n).symm
  have e2 := zS2_P2 (fun p q => zbI (zod kind a b p q && G p q)) n
  rw [zsI_0 (fun p _ => by rw [zod_ne h]; rfl)] at e2
  have e3 : zP2 (fun p q => zbI (zod kind a b p q && G p q) + zbI (zod kind a b q p && G q p)) n = zP2 (fun p q => zbI (zaq kind a b p q && G p q)) n := zP2_ext fun p q hpq _ => by
    obtain ⟨h1, h2⟩ := zod_aq (kind := kind) (a := a) (b := b) (p := p) (q := q) h (by omega)
    rw [h1, hG q p]
    cases x : zod kind a b p q <;> cases y : zod kind a b q p <;> rw [x, y] at h2 <;> cases G p q <;> first | rfl | cases h2
  rw [e3, zP2_zp2 (fun p q => zaq kind a b p q && G p q)] at e2
  omega
theorem zall_mk {n : Nat} (h : n ≤ 16) : (((2 ^ n - 1 : Nat) : Int) : Int) = zmk (fun q => decide (q < n)) := by
  rcases (show n = 0 ∨ n = 1 ∨ n = 2 ∨ n = 3 ∨ n = 4 ∨ n = 5 ∨ n = 6 ∨ n = 7 ∨ n = 8 ∨ n = 9 ∨ n = 10 ∨ n = 11 ∨ n = 12 ∨ n = 13 ∨ n = 14 ∨ n = 15 ∨ n = 16 by omega) with e | e | e | e | e | e | e | e | e | e | e | e | e | e | e | e | e <;> subst e <;> decide
theorem c_partners {O : zOm} (hO : zWld O) {n kind a b' p : Nat} {b : Int} {M : zMem} {K : Option zV → zMem → Prop} (hn : n ≤ 16) (hQ : zQok n kind a b b') (h3 : kind < 3) (hp : p < n)
    (hk : K (some (0, zmk (fun q => decide (q < n) && zod kind a b' p q))) M) : zR O F_Sorts_partners [(0, ((kind : Nat) : Int)), (0, ((a : Nat) : Int)), (0, b), (0, ((p : Nat) : Int)), (0, ((2 ^ n - 1 : Nat) : Int))] M K := by
  have hall := zall_mk hn
  apply r_Sorts_partners hO
  unfold B_Sorts_partners
  rcases hQ with ⟨h1, h2, h4, h5, rfl⟩ | ⟨h1, h2⟩ | ⟨rfl, h2⟩
  · have e : kind = 0 := by omega
    subst e
    by_cases w : p = a
    · have hz : zmk (fun q => decide (q < n) && zod 0 a b' p q) = zmk (fun q => decide (q = b')) := zmk_ext fun q _ => by
        show (decide (q < n) && decide (p = a ∧ q = b')) = _
        by_cases z : q = b'
        · rw [decide_eq_true (show q < n by omega), decide_eq_true (show p = a ∧ q = b' from ⟨w, z⟩), decide_eq_true z]; rfl
        · rw [decide_eq_false (show ¬ (p = a ∧ q = b') from fun y => z y.2), decide_eq_false z, Bool.and_false]
      rw [hz] at hk
      ((with_reducible refine i_Seq (i_If (i_cI_eq (i_L0 (i_I ?_))))); (with_reducible refine i_f (by omega) ?_); (with_reducible refine i_Seq (i_If (i_cI_ne (i_L3 (i_L1 ?_))))); (with_reducible refine i_f (by omega) ?_); (with_reducible refine i_RetI (i_eIf (i_cZ_eq (i_L0 ?_)))); (with_reducible refine i_t (by omega) ?_); (with_reducible refine i_Shl (i_I (i_L2 ?_))); (rw [yshl_mk (show b' < 16 by omega)]))
      exact hk
    · have hz : zmk (fun q => decide (q < n) && zod 0 a b' p q) = 0 := by
        rw [zmk_0]
        exact zmk_ext fun q _ => by
          show (decide (q < n) && decide (p = a ∧ q = b')) = _
          rw [decide_eq_false (show ¬ (p = a ∧ q = b') from fun y => w y.1), Bool.and_false]
      rw [hz] at hk
      ((with_reducible refine i_Seq (i_If (i_cI_eq (i_L0 (i_I ?_))))); (with_reducible refine i_f (by omega) ?_); (with_reducible refine i_Seq (i_If (i_cI_ne (i_L3 (i_L1 ?_))))); (with_reducible refine i_t (by omega) ?_); (with_reducible refine i_RetI (i_I ?_)))
      exact hk
  · have e : kind = 1 := by omega
    subst e
    by_cases w : p = a
    · have hz : zmk (fun q => decide (q < n) && zod 1 a b' p q) = zmk (fun q => decide (q < n) && !decide (q = a)) := zmk_ext fun q _ => by
        show (decide (q < n) && decide (p = a ∧ q ≠ a)) = _
        by_cases z : q = a
        · rw [decide_eq_false (show ¬ (p = a ∧ q ≠ a) from fun y => y.2 z), decide_eq_true z, Bool.and_false]; simp
        · rw [decide_eq_true (show p = a ∧ q ≠ a from ⟨w, z⟩), decide_eq_false z]; rfl
      rw [hz] at hk
      ((with_reducible refine i_Seq (i_If (i_cI_eq (i_L0 (i_I ?_))))); (rw [hall]); (with_reducible refine i_f (by omega) ?_); (with_reducible refine i_Seq (i_If (i_cI_ne (i_L3 (i_L1 ?_))))); (with_reducible refine i_f (by omega) ?_); (with_reducible refine i_RetI (i_eIf (i_cZ_eq (i_L0 ?_)))); (with_reducible refine i_f (by omega) ?_); (with_reducible refine i_And (i_L4 (i_Xor (i_Shl (i_I (i_L1 (i_I ?_))))))); (rw [yshl_mk (show a < 16 by omega)]); (rw [ynot_mk]))
      exact hk
    · have hz : zmk (fun q => decide (q < n) && zod 1 a b' p q) = 0 := by
        rw [zmk_0]
        exact zmk_ext fun q _ => by
          show (decide (q < n) && decide (p = a ∧ q ≠ a)) = _
          rw [decide_eq_false (show ¬ (p = a ∧ q ≠ a) from fun y => w y.1), Bool.and_false]
      rw [hz] at hk
      ((with_reducible refine i_Seq (i_If (i_cI_eq (i_L0 (i_I ?_))))); (with_reducible refine i_f (by omega) ?_); (with_reducible refine i_Seq (i_If (i_cI_ne (i_L3 (i_L1 ?_))))); (with_reducible refine i_t (by omega) ?_); (with_reducible refine i_RetI (i_I ?_)))
      exact hk
  · have ha := za_mk (zQ2 hn h2)
    have e1 := yand_1 (fun i => a.testBit i) (k := p) (by omega)
    have hz : (fun q => decide (q < n) && zod 2 a b' p q) = fun q => decide (q < n) && (a.testBit p && !a.testBit q) := rfl
    rw [hz] at hk
    cases hx : a.testBit p
    · rw [hx] at hk
      rw [hx, if_neg (by decide)] at e1
      have hz2 : zmk (fun q => decide (q < n) && (false && !a.testBit q)) = 0 := by
        rw [zmk_0]
        exact zmk_ext fun q _ => by rw [Bool.false_and, Bool.and_false]
      rw [hz2] at hk
      ((with_reducible refine i_Seq (i_If (i_cI_eq (i_L0 (i_I ?_))))); (rw [ha]); (with_reducible refine i_t (by omega) ?_); (with_reducible refine i_RetI (i_eIf (i_cI_eq (i_And (i_Shr (i_L1 (i_L3 (i_I (i_I ?_))))))))); (rw [e1]); (with_reducible refine i_f (by omega) ?_); (with_reducible refine i_I ?_))
      exact hk
    · rw [hx] at hk
      rw [hx, if_pos rfl] at e1
      ((with_reducible refine i_Seq (i_If (i_cI_eq (i_L0 (i_I ?_))))); (rw [ha]); (rw [hall]); (with_reducible refine i_t (by omega) ?_); (with_reducible refine i_RetI (i_eIf (i_cI_eq (i_And (i_Shr (i_L1 (i_L3 (i_I (i_I ?_))))))))); (rw [e1]); simp only [w_set0, w_set1, w_setn0, w_setn1]; (with_reducible refine i_t trivial ?_); (with_reducible refine i_And (i_L4 (i_Xor (i_L1 (i_I ?_))))); (rw [ynot_mk]))
      exact hk
theorem c_countAsked {O : zOm} (hO : zWld O) (hS : zS O = zmS zC0) {c p r : Nat} {M : zMem} {K : Option zV → zMem → Prop} (hc : M ((134 : Nat) : Int) ((7 : Nat) : Int) = ((c : Nat) : Int)) (hc2 : c < 120) (hr : M ((138 : Nat) : Int) ((p : Nat) : Int) = ((r : Nat) : Int)) (hp : p < 512) (hr2 : r ≤ 1000)
    (hk : ∀ M', (∀ b j, ¬ (b = ((134 : Nat) : Int) ∧ j = 7 ∨ b = ((138 : Nat) : Int) ∧ j = ((p : Nat) : Int) ∨ b = ((140 : Nat) : Int) ∧ j = ((c : Nat) : Int)) → M' b j = M b j) → M' ((138 : Nat) : Int) ((p : Nat) : Int) = ((r + 1 : Nat) : Int) → (r ≠ 0 → M' ((134 : Nat) : Int) ((7 : Nat) : Int) = ((c : Nat) : Int) ∧ M' ((140 : Nat) : Int) ((c : Nat) : Int) = M ((140 : Nat) : Int) ((c : Nat) : Int)) → (r = 0 → M' ((134 : Nat) : Int) ((7 : Nat) : Int) = ((c + 1 : Nat) : Int) ∧ M' ((140 : Nat) : Int) ((c : Nat) : Int) = ((p : Nat) : Int)) → K none M') : zR O F_Sorts_countAsked [(2, ((134 : Nat) : Int)), (0, ((p : Nat) : Int))] M K := by
  obtain ⟨⟨s0, s1, s2, s3, s4, s5, s6, s7, s8⟩, -, ⟨t1, t2, t3, t4, t5, t6, t7⟩⟩ := zO134_ok hS
  apply r_Sorts_countAsked hO
  unfold B_Sorts_countAsked
  by_cases hr0 : r = 0
  · subst hr0
    ((with_reducible refine i_Seq (i_Seq (i_If (i_cAnd (i_cZ_eq (i_IA (i_FR (i_A0 ?_)))))))); (with_reducible refine i_fldR (by assumption) ?_); (with_reducible refine i_L1 ?_); (with_reducible refine i_in (by assumption) (by omega) (by omega) ?_); (rw [hr]); (with_reducible refine i_t (by omega) ?_); (with_reducible refine i_cI_lt (i_F (i_A0 ?_))); (with_reducible refine i_fld (by assumption) ?_); (with_reducible refine i_I ?_); (rw [hc]); (with_reducible refine i_t (by omega) ?_); (with_reducible refine i_Seq (i_sIA (i_FR (i_A0 ?_)))); (with_reducible refine i_fldR (by assumption) ?_); (with_reducible refine i_F (i_A0 ?_)); (with_reducible refine i_fld (by assumption) ?_); (with_reducible refine i_L1 ?_); (with_reducible refine i_in (by assumption) (by omega) (by omega) ?_); (with_reducible refine i_FO (i_A0 ?_)); (with_reducible refine i_fld (by assumption) ?_); (with_reducible refine i_I ?_); (with_reducible refine i_fld (by assumption) ?_); (with_reducible refine i_IO (i_FR (i_A0 ?_))); (with_reducible refine i_fldR (by assumption) ?_); (with_reducible refine i_L1 ?_); (with_reducible refine i_in (by assumption) (by omega) (by omega) ?_); (with_reducible refine i_I (i_RetV ?_)); rw [zg_n _ _ _ (by omega)]; rw [zg_n _ _ _ (by omega)]; rw [zg_n _ _ _ (by omega)]; (rw [hr]); (rw [hc]); rw [zx_inc (by omega)]; rw [zx_inc (by omega)])
    exact hk _ (fun b j q => by rw [zg_o _ _ (by omega), zg_o _ _ (by omega), zg_o _ _ (by omega)]) (by rw [zg_s]) (fun z => absurd rfl z) (fun _ => ⟨by rw [zg_n _ _ _ (by omega)]; exact zg_s _ _ _ _ _, by rw [zg_n _ _ _ (by omega), zg_n _ _ _ (by omega)]; exact zg_s _ _ _ _ _⟩)
  · ((with_reducible refine i_Seq (i_Seq (i_If (i_cAnd (i_cZ_eq (i_IA (i_FR (i_A0 ?_)))))))); (with_reducible refine i_fldR (by assumption) ?_); (with_reducible refine i_L1 ?_); (with_reducible refine i_in (by assumption) (by omega) (by omega) ?_); (rw [hr]); (with_reducible refine i_f (by omega) ?_); (with_reducible refine i_IO (i_FR (i_A0 ?_))); (with_reducible refine i_fldR (by assumption) ?_); (with_reducible refine i_L1 ?_); (with_reducible refine i_in (by assumption) (by omega) (by omega) ?_); (with_reducible refine i_I (i_RetV ?_)); (rw [hr]); rw [zx_inc (by omega)])
    exact hk _ (fun b j q => by rw [zg_o _ _ (by omega)]) (by rw [zg_s]) (fun _ => ⟨by rw [zg_n _ _ _ (by omega)]; exact hc, by rw [zg_n _ _ _ (by omega)]⟩) (fun z => absurd z hr0)
