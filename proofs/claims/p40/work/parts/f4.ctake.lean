/-! ===== sorts taken, pairs settled: the class ===== -/
theorem zflip_in {T : Nat → Nat → Bool} {a b p q : Nat} : zflip T a b p q = (T p q ^^ (decide (p = a ∧ q = b) || decide (p = b ∧ q = a))) := rfl
theorem tvs_s (A : zTl) (p q : Nat) : tvs A p q = tvs A q p := by
  unfold tvs
  by_cases h : p < q
  · rw [if_pos h, if_neg (by omega)]
  · by_cases h2 : q < p
    · rw [if_neg h, if_pos h2]
    · rw [show p = q by omega]
theorem zpv_s {n : Nat} {A : zTl} (p q : Nat) : zpv n A p q = zpv n A q p := by
  unfold zpv
  rw [tvs_s A p q, tS_s (n := n) (A := A) p q, zso_s (tf A) p q]
theorem zlO_s {n : Nat} {A : zTl} (p q : Nat) : zlO n A p q = zlO n A q p := by
  unfold zlO
  rw [zlN_s true p q, zlN_s false p q]
theorem c_isSaid {O : zOm} (hO : zWld O) {p : Nat} {M : zMem} {K : Option zV → zMem → Prop} (hp : p < 512) (hk : K (some (0, zbI (decide (p % 2 = 1)))) M) : zR O F_Sorts_isSaid [(0, ((p : Nat) : Int))] M K := by
  apply r_Sorts_isSaid hO
  unfold B_Sorts_isSaid
  by_cases h : p % 2 = 1
  · rw [decide_eq_true h] at hk
    ((with_reducible refine i_RetZ (i_eIf (i_cI_eq (i_Rem (i_L0 (i_I ?_)))))); rw [zx_modc]; (with_reducible refine i_nn (by decide) ?_); (with_reducible refine i_I ?_); (with_reducible refine i_t (by omega) ?_); (with_reducible refine i_I ?_); (with_reducible refine i_z (Or.inr rfl) ?_))
    exact hk
  · rw [decide_eq_false h] at hk
    ((with_reducible refine i_RetZ (i_eIf (i_cI_eq (i_Rem (i_L0 (i_I ?_)))))); rw [zx_modc]; (with_reducible refine i_nn (by decide) ?_); (with_reducible refine i_I ?_); (with_reducible refine i_f (by omega) ?_); (with_reducible refine i_I ?_); (with_reducible refine i_z (Or.inl rfl) ?_))
    exact hk
theorem c_settle {O : zOm} (hO : zWld O) (hS : zS O = zmS zC0) {n : Nat} {A : zTl} {M : zMem} {K : Option zV → zMem → Prop} (hn2 : n ≤ 16) (hw : zTw n A) (hF : ∀ k : Nat, k < 512 → M ((135 : Nat) : Int) ((zplc k : Nat) : Int) = ((tR n A k : Nat) : Int) ∧ M ((136 : Nat) : Int) ((zplc k : Nat) : Int) = ((tQ n A k : Nat) : Int)) (hP : ∀ p q : Nat, p < n → q < n → p ≠ q → M ((137 : Nat) : Int) ((16 * p + q : Nat) : Int) = zpv n A p q)
    (hk : ∀ M', (∀ b j, ¬ (((141 : Nat) : Int) ≤ b ∧ b ≤ ((144 : Nat) : Int)) → M' b j = M b j) → zNR M' 141 n (zlN n A false) → zNR M' 143 n (zlO n A) → K none M') : zR O F_Sorts_settle [(2, ((134 : Nat) : Int)), (0, ((n : Nat) : Int))] M K := by
  obtain ⟨⟨s0, s1, s2, s3, s4, s5, s6, s7, s8⟩, ⟨s9, s10, s11, s12, s13⟩, ⟨t1, t2, t3, t4, t5, t6, t7⟩⟩ := zO134_ok hS
  have y0 := zNetB.to hS zNt_141
  have y2 := zNetB.to hS zNt_143
  have y0' := y0
  have y2' := y2
  obtain ⟨-, -, -, yo0⟩ := y0'
  obtain ⟨-, -, -, yo2⟩ := y2'
  apply r_Sorts_settle hO
  unfold B_Sorts_settle
  ((with_reducible refine i_Seq (i_Seq (i_sCall (i_as1 (i_FR (i_A0 ?_)))))); (with_reducible refine i_fldR (by assumption) ?_); (with_reducible refine i_as1 (i_L1 (i_as0 ?_))); (with_reducible refine i_recv0 (by assumption) ?_))
  refine s_Net_clear hO y0 (fun M1 f1 h1 => ⟨rfl, ?_⟩)
  ((with_reducible refine i_Seq (i_sCall (i_as1 (i_FR (i_A0 ?_))))); (with_reducible refine i_fldR (by assumption) ?_); (with_reducible refine i_as1 (i_L1 (i_as0 ?_))); (with_reducible refine i_recv0 (by assumption) ?_))
  refine s_Net_clear hO y2 (fun M2 f2 h2 => ⟨rfl, ?_⟩)
  have fr2 : ∀ b j, ¬ (((141 : Nat) : Int) ≤ b ∧ b ≤ ((144 : Nat) : Int)) → M2 b j = M b j := fun b j q => by rw [f2 b (by simp <;> omega), f1 b (by simp <;> omega)]
  have h12 : zNR M2 141 n (fun _ _ => false) := h1.to (fun b j a1 a2 => by rw [f2 b (by simp <;> omega)])
  clear f1 f2 h1
  have hpt : ∀ Q : Nat → Nat → Bool, zNR M2 141 n (zpt Q n 0 0) := fun Q => h12.ext (fun p q _ _ => (zpt_0 Q n p q).symm)
  have hpt2 : ∀ Q : Nat → Nat → Bool, zNR M2 143 n (zpt Q n 0 0) := fun Q => h2.ext (fun p q _ _ => (zpt_0 Q n p q).symm)
  ((with_reducible refine i_Blk (i_Seq (i_Set (i_I ?_)))); simp only [w_set0, w_set1, w_setn0, w_setn1])
  refine w_ForN n (fun a ρ M' => (∃ l, ρ = ((134 : Nat) : Int) :: ((n : Nat) : Int) :: ((a : Nat) : Int) :: l) ∧ (∀ b j, ¬ (((141 : Nat) : Int) ≤ b ∧ b ≤ ((144 : Nat) : Int)) → M' b j = M b j) ∧ zNR M' 141 n (zpt (zlN n A false) n a 0) ∧ zNR M' 143 n (zpt (zlO n A) n a 0)) ⟨⟨_, rfl⟩, fr2, hpt _, hpt2 _⟩ ?_ ?_
  · rintro a ρ M3 X ha ⟨⟨l, rfl⟩, f3, h3, k3⟩ hX
    ((with_reducible refine i_turn (i_cI_lt (i_L2 (i_L1 ?_)))); (with_reducible refine i_t (by omega) ?_); (with_reducible refine i_Blk (i_Seq (i_Set (i_Add (i_L2 (i_I ?_)))))); rw [zx_inc (by omega)]; simp only [w_set0, w_set1, w_setn0, w_setn1]; rw [w_setT])
    refine w_ForN (n - (a + 1)) (fun d ρ M' => (∃ l, ρ = ((134 : Nat) : Int) :: ((n : Nat) : Int) :: ((a : Nat) : Int) :: ((a + 1 + d : Nat) : Int) :: l) ∧ (∀ b j, ¬ (((141 : Nat) : Int) ≤ b ∧ b ≤ ((144 : Nat) : Int)) → M' b j = M b j) ∧ zNR M' 141 n (zpt (zlN n A false) n a (a + 1 + d)) ∧ zNR M' 143 n (zpt (zlO n A) n a (a + 1 + d))) ⟨⟨_, rfl⟩, f3, h3.ext (fun p q _ _ => zpt_row _ _ _ _ _), k3.ext (fun p q _ _ => zpt_row _ _ _ _ _)⟩ ?_ ?_
    · rintro d ρ M4 X4 hd ⟨⟨l4, rfl⟩, f4, h4, k4⟩ hX4
      have hbn : a + 1 + d < n := by omega
      have hab : a < a + 1 + d := by omega
      have hX5 : ∀ (l : zLoc) (M' : zMem), (∀ b j, ¬ (((141 : Nat) : Int) ≤ b ∧ b ≤ ((144 : Nat) : Int)) → M' b j = M b j) → zNR M' 141 n (zpt (zlN n A false) n a (a + 1 + d + 1)) → zNR M' 143 n (zpt (zlO n A) n a (a + 1 + d + 1)) → X4 (((134 : Nat) : Int) :: ((n : Nat) : Int) :: ((a : Nat) : Int) :: ((a + 1 + d + 1 : Nat) : Int) :: l) M' := fun l M' g1 g2 g3 => hX4 _ _ ⟨⟨l, rfl⟩, g1, g2, g3⟩
      clear hX4
      generalize a + 1 + d = b at hbn hab h4 k4 hX5 ⊢
      -- what a flip, or none, makes of what is done
      have no : ∀ (Q : Nat → Nat → Bool) (y : Nat) (M' : zMem), (∀ p q, Q p q = Q q p) → Q a b = false → zNR M' y n (zpt Q n a b) → zNR M' y n (zpt Q n a (b + 1)) := fun Q y M' hQ hf h => h.ext (fun p q _ _ => (zpt_no hQ hab hbn hf p q).symm)
      have yes : ∀ (Q : Nat → Nat → Bool) (y : Nat) (M' : zMem), (∀ p q, Q p q = Q q p) → Q a b = true → zNR M' y n (zflip (zpt Q n a b) a b) → zNR M' y n (zpt Q n a (b + 1)) := fun Q y M' hQ hf h => h.ext (fun p q _ _ => by
        rw [zpt_su hQ hab hbn, hf, zflip_in]
        have e0 : ∀ p q, (p = a ∧ q = b ∨ p = b ∧ q = a) → zpt Q n a b p q = false := fun p q h => by
          unfold zpt
          rw [decide_eq_false (by omega)]; rfl
        unfold zmu
        by_cases w1 : p = b ∧ q = a
        · rw [if_pos w1, e0 p q (Or.inr w1), decide_eq_true w1]; simp
        · rw [if_neg w1]
          by_cases w2 : p = a ∧ q = b
          · rw [if_pos w2, e0 p q (Or.inl w2), decide_eq_true w2]; simp
          · rw [if_neg w2, decide_eq_false w1, decide_eq_false w2]; simp)
      have gp : M4 ((137 : Nat) : Int) ((16 * a + b : Nat) : Int) = zpv n A a b := (f4 _ _ (by omega)).trans (hP a b (by omega) hbn (by omega))
      rw [show 16 * a + b = a * 16 + b by omega] at gp
      have hlt := zso_lt (s := tS n A a b) (hw.f16 a (by omega)) (hw.f16 b hbn)
      have hin : ∀ op, zlN n A op a b = zlk n A op a b := fun op => by unfold zlN; rw [decide_eq_true ⟨by omega, hbn, by omega⟩, Bool.true_and]
      have hO1 : zlO n A a b = (zlk n A true a b && !zlk n A false a b) := by unfold zlO; rw [hin, hin]
      obtain ⟨g1, g2⟩ := hF _ hlt
      have gf : M4 ((135 : Nat) : Int) ((zplc (zso (tf A) a b (tS n A a b)) : Nat) : Int) = ((tR n A (zso (tf A) a b (tS n A a b)) : Nat) : Int) := (f4 _ _ (by omega)).trans g1
      have gg : M4 ((136 : Nat) : Int) ((zplc (zso (tf A) a b (tS n A a b)) : Nat) : Int) = ((tQ n A (zso (tf A) a b (tS n A a b)) : Nat) : Int) := (f4 _ _ (by omega)).trans g2
      have hsaid : decide (zplc (zso (tf A) a b (tS n A a b)) % 2 = 1) = tS n A a b := by
        have h1 := hw.f16 a (by omega)
        have h2 := hw.f16 b hbn
        rw [Bool.eq_iff_iff, decide_eq_true_eq, zplc_said hlt]
        unfold zso
        cases tS n A a b <;> simp <;> split <;> omega
      have hpl := zplc_lt hlt
      unfold zpv at gp
      have hk1 : ∀ op, zlk n A op a b = (if tvs A a b = 1 then !tS n A a b else if 0 < tQ n A (zso (tf A) a b (tS n A a b)) ∧ tQ n A (zso (tf A) a b (tS n A a b)) < tR n A (zso (tf A) a b (tS n A a b)) then op else if 0 < tQ n A (zso (tf A) a b (tS n A a b)) then !tS n A a b else tS n A a b) := fun op => rfl
      by_cases e : tvs A a b = 1
      · rw [if_pos e] at gp
        simp only [if_pos e] at hk1
        cases hs : tS n A a b
        · rw [hs] at gp hk1
          rw [if_neg (by decide)] at gp
          ((with_reducible refine i_turn (i_cI_lt (i_L3 (i_L1 ?_)))); (with_reducible refine i_t (by omega) ?_); (with_reducible refine i_Blk (i_Seq (i_Set (i_IA (i_FR (i_A0 ?_)))))); (with_reducible refine i_fldR (by assumption) ?_); (with_reducible refine i_Add (i_Mul (i_L2 (i_I (i_L3 ?_))))); rw [zx_mulc (by omega)]; rw [zx_add (by omega)]; (with_reducible refine i_in (by assumption) (by omega) (by omega) ?_); (with_reducible refine i_Seq (i_Set (i_eIf (i_cZ_lt ?_)))); (rw [gp]); simp only [w_set0, w_set1, w_setn0, w_setn1]; rw [w_setT]; (with_reducible refine i_L4 ?_); (with_reducible refine i_t (by omega) ?_); (with_reducible refine i_I (i_Ite (i_cAnd (i_cAnd (i_cNot (i_cZ_ne ?_)))))); simp only [w_set0, w_set1, w_setn0, w_setn1]; rw [w_setT]; (with_reducible refine i_L5 ?_); (with_reducible refine i_t (by omega) ?_); (with_reducible refine i_If (i_cIf (i_cZ_ne (i_L5 ?_)))); (with_reducible refine i_t (by omega) ?_); (with_reducible refine i_cI_eq (i_L4 (i_I ?_))); simp only [w_set0, w_set1, w_setn0, w_setn1]; (with_reducible refine i_t trivial ?_); (with_reducible refine i_sCall (i_as1 (i_FR (i_A0 ?_)))); (with_reducible refine i_fldR (by assumption) ?_); (with_reducible refine i_as1 (i_L2 (i_as1 (i_L3 (i_as0 ?_))))); (with_reducible refine i_recv0 (by assumption) ?_); (refine s_Net_flip hO y0 h4 (show a < 16 by omega) (show b < 16 by omega) (by omega) (fun M5 f5 h5 => ⟨rfl, ?_⟩)); (with_reducible refine i_up (i_Inc3 ?_)); rw [zx_inc (by omega)]; simp only [w_set0, w_set1, w_setn0, w_setn1])
          exact hX5 _ M5 (fun b' j q => by rw [f5 b' (by simp <;> omega)]; exact f4 b' j q) (yes _ _ _ (zlN_s false) (by rw [hin, hk1]; rfl) h5) (no _ _ _ zlO_s (by rw [hO1, hk1, hk1]; rfl) (k4.to (fun b' j a1 a2 => by rw [f5 b' (by simp <;> omega)])))
        · rw [hs] at gp hk1
          rw [if_pos rfl] at gp
          ((with_reducible refine i_turn (i_cI_lt (i_L3 (i_L1 ?_)))); (with_reducible refine i_t (by omega) ?_); (with_reducible refine i_Blk (i_Seq (i_Set (i_IA (i_FR (i_A0 ?_)))))); (with_reducible refine i_fldR (by assumption) ?_); (with_reducible refine i_Add (i_Mul (i_L2 (i_I (i_L3 ?_))))); rw [zx_mulc (by omega)]; rw [zx_add (by omega)]; (with_reducible refine i_in (by assumption) (by omega) (by omega) ?_); (with_reducible refine i_Seq (i_Set (i_eIf (i_cZ_lt ?_)))); (rw [gp]); simp only [w_set0, w_set1, w_setn0, w_setn1]; rw [w_setT]; (with_reducible refine i_L4 ?_); (with_reducible refine i_t (by omega) ?_); (with_reducible refine i_I (i_Ite (i_cAnd (i_cAnd (i_cNot (i_cZ_ne ?_)))))); simp only [w_set0, w_set1, w_setn0, w_setn1]; rw [w_setT]; (with_reducible refine i_L5 ?_); (with_reducible refine i_t (by omega) ?_); (with_reducible refine i_If (i_cIf (i_cZ_ne (i_L5 ?_)))); (with_reducible refine i_t (by omega) ?_); (with_reducible refine i_cI_eq (i_L4 (i_I ?_))); (with_reducible refine i_f (by omega) ?_); (with_reducible refine i_up (i_Inc3 ?_)); rw [zx_inc (by omega)]; simp only [w_set0, w_set1, w_setn0, w_setn1])
          exact hX5 _ M4 f4 (no _ _ _ (zlN_s false) (by rw [hin, hk1]; rfl) h4) (no _ _ _ zlO_s (by rw [hO1, hk1, hk1]; rfl) k4)
      · rw [if_neg e] at gp
        simp only [if_neg e] at hk1
        have hRQ := tQ_R n A (zso (tf A) a b (tS n A a b))
        generalize tR n A (zso (tf A) a b (tS n A a b)) = R at gf hk1 hRQ
        generalize tQ n A (zso (tf A) a b (tS n A a b)) = C at gg hk1 hRQ
        generalize zplc (zso (tf A) a b (tS n A a b)) = pl at gp gf gg hsaid hpl
        by_cases c1 : 0 < C ∧ C < R
        · simp only [if_pos c1] at hk1
          obtain ⟨c2, c3⟩ := c1
          ((with_reducible refine i_turn (i_cI_lt (i_L3 (i_L1 ?_)))); (with_reducible refine i_t (by omega) ?_); (with_reducible refine i_Blk (i_Seq (i_Set (i_IA (i_FR (i_A0 ?_)))))); (with_reducible refine i_fldR (by assumption) ?_); (with_reducible refine i_Add (i_Mul (i_L2 (i_I (i_L3 ?_))))); rw [zx_mulc (by omega)]; rw [zx_add (by omega)]; (with_reducible refine i_in (by assumption) (by omega) (by omega) ?_); (with_reducible refine i_Seq (i_Set (i_eIf (i_cZ_lt ?_)))); (rw [gp]); simp only [w_set0, w_set1, w_setn0, w_setn1]; rw [w_setT]; (with_reducible refine i_L4 ?_); (with_reducible refine i_f (by omega) ?_); (with_reducible refine i_I (i_Ite (i_cAnd (i_cAnd (i_cNot (i_cZ_ne ?_)))))); simp only [w_set0, w_set1, w_setn0, w_setn1]; rw [w_setT]; (with_reducible refine i_L5 ?_); (with_reducible refine i_f (by omega) ?_); (with_reducible refine i_cZ_gt (i_IA (i_FR (i_A0 ?_)))); (with_reducible refine i_fldR (by assumption) ?_); (with_reducible refine i_L4 ?_); (with_reducible refine i_in (by assumption) (by omega) (by omega) ?_); (rw [gg]); (with_reducible refine i_t (by omega) ?_); (with_reducible refine i_cI_lt (i_IA (i_FR (i_A0 ?_)))); (with_reducible refine i_fldR (by assumption) ?_); (with_reducible refine i_L4 ?_); (with_reducible refine i_in (by assumption) (by omega) (by omega) ?_); (with_reducible refine i_IA (i_FR (i_A0 ?_))); (with_reducible refine i_fldR (by assumption) ?_); (with_reducible refine i_L4 ?_); (with_reducible refine i_in (by assumption) (by omega) (by omega) ?_); (rw [gf]); (rw [gg]); (with_reducible refine i_t (by omega) ?_); (with_reducible refine i_sCall (i_as1 (i_FR (i_A0 ?_)))); (with_reducible refine i_fldR (by assumption) ?_); (with_reducible refine i_as1 (i_L2 (i_as1 (i_L3 (i_as0 ?_))))); (with_reducible refine i_recv0 (by assumption) ?_); (refine s_Net_flip hO y2 k4 (show a < 16 by omega) (show b < 16 by omega) (by omega) (fun M5 f5 h5 => ⟨rfl, ?_⟩)); (with_reducible refine i_up (i_Inc3 ?_)); rw [zx_inc (by omega)]; simp only [w_set0, w_set1, w_setn0, w_setn1])
          exact hX5 _ M5 (fun b' j q => by rw [f5 b' (by simp <;> omega)]; exact f4 b' j q) (no _ _ _ (zlN_s false) (by rw [hin, hk1]) (h4.to (fun b' j a1 a2 => by rw [f5 b' (by simp <;> omega)]))) (yes _ _ _ zlO_s (by rw [hO1, hk1, hk1]; rfl) h5)
        · simp only [if_neg c1] at hk1
          by_cases c2 : 0 < C
          · simp only [if_pos c2] at hk1
            have c3 : ¬ C < R := fun z => c1 ⟨c2, z⟩
            cases hs : tS n A a b
            · rw [hs] at hk1 hsaid
              ((with_reducible refine i_turn (i_cI_lt (i_L3 (i_L1 ?_)))); (with_reducible refine i_t (by omega) ?_); (with_reducible refine i_Blk (i_Seq (i_Set (i_IA (i_FR (i_A0 ?_)))))); (with_reducible refine i_fldR (by assumption) ?_); (with_reducible refine i_Add (i_Mul (i_L2 (i_I (i_L3 ?_))))); rw [zx_mulc (by omega)]; rw [zx_add (by omega)]; (with_reducible refine i_in (by assumption) (by omega) (by omega) ?_); (with_reducible refine i_Seq (i_Set (i_eIf (i_cZ_lt ?_)))); (rw [gp]); simp only [w_set0, w_set1, w_setn0, w_setn1]; rw [w_setT]; (with_reducible refine i_L4 ?_); (with_reducible refine i_f (by omega) ?_); (with_reducible refine i_I (i_Ite (i_cAnd (i_cAnd (i_cNot (i_cZ_ne ?_)))))); simp only [w_set0, w_set1, w_setn0, w_setn1]; rw [w_setT]; (with_reducible refine i_L5 ?_); (with_reducible refine i_f (by omega) ?_); (with_reducible refine i_cZ_gt (i_IA (i_FR (i_A0 ?_)))); (with_reducible refine i_fldR (by assumption) ?_); (with_reducible refine i_L4 ?_); (with_reducible refine i_in (by assumption) (by omega) (by omega) ?_); (rw [gg]); (with_reducible refine i_t (by omega) ?_); (with_reducible refine i_cI_lt (i_IA (i_FR (i_A0 ?_)))); (with_reducible refine i_fldR (by assumption) ?_); (with_reducible refine i_L4 ?_); (with_reducible refine i_in (by assumption) (by omega) (by omega) ?_); (with_reducible refine i_IA (i_FR (i_A0 ?_))); (with_reducible refine i_fldR (by assumption) ?_); (with_reducible refine i_L4 ?_); (with_reducible refine i_in (by assumption) (by omega) (by omega) ?_); (rw [gf]); (rw [gg]); (with_reducible refine i_f (by omega) ?_); (with_reducible refine i_If (i_cIf (i_cZ_ne (i_L5 ?_)))); (with_reducible refine i_f (by omega) ?_); (with_reducible refine i_cI_eq (i_Call (i_as1 (i_L4 (i_as0 (i_recv1 ?_)))))); (refine c_isSaid hO hpl ⟨_, rfl, ?_⟩); (with_reducible refine i_eIf (i_cZ_eq (i_IA (i_FR (i_A0 ?_))))); (with_reducible refine i_fldR (by assumption) ?_); (with_reducible refine i_L4 ?_); (with_reducible refine i_in (by assumption) (by omega) (by omega) ?_); (rw [gg]); (rw [hsaid]); rw [zbI_f]; (with_reducible refine i_f (by omega) ?_); (with_reducible refine i_I ?_); simp only [w_set0, w_set1, w_setn0, w_setn1]; (with_reducible refine i_t trivial ?_); (with_reducible refine i_sCall (i_as1 (i_FR (i_A0 ?_)))); (with_reducible refine i_fldR (by assumption) ?_); (with_reducible refine i_as1 (i_L2 (i_as1 (i_L3 (i_as0 ?_))))); (with_reducible refine i_recv0 (by assumption) ?_); (refine s_Net_flip hO y0 h4 (show a < 16 by omega) (show b < 16 by omega) (by omega) (fun M5 f5 h5 => ⟨rfl, ?_⟩)); (with_reducible refine i_up (i_Inc3 ?_)); rw [zx_inc (by omega)]; simp only [w_set0, w_set1, w_setn0, w_setn1])
              exact hX5 _ M5 (fun b' j q => by rw [f5 b' (by simp <;> omega)]; exact f4 b' j q) (yes _ _ _ (zlN_s false) (by rw [hin, hk1]; rfl) h5) (no _ _ _ zlO_s (by rw [hO1, hk1, hk1]; rfl) (k4.to (fun b' j a1 a2 => by rw [f5 b' (by simp <;> omega)])))
            · rw [hs] at hk1 hsaid
              ((with_reducible refine i_turn (i_cI_lt (i_L3 (i_L1 ?_)))); (with_reducible refine i_t (by omega) ?_); (with_reducible refine i_Blk (i_Seq (i_Set (i_IA (i_FR (i_A0 ?_)))))); (with_reducible refine i_fldR (by assumption) ?_); (with_reducible refine i_Add (i_Mul (i_L2 (i_I (i_L3 ?_))))); rw [zx_mulc (by omega)]; rw [zx_add (by omega)]; (with_reducible refine i_in (by assumption) (by omega) (by omega) ?_); (with_reducible refine i_Seq (i_Set (i_eIf (i_cZ_lt ?_)))); (rw [gp]); simp only [w_set0, w_set1, w_setn0, w_setn1]; rw [w_setT]; (with_reducible refine i_L4 ?_); (with_reducible refine i_f (by omega) ?_); (with_reducible refine i_I (i_Ite (i_cAnd (i_cAnd (i_cNot (i_cZ_ne ?_)))))); simp only [w_set0, w_set1, w_setn0, w_setn1]; rw [w_setT]; (with_reducible refine i_L5 ?_); (with_reducible refine i_f (by omega) ?_); (with_reducible refine i_cZ_gt (i_IA (i_FR (i_A0 ?_)))); (with_reducible refine i_fldR (by assumption) ?_); (with_reducible refine i_L4 ?_); (with_reducible refine i_in (by assumption) (by omega) (by omega) ?_); (rw [gg]); (with_reducible refine i_t (by omega) ?_); (with_reducible refine i_cI_lt (i_IA (i_FR (i_A0 ?_)))); (with_reducible refine i_fldR (by assumption) ?_); (with_reducible refine i_L4 ?_); (with_reducible refine i_in (by assumption) (by omega) (by omega) ?_); (with_reducible refine i_IA (i_FR (i_A0 ?_))); (with_reducible refine i_fldR (by assumption) ?_); (with_reducible refine i_L4 ?_); (with_reducible refine i_in (by assumption) (by omega) (by omega) ?_); (rw [gf]); (rw [gg]); (with_reducible refine i_f (by omega) ?_); (with_reducible refine i_If (i_cIf (i_cZ_ne (i_L5 ?_)))); (with_reducible refine i_f (by omega) ?_); (with_reducible refine i_cI_eq (i_Call (i_as1 (i_L4 (i_as0 (i_recv1 ?_)))))); (refine c_isSaid hO hpl ⟨_, rfl, ?_⟩); (with_reducible refine i_eIf (i_cZ_eq (i_IA (i_FR (i_A0 ?_))))); (with_reducible refine i_fldR (by assumption) ?_); (with_reducible refine i_L4 ?_); (with_reducible refine i_in (by assumption) (by omega) (by omega) ?_); (rw [gg]); (rw [hsaid]); rw [zbI_t]; (with_reducible refine i_f (by omega) ?_); (with_reducible refine i_I ?_); (with_reducible refine i_f (by omega) ?_); (with_reducible refine i_up (i_Inc3 ?_)); rw [zx_inc (by omega)]; simp only [w_set0, w_set1, w_setn0, w_setn1])
              exact hX5 _ M4 f4 (no _ _ _ (zlN_s false) (by rw [hin, hk1]; rfl) h4) (no _ _ _ zlO_s (by rw [hO1, hk1, hk1]; rfl) k4)
          · simp only [if_neg c2] at hk1
            have c3 : C = 0 := by omega
            subst c3
            cases hs : tS n A a b
            · rw [hs] at hk1 hsaid
              ((with_reducible refine i_turn (i_cI_lt (i_L3 (i_L1 ?_)))); (with_reducible refine i_t (by omega) ?_); (with_reducible refine i_Blk (i_Seq (i_Set (i_IA (i_FR (i_A0 ?_)))))); (with_reducible refine i_fldR (by assumption) ?_); (with_reducible refine i_Add (i_Mul (i_L2 (i_I (i_L3 ?_))))); rw [zx_mulc (by omega)]; rw [zx_add (by omega)]; (with_reducible refine i_in (by assumption) (by omega) (by omega) ?_); (with_reducible refine i_Seq (i_Set (i_eIf (i_cZ_lt ?_)))); (rw [gp]); simp only [w_set0, w_set1, w_setn0, w_setn1]; rw [w_setT]; (with_reducible refine i_L4 ?_); (with_reducible refine i_f (by omega) ?_); (with_reducible refine i_I (i_Ite (i_cAnd (i_cAnd (i_cNot (i_cZ_ne ?_)))))); simp only [w_set0, w_set1, w_setn0, w_setn1]; rw [w_setT]; (with_reducible refine i_L5 ?_); (with_reducible refine i_f (by omega) ?_); (with_reducible refine i_cZ_gt (i_IA (i_FR (i_A0 ?_)))); (with_reducible refine i_fldR (by assumption) ?_); (with_reducible refine i_L4 ?_); (with_reducible refine i_in (by assumption) (by omega) (by omega) ?_); (rw [gg]); (with_reducible refine i_f (by omega) ?_); (with_reducible refine i_If (i_cIf (i_cZ_ne (i_L5 ?_)))); (with_reducible refine i_f (by omega) ?_); (with_reducible refine i_cI_eq (i_Call (i_as1 (i_L4 (i_as0 (i_recv1 ?_)))))); (refine c_isSaid hO hpl ⟨_, rfl, ?_⟩); (with_reducible refine i_eIf (i_cZ_eq (i_IA (i_FR (i_A0 ?_))))); (with_reducible refine i_fldR (by assumption) ?_); (with_reducible refine i_L4 ?_); (with_reducible refine i_in (by assumption) (by omega) (by omega) ?_); (rw [gg]); (rw [hsaid]); rw [zbI_f]; (with_reducible refine i_t (by omega) ?_); (with_reducible refine i_I ?_); (with_reducible refine i_f (by omega) ?_); (with_reducible refine i_up (i_Inc3 ?_)); rw [zx_inc (by omega)]; simp only [w_set0, w_set1, w_setn0, w_setn1])
              exact hX5 _ M4 f4 (no _ _ _ (zlN_s false) (by rw [hin, hk1]) h4) (no _ _ _ zlO_s (by rw [hO1, hk1, hk1]; rfl) k4)
            · rw [hs] at hk1 hsaid
              ((with_reducible refine i_turn (i_cI_lt (i_L3 (i_L1 ?_)))); (with_reducible refine i_t (by omega) ?_); (with_reducible refine i_Blk (i_Seq (i_Set (i_IA (i_FR (i_A0 ?_)))))); (with_reducible refine i_fldR (by assumption) ?_); (with_reducible refine i_Add (i_Mul (i_L2 (i_I (i_L3 ?_))))); rw [zx_mulc (by omega)]; rw [zx_add (by omega)]; (with_reducible refine i_in (by assumption) (by omega) (by omega) ?_); (with_reducible refine i_Seq (i_Set (i_eIf (i_cZ_lt ?_)))); (rw [gp]); simp only [w_set0, w_set1, w_setn0, w_setn1]; rw [w_setT]; (with_reducible refine i_L4 ?_); (with_reducible refine i_f (by omega) ?_); (with_reducible refine i_I (i_Ite (i_cAnd (i_cAnd (i_cNot (i_cZ_ne ?_)))))); simp only [w_set0, w_set1, w_setn0, w_setn1]; rw [w_setT]; (with_reducible refine i_L5 ?_); (with_reducible refine i_f (by omega) ?_); (with_reducible refine i_cZ_gt (i_IA (i_FR (i_A0 ?_)))); (with_reducible refine i_fldR (by assumption) ?_); (with_reducible refine i_L4 ?_); (with_reducible refine i_in (by assumption) (by omega) (by omega) ?_); (rw [gg]); (with_reducible refine i_f (by omega) ?_); (with_reducible refine i_If (i_cIf (i_cZ_ne (i_L5 ?_)))); (with_reducible refine i_f (by omega) ?_); (with_reducible refine i_cI_eq (i_Call (i_as1 (i_L4 (i_as0 (i_recv1 ?_)))))); (refine c_isSaid hO hpl ⟨_, rfl, ?_⟩); (with_reducible refine i_eIf (i_cZ_eq (i_IA (i_FR (i_A0 ?_))))); (with_reducible refine i_fldR (by assumption) ?_); (with_reducible refine i_L4 ?_); (with_reducible refine i_in (by assumption) (by omega) (by omega) ?_); (rw [gg]); (rw [hsaid]); rw [zbI_t]; (with_reducible refine i_t (by omega) ?_); (with_reducible refine i_I ?_); simp only [w_set0, w_set1, w_setn0, w_setn1]; (with_reducible refine i_t trivial ?_); (with_reducible refine i_sCall (i_as1 (i_FR (i_A0 ?_)))); (with_reducible refine i_fldR (by assumption) ?_); (with_reducible refine i_as1 (i_L2 (i_as1 (i_L3 (i_as0 ?_))))); (with_reducible refine i_recv0 (by assumption) ?_); (refine s_Net_flip hO y0 h4 (show a < 16 by omega) (show b < 16 by omega) (by omega) (fun M5 f5 h5 => ⟨rfl, ?_⟩)); (with_reducible refine i_up (i_Inc3 ?_)); rw [zx_inc (by omega)]; simp only [w_set0, w_set1, w_setn0, w_setn1])
              exact hX5 _ M5 (fun b' j q => by rw [f5 b' (by simp <;> omega)]; exact f4 b' j q) (yes _ _ _ (zlN_s false) (by rw [hin, hk1]) h5) (no _ _ _ zlO_s (by rw [hO1, hk1, hk1]; rfl) (k4.to (fun b' j a1 a2 => by rw [f5 b' (by simp <;> omega)])))
    · rintro ρ M4 X4 ⟨⟨l4, rfl⟩, f4, h4, k4⟩
      rw [show a + 1 + (n - (a + 1)) = n by omega] at h4 k4 ⊢
      ((with_reducible refine i_turn (i_cI_lt (i_L3 (i_L1 ?_)))); (with_reducible refine i_f (by omega) ?_); (with_reducible refine i_up (i_Inc2 ?_)); rw [zx_inc (by omega)]; simp only [w_set0, w_set1, w_setn0, w_setn1])
      exact hX _ _ ⟨⟨_, rfl⟩, f4, h4.ext (fun p q _ _ => zpt_nx _ _ _ _ _), k4.ext (fun p q _ _ => zpt_nx _ _ _ _ _)⟩
  · rintro ρ M3 X ⟨⟨l, rfl⟩, f3, h3, k3⟩
    ((with_reducible refine i_turn (i_cI_lt (i_L2 (i_L1 ?_)))); (with_reducible refine i_f (by omega) ?_); (with_reducible refine i_RetV ?_))
    refine hk M3 f3 (h3.ext (fun p q _ _ => ?_)) (k3.ext (fun p q _ _ => ?_))
    · rw [zpt_end]
      unfold zlN
      cases decide (p < n ∧ q < n ∧ p ≠ q) <;> rfl
    · rw [zpt_end]
      unfold zlO zlN
      cases decide (p < n ∧ q < n ∧ p ≠ q) <;> rfl
theorem c_take {O : zOm} (hO : zWld O) (hS : zS O = zmS zC0) {x n : Nat} {A : zTl} {M : zMem} {K : Option zV → zMem → Prop} (hx : zTeC (zS O) x) (hx7 : 148 < x) (hA : zTR M x n A) (hn2 : n ≤ 16) (hw : zTw n A) (hC : cSo M)
    (hk : ∀ M', (∀ b j, ¬ (b = ((134 : Nat) : Int) ∧ j = 6 ∨ ((135 : Nat) : Int) ≤ b ∧ b ≤ ((137 : Nat) : Int) ∨ b = ((139 : Nat) : Int) ∨ ((141 : Nat) : Int) ≤ b ∧ b ≤ ((144 : Nat) : Int)) → M' b j = M b j) → cTk M' n A → K none M') : zR O F_Sorts_take [(2, ((134 : Nat) : Int)), (2, ((x : Nat) : Int))] M K := by
  obtain ⟨⟨s0, s1, s2, s3, s4, s5, s6, s7, s8⟩, ⟨s9, s10, s11, s12, s13⟩, ⟨t1, t2, t3, t4, t5, t6, t7⟩⟩ := zO134_ok hS
  have hx0 := hx
  obtain ⟨⟨x0, x1, x2, x3, x4, x5, x6, x7⟩, ⟨xa, xb⟩, hQ0, ⟨hs7, hs9, hs11⟩⟩ := hx
  have hQ := hQ0
  obtain ⟨q0, q1, q2, q3, q4, q5, q6, q7, q8⟩ := hQ
  have hs7' := hs7
  have hs9' := hs9
  have hs11' := hs11
  obtain ⟨-, -, -, o7⟩ := hs7'
  obtain ⟨-, -, -, o9⟩ := hs9'
  obtain ⟨-, -, -, o11⟩ := hs11'
  obtain ⟨hM, hrow, hwd, hsd, hex, hlf⟩ := hA
  have gn := hM.1
  have hask := hC.2
  apply r_Sorts_take hO
  unfold B_Sorts_take
  ((with_reducible refine i_Seq (i_Seq (i_sCall (i_as1 (i_A0 (i_as0 ?_)))))); (with_reducible refine i_recv0 (by assumption) ?_))
  refine c_forget hO hS hC (fun M1 f1 u1 z1 => ⟨rfl, ?_⟩)
  have gn1 : M1 ((x + 1 : Nat) : Int) ((3 : Nat) : Int) = ((n : Nat) : Int) := (f1 _ _ (by omega)).trans gn
  ((with_reducible refine i_Seq (i_Set (i_F (i_FR (i_A1 ?_))))); (with_reducible refine i_fldR (by assumption) ?_); (with_reducible refine i_fld (by assumption) ?_); (with_reducible refine i_Seq (i_Blk (i_Seq (i_Set (i_I ?_))))); (rw [gn1]); simp only [w_set0, w_set1, w_setn0, w_setn1])
  have I0 : ∀ a b : Nat, (∀ k, zop (tgR n A k) n a b = 0 ∧ zop (tgC n A k) n a b = 0) → True := fun _ _ _ => trivial
  clear I0
  refine w_ForN n (fun a ρ M' => (∃ l, ρ = ((134 : Nat) : Int) :: ((x : Nat) : Int) :: ((n : Nat) : Int) :: ((a : Nat) : Int) :: l) ∧ (∀ b j, ¬ (b = ((134 : Nat) : Int) ∧ j = 6 ∨ ((135 : Nat) : Int) ≤ b ∧ b ≤ ((137 : Nat) : Int) ∨ b = ((139 : Nat) : Int)) → M' b j = M b j) ∧ (∀ k : Nat, k < 512 → M' ((135 : Nat) : Int) ((zplc k : Nat) : Int) = ((zop (tgR n A k) n a 0 : Nat) : Int) ∧ M' ((136 : Nat) : Int) ((zplc k : Nat) : Int) = ((zop (tgC n A k) n a 0 : Nat) : Int)) ∧ (∃ (c : Nat) (U : Nat → Nat), M' ((134 : Nat) : Int) ((6 : Nat) : Int) = ((c : Nat) : Int) ∧ c ≤ zop (fun _ _ => true) n a 0 ∧ (∀ i : Nat, i < c → M' ((139 : Nat) : Int) ((i : Nat) : Int) = ((zplc (U i) : Nat) : Int) ∧ U i < 512) ∧ (∀ i j, i < j → j < c → U i ≠ U j) ∧ (∀ i, i < c → zop (tgR n A (U i)) n a 0 ≠ 0) ∧ ∀ k : Nat, k < 512 → (∀ i, i < c → U i ≠ k) → zop (tgR n A k) n a 0 = 0) ∧ ∀ p q : Nat, ((p < q ∧ q < n ∧ p < a) ∨ (q < p ∧ p < n ∧ q < a)) → M' ((137 : Nat) : Int) ((16 * p + q : Nat) : Int) = zpv n A p q) ⟨⟨_, rfl⟩, fun b j q => f1 b j (by omega), fun k hk1 => z1 _ (zplc_lt hk1), ⟨0, fun _ => 0, u1, Nat.le_refl _, fun i hi => absurd hi (Nat.not_lt_zero _), fun i j _ hj => absurd hj (Nat.not_lt_zero _), fun i hi => absurd hi (Nat.not_lt_zero _), fun k _ _ => rfl⟩, fun p q h => absurd h (by omega)⟩ ?_ ?_
  · rintro a ρ M2 X ha ⟨⟨l, rfl⟩, f2, z2, ⟨c, U, w1, w2, w3, w4, w5, w6⟩, p2⟩ hX
    ((with_reducible refine i_turn (i_cI_lt (i_L3 (i_L2 ?_)))); (with_reducible refine i_t (by omega) ?_); (with_reducible refine i_Blk (i_Seq (i_Set (i_Add (i_L3 (i_I ?_)))))); rw [zx_inc (by omega)]; simp only [w_set0, w_set1, w_setn0, w_setn1]; rw [w_setT])
    refine w_ForN (n - (a + 1)) (fun d ρ M' => (∃ l, ρ = ((134 : Nat) : Int) :: ((x : Nat) : Int) :: ((n : Nat) : Int) :: ((a : Nat) : Int) :: ((a + 1 + d : Nat) : Int) :: l) ∧ (∀ b j, ¬ (b = ((134 : Nat) : Int) ∧ j = 6 ∨ ((135 : Nat) : Int) ≤ b ∧ b ≤ ((137 : Nat) : Int) ∨ b = ((139 : Nat) : Int)) → M' b j = M b j) ∧ (∀ k : Nat, k < 512 → M' ((135 : Nat) : Int) ((zplc k : Nat) : Int) = ((zop (tgR n A k) n a (a + 1 + d) : Nat) : Int) ∧ M' ((136 : Nat) : Int) ((zplc k : Nat) : Int) = ((zop (tgC n A k) n a (a + 1 + d) : Nat) : Int)) ∧ (∃ (c : Nat) (U : Nat → Nat), M' ((134 : Nat) : Int) ((6 : Nat) : Int) = ((c : Nat) : Int) ∧ c ≤ zop (fun _ _ => true) n a (a + 1 + d) ∧ (∀ i : Nat, i < c → M' ((139 : Nat) : Int) ((i : Nat) : Int) = ((zplc (U i) : Nat) : Int) ∧ U i < 512) ∧ (∀ i j, i < j → j < c → U i ≠ U j) ∧ (∀ i, i < c → zop (tgR n A (U i)) n a (a + 1 + d) ≠ 0) ∧ ∀ k : Nat, k < 512 → (∀ i, i < c → U i ≠ k) → zop (tgR n A k) n a (a + 1 + d) = 0) ∧ ∀ p q : Nat, ((p < q ∧ q < n ∧ (p < a ∨ p = a ∧ q < a + 1 + d)) ∨ (q < p ∧ p < n ∧ (q < a ∨ q = a ∧ p < a + 1 + d))) → M' ((137 : Nat) : Int) ((16 * p + q : Nat) : Int) = zpv n A p q) ⟨⟨_, rfl⟩, f2, fun k hk1 => by rw [← zop_row, ← zop_row]; exact z2 k hk1, ⟨c, U, w1, by rw [← zop_row]; exact w2, w3, w4, fun i hi => by rw [← zop_row]; exact w5 i hi, fun k hk1 hn => by rw [← zop_row]; exact w6 k hk1 hn⟩, fun p q h => p2 p q (by omega)⟩ ?_ ?_
    · clear w1 w2 w3 w4 w5 w6 z2 p2 f2
      clear U c
      rintro d ρ M3 X3 hd ⟨⟨l3, rfl⟩, f3, z3, ⟨c, U, w1, w2, w3, w4, w5, w6⟩, p3⟩ hX3
      have hbn : a + 1 + d < n := by omega
      have hab : a < a + 1 + d := by omega
      have hX4 : ∀ (l : zLoc) (M' : zMem), (∀ b j, ¬ (b = ((134 : Nat) : Int) ∧ j = 6 ∨ ((135 : Nat) : Int) ≤ b ∧ b ≤ ((137 : Nat) : Int) ∨ b = ((139 : Nat) : Int)) → M' b j = M b j) → (∀ k : Nat, k < 512 → M' ((135 : Nat) : Int) ((zplc k : Nat) : Int) = ((zop (tgR n A k) n a (a + 1 + d + 1) : Nat) : Int) ∧ M' ((136 : Nat) : Int) ((zplc k : Nat) : Int) = ((zop (tgC n A k) n a (a + 1 + d + 1) : Nat) : Int)) → (∃ (c : Nat) (U : Nat → Nat), M' ((134 : Nat) : Int) ((6 : Nat) : Int) = ((c : Nat) : Int) ∧ c ≤ zop (fun _ _ => true) n a (a + 1 + d + 1) ∧ (∀ i : Nat, i < c → M' ((139 : Nat) : Int) ((i : Nat) : Int) = ((zplc (U i) : Nat) : Int) ∧ U i < 512) ∧ (∀ i j, i < j → j < c → U i ≠ U j) ∧ (∀ i, i < c → zop (tgR n A (U i)) n a (a + 1 + d + 1) ≠ 0) ∧ ∀ k : Nat, k < 512 → (∀ i, i < c → U i ≠ k) → zop (tgR n A k) n a (a + 1 + d + 1) = 0) → (∀ p q : Nat, ((p < q ∧ q < n ∧ (p < a ∨ p = a ∧ q < a + 1 + d + 1)) ∨ (q < p ∧ p < n ∧ (q < a ∨ q = a ∧ p < a + 1 + d + 1))) → M' ((137 : Nat) : Int) ((16 * p + q : Nat) : Int) = zpv n A p q) → X3 (((134 : Nat) : Int) :: ((x : Nat) : Int) :: ((n : Nat) : Int) :: ((a : Nat) : Int) :: ((a + 1 + d + 1 : Nat) : Int) :: l) M' := fun l M' g1 g2 g3 g4 => hX3 _ _ ⟨⟨l, rfl⟩, g1, g2, g3, g4⟩
      clear hX3
      generalize a + 1 + d = b at hbn hab z3 w2 w5 w6 p3 hX4 ⊢
      have hfew := zop_few hn2 hab hbn
      have hctr := zop_su (fun _ _ => true) (n := n) hab
      rw [if_pos rfl] at hctr
      have hM3 : zPR M3 (x + 1) n (tf A) (tm A) := zPR.fr hM (fun b' j a1 a2 => f3 b' j (by omega))
      have hsd3 : zNR M3 (x + 7) n (tS n A) := hsd.to (fun b' j a1 a2 => f3 b' j (by omega))
      have hex3 := zNR.to (M' := M3) hex (fun b' j a1 a2 => f3 b' j (by omega))
      have hlf3 := zNR.to (M' := M3) hlf (fun b' j a1 a2 => f3 b' j (by omega))
      have hlt := zso_lt (s := tS n A a b) (hw.f16 a (by omega)) (hw.f16 b hbn)
      have hpl := zplc_lt hlt
      have hR : ∀ k, zop (tgR n A k) n a (b + 1) = zop (tgR n A k) n a b + (if zso (tf A) a b (tS n A a b) = k ∧ tv A a b ≠ 1 then 1 else 0) := fun k => by rw [zop_su _ hab]; unfold tgR; simp only [decide_eq_true_eq]
      have hCC : ∀ k, zop (tgC n A k) n a (b + 1) = zop (tgC n A k) n a b + (if zso (tf A) a b (tS n A a b) = k ∧ tv A a b = 2 then 1 else 0) := fun k => by rw [zop_su _ hab]; unfold tgC; simp only [decide_eq_true_eq]
      have hpv : zpv n A a b = if tv A a b = 1 then (if tS n A a b = true then -1 else -2) else ((zplc (zso (tf A) a b (tS n A a b)) : Nat) : Int) := by unfold zpv; rw [tvs_lt hab]
      have hv := hw.2.2.2.2 a b
      have hpo := fun (M' : zMem) (K' : Option zV → zMem → Prop) (g : zPR M' (x + 1) n (tf A) (tm A)) (z : K' (some (0, ((zplc (zso (tf A) a b (tS n A a b)) : Nat) : Int))) M') => c_placeOf hO hx0 (s := tS n A a b) g hw.f16 (show a < n by omega) hbn hn2 (K := K') z
      have hjl := fun (K' : Option zV → zMem → Prop) (z : K' (some (0, zbI (decide (tvs A a b = 2)))) M3) => s_joins hO hs11 hlf3 (show a < 16 by omega) (show b < 16 by omega) (K := K') z
      have hje := fun (K' : Option zV → zMem → Prop) (z : K' (some (0, zbI (decide (tvs A a b ≠ 0)))) M3) => s_joins hO hs9 hex3 (show a < 16 by omega) (show b < 16 by omega) (K := K') z
      rw [tvs_lt hab] at hjl hje
      -- places are kept behind it
      have tail : ∀ (l : zLoc) (M4 : zMem) (v : Int), v = zpv n A a b → (∀ b j, ¬ (b = ((134 : Nat) : Int) ∧ j = 6 ∨ ((135 : Nat) : Int) ≤ b ∧ b ≤ ((136 : Nat) : Int) ∨ b = ((139 : Nat) : Int)) → M4 b j = M3 b j) → (∀ k : Nat, k < 512 → M4 ((135 : Nat) : Int) ((zplc k : Nat) : Int) = ((zop (tgR n A k) n a (b + 1) : Nat) : Int) ∧ M4 ((136 : Nat) : Int) ((zplc k : Nat) : Int) = ((zop (tgC n A k) n a (b + 1) : Nat) : Int)) → (∃ (c : Nat) (U : Nat → Nat), M4 ((134 : Nat) : Int) ((6 : Nat) : Int) = ((c : Nat) : Int) ∧ c ≤ zop (fun _ _ => true) n a (b + 1) ∧ (∀ i : Nat, i < c → M4 ((139 : Nat) : Int) ((i : Nat) : Int) = ((zplc (U i) : Nat) : Int) ∧ U i < 512) ∧ (∀ i j, i < j → j < c → U i ≠ U j) ∧ (∀ i, i < c → zop (tgR n A (U i)) n a (b + 1) ≠ 0) ∧ ∀ k : Nat, k < 512 → (∀ i, i < c → U i ≠ k) → zop (tgR n A k) n a (b + 1) = 0) → X3 (((134 : Nat) : Int) :: ((x : Nat) : Int) :: ((n : Nat) : Int) :: ((a : Nat) : Int) :: ((b + 1 : Nat) : Int) :: l) (zput (zput M4 ((137 : Nat) : Int) (zup (M4 ((137 : Nat) : Int)) ((a * 16 + b : Nat) : Int) v)) ((137 : Nat) : Int) (zup ((zput M4 ((137 : Nat) : Int) (zup (M4 ((137 : Nat) : Int)) ((a * 16 + b : Nat) : Int) v)) ((137 : Nat) : Int)) ((b * 16 + a : Nat) : Int) v)) := by
        intro l M4 v hv4 f4 z4 ⟨c4, U4, w41, w42, w43, w44, w45, w46⟩
        subst hv4
        refine hX4 l _ (fun b' j q => by rw [zg_n _ _ _ (by omega), zg_n _ _ _ (by omega), f4 b' j (by omega)]; exact f3 b' j q) (fun k hk1 => ?_) ⟨c4, U4, ?_, w42, fun i hi => ?_, w44, w45, w46⟩ (fun p q h => ?_)
        · rw [zg_n _ _ _ (by omega), zg_n _ _ _ (by omega), zg_n _ _ _ (by omega), zg_n _ _ _ (by omega)]; exact z4 k hk1
        · rw [zg_n _ _ _ (by omega), zg_n _ _ _ (by omega)]; exact w41
        · rw [zg_n _ _ _ (by omega), zg_n _ _ _ (by omega)]; exact w43 i hi
        · by_cases e1 : p = a ∧ q = b
          · rw [e1.1, e1.2, show 16 * a + b = a * 16 + b by omega, zg_m _ _ _ _ _ (by omega), zg_s]
          · by_cases e2 : p = b ∧ q = a
            · rw [e2.1, e2.2, show 16 * b + a = b * 16 + a by omega, zg_s, zpv_s]
            · rw [zg_m _ _ _ _ _ (by omega), zg_m _ _ _ _ _ (by omega), f4 _ _ (by omega)]
              exact p3 p q (by omega)
      clear hX4
      by_cases e : tv A a b = 1
      · rw [e] at hR hCC hpv hjl hje
        rw [if_pos rfl] at hpv
        have hR2 : ∀ k, zop (tgR n A k) n a (b + 1) = zop (tgR n A k) n a b := fun k => by rw [hR]; simp
        have hC2 : ∀ k, zop (tgC n A k) n a (b + 1) = zop (tgC n A k) n a b := fun k => by rw [hCC]; simp
        simp only [show decide ((1 : Nat) = 2) = false from rfl, show decide ((1 : Nat) ≠ 0) = true from rfl] at hjl hje
        cases hs : tS n A a b
        all_goals
          rw [hs] at hpv hpo
          have hjs := fun (K' : Option zV → zMem → Prop) z => s_joins hO hs7 hsd3 (show a < 16 by omega) (show b < 16 by omega) (K := K') z
          rw [hs] at hjs
          (first | (((with_reducible refine i_turn (i_cI_lt (i_L4 (i_L2 ?_)))); (with_reducible refine i_t (by omega) ?_); (with_reducible refine i_Blk (i_Seq (i_Set (i_Call (i_as1 (i_FR (i_A1 ?_))))))); (with_reducible refine i_fldR (by assumption) ?_); (with_reducible refine i_as1 (i_L3 (i_as1 (i_L4 (i_as0 ?_))))); (with_reducible refine i_recv0 (by assumption) ?_); (refine hjs _ ⟨_, rfl, ?_⟩); (with_reducible refine i_Seq (i_Set (i_Call (i_as1 (i_FR ?_))))); rw [zbI_f]; simp only [w_set0, w_set1, w_setn0, w_setn1]; (with_reducible refine i_A1 ?_); (with_reducible refine i_fldR (by assumption) ?_); (with_reducible refine i_as1 (i_L3 (i_as1 (i_L4 (i_as0 ?_))))); (with_reducible refine i_recv0 (by assumption) ?_); (refine hjl _ ⟨_, rfl, ?_⟩); (with_reducible refine i_Seq (i_Set (i_Call (i_as1 ?_)))); rw [zbI_f]; simp only [w_set0, w_set1, w_setn0, w_setn1]; (with_reducible refine i_A1 (i_as1 (i_L3 (i_as1 (i_L4 (i_as1 ?_)))))); rw [w_setT]; simp only [w_set0, w_set1, w_setn0, w_setn1]; (with_reducible refine i_L5 (i_as0 (i_recv1 ?_))); (refine hpo M3 _ hM3 ⟨_, rfl, ?_⟩); (with_reducible refine i_Seq (i_Ite (i_cAnd (i_cZ_ne (i_Call (i_as1 (i_FR ?_))))))); simp only [w_set0, w_set1, w_setn0, w_setn1]; (with_reducible refine i_A1 ?_); (with_reducible refine i_fldR (by assumption) ?_); (with_reducible refine i_as1 (i_L3 (i_as1 (i_L4 (i_as0 ?_))))); (with_reducible refine i_recv0 (by assumption) ?_); (refine hje _ ⟨_, rfl, ?_⟩); rw [zbI_t]; rw [w_setT]; simp only [w_set0, w_set1, w_setn0, w_setn1]; rw [w_setT]; (with_reducible refine i_t (by omega) ?_); (with_reducible refine i_cNot (i_cZ_ne (i_L6 ?_))); (with_reducible refine i_f (by omega) ?_); (with_reducible refine i_Set (i_eIf (i_cZ_ne (i_L5 ?_)))); (with_reducible refine i_f (by omega) ?_); (with_reducible refine i_I (i_Seq (i_sIA (i_FR ?_)))); simp only [w_set0, w_set1, w_setn0, w_setn1]; (with_reducible refine i_A0 ?_); (with_reducible refine i_fldR (by assumption) ?_); (with_reducible refine i_Add (i_Mul (i_L3 (i_I (i_L4 (i_L7 ?_)))))); rw [zx_mulc (by omega)]; rw [zx_add (by omega)]; (with_reducible refine i_in (by assumption) (by omega) (by omega) ?_); (with_reducible refine i_sIA (i_FR (i_A0 ?_))); (with_reducible refine i_fldR (by assumption) ?_); (with_reducible refine i_Add (i_Mul (i_L4 (i_I (i_L3 (i_L7 ?_)))))); rw [zx_mulc (by omega)]; rw [zx_add (by omega)]; (with_reducible refine i_in (by assumption) (by omega) (by omega) ?_); (with_reducible refine i_up (i_Inc4 ?_)); rw [zx_inc (by omega)]; simp only [w_set0, w_set1, w_setn0, w_setn1])) | (((with_reducible refine i_turn (i_cI_lt (i_L4 (i_L2 ?_)))); (with_reducible refine i_t (by omega) ?_); (with_reducible refine i_Blk (i_Seq (i_Set (i_Call (i_as1 (i_FR (i_A1 ?_))))))); (with_reducible refine i_fldR (by assumption) ?_); (with_reducible refine i_as1 (i_L3 (i_as1 (i_L4 (i_as0 ?_))))); (with_reducible refine i_recv0 (by assumption) ?_); (refine hjs _ ⟨_, rfl, ?_⟩); (with_reducible refine i_Seq (i_Set (i_Call (i_as1 (i_FR ?_))))); rw [zbI_t]; simp only [w_set0, w_set1, w_setn0, w_setn1]; (with_reducible refine i_A1 ?_); (with_reducible refine i_fldR (by assumption) ?_); (with_reducible refine i_as1 (i_L3 (i_as1 (i_L4 (i_as0 ?_))))); (with_reducible refine i_recv0 (by assumption) ?_); (refine hjl _ ⟨_, rfl, ?_⟩); (with_reducible refine i_Seq (i_Set (i_Call (i_as1 ?_)))); rw [zbI_f]; simp only [w_set0, w_set1, w_setn0, w_setn1]; (with_reducible refine i_A1 (i_as1 (i_L3 (i_as1 (i_L4 (i_as1 ?_)))))); rw [w_setT]; simp only [w_set0, w_set1, w_setn0, w_setn1]; (with_reducible refine i_L5 (i_as0 (i_recv1 ?_))); (refine hpo M3 _ hM3 ⟨_, rfl, ?_⟩); (with_reducible refine i_Seq (i_Ite (i_cAnd (i_cZ_ne (i_Call (i_as1 (i_FR ?_))))))); simp only [w_set0, w_set1, w_setn0, w_setn1]; (with_reducible refine i_A1 ?_); (with_reducible refine i_fldR (by assumption) ?_); (with_reducible refine i_as1 (i_L3 (i_as1 (i_L4 (i_as0 ?_))))); (with_reducible refine i_recv0 (by assumption) ?_); (refine hje _ ⟨_, rfl, ?_⟩); rw [zbI_t]; rw [w_setT]; simp only [w_set0, w_set1, w_setn0, w_setn1]; rw [w_setT]; (with_reducible refine i_t (by omega) ?_); (with_reducible refine i_cNot (i_cZ_ne (i_L6 ?_))); (with_reducible refine i_f (by omega) ?_); (with_reducible refine i_Set (i_eIf (i_cZ_ne (i_L5 ?_)))); (with_reducible refine i_t (by omega) ?_); (with_reducible refine i_I (i_Seq (i_sIA (i_FR ?_)))); simp only [w_set0, w_set1, w_setn0, w_setn1]; (with_reducible refine i_A0 ?_); (with_reducible refine i_fldR (by assumption) ?_); (with_reducible refine i_Add (i_Mul (i_L3 (i_I (i_L4 (i_L7 ?_)))))); rw [zx_mulc (by omega)]; rw [zx_add (by omega)]; (with_reducible refine i_in (by assumption) (by omega) (by omega) ?_); (with_reducible refine i_sIA (i_FR (i_A0 ?_))); (with_reducible refine i_fldR (by assumption) ?_); (with_reducible refine i_Add (i_Mul (i_L4 (i_I (i_L3 (i_L7 ?_)))))); rw [zx_mulc (by omega)]; rw [zx_add (by omega)]; (with_reducible refine i_in (by assumption) (by omega) (by omega) ?_); (with_reducible refine i_up (i_Inc4 ?_)); rw [zx_inc (by omega)]; simp only [w_set0, w_set1, w_setn0, w_setn1])))
          exact tail _ M3 _ (by rw [hpv]; rfl) (fun _ _ _ => rfl) (fun k hk1 => by rw [hR2, hC2]; exact z3 k hk1) ⟨c, U, w1, by omega, w3, w4, fun i hi => by rw [hR2]; exact w5 i hi, fun k hk1 hn => by rw [hR2]; exact w6 k hk1 hn⟩
      · rw [if_neg e] at hpv
        have hlb : ∃ lb : Bool, decide (tv A a b = 2) = lb ∧ ((decide (tv A a b ≠ 0)) = lb) := ⟨decide (tv A a b = 2), rfl, decide_eq_decide.mpr (by omega)⟩
        obtain ⟨lb, hb1, hb2⟩ := hlb
        rw [hb1] at hjl
        rw [hb2] at hje
        obtain ⟨g1, g2⟩ := z3 _ hlt
        have b1 := zop_le (tgR n A (zso (tf A) a b (tS n A a b))) hn2 (a := a) (b := b) (by omega) (by omega)
        have b2 := zop_le (tgC n A (zso (tf A) a b (tS n A a b))) hn2 (a := a) (b := b) (by omega) (by omega)
        have hjs := fun (K' : Option zV → zMem → Prop) z => s_joins hO hs7 hsd3 (show a < 16 by omega) (show b < 16 by omega) (K := K') z
        generalize hke : zso (tf A) a b (tS n A a b) = k0 at hlt hpl hR hCC hpv hpo g1 g2 b1 b2
        have hR2 : ∀ k, zop (tgR n A k) n a (b + 1) = zop (tgR n A k) n a b + (if k0 = k then 1 else 0) := fun k => by rw [hR]; simp [e]
        have hC2 : ∀ k, zop (tgC n A k) n a (b + 1) = zop (tgC n A k) n a b + (if k0 = k ∧ lb = true then 1 else 0) := fun k => by rw [hCC, ← hb1]; simp
        clear hR hCC
        cases lb
        all_goals
          (first | (((with_reducible refine i_turn (i_cI_lt (i_L4 (i_L2 ?_)))); (with_reducible refine i_t (by omega) ?_); (with_reducible refine i_Blk (i_Seq (i_Set (i_Call (i_as1 (i_FR (i_A1 ?_))))))); (with_reducible refine i_fldR (by assumption) ?_); (with_reducible refine i_as1 (i_L3 (i_as1 (i_L4 (i_as0 ?_))))); (with_reducible refine i_recv0 (by assumption) ?_); (refine hjs _ ⟨_, rfl, ?_⟩); (with_reducible refine i_Seq (i_Set (i_Call (i_as1 (i_FR ?_))))); simp only [w_set0, w_set1, w_setn0, w_setn1]; (with_reducible refine i_A1 ?_); (with_reducible refine i_fldR (by assumption) ?_); (with_reducible refine i_as1 (i_L3 (i_as1 (i_L4 (i_as0 ?_))))); (with_reducible refine i_recv0 (by assumption) ?_); (refine hjl _ ⟨_, rfl, ?_⟩); (with_reducible refine i_Seq (i_Set (i_Call (i_as1 ?_)))); rw [zbI_t]; simp only [w_set0, w_set1, w_setn0, w_setn1]; (with_reducible refine i_A1 (i_as1 (i_L3 (i_as1 (i_L4 (i_as1 ?_)))))); rw [w_setT]; simp only [w_set0, w_set1, w_setn0, w_setn1]; (with_reducible refine i_L5 (i_as0 (i_recv1 ?_))); (refine hpo M3 _ hM3 ⟨_, rfl, ?_⟩); (with_reducible refine i_Seq (i_Ite (i_cAnd (i_cZ_ne (i_Call (i_as1 (i_FR ?_))))))); simp only [w_set0, w_set1, w_setn0, w_setn1]; (with_reducible refine i_A1 ?_); (with_reducible refine i_fldR (by assumption) ?_); (with_reducible refine i_as1 (i_L3 (i_as1 (i_L4 (i_as0 ?_))))); (with_reducible refine i_recv0 (by assumption) ?_); (refine hje _ ⟨_, rfl, ?_⟩); rw [zbI_t]; rw [w_setT]; simp only [w_set0, w_set1, w_setn0, w_setn1]; rw [w_setT]; (with_reducible refine i_t (by omega) ?_); (with_reducible refine i_cNot (i_cZ_ne (i_L6 ?_))); (with_reducible refine i_t (by omega) ?_); (with_reducible refine i_sCall (i_as1 (i_A0 (i_as1 (i_L7 (i_as1 (i_L6 (i_as0 ?_)))))))); (with_reducible refine i_recv0 (by assumption) ?_))) | (((with_reducible refine i_turn (i_cI_lt (i_L4 (i_L2 ?_)))); (with_reducible refine i_t (by omega) ?_); (with_reducible refine i_Blk (i_Seq (i_Set (i_Call (i_as1 (i_FR (i_A1 ?_))))))); (with_reducible refine i_fldR (by assumption) ?_); (with_reducible refine i_as1 (i_L3 (i_as1 (i_L4 (i_as0 ?_))))); (with_reducible refine i_recv0 (by assumption) ?_); (refine hjs _ ⟨_, rfl, ?_⟩); (with_reducible refine i_Seq (i_Set (i_Call (i_as1 (i_FR ?_))))); simp only [w_set0, w_set1, w_setn0, w_setn1]; (with_reducible refine i_A1 ?_); (with_reducible refine i_fldR (by assumption) ?_); (with_reducible refine i_as1 (i_L3 (i_as1 (i_L4 (i_as0 ?_))))); (with_reducible refine i_recv0 (by assumption) ?_); (refine hjl _ ⟨_, rfl, ?_⟩); (with_reducible refine i_Seq (i_Set (i_Call (i_as1 ?_)))); rw [zbI_f]; simp only [w_set0, w_set1, w_setn0, w_setn1]; (with_reducible refine i_A1 (i_as1 (i_L3 (i_as1 (i_L4 (i_as1 ?_)))))); rw [w_setT]; simp only [w_set0, w_set1, w_setn0, w_setn1]; (with_reducible refine i_L5 (i_as0 (i_recv1 ?_))); (refine hpo M3 _ hM3 ⟨_, rfl, ?_⟩); (with_reducible refine i_Seq (i_Ite (i_cAnd (i_cZ_ne (i_Call (i_as1 (i_FR ?_))))))); simp only [w_set0, w_set1, w_setn0, w_setn1]; (with_reducible refine i_A1 ?_); (with_reducible refine i_fldR (by assumption) ?_); (with_reducible refine i_as1 (i_L3 (i_as1 (i_L4 (i_as0 ?_))))); (with_reducible refine i_recv0 (by assumption) ?_); (refine hje _ ⟨_, rfl, ?_⟩); rw [zbI_f]; rw [w_setT]; simp only [w_set0, w_set1, w_setn0, w_setn1]; rw [w_setT]; (with_reducible refine i_f (by omega) ?_); (with_reducible refine i_sCall (i_as1 (i_A0 (i_as1 (i_L7 (i_as1 (i_L6 (i_as0 ?_)))))))); (with_reducible refine i_recv0 (by assumption) ?_))))
          first | refine c_countFree hO hS (l := false) w1 (by omega) g1 g2 hpl (by omega) (by omega) (fun M4 f4 r4 q4 n4 y4 => ⟨rfl, ?_⟩) | refine c_countFree hO hS (l := true) w1 (by omega) g1 g2 hpl (by omega) (by omega) (fun M4 f4 r4 q4 n4 y4 => ⟨rfl, ?_⟩)
          ((with_reducible refine i_Seq (i_sIA (i_FR (i_A0 ?_)))); (with_reducible refine i_fldR (by assumption) ?_); (with_reducible refine i_Add (i_Mul (i_L3 (i_I (i_L4 (i_L7 ?_)))))); rw [zx_mulc (by omega)]; rw [zx_add (by omega)]; (with_reducible refine i_in (by assumption) (by omega) (by omega) ?_); (with_reducible refine i_sIA (i_FR (i_A0 ?_))); (with_reducible refine i_fldR (by assumption) ?_); (with_reducible refine i_Add (i_Mul (i_L4 (i_I (i_L3 (i_L7 ?_)))))); rw [zx_mulc (by omega)]; rw [zx_add (by omega)]; (with_reducible refine i_in (by assumption) (by omega) (by omega) ?_); (with_reducible refine i_up (i_Inc4 ?_)); rw [zx_inc (by omega)]; simp only [w_set0, w_set1, w_setn0, w_setn1])
          refine tail _ M4 _ hpv.symm (fun b' j q => f4 b' j (by omega)) (fun k hk1 => ?_) ?_
          · rw [hR2, hC2]
            by_cases z : k0 = k
            · subst z
              rw [r4, q4]
              exact ⟨by rw [if_pos rfl], by simp⟩
            · have hne : zplc k ≠ zplc k0 := fun y => z (zplc_inj hk1 hlt y).symm
              rw [f4 _ _ (by omega), f4 _ _ (by omega), if_neg z, if_neg (fun y => z y.1)]
              exact z3 k hk1
          · by_cases z : zop (tgR n A k0) n a b = 0
            · obtain ⟨y1, y2⟩ := y4 z
              refine ⟨c + 1, fun i => if i = c then k0 else U i, y1, by omega, fun i hi => ?_, fun i j hij hj => ?_, fun i hi => ?_, fun k hk1 hn => ?_⟩
              · by_cases v : i = c
                · subst v
                  dsimp only
                  rw [if_pos rfl]; exact ⟨y2, hlt⟩
                · dsimp only
                  rw [if_neg v, f4 _ _ (by omega)]; exact w3 i (by omega)
              · dsimp only
                rw [if_neg (show i ≠ c by omega)]
                by_cases v : j = c
                · rw [if_pos v]
                  intro y
                  exact w5 i (by omega) (by rw [y]; exact z)
                · rw [if_neg v]; exact w4 i j hij (by omega)
              · dsimp only
                rw [hR2]
                by_cases v : i = c
                · rw [if_pos v, if_pos rfl]; omega
                · rw [if_neg v]
                  have := w5 i (by omega)
                  omega
              · have h1 := hn c (by omega)
                dsimp only at h1
                rw [if_pos rfl] at h1
                rw [hR2, if_neg h1]
                refine w6 k hk1 (fun i hi => ?_)
                have h2 := hn i (by omega)
                dsimp only at h2
                rw [if_neg (by omega)] at h2
                exact h2
            · obtain ⟨y1, y2⟩ := n4 z
              refine ⟨c, U, y1, by omega, fun i hi => by rw [f4 _ _ (by omega)]; exact w3 i hi, w4, fun i hi => ?_, fun k hk1 hn => ?_⟩
              · rw [hR2]
                have := w5 i hi
                omega
              · have h1 := w6 k hk1 hn
                rw [hR2, if_neg (fun y => z (by rw [y]; exact h1))]
                exact h1
    · rintro ρ M3 X3 ⟨⟨l3, rfl⟩, f3, z3, ⟨c, U, w1, w2, w3, w4, w5, w6⟩, p3⟩
      rw [show a + 1 + (n - (a + 1)) = n by omega] at z3 w2 w5 w6 p3 ⊢
      ((with_reducible refine i_turn (i_cI_lt (i_L4 (i_L2 ?_)))); (with_reducible refine i_f (by omega) ?_); (with_reducible refine i_up (i_Inc3 ?_)); rw [zx_inc (by omega)]; simp only [w_set0, w_set1, w_setn0, w_setn1])
      exact hX _ _ ⟨⟨_, rfl⟩, f3, fun k hk1 => by rw [← zop_nx, ← zop_nx]; exact z3 k hk1, ⟨c, U, w1, by rw [← zop_nx]; exact w2, w3, w4, fun i hi => by rw [← zop_nx]; exact w5 i hi, fun k hk1 hn => by rw [← zop_nx]; exact w6 k hk1 hn⟩, fun p q h => p3 p q (by omega)⟩
  · rintro ρ M2 X ⟨⟨l, rfl⟩, f2, z2, ⟨c, U, w1, w2, w3, w4, w5, w6⟩, p2⟩
    rw [zop_end] at w2
    have h120 := zp2_le (fun _ _ => true) hn2
    have z2' : ∀ k : Nat, k < 512 → M2 ((135 : Nat) : Int) ((zplc k : Nat) : Int) = ((tR n A k : Nat) : Int) ∧ M2 ((136 : Nat) : Int) ((zplc k : Nat) : Int) = ((tQ n A k : Nat) : Int) := z2
    ((with_reducible refine i_turn (i_cI_lt (i_L3 (i_L2 ?_)))); (with_reducible refine i_f (by omega) ?_); (with_reducible refine i_sCall (i_as1 (i_A0 (i_as1 (i_L2 (i_as0 ?_)))))); (with_reducible refine i_recv0 (by assumption) ?_))
    refine c_settle hO hS hn2 hw z2' (fun p q hp hq hpq => p2 p q (by omega)) (fun M3 f3 h3 k3 => ⟨rfl, ?_⟩)
    (with_reducible refine i_RetV ?_)
    exact hk M3 (fun b j q => by rw [f3 b j (by omega), f2 b j (by omega)]) ⟨fun k hk1 => by rw [f3 _ _ (by omega), f3 _ _ (by omega)]; exact z2' k hk1, ⟨c, U, by rw [f3 _ _ (by omega)]; exact w1, by omega, fun i hi => by rw [f3 _ _ (by omega)]; exact w3 i hi, w4, fun k hk1 hn => w6 k hk1 hn⟩, fun p q hp hq hpq => by rw [f3 _ _ (by omega)]; exact p2 p q (by omega), ⟨h3, k3⟩, fun k hk1 => by rw [f3 _ _ (by omega), f2 _ _ (by omega)]; exact hask k hk1⟩
