section
-- part f4.ctake.lean.txt
/-! ===== sorts taken, pairs settled: the class ===== -/
theorem zflip_in {T : Nat → Nat → Bool} {a b p q : Nat} : zflip T a b p q = (T p q ^^ (decide (p = a ∧ q = b) || decide (p = b ∧ q = a))) := rfl
theorem tvs_s (A : zTl) (p q : Nat) : tvs A p q = tvs A q p := by
  unfold tvs
  by_cases h : p < q
  · rw [if_pos h, if_neg (by omega)]
  · by_cases h2 : q < p
    · rw [if_neg h, if_pos h2]
    · rw [show p = q by omega]
theorem zpv_s {n : Nat} {A : zTl} (p q : Nat) : zpv n A p q = zpv n A q p := by
  unfold zpv
  rw [tvs_s A p q, tS_s (n := n) (A := A) p q, zso_s (tf A) p q]
theorem zlO_s {n : Nat} {A : zTl} (p q : Nat) : zlO n A p q = zlO n A q p := by
  unfold zlO
  rw [zlN_s true p q, zlN_s false p q]
theorem c_isSaid {O : zOm} (hO : zWld O) {p : Nat} {M : zMem} {K : Option zV → zMem → Prop} (hp : p < 512) (hk : K (some (0, zbI (decide (p % 2 = 1)))) M) : zR O F_Sorts_isSaid [(0, ((p : Nat) : Int))] M K := by
  apply r_Sorts_isSaid hO
  unfold B_Sorts_isSaid
  by_cases h : p % 2 = 1
  · rw [decide_eq_true h] at hk
    ((with_reducible refine i_RetZ (i_eIf (i_cI_eq (i_Rem (i_L0 (i_I ?_)))))); rw [zx_modc]; (with_reducible refine i_nn (by decide) ?_); (with_reducible refine i_I ?_); (with_reducible refine i_t (by omega) ?_); (with_reducible refine i_I ?_); (with_reducible refine i_z (Or.inr rfl) ?_))
    exact hk
  · rw [decide_eq_false h] at hk
    ((with_reducible refine i_RetZ (i_eIf (i_cI_eq (i_Rem (i_L0 (i_I ?_)))))); rw [zx_modc]; (with_reducible refine i_nn (by decide) ?_); (with_reducible refine i_I ?_); (with_reducible refine i_f (by omega) ?_); (with_reducible refine i_I ?_); (with_reducible refine i_z (Or.inl rfl) ?_))
    exact hk
theorem c_settle {O : zOm} (hO : zWld O) (hS : zS O = zmS zC0) {n : Nat} {A : zTl} {M : zMem} {K : Option zV → zMem → Prop} (hn2 : n ≤ 16) (hw : zTw n A) (hF : ∀ k : Nat, k < 512 → M ((135 : Nat) : Int) ((zplc k : Nat) : Int) = ((tR n A k : Nat) : Int) ∧ M ((136 : Nat) : Int) ((zplc k : Nat) : Int) = ((tQ n A k : Nat) : Int)) (hP : ∀ p q : Nat, p < n → q < n → p ≠ q → M ((137 : Nat) : Int) ((16 * p + q : Nat) : Int) = zpv n A p q)
    (hk : ∀ M', (∀ b j, ¬ (((141 : Nat) : Int) ≤ b ∧ b ≤ ((144 : Nat) : Int)) → M' b j = M b j) → zNR M' 141 n (zlN n A false) → zNR M' 143 n (zlO n A) → K none M') : zR O F_Sorts_settle [(2, ((134 : Nat) : Int)), (0, ((n : Nat) : Int))] M K := by
  obtain ⟨⟨s0, s1, s2, s3, s4, s5, s6, s7, s8⟩, ⟨s9, s10, s11, s12, s13⟩, ⟨t1, t2, t3, t4, t5, t6, t7⟩⟩ := zO134_ok hS
  have y0 := zNetB.to hS zNt_141
  have y2 := zNetB.to hS zNt_143
  have y0' := y0
  have y2' := y2
  obtain ⟨-, -, -, yo0⟩ := y0'
  obtain ⟨-, -, -, yo2⟩ := y2'
  apply r_Sorts_settle hO
  unfold B_Sorts_settle
  ((with_reducible refine i_Seq (i_Seq (i_sCall (i_as1 (i_FR (i_A0 ?_)))))); (with_reducible refine i_fldR (by assumption) ?_); (with_reducible refine i_as1 (i_L1 (i_as0 ?_))); (with_reducible refine i_recv0 (by assumption) ?_))
  refine s_Net_clear hO y0 (fun M1 f1 h1 => ⟨rfl, ?_⟩)
  ((with_reducible refine i_Seq (i_sCall (i_as1 (i_FR (i_A0 ?_))))); (with_reducible refine i_fldR (by assumption) ?_); (with_reducible refine i_as1 (i_L1 (i_as0 ?_))); (with_reducible refine i_recv0 (by assumption) ?_))
  refine s_Net_clear hO y2 (fun M2 f2 h2 => ⟨rfl, ?_⟩)
  have fr2 : ∀ b j, ¬ (((141 : Nat) : Int) ≤ b ∧ b ≤ ((144 : Nat) : Int)) → M2 b j = M b j := fun b j q => by rw [f2 b (by simp <;> omega), f1 b (by simp <;> omega)]
  have h12 : zNR M2 141 n (fun _ _ => false) := h1.to (fun b j a1 a2 => by rw [f2 b (by simp <;> omega)])
  clear f1 f2 h1
  have hpt : ∀ Q : Nat → Nat → Bool, zNR M2 141 n (zpt Q n 0 0) := fun Q => h12.ext (fun p q _ _ => (zpt_0 Q n p q).symm)
  have hpt2 : ∀ Q : Nat → Nat → Bool, zNR M2 143 n (zpt Q n 0 0) := fun Q => h2.ext (fun p q _ _ => (zpt_0 Q n p q).symm)
  ((with_reducible refine i_Blk (i_Seq (i_Set (i_I ?_)))); simp only [w_set0, w_set1, w_setn0, w_setn1])
  refine w_ForN n (fun a ρ M' => (∃ l, ρ = ((134 : Nat) : Int) :: ((n : Nat) : Int) :: ((a : Nat) : Int) :: l) ∧ (∀ b j, ¬ (((141 : Nat) : Int) ≤ b ∧ b ≤ ((144 : Nat) : Int)) → M' b j = M b j) ∧ zNR M' 141 n (zpt (zlN n A false) n a 0) ∧ zNR M' 143 n (zpt (zlO n A) n a 0)) ⟨⟨_, rfl⟩, fr2, hpt _, hpt2 _⟩ ?_ ?_
  · rintro a ρ M3 X ha ⟨⟨l, rfl⟩, f3, h3, k3⟩ hX
    ((with_reducible refine i_turn (i_cI_lt (i_L2 (i_L1 ?_)))); (with_reducible refine i_t (by omega) ?_); (with_reducible refine i_Blk (i_Seq (i_Set (i_Add (i_L2 (i_I ?_)))))); rw [zx_inc (by omega)]; simp only [w_set0, w_set1, w_setn0, w_setn1]; rw [w_setT])
    refine w_ForN (n - (a + 1)) (fun d ρ M' => (∃ l, ρ = ((134 : Nat) : Int) :: ((n : Nat) : Int) :: ((a : Nat) : Int) :: ((a + 1 + d : Nat) : Int) :: l) ∧ (∀ b j, ¬ (((141 : Nat) : Int) ≤ b ∧ b ≤ ((144 : Nat) : Int)) → M' b j = M b j) ∧ zNR M' 141 n (zpt (zlN n A false) n a (a + 1 + d)) ∧ zNR M' 143 n (zpt (zlO n A) n a (a + 1 + d))) ⟨⟨_, rfl⟩, f3, h3.ext (fun p q _ _ => zpt_row _ _ _ _ _), k3.ext (fun p q _ _ => zpt_row _ _ _ _ _)⟩ ?_ ?_
    · rintro d ρ M4 X4 hd ⟨⟨l4, rfl⟩, f4, h4, k4⟩ hX4
      have hbn : a + 1 + d < n := by omega
      have hab : a < a + 1 + d := by omega
      have hX5 : ∀ (l : zLoc) (M' : zMem), (∀ b j, ¬ (((141 : Nat) : Int) ≤ b ∧ b ≤ ((144 : Nat) : Int)) → M' b j = M b j) → zNR M' 141 n (zpt (zlN n A false) n a (a + 1 + d + 1)) → zNR M' 143 n (zpt (zlO n A) n a (a + 1 + d + 1)) → X4 (((134 : Nat) : Int) :: ((n : Nat) : Int) :: ((a : Nat) : Int) :: ((a + 1 + d + 1 : Nat) : Int) :: l) M' := fun l M' g1 g2 g3 => hX4 _ _ ⟨⟨l, rfl⟩, g1, g2, g3⟩
      clear hX4
      generalize a + 1 + d = b at hbn hab h4 k4 hX5 ⊢
      -- what a flip, or none, makes of what is done
      have no : ∀ (Q : Nat → Nat → Bool) (y : Nat) (M' : zMem), (∀ p q, Q p q = Q q p) → Q a b = false → zNR M' y n (zpt Q n a b) → zNR M' y n (zpt Q n a (b + 1)) := fun Q y M' hQ hf h => h.ext (fun p q _ _ => (zpt_no hQ hab hbn hf p q).symm)
      have yes : ∀ (Q : Nat → Nat → Bool) (y : Nat) (M' : zMem), (∀ p q, Q p q = Q q p) → Q a b = true → zNR M' y n (zflip (zpt Q n a b) a b) → zNR M' y n (zpt Q n a (b + 1)) := fun Q y M' hQ hf h => h.ext (fun p q _ _ => by
        rw [zpt_su hQ hab hbn, hf, zflip_in]
        have e0 : ∀ p q, (p = a ∧ q = b ∨ p = b ∧ q = a) → zpt Q n a b p q = false := fun p q h => by
          unfold zpt
          rw [decide_eq_false (by omega)]; rfl
        unfold zmu
        by_cases w1 : p = b ∧ q = a
        · rw [if_pos w1, e0 p q (Or.inr w1), decide_eq_true w1]; simp
        · rw [if_neg w1]
          by_cases w2 : p = a ∧ q = b
          · rw [if_pos w2, e0 p q (Or.inl w2), decide_eq_true w2]; simp
          · rw [if_neg w2, decide_eq_false w1, decide_eq_false w2]; simp)
      have gp : M4 ((137 : Nat) : Int) ((16 * a + b : Nat) : Int) = zpv n A a b := (f4 _ _ (by omega)).trans (hP a b (by omega) hbn (by omega))
      rw [show 16 * a + b = a * 16 + b by omega] at gp
      have hlt := zso_lt (s := tS n A a b) (hw.f16 a (by omega)) (hw.f16 b hbn)
      have hin : ∀ op, zlN n A op a b = zlk n A op a b := fun op => by unfold zlN; rw [decide_eq_true ⟨by omega, hbn, by omega⟩, Bool.true_and]
      have hO1 : zlO n A a b = (zlk n A true a b && !zlk n A false a b) := by unfold zlO; rw [hin, hin]
      obtain ⟨g1, g2⟩ := hF _ hlt
      have gf : M4 ((135 : Nat) : Int) ((zplc (zso (tf A) a b (tS n A a b)) : Nat) : Int) = ((tR n A (zso (tf A) a b (tS n A a b)) : Nat) : Int) := (f4 _ _ (by omega)).trans g1
      have gg : M4 ((136 : Nat) : Int) ((zplc (zso (tf A) a b (tS n A a b)) : Nat) : Int) = ((tQ n A (zso (tf A) a b (tS n A a b)) : Nat) : Int) := (f4 _ _ (by omega)).trans g2
      have hsaid : decide (zplc (zso (tf A) a b (tS n A a b)) % 2 = 1) = tS n A a b := by
        have h1 := hw.f16 a (by omega)
        have h2 := hw.f16 b hbn
        rw [Bool.eq_iff_iff, decide_eq_true_eq, zplc_said hlt]
        unfold zso
        cases tS n A a b <;> simp <;> split <;> omega
      have hpl := zplc_lt hlt
      unfold zpv at gp
      have hk1 : ∀ op, zlk n A op a b = (if tvs A a b = 1 then !tS n A a b else if 0 < tQ n A (zso (tf A) a b (tS n A a b)) ∧ tQ n A (zso (tf A) a b (tS n A a b)) < tR n A (zso (tf A) a b (tS n A a b)) then op else if 0 < tQ n A (zso (tf A) a b (tS n A a b)) then !tS n A a b else tS n A a b) := fun op => rfl
      by_cases e : tvs A a b = 1
      · rw [if_pos e] at gp
        simp only [if_pos e] at hk1
        cases hs : tS n A a b
        · rw [hs] at gp hk1
          rw [if_neg (by decide)] at gp
          ((with_reducible refine i_turn (i_cI_lt (i_L3 (i_L1 ?_)))); (with_reducible refine i_t (by omega) ?_); (with_reducible refine i_Blk (i_Seq (i_Set (i_IA (i_FR (i_A0 ?_)))))); (with_reducible refine i_fldR (by assumption) ?_); (with_reducible refine i_Add (i_Mul (i_L2 (i_I (i_L3 ?_))))); rw [zx_mulc (by omega)]; rw [zx_add (by omega)]; (with_reducible refine i_in (by assumption) (by omega) (by omega) ?_); (with_reducible refine i_Seq (i_Set (i_eIf (i_cZ_lt ?_)))); (rw [gp]); simp only [w_set0, w_set1, w_setn0, w_setn1]; rw [w_setT]; (with_reducible refine i_L4 ?_); (with_reducible refine i_t (by omega) ?_); (with_reducible refine i_I (i_Ite (i_cAnd (i_cAnd (i_cNot (i_cZ_ne ?_)))))); simp only [w_set0, w_set1, w_setn0, w_setn1]; rw [w_setT]; (with_reducible refine i_L5 ?_); (with_reducible refine i_t (by omega) ?_); (with_reducible refine i_If (i_cIf (i_cZ_ne (i_L5 ?_)))); (with_reducible refine i_t (by omega) ?_); (with_reducible refine i_cI_eq (i_L4 (i_I ?_))); simp only [w_set0, w_set1, w_setn0, w_setn1]; (with_reducible refine i_t trivial ?_); (with_reducible refine i_sCall (i_as1 (i_FR (i_A0 ?_)))); (with_reducible refine i_fldR (by assumption) ?_); (with_reducible refine i_as1 (i_L2 (i_as1 (i_L3 (i_as0 ?_))))); (with_reducible refine i_recv0 (by assumption) ?_); (refine s_Net_flip hO y0 h4 (show a < 16 by omega) (show b < 16 by omega) (by omega) (fun M5 f5 h5 => ⟨rfl, ?_⟩)); (with_reducible refine i_up (i_Inc3 ?_)); rw [zx_inc (by omega)]; simp only [w_set0, w_set1, w_setn0, w_setn1])
          exact hX5 _ M5 (fun b' j q => by rw [f5 b' (by simp <;> omega)]; exact f4 b' j q) (yes _ _ _ (zlN_s false) (by rw [hin, hk1]; rfl) h5) (no _ _ _ zlO_s (by rw [hO1, hk1, hk1]; rfl) (k4.to (fun b' j a1 a2 => by rw [f5 b' (by simp <;> omega)])))
        · rw [hs] at gp hk1
          rw [if_pos rfl] at gp
          ((with_reducible refine i_turn (i_cI_lt (i_L3 (i_L1 ?_)))); (with_reducible refine i_t (by omega) ?_); (with_reducible refine i_Blk (i_Seq (i_Set (i_IA (i_FR (i_A0 ?_)))))); (with_reducible refine i_fldR (by assumption) ?_); (with_reducible refine i_Add (i_Mul (i_L2 (i_I (i_L3 ?_))))); rw [zx_mulc (by omega)]; rw [zx_add (by omega)]; (with_reducible refine i_in (by assumption) (by omega) (by omega) ?_); (with_reducible refine i_Seq (i_Set (i_eIf (i_cZ_lt ?_)))); (rw [gp]); simp only [w_set0, w_set1, w_setn0, w_setn1]; rw [w_setT]; (with_reducible refine i_L4 ?_); (with_reducible refine i_t (by omega) ?_); (with_reducible refine i_I (i_Ite (i_cAnd (i_cAnd (i_cNot (i_cZ_ne ?_)))))); simp only [w_set0, w_set1, w_setn0, w_setn1]; rw [w_setT]; (with_reducible refine i_L5 ?_); (with_reducible refine i_t (by omega) ?_); (with_reducible refine i_If (i_cIf (i_cZ_ne (i_L5 ?_)))); (with_reducible refine i_t (by omega) ?_); (with_reducible refine i_cI_eq (i_L4 (i_I ?_))); (with_reducible refine i_f (by omega) ?_); (with_reducible refine i_up (i_Inc3 ?_)); rw [zx_inc (by omega)]; simp only [w_set0, w_set1, w_setn0, w_setn1])
          exact hX5 _ M4 f4 (no _ _ _ (zlN_s false) (by rw [hin, hk1]; rfl) h4) (no _ _ _ zlO_s (by rw [hO1, hk1, hk1]; rfl) k4)
      · rw [if_neg e] at gp
        simp only [if_neg e] at hk1
        have hRQ := tQ_R n A (zso (tf A) a b (tS n A a b))
        generalize tR n A (zso (tf A) a b (tS n A a b)) = R at gf hk1 hRQ
        generalize tQ n A (zso (tf A) a b (tS n A a b)) = C at gg hk1 hRQ
        generalize zplc (zso (tf A) a b (tS n A a b)) = pl at gp gf gg hsaid hpl
        by_cases c1 : 0 < C ∧ C < R
        · simp only [if_pos c1] at hk1
          obtain ⟨c2, c3⟩ := c1
          ((with_reducible refine i_turn (i_cI_lt (i_L3 (i_L1 ?_)))); (with_reducible refine i_t (by omega) ?_); (with_reducible refine i_Blk (i_Seq (i_Set (i_IA (i_FR (i_A0 ?_)))))); (with_reducible refine i_fldR (by assumption) ?_); (with_reducible refine i_Add (i_Mul (i_L2 (i_I (i_L3 ?_))))); rw [zx_mulc (by omega)]; rw [zx_add (by omega)]; (with_reducible refine i_in (by assumption) (by omega) (by omega) ?_); (with_reducible refine i_Seq (i_Set (i_eIf (i_cZ_lt ?_)))); (rw [gp]); simp only [w_set0, w_set1, w_setn0, w_setn1]; rw [w_setT]; (with_reducible refine i_L4 ?_); (with_reducible refine i_f (by omega) ?_); (with_reducible refine i_I (i_Ite (i_cAnd (i_cAnd (i_cNot (i_cZ_ne ?_)))))); simp only [w_set0, w_set1, w_setn0, w_setn1]; rw [w_setT]; (with_reducible refine i_L5 ?_); (with_reducible refine i_f (by omega) ?_); (with_reducible refine i_cZ_gt (i_IA (i_FR (i_A0 ?_)))); (with_reducible refine i_fldR (by assumption) ?_); (with_reducible refine i_L4 ?_); (with_reducible refine i_in (by assumption) (by omega) (by omega) ?_); (rw [gg]); (with_reducible refine i_t (by omega) ?_); (with_reducible refine i_cI_lt (i_IA (i_FR (i_A0 ?_)))); (with_reducible refine i_fldR (by assumption) ?_); (with_reducible refine i_L4 ?_); (with_reducible refine i_in (by assumption) (by omega) (by omega) ?_); (with_reducible refine i_IA (i_FR (i_A0 ?_))); (with_reducible refine i_fldR (by assumption) ?_); (with_reducible refine i_L4 ?_); (with_reducible refine i_in (by assumption) (by omega) (by omega) ?_); (rw [gf]); (rw [gg]); (with_reducible refine i_t (by omega) ?_); (with_reducible refine i_sCall (i_as1 (i_FR (i_A0 ?_)))); (with_reducible refine i_fldR (by assumption) ?_); (with_reducible refine i_as1 (i_L2 (i_as1 (i_L3 (i_as0 ?_))))); (with_reducible refine i_recv0 (by assumption) ?_); (refine s_Net_flip hO y2 k4 (show a < 16 by omega) (show b < 16 by omega) (by omega) (fun M5 f5 h5 => ⟨rfl, ?_⟩)); (with_reducible refine i_up (i_Inc3 ?_)); rw [zx_inc (by omega)]; simp only [w_set0, w_set1, w_setn0, w_setn1])
          exact hX5 _ M5 (fun b' j q => by rw [f5 b' (by simp <;> omega)]; exact f4 b' j q) (no _ _ _ (zlN_s false) (by rw [hin, hk1]) (h4.to (fun b' j a1 a2 => by rw [f5 b' (by simp <;> omega)]))) (yes _ _ _ zlO_s (by rw [hO1, hk1, hk1]; rfl) h5)
        · simp only [if_neg c1] at hk1
          by_cases c2 : 0 < C
          · simp only [if_pos c2] at hk1
            have c3 : ¬ C < R := fun z => c1 ⟨c2, z⟩
            cases hs : tS n A a b
            · rw [hs] at hk1 hsaid
              ((with_reducible refine i_turn (i_cI_lt (i_L3 (i_L1 ?_)))); (with_reducible refine i_t (by omega) ?_); (with_reducible refine i_Blk (i_Seq (i_Set (i_IA (i_FR (i_A0 ?_)))))); (with_reducible refine i_fldR (by assumption) ?_); (with_reducible refine i_Add (i_Mul (i_L2 (i_I (i_L3 ?_))))); rw [zx_mulc (by omega)]; rw [zx_add (by omega)]; (with_reducible refine i_in (by assumption) (by omega) (by omega) ?_); (with_reducible refine i_Seq (i_Set (i_eIf (i_cZ_lt ?_)))); (rw [gp]); simp only [w_set0, w_set1, w_setn0, w_setn1]; rw [w_setT]; (with_reducible refine i_L4 ?_); (with_reducible refine i_f (by omega) ?_); (with_reducible refine i_I (i_Ite (i_cAnd (i_cAnd (i_cNot (i_cZ_ne ?_)))))); simp only [w_set0, w_set1, w_setn0, w_setn1]; rw [w_setT]; (with_reducible refine i_L5 ?_); (with_reducible refine i_f (by omega) ?_); (with_reducible refine i_cZ_gt (i_IA (i_FR (i_A0 ?_)))); (with_reducible refine i_fldR (by assumption) ?_); (with_reducible refine i_L4 ?_); (with_reducible refine i_in (by assumption) (by omega) (by omega) ?_); (rw [gg]); (with_reducible refine i_t (by omega) ?_); (with_reducible refine i_cI_lt (i_IA (i_FR (i_A0 ?_)))); (with_reducible refine i_fldR (by assumption) ?_); (with_reducible refine i_L4 ?_); (with_reducible refine i_in (by assumption) (by omega) (by omega) ?_); (with_reducible refine i_IA (i_FR (i_A0 ?_))); (with_reducible refine i_fldR (by assumption) ?_); (with_reducible refine i_L4 ?_); (with_reducible refine i_in (by assumption) (by omega) (by omega) ?_); (rw [gf]); (rw [gg]); (with_reducible refine i_f (by omega) ?_); (with_reducible refine i_If (i_cIf (i_cZ_ne (i_L5 ?_)))); (with_reducible refine i_f (by omega) ?_); (with_reducible refine i_cI_eq (i_Call (i_as1 (i_L4 (i_as0 (i_recv1 ?_)))))); (refine c_isSaid hO hpl ⟨_, rfl, ?_⟩); (with_reducible refine i_eIf (i_cZ_eq (i_IA (i_FR (i_A0 ?_))))); (with_reducible refine i_fldR (by assumption) ?_); (with_reducible refine i_L4 ?_); (with_reducible refine i_in (by assumption) (by omega) (by omega) ?_); (rw [gg]); (rw [hsaid]); rw [zbI_f]; (with_reducible refine i_f (by omega) ?_); (with_reducible refine i_I ?_); simp only [w_set0, w_set1, w_setn0, w_setn1]; (with_reducible refine i_t trivial ?_); (with_reducible refine i_sCall (i_as1 (i_FR (i_A0 ?_)))); (with_reducible refine i_fldR (by assumption) ?_); (with_reducible refine i_as1 (i_L2 (i_as1 (i_L3 (i_as0 ?_))))); (with_reducible refine i_recv0 (by assumption) ?_); (refine s_Net_flip hO y0 h4 (show a < 16 by omega) (show b < 16 by omega) (by omega) (fun M5 f5 h5 => ⟨rfl, ?_⟩)); (with_reducible refine i_up (i_Inc3 ?_)); rw [zx_inc (by omega)]; simp only [w_set0, w_set1, w_setn0, w_setn1])
              exact hX5 _ M5 (fun b' j q => by rw [f5 b' (by simp <;> omega)]; exact f4 b' j q) (yes _ _ _ (zlN_s false) (by rw [hin, hk1]; rfl) h5) (no _ _ _ zlO_s (by rw [hO1, hk1, hk1]; rfl) (k4.to (fun b' j a1 a2 => by rw [f5 b' (by simp <;> omega)])))
            · rw [hs] at hk1 hsaid
              ((with_reducible refine i_turn (i_cI_lt (i_L3 (i_L1 ?_)))); (with_reducible refine i_t (by omega) ?_); (with_reducible refine i_Blk (i_Seq (i_Set (i_IA (i_FR (i_A0 ?_)))))); (with_reducible refine i_fldR (by assumption) ?_); (with_reducible refine i_Add (i_Mul (i_L2 (i_I (i_L3 ?_))))); rw [zx_mulc (by omega)]; rw [zx_add (by omega)]; (with_reducible refine i_in (by assumption) (by omega) (by omega) ?_); (with_reducible refine i_Seq (i_Set (i_eIf (i_cZ_lt ?_)))); (rw [gp]); simp only [w_set0, w_set1, w_setn0, w_setn1]; rw [w_setT]; (with_reducible refine i_L4 ?_); (with_reducible refine i_f (by omega) ?_); (with_reducible refine i_I (i_Ite (i_cAnd (i_cAnd (i_cNot (i_cZ_ne ?_)))))); simp only [w_set0, w_set1, w_setn0, w_setn1]; rw [w_setT]; (with_reducible refine i_L5 ?_); (with_reducible refine i_f (by omega) ?_); (with_reducible refine i_cZ_gt (i_IA (i_FR (i_A0 ?_)))); (with_reducible refine i_fldR (by assumption) ?_); (with_reducible refine i_L4 ?_); (with_reducible refine i_in (by assumption) (by omega) (by omega) ?_); (rw [gg]); (with_reducible refine i_t (by omega) ?_); (with_reducible refine i_cI_lt (i_IA (i_FR (i_A0 ?_)))); (with_reducible refine i_fldR (by assumption) ?_); (with_reducible refine i_L4 ?_); (with_reducible refine i_in (by assumption) (by omega) (by omega) ?_); (with_reducible refine i_IA (i_FR (i_A0 ?_))); (with_reducible refine i_fldR (by assumption) ?_); (with_reducible refine i_L4 ?_); (with_reducible refine i_in (by assumption) (by omega) (by omega) ?_); (rw [gf]); (rw [gg]); (with_reducible refine i_f (by omega) ?_); (with_reducible refine i_If (i_cIf (i_cZ_ne (i_L5 ?_)))); (with_reducible refine i_f (by omega) ?_); (with_reducible refine i_cI_eq (i_Call (i_as1 (i_L4 (i_as0 (i_recv1 ?_)))))); (refine c_isSaid hO hpl ⟨_, rfl, ?_⟩); (with_reducible refine i_eIf (i_cZ_eq (i_IA (i_FR (i_A0 ?_))))); (with_reducible refine i_fldR (by assumption) ?_); (with_reducible refine i_L4 ?_); (with_reducible refine i_in (by assumption) (by omega) (by omega) ?_); (rw [gg]); (rw [hsaid]); rw [zbI_t]; (with_reducible refine i_f (by omega) ?_); (with_reducible refine i_I ?_); (with_reducible refine i_f (by omega) ?_); (with_reducible refine i_up (i_Inc3 ?_)); rw [zx_inc (by omega)]; simp only [w_set0, w_set1, w_setn0, w_setn1])
              exact hX5 _ M4 f4 (no _ _ _ (zlN_s false) (by rw [hin, hk1]; rfl) h4) (no _ _ _ zlO_s (by rw [hO1, hk1, hk1]; rfl) k4)
          · simp only [if_neg c2] at hk1
            have c3 : C = 0 := by omega
            subst c3
            cases hs : tS n A a b
            · rw [hs] at hk1 hsaid
              ((with_reducible refine i_turn (i_cI_lt (i_L3 (i_L1 ?_)))); (with_reducible refine i_t (by omega) ?_); (with_reducible refine i_Blk (i_Seq (i_Set (i_IA (i_FR (i_A0 ?_)))))); (with_reducible refine i_fldR (by assumption) ?_); (with_reducible refine i_Add (i_Mul (i_L2 (i_I (i_L3 ?_))))); rw [zx_mulc (by omega)]; rw [zx_add (by omega)]; (with_reducible refine i_in (by assumption) (by omega) (by omega) ?_); (with_reducible refine i_Seq (i_Set (i_eIf (i_cZ_lt ?_)))); (rw [gp]); simp only [w_set0, w_set1, w_setn0, w_setn1]; rw [w_setT]; (with_reducible refine i_L4 ?_); (with_reducible refine i_f (by omega) ?_); (with_reducible refine i_I (i_Ite (i_cAnd (i_cAnd (i_cNot (i_cZ_ne ?_)))))); simp only [w_set0, w_set1, w_setn0, w_setn1]; rw [w_setT]; (with_reducible refine i_L5 ?_); (with_reducible refine i_f (by omega) ?_); (with_reducible refine i_cZ_gt (i_IA (i_FR (i_A0 ?_)))); (with_reducible refine i_fldR (by assumption) ?_); (with_reducible refine i_L4 ?_); (with_reducible refine i_in (by assumption) (by omega) (by omega) ?_); (rw [gg]); (with_reducible refine i_f (by omega) ?_); (with_reducible refine i_If (i_cIf (i_cZ_ne (i_L5 ?_)))); (with_reducible refine i_f (by omega) ?_); (with_reducible refine i_cI_eq (i_Call (i_as1 (i_L4 (i_as0 (i_recv1 ?_)))))); (refine c_isSaid hO hpl ⟨_, rfl, ?_⟩); (with_reducible refine i_eIf (i_cZ_eq (i_IA (i_FR (i_A0 ?_))))); (with_reducible refine i_fldR (by assumption) ?_); (with_reducible refine i_L4 ?_); (with_reducible refine i_in (by assumption) (by omega) (by omega) ?_); (rw [gg]); (rw [hsaid]); rw [zbI_f]; (with_reducible refine i_t (by omega) ?_); (with_reducible refine i_I ?_); (with_reducible refine i_f (by omega) ?_); (with_reducible refine i_up (i_Inc3 ?_)); rw [zx_inc (by omega)]; simp only [w_set0, w_set1, w_setn0, w_setn1])
              exact hX5 _ M4 f4 (no _ _ _ (zlN_s false) (by rw [hin, hk1]) h4) (no _ _ _ zlO_s (by rw [hO1, hk1, hk1]; rfl) k4)
            · rw [hs] at hk1 hsaid
              ((with_reducible refine i_turn (i_cI_lt (i_L3 (i_L1 ?_)))); (with_reducible refine i_t (by omega) ?_); (with_reducible refine i_Blk (i_Seq (i_Set (i_IA (i_FR (i_A0 ?_)))))); (with_reducible refine i_fldR (by assumption) ?_); (with_reducible refine i_Add (i_Mul (i_L2 (i_I (i_L3 ?_))))); rw [zx_mulc (by omega)]; rw [zx_add (by omega)]; (with_reducible refine i_in (by assumption) (by omega) (by omega) ?_); (with_reducible refine i_Seq (i_Set (i_eIf (i_cZ_lt ?_)))); (rw [gp]); simp only [w_set0, w_set1, w_setn0, w_setn1]; rw [w_setT]; (with_reducible refine i_L4 ?_); (with_reducible refine i_f (by omega) ?_); (with_reducible refine i_I (i_Ite (i_cAnd (i_cAnd (i_cNot (i_cZ_ne ?_)))))); simp only [w_set0, w_set1, w_setn0, w_setn1]; rw [w_setT]; (with_reducible refine i_L5 ?_); (with_reducible refine i_f (by omega) ?_); (with_reducible refine i_cZ_gt (i_IA (i_FR (i_A0 ?_)))); (with_reducible refine i_fldR (by assumption) ?_); (with_reducible refine i_L4 ?_); (with_reducible refine i_in (by assumption) (by omega) (by omega) ?_); (rw [gg]); (with_reducible refine i_f (by omega) ?_); (with_reducible refine i_If (i_cIf (i_cZ_ne (i_L5 ?_)))); (with_reducible refine i_f (by omega) ?_); (with_reducible refine i_cI_eq (i_Call (i_as1 (i_L4 (i_as0 (i_recv1 ?_)))))); (refine c_isSaid hO hpl ⟨_, rfl, ?_⟩); (with_reducible refine i_eIf (i_cZ_eq (i_IA (i_FR (i_A0 ?_))))); (with_reducible refine i_fldR (by assumption) ?_); (with_reducible refine i_L4 ?_); (with_reducible refine i_in (by assumption) (by omega) (by omega) ?_); (rw [gg]); (rw [hsaid]); rw [zbI_t]; (with_reducible refine i_t (by omega) ?_); (with_reducible refine i_I ?_); simp only [w_set0, w_set1, w_setn0, w_setn1]; (with_reducible refine i_t trivial ?_); (with_reducible refine i_sCall (i_as1 (i_FR (i_A0 ?_)))); (with_reducible refine i_fldR (by assumption) ?_); (with_reducible refine i_as1 (i_L2 (i_as1 (i_L3 (i_as0 ?_))))); (with_reducible refine i_recv0 (by assumption) ?_); (refine s_Net_flip hO y0 h4 (show a < 16 by omega) (show b < 16 by omega) (by omega) (fun M5 f5 h5 => ⟨rfl, ?_⟩)); (with_reducible refine i_up (i_Inc3 ?_)); rw [zx_inc (by omega)]; simp only [w_set0, w_set1, w_setn0, w_setn1])
              exact hX5 _ M5 (fun b' j q => by rw [f5 b' (by simp <;> omega)]; exact f4 b' j q) (yes _ _ _ (zlN_s false) (by rw [hin, hk1]) h5) (no _ _ _ zlO_s (by rw [hO1, hk1, hk1]; rfl) (k4.to (fun b' j a1 a2 => by rw [f5 b' (by simp <;> omega)])))
    · rintro ρ M4 X4 ⟨⟨l4, rfl⟩, f4, h4, k4⟩
      rw [show a + 1 + (n - (a + 1)) = n by omega] at h4 k4 ⊢
      ((with_reducible refine i_turn (i_cI_lt (i_L3 (i_L1 ?_)))); (with_reducible refine i_f (by omega) ?_); (with_reducible refine i_up (i_Inc2 ?_)); rw [zx_inc (by omega)]; simp only [w_set0, w_set1, w_setn0, w_setn1])
      exact hX _ _ ⟨⟨_, rfl⟩, f4, h4.ext (fun p q _ _ => zpt_nx _ _ _ _ _), k4.ext (fun p q _ _ => zpt_nx _ _ _ _ _)⟩
  · rintro ρ M3 X ⟨⟨l, rfl⟩, f3, h3, k3⟩
    ((with_reducible refine i_turn (i_cI_lt (i_L2 (i_L1 ?_)))); (with_reducible refine i_f (by omega) ?_); (with_reducible refine i_RetV ?_))
    refine hk M3 f3 (h3.ext (fun p q _ _ => ?_)) (k3.ext (fun p q _ _ => ?_))
    · rw [zpt_end]
      unfold zlN
      cases decide (p < n ∧ q < n ∧ p ≠ q) <;> rfl
    · rw [zpt_end]
      unfold zlO zlN
      cases decide (p < n ∧ q < n ∧ p ≠ q) <;> rfl
theorem c_take {O : zOm} (hO : zWld O) (hS : zS O = zmS zC0) {x n : Nat} {A : zTl} {M : zMem} {K : Option zV → zMem → Prop} (hx : zTeC (zS O) x) (hx7 : 148 < x) (hA : zTR M x n A) (hn2 : n ≤ 16) (hw : zTw n A) (hC : cSo M)
    (hk : ∀ M', (∀ b j, ¬ (b = ((134 : Nat) : Int) ∧ j = 6 ∨ ((135 : Nat) : Int) ≤ b ∧ b ≤ ((137 : Nat) : Int) ∨ b = ((139 : Nat) : Int) ∨ ((141 : Nat) : Int) ≤ b ∧ b ≤ ((144 : Nat) : Int)) → M' b j = M b j) → cTk M' n A → K none M') : zR O F_Sorts_take [(2, ((134 : Nat) : Int)), (2, ((x : Nat) : Int))] M K := by
  obtain ⟨⟨s0, s1, s2, s3, s4, s5, s6, s7, s8⟩, ⟨s9, s10, s11, s12, s13⟩, ⟨t1, t2, t3, t4, t5, t6, t7⟩⟩ := zO134_ok hS
  have hx0 := hx
  obtain ⟨⟨x0, x1, x2, x3, x4, x5, x6, x7⟩, ⟨xa, xb⟩, hQ0, ⟨hs7, hs9, hs11⟩⟩ := hx
  have hQ := hQ0
  obtain ⟨q0, q1, q2, q3, q4, q5, q6, q7, q8⟩ := hQ
  have hs7' := hs7
  have hs9' := hs9
  have hs11' := hs11
  obtain ⟨-, -, -, o7⟩ := hs7'
  obtain ⟨-, -, -, o9⟩ := hs9'
  obtain ⟨-, -, -, o11⟩ := hs11'
  obtain ⟨hM, hrow, hwd, hsd, hex, hlf⟩ := hA
  have gn := hM.1
  have hask := hC.2
  apply r_Sorts_take hO
  unfold B_Sorts_take
  ((with_reducible refine i_Seq (i_Seq (i_sCall (i_as1 (i_A0 (i_as0 ?_)))))); (with_reducible refine i_recv0 (by assumption) ?_))
  refine c_forget hO hS hC (fun M1 f1 u1 z1 => ⟨rfl, ?_⟩)
  have gn1 : M1 ((x + 1 : Nat) : Int) ((3 : Nat) : Int) = ((n : Nat) : Int) := (f1 _ _ (by omega)).trans gn
  ((with_reducible refine i_Seq (i_Set (i_F (i_FR (i_A1 ?_))))); (with_reducible refine i_fldR (by assumption) ?_); (with_reducible refine i_fld (by assumption) ?_); (with_reducible refine i_Seq (i_Blk (i_Seq (i_Set (i_I ?_))))); (rw [gn1]); simp only [w_set0, w_set1, w_setn0, w_setn1])
  have I0 : ∀ a b : Nat, (∀ k, zop (tgR n A k) n a b = 0 ∧ zop (tgC n A k) n a b = 0) → True := fun _ _ _ => trivial
  clear I0
  refine w_ForN n (fun a ρ M' => (∃ l, ρ = ((134 : Nat) : Int) :: ((x : Nat) : Int) :: ((n : Nat) : Int) :: ((a : Nat) : Int) :: l) ∧ (∀ b j, ¬ (b = ((134 : Nat) : Int) ∧ j = 6 ∨ ((135 : Nat) : Int) ≤ b ∧ b ≤ ((137 : Nat) : Int) ∨ b = ((139 : Nat) : Int)) → M' b j = M b j) ∧ (∀ k : Nat, k < 512 → M' ((135 : Nat) : Int) ((zplc k : Nat) : Int) = ((zop (tgR n A k) n a 0 : Nat) : Int) ∧ M' ((136 : Nat) : Int) ((zplc k : Nat) : Int) = ((zop (tgC n A k) n a 0 : Nat) : Int)) ∧ (∃ (c : Nat) (U : Nat → Nat), M' ((134 : Nat) : Int) ((6 : Nat) : Int) = ((c : Nat) : Int) ∧ c ≤ zop (fun _ _ => true) n a 0 ∧ (∀ i : Nat, i < c → M' ((139 : Nat) : Int) ((i : Nat) : Int) = ((zplc (U i) : Nat) : Int) ∧ U i < 512) ∧ (∀ i j, i < j → j < c → U i ≠ U j) ∧ (∀ i, i < c → zop (tgR n A (U i)) n a 0 ≠ 0) ∧ ∀ k : Nat, k < 512 → (∀ i, i < c → U i ≠ k) → zop (tgR n A k) n a 0 = 0) ∧ ∀ p q : Nat, ((p < q ∧ q < n ∧ p < a) ∨ (q < p ∧ p < n ∧ q < a)) → M' ((137 : Nat) : Int) ((16 * p + q : Nat) : Int) = zpv n A p q) ⟨⟨_, rfl⟩, fun b j q => f1 b j (by omega), fun k hk1 => z1 _ (zplc_lt hk1), ⟨0, fun _ => 0, u1, Nat.le_refl _, fun i hi => absurd hi (Nat.not_lt_zero _), fun i j _ hj => absurd hj (Nat.not_lt_zero _), fun i hi => absurd hi (Nat.not_lt_zero _), fun k _ _ => rfl⟩, fun p q h => absurd h (by omega)⟩ ?_ ?_
  · rintro a ρ M2 X ha ⟨⟨l, rfl⟩, f2, z2, ⟨c, U, w1, w2, w3, w4, w5, w6⟩, p2⟩ hX
    ((with_reducible refine i_turn (i_cI_lt (i_L3 (i_L2 ?_)))); (with_reducible refine i_t (by omega) ?_); (with_reducible refine i_Blk (i_Seq (i_Set (i_Add (i_L3 (i_I ?_)))))); rw [zx_inc (by omega)]; simp only [w_set0, w_set1, w_setn0, w_setn1]; rw [w_setT])
    refine w_ForN (n - (a + 1)) (fun d ρ M' => (∃ l, ρ = ((134 : Nat) : Int) :: ((x : Nat) : Int) :: ((n : Nat) : Int) :: ((a : Nat) : Int) :: ((a + 1 + d : Nat) : Int) :: l) ∧ (∀ b j, ¬ (b = ((134 : Nat) : Int) ∧ j = 6 ∨ ((135 : Nat) : Int) ≤ b ∧ b ≤ ((137 : Nat) : Int) ∨ b = ((139 : Nat) : Int)) → M' b j = M b j) ∧ (∀ k : Nat, k < 512 → M' ((135 : Nat) : Int) ((zplc k : Nat) : Int) = ((zop (tgR n A k) n a (a + 1 + d) : Nat) : Int) ∧ M' ((136 : Nat) : Int) ((zplc k : Nat) : Int) = ((zop (tgC n A k) n a (a + 1 + d) : Nat) : Int)) ∧ (∃ (c : Nat) (U : Nat → Nat), M' ((134 : Nat) : Int) ((6 : Nat) : Int) = ((c : Nat) : Int) ∧ c ≤ zop (fun _ _ => true) n a (a + 1 + d) ∧ (∀ i : Nat, i < c → M' ((139 : Nat) : Int) ((i : Nat) : Int) = ((zplc (U i) : Nat) : Int) ∧ U i < 512) ∧ (∀ i j, i < j → j < c → U i ≠ U j) ∧ (∀ i, i < c → zop (tgR n A (U i)) n a (a + 1 + d) ≠ 0) ∧ ∀ k : Nat, k < 512 → (∀ i, i < c → U i ≠ k) → zop (tgR n A k) n a (a + 1 + d) = 0) ∧ ∀ p q : Nat, ((p < q ∧ q < n ∧ (p < a ∨ p = a ∧ q < a + 1 + d)) ∨ (q < p ∧ p < n ∧ (q < a ∨ q = a ∧ p < a + 1 + d))) → M' ((137 : Nat) : Int) ((16 * p + q : Nat) : Int) = zpv n A p q) ⟨⟨_, rfl⟩, f2, fun k hk1 => by rw [← zop_row, ← zop_row]; exact z2 k hk1, ⟨c, U, w1, by rw [← zop_row]; exact w2, w3, w4, fun i hi => by rw [← zop_row]; exact w5 i hi, fun k hk1 hn => by rw [← zop_row]; exact w6 k hk1 hn⟩, fun p q h => p2 p q (by omega)⟩ ?_ ?_
    · clear w1 w2 w3 w4 w5 w6 z2 p2 f2
      clear U c
      rintro d ρ M3 X3 hd ⟨⟨l3, rfl⟩, f3, z3, ⟨c, U, w1, w2, w3, w4, w5, w6⟩, p3⟩ hX3
      have hbn : a + 1 + d < n := by omega
      have hab : a < a + 1 + d := by omega
      have hX4 : ∀ (l : zLoc) (M' : zMem), (∀ b j, ¬ (b = ((134 : Nat) : Int) ∧ j = 6 ∨ ((135 : Nat) : Int) ≤ b ∧ b ≤ ((137 : Nat) : Int) ∨ b = ((139 : Nat) : Int)) → M' b j = M b j) → (∀ k : Nat, k < 512 → M' ((135 : Nat) : Int) ((zplc k : Nat) : Int) = ((zop (tgR n A k) n a (a + 1 + d + 1) : Nat) : Int) ∧ M' ((136 : Nat) : Int) ((zplc k : Nat) : Int) = ((zop (tgC n A k) n a (a + 1 + d + 1) : Nat) : Int)) → (∃ (c : Nat) (U : Nat → Nat), M' ((134 : Nat) : Int) ((6 : Nat) : Int) = ((c : Nat) : Int) ∧ c ≤ zop (fun _ _ => true) n a (a + 1 + d + 1) ∧ (∀ i : Nat, i < c → M' ((139 : Nat) : Int) ((i : Nat) : Int) = ((zplc (U i) : Nat) : Int) ∧ U i < 512) ∧ (∀ i j, i < j → j < c → U i ≠ U j) ∧ (∀ i, i < c → zop (tgR n A (U i)) n a (a + 1 + d + 1) ≠ 0) ∧ ∀ k : Nat, k < 512 → (∀ i, i < c → U i ≠ k) → zop (tgR n A k) n a (a + 1 + d + 1) = 0) → (∀ p q : Nat, ((p < q ∧ q < n ∧ (p < a ∨ p = a ∧ q < a + 1 + d + 1)) ∨ (q < p ∧ p < n ∧ (q < a ∨ q = a ∧ p < a + 1 + d + 1))) → M' ((137 : Nat) : Int) ((16 * p + q : Nat) : Int) = zpv n A p q) → X3 (((134 : Nat) : Int) :: ((x : Nat) : Int) :: ((n : Nat) : Int) :: ((a : Nat) : Int) :: ((a + 1 + d + 1 : Nat) : Int) :: l) M' := fun l M' g1 g2 g3 g4 => hX3 _ _ ⟨⟨l, rfl⟩, g1, g2, g3, g4⟩
      clear hX3
      generalize a + 1 + d = b at hbn hab z3 w2 w5 w6 p3 hX4 ⊢
      have hfew := zop_few hn2 hab hbn
      have hctr := zop_su (fun _ _ => true) (n := n) hab
      rw [if_pos rfl] at hctr
      have hM3 : zPR M3 (x + 1) n (tf A) (tm A) := zPR.fr hM (fun b' j a1 a2 => f3 b' j (by omega))
      have hsd3 : zNR M3 (x + 7) n (tS n A) := hsd.to (fun b' j a1 a2 => f3 b' j (by omega))
      have hex3 := zNR.to (M' := M3) hex (fun b' j a1 a2 => f3 b' j (by omega))
      have hlf3 := zNR.to (M' := M3) hlf (fun b' j a1 a2 => f3 b' j (by omega))
      have hlt := zso_lt (s := tS n A a b) (hw.f16 a (by omega)) (hw.f16 b hbn)
      have hpl := zplc_lt hlt
      have hR : ∀ k, zop (tgR n A k) n a (b + 1) = zop (tgR n A k) n a b + (if zso (tf A) a b (tS n A a b) = k ∧ tv A a b ≠ 1 then 1 else 0) := fun k => by rw [zop_su _ hab]; unfold tgR; simp only [decide_eq_true_eq]
      have hCC : ∀ k, zop (tgC n A k) n a (b + 1) = zop (tgC n A k) n a b + (if zso (tf A) a b (tS n A a b) = k ∧ tv A a b = 2 then 1 else 0) := fun k => by rw [zop_su _ hab]; unfold tgC; simp only [decide_eq_true_eq]
      have hpv : zpv n A a b = if tv A a b = 1 then (if tS n A a b = true then -1 else -2) else ((zplc (zso (tf A) a b (tS n A a b)) : Nat) : Int) := by unfold zpv; rw [tvs_lt hab]
      have hv := hw.2.2.2.2 a b
      have hpo := fun (M' : zMem) (K' : Option zV → zMem → Prop) (g : zPR M' (x + 1) n (tf A) (tm A)) (z : K' (some (0, ((zplc (zso (tf A) a b (tS n A a b)) : Nat) : Int))) M') => c_placeOf hO hx0 (s := tS n A a b) g hw.f16 (show a < n by omega) hbn hn2 (K := K') z
      have hjl := fun (K' : Option zV → zMem → Prop) (z : K' (some (0, zbI (decide (tvs A a b = 2)))) M3) => s_joins hO hs11 hlf3 (show a < 16 by omega) (show b < 16 by omega) (K := K') z
      have hje := fun (K' : Option zV → zMem → Prop) (z : K' (some (0, zbI (decide (tvs A a b ≠ 0)))) M3) => s_joins hO hs9 hex3 (show a < 16 by omega) (show b < 16 by omega) (K := K') z
      rw [tvs_lt hab] at hjl hje
      -- places are kept behind it
      have tail : ∀ (l : zLoc) (M4 : zMem) (v : Int), v = zpv n A a b → (∀ b j, ¬ (b = ((134 : Nat) : Int) ∧ j = 6 ∨ ((135 : Nat) : Int) ≤ b ∧ b ≤ ((136 : Nat) : Int) ∨ b = ((139 : Nat) : Int)) → M4 b j = M3 b j) → (∀ k : Nat, k < 512 → M4 ((135 : Nat) : Int) ((zplc k : Nat) : Int) = ((zop (tgR n A k) n a (b + 1) : Nat) : Int) ∧ M4 ((136 : Nat) : Int) ((zplc k : Nat) : Int) = ((zop (tgC n A k) n a (b + 1) : Nat) : Int)) → (∃ (c : Nat) (U : Nat → Nat), M4 ((134 : Nat) : Int) ((6 : Nat) : Int) = ((c : Nat) : Int) ∧ c ≤ zop (fun _ _ => true) n a (b + 1) ∧ (∀ i : Nat, i < c → M4 ((139 : Nat) : Int) ((i : Nat) : Int) = ((zplc (U i) : Nat) : Int) ∧ U i < 512) ∧ (∀ i j, i < j → j < c → U i ≠ U j) ∧ (∀ i, i < c → zop (tgR n A (U i)) n a (b + 1) ≠ 0) ∧ ∀ k : Nat, k < 512 → (∀ i, i < c → U i ≠ k) → zop (tgR n A k) n a (b + 1) = 0) → X3 (((134 : Nat) : Int) :: ((x : Nat) : Int) :: ((n : Nat) : Int) :: ((a : Nat) : Int) :: ((b + 1 : Nat) : Int) :: l) (zput (zput M4 ((137 : Nat) : Int) (zup (M4 ((137 : Nat) : Int)) ((a * 16 + b : Nat) : Int) v)) ((137 : Nat) : Int) (zup ((zput M4 ((137 : Nat) : Int) (zup (M4 ((137 : Nat) : Int)) ((a * 16 + b : Nat) : Int) v)) ((137 : Nat) : Int)) ((b * 16 + a : Nat) : Int) v)) := by
        intro l M4 v hv4 f4 z4 ⟨c4, U4, w41, w42, w43, w44, w45, w46⟩
        subst hv4
        refine hX4 l _ (fun b' j q => by rw [zg_n _ _ _ (by omega), zg_n _ _ _ (by omega), f4 b' j (by omega)]; exact f3 b' j q) (fun k hk1 => ?_) ⟨c4, U4, ?_, w42, fun i hi => ?_, w44, w45, w46⟩ (fun p q h => ?_)
        · rw [zg_n _ _ _ (by omega), zg_n _ _ _ (by omega), zg_n _ _ _ (by omega), zg_n _ _ _ (by omega)]; exact z4 k hk1
        · rw [zg_n _ _ _ (by omega), zg_n _ _ _ (by omega)]; exact w41
        · rw [zg_n _ _ _ (by omega), zg_n _ _ _ (by omega)]; exact w43 i hi
        · by_cases e1 : p = a ∧ q = b
          · rw [e1.1, e1.2, show 16 * a + b = a * 16 + b by omega, zg_m _ _ _ _ _ (by omega), zg_s]
          · by_cases e2 : p = b ∧ q = a
            · rw [e2.1, e2.2, show 16 * b + a = b * 16 + a by omega, zg_s, zpv_s]
            · rw [zg_m _ _ _ _ _ (by omega), zg_m _ _ _ _ _ (by omega), f4 _ _ (by omega)]
              exact p3 p q (by omega)
      clear hX4
      by_cases e : tv A a b = 1
      · rw [e] at hR hCC hpv hjl hje
        rw [if_pos rfl] at hpv
        have hR2 : ∀ k, zop (tgR n A k) n a (b + 1) = zop (tgR n A k) n a b := fun k => by rw [hR]; simp
        have hC2 : ∀ k, zop (tgC n A k) n a (b + 1) = zop (tgC n A k) n a b := fun k => by rw [hCC]; simp
        simp only [show decide ((1 : Nat) = 2) = false from rfl, show decide ((1 : Nat) ≠ 0) = true from rfl] at hjl hje
        cases hs : tS n A a b
        all_goals
          rw [hs] at hpv hpo
          have hjs := fun (K' : Option zV → zMem → Prop) z => s_joins hO hs7 hsd3 (show a < 16 by omega) (show b < 16 by omega) (K := K') z
          rw [hs] at hjs
          (first | (((with_reducible refine i_turn (i_cI_lt (i_L4 (i_L2 ?_)))); (with_reducible refine i_t (by omega) ?_); (with_reducible refine i_Blk (i_Seq (i_Set (i_Call (i_as1 (i_FR (i_A1 ?_))))))); (with_reducible refine i_fldR (by assumption) ?_); (with_reducible refine i_as1 (i_L3 (i_as1 (i_L4 (i_as0 ?_))))); (with_reducible refine i_recv0 (by assumption) ?_); (refine hjs _ ⟨_, rfl, ?_⟩); (with_reducible refine i_Seq (i_Set (i_Call (i_as1 (i_FR ?_))))); rw [zbI_f]; simp only [w_set0, w_set1, w_setn0, w_setn1]; (with_reducible refine i_A1 ?_); (with_reducible refine i_fldR (by assumption) ?_); (with_reducible refine i_as1 (i_L3 (i_as1 (i_L4 (i_as0 ?_))))); (with_reducible refine i_recv0 (by assumption) ?_); (refine hjl _ ⟨_, rfl, ?_⟩); (with_reducible refine i_Seq (i_Set (i_Call (i_as1 ?_)))); rw [zbI_f]; simp only [w_set0, w_set1, w_setn0, w_setn1]; (with_reducible refine i_A1 (i_as1 (i_L3 (i_as1 (i_L4 (i_as1 ?_)))))); rw [w_setT]; simp only [w_set0, w_set1, w_setn0, w_setn1]; (with_reducible refine i_L5 (i_as0 (i_recv1 ?_))); (refine hpo M3 _ hM3 ⟨_, rfl, ?_⟩); (with_reducible refine i_Seq (i_Ite (i_cAnd (i_cZ_ne (i_Call (i_as1 (i_FR ?_))))))); simp only [w_set0, w_set1, w_setn0, w_setn1]; (with_reducible refine i_A1 ?_); (with_reducible refine i_fldR (by assumption) ?_); (with_reducible refine i_as1 (i_L3 (i_as1 (i_L4 (i_as0 ?_))))); (with_reducible refine i_recv0 (by assumption) ?_); (refine hje _ ⟨_, rfl, ?_⟩); rw [zbI_t]; rw [w_setT]; simp only [w_set0, w_set1, w_setn0, w_setn1]; rw [w_setT]; (with_reducible refine i_t (by omega) ?_); (with_reducible refine i_cNot (i_cZ_ne (i_L6 ?_))); (with_reducible refine i_f (by omega) ?_); (with_reducible refine i_Set (i_eIf (i_cZ_ne (i_L5 ?_)))); (with_reducible refine i_f (by omega) ?_); (with_reducible refine i_I (i_Seq (i_sIA (i_FR ?_)))); simp only [w_set0, w_set1, w_setn0, w_setn1]; (with_reducible refine i_A0 ?_); (with_reducible refine i_fldR (by assumption) ?_); (with_reducible refine i_Add (i_Mul (i_L3 (i_I (i_L4 (i_L7 ?_)))))); rw [zx_mulc (by omega)]; rw [zx_add (by omega)]; (with_reducible refine i_in (by assumption) (by omega) (by omega) ?_); (with_reducible refine i_sIA (i_FR (i_A0 ?_))); (with_reducible refine i_fldR (by assumption) ?_); (with_reducible refine i_Add (i_Mul (i_L4 (i_I (i_L3 (i_L7 ?_)))))); rw [zx_mulc (by omega)]; rw [zx_add (by omega)]; (with_reducible refine i_in (by assumption) (by omega) (by omega) ?_); (with_reducible refine i_up (i_Inc4 ?_)); rw [zx_inc (by omega)]; simp only [w_set0, w_set1, w_setn0, w_setn1])) | (((with_reducible refine i_turn (i_cI_lt (i_L4 (i_L2 ?_)))); (with_reducible refine i_t (by omega) ?_); (with_reducible refine i_Blk (i_Seq (i_Set (i_Call (i_as1 (i_FR (i_A1 ?_))))))); (with_reducible refine i_fldR (by assumption) ?_); (with_reducible refine i_as1 (i_L3 (i_as1 (i_L4 (i_as0 ?_))))); (with_reducible refine i_recv0 (by assumption) ?_); (refine hjs _ ⟨_, rfl, ?_⟩); (with_reducible refine i_Seq (i_Set (i_Call (i_as1 (i_FR ?_))))); rw [zbI_t]; simp only [w_set0, w_set1, w_setn0, w_setn1]; (with_reducible refine i_A1 ?_); (with_reducible refine i_fldR (by assumption) ?_); (with_reducible refine i_as1 (i_L3 (i_as1 (i_L4 (i_as0 ?_))))); (with_reducible refine i_recv0 (by assumption) ?_); (refine hjl _ ⟨_, rfl, ?_⟩); (with_reducible refine i_Seq (i_Set (i_Call (i_as1 ?_)))); rw [zbI_f]; simp only [w_set0, w_set1, w_setn0, w_setn1]; (with_reducible refine i_A1 (i_as1 (i_L3 (i_as1 (i_L4 (i_as1 ?_)))))); rw [w_setT]; simp only [w_set0, w_set1, w_setn0, w_setn1]; (with_reducible refine i_L5 (i_as0 (i_recv1 ?_))); (refine hpo M3 _ hM3 ⟨_, rfl, ?_⟩); (with_reducible refine i_Seq (i_Ite (i_cAnd (i_cZ_ne (i_Call (i_as1 (i_FR ?_))))))); simp only [w_set0, w_set1, w_setn0, w_setn1]; (with_reducible refine i_A1 ?_); (with_reducible refine i_fldR (by assumption) ?_); (with_reducible refine i_as1 (i_L3 (i_as1 (i_L4 (i_as0 ?_))))); (with_reducible refine i_recv0 (by assumption) ?_); (refine hje _ ⟨_, rfl, ?_⟩); rw [zbI_t]; rw [w_setT]; simp only [w_set0, w_set1, w_setn0, w_setn1]; rw [w_setT]; (with_reducible refine i_t (by omega) ?_); (with_reducible refine i_cNot (i_cZ_ne (i_L6 ?_))); (with_reducible refine i_f (by omega) ?_); (with_reducible refine i_Set (i_eIf (i_cZ_ne (i_L5 ?_)))); (with_reducible refine i_t (by omega) ?_); (with_reducible refine i_I (i_Seq (i_sIA (i_FR ?_)))); simp only [w_set0, w_set1, w_setn0, w_setn1]; (with_reducible refine i_A0 ?_); (with_reducible refine i_fldR (by assumption) ?_); (with_reducible refine i_Add (i_Mul (i_L3 (i_I (i_L4 (i_L7 ?_)))))); rw [zx_mulc (by omega)]; rw [zx_add (by omega)]; (with_reducible refine i_in (by assumption) (by omega) (by omega) ?_); (with_reducible refine i_sIA (i_FR (i_A0 ?_))); (with_reducible refine i_fldR (by assumption) ?_); (with_reducible refine i_Add (i_Mul (i_L4 (i_I (i_L3 (i_L7 ?_)))))); rw [zx_mulc (by omega)]; rw [zx_add (by omega)]; (with_reducible refine i_in (by assumption) (by omega) (by omega) ?_); (with_reducible refine i_up (i_Inc4 ?_)); rw [zx_inc (by omega)]; simp only [w_set0, w_set1, w_setn0, w_setn1])))
          exact tail _ M3 _ (by rw [hpv]; rfl) (fun _ _ _ => rfl) (fun k hk1 => by rw [hR2, hC2]; exact z3 k hk1) ⟨c, U, w1, by omega, w3, w4, fun i hi => by rw [hR2]; exact w5 i hi, fun k hk1 hn => by rw [hR2]; exact w6 k hk1 hn⟩
      · rw [if_neg e] at hpv
        have hlb : ∃ lb : Bool, decide (tv A a b = 2) = lb ∧ ((decide (tv A a b ≠ 0)) = lb) := ⟨decide (tv A a b = 2), rfl, decide_eq_decide.mpr (by omega)⟩
        obtain ⟨lb, hb1, hb2⟩ := hlb
        rw [hb1] at hjl
        rw [hb2] at hje
        obtain ⟨g1, g2⟩ := z3 _ hlt
        have b1 := zop_le (tgR n A (zso (tf A) a b (tS n A a b))) hn2 (a := a) (b := b) (by omega) (by omega)
        have b2 := zop_le (tgC n A (zso (tf A) a b (tS n A a b))) hn2 (a := a) (b := b) (by omega) (by omega)
        have hjs := fun (K' : Option zV → zMem → Prop) z => s_joins hO hs7 hsd3 (show a < 16 by omega) (show b < 16 by omega) (K := K') z
        generalize hke : zso (tf A) a b (tS n A a b) = k0 at hlt hpl hR hCC hpv hpo g1 g2 b1 b2
        have hR2 : ∀ k, zop (tgR n A k) n a (b + 1) = zop (tgR n A k) n a b + (if k0 = k then 1 else 0) := fun k => by rw [hR]; simp [e]
        have hC2 : ∀ k, zop (tgC n A k) n a (b + 1) = zop (tgC n A k) n a b + (if k0 = k ∧ lb = true then 1 else 0) := fun k => by rw [hCC, ← hb1]; simp
        clear hR hCC
        cases lb
        all_goals
          (first | (((with_reducible refine i_turn (i_cI_lt (i_L4 (i_L2 ?_)))); (with_reducible refine i_t (by omega) ?_); (with_reducible refine i_Blk (i_Seq (i_Set (i_Call (i_as1 (i_FR (i_A1 ?_))))))); (with_reducible refine i_fldR (by assumption) ?_); (with_reducible refine i_as1 (i_L3 (i_as1 (i_L4 (i_as0 ?_))))); (with_reducible refine i_recv0 (by assumption) ?_); (refine hjs _ ⟨_, rfl, ?_⟩); (with_reducible refine i_Seq (i_Set (i_Call (i_as1 (i_FR ?_))))); simp only [w_set0, w_set1, w_setn0, w_setn1]; (with_reducible refine i_A1 ?_); (with_reducible refine i_fldR (by assumption) ?_); (with_reducible refine i_as1 (i_L3 (i_as1 (i_L4 (i_as0 ?_))))); (with_reducible refine i_recv0 (by assumption) ?_); (refine hjl _ ⟨_, rfl, ?_⟩); (with_reducible refine i_Seq (i_Set (i_Call (i_as1 ?_)))); rw [zbI_t]; simp only [w_set0, w_set1, w_setn0, w_setn1]; (with_reducible refine i_A1 (i_as1 (i_L3 (i_as1 (i_L4 (i_as1 ?_)))))); rw [w_setT]; simp only [w_set0, w_set1, w_setn0, w_setn1]; (with_reducible refine i_L5 (i_as0 (i_recv1 ?_))); (refine hpo M3 _ hM3 ⟨_, rfl, ?_⟩); (with_reducible refine i_Seq (i_Ite (i_cAnd (i_cZ_ne (i_Call (i_as1 (i_FR ?_))))))); simp only [w_set0, w_set1, w_setn0, w_setn1]; (with_reducible refine i_A1 ?_); (with_reducible refine i_fldR (by assumption) ?_); (with_reducible refine i_as1 (i_L3 (i_as1 (i_L4 (i_as0 ?_))))); (with_reducible refine i_recv0 (by assumption) ?_); (refine hje _ ⟨_, rfl, ?_⟩); rw [zbI_t]; rw [w_setT]; simp only [w_set0, w_set1, w_setn0, w_setn1]; rw [w_setT]; (with_reducible refine i_t (by omega) ?_); (with_reducible refine i_cNot (i_cZ_ne (i_L6 ?_))); (with_reducible refine i_t (by omega) ?_); (with_reducible refine i_sCall (i_as1 (i_A0 (i_as1 (i_L7 (i_as1 (i_L6 (i_as0 ?_)))))))); (with_reducible refine i_recv0 (by assumption) ?_))) | (((with_reducible refine i_turn (i_cI_lt (i_L4 (i_L2 ?_)))); (with_reducible refine i_t (by omega) ?_); (with_reducible refine i_Blk (i_Seq (i_Set (i_Call (i_as1 (i_FR (i_A1 ?_))))))); (with_reducible refine i_fldR (by assumption) ?_); (with_reducible refine i_as1 (i_L3 (i_as1 (i_L4 (i_as0 ?_))))); (with_reducible refine i_recv0 (by assumption) ?_); (refine hjs _ ⟨_, rfl, ?_⟩); (with_reducible refine i_Seq (i_Set (i_Call (i_as1 (i_FR ?_))))); simp only [w_set0, w_set1, w_setn0, w_setn1]; (with_reducible refine i_A1 ?_); (with_reducible refine i_fldR (by assumption) ?_); (with_reducible refine i_as1 (i_L3 (i_as1 (i_L4 (i_as0 ?_))))); (with_reducible refine i_recv0 (by assumption) ?_); (refine hjl _ ⟨_, rfl, ?_⟩); (with_reducible refine i_Seq (i_Set (i_Call (i_as1 ?_)))); rw [zbI_f]; simp only [w_set0, w_set1, w_setn0, w_setn1]; (with_reducible refine i_A1 (i_as1 (i_L3 (i_as1 (i_L4 (i_as1 ?_)))))); rw [w_setT]; simp only [w_set0, w_set1, w_setn0, w_setn1]; (with_reducible refine i_L5 (i_as0 (i_recv1 ?_))); (refine hpo M3 _ hM3 ⟨_, rfl, ?_⟩); (with_reducible refine i_Seq (i_Ite (i_cAnd (i_cZ_ne (i_Call (i_as1 (i_FR ?_))))))); simp only [w_set0, w_set1, w_setn0, w_setn1]; (with_reducible refine i_A1 ?_); (with_reducible refine i_fldR (by assumption) ?_); (with_reducible refine i_as1 (i_L3 (i_as1 (i_L4 (i_as0 ?_))))); (with_reducible refine i_recv0 (by assumption) ?_); (refine hje _ ⟨_, rfl, ?_⟩); rw [zbI_f]; rw [w_setT]; simp only [w_set0, w_set1, w_setn0, w_setn1]; rw [w_setT]; (with_reducible refine i_f (by omega) ?_); (with_reducible refine i_sCall (i_as1 (i_A0 (i_as1 (i_L7 (i_as1 (i_L6 (i_as0 ?_)))))))); (with_reducible refine i_recv0 (by assumption) ?_))))
          first | refine c_countFree hO hS (l := false) w1 (by omega) g1 g2 hpl (by omega) (by omega) (fun M4 f4 r4 q4 n4 y4 => ⟨rfl, ?_⟩) | refine c_countFree hO hS (l := true) w1 (by omega) g1 g2 hpl (by omega) (by omega) (fun M4 f4 r4 q4 n4 y4 => ⟨rfl, ?_⟩)
          ((with_reducible refine i_Seq (i_sIA (i_FR (i_A0 ?_)))); (with_reducible refine i_fldR (by assumption) ?_); (with_reducible refine i_Add (i_Mul (i_L3 (i_I (i_L4 (i_L7 ?_)))))); rw [zx_mulc (by omega)]; rw [zx_add (by omega)]; (with_reducible refine i_in (by assumption) (by omega) (by omega) ?_); (with_reducible refine i_sIA (i_FR (i_A0 ?_))); (with_reducible refine i_fldR (by assumption) ?_); (with_reducible refine i_Add (i_Mul (i_L4 (i_I (i_L3 (i_L7 ?_)))))); rw [zx_mulc (by omega)]; rw [zx_add (by omega)]; (with_reducible refine i_in (by assumption) (by omega) (by omega) ?_); (with_reducible refine i_up (i_Inc4 ?_)); rw [zx_inc (by omega)]; simp only [w_set0, w_set1, w_setn0, w_setn1])
          refine tail _ M4 _ hpv.symm (fun b' j q => f4 b' j (by omega)) (fun k hk1 => ?_) ?_
          · rw [hR2, hC2]
            by_cases z : k0 = k
            · subst z
              rw [r4, q4]
              exact ⟨by rw [if_pos rfl], by simp⟩
            · have hne : zplc k ≠ zplc k0 := fun y => z (zplc_inj hk1 hlt y).symm
              rw [f4 _ _ (by omega), f4 _ _ (by omega), if_neg z, if_neg (fun y => z y.1)]
              exact z3 k hk1
          · by_cases z : zop (tgR n A k0) n a b = 0
            · obtain ⟨y1, y2⟩ := y4 z
              refine ⟨c + 1, fun i => if i = c then k0 else U i, y1, by omega, fun i hi => ?_, fun i j hij hj => ?_, fun i hi => ?_, fun k hk1 hn => ?_⟩
              · by_cases v : i = c
                · subst v
                  dsimp only
                  rw [if_pos rfl]; exact ⟨y2, hlt⟩
                · dsimp only
                  rw [if_neg v, f4 _ _ (by omega)]; exact w3 i (by omega)
              · dsimp only
                rw [if_neg (show i ≠ c by omega)]
                by_cases v : j = c
                · rw [if_pos v]
                  intro y
                  exact w5 i (by omega) (by rw [y]; exact z)
                · rw [if_neg v]; exact w4 i j hij (by omega)
              · dsimp only
                rw [hR2]
                by_cases v : i = c
                · rw [if_pos v, if_pos rfl]; omega
                · rw [if_neg v]
                  have := w5 i (by omega)
                  omega
              · have h1 := hn c (by omega)
                dsimp only at h1
                rw [if_pos rfl] at h1
                rw [hR2, if_neg h1]
                refine w6 k hk1 (fun i hi => ?_)
                have h2 := hn i (by omega)
                dsimp only at h2
                rw [if_neg (by omega)] at h2
                exact h2
            · obtain ⟨y1, y2⟩ := n4 z
              refine ⟨c, U, y1, by omega, fun i hi => by rw [f4 _ _ (by omega)]; exact w3 i hi, w4, fun i hi => ?_, fun k hk1 hn => ?_⟩
              · rw [hR2]
                have := w5 i hi
                omega
              · have h1 := w6 k hk1 hn
                rw [hR2, if_neg (fun y => z (by rw [y]; exact h1))]
                exact h1
    · rintro ρ M3 X3 ⟨⟨l3, rfl⟩, f3, z3, ⟨c, U, w1, w2, w3, w4, w5, w6⟩, p3⟩
      rw [show a + 1 + (n - (a + 1)) = n by omega] at z3 w2 w5 w6 p3 ⊢
      ((with_reducible refine i_turn (i_cI_lt (i_L4 (i_L2 ?_)))); (with_reducible refine i_f (by omega) ?_); (with_reducible refine i_up (i_Inc3 ?_)); rw [zx_inc (by omega)]; simp only [w_set0, w_set1, w_setn0, w_setn1])
      exact hX _ _ ⟨⟨_, rfl⟩, f3, fun k hk1 => by rw [← zop_nx, ← zop_nx]; exact z3 k hk1, ⟨c, U, w1, by rw [← zop_nx]; exact w2, w3, w4, fun i hi => by rw [← zop_nx]; exact w5 i hi, fun k hk1 hn => by rw [← zop_nx]; exact w6 k hk1 hn⟩, fun p q h => p3 p q (by omega)⟩
  · rintro ρ M2 X ⟨⟨l, rfl⟩, f2, z2, ⟨c, U, w1, w2, w3, w4, w5, w6⟩, p2⟩
    rw [zop_end] at w2
    have h120 := zp2_le (fun _ _ => true) hn2
    have z2' : ∀ k : Nat, k < 512 → M2 ((135 : Nat) : Int) ((zplc k : Nat) : Int) = ((tR n A k : Nat) : Int) ∧ M2 ((136 : Nat) : Int) ((zplc k : Nat) : Int) = ((tQ n A k : Nat) : Int) := z2
    ((with_reducible refine i_turn (i_cI_lt (i_L3 (i_L2 ?_)))); (with_reducible refine i_f (by omega) ?_); (with_reducible refine i_sCall (i_as1 (i_A0 (i_as1 (i_L2 (i_as0 ?_)))))); (with_reducible refine i_recv0 (by assumption) ?_))
    refine c_settle hO hS hn2 hw z2' (fun p q hp hq hpq => p2 p q (by omega)) (fun M3 f3 h3 k3 => ⟨rfl, ?_⟩)
    (with_reducible refine i_RetV ?_)
    exact hk M3 (fun b j q => by rw [f3 b j (by omega), f2 b j (by omega)]) ⟨fun k hk1 => by rw [f3 _ _ (by omega), f3 _ _ (by omega)]; exact z2' k hk1, ⟨c, U, by rw [f3 _ _ (by omega)]; exact w1, by omega, fun i hi => by rw [f3 _ _ (by omega)]; exact w3 i hi, w4, fun k hk1 hn => w6 k hk1 hn⟩, fun p q hp hq hpq => by rw [f3 _ _ (by omega)]; exact p2 p q (by omega), ⟨h3, k3⟩, fun k hk1 => by rw [f3 _ _ (by omega), f2 _ _ (by omega)]; exact hask k hk1⟩
end
section
-- part f5.cask.lean.txt
/-! ===== answers: the class ===== -/
theorem c_see {O : zOm} (hO : zWld O) (hS : zS O = zmS zC0) {n : Nat} {op : Bool} {A : zTl} {M : zMem} {K : Option zV → zMem → Prop} (hs : zNR M 141 n (zlN n A false)) (ho : zNR M 143 n (zlO n A)) (hk : ∀ M', (∀ b j, ¬ (((145 : Nat) : Int) ≤ b ∧ b ≤ ((146 : Nat) : Int)) → M' b j = M b j) → zNR M' 145 n (zlN n A op) → K none M') : zR O F_Sorts_see [(2, ((134 : Nat) : Int)), (0, zbI op)] M K := by
  obtain ⟨⟨s0, s1, s2, s3, s4, s5, s6, s7, s8⟩, ⟨s9, s10, s11, s12, s13⟩, ⟨t1, t2, t3, t4, t5, t6, t7⟩⟩ := zO134_ok hS
  have y0 := zNetB.to hS zNt_141
  have y2 := zNetB.to hS zNt_143
  have y4 := zNetB.to hS zNt_145
  have y4' := y4
  obtain ⟨-, -, -, yo4⟩ := y4'
  apply r_Sorts_see hO
  unfold B_Sorts_see
  ((with_reducible refine i_Seq (i_Seq (i_sCall (i_as1 (i_FR (i_A0 ?_)))))); (with_reducible refine i_fldR (by assumption) ?_); (with_reducible refine i_as1 (i_FR (i_A0 ?_))); (with_reducible refine i_fldR (by assumption) ?_); (with_reducible refine i_as0 ?_); (with_reducible refine i_recv0 (by assumption) ?_))
  refine s_Net_become hO y4 y0 hs (fun M1 f1 h1 => ⟨rfl, ?_⟩)
  have fr1 : ∀ b j, ¬ (((145 : Nat) : Int) ≤ b ∧ b ≤ ((146 : Nat) : Int)) → M1 b j = M b j := fun b j q => by rw [f1 b (by simp <;> omega)]
  cases op
  · ((with_reducible refine i_If (i_cZ_ne (i_L1 ?_))); rw [zbI_f]; (with_reducible refine i_f (by omega) ?_); (with_reducible refine i_RetV ?_))
    exact hk M1 fr1 h1
  · ((with_reducible refine i_If (i_cZ_ne (i_L1 ?_))); rw [zbI_t]; (with_reducible refine i_t (by omega) ?_); (with_reducible refine i_sCall (i_as1 (i_FR (i_A0 ?_)))); (with_reducible refine i_fldR (by assumption) ?_); (with_reducible refine i_as1 (i_FR (i_A0 ?_))); (with_reducible refine i_fldR (by assumption) ?_); (with_reducible refine i_as1 (i_FR (i_A0 ?_))); (with_reducible refine i_fldR (by assumption) ?_); (with_reducible refine i_as0 ?_); (with_reducible refine i_recv0 (by assumption) ?_))
    refine s_Net_differ hO y4 y4 y2 h1 (ho.to (fun b j a1 a2 => fr1 b j (by omega))) (fun M2 f2 h2 => ⟨rfl, ?_⟩)
    (with_reducible refine i_RetV ?_)
    refine hk M2 (fun b j q => by rw [f2 b (by simp <;> omega)]; exact fr1 b j q) (h2.ext (fun p q _ _ => ?_))
    have hm := zlN_mono n A p q
    unfold zlO
    cases h : zlN n A false p q
    · simp
    · rw [hm h]; rfl
theorem zre_in {n : Nat} {L : Nat → Nat → Bool} {a : Nat} (ha : a < n) (hL : ∀ p q, L p q = true → q < n) (k q : Nat) (h : zre n L a k q = true) : q < n := by
  cases k with
  | zero => have := of_decide_eq_true h; omega
  | succ k =>
    induction k generalizing q with
    | zero =>
      rw [zre_su, Bool.or_eq_true] at h
      rcases h with h | h
      · have := of_decide_eq_true h; omega
      · obtain ⟨p, h1, h2⟩ := of_decide_eq_true h
        rw [Bool.and_eq_true] at h2
        exact hL p q h2.2
    | succ k ih =>
      rw [zre_su, Bool.or_eq_true] at h
      rcases h with h | h
      · exact ih q h
      · obtain ⟨p, h1, h2⟩ := of_decide_eq_true h
        rw [Bool.and_eq_true] at h2
        exact hL p q h2.2
/-- posts reached, and those that the first p of them reach -/
def zrx (n : Nat) (L : Nat → Nat → Bool) (a k p q : Nat) : Bool := zre n L a k q || decide (∃ r, r < p ∧ (zre n L a k r && L r q) = true)
theorem zrx_0 (n : Nat) (L : Nat → Nat → Bool) (a k q : Nat) : zrx n L a k 0 q = zre n L a k q := by
  unfold zrx
  rw [decide_eq_false (fun ⟨r, h, _⟩ => absurd h (Nat.not_lt_zero _)), Bool.or_false]
theorem c_countSteps {O : zOm} (hO : zWld O) (hS : zS O = zmS zC0) {n a b : Nat} {L : Nat → Nat → Bool} {M : zMem} {K : Option zV → zMem → Prop} (hN : zNR M 145 n L) (hn2 : n ≤ 16) (hn1 : 0 < n) (ha : a < n) (hb : b < n) (hab : a ≠ b)
    (hk : K (some (0, ((zfar n L a b : Nat) : Int))) M) : zR O F_Sorts_countSteps [(2, ((134 : Nat) : Int)), (0, ((a : Nat) : Int)), (0, ((b : Nat) : Int))] M K := by
  obtain ⟨⟨s0, s1, s2, s3, s4, s5, s6, s7, s8⟩, ⟨s9, s10, s11, s12, s13⟩, -⟩ := zO134_ok hS
  obtain ⟨y0, y1, y2, y3⟩ := zNetB.to hS zNt_145
  have gy : M ((145 : Nat) : Int) ((1 : Nat) : Int) = ((n : Nat) : Int) := hN.1
  apply r_Sorts_countSteps hO
  unfold B_Sorts_countSteps
  ((with_reducible refine i_Seq (i_Set (i_Shl (i_I (i_L1 (i_Seq (i_Blk (i_Seq (i_Set (i_I ?_)))))))))); (rw [yshl_mk (show a < 16 by omega)]); simp only [w_set0, w_set1, w_setn0, w_setn1])
  refine w_ForN (n - 1) (fun k ρ M' => (∃ l, ρ = ((134 : Nat) : Int) :: ((a : Nat) : Int) :: ((b : Nat) : Int) :: zmk (zre n L a k) :: ((1 + k : Nat) : Int) :: l) ∧ M' = M ∧ ∀ j, j ≤ k → zre n L a j b = false) ⟨⟨_, rfl⟩, rfl, fun j hj => by rw [show j = 0 by omega]; exact decide_eq_false (fun z => hab z.symm)⟩ ?_ ?_
  · rintro k ρ M1 X hk1 ⟨⟨l, rfl⟩, rfl, hno⟩ hX
    ((with_reducible refine i_turn (i_cI_lt (i_L4 (i_F (i_FR (i_A0 ?_)))))); (with_reducible refine i_fldR (by assumption) ?_); (with_reducible refine i_fld (by assumption) ?_); (rw [gy]); (with_reducible refine i_t (by omega) ?_); (with_reducible refine i_Blk (i_Seq (i_Set (i_L3 (i_Seq (i_Blk (i_Seq (i_Set (i_I ?_))))))))); simp only [w_set0, w_set1, w_setn0, w_setn1]; rw [w_setT]; simp only [w_set0, w_set1, w_setn0, w_setn1]; rw [w_setT])
    refine w_ForN n (fun p ρ M' => (∃ l, ρ = ((134 : Nat) : Int) :: ((a : Nat) : Int) :: ((b : Nat) : Int) :: zmk (zre n L a k) :: ((1 + k : Nat) : Int) :: zmk (zrx n L a k p) :: ((p : Nat) : Int) :: l) ∧ M' = M1) ⟨⟨_, by rw [zmk_ext (s := zrx n L a k 0) (t := zre n L a k) (fun q _ => zrx_0 n L a k q)]; rfl⟩, rfl⟩ ?_ ?_
    · rintro p ρ M2 X2 hp ⟨⟨l2, rfl⟩, rfl⟩ hX2
      have gp : M2 ((145 + 1 : Nat) : Int) ((p : Nat) : Int) = zmk (L p) := hN.2 p (by omega)
      have gp' : M2 ((146 : Nat) : Int) ((p : Nat) : Int) = zmk (L p) := gp
      have hyd := yand_1 (zre n L a k) (k := p) (by omega)
      have hX3 : ∀ (l : zLoc) (s : Nat → Bool), (∀ q, s q = zrx n L a k (p + 1) q) → X2 (((134 : Nat) : Int) :: ((a : Nat) : Int) :: ((b : Nat) : Int) :: zmk (zre n L a k) :: ((1 + k : Nat) : Int) :: zmk s :: ((p + 1 : Nat) : Int) :: l) M2 := fun l s h => hX2 _ _ ⟨⟨l, by rw [show s = zrx n L a k (p + 1) from funext h]⟩, rfl⟩
      clear hX2
      by_cases e : zre n L a k p = true
      · rw [if_pos e] at hyd
        ((with_reducible refine i_turn (i_cI_lt (i_L6 (i_F (i_FR (i_A0 ?_)))))); (with_reducible refine i_fldR (by assumption) ?_); (with_reducible refine i_fld (by assumption) ?_); (rw [gy]); (with_reducible refine i_t (by omega) ?_); (with_reducible refine i_If (i_cI_eq (i_And (i_Shr (i_L3 (i_L6 (i_I (i_I ?_)))))))); (rw [hyd]); simp only [w_set0, w_set1, w_setn0, w_setn1]; (with_reducible refine i_t trivial ?_); (with_reducible refine i_Set (i_Or (i_L5 (i_IA (i_FR (i_FR (i_A0 ?_))))))); (with_reducible refine i_fldR (by assumption) ?_); (with_reducible refine i_fldR (by assumption) ?_); (with_reducible refine i_L6 ?_); (with_reducible refine i_in (by assumption) (by omega) (by omega) ?_); (with_reducible refine i_up ?_); (rw [gp']); (rw [yor_mk]); simp only [w_set0, w_set1, w_setn0, w_setn1]; (with_reducible refine i_Inc6 ?_); rw [zx_inc (by omega)]; simp only [w_set0, w_set1, w_setn0, w_setn1])
        refine hX3 _ _ (fun q => ?_)
        unfold zrx
        rw [Bool.or_assoc]
        congr 1
        rw [Bool.eq_iff_iff, Bool.or_eq_true, decide_eq_true_eq, decide_eq_true_eq]
        constructor
        · rintro (⟨r, h1, h2⟩ | h)
          · exact ⟨r, by omega, h2⟩
          · exact ⟨p, by omega, by rw [e, h]; rfl⟩
        · rintro ⟨r, h1, h2⟩
          by_cases w : r = p
          · subst w
            rw [Bool.and_eq_true] at h2
            exact Or.inr h2.2
          · exact Or.inl ⟨r, by omega, h2⟩
      · rw [if_neg e] at hyd
        ((with_reducible refine i_turn (i_cI_lt (i_L6 (i_F (i_FR (i_A0 ?_)))))); (with_reducible refine i_fldR (by assumption) ?_); (with_reducible refine i_fld (by assumption) ?_); (rw [gy]); (with_reducible refine i_t (by omega) ?_); (with_reducible refine i_If (i_cI_eq (i_And (i_Shr (i_L3 (i_L6 (i_I (i_I ?_)))))))); (rw [hyd]); (with_reducible refine i_f (by omega) ?_); (with_reducible refine i_up (i_Inc6 ?_)); rw [zx_inc (by omega)]; simp only [w_set0, w_set1, w_setn0, w_setn1])
        refine hX3 _ _ (fun q => ?_)
        unfold zrx
        congr 1
        refine decide_eq_decide.mpr ⟨fun ⟨r, h1, h2⟩ => ⟨r, by omega, h2⟩, fun ⟨r, h1, h2⟩ => ⟨r, ?_, h2⟩⟩
        by_cases w : r = p
        · subst w
          rw [Bool.and_eq_true] at h2
          exact absurd h2.1 e
        · omega
    · rintro ρ M2 X2 ⟨⟨l2, rfl⟩, rfl⟩
      have hyd := yand_1 (zre n L a (k + 1)) (k := b) (by omega)
      have hz : zrx n L a k n = zre n L a (k + 1) := funext fun q => (zre_su n L a k q).symm
      rw [hz]
      cases e : zre n L a (k + 1) b
      · rw [e, if_neg (by decide)] at hyd
        ((with_reducible refine i_turn (i_cI_lt (i_L6 (i_F (i_FR (i_A0 ?_)))))); (with_reducible refine i_fldR (by assumption) ?_); (with_reducible refine i_fld (by assumption) ?_); (rw [gy]); (with_reducible refine i_f (by omega) ?_); (with_reducible refine i_Seq (i_Set (i_L5 (i_If (i_cI_eq (i_And (i_Shr ?_))))))); simp only [w_set0, w_set1, w_setn0, w_setn1]; (with_reducible refine i_L3 (i_L2 (i_I (i_I ?_)))); (rw [hyd]); (with_reducible refine i_f (by omega) ?_); (with_reducible refine i_up (i_Inc4 ?_)); rw [zx_inc (by omega)]; simp only [w_set0, w_set1, w_setn0, w_setn1])
        refine hX _ _ ⟨⟨_, rfl⟩, rfl, fun j hj => ?_⟩
        by_cases w : j = k + 1
        · rw [w]; exact e
        · exact hno j (by omega)
      · rw [e, if_pos rfl] at hyd
        have hf : zfar n L a b = 1 + k := by
          rw [show 1 + k = k + 1 by omega]
          exact zfind_eq (by omega) e (fun j hj => hno j (by omega))
        rw [hf] at hk
        ((with_reducible refine i_turn (i_cI_lt (i_L6 (i_F (i_FR (i_A0 ?_)))))); (with_reducible refine i_fldR (by assumption) ?_); (with_reducible refine i_fld (by assumption) ?_); (rw [gy]); (with_reducible refine i_f (by omega) ?_); (with_reducible refine i_Seq (i_Set (i_L5 (i_If (i_cI_eq (i_And (i_Shr ?_))))))); simp only [w_set0, w_set1, w_setn0, w_setn1]; (with_reducible refine i_L3 (i_L2 (i_I (i_I ?_)))); (rw [hyd]); simp only [w_set0, w_set1, w_setn0, w_setn1]; (with_reducible refine i_t trivial ?_); (with_reducible refine i_RetI (i_L4 ?_)))
        exact hk
  · rintro ρ M1 X ⟨⟨l, rfl⟩, rfl, hno⟩
    have hf : zfar n L a b = n := zfind_no (fun j hj => hno j (by omega))
    rw [hf] at hk
    ((with_reducible refine i_turn (i_cI_lt (i_L4 (i_F (i_FR (i_A0 ?_)))))); (with_reducible refine i_fldR (by assumption) ?_); (with_reducible refine i_fld (by assumption) ?_); (rw [gy]); (with_reducible refine i_f (by omega) ?_); (with_reducible refine i_RetI (i_F (i_FR (i_A0 ?_)))); (with_reducible refine i_fldR (by assumption) ?_); (with_reducible refine i_fld (by assumption) ?_); (rw [gy]))
    exact hk
theorem zcnt_L {n : Nat} (hn : n ≤ 16) {L : Nat → Nat → Bool} (hL : ∀ p q, L p q = true → q < n) (p a : Nat) : zcnt (fun q => L p q && L a q) 16 = zcnt (fun q => L p q && L a q) n := zcnt_top (fun d hd => by
  cases h : L p d
  · rfl
  · have := hL p d h; omega) hn
theorem c_countTrios {O : zOm} (hO : zWld O) (hS : zS O = zmS zC0) {n a : Nat} {L : Nat → Nat → Bool} {M : zMem} {K : Option zV → zMem → Prop} (hN : zNR M 145 n L) (hn2 : n ≤ 16) (ha : a < n) (hs : ∀ p q, L p q = L q p) (h0 : ∀ p, L p p = false) (hL : ∀ p q, L p q = true → q < n)
    (hk : K (some (0, ((zp2 (fun p q => L a p && (L a q && L p q)) n : Nat) : Int))) M) : zR O F_Sorts_countTrios [(2, ((134 : Nat) : Int)), (0, ((a : Nat) : Int))] M K := by
  obtain ⟨⟨s0, s1, s2, s3, s4, s5, s6, s7, s8⟩, ⟨s9, s10, s11, s12, s13⟩, -⟩ := zO134_ok hS
  have hy := zNetB.to hS zNt_145
  obtain ⟨y0, y1, y2, y3⟩ := zNetB.to hS zNt_145
  have gy : M ((145 : Nat) : Int) ((1 : Nat) : Int) = ((n : Nat) : Int) := hN.1
  have ht := ztrio (n := n) (a := a) hs h0
  apply r_Sorts_countTrios hO
  unfold B_Sorts_countTrios
  ((with_reducible refine i_Seq (i_Set (i_I (i_Seq (i_Blk (i_Seq (i_Set (i_I ?_)))))))); simp only [w_set0, w_set1, w_setn0, w_setn1])
  refine w_ForN n (fun p ρ M' => (∃ l, ρ = ((134 : Nat) : Int) :: ((a : Nat) : Int) :: ((zsum (fun p => if L a p = true then zcnt (fun q => L p q && L a q) n else 0) p : Nat) : Int) :: ((p : Nat) : Int) :: l) ∧ M' = M) ⟨⟨_, rfl⟩, rfl⟩ ?_ ?_
  · rintro p ρ M1 X hp ⟨⟨l, rfl⟩, rfl⟩ hX
    have gp : M1 ((146 : Nat) : Int) ((p : Nat) : Int) = zmk (L p) := hN.2 p (by omega)
    have ga : M1 ((146 : Nat) : Int) ((a : Nat) : Int) = zmk (L a) := hN.2 a (by omega)
    have hcap := zsum_cap (f := fun p => if L a p = true then zcnt (fun q => L p q && L a q) n else 0) (c := 16) (fun p => by
      have := zcnt_le (fun q => L p q && L a q) n
      split <;> omega) p
    have hcap2 : p * 16 ≤ 16 * 16 := Nat.mul_le_mul_right _ (by omega)
    have hX2 : ∀ (l : zLoc) (c : Nat), c = zsum (fun p => if L a p = true then zcnt (fun q => L p q && L a q) n else 0) p + (if L a p = true then zcnt (fun q => L p q && L a q) n else 0) → X (((134 : Nat) : Int) :: ((a : Nat) : Int) :: ((c : Nat) : Int) :: ((p + 1 : Nat) : Int) :: l) M1 := fun l c hc => by subst hc; exact hX _ _ ⟨⟨l, rfl⟩, rfl⟩
    clear hX
    generalize zsum (fun p => if L a p = true then zcnt (fun q => L p q && L a q) n else 0) p = u at hcap hX2 ⊢
    have hcl := zcnt_le (fun q => L p q && L a q) n
    have hcn := zcnt_L hn2 hL p a
    cases e : L a p
    · rw [e, if_neg (by decide)] at hX2
      ((with_reducible refine i_turn (i_cI_lt (i_L3 (i_F (i_FR (i_A0 ?_)))))); (with_reducible refine i_fldR (by assumption) ?_); (with_reducible refine i_fld (by assumption) ?_); (rw [gy]); (with_reducible refine i_t (by omega) ?_); (with_reducible refine i_If (i_cZ_ne (i_Call (i_as1 (i_FR (i_A0 ?_)))))); (with_reducible refine i_fldR (by assumption) ?_); (with_reducible refine i_as1 (i_L1 (i_as1 (i_L3 (i_as0 ?_))))); (with_reducible refine i_recv0 (by assumption) ?_); (refine s_joins hO hy hN (show a < 16 by omega) (show p < 16 by omega) ⟨_, rfl, ?_⟩); (rw [e]); rw [zbI_f]; (with_reducible refine i_f (by omega) ?_); (with_reducible refine i_up (i_Inc3 ?_)); rw [zx_inc (by omega)]; simp only [w_set0, w_set1, w_setn0, w_setn1])
      exact hX2 _ _ (by omega)
    · rw [e, if_pos rfl] at hX2
      ((with_reducible refine i_turn (i_cI_lt (i_L3 (i_F (i_FR (i_A0 ?_)))))); (with_reducible refine i_fldR (by assumption) ?_); (with_reducible refine i_fld (by assumption) ?_); (rw [gy]); (with_reducible refine i_t (by omega) ?_); (with_reducible refine i_If (i_cZ_ne (i_Call (i_as1 (i_FR (i_A0 ?_)))))); (with_reducible refine i_fldR (by assumption) ?_); (with_reducible refine i_as1 (i_L1 (i_as1 (i_L3 (i_as0 ?_))))); (with_reducible refine i_recv0 (by assumption) ?_); (refine s_joins hO hy hN (show a < 16 by omega) (show p < 16 by omega) ⟨_, rfl, ?_⟩); (rw [e]); rw [zbI_t]; (with_reducible refine i_t (by omega) ?_); (with_reducible refine i_Set (i_Add (i_L2 (i_Call (i_as1 (i_And (i_IA (i_FR (i_FR (i_A0 ?_)))))))))); (with_reducible refine i_fldR (by assumption) ?_); (with_reducible refine i_fldR (by assumption) ?_); (with_reducible refine i_L3 ?_); (with_reducible refine i_in (by assumption) (by omega) (by omega) ?_); (with_reducible refine i_IA (i_FR (i_FR (i_A0 ?_)))); (with_reducible refine i_fldR (by assumption) ?_); (with_reducible refine i_fldR (by assumption) ?_); (with_reducible refine i_L1 ?_); (with_reducible refine i_in (by assumption) (by omega) (by omega) ?_); (with_reducible refine i_as0 (i_recv1 ?_)); (rw [gp]); (rw [ga]); (rw [yand_mk]); (refine s_bitCount hO ⟨_, rfl, ?_⟩); (with_reducible refine i_up ?_); (rw [hcn]); rw [zx_add (by omega)]; simp only [w_set0, w_set1, w_setn0, w_setn1]; (with_reducible refine i_Inc3 ?_); rw [zx_inc (by omega)]; simp only [w_set0, w_set1, w_setn0, w_setn1])
      exact hX2 _ _ rfl
  · rintro ρ M1 X ⟨⟨l, rfl⟩, rfl⟩
    have h2 := zp2_le (fun p q => L a p && (L a q && L p q)) hn2
    rw [ht]
    ((with_reducible refine i_turn (i_cI_lt (i_L3 (i_F (i_FR (i_A0 ?_)))))); (with_reducible refine i_fldR (by assumption) ?_); (with_reducible refine i_fld (by assumption) ?_); (rw [gy]); (with_reducible refine i_f (by omega) ?_); (with_reducible refine i_RetI (i_Div (i_L2 (i_I ?_)))); rw [zx_divc (by omega)]; (with_reducible refine i_nn (by decide) ?_))
    rw [show 2 * zp2 (fun p q => L a p && (L a q && L p q)) n / 2 = zp2 (fun p q => L a p && (L a q && L p q)) n by omega]
    exact hk
/-! sums over sorts -/
/-- the pairs as the class goes through them: each in one order -/
def zod (kind a b p q : Nat) : Bool := if kind = 0 then decide (p = a ∧ q = b) else if kind = 1 then decide (p = a ∧ q ≠ a) else (a.testBit p && !a.testBit q)
theorem zod_aq {kind a b p q : Nat} (h : kind = 0 → a ≠ b) (hpq : p ≠ q) : zaq kind a b p q = (zod kind a b p q || zod kind a b q p) ∧ (zod kind a b p q && zod kind a b q p) = false := by
  unfold zaq zod
  by_cases h0 : kind = 0
  · have := h h0
    rw [if_pos h0, if_pos h0, if_pos h0]
    refine ⟨?_, ?_⟩
    · rw [Bool.eq_iff_iff, Bool.or_eq_true, decide_eq_true_eq, decide_eq_true_eq, decide_eq_true_eq]; omega
    · rw [← Bool.not_eq_true, Bool.and_eq_true, decide_eq_true_eq, decide_eq_true_eq]; omega
  · by_cases h1 : kind = 1
    · rw [if_neg h0, if_neg h0, if_neg h0, if_pos h1, if_pos h1, if_pos h1]
      refine ⟨?_, ?_⟩
      · rw [Bool.eq_iff_iff, Bool.or_eq_true, decide_eq_true_eq, decide_eq_true_eq, decide_eq_true_eq]; omega
      · rw [← Bool.not_eq_true, Bool.and_eq_true, decide_eq_true_eq, decide_eq_true_eq]; omega
    · rw [if_neg h0, if_neg h0, if_neg h0, if_neg h1, if_neg h1, if_neg h1]
      cases a.testBit p <;> cases a.testBit q <;> exact ⟨rfl, rfl⟩
theorem zod_ne {kind a b p : Nat} (h : kind = 0 → a ≠ b) : zod kind a b p p = false := by
  unfold zod
  by_cases h0 : kind = 0
  · have := h h0
    rw [if_pos h0]; exact decide_eq_false (by omega)
  · by_cases h1 : kind = 1
    · rw [if_neg h0, if_pos h1]; exact decide_eq_false (by omega)
    · rw [if_neg h0, if_neg h1]; cases a.testBit p <;> rfl
/-- of rows, counted up to a place -/
def zsq (g : Nat → Nat → Bool) (n p q : Nat) : Nat := zsum (fun r => zcnt (g r) n) p + zcnt (g p) q
theorem zsq_su (g : Nat → Nat → Bool) (n p q : Nat) : zsq g n p (q + 1) = zsq g n p q + (if g p q = true then 1 else 0) := by
  unfold zsq
  rw [zcnt_su, Nat.add_assoc]
theorem zsq_nx (g : Nat → Nat → Bool) (n p : Nat) : zsq g n (p + 1) 0 = zsq g n p n := rfl
theorem zsq_all {g : Nat → Nat → Bool} {n p q : Nat} (hp : p < n) (hq : q ≤ n) : zsq g n p q ≤ zsum (fun r => zcnt (g r) n) n := by
  unfold zsq
  have h1 := zcnt_mono (g p) hq
  have h2 := zsum_sub (f := fun r => zcnt (g r) n) (show p + 1 ≤ n by omega)
  rw [zsum_su] at h2
  omega
theorem zsq_p2 {kind a b n : Nat} {G : Nat → Nat → Bool} (h : kind = 0 → a ≠ b) (hG : ∀ p q, G p q = G q p) : zsum (fun r => zcnt (fun q => zod kind a b r q && G r q) n) n = zp2 (fun p q => zaq kind a b p q && G p q) n := by
  have e1 : (((zsum (fun r => zcnt (fun q => zod kind a b r q && G r q) n) n : Nat) : Int) : Int) = zS2 (fun p q => zbI (zod kind a b p q && G p q)) n := by
    unfold zS2
    rw [← zsum_zsI]
    exact zsI_ext fun p _ => (zcnt_zsI _ n).symm
  have e2 := zS2_P2 (fun p q => zbI (zod kind a b p q && G p q)) n
  rw [zsI_0 (fun p _ => by rw [zod_ne h]; rfl)] at e2
  have e3 : zP2 (fun p q => zbI (zod kind a b p q && G p q) + zbI (zod kind a b q p && G q p)) n = zP2 (fun p q => zbI (zaq kind a b p q && G p q)) n := zP2_ext fun p q hpq _ => by
    obtain ⟨h1, h2⟩ := zod_aq (kind := kind) (a := a) (b := b) (p := p) (q := q) h (by omega)
    rw [h1, hG q p]
    cases x : zod kind a b p q <;> cases y : zod kind a b q p <;> rw [x, y] at h2 <;> cases G p q <;> first | rfl | cases h2
  rw [e3, zP2_zp2 (fun p q => zaq kind a b p q && G p q)] at e2
  omega
theorem zall_mk {n : Nat} (h : n ≤ 16) : (((2 ^ n - 1 : Nat) : Int) : Int) = zmk (fun q => decide (q < n)) := by
  rcases (show n = 0 ∨ n = 1 ∨ n = 2 ∨ n = 3 ∨ n = 4 ∨ n = 5 ∨ n = 6 ∨ n = 7 ∨ n = 8 ∨ n = 9 ∨ n = 10 ∨ n = 11 ∨ n = 12 ∨ n = 13 ∨ n = 14 ∨ n = 15 ∨ n = 16 by omega) with e | e | e | e | e | e | e | e | e | e | e | e | e | e | e | e | e <;> subst e <;> decide
theorem c_partners {O : zOm} (hO : zWld O) {n kind a b' p : Nat} {b : Int} {M : zMem} {K : Option zV → zMem → Prop} (hn : n ≤ 16) (hQ : zQok n kind a b b') (h3 : kind < 3) (hp : p < n)
    (hk : K (some (0, zmk (fun q => decide (q < n) && zod kind a b' p q))) M) : zR O F_Sorts_partners [(0, ((kind : Nat) : Int)), (0, ((a : Nat) : Int)), (0, b), (0, ((p : Nat) : Int)), (0, ((2 ^ n - 1 : Nat) : Int))] M K := by
  have hall := zall_mk hn
  apply r_Sorts_partners hO
  unfold B_Sorts_partners
  rcases hQ with ⟨h1, h2, h4, h5, rfl⟩ | ⟨h1, h2⟩ | ⟨rfl, h2⟩
  · have e : kind = 0 := by omega
    subst e
    by_cases w : p = a
    · have hz : zmk (fun q => decide (q < n) && zod 0 a b' p q) = zmk (fun q => decide (q = b')) := zmk_ext fun q _ => by
        show (decide (q < n) && decide (p = a ∧ q = b')) = _
        by_cases z : q = b'
        · rw [decide_eq_true (show q < n by omega), decide_eq_true (show p = a ∧ q = b' from ⟨w, z⟩), decide_eq_true z]; rfl
        · rw [decide_eq_false (show ¬ (p = a ∧ q = b') from fun y => z y.2), decide_eq_false z, Bool.and_false]
      rw [hz] at hk
      ((with_reducible refine i_Seq (i_If (i_cI_eq (i_L0 (i_I ?_))))); (with_reducible refine i_f (by omega) ?_); (with_reducible refine i_Seq (i_If (i_cI_ne (i_L3 (i_L1 ?_))))); (with_reducible refine i_f (by omega) ?_); (with_reducible refine i_RetI (i_eIf (i_cZ_eq (i_L0 ?_)))); (with_reducible refine i_t (by omega) ?_); (with_reducible refine i_Shl (i_I (i_L2 ?_))); (rw [yshl_mk (show b' < 16 by omega)]))
      exact hk
    · have hz : zmk (fun q => decide (q < n) && zod 0 a b' p q) = 0 := by
        rw [zmk_0]
        exact zmk_ext fun q _ => by
          show (decide (q < n) && decide (p = a ∧ q = b')) = _
          rw [decide_eq_false (show ¬ (p = a ∧ q = b') from fun y => w y.1), Bool.and_false]
      rw [hz] at hk
      ((with_reducible refine i_Seq (i_If (i_cI_eq (i_L0 (i_I ?_))))); (with_reducible refine i_f (by omega) ?_); (with_reducible refine i_Seq (i_If (i_cI_ne (i_L3 (i_L1 ?_))))); (with_reducible refine i_t (by omega) ?_); (with_reducible refine i_RetI (i_I ?_)))
      exact hk
  · have e : kind = 1 := by omega
    subst e
    by_cases w : p = a
    · have hz : zmk (fun q => decide (q < n) && zod 1 a b' p q) = zmk (fun q => decide (q < n) && !decide (q = a)) := zmk_ext fun q _ => by
        show (decide (q < n) && decide (p = a ∧ q ≠ a)) = _
        by_cases z : q = a
        · rw [decide_eq_false (show ¬ (p = a ∧ q ≠ a) from fun y => y.2 z), decide_eq_true z, Bool.and_false]; simp
        · rw [decide_eq_true (show p = a ∧ q ≠ a from ⟨w, z⟩), decide_eq_false z]; rfl
      rw [hz] at hk
      ((with_reducible refine i_Seq (i_If (i_cI_eq (i_L0 (i_I ?_))))); (rw [hall]); (with_reducible refine i_f (by omega) ?_); (with_reducible refine i_Seq (i_If (i_cI_ne (i_L3 (i_L1 ?_))))); (with_reducible refine i_f (by omega) ?_); (with_reducible refine i_RetI (i_eIf (i_cZ_eq (i_L0 ?_)))); (with_reducible refine i_f (by omega) ?_); (with_reducible refine i_And (i_L4 (i_Xor (i_Shl (i_I (i_L1 (i_I ?_))))))); (rw [yshl_mk (show a < 16 by omega)]); (rw [ynot_mk]))
      exact hk
    · have hz : zmk (fun q => decide (q < n) && zod 1 a b' p q) = 0 := by
        rw [zmk_0]
        exact zmk_ext fun q _ => by
          show (decide (q < n) && decide (p = a ∧ q ≠ a)) = _
          rw [decide_eq_false (show ¬ (p = a ∧ q ≠ a) from fun y => w y.1), Bool.and_false]
      rw [hz] at hk
      ((with_reducible refine i_Seq (i_If (i_cI_eq (i_L0 (i_I ?_))))); (with_reducible refine i_f (by omega) ?_); (with_reducible refine i_Seq (i_If (i_cI_ne (i_L3 (i_L1 ?_))))); (with_reducible refine i_t (by omega) ?_); (with_reducible refine i_RetI (i_I ?_)))
      exact hk
  · have ha := za_mk (zQ2 hn h2)
    have e1 := yand_1 (fun i => a.testBit i) (k := p) (by omega)
    have hz : (fun q => decide (q < n) && zod 2 a b' p q) = fun q => decide (q < n) && (a.testBit p && !a.testBit q) := rfl
    rw [hz] at hk
    cases hx : a.testBit p
    · rw [hx] at hk
      rw [hx, if_neg (by decide)] at e1
      have hz2 : zmk (fun q => decide (q < n) && (false && !a.testBit q)) = 0 := by
        rw [zmk_0]
        exact zmk_ext fun q _ => by rw [Bool.false_and, Bool.and_false]
      rw [hz2] at hk
      ((with_reducible refine i_Seq (i_If (i_cI_eq (i_L0 (i_I ?_))))); (rw [ha]); (with_reducible refine i_t (by omega) ?_); (with_reducible refine i_RetI (i_eIf (i_cI_eq (i_And (i_Shr (i_L1 (i_L3 (i_I (i_I ?_))))))))); (rw [e1]); (with_reducible refine i_f (by omega) ?_); (with_reducible refine i_I ?_))
      exact hk
    · rw [hx] at hk
      rw [hx, if_pos rfl] at e1
      ((with_reducible refine i_Seq (i_If (i_cI_eq (i_L0 (i_I ?_))))); (rw [ha]); (rw [hall]); (with_reducible refine i_t (by omega) ?_); (with_reducible refine i_RetI (i_eIf (i_cI_eq (i_And (i_Shr (i_L1 (i_L3 (i_I (i_I ?_))))))))); (rw [e1]); simp only [w_set0, w_set1, w_setn0, w_setn1]; (with_reducible refine i_t trivial ?_); (with_reducible refine i_And (i_L4 (i_Xor (i_L1 (i_I ?_))))); (rw [ynot_mk]))
      exact hk
theorem c_countAsked {O : zOm} (hO : zWld O) (hS : zS O = zmS zC0) {c p r : Nat} {M : zMem} {K : Option zV → zMem → Prop} (hc : M ((134 : Nat) : Int) ((7 : Nat) : Int) = ((c : Nat) : Int)) (hc2 : c < 120) (hr : M ((138 : Nat) : Int) ((p : Nat) : Int) = ((r : Nat) : Int)) (hp : p < 512) (hr2 : r ≤ 1000)
    (hk : ∀ M', (∀ b j, ¬ (b = ((134 : Nat) : Int) ∧ j = 7 ∨ b = ((138 : Nat) : Int) ∧ j = ((p : Nat) : Int) ∨ b = ((140 : Nat) : Int) ∧ j = ((c : Nat) : Int)) → M' b j = M b j) → M' ((138 : Nat) : Int) ((p : Nat) : Int) = ((r + 1 : Nat) : Int) → (r ≠ 0 → M' ((134 : Nat) : Int) ((7 : Nat) : Int) = ((c : Nat) : Int) ∧ M' ((140 : Nat) : Int) ((c : Nat) : Int) = M ((140 : Nat) : Int) ((c : Nat) : Int)) → (r = 0 → M' ((134 : Nat) : Int) ((7 : Nat) : Int) = ((c + 1 : Nat) : Int) ∧ M' ((140 : Nat) : Int) ((c : Nat) : Int) = ((p : Nat) : Int)) → K none M') : zR O F_Sorts_countAsked [(2, ((134 : Nat) : Int)), (0, ((p : Nat) : Int))] M K := by
  obtain ⟨⟨s0, s1, s2, s3, s4, s5, s6, s7, s8⟩, -, ⟨t1, t2, t3, t4, t5, t6, t7⟩⟩ := zO134_ok hS
  apply r_Sorts_countAsked hO
  unfold B_Sorts_countAsked
  by_cases hr0 : r = 0
  · subst hr0
    ((with_reducible refine i_Seq (i_Seq (i_If (i_cAnd (i_cZ_eq (i_IA (i_FR (i_A0 ?_)))))))); (with_reducible refine i_fldR (by assumption) ?_); (with_reducible refine i_L1 ?_); (with_reducible refine i_in (by assumption) (by omega) (by omega) ?_); (rw [hr]); (with_reducible refine i_t (by omega) ?_); (with_reducible refine i_cI_lt (i_F (i_A0 ?_))); (with_reducible refine i_fld (by assumption) ?_); (with_reducible refine i_I ?_); (rw [hc]); (with_reducible refine i_t (by omega) ?_); (with_reducible refine i_Seq (i_sIA (i_FR (i_A0 ?_)))); (with_reducible refine i_fldR (by assumption) ?_); (with_reducible refine i_F (i_A0 ?_)); (with_reducible refine i_fld (by assumption) ?_); (with_reducible refine i_L1 ?_); (with_reducible refine i_in (by assumption) (by omega) (by omega) ?_); (with_reducible refine i_FO (i_A0 ?_)); (with_reducible refine i_fld (by assumption) ?_); (with_reducible refine i_I ?_); (with_reducible refine i_fld (by assumption) ?_); (with_reducible refine i_IO (i_FR (i_A0 ?_))); (with_reducible refine i_fldR (by assumption) ?_); (with_reducible refine i_L1 ?_); (with_reducible refine i_in (by assumption) (by omega) (by omega) ?_); (with_reducible refine i_I (i_RetV ?_)); rw [zg_n _ _ _ (by omega)]; rw [zg_n _ _ _ (by omega)]; rw [zg_n _ _ _ (by omega)]; (rw [hr]); (rw [hc]); rw [zx_inc (by omega)]; rw [zx_inc (by omega)])
    exact hk _ (fun b j q => by rw [zg_o _ _ (by omega), zg_o _ _ (by omega), zg_o _ _ (by omega)]) (by rw [zg_s]) (fun z => absurd rfl z) (fun _ => ⟨by rw [zg_n _ _ _ (by omega)]; exact zg_s _ _ _ _ _, by rw [zg_n _ _ _ (by omega), zg_n _ _ _ (by omega)]; exact zg_s _ _ _ _ _⟩)
  · ((with_reducible refine i_Seq (i_Seq (i_If (i_cAnd (i_cZ_eq (i_IA (i_FR (i_A0 ?_)))))))); (with_reducible refine i_fldR (by assumption) ?_); (with_reducible refine i_L1 ?_); (with_reducible refine i_in (by assumption) (by omega) (by omega) ?_); (rw [hr]); (with_reducible refine i_f (by omega) ?_); (with_reducible refine i_IO (i_FR (i_A0 ?_))); (with_reducible refine i_fldR (by assumption) ?_); (with_reducible refine i_L1 ?_); (with_reducible refine i_in (by assumption) (by omega) (by omega) ?_); (with_reducible refine i_I (i_RetV ?_)); (rw [hr]); rw [zx_inc (by omega)])
    exact hk _ (fun b j q => by rw [zg_o _ _ (by omega)]) (by rw [zg_s]) (fun _ => ⟨by rw [zg_n _ _ _ (by omega)]; exact hc, by rw [zg_n _ _ _ (by omega)]⟩) (fun z => absurd z hr0)
end
