/-! ===== what one word says: both sides ===== -/
def zWp (n : Nat) (A : zTl) (c p q : Nat) : Bool := decide (p < n ∧ q < n ∧ p ≠ q) &&
  (if c / 256 = 0 then decide (tf A p = c / 16 % 16 ∧ tf A q = c / 16 % 16) else if c / 256 = 1 then decide (tf A p = c / 16 % 16 ∧ tf A q = c % 16 ∨ tf A p = c % 16 ∧ tf A q = c / 16 % 16) else if c / 256 = 2 then decide (p = c / 16 % 16 ∧ tf A q = c % 16 ∨ q = c / 16 % 16 ∧ tf A p = c % 16) else zchn (fun _ _ => false) (tr A (c / 16 % 16)) 0 (zSz (tf A) n (c / 16 % 16) - 1) p q)
theorem zWp_s (n : Nat) (A : zTl) (c p q : Nat) : zWp n A c p q = zWp n A c q p := by
  unfold zWp
  rw [zchn_sym (S := fun _ _ => false) (fun _ _ => rfl) _ p q]
  congr 1
  · exact decide_eq_decide.mpr (by omega)
  · split
    · exact decide_eq_decide.mpr (by omega)
    · split
      · exact decide_eq_decide.mpr (by omega)
      · split
        · exact decide_eq_decide.mpr (by omega)
        · rfl
theorem zWp_reg (n : Nat) (A : zTl) (c : Nat) : zReg n (zWp n A c) := ⟨fun a b => zWp_s n A c a b, fun a => by unfold zWp; rw [decide_eq_false (by omega), Bool.false_and], fun a b h => by
  unfold zWp at h
  rw [Bool.and_eq_true, decide_eq_true_eq] at h
  exact h.1.1⟩
/-- a chain of words is of members of its box -/
theorem zchn_row {r : Nat → Nat} {k p q : Nat} (h : zchn (fun _ _ => false) r 0 k p q = true) : ∃ j, j < k ∧ ((p = r j ∧ q = r (j + 1)) ∨ (p = r (j + 1) ∧ q = r j)) := by
  induction k with
  | zero => cases h
  | succ k ih =>
    rw [zchn_su, Bool.or_eq_true, Bool.or_eq_true, Bool.and_eq_true, Bool.and_eq_true, decide_eq_true_eq, decide_eq_true_eq, decide_eq_true_eq, decide_eq_true_eq, Nat.zero_add] at h
    rcases h with (h | h) | h
    · obtain ⟨j, h1, h2⟩ := ih h
      exact ⟨j, by omega, h2⟩
    · exact ⟨k, by omega, Or.inl h⟩
    · exact ⟨k, by omega, Or.inr h⟩
theorem m_isOfWord {O : zOm} (hO : zWld O) (hS : zS O = zmS zC0) {t n c a b : Nat} {A : zTl} {M : zMem} {K : Option zV → zMem → Prop} (ht : t < 7) (hn2 : n ≤ 16) (hA : rTe M t n A) (hw : zTw n A) (hc : zWsn A c = true) (ha : a < n) (hb : b < n) (hab : a ≠ b) (h47 : M 250 ((47 : Nat) : Int) = ((c / 256 : Nat) : Int)) (h48 : M 250 ((48 : Nat) : Int) = ((c / 16 % 16 : Nat) : Int)) (h49 : M 250 ((49 : Nat) : Int) = zw2 c)
    (hk : K (some (0, zbI (zWp n A c a b))) M) : zR O F_Model_isOfWord [(2, 250), (0, ((t : Nat) : Int)), (0, ((a : Nat) : Int)), (0, ((b : Nat) : Int))] M K := by
  obtain ⟨i1, i2, i3, i4⟩ := zWs_in hn2 hw hc
  have hm := hw.1.1
  have ga := hA.1.2.1 a ha
  have gb := hA.1.2.1 b hb
  have fa := hw.f16 a ha
  have fb := hw.f16 b hb
  unfold zWp at hk
  rw [decide_eq_true (show a < n ∧ b < n ∧ a ≠ b from ⟨ha, hb, hab⟩), Bool.true_and] at hk
  unfold zw2 at h49
  have hrw : ∀ k, k < zSz (tf A) n (c / 16 % 16) → c / 256 = 3 → M ((261 : Nat) : Int) ((256 * t + 16 * (c / 16 % 16) + k : Nat) : Int) = ((tr A (c / 16 % 16) k : Nat) : Int) := fun k h1 h2 => hA.2.2.1 _ k (i4 (by omega)).2.1 h1
  have hsz := hA.1.2.2 (c / 16 % 16) (by omega)
  have hsl := zSz_le (tf A) n (c / 16 % 16)
  have hmem : ∀ k, k < zSz (tf A) n (c / 16 % 16) → c / 256 = 3 → tf A (tr A (c / 16 % 16) k) = c / 16 % 16 := fun k h1 h2 => (hw.2.1 _ k (i4 (by omega)).2.1 h1).2.1
  have hrn : ∀ k, k < zSz (tf A) n (c / 16 % 16) → c / 256 = 3 → tr A (c / 16 % 16) k < n := fun k h1 h2 => (hw.2.1 _ k (i4 (by omega)).2.1 h1).1
  have hc4 : c < 1024 := by
    rcases Nat.lt_or_ge c 768 with h | h
    · omega
    · exact (i4 h).1
  generalize hx : c / 16 % 16 = x at hk h48 hrw hsz hsl hmem hrn
  generalize hsx : zSz (tf A) n x = s at hk hrw hsz hsl hmem hrn
  generalize hfa : tf A a = u at hk ga fa
  generalize hfb : tf A b = v at hk gb fb
  apply r_Model_isOfWord hO
  unfold B_Model_isOfWord
  have f13 := zMF (k := 13) hS rfl; have a259 := zMA (a := 259) (ty := .int) (n := 112) hS rfl; have f47 := zMF (k := 47) hS rfl; have f48 := zMF (k := 48) hS rfl; have f49 := zMF (k := 49) hS rfl; have f14 := zMF (k := 14) hS rfl; have a260 := zMA (a := 260) (ty := .int) (n := 112) hS rfl; have f15 := zMF (k := 15) hS rfl; have a261 := zMA (a := 261) (ty := .int) (n := 1792) hS rfl; have zo := zMO hS
  rcases (show c / 256 = 0 ∨ c / 256 = 1 ∨ c / 256 = 2 ∨ c / 256 = 3 by omega) with e | e | e | e
  · rw [e] at h47
    rw [if_pos e] at hk
    (focus ((with_reducible refine i_Seq (i_Set (i_IA (i_FR (i_A0 ?_))))); (with_reducible refine i_fldR (by assumption) ?_); (with_reducible refine i_Add (i_Mul (i_I (i_L1 (i_L2 ?_))))); rw [zx_cmul (by omega)]; rw [zx_add (by omega)]; (with_reducible refine i_in (by assumption) (by omega) (by omega) ?_); (with_reducible refine i_Seq (i_Set (i_IA (i_FR ?_)))); (rw [ga]); simp only [w_set0, w_set1, w_setn0, w_setn1]; (with_reducible refine i_A0 ?_); (with_reducible refine i_fldR (by assumption) ?_); (with_reducible refine i_Add (i_Mul (i_I (i_L1 (i_L3 ?_))))); rw [zx_cmul (by omega)]; rw [zx_add (by omega)]; (with_reducible refine i_in (by assumption) (by omega) (by omega) ?_); (with_reducible refine i_Seq (i_If (i_cZ_eq (i_F ?_)))); (rw [gb]); simp only [w_set0, w_set1, w_setn0, w_setn1]; (with_reducible refine i_A0 ?_); (with_reducible refine i_fld (by assumption) ?_); (rw [h47]); (with_reducible refine i_t (by omega) ?_); (with_reducible refine i_RetZ (i_eIf (i_cAnd (i_cI_eq (i_L4 (i_F (i_A0 ?_))))))); (with_reducible refine i_fld (by assumption) ?_); (rw [h48]); (with_reducible refine i_br ?_ ?_ <;> intro hc); (focus ((with_reducible refine i_cI_eq (i_L5 (i_F (i_A0 ?_)))); (with_reducible refine i_fld (by assumption) ?_); (rw [h48]); (with_reducible refine i_br ?_ ?_ <;> intro hc); (focus ((with_reducible refine i_I ?_); (with_reducible refine i_z (Or.inr rfl) ?_))); rotate_left; (focus ((with_reducible refine i_I ?_); (with_reducible refine i_z (Or.inl rfl) ?_))); rotate_right)); rotate_left 2; (focus ((with_reducible refine i_I ?_); (with_reducible refine i_z (Or.inl rfl) ?_))); rotate_right 2))
    all_goals first | (rw [decide_eq_true (by omega)] at hk; exact hk) | (rw [decide_eq_false (by omega)] at hk; exact hk) | (exfalso; omega)
  · rw [e] at h47
    rw [if_neg (by omega), if_pos e] at hk
    rw [if_pos (by omega)] at h49
    (focus ((with_reducible refine i_Seq (i_Set (i_IA (i_FR (i_A0 ?_))))); (with_reducible refine i_fldR (by assumption) ?_); (with_reducible refine i_Add (i_Mul (i_I (i_L1 (i_L2 ?_))))); rw [zx_cmul (by omega)]; rw [zx_add (by omega)]; (with_reducible refine i_in (by assumption) (by omega) (by omega) ?_); (with_reducible refine i_Seq (i_Set (i_IA (i_FR ?_)))); (rw [ga]); simp only [w_set0, w_set1, w_setn0, w_setn1]; (with_reducible refine i_A0 ?_); (with_reducible refine i_fldR (by assumption) ?_); (with_reducible refine i_Add (i_Mul (i_I (i_L1 (i_L3 ?_))))); rw [zx_cmul (by omega)]; rw [zx_add (by omega)]; (with_reducible refine i_in (by assumption) (by omega) (by omega) ?_); (with_reducible refine i_Seq (i_If (i_cZ_eq (i_F ?_)))); (rw [gb]); simp only [w_set0, w_set1, w_setn0, w_setn1]; (with_reducible refine i_A0 ?_); (with_reducible refine i_fld (by assumption) ?_); (rw [h47]); (with_reducible refine i_f (by omega) ?_); (with_reducible refine i_Seq (i_If (i_cI_eq (i_F (i_A0 ?_))))); (with_reducible refine i_fld (by assumption) ?_); (with_reducible refine i_I ?_); (rw [h47]); (with_reducible refine i_t (by omega) ?_); (with_reducible refine i_RetZ (i_eIf (i_cOr (i_cAnd (i_cI_eq (i_L4 (i_F (i_A0 ?_)))))))); (with_reducible refine i_fld (by assumption) ?_); (rw [h48]); (with_reducible refine i_br ?_ ?_ <;> intro hc); (focus ((with_reducible refine i_cI_eq (i_L5 (i_F (i_A0 ?_)))); (with_reducible refine i_fld (by assumption) ?_); (rw [h49]); (with_reducible refine i_br ?_ ?_ <;> intro hc); (focus ((with_reducible refine i_I ?_); (with_reducible refine i_z (Or.inr rfl) ?_))); rotate_left; (focus ((with_reducible refine i_cAnd (i_cI_eq (i_L4 (i_F (i_A0 ?_))))); (with_reducible refine i_fld (by assumption) ?_); (rw [h49]); (with_reducible refine i_f (by omega) ?_); (with_reducible refine i_I ?_); (with_reducible refine i_z (Or.inl rfl) ?_))); rotate_right)); rotate_left 2; (focus ((with_reducible refine i_cAnd (i_cI_eq (i_L4 (i_F (i_A0 ?_))))); (with_reducible refine i_fld (by assumption) ?_); (rw [h49]); (with_reducible refine i_br ?_ ?_ <;> intro hc); (focus ((with_reducible refine i_cI_eq (i_L5 (i_F (i_A0 ?_)))); (with_reducible refine i_fld (by assumption) ?_); (rw [h48]); (with_reducible refine i_br ?_ ?_ <;> intro hc); (focus ((with_reducible refine i_I ?_); (with_reducible refine i_z (Or.inr rfl) ?_))); rotate_left; (focus ((with_reducible refine i_I ?_); (with_reducible refine i_z (Or.inl rfl) ?_))); rotate_right)); rotate_left 2; (focus ((with_reducible refine i_I ?_); (with_reducible refine i_z (Or.inl rfl) ?_))); rotate_right 2)); rotate_right 2))
    all_goals first | (rw [decide_eq_true (by omega)] at hk; exact hk) | (rw [decide_eq_false (by omega)] at hk; exact hk) | (exfalso; omega)
  · rw [e] at h47
    rw [if_neg (by omega), if_neg (by omega), if_pos e] at hk
    rw [if_pos (by omega)] at h49
    (focus ((with_reducible refine i_Seq (i_Set (i_IA (i_FR (i_A0 ?_))))); (with_reducible refine i_fldR (by assumption) ?_); (with_reducible refine i_Add (i_Mul (i_I (i_L1 (i_L2 ?_))))); rw [zx_cmul (by omega)]; rw [zx_add (by omega)]; (with_reducible refine i_in (by assumption) (by omega) (by omega) ?_); (with_reducible refine i_Seq (i_Set (i_IA (i_FR ?_)))); (rw [ga]); simp only [w_set0, w_set1, w_setn0, w_setn1]; (with_reducible refine i_A0 ?_); (with_reducible refine i_fldR (by assumption) ?_); (with_reducible refine i_Add (i_Mul (i_I (i_L1 (i_L3 ?_))))); rw [zx_cmul (by omega)]; rw [zx_add (by omega)]; (with_reducible refine i_in (by assumption) (by omega) (by omega) ?_); (with_reducible refine i_Seq (i_If (i_cZ_eq (i_F ?_)))); (rw [gb]); simp only [w_set0, w_set1, w_setn0, w_setn1]; (with_reducible refine i_A0 ?_); (with_reducible refine i_fld (by assumption) ?_); (rw [h47]); (with_reducible refine i_f (by omega) ?_); (with_reducible refine i_Seq (i_If (i_cI_eq (i_F (i_A0 ?_))))); (with_reducible refine i_fld (by assumption) ?_); (with_reducible refine i_I ?_); (rw [h47]); (with_reducible refine i_f (by omega) ?_); (with_reducible refine i_Seq (i_If (i_cI_eq (i_F (i_A0 ?_))))); (with_reducible refine i_fld (by assumption) ?_); (with_reducible refine i_I ?_); (rw [h47]); (with_reducible refine i_t (by omega) ?_); (with_reducible refine i_RetZ (i_eIf (i_cOr (i_cAnd (i_cI_eq (i_L2 (i_F (i_A0 ?_)))))))); (with_reducible refine i_fld (by assumption) ?_); (rw [h48]); (with_reducible refine i_br ?_ ?_ <;> intro hc); (focus ((with_reducible refine i_cI_eq (i_L5 (i_F (i_A0 ?_)))); (with_reducible refine i_fld (by assumption) ?_); (rw [h49]); (with_reducible refine i_br ?_ ?_ <;> intro hc); (focus ((with_reducible refine i_I ?_); (with_reducible refine i_z (Or.inr rfl) ?_))); rotate_left; (focus ((with_reducible refine i_cAnd (i_cI_eq (i_L3 (i_F (i_A0 ?_))))); (with_reducible refine i_fld (by assumption) ?_); (rw [h48]); (with_reducible refine i_f (by omega) ?_); (with_reducible refine i_I ?_); (with_reducible refine i_z (Or.inl rfl) ?_))); rotate_right)); rotate_left 2; (focus ((with_reducible refine i_cAnd (i_cI_eq (i_L3 (i_F (i_A0 ?_))))); (with_reducible refine i_fld (by assumption) ?_); (rw [h48]); (with_reducible refine i_br ?_ ?_ <;> intro hc); (focus ((with_reducible refine i_cI_eq (i_L4 (i_F (i_A0 ?_)))); (with_reducible refine i_fld (by assumption) ?_); (rw [h49]); (with_reducible refine i_br ?_ ?_ <;> intro hc); (focus ((with_reducible refine i_I ?_); (with_reducible refine i_z (Or.inr rfl) ?_))); rotate_left; (focus ((with_reducible refine i_I ?_); (with_reducible refine i_z (Or.inl rfl) ?_))); rotate_right)); rotate_left 2; (focus ((with_reducible refine i_I ?_); (with_reducible refine i_z (Or.inl rfl) ?_))); rotate_right 2)); rotate_right 2))
    all_goals first | (rw [decide_eq_true (by omega)] at hk; exact hk) | (rw [decide_eq_false (by omega)] at hk; exact hk) | (exfalso; omega)
  · rw [e] at h47
    rw [if_neg (by omega), if_neg (by omega), if_neg (by omega)] at hk
    by_cases hu : u = x ∧ v = x
    · obtain ⟨rfl, rfl⟩ := hu
      ((with_reducible refine i_Seq (i_Set (i_IA (i_FR (i_A0 ?_))))); (with_reducible refine i_fldR (by assumption) ?_); (with_reducible refine i_Add (i_Mul (i_I (i_L1 (i_L2 ?_))))); rw [zx_cmul (by omega)]; rw [zx_add (by omega)]; (with_reducible refine i_in (by assumption) (by omega) (by omega) ?_); (with_reducible refine i_Seq (i_Set (i_IA (i_FR ?_)))); (rw [ga]); simp only [w_set0, w_set1, w_setn0, w_setn1]; (with_reducible refine i_A0 ?_); (with_reducible refine i_fldR (by assumption) ?_); (with_reducible refine i_Add (i_Mul (i_I (i_L1 (i_L3 ?_))))); rw [zx_cmul (by omega)]; rw [zx_add (by omega)]; (with_reducible refine i_in (by assumption) (by omega) (by omega) ?_); (with_reducible refine i_Seq (i_If (i_cZ_eq (i_F ?_)))); (rw [gb]); simp only [w_set0, w_set1, w_setn0, w_setn1]; (with_reducible refine i_A0 ?_); (with_reducible refine i_fld (by assumption) ?_); (rw [h47]); (with_reducible refine i_f (by omega) ?_); (with_reducible refine i_Seq (i_If (i_cI_eq (i_F (i_A0 ?_))))); (with_reducible refine i_fld (by assumption) ?_); (with_reducible refine i_I ?_); (rw [h47]); (with_reducible refine i_f (by omega) ?_); (with_reducible refine i_Seq (i_If (i_cI_eq (i_F (i_A0 ?_))))); (with_reducible refine i_fld (by assumption) ?_); (with_reducible refine i_I ?_); (rw [h47]); (with_reducible refine i_f (by omega) ?_); (with_reducible refine i_Seq (i_If (i_cOr (i_cI_ne (i_L4 (i_F (i_A0 ?_))))))); (with_reducible refine i_fld (by assumption) ?_); (rw [h48]); (with_reducible refine i_f (by omega) ?_); (with_reducible refine i_cI_ne (i_L5 (i_F (i_A0 ?_)))); (with_reducible refine i_fld (by assumption) ?_); (rw [h48]); (with_reducible refine i_f (by omega) ?_); (with_reducible refine i_Seq (i_Blk (i_Seq (i_Set (i_I ?_))))); simp only [w_set0, w_set1, w_setn0, w_setn1])
      refine w_ForN (s - 1) (fun j ρ M' => (∃ l, ρ = 250 :: ((t : Nat) : Int) :: ((a : Nat) : Int) :: ((b : Nat) : Int) :: ((v : Nat) : Int) :: ((v : Nat) : Int) :: ((j + 1 : Nat) : Int) :: l) ∧ M' = M ∧ zchn (fun _ _ => false) (tr A v) 0 j a b = false) ⟨⟨_, rfl⟩, rfl, rfl⟩ ?_ ?_
      · rintro j ρ M1 X hj ⟨⟨l, rfl⟩, rfl, hno⟩ hX
        have r1 := hrw j (by omega) e
        have r2 := hrw (j + 1) (by omega) e
        rw [show 256 * t + 16 * v + j = 256 * t + 16 * v + (j + 1) - 1 by omega] at r1
        have hX2 : ∀ l, zchn (fun _ _ => false) (tr A v) 0 (j + 1) a b = false → X (250 :: ((t : Nat) : Int) :: ((a : Nat) : Int) :: ((b : Nat) : Int) :: ((v : Nat) : Int) :: ((v : Nat) : Int) :: ((j + 2 : Nat) : Int) :: l) M1 := fun l h => hX _ _ ⟨⟨l, rfl⟩, rfl, h⟩
        have hyes : zchn (fun _ _ => false) (tr A v) 0 (j + 1) a b = true → K (some (0, 1)) M1 := fun h => by
          have h2 : ∀ d, zchn (fun _ _ => false) (tr A v) 0 (j + 1 + d) a b = true := fun d => by
            induction d with
            | zero => exact h
            | succ d ih => rw [show j + 1 + (d + 1) = (j + 1 + d) + 1 by omega, zchn_su, ih]; rfl
          have h3 := h2 (s - 1 - (j + 1))
          rw [show j + 1 + (s - 1 - (j + 1)) = s - 1 by omega] at h3
          rw [h3] at hk
          exact hk
        have hst : zchn (fun _ _ => false) (tr A v) 0 (j + 1) a b = decide ((a = tr A v j ∧ b = tr A v (j + 1)) ∨ (a = tr A v (j + 1) ∧ b = tr A v j)) := by
          rw [zchn_su, hno, Nat.zero_add, Bool.false_or, Bool.eq_iff_iff]
          simp only [Bool.or_eq_true, Bool.and_eq_true, decide_eq_true_eq]
        rw [hst] at hX2 hyes
        simp only [decide_eq_true_eq, decide_eq_false_iff_not] at hX2 hyes
        clear hX hst hno hk
        generalize tr A v j = y at r1 hX2 hyes
        generalize tr A v (j + 1) = z at r2 hX2 hyes
        (focus ((with_reducible refine i_turn (i_cI_lt (i_L6 (i_IA (i_FR (i_A0 ?_)))))); (with_reducible refine i_fldR (by assumption) ?_); (with_reducible refine i_Add (i_Mul (i_I (i_L1 (i_L4 ?_))))); rw [zx_cmul (by omega)]; rw [zx_add (by omega)]; (with_reducible refine i_in (by assumption) (by omega) (by omega) ?_); (rw [hsz]); (with_reducible refine i_t (by omega) ?_); (with_reducible refine i_Blk (i_Seq (i_Set (i_IA (i_FR (i_A0 ?_)))))); (with_reducible refine i_fldR (by assumption) ?_); (with_reducible refine i_Sub (i_Add (i_Add (i_Mul (i_I (i_L1 (i_Mul (i_I (i_L4 (i_L6 (i_I ?_))))))))))); rw [zx_cmul (by omega)]; rw [zx_cmul (by omega)]; rw [zx_add (by omega)]; rw [zx_add (by omega)]; rw [zx_subc (by omega) (by omega)]; (with_reducible refine i_in (by assumption) (by omega) (by omega) ?_); (with_reducible refine i_Seq (i_Set (i_IA (i_FR ?_)))); (rw [r1]); simp only [w_set0, w_set1, w_setn0, w_setn1]; (with_reducible refine i_A0 ?_); (with_reducible refine i_fldR (by assumption) ?_); (with_reducible refine i_Add (i_Add (i_Mul (i_I (i_L1 (i_Mul (i_I (i_L4 (i_L6 ?_))))))))); rw [zx_cmul (by omega)]; rw [zx_cmul (by omega)]; rw [zx_add (by omega)]; rw [zx_add (by omega)]; (with_reducible refine i_in (by assumption) (by omega) (by omega) ?_); (with_reducible refine i_If (i_cOr (i_cAnd (i_cI_eq ?_)))); (rw [r2]); simp only [w_set0, w_set1, w_setn0, w_setn1]; rw [w_setT]; simp only [w_set0, w_set1, w_setn0, w_setn1]; (with_reducible refine i_L7 (i_L2 ?_)); rw [w_setT]; (with_reducible refine i_br ?_ ?_ <;> intro hc); (focus ((with_reducible refine i_cI_eq (i_L8 (i_L3 ?_))); (with_reducible refine i_br ?_ ?_ <;> intro hc); (focus ((with_reducible refine i_RetZ (i_I ?_)); (with_reducible refine i_z (Or.inr rfl) ?_))); rotate_left; (focus ((with_reducible refine i_cAnd (i_cI_eq (i_L7 (i_L3 ?_)))); (with_reducible refine i_f (by omega) ?_); (with_reducible refine i_up (i_Inc6 ?_)); rw [zx_inc (by omega)]; simp only [w_set0, w_set1, w_setn0, w_setn1])); rotate_right)); rotate_left 2; (focus ((with_reducible refine i_cAnd (i_cI_eq (i_L7 (i_L3 ?_)))); (with_reducible refine i_br ?_ ?_ <;> intro hc); (focus ((with_reducible refine i_cI_eq (i_L8 (i_L2 ?_))); (with_reducible refine i_br ?_ ?_ <;> intro hc); (focus ((with_reducible refine i_RetZ (i_I ?_)); (with_reducible refine i_z (Or.inr rfl) ?_))); rotate_left; (focus ((with_reducible refine i_up (i_Inc6 ?_)); rw [zx_inc (by omega)]; simp only [w_set0, w_set1, w_setn0, w_setn1])); rotate_right)); rotate_left 2; (focus ((with_reducible refine i_up (i_Inc6 ?_)); rw [zx_inc (by omega)]; simp only [w_set0, w_set1, w_setn0, w_setn1])); rotate_right 2)); rotate_right 2))
        all_goals first | exact hyes (by omega) | exact hX2 _ (by omega) | (exfalso; omega)
      · rintro ρ M1 X ⟨⟨l, rfl⟩, rfl, hno⟩
        rw [hno] at hk
        ((with_reducible refine i_turn (i_cI_lt (i_L6 (i_IA (i_FR (i_A0 ?_)))))); (with_reducible refine i_fldR (by assumption) ?_); (with_reducible refine i_Add (i_Mul (i_I (i_L1 (i_L4 ?_))))); rw [zx_cmul (by omega)]; rw [zx_add (by omega)]; (with_reducible refine i_in (by assumption) (by omega) (by omega) ?_); (rw [hsz]); (with_reducible refine i_f (by omega) ?_); (with_reducible refine i_RetZ (i_I ?_)); (with_reducible refine i_z (Or.inl rfl) ?_))
        exact hk
    · have hz : zchn (fun _ _ => false) (tr A x) 0 (s - 1) a b = false := by
        cases e2 : zchn (fun _ _ => false) (tr A x) 0 (s - 1) a b
        · rfl
        · obtain ⟨j, j1, j2⟩ := zchn_row e2
          have m1 := hmem j (by omega) e
          have m2 := hmem (j + 1) (by omega) e
          rcases j2 with ⟨rfl, rfl⟩ | ⟨rfl, rfl⟩
          · exact absurd ⟨by rw [← hfa]; exact m1, by rw [← hfb]; exact m2⟩ hu
          · exact absurd ⟨by rw [← hfa]; exact m2, by rw [← hfb]; exact m1⟩ hu
      rw [hz] at hk
      (focus ((with_reducible refine i_Seq (i_Set (i_IA (i_FR (i_A0 ?_))))); (with_reducible refine i_fldR (by assumption) ?_); (with_reducible refine i_Add (i_Mul (i_I (i_L1 (i_L2 ?_))))); rw [zx_cmul (by omega)]; rw [zx_add (by omega)]; (with_reducible refine i_in (by assumption) (by omega) (by omega) ?_); (with_reducible refine i_Seq (i_Set (i_IA (i_FR ?_)))); (rw [ga]); simp only [w_set0, w_set1, w_setn0, w_setn1]; (with_reducible refine i_A0 ?_); (with_reducible refine i_fldR (by assumption) ?_); (with_reducible refine i_Add (i_Mul (i_I (i_L1 (i_L3 ?_))))); rw [zx_cmul (by omega)]; rw [zx_add (by omega)]; (with_reducible refine i_in (by assumption) (by omega) (by omega) ?_); (with_reducible refine i_Seq (i_If (i_cZ_eq (i_F ?_)))); (rw [gb]); simp only [w_set0, w_set1, w_setn0, w_setn1]; (with_reducible refine i_A0 ?_); (with_reducible refine i_fld (by assumption) ?_); (rw [h47]); (with_reducible refine i_f (by omega) ?_); (with_reducible refine i_Seq (i_If (i_cI_eq (i_F (i_A0 ?_))))); (with_reducible refine i_fld (by assumption) ?_); (with_reducible refine i_I ?_); (rw [h47]); (with_reducible refine i_f (by omega) ?_); (with_reducible refine i_Seq (i_If (i_cI_eq (i_F (i_A0 ?_))))); (with_reducible refine i_fld (by assumption) ?_); (with_reducible refine i_I ?_); (rw [h47]); (with_reducible refine i_f (by omega) ?_); (with_reducible refine i_Seq (i_If (i_cOr (i_cI_ne (i_L4 (i_F (i_A0 ?_))))))); (with_reducible refine i_fld (by assumption) ?_); (rw [h48]); (with_reducible refine i_br ?_ ?_ <;> intro hc); (focus ((with_reducible refine i_RetZ (i_I ?_)); (with_reducible refine i_z (Or.inl rfl) ?_))); rotate_left; (focus ((with_reducible refine i_cI_ne (i_L5 (i_F (i_A0 ?_)))); (with_reducible refine i_fld (by assumption) ?_); (rw [h48]); (with_reducible refine i_t (by omega) ?_); (with_reducible refine i_RetZ (i_I ?_)); (with_reducible refine i_z (Or.inl rfl) ?_))); rotate_right))
      all_goals first | exact hk | (exfalso; omega)
theorem c_say {O : zOm} (hO : zWld O) {x y n c : Nat} {A : zTl} {M : zMem} {K : Option zV → zMem → Prop} (hx : zTeC (zS O) x) (hy : zNet (zS O) y) (hyx : y + 1 < x ∨ x + 12 < y) (hn2 : n ≤ 16) (hA : zTR M x n A) (hw : zTw n A) (hc : zWsn A c = true) (hN : zNR M y n (fun _ _ => false))
    (hk : ∀ M', (∀ b j, ¬ b = ((y + 1 : Nat) : Int) → M' b j = M b j) → zNR M' y n (zWp n A c) → K none M') : zR O F_Telling_say [(2, ((x : Nat) : Int)), (0, ((c : Nat) : Int)), (2, ((y : Nat) : Int))] M K := by
  obtain ⟨⟨o, x0, x1, x2, x3, x4, x5, x6⟩, ⟨xa, xb⟩, hP, ⟨n7, n9, n11⟩⟩ := hx
  have hP0 := hP
  obtain ⟨p0, p1, p2, p3, p4, p5, p6, p7, p8⟩ := hP
  have hy4 := hy.2.2.2
  obtain ⟨i1, i2, i3, i4⟩ := zWs_in hn2 hw hc
  have hm := hw.1.1
  have hPR := hA.1
  obtain ⟨m1, m2, m3, m4⟩ := hPR
  have hc4 : c < 1024 := by
    rcases Nat.lt_or_ge c 768 with h | h
    · omega
    · exact (i4 h).1
  have hf := hw.f16
  apply r_Telling_say hO
  unfold B_Telling_say
  rcases (show c / 256 = 0 ∨ c / 256 = 1 ∨ c / 256 = 2 ∨ c / 256 = 3 by omega) with e | e | e | e
  · have g1 := m4 (c / 16 % 16) (by have := i1 (by omega); omega)
    ((with_reducible refine i_Seq (i_Seq (i_Set (i_Call (i_as1 (i_L1 (i_as0 (i_recv1 ?_)))))))); (refine c_firstOf hO hc4 ⟨_, rfl, ?_⟩); (with_reducible refine i_Seq (i_Set (i_Call (i_as1 ?_)))); simp only [w_set0, w_set1, w_setn0, w_setn1]; (with_reducible refine i_L1 (i_as0 (i_recv1 ?_))); (refine c_secondOf hO hc4 ⟨_, rfl, ?_⟩); (with_reducible refine i_Sw (i_Call (i_as1 ?_))); simp only [w_set0, w_set1, w_setn0, w_setn1]; (with_reducible refine i_L1 (i_as0 (i_recv1 ?_))); (refine c_kindOf hO hc4 ⟨_, rfl, ?_⟩); (with_reducible refine i_sw1 ?_); (rw [e]); (refine i_t (by decide) ?_); (with_reducible refine i_Seq (i_sCall (i_as1 (i_A2 (i_as1 (i_IA (i_FR (i_FR (i_A0 ?_))))))))); (with_reducible refine i_fldR (by assumption) ?_); (with_reducible refine i_fldR (by assumption) ?_); (with_reducible refine i_L3 ?_); (with_reducible refine i_in (by assumption) (by omega) (by omega) ?_); (with_reducible refine i_as1 (i_IA (i_FR (i_FR (i_A0 ?_))))); (with_reducible refine i_fldR (by assumption) ?_); (with_reducible refine i_fldR (by assumption) ?_); (with_reducible refine i_L3 ?_); (with_reducible refine i_in (by assumption) (by omega) (by omega) ?_); (with_reducible refine i_as0 ?_); (with_reducible refine i_recv0 (by assumption) ?_); (rw [g1]))
    refine s_Net_cross hO hy hN hn2 (fun M1 f1 h1 => ⟨rfl, ?_⟩)
    (with_reducible refine i_Brk (i_lb0 (i_RetV ?_)))
    refine hk M1 (fun b j q => by rw [f1 b (by simp <;> omega)]) (h1.ext (fun p q hp hq => ?_))
    unfold zcrs zWp
    rw [if_pos e, Bool.eq_iff_iff]
    simp only [Bool.or_eq_true, Bool.and_eq_true, decide_eq_true_eq, Bool.not_eq_true', decide_eq_false_iff_not, Bool.false_eq_true, false_or]
    omega
  · have i2' := i2 (by omega) (by omega)
    have g1 := m4 (c / 16 % 16) (by omega)
    have g2 := m4 (c % 16) (by omega)
    ((with_reducible refine i_Seq (i_Seq (i_Set (i_Call (i_as1 (i_L1 (i_as0 (i_recv1 ?_)))))))); (refine c_firstOf hO hc4 ⟨_, rfl, ?_⟩); (with_reducible refine i_Seq (i_Set (i_Call (i_as1 ?_)))); simp only [w_set0, w_set1, w_setn0, w_setn1]; (with_reducible refine i_L1 (i_as0 (i_recv1 ?_))); (refine c_secondOf hO hc4 ⟨_, rfl, ?_⟩); (with_reducible refine i_Sw (i_Call (i_as1 ?_))); simp only [w_set0, w_set1, w_setn0, w_setn1]; (with_reducible refine i_L1 (i_as0 (i_recv1 ?_))); (refine c_kindOf hO hc4 ⟨_, rfl, ?_⟩); (with_reducible refine i_sw1 ?_); (rw [e]); (refine i_f (by decide) ?_); (with_reducible refine i_sw1 ?_); (refine i_t (by decide) ?_); (with_reducible refine i_Seq (i_sCall (i_as1 (i_A2 (i_as1 (i_IA (i_FR (i_FR (i_A0 ?_))))))))); (with_reducible refine i_fldR (by assumption) ?_); (with_reducible refine i_fldR (by assumption) ?_); (with_reducible refine i_L3 ?_); (with_reducible refine i_in (by assumption) (by omega) (by omega) ?_); (with_reducible refine i_as1 (i_IA (i_FR (i_FR (i_A0 ?_))))); (with_reducible refine i_fldR (by assumption) ?_); (with_reducible refine i_fldR (by assumption) ?_); (with_reducible refine i_L4 ?_); (with_reducible refine i_in (by assumption) (by omega) (by omega) ?_); (with_reducible refine i_as0 ?_); (with_reducible refine i_recv0 (by assumption) ?_); (rw [g1]); (rw [g2]))
    refine s_Net_cross hO hy hN hn2 (fun M1 f1 h1 => ⟨rfl, ?_⟩)
    (with_reducible refine i_Brk (i_lb0 (i_RetV ?_)))
    refine hk M1 (fun b j q => by rw [f1 b (by simp <;> omega)]) (h1.ext (fun p q hp hq => ?_))
    unfold zcrs zWp
    rw [if_neg (by omega), if_pos e, Bool.eq_iff_iff]
    simp only [Bool.or_eq_true, Bool.and_eq_true, decide_eq_true_eq, Bool.not_eq_true', decide_eq_false_iff_not, Bool.false_eq_true, false_or]
    omega
  · have i3' := i3 (by omega) (by omega)
    have g2 := m4 (c % 16) (by omega)
    ((with_reducible refine i_Seq (i_Seq (i_Set (i_Call (i_as1 (i_L1 (i_as0 (i_recv1 ?_)))))))); (refine c_firstOf hO hc4 ⟨_, rfl, ?_⟩); (with_reducible refine i_Seq (i_Set (i_Call (i_as1 ?_)))); simp only [w_set0, w_set1, w_setn0, w_setn1]; (with_reducible refine i_L1 (i_as0 (i_recv1 ?_))); (refine c_secondOf hO hc4 ⟨_, rfl, ?_⟩); (with_reducible refine i_Sw (i_Call (i_as1 ?_))); simp only [w_set0, w_set1, w_setn0, w_setn1]; (with_reducible refine i_L1 (i_as0 (i_recv1 ?_))); (refine c_kindOf hO hc4 ⟨_, rfl, ?_⟩); (with_reducible refine i_sw1 ?_); (rw [e]); (refine i_f (by decide) ?_); (with_reducible refine i_sw1 ?_); (refine i_f (by decide) ?_); (with_reducible refine i_sw1 ?_); (refine i_t (by decide) ?_); (with_reducible refine i_Seq (i_sCall (i_as1 (i_A2 (i_as1 (i_Shl (i_I (i_L3 (i_as1 (i_IA (i_FR (i_FR (i_A0 ?_))))))))))))); (with_reducible refine i_fldR (by assumption) ?_); (with_reducible refine i_fldR (by assumption) ?_); (with_reducible refine i_L4 ?_); (with_reducible refine i_in (by assumption) (by omega) (by omega) ?_); (with_reducible refine i_as0 ?_); (with_reducible refine i_recv0 (by assumption) ?_); (rw [g2]); (rw [yshl_mk (by omega)]))
    refine s_Net_cross hO hy hN hn2 (fun M1 f1 h1 => ⟨rfl, ?_⟩)
    (with_reducible refine i_Brk (i_lb0 (i_RetV ?_)))
    refine hk M1 (fun b j q => by rw [f1 b (by simp <;> omega)]) (h1.ext (fun p q hp hq => ?_))
    unfold zcrs zWp
    rw [if_neg (by omega), if_neg (by omega), if_pos e, Bool.eq_iff_iff]
    simp only [Bool.or_eq_true, Bool.and_eq_true, decide_eq_true_eq, Bool.not_eq_true', decide_eq_false_iff_not, Bool.false_eq_true, false_or]
    omega
  · have i4' := i4 (by omega)
    have h1 : zSt0 (tf A) n (c / 16 % 16) + zSz (tf A) n (c / 16 % 16) ≤ zSt0 (tf A) n (c / 16 % 16 + 1) := zSt0_in (tf A) n (Nat.lt_succ_self (c / 16 % 16))
    have h2 := zSt0_le (tf A) n (c / 16 % 16 + 1)
    ((with_reducible refine i_Seq (i_Seq (i_Set (i_Call (i_as1 (i_L1 (i_as0 (i_recv1 ?_)))))))); (refine c_firstOf hO hc4 ⟨_, rfl, ?_⟩); (with_reducible refine i_Seq (i_Set (i_Call (i_as1 ?_)))); simp only [w_set0, w_set1, w_setn0, w_setn1]; (with_reducible refine i_L1 (i_as0 (i_recv1 ?_))); (refine c_secondOf hO hc4 ⟨_, rfl, ?_⟩); (with_reducible refine i_Sw (i_Call (i_as1 ?_))); simp only [w_set0, w_set1, w_setn0, w_setn1]; (with_reducible refine i_L1 (i_as0 (i_recv1 ?_))); (refine c_kindOf hO hc4 ⟨_, rfl, ?_⟩); (with_reducible refine i_sw1 ?_); (rw [e]); (refine i_f (by decide) ?_); (with_reducible refine i_sw1 ?_); (refine i_f (by decide) ?_); (with_reducible refine i_sw1 ?_); (refine i_f (by decide) ?_); (with_reducible refine i_sw0 (i_sCall (i_as1 (i_A2 (i_as1 (i_FR (i_A0 ?_))))))); (with_reducible refine i_fldR (by assumption) ?_); (with_reducible refine i_as1 (i_Call (i_as1 (i_FR (i_A0 ?_))))); (with_reducible refine i_fldR (by assumption) ?_); (with_reducible refine i_as1 (i_L3 (i_as0 ?_))); (with_reducible refine i_recv0 (by assumption) ?_); (refine c_startOf hO hP0 hA.1 hn2 hm (by omega) ⟨_, rfl, ?_⟩); (with_reducible refine i_as1 (i_Call (i_as1 (i_FR (i_A0 ?_))))); (with_reducible refine i_fldR (by assumption) ?_); (with_reducible refine i_as1 (i_L3 (i_as0 ?_))); (with_reducible refine i_recv0 (by assumption) ?_); (refine c_sizeOf hO hP0 hA.1 hn2 hm (by omega) ⟨_, rfl, ?_⟩); (with_reducible refine i_as0 ?_); (with_reducible refine i_recv0 (by assumption) ?_))
    refine s_Net_chain hO hy hN xa (w := fun i => tr A (c / 16 % 16) (i - zSt0 (tf A) n (c / 16 % 16))) (fun i j1 j2 => ?_) (fun i j1 j2 z => by
      (try dsimp only at z)
      rw [show i + 1 - zSt0 (tf A) n (c / 16 % 16) = i - zSt0 (tf A) n (c / 16 % 16) + 1 by omega] at z
      have := (hw.2.1 (c / 16 % 16) (i - zSt0 (tf A) n (c / 16 % 16)) i4'.2.1 (by omega)).2.2 (i - zSt0 (tf A) n (c / 16 % 16) + 1) (by omega) z.symm
      omega) (by omega) (by decide) (by omega) (fun M1 f1 h3 => ⟨rfl, ?_⟩)
    · have h4 := hA.2.1 (c / 16 % 16) (i - zSt0 (tf A) n (c / 16 % 16)) i4'.2.1 (by omega)
      rw [show zSt0 (tf A) n (c / 16 % 16) + (i - zSt0 (tf A) n (c / 16 % 16)) = i by omega] at h4
      have h5 := (hw.2.1 (c / 16 % 16) (i - zSt0 (tf A) n (c / 16 % 16)) i4'.2.1 (by omega)).1
      exact ⟨h4, by omega⟩
    · (with_reducible refine i_RetV ?_)
      refine hk M1 (fun b j q => by rw [f1 b (by simp <;> omega)]) (h3.ext (fun p q hp hq => ?_))
      rw [zchn_sh _ _ (tr A (c / 16 % 16)) _ _ (fun i _ => by show tr A (c / 16 % 16) _ = _; rw [show zSt0 (tf A) n (c / 16 % 16) + i - zSt0 (tf A) n (c / 16 % 16) = i by omega])]
      unfold zWp
      rw [if_neg (by omega), if_neg (by omega), if_neg (by omega)]
      cases e2 : zchn (fun _ _ => false) (tr A (c / 16 % 16)) 0 (zSz (tf A) n (c / 16 % 16) - 1) p q
      · rw [Bool.and_false]
      · obtain ⟨j, j1, j2⟩ := zchn_row e2
        obtain ⟨a1, a2, a3⟩ := hw.2.1 (c / 16 % 16) j i4'.2.1 (by omega)
        obtain ⟨b1, b2, b3⟩ := hw.2.1 (c / 16 % 16) (j + 1) i4'.2.1 (by omega)
        have hne : tr A (c / 16 % 16) j ≠ tr A (c / 16 % 16) (j + 1) := fun z => by
          have := a3 (j + 1) (by omega) z.symm
          omega
        rcases j2 with ⟨rfl, rfl⟩ | ⟨rfl, rfl⟩
        · rw [decide_eq_true (show _ ∧ _ ∧ _ from ⟨a1, b1, hne⟩)]; rfl
        · rw [decide_eq_true (show _ ∧ _ ∧ _ from ⟨b1, a1, Ne.symm hne⟩)]; rfl
