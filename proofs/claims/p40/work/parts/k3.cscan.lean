/-! ===== tokens of a text: the class ===== -/
theorem w_setT1 (v : Int) (l : zLoc) : zsetl l 1 v = zget l 0 :: v :: l.tail.tail := by
  cases l with
  | nil => rfl
  | cons a l => cases l <;> rfl
theorem zB8_sg {b : Nat} (h : b < 256) : zB8 (zsgB b) = b := by
  have h1 := zsgB_in h
  unfold zB8
  rw [zi_toInt ⟨by omega, by omega⟩]
  unfold zsgB
  split <;> omega
def zqv (k : Nat) : Nat := if k = 3 then 1887 else if k = 4 then 1960177 else if k = 5 then 1752773 else if k = 6 then 10277596 else if k = 7 then 388602 else if k = 8 then 10631 else 28959
def cQt (M : zMem) : Prop := ∀ k : Nat, 3 ≤ k → k ≤ 9 → M ((91 : Nat) : Int) ((k : Nat) : Int) = ((zqv k : Nat) : Int)
def cTp (M : zMem) (s : Nat) (B : Nat → Nat) : Prop := M ((86 : Nat) : Int) ((5 : Nat) : Int) = ((s : Nat) : Int) ∧ s ≤ 2000 ∧ ∀ i : Nat, i < s → M ((87 : Nat) : Int) ((i : Nat) : Int) = zsgB (B i) ∧ B i < 256
theorem cTp.to {M M' : zMem} {s : Nat} {B : Nat → Nat} (h : cTp M s B) (e : ∀ b j, b = ((86 : Nat) : Int) ∧ j = 5 ∨ b = ((87 : Nat) : Int) → M' b j = M b j) : cTp M' s B := ⟨by rw [e _ _ (by omega)]; exact h.1, h.2.1, fun i hi => by rw [e _ _ (by omega)]; exact h.2.2 i hi⟩
theorem c_sortOf {O : zOm} (hO : zWld O) (hS : zS O = zmS zC0) {k s : Nat} {B : Nat → Nat} {M : zMem} {K : Option zV → zMem → Prop} (hT : cTp M s B) (hk1 : k < s) (hk : K (some (0, ((zsr B s k : Nat) : Int))) M) : zR O F_Tape_sortOf [(2, ((86 : Nat) : Int)), (0, ((k : Nat) : Int))] M K := by
  obtain ⟨t1, t2, t3⟩ := hT
  obtain ⟨g1, g2⟩ := t3 k hk1
  rw [zsr_in hk1] at hk
  have g3 : yand (M ((87 : Nat) : Int) ((k : Nat) : Int)) 255 = ((B k : Nat) : Int) := by rw [g1, yand_255, zB8_sg g2]
  unfold zkcs at hk
  apply r_Tape_sortOf hO
  unfold B_Tape_sortOf
  have f86_0 := zf_86_0 hS; have a87 := zCA (a := 87) (ty := .byte) (n := 2000) hS rfl; have z86 := zo_86 hS
  generalize B k = c at hk g2 g3
  by_cases e0 : c = 9 ∨ c = 10 ∨ c = 13 ∨ c = 32
  · rw [if_pos e0] at hk
    rcases e0 with e | e | e | e
    · ((with_reducible refine i_Seq (i_Set (i_And (i_BA (i_FR (i_A0 ?_)))))); (with_reducible refine i_fldR (by assumption) ?_); (with_reducible refine i_L1 ?_); (with_reducible refine i_in (by assumption) (by omega) (by omega) ?_); (with_reducible refine i_I (i_Seq (i_If (i_cOr (i_cOr (i_cOr (i_cI_eq ?_))))))); (rw [g3]); simp only [w_set0, w_set1, w_setn0, w_setn1]; (with_reducible refine i_L2 (i_I ?_)); (with_reducible refine i_t (by omega) ?_); (with_reducible refine i_RetI (i_I ?_)))
      exact hk
    · ((with_reducible refine i_Seq (i_Set (i_And (i_BA (i_FR (i_A0 ?_)))))); (with_reducible refine i_fldR (by assumption) ?_); (with_reducible refine i_L1 ?_); (with_reducible refine i_in (by assumption) (by omega) (by omega) ?_); (with_reducible refine i_I (i_Seq (i_If (i_cOr (i_cOr (i_cOr (i_cI_eq ?_))))))); (rw [g3]); simp only [w_set0, w_set1, w_setn0, w_setn1]; (with_reducible refine i_L2 (i_I ?_)); (with_reducible refine i_f (by omega) ?_); (with_reducible refine i_cI_eq (i_L2 (i_I ?_))); (with_reducible refine i_t (by omega) ?_); (with_reducible refine i_RetI (i_I ?_)))
      exact hk
    · ((with_reducible refine i_Seq (i_Set (i_And (i_BA (i_FR (i_A0 ?_)))))); (with_reducible refine i_fldR (by assumption) ?_); (with_reducible refine i_L1 ?_); (with_reducible refine i_in (by assumption) (by omega) (by omega) ?_); (with_reducible refine i_I (i_Seq (i_If (i_cOr (i_cOr (i_cOr (i_cI_eq ?_))))))); (rw [g3]); simp only [w_set0, w_set1, w_setn0, w_setn1]; (with_reducible refine i_L2 (i_I ?_)); (with_reducible refine i_f (by omega) ?_); (with_reducible refine i_cI_eq (i_L2 (i_I ?_))); (with_reducible refine i_f (by omega) ?_); (with_reducible refine i_cI_eq (i_L2 (i_I ?_))); (with_reducible refine i_t (by omega) ?_); (with_reducible refine i_RetI (i_I ?_)))
      exact hk
    · ((with_reducible refine i_Seq (i_Set (i_And (i_BA (i_FR (i_A0 ?_)))))); (with_reducible refine i_fldR (by assumption) ?_); (with_reducible refine i_L1 ?_); (with_reducible refine i_in (by assumption) (by omega) (by omega) ?_); (with_reducible refine i_I (i_Seq (i_If (i_cOr (i_cOr (i_cOr (i_cI_eq ?_))))))); (rw [g3]); simp only [w_set0, w_set1, w_setn0, w_setn1]; (with_reducible refine i_L2 (i_I ?_)); (with_reducible refine i_f (by omega) ?_); (with_reducible refine i_cI_eq (i_L2 (i_I ?_))); (with_reducible refine i_f (by omega) ?_); (with_reducible refine i_cI_eq (i_L2 (i_I ?_))); (with_reducible refine i_f (by omega) ?_); (with_reducible refine i_cI_eq (i_L2 (i_I ?_))); (with_reducible refine i_t (by omega) ?_); (with_reducible refine i_RetI (i_I ?_)))
      exact hk
  rw [if_neg e0] at hk
  have e9 : c ≠ 9 := fun z => e0 (Or.inl z)
  have e10 : c ≠ 10 := fun z => e0 (Or.inr (Or.inl z))
  have e13 : c ≠ 13 := fun z => e0 (Or.inr (Or.inr (Or.inl z)))
  have e32 : c ≠ 32 := fun z => e0 (Or.inr (Or.inr (Or.inr z)))
  by_cases e1 : 97 ≤ c ∧ c ≤ 122
  · rw [if_pos e1] at hk
    ((with_reducible refine i_Seq (i_Set (i_And (i_BA (i_FR (i_A0 ?_)))))); (with_reducible refine i_fldR (by assumption) ?_); (with_reducible refine i_L1 ?_); (with_reducible refine i_in (by assumption) (by omega) (by omega) ?_); (with_reducible refine i_I (i_Seq (i_If (i_cOr (i_cOr (i_cOr (i_cI_eq ?_))))))); (rw [g3]); simp only [w_set0, w_set1, w_setn0, w_setn1]; (with_reducible refine i_L2 (i_I ?_)); (with_reducible refine i_f (by omega) ?_); (with_reducible refine i_cI_eq (i_L2 (i_I ?_))); (with_reducible refine i_f (by omega) ?_); (with_reducible refine i_cI_eq (i_L2 (i_I ?_))); (with_reducible refine i_f (by omega) ?_); (with_reducible refine i_cI_eq (i_L2 (i_I ?_))); (with_reducible refine i_f (by omega) ?_); (with_reducible refine i_Seq (i_If (i_cAnd (i_cI_ge (i_L2 (i_I ?_)))))); (with_reducible refine i_t (by omega) ?_); (with_reducible refine i_cI_le (i_L2 (i_I ?_))); (with_reducible refine i_t (by omega) ?_); (with_reducible refine i_RetI (i_I ?_)))
    exact hk
  rw [if_neg e1] at hk
  by_cases e2 : 48 ≤ c ∧ c ≤ 57
  · rw [if_pos e2] at hk
    ((with_reducible refine i_Seq (i_Set (i_And (i_BA (i_FR (i_A0 ?_)))))); (with_reducible refine i_fldR (by assumption) ?_); (with_reducible refine i_L1 ?_); (with_reducible refine i_in (by assumption) (by omega) (by omega) ?_); (with_reducible refine i_I (i_Seq (i_If (i_cOr (i_cOr (i_cOr (i_cI_eq ?_))))))); (rw [g3]); simp only [w_set0, w_set1, w_setn0, w_setn1]; (with_reducible refine i_L2 (i_I ?_)); (with_reducible refine i_f (by omega) ?_); (with_reducible refine i_cI_eq (i_L2 (i_I ?_))); (with_reducible refine i_f (by omega) ?_); (with_reducible refine i_cI_eq (i_L2 (i_I ?_))); (with_reducible refine i_f (by omega) ?_); (with_reducible refine i_cI_eq (i_L2 (i_I ?_))); (with_reducible refine i_f (by omega) ?_); (with_reducible refine i_Seq (i_If (i_cAnd (i_cI_ge (i_L2 (i_I ?_)))))); (with_reducible refine i_f (by omega) ?_); (with_reducible refine i_Seq (i_If (i_cAnd (i_cI_ge (i_L2 (i_I ?_)))))); (with_reducible refine i_t (by omega) ?_); (with_reducible refine i_cI_le (i_L2 (i_I ?_))); (with_reducible refine i_t (by omega) ?_); (with_reducible refine i_RetI (i_I ?_)))
    exact hk
  rw [if_neg e2] at hk
  by_cases e3 : c = 59
  · rw [if_pos e3] at hk
    ((with_reducible refine i_Seq (i_Set (i_And (i_BA (i_FR (i_A0 ?_)))))); (with_reducible refine i_fldR (by assumption) ?_); (with_reducible refine i_L1 ?_); (with_reducible refine i_in (by assumption) (by omega) (by omega) ?_); (with_reducible refine i_I (i_Seq (i_If (i_cOr (i_cOr (i_cOr (i_cI_eq ?_))))))); (rw [g3]); simp only [w_set0, w_set1, w_setn0, w_setn1]; (with_reducible refine i_L2 (i_I ?_)); (with_reducible refine i_f (by omega) ?_); (with_reducible refine i_cI_eq (i_L2 (i_I ?_))); (with_reducible refine i_f (by omega) ?_); (with_reducible refine i_cI_eq (i_L2 (i_I ?_))); (with_reducible refine i_f (by omega) ?_); (with_reducible refine i_cI_eq (i_L2 (i_I ?_))); (with_reducible refine i_f (by omega) ?_); (with_reducible refine i_Seq (i_If (i_cAnd (i_cI_ge (i_L2 (i_I ?_)))))); (with_reducible refine i_f (by omega) ?_); (with_reducible refine i_Seq (i_If (i_cAnd (i_cI_ge (i_L2 (i_I ?_)))))); (with_reducible refine i_t (by omega) ?_); (with_reducible refine i_cI_le (i_L2 (i_I ?_))); (with_reducible refine i_f (by omega) ?_); (with_reducible refine i_RetI (i_eIf (i_cI_eq (i_L2 (i_I ?_))))); (with_reducible refine i_t (by omega) ?_); (with_reducible refine i_I ?_))
    exact hk
  rw [if_neg e3] at hk
  by_cases e4 : c < 48
  · ((with_reducible refine i_Seq (i_Set (i_And (i_BA (i_FR (i_A0 ?_)))))); (with_reducible refine i_fldR (by assumption) ?_); (with_reducible refine i_L1 ?_); (with_reducible refine i_in (by assumption) (by omega) (by omega) ?_); (with_reducible refine i_I (i_Seq (i_If (i_cOr (i_cOr (i_cOr (i_cI_eq ?_))))))); (rw [g3]); simp only [w_set0, w_set1, w_setn0, w_setn1]; (with_reducible refine i_L2 (i_I ?_)); (with_reducible refine i_f (by omega) ?_); (with_reducible refine i_cI_eq (i_L2 (i_I ?_))); (with_reducible refine i_f (by omega) ?_); (with_reducible refine i_cI_eq (i_L2 (i_I ?_))); (with_reducible refine i_f (by omega) ?_); (with_reducible refine i_cI_eq (i_L2 (i_I ?_))); (with_reducible refine i_f (by omega) ?_); (with_reducible refine i_Seq (i_If (i_cAnd (i_cI_ge (i_L2 (i_I ?_)))))); (with_reducible refine i_f (by omega) ?_); (with_reducible refine i_Seq (i_If (i_cAnd (i_cI_ge (i_L2 (i_I ?_)))))); (with_reducible refine i_f (by omega) ?_); (with_reducible refine i_RetI (i_eIf (i_cI_eq (i_L2 (i_I ?_))))); (with_reducible refine i_f (by omega) ?_); (with_reducible refine i_I ?_))
    exact hk
  by_cases e5 : c < 97
  · ((with_reducible refine i_Seq (i_Set (i_And (i_BA (i_FR (i_A0 ?_)))))); (with_reducible refine i_fldR (by assumption) ?_); (with_reducible refine i_L1 ?_); (with_reducible refine i_in (by assumption) (by omega) (by omega) ?_); (with_reducible refine i_I (i_Seq (i_If (i_cOr (i_cOr (i_cOr (i_cI_eq ?_))))))); (rw [g3]); simp only [w_set0, w_set1, w_setn0, w_setn1]; (with_reducible refine i_L2 (i_I ?_)); (with_reducible refine i_f (by omega) ?_); (with_reducible refine i_cI_eq (i_L2 (i_I ?_))); (with_reducible refine i_f (by omega) ?_); (with_reducible refine i_cI_eq (i_L2 (i_I ?_))); (with_reducible refine i_f (by omega) ?_); (with_reducible refine i_cI_eq (i_L2 (i_I ?_))); (with_reducible refine i_f (by omega) ?_); (with_reducible refine i_Seq (i_If (i_cAnd (i_cI_ge (i_L2 (i_I ?_)))))); (with_reducible refine i_f (by omega) ?_); (with_reducible refine i_Seq (i_If (i_cAnd (i_cI_ge (i_L2 (i_I ?_)))))); (with_reducible refine i_t (by omega) ?_); (with_reducible refine i_cI_le (i_L2 (i_I ?_))); (with_reducible refine i_f (by omega) ?_); (with_reducible refine i_RetI (i_eIf (i_cI_eq (i_L2 (i_I ?_))))); (with_reducible refine i_f (by omega) ?_); (with_reducible refine i_I ?_))
    exact hk
  · ((with_reducible refine i_Seq (i_Set (i_And (i_BA (i_FR (i_A0 ?_)))))); (with_reducible refine i_fldR (by assumption) ?_); (with_reducible refine i_L1 ?_); (with_reducible refine i_in (by assumption) (by omega) (by omega) ?_); (with_reducible refine i_I (i_Seq (i_If (i_cOr (i_cOr (i_cOr (i_cI_eq ?_))))))); (rw [g3]); simp only [w_set0, w_set1, w_setn0, w_setn1]; (with_reducible refine i_L2 (i_I ?_)); (with_reducible refine i_f (by omega) ?_); (with_reducible refine i_cI_eq (i_L2 (i_I ?_))); (with_reducible refine i_f (by omega) ?_); (with_reducible refine i_cI_eq (i_L2 (i_I ?_))); (with_reducible refine i_f (by omega) ?_); (with_reducible refine i_cI_eq (i_L2 (i_I ?_))); (with_reducible refine i_f (by omega) ?_); (with_reducible refine i_Seq (i_If (i_cAnd (i_cI_ge (i_L2 (i_I ?_)))))); (with_reducible refine i_t (by omega) ?_); (with_reducible refine i_cI_le (i_L2 (i_I ?_))); (with_reducible refine i_f (by omega) ?_); (with_reducible refine i_Seq (i_If (i_cAnd (i_cI_ge (i_L2 (i_I ?_)))))); (with_reducible refine i_t (by omega) ?_); (with_reducible refine i_cI_le (i_L2 (i_I ?_))); (with_reducible refine i_f (by omega) ?_); (with_reducible refine i_RetI (i_eIf (i_cI_eq (i_L2 (i_I ?_))))); (with_reducible refine i_f (by omega) ?_); (with_reducible refine i_I ?_))
    exact hk
theorem c_skipBlanks {O : zOm} (hO : zWld O) (hS : zS O = zmS zC0) {k s : Nat} {B : Nat → Nat} {M : zMem} {K : Option zV → zMem → Prop} (hT : cTp M s B) (hk1 : k ≤ s) (hk : K (some (0, ((zksk B s k : Nat) : Int))) M) : zR O F_Tape_skipBlanks [(2, ((86 : Nat) : Int)), (0, ((k : Nat) : Int))] M K := by
  have t1 := hT.1
  have t2 := hT.2.1
  obtain ⟨w1, w2, w3, w4⟩ := zksk_ok B hk1
  obtain ⟨L, hL⟩ : ∃ L, zksk B s k = k + L := ⟨zksk B s k - k, by omega⟩
  rw [hL] at w1 w2 w3 w4 hk
  apply r_Tape_skipBlanks hO
  unfold B_Tape_skipBlanks
  have f86_5 := zf_86_5 hS; have z86 := zo_86 hS
  ((with_reducible refine i_Seq (i_Set (i_L1 (i_Seq ?_)))); simp only [w_set0, w_set1, w_setn0, w_setn1])
  refine w_WhileN L (fun c ρ M' => (∃ l, ρ = ((86 : Nat) : Int) :: ((k : Nat) : Int) :: ((k + c : Nat) : Int) :: l) ∧ M' = M) ⟨⟨_, rfl⟩, rfl⟩ ?_ ?_
  · rintro c ρ M1 X hc ⟨⟨l, rfl⟩, rfl⟩ hX
    have h0 := w3 (k + c) (by omega) (by omega)
    ((with_reducible refine i_turn (i_cAnd (i_cI_lt (i_L2 (i_F (i_A0 ?_)))))); (with_reducible refine i_fld (by assumption) ?_); (rw [t1]); (with_reducible refine i_t (by omega) ?_); (with_reducible refine i_cZ_eq (i_Call (i_as1 (i_A0 (i_as1 (i_L2 (i_as0 ?_))))))); (with_reducible refine i_recv0 (by assumption) ?_); (refine c_sortOf hO hS hT (show k + c < s by omega) ⟨_, rfl, ?_⟩); (rw [h0]); (with_reducible refine i_t (by omega) ?_); (with_reducible refine i_Inc2 ?_); rw [zx_inc (by omega)]; simp only [w_set0, w_set1, w_setn0, w_setn1])
    exact hX _ _ ⟨⟨_, rfl⟩, rfl⟩
  · rintro ρ M1 X ⟨⟨l, rfl⟩, rfl⟩
    by_cases h : k + L < s
    · ((with_reducible refine i_turn (i_cAnd (i_cI_lt (i_L2 (i_F (i_A0 ?_)))))); (with_reducible refine i_fld (by assumption) ?_); (rw [t1]); (with_reducible refine i_t (by omega) ?_); (with_reducible refine i_cZ_eq (i_Call (i_as1 (i_A0 (i_as1 (i_L2 (i_as0 ?_))))))); (with_reducible refine i_recv0 (by assumption) ?_); (refine c_sortOf hO hS hT h ⟨_, rfl, ?_⟩); (with_reducible refine i_f (by omega) ?_); (with_reducible refine i_RetI (i_L2 ?_)))
      exact hk
    · ((with_reducible refine i_turn (i_cAnd (i_cI_lt (i_L2 (i_F (i_A0 ?_)))))); (with_reducible refine i_fld (by assumption) ?_); (rw [t1]); (with_reducible refine i_f (by omega) ?_); (with_reducible refine i_RetI (i_L2 ?_)))
      exact hk
theorem c_endOf {O : zOm} (hO : zWld O) (hS : zS O = zmS zC0) {k s : Nat} {B : Nat → Nat} {M : zMem} {K : Option zV → zMem → Prop} (hT : cTp M s B) (hk1 : k < s) (hk : K (some (0, ((zen B s k : Nat) : Int))) M) : zR O F_Tape_endOf [(2, ((86 : Nat) : Int)), (0, ((k : Nat) : Int))] M K := by
  have t1 := hT.1
  have t2 := hT.2.1
  obtain ⟨w1, w2, w3, w4⟩ := zen_ok B hk1
  obtain ⟨L, hL⟩ : ∃ L, zen B s k = k + 1 + L := ⟨zen B s k - k - 1, by omega⟩
  rw [hL] at w1 w2 w3 w4 hk
  have w5 := zcp_f w4
  apply r_Tape_endOf hO
  unfold B_Tape_endOf
  have f86_5 := zf_86_5 hS; have z86 := zo_86 hS
  ((with_reducible refine i_Seq (i_Set (i_Call (i_as1 (i_A0 (i_as1 (i_L1 (i_as0 ?_)))))))); (with_reducible refine i_recv0 (by assumption) ?_); simp only [w_set0, w_set1, w_setn0, w_setn1])
  refine c_sortOf hO hS hT hk1 ⟨_, rfl, ?_⟩
  ((with_reducible refine i_Seq (i_Set (i_Add (i_L1 (i_I (i_Seq ?_)))))); rw [zx_inc (by omega)]; simp only [w_set0, w_set1, w_setn0, w_setn1])
  refine w_WhileN L (fun c ρ M' => (∃ l, ρ = ((86 : Nat) : Int) :: ((k : Nat) : Int) :: ((zsr B s k : Nat) : Int) :: ((k + 1 + c : Nat) : Int) :: l) ∧ M' = M) ⟨⟨_, rfl⟩, rfl⟩ ?_ ?_
  · rintro c ρ M1 X hc ⟨⟨l, rfl⟩, rfl⟩ hX
    obtain ⟨h0, h1⟩ := zcp_t (w3 (k + 1 + c) (by omega) (by omega))
    rcases h1 with h1 | h1
    · ((with_reducible refine i_turn (i_cAnd (i_cAnd (i_cI_lt (i_L3 (i_F (i_A0 ?_))))))); (with_reducible refine i_fld (by assumption) ?_); (rw [t1]); (with_reducible refine i_t (by omega) ?_); (with_reducible refine i_cOr (i_cI_eq (i_L2 (i_I ?_)))); (with_reducible refine i_t (by omega) ?_); (with_reducible refine i_cI_eq (i_Call (i_as1 (i_A0 (i_as1 (i_L3 (i_as0 ?_))))))); (with_reducible refine i_recv0 (by assumption) ?_); (refine c_sortOf hO hS hT (show k + 1 + c < s by omega) ⟨_, rfl, ?_⟩); (with_reducible refine i_L2 ?_); (rw [h0]); simp only [w_set0, w_set1, w_setn0, w_setn1]; (with_reducible refine i_t trivial ?_); (with_reducible refine i_Inc3 ?_); rw [zx_inc (by omega)]; simp only [w_set0, w_set1, w_setn0, w_setn1])
      exact hX _ _ ⟨⟨_, by congr 3⟩, rfl⟩
    · ((with_reducible refine i_turn (i_cAnd (i_cAnd (i_cI_lt (i_L3 (i_F (i_A0 ?_))))))); (with_reducible refine i_fld (by assumption) ?_); (rw [t1]); (with_reducible refine i_t (by omega) ?_); (with_reducible refine i_cOr (i_cI_eq (i_L2 (i_I ?_)))); (with_reducible refine i_f (by omega) ?_); (with_reducible refine i_cI_eq (i_L2 (i_I ?_))); (with_reducible refine i_t (by omega) ?_); (with_reducible refine i_cI_eq (i_Call (i_as1 (i_A0 (i_as1 (i_L3 (i_as0 ?_))))))); (with_reducible refine i_recv0 (by assumption) ?_); (refine c_sortOf hO hS hT (show k + 1 + c < s by omega) ⟨_, rfl, ?_⟩); (with_reducible refine i_L2 ?_); (rw [h0]); simp only [w_set0, w_set1, w_setn0, w_setn1]; (with_reducible refine i_t trivial ?_); (with_reducible refine i_Inc3 ?_); rw [zx_inc (by omega)]; simp only [w_set0, w_set1, w_setn0, w_setn1])
      exact hX _ _ ⟨⟨_, by congr 3⟩, rfl⟩
  · rintro ρ M1 X ⟨⟨l, rfl⟩, rfl⟩
    by_cases h : k + 1 + L < s
    · by_cases h1 : zsr B s k = 1
      · have h2 : ¬ zsr B s (k + 1 + L) = zsr B s k := fun z => w5 ⟨z, Or.inl h1⟩
        ((with_reducible refine i_turn (i_cAnd (i_cAnd (i_cI_lt (i_L3 (i_F (i_A0 ?_))))))); (with_reducible refine i_fld (by assumption) ?_); (rw [t1]); (with_reducible refine i_t (by omega) ?_); (with_reducible refine i_cOr (i_cI_eq (i_L2 (i_I ?_)))); (with_reducible refine i_t (by omega) ?_); (with_reducible refine i_cI_eq (i_Call (i_as1 (i_A0 (i_as1 (i_L3 (i_as0 ?_))))))); (with_reducible refine i_recv0 (by assumption) ?_); (refine c_sortOf hO hS hT h ⟨_, rfl, ?_⟩); (with_reducible refine i_L2 ?_); (with_reducible refine i_f (by omega) ?_); (with_reducible refine i_RetI (i_L3 ?_)))
        exact hk
      · by_cases h3 : zsr B s k = 2
        · have h2 : ¬ zsr B s (k + 1 + L) = zsr B s k := fun z => w5 ⟨z, Or.inr h3⟩
          ((with_reducible refine i_turn (i_cAnd (i_cAnd (i_cI_lt (i_L3 (i_F (i_A0 ?_))))))); (with_reducible refine i_fld (by assumption) ?_); (rw [t1]); (with_reducible refine i_t (by omega) ?_); (with_reducible refine i_cOr (i_cI_eq (i_L2 (i_I ?_)))); (with_reducible refine i_f (by omega) ?_); (with_reducible refine i_cI_eq (i_L2 (i_I ?_))); (with_reducible refine i_t (by omega) ?_); (with_reducible refine i_cI_eq (i_Call (i_as1 (i_A0 (i_as1 (i_L3 (i_as0 ?_))))))); (with_reducible refine i_recv0 (by assumption) ?_); (refine c_sortOf hO hS hT h ⟨_, rfl, ?_⟩); (with_reducible refine i_L2 ?_); (with_reducible refine i_f (by omega) ?_); (with_reducible refine i_RetI (i_L3 ?_)))
          exact hk
        · ((with_reducible refine i_turn (i_cAnd (i_cAnd (i_cI_lt (i_L3 (i_F (i_A0 ?_))))))); (with_reducible refine i_fld (by assumption) ?_); (rw [t1]); (with_reducible refine i_t (by omega) ?_); (with_reducible refine i_cOr (i_cI_eq (i_L2 (i_I ?_)))); (with_reducible refine i_f (by omega) ?_); (with_reducible refine i_cI_eq (i_L2 (i_I ?_))); (with_reducible refine i_f (by omega) ?_); (with_reducible refine i_RetI (i_L3 ?_)))
          exact hk
    · ((with_reducible refine i_turn (i_cAnd (i_cAnd (i_cI_lt (i_L3 (i_F (i_A0 ?_))))))); (with_reducible refine i_fld (by assumption) ?_); (rw [t1]); (with_reducible refine i_f (by omega) ?_); (with_reducible refine i_RetI (i_L3 ?_)))
      exact hk
set_option maxHeartbeats 1600000 in
theorem c_valueOf {O : zOm} (hO : zWld O) (hS : zS O = zmS zC0) {k e s : Nat} {B : Nat → Nat} {M : zMem} {K : Option zV → zMem → Prop} (hT : cTp M s B) (hk1 : k < s) (he : e = zen B s k) (hk : ∀ x : Int, (zsr B s k = 1 ∨ zsr B s k = 2 → x = ((zkvl B s k e : Nat) : Int)) → K (some (1, x)) M) : zR O F_Tape_valueOf [(2, ((86 : Nat) : Int)), (0, ((k : Nat) : Int)), (0, ((e : Nat) : Int))] M K := by
  have t1 := hT.1
  have t2 := hT.2.1
  obtain ⟨w1, w2, w3, w4⟩ := zen_ok B hk1
  obtain ⟨L, hL⟩ : ∃ L, zen B s k = k + L := ⟨zen B s k - k, by omega⟩
  subst he
  rw [hL] at w1 w2 w3 w4 hk ⊢
  have hd : ∀ j, j < L → zsr B s (k + j) = zsr B s k := fun j hj => by
    rcases Nat.eq_zero_or_pos j with q | q
    · rw [q]; rfl
    · exact (zcp_t (w3 (k + j) (by omega) (by omega))).1
  have hby : ∀ j, j < L → M ((87 : Nat) : Int) ((k + j : Nat) : Int) = zsgB (B (k + j)) := fun j hj => (hT.2.2 (k + j) (by omega)).1
  clear w3 w4
  apply r_Tape_valueOf hO
  unfold B_Tape_valueOf
  have f86_0 := zf_86_0 hS; have a87 := zCA (a := 87) (ty := .byte) (n := 2000) hS rfl; have z86 := zo_86 hS
  ((with_reducible refine i_Seq (i_Set (i_Call (i_as1 (i_A0 (i_as1 (i_L1 (i_as0 ?_)))))))); (with_reducible refine i_recv0 (by assumption) ?_); simp only [w_set0, w_set1, w_setn0, w_setn1])
  refine c_sortOf hO hS hT hk1 ⟨_, rfl, ?_⟩
  by_cases h1 : zsr B s k = 1
  · have hz : zkvl B s k (k + L) = zvg 27 96 B k (min L 8) := by
      unfold zkvl; rw [if_pos h1, show k + L - k = L by omega]
    have hk2 := hk _ (fun _ => rfl)
    rw [hz] at hk2
    have hlt : ∀ c, c ≤ 8 → c ≤ L → zvg 27 96 B k c < 282429536481 := fun c hc hcL => by
      have h5 := zvg_lt (m := 27) (d := 96) (B := B) (k := k) c (fun j hj => by
        have h6 := hd j (by omega)
        rw [h1, zsr_in (by omega)] at h6
        have := zkcs_1 h6
        omega)
      have h6 : 27 ^ c ≤ 27 ^ 8 := Nat.pow_le_pow_right (by decide) (by omega)
      have h7 : 27 ^ 8 = 282429536481 := by decide
      omega
    rw [h1]
    ((with_reducible refine i_Seq (i_Set (i_IL (i_Seq (i_Blk (i_Seq (i_Set ?_))))))); simp only [w_set0, w_set1, w_setn0, w_setn1]; (with_reducible refine i_L1 ?_); simp only [w_set0, w_set1, w_setn0, w_setn1])
    refine w_ForN (min L 8) (fun c ρ M' => (∃ y l, ρ = ((86 : Nat) : Int) :: ((k : Nat) : Int) :: ((k + L : Nat) : Int) :: ((1 : Nat) : Int) :: ((zvg 27 96 B k c : Nat) : Int) :: y :: ((k + c : Nat) : Int) :: l) ∧ M' = M) ⟨⟨_, _, rfl⟩, rfl⟩ ?_ ?_
    · rintro c ρ M1 X hc ⟨⟨y, l, rfl⟩, rfl⟩ hX
      have hr := (hd c (by omega)).trans h1
      rw [zsr_in (by omega)] at hr
      have hr1 := zkcs_1 hr
      have hb1 := hby c (by omega)
      have hb2 : zsgB (B (k + c)) = ((B (k + c) : Nat) : Int) := if_pos (by omega)
      rw [hb2] at hb1
      have hl1 := hlt c (by omega) (by omega)
      have hst : ((zvg 27 96 B k c : Nat) : Int) * 27 + ((B (k + c) : Nat) : Int) - 97 + 1 = ((zvg 27 96 B k (c + 1) : Nat) : Int) := by
        show _ = ((zvg 27 96 B k c * 27 + (B (k + c) - 96) : Nat) : Int)
        omega
      ((with_reducible refine i_turn (i_cAnd (i_cI_lt (i_L6 (i_L2 ?_))))); (with_reducible refine i_t (by omega) ?_); (with_reducible refine i_cI_lt (i_L6 (i_Add (i_L1 (i_I ?_))))); rw [zx_addc (by omega)]; (with_reducible refine i_t (by omega) ?_); (with_reducible refine i_Set (i_eIf (i_cI_eq (i_L3 (i_I ?_))))); (with_reducible refine i_t (by omega) ?_); (with_reducible refine i_AddL (i_SubL (i_AddL (i_MulL (i_Ll4 (i_LdcL (i_I2L (i_BA (i_FR (i_A0 ?_)))))))))); (with_reducible refine i_fldR (by assumption) ?_); (with_reducible refine i_L6 ?_); (with_reducible refine i_in (by assumption) (by omega) (by omega) ?_); (with_reducible refine i_LdcL (i_IL (i_up ?_))); (rw [hb1]); (rw [show (((1 : Fin 2) : Nat) : Int) = 1 from rfl]); (rw [zw64_id (x := ((zvg 27 96 B k c : Nat) : Int) * 27) ⟨by omega, by omega⟩]); (rw [zw64_id (x := ((zvg 27 96 B k c : Nat) : Int) * 27 + ((B (k + c) : Nat) : Int)) ⟨by omega, by omega⟩]); (rw [zw64_id (x := ((zvg 27 96 B k c : Nat) : Int) * 27 + ((B (k + c) : Nat) : Int) - 97) ⟨by omega, by omega⟩]); (rw [zw64_id (x := ((zvg 27 96 B k c : Nat) : Int) * 27 + ((B (k + c) : Nat) : Int) - 97 + 1) ⟨by omega, by omega⟩]); (rw [hst]); simp only [w_set0, w_set1, w_setn0, w_setn1]; (with_reducible refine i_Inc6 ?_); rw [zx_inc (by omega)]; simp only [w_set0, w_set1, w_setn0, w_setn1])
      exact hX _ _ ⟨⟨_, _, rfl⟩, rfl⟩
    · rintro ρ M1 X ⟨⟨y, l, rfl⟩, rfl⟩
      by_cases h8 : L ≤ 8
      · rw [show min L 8 = L by omega] at hk2 ⊢
        ((with_reducible refine i_turn (i_cAnd (i_cI_lt (i_L6 (i_L2 ?_))))); (with_reducible refine i_f (by omega) ?_); (with_reducible refine i_RetL (i_Ll4 ?_)))
        exact hk2
      · rw [show min L 8 = 8 by omega] at hk2 ⊢
        ((with_reducible refine i_turn (i_cAnd (i_cI_lt (i_L6 (i_L2 ?_))))); (with_reducible refine i_t (by omega) ?_); (with_reducible refine i_cI_lt (i_L6 (i_Add (i_L1 (i_I ?_))))); rw [zx_addc (by omega)]; (with_reducible refine i_f (by omega) ?_); (with_reducible refine i_RetL (i_Ll4 ?_)))
        exact hk2
  by_cases h2 : zsr B s k = 2
  · have hz : zkvl B s k (k + L) = zvg 10 48 B k (min L 8) := by
      unfold zkvl; rw [if_neg h1, show k + L - k = L by omega]
    have hk2 := hk _ (fun _ => rfl)
    rw [hz] at hk2
    have hlt : ∀ c, c ≤ 8 → c ≤ L → zvg 10 48 B k c < 100000000 := fun c hc hcL => by
      have h5 := zvg_lt (m := 10) (d := 48) (B := B) (k := k) c (fun j hj => by
        have h6 := hd j (by omega)
        rw [h2, zsr_in (by omega)] at h6
        have := zkcs_2 h6
        omega)
      have h6 : 10 ^ c ≤ 10 ^ 8 := Nat.pow_le_pow_right (by decide) (by omega)
      have h7 : 10 ^ 8 = 100000000 := by decide
      omega
    rw [h2]
    ((with_reducible refine i_Seq (i_Set (i_IL (i_Seq (i_Blk (i_Seq (i_Set ?_))))))); simp only [w_set0, w_set1, w_setn0, w_setn1]; (with_reducible refine i_L1 ?_); simp only [w_set0, w_set1, w_setn0, w_setn1])
    refine w_ForN (min L 8) (fun c ρ M' => (∃ y l, ρ = ((86 : Nat) : Int) :: ((k : Nat) : Int) :: ((k + L : Nat) : Int) :: ((2 : Nat) : Int) :: ((zvg 10 48 B k c : Nat) : Int) :: y :: ((k + c : Nat) : Int) :: l) ∧ M' = M) ⟨⟨_, _, rfl⟩, rfl⟩ ?_ ?_
    · rintro c ρ M1 X hc ⟨⟨y, l, rfl⟩, rfl⟩ hX
      have hr := (hd c (by omega)).trans h2
      rw [zsr_in (by omega)] at hr
      have hr1 := zkcs_2 hr
      have hb1 := hby c (by omega)
      have hb2 : zsgB (B (k + c)) = ((B (k + c) : Nat) : Int) := if_pos (by omega)
      rw [hb2] at hb1
      have hl1 := hlt c (by omega) (by omega)
      have hst : ((zvg 10 48 B k c : Nat) : Int) * 10 + ((B (k + c) : Nat) : Int) - 48 = ((zvg 10 48 B k (c + 1) : Nat) : Int) := by
        show _ = ((zvg 10 48 B k c * 10 + (B (k + c) - 48) : Nat) : Int)
        omega
      ((with_reducible refine i_turn (i_cAnd (i_cI_lt (i_L6 (i_L2 ?_))))); (with_reducible refine i_t (by omega) ?_); (with_reducible refine i_cI_lt (i_L6 (i_Add (i_L1 (i_I ?_))))); rw [zx_addc (by omega)]; (with_reducible refine i_t (by omega) ?_); (with_reducible refine i_Set (i_eIf (i_cI_eq (i_L3 (i_I ?_))))); (with_reducible refine i_f (by omega) ?_); (with_reducible refine i_SubL (i_AddL (i_MulL (i_Ll4 (i_LdcL (i_I2L (i_BA (i_FR (i_A0 ?_))))))))); (with_reducible refine i_fldR (by assumption) ?_); (with_reducible refine i_L6 ?_); (with_reducible refine i_in (by assumption) (by omega) (by omega) ?_); (with_reducible refine i_LdcL (i_up ?_)); (rw [hb1]); (rw [zw64_id (x := ((zvg 10 48 B k c : Nat) : Int) * 10) ⟨by omega, by omega⟩]); (rw [zw64_id (x := ((zvg 10 48 B k c : Nat) : Int) * 10 + ((B (k + c) : Nat) : Int)) ⟨by omega, by omega⟩]); (rw [zw64_id (x := ((zvg 10 48 B k c : Nat) : Int) * 10 + ((B (k + c) : Nat) : Int) - 48) ⟨by omega, by omega⟩]); (rw [hst]); simp only [w_set0, w_set1, w_setn0, w_setn1]; (with_reducible refine i_Inc6 ?_); rw [zx_inc (by omega)]; simp only [w_set0, w_set1, w_setn0, w_setn1])
      exact hX _ _ ⟨⟨_, _, rfl⟩, rfl⟩
    · rintro ρ M1 X ⟨⟨y, l, rfl⟩, rfl⟩
      by_cases h8 : L ≤ 8
      · rw [show min L 8 = L by omega] at hk2 ⊢
        ((with_reducible refine i_turn (i_cAnd (i_cI_lt (i_L6 (i_L2 ?_))))); (with_reducible refine i_f (by omega) ?_); (with_reducible refine i_RetL (i_Ll4 ?_)))
        exact hk2
      · rw [show min L 8 = 8 by omega] at hk2 ⊢
        ((with_reducible refine i_turn (i_cAnd (i_cI_lt (i_L6 (i_L2 ?_))))); (with_reducible refine i_t (by omega) ?_); (with_reducible refine i_cI_lt (i_L6 (i_Add (i_L1 (i_I ?_))))); rw [zx_addc (by omega)]; (with_reducible refine i_f (by omega) ?_); (with_reducible refine i_RetL (i_Ll4 ?_)))
        exact hk2
  · have hk2 : ∀ x, K (some (1, x)) M := fun x => hk x (fun z => z.elim (fun z => absurd z h1) (fun z => absurd z h2))
    have h4 : ¬ ((zsr B s k : Nat) : Int) = 1 := by omega
    generalize zsr B s k = z at h4 ⊢
    ((with_reducible refine i_Seq (i_Set (i_IL (i_Seq (i_Blk (i_Seq (i_Set ?_))))))); simp only [w_set0, w_set1, w_setn0, w_setn1]; (with_reducible refine i_L1 ?_); simp only [w_set0, w_set1, w_setn0, w_setn1])
    refine w_ForN (min L 8) (fun c ρ M' => (∃ v y l, ρ = ((86 : Nat) : Int) :: ((k : Nat) : Int) :: ((k + L : Nat) : Int) :: ((z : Nat) : Int) :: v :: y :: ((k + c : Nat) : Int) :: l) ∧ M' = M) ⟨⟨_, _, _, rfl⟩, rfl⟩ ?_ ?_
    · rintro c ρ M1 X hc ⟨⟨v, y, l, rfl⟩, rfl⟩ hX
      have hb1 := hby c (by omega)
      ((with_reducible refine i_turn (i_cAnd (i_cI_lt (i_L6 (i_L2 ?_))))); (with_reducible refine i_t (by omega) ?_); (with_reducible refine i_cI_lt (i_L6 (i_Add (i_L1 (i_I ?_))))); rw [zx_addc (by omega)]; (with_reducible refine i_t (by omega) ?_); (with_reducible refine i_Set (i_eIf (i_cI_eq (i_L3 (i_I ?_))))); (with_reducible refine i_f (by omega) ?_); (with_reducible refine i_SubL (i_AddL (i_MulL (i_Ll4 (i_LdcL (i_I2L (i_BA (i_FR (i_A0 ?_))))))))); (with_reducible refine i_fldR (by assumption) ?_); (with_reducible refine i_L6 ?_); (with_reducible refine i_in (by assumption) (by omega) (by omega) ?_); (with_reducible refine i_LdcL (i_up ?_)); simp only [w_set0, w_set1, w_setn0, w_setn1]; (with_reducible refine i_Inc6 ?_); rw [zx_inc (by omega)]; simp only [w_set0, w_set1, w_setn0, w_setn1])
      exact hX _ _ ⟨⟨_, _, _, rfl⟩, rfl⟩
    · rintro ρ M1 X ⟨⟨v, y, l, rfl⟩, rfl⟩
      by_cases h8 : L ≤ 8
      · rw [show min L 8 = L by omega]
        ((with_reducible refine i_turn (i_cAnd (i_cI_lt (i_L6 (i_L2 ?_))))); (with_reducible refine i_f (by omega) ?_); (with_reducible refine i_RetL (i_Ll4 ?_)))
        exact hk2 _
      · rw [show min L 8 = 8 by omega]
        ((with_reducible refine i_turn (i_cAnd (i_cI_lt (i_L6 (i_L2 ?_))))); (with_reducible refine i_t (by omega) ?_); (with_reducible refine i_cI_lt (i_L6 (i_Add (i_L1 (i_I ?_))))); rw [zx_addc (by omega)]; (with_reducible refine i_f (by omega) ?_); (with_reducible refine i_RetL (i_Ll4 ?_)))
        exact hk2 _
theorem zwn_q : ∀ k, k < 7 → zwn (zqv (3 + k)) = 3 + k := by decide
theorem zwn_no {v : Nat} (h : ∀ j, j < 7 → zqv (3 + j) ≠ v) : zwn v = 0 := by
  have h0 := h 0 (by omega)
  have h1 := h 1 (by omega)
  have h2 := h 2 (by omega)
  have h3 := h 3 (by omega)
  have h4 := h 4 (by omega)
  have h5 := h 5 (by omega)
  have h6 := h 6 (by omega)
  have e0 : zqv (3 + 0) = 1887 := rfl
  have e1 : zqv (3 + 1) = 1960177 := rfl
  have e2 : zqv (3 + 2) = 1752773 := rfl
  have e3 : zqv (3 + 3) = 10277596 := rfl
  have e4 : zqv (3 + 4) = 388602 := rfl
  have e5 : zqv (3 + 5) = 10631 := rfl
  have e6 : zqv (3 + 6) = 28959 := rfl
  unfold zwn
  rw [if_neg (by omega), if_neg (by omega), if_neg (by omega), if_neg (by omega), if_neg (by omega), if_neg (by omega), if_neg (by omega)]
theorem c_nameKind {O : zOm} (hO : zWld O) (hS : zS O = zmS zC0) {v : Nat} {M : zMem} {K : Option zV → zMem → Prop} (hQ : cQt M) (hk : K (some (0, ((zwn v : Nat) : Int))) M) : zR O F_Tape_nameKind [(2, ((86 : Nat) : Int)), (1, ((v : Nat) : Int))] M K := by
  have a91 := zCA (a := 91) (ty := .long) (n := 10) hS rfl
  apply r_Tape_nameKind hO
  unfold B_Tape_nameKind
  have f86_4 := zf_86_4 hS; have a91 := zCA (a := 91) (ty := .long) (n := 10) hS rfl; have z86 := zo_86 hS
  ((with_reducible refine i_Seq (i_Blk (i_Seq (i_Set (i_I ?_))))); simp only [w_set0, w_set1, w_setn0, w_setn1])
  refine w_ForN 7 (fun k ρ M' => (∃ y l, ρ = ((86 : Nat) : Int) :: ((v : Nat) : Int) :: y :: ((3 + k : Nat) : Int) :: l) ∧ M' = M ∧ ∀ j, j < k → zqv (3 + j) ≠ v) ⟨⟨_, _, rfl⟩, rfl, fun j hj => absurd hj (by omega)⟩ ?_ ?_
  · rintro k ρ M1 X hk7 ⟨⟨y, l, rfl⟩, rfl, hno⟩ hX
    have g := hQ (3 + k) (by omega) (by omega)
    by_cases e : zqv (3 + k) = v
    · have e2 : zwn v = 3 + k := by rw [← e]; exact zwn_q k hk7
      rw [e2] at hk
      have e3 : ((zqv (3 + k) : Nat) : Int) = ((v : Nat) : Int) := by rw [e]
      ((with_reducible refine i_turn (i_cI_le (i_L3 (i_I ?_)))); (with_reducible refine i_t (by omega) ?_); (with_reducible refine i_If (i_cZ_eq (i_CmpL (i_LA (i_FR (i_A0 ?_)))))); (with_reducible refine i_fldR (by assumption) ?_); (with_reducible refine i_L3 ?_); (with_reducible refine i_in (by assumption) (by omega) (by omega) ?_); (with_reducible refine i_Ll1 ?_); (rw [g]); (refine i_cmp ?_); (with_reducible refine i_t (by omega) ?_); (with_reducible refine i_RetI (i_L3 ?_)))
      exact hk
    · have e3 : ¬ ((zqv (3 + k) : Nat) : Int) = ((v : Nat) : Int) := by omega
      ((with_reducible refine i_turn (i_cI_le (i_L3 (i_I ?_)))); (with_reducible refine i_t (by omega) ?_); (with_reducible refine i_If (i_cZ_eq (i_CmpL (i_LA (i_FR (i_A0 ?_)))))); (with_reducible refine i_fldR (by assumption) ?_); (with_reducible refine i_L3 ?_); (with_reducible refine i_in (by assumption) (by omega) (by omega) ?_); (with_reducible refine i_Ll1 ?_); (rw [g]); (refine i_cmp ?_); (with_reducible refine i_f (by omega) ?_); (with_reducible refine i_up (i_Inc3 ?_)); rw [zx_inc (by omega)]; simp only [w_set0, w_set1, w_setn0, w_setn1])
      exact hX _ _ ⟨⟨_, _, by rw [show 3 + (k + 1) = 3 + k + 1 by omega]⟩, rfl, fun j hj => by
        rcases Nat.lt_or_ge j k with q | q
        · exact hno j q
        · rw [show j = k by omega]; exact e⟩
  · rintro ρ M1 X ⟨⟨y, l, rfl⟩, rfl, hno⟩
    rw [zwn_no hno] at hk
    ((with_reducible refine i_turn (i_cI_le (i_L3 (i_I ?_)))); (with_reducible refine i_f (by omega) ?_); (with_reducible refine i_RetI (i_I ?_)))
    exact hk
def zkkI (k : Nat) : Int := if k = 10 then -1 else ((k : Nat) : Int)
theorem c_kindOf2 {O : zOm} (hO : zWld O) (hS : zS O = zmS zC0) {k e s : Nat} {x : Int} {B : Nat → Nat} {M : zMem} {K : Option zV → zMem → Prop} (hT : cTp M s B) (hQ : cQt M) (hk1 : k < s) (he : e = zen B s k) (hx : zsr B s k = 1 ∨ zsr B s k = 2 → x = ((zkvl B s k e : Nat) : Int)) (hk : K (some (0, zkkI (zkd B s k e))) M) : zR O F_Tape_kindOf [(2, ((86 : Nat) : Int)), (0, ((k : Nat) : Int)), (0, ((e : Nat) : Int)), (1, x)] M K := by
  have t2 := hT.2.1
  obtain ⟨w1, w2, -, -⟩ := zen_ok B hk1
  rw [← he] at w1 w2
  unfold zkd at hk
  apply r_Tape_kindOf hO
  unfold B_Tape_kindOf
  have z86 := zo_86 hS
  ((with_reducible refine i_Seq (i_Set (i_Sub (i_L2 (i_L1 (i_Sw (i_Call (i_as1 ?_)))))))); rw [zx_sub (by omega) (by omega)]; simp only [w_set0, w_set1, w_setn0, w_setn1]; (with_reducible refine i_A0 (i_as1 (i_L1 (i_as0 ?_)))); (with_reducible refine i_recv0 (by assumption) ?_))
  refine c_sortOf hO hS hT hk1 ⟨_, rfl, ?_⟩
  by_cases h1 : zsr B s k = 1
  · rw [if_pos h1] at hk
    have hx1 := hx (Or.inl h1)
    subst hx1
    rw [h1]
    by_cases h8 : 8 < e - k
    · rw [if_pos h8] at hk
      ((with_reducible refine i_sw1 ?_); (refine i_t (by decide) ?_); (with_reducible refine i_RetI (i_eIf (i_cI_gt (i_L5 (i_I ?_))))); (with_reducible refine i_t (by omega) ?_); (with_reducible refine i_I ?_))
      exact hk
    · rw [if_neg h8] at hk
      have hk3 : K (some (0, ((zwn (zkvl B s k e) : Nat) : Int))) M := by
        have := zwn_le (zkvl B s k e)
        unfold zkkI at hk
        rw [if_neg (by omega)] at hk
        exact hk
      ((with_reducible refine i_sw1 ?_); (refine i_t (by decide) ?_); (with_reducible refine i_RetI (i_eIf (i_cI_gt (i_L5 (i_I ?_))))); (with_reducible refine i_f (by omega) ?_); (with_reducible refine i_Call (i_as1 (i_A0 (i_as1 (i_Ll3 (i_as0 ?_)))))); (with_reducible refine i_recv0 (by assumption) ?_))
      refine c_nameKind hO hS hQ ⟨_, rfl, ?_⟩
      (skip)
      exact hk3
  rw [if_neg h1] at hk
  by_cases h2 : zsr B s k = 2
  · rw [if_pos h2] at hk
    rw [h2]
    by_cases h8 : 4 < e - k
    · rw [if_pos h8] at hk
      ((with_reducible refine i_sw1 ?_); (refine i_f (by decide) ?_); (with_reducible refine i_sw1 ?_); (refine i_t (by decide) ?_); (with_reducible refine i_RetI (i_eIf (i_cI_gt (i_L5 (i_I ?_))))); (with_reducible refine i_t (by omega) ?_); (with_reducible refine i_I ?_))
      exact hk
    · rw [if_neg h8] at hk
      ((with_reducible refine i_sw1 ?_); (refine i_f (by decide) ?_); (with_reducible refine i_sw1 ?_); (refine i_t (by decide) ?_); (with_reducible refine i_RetI (i_eIf (i_cI_gt (i_L5 (i_I ?_))))); (with_reducible refine i_f (by omega) ?_); (with_reducible refine i_I ?_))
      exact hk
  rw [if_neg h2] at hk
  by_cases h3 : zsr B s k = 3
  · rw [if_pos h3] at hk
    rw [h3]
    ((with_reducible refine i_sw1 ?_); (refine i_f (by decide) ?_); (with_reducible refine i_sw1 ?_); (refine i_f (by decide) ?_); (with_reducible refine i_sw1 ?_); (refine i_t (by decide) ?_); (with_reducible refine i_RetI (i_I ?_)))
    exact hk
  · rw [if_neg h3] at hk
    have n1 : ¬ ((zsr B s k : Nat) : Int) ∈ [(1 : Int)] := fun z => by rw [List.mem_singleton] at z; omega
    have n2 : ¬ ((zsr B s k : Nat) : Int) ∈ [(2 : Int)] := fun z => by rw [List.mem_singleton] at z; omega
    have n3 : ¬ ((zsr B s k : Nat) : Int) ∈ [(3 : Int)] := fun z => by rw [List.mem_singleton] at z; omega
    ((with_reducible refine i_sw1 ?_); (refine i_f n1 ?_); (with_reducible refine i_sw1 ?_); (refine i_f n2 ?_); (with_reducible refine i_sw1 ?_); (refine i_f n3 ?_); (with_reducible refine i_sw0 (i_RetI (i_I ?_))))
    exact hk
theorem c_isWord {O : zOm} (hO : zWld O) {k : Nat} {M : zMem} {K : Option zV → zMem → Prop} (hk10 : k ≤ 10) (hk : K (some (0, zbI (zwd k))) M) : zR O F_Tape_isWord [(0, zkkI k)] M K := by
  apply r_Tape_isWord hO
  unfold B_Tape_isWord
  by_cases h : k = 10
  · subst h
    have e : zkkI 10 = -1 := rfl
    rw [e]
    ((with_reducible refine i_RetZ (i_eIf (i_cAnd (i_cI_ge (i_L0 (i_I ?_)))))); (with_reducible refine i_f (by omega) ?_); (with_reducible refine i_I ?_); (with_reducible refine i_z (Or.inl rfl) ?_))
    exact hk
  · have e : zkkI k = ((k : Nat) : Int) := if_neg h
    rw [e]
    by_cases h1 : 4 ≤ k
    · by_cases h2 : k ≤ 7
      · rw [show zwd k = true from decide_eq_true ⟨h1, h2⟩] at hk
        ((with_reducible refine i_RetZ (i_eIf (i_cAnd (i_cI_ge (i_L0 (i_I ?_)))))); (with_reducible refine i_t (by omega) ?_); (with_reducible refine i_cI_le (i_L0 (i_I ?_))); (with_reducible refine i_t (by omega) ?_); (with_reducible refine i_I ?_); (with_reducible refine i_z (Or.inr rfl) ?_))
        exact hk
      · rw [show zwd k = false from decide_eq_false (fun z => h2 z.2)] at hk
        ((with_reducible refine i_RetZ (i_eIf (i_cAnd (i_cI_ge (i_L0 (i_I ?_)))))); (with_reducible refine i_t (by omega) ?_); (with_reducible refine i_cI_le (i_L0 (i_I ?_))); (with_reducible refine i_f (by omega) ?_); (with_reducible refine i_I ?_); (with_reducible refine i_z (Or.inl rfl) ?_))
        exact hk
    · rw [show zwd k = false from decide_eq_false (fun z => h1 z.1)] at hk
      ((with_reducible refine i_RetZ (i_eIf (i_cAnd (i_cI_ge (i_L0 (i_I ?_)))))); (with_reducible refine i_f (by omega) ?_); (with_reducible refine i_I ?_); (with_reducible refine i_z (Or.inl rfl) ?_))
      exact hk
theorem c_tbegin {O : zOm} (hO : zWld O) {k : Nat} {M : zMem} {K : Option zV → zMem → Prop} (hk10 : k ≤ 10) (hk : K (some (0, zkkI (zsp 0 k))) M) : zR O F_Tape_begin [(0, zkkI k)] M K := by
  apply r_Tape_begin hO
  unfold B_Tape_begin
  have hc : k = 0 ∨ k = 1 ∨ k = 2 ∨ k = 3 ∨ k = 4 ∨ k = 5 ∨ k = 6 ∨ k = 7 ∨ k = 8 ∨ k = 9 ∨ k = 10 := by omega
  rcases hc with e | e | e | e | e | e | e | e | e | e | e <;>
  · subst e
    (first | (((with_reducible refine i_Sw (i_L0 (i_sw1 ?_))); (refine i_f (by decide) ?_); (with_reducible refine i_sw1 ?_); (refine i_f (by decide) ?_); (with_reducible refine i_sw1 ?_); (refine i_f (by decide) ?_); (with_reducible refine i_sw1 ?_); (refine i_f (by decide) ?_); (with_reducible refine i_sw1 ?_); (refine i_f (by decide) ?_); (with_reducible refine i_sw0 (i_RetI (i_I ?_))))) | (((with_reducible refine i_Sw (i_L0 (i_sw1 ?_))); (refine i_f (by decide) ?_); (with_reducible refine i_sw1 ?_); (refine i_f (by decide) ?_); (with_reducible refine i_sw1 ?_); (refine i_f (by decide) ?_); (with_reducible refine i_sw1 ?_); (refine i_f (by decide) ?_); (with_reducible refine i_sw1 ?_); (refine i_t (by decide) ?_); (with_reducible refine i_RetI (i_I ?_)))) | (((with_reducible refine i_Sw (i_L0 (i_sw1 ?_))); (refine i_f (by decide) ?_); (with_reducible refine i_sw1 ?_); (refine i_f (by decide) ?_); (with_reducible refine i_sw1 ?_); (refine i_f (by decide) ?_); (with_reducible refine i_sw1 ?_); (refine i_t (by decide) ?_); (with_reducible refine i_RetI (i_I ?_)))) | (((with_reducible refine i_Sw (i_L0 (i_sw1 ?_))); (refine i_f (by decide) ?_); (with_reducible refine i_sw1 ?_); (refine i_f (by decide) ?_); (with_reducible refine i_sw1 ?_); (refine i_t (by decide) ?_); (with_reducible refine i_RetI (i_I ?_)))) | (((with_reducible refine i_Sw (i_L0 (i_sw1 ?_))); (refine i_f (by decide) ?_); (with_reducible refine i_sw1 ?_); (refine i_t (by decide) ?_); (with_reducible refine i_RetI (i_I ?_)))) | (((with_reducible refine i_Sw (i_L0 (i_sw1 ?_))); (refine i_t (by decide) ?_); (with_reducible refine i_RetI (i_I ?_)))))
    exact hk
set_option maxHeartbeats 1600000 in
theorem c_step {O : zOm} (hO : zWld O) {q k : Nat} {M : zMem} {K : Option zV → zMem → Prop} (hq : q < 10) (hk10 : k ≤ 10) (hk : K (some (0, zkkI (zsp q k))) M) : zR O F_Tape_step [(0, ((q : Nat) : Int)), (0, zkkI k)] M K := by
  apply r_Tape_step hO
  unfold B_Tape_step
  have h0 : zkkI k = 0 ↔ k = 0 := by unfold zkkI; split <;> omega
  have h1 : zkkI k = 1 ↔ k = 1 := by unfold zkkI; split <;> omega
  have h2 : zkkI k = 2 ↔ k = 2 := by unfold zkkI; split <;> omega
  have hc : q = 0 ∨ q = 1 ∨ q = 2 ∨ q = 3 ∨ q = 4 ∨ q = 5 ∨ q = 6 ∨ q = 7 ∨ q = 8 ∨ q = 9 := by omega
  have hkc : k = 0 ∨ k = 1 ∨ k = 2 ∨ (k ≠ 0 ∧ k ≠ 1 ∧ k ≠ 2) := by omega
  rcases hc with e | e | e | e | e | e | e | e | e | e
  · subst e
    ((with_reducible refine i_Sw (i_L0 (i_sw1 ?_))); (refine i_t (by decide) ?_); (with_reducible refine i_RetI (i_Call (i_as1 (i_L1 (i_as0 (i_recv1 ?_)))))))
    refine c_tbegin hO hk10 ⟨_, rfl, ?_⟩
    (skip)
    exact hk
  · subst e
    by_cases e0 : k = 0
    · rw [show zsp 1 k = 2 from if_pos e0] at hk
      ((with_reducible refine i_Sw (i_L0 (i_sw1 ?_))); (refine i_f (by decide) ?_); (with_reducible refine i_sw1 ?_); (refine i_t (by decide) ?_); (with_reducible refine i_RetI (i_eIf (i_cZ_eq (i_L1 ?_)))); (with_reducible refine i_t (by omega) ?_); (with_reducible refine i_I ?_))
      exact hk
    · rw [show zsp 1 k = 10 from if_neg e0] at hk
      ((with_reducible refine i_Sw (i_L0 (i_sw1 ?_))); (refine i_f (by decide) ?_); (with_reducible refine i_sw1 ?_); (refine i_t (by decide) ?_); (with_reducible refine i_RetI (i_eIf (i_cZ_eq (i_L1 ?_)))); (with_reducible refine i_f (by omega) ?_); (with_reducible refine i_I ?_))
      exact hk
  · subst e
    by_cases e0 : k = 1
    · rw [show zsp 2 k = 3 from if_pos e0] at hk
      ((with_reducible refine i_Sw (i_L0 (i_sw1 ?_))); (refine i_f (by decide) ?_); (with_reducible refine i_sw1 ?_); (refine i_f (by decide) ?_); (with_reducible refine i_sw1 ?_); (refine i_t (by decide) ?_); (with_reducible refine i_RetI (i_eIf (i_cI_eq (i_L1 (i_I ?_))))); (with_reducible refine i_t (by omega) ?_); (with_reducible refine i_I ?_))
      exact hk
    · rw [show zsp 2 k = 10 from if_neg e0] at hk
      ((with_reducible refine i_Sw (i_L0 (i_sw1 ?_))); (refine i_f (by decide) ?_); (with_reducible refine i_sw1 ?_); (refine i_f (by decide) ?_); (with_reducible refine i_sw1 ?_); (refine i_t (by decide) ?_); (with_reducible refine i_RetI (i_eIf (i_cI_eq (i_L1 (i_I ?_))))); (with_reducible refine i_f (by omega) ?_); (with_reducible refine i_I ?_))
      exact hk
  · subst e
    by_cases e0 : k = 1
    · rw [show zsp 3 k = 3 from if_pos e0] at hk
      ((with_reducible refine i_Sw (i_L0 (i_sw1 ?_))); (refine i_f (by decide) ?_); (with_reducible refine i_sw1 ?_); (refine i_f (by decide) ?_); (with_reducible refine i_sw1 ?_); (refine i_f (by decide) ?_); (with_reducible refine i_sw1 ?_); (refine i_t (by decide) ?_); (with_reducible refine i_RetI (i_eIf (i_cI_eq (i_L1 (i_I ?_))))); (with_reducible refine i_t (by omega) ?_); (with_reducible refine i_I ?_))
      exact hk
    · by_cases e1 : k = 2
      · rw [show zsp 3 k = 0 from (if_neg e0).trans (if_pos e1)] at hk
        ((with_reducible refine i_Sw (i_L0 (i_sw1 ?_))); (refine i_f (by decide) ?_); (with_reducible refine i_sw1 ?_); (refine i_f (by decide) ?_); (with_reducible refine i_sw1 ?_); (refine i_f (by decide) ?_); (with_reducible refine i_sw1 ?_); (refine i_t (by decide) ?_); (with_reducible refine i_RetI (i_eIf (i_cI_eq (i_L1 (i_I ?_))))); (with_reducible refine i_f (by omega) ?_); (with_reducible refine i_eIf (i_cI_eq (i_L1 (i_I ?_)))); (with_reducible refine i_t (by omega) ?_); (with_reducible refine i_I ?_))
        exact hk
      · rw [show zsp 3 k = 10 from (if_neg e0).trans (if_neg e1)] at hk
        ((with_reducible refine i_Sw (i_L0 (i_sw1 ?_))); (refine i_f (by decide) ?_); (with_reducible refine i_sw1 ?_); (refine i_f (by decide) ?_); (with_reducible refine i_sw1 ?_); (refine i_f (by decide) ?_); (with_reducible refine i_sw1 ?_); (refine i_t (by decide) ?_); (with_reducible refine i_RetI (i_eIf (i_cI_eq (i_L1 (i_I ?_))))); (with_reducible refine i_f (by omega) ?_); (with_reducible refine i_eIf (i_cI_eq (i_L1 (i_I ?_)))); (with_reducible refine i_f (by omega) ?_); (with_reducible refine i_I ?_))
        exact hk
  · subst e
    by_cases e0 : k = 0
    · rw [show zsp 4 k = 5 from if_pos e0] at hk
      ((with_reducible refine i_Sw (i_L0 (i_sw1 ?_))); (refine i_f (by decide) ?_); (with_reducible refine i_sw1 ?_); (refine i_f (by decide) ?_); (with_reducible refine i_sw1 ?_); (refine i_f (by decide) ?_); (with_reducible refine i_sw1 ?_); (refine i_f (by decide) ?_); (with_reducible refine i_sw1 ?_); (refine i_t (by decide) ?_); (with_reducible refine i_RetI (i_eIf (i_cZ_eq (i_L1 ?_)))); (with_reducible refine i_t (by omega) ?_); (with_reducible refine i_I ?_))
      exact hk
    · rw [show zsp 4 k = 10 from if_neg e0] at hk
      ((with_reducible refine i_Sw (i_L0 (i_sw1 ?_))); (refine i_f (by decide) ?_); (with_reducible refine i_sw1 ?_); (refine i_f (by decide) ?_); (with_reducible refine i_sw1 ?_); (refine i_f (by decide) ?_); (with_reducible refine i_sw1 ?_); (refine i_f (by decide) ?_); (with_reducible refine i_sw1 ?_); (refine i_t (by decide) ?_); (with_reducible refine i_RetI (i_eIf (i_cZ_eq (i_L1 ?_)))); (with_reducible refine i_f (by omega) ?_); (with_reducible refine i_I ?_))
      exact hk
  · subst e
    by_cases e0 : k = 2
    · rw [show zsp 5 k = 0 from if_pos e0] at hk
      ((with_reducible refine i_Sw (i_L0 (i_sw1 ?_))); (refine i_f (by decide) ?_); (with_reducible refine i_sw1 ?_); (refine i_f (by decide) ?_); (with_reducible refine i_sw1 ?_); (refine i_f (by decide) ?_); (with_reducible refine i_sw1 ?_); (refine i_f (by decide) ?_); (with_reducible refine i_sw1 ?_); (refine i_f (by decide) ?_); (with_reducible refine i_sw1 ?_); (refine i_f (by decide) ?_); (with_reducible refine i_sw1 ?_); (refine i_f (by decide) ?_); (with_reducible refine i_sw1 ?_); (refine i_f (by decide) ?_); (with_reducible refine i_sw1 ?_); (refine i_f (by decide) ?_); (with_reducible refine i_sw0 (i_RetI (i_eIf (i_cI_eq (i_L1 (i_I ?_)))))); (with_reducible refine i_t (by omega) ?_); (with_reducible refine i_I ?_))
      exact hk
    · rw [show zsp 5 k = 10 from if_neg e0] at hk
      ((with_reducible refine i_Sw (i_L0 (i_sw1 ?_))); (refine i_f (by decide) ?_); (with_reducible refine i_sw1 ?_); (refine i_f (by decide) ?_); (with_reducible refine i_sw1 ?_); (refine i_f (by decide) ?_); (with_reducible refine i_sw1 ?_); (refine i_f (by decide) ?_); (with_reducible refine i_sw1 ?_); (refine i_f (by decide) ?_); (with_reducible refine i_sw1 ?_); (refine i_f (by decide) ?_); (with_reducible refine i_sw1 ?_); (refine i_f (by decide) ?_); (with_reducible refine i_sw1 ?_); (refine i_f (by decide) ?_); (with_reducible refine i_sw1 ?_); (refine i_f (by decide) ?_); (with_reducible refine i_sw0 (i_RetI (i_eIf (i_cI_eq (i_L1 (i_I ?_)))))); (with_reducible refine i_f (by omega) ?_); (with_reducible refine i_I ?_))
      exact hk
  · subst e
    by_cases e0 : k = 0
    · rw [show zsp 6 k = 4 from if_pos e0] at hk
      ((with_reducible refine i_Sw (i_L0 (i_sw1 ?_))); (refine i_f (by decide) ?_); (with_reducible refine i_sw1 ?_); (refine i_f (by decide) ?_); (with_reducible refine i_sw1 ?_); (refine i_f (by decide) ?_); (with_reducible refine i_sw1 ?_); (refine i_f (by decide) ?_); (with_reducible refine i_sw1 ?_); (refine i_f (by decide) ?_); (with_reducible refine i_sw1 ?_); (refine i_t (by decide) ?_); (with_reducible refine i_RetI (i_eIf (i_cZ_eq (i_L1 ?_)))); (with_reducible refine i_t (by omega) ?_); (with_reducible refine i_I ?_))
      exact hk
    · rw [show zsp 6 k = 10 from if_neg e0] at hk
      ((with_reducible refine i_Sw (i_L0 (i_sw1 ?_))); (refine i_f (by decide) ?_); (with_reducible refine i_sw1 ?_); (refine i_f (by decide) ?_); (with_reducible refine i_sw1 ?_); (refine i_f (by decide) ?_); (with_reducible refine i_sw1 ?_); (refine i_f (by decide) ?_); (with_reducible refine i_sw1 ?_); (refine i_f (by decide) ?_); (with_reducible refine i_sw1 ?_); (refine i_t (by decide) ?_); (with_reducible refine i_RetI (i_eIf (i_cZ_eq (i_L1 ?_)))); (with_reducible refine i_f (by omega) ?_); (with_reducible refine i_I ?_))
      exact hk
  · subst e
    by_cases e0 : k = 1
    · rw [show zsp 7 k = 4 from if_pos e0] at hk
      ((with_reducible refine i_Sw (i_L0 (i_sw1 ?_))); (refine i_f (by decide) ?_); (with_reducible refine i_sw1 ?_); (refine i_f (by decide) ?_); (with_reducible refine i_sw1 ?_); (refine i_f (by decide) ?_); (with_reducible refine i_sw1 ?_); (refine i_f (by decide) ?_); (with_reducible refine i_sw1 ?_); (refine i_f (by decide) ?_); (with_reducible refine i_sw1 ?_); (refine i_f (by decide) ?_); (with_reducible refine i_sw1 ?_); (refine i_t (by decide) ?_); (with_reducible refine i_RetI (i_eIf (i_cI_eq (i_L1 (i_I ?_))))); (with_reducible refine i_t (by omega) ?_); (with_reducible refine i_I ?_))
      exact hk
    · rw [show zsp 7 k = 10 from if_neg e0] at hk
      ((with_reducible refine i_Sw (i_L0 (i_sw1 ?_))); (refine i_f (by decide) ?_); (with_reducible refine i_sw1 ?_); (refine i_f (by decide) ?_); (with_reducible refine i_sw1 ?_); (refine i_f (by decide) ?_); (with_reducible refine i_sw1 ?_); (refine i_f (by decide) ?_); (with_reducible refine i_sw1 ?_); (refine i_f (by decide) ?_); (with_reducible refine i_sw1 ?_); (refine i_f (by decide) ?_); (with_reducible refine i_sw1 ?_); (refine i_t (by decide) ?_); (with_reducible refine i_RetI (i_eIf (i_cI_eq (i_L1 (i_I ?_))))); (with_reducible refine i_f (by omega) ?_); (with_reducible refine i_I ?_))
      exact hk
  · subst e
    by_cases e0 : k = 1
    · rw [show zsp 8 k = 9 from if_pos e0] at hk
      ((with_reducible refine i_Sw (i_L0 (i_sw1 ?_))); (refine i_f (by decide) ?_); (with_reducible refine i_sw1 ?_); (refine i_f (by decide) ?_); (with_reducible refine i_sw1 ?_); (refine i_f (by decide) ?_); (with_reducible refine i_sw1 ?_); (refine i_f (by decide) ?_); (with_reducible refine i_sw1 ?_); (refine i_f (by decide) ?_); (with_reducible refine i_sw1 ?_); (refine i_f (by decide) ?_); (with_reducible refine i_sw1 ?_); (refine i_f (by decide) ?_); (with_reducible refine i_sw1 ?_); (refine i_t (by decide) ?_); (with_reducible refine i_RetI (i_eIf (i_cI_eq (i_L1 (i_I ?_))))); (with_reducible refine i_t (by omega) ?_); (with_reducible refine i_I ?_))
      exact hk
    · rw [show zsp 8 k = 10 from if_neg e0] at hk
      ((with_reducible refine i_Sw (i_L0 (i_sw1 ?_))); (refine i_f (by decide) ?_); (with_reducible refine i_sw1 ?_); (refine i_f (by decide) ?_); (with_reducible refine i_sw1 ?_); (refine i_f (by decide) ?_); (with_reducible refine i_sw1 ?_); (refine i_f (by decide) ?_); (with_reducible refine i_sw1 ?_); (refine i_f (by decide) ?_); (with_reducible refine i_sw1 ?_); (refine i_f (by decide) ?_); (with_reducible refine i_sw1 ?_); (refine i_f (by decide) ?_); (with_reducible refine i_sw1 ?_); (refine i_t (by decide) ?_); (with_reducible refine i_RetI (i_eIf (i_cI_eq (i_L1 (i_I ?_))))); (with_reducible refine i_f (by omega) ?_); (with_reducible refine i_I ?_))
      exact hk
  · subst e
    by_cases e0 : k = 1
    · rw [show zsp 9 k = 5 from if_pos e0] at hk
      ((with_reducible refine i_Sw (i_L0 (i_sw1 ?_))); (refine i_f (by decide) ?_); (with_reducible refine i_sw1 ?_); (refine i_f (by decide) ?_); (with_reducible refine i_sw1 ?_); (refine i_f (by decide) ?_); (with_reducible refine i_sw1 ?_); (refine i_f (by decide) ?_); (with_reducible refine i_sw1 ?_); (refine i_f (by decide) ?_); (with_reducible refine i_sw1 ?_); (refine i_f (by decide) ?_); (with_reducible refine i_sw1 ?_); (refine i_f (by decide) ?_); (with_reducible refine i_sw1 ?_); (refine i_f (by decide) ?_); (with_reducible refine i_sw1 ?_); (refine i_t (by decide) ?_); (with_reducible refine i_RetI (i_eIf (i_cI_eq (i_L1 (i_I ?_))))); (with_reducible refine i_t (by omega) ?_); (with_reducible refine i_I ?_))
      exact hk
    · rw [show zsp 9 k = 10 from if_neg e0] at hk
      ((with_reducible refine i_Sw (i_L0 (i_sw1 ?_))); (refine i_f (by decide) ?_); (with_reducible refine i_sw1 ?_); (refine i_f (by decide) ?_); (with_reducible refine i_sw1 ?_); (refine i_f (by decide) ?_); (with_reducible refine i_sw1 ?_); (refine i_f (by decide) ?_); (with_reducible refine i_sw1 ?_); (refine i_f (by decide) ?_); (with_reducible refine i_sw1 ?_); (refine i_f (by decide) ?_); (with_reducible refine i_sw1 ?_); (refine i_f (by decide) ?_); (with_reducible refine i_sw1 ?_); (refine i_f (by decide) ?_); (with_reducible refine i_sw1 ?_); (refine i_t (by decide) ?_); (with_reducible refine i_RetI (i_eIf (i_cI_eq (i_L1 (i_I ?_))))); (with_reducible refine i_f (by omega) ?_); (with_reducible refine i_I ?_))
      exact hk
theorem c_tblame {O : zOm} (hO : zWld O) (hS : zS O = zmS zC0) {f p : Int} {M : zMem} {K : Option zV → zMem → Prop} (hk : ∀ M', (∀ b j, ¬ (b = ((86 : Nat) : Int) ∧ (j = 7 ∨ j = 8)) → M' b j = M b j) → M' ((86 : Nat) : Int) ((7 : Nat) : Int) = f → M' ((86 : Nat) : Int) ((8 : Nat) : Int) = p → K none M') : zR O F_Tape_blame [(2, ((86 : Nat) : Int)), (0, f), (0, p)] M K := by
  apply r_Tape_blame hO
  unfold B_Tape_blame
  have f86_7 := zf_86_7 hS; have f86_8 := zf_86_8 hS; have z86 := zo_86 hS
  ((with_reducible refine i_Seq (i_Seq (i_sF (i_A0 (i_L1 ?_))))); (with_reducible refine i_fld (by assumption) ?_); (with_reducible refine i_sF (i_A0 (i_L2 ?_))); (with_reducible refine i_fld (by assumption) ?_); (with_reducible refine i_RetV ?_))
  exact hk _ (fun b j q => by rw [zg_o _ _ (by omega), zg_o _ _ (by omega)]) (by rw [zg_o _ _ (by omega)]; exact zg_s _ _ _ _ _) (zg_s _ _ _ _ _)
theorem c_keep {O : zOm} (hO : zWld O) (hS : zS O = zmS zC0) {a c x : Int} {i : Nat} {M : zMem} {K : Option zV → zMem → Prop} (hi : M ((86 : Nat) : Int) ((6 : Nat) : Int) = ((i : Nat) : Int)) (h4 : i < 400)
    (hk : ∀ M', (∀ b j, ¬ (b = ((86 : Nat) : Int) ∧ j = 6 ∨ (((88 : Nat) : Int) ≤ b ∧ b ≤ ((90 : Nat) : Int)) ∧ j = ((i : Nat) : Int)) → M' b j = M b j) → M' ((86 : Nat) : Int) ((6 : Nat) : Int) = ((i + 1 : Nat) : Int) → M' ((88 : Nat) : Int) ((i : Nat) : Int) = a → M' ((89 : Nat) : Int) ((i : Nat) : Int) = c → M' ((90 : Nat) : Int) ((i : Nat) : Int) = x → K none M') : zR O F_Tape_keep [(2, ((86 : Nat) : Int)), (0, a), (1, x), (0, c)] M K := by
  have a90 := zCA (a := 90) (ty := .long) (n := 400) hS rfl
  apply r_Tape_keep hO
  unfold B_Tape_keep
  have f86_1 := zf_86_1 hS; have a88 := zCA (a := 88) (ty := .int) (n := 400) hS rfl; have f86_6 := zf_86_6 hS; have f86_3 := zf_86_3 hS; have a90 := zCA (a := 90) (ty := .long) (n := 400) hS rfl; have f86_2 := zf_86_2 hS; have a89 := zCA (a := 89) (ty := .int) (n := 400) hS rfl; have z86 := zo_86 hS
  ((with_reducible refine i_Seq (i_Seq (i_sIA (i_FR (i_A0 ?_))))); (with_reducible refine i_fldR (by assumption) ?_); (with_reducible refine i_F (i_A0 ?_)); (with_reducible refine i_fld (by assumption) ?_); (with_reducible refine i_L1 ?_); (with_reducible refine i_in (by assumption) (by omega) (by omega) ?_); (with_reducible refine i_Seq (i_sLA (i_FR (i_A0 ?_)))); (with_reducible refine i_fldR (by assumption) ?_); (with_reducible refine i_F (i_A0 ?_)); (with_reducible refine i_fld (by assumption) ?_); (with_reducible refine i_Ll2 ?_); rw [zg_n _ _ _ (by omega)]; (with_reducible refine i_in (by assumption) (by omega) (by omega) ?_); (with_reducible refine i_Seq (i_sIA (i_FR (i_A0 ?_)))); (with_reducible refine i_fldR (by assumption) ?_); (with_reducible refine i_F (i_A0 ?_)); (with_reducible refine i_fld (by assumption) ?_); (with_reducible refine i_L4 ?_); rw [zg_n _ _ _ (by omega)]; rw [zg_n _ _ _ (by omega)]; (with_reducible refine i_in (by assumption) (by omega) (by omega) ?_); (with_reducible refine i_FO (i_A0 ?_)); (with_reducible refine i_fld (by assumption) ?_); (with_reducible refine i_I ?_); (with_reducible refine i_fld (by assumption) ?_); (with_reducible refine i_RetV ?_); rw [zg_n _ _ _ (by omega)]; rw [zg_n _ _ _ (by omega)]; rw [zg_n _ _ _ (by omega)]; (rw [hi]); rw [zx_inc (by omega)])
  exact hk _ (fun b j q => by rw [zg_o _ _ (by omega), zg_o _ _ (by omega), zg_o _ _ (by omega), zg_o _ _ (by omega)]) (zg_s _ _ _ _ _) (by (rw [zg_n _ _ _ (by omega)]; rw [zg_n _ _ _ (by omega)]; rw [zg_n _ _ _ (by omega)]; rw [zg_s])) (by (rw [zg_n _ _ _ (by omega)]; rw [zg_s])) (by (rw [zg_n _ _ _ (by omega)]; rw [zg_n _ _ _ (by omega)]; rw [zg_s]))
/-- the tokens that the class keeps -/
def cTk1 (M : zMem) (B : Nat → Nat) (s j : Nat) : Prop := M ((88 : Nat) : Int) ((j : Nat) : Int) = ((zKi B s j : Nat) : Int) ∧ M ((89 : Nat) : Int) ((j : Nat) : Int) = ((zps B s j : Nat) : Int) ∧ (zsr B s (zps B s j) = 1 ∨ zsr B s (zps B s j) = 2 → M ((90 : Nat) : Int) ((j : Nat) : Int) = ((zVi B s j : Nat) : Int))
set_option maxHeartbeats 3200000 in
theorem c_scan {O : zOm} (hO : zWld O) (hS : zS O = zmS zC0) {s : Nat} {B : Nat → Nat} {M : zMem} {K : Option zV → zMem → Prop} (hT : cTp M s B) (hQ : cQt M)
    (hk : ∀ M', (∀ b j, ¬ (b = ((86 : Nat) : Int) ∧ 6 ≤ j ∧ j ≤ 8 ∨ ((88 : Nat) : Int) ≤ b ∧ b ≤ ((90 : Nat) : Int)) → M' b j = M b j) → M' ((86 : Nat) : Int) ((6 : Nat) : Int) = ((zhh B s : Nat) : Int) → M' ((86 : Nat) : Int) ((7 : Nat) : Int) = ((zFf (zksF B s) : Nat) : Int) → M' ((86 : Nat) : Int) ((8 : Nat) : Int) = zFq (zksF B s) → (∀ j, j < zhh B s → cTk1 M' B s j) → K none M') : zR O F_Tape_scan [(2, ((86 : Nat) : Int))] M K := by
  have t1 := hT.1
  have t2 := hT.2.1
  have h400 := (zhh_ok B s).1
  obtain ⟨w1, w2, -, -⟩ := zksk_ok B (Nat.zero_le s)
  apply r_Tape_scan hO
  unfold B_Tape_scan
  have f86_6 := zf_86_6 hS; have f86_7 := zf_86_7 hS; have f86_8 := zf_86_8 hS; have f86_5 := zf_86_5 hS; have z86 := zo_86 hS
  ((with_reducible refine i_Seq (i_Seq (i_sF (i_A0 (i_I ?_))))); (with_reducible refine i_fld (by assumption) ?_); (with_reducible refine i_Seq (i_sF (i_A0 (i_I ?_)))); (with_reducible refine i_fld (by assumption) ?_); (with_reducible refine i_Seq (i_sF (i_A0 (i_I ?_)))); (with_reducible refine i_fld (by assumption) ?_); (with_reducible refine i_Seq (i_Set (i_I (i_Seq (i_Set (i_I (i_Seq (i_Set (i_Call (i_as1 ?_)))))))))); simp only [w_set0, w_set1, w_setn0, w_setn1]; (with_reducible refine i_A0 (i_as1 (i_I (i_as0 ?_)))); (with_reducible refine i_recv0 (by assumption) ?_); simp only [w_set0, w_set1, w_setn0, w_setn1])
  refine c_skipBlanks hO hS (k := 0) (hT.to (fun b j q => by rw [zg_o _ _ (by omega), zg_o _ _ (by omega), zg_o _ _ (by omega)])) (Nat.zero_le s) ⟨_, rfl, ?_⟩
  ((with_reducible refine i_Seq (i_Blk (i_Seq (i_Set (i_I ?_))))); simp only [w_set0, w_set1, w_setn0, w_setn1])
  obtain ⟨N, hN⟩ : ∃ N, N = zhh B s + (if zps B s (zhh B s) < s then 1 else 0) := ⟨_, rfl⟩
  refine w_ForN N (fun k ρ M' => (∃ l, ρ = ((86 : Nat) : Int) :: zkkI (zqs B s k) :: ((zkwc B s k : Nat) : Int) :: ((zps B s (min k (zhh B s)) : Nat) : Int) :: ((k : Nat) : Int) :: l) ∧ (∀ b j, ¬ (b = ((86 : Nat) : Int) ∧ 6 ≤ j ∧ j ≤ 8 ∨ ((88 : Nat) : Int) ≤ b ∧ b ≤ ((90 : Nat) : Int)) → M' b j = M b j) ∧ M' ((86 : Nat) : Int) ((6 : Nat) : Int) = ((min k (zhh B s) : Nat) : Int) ∧ (∀ j, j < min k (zhh B s) → cTk1 M' B s j) ∧ (k ≤ zhh B s → M' ((86 : Nat) : Int) ((7 : Nat) : Int) = 0 ∧ M' ((86 : Nat) : Int) ((8 : Nat) : Int) = -1) ∧ (zhh B s < k → M' ((86 : Nat) : Int) ((7 : Nat) : Int) = ((zFf (zksF B s) : Nat) : Int) ∧ M' ((86 : Nat) : Int) ((8 : Nat) : Int) = zFq (zksF B s) ∧ zksF B s ≠ 99999)) ⟨⟨_, by rw [show min 0 (zhh B s) = 0 by omega]; rfl⟩, fun b j q => by rw [zg_o _ _ (by omega), zg_o _ _ (by omega), zg_o _ _ (by omega)], by rw [show min 0 (zhh B s) = 0 by omega, zg_o _ _ (by omega), zg_o _ _ (by omega)]; exact zg_s _ _ _ _ _, fun j hj => absurd hj (by omega), fun _ => ⟨by rw [zg_o _ _ (by omega)]; exact zg_s _ _ _ _ _, zg_s _ _ _ _ _⟩, fun z => absurd z (by omega)⟩ ?_ ?_
  · rintro k ρ M1 X hk1 ⟨⟨l, rfl⟩, f1, g1, c1, a1, -⟩ hX
    have hkh : k ≤ zhh B s := by split at hN <;> omega
    rw [show min k (zhh B s) = k by omega] at g1 c1 ⊢
    obtain ⟨a2, a3⟩ := a1 hkh
    have hlt : zps B s k < s := by
      rcases Nat.lt_or_ge k (zhh B s) with q | q
      · exact ((zhh_ok B s).2.1 k q).1
      · have e : k = zhh B s := by omega
        rw [e]
        split at hN
        · assumption
        · omega
    have hT1 : cTp M1 s B := hT.to (fun b j q => f1 b j (by omega))
    have hQ1 : cQt M1 := fun i h1 h2 => by rw [f1 _ _ (by omega)]; exact hQ i h1 h2
    have t11 := hT1.1
    have hq10 := zqs_lt hkh
    have hwc := zkwc_h hkh
    have hki := zKi_le B s k
    obtain ⟨e1, e2, -, -⟩ := zen_ok B hlt
    have hzq : zkkI (zqs B s k) = ((zqs B s k : Nat) : Int) := if_neg (by omega)
    have hsu : zqs B s (k + 1) = zsp (zqs B s k) (zKi B s k) := rfl
    rw [hzq]
    ((with_reducible refine i_turn (i_cAnd (i_cAnd (i_cI_lt (i_L4 (i_I ?_)))))); (with_reducible refine i_t (by omega) ?_); (with_reducible refine i_cZ_eq (i_F (i_A0 ?_))); (with_reducible refine i_fld (by assumption) ?_); (rw [a2]); simp only [w_set0, w_set1, w_setn0, w_setn1]; (with_reducible refine i_t trivial ?_); (with_reducible refine i_cI_lt (i_L3 (i_F (i_A0 ?_)))); (with_reducible refine i_fld (by assumption) ?_); (rw [t11]); (with_reducible refine i_t (by omega) ?_); (with_reducible refine i_Blk (i_Seq (i_Set (i_Call (i_as1 (i_A0 (i_as1 (i_L3 (i_as0 ?_))))))))); (with_reducible refine i_recv0 (by assumption) ?_); simp only [w_set0, w_set1, w_setn0, w_setn1])
    refine c_endOf hO hS hT1 hlt ⟨_, rfl, ?_⟩
    ((with_reducible refine i_Seq (i_Set (i_Call (i_as1 (i_A0 (i_as1 (i_L3 (i_as1 ?_)))))))); rw [w_setT]; (with_reducible refine i_L5 (i_as0 ?_)); (with_reducible refine i_recv0 (by assumption) ?_); simp only [w_set0, w_set1, w_setn0, w_setn1])
    refine c_valueOf hO hS hT1 hlt rfl (fun v hv => ⟨_, rfl, ?_⟩)
    ((with_reducible refine i_Seq (i_Set (i_Call (i_as1 (i_A0 (i_as1 (i_L3 (i_as1 (i_L5 (i_as1 ?_)))))))))); rw [w_setT]; (with_reducible refine i_Ll6 (i_as0 ?_)); (with_reducible refine i_recv0 (by assumption) ?_); simp only [w_set0, w_set1, w_setn0, w_setn1])
    refine c_kindOf2 hO hS hT1 hQ1 hlt rfl hv ⟨_, rfl, ?_⟩
    have hkd : zkd B s (zps B s k) (zen B s (zps B s k)) = zKi B s k := rfl
    rw [hkd]
    ((with_reducible refine i_Seq (i_Set (i_Call (i_as1 (i_L1 (i_as1 ?_)))))); (rw [w_setT1]); (with_reducible refine i_L8 (i_as0 (i_recv1 ?_))); simp only [w_set0, w_set1, w_setn0, w_setn1])
    refine c_step hO hq10 hki ⟨_, rfl, ?_⟩
    rw [← hsu]
    (with_reducible refine i_Seq (i_Set (i_Add (i_L2 (i_eIf (i_cZ_ne (i_Call (i_as1 (i_L8 (i_as0 (i_recv1 ?_)))))))))))
    refine c_isWord hO hki ⟨_, rfl, ?_⟩
    have hwn := zkwc_su B s k
    have hend : ∀ (l : zLoc) (w : Nat), w = zkwc B s (k + 1) → ∀ M2 : zMem, (∀ b j, ¬ (b = ((86 : Nat) : Int) ∧ 6 ≤ j ∧ j ≤ 8 ∨ ((88 : Nat) : Int) ≤ b ∧ b ≤ ((90 : Nat) : Int)) → M2 b j = M1 b j) → ((zqs B s (k + 1) = 10 → zbI (decide (zqs B s (k + 1) = 10)) = 1) ∧ True) → True := fun _ _ _ _ _ _ => trivial
    clear hend
    by_cases hgood : k < zhh B s
    · obtain ⟨y1, y2, y3, y4⟩ := (zhh_ok B s).2.1 k hgood
      have hz2 : zkkI (zqs B s (k + 1)) = ((zqs B s (k + 1) : Nat) : Int) := if_neg y2
      have hX2 : ∀ (l : zLoc) (M2 : zMem), (∀ b j, ¬ (b = ((86 : Nat) : Int) ∧ 6 ≤ j ∧ j ≤ 8 ∨ ((88 : Nat) : Int) ≤ b ∧ b ≤ ((90 : Nat) : Int)) → M2 b j = M b j) → M2 ((86 : Nat) : Int) ((6 : Nat) : Int) = ((k + 1 : Nat) : Int) → (∀ j, j < k + 1 → cTk1 M2 B s j) → M2 ((86 : Nat) : Int) ((7 : Nat) : Int) = 0 → M2 ((86 : Nat) : Int) ((8 : Nat) : Int) = -1 → X (((86 : Nat) : Int) :: ((zqs B s (k + 1) : Nat) : Int) :: ((zkwc B s (k + 1) : Nat) : Int) :: ((zps B s (k + 1) : Nat) : Int) :: ((k + 1 : Nat) : Int) :: l) M2 := fun l M2 b1 b2 b3 b4 b5 => hX _ _ ⟨⟨l, by rw [hz2, show min (k + 1) (zhh B s) = k + 1 by omega]⟩, b1, by rw [show min (k + 1) (zhh B s) = k + 1 by omega]; exact b2, by rw [show min (k + 1) (zhh B s) = k + 1 by omega]; exact b3, fun _ => ⟨b4, b5⟩, fun z => absurd z (by omega)⟩
      have hw2 : ∀ w : Bool, zwd (zKi B s k) = w → zkwc B s k + (if w = true then 1 else 0) = zkwc B s (k + 1) := fun w e => by rw [hwn, e]
      have fin : ∀ (l : zLoc), zqs B s (k + 1) = zqs B s (k + 1) := fun _ => rfl
      clear fin
      have hzi : zkkI (zKi B s k) = ((zKi B s k : Nat) : Int) := if_neg (by have := zKi_h hgood; omega)
      have hnx : ∀ (M2 : zMem), (∀ b j, ¬ (b = ((86 : Nat) : Int) ∧ j = 6 ∨ (((88 : Nat) : Int) ≤ b ∧ b ≤ ((90 : Nat) : Int)) ∧ j = ((k : Nat) : Int)) → M2 b j = M1 b j) → M2 ((86 : Nat) : Int) ((6 : Nat) : Int) = ((k + 1 : Nat) : Int) → M2 ((88 : Nat) : Int) ((k : Nat) : Int) = zkkI (zKi B s k) → M2 ((89 : Nat) : Int) ((k : Nat) : Int) = ((zps B s k : Nat) : Int) → M2 ((90 : Nat) : Int) ((k : Nat) : Int) = v → (∀ b j, ¬ (b = ((86 : Nat) : Int) ∧ 6 ≤ j ∧ j ≤ 8 ∨ ((88 : Nat) : Int) ≤ b ∧ b ≤ ((90 : Nat) : Int)) → M2 b j = M b j) ∧ (∀ j, j < k + 1 → cTk1 M2 B s j) ∧ M2 ((86 : Nat) : Int) ((7 : Nat) : Int) = 0 ∧ M2 ((86 : Nat) : Int) ((8 : Nat) : Int) = -1 ∧ cTp M2 s B := fun M2 f2 g2 s1 s2 s3 => ⟨fun b j q => by rw [f2 b j (by omega), f1 b j q], fun j hj => by
        rcases Nat.lt_or_ge j k with q | q
        · obtain ⟨z1, z2, z3⟩ := c1 j q
          exact ⟨by rw [f2 _ _ (by omega)]; exact z1, by rw [f2 _ _ (by omega)]; exact z2, fun z => by rw [f2 _ _ (by omega)]; exact z3 z⟩
        · obtain rfl : j = k := by omega
          exact ⟨by rw [s1, hzi], s2, fun z => by rw [s3]; exact hv z⟩, by rw [f2 _ _ (by omega)]; exact a2, by rw [f2 _ _ (by omega)]; exact a3, hT1.to (fun b j q => f2 b j (by omega))⟩
      cases hwk : zwd (zKi B s k)
      · have hw3 := hw2 false hwk
        rw [if_neg (by decide), Nat.add_zero] at hw3
        rw [hz2]
        (rw [zbI_f]; (with_reducible refine i_f (by omega) ?_); (with_reducible refine i_I (i_Ite (i_cI_eq ?_))); rw [zx_addc (by omega)]; simp only [w_set0, w_set1, w_setn0, w_setn1]; (with_reducible refine i_L1 (i_I ?_)); (with_reducible refine i_f (by omega) ?_); (with_reducible refine i_Ite (i_cOr (i_cI_ge (i_F (i_A0 ?_))))); (with_reducible refine i_fld (by assumption) ?_); (with_reducible refine i_I ?_); (rw [g1]); (with_reducible refine i_f (by omega) ?_); (with_reducible refine i_cI_gt (i_L2 (i_I ?_))); (with_reducible refine i_f (by omega) ?_); (with_reducible refine i_Seq (i_sCall (i_as1 (i_A0 (i_as1 (i_L8 (i_as1 (i_Ll6 (i_as1 (i_L3 (i_as0 ?_))))))))))); (with_reducible refine i_recv0 (by assumption) ?_))
        refine c_keep hO hS g1 y3 (fun M2 f2 g2 s1 s2 s3 => ⟨rfl, ?_⟩)
        obtain ⟨n1, n2, n3, n4, n5⟩ := hnx M2 f2 g2 s1 s2 s3
        ((with_reducible refine i_Set (i_Call (i_as1 (i_A0 (i_as1 (i_L5 (i_as0 ?_))))))); (with_reducible refine i_recv0 (by assumption) ?_); simp only [w_set0, w_set1, w_setn0, w_setn1])
        refine c_skipBlanks hO hS n5 e2 ⟨_, rfl, ?_⟩
        rw [hw3]
        ((with_reducible refine i_up (i_Inc4 ?_)); rw [zx_inc (by omega)]; simp only [w_set0, w_set1, w_setn0, w_setn1])
        exact hX2 _ M2 n1 g2 n2 n3 n4
      · have hw3 := hw2 true hwk
        rw [if_pos rfl] at hw3
        rw [hz2]
        (rw [zbI_t]; (with_reducible refine i_t (by omega) ?_); (with_reducible refine i_I (i_Ite (i_cI_eq ?_))); rw [zx_inc (by omega)]; simp only [w_set0, w_set1, w_setn0, w_setn1]; (with_reducible refine i_L1 (i_I ?_)); (with_reducible refine i_f (by omega) ?_); (with_reducible refine i_Ite (i_cOr (i_cI_ge (i_F (i_A0 ?_))))); (with_reducible refine i_fld (by assumption) ?_); (with_reducible refine i_I ?_); (rw [g1]); (with_reducible refine i_f (by omega) ?_); (with_reducible refine i_cI_gt (i_L2 (i_I ?_))); (with_reducible refine i_f (by omega) ?_); (with_reducible refine i_Seq (i_sCall (i_as1 (i_A0 (i_as1 (i_L8 (i_as1 (i_Ll6 (i_as1 (i_L3 (i_as0 ?_))))))))))); (with_reducible refine i_recv0 (by assumption) ?_))
        refine c_keep hO hS g1 y3 (fun M2 f2 g2 s1 s2 s3 => ⟨rfl, ?_⟩)
        obtain ⟨n1, n2, n3, n4, n5⟩ := hnx M2 f2 g2 s1 s2 s3
        ((with_reducible refine i_Set (i_Call (i_as1 (i_A0 (i_as1 (i_L5 (i_as0 ?_))))))); (with_reducible refine i_recv0 (by assumption) ?_); simp only [w_set0, w_set1, w_setn0, w_setn1])
        refine c_skipBlanks hO hS n5 e2 ⟨_, rfl, ?_⟩
        rw [hw3]
        ((with_reducible refine i_up (i_Inc4 ?_)); rw [zx_inc (by omega)]; simp only [w_set0, w_set1, w_setn0, w_setn1])
        exact hX2 _ M2 n1 g2 n2 n3 n4
    · have hH : zhh B s = k := by omega
      have hbad := (zhh_ok B s).2.2
      rw [hH] at hbad
      have hX2 : ∀ (l : zLoc) (w : Nat), w = zkwc B s (k + 1) → ∀ M2 : zMem, (∀ b j, ¬ (b = ((86 : Nat) : Int) ∧ (j = 7 ∨ j = 8)) → M2 b j = M1 b j) → M2 ((86 : Nat) : Int) ((7 : Nat) : Int) = ((zFf (zksF B s) : Nat) : Int) → M2 ((86 : Nat) : Int) ((8 : Nat) : Int) = zFq (zksF B s) → zksF B s ≠ 99999 → X (((86 : Nat) : Int) :: zkkI (zqs B s (k + 1)) :: ((w : Nat) : Int) :: ((zps B s k : Nat) : Int) :: ((k + 1 : Nat) : Int) :: l) M2 := fun l w e M2 b1 b2 b3 b4 => hX _ _ ⟨⟨l, by rw [e, show min (k + 1) (zhh B s) = k by omega]⟩, fun b j q => by rw [b1 b j (by omega)]; exact f1 b j q, by rw [show min (k + 1) (zhh B s) = k by omega, b1 _ _ (by omega)]; exact g1, fun j hj => by
        obtain ⟨z1, z2, z3⟩ := c1 j (by omega)
        exact ⟨by rw [b1 _ _ (by omega)]; exact z1, by rw [b1 _ _ (by omega)]; exact z2, fun z => by rw [b1 _ _ (by omega)]; exact z3 z⟩, fun z => absurd z (by omega), fun _ => ⟨b2, b3, b4⟩⟩
      by_cases h10 : zqs B s (k + 1) = 10
      · have hF : zksF B s = 8 * zps B s k + 1 := by
          unfold zksF
          rw [hH, if_neg (by omega), if_pos h10]
        have hz2 : zkkI (zqs B s (k + 1)) = -1 := by rw [h10]; rfl
        rw [hF, (zFf_1 (show zps B s k ≤ 2000 by omega)).1, (zFf_1 (show zps B s k ≤ 2000 by omega)).2] at hX2
        rw [hz2] at hX2 ⊢
        cases hwk : zwd (zKi B s k)
        · rw [hwk, if_neg (by decide), Nat.add_zero] at hwn
          (rw [zbI_f]; (with_reducible refine i_f (by omega) ?_); (with_reducible refine i_I (i_Ite (i_cI_eq ?_))); rw [zx_addc (by omega)]; simp only [w_set0, w_set1, w_setn0, w_setn1]; (with_reducible refine i_L1 (i_I ?_)); simp only [w_set0, w_set1, w_setn0, w_setn1]; (with_reducible refine i_t trivial ?_); (with_reducible refine i_sCall (i_as1 (i_A0 (i_as1 (i_I (i_as1 (i_L3 (i_as0 ?_)))))))); (with_reducible refine i_recv0 (by assumption) ?_))
          refine c_tblame hO hS (fun M2 f2 g2 g3 => ⟨rfl, ?_⟩)
          ((with_reducible refine i_up (i_Inc4 ?_)); rw [zx_inc (by omega)]; simp only [w_set0, w_set1, w_setn0, w_setn1])
          exact hX2 _ _ hwn.symm M2 f2 g2 g3 (by omega)
        · rw [hwk, if_pos rfl] at hwn
          (rw [zbI_t]; (with_reducible refine i_t (by omega) ?_); (with_reducible refine i_I (i_Ite (i_cI_eq ?_))); rw [zx_inc (by omega)]; simp only [w_set0, w_set1, w_setn0, w_setn1]; (with_reducible refine i_L1 (i_I ?_)); simp only [w_set0, w_set1, w_setn0, w_setn1]; (with_reducible refine i_t trivial ?_); (with_reducible refine i_sCall (i_as1 (i_A0 (i_as1 (i_I (i_as1 (i_L3 (i_as0 ?_)))))))); (with_reducible refine i_recv0 (by assumption) ?_))
          refine c_tblame hO hS (fun M2 f2 g2 g3 => ⟨rfl, ?_⟩)
          ((with_reducible refine i_up (i_Inc4 ?_)); rw [zx_inc (by omega)]; simp only [w_set0, w_set1, w_setn0, w_setn1])
          exact hX2 _ _ hwn.symm M2 f2 g2 g3 (by omega)
      · have hF : zksF B s = 8 * zps B s k + 2 := by
          unfold zksF
          rw [hH, if_neg (by omega), if_neg h10]
        have hz2 : zkkI (zqs B s (k + 1)) = ((zqs B s (k + 1) : Nat) : Int) := if_neg h10
        rw [hF, (zFf_2 (show zps B s k ≤ 2000 by omega)).1, (zFf_2 (show zps B s k ≤ 2000 by omega)).2] at hX2
        rw [hz2] at hX2 ⊢
        cases hwk : zwd (zKi B s k)
        · rw [hwk, if_neg (by decide), Nat.add_zero] at hwn
          have h4 : 400 ≤ k := by
            rcases Nat.lt_or_ge k 400 with q | q
            · exact absurd ⟨hlt, h10, q, by omega⟩ hbad
            · exact q
          (rw [zbI_f]; (with_reducible refine i_f (by omega) ?_); (with_reducible refine i_I (i_Ite (i_cI_eq ?_))); rw [zx_addc (by omega)]; simp only [w_set0, w_set1, w_setn0, w_setn1]; (with_reducible refine i_L1 (i_I ?_)); (with_reducible refine i_f (by omega) ?_); (with_reducible refine i_Ite (i_cOr (i_cI_ge (i_F (i_A0 ?_))))); (with_reducible refine i_fld (by assumption) ?_); (with_reducible refine i_I ?_); (rw [g1]); (with_reducible refine i_t (by omega) ?_); (with_reducible refine i_sCall (i_as1 (i_A0 (i_as1 (i_I (i_as1 (i_L3 (i_as0 ?_)))))))); (with_reducible refine i_recv0 (by assumption) ?_))
          refine c_tblame hO hS (fun M2 f2 g2 g3 => ⟨rfl, ?_⟩)
          ((with_reducible refine i_up (i_Inc4 ?_)); rw [zx_inc (by omega)]; simp only [w_set0, w_set1, w_setn0, w_setn1])
          exact hX2 _ _ hwn.symm M2 f2 g2 g3 (by omega)
        · rw [hwk, if_pos rfl] at hwn
          by_cases h4 : 400 ≤ k
          · (rw [zbI_t]; (with_reducible refine i_t (by omega) ?_); (with_reducible refine i_I (i_Ite (i_cI_eq ?_))); rw [zx_inc (by omega)]; simp only [w_set0, w_set1, w_setn0, w_setn1]; (with_reducible refine i_L1 (i_I ?_)); (with_reducible refine i_f (by omega) ?_); (with_reducible refine i_Ite (i_cOr (i_cI_ge (i_F (i_A0 ?_))))); (with_reducible refine i_fld (by assumption) ?_); (with_reducible refine i_I ?_); (rw [g1]); (with_reducible refine i_t (by omega) ?_); (with_reducible refine i_sCall (i_as1 (i_A0 (i_as1 (i_I (i_as1 (i_L3 (i_as0 ?_)))))))); (with_reducible refine i_recv0 (by assumption) ?_))
            refine c_tblame hO hS (fun M2 f2 g2 g3 => ⟨rfl, ?_⟩)
            ((with_reducible refine i_up (i_Inc4 ?_)); rw [zx_inc (by omega)]; simp only [w_set0, w_set1, w_setn0, w_setn1])
            exact hX2 _ _ hwn.symm M2 f2 g2 g3 (by omega)
          · have h41 : 40 < zkwc B s k + 1 := by
              rcases Nat.lt_or_ge 40 (zkwc B s k + 1) with q | q
              · exact q
              · exact absurd ⟨hlt, h10, by omega, by omega⟩ hbad
            (rw [zbI_t]; (with_reducible refine i_t (by omega) ?_); (with_reducible refine i_I (i_Ite (i_cI_eq ?_))); rw [zx_inc (by omega)]; simp only [w_set0, w_set1, w_setn0, w_setn1]; (with_reducible refine i_L1 (i_I ?_)); (with_reducible refine i_f (by omega) ?_); (with_reducible refine i_Ite (i_cOr (i_cI_ge (i_F (i_A0 ?_))))); (with_reducible refine i_fld (by assumption) ?_); (with_reducible refine i_I ?_); (rw [g1]); (with_reducible refine i_f (by omega) ?_); (with_reducible refine i_cI_gt (i_L2 (i_I ?_))); (with_reducible refine i_t (by omega) ?_); (with_reducible refine i_sCall (i_as1 (i_A0 (i_as1 (i_I (i_as1 (i_L3 (i_as0 ?_)))))))); (with_reducible refine i_recv0 (by assumption) ?_))
            refine c_tblame hO hS (fun M2 f2 g2 g3 => ⟨rfl, ?_⟩)
            ((with_reducible refine i_up (i_Inc4 ?_)); rw [zx_inc (by omega)]; simp only [w_set0, w_set1, w_setn0, w_setn1])
            exact hX2 _ _ hwn.symm M2 f2 g2 g3 (by omega)
  · rintro ρ M1 X ⟨⟨l, rfl⟩, f1, g1, c1, a1, b1⟩
    have t11 : M1 ((86 : Nat) : Int) ((5 : Nat) : Int) = ((s : Nat) : Int) := by rw [f1 _ _ (by omega)]; exact t1
    have hmin : min N (zhh B s) = zhh B s := by split at hN <;> omega
    rw [hmin] at g1 c1 ⊢
    by_cases hlt : zps B s (zhh B s) < s
    · rw [if_pos hlt] at hN
      obtain ⟨b2, b3, b4⟩ := b1 (by omega)
      have hf0 : ¬ ((zFf (zksF B s) : Nat) : Int) = 0 := by
        have hz : zksF B s ≠ 99999 := b4
        unfold zksF at hz ⊢
        rw [if_neg (show ¬ zps B s (zhh B s) = s by omega)] at hz ⊢
        split
        · rw [(zFf_1 (show zps B s (zhh B s) ≤ 2000 by omega)).1]; decide
        · rw [(zFf_2 (show zps B s (zhh B s) ≤ 2000 by omega)).1]; decide
      ((with_reducible refine i_turn (i_cAnd (i_cAnd (i_cI_lt (i_L4 (i_I ?_)))))); (with_reducible refine i_t (by omega) ?_); (with_reducible refine i_cZ_eq (i_F (i_A0 ?_))); (with_reducible refine i_fld (by assumption) ?_); (rw [b2]); (with_reducible refine i_f (by omega) ?_); (with_reducible refine i_If (i_cAnd (i_cZ_eq (i_F (i_A0 ?_))))); (with_reducible refine i_fld (by assumption) ?_); (rw [b2]); (with_reducible refine i_f (by omega) ?_); (with_reducible refine i_RetV ?_))
      exact hk M1 f1 g1 b2 b3 c1
    · rw [if_neg hlt] at hN
      obtain ⟨a2, a3⟩ := a1 (by omega)
      have hse : zps B s (zhh B s) = s := by have := zps_le B s (zhh B s); omega
      have hNh : N = zhh B s := by omega
      rw [hNh]
      have hzq : zkkI (zqs B s (zhh B s)) = ((zqs B s (zhh B s) : Nat) : Int) := if_neg (by have := zqs_lt (Nat.le_refl (zhh B s)); omega)
      rw [hzq]
      by_cases h0 : zqs B s (zhh B s) = 0
      · have hF : zksF B s = 99999 := by
          unfold zksF
          rw [if_pos hse, if_pos h0]
        rw [hF, zFf_n.1, zFf_n.2] at hk
        ((with_reducible refine i_turn (i_cAnd (i_cAnd (i_cI_lt (i_L4 (i_I ?_)))))); (with_reducible refine i_t (by omega) ?_); (with_reducible refine i_cZ_eq (i_F (i_A0 ?_))); (with_reducible refine i_fld (by assumption) ?_); (rw [a2]); simp only [w_set0, w_set1, w_setn0, w_setn1]; (with_reducible refine i_t trivial ?_); (with_reducible refine i_cI_lt (i_L3 (i_F (i_A0 ?_)))); (with_reducible refine i_fld (by assumption) ?_); (rw [t11]); (with_reducible refine i_f (by omega) ?_); (with_reducible refine i_If (i_cAnd (i_cZ_eq (i_F (i_A0 ?_))))); (with_reducible refine i_fld (by assumption) ?_); (rw [a2]); simp only [w_set0, w_set1, w_setn0, w_setn1]; (with_reducible refine i_t trivial ?_); (with_reducible refine i_cZ_ne (i_L1 ?_)); (with_reducible refine i_f (by omega) ?_); (with_reducible refine i_RetV ?_))
        exact hk M1 f1 g1 a2 a3 c1
      · have hF : zksF B s = 8 * s + 1 := by
          unfold zksF
          rw [if_pos hse, if_neg h0]
        rw [hF, (zFf_1 t2).1, (zFf_1 t2).2] at hk
        ((with_reducible refine i_turn (i_cAnd (i_cAnd (i_cI_lt (i_L4 (i_I ?_)))))); (with_reducible refine i_t (by omega) ?_); (with_reducible refine i_cZ_eq (i_F (i_A0 ?_))); (with_reducible refine i_fld (by assumption) ?_); (rw [a2]); simp only [w_set0, w_set1, w_setn0, w_setn1]; (with_reducible refine i_t trivial ?_); (with_reducible refine i_cI_lt (i_L3 (i_F (i_A0 ?_)))); (with_reducible refine i_fld (by assumption) ?_); (rw [t11]); (with_reducible refine i_f (by omega) ?_); (with_reducible refine i_If (i_cAnd (i_cZ_eq (i_F (i_A0 ?_))))); (with_reducible refine i_fld (by assumption) ?_); (rw [a2]); simp only [w_set0, w_set1, w_setn0, w_setn1]; (with_reducible refine i_t trivial ?_); (with_reducible refine i_cZ_ne (i_L1 ?_)); (with_reducible refine i_t (by omega) ?_); (with_reducible refine i_sCall (i_as1 (i_A0 (i_as1 (i_I (i_as1 (i_F (i_A0 ?_)))))))); (with_reducible refine i_fld (by assumption) ?_); (with_reducible refine i_as0 ?_); (with_reducible refine i_recv0 (by assumption) ?_); (rw [t11]))
        refine c_tblame hO hS (fun M2 f2 g2 g3 => ⟨rfl, ?_⟩)
        (with_reducible refine i_RetV ?_)
        exact hk M2 (fun b j q => by rw [f2 b j (by omega)]; exact f1 b j q) (by rw [f2 _ _ (by omega)]; exact g1) g2 g3 (fun j hj => by
          obtain ⟨z1, z2, z3⟩ := c1 j hj
          exact ⟨by rw [f2 _ _ (by omega)]; exact z1, by rw [f2 _ _ (by omega)]; exact z2, fun z => by rw [f2 _ _ (by omega)]; exact z3 z⟩)
