/-! ===== feed: both sides ===== -/
/-- the last byte of an int -/
def zB8 (x : Int) : Nat := ((zi x).toInt % 256).toNat
theorem zB8_lt (x : Int) : zB8 x < 256 := by unfold zB8; omega
theorem zB8_nat (x : Int) : zB8 x = (zi x).toBitVec.toNat % 256 := by
  unfold zB8
  have h : (zi x).toInt = (zi x).toBitVec.toInt := rfl
  have h2 := (zi x).toBitVec.isLt
  rw [h, BitVec.toInt_eq_toNat_cond]
  split <;> omega
theorem yand_255 (x : Int) : yand x 255 = ((zB8 x : Nat) : Int) := by
  rw [yand_eq]
  have hl := zB8_lt x
  refine zb_ext (zand_in _ _) ⟨by omega, by omega⟩ fun i hi => ?_
  rw [zb_and, zb_nat (by omega), show (255 : Int) = ((255 : Nat) : Int) from rfl, zb_nat (by decide), zB8_nat, show (256 : Nat) = 2 ^ 8 from rfl, Nat.testBit_mod_two_pow]
  have h1 : zbt x i = (zi x).toBitVec.toNat.testBit i := rfl
  have h2 : (255 : Nat).testBit i = decide (i < 8) := by
    rw [show (255 : Nat) = 2 ^ 8 - 1 from rfl, Nat.testBit_two_pow_sub_one]
  rw [h1, h2, Bool.and_comm]
/-- a byte as the class keeps it -/
def zsgB (b : Nat) : Int := if b < 128 then ((b : Nat) : Int) else ((b : Nat) : Int) - 256
theorem yi2b_B8 (x : Int) : yi2b x = zsgB (zB8 x) := by
  rw [yi2b_eq]
  unfold zi2b zsgB zB8
  rw [Int8.toInt_toInt32, Int32.toInt_toInt8]
  show Int.bmod (zi x).toInt 256 = _
  have h := Int.bmod_def (zi x).toInt 256
  rw [h]
  split <;> split <;> omega
theorem zsgB_in {b : Nat} (h : b < 256) : -128 ≤ zsgB b ∧ zsgB b < 128 := by unfold zsgB; split <;> omega
/-- the k-th byte of a word -/
noncomputable def zfB (v : Int) (k : Nat) : Nat := zB8 (yshr v (24 - 8 * ((k : Nat) : Int)))
theorem m_typed {O : zOm} (hO : zWld O) (hS : zS O = zmS zC0) {v : Int} {s : Nat} {M : zMem} {K : Option zV → zMem → Prop} (hs : M 250 ((33 : Nat) : Int) = ((s : Nat) : Int)) (h4 : s + 4 ≤ 2000)
    (hk : ∀ M', (∀ b j, ¬ (b = 250 ∧ j = 33 ∨ b = ((278 : Nat) : Int) ∧ ((s : Nat) : Int) ≤ j ∧ j < ((s + 4 : Nat) : Int)) → M' b j = M b j) → M' 250 ((33 : Nat) : Int) = ((s + 4 : Nat) : Int) → (∀ k : Nat, k < 4 → M' ((278 : Nat) : Int) ((s + k : Nat) : Int) = ((zfB v k : Nat) : Int)) → K none M') : zR O F_Model_typed [(2, 250), (0, v)] M K := by
  apply r_Model_typed hO
  unfold B_Model_typed
  have f34 := zMF (k := 34) hS rfl; have a278 := zMA (a := 278) (ty := .int) (n := 2000) hS rfl; have f33 := zMF (k := 33) hS rfl; have zo := zMO hS
  ((with_reducible refine i_Seq (i_Blk (i_Seq (i_Set (i_I ?_))))); simp only [w_set0, w_set1, w_setn0, w_setn1])
  refine w_ForN 4 (fun k ρ M' => (∃ l, ρ = 250 :: v :: ((k : Nat) : Int) :: l) ∧ (∀ b j, ¬ (b = 250 ∧ j = 33 ∨ b = ((278 : Nat) : Int) ∧ ((s : Nat) : Int) ≤ j ∧ j < ((s + 4 : Nat) : Int)) → M' b j = M b j) ∧ M' 250 ((33 : Nat) : Int) = ((s + k : Nat) : Int) ∧ ∀ i : Nat, i < k → M' ((278 : Nat) : Int) ((s + i : Nat) : Int) = ((zfB v i : Nat) : Int)) ⟨⟨_, rfl⟩, fun _ _ _ => rfl, hs, fun i hi => absurd hi (by omega)⟩ ?_ ?_
  · rintro k ρ M1 X hk1 ⟨⟨l, rfl⟩, f1, g1, h1⟩ hX
    have hl := zB8_lt (yshr v (24 - 8 * ((k : Nat) : Int)))
    ((with_reducible refine i_turn (i_cI_lt (i_L2 (i_I ?_)))); (with_reducible refine i_t (by omega) ?_); (with_reducible refine i_Seq (i_sIA (i_FR (i_A0 ?_)))); (with_reducible refine i_fldR (by assumption) ?_); (with_reducible refine i_F (i_A0 ?_)); (with_reducible refine i_fld (by assumption) ?_); (with_reducible refine i_And (i_Shr (i_L1 (i_Sub (i_I (i_Mul (i_I (i_L2 (i_I ?_))))))))); (with_reducible refine i_in (by assumption) (by omega) (by omega) ?_); (with_reducible refine i_FO (i_A0 ?_)); (with_reducible refine i_fld (by assumption) ?_); (with_reducible refine i_I ?_); (with_reducible refine i_fld (by assumption) ?_); (with_reducible refine i_up (i_Inc2 ?_)); rw [zg_n _ _ _ (by omega)]; (rw [g1]); (rw [yand_255]); rw [zx_inc (by omega)]; rw [zx_inc (by omega)]; rw [zx_cmul (by omega)]; (rw [show (24 : Int) - ((8 * k : Nat) : Int) = 24 - 8 * ((k : Nat) : Int) by omega]); (rw [zx_s (x := 24 - 8 * ((k : Nat) : Int)) (by omega) (by omega)]); simp only [w_set0, w_set1, w_setn0, w_setn1])
    refine hX _ _ ⟨⟨_, rfl⟩, fun b j q => by rw [zg_o _ _ (by omega), zg_o _ _ (by omega)]; exact f1 b j q, zg_s _ _ _ _ _, fun i hi => ?_⟩
    rw [zg_n _ _ _ (by omega)]
    by_cases e : i = k
    · subst e; rw [zg_s]; rfl
    · rw [zg_m _ _ _ _ _ (by omega)]; exact h1 i (by omega)
  · rintro ρ M1 X ⟨⟨l, rfl⟩, f1, g1, h1⟩
    ((with_reducible refine i_turn (i_cI_lt (i_L2 (i_I ?_)))); (with_reducible refine i_f (by omega) ?_); (with_reducible refine i_RetV ?_))
    exact hk M1 f1 g1 h1
/-- the tape behind five words -/
noncomputable def zfd (B : Nat → Nat) (s : Nat) (a b c d e : Int) (i : Nat) : Nat := if i < s then B i else if i < s + 4 then zfB a (i - s) else if i < s + 8 then zfB b (i - (s + 4)) else if i < s + 12 then zfB c (i - (s + 8)) else if i < s + 16 then zfB d (i - (s + 12)) else zfB e (i - (s + 16))
theorem zfd_lt {B : Nat → Nat} {s : Nat} {a b c d e : Int} (h : ∀ i, B i < 256) (i : Nat) : zfd B s a b c d e i < 256 := by
  unfold zfd
  split
  · exact h i
  · split
    · exact zB8_lt _
    · split
      · exact zB8_lt _
      · split
        · exact zB8_lt _
        · split
          · exact zB8_lt _
          · exact zB8_lt _
theorem zfd_all {F : Nat → Nat → Prop} {B : Nat → Nat} {s : Nat} {a b c d e : Int} (h0 : ∀ i, i < s → F i (B i)) (h1 : ∀ k : Nat, k < 4 → F (s + k) (zfB a k)) (h2 : ∀ k : Nat, k < 4 → F (s + 4 + k) (zfB b k)) (h3 : ∀ k : Nat, k < 4 → F (s + 4 + 4 + k) (zfB c k)) (h4 : ∀ k : Nat, k < 4 → F (s + 4 + 4 + 4 + k) (zfB d k)) (h5 : ∀ k : Nat, k < 4 → F (s + 4 + 4 + 4 + 4 + k) (zfB e k)) (i : Nat) (hi : i < s + 20) : F i (zfd B s a b c d e i) := by
  unfold zfd
  by_cases e0 : i < s
  · rw [if_pos e0]; exact h0 i e0
  rw [if_neg e0]
  by_cases e1 : i < s + 4
  · rw [if_pos e1]; have := h1 (i - s) (by omega); rw [show s + (i - s) = i by omega] at this; exact this
  rw [if_neg e1]
  by_cases e2 : i < s + 8
  · rw [if_pos e2]; have := h2 (i - (s + 4)) (by omega); rw [show s + 4 + (i - (s + 4)) = i by omega] at this; exact this
  rw [if_neg e2]
  by_cases e3 : i < s + 12
  · rw [if_pos e3]; have := h3 (i - (s + 8)) (by omega); rw [show s + 4 + 4 + (i - (s + 8)) = i by omega] at this; exact this
  rw [if_neg e3]
  by_cases e4 : i < s + 16
  · rw [if_pos e4]; have := h4 (i - (s + 12)) (by omega); rw [show s + 4 + 4 + 4 + (i - (s + 12)) = i by omega] at this; exact this
  rw [if_neg e4]
  have := h5 (i - (s + 16)) (by omega)
  rw [show s + 4 + 4 + 4 + 4 + (i - (s + 16)) = i by omega] at this
  exact this
theorem m_feed_bad {O : zOm} (hO : zWld O) (hS : zS O = zmS zC0) {a b c d e : Int} {s : Nat} {M : zMem} {K : Option zV → zMem → Prop} (hs : M 250 ((33 : Nat) : Int) = ((s : Nat) : Int)) (hs2 : s ≤ 2000) (hb : 2000 < s + 20) (hk : K (some (0, -1)) M) : zR O F_Model_feed [(2, 250), (0, a), (0, b), (0, c), (0, d), (0, e)] M K := by
  apply r_Model_feed hO
  unfold B_Model_feed
  have f33 := zMF (k := 33) hS rfl; have zo := zMO hS
  ((with_reducible refine i_Seq (i_If (i_cI_gt (i_Add (i_F (i_A0 ?_)))))); (with_reducible refine i_fld (by assumption) ?_); (with_reducible refine i_I (i_I ?_)); (rw [hs]); rw [zx_addc (by omega)]; (with_reducible refine i_t (by omega) ?_); (with_reducible refine i_RetI (i_I ?_)))
  exact hk
theorem m_feed {O : zOm} (hO : zWld O) (hS : zS O = zmS zC0) {a b c d e : Int} {s : Nat} {B : Nat → Nat} {M : zMem} {K : Option zV → zMem → Prop} (hs : M 250 ((33 : Nat) : Int) = ((s : Nat) : Int)) (hb : s + 20 ≤ 2000) (hB : ∀ i : Nat, i < s → M ((278 : Nat) : Int) ((i : Nat) : Int) = ((B i : Nat) : Int))
    (hk : ∀ M', (∀ b j, ¬ (b = 250 ∧ j = 33 ∨ b = ((278 : Nat) : Int)) → M' b j = M b j) → M' 250 ((33 : Nat) : Int) = ((s + 20 : Nat) : Int) → (∀ i : Nat, i < s + 20 → M' ((278 : Nat) : Int) ((i : Nat) : Int) = ((zfd B s a b c d e i : Nat) : Int)) → K (some (0, ((s + 20 : Nat) : Int))) M') : zR O F_Model_feed [(2, 250), (0, a), (0, b), (0, c), (0, d), (0, e)] M K := by
  apply r_Model_feed hO
  unfold B_Model_feed
  have f33 := zMF (k := 33) hS rfl; have zo := zMO hS
  ((with_reducible refine i_Seq (i_If (i_cI_gt (i_Add (i_F (i_A0 ?_)))))); (with_reducible refine i_fld (by assumption) ?_); (with_reducible refine i_I (i_I ?_)); (rw [hs]); rw [zx_addc (by omega)]; (with_reducible refine i_f (by omega) ?_); (with_reducible refine i_Seq (i_sCall (i_as1 (i_A0 (i_as1 (i_L1 (i_as0 ?_))))))); (with_reducible refine i_recv0 (by assumption) ?_))
  refine m_typed hO hS hs (by omega) (fun M1 f1 g1 h1 => ⟨rfl, ?_⟩)
  ((with_reducible refine i_Seq (i_sCall (i_as1 (i_A0 (i_as1 (i_L2 (i_as0 ?_))))))); (with_reducible refine i_recv0 (by assumption) ?_))
  refine m_typed hO hS g1 (by omega) (fun M2 f2 g2 h2 => ⟨rfl, ?_⟩)
  ((with_reducible refine i_Seq (i_sCall (i_as1 (i_A0 (i_as1 (i_L3 (i_as0 ?_))))))); (with_reducible refine i_recv0 (by assumption) ?_))
  refine m_typed hO hS g2 (by omega) (fun M3 f3 g3 h3 => ⟨rfl, ?_⟩)
  ((with_reducible refine i_Seq (i_sCall (i_as1 (i_A0 (i_as1 (i_L4 (i_as0 ?_))))))); (with_reducible refine i_recv0 (by assumption) ?_))
  refine m_typed hO hS g3 (by omega) (fun M4 f4 g4 h4 => ⟨rfl, ?_⟩)
  ((with_reducible refine i_Seq (i_sCall (i_as1 (i_A0 (i_as1 (i_L5 (i_as0 ?_))))))); (with_reducible refine i_recv0 (by assumption) ?_))
  refine m_typed hO hS g4 (by omega) (fun M5 f5 g5 h5 => ⟨rfl, ?_⟩)
  ((with_reducible refine i_RetI (i_F (i_A0 ?_))); (with_reducible refine i_fld (by assumption) ?_); (rw [g5]))
  refine hk M5 (fun b j q => by rw [f5 b j (by omega), f4 b j (by omega), f3 b j (by omega), f2 b j (by omega), f1 b j (by omega)]) g5 (fun i hi => ?_)
  exact zfd_all (F := fun i x => M5 ((278 : Nat) : Int) ((i : Nat) : Int) = ((x : Nat) : Int)) (fun i hi => by rw [f5 _ _ (by omega), f4 _ _ (by omega), f3 _ _ (by omega), f2 _ _ (by omega), f1 _ _ (by omega)]; exact hB i hi) (fun k hk => by rw [f5 _ _ (by omega), f4 _ _ (by omega), f3 _ _ (by omega), f2 _ _ (by omega)]; exact h1 k hk) (fun k hk => by rw [f5 _ _ (by omega), f4 _ _ (by omega), f3 _ _ (by omega)]; exact h2 k hk) (fun k hk => by rw [f5 _ _ (by omega), f4 _ _ (by omega)]; exact h3 k hk) (fun k hk => by rw [f5 _ _ (by omega)]; exact h4 k hk) h5 i hi
theorem zA87 {S : List zSh} (hS : S = zmS zC0) : zArr S ((87 : Nat) : Int) .byte 2000 := zCA (a := 87) (ty := .byte) (n := 2000) hS rfl
theorem c_tput {O : zOm} (hO : zWld O) (hS : zS O = zmS zC0) {v : Int} {s : Nat} {M : zMem} {K : Option zV → zMem → Prop} (hs : M ((86 : Nat) : Int) ((5 : Nat) : Int) = ((s : Nat) : Int)) (h4 : s + 4 ≤ 2000)
    (hk : ∀ M', (∀ b j, ¬ (b = ((86 : Nat) : Int) ∧ j = 5 ∨ b = ((87 : Nat) : Int) ∧ ((s : Nat) : Int) ≤ j ∧ j < ((s + 4 : Nat) : Int)) → M' b j = M b j) → M' ((86 : Nat) : Int) ((5 : Nat) : Int) = ((s + 4 : Nat) : Int) → (∀ k : Nat, k < 4 → M' ((87 : Nat) : Int) ((s + k : Nat) : Int) = zsgB (zfB v k)) → K none M') : zR O F_Tape_put [(2, ((86 : Nat) : Int)), (0, v)] M K := by
  have a87 := zA87 hS
  apply r_Tape_put hO
  unfold B_Tape_put
  have f86_5 := zf_86_5 hS; have f86_0 := zf_86_0 hS; have a87 := zCA (a := 87) (ty := .byte) (n := 2000) hS rfl; have z86 := zo_86 hS
  ((with_reducible refine i_Seq (i_Blk (i_Seq (i_Set (i_I ?_))))); simp only [w_set0, w_set1, w_setn0, w_setn1])
  refine w_ForN 4 (fun k ρ M' => (∃ l, ρ = ((86 : Nat) : Int) :: v :: (24 - 8 * ((k : Nat) : Int)) :: l) ∧ (∀ b j, ¬ (b = ((86 : Nat) : Int) ∧ j = 5 ∨ b = ((87 : Nat) : Int) ∧ ((s : Nat) : Int) ≤ j ∧ j < ((s + 4 : Nat) : Int)) → M' b j = M b j) ∧ M' ((86 : Nat) : Int) ((5 : Nat) : Int) = ((s + k : Nat) : Int) ∧ ∀ i : Nat, i < k → M' ((87 : Nat) : Int) ((s + i : Nat) : Int) = zsgB (zfB v i)) ⟨⟨_, rfl⟩, fun _ _ _ => rfl, hs, fun i hi => absurd hi (by omega)⟩ ?_ ?_
  · rintro k ρ M1 X hk1 ⟨⟨l, rfl⟩, f1, g1, h1⟩ hX
    have hl := zsgB_in (zB8_lt (yshr v (24 - 8 * ((k : Nat) : Int))))
    ((with_reducible refine i_turn (i_cAnd (i_cZ_ge (i_L2 ?_)))); (with_reducible refine i_t (by omega) ?_); (with_reducible refine i_cI_lt (i_F (i_A0 ?_))); (with_reducible refine i_fld (by assumption) ?_); (with_reducible refine i_I ?_); (rw [g1]); (with_reducible refine i_t (by omega) ?_); (with_reducible refine i_Seq (i_sBA (i_FR (i_A0 ?_)))); (with_reducible refine i_fldR (by assumption) ?_); (with_reducible refine i_F (i_A0 ?_)); (with_reducible refine i_fld (by assumption) ?_); (with_reducible refine i_I2B (i_Shr (i_L1 (i_L2 ?_)))); (rw [g1]); (rw [yi2b_B8]))
    rw [zIn_eq a87]
    refine ⟨⟨hl, by omega, by omega⟩, ?_⟩
    ((with_reducible refine i_FO (i_A0 ?_)); (with_reducible refine i_fld (by assumption) ?_); (with_reducible refine i_I ?_); (with_reducible refine i_fld (by assumption) ?_); (with_reducible refine i_up (i_Inc2 ?_)); rw [zg_n _ _ _ (by omega)]; (rw [g1]); rw [zx_inc (by omega)]; rw [zx_s (by omega) (by omega)]; simp only [w_set0, w_set1, w_setn0, w_setn1])
    refine hX _ _ ⟨⟨l, by congr 3; omega⟩, fun b j q => by rw [zg_o _ _ (by omega), zg_o _ _ (by omega)]; exact f1 b j q, zg_s _ _ _ _ _, fun i hi => ?_⟩
    rw [zg_n _ _ _ (by omega)]
    by_cases e : i = k
    · subst e; rw [zg_s]; rfl
    · rw [zg_m _ _ _ _ _ (by omega)]; exact h1 i (by omega)
  · rintro ρ M1 X ⟨⟨l, rfl⟩, f1, g1, h1⟩
    ((with_reducible refine i_turn (i_cAnd (i_cZ_ge (i_L2 ?_)))); (with_reducible refine i_f (by omega) ?_); (with_reducible refine i_RetV ?_))
    exact hk M1 f1 g1 h1
theorem c_feed_bad {O : zOm} (hO : zWld O) (hS : zS O = zmS zC0) {a b c d e : Int} {s : Nat} {M : zMem} {K : Option zV → zMem → Prop} (hs : M ((86 : Nat) : Int) ((5 : Nat) : Int) = ((s : Nat) : Int)) (hs2 : s ≤ 2000) (hb : 2000 < s + 20) (hk : K (some (0, -1)) M) : zR O F_ToldNet_feed [(2, ((0 : Nat) : Int)), (0, a), (0, b), (0, c), (0, d), (0, e)] M K := by
  apply r_ToldNet_feed hO
  unfold B_ToldNet_feed
  have f0_1 := zf_0_1 hS; have f86_5 := zf_86_5 hS; have z0 := zo_0 hS; have z86 := zo_86 hS
  ((with_reducible refine i_Seq (i_If (i_cI_gt (i_Add (i_F (i_FR (i_A0 ?_))))))); (with_reducible refine i_fldR (by assumption) ?_); (with_reducible refine i_fld (by assumption) ?_); (with_reducible refine i_I (i_I ?_)); (rw [hs]); rw [zx_addc (by omega)]; (with_reducible refine i_t (by omega) ?_); (with_reducible refine i_RetI (i_I ?_)))
  exact hk
theorem c_feed {O : zOm} (hO : zWld O) (hS : zS O = zmS zC0) {a b c d e : Int} {s : Nat} {B : Nat → Nat} {M : zMem} {K : Option zV → zMem → Prop} (hs : M ((86 : Nat) : Int) ((5 : Nat) : Int) = ((s : Nat) : Int)) (hb : s + 20 ≤ 2000) (hB : ∀ i : Nat, i < s → M ((87 : Nat) : Int) ((i : Nat) : Int) = zsgB (B i))
    (hk : ∀ M', (∀ b j, ¬ (b = ((86 : Nat) : Int) ∧ j = 5 ∨ b = ((87 : Nat) : Int)) → M' b j = M b j) → M' ((86 : Nat) : Int) ((5 : Nat) : Int) = ((s + 20 : Nat) : Int) → (∀ i : Nat, i < s + 20 → M' ((87 : Nat) : Int) ((i : Nat) : Int) = zsgB (zfd B s a b c d e i)) → K (some (0, ((s + 20 : Nat) : Int))) M') : zR O F_ToldNet_feed [(2, ((0 : Nat) : Int)), (0, a), (0, b), (0, c), (0, d), (0, e)] M K := by
  apply r_ToldNet_feed hO
  unfold B_ToldNet_feed
  have f0_1 := zf_0_1 hS; have f86_5 := zf_86_5 hS; have z0 := zo_0 hS; have z86 := zo_86 hS
  ((with_reducible refine i_Seq (i_If (i_cI_gt (i_Add (i_F (i_FR (i_A0 ?_))))))); (with_reducible refine i_fldR (by assumption) ?_); (with_reducible refine i_fld (by assumption) ?_); (with_reducible refine i_I (i_I ?_)); (rw [hs]); rw [zx_addc (by omega)]; (with_reducible refine i_f (by omega) ?_); (with_reducible refine i_Seq (i_sCall (i_as1 (i_FR (i_A0 ?_))))); (with_reducible refine i_fldR (by assumption) ?_); (with_reducible refine i_as1 (i_L1 (i_as0 ?_))); (with_reducible refine i_recv0 (by assumption) ?_))
  refine c_tput hO hS hs (by omega) (fun M1 f1 g1 h1 => ⟨rfl, ?_⟩)
  ((with_reducible refine i_Seq (i_sCall (i_as1 (i_FR (i_A0 ?_))))); (with_reducible refine i_fldR (by assumption) ?_); (with_reducible refine i_as1 (i_L2 (i_as0 ?_))); (with_reducible refine i_recv0 (by assumption) ?_))
  refine c_tput hO hS g1 (by omega) (fun M2 f2 g2 h2 => ⟨rfl, ?_⟩)
  ((with_reducible refine i_Seq (i_sCall (i_as1 (i_FR (i_A0 ?_))))); (with_reducible refine i_fldR (by assumption) ?_); (with_reducible refine i_as1 (i_L3 (i_as0 ?_))); (with_reducible refine i_recv0 (by assumption) ?_))
  refine c_tput hO hS g2 (by omega) (fun M3 f3 g3 h3 => ⟨rfl, ?_⟩)
  ((with_reducible refine i_Seq (i_sCall (i_as1 (i_FR (i_A0 ?_))))); (with_reducible refine i_fldR (by assumption) ?_); (with_reducible refine i_as1 (i_L4 (i_as0 ?_))); (with_reducible refine i_recv0 (by assumption) ?_))
  refine c_tput hO hS g3 (by omega) (fun M4 f4 g4 h4 => ⟨rfl, ?_⟩)
  ((with_reducible refine i_Seq (i_sCall (i_as1 (i_FR (i_A0 ?_))))); (with_reducible refine i_fldR (by assumption) ?_); (with_reducible refine i_as1 (i_L5 (i_as0 ?_))); (with_reducible refine i_recv0 (by assumption) ?_))
  refine c_tput hO hS g4 (by omega) (fun M5 f5 g5 h5 => ⟨rfl, ?_⟩)
  ((with_reducible refine i_RetI (i_F (i_FR (i_A0 ?_)))); (with_reducible refine i_fldR (by assumption) ?_); (with_reducible refine i_fld (by assumption) ?_); (rw [g5]))
  refine hk M5 (fun b j q => by rw [f5 b j (by omega), f4 b j (by omega), f3 b j (by omega), f2 b j (by omega), f1 b j (by omega)]) g5 (fun i hi => ?_)
  exact zfd_all (F := fun i x => M5 ((87 : Nat) : Int) ((i : Nat) : Int) = zsgB x) (fun i hi => by rw [f5 _ _ (by omega), f4 _ _ (by omega), f3 _ _ (by omega), f2 _ _ (by omega), f1 _ _ (by omega)]; exact hB i hi) (fun k hk => by rw [f5 _ _ (by omega), f4 _ _ (by omega), f3 _ _ (by omega), f2 _ _ (by omega)]; exact h1 k hk) (fun k hk => by rw [f5 _ _ (by omega), f4 _ _ (by omega), f3 _ _ (by omega)]; exact h2 k hk) (fun k hk => by rw [f5 _ _ (by omega), f4 _ _ (by omega)]; exact h3 k hk) (fun k hk => by rw [f5 _ _ (by omega)]; exact h4 k hk) h5 i hi
