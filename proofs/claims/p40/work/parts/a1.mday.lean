/-! ===== the reference: nets of days ===== -/
theorem m_isPost {O : zOm} (hO : zWld O) (hS : zS O = zmS zC0) {a : Int} {P : Nat} {M : zMem} {K : Option zV → zMem → Prop} (hP : M 250 ((1 : Nat) : Int) = ((P : Nat) : Int)) (hk : K (some (0, zbI (decide (0 ≤ a ∧ a < ((P : Nat) : Int))))) M) : zR O F_Model_isPost [(2, 250), (0, a)] M K := by
  apply r_Model_isPost hO
  unfold B_Model_isPost
  have f1 := zMF (k := 1) hS rfl; have zo := zMO hS
  (focus ((with_reducible refine i_RetZ (i_eIf (i_cAnd (i_cZ_ge (i_L1 ?_))))); (with_reducible refine i_br ?_ ?_ <;> intro hc); (focus ((with_reducible refine i_cI_lt (i_L1 (i_F (i_A0 ?_)))); (with_reducible refine i_fld (by assumption) ?_); (rw [hP]); (with_reducible refine i_br ?_ ?_ <;> intro hc); (focus ((with_reducible refine i_I ?_); (with_reducible refine i_z (Or.inr rfl) ?_))); rotate_left; (focus ((with_reducible refine i_I ?_); (with_reducible refine i_z (Or.inl rfl) ?_))); rotate_right)); rotate_left 2; (focus ((with_reducible refine i_I ?_); (with_reducible refine i_z (Or.inl rfl) ?_))); rotate_right 2))
  · rw [decide_eq_true (by omega)] at hk; exact hk
  · rw [decide_eq_false (by omega)] at hk; exact hk
  · rw [decide_eq_false (by omega)] at hk; exact hk
theorem m_isPair {O : zOm} (hO : zWld O) (hS : zS O = zmS zC0) {a b : Int} {P : Nat} {M : zMem} {K : Option zV → zMem → Prop} (hP : M 250 ((1 : Nat) : Int) = ((P : Nat) : Int)) (hk : K (some (0, zbI (decide ((0 ≤ a ∧ a < ((P : Nat) : Int)) ∧ (0 ≤ b ∧ b < ((P : Nat) : Int)) ∧ a ≠ b)))) M) : zR O F_Model_isPair [(2, 250), (0, a), (0, b)] M K := by
  apply r_Model_isPair hO
  unfold B_Model_isPair
  have zo := zMO hS
  (focus ((with_reducible refine i_RetZ (i_eIf (i_cAnd (i_cAnd (i_cZ_ne (i_Call (i_as1 (i_A0 (i_as1 (i_L1 (i_as0 ?_))))))))))); (with_reducible refine i_recv0 (by assumption) ?_); (refine m_isPost hO hS hP ⟨_, rfl, ?_⟩); (with_reducible refine i_dne ?_ ?_ <;> intro hc); (focus ((with_reducible refine i_cZ_ne (i_Call (i_as1 (i_A0 (i_as1 (i_L2 (i_as0 ?_))))))); (with_reducible refine i_recv0 (by assumption) ?_); (refine m_isPost hO hS hP ⟨_, rfl, ?_⟩); (with_reducible refine i_dne ?_ ?_ <;> intro hc); (focus ((with_reducible refine i_cI_ne (i_L1 (i_L2 ?_))); (with_reducible refine i_br ?_ ?_ <;> intro hc); (focus ((with_reducible refine i_I ?_); (with_reducible refine i_z (Or.inr rfl) ?_))); rotate_left; (focus ((with_reducible refine i_I ?_); (with_reducible refine i_z (Or.inl rfl) ?_))); rotate_right)); rotate_left 2; (focus ((with_reducible refine i_I ?_); (with_reducible refine i_z (Or.inl rfl) ?_))); rotate_right 2)); rotate_left 3; (focus ((with_reducible refine i_I ?_); (with_reducible refine i_z (Or.inl rfl) ?_))); rotate_right 3))
  all_goals first | (rw [decide_eq_true (by omega)] at hk; exact hk) | (rw [decide_eq_false (by omega)] at hk; exact hk)
theorem m_isDay {O : zOm} (hO : zWld O) (hS : zS O = zmS zC0) {a : Int} {P : Nat} {M : zMem} {K : Option zV → zMem → Prop} (hP : M 250 ((4 : Nat) : Int) = ((P : Nat) : Int)) (hk : K (some (0, zbI (decide (0 ≤ a ∧ a ≤ ((P : Nat) : Int))))) M) : zR O F_Model_isDay [(2, 250), (0, a)] M K := by
  apply r_Model_isDay hO
  unfold B_Model_isDay
  have f4 := zMF (k := 4) hS rfl; have zo := zMO hS
  (focus ((with_reducible refine i_RetZ (i_eIf (i_cAnd (i_cZ_ge (i_L1 ?_))))); (with_reducible refine i_br ?_ ?_ <;> intro hc); (focus ((with_reducible refine i_cI_le (i_L1 (i_F (i_A0 ?_)))); (with_reducible refine i_fld (by assumption) ?_); (rw [hP]); (with_reducible refine i_br ?_ ?_ <;> intro hc); (focus ((with_reducible refine i_I ?_); (with_reducible refine i_z (Or.inr rfl) ?_))); rotate_left; (focus ((with_reducible refine i_I ?_); (with_reducible refine i_z (Or.inl rfl) ?_))); rotate_right)); rotate_left 2; (focus ((with_reducible refine i_I ?_); (with_reducible refine i_z (Or.inl rfl) ?_))); rotate_right 2))
  all_goals first | (rw [decide_eq_true (by omega)] at hk; exact hk) | (rw [decide_eq_false (by omega)] at hk; exact hk)
theorem m_isTelling {O : zOm} (hO : zWld O) (hS : zS O = zmS zC0) {a : Int} {P : Nat} {M : zMem} {K : Option zV → zMem → Prop} (hP : M 250 ((11 : Nat) : Int) = ((P : Nat) : Int)) (hk : K (some (0, zbI (decide (0 ≤ a ∧ a < ((P : Nat) : Int))))) M) : zR O F_Model_isTelling [(2, 250), (0, a)] M K := by
  apply r_Model_isTelling hO
  unfold B_Model_isTelling
  have f11 := zMF (k := 11) hS rfl; have zo := zMO hS
  (focus ((with_reducible refine i_RetZ (i_eIf (i_cAnd (i_cZ_ge (i_L1 ?_))))); (with_reducible refine i_br ?_ ?_ <;> intro hc); (focus ((with_reducible refine i_cI_lt (i_L1 (i_F (i_A0 ?_)))); (with_reducible refine i_fld (by assumption) ?_); (rw [hP]); (with_reducible refine i_br ?_ ?_ <;> intro hc); (focus ((with_reducible refine i_I ?_); (with_reducible refine i_z (Or.inr rfl) ?_))); rotate_left; (focus ((with_reducible refine i_I ?_); (with_reducible refine i_z (Or.inl rfl) ?_))); rotate_right)); rotate_left 2; (focus ((with_reducible refine i_I ?_); (with_reducible refine i_z (Or.inl rfl) ?_))); rotate_right 2))
  all_goals first | (rw [decide_eq_true (by omega)] at hk; exact hk) | (rw [decide_eq_false (by omega)] at hk; exact hk)
theorem m_bitsOf {O : zOm} (hO : zWld O) (hS : zS O = zmS zC0) {k : Nat} (hk1 : k ≤ 128) {M : zMem} {K : Option zV → zMem → Prop} (hk : K (some (0, ((zBits k : Nat) : Int))) M) : zR O F_Model_bitsOf [(0, ((k : Nat) : Int))] M K := by
  apply r_Model_bitsOf hO
  have hin := zBits_in k
  unfold B_Model_bitsOf
  ((with_reducible refine i_Seq (i_Set (i_I (i_Seq ?_)))); simp only [w_set0, w_set1, w_setn0, w_setn1])
  refine w_WhileN (zBits k - 1) (fun b ρ M' => ρ = [((k : Nat) : Int), ((b + 1 : Nat) : Int)] ∧ M' = M) ⟨rfl, rfl⟩ ?_ ?_
  · rintro b ρ M1 X hb ⟨rfl, rfl⟩ hX
    have h1 := (zBits_lt (b := b + 1) hk1 (by omega) (by omega)).mpr (by omega)
    ((with_reducible refine i_turn (i_cI_lt (i_Shl (i_I (i_L1 (i_L0 ?_)))))); (rw [yshl_1 (by omega)]); (with_reducible refine i_t (by omega) ?_); (with_reducible refine i_Inc1 ?_); rw [zx_inc (by omega)]; simp only [w_set0, w_set1, w_setn0, w_setn1])
    exact hX _ _ ⟨rfl, rfl⟩
  · rintro ρ M1 X ⟨rfl, rfl⟩
    have h1 := zBits_lt (b := zBits k) hk1 (by omega) (by omega)
    rw [show zBits k - 1 + 1 = zBits k by omega]
    ((with_reducible refine i_turn (i_cI_lt (i_Shl (i_I (i_L1 (i_L0 ?_)))))); (rw [yshl_1 (by omega)]); (with_reducible refine i_f (by omega) ?_); (with_reducible refine i_RetI (i_L1 ?_)))
    exact hk
theorem m_exceptBits {O : zOm} (hO : zWld O) (hS : zS O = zmS zC0) {P : Nat} {M : zMem} {K : Option zV → zMem → Prop} (hP : M 250 ((1 : Nat) : Int) = ((P : Nat) : Int)) (hP2 : P ≤ 16) (hk : K (some (0, ((2 + 2 * zBits P : Nat) : Int))) M) : zR O F_Model_exceptBits [(2, 250)] M K := by
  have hin := zBits_in P
  apply r_Model_exceptBits hO
  unfold B_Model_exceptBits
  have f1 := zMF (k := 1) hS rfl; have zo := zMO hS
  ((with_reducible refine i_RetI (i_Add (i_I (i_Mul (i_I (i_Call (i_as1 (i_F (i_A0 ?_))))))))); (with_reducible refine i_fld (by assumption) ?_); (with_reducible refine i_as0 (i_recv1 ?_)); (rw [hP]); (refine m_bitsOf hO hS (by omega) ⟨_, rfl, ?_⟩); rw [zx_cmul (by omega)]; rw [zx_cadd (by omega)])
  exact hk
/-- a table of pairs of posts in a cell of the reference -/
def rMx (M : zMem) (c : Nat) (T : Nat → Nat → Bool) : Prop := ∀ a b : Nat, a < 16 → b < 16 → M ((c : Nat) : Int) ((16 * a + b : Nat) : Int) = zbI (T a b)
theorem rMx.to {M M' : zMem} {c : Nat} {T : Nat → Nat → Bool} (h : rMx M c T) (e : ∀ j : Int, M' ((c : Nat) : Int) j = M ((c : Nat) : Int) j) : rMx M' c T := fun a b ha hb => by rw [e]; exact h a b ha hb
theorem rMx.cp {M M' : zMem} {c c' : Nat} {T : Nat → Nat → Bool} (h : rMx M c T) (e : ∀ j : Nat, j < 256 → M' ((c' : Nat) : Int) j = M ((c : Nat) : Int) j) : rMx M' c' T := fun a b ha hb => by rw [e _ (by omega)]; exact h a b ha hb
theorem m_aimAtNet {O : zOm} (hO : zWld O) (hS : zS O = zmS zC0) {T : Nat → Nat → Bool} {M : zMem} {K : Option zV → zMem → Prop} (hT : rMx M 251 T) (hb : ∀ j : Nat, j < 256 → M ((251 : Nat) : Int) j = 0 ∨ M ((251 : Nat) : Int) j = 1) (hk : ∀ M', (∀ b j, ¬ b = 267 → M' b j = M b j) → rMx M' 267 T → K none M') : zR O F_Model_aimAtNet [(2, 250)] M K := by
  apply r_Model_aimAtNet hO
  unfold B_Model_aimAtNet
  have f21 := zMF (k := 21) hS rfl; have a267 := zMA (a := 267) (ty := .boolean) (n := 256) hS rfl; have f2 := zMF (k := 2) hS rfl; have a251 := zMA (a := 251) (ty := .boolean) (n := 256) hS rfl; have zo := zMO hS
  ((with_reducible refine i_Seq (i_Blk (i_Seq (i_Set (i_I ?_))))); simp only [w_set0, w_set1, w_setn0, w_setn1])
  refine w_ForN 256 (fun k ρ M' => ρ = [250, ((k : Nat) : Int)] ∧ (∀ b j, ¬ b = 267 → M' b j = M b j) ∧ ∀ j : Nat, j < k → M' ((267 : Nat) : Int) j = M ((251 : Nat) : Int) j) ⟨rfl, fun _ _ _ => rfl, fun j hj => absurd hj (by omega)⟩ ?_ ?_
  · rintro k ρ M1 X hk1 ⟨rfl, hf, h⟩ hX
    have hb1 : M1 ((251 : Nat) : Int) ((k : Nat) : Int) = 0 ∨ M1 ((251 : Nat) : Int) ((k : Nat) : Int) = 1 := by rw [hf _ _ (by omega)]; exact hb k hk1
    ((with_reducible refine i_turn (i_cI_lt (i_L1 (i_I ?_)))); (with_reducible refine i_t (by omega) ?_); (with_reducible refine i_sZA (i_FR (i_A0 ?_))); (with_reducible refine i_fldR (by assumption) ?_); (with_reducible refine i_L1 (i_ZA (i_FR (i_A0 ?_)))); (with_reducible refine i_fldR (by assumption) ?_); (with_reducible refine i_L1 ?_); (with_reducible refine i_in (by assumption) (by omega) (by omega) ?_); (with_reducible refine i_zin (by assumption) (by assumption) (by omega) (by omega) ?_); (with_reducible refine i_up (i_Inc1 ?_)); rw [zx_inc (by omega)]; simp only [w_set0, w_set1, w_setn0, w_setn1])
    refine hX _ _ ⟨rfl, fun b j q => ?_, fun j hj => ?_⟩
    · rw [zg_n _ _ _ (by omega)]; exact hf b j q
    · by_cases e : j = k
      · subst e; rw [zg_s]; exact hf _ _ (by omega)
      · rw [zg_m _ _ _ _ _ (by omega)]; exact h j (by omega)
  · rintro ρ M1 X ⟨rfl, hf, h⟩
    ((with_reducible refine i_turn (i_cI_lt (i_L1 (i_I ?_)))); (with_reducible refine i_f (by omega) ?_); (with_reducible refine i_RetV ?_))
    exact hk _ hf (hT.cp h)
/-- a table with one place put anew -/
def zmu (T : Nat → Nat → Bool) (a b : Nat) (v : Bool) : Nat → Nat → Bool := fun p q => if p = a ∧ q = b then v else T p q
theorem rMx.up {M : zMem} {c a b : Nat} {T : Nat → Nat → Bool} (h : rMx M c T) (ha : a < 16) (hb : b < 16) {x : Int} {v : Bool} (hx : x = zbI v) : rMx (zput M ((c : Nat) : Int) (zup (M ((c : Nat) : Int)) ((16 * a + b : Nat) : Int) x)) c (zmu T a b v) := fun p q hp hq => by
  unfold zmu
  by_cases e : p = a ∧ q = b
  · obtain ⟨rfl, rfl⟩ := e
    rw [zg_s, if_pos ⟨rfl, rfl⟩, hx]
  · rw [zg_m _ _ _ _ _ (by omega), if_neg e]; exact h p q hp hq
theorem rMx.ext {M : zMem} {c : Nat} {T U : Nat → Nat → Bool} (h : rMx M c T) (e : ∀ p q, p < 16 → q < 16 → T p q = U p q) : rMx M c U := fun p q hp hq => by rw [← e p q hp hq]; exact h p q hp hq
theorem rMx.ne {M : zMem} {c d : Nat} {T : Nat → Nat → Bool} (h : rMx M c T) (e : c ≠ d) (f : Int → Int) : rMx (zput M ((d : Nat) : Int) f) c T := fun p q hp hq => by rw [zg_n _ _ _ (by omega)]; exact h p q hp hq
/-- the net behind the first k changes that came up to a day -/
def zrep (A B : Nat → Nat) (I : Nat → Bool) (D : Nat → Nat) (d : Nat) : Nat → Nat → Nat → Bool
  | 0 => fun _ _ => false
  | k + 1 => if D k ≤ d then zmu (zmu (zrep A B I D d k) (A k) (B k) (I k)) (B k) (A k) (I k) else zrep A B I D d k
/-- the changes as the reference keeps them -/
def rCh (M : zMem) (c : Nat) (A B : Nat → Nat) (I : Nat → Bool) (D : Nat → Nat) : Prop := M 250 ((5 : Nat) : Int) = ((c : Nat) : Int) ∧ c ≤ 300 ∧ ∀ k : Nat, k < c → M ((253 : Nat) : Int) k = ((A k : Nat) : Int) ∧ M ((254 : Nat) : Int) k = ((B k : Nat) : Int) ∧ M ((255 : Nat) : Int) k = zbI (I k) ∧ M ((256 : Nat) : Int) k = ((D k : Nat) : Int) ∧ A k < 16 ∧ B k < 16
theorem m_asOf {O : zOm} (hO : zWld O) (hS : zS O = zmS zC0) {c d : Nat} {A B : Nat → Nat} {I : Nat → Bool} {D : Nat → Nat} {M : zMem} {K : Option zV → zMem → Prop} (hC : rCh M c A B I D) (hk : ∀ M', (∀ b j, ¬ b = 257 → M' b j = M b j) → rMx M' 257 (zrep A B I D d c) → K none M') : zR O F_Model_asOf [(2, 250), (0, ((d : Nat) : Int))] M K := by
  obtain ⟨h5, h300, hC⟩ := hC
  apply r_Model_asOf hO
  unfold B_Model_asOf
  have f10 := zMF (k := 10) hS rfl; have a257 := zMA (a := 257) (ty := .boolean) (n := 256) hS rfl; have f5 := zMF (k := 5) hS rfl; have f9 := zMF (k := 9) hS rfl; have a256 := zMA (a := 256) (ty := .int) (n := 300) hS rfl; have f6 := zMF (k := 6) hS rfl; have a253 := zMA (a := 253) (ty := .int) (n := 300) hS rfl; have f7 := zMF (k := 7) hS rfl; have a254 := zMA (a := 254) (ty := .int) (n := 300) hS rfl; have f8 := zMF (k := 8) hS rfl; have a255 := zMA (a := 255) (ty := .boolean) (n := 300) hS rfl; have zo := zMO hS
  ((with_reducible refine i_Seq (i_Seq (i_Blk (i_Seq (i_Set (i_I ?_)))))); simp only [w_set0, w_set1, w_setn0, w_setn1])
  refine w_ForN 256 (fun k ρ M' => ρ = [250, ((d : Nat) : Int), ((k : Nat) : Int)] ∧ (∀ b j, ¬ b = 257 → M' b j = M b j) ∧ ∀ j : Nat, j < k → M' ((257 : Nat) : Int) j = 0) ⟨rfl, fun _ _ _ => rfl, fun j hj => absurd hj (by omega)⟩ ?_ ?_
  · rintro k ρ M1 X hk1 ⟨rfl, hf, h⟩ hX
    ((with_reducible refine i_turn (i_cI_lt (i_L2 (i_I ?_)))); (with_reducible refine i_t (by omega) ?_); (with_reducible refine i_sZA (i_FR (i_A0 ?_))); (with_reducible refine i_fldR (by assumption) ?_); (with_reducible refine i_L2 (i_I ?_)); (with_reducible refine i_zin (Or.inl rfl) (by assumption) (by omega) (by omega) ?_); (with_reducible refine i_up (i_Inc2 ?_)); rw [zx_inc (by omega)]; simp only [w_set0, w_set1, w_setn0, w_setn1])
    refine hX _ _ ⟨rfl, (by intro b j q; ((rw [zg_n _ _ _ (by omega)])); first | done | rfl | exact hf b j (by omega)), fun j hj => ?_⟩
    by_cases e : j = k
    · subst e; rw [zg_s]
    · rw [zg_m _ _ _ _ _ (by omega)]; exact h j (by omega)
  · rintro ρ M1 X ⟨rfl, hf, h⟩
    ((with_reducible refine i_turn (i_cI_lt (i_L2 (i_I ?_)))); (with_reducible refine i_f (by omega) ?_); (with_reducible refine i_Blk (i_Seq (i_Set (i_I ?_)))); simp only [w_set0, w_set1, w_setn0, w_setn1])
    refine w_ForN c (fun k ρ M' => ρ = [250, ((d : Nat) : Int), ((k : Nat) : Int)] ∧ (∀ b j, ¬ b = 257 → M' b j = M b j) ∧ rMx M' 257 (zrep A B I D d k)) ⟨rfl, hf, fun a b ha hb => h _ (by omega)⟩ ?_ ?_
    · rintro k ρ M2 X hk1 ⟨rfl, hf, h⟩ hX
      obtain ⟨e1, e2, e3, e4, e5, e6⟩ := hC k hk1
      have g5 : M2 250 ((5 : Nat) : Int) = ((c : Nat) : Int) := (hf _ _ (by omega)).trans h5
      have g1 : M2 ((253 : Nat) : Int) k = ((A k : Nat) : Int) := (hf _ _ (by omega)).trans e1
      have g2 : M2 ((254 : Nat) : Int) k = ((B k : Nat) : Int) := (hf _ _ (by omega)).trans e2
      have g3 : M2 ((255 : Nat) : Int) k = zbI (I k) := (hf _ _ (by omega)).trans e3
      have g4 : M2 ((256 : Nat) : Int) k = ((D k : Nat) : Int) := (hf _ _ (by omega)).trans e4
      by_cases hd : D k ≤ d
      · ((with_reducible refine i_turn (i_cI_lt (i_L2 (i_F (i_A0 ?_))))); (with_reducible refine i_fld (by assumption) ?_); (rw [g5]); (with_reducible refine i_t (by omega) ?_); (with_reducible refine i_Seq (i_IfBrk (i_cI_gt (i_IA (i_FR (i_A0 ?_)))))); (with_reducible refine i_fldR (by assumption) ?_); (with_reducible refine i_L2 ?_); (with_reducible refine i_in (by assumption) (by omega) (by omega) ?_); (with_reducible refine i_L1 ?_); (rw [g4]); (with_reducible refine i_f (by omega) ?_); (with_reducible refine i_Seq (i_sZA (i_FR (i_A0 ?_)))); (with_reducible refine i_fldR (by assumption) ?_); (with_reducible refine i_Add (i_Mul (i_I (i_IA (i_FR (i_A0 ?_)))))); (with_reducible refine i_fldR (by assumption) ?_); (with_reducible refine i_L2 ?_); (with_reducible refine i_in (by assumption) (by omega) (by omega) ?_); (with_reducible refine i_IA (i_FR (i_A0 ?_))); (with_reducible refine i_fldR (by assumption) ?_); (with_reducible refine i_L2 ?_); (with_reducible refine i_in (by assumption) (by omega) (by omega) ?_); (with_reducible refine i_ZA (i_FR (i_A0 ?_))); (with_reducible refine i_fldR (by assumption) ?_); (with_reducible refine i_L2 ?_); (with_reducible refine i_in (by assumption) (by omega) (by omega) ?_); (rw [g1]); (rw [g2]); (rw [g3]); rw [zx_cmul (by omega)]; rw [zx_add (by omega)]; (with_reducible refine i_zin (zbI_01 _) (by assumption) (by omega) (by omega) ?_); (with_reducible refine i_sZA (i_FR (i_A0 ?_))); (with_reducible refine i_fldR (by assumption) ?_); (with_reducible refine i_Add (i_Mul (i_I (i_IA (i_FR (i_A0 ?_)))))); (with_reducible refine i_fldR (by assumption) ?_); (with_reducible refine i_L2 ?_); (with_reducible refine i_in (by assumption) (by omega) (by omega) ?_); (with_reducible refine i_IA (i_FR (i_A0 ?_))); (with_reducible refine i_fldR (by assumption) ?_); (with_reducible refine i_L2 ?_); (with_reducible refine i_in (by assumption) (by omega) (by omega) ?_); (with_reducible refine i_ZA (i_FR (i_A0 ?_))); (with_reducible refine i_fldR (by assumption) ?_); (with_reducible refine i_L2 ?_); (with_reducible refine i_in (by assumption) (by omega) (by omega) ?_); rw [zg_n _ _ _ (by omega)]; rw [zg_n _ _ _ (by omega)]; rw [zg_n _ _ _ (by omega)]; (rw [g1]); (rw [g2]); (rw [g3]); rw [zx_cmul (by omega)]; rw [zx_add (by omega)]; (with_reducible refine i_zin (zbI_01 _) (by assumption) (by omega) (by omega) ?_); (with_reducible refine i_up (i_Inc2 ?_)); rw [zx_inc (by omega)]; simp only [w_set0, w_set1, w_setn0, w_setn1])
        refine hX _ _ ⟨rfl, (by intro b j q; ((rw [zg_n _ _ _ (by omega)]; rw [zg_n _ _ _ (by omega)])); first | done | rfl | exact hf b j (by omega)), ?_⟩
        unfold zrep
        rw [if_pos hd]
        exact (h.up e5 e6 rfl).up e6 e5 rfl
      · ((with_reducible refine i_turn (i_cI_lt (i_L2 (i_F (i_A0 ?_))))); (with_reducible refine i_fld (by assumption) ?_); (rw [g5]); (with_reducible refine i_t (by omega) ?_); (with_reducible refine i_Seq (i_IfBrk (i_cI_gt (i_IA (i_FR (i_A0 ?_)))))); (with_reducible refine i_fldR (by assumption) ?_); (with_reducible refine i_L2 ?_); (with_reducible refine i_in (by assumption) (by omega) (by omega) ?_); (with_reducible refine i_L1 ?_); (rw [g4]); (with_reducible refine i_t (by omega) ?_); (with_reducible refine i_lab1 (i_up (i_Inc2 ?_))); rw [zx_inc (by omega)]; simp only [w_set0, w_set1, w_setn0, w_setn1])
        refine hX _ _ ⟨rfl, hf, ?_⟩
        unfold zrep
        rw [if_neg hd]
        exact h
    · rintro ρ M2 X ⟨rfl, hf, h⟩
      have g5 : M2 250 ((5 : Nat) : Int) = ((c : Nat) : Int) := (hf _ _ (by omega)).trans h5
      ((with_reducible refine i_turn (i_cI_lt (i_L2 (i_F (i_A0 ?_))))); (with_reducible refine i_fld (by assumption) ?_); (rw [g5]); (with_reducible refine i_f (by omega) ?_); (with_reducible refine i_RetV ?_))
      exact hk _ hf h
theorem m_ties_bad {O : zOm} (hO : zWld O) (hS : zS O = zmS zC0) {a d : Int} {P td : Nat} {M : zMem} {K : Option zV → zMem → Prop} (hP : M 250 ((1 : Nat) : Int) = ((P : Nat) : Int)) (hT : M 250 ((4 : Nat) : Int) = ((td : Nat) : Int)) (hb : ¬ ((0 ≤ a ∧ a < ((P : Nat) : Int)) ∧ 0 ≤ d ∧ d ≤ ((td : Nat) : Int))) (hk : K (some (0, -1)) M) : zR O F_Model_ties [(2, 250), (0, a), (0, d)] M K := by
  apply r_Model_ties hO
  unfold B_Model_ties
  have f1 := zMF (k := 1) hS rfl; have f10 := zMF (k := 10) hS rfl; have a257 := zMA (a := 257) (ty := .boolean) (n := 256) hS rfl; have zo := zMO hS
  (focus ((with_reducible refine i_Seq (i_If (i_cOr (i_cNot (i_cZ_ne (i_Call (i_as1 (i_A0 (i_as1 (i_L1 (i_as0 ?_))))))))))); (with_reducible refine i_recv0 (by assumption) ?_); (refine m_isPost hO hS hP ⟨_, rfl, ?_⟩); (with_reducible refine i_dne ?_ ?_ <;> intro hc); (focus ((with_reducible refine i_cNot (i_cZ_ne (i_Call (i_as1 (i_A0 (i_as1 (i_L2 (i_as0 ?_)))))))); (with_reducible refine i_recv0 (by assumption) ?_); (refine m_isDay hO hS hT ⟨_, rfl, ?_⟩); (with_reducible refine i_dne ?_ ?_ <;> intro hc); (focus ((with_reducible refine i_Seq (i_sCall (i_as1 (i_A0 (i_as1 (i_L2 (i_as0 ?_))))))); (with_reducible refine i_recv0 (by assumption) ?_))); rotate_left; (focus ((with_reducible refine i_RetI (i_I ?_)))); rotate_right)); rotate_left 2; (focus ((with_reducible refine i_RetI (i_I ?_)))); rotate_right 2))
  all_goals first | exact hk | (exfalso; omega)
theorem m_ties {O : zOm} (hO : zWld O) (hS : zS O = zmS zC0) {a d P td c : Nat} {A B : Nat → Nat} {I : Nat → Bool} {D : Nat → Nat} {M : zMem} {K : Option zV → zMem → Prop} (hP : M 250 ((1 : Nat) : Int) = ((P : Nat) : Int)) (hP2 : P ≤ 16) (hT : M 250 ((4 : Nat) : Int) = ((td : Nat) : Int)) (ha : a < P) (hd : d ≤ td) (hC : rCh M c A B I D)
    (hk : ∀ M', (∀ b j, ¬ b = 257 → M' b j = M b j) → K (some (0, ((zcnt (zrep A B I D d c a) P : Nat) : Int))) M') : zR O F_Model_ties [(2, 250), (0, ((a : Nat) : Int)), (0, ((d : Nat) : Int))] M K := by
  apply r_Model_ties hO
  unfold B_Model_ties
  have f1 := zMF (k := 1) hS rfl; have f10 := zMF (k := 10) hS rfl; have a257 := zMA (a := 257) (ty := .boolean) (n := 256) hS rfl; have zo := zMO hS
  ((with_reducible refine i_Seq (i_If (i_cOr (i_cNot (i_cZ_ne (i_Call (i_as1 (i_A0 (i_as1 (i_L1 (i_as0 ?_))))))))))); (with_reducible refine i_recv0 (by assumption) ?_); (refine m_isPost hO hS hP ⟨_, rfl, ?_⟩); (rw [decide_eq_true (by omega), zbI_t]); (with_reducible refine i_t (by omega) ?_); (with_reducible refine i_cNot (i_cZ_ne (i_Call (i_as1 (i_A0 (i_as1 (i_L2 (i_as0 ?_)))))))); (with_reducible refine i_recv0 (by assumption) ?_); (refine m_isDay hO hS hT ⟨_, rfl, ?_⟩); (rw [decide_eq_true (by omega), zbI_t]); (with_reducible refine i_t (by omega) ?_); (with_reducible refine i_Seq (i_sCall (i_as1 (i_A0 (i_as1 (i_L2 (i_as0 ?_))))))); (with_reducible refine i_recv0 (by assumption) ?_))
  refine m_asOf hO hS hC (fun M1 hf h => ⟨rfl, ?_⟩)
  have g1 : M1 250 ((1 : Nat) : Int) = ((P : Nat) : Int) := (hf _ _ (by omega)).trans hP
  ((with_reducible refine i_Seq (i_Set (i_I (i_Seq (i_Blk (i_Seq (i_Set (i_I ?_)))))))); simp only [w_set0, w_set1, w_setn0, w_setn1])
  refine w_ForN P (fun k ρ M' => ρ = [250, ((a : Nat) : Int), ((d : Nat) : Int), ((zcnt (zrep A B I D d c a) k : Nat) : Int), ((k : Nat) : Int)] ∧ M' = M1) ⟨rfl, rfl⟩ ?_ ?_
  · rintro k ρ M1 X hk1 ⟨rfl, rfl⟩ hX
    have h2 := zcnt_le (zrep A B I D d c a) k
    ((with_reducible refine i_turn (i_cI_lt (i_L4 (i_F (i_A0 ?_))))); (with_reducible refine i_fld (by assumption) ?_); (rw [g1]); (with_reducible refine i_t (by omega) ?_); (with_reducible refine i_Set (i_Add (i_L3 (i_eIf (i_cZ_ne (i_ZA (i_FR (i_A0 ?_)))))))); (with_reducible refine i_fldR (by assumption) ?_); (with_reducible refine i_Add (i_Mul (i_I (i_L1 (i_L4 ?_))))); rw [zx_cmul (by omega)]; rw [zx_add (by omega)]; (with_reducible refine i_in (by assumption) (by omega) (by omega) ?_))
    rw [h a k (by omega) (by omega)]
    cases hb : zrep A B I D d c a k
    · (rw [zbI_f]; (with_reducible refine i_f (by omega) ?_); (with_reducible refine i_I (i_up ?_)); rw [zx_addc (by omega)]; simp only [w_set0, w_set1, w_setn0, w_setn1]; (with_reducible refine i_Inc4 ?_); rw [zx_inc (by omega)]; simp only [w_set0, w_set1, w_setn0, w_setn1])
      exact hX _ _ ⟨by simp [zcnt, hb], rfl⟩
    · (rw [zbI_t]; (with_reducible refine i_t (by omega) ?_); (with_reducible refine i_I (i_up ?_)); rw [zx_inc (by omega)]; simp only [w_set0, w_set1, w_setn0, w_setn1]; (with_reducible refine i_Inc4 ?_); rw [zx_inc (by omega)]; simp only [w_set0, w_set1, w_setn0, w_setn1])
      exact hX _ _ ⟨by simp [zcnt, hb], rfl⟩
  · rintro ρ M1 X ⟨rfl, rfl⟩
    ((with_reducible refine i_turn (i_cI_lt (i_L4 (i_F (i_A0 ?_))))); (with_reducible refine i_fld (by assumption) ?_); (rw [g1]); (with_reducible refine i_f (by omega) ?_); (with_reducible refine i_RetI (i_L3 ?_)))
    exact hk _ hf
theorem m_tied_bad {O : zOm} (hO : zWld O) (hS : zS O = zmS zC0) {a b d : Int} {P td : Nat} {M : zMem} {K : Option zV → zMem → Prop} (hP : M 250 ((1 : Nat) : Int) = ((P : Nat) : Int)) (hT : M 250 ((4 : Nat) : Int) = ((td : Nat) : Int)) (hb : ¬ (((0 ≤ a ∧ a < ((P : Nat) : Int)) ∧ (0 ≤ b ∧ b < ((P : Nat) : Int)) ∧ a ≠ b) ∧ 0 ≤ d ∧ d ≤ ((td : Nat) : Int))) (hk : K (some (0, -1)) M) : zR O F_Model_tied [(2, 250), (0, a), (0, b), (0, d)] M K := by
  apply r_Model_tied hO
  unfold B_Model_tied
  have f10 := zMF (k := 10) hS rfl; have a257 := zMA (a := 257) (ty := .boolean) (n := 256) hS rfl; have zo := zMO hS
  (focus ((with_reducible refine i_Seq (i_If (i_cOr (i_cNot (i_cZ_ne (i_Call (i_as1 (i_A0 (i_as1 (i_L1 (i_as1 (i_L2 (i_as0 ?_))))))))))))); (with_reducible refine i_recv0 (by assumption) ?_); (refine m_isPair hO hS hP ⟨_, rfl, ?_⟩); (with_reducible refine i_dne ?_ ?_ <;> intro hc); (focus ((with_reducible refine i_cNot (i_cZ_ne (i_Call (i_as1 (i_A0 (i_as1 (i_L3 (i_as0 ?_)))))))); (with_reducible refine i_recv0 (by assumption) ?_); (refine m_isDay hO hS hT ⟨_, rfl, ?_⟩); (with_reducible refine i_dne ?_ ?_ <;> intro hc); (focus ((with_reducible refine i_Seq (i_sCall (i_as1 (i_A0 (i_as1 (i_L3 (i_as0 ?_))))))); (with_reducible refine i_recv0 (by assumption) ?_))); rotate_left; (focus ((with_reducible refine i_RetI (i_I ?_)))); rotate_right)); rotate_left 2; (focus ((with_reducible refine i_RetI (i_I ?_)))); rotate_right 2))
  all_goals first | exact hk | (exfalso; omega)
theorem m_tied {O : zOm} (hO : zWld O) (hS : zS O = zmS zC0) {a b d P td c : Nat} {A B : Nat → Nat} {I : Nat → Bool} {D : Nat → Nat} {M : zMem} {K : Option zV → zMem → Prop} (hP : M 250 ((1 : Nat) : Int) = ((P : Nat) : Int)) (hP2 : P ≤ 16) (hT : M 250 ((4 : Nat) : Int) = ((td : Nat) : Int)) (ha : a < P) (hb : b < P) (hab : a ≠ b) (hd : d ≤ td) (hC : rCh M c A B I D)
    (hk : ∀ M', (∀ b j, ¬ b = 257 → M' b j = M b j) → K (some (0, zbI (zrep A B I D d c a b))) M') : zR O F_Model_tied [(2, 250), (0, ((a : Nat) : Int)), (0, ((b : Nat) : Int)), (0, ((d : Nat) : Int))] M K := by
  apply r_Model_tied hO
  unfold B_Model_tied
  have f10 := zMF (k := 10) hS rfl; have a257 := zMA (a := 257) (ty := .boolean) (n := 256) hS rfl; have zo := zMO hS
  ((with_reducible refine i_Seq (i_If (i_cOr (i_cNot (i_cZ_ne (i_Call (i_as1 (i_A0 (i_as1 (i_L1 (i_as1 (i_L2 (i_as0 ?_))))))))))))); (with_reducible refine i_recv0 (by assumption) ?_); (refine m_isPair hO hS hP ⟨_, rfl, ?_⟩); (rw [decide_eq_true (by omega), zbI_t]); (with_reducible refine i_t (by omega) ?_); (with_reducible refine i_cNot (i_cZ_ne (i_Call (i_as1 (i_A0 (i_as1 (i_L3 (i_as0 ?_)))))))); (with_reducible refine i_recv0 (by assumption) ?_); (refine m_isDay hO hS hT ⟨_, rfl, ?_⟩); (rw [decide_eq_true (by omega), zbI_t]); (with_reducible refine i_t (by omega) ?_); (with_reducible refine i_Seq (i_sCall (i_as1 (i_A0 (i_as1 (i_L3 (i_as0 ?_))))))); (with_reducible refine i_recv0 (by assumption) ?_))
  refine m_asOf hO hS hC (fun M1 hf h => ⟨rfl, ?_⟩)
  have h2 := hk _ hf
  ((with_reducible refine i_RetI (i_eIf (i_cZ_ne (i_ZA (i_FR (i_A0 ?_)))))); (with_reducible refine i_fldR (by assumption) ?_); (with_reducible refine i_Add (i_Mul (i_I (i_L1 (i_L2 ?_))))); rw [zx_cmul (by omega)]; rw [zx_add (by omega)]; (with_reducible refine i_in (by assumption) (by omega) (by omega) ?_))
  rw [h a b (by omega) (by omega)]
  cases hc : zrep A B I D d c a b
  · rw [hc] at h2
    (rw [zbI_f]; (with_reducible refine i_f (by omega) ?_); (with_reducible refine i_I ?_))
    exact h2
  · rw [hc] at h2
    (rw [zbI_t]; (with_reducible refine i_t (by omega) ?_); (with_reducible refine i_I ?_))
    exact h2
