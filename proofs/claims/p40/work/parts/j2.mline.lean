/-! ===== boxes in a line: the reference ===== -/
/-- the first of the least -/
def zFst (m : Nat) (w : Nat → Nat → Nat) (g : Nat → Nat) : Prop := zPm m g ∧ ∀ p, zPm m p → zst2 m w g ≤ zst2 m w p ∧ (zst2 m w p = zst2 m w g → ¬ zlx m p g)
theorem zFst_uq {m : Nat} {w : Nat → Nat → Nat} {g h : Nat → Nat} (hg : zFst m w g) (hh : zFst m w h) : zst2 m w g = zst2 m w h ∧ ∀ i, i < m → g i = h i := by
  have h1 := hg.2 h hh.1
  have h2 := hh.2 g hg.1
  have e : zst2 m w g = zst2 m w h := by omega
  refine ⟨e, ?_⟩
  rcases zlx_tri m g h with k | k | k
  · exact absurd k (h2.2 e)
  · exact k
  · exact absurd k (h1.2 e.symm)
noncomputable def zLin (m : Nat) (w : Nat → Nat → Nat) : Nat → Nat := Classical.epsilon (zFst m w)
theorem zLin_ok {m : Nat} {w : Nat → Nat → Nat} {g : Nat → Nat} (hg : zFst m w g) : zst2 m w g = zst2 m w (zLin m w) ∧ ∀ i, i < m → g i = zLin m w i := zFst_uq hg (Classical.epsilon_spec ⟨g, hg⟩)
/-- the ties between two boxes that a telling builds -/
def zlw (n : Nat) (A : zTl) (x y : Nat) : Nat := zbw (zBd n A) (tf A) n x y n
def zlgg (n : Nat) (A : zTl) (x y p q : Nat) : Bool := zBd n A p q && decide (tf A p = x ∧ tf A q = y)
theorem zlw_sq (n : Nat) (A : zTl) (x y : Nat) : zsq (zlgg n A x y) n n 0 = zlw n A x y := by
  unfold zsq zlw zbw
  show zsum (fun r => zcnt (zlgg n A x y r) n) n + 0 = _
  rw [Nat.add_zero]
  refine zsum_ext fun p _ => ?_
  by_cases e : tf A p = x
  · rw [if_pos e]
    exact zcnt_ext fun q _ => by
      unfold zlgg
      rw [decide_eq_decide.mpr (show (tf A p = x ∧ tf A q = y) ↔ tf A q = y from ⟨fun z => z.2, fun z => ⟨e, z⟩⟩)]
  · rw [if_neg e]
    exact zcnt_z fun q _ => by
      unfold zlgg
      rw [decide_eq_false (fun z => e z.1), Bool.and_false]
theorem zsq_b (g : Nat → Nat → Bool) {n p q : Nat} (hn : n ≤ 16) (hp : p ≤ 16) (hq : q ≤ 16) : zsq g n p q ≤ 272 := by
  have h1 := zsum_cap (f := fun r => zcnt (g r) n) (c := 16) (fun r => Nat.le_trans (zcnt_le _ _) hn) p
  have h2 := zcnt_le (g p) q
  unfold zsq
  omega
theorem m_tiesOfBoxes {O : zOm} (hO : zWld O) (hS : zS O = zmS zC0) {t n : Nat} {A : zTl} {M : zMem} {K : Option zV → zMem → Prop} (ht : t < 7) (hn : M 250 ((1 : Nat) : Int) = ((n : Nat) : Int)) (hn2 : n ≤ 16) (hA : rTe M t n A) (hw : zTw n A) (hm8 : tm A ≤ 8)
    (hk : ∀ M', (∀ b j, ¬ (b = 268 ∨ b = ((294 : Nat) : Int)) → M' b j = M b j) → (∀ x y : Nat, x < 8 → y < 8 → M' ((294 : Nat) : Int) ((8 * x + y : Nat) : Int) = ((zlw n A x y : Nat) : Int)) → K none M') : zR O F_Model_tiesOfBoxes [(2, 250), (0, ((t : Nat) : Int))] M K := by
  have hzr := (zBd_reg hw).2.1
  apply r_Model_tiesOfBoxes hO
  unfold B_Model_tiesOfBoxes
  have f59 := zMF (k := 59) hS rfl; have a294 := zMA (a := 294) (ty := .int) (n := 64) hS rfl; have f1 := zMF (k := 1) hS rfl; have f13 := zMF (k := 13) hS rfl; have a259 := zMA (a := 259) (ty := .int) (n := 112) hS rfl; have zo := zMO hS
  ((with_reducible refine i_Seq (i_Seq (i_sCall (i_as1 (i_A0 (i_as1 (i_L1 (i_as0 ?_)))))))); (with_reducible refine i_recv0 (by assumption) ?_))
  refine m_hearA hO hS ht hn hn2 hA hw (fun M1 f1' S1 => ⟨rfl, ?_⟩)
  ((with_reducible refine i_Seq (i_Blk (i_Seq (i_Set (i_I ?_))))); simp only [w_set0, w_set1, w_setn0, w_setn1])
  refine w_ForN 64 (fun k ρ M' => (∃ l, ρ = 250 :: ((t : Nat) : Int) :: ((k : Nat) : Int) :: l) ∧ (∀ b j, ¬ b = ((294 : Nat) : Int) → M' b j = M1 b j) ∧ ∀ j : Nat, j < k → M' ((294 : Nat) : Int) ((j : Nat) : Int) = 0) ⟨⟨_, rfl⟩, fun _ _ _ => rfl, fun j hj => absurd hj (by omega)⟩ ?_ ?_
  · rintro k ρ M9 X hk1 ⟨⟨l, rfl⟩, hf, h⟩ hX
    ((with_reducible refine i_turn (i_cI_lt (i_L2 (i_I ?_)))); (with_reducible refine i_t (by omega) ?_); (with_reducible refine i_sIA (i_FR (i_A0 ?_))); (with_reducible refine i_fldR (by assumption) ?_); (with_reducible refine i_L2 (i_I ?_)); (with_reducible refine i_in (by assumption) (by omega) (by omega) ?_); (with_reducible refine i_up (i_Inc2 ?_)); rw [zx_inc (by omega)]; simp only [w_set0, w_set1, w_setn0, w_setn1])
    refine hX _ _ ⟨⟨_, rfl⟩, fun b j q => by rw [zg_n _ _ _ (by omega)]; exact hf b j q, fun j hj => ?_⟩
    by_cases e : j = k
    · subst e; rw [zg_s]
    · rw [zg_m _ _ _ _ _ (by omega)]; exact h j (by omega)
  rintro ρ M2 X2 ⟨⟨l2, rfl⟩, f2, h2⟩
  ((with_reducible refine i_turn (i_cI_lt (i_L2 (i_I ?_)))); (with_reducible refine i_f (by omega) ?_); (with_reducible refine i_Blk (i_Seq (i_Set (i_I ?_)))); simp only [w_set0, w_set1, w_setn0, w_setn1])
  have k2 : ∀ b j, ¬ (b = 268 ∨ b = ((294 : Nat) : Int)) → M2 b j = M b j := fun b j q => by rw [f2 b j (by omega), f1' b j (by omega)]
  refine w_ForN n (fun a ρ M' => (∃ l, ρ = 250 :: ((t : Nat) : Int) :: ((a : Nat) : Int) :: l) ∧ (∀ b j, ¬ b = ((294 : Nat) : Int) → M' b j = M2 b j) ∧ ∀ x y : Nat, x < 8 → y < 8 → M' ((294 : Nat) : Int) ((8 * x + y : Nat) : Int) = ((zsq (zlgg n A x y) n a 0 : Nat) : Int)) ⟨⟨_, rfl⟩, fun _ _ _ => rfl, fun x y hx hy => h2 _ (by omega)⟩ ?_ ?_
  · rintro a ρ M3 X3 ha ⟨⟨l3, rfl⟩, f3, g3⟩ hX3
    have n3 : M3 250 ((1 : Nat) : Int) = ((n : Nat) : Int) := by rw [f3 _ _ (by omega), k2 _ _ (by omega)]; exact hn
    ((with_reducible refine i_turn (i_cI_lt (i_L2 (i_F (i_A0 ?_))))); (with_reducible refine i_fld (by assumption) ?_); (rw [n3]); (with_reducible refine i_t (by omega) ?_); (with_reducible refine i_Blk (i_Seq (i_Set (i_I ?_)))); simp only [w_set0, w_set1, w_setn0, w_setn1]; rw [w_setT])
    refine w_ForN n (fun b ρ M' => (∃ l, ρ = 250 :: ((t : Nat) : Int) :: ((a : Nat) : Int) :: ((b : Nat) : Int) :: l) ∧ (∀ b j, ¬ b = ((294 : Nat) : Int) → M' b j = M2 b j) ∧ ∀ x y : Nat, x < 8 → y < 8 → M' ((294 : Nat) : Int) ((8 * x + y : Nat) : Int) = ((zsq (zlgg n A x y) n a b : Nat) : Int)) ⟨⟨_, rfl⟩, f3, g3⟩ ?_ ?_
    · rintro b ρ M4 X4 hb ⟨⟨l4, rfl⟩, f4, g4⟩ hX4
      have n4 : M4 250 ((1 : Nat) : Int) = ((n : Nat) : Int) := by rw [f4 _ _ (by omega), k2 _ _ (by omega)]; exact hn
      have hA4 : rTe M4 t n A := hA.to hn2 hw (fun b j q => by rw [f4 b j (by omega), k2 b j (by omega)])
      have S4 : rMx M4 268 (tS n A) := S1.to (fun j => by rw [f4 _ _ (by omega), f2 _ _ (by omega)])
      have ba := hA4.1.2.1 a ha
      have bb := hA4.1.2.1 b hb
      have fa := (hw.1.2.2 a ha).1
      have fb := (hw.1.2.2 b hb).1
      have no : zBd n A a b = false → ∀ x y : Nat, x < 8 → y < 8 → M4 ((294 : Nat) : Int) ((8 * x + y : Nat) : Int) = ((zsq (zlgg n A x y) n a (b + 1) : Nat) : Int) := fun z x y hx hy => by
        rw [zsq_su, if_neg (by unfold zlgg; rw [z]; simp)]
        exact g4 x y hx hy
      by_cases hab : a = b
      · subst hab
        ((with_reducible refine i_turn (i_cI_lt (i_L3 (i_F (i_A0 ?_))))); (with_reducible refine i_fld (by assumption) ?_); (rw [n4]); (with_reducible refine i_t (by omega) ?_); (with_reducible refine i_If (i_cAnd (i_cI_ne (i_L2 (i_L3 ?_))))); (with_reducible refine i_f (by omega) ?_); (with_reducible refine i_up (i_Inc3 ?_)); rw [zx_inc (by omega)]; simp only [w_set0, w_set1, w_setn0, w_setn1])
        exact hX4 _ _ ⟨⟨_, rfl⟩, f4, no (hzr a)⟩
      · ((with_reducible refine i_turn (i_cI_lt (i_L3 (i_F (i_A0 ?_))))); (with_reducible refine i_fld (by assumption) ?_); (rw [n4]); (with_reducible refine i_t (by omega) ?_); (with_reducible refine i_If (i_cAnd (i_cI_ne (i_L2 (i_L3 ?_))))); (with_reducible refine i_t (by omega) ?_); (with_reducible refine i_cZ_ne (i_Call (i_as1 (i_A0 (i_as1 (i_L1 (i_as1 (i_L2 (i_as1 (i_L3 (i_as0 ?_))))))))))); (with_reducible refine i_recv0 (by assumption) ?_); (refine m_builds hO hS ht hA4 S4 (show a < 16 by omega) (show b < 16 by omega) ⟨_, rfl, ?_⟩))
        cases e : zBd n A a b
        · (rw [zbI_f]; (with_reducible refine i_f (by omega) ?_); (with_reducible refine i_up (i_Inc3 ?_)); rw [zx_inc (by omega)]; simp only [w_set0, w_set1, w_setn0, w_setn1])
          exact hX4 _ _ ⟨⟨_, rfl⟩, f4, no e⟩
        · have gx := g4 (tf A a) (tf A b) (by omega) (by omega)
          have hbd := zsq_b (zlgg n A (tf A a) (tf A b)) hn2 (p := a) (q := b) (by omega) (by omega)
          have hst : ∀ x y, zsq (zlgg n A x y) n a (b + 1) = zsq (zlgg n A x y) n a b + (if tf A a = x ∧ tf A b = y then 1 else 0) := fun x y => by
            rw [zsq_su]
            unfold zlgg
            rw [e, Bool.true_and]
            simp only [decide_eq_true_eq]
          generalize tf A a = u at ba gx hbd hst fa
          generalize tf A b = v at bb gx hbd hst fb
          (rw [zbI_t]; (with_reducible refine i_t (by omega) ?_); (with_reducible refine i_IO (i_FR (i_A0 ?_))); (with_reducible refine i_fldR (by assumption) ?_); (with_reducible refine i_Add (i_Mul (i_I (i_IA (i_FR (i_A0 ?_)))))); (with_reducible refine i_fldR (by assumption) ?_); (with_reducible refine i_Add (i_Mul (i_I (i_L1 (i_L2 ?_))))); rw [zx_cmul (by omega)]; rw [zx_add (by omega)]; (with_reducible refine i_in (by assumption) (by omega) (by omega) ?_); (with_reducible refine i_IA (i_FR (i_A0 ?_))); (with_reducible refine i_fldR (by assumption) ?_); (with_reducible refine i_Add (i_Mul (i_I (i_L1 (i_L3 ?_))))); (rw [ba]); rw [zx_cmul (by omega)]; rw [zx_add (by omega)]; (with_reducible refine i_in (by assumption) (by omega) (by omega) ?_); (rw [bb]); rw [zx_cmul (by omega)]; rw [zx_add (by omega)]; (with_reducible refine i_in (by assumption) (by omega) (by omega) ?_); (with_reducible refine i_I (i_up (i_Inc3 ?_))); (rw [gx]); rw [zx_inc (by omega)]; rw [zx_inc (by omega)]; simp only [w_set0, w_set1, w_setn0, w_setn1])
          refine hX4 _ _ ⟨⟨_, rfl⟩, fun b j q => by rw [zg_n _ _ _ (by omega)]; exact f4 b j q, fun x y hx hy => ?_⟩
          rw [hst]
          by_cases w : u = x ∧ v = y
          · obtain ⟨rfl, rfl⟩ := w
            rw [zg_s, if_pos ⟨rfl, rfl⟩]
          · rw [zg_m _ _ _ _ _ (by omega), if_neg w, Nat.add_zero]
            exact g4 x y hx hy
    · rintro ρ M4 X4 ⟨⟨l4, rfl⟩, f4, g4⟩
      have n4 : M4 250 ((1 : Nat) : Int) = ((n : Nat) : Int) := by rw [f4 _ _ (by omega), k2 _ _ (by omega)]; exact hn
      ((with_reducible refine i_turn (i_cI_lt (i_L3 (i_F (i_A0 ?_))))); (with_reducible refine i_fld (by assumption) ?_); (rw [n4]); (with_reducible refine i_f (by omega) ?_); (with_reducible refine i_up (i_Inc2 ?_)); rw [zx_inc (by omega)]; simp only [w_set0, w_set1, w_setn0, w_setn1])
      exact hX3 _ _ ⟨⟨_, rfl⟩, f4, g4⟩
  · rintro ρ M3 X3 ⟨⟨l3, rfl⟩, f3, g3⟩
    have n3 : M3 250 ((1 : Nat) : Int) = ((n : Nat) : Int) := by rw [f3 _ _ (by omega), k2 _ _ (by omega)]; exact hn
    ((with_reducible refine i_turn (i_cI_lt (i_L2 (i_F (i_A0 ?_))))); (with_reducible refine i_fld (by assumption) ?_); (rw [n3]); (with_reducible refine i_f (by omega) ?_); (with_reducible refine i_RetV ?_))
    exact hk M3 (fun b j q => by rw [f3 b j (by omega), k2 b j q]) (fun x y hx hy => by rw [g3 x y hx hy, zlw_sq])
theorem m_stretch {O : zOm} (hO : zWld O) (hS : zS O = zmS zC0) {m : Nat} {w : Nat → Nat → Nat} {o : Nat → Nat} {M : zMem} {K : Option zV → zMem → Prop} (hm8 : m ≤ 8) (hw : ∀ x y : Nat, x < 8 → y < 8 → M ((294 : Nat) : Int) ((8 * x + y : Nat) : Int) = ((w x y : Nat) : Int) ∧ w x y ≤ 256) (ho : ∀ i : Nat, i < m → M ((295 : Nat) : Int) ((i : Nat) : Int) = ((o i : Nat) : Int) ∧ o i < 8)
    (hk : K (some (0, ((zst2 m w o : Nat) : Int))) M) : zR O F_Model_stretch [(2, 250), (0, ((m : Nat) : Int))] M K := by
  have ht : ∀ i j, i < 8 → j < m → (if i < j then (j - i) * w (o i) (o j) else 0) ≤ 7 * 256 := fun i j hi hj => by
    split
    · exact Nat.mul_le_mul (by omega) (hw _ _ (by
        rcases Nat.lt_or_ge i m with q | q
        · exact (ho i q).2
        · omega) (ho j hj).2).2
    · omega
  have hrow : ∀ i, i < m → ∀ k, k ≤ m → zsum (fun j => if i < j then (j - i) * w (o i) (o j) else 0) k ≤ k * (7 * 256) := fun i hi k => by
    induction k with
    | zero => exact fun _ => Nat.zero_le _
    | succ k ih =>
      intro hk
      have i1 := ih (by omega)
      have i2 := ht i k (by omega) (by omega)
      rw [zsum_su, Nat.succ_mul]
      try dsimp only
      omega
  have hall : ∀ k, k ≤ m → zsum (fun i => zsum (fun j => if i < j then (j - i) * w (o i) (o j) else 0) m) k ≤ k * 14336 := by
    intro k
    induction k with
    | zero => exact fun _ => Nat.zero_le _
    | succ k ih =>
      intro hk
      have i1 := ih (by omega)
      have i2 := hrow k (by omega) m (Nat.le_refl _)
      have i3 : m * (7 * 256) ≤ 8 * (7 * 256) := Nat.mul_le_mul_right _ hm8
      rw [zsum_su, Nat.succ_mul]
      try dsimp only
      omega
  have hz0 : ∀ i, zsum (fun j => if i < j then (j - i) * w (o i) (o j) else 0) (i + 1) = 0 := fun i => zsum_z fun j hj => if_neg (by omega)
  unfold zst2 at hk
  apply r_Model_stretch hO
  unfold B_Model_stretch
  have f59 := zMF (k := 59) hS rfl; have a294 := zMA (a := 294) (ty := .int) (n := 64) hS rfl; have f60 := zMF (k := 60) hS rfl; have a295 := zMA (a := 295) (ty := .int) (n := 8) hS rfl; have zo := zMO hS
  ((with_reducible refine i_Seq (i_Set (i_I (i_Seq (i_Blk (i_Seq (i_Set (i_I ?_)))))))); simp only [w_set0, w_set1, w_setn0, w_setn1])
  refine w_ForN m (fun i ρ M' => (∃ l, ρ = 250 :: ((m : Nat) : Int) :: ((zsum (fun i => zsum (fun j => if i < j then (j - i) * w (o i) (o j) else 0) m) i : Nat) : Int) :: ((i : Nat) : Int) :: l) ∧ M' = M) ⟨⟨_, rfl⟩, rfl⟩ ?_ ?_
  · rintro i ρ M1 X hi ⟨⟨l, rfl⟩, rfl⟩ hX
    have hal := hall i (by omega)
    have hX1 := fun l => hX _ M1 ⟨⟨l, rfl⟩, rfl⟩
    rw [zsum_su] at hX1
    try dsimp only at hX1
    clear hX hk
    generalize zsum (fun i => zsum (fun j => if i < j then (j - i) * w (o i) (o j) else 0) m) i = z at hal hX1 ⊢
    ((with_reducible refine i_turn (i_cI_lt (i_L3 (i_L1 ?_)))); (with_reducible refine i_t (by omega) ?_); (with_reducible refine i_Blk (i_Seq (i_Set (i_Add (i_L3 (i_I ?_)))))); rw [zx_inc (by omega)]; simp only [w_set0, w_set1, w_setn0, w_setn1]; rw [w_setT])
    refine w_ForN (m - (i + 1)) (fun k ρ M' => (∃ l, ρ = 250 :: ((m : Nat) : Int) :: ((z + zsum (fun j => if i < j then (j - i) * w (o i) (o j) else 0) (i + 1 + k) : Nat) : Int) :: ((i : Nat) : Int) :: ((i + 1 + k : Nat) : Int) :: l) ∧ M' = M1) ⟨⟨_, by rw [Nat.add_zero, hz0]; rfl⟩, rfl⟩ ?_ ?_
    · rintro k ρ M2 X2 hk1 ⟨⟨l2, rfl⟩, rfl⟩ hX2
      have o1 := ho i hi
      have o2 := ho (i + 1 + k) (by omega)
      have w1 := hw (o i) (o (i + 1 + k)) o1.2 o2.2
      have hr1 := hrow i hi (i + 1 + k) (by omega)
      have hr2 : (i + 1 + k) * (7 * 256) ≤ 8 * (7 * 256) := Nat.mul_le_mul_right _ (by omega)
      have hal2 : i * 14336 ≤ 8 * 14336 := Nat.mul_le_mul_right _ (by omega)
      have hX3 := fun l => hX2 _ M2 ⟨⟨l, rfl⟩, rfl⟩
      rw [show i + 1 + (k + 1) = i + 1 + k + 1 by omega, zsum_su, if_pos (show i < i + 1 + k by omega)] at hX3
      clear hX2
      have hpr : (i + 1 + k - i) * w (o i) (o (i + 1 + k)) ≤ 7 * 256 := Nat.mul_le_mul (by omega) w1.2
      generalize zsum (fun j => if i < j then (j - i) * w (o i) (o j) else 0) (i + 1 + k) = y at hr1 hX3 ⊢
      obtain ⟨w1, w2⟩ := w1
      obtain ⟨o1, o1'⟩ := o1
      obtain ⟨o2, o2'⟩ := o2
      generalize w (o i) (o (i + 1 + k)) = v at w1 w2 hpr hX3
      generalize o (i + 1 + k) = u2 at o2 o2' w1
      generalize o i = u1 at o1 o1' w1
      ((with_reducible refine i_turn (i_cI_lt (i_L4 (i_L1 ?_)))); (with_reducible refine i_t (by omega) ?_); (with_reducible refine i_Set (i_Add (i_L2 (i_Mul (i_Sub (i_L4 (i_L3 (i_IA (i_FR (i_A0 ?_)))))))))); (with_reducible refine i_fldR (by assumption) ?_); (with_reducible refine i_Add (i_Mul (i_I (i_IA (i_FR (i_A0 ?_)))))); (with_reducible refine i_fldR (by assumption) ?_); (with_reducible refine i_L3 ?_); (with_reducible refine i_in (by assumption) (by omega) (by omega) ?_); (with_reducible refine i_IA (i_FR (i_A0 ?_))); (with_reducible refine i_fldR (by assumption) ?_); (with_reducible refine i_L4 ?_); (with_reducible refine i_in (by assumption) (by omega) (by omega) ?_); (rw [o1]); (rw [o2]); rw [zx_sub (by omega) (by omega)]; rw [zx_cmul (by omega)]; rw [zx_add (by omega)]; (with_reducible refine i_in (by assumption) (by omega) (by omega) ?_); (with_reducible refine i_up ?_); (rw [w1]); (rw [zx_mul (by omega)]); rw [zx_add (by omega)]; simp only [w_set0, w_set1, w_setn0, w_setn1]; (with_reducible refine i_Inc4 ?_); rw [zx_inc (by omega)]; simp only [w_set0, w_set1, w_setn0, w_setn1])
      rw [show z + y + (i + 1 + k - i) * v = z + (y + (i + 1 + k - i) * v) by omega]
      exact hX3 _
    · rintro ρ M2 X2 ⟨⟨l2, rfl⟩, rfl⟩
      rw [show i + 1 + (m - (i + 1)) = m by omega]
      ((with_reducible refine i_turn (i_cI_lt (i_L4 (i_L1 ?_)))); (with_reducible refine i_f (by omega) ?_); (with_reducible refine i_up (i_Inc3 ?_)); rw [zx_inc (by omega)]; simp only [w_set0, w_set1, w_setn0, w_setn1])
      exact hX1 _
  · rintro ρ M1 X ⟨⟨l, rfl⟩, rfl⟩
    ((with_reducible refine i_turn (i_cI_lt (i_L3 (i_L1 ?_)))); (with_reducible refine i_f (by omega) ?_); (with_reducible refine i_RetI (i_L2 ?_)))
    exact hk
