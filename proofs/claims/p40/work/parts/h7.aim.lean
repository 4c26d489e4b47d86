/-! ===== the rule looks at the net's own posts alone ===== -/
section TX
variable {n m : Nat} {T U : Nat → Nat → Bool} {g : Nat → Nat}
theorem zrC_T (e : ∀ p q, p < n → q < n → T p q = U p q) : zrC n m T g = zrC n m U g := by
  funext i
  unfold zrC
  rw [zP2_ext (w := zwo g U i i) (fun p q hpq hq => by unfold zwo; rw [e p q (by omega) hq])]
theorem zrD_T (e : ∀ p q, p < n → q < n → T p q = U p q) : zrD n m T g = zrD n m U g := by
  funext i j
  unfold zrD
  rw [zP2_ext (w := zwo g U i j) (fun p q hpq hq => by unfold zwo; rw [e p q (by omega) hq])]
theorem zrc_T (e : ∀ p q, p < n → q < n → T p q = U p q) (S : Nat → Nat → Bool) {p : Nat} (hp : p < n) (i : Nat) : zrc n m T g S p i = zrc n m U g S p i := by
  unfold zrc
  rw [show zrO n T g S p i = zrO n U g S p i from zsI_ext fun q hq => by unfold zrw; rw [e p q hp hq]]
theorem zrI_T (e : ∀ p q, p < n → q < n → T p q = U p q) (S : Nat → Nat → Bool) {p : Nat} (hp : p < n) (i : Nat) : zrI n m T g S p i = zrI n m U g S p i := by
  induction i with
  | zero => rfl
  | succ i ih => rw [zrI_su, zrI_su, ih, zrc_T e _ hp]
theorem zrP_T (e : ∀ p q, p < n → q < n → T p q = U p q) {p : Nat} (hp : p ≤ n) : zrP n m T g p = zrP n m U g p := by
  induction p with
  | zero =>
    show zrS0 n m T g = zrS0 n m U g
    unfold zrS0
    rw [zrC_T e, zrD_T e]
  | succ p ih =>
    show zrI n m T g (zrP n m T g p) p m = zrI n m U g (zrP n m U g p) p m
    rw [ih (by omega), zrI_T e _ (by omega)]
theorem zrG_T (e : ∀ p q, p < n → q < n → T p q = U p q) : zrG n m T g = zrG n m U g := by
  funext p i
  unfold zrG
  by_cases hp : p < n
  · rw [zrP_T e (Nat.le_of_lt hp), zrI_T e _ hp, zrc_T e _ hp]
  · rw [decide_eq_false (fun z => hp z.1), Bool.false_and, Bool.false_and]
theorem zmnF_ext {B : Nat → Bool} {d d' : Nat → Nat} {k : Nat} (h : ∀ p, p < k → d p = d' p) : zmnF B d k = zmnF B d' k := by
  induction k with
  | zero => rfl
  | succ k ih => rw [zmnF_su, zmnF_su, ih (fun p hp => h p (by omega)), h k (by omega)]
theorem zmnF_lt (hn : 0 < n) (B : Nat → Bool) (d : Nat → Nat) : (zmnF B d n).1.toNat < n := by
  rcases zmnF_ok B d n with ⟨h1, -, -⟩ | ⟨p, h1, -, h3, -⟩
  · rw [h1]; exact hn
  · rw [h1]; exact h3
theorem zlyS_T (e : ∀ p q, p < n → q < n → T p q = U p q) {B : Nat → Bool} {first : Nat} (hf : first < n) (k : Nat) : zlyS n B T first k = zlyS n B U first k := by
  induction k with
  | zero => rfl
  | succ k ih =>
    have h1 := zlyS_lt (B := B) (T := T) hf k
    unfold zlyS
    rw [← ih]
    have h2 : znxt n B T (fun q => (zlyS n B T first k).2 q || decide (q = (zlyS n B T first k).1)) (zlyS n B T first k).1 = znxt n B U (fun q => (zlyS n B T first k).2 q || decide (q = (zlyS n B T first k).1)) (zlyS n B T first k).1 := by
      unfold znxt
      rw [zfind_ext (t := fun q => (B q && !((zlyS n B T first k).2 q || decide (q = (zlyS n B T first k).1))) && U (zlyS n B T first k).1 q) (fun q hq => by rw [e _ _ h1 hq])]
    rw [h2]
theorem zrow_T (hn : 0 < n) (e : ∀ p q, p < n → q < n → T p q = U p q) : zrow n g T = zrow n g U := by
  funext i k
  unfold zrow
  have h1 : zmnF (fun p => decide (g p = i)) (zdeg n (fun p => decide (g p = i)) T) n = zmnF (fun p => decide (g p = i)) (zdeg n (fun p => decide (g p = i)) U) n := zmnF_ext fun p hp => zcnt_ext fun q hq => by rw [e p q hp hq]
  rw [← h1, zlyS_T e (zmnF_lt hn _ _)]
theorem zrow_all (hn : 0 < n) (i k : Nat) : zrow n g T i k < n := zlyS_lt (zmnF_lt hn _ _) k
theorem zrh_T (hn : 0 < n) (e : ∀ p q, p < n → q < n → T p q = U p q) (S : Nat → Nat → Bool) (i : Nat) : zrh n m T g S i = zrh n m U g S i := by
  unfold zrh
  rw [zrow_T hn e, show zrK T (zrow n g U i) S (zSz g n i) = zrK U (zrow n g U i) S (zSz g n i) from zsI_ext fun k hk => by unfold zrk; rw [e _ _ (zrow_all hn i k) (zrow_all hn i (k + 1))]]
theorem zrQ_T (hn : 0 < n) (e : ∀ p q, p < n → q < n → T p q = U p q) (i : Nat) : zrQ n m T g i = zrQ n m U g i := by
  induction i with
  | zero => exact zrP_T e (Nat.le_refl _)
  | succ i ih => rw [zrQ_su, zrQ_su, ih, zrh_T hn e, zrow_T hn e]
theorem zrH_T (hn : 0 < n) (e : ∀ p q, p < n → q < n → T p q = U p q) : zrH n m T g = zrH n m U g := by
  funext i
  unfold zrH
  rw [zrQ_T hn e, zrh_T hn e]
theorem zxe_T {S : Nat → Nat → Bool} (e : ∀ p q, p < n → q < n → T p q = U p q) : zxe (fun p q => S p q ^^ T p q) n = zxe (fun p q => S p q ^^ U p q) n := by
  funext p q
  show (if p < q ∧ q < n ∧ (S p q ^^ T p q) = true then 1 else 0) = (if p < q ∧ q < n ∧ (S p q ^^ U p q) = true then 1 else 0)
  by_cases h : p < q ∧ q < n
  · rw [e p q (by omega) h.2]
  · rw [if_neg (fun z => h ⟨z.1, z.2.1⟩), if_neg (fun z => h ⟨z.1, z.2.1⟩)]
theorem zRul_T (hn : 0 < n) (e : ∀ p q, p < n → q < n → T p q = U p q) : zRul n m T g = zRul n m U g := by
  unfold zRul
  rw [zrC_T e, zrD_T e, zrG_T e, zrH_T hn e, zrow_T hn e, show zrSd n m T g = zrSd n m U g from zrQ_T hn e m, zxe_T e]
theorem zRq_T (hn : 0 < n) (e : ∀ p q, p < n → q < n → T p q = U p q) (f : Nat → Nat) : zRq n T f = zRq n U f := zRul_T hn e
end TX
/-! ===== what a telling builds aimed at ===== -/
theorem m_aimAt {O : zOm} (hO : zWld O) (hS : zS O = zmS zC0) {t n : Nat} {A : zTl} {M : zMem} {K : Option zV → zMem → Prop} (ht : t < 7) (hn : M 250 ((1 : Nat) : Int) = ((n : Nat) : Int)) (hn2 : n ≤ 16) (hA : rTe M t n A) (hw : zTw n A) (h01 : ∀ j : Nat, j < 256 → M ((267 : Nat) : Int) ((j : Nat) : Int) = 0 ∨ M ((267 : Nat) : Int) ((j : Nat) : Int) = 1)
    (hk : ∀ M' T', (∀ b j, ¬ (b = 267 ∨ b = 268) → M' b j = M b j) → rMx M' 267 T' → (∀ p q, p < n → q < n → T' p q = zBd n A p q) → K none M') : zR O F_Model_aimAt [(2, 250), (0, ((t : Nat) : Int))] M K := by
  have hT0 : rMx M 267 (fun p q => decide (M ((267 : Nat) : Int) ((16 * p + q : Nat) : Int) = 1)) := fun p q hp hq => by
    rcases h01 (16 * p + q) (by omega) with e | e
    · dsimp only; rw [e]; rfl
    · dsimp only; rw [e]; rfl
  generalize (fun p q : Nat => decide (M ((267 : Nat) : Int) ((16 * p + q : Nat) : Int) = 1)) = T0 at hT0
  have hzr := (zBd_reg hw).2.1
  apply r_Model_aimAt hO
  unfold B_Model_aimAt
  have f1 := zMF (k := 1) hS rfl; have f21 := zMF (k := 21) hS rfl; have a267 := zMA (a := 267) (ty := .boolean) (n := 256) hS rfl; have zo := zMO hS
  ((with_reducible refine i_Seq (i_Seq (i_sCall (i_as1 (i_A0 (i_as1 (i_L1 (i_as0 ?_)))))))); (with_reducible refine i_recv0 (by assumption) ?_))
  refine m_hearA hO hS ht hn hn2 hA hw (fun M1 f1' S1 => ⟨rfl, ?_⟩)
  ((with_reducible refine i_Blk (i_Seq (i_Set (i_I ?_)))); simp only [w_set0, w_set1, w_setn0, w_setn1])
  refine w_ForN n (fun a ρ M' => (∃ l, ρ = 250 :: ((t : Nat) : Int) :: ((a : Nat) : Int) :: l) ∧ (∀ b j, ¬ b = 267 → M' b j = M1 b j) ∧ rMx M' 267 (fun p q => if p < a ∧ q < n then zBd n A p q else T0 p q)) ⟨⟨_, rfl⟩, fun _ _ _ => rfl, (hT0.to (fun j => f1' _ _ (by omega))).ext (fun p q _ _ => by rw [if_neg (by omega)])⟩ ?_ ?_
  · rintro a ρ M2 X ha ⟨⟨l, rfl⟩, f2, g2⟩ hX
    have n2 : M2 250 ((1 : Nat) : Int) = ((n : Nat) : Int) := by rw [f2 _ _ (by omega), f1' _ _ (by omega)]; exact hn
    ((with_reducible refine i_turn (i_cI_lt (i_L2 (i_F (i_A0 ?_))))); (with_reducible refine i_fld (by assumption) ?_); (rw [n2]); (with_reducible refine i_t (by omega) ?_); (with_reducible refine i_Blk (i_Seq (i_Set (i_I ?_)))); simp only [w_set0, w_set1, w_setn0, w_setn1]; rw [w_setT])
    refine w_ForN n (fun b ρ M' => (∃ l, ρ = 250 :: ((t : Nat) : Int) :: ((a : Nat) : Int) :: ((b : Nat) : Int) :: l) ∧ (∀ b j, ¬ b = 267 → M' b j = M1 b j) ∧ rMx M' 267 (fun p q => if (p < a ∨ p = a ∧ q < b) ∧ q < n then zBd n A p q else T0 p q)) ⟨⟨_, rfl⟩, f2, g2.ext (fun p q _ _ => by
      by_cases e : p < a ∧ q < n
      · rw [if_pos e, if_pos (by omega)]
      · rw [if_neg e, if_neg (by omega)])⟩ ?_ ?_
    · rintro b ρ M3 X3 hb ⟨⟨l3, rfl⟩, f3, g3⟩ hX3
      have n3 : M3 250 ((1 : Nat) : Int) = ((n : Nat) : Int) := by rw [f3 _ _ (by omega), f1' _ _ (by omega)]; exact hn
      have hA3 : rTe M3 t n A := hA.to hn2 hw (fun b j q => by rw [f3 b j (by omega), f1' b j (by omega)])
      have S3 : rMx M3 268 (tS n A) := S1.to (fun j => f3 _ _ (by omega))
      have fin : ∀ x : Int, x = zbI (zBd n A a b) → rMx (zput M3 ((267 : Nat) : Int) (zup (M3 ((267 : Nat) : Int)) ((16 * a + b : Nat) : Int) x)) 267 (fun p q => if (p < a ∨ p = a ∧ q < b + 1) ∧ q < n then zBd n A p q else T0 p q) := fun x hx => (g3.up (by omega) (by omega) hx).ext (fun p q _ _ => by
        unfold zmu
        by_cases e : p = a ∧ q = b
        · obtain ⟨rfl, rfl⟩ := e
          rw [if_pos ⟨rfl, rfl⟩, if_pos ⟨Or.inr ⟨rfl, by omega⟩, by omega⟩]
        · rw [if_neg e]
          dsimp only
          by_cases w : (p < a ∨ p = a ∧ q < b) ∧ q < n
          · rw [if_pos w, if_pos (by omega)]
          · rw [if_neg w, if_neg (by omega)])
      by_cases hab : a = b
      · subst hab
        rw [hzr a] at fin
        ((with_reducible refine i_turn (i_cI_lt (i_L3 (i_F (i_A0 ?_))))); (with_reducible refine i_fld (by assumption) ?_); (rw [n3]); (with_reducible refine i_t (by omega) ?_); (with_reducible refine i_sZA (i_FR (i_A0 ?_))); (with_reducible refine i_fldR (by assumption) ?_); (with_reducible refine i_Add (i_Mul (i_I (i_L2 (i_L3 (i_eIf (i_cAnd (i_cI_ne (i_L2 (i_L3 ?_)))))))))); rw [zx_cmul (by omega)]; rw [zx_add (by omega)]; (with_reducible refine i_f (by omega) ?_); (with_reducible refine i_I ?_); (with_reducible refine i_zin (Or.inl rfl) (by assumption) (by omega) (by omega) ?_); (with_reducible refine i_up (i_Inc3 ?_)); rw [zx_inc (by omega)]; simp only [w_set0, w_set1, w_setn0, w_setn1])
        exact hX3 _ _ ⟨⟨_, rfl⟩, fun b j q => by rw [zg_n _ _ _ (by omega)]; exact f3 b j q, fin 0 rfl⟩
      · ((with_reducible refine i_turn (i_cI_lt (i_L3 (i_F (i_A0 ?_))))); (with_reducible refine i_fld (by assumption) ?_); (rw [n3]); (with_reducible refine i_t (by omega) ?_); (with_reducible refine i_sZA (i_FR (i_A0 ?_))); (with_reducible refine i_fldR (by assumption) ?_); (with_reducible refine i_Add (i_Mul (i_I (i_L2 (i_L3 (i_eIf (i_cAnd (i_cI_ne (i_L2 (i_L3 ?_)))))))))); rw [zx_cmul (by omega)]; rw [zx_add (by omega)]; (with_reducible refine i_t (by omega) ?_); (with_reducible refine i_cZ_ne (i_Call (i_as1 (i_A0 (i_as1 (i_L1 (i_as1 (i_L2 (i_as1 (i_L3 (i_as0 ?_))))))))))); (with_reducible refine i_recv0 (by assumption) ?_); (refine m_builds hO hS ht hA3 S3 (by omega) (by omega) ⟨_, rfl, ?_⟩))
        generalize zBd n A a b = v at fin ⊢
        cases v
        · (rw [zbI_f]; (with_reducible refine i_f (by omega) ?_); (with_reducible refine i_I ?_); (with_reducible refine i_zin (Or.inl rfl) (by assumption) (by omega) (by omega) ?_); (with_reducible refine i_up (i_Inc3 ?_)); rw [zx_inc (by omega)]; simp only [w_set0, w_set1, w_setn0, w_setn1])
          exact hX3 _ _ ⟨⟨_, rfl⟩, fun b j q => by rw [zg_n _ _ _ (by omega)]; exact f3 b j q, fin 0 rfl⟩
        · (rw [zbI_t]; (with_reducible refine i_t (by omega) ?_); (with_reducible refine i_I ?_); (with_reducible refine i_zin (Or.inr rfl) (by assumption) (by omega) (by omega) ?_); (with_reducible refine i_up (i_Inc3 ?_)); rw [zx_inc (by omega)]; simp only [w_set0, w_set1, w_setn0, w_setn1])
          exact hX3 _ _ ⟨⟨_, rfl⟩, fun b j q => by rw [zg_n _ _ _ (by omega)]; exact f3 b j q, fin 1 rfl⟩
    · rintro ρ M3 X3 ⟨⟨l3, rfl⟩, f3, g3⟩
      have n3 : M3 250 ((1 : Nat) : Int) = ((n : Nat) : Int) := by rw [f3 _ _ (by omega), f1' _ _ (by omega)]; exact hn
      ((with_reducible refine i_turn (i_cI_lt (i_L3 (i_F (i_A0 ?_))))); (with_reducible refine i_fld (by assumption) ?_); (rw [n3]); (with_reducible refine i_f (by omega) ?_); (with_reducible refine i_up (i_Inc2 ?_)); rw [zx_inc (by omega)]; simp only [w_set0, w_set1, w_setn0, w_setn1])
      refine hX _ _ ⟨⟨_, rfl⟩, f3, g3.ext (fun p q _ _ => ?_)⟩
      by_cases e : p < a + 1 ∧ q < n
      · rw [if_pos e, if_pos (by omega)]
      · rw [if_neg e, if_neg (by omega)]
  · rintro ρ M2 X ⟨⟨l, rfl⟩, f2, g2⟩
    have n2 : M2 250 ((1 : Nat) : Int) = ((n : Nat) : Int) := by rw [f2 _ _ (by omega), f1' _ _ (by omega)]; exact hn
    ((with_reducible refine i_turn (i_cI_lt (i_L2 (i_F (i_A0 ?_))))); (with_reducible refine i_fld (by assumption) ?_); (rw [n2]); (with_reducible refine i_f (by omega) ?_); (with_reducible refine i_RetV ?_))
    exact hk M2 _ (fun b j q => by rw [f2 b j (by omega), f1' b j (by omega)]) g2 (fun p q hp hq => if_pos ⟨hp, hq⟩)
