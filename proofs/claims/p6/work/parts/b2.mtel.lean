section
-- part b2.mtel.lean.txt
/-! ===== a telling of the reference as one thing; its sorts; its length ===== -/
/-- counts over pairs of posts -/
def zop (g : Nat → Nat → Bool) (n a b : Nat) : Nat := zsum (fun p => zcnt (fun q => decide (p < q) && g p q) n) a + zcnt (fun q => decide (a < q) && g a q) b
def zp2 (g : Nat → Nat → Bool) (n : Nat) : Nat := zsum (fun p => zcnt (fun q => decide (p < q) && g p q) n) n
theorem zcnt_su (s : Nat → Bool) (k : Nat) : zcnt s (k + 1) = zcnt s k + (if s k = true then 1 else 0) := rfl
theorem zsum_su (f : Nat → Nat) (k : Nat) : zsum f (k + 1) = zsum f k + f k := rfl
theorem zcnt_z {s : Nat → Bool} {n : Nat} (h : ∀ i, i < n → s i = false) : zcnt s n = 0 := by
  induction n with
  | zero => rfl
  | succ n ih => rw [zcnt_su, ih (fun i hi => h i (by omega)), h n (by omega)]; rfl
theorem zop_row (g : Nat → Nat → Bool) (n a : Nat) : zop g n a 0 = zop g n a (a + 1) := by
  unfold zop
  rw [zcnt_z (n := a + 1) (fun i hi => by rw [decide_eq_false (by omega)]; rfl)]
  rfl
theorem zop_nx (g : Nat → Nat → Bool) (n a : Nat) : zop g n a n = zop g n (a + 1) 0 := rfl
theorem zop_su (g : Nat → Nat → Bool) {n a b : Nat} (h : a < b) : zop g n a (b + 1) = zop g n a b + (if g a b = true then 1 else 0) := by
  unfold zop
  rw [zcnt_su, decide_eq_true h, Bool.true_and]
  omega
theorem zop_end (g : Nat → Nat → Bool) (n : Nat) : zop g n n 0 = zp2 g n := rfl
theorem zop_le (g : Nat → Nat → Bool) {n a b : Nat} (hn : n ≤ 16) (ha : a ≤ 16) (hb : b ≤ 16) : zop g n a b ≤ 272 := by
  have h1 := zsum_le (f := fun p => zcnt (fun q => decide (p < q) && g p q) n) (c := 16) (fun p => by have := zcnt_le (fun q => decide (p < q) && g p q) n; omega) a
  have h2 := zcnt_le (fun q => decide (a < q) && g a q) b
  unfold zop
  omega
/-- the last of a sum's values is at most the number of pairs -/
theorem zp2_le (g : Nat → Nat → Bool) {n : Nat} (hn : n ≤ 16) : zp2 g n ≤ 120 := by
  have h : ∀ a, a ≤ n → 2 * zsum (fun p => zcnt (fun q => decide (p < q) && g p q) n) a ≤ a * (2 * n - a - 1) := by
    intro a
    induction a with
    | zero => intro _; exact Nat.le_of_eq (by simp [zsum])
    | succ a ih =>
      intro ha
      have h1 := ih (by omega)
      have h2 : zcnt (fun q => decide (a < q) && g a q) n ≤ n - a - 1 := by
        have : ∀ b, zcnt (fun q => decide (a < q) && g a q) b ≤ b - a - 1 := by
          intro b
          induction b with
          | zero => exact Nat.zero_le _
          | succ b ihb =>
            rw [zcnt_su]
            by_cases e : a < b
            · split <;> omega
            · rw [decide_eq_false e, Bool.false_and]; simp only [Bool.false_eq_true, if_false]; omega
        exact this n
      rw [zsum_su]
      have e1 : (a + 1) * (2 * n - (a + 1) - 1) = a * (2 * n - a - 1) - a + (2 * n - a - 2) := by
        rw [show 2 * n - (a + 1) - 1 = 2 * n - a - 2 by omega, Nat.add_mul, Nat.one_mul]
        congr 1
        rw [show 2 * n - a - 1 = (2 * n - a - 2) + 1 by omega, Nat.mul_add, Nat.mul_one]
        omega
      rw [e1]
      have e2 : a ≤ a * (2 * n - a - 1) := Nat.le_mul_of_pos_right _ (by omega)
      omega
  have h2 := h n (Nat.le_refl _)
  rw [show 2 * n - n - 1 = n - 1 by omega] at h2
  unfold zp2
  have h3 : n * (n - 1) ≤ 16 * 15 := Nat.mul_le_mul hn (by omega)
  omega
theorem zp2_ext {g h : Nat → Nat → Bool} {n : Nat} (e : ∀ p q, p < q → q < n → g p q = h p q) : zp2 g n = zp2 h n := by
  unfold zp2
  refine zsum_ext fun p _ => zcnt_ext fun q hq => ?_
  by_cases w : p < q
  · rw [e p q w hq]
  · rw [decide_eq_false w]; rfl
theorem zcnt_zsI (s : Nat → Bool) (n : Nat) : zsI (fun i => zbI (s i)) n = ((zcnt s n : Nat) : Int) := by
  induction n with
  | zero => rfl
  | succ n ih =>
    show zsI _ n + zbI (s n) = _
    rw [ih, zcnt_su]
    cases s n <;> simp [zbI]
theorem zsum_zsI (f : Nat → Nat) (n : Nat) : zsI (fun i => ((f i : Nat) : Int)) n = ((zsum f n : Nat) : Int) := by
  induction n with
  | zero => rfl
  | succ n ih =>
    show zsI _ n + ((f n : Nat) : Int) = _
    rw [ih, zsum_su]; omega
theorem zP2_zp2 (g : Nat → Nat → Bool) (n : Nat) : zP2 (fun p q => zbI (g p q)) n = ((zp2 g n : Nat) : Int) := by
  unfold zP2 zp2
  rw [← zsum_zsI]
  refine zsI_ext fun p _ => ?_
  rw [← zcnt_zsI]
  refine zsI_ext fun q _ => ?_
  by_cases e : p < q
  · rw [if_pos e, decide_eq_true e, Bool.true_and]
  · rw [if_neg e, decide_eq_false e]; rfl
/-- a telling: boxes, box of each post, crowds, sides, stars, chains, rows, excepts (0 none, 1 told, 2 left out) -/
abbrev zTl : Type := (Nat × (Nat → Nat)) × ((Nat → Bool) × (Nat → Nat → Bool) × (Nat → Nat → Bool) × (Nat → Bool)) × (Nat → Nat → Nat) × (Nat → Nat → Nat)
def tm (A : zTl) : Nat := A.1.1
def tf (A : zTl) : Nat → Nat := A.1.2
def tC (A : zTl) : Nat → Bool := A.2.1.1
def tD (A : zTl) : Nat → Nat → Bool := A.2.1.2.1
def tG (A : zTl) : Nat → Nat → Bool := A.2.1.2.2.1
def tH (A : zTl) : Nat → Bool := A.2.1.2.2.2
def tr (A : zTl) : Nat → Nat → Nat := A.2.2.1
def tv (A : zTl) : Nat → Nat → Nat := A.2.2.2
/-- what its words say -/
def tS (n : Nat) (A : zTl) : Nat → Nat → Bool := zSay n (tm A) (tf A) (tC A) (tD A) (tG A) (tH A) (tr A) (zSz (tf A) n)
/-- the t-th telling of the reference is A -/
def rTe (M : zMem) (t n : Nat) (A : zTl) : Prop := (M ((258 : Nat) : Int) ((t : Nat) : Int) = ((tm A : Nat) : Int) ∧ rBox M t n (tf A) ∧ rSiz M t (zSz (tf A) n)) ∧ (rFlg M 262 t (tC A) ∧ rMat M 264 t (tD A) ∧ rMat M 265 t (tG A) ∧ rFlg M 263 t (tH A)) ∧ rRow M t (tm A) (zSz (tf A) n) (tr A) ∧ rSta M t (tv A)
/-- what every telling keeps to -/
def zTw (n : Nat) (A : zTl) : Prop := (tm A ≤ 16 ∧ tm A = zcnt (zNew (tf A)) n ∧ ∀ q, q < n → tf A q < tm A ∧ zNum (tf A) q = tf A q) ∧ (∀ i k, i < tm A → k < zSz (tf A) n i → tr A i k < n ∧ tf A (tr A i k) = i ∧ ∀ l, l < zSz (tf A) n i → tr A i l = tr A i k → l = k) ∧
  ((∀ i, tC A i = true → i < tm A ∧ 2 ≤ zSz (tf A) n i) ∧ (∀ i j, tD A i j = true → i < j ∧ j < tm A) ∧ (∀ p i, tG A p i = true → p < n ∧ i < tm A ∧ ∃ q, q < n ∧ q ≠ p ∧ tf A q = i) ∧ (∀ i, tH A i = true → i < tm A ∧ 2 ≤ zSz (tf A) n i)) ∧ (∀ a b, tv A a b ≠ 0 → a < b ∧ b < n) ∧ ∀ a b, tv A a b ≤ 2
theorem rTe.to {M M' : zMem} {t n : Nat} {A : zTl} (h : rTe M t n A) (hn : n ≤ 16) (hw : zTw n A) (e : ∀ b j, (b = 258 ∧ j = ((t : Nat) : Int) ∨ (b = 259 ∨ b = 260 ∨ b = 262 ∨ b = 263) ∧ ((16 * t : Nat) : Int) ≤ j ∧ j < ((16 * t + 16 : Nat) : Int) ∨ (b = 261 ∨ b = 264 ∨ b = 265 ∨ b = 266) ∧ ((256 * t : Nat) : Int) ≤ j ∧ j < ((256 * t + 256 : Nat) : Int)) → M' b j = M b j) : rTe M' t n A := by
  obtain ⟨⟨h1, h2, h3⟩, ⟨h4, h5, h6, h7⟩, h8, h9⟩ := h
  refine ⟨⟨?_, fun q hq => ?_, fun b hb => ?_⟩, ⟨h4.to fun j _ _ => e _ _ (by omega), h5.to fun j _ _ => e _ _ (by omega), h6.to fun j _ _ => e _ _ (by omega), h7.to fun j _ _ => e _ _ (by omega)⟩, fun i k hi hk => ?_, fun a b ha hb => ?_⟩
  · rw [e _ _ (by omega)]; exact h1
  · rw [e _ _ (by omega)]; exact h2 q hq
  · rw [e _ _ (by omega)]; exact h3 b hb
  · have := hw.1.1
    have := zSz_le (tf A) n i
    rw [e _ _ (by omega)]; exact h8 i k hi hk
  · rw [e _ _ (by omega)]; exact h9 a b ha hb
theorem m_hearA {O : zOm} (hO : zWld O) (hS : zS O = zmS zC0) {t n : Nat} {A : zTl} {M : zMem} {K : Option zV → zMem → Prop} (ht : t < 7) (hn : M 250 ((1 : Nat) : Int) = ((n : Nat) : Int)) (hn2 : n ≤ 16) (hA : rTe M t n A) (hw : zTw n A) (hk : ∀ M', (∀ b j, ¬ b = ((268 : Nat) : Int) → M' b j = M b j) → rMx M' 268 (tS n A) → K none M') : zR O F_Model_hear [(2, 250), (0, ((t : Nat) : Int))] M K := by
  obtain ⟨⟨h1, h2, h3⟩, ⟨h4, h5, h6, h7⟩, h8, h9⟩ := hA
  obtain ⟨⟨w1, w2, w3⟩, w4, -⟩ := hw
  exact m_hear hO hS ht hn hn2 h1 w1 h2 (fun q hq => by have := (w3 q hq).1; omega) h4 h7 h5 h6 h3 (fun b _ => by have := zSz_le (tf A) n b; omega) (fun i k hi _ hk => h8 i k hi hk) (fun i k hi _ hk => by have := (w4 i k hi hk).1; omega) hk
/-- the number of a sort -/
def zso (f : Nat → Nat) (a b : Nat) (s : Bool) : Nat := (if s = true then 256 else 0) + (if f a < f b then 16 * f a + f b else 16 * f b + f a)
theorem zso_lt {f : Nat → Nat} {a b : Nat} {s : Bool} (ha : f a < 16) (hb : f b < 16) : zso f a b s < 512 := by unfold zso; split <;> split <;> omega
theorem m_sortOf {O : zOm} (hO : zWld O) (hS : zS O = zmS zC0) {t n a b : Nat} {f : Nat → Nat} {s : Bool} {M : zMem} {K : Option zV → zMem → Prop} (ht : t < 7) (hn : n ≤ 16) (hb : rBox M t n f) (hf : ∀ q : Nat, q < n → f q < 16) (ha : a < n) (hb2 : b < n) (hk : K (some (0, ((zso f a b s : Nat) : Int))) M) : zR O F_Model_sortOf [(2, 250), (0, ((t : Nat) : Int)), (0, ((a : Nat) : Int)), (0, ((b : Nat) : Int)), (0, zbI s)] M K := by
  have h1 := hb a ha
  have h2 := hb b hb2
  have l1 := hf a ha
  have l2 := hf b hb2
  unfold zso at hk
  apply r_Model_sortOf hO
  unfold B_Model_sortOf
  have f13 := zMF (k := 13) hS rfl; have a259 := zMA (a := 259) (ty := .int) (n := 112) hS rfl; have zo := zMO hS
  by_cases e : f a < f b
  · rw [if_pos e] at hk
    cases s
    · ((with_reducible refine i_Seq (i_Set (i_IA (i_FR (i_A0 ?_))))); (with_reducible refine i_fldR (by assumption) ?_); (with_reducible refine i_Add (i_Mul (i_I (i_L1 (i_L2 ?_))))); rw [zbI_f]; rw [zx_cmul (by omega)]; rw [zx_add (by omega)]; (with_reducible refine i_in (by assumption) (by omega) (by omega) ?_); (with_reducible refine i_Seq (i_Set (i_IA (i_FR ?_)))); (rw [h1]); simp only [w_set0, w_set1, w_setn0, w_setn1]; (with_reducible refine i_A0 ?_); (with_reducible refine i_fldR (by assumption) ?_); (with_reducible refine i_Add (i_Mul (i_I (i_L1 (i_L3 ?_))))); rw [zx_cmul (by omega)]; rw [zx_add (by omega)]; (with_reducible refine i_in (by assumption) (by omega) (by omega) ?_); (with_reducible refine i_RetI (i_Add (i_eIf (i_cZ_ne ?_)))); (rw [h2]); simp only [w_set0, w_set1, w_setn0, w_setn1]; (with_reducible refine i_L4 ?_); (with_reducible refine i_f (by omega) ?_); (with_reducible refine i_I (i_eIf (i_cI_lt (i_L5 (i_L6 ?_))))); (with_reducible refine i_t (by omega) ?_); (with_reducible refine i_Add (i_Mul (i_I (i_L5 (i_L6 ?_))))); rw [zx_cmul (by omega)]; rw [zx_add (by omega)]; rw [zx_cadd (by omega)])
      simpa using hk
    · ((with_reducible refine i_Seq (i_Set (i_IA (i_FR (i_A0 ?_))))); (with_reducible refine i_fldR (by assumption) ?_); (with_reducible refine i_Add (i_Mul (i_I (i_L1 (i_L2 ?_))))); rw [zbI_t]; rw [zx_cmul (by omega)]; rw [zx_add (by omega)]; (with_reducible refine i_in (by assumption) (by omega) (by omega) ?_); (with_reducible refine i_Seq (i_Set (i_IA (i_FR ?_)))); (rw [h1]); simp only [w_set0, w_set1, w_setn0, w_setn1]; (with_reducible refine i_A0 ?_); (with_reducible refine i_fldR (by assumption) ?_); (with_reducible refine i_Add (i_Mul (i_I (i_L1 (i_L3 ?_))))); rw [zx_cmul (by omega)]; rw [zx_add (by omega)]; (with_reducible refine i_in (by assumption) (by omega) (by omega) ?_); (with_reducible refine i_RetI (i_Add (i_eIf (i_cZ_ne ?_)))); (rw [h2]); simp only [w_set0, w_set1, w_setn0, w_setn1]; (with_reducible refine i_L4 ?_); (with_reducible refine i_t (by omega) ?_); (with_reducible refine i_I (i_eIf (i_cI_lt (i_L5 (i_L6 ?_))))); (with_reducible refine i_t (by omega) ?_); (with_reducible refine i_Add (i_Mul (i_I (i_L5 (i_L6 ?_))))); rw [zx_cmul (by omega)]; rw [zx_add (by omega)]; rw [zx_cadd (by omega)])
      simpa using hk
  · rw [if_neg e] at hk
    cases s
    · ((with_reducible refine i_Seq (i_Set (i_IA (i_FR (i_A0 ?_))))); (with_reducible refine i_fldR (by assumption) ?_); (with_reducible refine i_Add (i_Mul (i_I (i_L1 (i_L2 ?_))))); rw [zbI_f]; rw [zx_cmul (by omega)]; rw [zx_add (by omega)]; (with_reducible refine i_in (by assumption) (by omega) (by omega) ?_); (with_reducible refine i_Seq (i_Set (i_IA (i_FR ?_)))); (rw [h1]); simp only [w_set0, w_set1, w_setn0, w_setn1]; (with_reducible refine i_A0 ?_); (with_reducible refine i_fldR (by assumption) ?_); (with_reducible refine i_Add (i_Mul (i_I (i_L1 (i_L3 ?_))))); rw [zx_cmul (by omega)]; rw [zx_add (by omega)]; (with_reducible refine i_in (by assumption) (by omega) (by omega) ?_); (with_reducible refine i_RetI (i_Add (i_eIf (i_cZ_ne ?_)))); (rw [h2]); simp only [w_set0, w_set1, w_setn0, w_setn1]; (with_reducible refine i_L4 ?_); (with_reducible refine i_f (by omega) ?_); (with_reducible refine i_I (i_eIf (i_cI_lt (i_L5 (i_L6 ?_))))); (with_reducible refine i_f (by omega) ?_); (with_reducible refine i_Add (i_Mul (i_I (i_L6 (i_L5 ?_))))); rw [zx_cmul (by omega)]; rw [zx_add (by omega)]; rw [zx_cadd (by omega)])
      simpa using hk
    · ((with_reducible refine i_Seq (i_Set (i_IA (i_FR (i_A0 ?_))))); (with_reducible refine i_fldR (by assumption) ?_); (with_reducible refine i_Add (i_Mul (i_I (i_L1 (i_L2 ?_))))); rw [zbI_t]; rw [zx_cmul (by omega)]; rw [zx_add (by omega)]; (with_reducible refine i_in (by assumption) (by omega) (by omega) ?_); (with_reducible refine i_Seq (i_Set (i_IA (i_FR ?_)))); (rw [h1]); simp only [w_set0, w_set1, w_setn0, w_setn1]; (with_reducible refine i_A0 ?_); (with_reducible refine i_fldR (by assumption) ?_); (with_reducible refine i_Add (i_Mul (i_I (i_L1 (i_L3 ?_))))); rw [zx_cmul (by omega)]; rw [zx_add (by omega)]; (with_reducible refine i_in (by assumption) (by omega) (by omega) ?_); (with_reducible refine i_RetI (i_Add (i_eIf (i_cZ_ne ?_)))); (rw [h2]); simp only [w_set0, w_set1, w_setn0, w_setn1]; (with_reducible refine i_L4 ?_); (with_reducible refine i_t (by omega) ?_); (with_reducible refine i_I (i_eIf (i_cI_lt (i_L5 (i_L6 ?_))))); (with_reducible refine i_f (by omega) ?_); (with_reducible refine i_Add (i_Mul (i_I (i_L6 (i_L5 ?_))))); rw [zx_cmul (by omega)]; rw [zx_add (by omega)]; rw [zx_cadd (by omega)])
      simpa using hk
end
section
-- part b3.mlen.lean.txt
/-! ===== sorts and length: the reference ===== -/
def tgR (n : Nat) (A : zTl) (k p q : Nat) : Bool := decide (zso (tf A) p q (tS n A p q) = k ∧ tv A p q ≠ 1)
def tgC (n : Nat) (A : zTl) (k p q : Nat) : Bool := decide (zso (tf A) p q (tS n A p q) = k ∧ tv A p q = 2)
/-- R and C of a sort -/
def tR (n : Nat) (A : zTl) (k : Nat) : Nat := zp2 (tgR n A k) n
def tQ (n : Nat) (A : zTl) (k : Nat) : Nat := zp2 (tgC n A k) n
theorem zTw.f16 {n : Nat} {A : zTl} (hw : zTw n A) : ∀ q : Nat, q < n → tf A q < 16 := fun q hq => by
  have := (hw.1.2.2 q hq).1
  have := hw.1.1
  omega
theorem m_sorts {O : zOm} (hO : zWld O) (hS : zS O = zmS zC0) {t n : Nat} {A : zTl} {M : zMem} {K : Option zV → zMem → Prop} (ht : t < 7) (hn : M 250 ((1 : Nat) : Int) = ((n : Nat) : Int)) (hn2 : n ≤ 16) (hA : rTe M t n A) (hw : zTw n A) (hk : ∀ M', (∀ b j, ¬ (b = 268 ∨ b = 269 ∨ b = 270) → M' b j = M b j) → rMx M' 268 (tS n A) → (∀ k : Nat, k < 512 → M' ((269 : Nat) : Int) ((k : Nat) : Int) = ((tR n A k : Nat) : Int) ∧ M' ((270 : Nat) : Int) ((k : Nat) : Int) = ((tQ n A k : Nat) : Int)) → K none M') : zR O F_Model_sorts [(2, 250), (0, ((t : Nat) : Int))] M K := by
  have hA0 := hA
  obtain ⟨⟨h1, h2, h3⟩, ⟨h4, h5, h6, h7⟩, h8, h9⟩ := hA
  apply r_Model_sorts hO
  unfold B_Model_sorts
  have f23 := zMF (k := 23) hS rfl; have a269 := zMA (a := 269) (ty := .int) (n := 512) hS rfl; have f24 := zMF (k := 24) hS rfl; have a270 := zMA (a := 270) (ty := .int) (n := 512) hS rfl; have f1 := zMF (k := 1) hS rfl; have f22 := zMF (k := 22) hS rfl; have a268 := zMA (a := 268) (ty := .boolean) (n := 256) hS rfl; have f20 := zMF (k := 20) hS rfl; have a266 := zMA (a := 266) (ty := .int) (n := 1792) hS rfl; have zo := zMO hS
  ((with_reducible refine i_Seq (i_Seq (i_sCall (i_as1 (i_A0 (i_as1 (i_L1 (i_as0 ?_)))))))); (with_reducible refine i_recv0 (by assumption) ?_))
  refine m_hearA hO hS ht hn hn2 hA0 hw (fun M1 hf1 hS1 => ⟨rfl, ?_⟩)
  ((with_reducible refine i_Seq (i_Blk (i_Seq (i_Set (i_I ?_))))); simp only [w_set0, w_set1, w_setn0, w_setn1])
  refine w_ForN 512 (fun k ρ M' => ρ = [250, ((t : Nat) : Int), ((k : Nat) : Int)] ∧ (∀ b j, ¬ (b = 268 ∨ b = 269 ∨ b = 270) → M' b j = M b j) ∧ rMx M' 268 (tS n A) ∧ ∀ j : Nat, j < k → M' ((269 : Nat) : Int) ((j : Nat) : Int) = 0 ∧ M' ((270 : Nat) : Int) ((j : Nat) : Int) = 0) ⟨rfl, fun b j q => hf1 b j (by omega), hS1, fun j hj => absurd hj (by omega)⟩ ?_ ?_
  · rintro k ρ M9 X hk1 ⟨rfl, hf, hS9, h⟩ hX
    ((with_reducible refine i_turn (i_cI_lt (i_L2 (i_I ?_)))); (with_reducible refine i_t (by omega) ?_); (with_reducible refine i_Seq (i_sIA (i_FR (i_A0 ?_)))); (with_reducible refine i_fldR (by assumption) ?_); (with_reducible refine i_L2 (i_I ?_)); (with_reducible refine i_in (by assumption) (by omega) (by omega) ?_); (with_reducible refine i_sIA (i_FR (i_A0 ?_))); (with_reducible refine i_fldR (by assumption) ?_); (with_reducible refine i_L2 (i_I ?_)); (with_reducible refine i_in (by assumption) (by omega) (by omega) ?_); (with_reducible refine i_up (i_Inc2 ?_)); rw [zx_inc (by omega)]; simp only [w_set0, w_set1, w_setn0, w_setn1])
    refine hX _ _ ⟨rfl, (by intro b j q; ((rw [zg_n _ _ _ (by omega)]; rw [zg_n _ _ _ (by omega)])); first | done | rfl | exact hf b j (by omega)), hS9.to (fun j => by rw [zg_n _ _ _ (by omega), zg_n _ _ _ (by omega)]), fun j hj => ?_⟩
    by_cases e : j = k
    · subst e
      exact ⟨by (rw [zg_n _ _ _ (by omega)]; rw [zg_s]), by (rw [zg_s])⟩
    · obtain ⟨e1, e2⟩ := h j (by omega)
      refine ⟨?_, ?_⟩
      · (rw [zg_n _ _ _ (by omega)]; rw [zg_m _ _ _ _ _ (by omega)])
        exact e1
      · (rw [zg_m _ _ _ _ _ (by omega)]; rw [zg_n _ _ _ (by omega)])
        exact e2
  rintro ρ M2 X ⟨rfl, hf2, hS2, hz2⟩
  ((with_reducible refine i_turn (i_cI_lt (i_L2 (i_I ?_)))); (with_reducible refine i_f (by omega) ?_); (with_reducible refine i_Blk (i_Seq (i_Set (i_I ?_)))); simp only [w_set0, w_set1, w_setn0, w_setn1])
  refine w_Pairs (n := n) (fun _ _ => [250, ((t : Nat) : Int)]) (fun a b M' => (∀ b j, ¬ (b = 268 ∨ b = 269 ∨ b = 270) → M' b j = M b j) ∧ rMx M' 268 (tS n A) ∧ ∀ k : Nat, k < 512 → M' ((269 : Nat) : Int) ((k : Nat) : Int) = ((zop (tgR n A k) n a b : Nat) : Int) ∧ M' ((270 : Nat) : Int) ((k : Nat) : Int) = ((zop (tgC n A k) n a b : Nat) : Int)) (fun _ _ => ⟨[((t : Nat) : Int)], rfl, rfl⟩) f1 (fun a b M' h => (h.1 _ _ (by omega)).trans hn) hn2 ⟨_, rfl⟩ ⟨hf2, hS2, fun k hk1 => ⟨(hz2 k hk1).1, (hz2 k hk1).2⟩⟩ (fun a M' _ h => ⟨⟨h.1, h.2.1, fun k hk1 => by rw [← zop_row, ← zop_row]; exact h.2.2 k hk1⟩, rfl⟩) (fun a M' _ h => ⟨⟨h.1, h.2.1, fun k hk1 => h.2.2 k hk1⟩, rfl⟩) ?_ ?_
  · rintro a b l M3 Y Z hab hbn ⟨hf, hS3, h⟩ hY
    simp only [List.cons_append, List.nil_append] at hY ⊢
    have gS : M3 ((268 : Nat) : Int) ((16 * a + b : Nat) : Int) = zbI (tS n A a b) := hS3 a b (by omega) (by omega)
    have gv : M3 ((266 : Nat) : Int) ((256 * t + 16 * a + b : Nat) : Int) = ((tv A a b : Nat) : Int) := (hf _ _ (by omega)).trans (h9 a b (by omega) (by omega))
    have gb : rBox M3 t n (tf A) := fun q hq => by rw [hf _ _ (by omega)]; exact h2 q hq
    have hlt := zso_lt (s := tS n A a b) (hw.f16 a (by omega)) (hw.f16 b hbn)
    have hR : ∀ k, zop (tgR n A k) n a (b + 1) = zop (tgR n A k) n a b + (if zso (tf A) a b (tS n A a b) = k ∧ tv A a b ≠ 1 then 1 else 0) := fun k => by rw [zop_su _ hab]; unfold tgR; simp only [decide_eq_true_eq]
    have hC : ∀ k, zop (tgC n A k) n a (b + 1) = zop (tgC n A k) n a b + (if zso (tf A) a b (tS n A a b) = k ∧ tv A a b = 2 then 1 else 0) := fun k => by rw [zop_su _ hab]; unfold tgC; simp only [decide_eq_true_eq]
    generalize hke : zso (tf A) a b (tS n A a b) = k0 at hlt hR hC
    obtain ⟨q1, q2⟩ := h k0 hlt
    have b1 := zop_le (tgR n A k0) hn2 (a := a) (b := b) (by omega) (by omega)
    have b2 := zop_le (tgC n A k0) hn2 (a := a) (b := b) (by omega) (by omega)
    have hv := hw.2.2.2.2 a b
    rcases (show tv A a b = 0 ∨ tv A a b = 1 ∨ tv A a b = 2 by omega) with e | e | e <;> rw [e] at gv hR hC
    · ((with_reducible refine i_Blk (i_Seq (i_Set (i_Call (i_as1 (i_A0 (i_as1 (i_L1 (i_as1 (i_L2 (i_as1 (i_L3 (i_as1 (i_ZA (i_FR (i_A0 ?_)))))))))))))))); (with_reducible refine i_fldR (by assumption) ?_); (with_reducible refine i_Add (i_Mul (i_I (i_L2 (i_L3 ?_))))); rw [zx_cmul (by omega)]; rw [zx_add (by omega)]; (with_reducible refine i_in (by assumption) (by omega) (by omega) ?_); (with_reducible refine i_as0 ?_); (with_reducible refine i_recv0 (by assumption) ?_); (rw [gS]); (refine m_sortOf hO hS ht hn2 gb hw.f16 (by omega) hbn ⟨_, rfl, ?_⟩); (with_reducible refine i_Seq (i_If (i_cI_ne (i_IA (i_FR ?_))))); (rw [hke]); simp only [w_set0, w_set1, w_setn0, w_setn1]; (with_reducible refine i_A0 ?_); (with_reducible refine i_fldR (by assumption) ?_); (with_reducible refine i_Add (i_Add (i_Mul (i_I (i_L1 (i_Mul (i_I (i_L2 (i_L3 ?_))))))))); rw [zx_cmul (by omega)]; rw [zx_cmul (by omega)]; rw [zx_add (by omega)]; rw [zx_add (by omega)]; (with_reducible refine i_in (by assumption) (by omega) (by omega) ?_); (with_reducible refine i_I ?_); (rw [gv]); rw [w_setT]; (with_reducible refine i_t (by omega) ?_); (with_reducible refine i_IO (i_FR (i_A0 ?_))); (with_reducible refine i_fldR (by assumption) ?_); (with_reducible refine i_L4 ?_); (with_reducible refine i_in (by assumption) (by omega) (by omega) ?_); (with_reducible refine i_I (i_If (i_cI_eq (i_IA (i_FR (i_A0 ?_)))))); (with_reducible refine i_fldR (by assumption) ?_); (with_reducible refine i_Add (i_Add (i_Mul (i_I (i_L1 (i_Mul (i_I (i_L2 (i_L3 ?_))))))))); rw [zg_n _ _ _ (by omega)]; (rw [q1]); rw [zx_inc (by omega)]; rw [zx_cmul (by omega)]; rw [zx_cmul (by omega)]; rw [zx_add (by omega)]; rw [zx_add (by omega)]; (with_reducible refine i_in (by assumption) (by omega) (by omega) ?_); (with_reducible refine i_I ?_); (rw [gv]); (with_reducible refine i_f (by omega) ?_))
      refine hY _ _ ⟨(by intro b j q; ((rw [zg_n _ _ _ (by omega)])); first | done | rfl | exact hf b j (by omega)), hS3.to (fun j => by rw [zg_n _ _ _ (by omega)]), fun k hk1 => ?_⟩
      rw [hR, hC]
      by_cases w : k0 = k
      · subst w
        exact ⟨by rw [zg_s]; simp, by rw [zg_n _ _ _ (by omega), q2]; simp⟩
      · exact ⟨by rw [zg_m _ _ _ _ _ (by omega), (h k hk1).1]; simp [w], by rw [zg_n _ _ _ (by omega), (h k hk1).2]; simp⟩
    · ((with_reducible refine i_Blk (i_Seq (i_Set (i_Call (i_as1 (i_A0 (i_as1 (i_L1 (i_as1 (i_L2 (i_as1 (i_L3 (i_as1 (i_ZA (i_FR (i_A0 ?_)))))))))))))))); (with_reducible refine i_fldR (by assumption) ?_); (with_reducible refine i_Add (i_Mul (i_I (i_L2 (i_L3 ?_))))); rw [zx_cmul (by omega)]; rw [zx_add (by omega)]; (with_reducible refine i_in (by assumption) (by omega) (by omega) ?_); (with_reducible refine i_as0 ?_); (with_reducible refine i_recv0 (by assumption) ?_); (rw [gS]); (refine m_sortOf hO hS ht hn2 gb hw.f16 (by omega) hbn ⟨_, rfl, ?_⟩); (with_reducible refine i_Seq (i_If (i_cI_ne (i_IA (i_FR ?_))))); (rw [hke]); simp only [w_set0, w_set1, w_setn0, w_setn1]; (with_reducible refine i_A0 ?_); (with_reducible refine i_fldR (by assumption) ?_); (with_reducible refine i_Add (i_Add (i_Mul (i_I (i_L1 (i_Mul (i_I (i_L2 (i_L3 ?_))))))))); rw [zx_cmul (by omega)]; rw [zx_cmul (by omega)]; rw [zx_add (by omega)]; rw [zx_add (by omega)]; (with_reducible refine i_in (by assumption) (by omega) (by omega) ?_); (with_reducible refine i_I ?_); (rw [gv]); rw [w_setT]; (with_reducible refine i_f (by omega) ?_); (with_reducible refine i_If (i_cI_eq (i_IA (i_FR (i_A0 ?_))))); (with_reducible refine i_fldR (by assumption) ?_); (with_reducible refine i_Add (i_Add (i_Mul (i_I (i_L1 (i_Mul (i_I (i_L2 (i_L3 ?_))))))))); rw [zx_cmul (by omega)]; rw [zx_cmul (by omega)]; rw [zx_add (by omega)]; rw [zx_add (by omega)]; (with_reducible refine i_in (by assumption) (by omega) (by omega) ?_); (with_reducible refine i_I ?_); (rw [gv]); (with_reducible refine i_f (by omega) ?_))
      refine hY _ _ ⟨hf, hS3, fun k hk1 => ?_⟩
      rw [hR, hC]
      simpa using h k hk1
    · ((with_reducible refine i_Blk (i_Seq (i_Set (i_Call (i_as1 (i_A0 (i_as1 (i_L1 (i_as1 (i_L2 (i_as1 (i_L3 (i_as1 (i_ZA (i_FR (i_A0 ?_)))))))))))))))); (with_reducible refine i_fldR (by assumption) ?_); (with_reducible refine i_Add (i_Mul (i_I (i_L2 (i_L3 ?_))))); rw [zx_cmul (by omega)]; rw [zx_add (by omega)]; (with_reducible refine i_in (by assumption) (by omega) (by omega) ?_); (with_reducible refine i_as0 ?_); (with_reducible refine i_recv0 (by assumption) ?_); (rw [gS]); (refine m_sortOf hO hS ht hn2 gb hw.f16 (by omega) hbn ⟨_, rfl, ?_⟩); (with_reducible refine i_Seq (i_If (i_cI_ne (i_IA (i_FR ?_))))); (rw [hke]); simp only [w_set0, w_set1, w_setn0, w_setn1]; (with_reducible refine i_A0 ?_); (with_reducible refine i_fldR (by assumption) ?_); (with_reducible refine i_Add (i_Add (i_Mul (i_I (i_L1 (i_Mul (i_I (i_L2 (i_L3 ?_))))))))); rw [zx_cmul (by omega)]; rw [zx_cmul (by omega)]; rw [zx_add (by omega)]; rw [zx_add (by omega)]; (with_reducible refine i_in (by assumption) (by omega) (by omega) ?_); (with_reducible refine i_I ?_); (rw [gv]); rw [w_setT]; (with_reducible refine i_t (by omega) ?_); (with_reducible refine i_IO (i_FR (i_A0 ?_))); (with_reducible refine i_fldR (by assumption) ?_); (with_reducible refine i_L4 ?_); (with_reducible refine i_in (by assumption) (by omega) (by omega) ?_); (with_reducible refine i_I (i_If (i_cI_eq (i_IA (i_FR (i_A0 ?_)))))); (with_reducible refine i_fldR (by assumption) ?_); (with_reducible refine i_Add (i_Add (i_Mul (i_I (i_L1 (i_Mul (i_I (i_L2 (i_L3 ?_))))))))); rw [zg_n _ _ _ (by omega)]; (rw [q1]); rw [zx_inc (by omega)]; rw [zx_cmul (by omega)]; rw [zx_cmul (by omega)]; rw [zx_add (by omega)]; rw [zx_add (by omega)]; (with_reducible refine i_in (by assumption) (by omega) (by omega) ?_); (with_reducible refine i_I ?_); (rw [gv]); (with_reducible refine i_t (by omega) ?_); (with_reducible refine i_IO (i_FR (i_A0 ?_))); (with_reducible refine i_fldR (by assumption) ?_); (with_reducible refine i_L4 ?_); (with_reducible refine i_in (by assumption) (by omega) (by omega) ?_); (with_reducible refine i_I ?_); rw [zg_n _ _ _ (by omega)]; (rw [q2]); rw [zx_inc (by omega)])
      refine hY _ _ ⟨(by intro b j q; ((rw [zg_n _ _ _ (by omega)]; rw [zg_n _ _ _ (by omega)])); first | done | rfl | exact hf b j (by omega)), hS3.to (fun j => by rw [zg_n _ _ _ (by omega), zg_n _ _ _ (by omega)]), fun k hk1 => ?_⟩
      rw [hR, hC]
      by_cases w : k0 = k
      · subst w
        exact ⟨by rw [zg_n _ _ _ (by omega), zg_s]; simp, by rw [zg_s]; simp⟩
      · exact ⟨by rw [zg_n _ _ _ (by omega), zg_m _ _ _ _ _ (by omega), (h k hk1).1]; simp [w], by rw [zg_m _ _ _ _ _ (by omega), zg_n _ _ _ (by omega), (h k hk1).2]; simp [w]⟩
  · rintro l M3 ⟨hf, hS3, h⟩
    simp only [List.cons_append, List.nil_append]
    (with_reducible refine i_RetV ?_)
    exact hk _ hf hS3 (fun k hk1 => h k hk1)
/-- the bits of a box's words, as the reference adds them -/
def tlw (n : Nat) (A : zTl) (i : Nat) : Nat := (((if tC A i = true then 3 + zBits (tm A) else 0) + (if tH A i = true then 3 + zBits (tm A) else 0)) + zsum (fun j => if i < j ∧ tD A i j = true then 3 + 2 * zBits (tm A) else 0) (tm A)) + zsum (fun p => if tG A p i = true then 3 + zBits n + zBits (tm A) else 0) n
def tlX (n t : Nat) (A : zTl) : Nat → Nat := fun k => if tv A (k / 16) (k % 16) = 1 then 2 + 2 * zBits n else 0
def tlS (n : Nat) (A : zTl) (k : Nat) : Nat := if 0 < tQ n A k then 4 + 2 * zBits (tm A) + zBits (tR n A k + 1) else 0
def tLen (n : Nat) (A : zTl) : Nat := n * zBits n + 4 * tm A + zsum (tlw n A) (tm A) + zsum (tlX n 0 A) 256 + zsum (tlS n A) 512
theorem tR_le (n : Nat) (A : zTl) (k : Nat) (hn : n ≤ 16) : tR n A k ≤ 120 := zp2_le _ hn
theorem zite_le {P : Prop} [Decidable P] {a c : Nat} (h : a ≤ c) : (if P then a else 0) ≤ c := by split <;> omega
theorem zsum_z {f : Nat → Nat} {n : Nat} (h : ∀ i, i < n → f i = 0) : zsum f n = 0 := by
  induction n with
  | zero => rfl
  | succ n ih => rw [zsum_su, ih (fun i hi => h i (by omega)), h n (by omega)]
theorem tlw_le {n : Nat} {A : zTl} (hn : n ≤ 16) (hm : tm A ≤ 16) (i : Nat) : tlw n A i ≤ 400 := by
  have h1 := zBits_4 hn
  have h2 := zBits_4 hm
  have h3 := zsum_le (f := fun j => if i < j ∧ tD A i j = true then 3 + 2 * zBits (tm A) else 0) (c := 11) (fun j => zite_le (by omega)) (tm A)
  have h4 := zsum_le (f := fun p => if tG A p i = true then 3 + zBits n + zBits (tm A) else 0) (c := 11) (fun j => zite_le (by omega)) n
  have h5 : (if tC A i = true then 3 + zBits (tm A) else 0) ≤ 7 := by split <;> omega
  have h6 : (if tH A i = true then 3 + zBits (tm A) else 0) ≤ 7 := by split <;> omega
  unfold tlw
  omega
set_option maxHeartbeats 4000000 in
theorem m_lengthOf {O : zOm} (hO : zWld O) (hS : zS O = zmS zC0) {t n : Nat} {A : zTl} {M : zMem} {K : Option zV → zMem → Prop} (ht : t < 7) (hn : M 250 ((1 : Nat) : Int) = ((n : Nat) : Int)) (hn2 : n ≤ 16) (hA : rTe M t n A) (hw : zTw n A) (hk : ∀ M', (∀ b j, ¬ (b = 268 ∨ b = 269 ∨ b = 270) → M' b j = M b j) → rMx M' 268 (tS n A) → (∀ k : Nat, k < 512 → M' ((269 : Nat) : Int) ((k : Nat) : Int) = ((tR n A k : Nat) : Int) ∧ M' ((270 : Nat) : Int) ((k : Nat) : Int) = ((tQ n A k : Nat) : Int)) → K (some (0, ((tLen n A : Nat) : Int))) M') : zR O F_Model_lengthOf [(2, 250), (0, ((t : Nat) : Int))] M K := by
  have hm16 := hw.1.1
  have hbn := zBits_4 hn2
  have hbm := zBits_4 hm16
  have hle := tlw_le (A := A) hn2 hm16
  have hnb : n * zBits n ≤ 64 := Nat.mul_le_mul hn2 hbn
  apply r_Model_lengthOf hO
  unfold B_Model_lengthOf
  have f1 := zMF (k := 1) hS rfl; have f12 := zMF (k := 12) hS rfl; have a258 := zMA (a := 258) (ty := .int) (n := 7) hS rfl; have f16 := zMF (k := 16) hS rfl; have a262 := zMA (a := 262) (ty := .boolean) (n := 112) hS rfl; have f17 := zMF (k := 17) hS rfl; have a263 := zMA (a := 263) (ty := .boolean) (n := 112) hS rfl; have f18 := zMF (k := 18) hS rfl; have a264 := zMA (a := 264) (ty := .boolean) (n := 1792) hS rfl; have f19 := zMF (k := 19) hS rfl; have a265 := zMA (a := 265) (ty := .boolean) (n := 1792) hS rfl; have f20 := zMF (k := 20) hS rfl; have a266 := zMA (a := 266) (ty := .int) (n := 1792) hS rfl; have f24 := zMF (k := 24) hS rfl; have a270 := zMA (a := 270) (ty := .int) (n := 512) hS rfl; have f23 := zMF (k := 23) hS rfl; have a269 := zMA (a := 269) (ty := .int) (n := 512) hS rfl; have zo := zMO hS
  ((with_reducible refine i_Seq (i_sCall (i_as1 (i_A0 (i_as1 (i_L1 (i_as0 ?_))))))); (with_reducible refine i_recv0 (by assumption) ?_))
  refine m_sorts hO hS ht hn hn2 hA hw (fun M1 hf1 hS1 hs1 => ⟨rfl, ?_⟩)
  have hk2 := hk M1 hf1 hS1 hs1
  clear hk
  have n1 : M1 250 ((1 : Nat) : Int) = ((n : Nat) : Int) := (hf1 _ _ (by omega)).trans hn
  obtain ⟨⟨m1, b1, z1⟩, ⟨C1, D1, G1, H1⟩, -, v1⟩ := hA.to hn2 hw (fun b j q => hf1 b j (by omega))
  ((with_reducible refine i_Seq (i_Set (i_Call (i_as1 (i_F (i_A0 ?_)))))); (with_reducible refine i_fld (by assumption) ?_); (with_reducible refine i_as0 (i_recv1 ?_)); (rw [n1]); (refine m_bitsOf hO hS (by omega) ⟨_, rfl, ?_⟩); (with_reducible refine i_Seq (i_Set (i_Call (i_as1 (i_IA (i_FR ?_)))))); simp only [w_set0, w_set1, w_setn0, w_setn1]; (with_reducible refine i_A0 ?_); (with_reducible refine i_fldR (by assumption) ?_); (with_reducible refine i_L1 ?_); (with_reducible refine i_in (by assumption) (by omega) (by omega) ?_); (with_reducible refine i_as0 (i_recv1 ?_)); (rw [m1]); (refine m_bitsOf hO hS (by omega) ⟨_, rfl, ?_⟩); (with_reducible refine i_Seq (i_Set (i_Add (i_Mul (i_F ?_))))); simp only [w_set0, w_set1, w_setn0, w_setn1]; (with_reducible refine i_A0 ?_); (with_reducible refine i_fld (by assumption) ?_); (with_reducible refine i_L2 (i_Mul (i_I (i_IA (i_FR (i_A0 ?_)))))); (with_reducible refine i_fldR (by assumption) ?_); (with_reducible refine i_L1 ?_); (with_reducible refine i_in (by assumption) (by omega) (by omega) ?_); (with_reducible refine i_Seq (i_Blk (i_Seq (i_Set (i_I ?_))))); (rw [n1]); (rw [m1]); (rw [zx_mul (by omega)]); rw [zx_cmul (by omega)]; rw [zx_add (by omega)]; simp only [w_set0, w_set1, w_setn0, w_setn1])
  refine w_ForN (tm A) (fun i ρ M' => (∃ l, ρ = 250 :: ((t : Nat) : Int) :: ((zBits n : Nat) : Int) :: ((zBits (tm A) : Nat) : Int) :: ((n * zBits n + 4 * tm A + zsum (tlw n A) i : Nat) : Int) :: ((i : Nat) : Int) :: l) ∧ M' = M1) ⟨⟨_, rfl⟩, rfl⟩ ?_ ?_
  · rintro i ρ M2 X hi ⟨⟨l, rfl⟩, rfl⟩ hX
    have hX2 : ∀ (l : zLoc) (x : Nat), x = n * zBits n + 4 * tm A + zsum (tlw n A) i + tlw n A i → X (250 :: ((t : Nat) : Int) :: ((zBits n : Nat) : Int) :: ((zBits (tm A) : Nat) : Int) :: ((x : Nat) : Int) :: ((i + 1 : Nat) : Int) :: l) M2 := fun l x e => by subst e; exact hX _ _ ⟨⟨l, by rw [zsum_su, ← Nat.add_assoc]⟩, rfl⟩
    have hac := zsum_le hle i
    have hacb : n * zBits n + 4 * tm A + zsum (tlw n A) i ≤ 10000 := by omega
    generalize n * zBits n + 4 * tm A + zsum (tlw n A) i = acc at hX2 hacb ⊢
    have gC := C1 i (by omega)
    have gH := H1 i (by omega)
    unfold tlw at hX2
    ((with_reducible refine i_turn (i_cI_lt (i_L5 (i_IA (i_FR (i_A0 ?_)))))); (with_reducible refine i_fldR (by assumption) ?_); (with_reducible refine i_L1 ?_); (with_reducible refine i_in (by assumption) (by omega) (by omega) ?_); (rw [m1]); (with_reducible refine i_t (by omega) ?_))
    refine i_Seq (w_cut (zR.mon' O) (fun ρ' M' => ρ' = 250 :: ((t : Nat) : Int) :: ((zBits n : Nat) : Int) :: ((zBits (tm A) : Nat) : Int) :: ((acc + (if tC A i = true then 3 + zBits (tm A) else 0) : Nat) : Int) :: ((i : Nat) : Int) :: l ∧ M' = M2) ?_ ?_)
    · cases e : tC A i <;> rw [e] at gC
      · ((with_reducible refine i_If (i_cZ_ne (i_ZA (i_FR (i_A0 ?_))))); (with_reducible refine i_fldR (by assumption) ?_); (with_reducible refine i_Add (i_Mul (i_I (i_L1 (i_L5 ?_))))); rw [zx_cmul (by omega)]; rw [zx_add (by omega)]; (with_reducible refine i_in (by assumption) (by omega) (by omega) ?_); (rw [gC]); rw [zbI_f]; simp only [w_set0, w_set1, w_setn0, w_setn1]; (with_reducible refine i_f (by omega) ?_))
        exact ⟨by simp, by first | rfl | trivial⟩
      · ((with_reducible refine i_If (i_cZ_ne (i_ZA (i_FR (i_A0 ?_))))); (with_reducible refine i_fldR (by assumption) ?_); (with_reducible refine i_Add (i_Mul (i_I (i_L1 (i_L5 ?_))))); rw [zx_cmul (by omega)]; rw [zx_add (by omega)]; (with_reducible refine i_in (by assumption) (by omega) (by omega) ?_); (rw [gC]); rw [zbI_t]; simp only [w_set0, w_set1, w_setn0, w_setn1]; (with_reducible refine i_t (by omega) ?_); (with_reducible refine i_Set (i_Add (i_L4 (i_Add (i_I (i_L3 ?_)))))); rw [zx_cadd (by omega)]; rw [zx_add (by omega)]; simp only [w_set0, w_set1, w_setn0, w_setn1])
        exact ⟨by simp, by first | rfl | trivial⟩
    rintro ρ' M' ⟨rfl, rfl⟩
    have hc1 : (if tC A i = true then 3 + zBits (tm A) else 0) ≤ 7 := by split <;> omega
    have hc2 : (if tH A i = true then 3 + zBits (tm A) else 0) ≤ 7 := by split <;> omega
    generalize (if tC A i = true then 3 + zBits (tm A) else 0) = c1 at hc1 hX2 ⊢
    refine i_Seq (w_cut (zR.mon' O) (fun ρ' M2 => ρ' = 250 :: ((t : Nat) : Int) :: ((zBits n : Nat) : Int) :: ((zBits (tm A) : Nat) : Int) :: ((acc + (c1 + (if tH A i = true then 3 + zBits (tm A) else 0)) : Nat) : Int) :: ((i : Nat) : Int) :: l ∧ M2 = M') ?_ ?_)
    · cases e : tH A i <;> rw [e] at gH
      · ((with_reducible refine i_If (i_cZ_ne (i_ZA (i_FR (i_A0 ?_))))); (with_reducible refine i_fldR (by assumption) ?_); (with_reducible refine i_Add (i_Mul (i_I (i_L1 (i_L5 ?_))))); rw [zx_cmul (by omega)]; rw [zx_add (by omega)]; (with_reducible refine i_in (by assumption) (by omega) (by omega) ?_); (rw [gH]); rw [zbI_f]; simp only [w_set0, w_set1, w_setn0, w_setn1]; (with_reducible refine i_f (by omega) ?_))
        exact ⟨by simp, by first | rfl | trivial⟩
      · ((with_reducible refine i_If (i_cZ_ne (i_ZA (i_FR (i_A0 ?_))))); (with_reducible refine i_fldR (by assumption) ?_); (with_reducible refine i_Add (i_Mul (i_I (i_L1 (i_L5 ?_))))); rw [zx_cmul (by omega)]; rw [zx_add (by omega)]; (with_reducible refine i_in (by assumption) (by omega) (by omega) ?_); (rw [gH]); rw [zbI_t]; simp only [w_set0, w_set1, w_setn0, w_setn1]; (with_reducible refine i_t (by omega) ?_); (with_reducible refine i_Set (i_Add (i_L4 (i_Add (i_I (i_L3 ?_)))))); rw [zx_cadd (by omega)]; rw [zx_add (by omega)]; simp only [w_set0, w_set1, w_setn0, w_setn1])
        exact ⟨by simp [Nat.add_assoc], by first | rfl | trivial⟩
    rintro ρ' M2 ⟨rfl, rfl⟩
    generalize (if tH A i = true then 3 + zBits (tm A) else 0) = c2 at hc2 hX2 ⊢
    have hd1 := zsum_le (f := fun j => if i < j ∧ tD A i j = true then 3 + 2 * zBits (tm A) else 0) (c := 11) (fun j => zite_le (by omega))
    have hd2 := zsum_le (f := fun p => if tG A p i = true then 3 + zBits n + zBits (tm A) else 0) (c := 11) (fun j => zite_le (by omega))
    ((with_reducible refine i_Seq (i_Blk (i_Seq (i_Set (i_Add (i_L5 (i_I ?_))))))); rw [zx_inc (by omega)]; simp only [w_set0, w_set1, w_setn0, w_setn1]; rw [w_setT])
    have hz0 : zsum (fun j => if i < j ∧ tD A i j = true then 3 + 2 * zBits (tm A) else 0) (i + 1 + 0) = 0 := zsum_z (fun j hj => if_neg (fun w => by omega))
    rw [show acc + (c1 + c2) = acc + (c1 + c2) + zsum (fun j => if i < j ∧ tD A i j = true then 3 + 2 * zBits (tm A) else 0) (i + 1 + 0) by rw [hz0]; rfl]
    refine w_ForN (tm A - (i + 1)) (fun k ρ M' => (∃ l, ρ = 250 :: ((t : Nat) : Int) :: ((zBits n : Nat) : Int) :: ((zBits (tm A) : Nat) : Int) :: ((acc + (c1 + c2) + zsum (fun j => if i < j ∧ tD A i j = true then 3 + 2 * zBits (tm A) else 0) (i + 1 + k) : Nat) : Int) :: ((i : Nat) : Int) :: ((i + 1 + k : Nat) : Int) :: l) ∧ M' = M2) ⟨⟨_, rfl⟩, rfl⟩ ?_ ?_
    · rintro k ρ M3 X1 hk1 ⟨⟨l, rfl⟩, rfl⟩ hX1
      obtain ⟨j, hj⟩ : ∃ j, j = i + 1 + k := ⟨_, rfl⟩
      have gD := D1 i j (by omega) (by omega)
      have hX3 : ∀ (l : zLoc) (x : Nat), x = acc + (c1 + c2) + (zsum (fun j => if i < j ∧ tD A i j = true then 3 + 2 * zBits (tm A) else 0) j + (if i < j ∧ tD A i j = true then 3 + 2 * zBits (tm A) else 0)) → X1 (250 :: ((t : Nat) : Int) :: ((zBits n : Nat) : Int) :: ((zBits (tm A) : Nat) : Int) :: ((x : Nat) : Int) :: ((i : Nat) : Int) :: ((j + 1 : Nat) : Int) :: l) M3 := fun l x e => by subst e; exact hX1 _ _ ⟨⟨l, by rw [hj]; rfl⟩, rfl⟩
      rw [← hj]
      have hb1 := hd1 j
      cases e : tD A i j <;> rw [e] at gD hX3
      · ((with_reducible refine i_turn (i_cI_lt (i_L6 (i_IA (i_FR (i_A0 ?_)))))); (with_reducible refine i_fldR (by assumption) ?_); (with_reducible refine i_L1 ?_); (with_reducible refine i_in (by assumption) (by omega) (by omega) ?_); (rw [m1]); (with_reducible refine i_t (by omega) ?_); (with_reducible refine i_If (i_cZ_ne (i_ZA (i_FR (i_A0 ?_))))); (with_reducible refine i_fldR (by assumption) ?_); (with_reducible refine i_Add (i_Add (i_Mul (i_I (i_L1 (i_Mul (i_I (i_L5 (i_L6 ?_))))))))); rw [zx_cmul (by omega)]; rw [zx_cmul (by omega)]; rw [zx_add (by omega)]; rw [zx_add (by omega)]; (with_reducible refine i_in (by assumption) (by omega) (by omega) ?_); (rw [gD]); rw [zbI_f]; (with_reducible refine i_f (by omega) ?_); (with_reducible refine i_up (i_Inc6 ?_)); rw [zx_inc (by omega)]; simp only [w_set0, w_set1, w_setn0, w_setn1])
        exact hX3 _ _ (by simp)
      · rw [if_pos ⟨by omega, rfl⟩] at hX3
        ((with_reducible refine i_turn (i_cI_lt (i_L6 (i_IA (i_FR (i_A0 ?_)))))); (with_reducible refine i_fldR (by assumption) ?_); (with_reducible refine i_L1 ?_); (with_reducible refine i_in (by assumption) (by omega) (by omega) ?_); (rw [m1]); (with_reducible refine i_t (by omega) ?_); (with_reducible refine i_If (i_cZ_ne (i_ZA (i_FR (i_A0 ?_))))); (with_reducible refine i_fldR (by assumption) ?_); (with_reducible refine i_Add (i_Add (i_Mul (i_I (i_L1 (i_Mul (i_I (i_L5 (i_L6 ?_))))))))); rw [zx_cmul (by omega)]; rw [zx_cmul (by omega)]; rw [zx_add (by omega)]; rw [zx_add (by omega)]; (with_reducible refine i_in (by assumption) (by omega) (by omega) ?_); (rw [gD]); rw [zbI_t]; (with_reducible refine i_t (by omega) ?_); (with_reducible refine i_Set (i_Add (i_L4 (i_Add (i_I (i_Mul (i_I (i_L3 (i_up ?_))))))))); rw [zx_cmul (by omega)]; rw [zx_cadd (by omega)]; rw [zx_add (by omega)]; simp only [w_set0, w_set1, w_setn0, w_setn1]; (with_reducible refine i_Inc6 ?_); rw [zx_inc (by omega)]; simp only [w_set0, w_set1, w_setn0, w_setn1])
        exact hX3 _ _ (by omega)
    · rintro ρ M3 X1 ⟨⟨l, rfl⟩, rfl⟩
      have hb1 := hd1 (tm A)
      rw [show i + 1 + (tm A - (i + 1)) = tm A by omega]
      generalize zsum (fun j => if i < j ∧ tD A i j = true then 3 + 2 * zBits (tm A) else 0) (tm A) = c3 at hX2 hb1 ⊢
      ((with_reducible refine i_turn (i_cI_lt (i_L6 (i_IA (i_FR (i_A0 ?_)))))); (with_reducible refine i_fldR (by assumption) ?_); (with_reducible refine i_L1 ?_); (with_reducible refine i_in (by assumption) (by omega) (by omega) ?_); (rw [m1]); (with_reducible refine i_f (by omega) ?_); (with_reducible refine i_Blk (i_Seq (i_Set (i_I ?_)))); simp only [w_set0, w_set1, w_setn0, w_setn1])
      refine w_ForN n (fun p ρ M' => (∃ l, ρ = 250 :: ((t : Nat) : Int) :: ((zBits n : Nat) : Int) :: ((zBits (tm A) : Nat) : Int) :: ((acc + (c1 + c2) + c3 + zsum (fun p => if tG A p i = true then 3 + zBits n + zBits (tm A) else 0) p : Nat) : Int) :: ((i : Nat) : Int) :: ((p : Nat) : Int) :: l) ∧ M' = M3) ⟨⟨_, rfl⟩, rfl⟩ ?_ ?_
      · rintro p ρ M4 X2 hp ⟨⟨l, rfl⟩, rfl⟩ hX3
        have gG := G1 p i (by omega) (by omega)
        have hb2 := hd2 p
        have hX4 : ∀ (l : zLoc) (x : Nat), x = acc + (c1 + c2) + c3 + (zsum (fun p => if tG A p i = true then 3 + zBits n + zBits (tm A) else 0) p + (if tG A p i = true then 3 + zBits n + zBits (tm A) else 0)) → X2 (250 :: ((t : Nat) : Int) :: ((zBits n : Nat) : Int) :: ((zBits (tm A) : Nat) : Int) :: ((x : Nat) : Int) :: ((i : Nat) : Int) :: ((p + 1 : Nat) : Int) :: l) M4 := fun l x e => by subst e; exact hX3 _ _ ⟨⟨l, rfl⟩, rfl⟩
        cases e : tG A p i <;> rw [e] at gG hX4
        · ((with_reducible refine i_turn (i_cI_lt (i_L6 (i_F (i_A0 ?_))))); (with_reducible refine i_fld (by assumption) ?_); (rw [n1]); (with_reducible refine i_t (by omega) ?_); (with_reducible refine i_If (i_cZ_ne (i_ZA (i_FR (i_A0 ?_))))); (with_reducible refine i_fldR (by assumption) ?_); (with_reducible refine i_Add (i_Add (i_Mul (i_I (i_L1 (i_Mul (i_I (i_L6 (i_L5 ?_))))))))); rw [zx_cmul (by omega)]; rw [zx_cmul (by omega)]; rw [zx_add (by omega)]; rw [zx_add (by omega)]; (with_reducible refine i_in (by assumption) (by omega) (by omega) ?_); (rw [gG]); rw [zbI_f]; (with_reducible refine i_f (by omega) ?_); (with_reducible refine i_up (i_Inc6 ?_)); rw [zx_inc (by omega)]; simp only [w_set0, w_set1, w_setn0, w_setn1])
          exact hX4 _ _ (by simp)
        · rw [if_pos rfl] at hX4
          ((with_reducible refine i_turn (i_cI_lt (i_L6 (i_F (i_A0 ?_))))); (with_reducible refine i_fld (by assumption) ?_); (rw [n1]); (with_reducible refine i_t (by omega) ?_); (with_reducible refine i_If (i_cZ_ne (i_ZA (i_FR (i_A0 ?_))))); (with_reducible refine i_fldR (by assumption) ?_); (with_reducible refine i_Add (i_Add (i_Mul (i_I (i_L1 (i_Mul (i_I (i_L6 (i_L5 ?_))))))))); rw [zx_cmul (by omega)]; rw [zx_cmul (by omega)]; rw [zx_add (by omega)]; rw [zx_add (by omega)]; (with_reducible refine i_in (by assumption) (by omega) (by omega) ?_); (rw [gG]); rw [zbI_t]; (with_reducible refine i_t (by omega) ?_); (with_reducible refine i_Set (i_Add (i_L4 (i_Add (i_Add (i_I (i_L2 (i_L3 (i_up ?_))))))))); rw [zx_cadd (by omega)]; rw [zx_add (by omega)]; rw [zx_add (by omega)]; simp only [w_set0, w_set1, w_setn0, w_setn1]; (with_reducible refine i_Inc6 ?_); rw [zx_inc (by omega)]; simp only [w_set0, w_set1, w_setn0, w_setn1])
          exact hX4 _ _ (by omega)
      · rintro ρ M4 X2 ⟨⟨l, rfl⟩, rfl⟩
        ((with_reducible refine i_turn (i_cI_lt (i_L6 (i_F (i_A0 ?_))))); (with_reducible refine i_fld (by assumption) ?_); (rw [n1]); (with_reducible refine i_f (by omega) ?_); (with_reducible refine i_up (i_Inc5 ?_)); rw [zx_inc (by omega)]; simp only [w_set0, w_set1, w_setn0, w_setn1])
        exact hX2 _ _ (by omega)
  · rintro ρ M2 X ⟨⟨l, rfl⟩, rfl⟩
    have hac := zsum_le hle (tm A)
    have hacb : n * zBits n + 4 * tm A + zsum (tlw n A) (tm A) ≤ 10000 := by omega
    unfold tLen at hk2
    generalize n * zBits n + 4 * tm A + zsum (tlw n A) (tm A) = acc at hk2 hacb ⊢
    ((with_reducible refine i_turn (i_cI_lt (i_L5 (i_IA (i_FR (i_A0 ?_)))))); (with_reducible refine i_fldR (by assumption) ?_); (with_reducible refine i_L1 ?_); (with_reducible refine i_in (by assumption) (by omega) (by omega) ?_); (rw [m1]); (with_reducible refine i_f (by omega) ?_); (with_reducible refine i_Seq (i_Blk (i_Seq (i_Set (i_I ?_))))); simp only [w_set0, w_set1, w_setn0, w_setn1])
    have hx1 := zsum_le (f := tlX n 0 A) (c := 10) (fun j => zite_le (by omega))
    refine w_ForN 256 (fun k ρ M' => (∃ l, ρ = 250 :: ((t : Nat) : Int) :: ((zBits n : Nat) : Int) :: ((zBits (tm A) : Nat) : Int) :: ((acc + zsum (tlX n 0 A) k : Nat) : Int) :: ((k : Nat) : Int) :: l) ∧ M' = M2) ⟨⟨_, rfl⟩, rfl⟩ ?_ ?_
    · rintro k ρ M3 X1 hk1 ⟨⟨l, rfl⟩, rfl⟩ hX1
      have gv := v1 (k / 16) (k % 16) (by omega) (by omega)
      rw [show 256 * t + 16 * (k / 16) + k % 16 = 256 * t + k by omega] at gv
      have hb1 := hx1 k
      have hX3 : ∀ (l : zLoc) (x : Nat), x = acc + (zsum (tlX n 0 A) k + tlX n 0 A k) → X1 (250 :: ((t : Nat) : Int) :: ((zBits n : Nat) : Int) :: ((zBits (tm A) : Nat) : Int) :: ((x : Nat) : Int) :: ((k + 1 : Nat) : Int) :: l) M3 := fun l x e => by subst e; exact hX1 _ _ ⟨⟨l, rfl⟩, rfl⟩
      unfold tlX at hX3
      by_cases e : tv A (k / 16) (k % 16) = 1
      · rw [if_pos e] at hX3
        rw [e] at gv
        ((with_reducible refine i_turn (i_cI_lt (i_L5 (i_I ?_)))); (with_reducible refine i_t (by omega) ?_); (with_reducible refine i_If (i_cI_eq (i_IA (i_FR (i_A0 ?_))))); (with_reducible refine i_fldR (by assumption) ?_); (with_reducible refine i_Add (i_Mul (i_I (i_L1 (i_L5 ?_))))); rw [zx_cmul (by omega)]; rw [zx_add (by omega)]; (with_reducible refine i_in (by assumption) (by omega) (by omega) ?_); (with_reducible refine i_I ?_); (rw [gv]); (with_reducible refine i_t (by omega) ?_); (with_reducible refine i_Set (i_Add (i_L4 (i_Call (i_as1 (i_A0 (i_as0 ?_))))))); (with_reducible refine i_recv0 (by assumption) ?_); (refine m_exceptBits hO hS n1 hn2 ⟨_, rfl, ?_⟩); (with_reducible refine i_up ?_); rw [zx_add (by omega)]; simp only [w_set0, w_set1, w_setn0, w_setn1]; (with_reducible refine i_Inc5 ?_); rw [zx_inc (by omega)]; simp only [w_set0, w_set1, w_setn0, w_setn1])
        exact hX3 _ _ (by unfold tlX; omega)
      · rw [if_neg e] at hX3
        ((with_reducible refine i_turn (i_cI_lt (i_L5 (i_I ?_)))); (with_reducible refine i_t (by omega) ?_); (with_reducible refine i_If (i_cI_eq (i_IA (i_FR (i_A0 ?_))))); (with_reducible refine i_fldR (by assumption) ?_); (with_reducible refine i_Add (i_Mul (i_I (i_L1 (i_L5 ?_))))); rw [zx_cmul (by omega)]; rw [zx_add (by omega)]; (with_reducible refine i_in (by assumption) (by omega) (by omega) ?_); (with_reducible refine i_I ?_); (rw [gv]); (with_reducible refine i_f (by omega) ?_); (with_reducible refine i_up (i_Inc5 ?_)); rw [zx_inc (by omega)]; simp only [w_set0, w_set1, w_setn0, w_setn1])
        exact hX3 _ _ (by unfold tlX; omega)
    · rintro ρ M3 X1 ⟨⟨l, rfl⟩, rfl⟩
      have hb1 := hx1 256
      have hacb2 : acc + zsum (tlX n 0 A) 256 ≤ 13000 := by omega
      generalize acc + zsum (tlX n 0 A) 256 = acc2 at hk2 hacb2 ⊢
      ((with_reducible refine i_turn (i_cI_lt (i_L5 (i_I ?_)))); (with_reducible refine i_f (by omega) ?_); (with_reducible refine i_Seq (i_Blk (i_Seq (i_Set (i_I ?_))))); simp only [w_set0, w_set1, w_setn0, w_setn1])
      have hx2 := zsum_le (f := tlS n A) (c := 30) (fun j => zite_le (by have := zBits_in (tR n A j + 1); omega))
      refine w_ForN 512 (fun k ρ M' => (∃ l, ρ = 250 :: ((t : Nat) : Int) :: ((zBits n : Nat) : Int) :: ((zBits (tm A) : Nat) : Int) :: ((acc2 + zsum (tlS n A) k : Nat) : Int) :: ((k : Nat) : Int) :: l) ∧ M' = M3) ⟨⟨_, rfl⟩, rfl⟩ ?_ ?_
      · rintro k ρ M4 X2 hk1 ⟨⟨l, rfl⟩, rfl⟩ hX2
        obtain ⟨g1, g2⟩ := hs1 k hk1
        have hb1 := hx2 k
        have hR := tR_le n A k hn2
        have hbi := zBits_in (tR n A k + 1)
        have hX3 : ∀ (l : zLoc) (x : Nat), x = acc2 + (zsum (tlS n A) k + tlS n A k) → X2 (250 :: ((t : Nat) : Int) :: ((zBits n : Nat) : Int) :: ((zBits (tm A) : Nat) : Int) :: ((x : Nat) : Int) :: ((k + 1 : Nat) : Int) :: l) M4 := fun l x e => by subst e; exact hX2 _ _ ⟨⟨l, rfl⟩, rfl⟩
        have ew : tlS n A k = if 0 < tQ n A k then 4 + 2 * zBits (tm A) + zBits (tR n A k + 1) else 0 := rfl
        by_cases e : 0 < tQ n A k
        · rw [if_pos e] at ew
          ((with_reducible refine i_turn (i_cI_lt (i_L5 (i_I ?_)))); (with_reducible refine i_t (by omega) ?_); (with_reducible refine i_If (i_cZ_gt (i_IA (i_FR (i_A0 ?_))))); (with_reducible refine i_fldR (by assumption) ?_); (with_reducible refine i_L5 ?_); (with_reducible refine i_in (by assumption) (by omega) (by omega) ?_); (rw [g2]); (with_reducible refine i_t (by omega) ?_); (with_reducible refine i_Set (i_Add (i_L4 (i_Add (i_Add (i_I (i_Mul (i_I (i_L3 (i_Call (i_as1 (i_Add (i_IA (i_FR (i_A0 ?_))))))))))))))); (with_reducible refine i_fldR (by assumption) ?_); (with_reducible refine i_L5 ?_); (with_reducible refine i_in (by assumption) (by omega) (by omega) ?_); (with_reducible refine i_I (i_as0 (i_recv1 ?_))); (rw [g1]); rw [zx_inc (by omega)]; rw [zx_cmul (by omega)]; rw [zx_cadd (by omega)]; simp only [w_set0, w_set1, w_setn0, w_setn1])
          refine m_bitsOf hO hS (by omega) ⟨_, rfl, ?_⟩
          ((with_reducible refine i_up (i_Inc5 ?_)); rw [zx_inc (by omega)]; rw [zx_add (by omega)]; rw [zx_add (by omega)]; simp only [w_set0, w_set1, w_setn0, w_setn1])
          exact hX3 _ _ (by omega)
        · rw [if_neg e] at ew
          ((with_reducible refine i_turn (i_cI_lt (i_L5 (i_I ?_)))); (with_reducible refine i_t (by omega) ?_); (with_reducible refine i_If (i_cZ_gt (i_IA (i_FR (i_A0 ?_))))); (with_reducible refine i_fldR (by assumption) ?_); (with_reducible refine i_L5 ?_); (with_reducible refine i_in (by assumption) (by omega) (by omega) ?_); (rw [g2]); (with_reducible refine i_f (by omega) ?_); (with_reducible refine i_up (i_Inc5 ?_)); rw [zx_inc (by omega)]; simp only [w_set0, w_set1, w_setn0, w_setn1])
          exact hX3 _ _ (by omega)
      · rintro ρ M4 X2 ⟨⟨l, rfl⟩, rfl⟩
        ((with_reducible refine i_turn (i_cI_lt (i_L5 (i_I ?_)))); (with_reducible refine i_f (by omega) ?_); (with_reducible refine i_RetI (i_L4 ?_)))
        exact hk2
end
section
-- part c0.ctel.lean.txt
/-! ===== the class: a telling's small methods; words as a set of numbers ===== -/
theorem zcnt_top {W : Nat → Bool} {c : Nat} (h : ∀ d, c ≤ d → W d = false) {n : Nat} (hn : c ≤ n) : zcnt W n = zcnt W c := by
  induction n with
  | zero => rw [show c = 0 by omega]
  | succ n ih =>
    rcases Nat.lt_or_ge n c with q | q
    · rw [show c = n + 1 by omega]
    · rw [zcnt_su, h n q, ih q]; rfl
theorem zcnt_ins {W : Nat → Bool} {c : Nat} (h : W c = false) (n : Nat) : zcnt (fun d => W d || decide (d = c)) n = zcnt W n + (if c < n then 1 else 0) := by
  induction n with
  | zero => rfl
  | succ n ih =>
    rw [zcnt_su, zcnt_su, ih]
    by_cases e : n = c
    · subst e; simp [h]
    · by_cases q : c < n
      · simp [e, q, show c < n + 1 by omega]; omega
      · simp [e, q, show ¬ c < n + 1 by omega]
/-- the words of a telling of the class: their numbers, as they grow -/
def zWd (M : zMem) (x : Nat) (W : Nat → Bool) : Prop := M ((x : Nat) : Int) ((6 : Nat) : Int) = ((zcnt W 1024 : Nat) : Int) ∧ ∀ c : Nat, c < 1024 → W c = true → M ((x + 6 : Nat) : Int) ((zcnt W c : Nat) : Int) = ((c : Nat) : Int)
theorem zWd.ext {M : zMem} {x : Nat} {W V : Nat → Bool} (h : zWd M x W) (e : ∀ c, c < 1024 → W c = V c) : zWd M x V :=
  ⟨by rw [← zcnt_ext e]; exact h.1, fun c hc hv => by rw [← zcnt_ext (s := W) (t := V) (fun i hi => e i (by omega))]; exact h.2 c hc (by rw [e c hc]; exact hv)⟩
theorem zWd.to {M M' : zMem} {x : Nat} {W : Nat → Bool} (h : zWd M x W) (h1 : ∀ j, M' ((x : Nat) : Int) j = M ((x : Nat) : Int) j) (h2 : ∀ j, M' ((x + 6 : Nat) : Int) j = M ((x + 6 : Nat) : Int) j) : zWd M' x W := ⟨by rw [h1]; exact h.1, fun c hc hw => by rw [h2]; exact h.2 c hc hw⟩
theorem c_addWord {O : zOm} (hO : zWld O) {x c : Nat} {W : Nat → Bool} {M : zMem} {K : Option zV → zMem → Prop} (hx : zTeC (zS O) x) (hW : zWd M x W) (hc : c < 1024) (ht : ∀ d, c ≤ d → W d = false) (hn : zcnt W 1024 < 120)
    (hk : ∀ M', (∀ b j, ¬ (b = ((x : Nat) : Int) ∧ j = 6 ∨ b = ((x + 6 : Nat) : Int)) → M' b j = M b j) → zWd M' x (fun d => W d || decide (d = c)) → K none M') : zR O F_Telling_addWord [(2, ((x : Nat) : Int)), (0, ((c : Nat) : Int))] M K := by
  obtain ⟨⟨o, x0, x1, x2, x3, x4, x5, x6⟩, ⟨y1, y2⟩, -⟩ := hx
  obtain ⟨h1, h2⟩ := hW
  have et := zcnt_top ht (n := 1024) (by omega)
  apply r_Telling_addWord hO
  unfold B_Telling_addWord
  ((with_reducible refine i_Seq (i_If (i_cI_lt (i_F (i_A0 ?_))))); (with_reducible refine i_fld (by assumption) ?_); (with_reducible refine i_I ?_); (rw [h1]); (with_reducible refine i_t (by omega) ?_); (with_reducible refine i_Seq (i_sIA (i_FR (i_A0 ?_)))); (with_reducible refine i_fldR (by assumption) ?_); (with_reducible refine i_F (i_A0 ?_)); (with_reducible refine i_fld (by assumption) ?_); (with_reducible refine i_L1 ?_); (with_reducible refine i_in (by assumption) (by omega) (by omega) ?_); (with_reducible refine i_FO (i_A0 ?_)); (with_reducible refine i_fld (by assumption) ?_); (with_reducible refine i_I ?_); (with_reducible refine i_fld (by assumption) ?_); (with_reducible refine i_RetV ?_); rw [zg_n _ _ _ (by omega)]; (rw [h1]); rw [zx_inc (by omega)])
  have hf : ∀ b j, ¬ (b = ((x : Nat) : Int) ∧ j = 6 ∨ b = ((x + 6 : Nat) : Int)) → M b j = M b j := fun _ _ _ => rfl
  refine hk _ (by intro b j q; ((rw [zg_o _ _ (by omega)]; rw [zg_n _ _ _ (by omega)])); first | done | rfl | exact hf b j (by omega)) ⟨?_, fun d hd hv => ?_⟩
  · rw [zg_s, zcnt_ins (ht c (Nat.le_refl _)), if_pos hc]
  · rw [zcnt_ins (ht c (Nat.le_refl _))]
    by_cases e : d = c
    · subst e
      rw [if_neg (Nat.lt_irrefl _), ← et, Nat.add_zero (zcnt W 1024), zg_n _ _ _ (by omega), zg_s]
    · have hv2 : W d = true := by simpa [e] using hv
      have hdc : d < c := by
        rcases Nat.lt_or_ge d c with q | q
        · exact q
        · rw [ht d q] at hv2; cases hv2
      have := zcnt_lt W (show d < c from hdc) hv2
      rw [if_neg (by omega), Nat.add_zero]
      (rw [zg_n _ _ _ (by omega)]; rw [zg_m _ _ _ _ _ (by omega)])
      exact h2 d hd hv2
theorem c_wordOf {O : zOm} (hO : zWld O) {k a b : Nat} {M : zMem} {K : Option zV → zMem → Prop} (hk4 : k < 4) (ha : a < 16) (hb : b < 16) (hk : K (some (0, ((256 * k + 16 * a + b : Nat) : Int))) M) : zR O F_Telling_wordOf [(0, ((k : Nat) : Int)), (0, ((a : Nat) : Int)), (0, ((b : Nat) : Int))] M K := by
  apply r_Telling_wordOf hO
  unfold B_Telling_wordOf
  ((with_reducible refine i_RetI (i_Add (i_Mul (i_Add (i_Mul (i_L0 (i_I (i_L1 (i_I (i_L2 ?_)))))))))); rw [zx_mulc (by omega)]; rw [zx_add (by omega)]; rw [zx_mulc (by omega)]; rw [zx_add (by omega)])
  rw [show (k * 16 + a) * 16 + b = 256 * k + 16 * a + b by omega]
  exact hk
theorem c_kindOf {O : zOm} (hO : zWld O) {c : Nat} {M : zMem} {K : Option zV → zMem → Prop} (hc : c < 1024) (hk : K (some (0, ((c / 256 : Nat) : Int))) M) : zR O F_Telling_kindOf [(0, ((c : Nat) : Int))] M K := by
  apply r_Telling_kindOf hO
  unfold B_Telling_kindOf
  ((with_reducible refine i_RetI (i_Div (i_L0 (i_I ?_)))); rw [zx_divc (by omega)]; (with_reducible refine i_nn (by decide) ?_))
  exact hk
theorem c_firstOf {O : zOm} (hO : zWld O) {c : Nat} {M : zMem} {K : Option zV → zMem → Prop} (hc : c < 1024) (hk : K (some (0, ((c / 16 % 16 : Nat) : Int))) M) : zR O F_Telling_firstOf [(0, ((c : Nat) : Int))] M K := by
  apply r_Telling_firstOf hO
  unfold B_Telling_firstOf
  ((with_reducible refine i_RetI (i_Rem (i_Div (i_L0 (i_I ?_))))); rw [zx_divc (by omega)]; (with_reducible refine i_nn (by decide) ?_); (with_reducible refine i_I ?_); rw [zx_modc]; (with_reducible refine i_nn (by decide) ?_))
  exact hk
theorem c_secondOf {O : zOm} (hO : zWld O) {c : Nat} {M : zMem} {K : Option zV → zMem → Prop} (hc : c < 1024) (hk : K (some (0, ((c % 16 : Nat) : Int))) M) : zR O F_Telling_secondOf [(0, ((c : Nat) : Int))] M K := by
  apply r_Telling_secondOf hO
  unfold B_Telling_secondOf
  ((with_reducible refine i_RetI (i_Rem (i_L0 (i_I ?_)))); rw [zx_modc]; (with_reducible refine i_nn (by decide) ?_))
  exact hk
theorem zcnt_box (f : Nat → Nat) {n : Nat} (hn : n ≤ 16) (b : Nat) : zcnt (fun q => decide (q < n) && decide (f q = b)) 16 = zSz f n b := by
  rw [zcnt_top (c := n) (fun d hd => by rw [decide_eq_false (by omega)]; rfl) hn]
  unfold zSz
  exact zcnt_ext fun i hi => by rw [decide_eq_true hi, Bool.true_and]
theorem c_sizeOf {O : zOm} (hO : zWld O) {p n m b : Nat} {f : Nat → Nat} {M : zMem} {K : Option zV → zMem → Prop} (hp : zPar (zS O) p) (hM : zPR M p n f m) (hn : n ≤ 16) (hm : m ≤ 16) (hb : b < m) (hk : K (some (0, ((zSz f n b : Nat) : Int))) M) : zR O F_Parting_sizeOf [(2, ((p : Nat) : Int)), (0, ((b : Nat) : Int))] M K := by
  obtain ⟨p0, p1, p2, p3, p4, p5, p6, p7, p8⟩ := hp
  rw [← zcnt_box f hn] at hk
  apply r_Parting_sizeOf hO
  unfold B_Parting_sizeOf
  ((with_reducible refine i_RetI (i_Call (i_as1 (i_IA (i_FR (i_A0 ?_)))))); (with_reducible refine i_fldR (by assumption) ?_); (with_reducible refine i_L1 ?_); (with_reducible refine i_in (by assumption) (by omega) (by omega) ?_); (with_reducible refine i_as0 (i_recv1 ?_)); (rw [hM.2.2.2 b hb]); (refine s_bitCount hO ⟨_, rfl, ?_⟩))
  exact hk
/-- where the row of a box begins -/
def zSt0 (f : Nat → Nat) (n b : Nat) : Nat := zsum (zSz f n) b
theorem c_startOf {O : zOm} (hO : zWld O) {p n m b : Nat} {f : Nat → Nat} {M : zMem} {K : Option zV → zMem → Prop} (hp : zPar (zS O) p) (hM : zPR M p n f m) (hn : n ≤ 16) (hm : m ≤ 16) (hb : b ≤ m) (hk : K (some (0, ((zSt0 f n b : Nat) : Int))) M) : zR O F_Parting_startOf [(2, ((p : Nat) : Int)), (0, ((b : Nat) : Int))] M K := by
  obtain ⟨p0, p1, p2, p3, p4, p5, p6, p7, p8⟩ := hp
  have hs := zsum_le (f := zSz f n) (c := 16) (fun i => by have := zSz_le f n i; omega)
  apply r_Parting_startOf hO
  unfold B_Parting_startOf
  ((with_reducible refine i_Seq (i_Set (i_I (i_Seq (i_Blk (i_Seq (i_Set (i_I ?_)))))))); simp only [w_set0, w_set1, w_setn0, w_setn1])
  refine w_ForN b (fun k ρ M' => ρ = [((p : Nat) : Int), ((b : Nat) : Int), ((zSt0 f n k : Nat) : Int), ((k : Nat) : Int)] ∧ M' = M) ⟨rfl, rfl⟩ ?_ ?_
  · rintro k ρ M1 X hk1 ⟨rfl, rfl⟩ hX
    have h1 := hs k
    have h2 := zSz_le f n k
    unfold zSt0 at hX ⊢
    rw [zsum_su] at hX
    ((with_reducible refine i_turn (i_cI_lt (i_L3 (i_L1 ?_)))); (with_reducible refine i_t (by omega) ?_); (with_reducible refine i_Set (i_Add (i_L2 (i_Call (i_as1 (i_IA (i_FR (i_A0 ?_)))))))); (with_reducible refine i_fldR (by assumption) ?_); (with_reducible refine i_L3 ?_); (with_reducible refine i_in (by assumption) (by omega) (by omega) ?_); (with_reducible refine i_as0 (i_recv1 ?_)); (rw [hM.2.2.2 k (by omega)]); (refine s_bitCount hO ⟨_, rfl, ?_⟩); (with_reducible refine i_up ?_); (rw [zcnt_box f hn]); rw [zx_add (by omega)]; simp only [w_set0, w_set1, w_setn0, w_setn1]; (with_reducible refine i_Inc3 ?_); rw [zx_inc (by omega)]; simp only [w_set0, w_set1, w_setn0, w_setn1])
    exact hX _ _ ⟨rfl, rfl⟩
  · rintro ρ M1 X ⟨rfl, rfl⟩
    ((with_reducible refine i_turn (i_cI_lt (i_L3 (i_L1 ?_)))); (with_reducible refine i_f (by omega) ?_); (with_reducible refine i_RetI (i_L2 ?_)))
    exact hk
theorem c_isBox {O : zOm} (hO : zWld O) {p m : Nat} {b : Int} {M : zMem} {K : Option zV → zMem → Prop} (hp : zPar (zS O) p) (hM : M ((p : Nat) : Int) ((4 : Nat) : Int) = ((m : Nat) : Int)) (hk : K (some (0, zbI (decide (0 ≤ b ∧ b < ((m : Nat) : Int))))) M) : zR O F_Parting_isBox [(2, ((p : Nat) : Int)), (0, b)] M K := by
  obtain ⟨p0, p1, p2, p3, p4, p5, p6, p7, p8⟩ := hp
  apply r_Parting_isBox hO
  unfold B_Parting_isBox
  (focus ((with_reducible refine i_RetZ (i_eIf (i_cAnd (i_cZ_ge (i_L1 ?_))))); (with_reducible refine i_br ?_ ?_ <;> intro hc); (focus ((with_reducible refine i_cI_lt (i_L1 (i_F (i_A0 ?_)))); (with_reducible refine i_fld (by assumption) ?_); (rw [hM]); (with_reducible refine i_br ?_ ?_ <;> intro hc); (focus ((with_reducible refine i_I ?_); (with_reducible refine i_z (Or.inr rfl) ?_))); rotate_left; (focus ((with_reducible refine i_I ?_); (with_reducible refine i_z (Or.inl rfl) ?_))); rotate_right)); rotate_left 2; (focus ((with_reducible refine i_I ?_); (with_reducible refine i_z (Or.inl rfl) ?_))); rotate_right 2))
  all_goals first | (rw [decide_eq_true (by omega)] at hk; exact hk) | (rw [decide_eq_false (by omega)] at hk; exact hk)
/-- a rule's cells -/
def zRl (S : List zSh) (r : Nat) : Prop := zObj S ((r : Nat) : Int) 7 ∧ zFld S ((r : Nat) : Int) 7 0 = some (some (some (r + 1))) ∧ zFld S ((r : Nat) : Int) 7 1 = some none ∧ zFld S ((r : Nat) : Int) 7 2 = some none ∧ zFld S ((r : Nat) : Int) 7 3 = some none ∧ zArr S ((r + 1 : Nat) : Int) .int 256
theorem c_isSparing {O : zOm} (hO : zWld O) {r E ties pairs own : Nat} {M : zMem} {K : Option zV → zMem → Prop} (hr : zRl (zS O) r) (hE : M ((r : Nat) : Int) ((1 : Nat) : Int) = ((E : Nat) : Int)) (hE2 : E ≤ 10) (h1 : ties ≤ 1000) (h2 : pairs ≤ 1000) (h3 : own ≤ 1000) (hk : K (some (0, zbI (decide (((own : Nat) : Int) < ((E : Nat) : Int) * (2 * ((ties : Nat) : Int) - ((pairs : Nat) : Int)))))) M) : zR O F_Rule_isSparing [(2, ((r : Nat) : Int)), (0, ((ties : Nat) : Int)), (0, ((pairs : Nat) : Int)), (0, ((own : Nat) : Int))] M K := by
  obtain ⟨r0, r1, r2, r3, r4, r5⟩ := hr
  have hml := zmulb (e := ((E : Nat) : Int)) (x := 2 * ((ties : Nat) : Int) - ((pairs : Nat) : Int)) (B := 3000) (by omega) (by omega) (by omega) (by omega)
  apply r_Rule_isSparing hO
  unfold B_Rule_isSparing
  have e1 : zw32 (((2 * ties : Nat) : Int) - ((pairs : Nat) : Int)) = 2 * ((ties : Nat) : Int) - ((pairs : Nat) : Int) := by rw [zx_s (by omega) (by omega)]; omega
  (focus ((with_reducible refine i_RetZ (i_eIf (i_cI_gt (i_Mul (i_F (i_A0 ?_)))))); (with_reducible refine i_fld (by assumption) ?_); (with_reducible refine i_Sub (i_Mul (i_I (i_L1 (i_L2 (i_L3 ?_)))))); (rw [hE]); rw [zx_cmul (by omega)]; (rw [e1]); rw [zx_s (by omega) (by omega)]; (with_reducible refine i_br ?_ ?_ <;> intro hc); (focus ((with_reducible refine i_I ?_); (with_reducible refine i_z (Or.inr rfl) ?_))); rotate_left; (focus ((with_reducible refine i_I ?_); (with_reducible refine i_z (Or.inl rfl) ?_))); rotate_right))
  · rw [decide_eq_true (by assumption)] at hk; exact hk
  · rw [decide_eq_false (by assumption)] at hk; exact hk
end
section
-- part c1.cmath.lean.txt
/-! ===== sums over ordered pairs; the class's counts are the reference's ===== -/
theorem zsI_su (w : Nat → Int) (k : Nat) : zsI w (k + 1) = zsI w k + w k := rfl
def zS2 (w : Nat → Nat → Int) (n : Nat) : Int := zsI (fun p => zsI (fun q => w p q) n) n
theorem zS2_su (w : Nat → Nat → Int) (n : Nat) : zS2 w (n + 1) = zS2 w n + zsI (fun p => w p n) n + zsI (w n) n + w n n := by
  have h1 : zsI (fun p => zsI (fun q => w p q) (n + 1)) n = zsI (fun p => zsI (fun q => w p q) n) n + zsI (fun p => w p n) n := by
    rw [← zsI_add]
    exact zsI_ext fun p _ => rfl
  have h2 : zsI (fun q => w n q) (n + 1) = zsI (w n) n + w n n := rfl
  unfold zS2
  rw [zsI_su, h1, h2]
  omega
theorem zP2_su (w : Nat → Nat → Int) (n : Nat) : zP2 w (n + 1) = zP2 w n + zsI (fun p => w p n) n := by
  have h1 : zsI (fun q => if n < q then w n q else 0) (n + 1) = 0 := zsI_0 fun q hq => if_neg (by omega)
  have h2 : zsI (fun p => zsI (fun q => if p < q then w p q else 0) (n + 1)) n = zsI (fun p => zsI (fun q => if p < q then w p q else 0) n) n + zsI (fun p => w p n) n := by
    rw [← zsI_add]
    exact zsI_ext fun p hp => by rw [zsI_su, if_pos hp]
  unfold zP2
  rw [zsI_su, h1, h2]
  omega
theorem zS2_P2 (w : Nat → Nat → Int) (n : Nat) : zS2 w n = zP2 (fun p q => w p q + w q p) n + zsI (fun p => w p p) n := by
  induction n with
  | zero => rfl
  | succ n ih => rw [zS2_su, ih, zP2_su, zsI_add, zsI_su]; omega
theorem zS2_mul (u v : Nat → Int) (n : Nat) : zS2 (fun p q => u p * v q) n = zsI u n * zsI v n := by
  have h : ∀ c k, zsI (fun p => u p * c) k = zsI u k * c := fun c k => by
    induction k with
    | zero => simp [zsI]
    | succ k ih => rw [zsI_su, zsI_su, ih, Int.add_mul]
  unfold zS2
  rw [show zsI (fun p => zsI (fun q => u p * v q) n) n = zsI (fun p => u p * zsI v n) n from zsI_ext fun p _ => zsI_mul (u p) v n, h]
theorem zP2_lin (a b : Int) (v w : Nat → Nat → Int) (n : Nat) : zP2 (fun p q => a * v p q + b * w p q) n = a * zP2 v n + b * zP2 w n := by
  induction n with
  | zero => simp [zP2, zsI]
  | succ n ih => rw [zP2_su, zP2_su, zP2_su, ih, zsI_add, zsI_mul, zsI_mul, Int.mul_add, Int.mul_add]; omega
/-- the ties of box a's posts (below k) to those of box b -/
def zbw (T : Nat → Nat → Bool) (g : Nat → Nat) (n a b k : Nat) : Nat := zsum (fun p => if g p = a then zcnt (fun q => T p q && decide (g q = b)) n else 0) k
theorem zbw_su (T : Nat → Nat → Bool) (g : Nat → Nat) (n a b k : Nat) : zbw T g n a b (k + 1) = zbw T g n a b k + (if g k = a then zcnt (fun q => T k q && decide (g q = b)) n else 0) := rfl
theorem zbw_le (T : Nat → Nat → Bool) (g : Nat → Nat) (n a b k : Nat) : zbw T g n a b k ≤ k * n := by
  unfold zbw
  exact zsum_le (fun p => by split; exact zcnt_le _ _; exact Nat.zero_le _) k
theorem zbw_S2 (T : Nat → Nat → Bool) (g : Nat → Nat) (n a b : Nat) : ((zbw T g n a b n : Nat) : Int) = zS2 (fun p q => zbI (decide (g p = a) && (T p q && decide (g q = b)))) n := by
  unfold zbw
  show _ = zsI (fun p => zsI (fun q => zbI (decide (g p = a) && (T p q && decide (g q = b)))) n) n
  rw [← zsum_zsI]
  refine zsI_ext fun p _ => ?_
  by_cases e : g p = a
  · rw [if_pos e, decide_eq_true e, ← zcnt_zsI]; rfl
  · rw [if_neg e, decide_eq_false e]; exact (zsI_0 fun _ _ => rfl).symm
theorem zSz_zsI (g : Nat → Nat) (n i : Nat) : zsI (fun p => zbI (decide (g p = i))) n = ((zSz g n i : Nat) : Int) := zcnt_zsI _ n
theorem zov_side {T : Nat → Nat → Bool} {g : Nat → Nat} {n i j : Nat} (hT : ∀ a b, T a b = T b a) (hij : i ≠ j) : zP2 (zwo g T i j) n = 2 * ((zbw T g n i j n : Nat) : Int) - ((zSz g n i : Nat) : Int) * ((zSz g n j : Nat) : Int) := by
  have e1 := zS2_P2 (fun p q => zbI (decide (g p = i) && (T p q && decide (g q = j)))) n
  have e2 := zS2_P2 (fun p q => zbI (decide (g p = i)) * zbI (decide (g q = j))) n
  have d1 : zsI (fun p => zbI (decide (g p = i) && (T p p && decide (g p = j)))) n = 0 := zsI_0 fun p _ => by
    by_cases e : g p = i
    · rw [decide_eq_false (show ¬ g p = j by omega)]; simp [zbI]
    · rw [decide_eq_false e]; rfl
  have d2 : zsI (fun p => zbI (decide (g p = i)) * zbI (decide (g p = j))) n = 0 := zsI_0 fun p _ => by
    by_cases e : g p = i
    · rw [decide_eq_false (show ¬ g p = j by omega)]; simp [zbI]
    · rw [decide_eq_false e]; simp [zbI]
  have e3 : zP2 (zwo g T i j) n = zP2 (fun p q => 2 * (zbI (decide (g p = i) && (T p q && decide (g q = j))) + zbI (decide (g q = i) && (T q p && decide (g p = j)))) + (-1) * (zbI (decide (g p = i)) * zbI (decide (g q = j)) + zbI (decide (g q = i)) * zbI (decide (g p = j)))) n := zP2_ext fun p q _ _ => by
    rw [hT q p]
    by_cases a : g p = i <;> by_cases b : g p = j <;> by_cases c : g q = i <;> by_cases d : g q = j <;> first | (exfalso; omega) | (cases hh : T p q <;> simp [zbI, zwo, zky, zsg, a, b, c, d, hij, hij.symm, hh])
  rw [e3, zP2_lin]
  rw [d1] at e1
  rw [d2] at e2
  rw [zbw_S2, ← zSz_zsI, ← zSz_zsI, ← zS2_mul, e1, e2]
  omega
theorem zov_crowd {T : Nat → Nat → Bool} {g : Nat → Nat} {n i : Nat} (hT : ∀ a b, T a b = T b a) (hT0 : ∀ a, T a a = false) : zP2 (zwo g T i i) n = 2 * ((zbw T g n i i n / 2 : Nat) : Int) - ((zSz g n i * (zSz g n i - 1) / 2 : Nat) : Int) := by
  have e1 := zS2_P2 (fun p q => zbI (decide (g p = i) && (T p q && decide (g q = i)))) n
  have e2 := zS2_P2 (fun p q => zbI (decide (g p = i)) * zbI (decide (g q = i))) n
  have d1 : zsI (fun p => zbI (decide (g p = i) && (T p p && decide (g p = i)))) n = 0 := zsI_0 fun p _ => by rw [hT0]; simp [zbI]
  have d2 : zsI (fun p => zbI (decide (g p = i)) * zbI (decide (g p = i))) n = ((zSz g n i : Nat) : Int) := by
    rw [← zSz_zsI]
    exact zsI_ext fun p _ => by cases decide (g p = i) <;> rfl
  have e3 : zP2 (fun p q => zbI (decide (g p = i) && (T p q && decide (g q = i))) + zbI (decide (g q = i) && (T q p && decide (g p = i)))) n = zP2 (fun p q => 2 * zbI (decide (g p = i) && (T p q && decide (g q = i))) + 0 * zbI (decide (g p = i) && (T p q && decide (g q = i)))) n := zP2_ext fun p q _ _ => by
    rw [hT q p]
    cases T p q <;> cases decide (g p = i) <;> cases decide (g q = i) <;> rfl
  have e4 : zP2 (fun p q => zbI (decide (g p = i)) * zbI (decide (g q = i)) + zbI (decide (g q = i)) * zbI (decide (g p = i))) n = zP2 (fun p q => 2 * (zbI (decide (g p = i)) * zbI (decide (g q = i))) + 0 * (zbI (decide (g p = i)) * zbI (decide (g q = i)))) n := zP2_ext fun p q _ _ => by
    cases decide (g p = i) <;> cases decide (g q = i) <;> rfl
  have e5 : zP2 (zwo g T i i) n = zP2 (fun p q => 2 * zbI (decide (g p = i) && (T p q && decide (g q = i))) + (-1) * (zbI (decide (g p = i)) * zbI (decide (g q = i)))) n := zP2_ext fun p q _ _ => by
    by_cases a : g p = i <;> by_cases c : g q = i <;> cases hh : T p q <;> simp [zbI, zwo, zky, zsg, a, c, hh]
  rw [zP2_lin] at e3 e4 e5
  rw [e3, d1, ← zbw_S2] at e1
  rw [e4, d2, zS2_mul, zSz_zsI] at e2
  rw [e5]
  have hs : zSz g n i * (zSz g n i - 1) + zSz g n i = zSz g n i * zSz g n i := by
    cases zSz g n i with
    | zero => rfl
    | succ k => rw [Nat.add_sub_cancel, ← Nat.mul_succ]
  have hs2 : ((zSz g n i * zSz g n i : Nat) : Int) = ((zSz g n i : Nat) : Int) * ((zSz g n i : Nat) : Int) := Int.natCast_mul _ _
  rw [← hs2, ← hs] at e2
  generalize zSz g n i * (zSz g n i - 1) = w at *
  omega
theorem zsI_sg (F T : Nat → Bool) (n : Nat) : zsI (fun q => if F q = true then zsg (T q) else 0) n = 2 * ((zcnt (fun q => T q && F q) n : Nat) : Int) - ((zcnt F n : Nat) : Int) := by
  induction n with
  | zero => rfl
  | succ n ih => rw [zsI_su, ih, zcnt_su, zcnt_su]; cases F n <;> cases T n <;> simp [zsg] <;> omega
/-- posts of box i whose pairs with p aren't said -/
def zfr (g : Nat → Nat) (S : Nat → Nat → Bool) (p i q : Nat) : Bool := decide (q ≠ p ∧ g q = i ∧ S p q = false)
theorem zrO_cnt (n : Nat) (T : Nat → Nat → Bool) (g : Nat → Nat) (S : Nat → Nat → Bool) (p i : Nat) : zrO n T g S p i = 2 * ((zcnt (fun q => T p q && zfr g S p i q) n : Nat) : Int) - ((zcnt (zfr g S p i) n : Nat) : Int) := by
  rw [← zsI_sg]
  unfold zrO
  refine zsI_ext fun q _ => ?_
  unfold zrw zfr
  simp only [decide_eq_true_eq]
theorem zrK_cnt (T : Nat → Nat → Bool) (r : Nat → Nat) (S : Nat → Nat → Bool) (s : Nat) : zrK T r S s = 2 * ((zcnt (fun k => T (r k) (r (k + 1)) && !S (r k) (r (k + 1))) (s - 1) : Nat) : Int) - ((zcnt (fun k => !S (r k) (r (k + 1))) (s - 1) : Nat) : Int) := by
  rw [← zsI_sg (fun k => !S (r k) (r (k + 1))) (fun k => T (r k) (r (k + 1)))]
  unfold zrK
  refine zsI_ext fun k _ => ?_
  unfold zrk
  cases S (r k) (r (k + 1)) <;> simp
/-! counts that grow -/
theorem zcnt_sub {s t : Nat → Bool} {n : Nat} (h : ∀ i, i < n → s i = true → t i = true) : zcnt s n ≤ zcnt t n := by
  induction n with
  | zero => exact Nat.le_refl _
  | succ n ih =>
    have h1 := ih (fun i hi => h i (by omega))
    have h2 := h n (by omega)
    rw [zcnt_su, zcnt_su]
    cases e : s n
    · simp only [Bool.false_eq_true, if_false]; omega
    · rw [h2 e]; simp only [if_true]; omega
theorem zcnt_sub1 {s t : Nat → Bool} {n i : Nat} (h : ∀ i, i < n → s i = true → t i = true) (hi : i < n) (h1 : s i = false) (h2 : t i = true) : zcnt s n < zcnt t n := by
  induction n with
  | zero => exact absurd hi (Nat.not_lt_zero _)
  | succ n ih =>
    rw [zcnt_su, zcnt_su]
    have h3 := h n (by omega)
    by_cases e : i = n
    · subst e
      have := zcnt_sub (fun j hj => h j (by omega)) (n := i) (s := s) (t := t)
      rw [h1, h2]; simp only [Bool.false_eq_true, if_false, if_true]; omega
    · have := ih (fun j hj => h j (by omega)) (by omega)
      cases e2 : s n
      · simp only [Bool.false_eq_true, if_false]; omega
      · rw [h3 e2]; simp only [if_true]; omega
theorem zsum_mono {f g : Nat → Nat} {n : Nat} (h : ∀ i, i < n → f i ≤ g i) : zsum f n ≤ zsum g n := by
  induction n with
  | zero => exact Nat.le_refl _
  | succ n ih => have := ih (fun i hi => h i (by omega)); have := h n (by omega); rw [zsum_su, zsum_su]; omega
theorem zsum_lt {f g : Nat → Nat} {n i : Nat} (h : ∀ i, i < n → f i ≤ g i) (hi : i < n) (hl : f i < g i) : zsum f n < zsum g n := by
  induction n with
  | zero => exact absurd hi (Nat.not_lt_zero _)
  | succ n ih =>
    have h1 := h n (by omega)
    rw [zsum_su, zsum_su]
    by_cases e : i = n
    · subst e
      have := zsum_mono (fun j hj => h j (by omega)) (n := i) (f := f) (g := g)
      omega
    · have := ih (fun j hj => h j (by omega)) (by omega)
      omega
theorem zp2_lt {S U : Nat → Nat → Bool} {n p q : Nat} (h : ∀ a b, S a b = true → U a b = true) (hpq : p < q) (hq : q < n) (h1 : S p q = false) (h2 : U p q = true) : zp2 S n < zp2 U n := by
  unfold zp2
  refine zsum_lt (i := p) (fun i _ => zcnt_sub (fun j _ hj => ?_)) (by omega) (zcnt_sub1 (i := q) (fun j _ hj => ?_) hq ?_ ?_)
  · rw [Bool.and_eq_true] at hj ⊢; exact ⟨hj.1, h _ _ hj.2⟩
  · rw [Bool.and_eq_true] at hj ⊢; exact ⟨hj.1, h _ _ hj.2⟩
  · rw [h1, Bool.and_false]
  · rw [h2, decide_eq_true hpq]; rfl
/-! ===== words as numbers, as far as they were taken; what they say ===== -/
def zrW (n m : Nat) (T : Nat → Nat → Bool) (g : Nat → Nat) (c : Nat) : Bool :=
  if c < 256 then decide (c % 16 = 0) && zrC n m T g (c / 16) else if c < 512 then zrD n m T g (c / 16 % 16) (c % 16) else if c < 768 then zrG n m T g (c / 16 % 16) (c % 16) else decide (c % 16 = 0) && (decide (c < 1024) && zrH n m T g (c / 16 % 16))
/-- the words below a number -/
def zrV (n m : Nat) (T : Nat → Nat → Bool) (g : Nat → Nat) (L c : Nat) : Bool := decide (c < L) && zrW n m T g c
/-- what crowds and sides below a number say -/
def zkU (n m : Nat) (T : Nat → Nat → Bool) (g : Nat → Nat) (L p q : Nat) : Bool :=
  decide (p < n ∧ q < n ∧ p ≠ q) && (if g p = g q then decide (16 * g p < L) && zrC n m T g (g p) else if g p < g q then decide (256 + 16 * g p + g q < L) && zrD n m T g (g p) (g q) else decide (256 + 16 * g q + g p < L) && zrD n m T g (g q) (g p))
theorem zkU_c {n m : Nat} {T : Nat → Nat → Bool} {g : Nat → Nat} {b : Nat} (hb : b < 16) (hg : ∀ q, q < n → g q < 16) (p q : Nat) : zkU n m T g (16 * (b + 1)) p q = (zkU n m T g (16 * b) p q || (decide (p < n ∧ q < n ∧ p ≠ q ∧ g p = b ∧ g q = b) && zrC n m T g b)) := by
  unfold zkU
  by_cases h : p < n ∧ q < n ∧ p ≠ q
  · have h1 := hg p h.1
    have h2 := hg q h.2.1
    rw [decide_eq_true h, Bool.true_and, Bool.true_and]
    by_cases e : g p = g q
    · rw [if_pos e, if_pos e]
      by_cases w : g p = b
      · rw [decide_eq_true (show 16 * g p < 16 * (b + 1) by omega), decide_eq_false (show ¬ 16 * g p < 16 * b by omega), decide_eq_true (show p < n ∧ q < n ∧ p ≠ q ∧ g p = b ∧ g q = b by omega), w]; simp
      · rw [decide_eq_false (show ¬ (p < n ∧ q < n ∧ p ≠ q ∧ g p = b ∧ g q = b) from fun z => w z.2.2.2.1), Bool.false_and, Bool.or_false]
        exact zdb (by omega)
    · rw [if_neg e, if_neg e, decide_eq_false (show ¬ (p < n ∧ q < n ∧ p ≠ q ∧ g p = b ∧ g q = b) from fun z => e (z.2.2.2.1.trans z.2.2.2.2.symm)), Bool.false_and, Bool.or_false]
      by_cases w : g p < g q
      · rw [if_pos w, if_pos w]; exact zdb (by omega)
      · rw [if_neg w, if_neg w]; exact zdb (by omega)
  · rw [decide_eq_false h, decide_eq_false (show ¬ (p < n ∧ q < n ∧ p ≠ q ∧ g p = b ∧ g q = b) from fun z => h ⟨z.1, z.2.1, z.2.2.1⟩)]; rfl
theorem zkU_d {n m : Nat} {T : Nat → Nat → Bool} {g : Nat → Nat} {a b : Nat} (hab : a < b) (hb : b < 16) (hg : ∀ q, q < n → g q < 16) (p q : Nat) : zkU n m T g (256 + 16 * a + (b + 1)) p q = (zkU n m T g (256 + 16 * a + b) p q || (decide (p < n ∧ q < n ∧ p ≠ q ∧ (g p = a ∧ g q = b ∨ g p = b ∧ g q = a)) && zrD n m T g a b)) := by
  unfold zkU
  by_cases h : p < n ∧ q < n ∧ p ≠ q
  · have h1 := hg p h.1
    have h2 := hg q h.2.1
    rw [decide_eq_true h, Bool.true_and, Bool.true_and]
    by_cases e : g p = g q
    · rw [if_pos e, if_pos e, decide_eq_false (show ¬ (p < n ∧ q < n ∧ p ≠ q ∧ (g p = a ∧ g q = b ∨ g p = b ∧ g q = a)) by omega), Bool.false_and, Bool.or_false]
      exact zdb (by omega)
    · rw [if_neg e, if_neg e]
      by_cases w : g p < g q
      · rw [if_pos w, if_pos w]
        by_cases z : g p = a ∧ g q = b
        · rw [decide_eq_true (show 256 + 16 * g p + g q < 256 + 16 * a + (b + 1) by omega), decide_eq_false (show ¬ 256 + 16 * g p + g q < 256 + 16 * a + b by omega), decide_eq_true (show p < n ∧ q < n ∧ p ≠ q ∧ (g p = a ∧ g q = b ∨ g p = b ∧ g q = a) from ⟨h.1, h.2.1, h.2.2, Or.inl z⟩), z.1, z.2]; simp
        · rw [decide_eq_false (show ¬ (p < n ∧ q < n ∧ p ≠ q ∧ (g p = a ∧ g q = b ∨ g p = b ∧ g q = a)) from fun y => by rcases y.2.2.2 with y | y; exact z y; omega), Bool.false_and, Bool.or_false]
          exact zdb (by omega)
      · rw [if_neg w, if_neg w]
        by_cases z : g p = b ∧ g q = a
        · rw [decide_eq_true (show 256 + 16 * g q + g p < 256 + 16 * a + (b + 1) by omega), decide_eq_false (show ¬ 256 + 16 * g q + g p < 256 + 16 * a + b by omega), decide_eq_true (show p < n ∧ q < n ∧ p ≠ q ∧ (g p = a ∧ g q = b ∨ g p = b ∧ g q = a) from ⟨h.1, h.2.1, h.2.2, Or.inr z⟩), z.1, z.2]; simp
        · rw [decide_eq_false (show ¬ (p < n ∧ q < n ∧ p ≠ q ∧ (g p = a ∧ g q = b ∨ g p = b ∧ g q = a)) from fun y => by rcases y.2.2.2 with y | y; omega; exact z y), Bool.false_and, Bool.or_false]
          exact zdb (by omega)
  · rw [decide_eq_false h, decide_eq_false (show ¬ (p < n ∧ q < n ∧ p ≠ q ∧ (g p = a ∧ g q = b ∨ g p = b ∧ g q = a)) from fun z => h ⟨z.1, z.2.1, z.2.2.1⟩)]; rfl
theorem zkU_s0 {n m : Nat} {T : Nat → Nat → Bool} {g : Nat → Nat} (hg : ∀ q, q < n → g q < 16) (p q : Nat) : zkU n m T g 512 p q = zrS0 n m T g p q := by
  unfold zkU zrS0
  by_cases h : p < n ∧ q < n ∧ p ≠ q
  · have h1 := hg p h.1
    have h2 := hg q h.2.1
    rw [decide_eq_true h, Bool.true_and, Bool.true_and]
    unfold zWq
    rw [Bool.or_false, Bool.or_false]
    by_cases e : g p = g q
    · rw [if_pos e, if_pos e, decide_eq_true (by omega), Bool.true_and]
    · rw [if_neg e, if_neg e]
      by_cases w : g p < g q
      · rw [if_pos w, if_pos w, decide_eq_true (by omega), Bool.true_and]
      · rw [if_neg w, if_neg w, decide_eq_true (by omega), Bool.true_and]
  · rw [decide_eq_false h]; rfl
theorem zkU_lim {n m : Nat} {T : Nat → Nat → Bool} {g : Nat → Nat} {L L' : Nat} (h : ∀ p q, p < n → q < n → (g p = g q → (16 * g p < L ↔ 16 * g p < L')) ∧ (g p < g q → (256 + 16 * g p + g q < L ↔ 256 + 16 * g p + g q < L'))) (p q : Nat) : zkU n m T g L p q = zkU n m T g L' p q := by
  unfold zkU
  by_cases e : p < n ∧ q < n ∧ p ≠ q
  · rw [decide_eq_true e, Bool.true_and, Bool.true_and]
    obtain ⟨a1, a2⟩ := h p q e.1 e.2.1
    obtain ⟨b1, b2⟩ := h q p e.2.1 e.1
    by_cases w : g p = g q
    · rw [if_pos w, if_pos w]; exact zdb (a1 w)
    · rw [if_neg w, if_neg w]
      by_cases z : g p < g q
      · rw [if_pos z, if_pos z]; exact zdb (a2 z)
      · rw [if_neg z, if_neg z]; exact zdb (b2 (by omega))
  · rw [decide_eq_false e]; rfl
/-- the words' limit may go up where there are none between -/
theorem zrV_lim {n m : Nat} {T : Nat → Nat → Bool} {g : Nat → Nat} {L L' : Nat} (h : ∀ c, c < 1024 → zrW n m T g c = true → (c < L ↔ c < L')) (c : Nat) (hc : c < 1024) : zrV n m T g L c = zrV n m T g L' c := by
  unfold zrV
  cases e : zrW n m T g c
  · rw [Bool.and_false, Bool.and_false]
  · exact zdb (h c hc e)
theorem zrV_in {n m : Nat} {T : Nat → Nat → Bool} {g : Nat → Nat} {L : Nat} (h : zrW n m T g L = true) (c : Nat) : (zrV n m T g L c || decide (c = L)) = zrV n m T g (L + 1) c := by
  unfold zrV
  by_cases e : c = L
  · subst e; rw [h]; simp
  · rw [decide_eq_false e, Bool.or_false]; exact zdb (by omega)
theorem zrV_no {n m : Nat} {T : Nat → Nat → Bool} {g : Nat → Nat} {L : Nat} (h : zrW n m T g L = false) (c : Nat) : zrV n m T g L c = zrV n m T g (L + 1) c := by
  unfold zrV
  by_cases e : c = L
  · subst e; rw [h]; simp
  · exact zdb (by omega)
theorem zrV_top {n m : Nat} {T : Nat → Nat → Bool} {g : Nat → Nat} {L : Nat} (d : Nat) (h : L ≤ d) : zrV n m T g L d = false := by unfold zrV; rw [decide_eq_false (by omega)]; rfl
theorem zrW_c {n m : Nat} {T : Nat → Nat → Bool} {g : Nat → Nat} {b : Nat} (hb : b < 16) : zrW n m T g (16 * b) = zrC n m T g b := by
  unfold zrW
  rw [if_pos (by omega), decide_eq_true (by omega), show 16 * b / 16 = b by omega]; rfl
theorem zrW_d {n m : Nat} {T : Nat → Nat → Bool} {g : Nat → Nat} {a b : Nat} (ha : a < 16) (hb : b < 16) : zrW n m T g (256 + 16 * a + b) = zrD n m T g a b := by
  unfold zrW
  rw [if_neg (by omega), if_pos (by omega), show (256 + 16 * a + b) / 16 % 16 = a by omega, show (256 + 16 * a + b) % 16 = b by omega]
theorem zrW_g {n m : Nat} {T : Nat → Nat → Bool} {g : Nat → Nat} {a b : Nat} (ha : a < 16) (hb : b < 16) : zrW n m T g (512 + 16 * a + b) = zrG n m T g a b := by
  unfold zrW
  rw [if_neg (by omega), if_neg (by omega), if_pos (by omega), show (512 + 16 * a + b) / 16 % 16 = a by omega, show (512 + 16 * a + b) % 16 = b by omega]
theorem zrW_h {n m : Nat} {T : Nat → Nat → Bool} {g : Nat → Nat} {b : Nat} (hb : b < 16) : zrW n m T g (768 + 16 * b) = zrH n m T g b := by
  unfold zrW
  rw [if_neg (by omega), if_neg (by omega), if_neg (by omega), decide_eq_true (by omega), decide_eq_true (show 768 + 16 * b < 1024 by omega), show (768 + 16 * b) / 16 % 16 = b by omega]; rfl
end
