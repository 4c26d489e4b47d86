/-! ===== a telling of the reference as one thing; its sorts; its length ===== -/
/-- counts over pairs of posts -/
def zop (g : Nat → Nat → Bool) (n a b : Nat) : Nat := zsum (fun p => zcnt (fun q => decide (p < q) && g p q) n) a + zcnt (fun q => decide (a < q) && g a q) b
def zp2 (g : Nat → Nat → Bool) (n : Nat) : Nat := zsum (fun p => zcnt (fun q => decide (p < q) && g p q) n) n
theorem zcnt_su (s : Nat → Bool) (k : Nat) : zcnt s (k + 1) = zcnt s k + (if s k = true then 1 else 0) := rfl
theorem zsum_su (f : Nat → Nat) (k : Nat) : zsum f (k + 1) = zsum f k + f k := rfl
theorem zcnt_z {s : Nat → Bool} {n : Nat} (h : ∀ i, i < n → s i = false) : zcnt s n = 0 := by
  induction n with
  | zero => rfl
  | succ n ih => rw [zcnt_su, ih (fun i hi => h i (by omega)), h n (by omega)]; rfl
theorem zop_row (g : Nat → Nat → Bool) (n a : Nat) : zop g n a 0 = zop g n a (a + 1) := by
  unfold zop
  rw [zcnt_z (n := a + 1) (fun i hi => by rw [decide_eq_false (by omega)]; rfl)]
  rfl
theorem zop_nx (g : Nat → Nat → Bool) (n a : Nat) : zop g n a n = zop g n (a + 1) 0 := rfl
theorem zop_su (g : Nat → Nat → Bool) {n a b : Nat} (h : a < b) : zop g n a (b + 1) = zop g n a b + (if g a b = true then 1 else 0) := by
  unfold zop
  rw [zcnt_su, decide_eq_true h, Bool.true_and]
  omega
theorem zop_end (g : Nat → Nat → Bool) (n : Nat) : zop g n n 0 = zp2 g n := rfl
theorem zop_le (g : Nat → Nat → Bool) {n a b : Nat} (hn : n ≤ 16) (ha : a ≤ 16) (hb : b ≤ 16) : zop g n a b ≤ 272 := by
  have h1 := zsum_le (f := fun p => zcnt (fun q => decide (p < q) && g p q) n) (c := 16) (fun p => by have := zcnt_le (fun q => decide (p < q) && g p q) n; omega) a
  have h2 := zcnt_le (fun q => decide (a < q) && g a q) b
  unfold zop
  omega
/-- the last of a sum's values is at most the number of pairs -/
theorem zp2_le (g : Nat → Nat → Bool) {n : Nat} (hn : n ≤ 16) : zp2 g n ≤ 120 := by
  have h : ∀ a, a ≤ n → 2 * zsum (fun p => zcnt (fun q => decide (p < q) && g p q) n) a ≤ a * (2 * n - a - 1) := by
    intro a
    induction a with
    | zero => intro _; exact Nat.le_of_eq (by simp [zsum])
    | succ a ih =>
      intro ha
      have h1 := ih (by omega)
      have h2 : zcnt (fun q => decide (a < q) && g a q) n ≤ n - a - 1 := by
        have : ∀ b, zcnt (fun q => decide (a < q) && g a q) b ≤ b - a - 1 := by
          intro b
          induction b with
          | zero => exact Nat.zero_le _
          | succ b ihb =>
            rw [zcnt_su]
            by_cases e : a < b
            · split <;> omega
            · rw [decide_eq_false e, Bool.false_and]; simp only [Bool.false_eq_true, if_false]; omega
        exact this n
      rw [zsum_su]
      have e1 : (a + 1) * (2 * n - (a + 1) - 1) = a * (2 * n - a - 1) - a + (2 * n - a - 2) := by
        rw [show 2 * n - (a + 1) - 1 = 2 * n - a - 2 by omega, Nat.add_mul, Nat.one_mul]
        congr 1
        rw [show 2 * n - a - 1 = (2 * n - a - 2) + 1 by omega, Nat.mul_add, Nat.mul_one]
        omega
      rw [e1]
      have e2 : a ≤ a * (2 * n - a - 1) := Nat.le_mul_of_pos_right _ (by omega)
      omega
  have h2 := h n (Nat.le_refl _)
  rw [show 2 * n - n - 1 = n - 1 by omega] at h2
  unfold zp2
  have h3 : n * (n - 1) ≤ 16 * 15 := Nat.mul_le_mul hn (by omega)
  omega
theorem zp2_ext {g h : Nat → Nat → Bool} {n : Nat} (e : ∀ p q, p < q → q < n → g p q = h p q) : zp2 g n = zp2 h n := by
  unfold zp2
  refine zsum_ext fun p _ => zcnt_ext fun q hq => ?_
  by_cases w : p < q
  · rw [e p q w hq]
  · rw [decide_eq_false w]; rfl
theorem zcnt_zsI (s : Nat → Bool) (n : Nat) : zsI (fun i => zbI (s i)) n = ((zcnt s n : Nat) : Int) := by
  induction n with
  | zero => rfl
  | succ n ih =>
    show zsI _ n + zbI (s n) = _
    rw [ih, zcnt_su]
    cases s n <;> simp [zbI]
theorem zsum_zsI (f : Nat → Nat) (n : Nat) : zsI (fun i => ((f i : Nat) : Int)) n = ((zsum f n : Nat) : Int) := by
  induction n with
  | zero => rfl
  | succ n ih =>
    show zsI _ n + ((f n : Nat) : Int) = _
    rw [ih, zsum_su]; omega
theorem zP2_zp2 (g : Nat → Nat → Bool) (n : Nat) : zP2 (fun p q => zbI (g p q)) n = ((zp2 g n : Nat) : Int) := by
  unfold zP2 zp2
  rw [← zsum_zsI]
  refine zsI_ext fun p _ => ?_
  rw [← zcnt_zsI]
  refine zsI_ext fun q _ => ?_
  by_cases e : p < q
  · rw [if_pos e, decide_eq_true e, Bool.true_and]
  · rw [if_neg e, decide_eq_false e]; rfl
/-- a telling: boxes, box of each post, crowds, sides, stars, chains, rows, excepts (0 none, 1 told, 2 left out) -/
abbrev zTl : Type := (Nat × (Nat → Nat)) × ((Nat → Bool) × (Nat → Nat → Bool) × (Nat → Nat → Bool) × (Nat → Bool)) × (Nat → Nat → Nat) × (Nat → Nat → Nat)
def tm (A : zTl) : Nat := A.1.1
def tf (A : zTl) : Nat → Nat := A.1.2
def tC (A : zTl) : Nat → Bool := A.2.1.1
def tD (A : zTl) : Nat → Nat → Bool := A.2.1.2.1
def tG (A : zTl) : Nat → Nat → Bool := A.2.1.2.2.1
def tH (A : zTl) : Nat → Bool := A.2.1.2.2.2
def tr (A : zTl) : Nat → Nat → Nat := A.2.2.1
def tv (A : zTl) : Nat → Nat → Nat := A.2.2.2
/-- what its words say -/
def tS (n : Nat) (A : zTl) : Nat → Nat → Bool := zSay n (tm A) (tf A) (tC A) (tD A) (tG A) (tH A) (tr A) (zSz (tf A) n)
/-- the t-th telling of the reference is A -/
def rTe (M : zMem) (t n : Nat) (A : zTl) : Prop := (M ((258 : Nat) : Int) ((t : Nat) : Int) = ((tm A : Nat) : Int) ∧ rBox M t n (tf A) ∧ rSiz M t (zSz (tf A) n)) ∧ (rFlg M 262 t (tC A) ∧ rMat M 264 t (tD A) ∧ rMat M 265 t (tG A) ∧ rFlg M 263 t (tH A)) ∧ rRow M t (tm A) (zSz (tf A) n) (tr A) ∧ rSta M t (tv A)
/-- what every telling keeps to -/
def zTw (n : Nat) (A : zTl) : Prop := (tm A ≤ 16 ∧ tm A = zcnt (zNew (tf A)) n ∧ ∀ q, q < n → tf A q < tm A ∧ zNum (tf A) q = tf A q) ∧ (∀ i k, i < tm A → k < zSz (tf A) n i → tr A i k < n ∧ tf A (tr A i k) = i ∧ ∀ l, l < zSz (tf A) n i → tr A i l = tr A i k → l = k) ∧
  ((∀ i, tC A i = true → i < tm A ∧ 2 ≤ zSz (tf A) n i) ∧ (∀ i j, tD A i j = true → i < j ∧ j < tm A) ∧ (∀ p i, tG A p i = true → p < n ∧ i < tm A ∧ ∃ q, q < n ∧ q ≠ p ∧ tf A q = i) ∧ (∀ i, tH A i = true → i < tm A ∧ 2 ≤ zSz (tf A) n i)) ∧ (∀ a b, tv A a b ≠ 0 → a < b ∧ b < n) ∧ ∀ a b, tv A a b ≤ 2
theorem rTe.to {M M' : zMem} {t n : Nat} {A : zTl} (h : rTe M t n A) (hn : n ≤ 16) (hw : zTw n A) (e : ∀ b j, (b = 258 ∧ j = ((t : Nat) : Int) ∨ (b = 259 ∨ b = 260 ∨ b = 262 ∨ b = 263) ∧ ((16 * t : Nat) : Int) ≤ j ∧ j < ((16 * t + 16 : Nat) : Int) ∨ (b = 261 ∨ b = 264 ∨ b = 265 ∨ b = 266) ∧ ((256 * t : Nat) : Int) ≤ j ∧ j < ((256 * t + 256 : Nat) : Int)) → M' b j = M b j) : rTe M' t n A := by
  obtain ⟨⟨h1, h2, h3⟩, ⟨h4, h5, h6, h7⟩, h8, h9⟩ := h
  refine ⟨⟨?_, fun q hq => ?_, fun b hb => ?_⟩, ⟨h4.to fun j _ _ => e _ _ (by omega), h5.to fun j _ _ => e _ _ (by omega), h6.to fun j _ _ => e _ _ (by omega), h7.to fun j _ _ => e _ _ (by omega)⟩, fun i k hi hk => ?_, fun a b ha hb => ?_⟩
  · rw [e _ _ (by omega)]; exact h1
  · rw [e _ _ (by omega)]; exact h2 q hq
  · rw [e _ _ (by omega)]; exact h3 b hb
  · have := hw.1.1
    have := zSz_le (tf A) n i
    rw [e _ _ (by omega)]; exact h8 i k hi hk
  · rw [e _ _ (by omega)]; exact h9 a b ha hb
theorem m_hearA {O : zOm} (hO : zWld O) (hS : zS O = zmS zC0) {t n : Nat} {A : zTl} {M : zMem} {K : Option zV → zMem → Prop} (ht : t < 7) (hn : M 250 ((1 : Nat) : Int) = ((n : Nat) : Int)) (hn2 : n ≤ 16) (hA : rTe M t n A) (hw : zTw n A) (hk : ∀ M', (∀ b j, ¬ b = ((268 : Nat) : Int) → M' b j = M b j) → rMx M' 268 (tS n A) → K none M') : zR O F_Model_hear [(2, 250), (0, ((t : Nat) : Int))] M K := by
  obtain ⟨⟨h1, h2, h3⟩, ⟨h4, h5, h6, h7⟩, h8, h9⟩ := hA
  obtain ⟨⟨w1, w2, w3⟩, w4, -⟩ := hw
  exact m_hear hO hS ht hn hn2 h1 w1 h2 (fun q hq => by have := (w3 q hq).1; omega) h4 h7 h5 h6 h3 (fun b _ => by have := zSz_le (tf A) n b; omega) (fun i k hi _ hk => h8 i k hi hk) (fun i k hi _ hk => by have := (w4 i k hi hk).1; omega) hk
/-- the number of a sort -/
def zso (f : Nat → Nat) (a b : Nat) (s : Bool) : Nat := (if s = true then 256 else 0) + (if f a < f b then 16 * f a + f b else 16 * f b + f a)
theorem zso_lt {f : Nat → Nat} {a b : Nat} {s : Bool} (ha : f a < 16) (hb : f b < 16) : zso f a b s < 512 := by unfold zso; split <;> split <;> omega
theorem m_sortOf {O : zOm} (hO : zWld O) (hS : zS O = zmS zC0) {t n a b : Nat} {f : Nat → Nat} {s : Bool} {M : zMem} {K : Option zV → zMem → Prop} (ht : t < 7) (hn : n ≤ 16) (hb : rBox M t n f) (hf : ∀ q : Nat, q < n → f q < 16) (ha : a < n) (hb2 : b < n) (hk : K (some (0, ((zso f a b s : Nat) : Int))) M) : zR O F_Model_sortOf [(2, 250), (0, ((t : Nat) : Int)), (0, ((a : Nat) : Int)), (0, ((b : Nat) : Int)), (0, zbI s)] M K := by
  have h1 := hb a ha
  have h2 := hb b hb2
  have l1 := hf a ha
  have l2 := hf b hb2
  unfold zso at hk
  apply r_Model_sortOf hO
  unfold B_Model_sortOf
  have f13 := zMF (k := 13) hS rfl; have a259 := zMA (a := 259) (ty := .int) (n := 112) hS rfl; have zo := zMO hS
  by_cases e : f a < f b
  · rw [if_pos e] at hk
    cases s
    · ((with_reducible refine i_Seq (i_Set (i_IA (i_FR (i_A0 ?_))))); (with_reducible refine i_fldR (by assumption) ?_); (with_reducible refine i_Add (i_Mul (i_I (i_L1 (i_L2 ?_))))); rw [zbI_f]; rw [zx_cmul (by omega)]; rw [zx_add (by omega)]; (with_reducible refine i_in (by assumption) (by omega) (by omega) ?_); (with_reducible refine i_Seq (i_Set (i_IA (i_FR ?_)))); (rw [h1]); simp only [w_set0, w_set1, w_setn0, w_setn1]; (with_reducible refine i_A0 ?_); (with_reducible refine i_fldR (by assumption) ?_); (with_reducible refine i_Add (i_Mul (i_I (i_L1 (i_L3 ?_))))); rw [zx_cmul (by omega)]; rw [zx_add (by omega)]; (with_reducible refine i_in (by assumption) (by omega) (by omega) ?_); (with_reducible refine i_RetI (i_Add (i_eIf (i_cZ_ne ?_)))); (rw [h2]); simp only [w_set0, w_set1, w_setn0, w_setn1]; (with_reducible refine i_L4 ?_); (with_reducible refine i_f (by omega) ?_); (with_reducible refine i_I (i_eIf (i_cI_lt (i_L5 (i_L6 ?_))))); (with_reducible refine i_t (by omega) ?_); (with_reducible refine i_Add (i_Mul (i_I (i_L5 (i_L6 ?_))))); rw [zx_cmul (by omega)]; rw [zx_add (by omega)]; rw [zx_cadd (by omega)])
      simpa using hk
    · ((with_reducible refine i_Seq (i_Set (i_IA (i_FR (i_A0 ?_))))); (with_reducible refine i_fldR (by assumption) ?_); (with_reducible refine i_Add (i_Mul (i_I (i_L1 (i_L2 ?_))))); rw [zbI_t]; rw [zx_cmul (by omega)]; rw [zx_add (by omega)]; (with_reducible refine i_in (by assumption) (by omega) (by omega) ?_); (with_reducible refine i_Seq (i_Set (i_IA (i_FR ?_)))); (rw [h1]); simp only [w_set0, w_set1, w_setn0, w_setn1]; (with_reducible refine i_A0 ?_); (with_reducible refine i_fldR (by assumption) ?_); (with_reducible refine i_Add (i_Mul (i_I (i_L1 (i_L3 ?_))))); rw [zx_cmul (by omega)]; rw [zx_add (by omega)]; (with_reducible refine i_in (by assumption) (by omega) (by omega) ?_); (with_reducible refine i_RetI (i_Add (i_eIf (i_cZ_ne ?_)))); (rw [h2]); simp only [w_set0, w_set1, w_setn0, w_setn1]; (with_reducible refine i_L4 ?_); (with_reducible refine i_t (by omega) ?_); (with_reducible refine i_I (i_eIf (i_cI_lt (i_L5 (i_L6 ?_))))); (with_reducible refine i_t (by omega) ?_); (with_reducible refine i_Add (i_Mul (i_I (i_L5 (i_L6 ?_))))); rw [zx_cmul (by omega)]; rw [zx_add (by omega)]; rw [zx_cadd (by omega)])
      simpa using hk
  · rw [if_neg e] at hk
    cases s
    · ((with_reducible refine i_Seq (i_Set (i_IA (i_FR (i_A0 ?_))))); (with_reducible refine i_fldR (by assumption) ?_); (with_reducible refine i_Add (i_Mul (i_I (i_L1 (i_L2 ?_))))); rw [zbI_f]; rw [zx_cmul (by omega)]; rw [zx_add (by omega)]; (with_reducible refine i_in (by assumption) (by omega) (by omega) ?_); (with_reducible refine i_Seq (i_Set (i_IA (i_FR ?_)))); (rw [h1]); simp only [w_set0, w_set1, w_setn0, w_setn1]; (with_reducible refine i_A0 ?_); (with_reducible refine i_fldR (by assumption) ?_); (with_reducible refine i_Add (i_Mul (i_I (i_L1 (i_L3 ?_))))); rw [zx_cmul (by omega)]; rw [zx_add (by omega)]; (with_reducible refine i_in (by assumption) (by omega) (by omega) ?_); (with_reducible refine i_RetI (i_Add (i_eIf (i_cZ_ne ?_)))); (rw [h2]); simp only [w_set0, w_set1, w_setn0, w_setn1]; (with_reducible refine i_L4 ?_); (with_reducible refine i_f (by omega) ?_); (with_reducible refine i_I (i_eIf (i_cI_lt (i_L5 (i_L6 ?_))))); (with_reducible refine i_f (by omega) ?_); (with_reducible refine i_Add (i_Mul (i_I (i_L6 (i_L5 ?_))))); rw [zx_cmul (by omega)]; rw [zx_add (by omega)]; rw [zx_cadd (by omega)])
      simpa using hk
    · ((with_reducible refine i_Seq (i_Set (i_IA (i_FR (i_A0 ?_))))); (with_reducible refine i_fldR (by assumption) ?_); (with_reducible refine i_Add (i_Mul (i_I (i_L1 (i_L2 ?_))))); rw [zbI_t]; rw [zx_cmul (by omega)]; rw [zx_add (by omega)]; (with_reducible refine i_in (by assumption) (by omega) (by omega) ?_); (with_reducible refine i_Seq (i_Set (i_IA (i_FR ?_)))); (rw [h1]); simp only [w_set0, w_set1, w_setn0, w_setn1]; (with_reducible refine i_A0 ?_); (with_reducible refine i_fldR (by assumption) ?_); (with_reducible refine i_Add (i_Mul (i_I (i_L1 (i_L3 ?_))))); rw [zx_cmul (by omega)]; rw [zx_add (by omega)]; (with_reducible refine i_in (by assumption) (by omega) (by omega) ?_); (with_reducible refine i_RetI (i_Add (i_eIf (i_cZ_ne ?_)))); (rw [h2]); simp only [w_set0, w_set1, w_setn0, w_setn1]; (with_reducible refine i_L4 ?_); (with_reducible refine i_t (by omega) ?_); (with_reducible refine i_I (i_eIf (i_cI_lt (i_L5 (i_L6 ?_))))); (with_reducible refine i_f (by omega) ?_); (with_reducible refine i_Add (i_Mul (i_I (i_L6 (i_L5 ?_))))); rw [zx_cmul (by omega)]; rw [zx_add (by omega)]; rw [zx_cadd (by omega)])
      simpa using hk
