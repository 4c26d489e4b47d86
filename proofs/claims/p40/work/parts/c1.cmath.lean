/-! ===== sums over ordered pairs; the class's counts are the reference's ===== -/
theorem zsI_su (w : Nat → Int) (k : Nat) : zsI w (k + 1) = zsI w k + w k := rfl
def zS2 (w : Nat → Nat → Int) (n : Nat) : Int := zsI (fun p => zsI (fun q => w p q) n) n
theorem zS2_su (w : Nat → Nat → Int) (n : Nat) : zS2 w (n + 1) = zS2 w n + zsI (fun p => w p n) n + zsI (w n) n + w n n := by
  have h1 : zsI (fun p => zsI (fun q => w p q) (n + 1)) n = zsI (fun p => zsI (fun q => w p q) n) n + zsI (fun p => w p n) n := by
    rw [← zsI_add]
    exact zsI_ext fun p _ => rfl
  have h2 : zsI (fun q => w n q) (n + 1) = zsI (w n) n + w n n := rfl
  unfold zS2
  rw [zsI_su, h1, h2]
  omega
theorem zP2_su (w : Nat → Nat → Int) (n : Nat) : zP2 w (n + 1) = zP2 w n + zsI (fun p => w p n) n := by
  have h1 : zsI (fun q => if n < q then w n q else 0) (n + 1) = 0 := zsI_0 fun q hq => if_neg (by omega)
  have h2 : zsI (fun p => zsI (fun q => if p < q then w p q else 0) (n + 1)) n = zsI (fun p => zsI (fun q => if p < q then w p q else 0) n) n + zsI (fun p => w p n) n := by
    rw [← zsI_add]
    exact zsI_ext fun p hp => by rw [zsI_su, if_pos hp]
  unfold zP2
  rw [zsI_su, h1, h2]
  omega
theorem zS2_P2 (w : Nat → Nat → Int) (n : Nat) : zS2 w n = zP2 (fun p q => w p q + w q p) n + zsI (fun p => w p p) n := by
  induction n with
  | zero => rfl
  | succ n ih => rw [zS2_su, ih, zP2_su, zsI_add, zsI_su]; omega
theorem zS2_mul (u v : Nat → Int) (n : Nat) : zS2 (fun p q => u p * v q) n = zsI u n * zsI v n := by
  have h : ∀ c k, zsI (fun p => u p * c) k = zsI u k * c := fun c k => by
    induction k with
    | zero => simp [zsI]
    | succ k ih => rw [zsI_su, zsI_su, ih, Int.add_mul]
  unfold zS2
  rw [show zsI (fun p => zsI (fun q => u p * v q) n) n = zsI (fun p => u p * zsI v n) n from zsI_ext fun p _ => zsI_mul (u p) v n, h]
theorem zP2_lin (a b : Int) (v w : Nat → Nat → Int) (n : Nat) : zP2 (fun p q => a * v p q + b * w p q) n = a * zP2 v n + b * zP2 w n := by
  induction n with
  | zero => simp [zP2, zsI]
  | succ n ih => rw [zP2_su, zP2_su, zP2_su, ih, zsI_add, zsI_mul, zsI_mul, Int.mul_add, Int.mul_add]; omega
/-- the ties of box a's posts (below k) to those of box b -/
def zbw (T : Nat → Nat → Bool) (g : Nat → Nat) (n a b k : Nat) : Nat := zsum (fun p => if g p = a then zcnt (fun q => T p q && decide (g q = b)) n else 0) k
theorem zbw_su (T : Nat → Nat → Bool) (g : Nat → Nat) (n a b k : Nat) : zbw T g n a b (k + 1) = zbw T g n a b k + (if g k = a then zcnt (fun q => T k q && decide (g q = b)) n else 0) := rfl
theorem zbw_le (T : Nat → Nat → Bool) (g : Nat → Nat) (n a b k : Nat) : zbw T g n a b k ≤ k * n := by
  unfold zbw
  exact zsum_le (fun p => by split; exact zcnt_le _ _; exact Nat.zero_le _) k
theorem zbw_S2 (T : Nat → Nat → Bool) (g : Nat → Nat) (n a b : Nat) : ((zbw T g n a b n : Nat) : Int) = zS2 (fun p q => zbI (decide (g p = a) && (T p q && decide (g q = b)))) n := by
  unfold zbw
  show _ = zsI (fun p => zsI (fun q => zbI (decide (g p = a) && (T p q && decide (g q = b)))) n) n
  rw [← zsum_zsI]
  refine zsI_ext fun p _ => ?_
  by_cases e : g p = a
  · rw [if_pos e, decide_eq_true e, ← zcnt_zsI]; rfl
  · rw [if_neg e, decide_eq_false e]; exact (zsI_0 fun _ _ => rfl).symm
theorem zSz_zsI (g : Nat → Nat) (n i : Nat) : zsI (fun p => zbI (decide (g p = i))) n = ((zSz g n i : Nat) : Int) := zcnt_zsI _ n
theorem zov_side {T : Nat → Nat → Bool} {g : Nat → Nat} {n i j : Nat} (hT : ∀ a b, T a b = T b a) (hij : i ≠ j) : zP2 (zwo g T i j) n = 2 * ((zbw T g n i j n : Nat) : Int) - ((zSz g n i : Nat) : Int) * ((zSz g n j : Nat) : Int) := by
  have e1 := zS2_P2 (fun p q => zbI (decide (g p = i) && (T p q && decide (g q = j)))) n
  have e2 := zS2_P2 (fun p q => zbI (decide (g p = i)) * zbI (decide (g q = j))) n
  have d1 : zsI (fun p => zbI (decide (g p = i) && (T p p && decide (g p = j)))) n = 0 := zsI_0 fun p _ => by
    by_cases e : g p = i
    · rw [decide_eq_false (show ¬ g p = j by omega)]; simp [zbI]
    · rw [decide_eq_false e]; rfl
  have d2 : zsI (fun p => zbI (decide (g p = i)) * zbI (decide (g p = j))) n = 0 := zsI_0 fun p _ => by
    by_cases e : g p = i
    · rw [decide_eq_false (show ¬ g p = j by omega)]; simp [zbI]
    · rw [decide_eq_false e]; simp [zbI]
  have e3 : zP2 (zwo g T i j) n = zP2 (fun p q => 2 * (zbI (decide (g p = i) && (T p q && decide (g q = j))) + zbI (decide (g q = i) && (T q p && decide (g p = j)))) + (-1) * (zbI (decide (g p = i)) * zbI (decide (g q = j)) + zbI (decide (g q = i)) * zbI (decide (g p = j)))) n := zP2_ext fun p q _ _ => by
    rw [hT q p]
    by_cases a : g p = i <;> by_cases b : g p = j <;> by_cases c : g q = i <;> by_cases d : g q = j <;> first | (exfalso; omega) | (cases hh : T p q <;> simp [zbI, zwo, zky, zsg, a, b, c, d, hij, hij.symm, hh])
  rw [e3, zP2_lin]
  rw [d1] at e1
  rw [d2] at e2
  rw [zbw_S2, ← zSz_zsI, ← zSz_zsI, ← zS2_mul, e1, e2]
  omega
theorem zov_crowd {T : Nat → Nat → Bool} {g : Nat → Nat} {n i : Nat} (hT : ∀ a b, T a b = T b a) (hT0 : ∀ a, T a a = false) : zP2 (zwo g T i i) n = 2 * ((zbw T g n i i n / 2 : Nat) : Int) - ((zSz g n i * (zSz g n i - 1) / 2 : Nat) : Int) := by
  have e1 := zS2_P2 (fun p q => zbI (decide (g p = i) && (T p q && decide (g q = i)))) n
  have e2 := zS2_P2 (fun p q => zbI (decide (g p = i)) * zbI (decide (g q = i))) n
  have d1 : zsI (fun p => zbI (decide (g p = i) && (T p p && decide (g p = i)))) n = 0 := zsI_0 fun p _ => by rw [hT0]; simp [zbI]
  have d2 : zsI (fun p => zbI (decide (g p = i)) * zbI (decide (g p = i))) n = ((zSz g n i : Nat) : Int) := by
    rw [← zSz_zsI]
    exact zsI_ext fun p _ => by cases decide (g p = i) <;> rfl
  have e3 : zP2 (fun p q => zbI (decide (g p = i) && (T p q && decide (g q = i))) + zbI (decide (g q = i) && (T q p && decide (g p = i)))) n = zP2 (fun p q => 2 * zbI (decide (g p = i) && (T p q && decide (g q = i))) + 0 * zbI (decide (g p = i) && (T p q && decide (g q = i)))) n := zP2_ext fun p q _ _ => by
    rw [hT q p]
    cases T p q <;> cases decide (g p = i) <;> cases decide (g q = i) <;> rfl
  have e4 : zP2 (fun p q => zbI (decide (g p = i)) * zbI (decide (g q = i)) + zbI (decide (g q = i)) * zbI (decide (g p = i))) n = zP2 (fun p q => 2 * (zbI (decide (g p = i)) * zbI (decide (g q = i))) + 0 * (zbI (decide (g p = i)) * zbI (decide (g q = i)))) n := zP2_ext fun p q _ _ => by
    cases decide (g p = i) <;> cases decide (g q = i) <;> rfl
  have e5 : zP2 (zwo g T i i) n = zP2 (fun p q => 2 * zbI (decide (g p = i) && (T p q && decide (g q = i))) + (-1) * (zbI (decide (g p = i)) * zbI (decide (g q = i)))) n := zP2_ext fun p q _ _ => by
    by_cases a : g p = i <;> by_cases c : g q = i <;> cases hh : T p q <;> simp [zbI, zwo, zky, zsg, a, c, hh]
  rw [zP2_lin] at e3 e4 e5
  rw [e3, d1, ← zbw_S2] at e1
  rw [e4, d2, zS2_mul, zSz_zsI] at e2
  rw [e5]
  have hs : zSz g n i * (zSz g n i - 1) + zSz g n i = zSz g n i * zSz g n i := by
    cases zSz g n i with
    | zero => rfl
    | succ k => rw [Nat.add_sub_cancel, ← Nat.mul_succ]
  have hs2 : ((zSz g n i * zSz g n i : Nat) : Int) = ((zSz g n i : Nat) : Int) * ((zSz g n i : Nat) : Int) := Int.natCast_mul _ _
  rw [← hs2, ← hs] at e2
  generalize zSz g n i * (zSz g n i - 1) = w at *
  omega
theorem zsI_sg (F T : Nat → Bool) (n : Nat) : zsI (fun q => if F q = true then zsg (T q) else 0) n = 2 * ((zcnt (fun q => T q && F q) n : Nat) : Int) - ((zcnt F n : Nat) : Int) := by
  induction n with
  | zero => rfl
  | succ n ih => rw [zsI_su, ih, zcnt_su, zcnt_su]; cases F n <;> cases T n <;> simp [zsg] <;> omega
/-- posts of box i whose pairs with p aren't said -/
def zfr (g : Nat → Nat) (S : Nat → Nat → Bool) (p i q : Nat) : Bool := decide (q ≠ p ∧ g q = i ∧ S p q = false)
theorem zrO_cnt (n : Nat) (T : Nat → Nat → Bool) (g : Nat → Nat) (S : Nat → Nat → Bool) (p i : Nat) : zrO n T g S p i = 2 * ((zcnt (fun q => T p q && zfr g S p i q) n : Nat) : Int) - ((zcnt (zfr g S p i) n : Nat) : Int) := by
  rw [← zsI_sg]
  unfold zrO
  refine zsI_ext fun q _ => ?_
  unfold zrw zfr
  simp only [decide_eq_true_eq]
theorem zrK_cnt (T : Nat → Nat → Bool) (r : Nat → Nat) (S : Nat → Nat → Bool) (s : Nat) : zrK T r S s = 2 * ((zcnt (fun k => T (r k) (r (k + 1)) && !S (r k) (r (k + 1))) (s - 1) : Nat) : Int) - ((zcnt (fun k => !S (r k) (r (k + 1))) (s - 1) : Nat) : Int) := by
  rw [← zsI_sg (fun k => !S (r k) (r (k + 1))) (fun k => T (r k) (r (k + 1)))]
  unfold zrK
  refine zsI_ext fun k _ => ?_
  unfold zrk
  cases S (r k) (r (k + 1)) <;> simp
/-! counts that grow -/
theorem zcnt_sub {s t : Nat → Bool} {n : Nat} (h : ∀ i, i < n → s i = true → t i = true) : zcnt s n ≤ zcnt t n := by
  induction n with
  | zero => exact Nat.le_refl _
  | succ n ih =>
    have h1 := ih (fun i hi => h i (by omega))
    have h2 := h n (by omega)
    rw [zcnt_su, zcnt_su]
    cases e : s n
    · simp only [Bool.false_eq_true, if_false]; omega
    · rw [h2 e]; simp only [if_true]; omega
theorem zcnt_sub1 {s t : Nat → Bool} {n i : Nat} (h : ∀ i, i < n → s i = true → t i = true) (hi : i < n) (h1 : s i = false) (h2 : t i = true) : zcnt s n < zcnt t n := by
  induction n with
  | zero => exact absurd hi (Nat.not_lt_zero _)
  | succ n ih =>
    rw [zcnt_su, zcnt_su]
    have h3 := h n (by omega)
    by_cases e : i = n
    · subst e
      have := zcnt_sub (fun j hj => h j (by omega)) (n := i) (s := s) (t := t)
      rw [h1, h2]; simp only [Bool.false_eq_true, if_false, if_true]; omega
    · have := ih (fun j hj => h j (by omega)) (by omega)
      cases e2 : s n
      · simp only [Bool.false_eq_true, if_false]; omega
      · rw [h3 e2]; simp only [if_true]; omega
theorem zsum_mono {f g : Nat → Nat} {n : Nat} (h : ∀ i, i < n → f i ≤ g i) : zsum f n ≤ zsum g n := by
  induction n with
  | zero => exact Nat.le_refl _
  | succ n ih => have := ih (fun i hi => h i (by omega)); have := h n (by omega); rw [zsum_su, zsum_su]; omega
theorem zsum_lt {f g : Nat → Nat} {n i : Nat} (h : ∀ i, i < n → f i ≤ g i) (hi : i < n) (hl : f i < g i) : zsum f n < zsum g n := by
  induction n with
  | zero => exact absurd hi (Nat.not_lt_zero _)
  | succ n ih =>
    have h1 := h n (by omega)
    rw [zsum_su, zsum_su]
    by_cases e : i = n
    · subst e
      have := zsum_mono (fun j hj => h j (by omega)) (n := i) (f := f) (g := g)
      omega
    · have := ih (fun j hj => h j (by omega)) (by omega)
      omega
theorem zp2_lt {S U : Nat → Nat → Bool} {n p q : Nat} (h : ∀ a b, S a b = true → U a b = true) (hpq : p < q) (hq : q < n) (h1 : S p q = false) (h2 : U p q = true) : zp2 S n < zp2 U n := by
  unfold zp2
  refine zsum_lt (i := p) (fun i _ => zcnt_sub (fun j _ hj => ?_)) (by omega) (zcnt_sub1 (i := q) (fun j _ hj => ?_) hq ?_ ?_)
  · rw [Bool.and_eq_true] at hj ⊢; exact ⟨hj.1, h _ _ hj.2⟩
  · rw [Bool.and_eq_true] at hj ⊢; exact ⟨hj.1, h _ _ hj.2⟩
  · rw [h1, Bool.and_false]
  · rw [h2, decide_eq_true hpq]; rfl
/-! ===== words as numbers, as far as they were taken; what they say ===== -/
def zrW (n m : Nat) (T : Nat → Nat → Bool) (g : Nat → Nat) (c : Nat) : Bool :=
  if c < 256 then decide (c % 16 = 0) && zrC n m T g (c / 16) else if c < 512 then zrD n m T g (c / 16 % 16) (c % 16) else if c < 768 then zrG n m T g (c / 16 % 16) (c % 16) else decide (c % 16 = 0) && (decide (c < 1024) && zrH n m T g (c / 16 % 16))
/-- the words below a number -/
def zrV (n m : Nat) (T : Nat → Nat → Bool) (g : Nat → Nat) (L c : Nat) : Bool := decide (c < L) && zrW n m T g c
/-- what crowds and sides below a number say -/
def zkU (n m : Nat) (T : Nat → Nat → Bool) (g : Nat → Nat) (L p q : Nat) : Bool :=
  decide (p < n ∧ q < n ∧ p ≠ q) && (if g p = g q then decide (16 * g p < L) && zrC n m T g (g p) else if g p < g q then decide (256 + 16 * g p + g q < L) && zrD n m T g (g p) (g q) else decide (256 + 16 * g q + g p < L) && zrD n m T g (g q) (g p))
theorem zkU_c {n m : Nat} {T : Nat → Nat → Bool} {g : Nat → Nat} {b : Nat} (hb : b < 16) (hg : ∀ q, q < n → g q < 16) (p q : Nat) : zkU n m T g (16 * (b + 1)) p q = (zkU n m T g (16 * b) p q || (decide (p < n ∧ q < n ∧ p ≠ q ∧ g p = b ∧ g q = b) && zrC n m T g b)) := by
  unfold zkU
  by_cases h : p < n ∧ q < n ∧ p ≠ q
  · have h1 := hg p h.1
    have h2 := hg q h.2.1
    rw [decide_eq_true h, Bool.true_and, Bool.true_and]
    by_cases e : g p = g q
    · rw [if_pos e, if_pos e]
      by_cases w : g p = b
      · rw [decide_eq_true (show 16 * g p < 16 * (b + 1) by omega), decide_eq_false (show ¬ 16 * g p < 16 * b by omega), decide_eq_true (show p < n ∧ q < n ∧ p ≠ q ∧ g p = b ∧ g q = b by omega), w]; simp
      · rw [decide_eq_false (show ¬ (p < n ∧ q < n ∧ p ≠ q ∧ g p = b ∧ g q = b) from fun z => w z.2.2.2.1), Bool.false_and, Bool.or_false]
        exact zdb (by omega)
    · rw [if_neg e, if_neg e, decide_eq_false (show ¬ (p < n ∧ q < n ∧ p ≠ q ∧ g p = b ∧ g q = b) from fun z => e (z.2.2.2.1.trans z.2.2.2.2.symm)), Bool.false_and, Bool.or_false]
      by_cases w : g p < g q
      · rw [if_pos w, if_pos w]; exact zdb (by omega)
      · rw [if_neg w, if_neg w]; exact zdb (by omega)
  · rw [decide_eq_false h, decide_eq_false (show ¬ (p < n ∧ q < n ∧ p ≠ q ∧ g p = b ∧ g q = b) from fun z => h ⟨z.1, z.2.1, z.2.2.1⟩)]; rfl
theorem zkU_d {n m : Nat} {T : Nat → Nat → Bool} {g : Nat → Nat} {a b : Nat} (hab : a < b) (hb : b < 16) (hg : ∀ q, q < n → g q < 16) (p q : Nat) : zkU n m T g (256 + 16 * a + (b + 1)) p q = (zkU n m T g (256 + 16 * a + b) p q || (decide (p < n ∧ q < n ∧ p ≠ q ∧ (g p = a ∧ g q = b ∨ g p = b ∧ g q = a)) && zrD n m T g a b)) := by
  unfold zkU
  by_cases h : p < n ∧ q < n ∧ p ≠ q
  · have h1 := hg p h.1
    have h2 := hg q h.2.1
    rw [decide_eq_true h, Bool.true_and, Bool.true_and]
    by_cases e : g p = g q
    · rw [if_pos e, if_pos e, decide_eq_false (show ¬ (p < n ∧ q < n ∧ p ≠ q ∧ (g p = a ∧ g q = b ∨ g p = b ∧ g q = a)) by omega), Bool.false_and, Bool.or_false]
      exact zdb (by omega)
    · rw [if_neg e, if_neg e]
      by_cases w : g p < g q
      · rw [if_pos w, if_pos w]
        by_cases z : g p = a ∧ g q = b
        · rw [decide_eq_true (show 256 + 16 * g p + g q < 256 + 16 * a + (b + 1) by omega), decide_eq_false (show ¬ 256 + 16 * g p + g q < 256 + 16 * a + b by omega), decide_eq_true (show p < n ∧ q < n ∧ p ≠ q ∧ (g p = a ∧ g q = b ∨ g p = b ∧ g q = a) from ⟨h.1, h.2.1, h.2.2, Or.inl z⟩), z.1, z.2]; simp
        · rw [decide_eq_false (show ¬ (p < n ∧ q < n ∧ p ≠ q ∧ (g p = a ∧ g q = b ∨ g p = b ∧ g q = a)) from fun y => by rcases y.2.2.2 with y | y; exact z y; omega), Bool.false_and, Bool.or_false]
          exact zdb (by omega)
      · rw [if_neg w, if_neg w]
        by_cases z : g p = b ∧ g q = a
        · rw [decide_eq_true (show 256 + 16 * g q + g p < 256 + 16 * a + (b + 1) by omega), decide_eq_false (show ¬ 256 + 16 * g q + g p < 256 + 16 * a + b by omega), decide_eq_true (show p < n ∧ q < n ∧ p ≠ q ∧ (g p = a ∧ g q = b ∨ g p = b ∧ g q = a) from ⟨h.1, h.2.1, h.2.2, Or.inr z⟩), z.1, z.2]; simp
        · rw [decide_eq_false (show ¬ (p < n ∧ q < n ∧ p ≠ q ∧ (g p = a ∧ g q = b ∨ g p = b ∧ g q = a)) from fun y => by rcases y.2.2.2 with y | y; omega; exact z y), Bool.false_and, Bool.or_false]
          exact zdb (by omega)
  · rw [decide_eq_false h, decide_eq_false (show ¬ (p < n ∧ q < n ∧ p ≠ q ∧ (g p = a ∧ g q = b ∨ g p = b ∧ g q = a)) from fun z => h ⟨z.1, z.2.1, z.2.2.1⟩)]; rfl
theorem zkU_s0 {n m : Nat} {T : Nat → Nat → Bool} {g : Nat → Nat} (hg : ∀ q, q < n → g q < 16) (p q : Nat) : zkU n m T g 512 p q = zrS0 n m T g p q := by
  unfold zkU zrS0
  by_cases h : p < n ∧ q < n ∧ p ≠ q
  · have h1 := hg p h.1
    have h2 := hg q h.2.1
    rw [decide_eq_true h, Bool.true_and, Bool.true_and]
    unfold zWq
    rw [Bool.or_false, Bool.or_false]
    by_cases e : g p = g q
    · rw [if_pos e, if_pos e, decide_eq_true (by omega), Bool.true_and]
    · rw [if_neg e, if_neg e]
      by_cases w : g p < g q
      · rw [if_pos w, if_pos w, decide_eq_true (by omega), Bool.true_and]
      · rw [if_neg w, if_neg w, decide_eq_true (by omega), Bool.true_and]
  · rw [decide_eq_false h]; rfl
theorem zkU_lim {n m : Nat} {T : Nat → Nat → Bool} {g : Nat → Nat} {L L' : Nat} (h : ∀ p q, p < n → q < n → (g p = g q → (16 * g p < L ↔ 16 * g p < L')) ∧ (g p < g q → (256 + 16 * g p + g q < L ↔ 256 + 16 * g p + g q < L'))) (p q : Nat) : zkU n m T g L p q = zkU n m T g L' p q := by
  unfold zkU
  by_cases e : p < n ∧ q < n ∧ p ≠ q
  · rw [decide_eq_true e, Bool.true_and, Bool.true_and]
    obtain ⟨a1, a2⟩ := h p q e.1 e.2.1
    obtain ⟨b1, b2⟩ := h q p e.2.1 e.1
    by_cases w : g p = g q
    · rw [if_pos w, if_pos w]; exact zdb (a1 w)
    · rw [if_neg w, if_neg w]
      by_cases z : g p < g q
      · rw [if_pos z, if_pos z]; exact zdb (a2 z)
      · rw [if_neg z, if_neg z]; exact zdb (b2 (by omega))
  · rw [decide_eq_false e]; rfl
/-- the words' limit may go up where there are none between -/
theorem zrV_lim {n m : Nat} {T : Nat → Nat → Bool} {g : Nat → Nat} {L L' : Nat} (h : ∀ c, c < 1024 → zrW n m T g c = true → (c < L ↔ c < L')) (c : Nat) (hc : c < 1024) : zrV n m T g L c = zrV n m T g L' c := by
  unfold zrV
  cases e : zrW n m T g c
  · rw [Bool.and_false, Bool.and_false]
  · exact zdb (h c hc e)
theorem zrV_in {n m : Nat} {T : Nat → Nat → Bool} {g : Nat → Nat} {L : Nat} (h : zrW n m T g L = true) (c : Nat) : (zrV n m T g L c || decide (c = L)) = zrV n m T g (L + 1) c := by
  unfold zrV
  by_cases e : c = L
  · subst e; rw [h]; simp
  · rw [decide_eq_false e, Bool.or_false]; exact zdb (by omega)
theorem zrV_no {n m : Nat} {T : Nat → Nat → Bool} {g : Nat → Nat} {L : Nat} (h : zrW n m T g L = false) (c : Nat) : zrV n m T g L c = zrV n m T g (L + 1) c := by
  unfold zrV
  by_cases e : c = L
  · subst e; rw [h]; simp
  · exact zdb (by omega)
theorem zrV_top {n m : Nat} {T : Nat → Nat → Bool} {g : Nat → Nat} {L : Nat} (d : Nat) (h : L ≤ d) : zrV n m T g L d = false := by unfold zrV; rw [decide_eq_false (by omega)]; rfl
theorem zrW_c {n m : Nat} {T : Nat → Nat → Bool} {g : Nat → Nat} {b : Nat} (hb : b < 16) : zrW n m T g (16 * b) = zrC n m T g b := by
  unfold zrW
  rw [if_pos (by omega), decide_eq_true (by omega), show 16 * b / 16 = b by omega]; rfl
theorem zrW_d {n m : Nat} {T : Nat → Nat → Bool} {g : Nat → Nat} {a b : Nat} (ha : a < 16) (hb : b < 16) : zrW n m T g (256 + 16 * a + b) = zrD n m T g a b := by
  unfold zrW
  rw [if_neg (by omega), if_pos (by omega), show (256 + 16 * a + b) / 16 % 16 = a by omega, show (256 + 16 * a + b) % 16 = b by omega]
theorem zrW_g {n m : Nat} {T : Nat → Nat → Bool} {g : Nat → Nat} {a b : Nat} (ha : a < 16) (hb : b < 16) : zrW n m T g (512 + 16 * a + b) = zrG n m T g a b := by
  unfold zrW
  rw [if_neg (by omega), if_neg (by omega), if_pos (by omega), show (512 + 16 * a + b) / 16 % 16 = a by omega, show (512 + 16 * a + b) % 16 = b by omega]
theorem zrW_h {n m : Nat} {T : Nat → Nat → Bool} {g : Nat → Nat} {b : Nat} (hb : b < 16) : zrW n m T g (768 + 16 * b) = zrH n m T g b := by
  unfold zrW
  rw [if_neg (by omega), if_neg (by omega), if_neg (by omega), decide_eq_true (by omega), decide_eq_true (show 768 + 16 * b < 1024 by omega), show (768 + 16 * b) / 16 % 16 = b by omega]; rfl
