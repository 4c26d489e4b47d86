/-! ===== partings one after the other, as both go through them ===== -/
/-- how many labels the first k posts use -/
def zmU (f : Nat → Nat) : Nat → Nat
  | 0 => 0
  | k + 1 => max (zmU f k) (f k + 1)
theorem zmU_su (f : Nat → Nat) (k : Nat) : zmU f (k + 1) = max (zmU f k) (f k + 1) := rfl
theorem zmU_ext {f h : Nat → Nat} {k : Nat} (e : ∀ i, i < k → f i = h i) : zmU f k = zmU h k := by
  induction k with
  | zero => rfl
  | succ k ih => rw [zmU_su, zmU_su, ih (fun i hi => e i (by omega)), e k (by omega)]
theorem zmU_lt {f : Nat → Nat} {i k : Nat} (h : i < k) : f i < zmU f k := by
  induction k with
  | zero => omega
  | succ k ih =>
    rw [zmU_su]
    by_cases e : i = k
    · subst e; omega
    · have := ih (by omega); omega
theorem zmU_pos {f : Nat → Nat} {k : Nat} (h : 0 < k) : 0 < zmU f k := by have := zmU_lt (f := f) h; omega
theorem zmU_at {f : Nat → Nat} {k : Nat} (h : 0 < k) : ∃ i, i < k ∧ f i + 1 = zmU f k := by
  induction k with
  | zero => omega
  | succ k ih =>
    rw [zmU_su]
    by_cases w : k = 0
    · subst w; exact ⟨0, by omega, by show f 0 + 1 = max 0 (f 0 + 1); omega⟩
    · obtain ⟨i, h1, h2⟩ := ih (by omega)
      by_cases z : zmU f k < f k + 1
      · exact ⟨k, by omega, by omega⟩
      · exact ⟨i, by omega, by omega⟩
/-- labels in the order of their first posts -/
def zRG (n : Nat) (f : Nat → Nat) : Prop := ∀ q, q < n → f q ≤ zmU f q
theorem zRG_mU {n : Nat} {f : Nat → Nat} (h : zRG n f) {k : Nat} (hk : k ≤ n) : zmU f k ≤ k := by
  induction k with
  | zero => exact Nat.le_refl _
  | succ k ih =>
    have h1 := ih (by omega)
    have h2 := h k (by omega)
    rw [zmU_su]; omega
theorem zRG_le {n : Nat} {f : Nat → Nat} (h : zRG n f) {q : Nat} (hq : q < n) : f q ≤ q := Nat.le_trans (h q hq) (zRG_mU h (by omega))
theorem zRG_sur {n : Nat} {f : Nat → Nat} (h : zRG n f) {k : Nat} (hk : k ≤ n) {v : Nat} (hv : v < zmU f k) : ∃ i, i < k ∧ f i = v := by
  induction k with
  | zero => exact absurd hv (Nat.not_lt_zero _)
  | succ k ih =>
    rw [zmU_su] at hv
    have h2 := h k (by omega)
    by_cases w : v < zmU f k
    · obtain ⟨i, h3, h4⟩ := ih (by omega) w
      exact ⟨i, by omega, h4⟩
    · exact ⟨k, by omega, by omega⟩
theorem zRG_cnt {n : Nat} {f : Nat → Nat} (h : zRG n f) {k : Nat} (hk : k ≤ n) : zcnt (zNew f) k = zmU f k := by
  induction k with
  | zero => rfl
  | succ k ih =>
    have h2 := h k (by omega)
    rw [zcnt_su, zmU_su, ih (by omega)]
    by_cases w : f k < zmU f k
    · obtain ⟨i, h3, h4⟩ := zRG_sur h (k := k) (by omega) w
      have hd : zfl f (f k) k < k := by
        have := zfind_ok (fun q => decide (f q = f k)) k
        refine Classical.byContradiction fun z => ?_
        have h5 := zfl_no (f := f) (l := f k) (k := k) (j := i) (by omega)
        exact h5 h4
      rw [zNew_n hd, if_neg (by decide)]; omega
    · have hd : ¬ zfl f (f k) k < k := fun z => by
        have h5 := zfl_at z
        have h6 := zmU_lt (f := f) z
        omega
      rw [zNew_y hd, if_pos rfl]; omega
theorem zRG_num {n : Nat} {f : Nat → Nat} (h : zRG n f) {q : Nat} (hq : q < n) : zNum f q = f q := by
  unfold zNum
  have hle := zfl_le f (f q) q
  have hat : f (zfl f (f q) q) = f q := by
    by_cases w : zfl f (f q) q < q
    · exact zfl_at w
    · rw [show zfl f (f q) q = q by omega]
  have hnw := zNew_at (f := f) (l := f q) (k := q + 1) (by rw [zfl_in (by omega)]; omega)
  rw [zfl_in (by omega)] at hnw
  generalize zfl f (f q) q = j at hle hat hnw ⊢
  rw [zRG_cnt h (by omega)]
  have h2 := h j (by omega)
  refine Classical.byContradiction fun z => ?_
  obtain ⟨i, h3, h4⟩ := zRG_sur h (k := j) (by omega) (v := f j) (by omega)
  have h5 := of_decide_eq_true hnw
  have := zfl_no (f := f) (l := f j) (k := j) (j := i) (by omega)
  exact this h4
theorem zRG_cg {n : Nat} {f : Nat → Nat} (h : zRG n f) : (∀ q, q < n → zcg n f q = f q) ∧ zcmx n f = zmU f n :=
  ⟨fun q hq => by rw [zcg_in hq]; exact zRG_num h hq, by rw [zcm_in]; exact zRG_cnt h (Nat.le_refl _)⟩
/-- the last place below k that can grow; 0: none -/
def zgq (f : Nat → Nat) : Nat → Nat
  | 0 => 0
  | k + 1 => if 0 < k ∧ f k < zmU f k then k else zgq f k
theorem zgq_su (f : Nat → Nat) (k : Nat) : zgq f (k + 1) = if 0 < k ∧ f k < zmU f k then k else zgq f k := rfl
theorem zgq_le (f : Nat → Nat) (k : Nat) : zgq f k ≤ k - 1 := by
  induction k with
  | zero => exact Nat.le_refl _
  | succ k ih => rw [zgq_su]; split <;> omega
theorem zgq_ok {f : Nat → Nat} {k : Nat} (h : zgq f k ≠ 0) : zgq f k < k ∧ f (zgq f k) < zmU f (zgq f k) := by
  induction k with
  | zero => exact absurd rfl h
  | succ k ih =>
    rw [zgq_su] at h ⊢
    by_cases w : 0 < k ∧ f k < zmU f k
    · rw [if_pos w]; exact ⟨by omega, w.2⟩
    · rw [if_neg w] at h ⊢
      have := ih h
      exact ⟨by omega, this.2⟩
/-- the next labels -/
def zgo (f : Nat → Nat) (i : Nat) : Nat → Nat := fun q => if q < i then f q else if q = i then f i + 1 else 0
theorem zgo_mU {f : Nat → Nat} {i k : Nat} (h : k ≤ i) : zmU (zgo f i) k = zmU f k := zmU_ext fun j hj => if_pos (by omega)
theorem zRG_go {n : Nat} {f : Nat → Nat} (h : zRG n f) {i : Nat} (hi : f i < zmU f i) : zRG n (zgo f i) := fun q hq => by
  by_cases w : q < i
  · rw [zgo_mU (by omega)]; unfold zgo; rw [if_pos w]; exact h q hq
  · by_cases e : q = i
    · subst e
      rw [zgo_mU (Nat.le_refl _)]; unfold zgo; rw [if_neg w, if_pos rfl]; omega
    · unfold zgo; rw [if_neg w, if_neg e]; exact Nat.zero_le _
/-- the labels as one number that grows -/
def zvl (f : Nat → Nat) : Nat → Nat
  | 0 => 0
  | k + 1 => zvl f k * (k + 1) + f k
def zfa : Nat → Nat
  | 0 => 1
  | k + 1 => zfa k * (k + 1)
theorem zvl_su (f : Nat → Nat) (k : Nat) : zvl f (k + 1) = zvl f k * (k + 1) + f k := rfl
theorem zvl_ext {f h : Nat → Nat} {k : Nat} (e : ∀ i, i < k → f i = h i) : zvl f k = zvl h k := by
  induction k with
  | zero => rfl
  | succ k ih => rw [zvl_su, zvl_su, ih (fun i hi => e i (by omega)), e k (by omega)]
theorem zvl_lt {n : Nat} {f : Nat → Nat} (h : ∀ q, q < n → f q ≤ q) {k : Nat} (hk : k ≤ n) : zvl f k < zfa k := by
  induction k with
  | zero => exact Nat.zero_lt_one
  | succ k ih =>
    have h1 := ih (by omega)
    have h2 := h k (by omega)
    rw [zvl_su]
    show _ < zfa k * (k + 1)
    have h3 : (zvl f k + 1) * (k + 1) ≤ zfa k * (k + 1) := Nat.mul_le_mul_right _ h1
    rw [Nat.add_mul] at h3
    omega
theorem zvl_go {n : Nat} {f : Nat → Nat} (h : ∀ q, q < n → f q ≤ q) {i : Nat} (d : Nat) (hk : i + 1 + d ≤ n) : zvl f (i + 1 + d) + 1 ≤ zvl (zgo f i) (i + 1 + d) := by
  induction d with
  | zero =>
    rw [Nat.add_zero, zvl_su, zvl_su, zvl_ext (f := zgo f i) (h := f) (fun j hj => if_pos hj)]
    unfold zgo
    rw [if_neg (Nat.lt_irrefl _), if_pos rfl]
    omega
  | succ d ih =>
    have h1 := ih (by omega)
    have h2 := h (i + 1 + d) (by omega)
    rw [show i + 1 + (d + 1) = (i + 1 + d) + 1 by omega, zvl_su, zvl_su]
    have h3 := Nat.mul_le_mul_right (i + 1 + d + 1) h1
    rw [Nat.add_mul] at h3
    omega
/-- the k-th of all partings of n posts -/
def zgs (n : Nat) : Nat → Nat → Nat
  | 0 => fun _ => 0
  | k + 1 => if zgq (zgs n k) n = 0 then zgs n k else zgo (zgs n k) (zgq (zgs n k) n)
theorem zgs_su {n k : Nat} (h : zgq (zgs n k) n ≠ 0) : zgs n (k + 1) = zgo (zgs n k) (zgq (zgs n k) n) := if_neg h
theorem zgs_RG (n k : Nat) : zRG n (zgs n k) := by
  induction k with
  | zero => exact fun q _ => Nat.zero_le _
  | succ k ih =>
    show zRG n (if zgq (zgs n k) n = 0 then zgs n k else zgo (zgs n k) (zgq (zgs n k) n))
    by_cases w : zgq (zgs n k) n = 0
    · rw [if_pos w]; exact ih
    · rw [if_neg w]; exact zRG_go ih (zgq_ok w).2
/-- which of them is the last -/
def zgE (n K : Nat) : Prop := zgq (zgs n K) n = 0 ∧ ∀ j, j < K → zgq (zgs n j) n ≠ 0
theorem zgs_vl (n k : Nat) : (∃ j, j < k ∧ zgE n j) ∨ ((∀ j, j < k → zgq (zgs n j) n ≠ 0) ∧ k ≤ zvl (zgs n k) n) := by
  induction k with
  | zero => exact Or.inr ⟨fun j hj => absurd hj (Nat.not_lt_zero _), Nat.zero_le _⟩
  | succ k ih =>
    rcases ih with ⟨j, h1, h2⟩ | ⟨h1, h2⟩
    · exact Or.inl ⟨j, by omega, h2⟩
    · by_cases w : zgq (zgs n k) n = 0
      · exact Or.inl ⟨k, by omega, w, h1⟩
      · refine Or.inr ⟨fun j hj => ?_, ?_⟩
        · by_cases e : j = k
          · subst e; exact w
          · exact h1 j (by omega)
        · have h3 := (zgq_ok w).1
          rw [zgs_su w]
          have h4 := zvl_go (n := n) (f := zgs n k) (fun q hq => zRG_le (zgs_RG n k) hq) (i := zgq (zgs n k) n) (n - (zgq (zgs n k) n + 1)) (by omega)
          rw [show zgq (zgs n k) n + 1 + (n - (zgq (zgs n k) n + 1)) = n by omega] at h4
          omega
theorem zgE_ex {n : Nat} (hn : n ≤ 8) : ∃ K, K < 40320 ∧ zgE n K := by
  have hb : zfa n ≤ 40320 := by
    rcases (show n = 0 ∨ n = 1 ∨ n = 2 ∨ n = 3 ∨ n = 4 ∨ n = 5 ∨ n = 6 ∨ n = 7 ∨ n = 8 by omega) with e | e | e | e | e | e | e | e | e <;> subst e <;> decide
  rcases zgs_vl n 40320 with ⟨j, h1, h2⟩ | ⟨h1, h2⟩
  · exact ⟨j, h1, h2⟩
  · have := zvl_lt (n := n) (f := zgs n 40320) (fun q hq => zRG_le (zgs_RG n 40320) hq) (Nat.le_refl _)
    omega
/-- the least length so far, how many have it, the first of them -/
def zLs (n : Nat) (T : Nat → Nat → Bool) : Nat → Nat × Nat × (Nat → Nat)
  | 0 => (zLgt n T (zgs n 0), 1, zgs n 0)
  | k + 1 => if zLgt n T (zgs n (k + 1)) < (zLs n T k).1 then (zLgt n T (zgs n (k + 1)), 1, zgs n (k + 1)) else if zLgt n T (zgs n (k + 1)) = (zLs n T k).1 then ((zLs n T k).1, (zLs n T k).2.1 + 1, (zLs n T k).2.2) else zLs n T k
theorem zLs_su (n : Nat) (T : Nat → Nat → Bool) (k : Nat) : zLs n T (k + 1) = if zLgt n T (zgs n (k + 1)) < (zLs n T k).1 then (zLgt n T (zgs n (k + 1)), 1, zgs n (k + 1)) else if zLgt n T (zgs n (k + 1)) = (zLs n T k).1 then ((zLs n T k).1, (zLs n T k).2.1 + 1, (zLs n T k).2.2) else zLs n T k := rfl
theorem zLs_b {n : Nat} (hn : n ≤ 16) (T : Nat → Nat → Bool) (k : Nat) : (zLs n T k).1 ≤ 20000 ∧ (zLs n T k).2.1 ≤ k + 1 ∧ zRG n (zLs n T k).2.2 := by
  induction k with
  | zero => exact ⟨zLn_le hn, Nat.le_refl _, zgs_RG n 0⟩
  | succ k ih =>
    rw [zLs_su]
    split
    · exact ⟨zLn_le hn, by show 1 ≤ _; omega, zgs_RG n _⟩
    · split
      · exact ⟨ih.1, by show _ + 1 ≤ _; omega, ih.2.2⟩
      · exact ⟨ih.1, by omega, ih.2.2⟩
