/-! ===== boxes in a line: the class ===== -/
theorem ybit {s b : Nat} (hs : s < 65536) (hb : b < 16) : yand (yshr ((s : Nat) : Int) ((b : Nat) : Int)) 1 = zbI (s.testBit b) := by
  rw [za_mk hs, yand_1 _ hb]
  rfl
theorem zor_lt {s b : Nat} (hs : s < 65536) (hb : b < 16) : s ||| 2 ^ b < 65536 := Nat.or_lt_two_pow (n := 16) hs (Nat.pow_lt_pow_right (by decide) hb)
theorem ybor {s b : Nat} (hs : s < 65536) (hb : b < 16) : yor ((s : Nat) : Int) (yshl 1 ((b : Nat) : Int)) = ((s ||| 2 ^ b : Nat) : Int) := by
  rw [za_mk (zor_lt hs hb), za_mk hs, yshl_mk hb, yor_mk]
  refine zmk_ext fun i _ => ?_
  rw [Nat.testBit_or, Nat.testBit_two_pow]
  congr 1
  exact decide_eq_decide.mpr ⟨fun h => h.symm, fun h => h.symm⟩
/-- a set of boxes as a number -/
def zmsk (t : Nat → Bool) : Nat → Nat
  | 0 => 0
  | k + 1 => zmsk t k ||| (if t k = true then 2 ^ k else 0)
theorem zmsk_bit (t : Nat → Bool) (m x : Nat) : (zmsk t m).testBit x = (decide (x < m) && t x) := by
  induction m with
  | zero => show (0 : Nat).testBit x = _; rw [Nat.zero_testBit, decide_eq_false (Nat.not_lt_zero x)]; rfl
  | succ m ih =>
    show (zmsk t m ||| (if t m = true then 2 ^ m else 0)).testBit x = _
    rw [Nat.testBit_or, ih]
    by_cases e : x = m
    · subst e
      rw [decide_eq_false (Nat.lt_irrefl _), decide_eq_true (Nat.lt_succ_self x), Bool.false_and, Bool.false_or, Bool.true_and]
      cases h : t x
      · rw [if_neg (by decide), Nat.zero_testBit]
      · rw [if_pos rfl, Nat.testBit_two_pow_self]
    · have h2 : (if t m = true then 2 ^ m else 0).testBit x = false := by
        split
        · rw [Nat.testBit_two_pow]; exact decide_eq_false (fun z => e z.symm)
        · exact Nat.zero_testBit x
      rw [h2, Bool.or_false, zdb (show x < m ↔ x < m + 1 by omega)]
theorem zmsk_lt (t : Nat → Bool) (m : Nat) : zmsk t m < 2 ^ m := by
  refine Nat.lt_pow_two_of_testBit _ (fun i hi => ?_)
  rw [zmsk_bit, decide_eq_false (by omega)]
  rfl
theorem zmsk_of {m s : Nat} (hs : s < 2 ^ m) : zmsk s.testBit m = s := Nat.eq_of_testBit_eq fun i => by
  rw [zmsk_bit]
  by_cases h : i < m
  · rw [decide_eq_true h, Bool.true_and]
  · rw [decide_eq_false h, Bool.false_and]
    exact (Nat.testBit_lt_two_pow (Nat.lt_of_lt_of_le hs (Nat.pow_le_pow_right (by decide) (by omega)))).symm
theorem zmsk_ext {t u : Nat → Bool} {m : Nat} (h : ∀ x, x < m → t x = u x) : zmsk t m = zmsk u m := Nat.eq_of_testBit_eq fun i => by
  rw [zmsk_bit, zmsk_bit]
  by_cases w : i < m
  · rw [h i w]
  · rw [decide_eq_false w]; rfl
theorem zmsk_add {t : Nat → Bool} {m b : Nat} (hb : b < m) : zmsk (fun x => t x || decide (x = b)) m = zmsk t m ||| 2 ^ b := Nat.eq_of_testBit_eq fun i => by
  rw [zmsk_bit, Nat.testBit_or, zmsk_bit, Nat.testBit_two_pow]
  by_cases w : i = b
  · subst w
    rw [decide_eq_true hb, decide_eq_true rfl, Bool.or_true, Bool.or_true]; rfl
  · rw [decide_eq_false (show ¬ i = b from w), decide_eq_false (show ¬ b = i from fun z => w z.symm), Bool.or_false, Bool.or_false]
theorem zmsk_full {m : Nat} {t : Nat → Bool} (h : ∀ x, x < m → t x = true) : zmsk t m = 2 ^ m - 1 := Nat.eq_of_testBit_eq fun i => by
  rw [zmsk_bit, Nat.testBit_two_pow_sub_one]
  by_cases w : i < m
  · rw [decide_eq_true w, h i w]; rfl
  · rw [decide_eq_false w]; rfl
/-- what goes over, as the class counts it -/
theorem zsum_pick {m : Nat} {s T : Nat → Bool} {f : Nat → Nat} (n : Nat) (hf : ∀ q, q < n → f q < m) : zsum (fun y => if s y = false then zcnt (fun q => T q && decide (f q = y)) n else 0) m = zcnt (fun q => T q && !s (f q)) n := by
  induction n with
  | zero => exact zsum_z fun y _ => by split <;> rfl
  | succ n ih =>
    have h1 := ih (fun q hq => hf q (by omega))
    rw [zcnt_su, ← h1]
    have e : zsum (fun y => if s y = false then zcnt (fun q => T q && decide (f q = y)) (n + 1) else 0) m = zsum (fun y => (if s y = false then zcnt (fun q => T q && decide (f q = y)) n else 0) + (if s y = false ∧ (T n && decide (f n = y)) = true then 1 else 0)) m := zsum_ext fun y _ => by
      rw [zcnt_su]
      by_cases w : s y = false
      · rw [if_pos w, if_pos w]
        by_cases w2 : (T n && decide (f n = y)) = true
        · rw [if_pos w2, if_pos ⟨w, w2⟩]
        · rw [if_neg w2, if_neg (fun z => w2 z.2)]
      · rw [if_neg w, if_neg w, if_neg (fun z => w z.1)]
    rw [e, zsum_addf]
    congr 1
    have h2 := zsum_at (f := fun y => if s y = false ∧ (T n && decide (f n = y)) = true then 1 else 0) (g := fun _ => 0) (k := f n) (v := if (T n && !s (f n)) = true then 1 else 0) (n := m) (hf n (by omega)) (by
      (try dsimp only)
      cases s (f n) <;> cases T n <;> simp) (fun i hi => by
      (try dsimp only)
      rw [decide_eq_false (fun z => hi z.symm), Bool.and_false, if_neg (by simp)])
    rw [h2, zsum_z (fun _ _ => rfl), Nat.zero_add]
theorem zcu_posts {m : Nat} {s : Nat → Bool} {T : Nat → Nat → Bool} {f : Nat → Nat} {n : Nat} (hf : ∀ q, q < n → f q < m) : zcu m (fun x y => zbw T f n x y n) s = zsum (fun p => if s (f p) = true then zcnt (fun q => T p q && !s (f q)) n else 0) n := by
  have key : ∀ k, k ≤ n → zsum (fun x => zsum (fun y => if s x = true ∧ s y = false then zbw T f n x y k else 0) m) m = zsum (fun p => if s (f p) = true then zcnt (fun q => T p q && !s (f q)) n else 0) k := by
    intro k
    induction k with
    | zero => exact fun _ => zsum_z fun x _ => zsum_z fun y _ => by split <;> rfl
    | succ k ih =>
      intro hk
      rw [zsum_su, ← ih (by omega)]
      have e : zsum (fun x => zsum (fun y => if s x = true ∧ s y = false then zbw T f n x y (k + 1) else 0) m) m = zsum (fun x => zsum (fun y => if s x = true ∧ s y = false then zbw T f n x y k else 0) m + (if s x = true ∧ f k = x then zcnt (fun q => T k q && !s (f q)) n else 0)) m := zsum_ext fun x hx => by
        by_cases w : s x = true ∧ f k = x
        · rw [if_pos w, ← zsum_pick n hf, ← zsum_addf]
          refine zsum_ext fun y _ => ?_
          by_cases w2 : s y = false
          · rw [if_pos ⟨w.1, w2⟩, if_pos ⟨w.1, w2⟩, if_pos w2, zbw_su, if_pos w.2]
          · rw [if_neg (fun z => w2 z.2), if_neg (fun z => w2 z.2), if_neg w2]
        · rw [if_neg w, Nat.add_zero]
          refine zsum_ext fun y _ => ?_
          by_cases w2 : s x = true ∧ s y = false
          · rw [if_pos w2, if_pos w2, zbw_su, if_neg (fun z => w ⟨w2.1, z⟩), Nat.add_zero]
          · rw [if_neg w2, if_neg w2]
      rw [e, zsum_addf]
      congr 1
      have h2 := zsum_at (f := fun x => if s x = true ∧ f k = x then zcnt (fun q => T k q && !s (f q)) n else 0) (g := fun _ => 0) (k := f k) (v := if s (f k) = true then zcnt (fun q => T k q && !s (f q)) n else 0) (n := m) (hf k (by omega)) (by
        (try dsimp only)
        rw [Nat.zero_add]
        by_cases w : s (f k) = true
        · rw [if_pos ⟨w, rfl⟩, if_pos w]
        · rw [if_neg (fun z => w z.1), if_neg w]) (fun i hi => by
        (try dsimp only)
        rw [if_neg (fun z => hi z.2.symm)])
      rw [h2, zsum_z (fun _ _ => rfl), Nat.zero_add]
  exact key n (Nat.le_refl _)
theorem zsum_ifc {s : Nat → Bool} {F : Nat → Nat} {c : Nat} (h : ∀ i, F i ≤ c) (n : Nat) : zsum (fun p => if s p = true then F p else 0) n ≤ c * zcnt s n := by
  induction n with
  | zero => exact Nat.zero_le _
  | succ n ih =>
    rw [zsum_su, zcnt_su]
    have := h n
    (try dsimp only)
    by_cases w : s n = true
    · rw [if_pos w, if_pos w, Nat.mul_succ]; omega
    · rw [if_neg w, if_neg w]; omega
theorem zcnt_not (s : Nat → Bool) (n : Nat) : zcnt s n + zcnt (fun q => !s q) n = n := by
  induction n with
  | zero => rfl
  | succ n ih =>
    rw [zcnt_su, zcnt_su]
    cases s n <;> simp <;> omega
theorem zcu_le {m : Nat} {s : Nat → Bool} {T : Nat → Nat → Bool} {f : Nat → Nat} {n : Nat} (hn : n ≤ 16) (hf : ∀ q, q < n → f q < m) : zcu m (fun x y => zbw T f n x y n) s ≤ 64 := by
  rw [zcu_posts hf]
  have h1 := zsum_ifc (s := fun p => s (f p)) (F := fun p => zcnt (fun q => T p q && !s (f q)) n) (c := zcnt (fun q => !s (f q)) n) (fun i => zcnt_sub fun q _ h => by rw [Bool.and_eq_true] at h; exact h.2) n
  have h2 := zcnt_not (fun q => s (f q)) n
  refine Nat.le_trans h1 ?_
  generalize zcnt (fun q => s (f q)) n = a at h2
  generalize zcnt (fun q => !s (f q)) n = b at h2
  have h3 : ∀ a b : Fin 17, a.val + b.val ≤ 16 → b.val * a.val ≤ 64 := by decide
  exact h3 ⟨a, by omega⟩ ⟨b, by omega⟩ (by show a + b ≤ 16; omega)
