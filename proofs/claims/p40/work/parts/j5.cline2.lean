/-! ===== boxes in a line: the class's table and its order ===== -/
/-- the least of the first b boxes that are not in a set yet -/
def zmnB (m : Nat) (w : Nat → Nat → Nat) (T : Nat → Nat) (s : Nat) : Nat → Nat
  | 0 => 1920
  | b + 1 => if s.testBit b = true then zmnB m w T s b else min (zmnB m w T s b) (zcu m w (s ||| 2 ^ b).testBit + T (s ||| 2 ^ b))
/-- the table: what it holds of sets from a number on -/
def zTbl (m : Nat) (w : Nat → Nat → Nat) (T : Nat → Nat) (from' : Nat) : Prop := T (2 ^ m - 1) = 0 ∧ ∀ s, from' ≤ s → s < 2 ^ m - 1 → T s = zmnB m w T s m
theorem zor_gt {s b : Nat} (h : s.testBit b = false) : s < s ||| 2 ^ b := by
  have h1 : s ≤ s ||| 2 ^ b := Nat.left_le_or
  rcases Nat.lt_or_ge s (s ||| 2 ^ b) with q | q
  · exact q
  · have e : s ||| 2 ^ b = s := Nat.le_antisymm q h1
    have h2 : (s ||| 2 ^ b).testBit b = true := by rw [Nat.testBit_or, Nat.testBit_two_pow_self, Bool.or_true]
    rw [e, h] at h2
    cases h2
theorem zor_m {s b m : Nat} (hs : s < 2 ^ m) (hb : b < m) : s ||| 2 ^ b < 2 ^ m := Nat.or_lt_two_pow hs (Nat.pow_lt_pow_right (by decide) hb)
theorem zmnB_le {m : Nat} {w : Nat → Nat → Nat} {T : Nat → Nat} {s : Nat} (k : Nat) : zmnB m w T s k ≤ 1920 ∧ ∀ b, b < k → s.testBit b = false → zmnB m w T s k ≤ zcu m w (s ||| 2 ^ b).testBit + T (s ||| 2 ^ b) := by
  induction k with
  | zero => exact ⟨Nat.le_refl _, fun b hb => absurd hb (by omega)⟩
  | succ k ih =>
    obtain ⟨h1, h2⟩ := ih
    unfold zmnB
    by_cases e : s.testBit k = true
    · rw [if_pos e]
      refine ⟨h1, fun b hb hs => ?_⟩
      by_cases w2 : b = k
      · subst w2; rw [e] at hs; cases hs
      · exact h2 b (by omega) hs
    · rw [if_neg e]
      refine ⟨by omega, fun b hb hs => ?_⟩
      by_cases w2 : b = k
      · subst w2; omega
      · have := h2 b (by omega) hs; omega
theorem zmnB_at {m : Nat} {w : Nat → Nat → Nat} {T : Nat → Nat} {s : Nat} (k : Nat) : zmnB m w T s k = 1920 ∨ ∃ b, b < k ∧ s.testBit b = false ∧ zmnB m w T s k = zcu m w (s ||| 2 ^ b).testBit + T (s ||| 2 ^ b) := by
  induction k with
  | zero => exact Or.inl rfl
  | succ k ih =>
    unfold zmnB
    by_cases e : s.testBit k = true
    · rw [if_pos e]
      rcases ih with h | ⟨b, h1, h2, h3⟩
      · exact Or.inl h
      · exact Or.inr ⟨b, by omega, h2, h3⟩
    · rw [if_neg e]
      have e2 : s.testBit k = false := by
        cases q : s.testBit k
        · rfl
        · exact absurd q e
      rcases Nat.le_total (zmnB m w T s k) (zcu m w (s ||| 2 ^ k).testBit + T (s ||| 2 ^ k)) with q | q
      · rw [Nat.min_eq_left q]
        rcases ih with h | ⟨b, h1, h2, h3⟩
        · exact Or.inl h
        · exact Or.inr ⟨b, by omega, h2, h3⟩
      · rw [Nat.min_eq_right q]
        exact Or.inr ⟨k, by omega, e2, rfl⟩
theorem zTbl_B {m : Nat} {w : Nat → Nat → Nat} {T : Nat → Nat} (h : zTbl m w T 0) : zBh m w (fun t => T (zmsk t m)) := by
  refine ⟨fun s hs => ?_, fun s t e => ?_, fun s b hb hsb => ?_⟩
  · show T (zmsk s m) = 0
    rw [zmsk_full hs]; exact h.1
  · show T (zmsk s m) = T (zmsk t m)
    rw [zmsk_ext e]
  · show T (zmsk s m) ≤ zcu m w (fun x => s x || decide (x = b)) + T (zmsk (fun x => s x || decide (x = b)) m)
    rw [zmsk_add hb]
    have h1 := zmsk_lt s m
    have h2 : (zmsk s m).testBit b = false := by rw [zmsk_bit, hsb, Bool.and_false]
    have h3 := zor_gt h2
    have h4 := zor_m h1 hb
    rw [h.2 (zmsk s m) (Nat.zero_le _) (by omega)]
    have h5 := (zmnB_le (m := m) (w := w) (T := T) (s := zmsk s m) m).2 b hb h2
    rw [zcu_ext (t := fun x => s x || decide (x = b)) (fun x hx => by rw [Nat.testBit_or, zmsk_bit, Nat.testBit_two_pow, decide_eq_true hx, Bool.true_and, decide_eq_decide.mpr (show b = x ↔ x = b from ⟨fun z => z.symm, fun z => z.symm⟩)])] at h5
    exact h5
/-- the order that the class takes: a set and the box behind it -/
def zcan (m : Nat) (w : Nat → Nat → Nat) (T : Nat → Nat) (s b : Nat) : Bool := !s.testBit b && decide (zcu m w (s ||| 2 ^ b).testBit + T (s ||| 2 ^ b) = T s)
def zgs2 (m : Nat) (w : Nat → Nat → Nat) (T : Nat → Nat) : Nat → Nat
  | 0 => 0
  | k + 1 => zgs2 m w T k ||| 2 ^ zfind (zcan m w T (zgs2 m w T k)) m
def zgb2 (m : Nat) (w : Nat → Nat → Nat) (T : Nat → Nat) (k : Nat) : Nat := zfind (zcan m w T (zgs2 m w T k)) m
theorem zgp_cap {m : Nat} {w : Nat → Nat → Nat} {o : Nat → Nat} (hc : ∀ s, zcu m w s ≤ 64) (k : Nat) : zgp m w o k ≤ (m - k) * 64 := zsum_cap (fun _ => hc _) _
theorem zTbl_cap {m : Nat} {w : Nat → Nat → Nat} {T : Nat → Nat} (h : zTbl m w T 0) (hm8 : m ≤ 8) (hc : ∀ s, zcu m w s ≤ 64) (s : Nat) (hs : s < 2 ^ m) : T s ≤ (m - zcnt s.testBit m) * 64 ∧ (s < 2 ^ m - 1 → zfind (zcan m w T s) m < m) := by
  obtain ⟨d, hd⟩ : ∃ d, m - zcnt s.testBit m = d := ⟨_, rfl⟩
  induction d generalizing s with
  | zero =>
    have h1 := zcnt_le s.testBit m
    have h2 : ∀ x, x < m → s.testBit x = true := fun x hx => by
      cases e : s.testBit x
      · have := zcnt_sub1 (s := s.testBit) (t := fun _ => true) (fun _ _ _ => rfl) hx e rfl
        have := zcnt_le (fun _ => true) m
        omega
      · rfl
    have h3 : s = 2 ^ m - 1 := by rw [← zmsk_of hs]; exact zmsk_full h2
    subst h3
    exact ⟨by rw [h.1]; exact Nat.zero_le _, fun z => absurd z (Nat.lt_irrefl _)⟩
  | succ d ih =>
    have h1 : ∃ b, b < m ∧ s.testBit b = false := by
      refine Classical.byContradiction fun hn => ?_
      have h2 : zcnt s.testBit m = zcnt (fun _ => true) m := zcnt_ext fun x hx => by
        cases e : s.testBit x
        · exact absurd ⟨x, hx, e⟩ hn
        · rfl
      have h3 : ∀ N, zcnt (fun _ => true) N = N := fun N => by
        induction N with
        | zero => rfl
        | succ N ih => rw [zcnt_su, ih]; rfl
      rw [h3] at h2
      omega
    have hst : ∀ b, b < m → s.testBit b = false → T (s ||| 2 ^ b) ≤ d * 64 := fun b hb hsb => by
      have e1 : zcnt (s ||| 2 ^ b).testBit m = zcnt s.testBit m + 1 := by
        have e2 : zcnt (s ||| 2 ^ b).testBit m = zcnt (fun x => s.testBit x || decide (x = b)) m := zcnt_ext fun x _ => by rw [Nat.testBit_or, Nat.testBit_two_pow, decide_eq_decide.mpr (show b = x ↔ x = b from ⟨fun z => z.symm, fun z => z.symm⟩)]
        rw [e2, zcnt_ins hsb, if_pos hb]
      have := (ih (s ||| 2 ^ b) (zor_m hs hb) (by omega)).1
      rw [show m - zcnt (s ||| 2 ^ b).testBit m = d by omega] at this
      exact this
    obtain ⟨b, hb, hsb⟩ := h1
    have h4 := zor_gt hsb
    have h5 := zor_m hs hb
    have h6 := h.2 s (Nat.zero_le _) (by omega)
    have h7 := (zmnB_le (m := m) (w := w) (T := T) (s := s) m).2 b hb hsb
    have h8 := hst b hb hsb
    have h9 := hc (s ||| 2 ^ b).testBit
    have hd8 : d + 1 ≤ 8 := by omega
    refine ⟨by rw [h6]; omega, fun _ => ?_⟩
    rcases zmnB_at (m := m) (w := w) (T := T) (s := s) m with q | ⟨c, c1, c2, c3⟩
    · omega
    · refine Nat.lt_of_le_of_lt (Nat.le_of_not_lt fun z => ?_) c1
      have := (zfind_ok (zcan m w T s) m).2.2 c z
      unfold zcan at this
      rw [c2, h6, c3, decide_eq_true rfl] at this
      cases this
theorem zgr_of {m : Nat} {w : Nat → Nat → Nat} {T : Nat → Nat} (h : zTbl m w T 0) (hm8 : m ≤ 8) (hc : ∀ s, zcu m w s ≤ 64) : zgr m w (fun t => T (zmsk t m)) (zgb2 m w T) m ∧ ∀ k, k ≤ m → zgs2 m w T k < 2 ^ m ∧ zmsk (zpf (zgb2 m w T) k) m = zgs2 m w T k := by
  have key : ∀ k, k ≤ m → (∀ j, j < k → zgb2 m w T j < m) ∧ zgs2 m w T k < 2 ^ m ∧ zmsk (zpf (zgb2 m w T) k) m = zgs2 m w T k ∧ zcnt (zgs2 m w T k).testBit m = k := by
    intro k
    induction k with
    | zero =>
      intro _
      refine ⟨fun j hj => absurd hj (by omega), Nat.two_pow_pos m, ?_, zcnt_z fun i _ => Nat.zero_testBit i⟩
      refine Nat.eq_of_testBit_eq fun i => ?_
      rw [zmsk_bit]
      show (decide (i < m) && zpf _ 0 i) = (0 : Nat).testBit i
      rw [Nat.zero_testBit, show zpf (zgb2 m w T) 0 i = false from decide_eq_false (fun ⟨j, h1, _⟩ => absurd h1 (by omega)), Bool.and_false]
    | succ k ih =>
      intro hk
      obtain ⟨i1, i2, i3, i4⟩ := ih (by omega)
      have hne : zgs2 m w T k < 2 ^ m - 1 := by
        rcases Nat.lt_or_ge (zgs2 m w T k) (2 ^ m - 1) with q | q
        · exact q
        · have e : zgs2 m w T k = 2 ^ m - 1 := by omega
          have h3 : zcnt (zgs2 m w T k).testBit m = m := by
            rw [e, zcnt_ext (t := fun _ => true) (fun x hx => by rw [Nat.testBit_two_pow_sub_one, decide_eq_true hx])]
            have : ∀ N, zcnt (fun _ => true) N = N := fun N => by
              induction N with
              | zero => rfl
              | succ N ih => rw [zcnt_su, ih]; rfl
            exact this m
          omega
      have hb : zgb2 m w T k < m := (zTbl_cap h hm8 hc _ i2).2 hne
      have hat : zcan m w T (zgs2 m w T k) (zgb2 m w T k) = true := (zfind_ok (zcan m w T (zgs2 m w T k)) m).2.1 hb
      have hnb : (zgs2 m w T k).testBit (zgb2 m w T k) = false := by
        unfold zcan at hat
        rw [Bool.and_eq_true] at hat
        cases q : (zgs2 m w T k).testBit (zgb2 m w T k)
        · rfl
        · have := hat.1
          rw [q] at this
          cases this
      have hgs : zgs2 m w T (k + 1) = zgs2 m w T k ||| 2 ^ zgb2 m w T k := rfl
      refine ⟨fun j hj => ?_, by rw [hgs]; exact zor_m i2 hb, ?_, ?_⟩
      · by_cases e : j = k
        · subst e; exact hb
        · exact i1 j (by omega)
      · rw [hgs, ← i3, ← zmsk_add hb]
        exact zmsk_ext fun x _ => zpf_su _ _ _
      · rw [hgs, zcnt_ext (t := fun x => (zgs2 m w T k).testBit x || decide (x = zgb2 m w T k)) (fun x _ => by rw [Nat.testBit_or, Nat.testBit_two_pow, decide_eq_decide.mpr (show zgb2 m w T k = x ↔ x = zgb2 m w T k from ⟨fun z => z.symm, fun z => z.symm⟩)]), zcnt_ins hnb, if_pos hb, i4]
  refine ⟨fun k hk => ?_, fun k hk => ⟨(key k hk).2.1, (key k hk).2.2.1⟩⟩
  obtain ⟨i1, i2, i3, i4⟩ := key k (by omega)
  obtain ⟨j1, j2, j3, j4⟩ := key (k + 1) (by omega)
  have hb : zgb2 m w T k < m := j1 k (by omega)
  have hat : zcan m w T (zgs2 m w T k) (zgb2 m w T k) = true := (zfind_ok (zcan m w T (zgs2 m w T k)) m).2.1 hb
  unfold zcan at hat
  rw [Bool.and_eq_true, decide_eq_true_eq] at hat
  obtain ⟨a1, a2⟩ := hat
  have hbit : ∀ x, x < m → (zgs2 m w T k).testBit x = zpf (zgb2 m w T) k x := fun x hx => by rw [← i3, zmsk_bit, decide_eq_true hx, Bool.true_and]
  have hor : ∀ b, b < m → zcu m w (fun x => zpf (zgb2 m w T) k x || decide (x = b)) + T (zmsk (fun x => zpf (zgb2 m w T) k x || decide (x = b)) m) = zcu m w (zgs2 m w T k ||| 2 ^ b).testBit + T (zgs2 m w T k ||| 2 ^ b) := fun b hb2 => by
    rw [zmsk_add hb2, i3]
    congr 1
    exact zcu_ext fun x hx => by rw [Nat.testBit_or, Nat.testBit_two_pow, hbit x hx, decide_eq_decide.mpr (show b = x ↔ x = b from ⟨fun z => z.symm, fun z => z.symm⟩)]
  refine ⟨hb, ?_, ?_, fun b hb2 hnb => ?_⟩
  · rw [← hbit _ hb]
    cases q : (zgs2 m w T k).testBit (zgb2 m w T k)
    · rfl
    · rw [q] at a1
      cases a1
  · show zcu m w (zpf (zgb2 m w T) (k + 1)) + T (zmsk (zpf (zgb2 m w T) (k + 1)) m) = T (zmsk (zpf (zgb2 m w T) k) m)
    rw [show zpf (zgb2 m w T) (k + 1) = (fun x => zpf (zgb2 m w T) k x || decide (x = zgb2 m w T k)) from funext fun x => zpf_su _ _ _, hor _ hb, i3]
    exact a2
  · show zcu m w (fun x => zpf (zgb2 m w T) k x || decide (x = b)) + T (zmsk (fun x => zpf (zgb2 m w T) k x || decide (x = b)) m) ≠ T (zmsk (zpf (zgb2 m w T) k) m)
    rw [hor b (by omega), i3]
    intro z
    have h3 := (zfind_ok (zcan m w T (zgs2 m w T k)) m).2.2 b hb2
    unfold zcan at h3
    rw [hbit b (by omega), hnb, z, decide_eq_true rfl] at h3
    cases h3
theorem zLin_g {m : Nat} {w : Nat → Nat → Nat} {T : Nat → Nat} (h : zTbl m w T 0) (hm8 : m ≤ 8) (hc : ∀ s, zcu m w s ≤ 64) : T 0 = zst2 m w (zLin m w) ∧ ∀ k, k < m → zgb2 m w T k = zLin m w k := by
  obtain ⟨h1, h2⟩ := zgr_of h hm8 hc
  have hB := zTbl_B h
  have hg := zgr_pm h1
  have hF : zFst m w (zgb2 m w T) := ⟨hg, fun p hp => zgr_first hB h1 hp⟩
  obtain ⟨e1, e2⟩ := zLin_ok hF
  refine ⟨?_, e2⟩
  have h3 := zgr_st hB h1 0 (Nat.zero_le _)
  rw [← zst2_gp hg] at h3
  rw [← e1, h3]
  show T 0 = T (zmsk (zpf (zgb2 m w T) 0) m)
  rw [(h2 0 (Nat.zero_le _)).2]
  rfl
