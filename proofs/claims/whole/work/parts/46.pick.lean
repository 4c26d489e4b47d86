/-! ===== lowest bits; the k-th of a set; the k-th pair of a net ===== -/
/-- the least place below n with s, or n -/
def zfind (s : Nat → Bool) : Nat → Nat
  | 0 => 0
  | n + 1 => if zfind s n < n then zfind s n else if s n = true then n else n + 1
theorem zfind_ok (s : Nat → Bool) (n : Nat) : zfind s n ≤ n ∧ (zfind s n < n → s (zfind s n) = true) ∧ ∀ j, j < zfind s n → s j = false := by
  induction n with
  | zero => exact ⟨Nat.le_refl _, fun h => absurd h (Nat.lt_irrefl _), fun j h => absurd h (Nat.not_lt_zero _)⟩
  | succ n ih =>
    obtain ⟨h1, h2, h3⟩ := ih
    unfold zfind
    by_cases h : zfind s n < n
    · rw [if_pos h]; exact ⟨by omega, fun _ => h2 h, h3⟩
    · rw [if_neg h]
      have e : zfind s n = n := by omega
      cases hs : s n
      · simp only [Bool.false_eq_true, if_false]
        exact ⟨Nat.le_refl _, fun q => absurd q (Nat.lt_irrefl _), fun j hj => by
          rcases Nat.lt_or_ge j n with q | q
          · exact h3 j (by omega)
          · rw [show j = n by omega]; exact hs⟩
      · simp only [if_true]
        exact ⟨by omega, fun _ => hs, fun j hj => h3 j (by omega)⟩
theorem zmkN_low {s t : Nat → Bool} {i : Nat} (hs : s i = true) (ht : t i = false) (h1 : ∀ j, j < i → s j = false ∧ t j = true) (h2 : ∀ j, i < j → s j = t j) (k : Nat) : (k ≤ i → zmkN s k = 0 ∧ zmkN t k + 1 = 2 ^ k) ∧ (i < k → zmkN s k = zmkN t k + 1) := by
  induction k with
  | zero => exact ⟨fun _ => ⟨rfl, rfl⟩, fun h => absurd h (Nat.not_lt_zero _)⟩
  | succ k ih =>
    unfold zmkN
    refine ⟨fun h => ?_, fun h => ?_⟩
    · obtain ⟨a, b⟩ := h1 k (by omega)
      obtain ⟨c, d⟩ := ih.1 (by omega)
      rw [a, b, c]
      simp only [Bool.false_eq_true, if_false, if_true, Nat.pow_succ]
      exact ⟨trivial, by omega⟩
    · rcases Nat.lt_or_ge i k with q | q
      · rw [h2 k q, ih.2 q]; omega
      · have e : k = i := by omega
        subst e
        obtain ⟨c, d⟩ := ih.1 (Nat.le_refl _)
        rw [hs, ht, c]
        simp only [Bool.false_eq_true, if_false, if_true]
        omega
theorem zmk_pred {s : Nat → Bool} {i : Nat} (hi : i < 16) (hs : s i = true) (h1 : ∀ j, j < i → s j = false) : zmk s - 1 = zmk (fun j => decide (j < i) || (decide (i < j) && s j)) := by
  have h := (zmkN_low (t := fun j => decide (j < i) || (decide (i < j) && s j)) hs (by simp) (fun j hj => ⟨h1 j hj, by simp [hj]⟩) (fun j hj => by simp [hj]; intro q; omega) 16).2 hi
  unfold zmk
  rw [h]
  omega
theorem zneg_not (a : Int32) : -a = (a - 1) ^^^ (-1) := by
  rw [Int32.xor_neg_one, Int32.not_eq_neg_sub, Int32.neg_sub]
  exact Int32.eq_sub_iff_add_eq.mpr (by rw [Int32.sub_eq_add_neg, Int32.add_comm])
/-- the lowest bit -/
theorem yand_neg {s : Nat → Bool} {i : Nat} (hi : i < 16) (hs : s i = true) (h1 : ∀ j, j < i → s j = false) : yand (zmk s) (zw32 (-(zmk s))) = zmk (fun j => decide (j = i)) := by
  have hb := zmk_lt s
  rw [zx_s (by omega) (by omega), yand_eq]
  have e : zand (zmk s) (-(zmk s)) = zand (zmk s) (zxor (zmk s - 1) (-1)) := by
    unfold zand zxor
    done
  rw [e, zmk_pred hi hs h1, zmk_not]
  refine zmk_ext fun j _ => ?_
  by_cases q : j = i
  · subst q; simp [hs]
  · rcases Nat.lt_or_ge j i with r | r
    · simp [h1 j r, q]
    · have : i < j := by omega
      simp [q, this]
