/-! the JDK's count of bits -/
def zpopN (x : Nat) : Nat := (fun i => (fun i => (fun i => (fun i => (fun i => i &&& 63) (i + i / 65536)) (i + i / 256)) ((i + i / 16) &&& 252645135)) ((i &&& 858993459) + ((i / 4) &&& 858993459))) (x - ((x / 2) &&& 1431655765))
def zpopB (x : Nat) : Nat → Nat
  | 0 => 0
  | k + 1 => zpopB x k + x / 2 ^ k % 2
/-- all numbers below 2^k behind x, whose bits so far are c -/
def zpopT : Nat → Nat → Nat → Bool
  | 0, x, c => Nat.beq (zpopN x) c
  | k + 1, x, c => zpopT k (2 * x) c && zpopT k (2 * x + 1) (c + 1)
theorem zpopB_low {y : Nat} {k : Nat} : ∀ {j : Nat}, j ≤ k → zpopB (2 ^ k + y) j = zpopB y j := by
  intro j
  induction j with
  | zero => exact fun _ => rfl
  | succ j ih =>
    intro hj
    show zpopB (2 ^ k + y) j + (2 ^ k + y) / 2 ^ j % 2 = zpopB y j + y / 2 ^ j % 2
    have e : 2 ^ k = 2 ^ j * (2 * 2 ^ (k - j - 1)) := by
      rw [← Nat.mul_assoc, ← Nat.pow_succ, ← Nat.pow_add]
      congr 1
      omega
    have h : (2 ^ k + y) / 2 ^ j = 2 * 2 ^ (k - j - 1) + y / 2 ^ j := by
      rw [e, Nat.mul_add_div (Nat.two_pow_pos j)]
    rw [ih (by omega), h]
    omega
theorem zpopT_ok : ∀ (k x c : Nat), zpopT k x c = true → ∀ y, y < 2 ^ k → zpopN (x * 2 ^ k + y) = c + zpopB y k := by
  intro k
  induction k with
  | zero =>
    intro x c h y hy
    have e : y = 0 := by
      have : (2 : Nat) ^ 0 = 1 := rfl
      omega
    subst e
    have h2 := Nat.eq_of_beq_eq_true h
    show zpopN (x * 1 + 0) = c + 0
    rw [Nat.mul_one, Nat.add_zero, Nat.add_zero]
    exact h2
  | succ k ih =>
    intro x c h y hy
    unfold zpopT at h
    rw [Bool.and_eq_true] at h
    have hp : 2 ^ (k + 1) = 2 * 2 ^ k := by rw [Nat.pow_succ, Nat.mul_comm]
    have hp0 := Nat.two_pow_pos k
    rw [hp] at hy
    by_cases w : y < 2 ^ k
    · have h1 := ih (2 * x) c h.1 y w
      have e : x * 2 ^ (k + 1) + y = 2 * x * 2 ^ k + y := by rw [hp, Nat.mul_comm 2 x, Nat.mul_assoc]
      have e2 : y / 2 ^ k = 0 := Nat.div_eq_of_lt w
      rw [e, h1]
      show c + zpopB y k = c + (zpopB y k + y / 2 ^ k % 2)
      rw [e2]
      omega
    · obtain ⟨z, rfl⟩ : ∃ z, y = 2 ^ k + z := ⟨y - 2 ^ k, by omega⟩
      have h1 := ih (2 * x + 1) (c + 1) h.2 z (by omega)
      have e : x * 2 ^ (k + 1) + (2 ^ k + z) = (2 * x + 1) * 2 ^ k + z := by rw [hp, Nat.add_mul, Nat.mul_comm 2 x, Nat.mul_assoc]; omega
      have e2 : (2 ^ k + z) / 2 ^ k = 1 := by
        rw [Nat.add_div_left _ hp0, Nat.div_eq_of_lt (by omega)]
      rw [e, h1]
      show c + 1 + zpopB z k = c + (zpopB (2 ^ k + z) k + (2 ^ k + z) / 2 ^ k % 2)
      rw [e2, zpopB_low (Nat.le_refl k)]
      omega
/-- the same by the kernel's own operations alone -/
def zpopQ (x : Nat) : Nat := (fun i => (fun i => (fun i => (fun i => (fun i => Nat.land i 63) (Nat.add i (Nat.div i 65536))) (Nat.add i (Nat.div i 256))) (Nat.land (Nat.add i (Nat.div i 16)) 252645135)) (Nat.add (Nat.land i 858993459) (Nat.land (Nat.div i 4) 858993459))) (Nat.sub x (Nat.land (Nat.div x 2) 1431655765))
noncomputable def zpopR (k : Nat) : Nat → Nat → Bool := Nat.rec (motive := fun _ => Nat → Nat → Bool) (fun x c => Nat.beq (zpopQ x) c) (fun _ ih x c => Bool.rec (motive := fun _ => Bool) false (ih (Nat.succ (Nat.mul 2 x)) (Nat.succ c)) (ih (Nat.mul 2 x) c)) k
theorem zpopR_eq : ∀ (k x c : Nat), zpopR k x c = zpopT k x c := by
  intro k
  induction k with
  | zero => exact fun _ _ => rfl
  | succ k ih =>
    intro x c
    show Bool.rec (motive := fun _ => Bool) false (zpopR k (2 * x + 1) (c + 1)) (zpopR k (2 * x) c) = (zpopT k (2 * x) c && zpopT k (2 * x + 1) (c + 1))
    rw [ih, ih]
    cases zpopT k (2 * x) c <;> rfl
theorem zpop_all : zpopT 16 0 0 = true := (zpopR_eq 16 0 0).symm.trans (by decide +kernel)
theorem zpop_ok {x : Nat} (h : x < 65536) : zpopN x = zpopB x 16 := by
  have := zpopT_ok 16 0 0 zpop_all x h
  rw [Nat.zero_mul, Nat.zero_add, Nat.zero_add] at this
  exact this
