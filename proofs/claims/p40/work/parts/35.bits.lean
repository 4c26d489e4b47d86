/-! ===== bits of ints ===== -/
def zbt (x : Int) (i : Nat) : Bool := (zi x).toBitVec.getLsbD i
theorem zi_inv {x y : Int} (hx : zin32 x) (hy : zin32 y) (h : zi x = zi y) : x = y := (zi_eq hx hy).mp h
theorem zb_ext {x y : Int} (hx : zin32 x) (hy : zin32 y) (h : ∀ i, i < 32 → zbt x i = zbt y i) : x = y := by
  refine zi_inv hx hy ?_
  rw [← Int32.toBitVec_inj]
  exact BitVec.eq_of_getLsbD_eq fun i hi => h i hi
theorem zb_ge {x : Int} {i : Nat} (h : 32 ≤ i) : zbt x i = false := BitVec.getLsbD_of_ge _ _ h
theorem zb_and (x y : Int) (i : Nat) : zbt (zand x y) i = (zbt x i && zbt y i) := by
  unfold zbt; rw [← zand_i, Int32.toBitVec_and, BitVec.getLsbD_and]
theorem zb_or (x y : Int) (i : Nat) : zbt (zor x y) i = (zbt x i || zbt y i) := by
  unfold zbt; rw [← zor_i, Int32.toBitVec_or, BitVec.getLsbD_or]
theorem zb_xor (x y : Int) (i : Nat) : zbt (zxor x y) i = (zbt x i ^^ zbt y i) := by
  unfold zbt; rw [← zxor_i, Int32.toBitVec_xor, BitVec.getLsbD_xor]
theorem zb_m1 (i : Nat) : zbt (-1) i = decide (i < 32) := by
  unfold zbt
  have : (zi (-1)).toBitVec = BitVec.allOnes 32 := by decide
  rw [this, BitVec.getLsbD_allOnes]
theorem zb_nat {n : Nat} (hn : n < 2147483648) (i : Nat) : zbt (n : Int) i = n.testBit i := by
  unfold zbt zi
  rw [Int32.ofInt_eq_ofNat]
  have : (Int32.ofNat n).toBitVec = BitVec.ofNat 32 n := rfl
  rw [this, BitVec.getLsbD_ofNat]
  by_cases h : i < 32
  · simp [h]
  · have : n.testBit i = false := Nat.testBit_lt_two_pow (Nat.lt_of_lt_of_le (by omega : n < 2 ^ 31) (Nat.pow_le_pow_right (by decide) (by omega)))
    simp [h, this]
theorem zsm32 : ∀ k, k < 32 → ((zi (k : Nat) &&& 31).toBitVec.smod 32).toNat = k := by decide
theorem zb_shl (x : Int) {k : Nat} (hk : k < 32) (i : Nat) : zbt (zshl x k) i = (decide (i < 32) && (decide (k ≤ i) && zbt x (i - k))) := by
  unfold zbt
  rw [← zshl_i, Int32.toBitVec_shiftLeft]
  rw [BitVec.shiftLeft_eq', zsm32 k hk, BitVec.getLsbD_shiftLeft]
  by_cases h1 : i < 32
  · by_cases h2 : k ≤ i
    · simp [h1, h2, show ¬ i < k by omega]
    · simp [h1, h2, show i < k by omega]
  · simp [h1]
theorem zb_shr {x : Int} (hx : 0 ≤ x) (hx2 : zin32 x) {k : Nat} (hk : k < 32) (i : Nat) : zbt (zshr x k) i = (decide (i < 32) && zbt x (i + k)) := by
  unfold zbt
  rw [← zshr_i, Int32.toBitVec_shiftRight]
  rw [BitVec.sshiftRight_eq', zsm32 k hk, BitVec.getLsbD_sshiftRight]
  have hm : (zi x).toBitVec.msb = false := by
    rw [BitVec.msb_eq_decide]
    have : (zi x).toBitVec.toNat = x.toNat := by
      have h1 : (zi x).toInt = x := zi_toInt hx2
      have h2 : (zi x).toBitVec.toInt = x := h1
      rw [BitVec.toInt_eq_toNat_cond] at h2
      have := (zi x).toBitVec.isLt
      split at h2 <;> omega
    rw [this]
    have := hx2.2
    simp
    omega
  rw [hm]
  by_cases h1 : i < 32
  · by_cases h2 : k + i < 32
    · simp [h1, h2, Nat.add_comm]
    · simp [h1, h2]
      first | exact (BitVec.getLsbD_of_ge (zi x).toBitVec (i + k) (by omega)).symm | exact BitVec.getLsbD_of_ge (zi x).toBitVec (i + k) (by omega) | (intro q; have := BitVec.getLsbD_of_ge (zi x).toBitVec (i + k) (by omega); rw [this] at q; cases q)
  · simp [h1]
theorem zb_1 (i : Nat) : zbt 1 i = decide (i = 0) := by
  have := zb_nat (n := 1) (by decide) i
  rw [show ((1 : Nat) : Int) = 1 from rfl] at this
  rw [this]
  cases i with
  | zero => rfl
  | succ i => simp [Nat.testBit_succ]
theorem zb_0 (i : Nat) : zbt 0 i = false := by
  have := zb_nat (n := 0) (by decide) i
  rw [show ((0 : Nat) : Int) = 0 from rfl] at this
  rw [this]; simp
theorem zb_bit {k : Nat} (hk : k < 32) (i : Nat) : zbt (zshl 1 k) i = decide (i = k) := by
  rw [zb_shl 1 hk, zb_1]
  by_cases h : i = k
  · subst h; simp [hk]
  · simp [h]; omega
theorem zand_in (x y : Int) : zin32 (zand x y) := zi_in _
theorem zor_in (x y : Int) : zin32 (zor x y) := zi_in _
theorem zxor_in (x y : Int) : zin32 (zxor x y) := zi_in _
theorem zshl_in (x y : Int) : zin32 (zshl x y) := zi_in _
theorem zshr_in (x y : Int) : zin32 (zshr x y) := zi_in _
/-- the number whose bits below 16 are s -/
def zmkN (s : Nat → Bool) : Nat → Nat
  | 0 => 0
  | k + 1 => zmkN s k + (if s k = true then 2 ^ k else 0)
def zmk (s : Nat → Bool) : Int := (zmkN s 16 : Nat)
theorem zmkN_lt (s : Nat → Bool) (k : Nat) : zmkN s k < 2 ^ k := by
  induction k with
  | zero => exact Nat.one_pos
  | succ k ih =>
    unfold zmkN
    rw [Nat.pow_succ]
    split <;> omega
theorem zmkN_bit (s : Nat → Bool) (k i : Nat) : (zmkN s k).testBit i = (decide (i < k) && s i) := by
  induction k with
  | zero => simp [zmkN]
  | succ k ih =>
    have hl := zmkN_lt s k
    unfold zmkN
    split
    next h =>
      rw [Nat.add_comm]
      by_cases hi : i = k
      · subst hi
        rw [Nat.testBit_two_pow_add_eq, Nat.testBit_lt_two_pow hl]
        simp [h]
      · rcases Nat.lt_or_ge i k with h1 | h1
        · rw [Nat.testBit_two_pow_add_gt h1, ih]
          simp [h1, show i < k + 1 by omega]
        · have h2 : 2 ^ k + zmkN s k < 2 ^ i := Nat.lt_of_lt_of_le (by rw [Nat.pow_succ]; omega : 2 ^ k + zmkN s k < 2 ^ (k + 1)) (Nat.pow_le_pow_right (by decide) (by omega))
          rw [Nat.testBit_lt_two_pow h2]
          simp [show ¬ i < k + 1 by omega]
    next h =>
      rw [Nat.add_zero, ih]
      by_cases hi : i = k
      · subst hi; simp [h]
      · rcases Nat.lt_or_ge i k with h1 | h1
        · simp [h1, show i < k + 1 by omega]
        · simp [show ¬ i < k by omega, show ¬ i < k + 1 by omega]
theorem zmk_lt (s : Nat → Bool) : 0 ≤ zmk s ∧ zmk s < 65536 := by
  have := zmkN_lt s 16
  unfold zmk
  omega
theorem zmk_in (s : Nat → Bool) : zin32 (zmk s) := by have := zmk_lt s; exact ⟨by omega, by omega⟩
theorem zb_mk (s : Nat → Bool) (i : Nat) : zbt (zmk s) i = (decide (i < 16) && s i) := by
  have := zmkN_lt s 16
  unfold zmk
  rw [zb_nat (by omega), zmkN_bit]
theorem zmk_ext {s t : Nat → Bool} (h : ∀ i, i < 16 → s i = t i) : zmk s = zmk t := by
  refine zb_ext (zmk_in s) (zmk_in t) fun i _ => ?_
  rw [zb_mk, zb_mk]
  by_cases hi : i < 16
  · rw [h i hi]
  · simp [hi]
theorem zmk_inj {s t : Nat → Bool} (h : zmk s = zmk t) : ∀ i, i < 16 → s i = t i := by
  intro i hi
  have h1 := zb_mk s i
  rw [h, zb_mk] at h1
  simpa [hi] using h1.symm
theorem zmk_and (s t : Nat → Bool) : zand (zmk s) (zmk t) = zmk (fun i => s i && t i) := zb_ext (zand_in _ _) (zmk_in _) fun i _ => by
  rw [zb_and, zb_mk, zb_mk, zb_mk]; by_cases hi : i < 16 <;> simp [hi]
theorem zmk_or (s t : Nat → Bool) : zor (zmk s) (zmk t) = zmk (fun i => s i || t i) := zb_ext (zor_in _ _) (zmk_in _) fun i _ => by
  rw [zb_or, zb_mk, zb_mk, zb_mk]; by_cases hi : i < 16 <;> simp [hi]
theorem zmk_xor (s t : Nat → Bool) : zxor (zmk s) (zmk t) = zmk (fun i => s i ^^ t i) := zb_ext (zxor_in _ _) (zmk_in _) fun i _ => by
  rw [zb_xor, zb_mk, zb_mk, zb_mk]; by_cases hi : i < 16 <;> simp [hi]
theorem zmk_bit {k : Nat} (hk : k < 16) : zshl 1 k = zmk (fun i => decide (i = k)) := zb_ext (zshl_in _ _) (zmk_in _) fun i _ => by
  rw [zb_bit (by omega), zb_mk]; by_cases hi : i < 16
  · simp [hi]
  · simp [hi]; omega
theorem zmk_0 : (0 : Int) = zmk (fun _ => false) := by decide
/-- without: x & ~y -/
theorem zmk_not (s t : Nat → Bool) : zand (zmk s) (zxor (zmk t) (-1)) = zmk (fun i => s i && !t i) := zb_ext (zand_in _ _) (zmk_in _) fun i hi => by
  rw [zb_and, zb_xor, zb_m1, zb_mk, zb_mk, zb_mk]; by_cases h : i < 16 <;> simp [h, hi]
theorem zand_1 (x : Int) : zand x 1 = if zbt x 0 = true then 1 else 0 := by
  have h01 : ∀ b : Bool, zin32 (if b = true then 1 else 0) := fun b => by cases b <;> exact ⟨by decide, by decide⟩
  refine zb_ext (zand_in _ _) (h01 _) fun i hi => ?_
  rw [zb_and, zb_1]
  by_cases h : i = 0
  · subst h
    cases hx : zbt x 0 <;> simp [zb_0, zb_1]
  · cases hx : zbt x 0 <;> simp [h, zb_0, zb_1]
/-- one bit read -/
theorem zmk_get (s : Nat → Bool) {k : Nat} (hk : k < 16) : zand (zshr (zmk s) k) 1 = if s k = true then 1 else 0 := by
  rw [zand_1, zb_shr (zmk_lt s).1 (zmk_in s) (by omega), zb_mk]
  simp [hk]
theorem zmk_and_bit (s : Nat → Bool) {k : Nat} (hk : k < 16) : zand (zmk s) (zshl 1 k) = 0 ↔ s k = false := by
  rw [zmk_bit hk, zmk_and]
  constructor
  · intro h
    have := zmk_inj (h.trans zmk_0) k hk
    simpa using this
  · intro h
    rw [zmk_0]
    refine zmk_ext fun i _ => ?_
    by_cases hik : i = k
    · subst hik; simp [h]
    · simp [hik]
theorem zmk_eq0 (s : Nat → Bool) : zmk s = 0 ↔ ∀ i, i < 16 → s i = false := ⟨fun h => zmk_inj (h.trans zmk_0), fun h => by rw [zmk_0]; exact zmk_ext h⟩
/-- every number of 16 bits is one of these -/
theorem zmk_of {x : Int} (h0 : 0 ≤ x) (h1 : x < 65536) : x = zmk (zbt x) := by
  refine zb_ext ⟨by omega, by omega⟩ (zmk_in _) fun i hi => ?_
  rw [zb_mk]
  by_cases h : i < 16
  · simp [h]
  · have hx : x = (x.toNat : Nat) := by omega
    rw [hx, zb_nat (by omega)]
    have : x.toNat.testBit i = false := Nat.testBit_lt_two_pow (Nat.lt_of_lt_of_le (by omega : x.toNat < 2 ^ 16) (Nat.pow_le_pow_right (by decide) (by omega)))
    simp [h, this]
