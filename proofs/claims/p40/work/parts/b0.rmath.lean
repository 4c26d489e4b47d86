/-! ===== words by the rule, as functions of a net T and boxes g of n posts ===== -/
def zrC (n m : Nat) (T : Nat → Nat → Bool) (g : Nat → Nat) (i : Nat) : Bool := decide (i < m ∧ 1 < zSz g n i ∧ 0 < ((2 + 2 * zBits n : Nat) : Int) * zP2 (zwo g T i i) n - 3 - ((zBits m : Nat) : Int))
def zrD (n m : Nat) (T : Nat → Nat → Bool) (g : Nat → Nat) (i j : Nat) : Bool := decide (i < j ∧ j < m ∧ 0 < ((2 + 2 * zBits n : Nat) : Int) * zP2 (zwo g T i j) n - 3 - 2 * ((zBits m : Nat) : Int))
def zrS0 (n m : Nat) (T : Nat → Nat → Bool) (g : Nat → Nat) : Nat → Nat → Bool := fun p q => decide (p < n ∧ q < n ∧ p ≠ q) && zWq g (zrC n m T g) (zrD n m T g) (fun _ _ => false) p q
/-- ties less others, of what a star of p and box i would say anew -/
def zrw (T : Nat → Nat → Bool) (g : Nat → Nat) (S : Nat → Nat → Bool) (p i q : Nat) : Int := if q ≠ p ∧ g q = i ∧ S p q = false then zsg (T p q) else 0
def zrO (n : Nat) (T : Nat → Nat → Bool) (g : Nat → Nat) (S : Nat → Nat → Bool) (p i : Nat) : Int := zsI (zrw T g S p i) n
def zrc (n m : Nat) (T : Nat → Nat → Bool) (g : Nat → Nat) (S : Nat → Nat → Bool) (p i : Nat) : Bool := decide (0 < ((2 + 2 * zBits n : Nat) : Int) * zrO n T g S p i - 3 - ((zBits n : Nat) : Int) - ((zBits m : Nat) : Int))
/-- what a star says comes in -/
def zrA (n : Nat) (g : Nat → Nat) (p i : Nat) (S : Nat → Nat → Bool) : Nat → Nat → Bool := fun a b => S a b || (decide (a = p ∧ b ≠ p ∧ b < n ∧ g b = i) || decide (b = p ∧ a ≠ p ∧ a < n ∧ g a = i))
def zrI (n m : Nat) (T : Nat → Nat → Bool) (g : Nat → Nat) (S : Nat → Nat → Bool) (p : Nat) : Nat → Nat → Nat → Bool
  | 0 => S
  | i + 1 => if zrc n m T g (zrI n m T g S p i) p i = true then zrA n g p i (zrI n m T g S p i) else zrI n m T g S p i
def zrP (n m : Nat) (T : Nat → Nat → Bool) (g : Nat → Nat) : Nat → Nat → Nat → Bool
  | 0 => zrS0 n m T g
  | p + 1 => zrI n m T g (zrP n m T g p) p m
def zrG (n m : Nat) (T : Nat → Nat → Bool) (g : Nat → Nat) (p i : Nat) : Bool := decide (p < n ∧ i < m) && zrc n m T g (zrI n m T g (zrP n m T g p) p i) p i
/-- ties less others, of what a chain would say anew -/
def zrk (T : Nat → Nat → Bool) (r : Nat → Nat) (S : Nat → Nat → Bool) (k : Nat) : Int := if S (r k) (r (k + 1)) = true then 0 else zsg (T (r k) (r (k + 1)))
def zrK (T : Nat → Nat → Bool) (r : Nat → Nat) (S : Nat → Nat → Bool) (s : Nat) : Int := zsI (zrk T r S) (s - 1)
def zrh (n m : Nat) (T : Nat → Nat → Bool) (g : Nat → Nat) (S : Nat → Nat → Bool) (i : Nat) : Bool := decide (2 ≤ zSz g n i ∧ 0 < ((2 + 2 * zBits n : Nat) : Int) * zrK T (zrow n g T i) S (zSz g n i) - 3 - ((zBits m : Nat) : Int))
def zrQ (n m : Nat) (T : Nat → Nat → Bool) (g : Nat → Nat) : Nat → Nat → Nat → Bool
  | 0 => zrP n m T g n
  | i + 1 => if zrh n m T g (zrQ n m T g i) i = true then zchn (zrQ n m T g i) (zrow n g T i) 0 (zSz g n i - 1) else zrQ n m T g i
def zrH (n m : Nat) (T : Nat → Nat → Bool) (g : Nat → Nat) (i : Nat) : Bool := decide (i < m) && zrh n m T g (zrQ n m T g i) i
def zrSd (n m : Nat) (T : Nat → Nat → Bool) (g : Nat → Nat) : Nat → Nat → Bool := zrQ n m T g m
theorem zrI_su (n m : Nat) (T : Nat → Nat → Bool) (g : Nat → Nat) (S : Nat → Nat → Bool) (p i : Nat) : zrI n m T g S p (i + 1) = if zrc n m T g (zrI n m T g S p i) p i = true then zrA n g p i (zrI n m T g S p i) else zrI n m T g S p i := rfl
theorem zrQ_su (n m : Nat) (T : Nat → Nat → Bool) (g : Nat → Nat) (i : Nat) : zrQ n m T g (i + 1) = if zrh n m T g (zrQ n m T g i) i = true then zchn (zrQ n m T g i) (zrow n g T i) 0 (zSz g n i - 1) else zrQ n m T g i := rfl
theorem zBits_4 {n : Nat} (h : n ≤ 16) : zBits n ≤ 4 := by unfold zBits; (repeat' split) <;> omega
theorem zmulb {e x B : Int} (h0 : 0 ≤ e) (h1 : e ≤ 10) (h2 : -B ≤ x) (h3 : x ≤ B) : -(10 * B) ≤ e * x ∧ e * x ≤ 10 * B := by
  have hB : 0 ≤ B := by omega
  have a1 : e * x ≤ e * B := Int.mul_le_mul_of_nonneg_left h3 h0
  have a2 : e * B ≤ 10 * B := Int.mul_le_mul_of_nonneg_right h1 hB
  have a3 : e * (-B) ≤ e * x := Int.mul_le_mul_of_nonneg_left h2 h0
  rw [Int.mul_neg] at a3
  omega
theorem zsI_b1 {w : Nat → Int} {c : Int} {n : Nat} (h : ∀ i, i < n → -c ≤ w i ∧ w i ≤ c) : ∀ k, k ≤ n → -(k * c) ≤ zsI w k ∧ zsI w k ≤ k * c := by
  intro k
  induction k with
  | zero => intro _; simp [zsI]
  | succ k ih =>
    intro hk
    have := h k (by omega)
    have h2 := ih (by omega)
    have e : ((k + 1 : Nat) : Int) * c = k * c + c := by rw [Int.natCast_add, Int.add_mul]; simp
    unfold zsI
    rw [e]
    omega
theorem zrw_b (T : Nat → Nat → Bool) (g : Nat → Nat) (S : Nat → Nat → Bool) (p i q : Nat) : -1 ≤ zrw T g S p i q ∧ zrw T g S p i q ≤ 1 := by
  unfold zrw
  have := zsg_b (T p q)
  split <;> omega
theorem zrk_b (T : Nat → Nat → Bool) (r : Nat → Nat) (S : Nat → Nat → Bool) (k : Nat) : -1 ≤ zrk T r S k ∧ zrk T r S k ≤ 1 := by
  unfold zrk
  have := zsg_b (T (r k) (r (k + 1)))
  split <;> omega
theorem zcnt_ex {s : Nat → Bool} {n p : Nat} (h : p < n) (hp : s p = true) : 1 ≤ zcnt s n := by
  have := zcnt_lt s h hp
  omega
theorem zcnt_two {s : Nat → Bool} {n p q : Nat} (h : p < q) (hq : q < n) (hp : s p = true) (hq2 : s q = true) : 2 ≤ zcnt s n := by
  have := zcnt_lt s h hp
  have := zcnt_lt s hq hq2
  omega
theorem zrO_pos {n : Nat} {T : Nat → Nat → Bool} {g : Nat → Nat} {S : Nat → Nat → Bool} {p i : Nat} (hp : p < n) (h : 0 < zrO n T g S p i) : (if g p = i then 1 else 0) < zSz g n i := by
  have : ∃ q, q < n ∧ q ≠ p ∧ g q = i := Classical.byContradiction fun hn => by
    have : zrO n T g S p i = 0 := zsI_0 fun q hq => by
      unfold zrw
      rw [if_neg (fun w => hn ⟨q, hq, w.1, w.2.1⟩)]
    omega
  obtain ⟨q, h1, h2, h3⟩ := this
  unfold zSz
  split
  next e =>
    rcases Nat.lt_or_ge p q with w | w
    · exact zcnt_two w h1 (decide_eq_true e) (decide_eq_true h3)
    · exact zcnt_two (show q < p by omega) hp (decide_eq_true h3) (decide_eq_true e)
  next => exact zcnt_ex h1 (decide_eq_true h3)
theorem zSz_nw {f : Nat → Nat} {n b : Nat} (h : b < zcnt (zNew f) n) : ∃ p, p < n ∧ zNum f p = b := by
  obtain ⟨p, h1, _, h3⟩ := zNum_on h
  exact ⟨p, h1, h3⟩
theorem zChs_no (S : Nat → Nat → Bool) (r : Nat → Nat → Nat) (s : Nat → Nat) (m : Nat) : zChs S (fun _ => false) r s m = S := by
  induction m with
  | zero => rfl
  | succ m ih => unfold zChs; rw [if_neg (by simp)]; exact ih
theorem zx_3 {x a b : Int} (h1 : -100000 ≤ x ∧ x ≤ 100000) (h2 : 0 ≤ a ∧ a ≤ 1000) (h3 : 0 ≤ b ∧ b ≤ 1000) : zw32 (zw32 (zw32 x - a) - b) = x - a - b := by
  rw [zx_s (x := x) (by omega) (by omega), zx_s (x := x - a) (by omega) (by omega), zx_s (by omega) (by omega)]
theorem zx_4 {x a b c : Int} (h1 : -100000 ≤ x ∧ x ≤ 100000) (h2 : 0 ≤ a ∧ a ≤ 1000) (h3 : 0 ≤ b ∧ b ≤ 1000) (h4 : 0 ≤ c ∧ c ≤ 1000) : zw32 (zw32 (zw32 (zw32 x - a) - b) - c) = x - a - b - c := by
  rw [zx_3 h1 h2 h3, zx_s (by omega) (by omega)]
theorem zdb {P Q : Prop} [Decidable P] [Decidable Q] {b : Bool} (h : P ↔ Q) : (decide P && b) = (decide Q && b) := by rw [decide_eq_decide.mpr h]
