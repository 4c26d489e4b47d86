/-! ===== tokens of a text: mathematics ===== -/
/-- the sort of a byte: 0 blank, 1 letter, 2 digit, 3 semicolon, 4 other -/
def zkcs (c : Nat) : Nat := if c = 9 ∨ c = 10 ∨ c = 13 ∨ c = 32 then 0 else if 97 ≤ c ∧ c ≤ 122 then 1 else if 48 ≤ c ∧ c ≤ 57 then 2 else if c = 59 then 3 else 4
def zby (B : Nat → Nat) (s k : Nat) : Nat := if k < s then B k else 0
def zsr (B : Nat → Nat) (s k : Nat) : Nat := zkcs (zby B s k)
theorem zsr_end {B : Nat → Nat} {s k : Nat} (h : s ≤ k) : zsr B s k = 4 := by
  unfold zsr zby
  rw [if_neg (by omega)]
  rfl
theorem zsr_in {B : Nat → Nat} {s k : Nat} (h : k < s) : zsr B s k = zkcs (B k) := by
  unfold zsr zby
  rw [if_pos h]
theorem zkcs_le (c : Nat) : zkcs c ≤ 4 := by
  unfold zkcs
  split
  · omega
  · split
    · omega
    · split
      · omega
      · split <;> omega
theorem zkcs_1 {c : Nat} (h : zkcs c = 1) : 97 ≤ c ∧ c ≤ 122 := by
  unfold zkcs at h
  split at h
  · omega
  · split at h
    · omega
    · split at h
      · omega
      · split at h <;> omega
theorem zkcs_2 {c : Nat} (h : zkcs c = 2) : 48 ≤ c ∧ c ≤ 57 := by
  unfold zkcs at h
  split at h
  · omega
  · split at h
    · omega
    · split at h
      · omega
      · split at h <;> omega
theorem zkcs_3 {c : Nat} (h : zkcs c = 3) : c = 59 := by
  unfold zkcs at h
  split at h
  · omega
  · split at h
    · omega
    · split at h
      · omega
      · split at h <;> omega
/-- the first place from k on that isn't blank -/
def zksk (B : Nat → Nat) (s k : Nat) : Nat := zfind (fun j => decide (k ≤ j ∧ zsr B s j ≠ 0)) s
theorem zksk_ok (B : Nat → Nat) {s k : Nat} (h : k ≤ s) : k ≤ zksk B s k ∧ zksk B s k ≤ s ∧ (∀ j, k ≤ j → j < zksk B s k → zsr B s j = 0) ∧ zsr B s (zksk B s k) ≠ 0 := by
  obtain ⟨a, b, c⟩ := zfind_ok (fun j => decide (k ≤ j ∧ zsr B s j ≠ 0)) s
  have e : zksk B s k = zfind (fun j => decide (k ≤ j ∧ zsr B s j ≠ 0)) s := rfl
  rw [← e] at a b c
  refine ⟨?_, a, fun j h1 h2 => ?_, ?_⟩
  · rcases Nat.lt_or_ge (zksk B s k) s with q | q
    · exact (of_decide_eq_true (b q)).1
    · omega
  · have := of_decide_eq_false (c j h2)
    exact Classical.byContradiction fun z => this ⟨h1, z⟩
  · rcases Nat.lt_or_ge (zksk B s k) s with q | q
    · exact (of_decide_eq_true (b q)).2
    · rw [zsr_end q]; decide
theorem zksk_s (B : Nat → Nat) (s : Nat) : zksk B s s = s := by
  have := zksk_ok B (Nat.le_refl s)
  omega
/-- the token that begins at k goes on over j -/
def zcp (B : Nat → Nat) (s k j : Nat) : Bool := decide (zsr B s j = zsr B s k ∧ (zsr B s k = 1 ∨ zsr B s k = 2))
def zen (B : Nat → Nat) (s k : Nat) : Nat := zfind (fun j => decide (k < j) && !zcp B s k j) s
theorem zen_ok (B : Nat → Nat) {s k : Nat} (h : k < s) : k < zen B s k ∧ zen B s k ≤ s ∧ (∀ j, k < j → j < zen B s k → zcp B s k j = true) ∧ zcp B s k (zen B s k) = false := by
  obtain ⟨a, b, c⟩ := zfind_ok (fun j => decide (k < j) && !zcp B s k j) s
  have e : zen B s k = zfind (fun j => decide (k < j) && !zcp B s k j) s := rfl
  rw [← e] at a b c
  refine ⟨?_, a, fun j h1 h2 => ?_, ?_⟩
  · rcases Nat.lt_or_ge (zen B s k) s with q | q
    · have := b q
      rw [Bool.and_eq_true] at this
      exact of_decide_eq_true this.1
    · omega
  · have := c j h2
    rw [decide_eq_true h1, Bool.true_and] at this
    cases z : zcp B s k j
    · rw [z] at this; cases this
    · rfl
  · rcases Nat.lt_or_ge (zen B s k) s with q | q
    · have := b q
      rw [Bool.and_eq_true] at this
      cases z : zcp B s k (zen B s k)
      · rfl
      · rw [z] at this; cases this.2
    · refine decide_eq_false fun z => ?_
      rw [zsr_end q] at z
      omega
theorem zen_s (B : Nat → Nat) (s : Nat) : zen B s s = s := by
  obtain ⟨a, b, c⟩ := zfind_ok (fun j => decide (s < j) && !zcp B s s j) s
  have e : zen B s s = zfind (fun j => decide (s < j) && !zcp B s s j) s := rfl
  rw [← e] at a b c
  rcases Nat.lt_or_ge (zen B s s) s with q | q
  · have := b q
    rw [Bool.and_eq_true] at this
    have := of_decide_eq_true this.1
    omega
  · omega
theorem zcp_t {B : Nat → Nat} {s k j : Nat} (h : zcp B s k j = true) : zsr B s j = zsr B s k ∧ (zsr B s k = 1 ∨ zsr B s k = 2) := of_decide_eq_true h
theorem zcp_f {B : Nat → Nat} {s k j : Nat} (h : zcp B s k j = false) : ¬ (zsr B s j = zsr B s k ∧ (zsr B s k = 1 ∨ zsr B s k = 2)) := of_decide_eq_false h
/-- a number out of bytes -/
def zvg (m d : Nat) (B : Nat → Nat) (k : Nat) : Nat → Nat
  | 0 => 0
  | c + 1 => zvg m d B k c * m + (B (k + c) - d)
theorem zvg_lt {m d : Nat} {B : Nat → Nat} {k : Nat} : ∀ (c : Nat), (∀ j, j < c → B (k + j) - d < m) → zvg m d B k c < m ^ c := by
  intro c
  induction c with
  | zero => exact fun _ => Nat.one_pos
  | succ c ih =>
    intro h
    have h1 := ih (fun j hj => h j (by omega))
    have h2 := h c (by omega)
    show zvg m d B k c * m + (B (k + c) - d) < m ^ (c + 1)
    rw [Nat.pow_succ]
    have h3 : (zvg m d B k c + 1) * m ≤ m ^ c * m := Nat.mul_le_mul_right _ h1
    rw [Nat.succ_mul] at h3
    omega
def zkvl (B : Nat → Nat) (s k e : Nat) : Nat := if zsr B s k = 1 then zvg 27 96 B k (min (e - k) 8) else zvg 10 48 B k (min (e - k) 8)
def zwn (v : Nat) : Nat := if v = 1887 then 3 else if v = 1960177 then 4 else if v = 1752773 then 5 else if v = 10277596 then 6 else if v = 388602 then 7 else if v = 10631 then 8 else if v = 28959 then 9 else 0
theorem zwn_le (v : Nat) : zwn v = 0 ∨ 3 ≤ zwn v ∧ zwn v ≤ 9 := by
  unfold zwn
  split
  · first | exact Or.inl rfl | exact Or.inr ⟨by decide, by decide⟩
  · split
    · first | exact Or.inl rfl | exact Or.inr ⟨by decide, by decide⟩
    · split
      · first | exact Or.inl rfl | exact Or.inr ⟨by decide, by decide⟩
      · split
        · first | exact Or.inl rfl | exact Or.inr ⟨by decide, by decide⟩
        · split
          · first | exact Or.inl rfl | exact Or.inr ⟨by decide, by decide⟩
          · split
            · first | exact Or.inl rfl | exact Or.inr ⟨by decide, by decide⟩
            · split <;> (first | exact Or.inl rfl | exact Or.inr ⟨by decide, by decide⟩)
/-- the kind of a token: 0 a name, 1 a number, 2 the sign, 3 to 9 the words that are quoted, 10 none -/
def zkd (B : Nat → Nat) (s k e : Nat) : Nat := if zsr B s k = 1 then (if 8 < e - k then 10 else zwn (zkvl B s k e)) else if zsr B s k = 2 then (if 4 < e - k then 10 else 1) else if zsr B s k = 3 then 2 else 10
def zps (B : Nat → Nat) (s : Nat) : Nat → Nat
  | 0 => zksk B s 0
  | i + 1 => zksk B s (zen B s (zps B s i))
def zKi (B : Nat → Nat) (s i : Nat) : Nat := zkd B s (zps B s i) (zen B s (zps B s i))
def zVi (B : Nat → Nat) (s i : Nat) : Nat := zkvl B s (zps B s i) (zen B s (zps B s i))
theorem zps_le (B : Nat → Nat) (s i : Nat) : zps B s i ≤ s := by
  cases i with
  | zero => exact (zksk_ok B (Nat.zero_le s)).2.1
  | succ i => exact zfind_le _ _
theorem zps_su {B : Nat → Nat} {s i : Nat} (h : zps B s i < s) : zps B s i < zps B s (i + 1) := by
  obtain ⟨a, b, -⟩ := zen_ok B h
  obtain ⟨c, -⟩ := zksk_ok B b
  show zps B s i < zksk B s (zen B s (zps B s i))
  omega
theorem zps_st {B : Nat → Nat} {s i : Nat} (h : zps B s i = s) : zps B s (i + 1) = s := by
  show zksk B s (zen B s (zps B s i)) = s
  rw [h, zen_s, zksk_s]
theorem zps_ge {B : Nat → Nat} {s : Nat} (i : Nat) : zps B s i = s ∨ i ≤ zps B s i := by
  induction i with
  | zero => exact Or.inr (Nat.zero_le _)
  | succ i ih =>
    have hl := zps_le B s i
    rcases Nat.lt_or_ge (zps B s i) s with q | q
    · have := zps_su q
      exact Or.inr (by omega)
    · exact Or.inl (zps_st (by omega))
theorem zps_mono {B : Nat → Nat} {s i j : Nat} (hij : i < j) (h : zps B s i < s) : zps B s i < zps B s j := by
  induction j with
  | zero => omega
  | succ j ih =>
    rcases Nat.lt_or_ge i j with q | q
    · have h1 := ih q
      rcases Nat.lt_or_ge (zps B s j) s with w | w
      · have := zps_su w; omega
      · rw [zps_st (by have := zps_le B s j; omega)]; exact h
    · obtain rfl : i = j := by omega
      exact zps_su h
theorem zps_nb {B : Nat → Nat} {s i : Nat} : zsr B s (zps B s i) ≠ 0 := by
  cases i with
  | zero => exact (zksk_ok B (Nat.zero_le s)).2.2.2
  | succ i =>
    have h : zen B s (zps B s i) ≤ s := zfind_le _ _
    exact (zksk_ok B h).2.2.2
theorem zKi_le (B : Nat → Nat) (s i : Nat) : zKi B s i ≤ 10 := by
  unfold zKi zkd
  split
  · split
    · omega
    · have := zwn_le (zkvl B s (zps B s i) (zen B s (zps B s i))); omega
  · split
    · split <;> omega
    · split <;> omega
/-- what is awaited behind a token -/
def zsp (q k : Nat) : Nat :=
  if q = 0 then (if k = 3 then 1 else if k = 4 ∨ k = 5 then 4 else if k = 6 then 6 else if k = 7 then 7 else if k = 8 ∨ k = 9 then 8 else 10)
  else if q = 1 then (if k = 0 then 2 else 10) else if q = 2 then (if k = 1 then 3 else 10) else if q = 3 then (if k = 1 then 3 else if k = 2 then 0 else 10)
  else if q = 4 then (if k = 0 then 5 else 10) else if q = 6 then (if k = 0 then 4 else 10) else if q = 7 then (if k = 1 then 4 else 10)
  else if q = 8 then (if k = 1 then 9 else 10) else if q = 9 then (if k = 1 then 5 else 10) else (if k = 2 then 0 else 10)
theorem zsp_le (q k : Nat) : zsp q k ≤ 10 := by
  unfold zsp
  (split; split; omega; split; omega; split; omega; split; omega; split; omega; omega; split; split; omega; omega; split; split; omega; omega; split; split; omega; split; omega; omega; split; split; omega; omega; split; split; omega; omega; split; split; omega; omega; split; split; omega; omega; split; split; omega; omega; split; omega; omega)
theorem zsp_bad {q : Nat} : zsp q 10 = 10 := by
  unfold zsp
  (split; split; omega; split; omega; split; omega; split; omega; split; omega; omega; split; split; omega; omega; split; split; omega; omega; split; split; omega; split; omega; omega; split; split; omega; omega; split; split; omega; omega; split; split; omega; omega; split; split; omega; omega; split; split; omega; omega; split; omega; omega)
def zqs (B : Nat → Nat) (s : Nat) : Nat → Nat
  | 0 => 0
  | i + 1 => zsp (zqs B s i) (zKi B s i)
def zwd (k : Nat) : Bool := decide (4 ≤ k ∧ k ≤ 7)
def zkwc (B : Nat → Nat) (s i : Nat) : Nat := zcnt (fun j => zwd (zKi B s j)) i
theorem zkwc_su (B : Nat → Nat) (s i : Nat) : zkwc B s (i + 1) = zkwc B s i + (if zwd (zKi B s i) = true then 1 else 0) := rfl
def zgd (B : Nat → Nat) (s i : Nat) : Bool := decide (zps B s i < s ∧ zqs B s (i + 1) ≠ 10 ∧ i < 400 ∧ zkwc B s (i + 1) ≤ 40)
/-- how many tokens are good -/
def zhh (B : Nat → Nat) (s : Nat) : Nat := zfind (fun i => !zgd B s i) 400
theorem zhh_ok (B : Nat → Nat) (s : Nat) : zhh B s ≤ 400 ∧ (∀ i, i < zhh B s → zps B s i < s ∧ zqs B s (i + 1) ≠ 10 ∧ i < 400 ∧ zkwc B s (i + 1) ≤ 40) ∧ ¬ (zps B s (zhh B s) < s ∧ zqs B s (zhh B s + 1) ≠ 10 ∧ zhh B s < 400 ∧ zkwc B s (zhh B s + 1) ≤ 40) := by
  obtain ⟨a, b, c⟩ := zfind_ok (fun i => !zgd B s i) 400
  have e : zhh B s = zfind (fun i => !zgd B s i) 400 := rfl
  rw [← e] at a b c
  refine ⟨a, fun i hi => ?_, fun z => ?_⟩
  · have h := c i hi
    cases w : zgd B s i
    · rw [w] at h; cases h
    · exact of_decide_eq_true w
  · have h := b z.2.2.1
    rw [show zgd B s (zhh B s) = true from decide_eq_true z] at h
    cases h
theorem zqs_le (B : Nat → Nat) (s i : Nat) : zqs B s i ≤ 10 := by
  cases i with
  | zero => exact Nat.zero_le _
  | succ i => exact zsp_le _ _
theorem zqs_lt {B : Nat → Nat} {s i : Nat} (h : i ≤ zhh B s) : zqs B s i < 10 := by
  cases i with
  | zero => exact Nat.succ_pos _
  | succ i =>
    have h1 := ((zhh_ok B s).2.1 i (by omega)).2.1
    have h2 := zqs_le B s (i + 1)
    omega
theorem zkwc_h {B : Nat → Nat} {s i : Nat} (h : i ≤ zhh B s) : zkwc B s i ≤ 40 := by
  cases i with
  | zero => exact Nat.zero_le _
  | succ i => exact ((zhh_ok B s).2.1 i (by omega)).2.2.2
theorem zKi_h {B : Nat → Nat} {s i : Nat} (h : i < zhh B s) : zKi B s i < 10 := by
  have h1 := zKi_le B s i
  have h2 := ((zhh_ok B s).2.1 i h).2.1
  rcases Nat.lt_or_ge (zKi B s i) 10 with q | q
  · exact q
  · exact absurd (show zqs B s (i + 1) = 10 by show zsp _ _ = 10; rw [show zKi B s i = 10 by omega]; exact zsp_bad) h2
/-- faults as one number: eight times the place, and the number; none -/
def zFN : Nat := 99999
def zFf (F : Nat) : Nat := if F = 99999 then 0 else F % 8
def zFq (F : Nat) : Int := if F = 99999 then -1 else ((F / 8 : Nat) : Int)
/-- the fault of syntax or room -/
def zksF (B : Nat → Nat) (s : Nat) : Nat := if zps B s (zhh B s) = s then (if zqs B s (zhh B s) = 0 then 99999 else 8 * s + 1) else if zqs B s (zhh B s + 1) = 10 then 8 * zps B s (zhh B s) + 1 else 8 * zps B s (zhh B s) + 2
theorem zFf_1 {p : Nat} (h : p ≤ 2000) : zFf (8 * p + 1) = 1 ∧ zFq (8 * p + 1) = ((p : Nat) : Int) := by
  unfold zFf zFq
  rw [if_neg (by omega), if_neg (by omega)]
  exact ⟨by omega, by omega⟩
theorem zFf_2 {p : Nat} (h : p ≤ 2000) : zFf (8 * p + 2) = 2 ∧ zFq (8 * p + 2) = ((p : Nat) : Int) := by
  unfold zFf zFq
  rw [if_neg (by omega), if_neg (by omega)]
  exact ⟨by omega, by omega⟩
theorem zFf_n : zFf 99999 = 0 ∧ zFq 99999 = -1 := ⟨rfl, rfl⟩
/-- a fault told into what is known -/
theorem zFf_at {p f : Nat} (h : p ≤ 2000) (hf : f < 8) : zFf (8 * p + f) = f ∧ zFq (8 * p + f) = ((p : Nat) : Int) := by
  unfold zFf zFq
  rw [if_neg (by omega), if_neg (by omega)]
  exact ⟨by omega, by omega⟩
/-- the value of a name below 27 ^ 8, of a number of four digits below 10000 -/
theorem zVi_lt {B : Nat → Nat} {s k e : Nat} (hk : k < s) (he : e = zen B s k) : (zsr B s k = 1 → zkvl B s k e < 282429536481) ∧ (zsr B s k = 2 → zkvl B s k e < 100000000 ∧ (e - k ≤ 4 → zkvl B s k e < 10000)) := by
  obtain ⟨h1, h2, h3, h4⟩ := zen_ok B hk
  subst he
  have hd : ∀ j, j < zen B s k - k → zsr B s (k + j) = zsr B s k := fun j hj => by
    rcases Nat.eq_zero_or_pos j with q | q
    · rw [q]; rfl
    · exact (zcp_t (h3 (k + j) (by omega) (by omega))).1
  unfold zkvl
  refine ⟨fun h => ?_, fun h => ?_⟩
  · rw [if_pos h]
    have h5 := zvg_lt (m := 27) (d := 96) (B := B) (k := k) (min (zen B s k - k) 8) (fun j hj => by
      have h6 := hd j (by omega)
      rw [h, zsr_in (by omega)] at h6
      have := zkcs_1 h6
      omega)
    have h6 : 27 ^ (min (zen B s k - k) 8) ≤ 27 ^ 8 := Nat.pow_le_pow_right (by decide) (by omega)
    have h7 : 27 ^ 8 = 282429536481 := by decide
    omega
  · rw [if_neg (by omega)]
    have h5 := zvg_lt (m := 10) (d := 48) (B := B) (k := k) (min (zen B s k - k) 8) (fun j hj => by
      have h6 := hd j (by omega)
      rw [h, zsr_in (by omega)] at h6
      have := zkcs_2 h6
      omega)
    have h6 : 10 ^ (min (zen B s k - k) 8) ≤ 10 ^ 8 := Nat.pow_le_pow_right (by decide) (by omega)
    have h7 : 10 ^ 8 = 100000000 := by decide
    refine ⟨by omega, fun h8 => ?_⟩
    have h9 : 10 ^ (min (zen B s k - k) 8) ≤ 10 ^ 4 := Nat.pow_le_pow_right (by decide) (by omega)
    have h10 : 10 ^ 4 = 10000 := by decide
    omega
