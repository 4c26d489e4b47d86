/-! ===== what a text tells: mathematics ===== -/
theorem zks_fine {B : Nat → Nat} {s : Nat} (hs : s ≤ 2000) (hF : zksF B s = 99999) : zps B s (zhh B s) = s ∧ zqs B s (zhh B s) = 0 := by
  have h := zps_le B s (zhh B s)
  unfold zksF at hF
  by_cases e1 : zps B s (zhh B s) = s
  · rw [if_pos e1] at hF
    by_cases e2 : zqs B s (zhh B s) = 0
    · exact ⟨e1, e2⟩
    · rw [if_neg e2] at hF; omega
  · rw [if_neg e1] at hF
    split at hF <;> omega
theorem zgr_one {B : Nat → Nat} {s i q x : Nat} (hq0 : zqs B s (zhh B s) = 0) (hi : i ≤ zhh B s) (hq : zqs B s i = q) (hqn : q ≠ 0) (hx : ∀ k, k < 11 → zsp q k ≠ 10 → k = x) : i < zhh B s ∧ zKi B s i = x ∧ zqs B s (i + 1) = zsp q x := by
  have h1 : i < zhh B s := by
    rcases Nat.lt_or_ge i (zhh B s) with w | w
    · exact w
    · rw [show i = zhh B s by omega, hq0] at hq
      exact absurd hq.symm hqn
  have h2 := ((zhh_ok B s).2.1 i h1).2.1
  have h3 : zqs B s (i + 1) = zsp q (zKi B s i) := by
    show zsp (zqs B s i) (zKi B s i) = _
    rw [hq]
  rw [h3] at h2
  have h4 := hx _ (by have := zKi_le B s i; omega) h2
  exact ⟨h1, h4, by rw [h3, h4]⟩
theorem zgr_tell {B : Nat → Nat} {s i : Nat} (hi : i < zhh B s) (hq : zqs B s i = 0) : 3 ≤ zKi B s i ∧ zKi B s i ≤ 9 ∧ zqs B s (i + 1) = zsp 0 (zKi B s i) := by
  have h2 := ((zhh_ok B s).2.1 i hi).2.1
  have h3 : zqs B s (i + 1) = zsp 0 (zKi B s i) := by
    show zsp (zqs B s i) (zKi B s i) = _
    rw [hq]
  rw [h3] at h2
  have h4 := (by decide : ∀ k, k < 11 → zsp 0 k ≠ 10 → 3 ≤ k ∧ k ≤ 9) _ (by have := zKi_le B s i; omega) h2
  exact ⟨h4.1, h4.2, h3⟩
theorem zgr_45 {B : Nat → Nat} {s i : Nat} (hq0 : zqs B s (zhh B s) = 0) (hi : i < zhh B s) (hq : zqs B s i = 0) (hk : zKi B s i = 4 ∨ zKi B s i = 5) : zKi B s (i + 1) = 0 ∧ zKi B s (i + 2) = 2 ∧ i + 3 ≤ zhh B s ∧ zqs B s (i + 3) = 0 := by
  have h0 := (zgr_tell hi hq).2.2
  have h1 : zqs B s (i + 1) = 4 := by
    rw [h0]
    rcases hk with e | e <;> (rw [e]; rfl)
  obtain ⟨a1, a2, a3⟩ := zgr_one (x := 0) hq0 (by omega) h1 (by decide) (by decide)
  obtain ⟨b1, b2, b3⟩ := zgr_one (i := i + 2) (q := 5) (x := 2) hq0 (by omega) a3 (by decide) (by decide)
  exact ⟨a2, b2, by omega, b3⟩
theorem zgr_6 {B : Nat → Nat} {s i : Nat} (hq0 : zqs B s (zhh B s) = 0) (hi : i < zhh B s) (hq : zqs B s i = 0) (hk : zKi B s i = 6) : zKi B s (i + 1) = 0 ∧ zKi B s (i + 2) = 0 ∧ zKi B s (i + 3) = 2 ∧ i + 4 ≤ zhh B s ∧ zqs B s (i + 4) = 0 := by
  have h0 := (zgr_tell hi hq).2.2
  rw [hk] at h0
  obtain ⟨a1, a2, a3⟩ := zgr_one (q := 6) (x := 0) hq0 (by omega) h0 (by decide) (by decide)
  obtain ⟨b1, b2, b3⟩ := zgr_one (i := i + 2) (q := 4) (x := 0) hq0 (by omega) a3 (by decide) (by decide)
  obtain ⟨c1, c2, c3⟩ := zgr_one (i := i + 3) (q := 5) (x := 2) hq0 (by omega) b3 (by decide) (by decide)
  exact ⟨a2, b2, c2, by omega, c3⟩
theorem zgr_7 {B : Nat → Nat} {s i : Nat} (hq0 : zqs B s (zhh B s) = 0) (hi : i < zhh B s) (hq : zqs B s i = 0) (hk : zKi B s i = 7) : zKi B s (i + 1) = 1 ∧ zKi B s (i + 2) = 0 ∧ zKi B s (i + 3) = 2 ∧ i + 4 ≤ zhh B s ∧ zqs B s (i + 4) = 0 := by
  have h0 := (zgr_tell hi hq).2.2
  rw [hk] at h0
  obtain ⟨a1, a2, a3⟩ := zgr_one (q := 7) (x := 1) hq0 (by omega) h0 (by decide) (by decide)
  obtain ⟨b1, b2, b3⟩ := zgr_one (i := i + 2) (q := 4) (x := 0) hq0 (by omega) a3 (by decide) (by decide)
  obtain ⟨c1, c2, c3⟩ := zgr_one (i := i + 3) (q := 5) (x := 2) hq0 (by omega) b3 (by decide) (by decide)
  exact ⟨a2, b2, c2, by omega, c3⟩
theorem zgr_89 {B : Nat → Nat} {s i : Nat} (hq0 : zqs B s (zhh B s) = 0) (hi : i < zhh B s) (hq : zqs B s i = 0) (hk : zKi B s i = 8 ∨ zKi B s i = 9) : zKi B s (i + 1) = 1 ∧ zKi B s (i + 2) = 1 ∧ zKi B s (i + 3) = 2 ∧ i + 4 ≤ zhh B s ∧ zqs B s (i + 4) = 0 := by
  have h0 := (zgr_tell hi hq).2.2
  have h1 : zqs B s (i + 1) = 8 := by
    rw [h0]
    rcases hk with e | e <;> (rw [e]; rfl)
  obtain ⟨a1, a2, a3⟩ := zgr_one (q := 8) (x := 1) hq0 (by omega) h1 (by decide) (by decide)
  obtain ⟨b1, b2, b3⟩ := zgr_one (i := i + 2) (q := 9) (x := 1) hq0 (by omega) a3 (by decide) (by decide)
  obtain ⟨c1, c2, c3⟩ := zgr_one (i := i + 3) (q := 5) (x := 2) hq0 (by omega) b3 (by decide) (by decide)
  exact ⟨a2, b2, c2, by omega, c3⟩
/-- the sign behind the numbers of a box -/
def zeb (B : Nat → Nat) (s i : Nat) : Nat := zfind (fun j => decide (i + 2 ≤ j ∧ zKi B s j ≠ 1)) (zhh B s)
theorem zgr_3 {B : Nat → Nat} {s i : Nat} (hq0 : zqs B s (zhh B s) = 0) (hi : i < zhh B s) (hq : zqs B s i = 0) (hk : zKi B s i = 3) : zKi B s (i + 1) = 0 ∧ i + 3 ≤ zeb B s i ∧ zeb B s i < zhh B s ∧ (∀ j, i + 2 ≤ j → j < zeb B s i → zKi B s j = 1) ∧ zKi B s (zeb B s i) = 2 ∧ zqs B s (zeb B s i + 1) = 0 := by
  have h0 := (zgr_tell hi hq).2.2
  rw [hk] at h0
  obtain ⟨a1, a2, a3⟩ := zgr_one (q := 1) (x := 0) hq0 (by omega) h0 (by decide) (by decide)
  obtain ⟨b1, b2, b3⟩ := zgr_one (i := i + 2) (q := 2) (x := 1) hq0 (by omega) a3 (by decide) (by decide)
  obtain ⟨z1, z2, z3⟩ := zfind_ok (fun j => decide (i + 2 ≤ j ∧ zKi B s j ≠ 1)) (zhh B s)
  have e : zeb B s i = zfind (fun j => decide (i + 2 ≤ j ∧ zKi B s j ≠ 1)) (zhh B s) := rfl
  rw [← e] at z1 z2 z3
  have z4 : ∀ j, i + 2 ≤ j → j < zeb B s i → zKi B s j = 1 := fun j h1 h2 => by
    have := of_decide_eq_false (z3 j h2)
    exact Classical.byContradiction fun w => this ⟨h1, w⟩
  have z5 : i + 3 ≤ zeb B s i := by
    rcases Nat.lt_or_ge (zeb B s i) (i + 3) with w | w
    · exfalso
      have w1 := of_decide_eq_true (z2 (by omega))
      have : zeb B s i = i + 2 := by omega
      rw [this] at w1
      exact w1.2 b2
    · exact w
  have z6 : ∀ d, i + 3 + d ≤ zeb B s i → zqs B s (i + 3 + d) = 3 := by
    intro d
    induction d with
    | zero => exact fun _ => b3
    | succ d ih =>
      intro hd
      show zsp (zqs B s (i + 3 + d)) (zKi B s (i + 3 + d)) = 3
      rw [ih (by omega), z4 _ (by omega) (by omega)]
      rfl
  have z7 := z6 (zeb B s i - (i + 3)) (by omega)
  rw [show i + 3 + (zeb B s i - (i + 3)) = zeb B s i by omega] at z7
  have z8 : zeb B s i < zhh B s := by
    rcases Nat.lt_or_ge (zeb B s i) (zhh B s) with w | w
    · exact w
    · rw [show zeb B s i = zhh B s by omega, hq0] at z7
      cases z7
  have z9 := of_decide_eq_true (z2 z8)
  have z10 := ((zhh_ok B s).2.1 _ z8).2.1
  have z11 : zqs B s (zeb B s i + 1) = zsp 3 (zKi B s (zeb B s i)) := by
    show zsp (zqs B s _) _ = _
    rw [z7]
  rw [z11] at z10
  have z12 := (by decide : ∀ k, k < 11 → zsp 3 k ≠ 10 → k ≠ 1 → k = 2) _ (by have := zKi_le B s (zeb B s i); omega) z10 z9.2
  exact ⟨a2, z5, z8, z4, z12, by rw [z11, z12]; rfl⟩
/-- where the next tell begins -/
def znt (B : Nat → Nat) (s i : Nat) : Nat := if zKi B s i = 3 then zeb B s i + 1 else if zKi B s i ≤ 5 then i + 3 else i + 4
theorem zgr_nt {B : Nat → Nat} {s i : Nat} (hq0 : zqs B s (zhh B s) = 0) (hi : i < zhh B s) (hq : zqs B s i = 0) : i + 3 ≤ znt B s i ∧ znt B s i ≤ zhh B s ∧ zqs B s (znt B s i) = 0 := by
  obtain ⟨k1, k2, -⟩ := zgr_tell hi hq
  unfold znt
  by_cases h3 : zKi B s i = 3
  · rw [if_pos h3]
    obtain ⟨a1, a2, a3, a4, a5, a6⟩ := zgr_3 hq0 hi hq h3
    exact ⟨by omega, by omega, a6⟩
  rw [if_neg h3]
  by_cases h5 : zKi B s i ≤ 5
  · rw [if_pos h5]
    obtain ⟨a1, a2, a3, a4⟩ := zgr_45 hq0 hi hq (by omega)
    exact ⟨by omega, by omega, a4⟩
  rw [if_neg h5]
  by_cases h6 : zKi B s i = 6
  · obtain ⟨a1, a2, a3, a4, a5⟩ := zgr_6 hq0 hi hq h6
    exact ⟨by omega, by omega, a5⟩
  by_cases h7 : zKi B s i = 7
  · obtain ⟨a1, a2, a3, a4, a5⟩ := zgr_7 hq0 hi hq h7
    exact ⟨by omega, by omega, a5⟩
  · obtain ⟨a1, a2, a3, a4, a5⟩ := zgr_89 hq0 hi hq (by omega)
    exact ⟨by omega, by omega, a5⟩
/-! ===== is there one? ===== -/
def zex (s : Nat → Bool) (n : Nat) : Bool := decide (zfind s n < n)
theorem zex_t {s : Nat → Bool} {n : Nat} : zex s n = true ↔ ∃ k, k < n ∧ s k = true := by
  obtain ⟨a, b, c⟩ := zfind_ok s n
  refine ⟨fun h => ⟨_, of_decide_eq_true h, b (of_decide_eq_true h)⟩, fun ⟨k, h1, h2⟩ => ?_⟩
  refine decide_eq_true ?_
  rcases Nat.lt_or_ge (zfind s n) n with q | q
  · exact q
  · have := c k (by omega)
    rw [h2] at this
    cases this
theorem zex_f {s : Nat → Bool} {n : Nat} : zex s n = false ↔ ∀ k, k < n → s k = false := by
  refine ⟨fun h k hk => ?_, fun h => ?_⟩
  · cases e : s k
    · rfl
    · rw [zex_t.mpr ⟨k, hk, e⟩] at h
      cases h
  · cases e : zex s n
    · rfl
    · obtain ⟨k, h1, h2⟩ := zex_t.mp e
      rw [h k h1] at h2
      cases h2
theorem zex_su (s : Nat → Bool) (n : Nat) : zex s (n + 1) = (zex s n || s n) := by
  cases e : zex s n
  · rw [Bool.false_or]
    have h := zex_f.mp e
    cases e2 : s n
    · exact zex_f.mpr fun k hk => by
        rcases Nat.lt_or_ge k n with q | q
        · exact h k q
        · rw [show k = n by omega]; exact e2
    · exact zex_t.mpr ⟨n, by omega, e2⟩
  · rw [Bool.true_or]
    obtain ⟨k, h1, h2⟩ := zex_t.mp e
    exact zex_t.mpr ⟨k, by omega, h2⟩
theorem zex_ext {s t : Nat → Bool} {n : Nat} (h : ∀ k, k < n → s k = t k) : zex s n = zex t n := by
  unfold zex
  rw [zfind_ext h]
theorem zex_0 (s : Nat → Bool) : zex s 0 = false := rfl
def uup {α : Type} (f : Nat → α) (k : Nat) (v : α) : Nat → α := fun j => if j = k then v else f j
theorem uup_s {α : Type} (f : Nat → α) (k : Nat) (v : α) : uup f k v k = v := if_pos rfl
theorem uup_n {α : Type} (f : Nat → α) {k j : Nat} (v : α) (h : j ≠ k) : uup f k v j = f j := if_neg h
/-- what was told: boxes (their number, names, the box of each post or 999, its place), words, pairs, the first fault -/
abbrev zZt : Type := (Nat × (Nat → Nat) × (Nat → Nat) × (Nat → Nat)) × (Nat × (Nat → Nat × Nat × Nat)) × (Nat × (Nat → Nat × Nat × Bool × Nat)) × Nat
def ub (Z : zZt) : Nat := Z.1.1
def un (Z : zZt) : Nat → Nat := Z.1.2.1
def uo (Z : zZt) : Nat → Nat := Z.1.2.2.1
def ul (Z : zZt) : Nat → Nat := Z.1.2.2.2
def uk (Z : zZt) : Nat := Z.2.1.1
def uw (Z : zZt) : Nat → Nat × Nat × Nat := Z.2.1.2
def ut (Z : zZt) : Nat := Z.2.2.1.1
def up (Z : zZt) : Nat → Nat × Nat × Bool × Nat := Z.2.2.1.2
def uF (Z : zZt) : Nat := Z.2.2.2
def uZ0 : zZt := ((0, fun _ => 0, fun _ => 999, fun _ => 0), (0, fun _ => (0, 0, 0)), (0, fun _ => (0, 0, false, 0)), 99999)
def ubl (Z : zZt) (x : Nat) : zZt := (Z.1, Z.2.1, Z.2.2.1, min Z.2.2.2 x)
/-- does a word say a pair -/
def usy (o l : Nat → Nat) (w : Nat × Nat × Nat) (p q : Nat) : Bool :=
  if w.1 = 0 then decide (o p = w.2.1 ∧ o q = w.2.1) else if w.1 = 1 then decide (o p = w.2.1 ∧ o q = w.2.2 ∨ o p = w.2.2 ∧ o q = w.2.1)
  else if w.1 = 2 then decide (p = w.2.1 ∧ o q = w.2.2 ∨ q = w.2.1 ∧ o p = w.2.2) else decide (o p = w.2.1 ∧ o q = w.2.1 ∧ (l p = l q + 1 ∨ l q = l p + 1))
def usd (Z : zZt) (p q : Nat) : Bool := zex (fun k => usy (uo Z) (ul Z) (uw Z k) p q) (uk Z)
def upq (x : Nat × Nat × Bool × Nat) (p q : Nat) : Bool := decide (x.1 = p ∧ x.2.1 = q ∨ x.1 = q ∧ x.2.1 = p)
def upr (Z : zZt) (p q : Nat) : Bool := zex (fun k => upq (up Z k) p q) (ut Z)
def uaw (Z : zZt) (w : Nat × Nat × Nat) (p : Nat) : zZt := (Z.1, (uk Z + 1, uup (uw Z) (uk Z) w), Z.2.2.1, if zex (fun k => decide (uw Z k = w)) (uk Z) = true then min (uF Z) (8 * p + 3) else uF Z)
def uap (Z : zZt) (x : Nat × Nat × Bool × Nat) : zZt := (Z.1, Z.2.1, (ut Z + 1, uup (up Z) (ut Z) x), uF Z)
/-- one number of a box -/
def ubq (n : Nat) (P V : Nat → Nat) (b : Nat) (r : (Nat → Nat) × (Nat → Nat) × Nat) (j : Nat) : (Nat → Nat) × (Nat → Nat) × Nat :=
  if n ≤ V j then (r.1, r.2.1, min r.2.2 (8 * P j + 5)) else if r.1 (V j) ≠ 999 then (r.1, r.2.1, min r.2.2 (8 * P j + 3)) else (uup r.1 (V j) b, uup r.2.1 (V j) (zSz r.1 16 b), r.2.2)
def ubs (n : Nat) (P V : Nat → Nat) (b : Nat) (r : (Nat → Nat) × (Nat → Nat) × Nat) (i : Nat) : Nat → (Nat → Nat) × (Nat → Nat) × Nat
  | 0 => r
  | c + 1 => ubq n P V b (ubs n P V b r i c) (i + c)
def ufn (Z : zZt) (v : Nat) : Nat := zfl (un Z) v (ub Z)
def ukb (Z : zZt) (v p : Nat) : zZt := if ufn Z v < ub Z then Z else ubl Z (8 * p + 4)
def ukp (n : Nat) (Z : zZt) (v p : Nat) : zZt := if v < n then Z else ubl Z (8 * p + 5)
def usb (B : Nat → Nat) (s n : Nat) (Z : zZt) (i : Nat) : zZt :=
  let r := ubs n (zps B s) (zVi B s) (ub Z) (uo Z, ul Z, if ufn Z (zVi B s (i + 1)) < ub Z then min (uF Z) (8 * zps B s (i + 1) + 3) else uF Z) (i + 2) (zeb B s i - (i + 2))
  ((ub Z + 1, uup (un Z) (ub Z) (zVi B s (i + 1)), r.1, r.2.1), Z.2.1, Z.2.2.1, r.2.2)
def us1 (B : Nat → Nat) (s k : Nat) (Z : zZt) (i : Nat) : zZt :=
  if ufn Z (zVi B s (i + 1)) < ub Z then uaw (if zSz (uo Z) 16 (ufn Z (zVi B s (i + 1))) < 2 then ubl Z (8 * zps B s (i + 1) + 5) else Z) (k, ufn Z (zVi B s (i + 1)), 0) (zps B s i) else ubl Z (8 * zps B s (i + 1) + 4)
def us2 (B : Nat → Nat) (s : Nat) (Z : zZt) (i : Nat) : zZt :=
  let a := ufn Z (zVi B s (i + 1)); let b := ufn Z (zVi B s (i + 2)); let Z2 := ukb (ukb Z (zVi B s (i + 1)) (zps B s (i + 1))) (zVi B s (i + 2)) (zps B s (i + 2))
  if a < ub Z ∧ b < ub Z then uaw (if a = b then ubl Z2 (8 * zps B s (i + 2) + 5) else Z2) (1, min a b, max a b) (zps B s i) else Z2
def us3 (B : Nat → Nat) (s n : Nat) (Z : zZt) (i : Nat) : zZt :=
  let p := zVi B s (i + 1); let b := ufn Z (zVi B s (i + 2)); let Z2 := ukb (ukp n Z p (zps B s (i + 1))) (zVi B s (i + 2)) (zps B s (i + 2))
  if p < n ∧ b < ub Z then uaw (if zSz (uo Z) 16 b = (if uo Z p = b then 1 else 0) then ubl Z2 (8 * zps B s (i + 2) + 5) else Z2) (2, p, b) (zps B s i) else Z2
def us4 (B : Nat → Nat) (s n : Nat) (also : Bool) (Z : zZt) (i : Nat) : zZt :=
  let a := zVi B s (i + 1); let b := zVi B s (i + 2); let p := zps B s (i + 2); let Z2 := ukp n (ukp n Z a (zps B s (i + 1))) b p
  if a < n ∧ b < n then
    let Z3 := if upr Z a b = true then ubl Z2 (8 * p + 3) else Z2
    uap (if a = b ∨ also = false ∧ usd Z a b = false then ubl Z3 (8 * p + 5) else Z3) (a, b, also, p)
  else Z2
def ust (B : Nat → Nat) (s n : Nat) (Z : zZt) (i : Nat) : zZt :=
  if zKi B s i = 3 then usb B s n Z i else if zKi B s i = 4 then us1 B s 0 Z i else if zKi B s i = 5 then us1 B s 3 Z i else if zKi B s i = 6 then us2 B s Z i
  else if zKi B s i = 7 then us3 B s n Z i else us4 B s n (decide (zKi B s i = 9)) Z i
/-- all tells from a token on -/
def ufi (B : Nat → Nat) (s n : Nat) : Nat → Nat → zZt → zZt
  | 0, _, Z => Z
  | f + 1, i, Z => if i < zhh B s then ufi B s n f (znt B s i) (ust B s n Z i) else Z
theorem ufi_end {B : Nat → Nat} {s n f i : Nat} {Z : zZt} (h : zhh B s ≤ i) : ufi B s n f i Z = Z := by
  cases f with
  | zero => rfl
  | succ f =>
    show (if i < zhh B s then _ else Z) = Z
    exact if_neg (by omega)
theorem ufi_su {B : Nat → Nat} {s n f i : Nat} {Z : zZt} (h : i < zhh B s) : ufi B s n (f + 1) i Z = ufi B s n f (znt B s i) (ust B s n Z i) := if_pos h
/-! ===== what is known of it ===== -/
def uWk (n : Nat) (Z : zZt) (w : Nat × Nat × Nat) : Prop := (w.1 = 0 ∨ w.1 = 3) ∧ w.2.1 < ub Z ∧ zNew (un Z) w.2.1 = true ∧ w.2.2 = 0 ∨ w.1 = 1 ∧ w.2.1 ≤ w.2.2 ∧ w.2.2 < ub Z ∧ zNew (un Z) w.2.1 = true ∧ zNew (un Z) w.2.2 = true ∨ w.1 = 2 ∧ w.2.1 < n ∧ w.2.2 < ub Z ∧ zNew (un Z) w.2.2 = true
def uWf (n : Nat) (Z : zZt) (w : Nat × Nat × Nat) : Prop := (w.1 = 0 ∨ w.1 = 3 → 2 ≤ zSz (uo Z) 16 w.2.1) ∧ (w.1 = 1 → w.2.1 < w.2.2) ∧ (w.1 = 2 → ∃ q, q < n ∧ q ≠ w.2.1 ∧ uo Z q = w.2.2)
def uO2 (n : Nat) (Z : zZt) : Prop := (∀ q, uo Z q ≠ 999 → uo Z q < ub Z ∧ q < n ∧ ul Z q < zSz (uo Z) 16 (uo Z q)) ∧ (∀ q r, uo Z q ≠ 999 → uo Z r = uo Z q → ul Z q = ul Z r → q = r) ∧ ∀ b k, b < ub Z → k < zSz (uo Z) 16 b → ∃ q, q < 16 ∧ uo Z q = b ∧ ul Z q = k
def uO4 (n : Nat) (Z : zZt) : Prop := ∀ k, k < uk Z → uWk n Z (uw Z k)
def uFk (F : Nat) : Prop := F = 99999 ∨ F % 8 ≠ 0 ∧ F / 8 ≤ 2000
def uO8 (n : Nat) (Z : zZt) : Prop := uF Z = 99999 → (∀ b, b < ub Z → zNew (un Z) b = true ∧ 0 < zSz (uo Z) 16 b) ∧ (∀ k, k < uk Z → uWf n Z (uw Z k)) ∧ ∀ k, k < ut Z → (up Z k).1 ≠ (up Z k).2.1
def uOk (n : Nat) (Z : zZt) : Prop := uO2 n Z ∧ uO4 n Z ∧ uFk (uF Z) ∧ uO8 n Z
def uP5 (B : Nat → Nat) (s n : Nat) (Z : zZt) (i : Nat) : Prop := ∀ k, k < ut Z → (up Z k).1 < n ∧ (up Z k).2.1 < n ∧ ((up Z k).1 = (up Z k).2.1 → uF Z ≤ 8 * (up Z k).2.2.2 + 5) ∧ ∃ j, j + 2 < i ∧ (up Z k).2.2.2 = zps B s (j + 2) ∧ ((up Z k).2.2.1 = true → zKi B s j = 9 ∧ (up Z k).1 = zVi B s (j + 1) ∧ (up Z k).2.1 = zVi B s (j + 2))
def uP7 (B : Nat → Nat) (s n : Nat) (Z : zZt) (i : Nat) : Prop := ∀ j, j < i → zKi B s j = 9 → (n ≤ zVi B s (j + 1) → uF Z ≤ 8 * zps B s (j + 1) + 5) ∧ (n ≤ zVi B s (j + 2) → uF Z ≤ 8 * zps B s (j + 2) + 5) ∧ (zVi B s (j + 1) < n → zVi B s (j + 2) < n → ∃ k, k < ut Z ∧ up Z k = (zVi B s (j + 1), zVi B s (j + 2), true, zps B s (j + 2)))
def uAll (B : Nat → Nat) (s n : Nat) (Z : zZt) (i : Nat) : Prop := uOk n Z ∧ uP5 B s n Z i ∧ uP7 B s n Z i ∧ 4 * ub Z ≤ i ∧ 4 * ut Z ≤ i ∧ uk Z ≤ zkwc B s i
theorem uFk_min {F p f : Nat} (h : uFk F) (hp : p ≤ 2000) (hf : 0 < f) (hf8 : f < 8) : uFk (min F (8 * p + f)) := by
  unfold uFk at h ⊢
  rcases Nat.le_total F (8 * p + f) with q | q
  · rw [Nat.min_eq_left q]; exact h
  · rw [Nat.min_eq_right q]; exact Or.inr ⟨by omega, by omega⟩
theorem uOk.bl {n p f : Nat} {Z : zZt} (h : uOk n Z) (hp : p ≤ 2000) (hf : 0 < f) (hf8 : f < 8) : uOk n (ubl Z (8 * p + f)) := by
  obtain ⟨h1, h2, h3, h4⟩ := h
  refine ⟨h1, h2, uFk_min h3 hp hf hf8, fun z => h4 ?_⟩
  have z2 : min (uF Z) (8 * p + f) = 99999 := z
  have : uFk (uF Z) := h3
  unfold uFk at this
  omega
theorem uP5.bl {B : Nat → Nat} {s n i x : Nat} {Z : zZt} (h : uP5 B s n Z i) : uP5 B s n (ubl Z x) i := fun k hk => by
  obtain ⟨a, b, c, d⟩ := h k hk
  exact ⟨a, b, fun z => Nat.le_trans (Nat.min_le_left _ _) (c z), d⟩
theorem uP7.bl {B : Nat → Nat} {s n i x : Nat} {Z : zZt} (h : uP7 B s n Z i) : uP7 B s n (ubl Z x) i := fun j hj hk => by
  obtain ⟨a, b, c⟩ := h j hj hk
  exact ⟨fun z => Nat.le_trans (Nat.min_le_left _ _) (a z), fun z => Nat.le_trans (Nat.min_le_left _ _) (b z), c⟩
theorem uOk.aw {n p : Nat} {Z : zZt} {w : Nat × Nat × Nat} (h : uOk n Z) (hp : p ≤ 2000) (hw : uWk n Z w) (hf : uF Z = 99999 → uWf n Z w) : uOk n (uaw Z w p) := by
  obtain ⟨h1, h2, h3, h4⟩ := h
  have hF : uFk (uF (uaw Z w p)) ∧ (uF (uaw Z w p) = 99999 → uF Z = 99999) := by
    show uFk (if _ then _ else _) ∧ ((if _ then _ else _) = 99999 → _)
    split
    · refine ⟨uFk_min h3 hp (by decide) (by decide), fun z => ?_⟩
      have : uFk (uF Z) := h3
      unfold uFk at this
      have z2 : min (uF Z) (8 * p + 3) = 99999 := z
      omega
    · exact ⟨h3, fun z => z⟩
  refine ⟨h1, fun k hk => ?_, hF.1, fun z => ?_⟩
  · show uWk n Z (uup (uw Z) (uk Z) w k)
    by_cases e : k = uk Z
    · rw [e, uup_s]; exact hw
    · rw [uup_n _ _ e]; exact h2 k (by have : k < uk Z + 1 := hk; omega)
  · obtain ⟨a, b, c⟩ := h4 (hF.2 z)
    refine ⟨a, fun k hk => ?_, c⟩
    show uWf n Z (uup (uw Z) (uk Z) w k)
    by_cases e : k = uk Z
    · rw [e, uup_s]; exact hf (hF.2 z)
    · rw [uup_n _ _ e]; exact b k (by have : k < uk Z + 1 := hk; omega)
theorem uaw_F (Z : zZt) (w : Nat × Nat × Nat) (p : Nat) : uF (uaw Z w p) ≤ uF Z := by
  show (if _ then _ else _) ≤ _
  split
  · exact Nat.min_le_left _ _
  · exact Nat.le_refl _
theorem uP5.aw {B : Nat → Nat} {s n i p : Nat} {Z : zZt} {w : Nat × Nat × Nat} (h : uP5 B s n Z i) : uP5 B s n (uaw Z w p) i := fun k hk => by
  obtain ⟨a, b, c, d⟩ := h k hk
  exact ⟨a, b, fun z => Nat.le_trans (uaw_F Z w p) (c z), d⟩
theorem uP7.aw {B : Nat → Nat} {s n i p : Nat} {Z : zZt} {w : Nat × Nat × Nat} (h : uP7 B s n Z i) : uP7 B s n (uaw Z w p) i := fun j hj hk => by
  obtain ⟨a, b, c⟩ := h j hj hk
  exact ⟨fun z => Nat.le_trans (uaw_F Z w p) (a z), fun z => Nat.le_trans (uaw_F Z w p) (b z), c⟩
theorem uP5.up {B : Nat → Nat} {s n i i' : Nat} {Z : zZt} (h : uP5 B s n Z i) (hi : i ≤ i') : uP5 B s n Z i' := fun k hk => by
  obtain ⟨a, b, c, j, d⟩ := h k hk
  exact ⟨a, b, c, j, by omega, d.2⟩
theorem uP7.up {B : Nat → Nat} {s n i i' : Nat} {Z : zZt} (h : uP7 B s n Z i) (hi : ∀ j, i ≤ j → j < i' → zKi B s j ≠ 9) : uP7 B s n Z i' := fun j hj hk => by
  rcases Nat.lt_or_ge j i with q | q
  · exact h j q hk
  · exact absurd hk (hi j q hj)
theorem ufn_new {Z : zZt} {v : Nat} (h : ufn Z v < ub Z) : zNew (un Z) (ufn Z v) = true := zNew_at h
/-! ===== the numbers of a box ===== -/
theorem zSz_uup {o : Nat → Nat} {x b c : Nat} (hx : x < 16) (hc : o x ≠ c) : zSz (uup o x b) 16 c = zSz o 16 c + (if b = c then 1 else 0) := by
  have h : ∀ N, zSz (uup o x b) N c = zSz o N c + (if x < N ∧ b = c then 1 else 0) := by
    intro N
    induction N with
    | zero => rfl
    | succ N ih =>
      rw [zSz_su, zSz_su, ih]
      by_cases e : N = x
      · subst e
        rw [uup_s, if_neg hc, if_neg (by omega)]
        by_cases e2 : b = c
        · rw [if_pos e2, if_pos ⟨by omega, e2⟩]
        · rw [if_neg e2, if_neg (fun z => e2 z.2)]
      · rw [uup_n _ _ e]
        by_cases e2 : x < N ∧ b = c
        · have e3 : x < N + 1 ∧ b = c := ⟨by omega, e2.2⟩
          rw [if_pos e2, if_pos e3]; omega
        · have e3 : ¬ (x < N + 1 ∧ b = c) := fun z => e2 ⟨by omega, z.2⟩
          rw [if_neg e2, if_neg e3]; omega
  rw [h 16]
  by_cases e2 : b = c
  · rw [if_pos e2, if_pos ⟨hx, e2⟩]
  · rw [if_neg e2, if_neg (fun z => e2 z.2)]
/-- what the numbers of a box make of the posts -/
def ubI (n b : Nat) (o l : Nat → Nat) (F : Nat) (c : Nat) (r : (Nat → Nat) × (Nat → Nat) × Nat) : Prop :=
  (∀ q, o q ≠ 999 → r.1 q = o q ∧ r.2.1 q = l q) ∧ (∀ q, o q = 999 → r.1 q = 999 ∨ r.1 q = b ∧ q < n ∧ r.2.1 q < zSz r.1 16 b) ∧ (∀ q r', r.1 q = b → r.1 r' = b → r.2.1 q = r.2.1 r' → q = r') ∧ (∀ d, d ≠ b → d ≠ 999 → zSz r.1 16 d = zSz o 16 d) ∧ r.2.2 ≤ F ∧ (r.2.2 = 99999 → F = 99999 ∧ zSz r.1 16 b = c) ∧ (uFk F → uFk r.2.2) ∧ ∀ k, k < zSz r.1 16 b → ∃ q, q < 16 ∧ r.1 q = b ∧ r.2.1 q = k
theorem ubI_0 {n b : Nat} {o l : Nat → Nat} {F : Nat} (hb : ∀ q, o q ≠ b) : ubI n b o l F 0 (o, l, F) :=
  ⟨fun _ _ => ⟨rfl, rfl⟩, fun _ h => Or.inl h, fun q _ h => absurd h (hb q), fun _ _ _ => rfl, Nat.le_refl _, fun h => ⟨h, zcnt_z fun q _ => decide_eq_false (hb q)⟩, fun h => h, fun k hk => absurd hk (by rw [show zSz o 16 b = 0 from zcnt_z fun q _ => decide_eq_false (hb q)]; omega)⟩
theorem ubI_su {n b : Nat} {o l : Nat → Nat} {F c j : Nat} {P V : Nat → Nat} {r : (Nat → Nat) × (Nat → Nat) × Nat} (hn : n ≤ 16) (hb9 : b < 999) (hb : ∀ q, o q ≠ b) (hP : P j ≤ 2000) (h : ubI n b o l F c r) : ubI n b o l F (c + 1) (ubq n P V b r j) := by
  obtain ⟨h1, h2, h3, h4, h5, h6, h7, h8⟩ := h
  unfold ubq
  by_cases e1 : n ≤ V j
  · rw [if_pos e1]
    refine ⟨h1, h2, h3, h4, Nat.le_trans (Nat.min_le_left _ _) h5, fun z => ?_, fun z => uFk_min (h7 z) hP (by decide) (by decide), h8⟩
    have z2 : min r.2.2 (8 * P j + 5) = 99999 := z
    omega
  rw [if_neg e1]
  by_cases e2 : r.1 (V j) ≠ 999
  · rw [if_pos e2]
    refine ⟨h1, h2, h3, h4, Nat.le_trans (Nat.min_le_left _ _) h5, fun z => ?_, fun z => uFk_min (h7 z) hP (by decide) (by decide), h8⟩
    have z2 : min r.2.2 (8 * P j + 3) = 99999 := z
    omega
  rw [if_neg e2]
  have e3 : r.1 (V j) = 999 := Classical.not_not.mp e2
  have e4 : o (V j) = 999 := Classical.byContradiction fun z => by rw [(h1 _ z).1] at e3; exact z e3
  have hs : zSz (uup r.1 (V j) b) 16 b = zSz r.1 16 b + 1 := by rw [zSz_uup (by omega) (by omega), if_pos rfl]
  refine ⟨fun q hq => ?_, fun q hq => ?_, fun q r' hq hr hl => ?_, fun d d1 d2 => ?_, h5, fun z => ⟨(h6 z).1, by (try dsimp only); rw [hs, (h6 z).2]⟩, h7, fun k hk => ?_⟩
  · have hne : q ≠ V j := fun z => by rw [z] at hq; exact hq e4
    (try dsimp only)
    rw [uup_n _ _ hne, uup_n _ _ hne]
    exact h1 q hq
  · (try dsimp only)
    by_cases e : q = V j
    · subst e
      rw [uup_s, uup_s, hs]
      exact Or.inr ⟨rfl, by omega, by omega⟩
    · rw [uup_n _ _ e, uup_n _ _ e, hs]
      rcases h2 q hq with w | ⟨w1, w2, w3⟩
      · exact Or.inl w
      · exact Or.inr ⟨w1, w2, by omega⟩
  · (try dsimp only at hq hr hl)
    have key : ∀ x, x ≠ V j → r.1 x = b → r.2.1 x < zSz r.1 16 b := fun x _ hx => by
      have : o x = 999 := Classical.byContradiction fun z => hb x ((h1 x z).1.symm.trans hx)
      rcases h2 x this with w | w
      · omega
      · exact w.2.2
    by_cases e : q = V j
    · by_cases e' : r' = V j
      · rw [e, e']
      · exfalso
        rw [e, uup_s, uup_n _ _ e'] at hl
        rw [uup_n _ _ e'] at hr
        have := key r' e' hr
        omega
    · by_cases e' : r' = V j
      · exfalso
        rw [e', uup_s, uup_n _ _ e] at hl
        rw [uup_n _ _ e] at hq
        have := key q e hq
        omega
      · rw [uup_n _ _ e] at hq hl
        rw [uup_n _ _ e'] at hr hl
        exact h3 q r' hq hr hl
  · (try dsimp only)
    rw [zSz_uup (by omega) (by omega), if_neg (fun z => d1 z.symm), Nat.add_zero]
    exact h4 d d1 d2
  · (try dsimp only at hk ⊢)
    rw [hs] at hk
    by_cases e : k = zSz r.1 16 b
    · exact ⟨V j, by omega, uup_s _ _ _, by rw [uup_s, e]⟩
    · obtain ⟨q, q1, q2, q3⟩ := h8 k (by omega)
      have hne : q ≠ V j := fun z => by rw [z, e3] at q2; omega
      exact ⟨q, q1, by rw [uup_n _ _ hne]; exact q2, by rw [uup_n _ _ hne]; exact q3⟩
theorem ubs_I {n b : Nat} {o l : Nat → Nat} {F i : Nat} {P V : Nat → Nat} (hn : n ≤ 16) (hb9 : b < 999) (hb : ∀ q, o q ≠ b) (hP : ∀ j, P j ≤ 2000) : ∀ c, ubI n b o l F c (ubs n P V b (o, l, F) i c)
  | 0 => ubI_0 hb
  | c + 1 => ubI_su hn hb9 hb (hP _) (ubs_I hn hb9 hb hP c)
theorem zNew_ext {f g : Nat → Nat} {p : Nat} (h : ∀ q, q ≤ p → f q = g q) : zNew f p = zNew g p := by
  unfold zNew zfl
  rw [h p (Nat.le_refl p), zfind_ext (s := fun q => decide (f q = g p)) (t := fun q => decide (g q = g p)) (n := p) (fun q hq => by (try dsimp only); rw [h q (by omega)])]
theorem zfl_ext {f g : Nat → Nat} {l k : Nat} (h : ∀ q, q < k → f q = g q) : zfl f l k = zfl g l k := zfind_ext fun q hq => by rw [h q hq]
theorem zNew_uup {f : Nat → Nat} {k v p : Nat} (h : p < k) : zNew (uup f k v) p = zNew f p := zNew_ext fun q hq => uup_n _ _ (by omega)
theorem zNew_last {f : Nat → Nat} {k v : Nat} : zNew (uup f k v) k = decide (zfl f v k = k) := by
  unfold zNew
  rw [uup_s, zfl_ext (g := f) (fun q hq => uup_n _ _ (by omega))]
theorem zkwc_mono {B : Nat → Nat} {s i j : Nat} (h : i ≤ j) : zkwc B s i ≤ zkwc B s j := zcnt_mono _ h
/-- the box that a tell of one makes -/
theorem usb_I {B : Nat → Nat} {s n i : Nat} {Z : zZt} (hs : s ≤ 2000) (hn : n ≤ 16) (h2 : uO2 n Z) (hub : ub Z < 999) : ubI n (ub Z) (uo Z) (ul Z) (if ufn Z (zVi B s (i + 1)) < ub Z then min (uF Z) (8 * zps B s (i + 1) + 3) else uF Z) (zeb B s i - (i + 2)) (uo (usb B s n Z i), ul (usb B s n Z i), uF (usb B s n Z i)) :=
  ubs_I hn hub (fun q z => by
    have := (h2.1 q (by omega)).1
    omega) (fun j => Nat.le_trans (zps_le B s j) hs) _
theorem usy_box {n : Nat} {Z Z' : zZt} {w : Nat × Nat × Nat} (hw : uWk n Z w) (hub : ub Z < 999) (h1 : ∀ q, uo Z q ≠ 999 → uo Z' q = uo Z q ∧ ul Z' q = ul Z q) (h2 : ∀ q, uo Z q = 999 → uo Z' q = 999 ∨ uo Z' q = ub Z) (p q : Nat) : usy (uo Z') (ul Z') w p q = usy (uo Z) (ul Z) w p q := by
  have key : ∀ x a, a < ub Z → (uo Z' x = a ↔ uo Z x = a) := fun x a ha => by
    by_cases e : uo Z x = 999
    · rcases h2 x e with z | z <;> omega
    · rw [(h1 x e).1]
  have kl : ∀ x a, a < ub Z → uo Z x = a → ul Z' x = ul Z x := fun x a ha e => (h1 x (by omega)).2
  unfold usy
  rcases hw with ⟨a1, a2, a3, a4⟩ | ⟨a1, a2, a3, a4, a5⟩ | ⟨a1, a2, a3, a4⟩
  · rcases a1 with a1 | a1
    · rw [if_pos a1, if_pos a1]
      exact decide_eq_decide.mpr (and_congr (key p _ a2) (key q _ a2))
    · rw [if_neg (by omega), if_neg (by omega), if_neg (by omega), if_neg (by omega), if_neg (by omega), if_neg (by omega)]
      refine decide_eq_decide.mpr ⟨fun ⟨b1, b2, b3⟩ => ?_, fun ⟨b1, b2, b3⟩ => ?_⟩
      · have c1 := (key p _ a2).mp b1
        have c2 := (key q _ a2).mp b2
        rw [kl p _ a2 c1, kl q _ a2 c2] at b3
        exact ⟨c1, c2, b3⟩
      · refine ⟨(key p _ a2).mpr b1, (key q _ a2).mpr b2, ?_⟩
        rw [kl p _ a2 b1, kl q _ a2 b2]
        exact b3
  · have a0 : ¬ w.1 = 0 := by omega
    rw [if_neg a0, if_neg a0, if_pos a1, if_pos a1]
    exact decide_eq_decide.mpr (or_congr (and_congr (key p _ (by omega)) (key q _ a3)) (and_congr (key p _ a3) (key q _ (by omega))))
  · have a0 : ¬ w.1 = 0 := by omega
    have a0' : ¬ w.1 = 1 := by omega
    rw [if_neg a0, if_neg a0, if_neg a0', if_neg a0', if_pos a1, if_pos a1]
    exact decide_eq_decide.mpr (or_congr (and_congr Iff.rfl (key q _ a3)) (and_congr Iff.rfl (key p _ a3)))
theorem uAll.box {B : Nat → Nat} {s n i : Nat} {Z : zZt} (hs : s ≤ 2000) (hn : n ≤ 16) (hq0 : zqs B s (zhh B s) = 0) (hi : i < zhh B s) (hq : zqs B s i = 0) (hk : zKi B s i = 3) (h : uAll B s n Z i) : uAll B s n (usb B s n Z i) (zeb B s i + 1) := by
  obtain ⟨⟨h1, h2, h3, h4⟩, h5, h6, h7, h8, h9⟩ := h
  have h400 := (zhh_ok B s).1
  obtain ⟨g1, g2, g3, g4, g5, g6⟩ := zgr_3 hq0 hi hq hk
  have hub : ub Z < 999 := by omega
  obtain ⟨i1, i2, i3, i4, i5, i6, i7, i8⟩ := usb_I (B := B) (i := i) hs hn h1 hub
  (try dsimp only at i1 i2 i3 i4 i5 i6 i7 i8)
  have hF1 : uFk (if ufn Z (zVi B s (i + 1)) < ub Z then min (uF Z) (8 * zps B s (i + 1) + 3) else uF Z) := by
    split
    · exact uFk_min h3 (Nat.le_trans (zps_le B s _) hs) (by decide) (by decide)
    · exact h3
  have hFl : uF (usb B s n Z i) ≤ uF Z := Nat.le_trans i5 (by
    split
    · exact Nat.min_le_left _ _
    · exact Nat.le_refl _)
  have hFn : uF (usb B s n Z i) = 99999 → uF Z = 99999 ∧ ¬ ufn Z (zVi B s (i + 1)) < ub Z ∧ zSz (uo (usb B s n Z i)) 16 (ub Z) = zeb B s i - (i + 2) := fun z => by
    obtain ⟨z1, z2⟩ := i6 z
    have h3' : uFk (uF Z) := h3
    unfold uFk at h3'
    split at z1
    · have := zps_le B s (i + 1)
      omega
    · exact ⟨z1, by assumption, z2⟩
  have hob : ∀ q, uo (usb B s n Z i) q ≠ 999 → uo Z q ≠ 999 ∧ uo (usb B s n Z i) q = uo Z q ∧ ul (usb B s n Z i) q = ul Z q ∨ uo Z q = 999 ∧ uo (usb B s n Z i) q = ub Z ∧ q < n ∧ ul (usb B s n Z i) q < zSz (uo (usb B s n Z i)) 16 (ub Z) := fun q hq => by
    by_cases e : uo Z q = 999
    · rcases i2 q e with z | z
      · exact absurd z hq
      · exact Or.inr ⟨e, z⟩
    · exact Or.inl ⟨e, i1 q e⟩
  have hbn : ub (usb B s n Z i) = ub Z + 1 := rfl
  have hnn : un (usb B s n Z i) = uup (un Z) (ub Z) (zVi B s (i + 1)) := rfl
  refine ⟨⟨⟨fun q hq2 => ?_, fun q r hq2 hr hl => ?_, fun b k hb hk2 => ?_⟩, fun k hk2 => ?_, i7 hF1, fun z => ?_⟩, fun k hk2 => ?_, uP7.up (Z := usb B s n Z i) (i := i) (fun j hj hj9 => ?_) (fun j j1 j2 => ?_), by rw [hbn]; omega, Nat.le_trans h8 (by omega), Nat.le_trans h9 (zkwc_mono (by omega))⟩
  · rw [hbn]
    rcases hob q hq2 with ⟨e1, e2, e3⟩ | ⟨e1, e2, e3, e4⟩
    · obtain ⟨f1, f2, f3⟩ := h1.1 q e1
      rw [e2, e3, i4 _ (by omega) e1]
      exact ⟨by omega, f2, f3⟩
    · rw [e2]
      exact ⟨by omega, e3, e4⟩
  · rcases hob q hq2 with ⟨e1, e2, e3⟩ | ⟨e1, e2, e3, e4⟩
    · have hr2 : uo (usb B s n Z i) r ≠ 999 := by rw [hr]; exact hq2
      rcases hob r hr2 with ⟨f1, f2, f3⟩ | ⟨f1, f2, f3, f4⟩
      · rw [e2, f2] at hr
        rw [e3, f3] at hl
        exact h1.2.1 q r e1 hr hl
      · have := (h1.1 q e1).1
        omega
    · exact i3 q r e2 (by rw [hr]; exact e2) hl
  · by_cases e : b = ub Z
    · subst e
      exact i8 k hk2
    · have hb2 : b < ub Z := by rw [hbn] at hb; omega
      rw [i4 b e (by omega)] at hk2
      obtain ⟨q, q1, q2, q3⟩ := h1.2.2 b k hb2 hk2
      obtain ⟨y1, y2⟩ := i1 q (by omega)
      exact ⟨q, q1, y1.trans q2, y2.trans q3⟩
  · have hw := h2 k hk2
    show uWk n (usb B s n Z i) (uw Z k)
    unfold uWk at hw ⊢
    rw [hbn, hnn]
    rcases hw with ⟨a1, a2, a3, a4⟩ | ⟨a1, a2, a3, a4, a5⟩ | ⟨a1, a2, a3, a4⟩
    · exact Or.inl ⟨a1, by omega, by rw [zNew_uup a2]; exact a3, a4⟩
    · exact Or.inr (Or.inl ⟨a1, a2, by omega, by rw [zNew_uup (by omega)]; exact a4, by rw [zNew_uup a3]; exact a5⟩)
    · exact Or.inr (Or.inr ⟨a1, a2, by omega, by rw [zNew_uup a3]; exact a4⟩)
  · obtain ⟨z1, z2, z3⟩ := hFn z
    obtain ⟨b1, b2, b3⟩ := h4 z1
    refine ⟨fun b hb => ?_, fun k hk2 => ?_, b3⟩
    · rw [hnn]
      by_cases e : b = ub Z
      · subst e
        rw [zNew_last, z3]
        exact ⟨decide_eq_true (by have := zfl_le (un Z) (zVi B s (i + 1)) (ub Z); unfold ufn at z2; omega), by omega⟩
      · have hb2 : b < ub Z := by rw [hbn] at hb; omega
        rw [zNew_uup hb2, i4 b e (by omega)]
        exact b1 b hb2
    · have hw := h2 k hk2
      unfold uWk at hw
      have l1 : (uw Z k).1 = 0 ∨ (uw Z k).1 = 3 → (uw Z k).2.1 < ub Z := by omega
      have l2 : (uw Z k).1 = 2 → (uw Z k).2.2 < ub Z := by omega
      obtain ⟨c1, c2, c3⟩ := b2 k hk2
      show uWf n (usb B s n Z i) (uw Z k)
      refine ⟨fun w => ?_, c2, fun w => ?_⟩
      · have l3 := l1 w
        clear c2 c3 l1 l2 hw
        rw [i4 (uw Z k).2.1 (by omega) (by omega)]
        exact c1 w
      · have l3 := l2 w
        obtain ⟨q, q1, q2, q3⟩ := c3 w
        have q4 : uo Z q ≠ 999 := by rw [q3]; clear c1 c2 c3 l1 l2 hw; omega
        exact ⟨q, q1, q2, by rw [(i1 q q4).1]; exact q3⟩
  · obtain ⟨a, b, c, j, d1, d2⟩ := h5 k hk2
    exact ⟨a, b, fun z => Nat.le_trans hFl (c z), j, by omega, d2⟩
  · obtain ⟨a, b, c⟩ := h6 j hj hj9
    exact ⟨fun z => Nat.le_trans hFl (a z), fun z => Nat.le_trans hFl (b z), c⟩
  · rcases Nat.lt_trichotomy j (i + 1) with e | e | e
    · rw [show j = i by omega, hk]; decide
    · rw [e, g1]; decide
    · rcases Nat.lt_or_ge j (zeb B s i) with w | w
      · rw [g4 j (by omega) w]; decide
      · rw [show j = zeb B s i by omega, g5]; decide
/-- what a step keeps, but for the counts -/
def uMid (B : Nat → Nat) (s n : Nat) (Z Z' : zZt) (i : Nat) : Prop := uOk n Z' ∧ uP5 B s n Z' i ∧ uP7 B s n Z' i ∧ Z'.1 = Z.1 ∧ ut Z' = ut Z
theorem uMid.rf {B : Nat → Nat} {s n i : Nat} {Z : zZt} (h : uAll B s n Z i) : uMid B s n Z Z i := ⟨h.1, h.2.1, h.2.2.1, rfl, rfl⟩
theorem uMid.bl {B : Nat → Nat} {s n i p f : Nat} {Z Z' : zZt} (h : uMid B s n Z Z' i) (hp : p ≤ 2000) (hf : 0 < f) (hf8 : f < 8) : uMid B s n Z (ubl Z' (8 * p + f)) i := ⟨h.1.bl hp hf hf8, h.2.1.bl, h.2.2.1.bl, h.2.2.2.1, h.2.2.2.2⟩
theorem uMid.kb {B : Nat → Nat} {s n i p v : Nat} {Z Z' : zZt} (h : uMid B s n Z Z' i) (hp : p ≤ 2000) : uMid B s n Z (ukb Z' v p) i := by
  unfold ukb
  split
  · exact h
  · exact h.bl hp (by decide) (by decide)
theorem uMid.kp {B : Nat → Nat} {s n i p v : Nat} {Z Z' : zZt} (h : uMid B s n Z Z' i) (hp : p ≤ 2000) : uMid B s n Z (ukp n Z' v p) i := by
  unfold ukp
  split
  · exact h
  · exact h.bl hp (by decide) (by decide)
theorem uMid.if_bl {B : Nat → Nat} {s n i p f : Nat} {Z Z' : zZt} {c : Prop} [Decidable c] (h : uMid B s n Z Z' i) (hp : p ≤ 2000) (hf : 0 < f) (hf8 : f < 8) : uMid B s n Z (if c then ubl Z' (8 * p + f) else Z') i ∧ (uF (if c then ubl Z' (8 * p + f) else Z') = 99999 → ¬ c) := by
  by_cases e : c
  · rw [if_pos e]
    exact ⟨h.bl hp hf hf8, fun z => by
      have z2 : min (uF Z') (8 * p + f) = 99999 := z
      omega⟩
  · rw [if_neg e]
    exact ⟨h, fun _ => e⟩
theorem uMid.aw {B : Nat → Nat} {s n i p : Nat} {Z Z' : zZt} {w : Nat × Nat × Nat} (h : uMid B s n Z Z' i) (hp : p ≤ 2000) (hw : uWk n Z w) (hf : uF Z' = 99999 → uWf n Z w) : uMid B s n Z (uaw Z' w p) i := by
  obtain ⟨h1, h2, h3, h4, h5⟩ := h
  have e1 : ub Z' = ub Z := by unfold ub; rw [h4]
  have e2 : un Z' = un Z := by unfold un; rw [h4]
  have e3 : uo Z' = uo Z := by unfold uo; rw [h4]
  exact ⟨h1.aw hp (by unfold uWk at hw ⊢; rw [e1, e2]; exact hw) (fun z => by unfold uWf at hf ⊢; rw [e3]; exact hf z), h2.aw, h3.aw, h4, h5⟩
theorem uMid.fin {B : Nat → Nat} {s n i i' : Nat} {Z Z' : zZt} (h : uAll B s n Z i) (hm : uMid B s n Z Z' i) (hi : i ≤ i') (h9 : ∀ j, i ≤ j → j < i' → zKi B s j ≠ 9) (hk : uk Z' ≤ zkwc B s i') : uAll B s n Z' i' := by
  obtain ⟨h1, h2, h3, h4, h5⟩ := hm
  obtain ⟨-, -, -, g1, g2, -⟩ := h
  exact ⟨h1, h2.up hi, h3.up h9, by unfold ub at g1 ⊢; rw [h4]; omega, by rw [h5]; omega, hk⟩
theorem zkwc_w {B : Nat → Nat} {s i i' : Nat} (hk : 4 ≤ zKi B s i ∧ zKi B s i ≤ 7) (hi : i < i') : zkwc B s i + 1 ≤ zkwc B s i' := by
  have h1 : zkwc B s (i + 1) = zkwc B s i + 1 := by rw [zkwc_su, if_pos (show zwd _ = true from decide_eq_true hk)]
  rw [← h1]
  exact zkwc_mono hi
theorem ukb_k (Z : zZt) (v p : Nat) : uk (ukb Z v p) = uk Z := by unfold ukb; split <;> rfl
theorem ukp_k (n : Nat) (Z : zZt) (v p : Nat) : uk (ukp n Z v p) = uk Z := by unfold ukp; split <;> rfl
theorem uif_k {c : Prop} [Decidable c] (Z : zZt) (x : Nat) : uk (if c then ubl Z x else Z) = uk Z := by split <;> rfl
theorem uAll.one {B : Nat → Nat} {s n i k : Nat} {Z : zZt} (hs : s ≤ 2000) (hq0 : zqs B s (zhh B s) = 0) (hi : i < zhh B s) (hq : zqs B s i = 0) (hk : zKi B s i = 4 ∨ zKi B s i = 5) (hk2 : k = 0 ∨ k = 3) (h : uAll B s n Z i) : uAll B s n (us1 B s k Z i) (i + 3) := by
  obtain ⟨g1, g2, g3, g4⟩ := zgr_45 hq0 hi hq hk
  have hp := fun j => Nat.le_trans (zps_le B s j) hs
  have h9 : ∀ j, i ≤ j → j < i + 3 → zKi B s j ≠ 9 := fun j j1 j2 => by
    have : j = i ∨ j = i + 1 ∨ j = i + 2 := by omega
    rcases this with e | e | e
    · rw [e]; omega
    · rw [e, g1]; decide
    · rw [e, g2]; decide
  have hw := zkwc_w (i' := i + 3) (show 4 ≤ zKi B s i ∧ zKi B s i ≤ 7 by omega) (by omega)
  have hk9 := h.2.2.2.2.2
  unfold us1
  by_cases e : ufn Z (zVi B s (i + 1)) < ub Z
  · rw [if_pos e]
    obtain ⟨m1, m2⟩ := (uMid.rf h).if_bl (c := zSz (uo Z) 16 (ufn Z (zVi B s (i + 1))) < 2) (hp (i + 1)) (f := 5) (by decide) (by decide)
    refine uMid.fin h (m1.aw (hp i) (Or.inl ⟨hk2, e, ufn_new e, rfl⟩) (fun z => ⟨fun _ => by have := m2 z; (try dsimp only); omega, fun w => absurd w (by (try dsimp only); omega), fun w => absurd w (by (try dsimp only); omega)⟩)) (by omega) h9 ?_
    show uk _ + 1 ≤ _
    rw [uif_k]
    omega
  · rw [if_neg e]
    exact uMid.fin h ((uMid.rf h).bl (hp (i + 1)) (by decide) (by decide)) (by omega) h9 (Nat.le_trans hk9 (zkwc_mono (by omega)))
theorem uAll.sid {B : Nat → Nat} {s n i : Nat} {Z : zZt} (hs : s ≤ 2000) (hq0 : zqs B s (zhh B s) = 0) (hi : i < zhh B s) (hq : zqs B s i = 0) (hk : zKi B s i = 6) (h : uAll B s n Z i) : uAll B s n (us2 B s Z i) (i + 4) := by
  obtain ⟨g1, g2, g3, g4, g5⟩ := zgr_6 hq0 hi hq hk
  have hp := fun j => Nat.le_trans (zps_le B s j) hs
  have h9 : ∀ j, i ≤ j → j < i + 4 → zKi B s j ≠ 9 := fun j j1 j2 => by
    have : j = i ∨ j = i + 1 ∨ j = i + 2 ∨ j = i + 3 := by omega
    rcases this with e | e | e | e
    · rw [e]; omega
    · rw [e, g1]; decide
    · rw [e, g2]; decide
    · rw [e, g3]; decide
  have hw := zkwc_w (i' := i + 4) (show 4 ≤ zKi B s i ∧ zKi B s i ≤ 7 by omega) (by omega)
  have hk9 := h.2.2.2.2.2
  have hm := ((uMid.rf h).kb (v := zVi B s (i + 1)) (hp (i + 1))).kb (v := zVi B s (i + 2)) (hp (i + 2))
  unfold us2
  (try dsimp only)
  by_cases e : ufn Z (zVi B s (i + 1)) < ub Z ∧ ufn Z (zVi B s (i + 2)) < ub Z
  · rw [if_pos e]
    obtain ⟨m1, m2⟩ := hm.if_bl (c := ufn Z (zVi B s (i + 1)) = ufn Z (zVi B s (i + 2))) (hp (i + 2)) (f := 5) (by decide) (by decide)
    have n1 := ufn_new e.1
    have n2 := ufn_new e.2
    refine uMid.fin h (m1.aw (hp i) ?_ (fun z => ⟨fun w => absurd w (by (try dsimp only); omega), fun _ => by have := m2 z; (try dsimp only); omega, fun w => absurd w (by (try dsimp only); omega)⟩)) (by omega) h9 ?_
    · refine Or.inr (Or.inl ⟨rfl, by (try dsimp only); omega, by (try dsimp only); omega, ?_, ?_⟩)
      · (try dsimp only)
        rcases Nat.le_total (ufn Z (zVi B s (i + 1))) (ufn Z (zVi B s (i + 2))) with w | w
        · rw [Nat.min_eq_left w]; exact n1
        · rw [Nat.min_eq_right w]; exact n2
      · (try dsimp only)
        rcases Nat.le_total (ufn Z (zVi B s (i + 1))) (ufn Z (zVi B s (i + 2))) with w | w
        · rw [Nat.max_eq_right w]; exact n2
        · rw [Nat.max_eq_left w]; exact n1
    · show uk _ + 1 ≤ _
      rw [uif_k, ukb_k, ukb_k]
      omega
  · rw [if_neg e]
    refine uMid.fin h hm (by omega) h9 ?_
    rw [ukb_k, ukb_k]
    exact Nat.le_trans hk9 (zkwc_mono (by omega))
theorem zSz_1 {f : Nat → Nat} {n b p : Nat} (hp : p < n) (h : zSz f n b ≠ (if f p = b then 1 else 0)) (h0 : zSz f n b ≠ 0 ∨ f p ≠ b) : zSz f n b = 0 ∨ ∃ q, q < n ∧ q ≠ p ∧ f q = b := by
  refine Classical.byContradiction fun z => ?_
  have z1 : zSz f n b ≠ 0 := fun w => z (Or.inl w)
  have z2 : ∀ q, q < n → q ≠ p → f q ≠ b := fun q h1 h2 h3 => z (Or.inr ⟨q, h1, h2, h3⟩)
  have key : ∀ N, N ≤ n → zSz f N b = if p < N ∧ f p = b then 1 else 0 := by
    intro N
    induction N with
    | zero => exact fun _ => rfl
    | succ N ih =>
      intro hN
      rw [zSz_su, ih (by omega)]
      by_cases e : N = p
      · subst e
        rw [if_neg (by omega)]
        by_cases e2 : f N = b
        · rw [if_pos e2, if_pos ⟨by omega, e2⟩]
        · rw [if_neg e2, if_neg (fun w => e2 w.2)]
      · rw [if_neg (z2 N (by omega) e)]
        by_cases e2 : p < N ∧ f p = b
        · rw [if_pos e2, if_pos ⟨by omega, e2.2⟩]
        · rw [if_neg e2, if_neg (fun w => e2 ⟨by omega, w.2⟩)]
  have k := key n (Nat.le_refl n)
  by_cases e : f p = b
  · rw [if_pos ⟨hp, e⟩] at k
    rw [if_pos e] at h
    exact h k
  · rw [if_neg (fun w => e w.2)] at k
    exact z1 k
theorem uAll.sta {B : Nat → Nat} {s n i : Nat} {Z : zZt} (hs : s ≤ 2000) (hn : n ≤ 16) (hq0 : zqs B s (zhh B s) = 0) (hi : i < zhh B s) (hq : zqs B s i = 0) (hk : zKi B s i = 7) (h : uAll B s n Z i) : uAll B s n (us3 B s n Z i) (i + 4) := by
  obtain ⟨g1, g2, g3, g4, g5⟩ := zgr_7 hq0 hi hq hk
  have hp := fun j => Nat.le_trans (zps_le B s j) hs
  have h9 : ∀ j, i ≤ j → j < i + 4 → zKi B s j ≠ 9 := fun j j1 j2 => by
    have : j = i ∨ j = i + 1 ∨ j = i + 2 ∨ j = i + 3 := by omega
    rcases this with e | e | e | e
    · rw [e]; omega
    · rw [e, g1]; decide
    · rw [e, g2]; decide
    · rw [e, g3]; decide
  have hw := zkwc_w (i' := i + 4) (show 4 ≤ zKi B s i ∧ zKi B s i ≤ 7 by omega) (by omega)
  have hk9 := h.2.2.2.2.2
  have hm := ((uMid.rf h).kp (v := zVi B s (i + 1)) (hp (i + 1))).kb (v := zVi B s (i + 2)) (hp (i + 2))
  have h8 := h.1.2.2.2
  have h2 := h.1.1
  unfold us3
  (try dsimp only)
  by_cases e : zVi B s (i + 1) < n ∧ ufn Z (zVi B s (i + 2)) < ub Z
  · rw [if_pos e]
    obtain ⟨m1, m2⟩ := hm.if_bl (c := zSz (uo Z) 16 (ufn Z (zVi B s (i + 2))) = (if uo Z (zVi B s (i + 1)) = ufn Z (zVi B s (i + 2)) then 1 else 0)) (hp (i + 2)) (f := 5) (by decide) (by decide)
    have n2 := ufn_new e.2
    refine uMid.fin h (m1.aw (hp i) (Or.inr (Or.inr ⟨rfl, e.1, e.2, n2⟩)) (fun z => ⟨fun w => absurd w (by (try dsimp only); omega), fun w => absurd w (by (try dsimp only); omega), fun _ => ?_⟩)) (by omega) h9 ?_
    · (try dsimp only)
      have hne := m2 z
      have hF0 : uF Z = 99999 := by
        have hle : ∀ (c : Prop) [Decidable c] (Y : zZt) (x : Nat), uF (if c then ubl Y x else Y) ≤ uF Y := fun c _ Y x => by
          split
          · exact Nat.min_le_left _ _
          · exact Nat.le_refl _
        have l1 : ∀ Y v p, uF (ukb Y v p) ≤ uF Y := fun Y v p => by
          unfold ukb
          split
          · exact Nat.le_refl _
          · exact Nat.min_le_left _ _
        have l2 : ∀ Y v p, uF (ukp n Y v p) ≤ uF Y := fun Y v p => by
          unfold ukp
          split
          · exact Nat.le_refl _
          · exact Nat.min_le_left _ _
        have a1 := hle (zSz (uo Z) 16 (ufn Z (zVi B s (i + 2))) = (if uo Z (zVi B s (i + 1)) = ufn Z (zVi B s (i + 2)) then 1 else 0)) (ukb (ukp n Z (zVi B s (i + 1)) (zps B s (i + 1))) (zVi B s (i + 2)) (zps B s (i + 2))) (8 * zps B s (i + 2) + 5)
        have a2 := l1 (ukp n Z (zVi B s (i + 1)) (zps B s (i + 1))) (zVi B s (i + 2)) (zps B s (i + 2))
        have a3 := l2 Z (zVi B s (i + 1)) (zps B s (i + 1))
        have hFk : uFk (uF Z) := h.1.2.2.1
        unfold uFk at hFk
        rw [z] at a1
        omega
      have hpos := (h8 hF0).1 _ e.2
      rcases zSz_1 (n := 16) (show zVi B s (i + 1) < 16 by omega) hne (Or.inl (by omega)) with w | ⟨q, q1, q2, q3⟩
      · omega
      · have h400 := (zhh_ok B s).1
        have hub := h.2.2.2.1
        exact ⟨q, (h2.1 q (by rw [q3]; omega)).2.1, q2, q3⟩
    · show uk _ + 1 ≤ _
      rw [uif_k, ukb_k, ukp_k]
      omega
  · rw [if_neg e]
    refine uMid.fin h hm (by omega) h9 ?_
    rw [ukb_k, ukp_k]
    exact Nat.le_trans hk9 (zkwc_mono (by omega))
theorem uOk.ap {n : Nat} {Z : zZt} {x : Nat × Nat × Bool × Nat} (h : uOk n Z) (hx : uF Z = 99999 → x.1 ≠ x.2.1) : uOk n (uap Z x) := by
  obtain ⟨h1, h2, h3, h4⟩ := h
  refine ⟨h1, h2, h3, fun z => ?_⟩
  obtain ⟨a, b, c⟩ := h4 z
  refine ⟨a, b, fun k hk => ?_⟩
  show (uup (up Z) (ut Z) x k).1 ≠ (uup (up Z) (ut Z) x k).2.1
  by_cases e : k = ut Z
  · rw [e, uup_s]; exact hx z
  · rw [uup_n _ _ e]; exact c k (by have : k < ut Z + 1 := hk; omega)
theorem uAll.pai {B : Nat → Nat} {s n i : Nat} {also : Bool} {Z : zZt} (hs : s ≤ 2000) (hq0 : zqs B s (zhh B s) = 0) (hi : i < zhh B s) (hq : zqs B s i = 0) (hk : zKi B s i = 8 ∨ zKi B s i = 9) (ha : also = decide (zKi B s i = 9)) (h : uAll B s n Z i) : uAll B s n (us4 B s n also Z i) (i + 4) := by
  obtain ⟨g1, g2, g3, g4, g5⟩ := zgr_89 hq0 hi hq hk
  have hp := fun j => Nat.le_trans (zps_le B s j) hs
  have h9 : ∀ j, i < j → j < i + 4 → zKi B s j ≠ 9 := fun j j1 j2 => by
    have : j = i + 1 ∨ j = i + 2 ∨ j = i + 3 := by omega
    rcases this with e | e | e
    · rw [e, g1]; decide
    · rw [e, g2]; decide
    · rw [e, g3]; decide
  have hm := ((uMid.rf h).kp (v := zVi B s (i + 1)) (hp (i + 1))).kp (v := zVi B s (i + 2)) (hp (i + 2))
  have hkw : zkwc B s i ≤ zkwc B s (i + 4) := zkwc_mono (by omega)
  obtain ⟨-, -, -, q1, q2, q3⟩ := h
  -- what is known of pairs told before, and of the one told now
  have fin : ∀ Z', uOk n Z' → uP5 B s n Z' (i + 4) → uP7 B s n Z' i → ub Z' = ub Z → uk Z' = uk Z → ut Z' ≤ ut Z + 1 → (zKi B s i = 9 → (n ≤ zVi B s (i + 1) → uF Z' ≤ 8 * zps B s (i + 1) + 5) ∧ (n ≤ zVi B s (i + 2) → uF Z' ≤ 8 * zps B s (i + 2) + 5) ∧ (zVi B s (i + 1) < n → zVi B s (i + 2) < n → ∃ k, k < ut Z' ∧ up Z' k = (zVi B s (i + 1), zVi B s (i + 2), true, zps B s (i + 2)))) → uAll B s n Z' (i + 4) := fun Z' a1 a2 a3 a4 a5 a6 a7 => ⟨a1, a2, fun j hj hj9 => by
    rcases Nat.lt_trichotomy j i with e | e | e
    · exact a3 j e hj9
    · subst e; exact a7 hj9
    · exact absurd hj9 (h9 j e hj), by rw [a4]; omega, by omega, by rw [a5]; omega⟩
  have hF1 : ∀ Y v p, n ≤ v → uF (ukp n Y v p) ≤ 8 * p + 5 := fun Y v p hv => by
    unfold ukp
    rw [if_neg (by omega)]
    exact Nat.min_le_right _ _
  have hF2 : ∀ Y v p, uF (ukp n Y v p) ≤ uF Y := fun Y v p => by
    unfold ukp
    split
    · exact Nat.le_refl _
    · exact Nat.min_le_left _ _
  unfold us4
  (try dsimp only)
  by_cases e : zVi B s (i + 1) < n ∧ zVi B s (i + 2) < n
  · rw [if_pos e]
    have e1 : ukp n (ukp n Z (zVi B s (i + 1)) (zps B s (i + 1))) (zVi B s (i + 2)) (zps B s (i + 2)) = Z := by
      unfold ukp
      rw [if_pos e.2, if_pos e.1]
    rw [e1] at hm ⊢
    obtain ⟨m1, -⟩ := hm.if_bl (c := upr Z (zVi B s (i + 1)) (zVi B s (i + 2)) = true) (hp (i + 2)) (f := 3) (by decide) (by decide)
    have f3 : ∀ Y : zZt, Y = (if upr Z (zVi B s (i + 1)) (zVi B s (i + 2)) = true then ubl Z (8 * zps B s (i + 2) + 3) else Z) → uk Y = uk Z ∧ up Y = up Z := fun Y hY => by
      rw [hY]
      split <;> exact ⟨rfl, rfl⟩
    generalize hZ3 : (if upr Z (zVi B s (i + 1)) (zVi B s (i + 2)) = true then ubl Z (8 * zps B s (i + 2) + 3) else Z) = Z3 at m1 ⊢
    obtain ⟨k3, p3⟩ := f3 Z3 hZ3.symm
    obtain ⟨m2, m3⟩ := m1.if_bl (c := zVi B s (i + 1) = zVi B s (i + 2) ∨ also = false ∧ usd Z (zVi B s (i + 1)) (zVi B s (i + 2)) = false) (hp (i + 2)) (f := 5) (by decide) (by decide)
    have f4 : ∀ Y : zZt, Y = (if zVi B s (i + 1) = zVi B s (i + 2) ∨ also = false ∧ usd Z (zVi B s (i + 1)) (zVi B s (i + 2)) = false then ubl Z3 (8 * zps B s (i + 2) + 5) else Z3) → uk Y = uk Z3 ∧ up Y = up Z3 ∧ (zVi B s (i + 1) = zVi B s (i + 2) → uF Y ≤ 8 * zps B s (i + 2) + 5) := fun Y hY => by
      rw [hY]
      by_cases w : zVi B s (i + 1) = zVi B s (i + 2) ∨ also = false ∧ usd Z (zVi B s (i + 1)) (zVi B s (i + 2)) = false
      · rw [if_pos w]
        exact ⟨rfl, rfl, fun _ => Nat.min_le_right _ _⟩
      · rw [if_neg w]
        exact ⟨rfl, rfl, fun z => absurd (Or.inl z) w⟩
    generalize hZ4 : (if zVi B s (i + 1) = zVi B s (i + 2) ∨ also = false ∧ usd Z (zVi B s (i + 1)) (zVi B s (i + 2)) = false then ubl Z3 (8 * zps B s (i + 2) + 5) else Z3) = Z4 at m2 m3 ⊢
    obtain ⟨k4, p4, F4⟩ := f4 Z4 hZ4.symm
    obtain ⟨o1, o2, o3, o4, o5⟩ := m2
    refine fin _ (o1.ap (fun z => fun w => m3 z (Or.inl w))) (fun k hk2 => ?_) (fun j hj hj9 => ?_) (by show Z4.1.1 = Z.1.1; rw [o4]) (by show uk Z4 = uk Z; rw [k4, k3]) (by show ut Z4 + 1 ≤ ut Z + 1; rw [o5]; exact Nat.le_refl _) (fun hk9 => ⟨fun z => absurd z (by omega), fun z => absurd z (by omega), fun _ _ => ⟨ut Z4, Nat.lt_succ_self _, by
        show uup (up Z4) (ut Z4) _ (ut Z4) = _
        rw [uup_s, ha, hk9]
        rfl⟩⟩)
    · show (uup (up Z4) (ut Z4) _ k).1 < n ∧ _
      have hk3 : k < ut Z4 + 1 := hk2
      have hup : up (uap Z4 (zVi B s (i + 1), zVi B s (i + 2), also, zps B s (i + 2))) = uup (up Z4) (ut Z4) (zVi B s (i + 1), zVi B s (i + 2), also, zps B s (i + 2)) := rfl
      rw [hup]
      by_cases w : k = ut Z4
      · subst w
        rw [uup_s]
        refine ⟨e.1, e.2, F4, i, by omega, rfl, fun z => ?_⟩
        have z2 : also = true := z
        rw [ha] at z2
        exact ⟨of_decide_eq_true z2, rfl, rfl⟩
      · rw [uup_n _ _ w]
        obtain ⟨a, b, c, j, d⟩ := o2 k (by omega)
        exact ⟨a, b, c, j, by omega, d.2⟩
    · obtain ⟨a, b, c⟩ := o3 j hj hj9
      refine ⟨a, b, fun c1 c2 => ?_⟩
      obtain ⟨k, k1, k2⟩ := c c1 c2
      exact ⟨k, Nat.lt_succ_of_lt k1, by show uup (up Z4) (ut Z4) _ k = _; rw [uup_n _ _ (by omega)]; exact k2⟩
  · rw [if_neg e]
    obtain ⟨o1, o2, o3, o4, o5⟩ := hm
    refine fin _ o1 (o2.up (by omega)) o3 (by show Prod.fst (Prod.fst _) = _; rw [o4]; rfl) (by rw [ukp_k, ukp_k]) (by rw [o5]; omega) (fun _ => ⟨fun z => Nat.le_trans (hF2 _ _ _) (hF1 _ _ _ z), fun z => hF1 _ _ _ z, fun c1 c2 => absurd ⟨c1, c2⟩ e⟩)
theorem uAll.st {B : Nat → Nat} {s n i : Nat} {Z : zZt} (hs : s ≤ 2000) (hn : n ≤ 16) (hq0 : zqs B s (zhh B s) = 0) (hi : i < zhh B s) (hq : zqs B s i = 0) (h : uAll B s n Z i) : uAll B s n (ust B s n Z i) (znt B s i) := by
  obtain ⟨k1, k2, -⟩ := zgr_tell hi hq
  unfold ust znt
  by_cases h3 : zKi B s i = 3
  · rw [if_pos h3, if_pos h3]
    exact h.box hs hn hq0 hi hq h3
  rw [if_neg h3, if_neg h3]
  by_cases h4 : zKi B s i = 4
  · rw [if_pos h4, if_pos (show zKi B s i ≤ 5 by omega)]
    exact h.one hs hq0 hi hq (Or.inl h4) (Or.inl rfl)
  rw [if_neg h4]
  by_cases h5 : zKi B s i = 5
  · rw [if_pos h5, if_pos (show zKi B s i ≤ 5 by omega)]
    exact h.one hs hq0 hi hq (Or.inr h5) (Or.inr rfl)
  have h55 : ¬ zKi B s i ≤ 5 := by omega
  rw [if_neg h5, if_neg h55]
  by_cases h6 : zKi B s i = 6
  · rw [if_pos h6]
    exact h.sid hs hq0 hi hq h6
  rw [if_neg h6]
  by_cases h7 : zKi B s i = 7
  · rw [if_pos h7]
    exact h.sta hs hn hq0 hi hq h7
  rw [if_neg h7]
  exact h.pai hs hq0 hi hq (by omega) rfl
theorem uAll.z0 {B : Nat → Nat} {s n : Nat} : uAll B s n uZ0 0 := ⟨⟨⟨fun q h => absurd rfl h, fun q r h => absurd rfl h, fun b k hb => absurd hb (Nat.not_lt_zero _)⟩, fun k hk => absurd hk (Nat.not_lt_zero _), Or.inl rfl, fun _ => ⟨fun k hk => absurd hk (Nat.not_lt_zero _), fun k hk => absurd hk (Nat.not_lt_zero _), fun k hk => absurd hk (Nat.not_lt_zero _)⟩⟩, fun k hk => absurd hk (Nat.not_lt_zero _), fun j hj => absurd hj (Nat.not_lt_zero _), Nat.le_refl _, Nat.le_refl _, Nat.zero_le _⟩
