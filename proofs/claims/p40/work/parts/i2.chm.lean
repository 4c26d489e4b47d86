/-! ===== nets by chance: what both compute ===== -/
theorem zp2_one {a b n : Nat} (hab : a < b) (hb : b < n) : zp2 (fun p q => decide (p = a ∧ q = b)) n = 1 := by
  unfold zp2
  have h : zsum (fun p => zcnt (fun q => decide (p < q) && decide (p = a ∧ q = b)) n) n = zsum (fun _ => 0) n + 1 := zsum_at (k := a) (by omega) (by
    have e : zcnt (fun q => decide (a < q) && decide (a = a ∧ q = b)) n = zcnt (fun d => (fun _ => false) d || decide (d = b)) n := zcnt_ext fun q _ => by
      by_cases e : q = b
      · subst e; simp [hab]
      · simp [e]
    show zcnt (fun q => decide (a < q) && decide (a = a ∧ q = b)) n = 0 + 1
    rw [e, zcnt_ins (W := fun _ => false) rfl n, zcnt_z (fun _ _ => rfl), if_pos hb]) (fun i hi => zcnt_z fun q _ => by simp [hi])
  rw [h, zsum_z (fun _ _ => rfl)]
theorem zflip_c (T : Nat → Nat → Bool) (a b : Nat) : zflip T a b = zflip T b a := by
  funext p q
  unfold zflip
  rw [Bool.or_comm]
theorem zflip_at {T : Nat → Nat → Bool} {a b : Nat} : zflip T a b a b = !T a b := by
  unfold zflip
  rw [decide_eq_true ⟨rfl, rfl⟩, Bool.true_or, Bool.xor_true]
theorem zflip_no {T : Nat → Nat → Bool} {a b p q : Nat} (h1 : ¬ (p = a ∧ q = b)) (h2 : ¬ (p = b ∧ q = a)) : zflip T a b p q = T p q := by
  unfold zflip
  rw [decide_eq_false h1, decide_eq_false h2, Bool.or_false, Bool.xor_false]
theorem zp2_fl {T : Nat → Nat → Bool} {n a b : Nat} (hab : a < b) (hb : b < n) : zp2 T n + (if T a b = true then 0 else 1) = zp2 (zflip T a b) n + (if T a b = true then 1 else 0) := by
  have h1 := zp2_one hab hb
  cases e : T a b
  · have h2 : zp2 (zflip T a b) n = zp2 T n + zp2 (fun p q => decide (p = a ∧ q = b)) n := zp2_add fun p q hp hq => by
      by_cases w : p = a ∧ q = b
      · obtain ⟨rfl, rfl⟩ := w
        rw [zflip_at, e]; simp
      · rw [zflip_no w (by omega), decide_eq_false w]; simp
    simp; omega
  · have h2 : zp2 T n = zp2 (zflip T a b) n + zp2 (fun p q => decide (p = a ∧ q = b)) n := zp2_add fun p q hp hq => by
      by_cases w : p = a ∧ q = b
      · obtain ⟨rfl, rfl⟩ := w
        rw [zflip_at, e]; simp
      · rw [zflip_no w (by omega), decide_eq_false w]; simp
    simp; omega
theorem zflip_reg {T : Nat → Nat → Bool} {n a b : Nat} (hT : zReg n T) (ha : a < n) (hb : b < n) (hab : a ≠ b) : zReg n (zflip T a b) := by
  refine ⟨fun p q => ?_, fun p => ?_, fun p q h => ?_⟩
  · unfold zflip
    rw [hT.1 p q]
    congr 1
    rw [Bool.eq_iff_iff]
    simp only [Bool.or_eq_true, decide_eq_true_eq]
    omega
  · rw [zflip_no (by omega) (by omega)]; exact hT.2.1 p
  · by_cases w : p = a ∧ q = b
    · omega
    · by_cases w2 : p = b ∧ q = a
      · omega
      · rw [zflip_no w w2] at h; exact hT.2.2 p q h
theorem zp2_flr {T : Nat → Nat → Bool} {n a b : Nat} (hT : zReg n T) (ha : a < n) (hb : b < n) (hab : a ≠ b) : zp2 T n + (if T a b = true then 0 else 1) = zp2 (zflip T a b) n + (if T a b = true then 1 else 0) := by
  rcases Nat.lt_or_ge a b with w | w
  · exact zp2_fl w hb
  · rw [zflip_c, hT.1 a b]; exact zp2_fl (by omega) ha
/-- two ties exchanged -/
def zSwc (T : Nat → Nat → Bool) (a b c d : Nat) : Prop := a ≠ c ∧ a ≠ d ∧ b ≠ c ∧ b ≠ d ∧ T a d = false ∧ T c b = false
def zSwf (T : Nat → Nat → Bool) (a b c d : Nat) : Nat → Nat → Bool := zflip (zflip (zflip (zflip T a b) c d) a d) c b
def zSw4 (T : Nat → Nat → Bool) (a b c d : Nat) : Nat → Nat → Bool := if a ≠ c ∧ a ≠ d ∧ b ≠ c ∧ b ≠ d ∧ T a d = false ∧ T c b = false then zSwf T a b c d else T
theorem zSw4_ok {T : Nat → Nat → Bool} {n a b c d : Nat} (hT : zReg n T) (hab : T a b = true) (hcd : T c d = true) : zReg n (zSw4 T a b c d) ∧ zp2 (zSw4 T a b c d) n = zp2 T n := by
  have hne1 : a ≠ b := fun z => by rw [z, hT.2.1] at hab; cases hab
  have hne2 : c ≠ d := fun z => by rw [z, hT.2.1] at hcd; cases hcd
  obtain ⟨a1, b1⟩ := hT.lt hab
  obtain ⟨c1, d1⟩ := hT.lt hcd
  unfold zSw4
  by_cases h : a ≠ c ∧ a ≠ d ∧ b ≠ c ∧ b ≠ d ∧ T a d = false ∧ T c b = false
  · rw [if_pos h]
    obtain ⟨e1, e2, e3, e4, e5, e6⟩ := h
    have r1 := zflip_reg hT a1 b1 hne1
    have r2 := zflip_reg r1 c1 d1 hne2
    have r3 := zflip_reg r2 a1 d1 e2
    have r4 := zflip_reg r3 c1 b1 (Ne.symm e3)
    refine ⟨r4, ?_⟩
    have p1 := zp2_flr hT a1 b1 hne1
    have p2 := zp2_flr r1 c1 d1 hne2
    have p3 := zp2_flr r2 a1 d1 e2
    have p4 := zp2_flr r3 c1 b1 (Ne.symm e3)
    rw [hab] at p1
    rw [zflip_no (by omega) (by omega), hcd] at p2
    rw [zflip_no (by omega) (by omega), zflip_no (by omega) (by omega), e5] at p3
    rw [zflip_no (by omega) (by omega), zflip_no (by omega) (by omega), zflip_no (by omega) (by omega), e6] at p4
    simp at p1 p2 p3 p4
    unfold zSwf
    omega
  · rw [if_neg h]; exact ⟨hT, rfl⟩
/-- the i-th tie -/
def zPik (T : Nat → Nat → Bool) (i : Nat) : Nat := (zpk (zut T) ((i : Nat) : Int) 256).toNat
theorem zPik_ok {T : Nat → Nat → Bool} {i : Nat} (hi : i < zcnt (zut T) 256) : ∃ c : Nat, c < 256 ∧ T (c / 16) (c % 16) = true ∧ zpk (zut T) ((i : Nat) : Int) 256 = ((c : Nat) : Int) ∧ zPik T i = c := by
  obtain ⟨c, h1, h2, h3⟩ := zcnt_has (zut T) 256 i hi
  have h4 : zpk (zut T) ((i : Nat) : Int) 256 = ((c : Nat) : Int) := zpk_some h1 h2 (by rw [h3])
  refine ⟨c, h1, ?_, h4, ?_⟩
  · have h5 : (T (c / 16) (c % 16) && decide (c / 16 < c % 16)) = true := h2
    simp only [Bool.and_eq_true] at h5
    exact h5.1
  · unfold zPik; rw [h4]; rfl
theorem zut_cnt {n : Nat} {T : Nat → Nat → Bool} (hT : zReg n T) (hn : n ≤ 16) : zcnt (zut T) 256 = zp2 T n := by
  have h := zcnt_rows T 16 0 (by omega)
  rw [show 16 * 16 + 0 = 256 from rfl] at h
  rw [h]
  show zsum _ 16 + 0 = _
  have h2 : zsum (fun a => zcnt (zutr T a) 16) 16 = zsum (fun a => zcnt (zutr T a) 16) n := zsum_top (fun a ha => zcnt_z fun q _ => by
    unfold zutr
    cases e : T a q
    · rfl
    · have := (hT.lt e).1; omega) hn
  rw [h2]
  unfold zp2
  show zsum _ n = _
  refine zsum_ext fun p hp => ?_
  rw [zcnt_top (c := n) (W := zutr T p) (fun d hd => by
    unfold zutr
    cases e : T p d
    · rfl
    · have := (hT.lt e).2; omega) hn]
  refine zcnt_ext fun q _ => ?_
  unfold zutr
  rw [Bool.and_comm]
/-- one step, and the steps -/
def zSf (T : Nat → Nat → Bool) (seed : Int) (m k : Nat) : Nat → Nat → Bool :=
  zSw4 T (zPik T (zlot seed ((2 * k : Nat) : Int) m) / 16) (zPik T (zlot seed ((2 * k : Nat) : Int) m) % 16)
    (if zlot seed ((2 * k + 1 : Nat) : Int) (2 * m) % 2 = 0 then zPik T (zlot seed ((2 * k + 1 : Nat) : Int) (2 * m) / 2) / 16 else zPik T (zlot seed ((2 * k + 1 : Nat) : Int) (2 * m) / 2) % 16)
    (if zlot seed ((2 * k + 1 : Nat) : Int) (2 * m) % 2 = 0 then zPik T (zlot seed ((2 * k + 1 : Nat) : Int) (2 * m) / 2) % 16 else zPik T (zlot seed ((2 * k + 1 : Nat) : Int) (2 * m) / 2) / 16)
def zShf (T : Nat → Nat → Bool) (seed : Int) (m : Nat) : Nat → Nat → Nat → Bool
  | 0 => T
  | k + 1 => zSf (zShf T seed m k) seed m k
def zCh (n : Nat) (T : Nat → Nat → Bool) (seed : Int) : Nat → Nat → Bool := zShf T seed (zp2 T n) (4 * zp2 T n)
/-- what is drawn in a step: the codes of two ties -/
theorem zSf_at {T : Nat → Nat → Bool} {n m : Nat} (hT : zReg n T) (hn : n ≤ 16) (hm : zp2 T n = m) (hm0 : 0 < m) (seed : Int) (k : Nat) : ∃ x y h : Nat, x < 256 ∧ y < 256 ∧ T (x / 16) (x % 16) = true ∧ T (y / 16) (y % 16) = true ∧ zlot seed ((2 * k + 1 : Nat) : Int) (2 * m) = h ∧ h < 2 * m ∧ zpk (zut T) ((zlot seed ((2 * k : Nat) : Int) m : Nat) : Int) 256 = ((x : Nat) : Int) ∧ zpk (zut T) ((h / 2 : Nat) : Int) 256 = ((y : Nat) : Int) ∧ zSf T seed m k = zSw4 T (x / 16) (x % 16) (if h % 2 = 0 then y / 16 else y % 16) (if h % 2 = 0 then y % 16 else y / 16) := by
  have hc := zut_cnt hT hn
  have l1 := zlot_lt (seed := seed) (which := ((2 * k : Nat) : Int)) hm0
  have l2 := zlot_lt (seed := seed) (which := ((2 * k + 1 : Nat) : Int)) (n := 2 * m) (by omega)
  obtain ⟨x, x1, x2, x3, x4⟩ := zPik_ok (T := T) (i := zlot seed ((2 * k : Nat) : Int) m) (by omega)
  obtain ⟨y, y1, y2, y3, y4⟩ := zPik_ok (T := T) (i := zlot seed ((2 * k + 1 : Nat) : Int) (2 * m) / 2) (by omega)
  refine ⟨x, y, _, x1, y1, x2, y2, rfl, l2, x3, y3, ?_⟩
  unfold zSf
  rw [x4, y4]
theorem zSf_ok {T : Nat → Nat → Bool} {n m : Nat} (hT : zReg n T) (hn : n ≤ 16) (hm : zp2 T n = m) (hm0 : 0 < m) (seed : Int) (k : Nat) : zReg n (zSf T seed m k) ∧ zp2 (zSf T seed m k) n = m := by
  obtain ⟨x, y, h, -, -, x2, y2, -, -, -, -, e⟩ := zSf_at hT hn hm hm0 seed k
  rw [e, ← hm]
  by_cases w : h % 2 = 0
  · rw [if_pos w, if_pos w]; exact zSw4_ok hT x2 y2
  · rw [if_neg w, if_neg w]; exact zSw4_ok hT x2 (by rw [hT.1]; exact y2)
theorem zShf_ok {T : Nat → Nat → Bool} {n m : Nat} (hT : zReg n T) (hn : n ≤ 16) (hm : zp2 T n = m) (seed : Int) (k : Nat) (hk : k ≤ 4 * m) : zReg n (zShf T seed m k) ∧ zp2 (zShf T seed m k) n = m := by
  induction k with
  | zero => exact ⟨hT, hm⟩
  | succ k ih =>
    obtain ⟨h1, h2⟩ := ih (by omega)
    exact zSf_ok h1 hn h2 (by omega) seed k
theorem zCh_reg {T : Nat → Nat → Bool} {n : Nat} (hT : zReg n T) (hn : n ≤ 16) (seed : Int) : zReg n (zCh n T seed) := (zShf_ok hT hn rfl seed _ (Nat.le_refl _)).1
theorem zlnk {T : Nat → Nat → Bool} {a b : Nat} {v : Bool} (hs : T b a = T a b) (hv : T a b = !v) : zmu (zmu T a b v) b a v = zflip T a b := by
  funext p q
  unfold zmu
  by_cases w2 : p = b ∧ q = a
  · obtain ⟨rfl, rfl⟩ := w2
    rw [if_pos ⟨rfl, rfl⟩, zflip_c, zflip_at, hs, hv, Bool.not_not]
  · rw [if_neg w2]
    by_cases w1 : p = a ∧ q = b
    · obtain ⟨rfl, rfl⟩ := w1
      rw [if_pos ⟨rfl, rfl⟩, zflip_at, hv, Bool.not_not]
    · rw [if_neg w1, zflip_no w1 w2]
