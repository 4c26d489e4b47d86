/-! ===== the bound: what both compute ===== -/
/-- the net as seen from a post on -/
def zsh (T : Nat → Nat → Bool) (from' : Nat) : Nat → Nat → Bool := fun p q => T (from' + p) (from' + q)
def zon (m : Nat) (f : Nat → Nat) (T : Nat → Nat → Bool) (i j : Nat) : Nat := zp2 (fun a b => zky f i j a b && T a b) m
def zof (m : Nat) (f : Nat → Nat) (T : Nat → Nat → Bool) (i j : Nat) : Nat := zp2 (fun a b => zky f i j a b && !T a b) m
theorem zon_of (m : Nat) (f : Nat → Nat) (T : Nat → Nat → Bool) (i j : Nat) : zon m f T i j + zof m f T i j = zp2 (zky f i j) m :=
  (zp2_add fun p q _ _ => by cases zky f i j p q <;> cases T p q <;> rfl).symm
theorem zon_wo (m : Nat) (f : Nat → Nat) (T : Nat → Nat → Bool) (i j : Nat) : zP2 (zwo f T i j) m = ((zon m f T i j : Nat) : Int) - ((zof m f T i j : Nat) : Int) := by
  have e : zP2 (zwo f T i j) m = zP2 (fun p q => 1 * zbI (zky f i j p q && T p q) + (-1) * zbI (zky f i j p q && !T p q)) m := zP2_ext fun p q _ _ => by
    unfold zwo
    cases zky f i j p q <;> cases T p q <;> rfl
  rw [e, zP2_lin, zP2_zp2 (fun p q => zky f i j p q && T p q), zP2_zp2 (fun p q => zky f i j p q && !T p q)]
  show 1 * ((zon m f T i j : Nat) : Int) + -1 * ((zof m f T i j : Nat) : Int) = _
  omega
theorem zbw_no (g : Nat → Nat) (n a b : Nat) : zbw (fun _ _ => false) g n a b n = 0 := zsum_z fun p _ => by
  split
  · exact zcnt_z fun _ _ => rfl
  · rfl
theorem zon_side {m i j : Nat} {f : Nat → Nat} {T : Nat → Nat → Bool} (hT : ∀ a b, T a b = T b a) (hij : i ≠ j) : zon m f T i j = zbw T f m i j m ∧ zof m f T i j = zSz f m i * zSz f m j - zbw T f m i j m := by
  have h1 := zov_side (n := m) (g := f) hT hij
  have h2 := zov_side (T := fun _ _ => false) (n := m) (g := f) (fun _ _ => rfl) hij
  rw [zon_wo] at h1 h2
  have h3 := zon_of m f T i j
  have h4 := zon_of m f (fun _ _ => false) i j
  have h5 : zon m f (fun _ _ => false) i j = 0 := zp2_0 fun p q _ _ => by rw [Bool.and_false]
  rw [zbw_no] at h2
  rw [← Int.natCast_mul] at h1 h2
  generalize zSz f m i * zSz f m j = w at *
  omega
theorem zon_crowd {m i : Nat} {f : Nat → Nat} {T : Nat → Nat → Bool} (hT : ∀ a b, T a b = T b a) (hT0 : ∀ a, T a a = false) : zon m f T i i = zbw T f m i i m / 2 ∧ zof m f T i i = zSz f m i * (zSz f m i - 1) / 2 - zbw T f m i i m / 2 := by
  have h1 := zov_crowd (n := m) (g := f) (i := i) hT hT0
  have h2 := zov_crowd (T := fun _ _ => false) (n := m) (g := f) (i := i) (fun _ _ => rfl) (fun _ => rfl)
  rw [zon_wo] at h1 h2
  have h3 := zon_of m f T i i
  have h4 := zon_of m f (fun _ _ => false) i i
  have h5 : zon m f (fun _ _ => false) i i = 0 := zp2_0 fun p q _ _ => by rw [Bool.and_false]
  rw [zbw_no] at h2
  generalize zSz f m i * (zSz f m i - 1) / 2 = w at *
  omega
def zmo (m : Nat) (f : Nat → Nat) (T : Nat → Nat → Bool) (i j : Nat) : Nat := min (zon m f T i j) (zof m f T i j)
theorem zmo_le {m : Nat} (hm : m ≤ 16) (f : Nat → Nat) (T : Nat → Nat → Bool) (i j : Nat) : zmo m f T i j ≤ 120 := by
  have h := zp2_le (fun a b => zky f i j a b && T a b) hm
  have h2 : zmo m f T i j ≤ zon m f T i j := Nat.min_le_left _ _
  unfold zon at h2
  omega
/-- wrong pairs of a parting, over the first B boxes -/
def zlv (m : Nat) (f : Nat → Nat) (T : Nat → Nat → Bool) (B : Nat) : Nat := zsum (fun i => zsum (fun d => zmo m f T i (i + d)) (B - i)) B
theorem zsum_cap {f : Nat → Nat} {c : Nat} (h : ∀ i, f i ≤ c) (n : Nat) : zsum f n ≤ n * c := by
  induction n with
  | zero => exact Nat.zero_le _
  | succ n ih => rw [zsum_su, Nat.add_mul]; have := h n; omega
theorem zlv_le {m B : Nat} (hm : m ≤ 16) (hB : B ≤ 16) (f : Nat → Nat) (T : Nat → Nat → Bool) (k : Nat) (hk : k ≤ B) : zsum (fun i => zsum (fun d => zmo m f T i (i + d)) (B - i)) k ≤ 40000 := by
  have h := zsum_cap (f := fun i => zsum (fun d => zmo m f T i (i + d)) (B - i)) (c := 16 * 120) (fun i => by
    have h1 := zsum_cap (f := fun d => zmo m f T i (i + d)) (c := 120) (fun d => zmo_le hm _ _ _ _) (B - i)
    have h2 : (B - i) * 120 ≤ 16 * 120 := Nat.mul_le_mul_right _ (by omega)
    show zsum (fun d => zmo m f T i (i + d)) (B - i) ≤ _
    omega) k
  have h2 : k * (16 * 120) ≤ 16 * (16 * 120) := Nat.mul_le_mul_right _ (by omega)
  omega
theorem zmo_no {m i j : Nat} {f : Nat → Nat} {T : Nat → Nat → Bool} (h : ∀ q, q < m → f q ≠ i ∧ f q ≠ j ∨ f q ≠ j) : zmo m f T i j = 0 := by
  have e : zon m f T i j = 0 := zp2_0 fun p q hpq hq => by
    have h1 := h p (by omega)
    have h2 := h q hq
    have : zky f i j p q = false := decide_eq_false (by omega)
    rw [this]; rfl
  unfold zmo
  rw [e]; exact Nat.zero_min _
theorem zlv_all {m : Nat} {f : Nat → Nat} (hf : zRG m f) (T : Nat → Nat → Bool) : zlv m f T m = zlv m f T (zmU f m) := by
  have hB := zRG_mU hf (Nat.le_refl _)
  have hlt : ∀ q, q < m → f q < zmU f m := fun q hq => zmU_lt hq
  generalize zmU f m = B at hB hlt ⊢
  have hin : ∀ i, zsum (fun d => zmo m f T i (i + d)) (m - i) = zsum (fun d => zmo m f T i (i + d)) (B - i) := fun i =>
    zsum_top (fun d hd => zmo_no fun q hq => Or.inr (by have := hlt q hq; omega)) (by omega)
  unfold zlv
  rw [zsum_ext (fun i _ => hin i)]
  exact zsum_top (fun i hi => by rw [show B - i = 0 by omega]; rfl) hB
/-- the least of the first k partings into at most m' boxes -/
def zpl (n : Nat) (T : Nat → Nat → Bool) : Nat → Nat → Nat
  | 0, _ => zlv n (zgs n 0) T n
  | k + 1, m => if zmU (zgs n (k + 1)) n ≤ m ∧ zlv n (zgs n (k + 1)) T n < zpl n T k m then zlv n (zgs n (k + 1)) T n else zpl n T k m
theorem zpl_su (n : Nat) (T : Nat → Nat → Bool) (k m : Nat) : zpl n T (k + 1) m = if zmU (zgs n (k + 1)) n ≤ m ∧ zlv n (zgs n (k + 1)) T n < zpl n T k m then zlv n (zgs n (k + 1)) T n else zpl n T k m := rfl
theorem zmU_0 {n : Nat} (h : 0 < n) : zmU (zgs n 0) n = 1 := by
  have e : ∀ k, zmU (fun _ => 0) (k + 1) = 1 := fun k => by
    induction k with
    | zero => rfl
    | succ k ih => rw [zmU_su, ih]; rfl
  rw [show n = (n - 1) + 1 by omega]
  exact e _
theorem zpl_le {n : Nat} (h : 0 < n) (hn : n ≤ 16) (T : Nat → Nat → Bool) (k m : Nat) : zpl n T k m ≤ 120 := by
  induction k with
  | zero =>
    show zlv n (zgs n 0) T n ≤ 120
    rw [zlv_all (zgs_RG n 0), zmU_0 h]
    show 0 + (0 + zmo n (zgs n 0) T 0 (0 + 0)) ≤ 120
    have := zmo_le hn (zgs n 0) T 0 (0 + 0)
    omega
  | succ k ih =>
    rw [zpl_su]
    split <;> omega
noncomputable def zgK (n : Nat) : Nat := Classical.epsilon fun K => K < 40320 ∧ zgE n K
theorem zgK_ok {n : Nat} (h : n ≤ 8) : zgK n < 40320 ∧ zgE n (zgK n) := Classical.epsilon_spec (zgE_ex h)
/-- the least of a piece, and of the pieces together -/
noncomputable def zpc (n : Nat) (T : Nat → Nat → Bool) (c m : Nat) : Nat := zpl (min 5 (n - 5 * c)) (zsh T (5 * c)) (zgK (min 5 (n - 5 * c))) m
noncomputable def zbs (n : Nat) (T : Nat → Nat → Bool) (c m : Nat) : Nat := zsum (fun i => zpc n T i m) c
noncomputable def zbv (n : Nat) (T : Nat → Nat → Bool) (m : Nat) : Nat := 4 * m + (2 + 2 * zBits n) * zbs n T ((n + 4) / 5) (min m 5)
/-- the least over 1 .. k + 1 boxes -/
noncomputable def zbd (n : Nat) (T : Nat → Nat → Bool) : Nat → Nat
  | 0 => zbv n T 1
  | k + 1 => min (zbd n T k) (zbv n T (k + 2))
theorem zbd_su (n : Nat) (T : Nat → Nat → Bool) (k : Nat) : zbd n T (k + 1) = min (zbd n T k) (zbv n T (k + 2)) := rfl
theorem zpc_le {n c : Nat} (hc : 5 * c < n) (T : Nat → Nat → Bool) (m : Nat) : zpc n T c m ≤ 120 := zpl_le (by omega) (by omega) _ _ _
theorem zbs_le {n : Nat} (hn : n ≤ 16) (T : Nat → Nat → Bool) (m c : Nat) (hc : 5 * c < n + 5) : zbs n T c m ≤ c * 120 := by
  induction c with
  | zero => exact Nat.zero_le _
  | succ c ih =>
    have := ih (by omega)
    have h2 := zpc_le (n := n) (c := c) (by omega) T m
    unfold zbs at this ⊢
    rw [zsum_su]; omega
theorem zbv_le {n : Nat} (hn : n ≤ 16) (hn1 : 0 < n) (T : Nat → Nat → Bool) (m : Nat) (hm : m ≤ 16) : zbv n T m ≤ 10000 := by
  have h1 := zbs_le hn T (min m 5) ((n + 4) / 5) (by omega)
  have h2 := zBits_4 hn
  unfold zbv
  have h3 : (2 + 2 * zBits n) * zbs n T ((n + 4) / 5) (min m 5) ≤ 10 * 480 := Nat.mul_le_mul (by omega) (by omega)
  omega
theorem zbd_le {n : Nat} (hn : n ≤ 16) (hn1 : 0 < n) (T : Nat → Nat → Bool) (k : Nat) : zbd n T k ≤ 10000 := by
  induction k with
  | zero => exact zbv_le hn hn1 T 1 (by omega)
  | succ k ih => rw [zbd_su]; exact Nat.le_trans (Nat.min_le_left _ _) ih
