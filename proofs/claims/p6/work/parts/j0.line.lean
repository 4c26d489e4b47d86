section
-- part j0.line.lean.txt
/-! ===== boxes in a line: orders, one behind another ===== -/
/-- an order of m boxes -/
def zPm (m : Nat) (o : Nat → Nat) : Prop := (∀ i, i < m → o i < m) ∧ ∀ i j, i < m → j < m → o i = o j → i = j
theorem zPm_sur {m : Nat} {o : Nat → Nat} (h : zPm m o) {v : Nat} (hv : v < m) : ∃ i, i < m ∧ o i = v := by
  have key : ∀ k, k ≤ m → zcnt (fun v => decide (∃ i, i < k ∧ o i = v)) m = k := by
    intro k
    induction k with
    | zero => exact fun _ => zcnt_z fun v _ => decide_eq_false (fun ⟨i, h1, _⟩ => absurd h1 (by omega))
    | succ k ih =>
      intro hk
      have e : zcnt (fun v => decide (∃ i, i < k + 1 ∧ o i = v)) m = zcnt (fun v => (fun v => decide (∃ i, i < k ∧ o i = v)) v || decide (v = o k)) m := zcnt_ext fun v _ => by
        rw [Bool.eq_iff_iff]
        simp only [Bool.or_eq_true, decide_eq_true_eq]
        constructor
        · rintro ⟨i, h1, h2⟩
          by_cases w : i = k
          · subst w; exact Or.inr h2.symm
          · exact Or.inl ⟨i, by omega, h2⟩
        · rintro (⟨i, h1, h2⟩ | h2)
          · exact ⟨i, by omega, h2⟩
          · exact ⟨k, by omega, h2.symm⟩
      rw [e, zcnt_ins (W := fun v => decide (∃ i, i < k ∧ o i = v)) (decide_eq_false (fun ⟨i, h1, h2⟩ => by have := h.2 i k (by omega) (by omega) h2; omega)), ih (by omega), if_pos (h.1 k (by omega))]
  have h1 := key m (Nat.le_refl _)
  cases e : decide (∃ i, i < m ∧ o i = v)
  · have h2 := zcnt_sub1 (s := fun v => decide (∃ i, i < m ∧ o i = v)) (t := fun _ => true) (fun _ _ _ => rfl) hv e rfl
    have h3 := zcnt_le (fun _ => true) m
    omega
  · exact of_decide_eq_true e
/-- ahead of one another, by the first place that differs -/
def zlx (m : Nat) (o p : Nat → Nat) : Prop := ∃ d, d < m ∧ (∀ i, i < d → o i = p i) ∧ o d < p d
theorem zlx_tri (m : Nat) (o p : Nat → Nat) : zlx m o p ∨ (∀ i, i < m → o i = p i) ∨ zlx m p o := by
  induction m with
  | zero => exact Or.inr (Or.inl fun i hi => absurd hi (by omega))
  | succ m ih =>
    rcases ih with ⟨d, h1, h2, h3⟩ | h | ⟨d, h1, h2, h3⟩
    · exact Or.inl ⟨d, by omega, h2, h3⟩
    · rcases Nat.lt_trichotomy (o m) (p m) with w | w | w
      · exact Or.inl ⟨m, by omega, h, w⟩
      · exact Or.inr (Or.inl fun i hi => by
          by_cases e : i = m
          · subst e; exact w
          · exact h i (by omega))
      · exact Or.inr (Or.inr ⟨m, by omega, fun i hi => (h i hi).symm, w⟩)
    · exact Or.inr (Or.inr ⟨d, by omega, h2, h3⟩)
theorem zlx_no {m : Nat} {o p : Nat → Nat} (h : zlx m o p) : ¬ zlx m p o := by
  obtain ⟨d, h1, h2, h3⟩ := h
  rintro ⟨e, k1, k2, k3⟩
  rcases Nat.lt_trichotomy d e with w | w | w
  · have := k2 d w; omega
  · subst w; omega
  · have := h2 e w; omega
theorem zlx_ir {m : Nat} {o p : Nat → Nat} (h : zlx m o p) (e : ∀ i, i < m → o i = p i) : False := by
  obtain ⟨d, h1, h2, h3⟩ := h
  have := e d h1; omega
theorem zlx_tr {m : Nat} {o p q : Nat → Nat} (h : zlx m o p) (k : zlx m p q) : zlx m o q := by
  obtain ⟨d, h1, h2, h3⟩ := h
  obtain ⟨e, k1, k2, k3⟩ := k
  rcases Nat.lt_trichotomy d e with w | w | w
  · exact ⟨d, h1, fun i hi => (h2 i hi).trans (k2 i (by omega)), by have := k2 d w; omega⟩
  · subst w; exact ⟨d, h1, fun i hi => (h2 i hi).trans (k2 i hi), by omega⟩
  · exact ⟨e, k1, fun i hi => (h2 i (by omega)).trans (k2 i hi), by have := h2 e w; omega⟩
theorem zlx_ext {m : Nat} {o p o' p' : Nat → Nat} (ho : ∀ i, i < m → o i = o' i) (hp : ∀ i, i < m → p i = p' i) (h : zlx m o p) : zlx m o' p' := by
  obtain ⟨d, h1, h2, h3⟩ := h
  exact ⟨d, h1, fun i hi => by rw [← ho i (by omega), ← hp i (by omega)]; exact h2 i hi, by rw [← ho d h1, ← hp d h1]; exact h3⟩
/-- an order as a number -/
def zcd (o : Nat → Nat) : Nat → Nat
  | 0 => 0
  | k + 1 => 8 * zcd o k + o k
theorem zcd_lt {o : Nat → Nat} (m : Nat) (h : ∀ i, i < m → o i < 8) : zcd o m < 8 ^ m := by
  induction m with
  | zero => exact Nat.one_pos
  | succ m ih =>
    have h1 := ih (fun i hi => h i (by omega))
    have h2 := h m (by omega)
    rw [Nat.pow_succ]
    show 8 * zcd o m + o m < 8 ^ m * 8
    omega
theorem zcd_eq {o p : Nat → Nat} (m : Nat) (h : ∀ i, i < m → o i = p i) : zcd o m = zcd p m := by
  induction m with
  | zero => rfl
  | succ m ih =>
    show 8 * zcd o m + o m = 8 * zcd p m + p m
    rw [ih (fun i hi => h i (by omega)), h m (by omega)]
theorem zcd_lx {o p : Nat → Nat} {m : Nat} (ho : ∀ i, i < m → o i < 8) (hp : ∀ i, i < m → p i < 8) (h : zlx m o p) : zcd o m < zcd p m := by
  obtain ⟨d, h1, h2, h3⟩ := h
  have key : ∀ k, d + 1 + k ≤ m → zcd o (d + 1 + k) < zcd p (d + 1 + k) := by
    intro k
    induction k with
    | zero =>
      intro _
      show 8 * zcd o d + o d < 8 * zcd p d + p d
      rw [zcd_eq d h2]; omega
    | succ k ih =>
      intro hk
      have := ih (by omega)
      have h4 := ho (d + 1 + k) (by omega)
      show 8 * zcd o (d + 1 + k) + o (d + 1 + k) < 8 * zcd p (d + 1 + k) + p (d + 1 + k)
      omega
  have := key (m - (d + 1)) (by omega)
  rw [show d + 1 + (m - (d + 1)) = m by omega] at this
  exact this
/-- two exchanged, and what is behind the first turned round -/
def zsx2 (o : Nat → Nat) (i j x : Nat) : Nat := if x = i then o j else if x = j then o i else o x
def zrev2 (m : Nat) (o : Nat → Nat) (i j k : Nat) : Nat := if k ≤ i then zsx2 o i j k else zsx2 o i j (m + i - k)
/-- what the next order is made at -/
def znx (m : Nat) (o : Nat → Nat) (i j : Nat) : Prop := i < j ∧ j < m ∧ o i < o j ∧ (∀ k, i < k → k + 1 < m → o (k + 1) < o k) ∧ ∀ k, j < k → k < m → o k < o i
theorem zsx2_in {m i j : Nat} {o : Nat → Nat} (h : zPm m o) (hi : i < m) (hj : j < m) : zPm m (zsx2 o i j) := by
  constructor
  · intro x hx
    unfold zsx2
    split
    · exact h.1 j hj
    · split
      · exact h.1 i hi
      · exact h.1 x hx
  · intro x y hx hy e
    unfold zsx2 at e
    by_cases x1 : x = i
    · rw [if_pos x1] at e
      by_cases y1 : y = i
      · omega
      · rw [if_neg y1] at e
        by_cases y2 : y = j
        · rw [if_pos y2] at e
          have := h.2 j i hj hi e; omega
        · rw [if_neg y2] at e
          have := h.2 j y hj hy e; omega
    · rw [if_neg x1] at e
      by_cases x2 : x = j
      · rw [if_pos x2] at e
        by_cases y1 : y = i
        · rw [if_pos y1] at e
          have := h.2 i j hi hj e; omega
        · rw [if_neg y1] at e
          by_cases y2 : y = j
          · omega
          · rw [if_neg y2] at e
            have := h.2 i y hi hy e; omega
      · rw [if_neg x2] at e
        by_cases y1 : y = i
        · rw [if_pos y1] at e
          have := h.2 x j hx hj e; omega
        · rw [if_neg y1] at e
          by_cases y2 : y = j
          · rw [if_pos y2] at e
            have := h.2 x i hx hi e; omega
          · rw [if_neg y2] at e
            exact h.2 x y hx hy e
theorem zrev2_in {m i j : Nat} {o : Nat → Nat} (h : zPm m o) (hi : i < m) (hj : j < m) : zPm m (zrev2 m o i j) := by
  have hs := zsx2_in h hi hj
  constructor
  · intro x hx
    unfold zrev2
    split
    · exact hs.1 x hx
    · exact hs.1 _ (by omega)
  · intro x y hx hy e
    unfold zrev2 at e
    by_cases x1 : x ≤ i <;> by_cases y1 : y ≤ i
    · rw [if_pos x1, if_pos y1] at e; exact hs.2 x y hx hy e
    · rw [if_pos x1, if_neg y1] at e; have := hs.2 _ _ hx (by omega) e; omega
    · rw [if_neg x1, if_pos y1] at e; have := hs.2 _ _ (by omega) hy e; omega
    · rw [if_neg x1, if_neg y1] at e; have := hs.2 _ _ (by omega) (by omega) e; omega
theorem zrev2_lx {m i j : Nat} {o : Nat → Nat} (h : znx m o i j) : zlx m o (zrev2 m o i j) := by
  obtain ⟨h1, h2, h3, -, -⟩ := h
  refine ⟨i, by omega, fun k hk => ?_, ?_⟩
  · unfold zrev2 zsx2
    rw [if_pos (by omega), if_neg (by omega), if_neg (by omega)]
  · unfold zrev2 zsx2
    rw [if_pos (Nat.le_refl _), if_pos rfl]
    exact h3
theorem zds {m i : Nat} {o : Nat → Nat} (h : ∀ k, i < k → k + 1 < m → o (k + 1) < o k) {a b : Nat} (ha : i < a) (hab : a ≤ b) (hb : b < m) : o b ≤ o a := by
  obtain ⟨d, rfl⟩ : ∃ d, b = a + d := ⟨b - a, by omega⟩
  induction d with
  | zero => exact Nat.le_refl _
  | succ d ih =>
    have h1 := ih (by omega) (by omega)
    have h2 := h (a + d) (by omega) (by omega)
    rw [show a + d + 1 = a + (d + 1) by omega] at h2
    omega
/-- what is behind an order is behind the next one, or it -/
theorem zrev2_nx {m i j : Nat} {o p : Nat → Nat} (ho : zPm m o) (hp : zPm m p) (h : znx m o i j) (hop : zlx m o p) : (∀ k, k < m → p k = zrev2 m o i j k) ∨ zlx m (zrev2 m o i j) p := by
  have hz := h
  obtain ⟨h1, h2, h3, h4, h5⟩ := h
  have hr := zrev2_in ho (show i < m by omega) h2
  obtain ⟨d, d1, d2, d3⟩ := hop
  have hbe : ∀ (q : Nat → Nat), zPm m q → ∀ d, d < m → (∀ k, k < d → q k = p k) → ∃ e, d ≤ e ∧ e < m ∧ p d = q e := fun q hq d hd hqp => by
    obtain ⟨e, e1, e2⟩ := zPm_sur hq (hp.1 d hd)
    refine ⟨e, ?_, e1, e2.symm⟩
    rcases Nat.lt_or_ge e d with w | w
    · have := hqp e w
      have := hp.2 e d e1 hd (by omega)
      omega
    · exact w
  rcases Nat.lt_trichotomy d i with w | w | w
  · refine Or.inr ⟨d, d1, fun k hk => ?_, ?_⟩
    · unfold zrev2 zsx2
      rw [if_pos (by omega), if_neg (by omega), if_neg (by omega)]
      exact d2 k hk
    · unfold zrev2 zsx2
      rw [if_pos (by omega), if_neg (by omega), if_neg (by omega)]
      exact d3
  · subst w
    obtain ⟨e, e1, e2, e3⟩ := hbe o ho d d1 d2
    have e4 : d < e := by
      rcases Nat.lt_or_ge d e with w | w
      · exact w
      · have : e = d := by omega
        subst this; omega
    have e5 : e ≤ j := by
      rcases Nat.lt_or_ge j e with w | w
      · have := h5 e w e2; omega
      · exact w
    have e6 := zds h4 e4 e5 h2
    have hpre : ∀ k, k < d → zrev2 m o d j k = p k := fun k hk => by
      unfold zrev2 zsx2
      rw [if_pos (by omega), if_neg (by omega), if_neg (by omega)]
      exact d2 k hk
    have hat : zrev2 m o d j d = o j := by
      unfold zrev2 zsx2
      rw [if_pos (Nat.le_refl _), if_pos rfl]
    rcases Nat.lt_or_ge (o j) (o e) with w | w
    · exact Or.inr ⟨d, d1, hpre, by rw [hat]; omega⟩
    · have hst : ∀ k, d < k → k + 1 < m → zrev2 m o d j k < zrev2 m o d j (k + 1) := fun k k1 k2 => by
        unfold zrev2
        rw [if_neg (by omega), if_neg (by omega)]
        obtain ⟨x, hx, hx1, hx2⟩ : ∃ x, m + d - (k + 1) = x ∧ d < x ∧ m + d - k = x + 1 := ⟨_, rfl, by omega, by omega⟩
        rw [hx, hx2]
        have hxm : x + 1 < m := by omega
        unfold zsx2
        rw [if_neg (show ¬ x + 1 = d by omega), if_neg (show ¬ x = d by omega)]
        by_cases w1 : x + 1 = j
        · rw [if_pos w1, if_neg (show ¬ x = j by omega)]
          have h6 := h4 x hx1 hxm
          rw [w1] at h6
          omega
        · rw [if_neg w1]
          by_cases w2 : x = j
          · rw [if_pos w2]
            have := h5 (x + 1) (by omega) hxm
            omega
          · rw [if_neg w2]
            exact h4 x hx1 hxm
      have hup : ∀ a b, d < a → a < b → b < m → zrev2 m o d j a < zrev2 m o d j b := fun a b ha hab hb => by
        obtain ⟨c, rfl⟩ : ∃ c, b = a + 1 + c := ⟨b - a - 1, by omega⟩
        clear hab
        induction c with
        | zero => exact hst a ha (by omega)
        | succ c ih =>
          have i1 := ih (by omega)
          have i2 := hst (a + 1 + c) (by omega) (by omega)
          rw [show a + 1 + c + 1 = a + 1 + (c + 1) by omega] at i2
          omega
      rcases zlx_tri m (zrev2 m o d j) p with w1 | w1 | w1
      · exact Or.inr w1
      · exact Or.inl fun k hk => (w1 k hk).symm
      · obtain ⟨f, f1, f2, f3⟩ := w1
        have f4 : d < f := by
          rcases Nat.lt_trichotomy d f with w2 | w2 | w2
          · exact w2
          · subst w2; rw [hat] at f3; omega
          · have := hpre f w2; omega
        obtain ⟨g, g1, g2, g3⟩ := hbe (zrev2 m o d j) hr f f1 (fun k hk => (f2 k hk).symm)
        rcases Nat.lt_or_ge f g with w2 | w2
        · have := hup f g f4 w2 g2; omega
        · have : g = f := by omega
          subst this; omega
  · obtain ⟨e, e1, e2, e3⟩ := hbe o ho d d1 d2
    have := zds h4 w e1 e2
    omega
/-- an order that goes down all along is the last one -/
theorem zlx_last {m : Nat} {o p : Nat → Nat} (ho : zPm m o) (hp : zPm m p) (h : ∀ k, k + 1 < m → o (k + 1) < o k) : ¬ zlx m o p := by
  rintro ⟨d, d1, d2, d3⟩
  obtain ⟨e, e1, e2⟩ := zPm_sur ho (hp.1 d d1)
  have e3 : d ≤ e := by
    rcases Nat.lt_or_ge e d with w | w
    · have := d2 e w
      have := hp.2 e d e1 d1 (by omega)
      omega
    · exact w
  have h2 : ∀ c, d + c < m → o (d + c) ≤ o d := by
    intro c
    induction c with
    | zero => exact fun _ => Nat.le_refl _
    | succ c ih =>
      intro hc
      have i1 := ih (by omega)
      have i2 := h (d + c) (by omega)
      rw [show d + c + 1 = d + (c + 1) by omega] at i2
      omega
  have h3 := h2 (e - d) (by omega)
  rw [show d + (e - d) = e by omega] at h3
  omega
/-- none is ahead of the first one -/
theorem zlx_id {m : Nat} {p : Nat → Nat} (hp : zPm m p) : ¬ zlx m p (fun i => i) := by
  rintro ⟨d, d1, d2, d3⟩
  have d4 : p d < d := d3
  have h1 : p (p d) = p d := d2 (p d) d4
  have h2 := hp.2 (p d) d (by omega) d1 h1
  omega

/-! ===== boxes in a line: sums over gaps, the least of them ===== -/
/-- boxes cut off: what goes over from a set of boxes -/
def zcu (m : Nat) (w : Nat → Nat → Nat) (s : Nat → Bool) : Nat := zsum (fun x => zsum (fun y => if s x = true ∧ s y = false then w x y else 0) m) m
/-- the first k of an order, as a set -/
def zpf (o : Nat → Nat) (k x : Nat) : Bool := decide (∃ i, i < k ∧ o i = x)
theorem zpf_su (o : Nat → Nat) (k x : Nat) : zpf o (k + 1) x = (zpf o k x || decide (x = o k)) := by
  unfold zpf
  rw [Bool.eq_iff_iff]
  simp only [Bool.or_eq_true, decide_eq_true_eq]
  constructor
  · rintro ⟨i, h1, h2⟩
    by_cases e : i = k
    · subst e; exact Or.inr h2.symm
    · exact Or.inl ⟨i, by omega, h2⟩
  · rintro (⟨i, h1, h2⟩ | h)
    · exact ⟨i, by omega, h2⟩
    · exact ⟨k, by omega, h.symm⟩
theorem zpf_at {m : Nat} {o : Nat → Nat} (h : zPm m o) {k i : Nat} (hk : k ≤ m) (hi : i < m) : zpf o k (o i) = decide (i < k) := by
  unfold zpf
  refine decide_eq_decide.mpr ⟨fun ⟨j, h1, h2⟩ => ?_, fun h1 => ⟨i, h1, rfl⟩⟩
  have := h.2 j i (by omega) hi h2
  omega
theorem zcu_ext {m : Nat} {w : Nat → Nat → Nat} {s t : Nat → Bool} (h : ∀ x, x < m → s x = t x) : zcu m w s = zcu m w t := zsum_ext fun x hx => zsum_ext fun y hy => by rw [h x hx, h y hy]
theorem zsum_pm {m : Nat} {o : Nat → Nat} (h : zPm m o) (F : Nat → Nat) : zsum (fun i => F (o i)) m = zsum F m := zsum_enum h.1 (fun i j hij hj e => by have := h.2 i j (by omega) hj e; omega) (fun k hk hn => by
  obtain ⟨i, h1, h2⟩ := zPm_sur h hk
  exact absurd h2 (hn i h1))
theorem zcu_pf {m : Nat} {o : Nat → Nat} (h : zPm m o) (w : Nat → Nat → Nat) {k : Nat} (hk : k ≤ m) : zcu m w (zpf o k) = zsum (fun i => zsum (fun j => if i < k ∧ k ≤ j then w (o i) (o j) else 0) m) m := by
  unfold zcu
  rw [← zsum_pm h (fun x => zsum (fun y => if zpf o k x = true ∧ zpf o k y = false then w x y else 0) m)]
  refine zsum_ext fun i hi => ?_
  show zsum (fun y => if zpf o k (o i) = true ∧ zpf o k y = false then w (o i) y else 0) m = _
  rw [← zsum_pm h (fun y => if zpf o k (o i) = true ∧ zpf o k y = false then w (o i) y else 0)]
  refine zsum_ext fun j hj => ?_
  show (if zpf o k (o i) = true ∧ zpf o k (o j) = false then w (o i) (o j) else 0) = _
  rw [zpf_at h hk hi, zpf_at h hk hj]
  by_cases e : i < k ∧ k ≤ j
  · rw [if_pos e, if_pos ⟨decide_eq_true e.1, decide_eq_false (by omega)⟩]
  · rw [if_neg e, if_neg (fun z => e ⟨of_decide_eq_true z.1, by have := of_decide_eq_false z.2; omega⟩)]
/-- the sum of a line -/
def zst2 (m : Nat) (w : Nat → Nat → Nat) (o : Nat → Nat) : Nat := zsum (fun i => zsum (fun j => if i < j then (j - i) * w (o i) (o j) else 0) m) m
/-- the gaps behind the first k -/
def zgp (m : Nat) (w : Nat → Nat → Nat) (o : Nat → Nat) (k : Nat) : Nat := zsum (fun d => zcu m w (zpf o (k + 1 + d))) (m - k)
theorem zgp_su {m : Nat} {w : Nat → Nat → Nat} {o : Nat → Nat} {k : Nat} (hk : k < m) : zgp m w o k = zcu m w (zpf o (k + 1)) + zgp m w o (k + 1) := by
  unfold zgp
  rw [show m - k = 1 + (m - (k + 1)) by omega, zsum_app]
  have e : zsum (fun d => zcu m w (zpf o (k + 1 + d))) 1 = zcu m w (zpf o (k + 1)) := by
    show 0 + zcu m w (zpf o (k + 1 + 0)) = _
    rw [Nat.zero_add]
  rw [e]
  congr 1
  exact zsum_ext fun d _ => by rw [show k + 1 + (1 + d) = k + 1 + 1 + d by omega]
theorem zgp_end (m : Nat) (w : Nat → Nat → Nat) (o : Nat → Nat) : zgp m w o m = 0 := by unfold zgp; rw [Nat.sub_self]; rfl
theorem zcnt_rng {i j m : Nat} (hj : j ≤ m) : zcnt (fun l => decide (i ≤ l ∧ l < j)) m = j - i := by
  induction m with
  | zero => show 0 = j - i; omega
  | succ m ih =>
    rw [zcnt_su]
    by_cases e : j ≤ m
    · rw [ih e, if_neg (by rw [decide_eq_true_eq]; omega)]; rfl
    · have h1 : j = m + 1 := by omega
      have h2 : zcnt (fun l => decide (i ≤ l ∧ l < j)) m = m - i := by
        clear ih
        subst h1
        have : ∀ k, k ≤ m → zcnt (fun l => decide (i ≤ l ∧ l < m + 1)) k = k - i := by
          intro k
          induction k with
          | zero => intro _; show 0 = 0 - i; omega
          | succ k ih =>
            intro hk
            rw [zcnt_su, ih (by omega)]
            by_cases w : i ≤ k
            · rw [if_pos (by rw [decide_eq_true_eq]; omega)]; omega
            · rw [if_neg (by rw [decide_eq_true_eq]; omega)]; omega
        exact this m (Nat.le_refl _)
      rw [h2]
      by_cases w : i ≤ m
      · rw [if_pos (by rw [decide_eq_true_eq]; omega)]; omega
      · rw [if_neg (by rw [decide_eq_true_eq]; omega)]; omega
theorem zst2_gp {m : Nat} {o : Nat → Nat} (h : zPm m o) (w : Nat → Nat → Nat) : zst2 m w o = zgp m w o 0 := by
  unfold zgp
  rw [Nat.sub_zero]
  have e1 : zsum (fun d => zcu m w (zpf o (0 + 1 + d))) m = zsum (fun d => zsum (fun i => zsum (fun j => if i < d + 1 ∧ d + 1 ≤ j then w (o i) (o j) else 0) m) m) m := zsum_ext fun d hd => by rw [zcu_pf h w (by omega), show 0 + 1 + d = d + 1 by omega]
  rw [e1, zsum_swap]
  refine zsum_ext fun i hi => ?_
  rw [zsum_swap]
  refine zsum_ext fun j hj => ?_
  have e2 : zsum (fun d => if i < d + 1 ∧ d + 1 ≤ j then w (o i) (o j) else 0) m = zsum (fun d => if (fun l => decide (i ≤ l ∧ l < j)) d = true then w (o i) (o j) else 0) m := zsum_ext fun d _ => by
    by_cases e : i < d + 1 ∧ d + 1 ≤ j
    · rw [if_pos e, if_pos (by rw [decide_eq_true_eq]; omega)]
    · rw [if_neg e, if_neg (by rw [decide_eq_true_eq]; omega)]
  rw [e2, zsum_ite, zcnt_rng (by omega), Nat.mul_comm]
  by_cases e : i < j
  · rw [if_pos e]
  · rw [if_neg e, show j - i = 0 by omega, Nat.mul_zero]
/-- what the least over the gaps behind a set keeps to -/
def zBh (m : Nat) (w : Nat → Nat → Nat) (B : (Nat → Bool) → Nat) : Prop := (∀ s, (∀ x, x < m → s x = true) → B s = 0) ∧ (∀ s t, (∀ x, x < m → s x = t x) → B s = B t) ∧
  ∀ s b, b < m → s b = false → B s ≤ zcu m w (fun x => s x || decide (x = b)) + B (fun x => s x || decide (x = b))
theorem zBh_le {m : Nat} {w : Nat → Nat → Nat} {B : (Nat → Bool) → Nat} (hB : zBh m w B) {o : Nat → Nat} (h : zPm m o) (k : Nat) (hk : k ≤ m) : B (zpf o k) ≤ zgp m w o k := by
  obtain ⟨d, hd⟩ : ∃ d, m - k = d := ⟨_, rfl⟩
  induction d generalizing k with
  | zero =>
    have : k = m := by omega
    subst this
    rw [hB.1 _ (fun x hx => by
      obtain ⟨i, h1, h2⟩ := zPm_sur h hx
      exact decide_eq_true ⟨i, h1, h2⟩)]
    exact Nat.zero_le _
  | succ d ih =>
    have h1 := ih (k + 1) (by omega) (by omega)
    have h2 := hB.2.2 (zpf o k) (o k) (h.1 k (by omega)) (by rw [zpf_at h hk (by omega)]; exact decide_eq_false (by omega))
    have e : (fun x => zpf o k x || decide (x = o k)) = zpf o (k + 1) := funext fun x => (zpf_su o k x).symm
    rw [e] at h2
    rw [zgp_su (by omega)]
    omega
/-- a line that takes the least box that is as good, always -/
def zgr (m : Nat) (w : Nat → Nat → Nat) (B : (Nat → Bool) → Nat) (g : Nat → Nat) (K : Nat) : Prop := ∀ k, k < K → g k < m ∧ zpf g k (g k) = false ∧ zcu m w (zpf g (k + 1)) + B (zpf g (k + 1)) = B (zpf g k) ∧ ∀ b, b < g k → zpf g k b = false → zcu m w (fun x => zpf g k x || decide (x = b)) + B (fun x => zpf g k x || decide (x = b)) ≠ B (zpf g k)
theorem zgr_pm {m : Nat} {w : Nat → Nat → Nat} {B : (Nat → Bool) → Nat} {g : Nat → Nat} (h : zgr m w B g m) : zPm m g := by
  refine ⟨fun i hi => (h i hi).1, ?_⟩
  have key : ∀ i j, i < j → j < m → g i ≠ g j := fun i j hij hj e => by
    have h1 := (h j hj).2.1
    rw [← e] at h1
    have h2 := of_decide_eq_false h1
    exact h2 ⟨i, hij, rfl⟩
  intro i j hi hj e
  rcases Nat.lt_trichotomy i j with q | q | q
  · exact absurd e (key i j q hj)
  · exact q
  · exact absurd e.symm (key j i q hi)
theorem zgr_st {m : Nat} {w : Nat → Nat → Nat} {B : (Nat → Bool) → Nat} (hB : zBh m w B) {g : Nat → Nat} (h : zgr m w B g m) (k : Nat) (hk : k ≤ m) : zgp m w g k = B (zpf g k) := by
  obtain ⟨d, hd⟩ : ∃ d, m - k = d := ⟨_, rfl⟩
  induction d generalizing k with
  | zero =>
    have : k = m := by omega
    subst this
    rw [zgp_end, hB.1 _ (fun x hx => by
      obtain ⟨i, h1, h2⟩ := zPm_sur (zgr_pm h) hx
      exact decide_eq_true ⟨i, h1, h2⟩)]
  | succ d ih =>
    have h1 := ih (k + 1) (by omega) (by omega)
    have h2 := (h k (by omega)).2.2.1
    rw [zgp_su (by omega), h1, h2]
/-- it is the least, and the first of the least -/
theorem zgr_first {m : Nat} {w : Nat → Nat → Nat} {B : (Nat → Bool) → Nat} (hB : zBh m w B) {g p : Nat → Nat} (h : zgr m w B g m) (hp : zPm m p) : zst2 m w g ≤ zst2 m w p ∧ (zst2 m w p = zst2 m w g → ¬ zlx m p g) := by
  have hg := zgr_pm h
  have e0 : ∀ o : Nat → Nat, zpf o 0 = fun _ => false := fun o => funext fun x => decide_eq_false (fun ⟨i, h1, _⟩ => absurd h1 (by omega))
  have e1 := zgr_st hB h 0 (by omega)
  have e2 := zBh_le hB hp 0 (by omega)
  rw [e0] at e1 e2
  rw [zst2_gp hg, zst2_gp hp]
  refine ⟨by omega, fun heq => ?_⟩
  rintro ⟨d, d1, d2, d3⟩
  have hpre : ∀ k, k ≤ d → zpf p k = zpf g k := fun k hk => funext fun x => decide_eq_decide.mpr ⟨fun ⟨i, h1, h2⟩ => ⟨i, h1, by rw [← d2 i (by omega)]; exact h2⟩, fun ⟨i, h1, h2⟩ => ⟨i, h1, by rw [d2 i (by omega)]; exact h2⟩⟩
  have hk : ∀ k, k ≤ d → zgp m w p k = B (zpf p k) := by
    intro k
    induction k with
    | zero => intro _; rw [e0]; omega
    | succ k ih =>
      intro hk
      have i1 := ih (by omega)
      rw [zgp_su (by omega)] at i1
      have i2 := hB.2.2 (zpf p k) (p k) (hp.1 k (by omega)) (by rw [zpf_at hp (by omega) (by omega)]; exact decide_eq_false (by omega))
      rw [show (fun x => zpf p k x || decide (x = p k)) = zpf p (k + 1) from funext fun x => (zpf_su p k x).symm] at i2
      have i3 := zBh_le hB hp (k + 1) (by omega)
      omega
  have h3 := hk d (Nat.le_refl _)
  rw [zgp_su d1] at h3
  have h4 := zBh_le hB hp (d + 1) (by omega)
  have h5 := hB.2.2 (zpf p d) (p d) (hp.1 d d1) (by rw [zpf_at hp (by omega) d1]; exact decide_eq_false (by omega))
  have h6 := (h d d1).2.2.2 (p d) d3 (by rw [← hpre d (Nat.le_refl _), zpf_at hp (by omega) d1]; exact decide_eq_false (by omega))
  rw [← hpre d (Nat.le_refl _)] at h6
  rw [show (fun x => zpf p d x || decide (x = p d)) = zpf p (d + 1) from funext fun x => (zpf_su p d x).symm] at h5 h6
  omega
end
section
-- part j2.mline.lean.txt
/-! ===== boxes in a line: the reference ===== -/
/-- the first of the least -/
def zFst (m : Nat) (w : Nat → Nat → Nat) (g : Nat → Nat) : Prop := zPm m g ∧ ∀ p, zPm m p → zst2 m w g ≤ zst2 m w p ∧ (zst2 m w p = zst2 m w g → ¬ zlx m p g)
theorem zFst_uq {m : Nat} {w : Nat → Nat → Nat} {g h : Nat → Nat} (hg : zFst m w g) (hh : zFst m w h) : zst2 m w g = zst2 m w h ∧ ∀ i, i < m → g i = h i := by
  have h1 := hg.2 h hh.1
  have h2 := hh.2 g hg.1
  have e : zst2 m w g = zst2 m w h := by omega
  refine ⟨e, ?_⟩
  rcases zlx_tri m g h with k | k | k
  · exact absurd k (h2.2 e)
  · exact k
  · exact absurd k (h1.2 e.symm)
noncomputable def zLin (m : Nat) (w : Nat → Nat → Nat) : Nat → Nat := Classical.epsilon (zFst m w)
theorem zLin_ok {m : Nat} {w : Nat → Nat → Nat} {g : Nat → Nat} (hg : zFst m w g) : zst2 m w g = zst2 m w (zLin m w) ∧ ∀ i, i < m → g i = zLin m w i := zFst_uq hg (Classical.epsilon_spec ⟨g, hg⟩)
/-- the ties between two boxes that a telling builds -/
def zlw (n : Nat) (A : zTl) (x y : Nat) : Nat := zbw (zBd n A) (tf A) n x y n
def zlgg (n : Nat) (A : zTl) (x y p q : Nat) : Bool := zBd n A p q && decide (tf A p = x ∧ tf A q = y)
theorem zlw_sq (n : Nat) (A : zTl) (x y : Nat) : zsq (zlgg n A x y) n n 0 = zlw n A x y := by
  unfold zsq zlw zbw
  show zsum (fun r => zcnt (zlgg n A x y r) n) n + 0 = _
  rw [Nat.add_zero]
  refine zsum_ext fun p _ => ?_
  by_cases e : tf A p = x
  · rw [if_pos e]
    exact zcnt_ext fun q _ => by
      unfold zlgg
      rw [decide_eq_decide.mpr (show (tf A p = x ∧ tf A q = y) ↔ tf A q = y from ⟨fun z => z.2, fun z => ⟨e, z⟩⟩)]
  · rw [if_neg e]
    exact zcnt_z fun q _ => by
      unfold zlgg
      rw [decide_eq_false (fun z => e z.1), Bool.and_false]
theorem zsq_b (g : Nat → Nat → Bool) {n p q : Nat} (hn : n ≤ 16) (hp : p ≤ 16) (hq : q ≤ 16) : zsq g n p q ≤ 272 := by
  have h1 := zsum_cap (f := fun r => zcnt (g r) n) (c := 16) (fun r => Nat.le_trans (zcnt_le _ _) hn) p
  have h2 := zcnt_le (g p) q
  unfold zsq
  omega
theorem m_tiesOfBoxes {O : zOm} (hO : zWld O) (hS : zS O = zmS zC0) {t n : Nat} {A : zTl} {M : zMem} {K : Option zV → zMem → Prop} (ht : t < 7) (hn : M 250 ((1 : Nat) : Int) = ((n : Nat) : Int)) (hn2 : n ≤ 16) (hA : rTe M t n A) (hw : zTw n A) (hm8 : tm A ≤ 8)
    (hk : ∀ M', (∀ b j, ¬ (b = 268 ∨ b = ((294 : Nat) : Int)) → M' b j = M b j) → (∀ x y : Nat, x < 8 → y < 8 → M' ((294 : Nat) : Int) ((8 * x + y : Nat) : Int) = ((zlw n A x y : Nat) : Int)) → K none M') : zR O F_Model_tiesOfBoxes [(2, 250), (0, ((t : Nat) : Int))] M K := by
  have hzr := (zBd_reg hw).2.1
  apply r_Model_tiesOfBoxes hO
  unfold B_Model_tiesOfBoxes
  have f59 := zMF (k := 59) hS rfl; have a294 := zMA (a := 294) (ty := .int) (n := 64) hS rfl; have f1 := zMF (k := 1) hS rfl; have f13 := zMF (k := 13) hS rfl; have a259 := zMA (a := 259) (ty := .int) (n := 112) hS rfl; have zo := zMO hS
  ((with_reducible refine i_Seq (i_Seq (i_sCall (i_as1 (i_A0 (i_as1 (i_L1 (i_as0 ?_)))))))); (with_reducible refine i_recv0 (by assumption) ?_))
  refine m_hearA hO hS ht hn hn2 hA hw (fun M1 f1' S1 => ⟨rfl, ?_⟩)
  ((with_reducible refine i_Seq (i_Blk (i_Seq (i_Set (i_I ?_))))); simp only [w_set0, w_set1, w_setn0, w_setn1])
  refine w_ForN 64 (fun k ρ M' => (∃ l, ρ = 250 :: ((t : Nat) : Int) :: ((k : Nat) : Int) :: l) ∧ (∀ b j, ¬ b = ((294 : Nat) : Int) → M' b j = M1 b j) ∧ ∀ j : Nat, j < k → M' ((294 : Nat) : Int) ((j : Nat) : Int) = 0) ⟨⟨_, rfl⟩, fun _ _ _ => rfl, fun j hj => absurd hj (by omega)⟩ ?_ ?_
  · rintro k ρ M9 X hk1 ⟨⟨l, rfl⟩, hf, h⟩ hX
    ((with_reducible refine i_turn (i_cI_lt (i_L2 (i_I ?_)))); (with_reducible refine i_t (by omega) ?_); (with_reducible refine i_sIA (i_FR (i_A0 ?_))); (with_reducible refine i_fldR (by assumption) ?_); (with_reducible refine i_L2 (i_I ?_)); (with_reducible refine i_in (by assumption) (by omega) (by omega) ?_); (with_reducible refine i_up (i_Inc2 ?_)); rw [zx_inc (by omega)]; simp only [w_set0, w_set1, w_setn0, w_setn1])
    refine hX _ _ ⟨⟨_, rfl⟩, fun b j q => by rw [zg_n _ _ _ (by omega)]; exact hf b j q, fun j hj => ?_⟩
    by_cases e : j = k
    · subst e; rw [zg_s]
    · rw [zg_m _ _ _ _ _ (by omega)]; exact h j (by omega)
  rintro ρ M2 X2 ⟨⟨l2, rfl⟩, f2, h2⟩
  ((with_reducible refine i_turn (i_cI_lt (i_L2 (i_I ?_)))); (with_reducible refine i_f (by omega) ?_); (with_reducible refine i_Blk (i_Seq (i_Set (i_I ?_)))); simp only [w_set0, w_set1, w_setn0, w_setn1])
  have k2 : ∀ b j, ¬ (b = 268 ∨ b = ((294 : Nat) : Int)) → M2 b j = M b j := fun b j q => by rw [f2 b j (by omega), f1' b j (by omega)]
  refine w_ForN n (fun a ρ M' => (∃ l, ρ = 250 :: ((t : Nat) : Int) :: ((a : Nat) : Int) :: l) ∧ (∀ b j, ¬ b = ((294 : Nat) : Int) → M' b j = M2 b j) ∧ ∀ x y : Nat, x < 8 → y < 8 → M' ((294 : Nat) : Int) ((8 * x + y : Nat) : Int) = ((zsq (zlgg n A x y) n a 0 : Nat) : Int)) ⟨⟨_, rfl⟩, fun _ _ _ => rfl, fun x y hx hy => h2 _ (by omega)⟩ ?_ ?_
  · rintro a ρ M3 X3 ha ⟨⟨l3, rfl⟩, f3, g3⟩ hX3
    have n3 : M3 250 ((1 : Nat) : Int) = ((n : Nat) : Int) := by rw [f3 _ _ (by omega), k2 _ _ (by omega)]; exact hn
    ((with_reducible refine i_turn (i_cI_lt (i_L2 (i_F (i_A0 ?_))))); (with_reducible refine i_fld (by assumption) ?_); (rw [n3]); (with_reducible refine i_t (by omega) ?_); (with_reducible refine i_Blk (i_Seq (i_Set (i_I ?_)))); simp only [w_set0, w_set1, w_setn0, w_setn1]; rw [w_setT])
    refine w_ForN n (fun b ρ M' => (∃ l, ρ = 250 :: ((t : Nat) : Int) :: ((a : Nat) : Int) :: ((b : Nat) : Int) :: l) ∧ (∀ b j, ¬ b = ((294 : Nat) : Int) → M' b j = M2 b j) ∧ ∀ x y : Nat, x < 8 → y < 8 → M' ((294 : Nat) : Int) ((8 * x + y : Nat) : Int) = ((zsq (zlgg n A x y) n a b : Nat) : Int)) ⟨⟨_, rfl⟩, f3, g3⟩ ?_ ?_
    · rintro b ρ M4 X4 hb ⟨⟨l4, rfl⟩, f4, g4⟩ hX4
      have n4 : M4 250 ((1 : Nat) : Int) = ((n : Nat) : Int) := by rw [f4 _ _ (by omega), k2 _ _ (by omega)]; exact hn
      have hA4 : rTe M4 t n A := hA.to hn2 hw (fun b j q => by rw [f4 b j (by omega), k2 b j (by omega)])
      have S4 : rMx M4 268 (tS n A) := S1.to (fun j => by rw [f4 _ _ (by omega), f2 _ _ (by omega)])
      have ba := hA4.1.2.1 a ha
      have bb := hA4.1.2.1 b hb
      have fa := (hw.1.2.2 a ha).1
      have fb := (hw.1.2.2 b hb).1
      have no : zBd n A a b = false → ∀ x y : Nat, x < 8 → y < 8 → M4 ((294 : Nat) : Int) ((8 * x + y : Nat) : Int) = ((zsq (zlgg n A x y) n a (b + 1) : Nat) : Int) := fun z x y hx hy => by
        rw [zsq_su, if_neg (by unfold zlgg; rw [z]; simp)]
        exact g4 x y hx hy
      by_cases hab : a = b
      · subst hab
        ((with_reducible refine i_turn (i_cI_lt (i_L3 (i_F (i_A0 ?_))))); (with_reducible refine i_fld (by assumption) ?_); (rw [n4]); (with_reducible refine i_t (by omega) ?_); (with_reducible refine i_If (i_cAnd (i_cI_ne (i_L2 (i_L3 ?_))))); (with_reducible refine i_f (by omega) ?_); (with_reducible refine i_up (i_Inc3 ?_)); rw [zx_inc (by omega)]; simp only [w_set0, w_set1, w_setn0, w_setn1])
        exact hX4 _ _ ⟨⟨_, rfl⟩, f4, no (hzr a)⟩
      · ((with_reducible refine i_turn (i_cI_lt (i_L3 (i_F (i_A0 ?_))))); (with_reducible refine i_fld (by assumption) ?_); (rw [n4]); (with_reducible refine i_t (by omega) ?_); (with_reducible refine i_If (i_cAnd (i_cI_ne (i_L2 (i_L3 ?_))))); (with_reducible refine i_t (by omega) ?_); (with_reducible refine i_cZ_ne (i_Call (i_as1 (i_A0 (i_as1 (i_L1 (i_as1 (i_L2 (i_as1 (i_L3 (i_as0 ?_))))))))))); (with_reducible refine i_recv0 (by assumption) ?_); (refine m_builds hO hS ht hA4 S4 (show a < 16 by omega) (show b < 16 by omega) ⟨_, rfl, ?_⟩))
        cases e : zBd n A a b
        · (rw [zbI_f]; (with_reducible refine i_f (by omega) ?_); (with_reducible refine i_up (i_Inc3 ?_)); rw [zx_inc (by omega)]; simp only [w_set0, w_set1, w_setn0, w_setn1])
          exact hX4 _ _ ⟨⟨_, rfl⟩, f4, no e⟩
        · have gx := g4 (tf A a) (tf A b) (by omega) (by omega)
          have hbd := zsq_b (zlgg n A (tf A a) (tf A b)) hn2 (p := a) (q := b) (by omega) (by omega)
          have hst : ∀ x y, zsq (zlgg n A x y) n a (b + 1) = zsq (zlgg n A x y) n a b + (if tf A a = x ∧ tf A b = y then 1 else 0) := fun x y => by
            rw [zsq_su]
            unfold zlgg
            rw [e, Bool.true_and]
            simp only [decide_eq_true_eq]
          generalize tf A a = u at ba gx hbd hst fa
          generalize tf A b = v at bb gx hbd hst fb
          (rw [zbI_t]; (with_reducible refine i_t (by omega) ?_); (with_reducible refine i_IO (i_FR (i_A0 ?_))); (with_reducible refine i_fldR (by assumption) ?_); (with_reducible refine i_Add (i_Mul (i_I (i_IA (i_FR (i_A0 ?_)))))); (with_reducible refine i_fldR (by assumption) ?_); (with_reducible refine i_Add (i_Mul (i_I (i_L1 (i_L2 ?_))))); rw [zx_cmul (by omega)]; rw [zx_add (by omega)]; (with_reducible refine i_in (by assumption) (by omega) (by omega) ?_); (with_reducible refine i_IA (i_FR (i_A0 ?_))); (with_reducible refine i_fldR (by assumption) ?_); (with_reducible refine i_Add (i_Mul (i_I (i_L1 (i_L3 ?_))))); (rw [ba]); rw [zx_cmul (by omega)]; rw [zx_add (by omega)]; (with_reducible refine i_in (by assumption) (by omega) (by omega) ?_); (rw [bb]); rw [zx_cmul (by omega)]; rw [zx_add (by omega)]; (with_reducible refine i_in (by assumption) (by omega) (by omega) ?_); (with_reducible refine i_I (i_up (i_Inc3 ?_))); (rw [gx]); rw [zx_inc (by omega)]; rw [zx_inc (by omega)]; simp only [w_set0, w_set1, w_setn0, w_setn1])
          refine hX4 _ _ ⟨⟨_, rfl⟩, fun b j q => by rw [zg_n _ _ _ (by omega)]; exact f4 b j q, fun x y hx hy => ?_⟩
          rw [hst]
          by_cases w : u = x ∧ v = y
          · obtain ⟨rfl, rfl⟩ := w
            rw [zg_s, if_pos ⟨rfl, rfl⟩]
          · rw [zg_m _ _ _ _ _ (by omega), if_neg w, Nat.add_zero]
            exact g4 x y hx hy
    · rintro ρ M4 X4 ⟨⟨l4, rfl⟩, f4, g4⟩
      have n4 : M4 250 ((1 : Nat) : Int) = ((n : Nat) : Int) := by rw [f4 _ _ (by omega), k2 _ _ (by omega)]; exact hn
      ((with_reducible refine i_turn (i_cI_lt (i_L3 (i_F (i_A0 ?_))))); (with_reducible refine i_fld (by assumption) ?_); (rw [n4]); (with_reducible refine i_f (by omega) ?_); (with_reducible refine i_up (i_Inc2 ?_)); rw [zx_inc (by omega)]; simp only [w_set0, w_set1, w_setn0, w_setn1])
      exact hX3 _ _ ⟨⟨_, rfl⟩, f4, g4⟩
  · rintro ρ M3 X3 ⟨⟨l3, rfl⟩, f3, g3⟩
    have n3 : M3 250 ((1 : Nat) : Int) = ((n : Nat) : Int) := by rw [f3 _ _ (by omega), k2 _ _ (by omega)]; exact hn
    ((with_reducible refine i_turn (i_cI_lt (i_L2 (i_F (i_A0 ?_))))); (with_reducible refine i_fld (by assumption) ?_); (rw [n3]); (with_reducible refine i_f (by omega) ?_); (with_reducible refine i_RetV ?_))
    exact hk M3 (fun b j q => by rw [f3 b j (by omega), k2 b j q]) (fun x y hx hy => by rw [g3 x y hx hy, zlw_sq])
theorem m_stretch {O : zOm} (hO : zWld O) (hS : zS O = zmS zC0) {m : Nat} {w : Nat → Nat → Nat} {o : Nat → Nat} {M : zMem} {K : Option zV → zMem → Prop} (hm8 : m ≤ 8) (hw : ∀ x y : Nat, x < 8 → y < 8 → M ((294 : Nat) : Int) ((8 * x + y : Nat) : Int) = ((w x y : Nat) : Int) ∧ w x y ≤ 256) (ho : ∀ i : Nat, i < m → M ((295 : Nat) : Int) ((i : Nat) : Int) = ((o i : Nat) : Int) ∧ o i < 8)
    (hk : K (some (0, ((zst2 m w o : Nat) : Int))) M) : zR O F_Model_stretch [(2, 250), (0, ((m : Nat) : Int))] M K := by
  have ht : ∀ i j, i < 8 → j < m → (if i < j then (j - i) * w (o i) (o j) else 0) ≤ 7 * 256 := fun i j hi hj => by
    split
    · exact Nat.mul_le_mul (by omega) (hw _ _ (by
        rcases Nat.lt_or_ge i m with q | q
        · exact (ho i q).2
        · omega) (ho j hj).2).2
    · omega
  have hrow : ∀ i, i < m → ∀ k, k ≤ m → zsum (fun j => if i < j then (j - i) * w (o i) (o j) else 0) k ≤ k * (7 * 256) := fun i hi k => by
    induction k with
    | zero => exact fun _ => Nat.zero_le _
    | succ k ih =>
      intro hk
      have i1 := ih (by omega)
      have i2 := ht i k (by omega) (by omega)
      rw [zsum_su, Nat.succ_mul]
      try dsimp only
      omega
  have hall : ∀ k, k ≤ m → zsum (fun i => zsum (fun j => if i < j then (j - i) * w (o i) (o j) else 0) m) k ≤ k * 14336 := by
    intro k
    induction k with
    | zero => exact fun _ => Nat.zero_le _
    | succ k ih =>
      intro hk
      have i1 := ih (by omega)
      have i2 := hrow k (by omega) m (Nat.le_refl _)
      have i3 : m * (7 * 256) ≤ 8 * (7 * 256) := Nat.mul_le_mul_right _ hm8
      rw [zsum_su, Nat.succ_mul]
      try dsimp only
      omega
  have hz0 : ∀ i, zsum (fun j => if i < j then (j - i) * w (o i) (o j) else 0) (i + 1) = 0 := fun i => zsum_z fun j hj => if_neg (by omega)
  unfold zst2 at hk
  apply r_Model_stretch hO
  unfold B_Model_stretch
  have f59 := zMF (k := 59) hS rfl; have a294 := zMA (a := 294) (ty := .int) (n := 64) hS rfl; have f60 := zMF (k := 60) hS rfl; have a295 := zMA (a := 295) (ty := .int) (n := 8) hS rfl; have zo := zMO hS
  ((with_reducible refine i_Seq (i_Set (i_I (i_Seq (i_Blk (i_Seq (i_Set (i_I ?_)))))))); simp only [w_set0, w_set1, w_setn0, w_setn1])
  refine w_ForN m (fun i ρ M' => (∃ l, ρ = 250 :: ((m : Nat) : Int) :: ((zsum (fun i => zsum (fun j => if i < j then (j - i) * w (o i) (o j) else 0) m) i : Nat) : Int) :: ((i : Nat) : Int) :: l) ∧ M' = M) ⟨⟨_, rfl⟩, rfl⟩ ?_ ?_
  · rintro i ρ M1 X hi ⟨⟨l, rfl⟩, rfl⟩ hX
    have hal := hall i (by omega)
    have hX1 := fun l => hX _ M1 ⟨⟨l, rfl⟩, rfl⟩
    rw [zsum_su] at hX1
    try dsimp only at hX1
    clear hX hk
    generalize zsum (fun i => zsum (fun j => if i < j then (j - i) * w (o i) (o j) else 0) m) i = z at hal hX1 ⊢
    ((with_reducible refine i_turn (i_cI_lt (i_L3 (i_L1 ?_)))); (with_reducible refine i_t (by omega) ?_); (with_reducible refine i_Blk (i_Seq (i_Set (i_Add (i_L3 (i_I ?_)))))); rw [zx_inc (by omega)]; simp only [w_set0, w_set1, w_setn0, w_setn1]; rw [w_setT])
    refine w_ForN (m - (i + 1)) (fun k ρ M' => (∃ l, ρ = 250 :: ((m : Nat) : Int) :: ((z + zsum (fun j => if i < j then (j - i) * w (o i) (o j) else 0) (i + 1 + k) : Nat) : Int) :: ((i : Nat) : Int) :: ((i + 1 + k : Nat) : Int) :: l) ∧ M' = M1) ⟨⟨_, by rw [Nat.add_zero, hz0]; rfl⟩, rfl⟩ ?_ ?_
    · rintro k ρ M2 X2 hk1 ⟨⟨l2, rfl⟩, rfl⟩ hX2
      have o1 := ho i hi
      have o2 := ho (i + 1 + k) (by omega)
      have w1 := hw (o i) (o (i + 1 + k)) o1.2 o2.2
      have hr1 := hrow i hi (i + 1 + k) (by omega)
      have hr2 : (i + 1 + k) * (7 * 256) ≤ 8 * (7 * 256) := Nat.mul_le_mul_right _ (by omega)
      have hal2 : i * 14336 ≤ 8 * 14336 := Nat.mul_le_mul_right _ (by omega)
      have hX3 := fun l => hX2 _ M2 ⟨⟨l, rfl⟩, rfl⟩
      rw [show i + 1 + (k + 1) = i + 1 + k + 1 by omega, zsum_su, if_pos (show i < i + 1 + k by omega)] at hX3
      clear hX2
      have hpr : (i + 1 + k - i) * w (o i) (o (i + 1 + k)) ≤ 7 * 256 := Nat.mul_le_mul (by omega) w1.2
      generalize zsum (fun j => if i < j then (j - i) * w (o i) (o j) else 0) (i + 1 + k) = y at hr1 hX3 ⊢
      obtain ⟨w1, w2⟩ := w1
      obtain ⟨o1, o1'⟩ := o1
      obtain ⟨o2, o2'⟩ := o2
      generalize w (o i) (o (i + 1 + k)) = v at w1 w2 hpr hX3
      generalize o (i + 1 + k) = u2 at o2 o2' w1
      generalize o i = u1 at o1 o1' w1
      ((with_reducible refine i_turn (i_cI_lt (i_L4 (i_L1 ?_)))); (with_reducible refine i_t (by omega) ?_); (with_reducible refine i_Set (i_Add (i_L2 (i_Mul (i_Sub (i_L4 (i_L3 (i_IA (i_FR (i_A0 ?_)))))))))); (with_reducible refine i_fldR (by assumption) ?_); (with_reducible refine i_Add (i_Mul (i_I (i_IA (i_FR (i_A0 ?_)))))); (with_reducible refine i_fldR (by assumption) ?_); (with_reducible refine i_L3 ?_); (with_reducible refine i_in (by assumption) (by omega) (by omega) ?_); (with_reducible refine i_IA (i_FR (i_A0 ?_))); (with_reducible refine i_fldR (by assumption) ?_); (with_reducible refine i_L4 ?_); (with_reducible refine i_in (by assumption) (by omega) (by omega) ?_); (rw [o1]); (rw [o2]); rw [zx_sub (by omega) (by omega)]; rw [zx_cmul (by omega)]; rw [zx_add (by omega)]; (with_reducible refine i_in (by assumption) (by omega) (by omega) ?_); (with_reducible refine i_up ?_); (rw [w1]); (rw [zx_mul (by omega)]); rw [zx_add (by omega)]; simp only [w_set0, w_set1, w_setn0, w_setn1]; (with_reducible refine i_Inc4 ?_); rw [zx_inc (by omega)]; simp only [w_set0, w_set1, w_setn0, w_setn1])
      rw [show z + y + (i + 1 + k - i) * v = z + (y + (i + 1 + k - i) * v) by omega]
      exact hX3 _
    · rintro ρ M2 X2 ⟨⟨l2, rfl⟩, rfl⟩
      rw [show i + 1 + (m - (i + 1)) = m by omega]
      ((with_reducible refine i_turn (i_cI_lt (i_L4 (i_L1 ?_)))); (with_reducible refine i_f (by omega) ?_); (with_reducible refine i_up (i_Inc3 ?_)); rw [zx_inc (by omega)]; simp only [w_set0, w_set1, w_setn0, w_setn1])
      exact hX1 _
  · rintro ρ M1 X ⟨⟨l, rfl⟩, rfl⟩
    ((with_reducible refine i_turn (i_cI_lt (i_L3 (i_L1 ?_)))); (with_reducible refine i_f (by omega) ?_); (with_reducible refine i_RetI (i_L2 ?_)))
    exact hk
end
section
-- part j3.mline2.lean.txt
/-! ===== boxes in a line: the reference's next order, its line ===== -/
theorem zrev2_lo {m i j k : Nat} {o : Nat → Nat} (h : k ≤ i) : zrev2 m o i j k = zsx2 o i j k := if_pos h
theorem zrev2_hi {m i j k : Nat} {o : Nat → Nat} (h : i < k) : zrev2 m o i j k = zsx2 o i j (m + i - k) := if_neg (by omega)
theorem m_reorders {O : zOm} (hO : zWld O) (hS : zS O = zmS zC0) {m : Nat} {o : Nat → Nat} {M : zMem} {K : Option zV → zMem → Prop} (hm0 : 0 < m) (hm8 : m ≤ 8) (ho : ∀ i : Nat, i < m → M ((295 : Nat) : Int) ((i : Nat) : Int) = ((o i : Nat) : Int)) (hp : zPm m o)
    (h0 : (∀ k, k + 1 < m → o (k + 1) < o k) → K (some (0, 0)) M) (h1 : ∀ i j, znx m o i j → ∀ M', (∀ b j, ¬ b = ((295 : Nat) : Int) → M' b j = M b j) → (∀ k : Nat, k < m → M' ((295 : Nat) : Int) ((k : Nat) : Int) = ((zrev2 m o i j k : Nat) : Int)) → K (some (0, 1)) M') : zR O F_Model_reorders [(2, 250), (0, ((m : Nat) : Int))] M K := by
  have ho8 : ∀ i, i < m → o i < 8 := fun i hi => by have := hp.1 i hi; omega
  apply r_Model_reorders hO
  unfold B_Model_reorders
  have f60 := zMF (k := 60) hS rfl; have a295 := zMA (a := 295) (ty := .int) (n := 8) hS rfl; have zo := zMO hS
  ((with_reducible refine i_Seq (i_Set (i_Sub (i_L1 (i_I (i_Seq ?_)))))); (rw [zx_s (x := ((m : Nat) : Int) - 2) (by omega) (by omega)]); simp only [w_set0, w_set1, w_setn0, w_setn1])
  rw [show (((m : Nat) : Int) - 2 : Int) = ((m - 1 : Nat) : Int) - 1 by omega]
  refine w_While (α := Nat) (fun x => ([250, ((m : Nat) : Int), ((x : Nat) : Int) - 1], M)) (fun x => x < m ∧ ∀ k, x ≤ k → k + 1 < m → o (k + 1) < o k) (fun x => x) (fun x X hx hy => ?_) (m - 1) ⟨by omega, fun k k1 k2 => absurd k2 (by omega)⟩
  obtain ⟨hx1, hx2⟩ := hx
  by_cases hx0 : x = 0
  · subst hx0
    ((with_reducible refine i_turn (i_cAnd (i_cZ_ge (i_L2 ?_)))); simp only [w_set0, w_set1, w_setn0, w_setn1]; (with_reducible refine i_f (by omega) ?_); (with_reducible refine i_Seq (i_If (i_cZ_lt (i_L2 ?_)))); (with_reducible refine i_t (by omega) ?_); (with_reducible refine i_RetZ (i_I ?_)); (with_reducible refine i_z (Or.inl rfl) ?_))
    exact h0 (fun k hk => hx2 k (Nat.zero_le _) hk)
  obtain ⟨i, rfl⟩ : ∃ i, x = i + 1 := ⟨x - 1, by omega⟩
  have v1 := ho i (by omega)
  have v2 := ho (i + 1) hx1
  have b1 := ho8 i (by omega)
  have b2 := ho8 (i + 1) hx1
  show zTurn _ _ _ _ _ _ _ _ [250, ((m : Nat) : Int), ((i + 1 : Nat) : Int) - 1] M
  rw [show (((i + 1 : Nat) : Int) - 1 : Int) = ((i : Nat) : Int) by omega]
  by_cases hd : o (i + 1) < o i
  · have hy2 := hy i ⟨by omega, fun k k1 k2 => by
      by_cases e : k = i
      · subst e; exact hd
      · exact hx2 k (by omega) k2⟩ (by show i < i + 1; omega)
    ((with_reducible refine i_turn (i_cAnd (i_cZ_ge (i_L2 ?_)))); (with_reducible refine i_t (by omega) ?_); (with_reducible refine i_cI_gt (i_IA (i_FR (i_A0 ?_)))); (with_reducible refine i_fldR (by assumption) ?_); (with_reducible refine i_L2 ?_); (with_reducible refine i_in (by assumption) (by omega) (by omega) ?_); (with_reducible refine i_IA (i_FR (i_A0 ?_))); (with_reducible refine i_fldR (by assumption) ?_); (with_reducible refine i_Add (i_L2 (i_I ?_))); (rw [v1]); rw [zx_inc (by omega)]; (with_reducible refine i_in (by assumption) (by omega) (by omega) ?_); (rw [v2]); (with_reducible refine i_t (by omega) ?_); (with_reducible refine i_Inc2 ?_); (rw [zx_s (x := ((i : Nat) : Int) + -1) (by omega) (by omega)]); simp only [w_set0, w_set1, w_setn0, w_setn1])
    exact hy2
  have hup : o i < o (i + 1) := by
    rcases Nat.lt_trichotomy (o i) (o (i + 1)) with q | q | q
    · exact q
    · have := hp.2 i (i + 1) (by omega) hx1 q; omega
    · exact absurd q hd
  clear hy
  ((with_reducible refine i_turn (i_cAnd (i_cZ_ge (i_L2 ?_)))); (with_reducible refine i_t (by omega) ?_); (with_reducible refine i_cI_gt (i_IA (i_FR (i_A0 ?_)))); (with_reducible refine i_fldR (by assumption) ?_); (with_reducible refine i_L2 ?_); (with_reducible refine i_in (by assumption) (by omega) (by omega) ?_); (with_reducible refine i_IA (i_FR (i_A0 ?_))); (with_reducible refine i_fldR (by assumption) ?_); (with_reducible refine i_Add (i_L2 (i_I ?_))); (rw [v1]); rw [zx_inc (by omega)]; (with_reducible refine i_in (by assumption) (by omega) (by omega) ?_); (rw [v2]); (with_reducible refine i_f (by omega) ?_); (with_reducible refine i_Seq (i_If (i_cZ_lt (i_L2 ?_)))); (with_reducible refine i_f (by omega) ?_); (with_reducible refine i_Seq (i_Set (i_Sub (i_L1 (i_I (i_Seq ?_)))))); rw [zx_subc (by omega) (by omega)]; simp only [w_set0, w_set1, w_setn0, w_setn1])
  refine w_While (α := Nat) (fun j => ([250, ((m : Nat) : Int), ((i : Nat) : Int), ((j : Nat) : Int)], M)) (fun j => i < j ∧ j < m ∧ ∀ k, j < k → k < m → o k < o i) (fun j => j) (fun j X hj hy => ?_) (m - 1) ⟨by omega, by omega, fun k k1 k2 => absurd k2 (by omega)⟩
  obtain ⟨hj1, hj2, hj3⟩ := hj
  have v3 := ho j hj2
  have b3 := ho8 j hj2
  show zTurn _ _ _ _ _ _ _ _ [250, ((m : Nat) : Int), ((i : Nat) : Int), ((j : Nat) : Int)] M
  by_cases hlt : o j < o i
  · have hne : j ≠ i + 1 := fun e => by rw [e] at hlt; omega
    have hy2 := hy (j - 1) ⟨by omega, by omega, fun k k1 k2 => by
      by_cases e : k = j
      · subst e; exact hlt
      · exact hj3 k (by omega) k2⟩ (by show j - 1 < j; omega)
    have e1 : (((j : Nat) : Int) + -1 : Int) = ((j - 1 : Nat) : Int) := by omega
    ((with_reducible refine i_turn (i_cI_lt (i_IA (i_FR (i_A0 ?_))))); (with_reducible refine i_fldR (by assumption) ?_); (with_reducible refine i_L3 ?_); (with_reducible refine i_in (by assumption) (by omega) (by omega) ?_); (with_reducible refine i_IA (i_FR (i_A0 ?_))); (with_reducible refine i_fldR (by assumption) ?_); (with_reducible refine i_L2 ?_); (with_reducible refine i_in (by assumption) (by omega) (by omega) ?_); (rw [v1]); (rw [v3]); (with_reducible refine i_t (by omega) ?_); (with_reducible refine i_Inc3 ?_); (rw [zx_s (x := ((j : Nat) : Int) + -1) (by omega) (by omega)]); (rw [e1]); simp only [w_set0, w_set1, w_setn0, w_setn1])
    exact hy2
  have hji : o i < o j := by
    rcases Nat.lt_trichotomy (o i) (o j) with q | q | q
    · exact q
    · have := hp.2 i j (by omega) hj2 q; omega
    · exact absurd q hlt
  have hz : znx m o i j := ⟨hj1, hj2, hji, fun k k1 k2 => hx2 k (by omega) k2, hj3⟩
  clear hy
  ((with_reducible refine i_turn (i_cI_lt (i_IA (i_FR (i_A0 ?_))))); (with_reducible refine i_fldR (by assumption) ?_); (with_reducible refine i_L3 ?_); (with_reducible refine i_in (by assumption) (by omega) (by omega) ?_); (with_reducible refine i_IA (i_FR (i_A0 ?_))); (with_reducible refine i_fldR (by assumption) ?_); (with_reducible refine i_L2 ?_); (with_reducible refine i_in (by assumption) (by omega) (by omega) ?_); (rw [v1]); (rw [v3]); (with_reducible refine i_f (by omega) ?_); (with_reducible refine i_Seq (i_Set (i_IA (i_FR (i_A0 ?_))))); (with_reducible refine i_fldR (by assumption) ?_); (with_reducible refine i_L2 ?_); (with_reducible refine i_in (by assumption) (by omega) (by omega) ?_); (with_reducible refine i_Seq (i_sIA (i_FR ?_))); (rw [v1]); simp only [w_set0, w_set1, w_setn0, w_setn1]; (with_reducible refine i_A0 ?_); (with_reducible refine i_fldR (by assumption) ?_); (with_reducible refine i_L2 (i_IA (i_FR (i_A0 ?_)))); (with_reducible refine i_fldR (by assumption) ?_); (with_reducible refine i_L3 ?_); (with_reducible refine i_in (by assumption) (by omega) (by omega) ?_); (with_reducible refine i_in (by assumption) (by omega) (by omega) ?_); (with_reducible refine i_Seq (i_sIA (i_FR (i_A0 ?_)))); (with_reducible refine i_fldR (by assumption) ?_); (with_reducible refine i_L3 (i_L4 ?_)); (with_reducible refine i_in (by assumption) (by omega) (by omega) ?_); (with_reducible refine i_Seq (i_Set (i_Add (i_L2 (i_I (i_Seq (i_Set (i_Sub ?_)))))))); (rw [v3]); rw [zx_inc (by omega)]; simp only [w_set0, w_set1, w_setn0, w_setn1]; (with_reducible refine i_L1 (i_I (i_Seq ?_))); rw [zx_subc (by omega) (by omega)]; simp only [w_set0, w_set1, w_setn0, w_setn1])
  have fA : ∀ b k, ¬ b = ((295 : Nat) : Int) → zput (zput M ((295 : Nat) : Int) (zup (M ((295 : Nat) : Int)) ((i : Nat) : Int) ((o j : Nat) : Int))) ((295 : Nat) : Int) (zup (zput M ((295 : Nat) : Int) (zup (M ((295 : Nat) : Int)) ((i : Nat) : Int) ((o j : Nat) : Int)) ((295 : Nat) : Int)) ((j : Nat) : Int) ((o i : Nat) : Int)) b k = M b k := fun b k q => by rw [zg_n _ _ _ (by omega), zg_n _ _ _ (by omega)]
  have gA : ∀ k : Nat, k < m → zput (zput M ((295 : Nat) : Int) (zup (M ((295 : Nat) : Int)) ((i : Nat) : Int) ((o j : Nat) : Int))) ((295 : Nat) : Int) (zup (zput M ((295 : Nat) : Int) (zup (M ((295 : Nat) : Int)) ((i : Nat) : Int) ((o j : Nat) : Int)) ((295 : Nat) : Int)) ((j : Nat) : Int) ((o i : Nat) : Int)) ((295 : Nat) : Int) ((k : Nat) : Int) = ((zsx2 o i j k : Nat) : Int) := fun k hk => by
    unfold zsx2
    by_cases e1 : k = j
    · subst e1
      rw [zg_s, if_neg (by omega), if_pos rfl]
    · rw [zg_m _ _ _ _ _ (by omega)]
      by_cases e2 : k = i
      · subst e2
        rw [zg_s, if_pos rfl]
      · rw [zg_m _ _ _ _ _ (by omega), if_neg e2, if_neg e1]
        exact ho k hk
  generalize zput (zput M ((295 : Nat) : Int) (zup (M ((295 : Nat) : Int)) ((i : Nat) : Int) ((o j : Nat) : Int))) ((295 : Nat) : Int) (zup (zput M ((295 : Nat) : Int) (zup (M ((295 : Nat) : Int)) ((i : Nat) : Int) ((o j : Nat) : Int)) ((295 : Nat) : Int)) ((j : Nat) : Int) ((o i : Nat) : Int)) = M1 at fA gA ⊢
  have hq := zsx2_in hp (show i < m by omega) hj2
  have hq8 : ∀ k, k < m → zsx2 o i j k < 8 := fun k hk => by have := hq.1 k hk; omega
  generalize hqq : zsx2 o i j = q at gA hq hq8
  have h2 := h1 i j hz
  simp only [zrev2] at h2
  rw [hqq] at h2
  clear h1 h0 hx2 hj3 hz hup hd hlt hji
  refine w_WhileN ((m - 1 - i) / 2) (fun s ρ M' => (∃ l, ρ = 250 :: ((m : Nat) : Int) :: ((i : Nat) : Int) :: ((j : Nat) : Int) :: l ∧ ∃ y, l = y :: ((i + 1 + s : Nat) : Int) :: ((m - 1 - s : Nat) : Int) :: []) ∧ (∀ b k, ¬ b = ((295 : Nat) : Int) → M' b k = M1 b k) ∧ ∀ k : Nat, k < m → M' ((295 : Nat) : Int) ((k : Nat) : Int) = ((if i < k ∧ (k < i + 1 + s ∨ m - 1 - s < k) then q (m + i - k) else q k : Nat) : Int)) ⟨⟨_, rfl, _, rfl⟩, fun _ _ _ => rfl, fun k hk => by rw [gA k hk, if_neg (by omega)]⟩ ?_ ?_
  · rintro s ρ M2 X2 hs ⟨⟨_, rfl, y, rfl⟩, f2, g2⟩ hX2
    have v4 := g2 (i + 1 + s) (by omega)
    have v5 := g2 (m - 1 - s) (by omega)
    rw [if_neg (by omega)] at v4 v5
    have b4 := hq8 (i + 1 + s) (by omega)
    have b5 := hq8 (m - 1 - s) (by omega)
    have e1 : (((m - 1 - s : Nat) : Int) + -1 : Int) = ((m - 1 - (s + 1) : Nat) : Int) := by omega
    ((with_reducible refine i_turn (i_cI_lt (i_L5 (i_L6 ?_)))); (with_reducible refine i_t (by omega) ?_); (with_reducible refine i_Seq (i_Set (i_IA (i_FR (i_A0 ?_))))); (with_reducible refine i_fldR (by assumption) ?_); (with_reducible refine i_L5 ?_); (with_reducible refine i_in (by assumption) (by omega) (by omega) ?_); (with_reducible refine i_Seq (i_sIA (i_FR ?_))); (rw [v4]); simp only [w_set0, w_set1, w_setn0, w_setn1]; (with_reducible refine i_A0 ?_); (with_reducible refine i_fldR (by assumption) ?_); (with_reducible refine i_L5 (i_IA (i_FR (i_A0 ?_)))); (with_reducible refine i_fldR (by assumption) ?_); (with_reducible refine i_L6 ?_); (with_reducible refine i_in (by assumption) (by omega) (by omega) ?_); (with_reducible refine i_in (by assumption) (by omega) (by omega) ?_); (with_reducible refine i_Seq (i_sIA (i_FR (i_A0 ?_)))); (with_reducible refine i_fldR (by assumption) ?_); (with_reducible refine i_L6 (i_L4 ?_)); (with_reducible refine i_in (by assumption) (by omega) (by omega) ?_); (with_reducible refine i_Seq (i_Inc5 ?_)); (rw [v5]); rw [zx_inc (by omega)]; simp only [w_set0, w_set1, w_setn0, w_setn1]; (with_reducible refine i_Inc6 ?_); (rw [zx_s (x := ((m - 1 - s : Nat) : Int) + -1) (by omega) (by omega)]); (rw [e1]); simp only [w_set0, w_set1, w_setn0, w_setn1])
    refine hX2 _ _ ⟨⟨_, by rw [show i + 1 + (s + 1) = i + 1 + s + 1 by omega], _, rfl⟩, fun b k z => by rw [zg_n _ _ _ (by omega), zg_n _ _ _ (by omega)]; exact f2 b k z, fun k hk => ?_⟩
    by_cases k1 : k = m - 1 - s
    · subst k1
      rw [zg_s, if_pos (by omega), show m + i - (m - 1 - s) = i + 1 + s by omega]
    · rw [zg_m _ _ _ _ _ (by omega)]
      by_cases k2 : k = i + 1 + s
      · subst k2
        rw [zg_s, if_pos (by omega), show m + i - (i + 1 + s) = m - 1 - s by omega]
      · rw [zg_m _ _ _ _ _ (by omega), g2 k hk]
        by_cases k3 : i < k ∧ (k < i + 1 + s ∨ m - 1 - s < k)
        · rw [if_pos k3, if_pos (by omega)]
        · rw [if_neg k3, if_neg (by omega)]
  · rintro ρ M2 X2 ⟨⟨_, rfl, y, rfl⟩, f2, g2⟩
    ((with_reducible refine i_turn (i_cI_lt (i_L5 (i_L6 ?_)))); (with_reducible refine i_f (by omega) ?_); (with_reducible refine i_RetZ (i_I ?_)); (with_reducible refine i_z (Or.inr rfl) ?_))
    refine h2 M2 (fun b k z => by rw [f2 b k z, fA b k z]) (fun k hk => ?_)
    rw [g2 k hk]
    by_cases k1 : k ≤ i
    · rw [if_pos k1, if_neg (by omega)]
    · rw [if_neg k1]
      by_cases k2 : k < i + 1 + (m - 1 - i) / 2 ∨ m - 1 - (m - 1 - i) / 2 < k
      · rw [if_pos (by omega)]
      · rw [if_neg (by omega), show m + i - k = k by omega]
/-- what is known of the best so far -/
def zBst (m : Nat) (w : Nat → Nat → Nat) (o : Nat → Nat) (b : Option (Nat → Nat)) : Prop := match b with
  | none => ∀ p, zPm m p → ¬ zlx m p o
  | some g => zPm m g ∧ (zlx m g o) ∧ ∀ p, zPm m p → zlx m p o → zst2 m w g ≤ zst2 m w p ∧ (zst2 m w p = zst2 m w g → ¬ zlx m p g)
def zbsI (m : Nat) (w : Nat → Nat → Nat) (b : Option (Nat → Nat)) : Int := match b with
  | none => -1
  | some g => ((zst2 m w g : Nat) : Int)
/-- the best when an order was looked at too -/
theorem zBst_st {m : Nat} {w : Nat → Nat → Nat} {o : Nat → Nat} {b : Option (Nat → Nat)} (hb : zBst m w o b) (ho : zPm m o) : ((zbsI m w b < 0 ∨ ((zst2 m w o : Nat) : Int) < zbsI m w b) → ∀ p, zPm m p → (zlx m p o ∨ ∀ i, i < m → p i = o i) → zst2 m w o ≤ zst2 m w p ∧ (zst2 m w p = zst2 m w o → ¬ zlx m p o)) ∧
    (¬ (zbsI m w b < 0 ∨ ((zst2 m w o : Nat) : Int) < zbsI m w b) → ∃ g, b = some g ∧ zPm m g ∧ zlx m g o ∧ ∀ p, zPm m p → (zlx m p o ∨ ∀ i, i < m → p i = o i) → zst2 m w g ≤ zst2 m w p ∧ (zst2 m w p = zst2 m w g → ¬ zlx m p g)) := by
  have hst : ∀ p q : Nat → Nat, zPm m p → (∀ i, i < m → p i = q i) → zst2 m w p = zst2 m w q := fun p q _ e => zsum_ext fun i hi => zsum_ext fun j hj => by rw [e i hi, e j hj]
  cases b with
  | none =>
    refine ⟨fun _ p hp h => ?_, fun h => absurd (Or.inl (by show (-1 : Int) < 0; omega)) h⟩
    rcases h with h | h
    · exact absurd h (hb p hp)
    · rw [hst p o hp h]
      exact ⟨Nat.le_refl _, fun _ z => zlx_ir z h⟩
  | some g =>
    obtain ⟨hg, hgo, hall⟩ := hb
    have hI : zbsI m w (some g) = ((zst2 m w g : Nat) : Int) := rfl
    rw [hI]
    refine ⟨fun h p hp h2 => ?_, fun h => ⟨g, rfl, hg, hgo, fun p hp h2 => ?_⟩⟩
    · rcases h2 with h2 | h2
      · have := (hall p hp h2).1
        exact ⟨by omega, fun z => by omega⟩
      · rw [hst p o hp h2]
        exact ⟨Nat.le_refl _, fun _ z => zlx_ir z h2⟩
    · rcases h2 with h2 | h2
      · exact hall p hp h2
      · rw [hst p o hp h2]
        exact ⟨by omega, fun _ z => zlx_no hgo (zlx_ext h2 (fun _ _ => rfl) z)⟩
theorem m_lineOf {O : zOm} (hO : zWld O) (hS : zS O = zmS zC0) {t n : Nat} {A : zTl} {M : zMem} {K : Option zV → zMem → Prop} (ht : t < 7) (hn : M 250 ((1 : Nat) : Int) = ((n : Nat) : Int)) (hn1 : 0 < n) (hn2 : n ≤ 16) (hA : rTe M t n A) (hw : zTw n A) (hm8 : tm A ≤ 8)
    (hk : ∀ M', (∀ b j, ¬ (b = 268 ∨ ((294 : Nat) : Int) ≤ b ∧ b ≤ ((296 : Nat) : Int)) → M' b j = M b j) → (∀ k : Nat, k < tm A → M' ((296 : Nat) : Int) ((k : Nat) : Int) = ((zLin (tm A) (zlw n A) k : Nat) : Int)) → K (some (0, ((zst2 (tm A) (zlw n A) (zLin (tm A) (zlw n A)) : Nat) : Int))) M') : zR O F_Model_lineOf [(2, 250), (0, ((t : Nat) : Int))] M K := by
  have hm0 : 0 < tm A := by have := (hw.1.2.2 0 hn1).1; omega
  have gm := hA.1.1
  have hlw : ∀ x y, zlw n A x y ≤ 256 := fun x y => by
    have h1 := zbw_le (zBd n A) (tf A) n x y n
    have h2 : n * n ≤ 16 * 16 := Nat.mul_le_mul hn2 hn2
    unfold zlw
    omega
  generalize hmm : tm A = m at hm8 hm0 gm hk
  generalize hww : zlw n A = w at hk hlw
  apply r_Model_lineOf hO
  unfold B_Model_lineOf
  have f12 := zMF (k := 12) hS rfl; have a258 := zMA (a := 258) (ty := .int) (n := 7) hS rfl; have f60 := zMF (k := 60) hS rfl; have a295 := zMA (a := 295) (ty := .int) (n := 8) hS rfl; have f61 := zMF (k := 61) hS rfl; have a296 := zMA (a := 296) (ty := .int) (n := 8) hS rfl; have zo := zMO hS
  ((with_reducible refine i_Seq (i_sCall (i_as1 (i_A0 (i_as1 (i_L1 (i_as0 ?_))))))); (with_reducible refine i_recv0 (by assumption) ?_))
  refine m_tiesOfBoxes hO hS ht hn hn2 hA hw (by omega) (fun M1 f1 g1 => ⟨rfl, ?_⟩)
  rw [hww] at g1
  have gm1 : M1 ((258 : Nat) : Int) ((t : Nat) : Int) = ((m : Nat) : Int) := by rw [f1 _ _ (by omega)]; exact gm
  ((with_reducible refine i_Seq (i_Set (i_IA (i_FR (i_A0 ?_))))); (with_reducible refine i_fldR (by assumption) ?_); (with_reducible refine i_L1 ?_); (with_reducible refine i_in (by assumption) (by omega) (by omega) ?_); (with_reducible refine i_Seq (i_Blk (i_Seq (i_Set (i_I ?_))))); (rw [gm1]); simp only [w_set0, w_set1, w_setn0, w_setn1])
  refine w_ForN m (fun k ρ M' => (∃ l, ρ = 250 :: ((t : Nat) : Int) :: ((m : Nat) : Int) :: ((k : Nat) : Int) :: l) ∧ (∀ b j, ¬ b = ((295 : Nat) : Int) → M' b j = M1 b j) ∧ ∀ j : Nat, j < k → M' ((295 : Nat) : Int) ((j : Nat) : Int) = ((j : Nat) : Int)) ⟨⟨_, rfl⟩, fun _ _ _ => rfl, fun j hj => absurd hj (by omega)⟩ ?_ ?_
  · rintro k ρ M9 X hk1 ⟨⟨l, rfl⟩, hf, h⟩ hX
    ((with_reducible refine i_turn (i_cI_lt (i_L3 (i_L2 ?_)))); (with_reducible refine i_t (by omega) ?_); (with_reducible refine i_sIA (i_FR (i_A0 ?_))); (with_reducible refine i_fldR (by assumption) ?_); (with_reducible refine i_L3 (i_L3 ?_)); (with_reducible refine i_in (by assumption) (by omega) (by omega) ?_); (with_reducible refine i_up (i_Inc3 ?_)); rw [zx_inc (by omega)]; simp only [w_set0, w_set1, w_setn0, w_setn1])
    refine hX _ _ ⟨⟨_, rfl⟩, fun b j q => by rw [zg_n _ _ _ (by omega)]; exact hf b j q, fun j hj => ?_⟩
    by_cases e : j = k
    · subst e; rw [zg_s]
    · rw [zg_m _ _ _ _ _ (by omega)]; exact h j (by omega)
  rintro ρ M2 X2 ⟨⟨l2, rfl⟩, f2, g2⟩
  ((with_reducible refine i_turn (i_cI_lt (i_L3 (i_L2 ?_)))); (with_reducible refine i_f (by omega) ?_); (with_reducible refine i_Seq (i_Set (i_I (i_Seq (i_Set (i_I (i_Seq ?_))))))); simp only [w_set0, w_set1, w_setn0, w_setn1]; rw [w_setT])
  have k2 : ∀ b j, ¬ (b = 268 ∨ ((294 : Nat) : Int) ≤ b ∧ b ≤ ((296 : Nat) : Int)) → M2 b j = M b j := fun b j q => by rw [f2 b j (by omega), f1 b j (by omega)]
  have W2 : ∀ x y : Nat, x < 8 → y < 8 → M2 ((294 : Nat) : Int) ((8 * x + y : Nat) : Int) = ((w x y : Nat) : Int) := fun x y hx hy => by rw [f2 _ _ (by omega)]; exact g1 x y hx hy
  have hid : zPm m (fun i => i) := ⟨fun i hi => hi, fun i j _ _ e => e⟩
  refine w_While (α := zLoc × zMem × Bool × (Nat → Nat) × Option (Nat → Nat)) (fun x => (x.1, x.2.1)) (fun x => (∃ l, x.1 = 250 :: ((t : Nat) : Int) :: ((m : Nat) : Int) :: zbsI m w x.2.2.2.2 :: zbI x.2.2.1 :: l) ∧ (∀ b j, ¬ (b = 268 ∨ ((294 : Nat) : Int) ≤ b ∧ b ≤ ((296 : Nat) : Int)) → x.2.1 b j = M b j) ∧ (∀ p q : Nat, p < 8 → q < 8 → x.2.1 ((294 : Nat) : Int) ((8 * p + q : Nat) : Int) = ((w p q : Nat) : Int)) ∧ (x.2.2.1 = true → zPm m x.2.2.2.1 ∧ (∀ k : Nat, k < m → x.2.1 ((295 : Nat) : Int) ((k : Nat) : Int) = ((x.2.2.2.1 k : Nat) : Int)) ∧ zBst m w x.2.2.2.1 x.2.2.2.2 ∧ ∀ g, x.2.2.2.2 = some g → ∀ k : Nat, k < m → x.2.1 ((296 : Nat) : Int) ((k : Nat) : Int) = ((g k : Nat) : Int)) ∧ (x.2.2.1 = false → ∃ g, x.2.2.2.2 = some g ∧ zFst m w g ∧ ∀ k : Nat, k < m → x.2.1 ((296 : Nat) : Int) ((k : Nat) : Int) = ((g k : Nat) : Int))) (fun x => if x.2.2.1 = true then 8 ^ m - zcd x.2.2.2.1 m else 0) (fun x X hx hy => ?_) (_, M2, true, (fun i => i), none) ⟨⟨_, rfl⟩, k2, W2, fun _ => ⟨hid, g2, fun p hp => zlx_id hp, fun g z => by cases z⟩, fun z => by cases z⟩
  obtain ⟨ρ, M3, more, o, bs⟩ := x
  dsimp only at hx
  obtain ⟨⟨l, rfl⟩, k3, W3, T3, F3⟩ := hx
  dsimp only at k3 W3 T3 F3 ⊢
  cases more
  · obtain ⟨g, rfl, hF, hg⟩ := F3 rfl
    obtain ⟨e1, e2⟩ := zLin_ok hF
    ((with_reducible refine i_turn (i_cZ_ne (i_L4 ?_))); rw [zbI_f]; (with_reducible refine i_f (by omega) ?_); (with_reducible refine i_RetI (i_L3 ?_)))
    show K (some (0, ((zst2 m w g : Nat) : Int))) M3
    rw [e1]
    exact hk M3 k3 (fun k hk1 => by rw [hg k hk1, e2 k hk1])
  obtain ⟨ho, hO3, hbst, hbo⟩ := T3 rfl
  have ho8 : ∀ i, i < m → o i < 8 := fun i hi => by have := ho.1 i hi; omega
  obtain ⟨s1, s2⟩ := zBst_st hbst ho
  have hcode := zcd_lt m ho8
  have hpos : 0 < 8 ^ m := Nat.pos_of_ne_zero (by intro z; rw [z] at hcode; omega)
  have hy2 : ∀ (l : zLoc) (M' : zMem) (mo : Bool) (o' : Nat → Nat) (g : Nat → Nat), (∀ b j, ¬ (b = 268 ∨ ((294 : Nat) : Int) ≤ b ∧ b ≤ ((296 : Nat) : Int)) → M' b j = M b j) → (∀ p q : Nat, p < 8 → q < 8 → M' ((294 : Nat) : Int) ((8 * p + q : Nat) : Int) = ((w p q : Nat) : Int)) → (∀ k : Nat, k < m → M' ((296 : Nat) : Int) ((k : Nat) : Int) = ((g k : Nat) : Int)) → (mo = true → zPm m o' ∧ (∀ k : Nat, k < m → M' ((295 : Nat) : Int) ((k : Nat) : Int) = ((o' k : Nat) : Int)) ∧ zBst m w o' (some g) ∧ zlx m o o') → (mo = false → zFst m w g) → X (250 :: ((t : Nat) : Int) :: ((m : Nat) : Int) :: ((zst2 m w g : Nat) : Int) :: zbI mo :: l) M' := fun l M' mo o' g a1 a2 a3 a4 a5 => by
    refine hy (250 :: ((t : Nat) : Int) :: ((m : Nat) : Int) :: ((zst2 m w g : Nat) : Int) :: zbI mo :: l, M', mo, o', some g) ⟨⟨l, rfl⟩, a1, a2, fun z => ?_, fun z => ⟨g, rfl, a5 z, a3⟩⟩ ?_
    · obtain ⟨b1, b2, b3, _⟩ := a4 z
      exact ⟨b1, b2, b3, fun g' e => by cases e; exact a3⟩
    · dsimp only
      rw [if_pos rfl]
      cases mo
      · rw [if_neg (by decide)]; omega
      · rw [if_pos rfl]
        obtain ⟨b1, _, _, b4⟩ := a4 rfl
        have := zcd_lx ho8 (fun i hi => by have := b1.1 i hi; omega) b4
        omega
  clear hy hk
  ((with_reducible refine i_turn (i_cZ_ne (i_L4 ?_))); rw [zbI_t]; (with_reducible refine i_t (by omega) ?_); (with_reducible refine i_Blk (i_Seq (i_Set (i_Call (i_as1 (i_A0 (i_as1 (i_L2 (i_as0 ?_))))))))); (with_reducible refine i_recv0 (by assumption) ?_); simp only [w_set0, w_set1, w_setn0, w_setn1])
  refine m_stretch hO hS hm8 (fun x y hx hy => ⟨W3 x y hx hy, hlw x y⟩) (fun i hi => ⟨hO3 i hi, ho8 i hi⟩) ⟨_, rfl, ?_⟩
  by_cases hc1 : zbsI m w bs < 0
  · ((with_reducible refine i_Seq (i_If (i_cOr (i_cZ_lt (i_L3 ?_))))); rw [w_setT]; (with_reducible refine i_t (by omega) ?_); (with_reducible refine i_Seq (i_Set (i_L5 (i_Blk (i_Seq (i_Set (i_I ?_))))))); simp only [w_set0, w_set1, w_setn0, w_setn1]; rw [w_setT])
    refine w_ForN m (fun k ρ M' => (∃ l, ρ = 250 :: ((t : Nat) : Int) :: ((m : Nat) : Int) :: ((zst2 m w o : Nat) : Int) :: 1 :: ((zst2 m w o : Nat) : Int) :: ((k : Nat) : Int) :: l) ∧ (∀ b j, ¬ b = ((296 : Nat) : Int) → M' b j = M3 b j) ∧ ∀ j : Nat, j < k → M' ((296 : Nat) : Int) ((j : Nat) : Int) = ((o j : Nat) : Int)) ⟨⟨_, rfl⟩, fun _ _ _ => rfl, fun j hj => absurd hj (by omega)⟩ ?_ ?_
    · rintro k ρ M9 X9 hk1 ⟨⟨l9, rfl⟩, hf, h⟩ hX
      have v9 : M9 ((295 : Nat) : Int) ((k : Nat) : Int) = ((o k : Nat) : Int) := by rw [hf _ _ (by omega)]; exact hO3 k hk1
      ((with_reducible refine i_turn (i_cI_lt (i_L6 (i_L2 ?_)))); (with_reducible refine i_t (by omega) ?_); (with_reducible refine i_sIA (i_FR (i_A0 ?_))); (with_reducible refine i_fldR (by assumption) ?_); (with_reducible refine i_L6 (i_IA (i_FR (i_A0 ?_)))); (with_reducible refine i_fldR (by assumption) ?_); (with_reducible refine i_L6 ?_); (with_reducible refine i_in (by assumption) (by omega) (by omega) ?_); (with_reducible refine i_in (by assumption) (by omega) (by omega) ?_); (with_reducible refine i_up (i_Inc6 ?_)); (rw [v9]); rw [zx_inc (by omega)]; simp only [w_set0, w_set1, w_setn0, w_setn1])
      refine hX _ _ ⟨⟨_, rfl⟩, fun b j q => by rw [zg_n _ _ _ (by omega)]; exact hf b j q, fun j hj => ?_⟩
      by_cases e : j = k
      · subst e; rw [zg_s]
      · rw [zg_m _ _ _ _ _ (by omega)]; exact h j (by omega)
    rintro ρ M4 X4 ⟨⟨l4, rfl⟩, f4, g4⟩
    have a3 : ∀ k : Nat, k < m → M4 ((296 : Nat) : Int) ((k : Nat) : Int) = ((o k : Nat) : Int) := g4
    have kk : ∀ b j, ¬ (b = 268 ∨ ((294 : Nat) : Int) ≤ b ∧ b ≤ ((296 : Nat) : Int)) → M4 b j = M b j := fun b j q => by rw [f4 b j (by omega)]; exact k3 b j q
    have WW : ∀ p q : Nat, p < 8 → q < 8 → M4 ((294 : Nat) : Int) ((8 * p + q : Nat) : Int) = ((w p q : Nat) : Int) := fun p q hp hq => by rw [f4 _ _ (by omega)]; exact W3 p q hp hq
    have hO4 : ∀ k : Nat, k < m → M4 ((295 : Nat) : Int) ((k : Nat) : Int) = ((o k : Nat) : Int) := fun k hk1 => by rw [f4 _ _ (by omega)]; exact hO3 k hk1
    ((with_reducible refine i_turn (i_cI_lt (i_L6 (i_L2 ?_)))); (with_reducible refine i_f (by omega) ?_); (with_reducible refine i_Set (i_Call (i_as1 (i_A0 (i_as1 (i_L2 (i_as0 ?_))))))); (with_reducible refine i_recv0 (by assumption) ?_); simp only [w_set0, w_set1, w_setn0, w_setn1])
    refine m_reorders hO hS hm0 hm8 hO4 ho (fun hlast => ⟨_, rfl, ?_⟩) (fun i j hz M5 f5 g5 => ⟨_, rfl, ?_⟩)
    · (skip)
      exact hy2 _ _ false o o kk WW a3 (fun z => by cases z) (fun _ => ⟨ho, fun p hp => s1 (Or.inl hc1) p hp (by
        rcases zlx_tri m p o with q | q | q
        · exact Or.inl q
        · exact Or.inr q
        · exact absurd q (zlx_last ho hp hlast))⟩)
    · (skip)
      have hp' := zrev2_in ho (show i < m by have := hz.1; have := hz.2.1; omega) hz.2.1
      exact hy2 _ _ true (zrev2 m o i j) o (fun b j q => by rw [f5 b j (by omega)]; exact kk b j q) (fun p q hp hq => by rw [f5 _ _ (by omega)]; exact WW p q hp hq) (fun k hk1 => by rw [f5 _ _ (by omega)]; exact a3 k hk1) (fun _ => ⟨hp', g5, ⟨ho, zrev2_lx hz, fun p hp hlt => s1 (Or.inl hc1) p hp (by
        rcases zlx_tri m p o with q | q | q
        · exact Or.inl q
        · exact Or.inr q
        · rcases zrev2_nx ho hp hz q with r | r
          · exact absurd hlt (fun z => zlx_ir z r)
          · exact absurd hlt (zlx_no r))⟩, zrev2_lx hz⟩) (fun z => by cases z)
  by_cases hc2 : ((zst2 m w o : Nat) : Int) < zbsI m w bs
  · ((with_reducible refine i_Seq (i_If (i_cOr (i_cZ_lt (i_L3 ?_))))); rw [w_setT]; (with_reducible refine i_f (by omega) ?_); (with_reducible refine i_cI_lt (i_L5 (i_L3 ?_))); (with_reducible refine i_t (by omega) ?_); (with_reducible refine i_Seq (i_Set (i_L5 (i_Blk (i_Seq (i_Set (i_I ?_))))))); simp only [w_set0, w_set1, w_setn0, w_setn1]; rw [w_setT])
    refine w_ForN m (fun k ρ M' => (∃ l, ρ = 250 :: ((t : Nat) : Int) :: ((m : Nat) : Int) :: ((zst2 m w o : Nat) : Int) :: 1 :: ((zst2 m w o : Nat) : Int) :: ((k : Nat) : Int) :: l) ∧ (∀ b j, ¬ b = ((296 : Nat) : Int) → M' b j = M3 b j) ∧ ∀ j : Nat, j < k → M' ((296 : Nat) : Int) ((j : Nat) : Int) = ((o j : Nat) : Int)) ⟨⟨_, rfl⟩, fun _ _ _ => rfl, fun j hj => absurd hj (by omega)⟩ ?_ ?_
    · rintro k ρ M9 X9 hk1 ⟨⟨l9, rfl⟩, hf, h⟩ hX
      have v9 : M9 ((295 : Nat) : Int) ((k : Nat) : Int) = ((o k : Nat) : Int) := by rw [hf _ _ (by omega)]; exact hO3 k hk1
      ((with_reducible refine i_turn (i_cI_lt (i_L6 (i_L2 ?_)))); (with_reducible refine i_t (by omega) ?_); (with_reducible refine i_sIA (i_FR (i_A0 ?_))); (with_reducible refine i_fldR (by assumption) ?_); (with_reducible refine i_L6 (i_IA (i_FR (i_A0 ?_)))); (with_reducible refine i_fldR (by assumption) ?_); (with_reducible refine i_L6 ?_); (with_reducible refine i_in (by assumption) (by omega) (by omega) ?_); (with_reducible refine i_in (by assumption) (by omega) (by omega) ?_); (with_reducible refine i_up (i_Inc6 ?_)); (rw [v9]); rw [zx_inc (by omega)]; simp only [w_set0, w_set1, w_setn0, w_setn1])
      refine hX _ _ ⟨⟨_, rfl⟩, fun b j q => by rw [zg_n _ _ _ (by omega)]; exact hf b j q, fun j hj => ?_⟩
      by_cases e : j = k
      · subst e; rw [zg_s]
      · rw [zg_m _ _ _ _ _ (by omega)]; exact h j (by omega)
    rintro ρ M4 X4 ⟨⟨l4, rfl⟩, f4, g4⟩
    have a3 : ∀ k : Nat, k < m → M4 ((296 : Nat) : Int) ((k : Nat) : Int) = ((o k : Nat) : Int) := g4
    have kk : ∀ b j, ¬ (b = 268 ∨ ((294 : Nat) : Int) ≤ b ∧ b ≤ ((296 : Nat) : Int)) → M4 b j = M b j := fun b j q => by rw [f4 b j (by omega)]; exact k3 b j q
    have WW : ∀ p q : Nat, p < 8 → q < 8 → M4 ((294 : Nat) : Int) ((8 * p + q : Nat) : Int) = ((w p q : Nat) : Int) := fun p q hp hq => by rw [f4 _ _ (by omega)]; exact W3 p q hp hq
    have hO4 : ∀ k : Nat, k < m → M4 ((295 : Nat) : Int) ((k : Nat) : Int) = ((o k : Nat) : Int) := fun k hk1 => by rw [f4 _ _ (by omega)]; exact hO3 k hk1
    ((with_reducible refine i_turn (i_cI_lt (i_L6 (i_L2 ?_)))); (with_reducible refine i_f (by omega) ?_); (with_reducible refine i_Set (i_Call (i_as1 (i_A0 (i_as1 (i_L2 (i_as0 ?_))))))); (with_reducible refine i_recv0 (by assumption) ?_); simp only [w_set0, w_set1, w_setn0, w_setn1])
    refine m_reorders hO hS hm0 hm8 hO4 ho (fun hlast => ⟨_, rfl, ?_⟩) (fun i j hz M5 f5 g5 => ⟨_, rfl, ?_⟩)
    · (skip)
      exact hy2 _ _ false o o kk WW a3 (fun z => by cases z) (fun _ => ⟨ho, fun p hp => s1 (Or.inr hc2) p hp (by
        rcases zlx_tri m p o with q | q | q
        · exact Or.inl q
        · exact Or.inr q
        · exact absurd q (zlx_last ho hp hlast))⟩)
    · (skip)
      have hp' := zrev2_in ho (show i < m by have := hz.1; have := hz.2.1; omega) hz.2.1
      exact hy2 _ _ true (zrev2 m o i j) o (fun b j q => by rw [f5 b j (by omega)]; exact kk b j q) (fun p q hp hq => by rw [f5 _ _ (by omega)]; exact WW p q hp hq) (fun k hk1 => by rw [f5 _ _ (by omega)]; exact a3 k hk1) (fun _ => ⟨hp', g5, ⟨ho, zrev2_lx hz, fun p hp hlt => s1 (Or.inr hc2) p hp (by
        rcases zlx_tri m p o with q | q | q
        · exact Or.inl q
        · exact Or.inr q
        · rcases zrev2_nx ho hp hz q with r | r
          · exact absurd hlt (fun z => zlx_ir z r)
          · exact absurd hlt (zlx_no r))⟩, zrev2_lx hz⟩) (fun z => by cases z)
  obtain ⟨g, rfl, hg, hgo, hall⟩ := s2 (fun z => z.elim hc1 hc2)
  have hI : zbsI m w (some g) = ((zst2 m w g : Nat) : Int) := rfl
  rw [hI] at hc1 hc2 ⊢
  have a3 : ∀ k : Nat, k < m → M3 ((296 : Nat) : Int) ((k : Nat) : Int) = ((g k : Nat) : Int) := hbo g rfl
  have kk : ∀ b j, ¬ (b = 268 ∨ ((294 : Nat) : Int) ≤ b ∧ b ≤ ((296 : Nat) : Int)) → M3 b j = M b j := k3
  have WW : ∀ p q : Nat, p < 8 → q < 8 → M3 ((294 : Nat) : Int) ((8 * p + q : Nat) : Int) = ((w p q : Nat) : Int) := W3
  have hO4 : ∀ k : Nat, k < m → M3 ((295 : Nat) : Int) ((k : Nat) : Int) = ((o k : Nat) : Int) := hO3
  ((with_reducible refine i_Seq (i_If (i_cOr (i_cZ_lt (i_L3 ?_))))); rw [w_setT]; (with_reducible refine i_f (by omega) ?_); (with_reducible refine i_cI_lt (i_L5 (i_L3 ?_))); (with_reducible refine i_f (by omega) ?_); (with_reducible refine i_Set (i_Call (i_as1 (i_A0 (i_as1 (i_L2 (i_as0 ?_))))))); (with_reducible refine i_recv0 (by assumption) ?_); simp only [w_set0, w_set1, w_setn0, w_setn1])
  refine m_reorders hO hS hm0 hm8 hO4 ho (fun hlast => ⟨_, rfl, ?_⟩) (fun i j hz M5 f5 g5 => ⟨_, rfl, ?_⟩)
  · (skip)
    exact hy2 _ _ false o g kk WW a3 (fun z => by cases z) (fun _ => ⟨hg, fun p hp => hall p hp (by
      rcases zlx_tri m p o with q | q | q
      · exact Or.inl q
      · exact Or.inr q
      · exact absurd q (zlx_last ho hp hlast))⟩)
  · (skip)
    have hp' := zrev2_in ho (show i < m by have := hz.1; have := hz.2.1; omega) hz.2.1
    exact hy2 _ _ true (zrev2 m o i j) g (fun b j q => by rw [f5 b j (by omega)]; exact kk b j q) (fun p q hp hq => by rw [f5 _ _ (by omega)]; exact WW p q hp hq) (fun k hk1 => by rw [f5 _ _ (by omega)]; exact a3 k hk1) (fun _ => ⟨hp', g5, ⟨hg, zlx_tr hgo (zrev2_lx hz), fun p hp hlt => hall p hp (by
      rcases zlx_tri m p o with q | q | q
      · exact Or.inl q
      · exact Or.inr q
      · rcases zrev2_nx ho hp hz q with r | r
        · exact absurd hlt (fun z => zlx_ir z r)
        · exact absurd hlt (zlx_no r))⟩, zrev2_lx hz⟩) (fun z => by cases z)
theorem m_line_bad {O : zOm} (hO : zWld O) (hS : zS O = zmS zC0) {t : Int} {T : Nat} {M : zMem} {K : Option zV → zMem → Prop} (hT : M 250 ((11 : Nat) : Int) = ((T : Nat) : Int)) (ht : ¬ (0 ≤ t ∧ t < ((T : Nat) : Int))) (hk : K (some (0, -1)) M) : zR O F_Model_line [(2, 250), (0, t)] M K := by
  apply r_Model_line hO
  unfold B_Model_line
  have f12 := zMF (k := 12) hS rfl; have a258 := zMA (a := 258) (ty := .int) (n := 7) hS rfl; have zo := zMO hS
  ((with_reducible refine i_Seq (i_If (i_cNot (i_cZ_ne (i_Call (i_as1 (i_A0 (i_as1 (i_L1 (i_as0 ?_)))))))))); (with_reducible refine i_recv0 (by assumption) ?_); (refine m_isTelling hO hS hT ⟨_, rfl, ?_⟩); (rw [decide_eq_false ht]); rw [zbI_f]; (with_reducible refine i_f (by omega) ?_); (with_reducible refine i_RetI (i_I ?_)))
  exact hk
theorem m_line_big {O : zOm} (hO : zWld O) (hS : zS O = zmS zC0) {t T n : Nat} {A : zTl} {M : zMem} {K : Option zV → zMem → Prop} (hT : M 250 ((11 : Nat) : Int) = ((T : Nat) : Int)) (hT5 : T ≤ 5) (ht : t < T) (hA : rTe M t n A) (hm : 8 < tm A) (hk : K (some (0, -2)) M) : zR O F_Model_line [(2, 250), (0, ((t : Nat) : Int))] M K := by
  have g := hA.1.1
  apply r_Model_line hO
  unfold B_Model_line
  have f12 := zMF (k := 12) hS rfl; have a258 := zMA (a := 258) (ty := .int) (n := 7) hS rfl; have zo := zMO hS
  ((with_reducible refine i_Seq (i_If (i_cNot (i_cZ_ne (i_Call (i_as1 (i_A0 (i_as1 (i_L1 (i_as0 ?_)))))))))); (with_reducible refine i_recv0 (by assumption) ?_); (refine m_isTelling hO hS hT ⟨_, rfl, ?_⟩); (rw [decide_eq_true (show 0 ≤ ((t : Nat) : Int) ∧ ((t : Nat) : Int) < ((T : Nat) : Int) by omega)]); rw [zbI_t]; (with_reducible refine i_t (by omega) ?_); (with_reducible refine i_RetI (i_eIf (i_cI_gt (i_IA (i_FR (i_A0 ?_)))))); (with_reducible refine i_fldR (by assumption) ?_); (with_reducible refine i_L1 ?_); (with_reducible refine i_in (by assumption) (by omega) (by omega) ?_); (with_reducible refine i_I ?_); (rw [g]); (with_reducible refine i_t (by omega) ?_); (with_reducible refine i_I ?_))
  exact hk
theorem m_line {O : zOm} (hO : zWld O) (hS : zS O = zmS zC0) {t T n : Nat} {A : zTl} {M : zMem} {K : Option zV → zMem → Prop} (hT : M 250 ((11 : Nat) : Int) = ((T : Nat) : Int)) (hT5 : T ≤ 5) (ht : t < T) (hn : M 250 ((1 : Nat) : Int) = ((n : Nat) : Int)) (hn1 : 0 < n) (hn2 : n ≤ 16) (hA : rTe M t n A) (hw : zTw n A) (hm8 : tm A ≤ 8)
    (hk : ∀ M', (∀ b j, ¬ (b = 268 ∨ ((294 : Nat) : Int) ≤ b ∧ b ≤ ((296 : Nat) : Int)) → M' b j = M b j) → K (some (0, ((zst2 (tm A) (zlw n A) (zLin (tm A) (zlw n A)) : Nat) : Int))) M') : zR O F_Model_line [(2, 250), (0, ((t : Nat) : Int))] M K := by
  have g := hA.1.1
  apply r_Model_line hO
  unfold B_Model_line
  have f12 := zMF (k := 12) hS rfl; have a258 := zMA (a := 258) (ty := .int) (n := 7) hS rfl; have zo := zMO hS
  ((with_reducible refine i_Seq (i_If (i_cNot (i_cZ_ne (i_Call (i_as1 (i_A0 (i_as1 (i_L1 (i_as0 ?_)))))))))); (with_reducible refine i_recv0 (by assumption) ?_); (refine m_isTelling hO hS hT ⟨_, rfl, ?_⟩); (rw [decide_eq_true (show 0 ≤ ((t : Nat) : Int) ∧ ((t : Nat) : Int) < ((T : Nat) : Int) by omega)]); rw [zbI_t]; (with_reducible refine i_t (by omega) ?_); (with_reducible refine i_RetI (i_eIf (i_cI_gt (i_IA (i_FR (i_A0 ?_)))))); (with_reducible refine i_fldR (by assumption) ?_); (with_reducible refine i_L1 ?_); (with_reducible refine i_in (by assumption) (by omega) (by omega) ?_); (with_reducible refine i_I ?_); (rw [g]); (with_reducible refine i_f (by omega) ?_); (with_reducible refine i_Call (i_as1 (i_A0 (i_as1 (i_L1 (i_as0 ?_)))))); (with_reducible refine i_recv0 (by assumption) ?_))
  refine m_lineOf hO hS (by omega) hn hn1 hn2 hA hw hm8 (fun M1 f1 _ => ⟨_, rfl, ?_⟩)
  exact hk M1 f1
theorem m_at_bad {O : zOm} (hO : zWld O) (hS : zS O = zmS zC0) {t i : Int} {T n : Nat} {A : Nat → zTl} {M : zMem} {K : Option zV → zMem → Prop} (hT : M 250 ((11 : Nat) : Int) = ((T : Nat) : Int)) (hT5 : T ≤ 5) (hA : ∀ t : Nat, t < T → M ((258 : Nat) : Int) ((t : Nat) : Int) = ((tm (A t) : Nat) : Int)) (hb : ∀ t' : Nat, t = ((t' : Nat) : Int) → t' < T → ¬ (tm (A t') ≤ 8 ∧ 0 ≤ i ∧ i < ((tm (A t') : Nat) : Int))) (hk : K (some (0, -1)) M) : zR O F_Model_at [(2, 250), (0, t), (0, i)] M K := by
  apply r_Model_at hO
  unfold B_Model_at
  have f12 := zMF (k := 12) hS rfl; have a258 := zMA (a := 258) (ty := .int) (n := 7) hS rfl; have f61 := zMF (k := 61) hS rfl; have a296 := zMA (a := 296) (ty := .int) (n := 8) hS rfl; have zo := zMO hS
  by_cases ht : 0 ≤ t ∧ t < ((T : Nat) : Int)
  · obtain ⟨t, rfl⟩ : ∃ t' : Nat, t = ((t' : Nat) : Int) := ⟨t.toNat, by omega⟩
    have g := hA t (by omega)
    have h2 := hb t rfl (by omega)
    by_cases e1 : 8 < tm (A t)
    · ((with_reducible refine i_Seq (i_If (i_cOr (i_cOr (i_cOr (i_cNot (i_cZ_ne (i_Call (i_as1 (i_A0 (i_as1 (i_L1 (i_as0 ?_))))))))))))); (with_reducible refine i_recv0 (by assumption) ?_); (refine m_isTelling hO hS hT ⟨_, rfl, ?_⟩); (rw [decide_eq_true ht]); rw [zbI_t]; (with_reducible refine i_t (by omega) ?_); (with_reducible refine i_cI_gt (i_IA (i_FR (i_A0 ?_)))); (with_reducible refine i_fldR (by assumption) ?_); (with_reducible refine i_L1 ?_); (with_reducible refine i_in (by assumption) (by omega) (by omega) ?_); (with_reducible refine i_I ?_); (rw [g]); (with_reducible refine i_t (by omega) ?_); (with_reducible refine i_RetI (i_I ?_)))
      exact hk
    · by_cases e2 : i < 0
      · ((with_reducible refine i_Seq (i_If (i_cOr (i_cOr (i_cOr (i_cNot (i_cZ_ne (i_Call (i_as1 (i_A0 (i_as1 (i_L1 (i_as0 ?_))))))))))))); (with_reducible refine i_recv0 (by assumption) ?_); (refine m_isTelling hO hS hT ⟨_, rfl, ?_⟩); (rw [decide_eq_true ht]); rw [zbI_t]; (with_reducible refine i_t (by omega) ?_); (with_reducible refine i_cI_gt (i_IA (i_FR (i_A0 ?_)))); (with_reducible refine i_fldR (by assumption) ?_); (with_reducible refine i_L1 ?_); (with_reducible refine i_in (by assumption) (by omega) (by omega) ?_); (with_reducible refine i_I ?_); (rw [g]); (with_reducible refine i_f (by omega) ?_); (with_reducible refine i_cZ_lt (i_L2 ?_)); (with_reducible refine i_t (by omega) ?_); (with_reducible refine i_RetI (i_I ?_)))
        exact hk
      · ((with_reducible refine i_Seq (i_If (i_cOr (i_cOr (i_cOr (i_cNot (i_cZ_ne (i_Call (i_as1 (i_A0 (i_as1 (i_L1 (i_as0 ?_))))))))))))); (with_reducible refine i_recv0 (by assumption) ?_); (refine m_isTelling hO hS hT ⟨_, rfl, ?_⟩); (rw [decide_eq_true ht]); rw [zbI_t]; (with_reducible refine i_t (by omega) ?_); (with_reducible refine i_cI_gt (i_IA (i_FR (i_A0 ?_)))); (with_reducible refine i_fldR (by assumption) ?_); (with_reducible refine i_L1 ?_); (with_reducible refine i_in (by assumption) (by omega) (by omega) ?_); (with_reducible refine i_I ?_); (rw [g]); (with_reducible refine i_f (by omega) ?_); (with_reducible refine i_cZ_lt (i_L2 ?_)); (with_reducible refine i_f (by omega) ?_); (with_reducible refine i_cI_ge (i_L2 (i_IA (i_FR (i_A0 ?_))))); (with_reducible refine i_fldR (by assumption) ?_); (with_reducible refine i_L1 ?_); (with_reducible refine i_in (by assumption) (by omega) (by omega) ?_); (rw [g]); (with_reducible refine i_t (by omega) ?_); (with_reducible refine i_RetI (i_I ?_)))
        exact hk
  · ((with_reducible refine i_Seq (i_If (i_cOr (i_cOr (i_cOr (i_cNot (i_cZ_ne (i_Call (i_as1 (i_A0 (i_as1 (i_L1 (i_as0 ?_))))))))))))); (with_reducible refine i_recv0 (by assumption) ?_); (refine m_isTelling hO hS hT ⟨_, rfl, ?_⟩); (rw [decide_eq_false ht]); rw [zbI_f]; (with_reducible refine i_f (by omega) ?_); (with_reducible refine i_RetI (i_I ?_)))
    exact hk
theorem m_at {O : zOm} (hO : zWld O) (hS : zS O = zmS zC0) {t T n i : Nat} {A : zTl} {M : zMem} {K : Option zV → zMem → Prop} (hT : M 250 ((11 : Nat) : Int) = ((T : Nat) : Int)) (hT5 : T ≤ 5) (ht : t < T) (hn : M 250 ((1 : Nat) : Int) = ((n : Nat) : Int)) (hn1 : 0 < n) (hn2 : n ≤ 16) (hA : rTe M t n A) (hw : zTw n A) (hm8 : tm A ≤ 8) (hi : i < tm A)
    (hk : ∀ M', (∀ b j, ¬ (b = 268 ∨ ((294 : Nat) : Int) ≤ b ∧ b ≤ ((296 : Nat) : Int)) → M' b j = M b j) → K (some (0, ((zLin (tm A) (zlw n A) i : Nat) : Int))) M') : zR O F_Model_at [(2, 250), (0, ((t : Nat) : Int)), (0, ((i : Nat) : Int))] M K := by
  have g := hA.1.1
  apply r_Model_at hO
  unfold B_Model_at
  have f12 := zMF (k := 12) hS rfl; have a258 := zMA (a := 258) (ty := .int) (n := 7) hS rfl; have f61 := zMF (k := 61) hS rfl; have a296 := zMA (a := 296) (ty := .int) (n := 8) hS rfl; have zo := zMO hS
  ((with_reducible refine i_Seq (i_If (i_cOr (i_cOr (i_cOr (i_cNot (i_cZ_ne (i_Call (i_as1 (i_A0 (i_as1 (i_L1 (i_as0 ?_))))))))))))); (with_reducible refine i_recv0 (by assumption) ?_); (refine m_isTelling hO hS hT ⟨_, rfl, ?_⟩); (rw [decide_eq_true (show 0 ≤ ((t : Nat) : Int) ∧ ((t : Nat) : Int) < ((T : Nat) : Int) by omega)]); rw [zbI_t]; (with_reducible refine i_t (by omega) ?_); (with_reducible refine i_cI_gt (i_IA (i_FR (i_A0 ?_)))); (with_reducible refine i_fldR (by assumption) ?_); (with_reducible refine i_L1 ?_); (with_reducible refine i_in (by assumption) (by omega) (by omega) ?_); (with_reducible refine i_I ?_); (rw [g]); (with_reducible refine i_f (by omega) ?_); (with_reducible refine i_cZ_lt (i_L2 ?_)); (with_reducible refine i_f (by omega) ?_); (with_reducible refine i_cI_ge (i_L2 (i_IA (i_FR (i_A0 ?_))))); (with_reducible refine i_fldR (by assumption) ?_); (with_reducible refine i_L1 ?_); (with_reducible refine i_in (by assumption) (by omega) (by omega) ?_); (rw [g]); (with_reducible refine i_f (by omega) ?_); (with_reducible refine i_Seq (i_Set (i_Call (i_as1 (i_A0 (i_as1 (i_L1 (i_as0 ?_)))))))); (with_reducible refine i_recv0 (by assumption) ?_); simp only [w_set0, w_set1, w_setn0, w_setn1])
  refine m_lineOf hO hS (by omega) hn hn1 hn2 hA hw hm8 (fun M1 f1 g1 => ⟨_, rfl, ?_⟩)
  have g2 := g1 i hi
  ((with_reducible refine i_RetI (i_IA (i_FR (i_A0 ?_)))); (with_reducible refine i_fldR (by assumption) ?_); (with_reducible refine i_L2 ?_); (with_reducible refine i_in (by assumption) (by omega) (by omega) ?_); (rw [g2]))
  exact hk M1 f1
end
section
-- part j4.cline.lean.txt
/-! ===== boxes in a line: the class ===== -/
theorem ybit {s b : Nat} (hs : s < 65536) (hb : b < 16) : yand (yshr ((s : Nat) : Int) ((b : Nat) : Int)) 1 = zbI (s.testBit b) := by
  rw [za_mk hs, yand_1 _ hb]
  rfl
theorem zor_lt {s b : Nat} (hs : s < 65536) (hb : b < 16) : s ||| 2 ^ b < 65536 := Nat.or_lt_two_pow (n := 16) hs (Nat.pow_lt_pow_right (by decide) hb)
theorem ybor {s b : Nat} (hs : s < 65536) (hb : b < 16) : yor ((s : Nat) : Int) (yshl 1 ((b : Nat) : Int)) = ((s ||| 2 ^ b : Nat) : Int) := by
  rw [za_mk (zor_lt hs hb), za_mk hs, yshl_mk hb, yor_mk]
  refine zmk_ext fun i _ => ?_
  rw [Nat.testBit_or, Nat.testBit_two_pow]
  congr 1
  exact decide_eq_decide.mpr ⟨fun h => h.symm, fun h => h.symm⟩
/-- a set of boxes as a number -/
def zmsk (t : Nat → Bool) : Nat → Nat
  | 0 => 0
  | k + 1 => zmsk t k ||| (if t k = true then 2 ^ k else 0)
theorem zmsk_bit (t : Nat → Bool) (m x : Nat) : (zmsk t m).testBit x = (decide (x < m) && t x) := by
  induction m with
  | zero => show (0 : Nat).testBit x = _; rw [Nat.zero_testBit, decide_eq_false (Nat.not_lt_zero x)]; rfl
  | succ m ih =>
    show (zmsk t m ||| (if t m = true then 2 ^ m else 0)).testBit x = _
    rw [Nat.testBit_or, ih]
    by_cases e : x = m
    · subst e
      rw [decide_eq_false (Nat.lt_irrefl _), decide_eq_true (Nat.lt_succ_self x), Bool.false_and, Bool.false_or, Bool.true_and]
      cases h : t x
      · rw [if_neg (by decide), Nat.zero_testBit]
      · rw [if_pos rfl, Nat.testBit_two_pow_self]
    · have h2 : (if t m = true then 2 ^ m else 0).testBit x = false := by
        split
        · rw [Nat.testBit_two_pow]; exact decide_eq_false (fun z => e z.symm)
        · exact Nat.zero_testBit x
      rw [h2, Bool.or_false, zdb (show x < m ↔ x < m + 1 by omega)]
theorem zmsk_lt (t : Nat → Bool) (m : Nat) : zmsk t m < 2 ^ m := by
  refine Nat.lt_pow_two_of_testBit _ (fun i hi => ?_)
  rw [zmsk_bit, decide_eq_false (by omega)]
  rfl
theorem zmsk_of {m s : Nat} (hs : s < 2 ^ m) : zmsk s.testBit m = s := Nat.eq_of_testBit_eq fun i => by
  rw [zmsk_bit]
  by_cases h : i < m
  · rw [decide_eq_true h, Bool.true_and]
  · rw [decide_eq_false h, Bool.false_and]
    exact (Nat.testBit_lt_two_pow (Nat.lt_of_lt_of_le hs (Nat.pow_le_pow_right (by decide) (by omega)))).symm
theorem zmsk_ext {t u : Nat → Bool} {m : Nat} (h : ∀ x, x < m → t x = u x) : zmsk t m = zmsk u m := Nat.eq_of_testBit_eq fun i => by
  rw [zmsk_bit, zmsk_bit]
  by_cases w : i < m
  · rw [h i w]
  · rw [decide_eq_false w]; rfl
theorem zmsk_add {t : Nat → Bool} {m b : Nat} (hb : b < m) : zmsk (fun x => t x || decide (x = b)) m = zmsk t m ||| 2 ^ b := Nat.eq_of_testBit_eq fun i => by
  rw [zmsk_bit, Nat.testBit_or, zmsk_bit, Nat.testBit_two_pow]
  by_cases w : i = b
  · subst w
    rw [decide_eq_true hb, decide_eq_true rfl, Bool.or_true, Bool.or_true]; rfl
  · rw [decide_eq_false (show ¬ i = b from w), decide_eq_false (show ¬ b = i from fun z => w z.symm), Bool.or_false, Bool.or_false]
theorem zmsk_full {m : Nat} {t : Nat → Bool} (h : ∀ x, x < m → t x = true) : zmsk t m = 2 ^ m - 1 := Nat.eq_of_testBit_eq fun i => by
  rw [zmsk_bit, Nat.testBit_two_pow_sub_one]
  by_cases w : i < m
  · rw [decide_eq_true w, h i w]; rfl
  · rw [decide_eq_false w]; rfl
/-- what goes over, as the class counts it -/
theorem zsum_pick {m : Nat} {s T : Nat → Bool} {f : Nat → Nat} (n : Nat) (hf : ∀ q, q < n → f q < m) : zsum (fun y => if s y = false then zcnt (fun q => T q && decide (f q = y)) n else 0) m = zcnt (fun q => T q && !s (f q)) n := by
  induction n with
  | zero => exact zsum_z fun y _ => by split <;> rfl
  | succ n ih =>
    have h1 := ih (fun q hq => hf q (by omega))
    rw [zcnt_su, ← h1]
    have e : zsum (fun y => if s y = false then zcnt (fun q => T q && decide (f q = y)) (n + 1) else 0) m = zsum (fun y => (if s y = false then zcnt (fun q => T q && decide (f q = y)) n else 0) + (if s y = false ∧ (T n && decide (f n = y)) = true then 1 else 0)) m := zsum_ext fun y _ => by
      rw [zcnt_su]
      by_cases w : s y = false
      · rw [if_pos w, if_pos w]
        by_cases w2 : (T n && decide (f n = y)) = true
        · rw [if_pos w2, if_pos ⟨w, w2⟩]
        · rw [if_neg w2, if_neg (fun z => w2 z.2)]
      · rw [if_neg w, if_neg w, if_neg (fun z => w z.1)]
    rw [e, zsum_addf]
    congr 1
    have h2 := zsum_at (f := fun y => if s y = false ∧ (T n && decide (f n = y)) = true then 1 else 0) (g := fun _ => 0) (k := f n) (v := if (T n && !s (f n)) = true then 1 else 0) (n := m) (hf n (by omega)) (by
      (try dsimp only)
      cases s (f n) <;> cases T n <;> simp) (fun i hi => by
      (try dsimp only)
      rw [decide_eq_false (fun z => hi z.symm), Bool.and_false, if_neg (by simp)])
    rw [h2, zsum_z (fun _ _ => rfl), Nat.zero_add]
theorem zcu_posts {m : Nat} {s : Nat → Bool} {T : Nat → Nat → Bool} {f : Nat → Nat} {n : Nat} (hf : ∀ q, q < n → f q < m) : zcu m (fun x y => zbw T f n x y n) s = zsum (fun p => if s (f p) = true then zcnt (fun q => T p q && !s (f q)) n else 0) n := by
  have key : ∀ k, k ≤ n → zsum (fun x => zsum (fun y => if s x = true ∧ s y = false then zbw T f n x y k else 0) m) m = zsum (fun p => if s (f p) = true then zcnt (fun q => T p q && !s (f q)) n else 0) k := by
    intro k
    induction k with
    | zero => exact fun _ => zsum_z fun x _ => zsum_z fun y _ => by split <;> rfl
    | succ k ih =>
      intro hk
      rw [zsum_su, ← ih (by omega)]
      have e : zsum (fun x => zsum (fun y => if s x = true ∧ s y = false then zbw T f n x y (k + 1) else 0) m) m = zsum (fun x => zsum (fun y => if s x = true ∧ s y = false then zbw T f n x y k else 0) m + (if s x = true ∧ f k = x then zcnt (fun q => T k q && !s (f q)) n else 0)) m := zsum_ext fun x hx => by
        by_cases w : s x = true ∧ f k = x
        · rw [if_pos w, ← zsum_pick n hf, ← zsum_addf]
          refine zsum_ext fun y _ => ?_
          by_cases w2 : s y = false
          · rw [if_pos ⟨w.1, w2⟩, if_pos ⟨w.1, w2⟩, if_pos w2, zbw_su, if_pos w.2]
          · rw [if_neg (fun z => w2 z.2), if_neg (fun z => w2 z.2), if_neg w2]
        · rw [if_neg w, Nat.add_zero]
          refine zsum_ext fun y _ => ?_
          by_cases w2 : s x = true ∧ s y = false
          · rw [if_pos w2, if_pos w2, zbw_su, if_neg (fun z => w ⟨w2.1, z⟩), Nat.add_zero]
          · rw [if_neg w2, if_neg w2]
      rw [e, zsum_addf]
      congr 1
      have h2 := zsum_at (f := fun x => if s x = true ∧ f k = x then zcnt (fun q => T k q && !s (f q)) n else 0) (g := fun _ => 0) (k := f k) (v := if s (f k) = true then zcnt (fun q => T k q && !s (f q)) n else 0) (n := m) (hf k (by omega)) (by
        (try dsimp only)
        rw [Nat.zero_add]
        by_cases w : s (f k) = true
        · rw [if_pos ⟨w, rfl⟩, if_pos w]
        · rw [if_neg (fun z => w z.1), if_neg w]) (fun i hi => by
        (try dsimp only)
        rw [if_neg (fun z => hi z.2.symm)])
      rw [h2, zsum_z (fun _ _ => rfl), Nat.zero_add]
  exact key n (Nat.le_refl _)
theorem zsum_ifc {s : Nat → Bool} {F : Nat → Nat} {c : Nat} (h : ∀ i, F i ≤ c) (n : Nat) : zsum (fun p => if s p = true then F p else 0) n ≤ c * zcnt s n := by
  induction n with
  | zero => exact Nat.zero_le _
  | succ n ih =>
    rw [zsum_su, zcnt_su]
    have := h n
    (try dsimp only)
    by_cases w : s n = true
    · rw [if_pos w, if_pos w, Nat.mul_succ]; omega
    · rw [if_neg w, if_neg w]; omega
theorem zcnt_not (s : Nat → Bool) (n : Nat) : zcnt s n + zcnt (fun q => !s q) n = n := by
  induction n with
  | zero => rfl
  | succ n ih =>
    rw [zcnt_su, zcnt_su]
    cases s n <;> simp <;> omega
theorem zcu_le {m : Nat} {s : Nat → Bool} {T : Nat → Nat → Bool} {f : Nat → Nat} {n : Nat} (hn : n ≤ 16) (hf : ∀ q, q < n → f q < m) : zcu m (fun x y => zbw T f n x y n) s ≤ 64 := by
  rw [zcu_posts hf]
  have h1 := zsum_ifc (s := fun p => s (f p)) (F := fun p => zcnt (fun q => T p q && !s (f q)) n) (c := zcnt (fun q => !s (f q)) n) (fun i => zcnt_sub fun q _ h => by rw [Bool.and_eq_true] at h; exact h.2) n
  have h2 := zcnt_not (fun q => s (f q)) n
  refine Nat.le_trans h1 ?_
  generalize zcnt (fun q => s (f q)) n = a at h2
  generalize zcnt (fun q => !s (f q)) n = b at h2
  have h3 : ∀ a b : Fin 17, a.val + b.val ≤ 16 → b.val * a.val ≤ 64 := by decide
  exact h3 ⟨a, by omega⟩ ⟨b, by omega⟩ (by show a + b ≤ 16; omega)
end
