/-! ===== boxes in a line: orders, one behind another ===== -/
/-- an order of m boxes -/
def zPm (m : Nat) (o : Nat → Nat) : Prop := (∀ i, i < m → o i < m) ∧ ∀ i j, i < m → j < m → o i = o j → i = j
theorem zPm_sur {m : Nat} {o : Nat → Nat} (h : zPm m o) {v : Nat} (hv : v < m) : ∃ i, i < m ∧ o i = v := by
  have key : ∀ k, k ≤ m → zcnt (fun v => decide (∃ i, i < k ∧ o i = v)) m = k := by
    intro k
    induction k with
    | zero => exact fun _ => zcnt_z fun v _ => decide_eq_false (fun ⟨i, h1, _⟩ => absurd h1 (by omega))
    | succ k ih =>
      intro hk
      have e : zcnt (fun v => decide (∃ i, i < k + 1 ∧ o i = v)) m = zcnt (fun v => (fun v => decide (∃ i, i < k ∧ o i = v)) v || decide (v = o k)) m := zcnt_ext fun v _ => by
        rw [Bool.eq_iff_iff]
        simp only [Bool.or_eq_true, decide_eq_true_eq]
        constructor
        · rintro ⟨i, h1, h2⟩
          by_cases w : i = k
          · subst w; exact Or.inr h2.symm
          · exact Or.inl ⟨i, by omega, h2⟩
        · rintro (⟨i, h1, h2⟩ | h2)
          · exact ⟨i, by omega, h2⟩
          · exact ⟨k, by omega, h2.symm⟩
      rw [e, zcnt_ins (W := fun v => decide (∃ i, i < k ∧ o i = v)) (decide_eq_false (fun ⟨i, h1, h2⟩ => by have := h.2 i k (by omega) (by omega) h2; omega)), ih (by omega), if_pos (h.1 k (by omega))]
  have h1 := key m (Nat.le_refl _)
  cases e : decide (∃ i, i < m ∧ o i = v)
  · have h2 := zcnt_sub1 (s := fun v => decide (∃ i, i < m ∧ o i = v)) (t := fun _ => true) (fun _ _ _ => rfl) hv e rfl
    have h3 := zcnt_le (fun _ => true) m
    omega
  · exact of_decide_eq_true e
/-- ahead of one another, by the first place that differs -/
def zlx (m : Nat) (o p : Nat → Nat) : Prop := ∃ d, d < m ∧ (∀ i, i < d → o i = p i) ∧ o d < p d
theorem zlx_tri (m : Nat) (o p : Nat → Nat) : zlx m o p ∨ (∀ i, i < m → o i = p i) ∨ zlx m p o := by
  induction m with
  | zero => exact Or.inr (Or.inl fun i hi => absurd hi (by omega))
  | succ m ih =>
    rcases ih with ⟨d, h1, h2, h3⟩ | h | ⟨d, h1, h2, h3⟩
    · exact Or.inl ⟨d, by omega, h2, h3⟩
    · rcases Nat.lt_trichotomy (o m) (p m) with w | w | w
      · exact Or.inl ⟨m, by omega, h, w⟩
      · exact Or.inr (Or.inl fun i hi => by
          by_cases e : i = m
          · subst e; exact w
          · exact h i (by omega))
      · exact Or.inr (Or.inr ⟨m, by omega, fun i hi => (h i hi).symm, w⟩)
    · exact Or.inr (Or.inr ⟨d, by omega, h2, h3⟩)
theorem zlx_no {m : Nat} {o p : Nat → Nat} (h : zlx m o p) : ¬ zlx m p o := by
  obtain ⟨d, h1, h2, h3⟩ := h
  rintro ⟨e, k1, k2, k3⟩
  rcases Nat.lt_trichotomy d e with w | w | w
  · have := k2 d w; omega
  · subst w; omega
  · have := h2 e w; omega
theorem zlx_ir {m : Nat} {o p : Nat → Nat} (h : zlx m o p) (e : ∀ i, i < m → o i = p i) : False := by
  obtain ⟨d, h1, h2, h3⟩ := h
  have := e d h1; omega
theorem zlx_tr {m : Nat} {o p q : Nat → Nat} (h : zlx m o p) (k : zlx m p q) : zlx m o q := by
  obtain ⟨d, h1, h2, h3⟩ := h
  obtain ⟨e, k1, k2, k3⟩ := k
  rcases Nat.lt_trichotomy d e with w | w | w
  · exact ⟨d, h1, fun i hi => (h2 i hi).trans (k2 i (by omega)), by have := k2 d w; omega⟩
  · subst w; exact ⟨d, h1, fun i hi => (h2 i hi).trans (k2 i hi), by omega⟩
  · exact ⟨e, k1, fun i hi => (h2 i (by omega)).trans (k2 i hi), by have := h2 e w; omega⟩
theorem zlx_ext {m : Nat} {o p o' p' : Nat → Nat} (ho : ∀ i, i < m → o i = o' i) (hp : ∀ i, i < m → p i = p' i) (h : zlx m o p) : zlx m o' p' := by
  obtain ⟨d, h1, h2, h3⟩ := h
  exact ⟨d, h1, fun i hi => by rw [← ho i (by omega), ← hp i (by omega)]; exact h2 i hi, by rw [← ho d h1, ← hp d h1]; exact h3⟩
/-- an order as a number -/
def zcd (o : Nat → Nat) : Nat → Nat
  | 0 => 0
  | k + 1 => 8 * zcd o k + o k
theorem zcd_lt {o : Nat → Nat} (m : Nat) (h : ∀ i, i < m → o i < 8) : zcd o m < 8 ^ m := by
  induction m with
  | zero => exact Nat.one_pos
  | succ m ih =>
    have h1 := ih (fun i hi => h i (by omega))
    have h2 := h m (by omega)
    rw [Nat.pow_succ]
    show 8 * zcd o m + o m < 8 ^ m * 8
    omega
theorem zcd_eq {o p : Nat → Nat} (m : Nat) (h : ∀ i, i < m → o i = p i) : zcd o m = zcd p m := by
  induction m with
  | zero => rfl
  | succ m ih =>
    show 8 * zcd o m + o m = 8 * zcd p m + p m
    rw [ih (fun i hi => h i (by omega)), h m (by omega)]
theorem zcd_lx {o p : Nat → Nat} {m : Nat} (ho : ∀ i, i < m → o i < 8) (hp : ∀ i, i < m → p i < 8) (h : zlx m o p) : zcd o m < zcd p m := by
  obtain ⟨d, h1, h2, h3⟩ := h
  have key : ∀ k, d + 1 + k ≤ m → zcd o (d + 1 + k) < zcd p (d + 1 + k) := by
    intro k
    induction k with
    | zero =>
      intro _
      show 8 * zcd o d + o d < 8 * zcd p d + p d
      rw [zcd_eq d h2]; omega
    | succ k ih =>
      intro hk
      have := ih (by omega)
      have h4 := ho (d + 1 + k) (by omega)
      show 8 * zcd o (d + 1 + k) + o (d + 1 + k) < 8 * zcd p (d + 1 + k) + p (d + 1 + k)
      omega
  have := key (m - (d + 1)) (by omega)
  rw [show d + 1 + (m - (d + 1)) = m by omega] at this
  exact this
/-- two exchanged, and what is behind the first turned round -/
def zsx2 (o : Nat → Nat) (i j x : Nat) : Nat := if x = i then o j else if x = j then o i else o x
def zrev2 (m : Nat) (o : Nat → Nat) (i j k : Nat) : Nat := if k ≤ i then zsx2 o i j k else zsx2 o i j (m + i - k)
/-- what the next order is made at -/
def znx (m : Nat) (o : Nat → Nat) (i j : Nat) : Prop := i < j ∧ j < m ∧ o i < o j ∧ (∀ k, i < k → k + 1 < m → o (k + 1) < o k) ∧ ∀ k, j < k → k < m → o k < o i
theorem zsx2_in {m i j : Nat} {o : Nat → Nat} (h : zPm m o) (hi : i < m) (hj : j < m) : zPm m (zsx2 o i j) := by
  constructor
  · intro x hx
    unfold zsx2
    split
    · exact h.1 j hj
    · split
      · exact h.1 i hi
      · exact h.1 x hx
  · intro x y hx hy e
    unfold zsx2 at e
    by_cases x1 : x = i
    · rw [if_pos x1] at e
      by_cases y1 : y = i
      · omega
      · rw [if_neg y1] at e
        by_cases y2 : y = j
        · rw [if_pos y2] at e
          have := h.2 j i hj hi e; omega
        · rw [if_neg y2] at e
          have := h.2 j y hj hy e; omega
    · rw [if_neg x1] at e
      by_cases x2 : x = j
      · rw [if_pos x2] at e
        by_cases y1 : y = i
        · rw [if_pos y1] at e
          have := h.2 i j hi hj e; omega
        · rw [if_neg y1] at e
          by_cases y2 : y = j
          · omega
          · rw [if_neg y2] at e
            have := h.2 i y hi hy e; omega
      · rw [if_neg x2] at e
        by_cases y1 : y = i
        · rw [if_pos y1] at e
          have := h.2 x j hx hj e; omega
        · rw [if_neg y1] at e
          by_cases y2 : y = j
          · rw [if_pos y2] at e
            have := h.2 x i hx hi e; omega
          · rw [if_neg y2] at e
            exact h.2 x y hx hy e
theorem zrev2_in {m i j : Nat} {o : Nat → Nat} (h : zPm m o) (hi : i < m) (hj : j < m) : zPm m (zrev2 m o i j) := by
  have hs := zsx2_in h hi hj
  constructor
  · intro x hx
    unfold zrev2
    split
    · exact hs.1 x hx
    · exact hs.1 _ (by omega)
  · intro x y hx hy e
    unfold zrev2 at e
    by_cases x1 : x ≤ i <;> by_cases y1 : y ≤ i
    · rw [if_pos x1, if_pos y1] at e; exact hs.2 x y hx hy e
    · rw [if_pos x1, if_neg y1] at e; have := hs.2 _ _ hx (by omega) e; omega
    · rw [if_neg x1, if_pos y1] at e; have := hs.2 _ _ (by omega) hy e; omega
    · rw [if_neg x1, if_neg y1] at e; have := hs.2 _ _ (by omega) (by omega) e; omega
theorem zrev2_lx {m i j : Nat} {o : Nat → Nat} (h : znx m o i j) : zlx m o (zrev2 m o i j) := by
  obtain ⟨h1, h2, h3, -, -⟩ := h
  refine ⟨i, by omega, fun k hk => ?_, ?_⟩
  · unfold zrev2 zsx2
    rw [if_pos (by omega), if_neg (by omega), if_neg (by omega)]
  · unfold zrev2 zsx2
    rw [if_pos (Nat.le_refl _), if_pos rfl]
    exact h3
theorem zds {m i : Nat} {o : Nat → Nat} (h : ∀ k, i < k → k + 1 < m → o (k + 1) < o k) {a b : Nat} (ha : i < a) (hab : a ≤ b) (hb : b < m) : o b ≤ o a := by
  obtain ⟨d, rfl⟩ : ∃ d, b = a + d := ⟨b - a, by omega⟩
  induction d with
  | zero => exact Nat.le_refl _
  | succ d ih =>
    have h1 := ih (by omega) (by omega)
    have h2 := h (a + d) (by omega) (by omega)
    rw [show a + d + 1 = a + (d + 1) by omega] at h2
    omega
/-- what is behind an order is behind the next one, or it -/
theorem zrev2_nx {m i j : Nat} {o p : Nat → Nat} (ho : zPm m o) (hp : zPm m p) (h : znx m o i j) (hop : zlx m o p) : (∀ k, k < m → p k = zrev2 m o i j k) ∨ zlx m (zrev2 m o i j) p := by
  have hz := h
  obtain ⟨h1, h2, h3, h4, h5⟩ := h
  have hr := zrev2_in ho (show i < m by omega) h2
  obtain ⟨d, d1, d2, d3⟩ := hop
  have hbe : ∀ (q : Nat → Nat), zPm m q → ∀ d, d < m → (∀ k, k < d → q k = p k) → ∃ e, d ≤ e ∧ e < m ∧ p d = q e := fun q hq d hd hqp => by
    obtain ⟨e, e1, e2⟩ := zPm_sur hq (hp.1 d hd)
    refine ⟨e, ?_, e1, e2.symm⟩
    rcases Nat.lt_or_ge e d with w | w
    · have := hqp e w
      have := hp.2 e d e1 hd (by omega)
      omega
    · exact w
  rcases Nat.lt_trichotomy d i with w | w | w
  · refine Or.inr ⟨d, d1, fun k hk => ?_, ?_⟩
    · unfold zrev2 zsx2
      rw [if_pos (by omega), if_neg (by omega), if_neg (by omega)]
      exact d2 k hk
    · unfold zrev2 zsx2
      rw [if_pos (by omega), if_neg (by omega), if_neg (by omega)]
      exact d3
  · subst w
    obtain ⟨e, e1, e2, e3⟩ := hbe o ho d d1 d2
    have e4 : d < e := by
      rcases Nat.lt_or_ge d e with w | w
      · exact w
      · have : e = d := by omega
        subst this; omega
    have e5 : e ≤ j := by
      rcases Nat.lt_or_ge j e with w | w
      · have := h5 e w e2; omega
      · exact w
    have e6 := zds h4 e4 e5 h2
    have hpre : ∀ k, k < d → zrev2 m o d j k = p k := fun k hk => by
      unfold zrev2 zsx2
      rw [if_pos (by omega), if_neg (by omega), if_neg (by omega)]
      exact d2 k hk
    have hat : zrev2 m o d j d = o j := by
      unfold zrev2 zsx2
      rw [if_pos (Nat.le_refl _), if_pos rfl]
    rcases Nat.lt_or_ge (o j) (o e) with w | w
    · exact Or.inr ⟨d, d1, hpre, by rw [hat]; omega⟩
    · have hst : ∀ k, d < k → k + 1 < m → zrev2 m o d j k < zrev2 m o d j (k + 1) := fun k k1 k2 => by
        unfold zrev2
        rw [if_neg (by omega), if_neg (by omega)]
        obtain ⟨x, hx, hx1, hx2⟩ : ∃ x, m + d - (k + 1) = x ∧ d < x ∧ m + d - k = x + 1 := ⟨_, rfl, by omega, by omega⟩
        rw [hx, hx2]
        have hxm : x + 1 < m := by omega
        unfold zsx2
        rw [if_neg (show ¬ x + 1 = d by omega), if_neg (show ¬ x = d by omega)]
        by_cases w1 : x + 1 = j
        · rw [if_pos w1, if_neg (show ¬ x = j by omega)]
          have h6 := h4 x hx1 hxm
          rw [w1] at h6
          omega
        · rw [if_neg w1]
          by_cases w2 : x = j
          · rw [if_pos w2]
            have := h5 (x + 1) (by omega) hxm
            omega
          · rw [if_neg w2]
            exact h4 x hx1 hxm
      have hup : ∀ a b, d < a → a < b → b < m → zrev2 m o d j a < zrev2 m o d j b := fun a b ha hab hb => by
        obtain ⟨c, rfl⟩ : ∃ c, b = a + 1 + c := ⟨b - a - 1, by omega⟩
        clear hab
        induction c with
        | zero => exact hst a ha (by omega)
        | succ c ih =>
          have i1 := ih (by omega)
          have i2 := hst (a + 1 + c) (by omega) (by omega)
          rw [show a + 1 + c + 1 = a + 1 + (c + 1) by omega] at i2
          omega
      rcases zlx_tri m (zrev2 m o d j) p with w1 | w1 | w1
      · exact Or.inr w1
      · exact Or.inl fun k hk => (w1 k hk).symm
      · obtain ⟨f, f1, f2, f3⟩ := w1
        have f4 : d < f := by
          rcases Nat.lt_trichotomy d f with w2 | w2 | w2
          · exact w2
          · subst w2; rw [hat] at f3; omega
          · have := hpre f w2; omega
        obtain ⟨g, g1, g2, g3⟩ := hbe (zrev2 m o d j) hr f f1 (fun k hk => (f2 k hk).symm)
        rcases Nat.lt_or_ge f g with w2 | w2
        · have := hup f g f4 w2 g2; omega
        · have : g = f := by omega
          subst this; omega
  · obtain ⟨e, e1, e2, e3⟩ := hbe o ho d d1 d2
    have := zds h4 w e1 e2
    omega
/-- an order that goes down all along is the last one -/
theorem zlx_last {m : Nat} {o p : Nat → Nat} (ho : zPm m o) (hp : zPm m p) (h : ∀ k, k + 1 < m → o (k + 1) < o k) : ¬ zlx m o p := by
  rintro ⟨d, d1, d2, d3⟩
  obtain ⟨e, e1, e2⟩ := zPm_sur ho (hp.1 d d1)
  have e3 : d ≤ e := by
    rcases Nat.lt_or_ge e d with w | w
    · have := d2 e w
      have := hp.2 e d e1 d1 (by omega)
      omega
    · exact w
  have h2 : ∀ c, d + c < m → o (d + c) ≤ o d := by
    intro c
    induction c with
    | zero => exact fun _ => Nat.le_refl _
    | succ c ih =>
      intro hc
      have i1 := ih (by omega)
      have i2 := h (d + c) (by omega)
      rw [show d + c + 1 = d + (c + 1) by omega] at i2
      omega
  have h3 := h2 (e - d) (by omega)
  rw [show d + (e - d) = e by omega] at h3
  omega
/-- none is ahead of the first one -/
theorem zlx_id {m : Nat} {p : Nat → Nat} (hp : zPm m p) : ¬ zlx m p (fun i => i) := by
  rintro ⟨d, d1, d2, d3⟩
  have d4 : p d < d := d3
  have h1 : p (p d) = p d := d2 (p d) d4
  have h2 := hp.2 (p d) d (by omega) d1 h1
  omega

/-! ===== boxes in a line: sums over gaps, the least of them ===== -/
/-- boxes cut off: what goes over from a set of boxes -/
def zcu (m : Nat) (w : Nat → Nat → Nat) (s : Nat → Bool) : Nat := zsum (fun x => zsum (fun y => if s x = true ∧ s y = false then w x y else 0) m) m
/-- the first k of an order, as a set -/
def zpf (o : Nat → Nat) (k x : Nat) : Bool := decide (∃ i, i < k ∧ o i = x)
theorem zpf_su (o : Nat → Nat) (k x : Nat) : zpf o (k + 1) x = (zpf o k x || decide (x = o k)) := by
  unfold zpf
  rw [Bool.eq_iff_iff]
  simp only [Bool.or_eq_true, decide_eq_true_eq]
  constructor
  · rintro ⟨i, h1, h2⟩
    by_cases e : i = k
    · subst e; exact Or.inr h2.symm
    · exact Or.inl ⟨i, by omega, h2⟩
  · rintro (⟨i, h1, h2⟩ | h)
    · exact ⟨i, by omega, h2⟩
    · exact ⟨k, by omega, h.symm⟩
theorem zpf_at {m : Nat} {o : Nat → Nat} (h : zPm m o) {k i : Nat} (hk : k ≤ m) (hi : i < m) : zpf o k (o i) = decide (i < k) := by
  unfold zpf
  refine decide_eq_decide.mpr ⟨fun ⟨j, h1, h2⟩ => ?_, fun h1 => ⟨i, h1, rfl⟩⟩
  have := h.2 j i (by omega) hi h2
  omega
theorem zcu_ext {m : Nat} {w : Nat → Nat → Nat} {s t : Nat → Bool} (h : ∀ x, x < m → s x = t x) : zcu m w s = zcu m w t := zsum_ext fun x hx => zsum_ext fun y hy => by rw [h x hx, h y hy]
theorem zsum_pm {m : Nat} {o : Nat → Nat} (h : zPm m o) (F : Nat → Nat) : zsum (fun i => F (o i)) m = zsum F m := zsum_enum h.1 (fun i j hij hj e => by have := h.2 i j (by omega) hj e; omega) (fun k hk hn => by
  obtain ⟨i, h1, h2⟩ := zPm_sur h hk
  exact absurd h2 (hn i h1))
theorem zcu_pf {m : Nat} {o : Nat → Nat} (h : zPm m o) (w : Nat → Nat → Nat) {k : Nat} (hk : k ≤ m) : zcu m w (zpf o k) = zsum (fun i => zsum (fun j => if i < k ∧ k ≤ j then w (o i) (o j) else 0) m) m := by
  unfold zcu
  rw [← zsum_pm h (fun x => zsum (fun y => if zpf o k x = true ∧ zpf o k y = false then w x y else 0) m)]
  refine zsum_ext fun i hi => ?_
  show zsum (fun y => if zpf o k (o i) = true ∧ zpf o k y = false then w (o i) y else 0) m = _
  rw [← zsum_pm h (fun y => if zpf o k (o i) = true ∧ zpf o k y = false then w (o i) y else 0)]
  refine zsum_ext fun j hj => ?_
  show (if zpf o k (o i) = true ∧ zpf o k (o j) = false then w (o i) (o j) else 0) = _
  rw [zpf_at h hk hi, zpf_at h hk hj]
  by_cases e : i < k ∧ k ≤ j
  · rw [if_pos e, if_pos ⟨decide_eq_true e.1, decide_eq_false (by omega)⟩]
  · rw [if_neg e, if_neg (fun z => e ⟨of_decide_eq_true z.1, by have := of_decide_eq_false z.2; omega⟩)]
/-- the sum of a line -/
def zst2 (m : Nat) (w : Nat → Nat → Nat) (o : Nat → Nat) : Nat := zsum (fun i => zsum (fun j => if i < j then (j - i) * w (o i) (o j) else 0) m) m
/-- the gaps behind the first k -/
def zgp (m : Nat) (w : Nat → Nat → Nat) (o : Nat → Nat) (k : Nat) : Nat := zsum (fun d => zcu m w (zpf o (k + 1 + d))) (m - k)
theorem zgp_su {m : Nat} {w : Nat → Nat → Nat} {o : Nat → Nat} {k : Nat} (hk : k < m) : zgp m w o k = zcu m w (zpf o (k + 1)) + zgp m w o (k + 1) := by
  unfold zgp
  rw [show m - k = 1 + (m - (k + 1)) by omega, zsum_app]
  have e : zsum (fun d => zcu m w (zpf o (k + 1 + d))) 1 = zcu m w (zpf o (k + 1)) := by
    show 0 + zcu m w (zpf o (k + 1 + 0)) = _
    rw [Nat.zero_add]
  rw [e]
  congr 1
  exact zsum_ext fun d _ => by rw [show k + 1 + (1 + d) = k + 1 + 1 + d by omega]
theorem zgp_end (m : Nat) (w : Nat → Nat → Nat) (o : Nat → Nat) : zgp m w o m = 0 := by unfold zgp; rw [Nat.sub_self]; rfl
theorem zcnt_rng {i j m : Nat} (hj : j ≤ m) : zcnt (fun l => decide (i ≤ l ∧ l < j)) m = j - i := by
  induction m with
  | zero => show 0 = j - i; omega
  | succ m ih =>
    rw [zcnt_su]
    by_cases e : j ≤ m
    · rw [ih e, if_neg (by rw [decide_eq_true_eq]; omega)]; rfl
    · have h1 : j = m + 1 := by omega
      have h2 : zcnt (fun l => decide (i ≤ l ∧ l < j)) m = m - i := by
        clear ih
        subst h1
        have : ∀ k, k ≤ m → zcnt (fun l => decide (i ≤ l ∧ l < m + 1)) k = k - i := by
          intro k
          induction k with
          | zero => intro _; show 0 = 0 - i; omega
          | succ k ih =>
            intro hk
            rw [zcnt_su, ih (by omega)]
            by_cases w : i ≤ k
            · rw [if_pos (by rw [decide_eq_true_eq]; omega)]; omega
            · rw [if_neg (by rw [decide_eq_true_eq]; omega)]; omega
        exact this m (Nat.le_refl _)
      rw [h2]
      by_cases w : i ≤ m
      · rw [if_pos (by rw [decide_eq_true_eq]; omega)]; omega
      · rw [if_neg (by rw [decide_eq_true_eq]; omega)]; omega
theorem zst2_gp {m : Nat} {o : Nat → Nat} (h : zPm m o) (w : Nat → Nat → Nat) : zst2 m w o = zgp m w o 0 := by
  unfold zgp
  rw [Nat.sub_zero]
  have e1 : zsum (fun d => zcu m w (zpf o (0 + 1 + d))) m = zsum (fun d => zsum (fun i => zsum (fun j => if i < d + 1 ∧ d + 1 ≤ j then w (o i) (o j) else 0) m) m) m := zsum_ext fun d hd => by rw [zcu_pf h w (by omega), show 0 + 1 + d = d + 1 by omega]
  rw [e1, zsum_swap]
  refine zsum_ext fun i hi => ?_
  rw [zsum_swap]
  refine zsum_ext fun j hj => ?_
  have e2 : zsum (fun d => if i < d + 1 ∧ d + 1 ≤ j then w (o i) (o j) else 0) m = zsum (fun d => if (fun l => decide (i ≤ l ∧ l < j)) d = true then w (o i) (o j) else 0) m := zsum_ext fun d _ => by
    by_cases e : i < d + 1 ∧ d + 1 ≤ j
    · rw [if_pos e, if_pos (by rw [decide_eq_true_eq]; omega)]
    · rw [if_neg e, if_neg (by rw [decide_eq_true_eq]; omega)]
  rw [e2, zsum_ite, zcnt_rng (by omega), Nat.mul_comm]
  by_cases e : i < j
  · rw [if_pos e]
  · rw [if_neg e, show j - i = 0 by omega, Nat.mul_zero]
/-- what the least over the gaps behind a set keeps to -/
def zBh (m : Nat) (w : Nat → Nat → Nat) (B : (Nat → Bool) → Nat) : Prop := (∀ s, (∀ x, x < m → s x = true) → B s = 0) ∧ (∀ s t, (∀ x, x < m → s x = t x) → B s = B t) ∧
  ∀ s b, b < m → s b = false → B s ≤ zcu m w (fun x => s x || decide (x = b)) + B (fun x => s x || decide (x = b))
theorem zBh_le {m : Nat} {w : Nat → Nat → Nat} {B : (Nat → Bool) → Nat} (hB : zBh m w B) {o : Nat → Nat} (h : zPm m o) (k : Nat) (hk : k ≤ m) : B (zpf o k) ≤ zgp m w o k := by
  obtain ⟨d, hd⟩ : ∃ d, m - k = d := ⟨_, rfl⟩
  induction d generalizing k with
  | zero =>
    have : k = m := by omega
    subst this
    rw [hB.1 _ (fun x hx => by
      obtain ⟨i, h1, h2⟩ := zPm_sur h hx
      exact decide_eq_true ⟨i, h1, h2⟩)]
    exact Nat.zero_le _
  | succ d ih =>
    have h1 := ih (k + 1) (by omega) (by omega)
    have h2 := hB.2.2 (zpf o k) (o k) (h.1 k (by omega)) (by rw [zpf_at h hk (by omega)]; exact decide_eq_false (by omega))
    have e : (fun x => zpf o k x || decide (x = o k)) = zpf o (k + 1) := funext fun x => (zpf_su o k x).symm
    rw [e] at h2
    rw [zgp_su (by omega)]
    omega
/-- a line that takes the least box that is as good, always -/
def zgr (m : Nat) (w : Nat → Nat → Nat) (B : (Nat → Bool) → Nat) (g : Nat → Nat) (K : Nat) : Prop := ∀ k, k < K → g k < m ∧ zpf g k (g k) = false ∧ zcu m w (zpf g (k + 1)) + B (zpf g (k + 1)) = B (zpf g k) ∧ ∀ b, b < g k → zpf g k b = false → zcu m w (fun x => zpf g k x || decide (x = b)) + B (fun x => zpf g k x || decide (x = b)) ≠ B (zpf g k)
theorem zgr_pm {m : Nat} {w : Nat → Nat → Nat} {B : (Nat → Bool) → Nat} {g : Nat → Nat} (h : zgr m w B g m) : zPm m g := by
  refine ⟨fun i hi => (h i hi).1, ?_⟩
  have key : ∀ i j, i < j → j < m → g i ≠ g j := fun i j hij hj e => by
    have h1 := (h j hj).2.1
    rw [← e] at h1
    have h2 := of_decide_eq_false h1
    exact h2 ⟨i, hij, rfl⟩
  intro i j hi hj e
  rcases Nat.lt_trichotomy i j with q | q | q
  · exact absurd e (key i j q hj)
  · exact q
  · exact absurd e.symm (key j i q hi)
theorem zgr_st {m : Nat} {w : Nat → Nat → Nat} {B : (Nat → Bool) → Nat} (hB : zBh m w B) {g : Nat → Nat} (h : zgr m w B g m) (k : Nat) (hk : k ≤ m) : zgp m w g k = B (zpf g k) := by
  obtain ⟨d, hd⟩ : ∃ d, m - k = d := ⟨_, rfl⟩
  induction d generalizing k with
  | zero =>
    have : k = m := by omega
    subst this
    rw [zgp_end, hB.1 _ (fun x hx => by
      obtain ⟨i, h1, h2⟩ := zPm_sur (zgr_pm h) hx
      exact decide_eq_true ⟨i, h1, h2⟩)]
  | succ d ih =>
    have h1 := ih (k + 1) (by omega) (by omega)
    have h2 := (h k (by omega)).2.2.1
    rw [zgp_su (by omega), h1, h2]
/-- it is the least, and the first of the least -/
theorem zgr_first {m : Nat} {w : Nat → Nat → Nat} {B : (Nat → Bool) → Nat} (hB : zBh m w B) {g p : Nat → Nat} (h : zgr m w B g m) (hp : zPm m p) : zst2 m w g ≤ zst2 m w p ∧ (zst2 m w p = zst2 m w g → ¬ zlx m p g) := by
  have hg := zgr_pm h
  have e0 : ∀ o : Nat → Nat, zpf o 0 = fun _ => false := fun o => funext fun x => decide_eq_false (fun ⟨i, h1, _⟩ => absurd h1 (by omega))
  have e1 := zgr_st hB h 0 (by omega)
  have e2 := zBh_le hB hp 0 (by omega)
  rw [e0] at e1 e2
  rw [zst2_gp hg, zst2_gp hp]
  refine ⟨by omega, fun heq => ?_⟩
  rintro ⟨d, d1, d2, d3⟩
  have hpre : ∀ k, k ≤ d → zpf p k = zpf g k := fun k hk => funext fun x => decide_eq_decide.mpr ⟨fun ⟨i, h1, h2⟩ => ⟨i, h1, by rw [← d2 i (by omega)]; exact h2⟩, fun ⟨i, h1, h2⟩ => ⟨i, h1, by rw [d2 i (by omega)]; exact h2⟩⟩
  have hk : ∀ k, k ≤ d → zgp m w p k = B (zpf p k) := by
    intro k
    induction k with
    | zero => intro _; rw [e0]; omega
    | succ k ih =>
      intro hk
      have i1 := ih (by omega)
      rw [zgp_su (by omega)] at i1
      have i2 := hB.2.2 (zpf p k) (p k) (hp.1 k (by omega)) (by rw [zpf_at hp (by omega) (by omega)]; exact decide_eq_false (by omega))
      rw [show (fun x => zpf p k x || decide (x = p k)) = zpf p (k + 1) from funext fun x => (zpf_su p k x).symm] at i2
      have i3 := zBh_le hB hp (k + 1) (by omega)
      omega
  have h3 := hk d (Nat.le_refl _)
  rw [zgp_su d1] at h3
  have h4 := zBh_le hB hp (d + 1) (by omega)
  have h5 := hB.2.2 (zpf p d) (p d) (hp.1 d d1) (by rw [zpf_at hp (by omega) d1]; exact decide_eq_false (by omega))
  have h6 := (h d d1).2.2.2 (p d) d3 (by rw [← hpre d (Nat.le_refl _), zpf_at hp (by omega) d1]; exact decide_eq_false (by omega))
  rw [← hpre d (Nat.le_refl _)] at h6
  rw [show (fun x => zpf p d x || decide (x = p d)) = zpf p (d + 1) from funext fun x => (zpf_su p d x).symm] at h5 h6
  omega
