/-! ===== partings by the rule: the search as a function ===== -/
/-- two boxes joined -/
def zjc (g : Nat → Nat) (i j : Nat) : Nat → Nat := fun q => if g q = j then i else g q
def zJst (n : Nat) (T : Nat → Nat → Bool) (g : Nat → Nat) (i j : Nat) (s : Nat × Nat × Nat) : Nat × Nat × Nat := if zLgt n T (zjc g i j) < s.1 then (zLgt n T (zjc g i j), i, j) else s
def zJin (n : Nat) (T : Nat → Nat → Bool) (g : Nat → Nat) (i : Nat) (s : Nat × Nat × Nat) : Nat → Nat × Nat × Nat
  | 0 => s
  | k + 1 => zJst n T g i (i + 1 + k) (zJin n T g i s k)
def zJout (n : Nat) (T : Nat → Nat → Bool) (g : Nat → Nat) (m : Nat) (s : Nat × Nat × Nat) : Nat → Nat × Nat × Nat
  | 0 => s
  | i + 1 => zJin n T g i (zJout n T g m s i) (m - (i + 1))
/-- the best two to join: its length, and they -/
def zJb (n : Nat) (T : Nat → Nat → Bool) (g : Nat → Nat) (cur : Nat) : Nat × Nat × Nat := zJout n T g (zcmx n g) (cur, 0, 0) (zcmx n g)
theorem zJin_su (n : Nat) (T : Nat → Nat → Bool) (g : Nat → Nat) (i : Nat) (s : Nat × Nat × Nat) (k : Nat) : zJin n T g i s (k + 1) = zJst n T g i (i + 1 + k) (zJin n T g i s k) := rfl
theorem zJout_su (n : Nat) (T : Nat → Nat → Bool) (g : Nat → Nat) (m : Nat) (s : Nat × Nat × Nat) (i : Nat) : zJout n T g m s (i + 1) = zJin n T g i (zJout n T g m s i) (m - (i + 1)) := rfl
/-- what holds of the best so far -/
def zJok (m cur : Nat) (s : Nat × Nat × Nat) : Prop := s.1 ≤ cur ∧ (s.1 < cur → s.2.1 < s.2.2 ∧ s.2.2 < m)
theorem zJst_ok {n m cur i j : Nat} {T : Nat → Nat → Bool} {g : Nat → Nat} {s : Nat × Nat × Nat} (h : zJok m cur s) (hij : i < j) (hj : j < m) : zJok m cur (zJst n T g i j s) := by
  unfold zJst
  split
  next w => exact ⟨by have := h.1; show zLgt n T (zjc g i j) ≤ cur; omega, fun _ => ⟨hij, hj⟩⟩
  next => exact h
theorem zJin_ok {n m cur i : Nat} {T : Nat → Nat → Bool} {g : Nat → Nat} {s : Nat × Nat × Nat} (h : zJok m cur s) : ∀ k, i + 1 + k ≤ m → zJok m cur (zJin n T g i s k) := by
  intro k
  induction k with
  | zero => intro _; exact h
  | succ k ih => intro hk; exact zJst_ok (ih (by omega)) (by omega) (by omega)
theorem zJout_ok {n m cur : Nat} {T : Nat → Nat → Bool} {g : Nat → Nat} {s : Nat × Nat × Nat} (h : zJok m cur s) : ∀ i, i ≤ m → zJok m cur (zJout n T g m s i) := by
  intro i
  induction i with
  | zero => intro _; exact h
  | succ i ih => intro hi; exact zJin_ok (ih (by omega)) _ (by omega)
theorem zJb_ok (n : Nat) (T : Nat → Nat → Bool) (g : Nat → Nat) (cur : Nat) : zJok (zcmx n g) cur (zJb n T g cur) := zJout_ok ⟨Nat.le_refl _, fun h => absurd h (Nat.lt_irrefl _)⟩ _ (Nat.le_refl _)
def zJ1 (n : Nat) (T : Nat → Nat → Bool) (x : (Nat → Nat) × Nat) : (Nat → Nat) × Nat := if (zJb n T x.1 x.2).1 < x.2 then (zcg n (zjc x.1 (zJb n T x.1 x.2).2.1 (zJb n T x.1 x.2).2.2), (zJb n T x.1 x.2).1) else x
/-- behind k joins -/
def zJs (n : Nat) (T : Nat → Nat → Bool) : Nat → (Nat → Nat) × Nat
  | 0 => (zcg n (fun q => q), zLgt n T (fun q => q))
  | k + 1 => zJ1 n T (zJs n T k)
theorem zJs_su (n : Nat) (T : Nat → Nat → Bool) (k : Nat) : zJs n T (k + 1) = zJ1 n T (zJs n T k) := rfl
theorem zjc_few {n i j : Nat} {g : Nat → Nat} (hij : i < j) (hi : ∃ p, p < n ∧ g p = i) (hj : ∃ p, p < n ∧ g p = j) : zcnt (zNew (zjc g i j)) n < zcnt (zNew g) n := by
  obtain ⟨p, p1, p2⟩ := hi
  obtain ⟨q, q1, q2⟩ := hj
  have w1 : zfl g i n < n := by
    rcases Nat.lt_or_ge (zfl g i n) n with w | w
    · exact w
    · exact absurd p2 (zfl_no (k := n) (by omega))
  have w2 : zfl g j n < n := by
    rcases Nat.lt_or_ge (zfl g j n) n with w | w
    · exact w
    · exact absurd q2 (zfl_no (k := n) (by omega))
  have v1 := zfl_at w1
  have v2 := zfl_at w2
  have n1 := zNew_at w1
  have n2 := zNew_at w2
  have hne : zfl g i n ≠ zfl g j n := fun z => by rw [z, v2] at v1; omega
  have hsame : ∀ a b, g a = g b → zjc g i j a = zjc g i j b := fun a b h => by unfold zjc; rw [h]
  have hold : ∀ a b, a < b → zjc g i j a = zjc g i j b → zNew (zjc g i j) b = false := fun a b hab h => by
    unfold zNew
    refine decide_eq_false (fun z => ?_)
    exact absurd h (zfl_no (k := b) (by omega))
  refine zcnt_sub1 (i := if zfl g i n < zfl g j n then zfl g j n else zfl g i n) (fun a _ ha => ?_) (by split <;> omega) ?_ (by split; exact n2; exact n1)
  · cases e : zNew g a
    · have : zfl g (g a) a < a := by
        have := zfl_le g (g a) a
        have h2 : ¬ zfl g (g a) a = a := of_decide_eq_false e
        omega
      rw [hold _ a this (hsame _ _ (zfl_at this))] at ha
      cases ha
    · rfl
  · have hv : zjc g i j (zfl g i n) = i ∧ zjc g i j (zfl g j n) = i := by
      unfold zjc
      rw [v1, v2, if_neg (by omega), if_pos rfl]
      exact ⟨rfl, rfl⟩
    split
    next z => exact hold _ _ z (hv.1.trans hv.2.symm)
    next z => exact hold _ _ (show zfl g j n < zfl g i n by omega) (hv.2.trans hv.1.symm)
theorem zJs_g {n : Nat} (hn : 0 < n) (T : Nat → Nat → Bool) (k : Nat) : ∃ f, (zJs n T k).1 = zcg n f ∧ (zJs n T k).2 = zLgt n T f := by
  induction k with
  | zero => exact ⟨_, rfl, rfl⟩
  | succ k ih =>
    rw [zJs_su]
    unfold zJ1
    split
    next h =>
      refine ⟨_, rfl, ?_⟩
      have key : ∀ (m : Nat) (s : Nat × Nat × Nat) (g : Nat → Nat) (cur : Nat), (s.1 < cur → s.1 = zLgt n T (zjc g s.2.1 s.2.2)) → ∀ i, ((zJout n T g m s i).1 < cur → (zJout n T g m s i).1 = zLgt n T (zjc g (zJout n T g m s i).2.1 (zJout n T g m s i).2.2)) := by
        intro m s g cur hs i
        have hin : ∀ (s : Nat × Nat × Nat) (i k : Nat), (s.1 < cur → s.1 = zLgt n T (zjc g s.2.1 s.2.2)) → ((zJin n T g i s k).1 < cur → (zJin n T g i s k).1 = zLgt n T (zjc g (zJin n T g i s k).2.1 (zJin n T g i s k).2.2)) := by
          intro s i k hs
          induction k with
          | zero => exact hs
          | succ k ih =>
            rw [zJin_su]
            unfold zJst
            split
            · exact fun _ => rfl
            · exact ih
        induction i with
        | zero => exact hs
        | succ i ih => rw [zJout_su]; exact hin _ _ _ ih
      exact key _ _ _ _ (fun h => absurd h (Nat.lt_irrefl _)) _ h
    next => exact ih
theorem zJs_fx {n : Nat} {T : Nat → Nat → Bool} {k : Nat} (h : ¬ (zJb n T (zJs n T k).1 (zJs n T k).2).1 < (zJs n T k).2) (j : Nat) : zJs n T (k + j) = zJs n T k := by
  induction j with
  | zero => rfl
  | succ j ih => rw [← Nat.add_assoc, zJs_su, ih]; unfold zJ1; rw [if_neg h]
/-- as long as there are joins, there are fewer boxes -/
theorem zJs_few {n : Nat} (hn : 0 < n) (T : Nat → Nat → Bool) (k : Nat) : (∃ j, j < k ∧ ¬ (zJb n T (zJs n T j).1 (zJs n T j).2).1 < (zJs n T j).2) ∨ zcmx n (zJs n T k).1 + k ≤ n := by
  induction k with
  | zero => exact Or.inr (by have := zcm_le n (zJs n T 0).1; omega)
  | succ k ih =>
    rcases ih with ⟨j, h1, h2⟩ | h
    · exact Or.inl ⟨j, by omega, h2⟩
    · by_cases c : (zJb n T (zJs n T k).1 (zJs n T k).2).1 < (zJs n T k).2
      · refine Or.inr ?_
        have hok := (zJb_ok n T (zJs n T k).1 (zJs n T k).2).2 c
        obtain ⟨f, e1, -⟩ := zJs_g hn T k
        have e2 := zcg_id hn f
        rw [← e1] at e2
        have hon : ∀ b, b < zcmx n (zJs n T k).1 → ∃ p, p < n ∧ (zJs n T k).1 p = b := fun b hb => by
          have := zcg_on hb
          rwa [e2.1] at this
        have h3 := zjc_few hok.1 (hon _ (by omega)) (hon _ hok.2)
        rw [zJs_su]
        unfold zJ1
        rw [if_pos c]
        show zcmx n (zcg n _) + (k + 1) ≤ n
        rw [(zcg_id hn _).2, zcm_in]
        rw [zcm_in] at h
        omega
      · exact Or.inl ⟨k, by omega, c⟩
theorem zJs_end {n : Nat} (hn : 0 < n) (hn2 : n ≤ 16) {T : Nat → Nat → Bool} {k : Nat} (h : ¬ (zJb n T (zJs n T k).1 (zJs n T k).2).1 < (zJs n T k).2) : zJs n T k = zJs n T 16 := by
  rcases Nat.lt_or_ge 16 k with w | w
  · rcases zJs_few hn T 16 with ⟨j, h1, h2⟩ | h3
    · have e1 := zJs_fx h2 (16 - j)
      have e2 := zJs_fx h2 (k - j)
      rw [show j + (16 - j) = 16 by omega] at e1
      rw [show j + (k - j) = k by omega] at e2
      rw [e1, e2]
    · have h4 : 0 < zcmx n (zJs n T 16).1 := by
        have := zcg_lt (f := (zJs n T 16).1) hn
        omega
      omega
  · have e1 := zJs_fx h (16 - k)
    rw [show k + (16 - k) = 16 by omega] at e1
    exact e1.symm
/-! a post moved -/
/-- the others' labels, in a line -/
def zot (g : Nat → Nat) (p : Nat) : Nat → Nat := fun q => if q < p then g q else g (q + 1)
/-- the others' numbers -/
def zwi (g : Nat → Nat) (p q : Nat) : Nat := zNum (zot g p) (if q < p then q else q - 1)
def znb (n : Nat) (g : Nat → Nat) (p : Nat) : Nat := zcnt (zNew (zot g p)) (n - 1)
def zmc (g : Nat → Nat) (p c : Nat) : Nat → Nat := fun q => if q = p then c else zwi g p q
/-- the best of the first c boxes: its length, its number and 1 (0: none) -/
def zMb (n : Nat) (T : Nat → Nat → Bool) (g : Nat → Nat) (p cur : Nat) : Nat → Nat × Nat
  | 0 => (cur, 0)
  | c + 1 => if zLgt n T (zmc g p c) < (zMb n T g p cur c).1 then (zLgt n T (zmc g p c), c + 1) else zMb n T g p cur c
theorem zMb_su (n : Nat) (T : Nat → Nat → Bool) (g : Nat → Nat) (p cur c : Nat) : zMb n T g p cur (c + 1) = if zLgt n T (zmc g p c) < (zMb n T g p cur c).1 then (zLgt n T (zmc g p c), c + 1) else zMb n T g p cur c := rfl
def zM1 (n : Nat) (T : Nat → Nat → Bool) (p : Nat) (x : (Nat → Nat) × Nat) : (Nat → Nat) × Nat := if (zMb n T x.1 p x.2 (znb n x.1 p + 1)).2 = 0 then x else (zcg n (zmc x.1 p ((zMb n T x.1 p x.2 (znb n x.1 p + 1)).2 - 1)), (zMb n T x.1 p x.2 (znb n x.1 p + 1)).1)
/-- the posts moved one by one -/
def zMr (n : Nat) (T : Nat → Nat → Bool) (x : (Nat → Nat) × Nat) : Nat → (Nat → Nat) × Nat
  | 0 => x
  | p + 1 => zM1 n T p (zMr n T x p)
theorem zMr_su (n : Nat) (T : Nat → Nat → Bool) (x : (Nat → Nat) × Nat) (p : Nat) : zMr n T x (p + 1) = zM1 n T p (zMr n T x p) := rfl
def zMs (n : Nat) (T : Nat → Nat → Bool) (x : (Nat → Nat) × Nat) : Nat → (Nat → Nat) × Nat
  | 0 => x
  | k + 1 => zMr n T (zMs n T x k) n
theorem zMs_su (n : Nat) (T : Nat → Nat → Bool) (x : (Nat → Nat) × Nat) (k : Nat) : zMs n T x (k + 1) = zMr n T (zMs n T x k) n := rfl
/-- the parting by the rule, and its length -/
def zPt (n : Nat) (T : Nat → Nat → Bool) : (Nat → Nat) × Nat := zMs n T (zJs n T 16) 20001
theorem zMb_ok (n : Nat) (T : Nat → Nat → Bool) (g : Nat → Nat) (p cur c : Nat) : (zMb n T g p cur c).1 ≤ cur ∧ ((zMb n T g p cur c).2 = 0 → zMb n T g p cur c = (cur, 0)) ∧ ((zMb n T g p cur c).2 ≠ 0 → (zMb n T g p cur c).1 < cur ∧ (zMb n T g p cur c).2 ≤ c ∧ (zMb n T g p cur c).1 = zLgt n T (zmc g p ((zMb n T g p cur c).2 - 1))) := by
  induction c with
  | zero => exact ⟨Nat.le_refl _, fun _ => rfl, fun h => absurd rfl h⟩
  | succ c ih =>
    rw [zMb_su]
    split
    next h => exact ⟨by have := ih.1; show zLgt n T (zmc g p c) ≤ cur; omega, fun z => absurd z (Nat.succ_ne_zero c), fun _ => ⟨by have := ih.1; show zLgt n T (zmc g p c) < cur; omega, Nat.le_refl _, rfl⟩⟩
    next h => exact ⟨ih.1, ih.2.1, fun z => ⟨(ih.2.2 z).1, by have := (ih.2.2 z).2.1; omega, (ih.2.2 z).2.2⟩⟩
theorem zM1_ok {n : Nat} {T : Nat → Nat → Bool} {p : Nat} {x : (Nat → Nat) × Nat} : (zM1 n T p x).2 ≤ x.2 ∧ (¬ (zM1 n T p x).2 < x.2 → zM1 n T p x = x) := by
  have h := zMb_ok n T x.1 p x.2 (znb n x.1 p + 1)
  unfold zM1
  split
  next e => exact ⟨Nat.le_refl _, fun _ => rfl⟩
  next e => exact ⟨h.1, fun z => absurd (h.2.2 e).1 z⟩
theorem zMr_ok {n : Nat} {T : Nat → Nat → Bool} {x : (Nat → Nat) × Nat} (p : Nat) : (zMr n T x p).2 ≤ x.2 ∧ (¬ (zMr n T x p).2 < x.2 → zMr n T x p = x) := by
  induction p with
  | zero => exact ⟨Nat.le_refl _, fun _ => rfl⟩
  | succ p ih =>
    rw [zMr_su]
    have h := zM1_ok (n := n) (T := T) (p := p) (x := zMr n T x p)
    refine ⟨by have := ih.1; omega, fun z => ?_⟩
    have e1 := h.2 (by have := ih.1; omega)
    rw [e1] at z ⊢
    exact ih.2 z
theorem zMs_fx {n : Nat} {T : Nat → Nat → Bool} {x : (Nat → Nat) × Nat} {k : Nat} (h : ¬ (zMs n T x (k + 1)).2 < (zMs n T x k).2) (j : Nat) : zMs n T x (k + j) = zMs n T x k := by
  have e := (zMr_ok (n := n) (T := T) (x := zMs n T x k) n).2 h
  induction j with
  | zero => rfl
  | succ j ih => rw [← Nat.add_assoc, zMs_su, ih, e]
theorem zMs_end {n : Nat} {T : Nat → Nat → Bool} {x : (Nat → Nat) × Nat} {k : Nat} (h : ¬ (zMs n T x (k + 1)).2 < (zMs n T x k).2) (hk : k ≤ 20001) : zMs n T x 20001 = zMs n T x k := by
  have := zMs_fx h (20001 - k)
  rwa [show k + (20001 - k) = 20001 by omega] at this
/-- the others' numbers, and those with the post alone -/
theorem zwi_lt {n p q : Nat} {g : Nat → Nat} (hp : p < n) (hq : q < n) (h : q ≠ p) : zwi g p q < znb n g p := by
  unfold zwi znb
  exact zNum_lt (by split <;> omega)
theorem zwi_eq {p q r : Nat} {g : Nat → Nat} (hq : q ≠ p) (hr : r ≠ p) : zwi g p q = zwi g p r ↔ g q = g r := by
  have e : ∀ q, q ≠ p → zot g p (if q < p then q else q - 1) = g q := fun q hq => by
    unfold zot
    by_cases w : q < p
    · rw [if_pos w, if_pos w]
    · rw [if_neg w, if_neg (by omega), show q - 1 + 1 = q by omega]
  unfold zwi
  rw [zNum_inj, e q hq, e r hr]
