/-! ===== served step by step: what both compute; the reference ===== -/
theorem zTs_z (A : zTl) (a b : Nat) : tv (zTs A 0) a b = if tv A a b = 0 then 0 else 2 := by
  rw [zTs_v, Nat.zero_testBit]
  rfl
/-- of the first cells, the best to tell besides: its harm, its cell and 1 -/
def zst (n : Nat) (B : zTl) (Q : zQl) (len : Int) (h : Nat) : Nat → Nat × Nat
  | 0 => (h, 0)
  | c + 1 => if tv B (c / 16) (c % 16) = 2 ∧ ((tLen n (zTv B (zv1 B c 1)) : Nat) : Int) ≤ len ∧ zhm n (zTv B (zv1 B c 1)) Q < (zst n B Q len h c).1 then (zhm n (zTv B (zv1 B c 1)) Q, c + 1) else zst n B Q len h c
theorem zst_su (n : Nat) (B : zTl) (Q : zQl) (len : Int) (h c : Nat) : zst n B Q len h (c + 1) = if tv B (c / 16) (c % 16) = 2 ∧ ((tLen n (zTv B (zv1 B c 1)) : Nat) : Int) ≤ len ∧ zhm n (zTv B (zv1 B c 1)) Q < (zst n B Q len h c).1 then (zhm n (zTv B (zv1 B c 1)) Q, c + 1) else zst n B Q len h c := rfl
theorem zst_in (n : Nat) (B : zTl) (Q : zQl) (len : Int) (h c : Nat) : (zst n B Q len h c).1 ≤ h ∧ (zst n B Q len h c).2 ≤ c ∧ ((zst n B Q len h c).2 = 0 → (zst n B Q len h c).1 = h) ∧ ((zst n B Q len h c).2 ≠ 0 → tv B (((zst n B Q len h c).2 - 1) / 16) (((zst n B Q len h c).2 - 1) % 16) = 2) := by
  induction c with
  | zero => exact ⟨Nat.le_refl _, Nat.le_refl _, fun _ => rfl, fun z => absurd rfl z⟩
  | succ c ih =>
    obtain ⟨i1, i2, i3, i4⟩ := ih
    rw [zst_su]
    by_cases e : tv B (c / 16) (c % 16) = 2 ∧ ((tLen n (zTv B (zv1 B c 1)) : Nat) : Int) ≤ len ∧ zhm n (zTv B (zv1 B c 1)) Q < (zst n B Q len h c).1
    · rw [if_pos e]
      exact ⟨Nat.le_of_lt (Nat.lt_of_lt_of_le e.2.2 i1), Nat.le_refl _, fun z => absurd z (Nat.succ_ne_zero c), fun _ => e.1⟩
    · rw [if_neg e]
      exact ⟨i1, Nat.le_succ_of_le i2, i3, i4⟩
/-- one step -/
def zse (n : Nat) (Q : zQl) (len : Int) (s : zTl × Nat) : zTl × Nat := if (zst n s.1 Q len s.2 256).2 = 0 then s else (zTv s.1 (zv1 s.1 ((zst n s.1 Q len s.2 256).2 - 1) 1), (zst n s.1 Q len s.2 256).1)
/-- the steps -/
def zsi (n : Nat) (Q : zQl) (len : Int) (s : zTl × Nat) : Nat → zTl × Nat
  | 0 => s
  | k + 1 => zse n Q len (zsi n Q len s k)
theorem zsi_su (n : Nat) (Q : zQl) (len : Int) (s : zTl × Nat) (k : Nat) : zsi n Q len s (k + 1) = zse n Q len (zsi n Q len s k) := rfl
/-- no step goes further -/
def zfx (n : Nat) (Q : zQl) (len : Int) (s : zTl × Nat) : Prop := (zst n s.1 Q len s.2 256).2 = 0
theorem zsi_fx {n : Nat} {Q : zQl} {len : Int} {s : zTl × Nat} {m : Nat} (h : zfx n Q len (zsi n Q len s m)) (j : Nat) : zsi n Q len s (m + j) = zsi n Q len s m := by
  induction j with
  | zero => rfl
  | succ j ih =>
    show zse n Q len (zsi n Q len s (m + j)) = _
    rw [ih]
    exact if_pos h
def zlc (B : zTl) : Nat := zcnt (fun c => decide (tv B (c / 16) (c % 16) = 2)) 256
theorem zse_w {n : Nat} {Q : zQl} {len : Int} {s : zTl × Nat} (hw : zTw n s.1) : zTw n (zse n Q len s).1 ∧ tX (zse n Q len s).1 = tX s.1 ∧ (zse n Q len s).2 ≤ s.2 := by
  unfold zse
  obtain ⟨i1, i2, i3, i4⟩ := zst_in n s.1 Q len s.2 256
  by_cases e : (zst n s.1 Q len s.2 256).2 = 0
  · rw [if_pos e]; exact ⟨hw, rfl, Nat.le_refl _⟩
  · rw [if_neg e]
    have h2 := i4 e
    have hX : tX s.1 ((zst n s.1 Q len s.2 256).2 - 1) = true := decide_eq_true (by rw [h2]; decide)
    exact ⟨zv1_w hw hX (by decide), tX_zv1 hX (by decide), i1⟩
theorem zse_lc {n : Nat} {Q : zQl} {len : Int} {s : zTl × Nat} (h : ¬ zfx n Q len s) : zlc (zse n Q len s).1 < zlc s.1 := by
  obtain ⟨i1, i2, i3, i4⟩ := zst_in n s.1 Q len s.2 256
  have e : ¬ (zst n s.1 Q len s.2 256).2 = 0 := h
  have h2 := i4 e
  unfold zse
  rw [if_neg e]
  generalize (zst n s.1 Q len s.2 256).2 = u at i2 e h2 ⊢
  unfold zlc
  refine zcnt_sub1 (i := u - 1) (fun c _ hc => ?_) (by omega) ?_ (decide_eq_true h2)
  · have hc2 : zv1 s.1 (u - 1) 1 (c / 16) (c % 16) = 2 := of_decide_eq_true hc
    unfold zv1 at hc2
    by_cases z : 16 * (c / 16) + c % 16 = u - 1 ∧ c % 16 < 16
    · rw [if_pos z] at hc2; exact absurd hc2 (by decide)
    · rw [if_neg z] at hc2; exact decide_eq_true hc2
  · have : zv1 s.1 (u - 1) 1 ((u - 1) / 16) ((u - 1) % 16) = 1 := by
      unfold zv1
      rw [if_pos (by omega)]
    refine decide_eq_false (fun z => ?_)
    have z' : zv1 s.1 (u - 1) 1 ((u - 1) / 16) ((u - 1) % 16) = 2 := z
    rw [this] at z'
    exact absurd z' (by decide)
theorem zsi_w {n : Nat} {Q : zQl} {len : Int} {s : zTl × Nat} (hw : zTw n s.1) (k : Nat) : zTw n (zsi n Q len s k).1 ∧ tX (zsi n Q len s k).1 = tX s.1 ∧ (zsi n Q len s k).2 ≤ s.2 := by
  induction k with
  | zero => exact ⟨hw, rfl, Nat.le_refl _⟩
  | succ k ih =>
    obtain ⟨i1, i2, i3⟩ := ih
    obtain ⟨j1, j2, j3⟩ := zse_w (Q := Q) (len := len) i1
    rw [zsi_su]
    exact ⟨j1, j2.trans i2, Nat.le_trans j3 i3⟩
theorem zsi_stop {n E : Nat} {Q : zQl} {len : Int} {s : zTl × Nat} (h : zlc s.1 ≤ E) : ∃ m, m ≤ E ∧ zfx n Q len (zsi n Q len s m) ∧ ∀ k, k < m → ¬ zfx n Q len (zsi n Q len s k) := by
  have key : ∀ j, (∃ m, m < j ∧ zfx n Q len (zsi n Q len s m) ∧ ∀ k, k < m → ¬ zfx n Q len (zsi n Q len s k)) ∨ ((∀ k, k < j → ¬ zfx n Q len (zsi n Q len s k)) ∧ zlc (zsi n Q len s j).1 + j ≤ E) := by
    intro j
    induction j with
    | zero => exact Or.inr ⟨fun k hk => absurd hk (Nat.not_lt_zero _), (show zlc s.1 + 0 ≤ E from Nat.le_trans (Nat.le_of_eq (Nat.add_zero _)) h)⟩
    | succ j ih =>
      rcases ih with ⟨m, m1, m2, m3⟩ | ⟨i1, i2⟩
      · exact Or.inl ⟨m, Nat.lt_succ_of_lt m1, m2, m3⟩
      · by_cases e : zfx n Q len (zsi n Q len s j)
        · exact Or.inl ⟨j, Nat.lt_succ_self j, e, i1⟩
        · have hl := zse_lc e
          refine Or.inr ⟨fun k hk => ?_, ?_⟩
          · by_cases z : k = j
            · rw [z]; exact e
            · exact i1 k (by omega)
          · rw [zsi_su]; omega
  rcases key (E + 1) with ⟨m, m1, m2, m3⟩ | ⟨_, i2⟩
  · exact ⟨m, by omega, m2, m3⟩
  · omega
theorem zlc_z (A : zTl) : zlc (zTs A 0) = zcnt (tX A) 256 := by
  unfold zlc
  refine zcnt_ext fun c _ => ?_
  show decide (tv (zTs A 0) (c / 16) (c % 16) = 2) = decide (tv A (c / 16) (c % 16) ≠ 0)
  rw [zTs_z]
  by_cases e : tv A (c / 16) (c % 16) = 0
  · rw [if_pos e, e]; rfl
  · rw [if_neg e, decide_eq_true e]; rfl
/-- served by steps: the telling and the harm -/
def zsw2 (n : Nat) (A : zTl) (Q : zQl) (len : Int) : zTl × Nat := zsi n Q len (zTs A 0, zhm n (zTs A 0) Q) (zcnt (tX A) 256)
theorem zsw2_stop (n : Nat) (A : zTl) (Q : zQl) (len : Int) : ∃ m, m ≤ zcnt (tX A) 256 ∧ zfx n Q len (zsi n Q len (zTs A 0, zhm n (zTs A 0) Q) m) ∧ (∀ k, k < m → ¬ zfx n Q len (zsi n Q len (zTs A 0, zhm n (zTs A 0) Q) k)) ∧ zsw2 n A Q len = zsi n Q len (zTs A 0, zhm n (zTs A 0) Q) m := by
  obtain ⟨m, m1, m2, m3⟩ := zsi_stop (n := n) (Q := Q) (len := len) (s := (zTs A 0, zhm n (zTs A 0) Q)) (Nat.le_of_eq (zlc_z A))
  refine ⟨m, m1, m2, m3, ?_⟩
  have := zsi_fx m2 (zcnt (tX A) 256 - m)
  rw [show m + (zcnt (tX A) 256 - m) = zcnt (tX A) 256 from Nat.add_sub_cancel' m1] at this
  exact this
