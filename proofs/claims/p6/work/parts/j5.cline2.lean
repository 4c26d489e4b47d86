section
-- part j5.cline2.lean.txt
/-! ===== boxes in a line: the class's table and its order ===== -/
/-- the least of the first b boxes that are not in a set yet -/
def zmnB (m : Nat) (w : Nat → Nat → Nat) (T : Nat → Nat) (s : Nat) : Nat → Nat
  | 0 => 1920
  | b + 1 => if s.testBit b = true then zmnB m w T s b else min (zmnB m w T s b) (zcu m w (s ||| 2 ^ b).testBit + T (s ||| 2 ^ b))
/-- the table: what it holds of sets from a number on -/
def zTbl (m : Nat) (w : Nat → Nat → Nat) (T : Nat → Nat) (from' : Nat) : Prop := T (2 ^ m - 1) = 0 ∧ ∀ s, from' ≤ s → s < 2 ^ m - 1 → T s = zmnB m w T s m
theorem zor_gt {s b : Nat} (h : s.testBit b = false) : s < s ||| 2 ^ b := by
  have h1 : s ≤ s ||| 2 ^ b := Nat.left_le_or
  rcases Nat.lt_or_ge s (s ||| 2 ^ b) with q | q
  · exact q
  · have e : s ||| 2 ^ b = s := Nat.le_antisymm q h1
    have h2 : (s ||| 2 ^ b).testBit b = true := by rw [Nat.testBit_or, Nat.testBit_two_pow_self, Bool.or_true]
    rw [e, h] at h2
    cases h2
theorem zor_m {s b m : Nat} (hs : s < 2 ^ m) (hb : b < m) : s ||| 2 ^ b < 2 ^ m := Nat.or_lt_two_pow hs (Nat.pow_lt_pow_right (by decide) hb)
theorem zmnB_le {m : Nat} {w : Nat → Nat → Nat} {T : Nat → Nat} {s : Nat} (k : Nat) : zmnB m w T s k ≤ 1920 ∧ ∀ b, b < k → s.testBit b = false → zmnB m w T s k ≤ zcu m w (s ||| 2 ^ b).testBit + T (s ||| 2 ^ b) := by
  induction k with
  | zero => exact ⟨Nat.le_refl _, fun b hb => absurd hb (by omega)⟩
  | succ k ih =>
    obtain ⟨h1, h2⟩ := ih
    unfold zmnB
    by_cases e : s.testBit k = true
    · rw [if_pos e]
      refine ⟨h1, fun b hb hs => ?_⟩
      by_cases w2 : b = k
      · subst w2; rw [e] at hs; cases hs
      · exact h2 b (by omega) hs
    · rw [if_neg e]
      refine ⟨by omega, fun b hb hs => ?_⟩
      by_cases w2 : b = k
      · subst w2; omega
      · have := h2 b (by omega) hs; omega
theorem zmnB_at {m : Nat} {w : Nat → Nat → Nat} {T : Nat → Nat} {s : Nat} (k : Nat) : zmnB m w T s k = 1920 ∨ ∃ b, b < k ∧ s.testBit b = false ∧ zmnB m w T s k = zcu m w (s ||| 2 ^ b).testBit + T (s ||| 2 ^ b) := by
  induction k with
  | zero => exact Or.inl rfl
  | succ k ih =>
    unfold zmnB
    by_cases e : s.testBit k = true
    · rw [if_pos e]
      rcases ih with h | ⟨b, h1, h2, h3⟩
      · exact Or.inl h
      · exact Or.inr ⟨b, by omega, h2, h3⟩
    · rw [if_neg e]
      have e2 : s.testBit k = false := by
        cases q : s.testBit k
        · rfl
        · exact absurd q e
      rcases Nat.le_total (zmnB m w T s k) (zcu m w (s ||| 2 ^ k).testBit + T (s ||| 2 ^ k)) with q | q
      · rw [Nat.min_eq_left q]
        rcases ih with h | ⟨b, h1, h2, h3⟩
        · exact Or.inl h
        · exact Or.inr ⟨b, by omega, h2, h3⟩
      · rw [Nat.min_eq_right q]
        exact Or.inr ⟨k, by omega, e2, rfl⟩
theorem zTbl_B {m : Nat} {w : Nat → Nat → Nat} {T : Nat → Nat} (h : zTbl m w T 0) : zBh m w (fun t => T (zmsk t m)) := by
  refine ⟨fun s hs => ?_, fun s t e => ?_, fun s b hb hsb => ?_⟩
  · show T (zmsk s m) = 0
    rw [zmsk_full hs]; exact h.1
  · show T (zmsk s m) = T (zmsk t m)
    rw [zmsk_ext e]
  · show T (zmsk s m) ≤ zcu m w (fun x => s x || decide (x = b)) + T (zmsk (fun x => s x || decide (x = b)) m)
    rw [zmsk_add hb]
    have h1 := zmsk_lt s m
    have h2 : (zmsk s m).testBit b = false := by rw [zmsk_bit, hsb, Bool.and_false]
    have h3 := zor_gt h2
    have h4 := zor_m h1 hb
    rw [h.2 (zmsk s m) (Nat.zero_le _) (by omega)]
    have h5 := (zmnB_le (m := m) (w := w) (T := T) (s := zmsk s m) m).2 b hb h2
    rw [zcu_ext (t := fun x => s x || decide (x = b)) (fun x hx => by rw [Nat.testBit_or, zmsk_bit, Nat.testBit_two_pow, decide_eq_true hx, Bool.true_and, decide_eq_decide.mpr (show b = x ↔ x = b from ⟨fun z => z.symm, fun z => z.symm⟩)])] at h5
    exact h5
/-- the order that the class takes: a set and the box behind it -/
def zcan (m : Nat) (w : Nat → Nat → Nat) (T : Nat → Nat) (s b : Nat) : Bool := !s.testBit b && decide (zcu m w (s ||| 2 ^ b).testBit + T (s ||| 2 ^ b) = T s)
def zgs2 (m : Nat) (w : Nat → Nat → Nat) (T : Nat → Nat) : Nat → Nat
  | 0 => 0
  | k + 1 => zgs2 m w T k ||| 2 ^ zfind (zcan m w T (zgs2 m w T k)) m
def zgb2 (m : Nat) (w : Nat → Nat → Nat) (T : Nat → Nat) (k : Nat) : Nat := zfind (zcan m w T (zgs2 m w T k)) m
theorem zgp_cap {m : Nat} {w : Nat → Nat → Nat} {o : Nat → Nat} (hc : ∀ s, zcu m w s ≤ 64) (k : Nat) : zgp m w o k ≤ (m - k) * 64 := zsum_cap (fun _ => hc _) _
theorem zTbl_cap {m : Nat} {w : Nat → Nat → Nat} {T : Nat → Nat} (h : zTbl m w T 0) (hm8 : m ≤ 8) (hc : ∀ s, zcu m w s ≤ 64) (s : Nat) (hs : s < 2 ^ m) : T s ≤ (m - zcnt s.testBit m) * 64 ∧ (s < 2 ^ m - 1 → zfind (zcan m w T s) m < m) := by
  obtain ⟨d, hd⟩ : ∃ d, m - zcnt s.testBit m = d := ⟨_, rfl⟩
  induction d generalizing s with
  | zero =>
    have h1 := zcnt_le s.testBit m
    have h2 : ∀ x, x < m → s.testBit x = true := fun x hx => by
      cases e : s.testBit x
      · have := zcnt_sub1 (s := s.testBit) (t := fun _ => true) (fun _ _ _ => rfl) hx e rfl
        have := zcnt_le (fun _ => true) m
        omega
      · rfl
    have h3 : s = 2 ^ m - 1 := by rw [← zmsk_of hs]; exact zmsk_full h2
    subst h3
    exact ⟨by rw [h.1]; exact Nat.zero_le _, fun z => absurd z (Nat.lt_irrefl _)⟩
  | succ d ih =>
    have h1 : ∃ b, b < m ∧ s.testBit b = false := by
      refine Classical.byContradiction fun hn => ?_
      have h2 : zcnt s.testBit m = zcnt (fun _ => true) m := zcnt_ext fun x hx => by
        cases e : s.testBit x
        · exact absurd ⟨x, hx, e⟩ hn
        · rfl
      have h3 : ∀ N, zcnt (fun _ => true) N = N := fun N => by
        induction N with
        | zero => rfl
        | succ N ih => rw [zcnt_su, ih]; rfl
      rw [h3] at h2
      omega
    have hst : ∀ b, b < m → s.testBit b = false → T (s ||| 2 ^ b) ≤ d * 64 := fun b hb hsb => by
      have e1 : zcnt (s ||| 2 ^ b).testBit m = zcnt s.testBit m + 1 := by
        have e2 : zcnt (s ||| 2 ^ b).testBit m = zcnt (fun x => s.testBit x || decide (x = b)) m := zcnt_ext fun x _ => by rw [Nat.testBit_or, Nat.testBit_two_pow, decide_eq_decide.mpr (show b = x ↔ x = b from ⟨fun z => z.symm, fun z => z.symm⟩)]
        rw [e2, zcnt_ins hsb, if_pos hb]
      have := (ih (s ||| 2 ^ b) (zor_m hs hb) (by omega)).1
      rw [show m - zcnt (s ||| 2 ^ b).testBit m = d by omega] at this
      exact this
    obtain ⟨b, hb, hsb⟩ := h1
    have h4 := zor_gt hsb
    have h5 := zor_m hs hb
    have h6 := h.2 s (Nat.zero_le _) (by omega)
    have h7 := (zmnB_le (m := m) (w := w) (T := T) (s := s) m).2 b hb hsb
    have h8 := hst b hb hsb
    have h9 := hc (s ||| 2 ^ b).testBit
    have hd8 : d + 1 ≤ 8 := by omega
    refine ⟨by rw [h6]; omega, fun _ => ?_⟩
    rcases zmnB_at (m := m) (w := w) (T := T) (s := s) m with q | ⟨c, c1, c2, c3⟩
    · omega
    · refine Nat.lt_of_le_of_lt (Nat.le_of_not_lt fun z => ?_) c1
      have := (zfind_ok (zcan m w T s) m).2.2 c z
      unfold zcan at this
      rw [c2, h6, c3, decide_eq_true rfl] at this
      cases this
theorem zgr_of {m : Nat} {w : Nat → Nat → Nat} {T : Nat → Nat} (h : zTbl m w T 0) (hm8 : m ≤ 8) (hc : ∀ s, zcu m w s ≤ 64) : zgr m w (fun t => T (zmsk t m)) (zgb2 m w T) m ∧ ∀ k, k ≤ m → zgs2 m w T k < 2 ^ m ∧ zmsk (zpf (zgb2 m w T) k) m = zgs2 m w T k := by
  have key : ∀ k, k ≤ m → (∀ j, j < k → zgb2 m w T j < m) ∧ zgs2 m w T k < 2 ^ m ∧ zmsk (zpf (zgb2 m w T) k) m = zgs2 m w T k ∧ zcnt (zgs2 m w T k).testBit m = k := by
    intro k
    induction k with
    | zero =>
      intro _
      refine ⟨fun j hj => absurd hj (by omega), Nat.two_pow_pos m, ?_, zcnt_z fun i _ => Nat.zero_testBit i⟩
      refine Nat.eq_of_testBit_eq fun i => ?_
      rw [zmsk_bit]
      show (decide (i < m) && zpf _ 0 i) = (0 : Nat).testBit i
      rw [Nat.zero_testBit, show zpf (zgb2 m w T) 0 i = false from decide_eq_false (fun ⟨j, h1, _⟩ => absurd h1 (by omega)), Bool.and_false]
    | succ k ih =>
      intro hk
      obtain ⟨i1, i2, i3, i4⟩ := ih (by omega)
      have hne : zgs2 m w T k < 2 ^ m - 1 := by
        rcases Nat.lt_or_ge (zgs2 m w T k) (2 ^ m - 1) with q | q
        · exact q
        · have e : zgs2 m w T k = 2 ^ m - 1 := by omega
          have h3 : zcnt (zgs2 m w T k).testBit m = m := by
            rw [e, zcnt_ext (t := fun _ => true) (fun x hx => by rw [Nat.testBit_two_pow_sub_one, decide_eq_true hx])]
            have : ∀ N, zcnt (fun _ => true) N = N := fun N => by
              induction N with
              | zero => rfl
              | succ N ih => rw [zcnt_su, ih]; rfl
            exact this m
          omega
      have hb : zgb2 m w T k < m := (zTbl_cap h hm8 hc _ i2).2 hne
      have hat : zcan m w T (zgs2 m w T k) (zgb2 m w T k) = true := (zfind_ok (zcan m w T (zgs2 m w T k)) m).2.1 hb
      have hnb : (zgs2 m w T k).testBit (zgb2 m w T k) = false := by
        unfold zcan at hat
        rw [Bool.and_eq_true] at hat
        cases q : (zgs2 m w T k).testBit (zgb2 m w T k)
        · rfl
        · have := hat.1
          rw [q] at this
          cases this
      have hgs : zgs2 m w T (k + 1) = zgs2 m w T k ||| 2 ^ zgb2 m w T k := rfl
      refine ⟨fun j hj => ?_, by rw [hgs]; exact zor_m i2 hb, ?_, ?_⟩
      · by_cases e : j = k
        · subst e; exact hb
        · exact i1 j (by omega)
      · rw [hgs, ← i3, ← zmsk_add hb]
        exact zmsk_ext fun x _ => zpf_su _ _ _
      · rw [hgs, zcnt_ext (t := fun x => (zgs2 m w T k).testBit x || decide (x = zgb2 m w T k)) (fun x _ => by rw [Nat.testBit_or, Nat.testBit_two_pow, decide_eq_decide.mpr (show zgb2 m w T k = x ↔ x = zgb2 m w T k from ⟨fun z => z.symm, fun z => z.symm⟩)]), zcnt_ins hnb, if_pos hb, i4]
  refine ⟨fun k hk => ?_, fun k hk => ⟨(key k hk).2.1, (key k hk).2.2.1⟩⟩
  obtain ⟨i1, i2, i3, i4⟩ := key k (by omega)
  obtain ⟨j1, j2, j3, j4⟩ := key (k + 1) (by omega)
  have hb : zgb2 m w T k < m := j1 k (by omega)
  have hat : zcan m w T (zgs2 m w T k) (zgb2 m w T k) = true := (zfind_ok (zcan m w T (zgs2 m w T k)) m).2.1 hb
  unfold zcan at hat
  rw [Bool.and_eq_true, decide_eq_true_eq] at hat
  obtain ⟨a1, a2⟩ := hat
  have hbit : ∀ x, x < m → (zgs2 m w T k).testBit x = zpf (zgb2 m w T) k x := fun x hx => by rw [← i3, zmsk_bit, decide_eq_true hx, Bool.true_and]
  have hor : ∀ b, b < m → zcu m w (fun x => zpf (zgb2 m w T) k x || decide (x = b)) + T (zmsk (fun x => zpf (zgb2 m w T) k x || decide (x = b)) m) = zcu m w (zgs2 m w T k ||| 2 ^ b).testBit + T (zgs2 m w T k ||| 2 ^ b) := fun b hb2 => by
    rw [zmsk_add hb2, i3]
    congr 1
    exact zcu_ext fun x hx => by rw [Nat.testBit_or, Nat.testBit_two_pow, hbit x hx, decide_eq_decide.mpr (show b = x ↔ x = b from ⟨fun z => z.symm, fun z => z.symm⟩)]
  refine ⟨hb, ?_, ?_, fun b hb2 hnb => ?_⟩
  · rw [← hbit _ hb]
    cases q : (zgs2 m w T k).testBit (zgb2 m w T k)
    · rfl
    · rw [q] at a1
      cases a1
  · show zcu m w (zpf (zgb2 m w T) (k + 1)) + T (zmsk (zpf (zgb2 m w T) (k + 1)) m) = T (zmsk (zpf (zgb2 m w T) k) m)
    rw [show zpf (zgb2 m w T) (k + 1) = (fun x => zpf (zgb2 m w T) k x || decide (x = zgb2 m w T k)) from funext fun x => zpf_su _ _ _, hor _ hb, i3]
    exact a2
  · show zcu m w (fun x => zpf (zgb2 m w T) k x || decide (x = b)) + T (zmsk (fun x => zpf (zgb2 m w T) k x || decide (x = b)) m) ≠ T (zmsk (zpf (zgb2 m w T) k) m)
    rw [hor b (by omega), i3]
    intro z
    have h3 := (zfind_ok (zcan m w T (zgs2 m w T k)) m).2.2 b hb2
    unfold zcan at h3
    rw [hbit b (by omega), hnb, z, decide_eq_true rfl] at h3
    cases h3
theorem zLin_g {m : Nat} {w : Nat → Nat → Nat} {T : Nat → Nat} (h : zTbl m w T 0) (hm8 : m ≤ 8) (hc : ∀ s, zcu m w s ≤ 64) : T 0 = zst2 m w (zLin m w) ∧ ∀ k, k < m → zgb2 m w T k = zLin m w k := by
  obtain ⟨h1, h2⟩ := zgr_of h hm8 hc
  have hB := zTbl_B h
  have hg := zgr_pm h1
  have hF : zFst m w (zgb2 m w T) := ⟨hg, fun p hp => zgr_first hB h1 hp⟩
  obtain ⟨e1, e2⟩ := zLin_ok hF
  refine ⟨?_, e2⟩
  have h3 := zgr_st hB h1 0 (Nat.zero_le _)
  rw [← zst2_gp hg] at h3
  rw [← e1, h3]
  show T 0 = T (zmsk (zpf (zgb2 m w T) 0) m)
  rw [(h2 0 (Nat.zero_le _)).2]
  rfl
end
section
-- part j6.cline3.lean.txt
/-! ===== boxes in a line: the class's programs ===== -/
theorem zA157 {S : List zSh} (hS : S = zmS zC0) : zArr S ((157 : Nat) : Int) .int 256 := zCA (a := 157) (ty := .int) (n := 256) hS rfl
theorem c_sumWith {O : zOm} (hO : zWld O) (hS : zS O = zmS zC0) {x n s v : Nat} {A : zTl} {M : zMem} {K : Option zV → zMem → Prop} (hx : zTeC (zS O) x) (hn2 : n ≤ 16) (hA : zTR M x n A) (hw : zTw n A) (hm8 : tm A ≤ 8) (hB : zNR M 158 n (zBd n A)) (hs : s < 256) (hv : M ((157 : Nat) : Int) ((s : Nat) : Int) = ((v : Nat) : Int)) (hv2 : v ≤ 2000)
    (hk : K (some (0, ((zcu (tm A) (zlw n A) s.testBit + v : Nat) : Int))) M) : zR O F_Order_sumWith [(2, ((156 : Nat) : Int)), (2, ((x : Nat) : Int)), (0, ((s : Nat) : Int))] M K := by
  obtain ⟨⟨s0, s1, s2, s3, s4, s5, s6, s7⟩, ⟨n57, n59, n61⟩, a164, a165⟩ := zO156_ok hS
  have s00 := zf_156_0 hS
  have a157 := zA157 hS
  obtain ⟨y0, y1, y2, y3⟩ := n57
  obtain ⟨⟨o, x0, x1, x2, x3, x4, x5, x6⟩, ⟨xa, xb⟩, ⟨p0, p1, p2, p3, p4, p5, p6, p7, p8⟩, -⟩ := hx
  obtain ⟨m1, m2, m3, m4⟩ := hA.1
  have hb1 := hB.1
  have hf : ∀ q, q < n → tf A q < tm A := fun q hq => (hw.1.2.2 q hq).1
  have hcu : zcu (tm A) (zlw n A) s.testBit = zsum (fun p => if s.testBit (tf A p) = true then zcnt (fun q => zBd n A p q && !s.testBit (tf A q)) n else 0) n := zcu_posts hf
  have hz0 : zmk (fun p => decide (p < n) && (decide (tf A p < 0) && s.testBit (tf A p))) = 0 := (zmk_eq0 _).mpr (fun i _ => by rw [decide_eq_false (Nat.not_lt_zero _), Bool.false_and, Bool.and_false])
  rw [hcu] at hk
  apply r_Order_sumWith hO
  unfold B_Order_sumWith
  ((with_reducible refine i_Seq (i_Set (i_I (i_Seq (i_Blk (i_Seq (i_Set (i_I ?_)))))))); simp only [w_set0, w_set1, w_setn0, w_setn1])
  refine w_ForN (tm A) (fun k ρ M' => (∃ l, ρ = ((156 : Nat) : Int) :: ((x : Nat) : Int) :: ((s : Nat) : Int) :: zmk (fun p => decide (p < n) && (decide (tf A p < k) && s.testBit (tf A p))) :: ((k : Nat) : Int) :: l) ∧ M' = M) ⟨⟨_, by rw [hz0]; rfl⟩, rfl⟩ ?_ ?_
  · rintro k ρ M1 X hk1 ⟨⟨l, rfl⟩, rfl⟩ hX
    have hX2 : ∀ (l : zLoc) (t : Nat → Bool), (∀ i, i < 16 → t i = (decide (i < n) && (decide (tf A i < k + 1) && s.testBit (tf A i)))) → X (((156 : Nat) : Int) :: ((x : Nat) : Int) :: ((s : Nat) : Int) :: zmk t :: ((k + 1 : Nat) : Int) :: l) M1 := fun l t ht => by rw [zmk_ext ht]; exact hX _ _ ⟨⟨l, rfl⟩, rfl⟩
    have g1 := m4 k hk1
    cases e : s.testBit k
    · ((with_reducible refine i_turn (i_cI_lt (i_L4 (i_F (i_FR (i_A1 ?_)))))); (with_reducible refine i_fldR (by assumption) ?_); (with_reducible refine i_fld (by assumption) ?_); (rw [m2]); (with_reducible refine i_t (by omega) ?_); (with_reducible refine i_If (i_cI_eq (i_And (i_Shr (i_L2 (i_L4 (i_I (i_I ?_)))))))); (rw [ybit (by omega) (by omega)]); (rw [e]); rw [zbI_f]; (with_reducible refine i_f (by omega) ?_); (with_reducible refine i_up (i_Inc4 ?_)); rw [zx_inc (by omega)]; simp only [w_set0, w_set1, w_setn0, w_setn1])
      refine hX2 _ _ (fun i _ => ?_)
      by_cases w : tf A i = k
      · simp [w, e]
      · rw [zdb (show tf A i < k ↔ tf A i < k + 1 by omega)]
    · ((with_reducible refine i_turn (i_cI_lt (i_L4 (i_F (i_FR (i_A1 ?_)))))); (with_reducible refine i_fldR (by assumption) ?_); (with_reducible refine i_fld (by assumption) ?_); (rw [m2]); (with_reducible refine i_t (by omega) ?_); (with_reducible refine i_If (i_cI_eq (i_And (i_Shr (i_L2 (i_L4 (i_I (i_I ?_)))))))); (rw [ybit (by omega) (by omega)]); (rw [e]); rw [zbI_t]; simp only [w_set0, w_set1, w_setn0, w_setn1]; (with_reducible refine i_t trivial ?_); (with_reducible refine i_Set (i_Or (i_L3 (i_IA (i_FR (i_FR (i_A1 ?_))))))); (with_reducible refine i_fldR (by assumption) ?_); (with_reducible refine i_fldR (by assumption) ?_); (with_reducible refine i_L4 ?_); (with_reducible refine i_in (by assumption) (by omega) (by omega) ?_); (with_reducible refine i_up ?_); (rw [g1]); (rw [yor_mk]); simp only [w_set0, w_set1, w_setn0, w_setn1]; (with_reducible refine i_Inc4 ?_); rw [zx_inc (by omega)]; simp only [w_set0, w_set1, w_setn0, w_setn1])
      refine hX2 _ _ (fun i _ => ?_)
      by_cases w : tf A i = k
      · rw [w, e, decide_eq_false (Nat.lt_irrefl k), decide_eq_true (Nat.lt_succ_self k), decide_eq_true rfl]
        cases decide (i < n) <;> rfl
      · rw [decide_eq_false w, Bool.and_false, Bool.or_false, zdb (show tf A i < k ↔ tf A i < k + 1 by omega)]
  rintro ρ M1 X ⟨⟨l1, rfl⟩, rfl⟩
  rw [show zmk (fun p => decide (p < n) && (decide (tf A p < tm A) && s.testBit (tf A p))) = zmk (fun p => decide (p < n) && s.testBit (tf A p)) from zmk_ext fun i _ => by
    by_cases w : i < n
    · rw [decide_eq_true (hf i w), Bool.true_and]
    · rw [decide_eq_false w]; rfl]
  have hcap := fun k => zsum_cap (f := fun p => if s.testBit (tf A p) = true then zcnt (fun q => zBd n A p q && !s.testBit (tf A q)) n else 0) (c := 16) (fun p => by
    split
    · exact Nat.le_trans (zcnt_le _ _) hn2
    · omega) k
  ((with_reducible refine i_turn (i_cI_lt (i_L4 (i_F (i_FR (i_A1 ?_)))))); (with_reducible refine i_fldR (by assumption) ?_); (with_reducible refine i_fld (by assumption) ?_); (rw [m2]); (with_reducible refine i_f (by omega) ?_); (with_reducible refine i_Seq (i_Set (i_I (i_Seq (i_Blk (i_Seq (i_Set (i_I ?_)))))))); simp only [w_set0, w_set1, w_setn0, w_setn1]; rw [w_setT])
  refine w_ForN n (fun p ρ M' => (∃ l, ρ = ((156 : Nat) : Int) :: ((x : Nat) : Int) :: ((s : Nat) : Int) :: zmk (fun p => decide (p < n) && s.testBit (tf A p)) :: ((zsum (fun p => if s.testBit (tf A p) = true then zcnt (fun q => zBd n A p q && !s.testBit (tf A q)) n else 0) p : Nat) : Int) :: ((p : Nat) : Int) :: l) ∧ M' = M1) ⟨⟨_, rfl⟩, rfl⟩ ?_ ?_
  · rintro p ρ M2 X hp1 ⟨⟨l, rfl⟩, rfl⟩ hX
    have r3 := hB.2 p (by omega)
    have hX2 : ∀ (l : zLoc) (c : Nat), c = zsum (fun p => if s.testBit (tf A p) = true then zcnt (fun q => zBd n A p q && !s.testBit (tf A q)) n else 0) p + (if s.testBit (tf A p) = true then zcnt (fun q => zBd n A p q && !s.testBit (tf A q)) n else 0) → X (((156 : Nat) : Int) :: ((x : Nat) : Int) :: ((s : Nat) : Int) :: zmk (fun p => decide (p < n) && s.testBit (tf A p)) :: ((c : Nat) : Int) :: ((p + 1 : Nat) : Int) :: l) M2 := fun l c hc => by subst hc; exact hX _ _ ⟨⟨l, rfl⟩, rfl⟩
    have c1 := hcap p
    have hg : yand (yshr (zmk (fun p => decide (p < n) && s.testBit (tf A p))) ((p : Nat) : Int)) 1 = zbI (s.testBit (tf A p)) := by
      rw [yand_1 _ (by omega), decide_eq_true hp1, Bool.true_and]; rfl
    have hcn : zcnt (fun i => zBd n A p i && !(decide (i < n) && s.testBit (tf A i))) 16 = zcnt (fun q => zBd n A p q && !s.testBit (tf A q)) n := by
      rw [zcnt_top (c := n) (fun d hd => by
        cases e : zBd n A p d
        · rfl
        · have := ((zBd_reg hw).lt e).2; omega) hn2]
      exact zcnt_ext fun q hq => by rw [decide_eq_true hq, Bool.true_and]
    have c2 : zcnt (fun q => zBd n A p q && !s.testBit (tf A q)) n ≤ 16 := Nat.le_trans (zcnt_le _ _) hn2
    clear hX hk hcu hcap
    generalize zsum (fun p => if s.testBit (tf A p) = true then zcnt (fun q => zBd n A p q && !s.testBit (tf A q)) n else 0) p = z at hX2 c1 ⊢
    cases e : s.testBit (tf A p)
    · rw [e] at hX2 hg
      ((with_reducible refine i_turn (i_cI_lt (i_L5 (i_F (i_FR (i_A0 ?_)))))); (with_reducible refine i_fldR (by assumption) ?_); (with_reducible refine i_fld (by assumption) ?_); (rw [hb1]); (with_reducible refine i_t (by omega) ?_); (with_reducible refine i_If (i_cI_eq (i_And (i_Shr (i_L3 (i_L5 (i_I (i_I ?_)))))))); (rw [hg]); rw [zbI_f]; (with_reducible refine i_f (by omega) ?_); (with_reducible refine i_up (i_Inc5 ?_)); rw [zx_inc (by omega)]; simp only [w_set0, w_set1, w_setn0, w_setn1])
      exact hX2 _ _ (by simp)
    · rw [e, if_pos rfl] at hX2
      rw [e] at hg
      ((with_reducible refine i_turn (i_cI_lt (i_L5 (i_F (i_FR (i_A0 ?_)))))); (with_reducible refine i_fldR (by assumption) ?_); (with_reducible refine i_fld (by assumption) ?_); (rw [hb1]); (with_reducible refine i_t (by omega) ?_); (with_reducible refine i_If (i_cI_eq (i_And (i_Shr (i_L3 (i_L5 (i_I (i_I ?_)))))))); (rw [hg]); rw [zbI_t]; simp only [w_set0, w_set1, w_setn0, w_setn1]; (with_reducible refine i_t trivial ?_); (with_reducible refine i_Set (i_Add (i_L4 (i_Call (i_as1 (i_And (i_IA (i_FR (i_FR (i_A0 ?_)))))))))); (with_reducible refine i_fldR (by assumption) ?_); (with_reducible refine i_fldR (by assumption) ?_); (with_reducible refine i_L5 ?_); (with_reducible refine i_in (by assumption) (by omega) (by omega) ?_); (with_reducible refine i_Xor (i_L3 (i_I (i_as0 (i_recv1 ?_))))); (rw [r3]); (rw [ynot_mk]); (refine s_bitCount hO ⟨_, rfl, ?_⟩); (with_reducible refine i_up ?_); (rw [hcn]); rw [zx_add (by omega)]; simp only [w_set0, w_set1, w_setn0, w_setn1]; (with_reducible refine i_Inc5 ?_); rw [zx_inc (by omega)]; simp only [w_set0, w_set1, w_setn0, w_setn1])
      exact hX2 _ _ rfl
  · rintro ρ M2 X ⟨⟨l, rfl⟩, rfl⟩
    have c1 := hcap n
    ((with_reducible refine i_turn (i_cI_lt (i_L5 (i_F (i_FR (i_A0 ?_)))))); (with_reducible refine i_fldR (by assumption) ?_); (with_reducible refine i_fld (by assumption) ?_); (rw [hb1]); (with_reducible refine i_f (by omega) ?_); (with_reducible refine i_RetI (i_Add (i_L4 (i_IA (i_FR (i_A0 ?_)))))); (with_reducible refine i_fldR (by assumption) ?_); (with_reducible refine i_L2 ?_); (with_reducible refine i_in (by assumption) (by omega) (by omega) ?_); (rw [hv]); rw [zx_add (by omega)])
    exact hk
theorem c_canFollow {O : zOm} (hO : zWld O) (hS : zS O = zmS zC0) {x n s b v u : Nat} {A : zTl} {M : zMem} {K : Option zV → zMem → Prop} (hx : zTeC (zS O) x) (hn2 : n ≤ 16) (hA : zTR M x n A) (hw : zTw n A) (hm8 : tm A ≤ 8) (hB : zNR M 158 n (zBd n A)) (hs : s < 2 ^ tm A) (hb : b < tm A) (hv : M ((157 : Nat) : Int) ((s ||| 2 ^ b : Nat) : Int) = ((v : Nat) : Int)) (hv2 : v ≤ 2000) (hu : M ((157 : Nat) : Int) ((s : Nat) : Int) = ((u : Nat) : Int))
    (hk : K (some (0, zbI (!s.testBit b && decide (zcu (tm A) (zlw n A) (s ||| 2 ^ b).testBit + v = u)))) M) : zR O F_Order_canFollow [(2, ((156 : Nat) : Int)), (2, ((x : Nat) : Int)), (0, ((s : Nat) : Int)), (0, ((b : Nat) : Int))] M K := by
  obtain ⟨⟨s0, s1, s2, s3, s4, s5, s6, s7⟩, ⟨n57, n59, n61⟩, a164, a165⟩ := zO156_ok hS
  have s00 := zf_156_0 hS
  have a157 := zA157 hS
  have hp8 : 2 ^ tm A ≤ 2 ^ 8 := Nat.pow_le_pow_right (by decide) hm8
  have h256 : (2 : Nat) ^ 8 = 256 := rfl
  have hor := zor_m hs hb
  apply r_Order_canFollow hO
  unfold B_Order_canFollow
  cases e : s.testBit b
  · rw [e] at hk
    ((with_reducible refine i_RetZ (i_eIf (i_cAnd (i_cZ_eq (i_And (i_Shr (i_L2 (i_L3 (i_I ?_))))))))); (rw [ybit (by omega) (by omega)]); (rw [e]); rw [zbI_f]; simp only [w_set0, w_set1, w_setn0, w_setn1]; (with_reducible refine i_t trivial ?_); (with_reducible refine i_cI_eq (i_Call (i_as1 (i_A0 (i_as1 (i_A1 (i_as1 (i_Or (i_L2 (i_Shl (i_I (i_L3 (i_as0 ?_))))))))))))); (with_reducible refine i_recv0 (by assumption) ?_); (rw [ybor (by omega) (by omega)]))
    refine c_sumWith hO hS hx hn2 hA hw hm8 hB (by omega) hv hv2 ⟨_, rfl, ?_⟩
    by_cases w : zcu (tm A) (zlw n A) (s ||| 2 ^ b).testBit + v = u
    · rw [decide_eq_true w] at hk
      ((with_reducible refine i_IA (i_FR (i_A0 ?_))); (with_reducible refine i_fldR (by assumption) ?_); (with_reducible refine i_L2 ?_); (with_reducible refine i_in (by assumption) (by omega) (by omega) ?_); (rw [hu]); (with_reducible refine i_t (by omega) ?_); (with_reducible refine i_I ?_); (with_reducible refine i_z (Or.inr rfl) ?_))
      exact hk
    · rw [decide_eq_false w] at hk
      ((with_reducible refine i_IA (i_FR (i_A0 ?_))); (with_reducible refine i_fldR (by assumption) ?_); (with_reducible refine i_L2 ?_); (with_reducible refine i_in (by assumption) (by omega) (by omega) ?_); (rw [hu]); (with_reducible refine i_f (by omega) ?_); (with_reducible refine i_I ?_); (with_reducible refine i_z (Or.inl rfl) ?_))
      exact hk
  · rw [e] at hk
    ((with_reducible refine i_RetZ (i_eIf (i_cAnd (i_cZ_eq (i_And (i_Shr (i_L2 (i_L3 (i_I ?_))))))))); (rw [ybit (by omega) (by omega)]); (rw [e]); rw [zbI_t]; (with_reducible refine i_f (by omega) ?_); (with_reducible refine i_I ?_); (with_reducible refine i_z (Or.inl rfl) ?_))
    exact hk
theorem c_lay {O : zOm} (hO : zWld O) (hS : zS O = zmS zC0) {x n : Nat} {A : zTl} {M : zMem} {K : Option zV → zMem → Prop} (hx : zTeC (zS O) x) (hx7 : 165 < x) (hn1 : 0 < n) (hn2 : n ≤ 16) (hA : zTR M x n A) (hw : zTw n A) (hm8 : tm A ≤ 8)
    (hk : ∀ M' T, (∀ b j, ¬ (((157 : Nat) : Int) ≤ b ∧ b ≤ ((159 : Nat) : Int)) → M' b j = M b j) → zNR M' 158 n (zBd n A) → zTbl (tm A) (zlw n A) T 0 → (∀ s : Nat, s < 2 ^ tm A → M' ((157 : Nat) : Int) ((s : Nat) : Int) = ((T s : Nat) : Int) ∧ T s ≤ 1920) → K (some (0, ((T 0 : Nat) : Int))) M') : zR O F_Order_lay [(2, ((156 : Nat) : Int)), (2, ((x : Nat) : Int))] M K := by
  obtain ⟨⟨s0, s1, s2, s3, s4, s5, s6, s7⟩, ⟨n57, n59, n61⟩, a164, a165⟩ := zO156_ok hS
  have s00 := zf_156_0 hS
  have a157 := zA157 hS
  have hx0 := hx
  have n57' := n57
  have hm0 : 0 < tm A := by have := (hw.1.2.2 0 hn1).1; omega
  have hp8 : 2 ^ tm A ≤ 2 ^ 8 := Nat.pow_le_pow_right (by decide) hm8
  have h256 : (2 : Nat) ^ 8 = 256 := rfl
  have hp2 : 2 ≤ 2 ^ tm A := Nat.le_trans (show 2 ≤ 2 ^ 1 by decide) (Nat.pow_le_pow_right (by decide) hm0)
  obtain ⟨⟨o, x0, x1, x2, x3, x4, x5, x6⟩, ⟨xa, xb⟩, ⟨p0, p1, p2, p3, p4, p5, p6, p7, p8⟩, -⟩ := hx
  obtain ⟨m1, m2, m3, m4⟩ := hA.1
  have hcap : ∀ s, zcu (tm A) (zlw n A) s ≤ 64 := fun s => zcu_le hn2 (fun q hq => (hw.1.2.2 q hq).1)
  apply r_Order_lay hO
  unfold B_Order_lay
  ((with_reducible refine i_Seq (i_sCall (i_as1 (i_A1 (i_as1 (i_FR (i_A0 ?_))))))); (with_reducible refine i_fldR (by assumption) ?_); (with_reducible refine i_as0 ?_); (with_reducible refine i_recv0 (by assumption) ?_))
  refine c_build hO hx0 n57' hA (fun M1 f1 g1 => ⟨rfl, ?_⟩)
  have m21 : M1 ((x + 1 : Nat) : Int) ((4 : Nat) : Int) = ((tm A : Nat) : Int) := by rw [f1 _ _ (by omega)]; exact m2
  obtain ⟨y0, y1, y2, y3⟩ := n57
  ((with_reducible refine i_Seq (i_Set (i_Sub (i_Shl (i_I (i_F (i_FR (i_A1 ?_)))))))); (with_reducible refine i_fldR (by assumption) ?_); (with_reducible refine i_fld (by assumption) ?_); (with_reducible refine i_I (i_Seq (i_sIA (i_FR ?_)))); (rw [m21]); (rw [yshl_1 (show tm A < 31 by omega)]); rw [zx_subc (by omega) (by omega)]; simp only [w_set0, w_set1, w_setn0, w_setn1]; (with_reducible refine i_A0 ?_); (with_reducible refine i_fldR (by assumption) ?_); (with_reducible refine i_L2 (i_I ?_)); (with_reducible refine i_in (by assumption) (by omega) (by omega) ?_); (with_reducible refine i_Seq (i_Blk (i_Seq (i_Set (i_Sub (i_L2 (i_I ?_))))))); rw [zx_subc (by omega) (by omega)]; simp only [w_set0, w_set1, w_setn0, w_setn1])
  obtain ⟨al, hal⟩ : ∃ al, 2 ^ tm A - 1 = al := ⟨_, rfl⟩
  rw [hal]
  (skip)
  refine w_ForN al (fun k ρ M' => (∃ l, ρ = ((156 : Nat) : Int) :: ((x : Nat) : Int) :: ((al : Nat) : Int) :: (((al : Nat) : Int) - 1 - ((k : Nat) : Int)) :: l) ∧ (∀ b j, ¬ b = ((157 : Nat) : Int) → M' b j = M1 b j) ∧ ∃ T, zTbl (tm A) (zlw n A) T (al - k) ∧ ∀ s : Nat, al - k ≤ s → s ≤ al → M' ((157 : Nat) : Int) ((s : Nat) : Int) = ((T s : Nat) : Int) ∧ T s ≤ 1920) ⟨⟨[], by show [_, _, _, _] = [_, _, _, _]; rw [show (((al - 1 : Nat) : Int) : Int) = ((al : Nat) : Int) - 1 - ((0 : Nat) : Int) by omega]⟩, fun b j q => by rw [zg_n _ _ _ (by omega)], fun _ => 0, ⟨rfl, fun s h1 h2 => absurd h2 (by omega)⟩, fun s h1 h2 => by
    obtain rfl : s = al := by omega
    exact ⟨zg_s _ _ _ _ _, Nat.zero_le _⟩⟩ ?_ ?_
  · rintro k ρ M2 X hk1 ⟨⟨l, rfl⟩, f2, T, hT, gT⟩ hX
    obtain ⟨s, hs⟩ : ∃ s, s = al - 1 - k := ⟨_, rfl⟩
    have e0 : (((al : Nat) : Int) - 1 - ((k : Nat) : Int) : Int) = ((s : Nat) : Int) := by omega
    rw [e0]
    have hsm : s < 2 ^ tm A := by omega
    have hA2 : zTR M2 x n A := hA.to (fun b j a1 a2 => by rw [f2 b j (by omega), f1 b j (by omega)])
    have m22 : M2 ((x + 1 : Nat) : Int) ((4 : Nat) : Int) = ((tm A : Nat) : Int) := hA2.1.2.1
    have hB2 : zNR M2 158 n (zBd n A) := g1.to (fun b j a1 a2 => f2 b j (by omega))
    ((with_reducible refine i_turn (i_cZ_ge (i_L3 ?_))); (with_reducible refine i_t (by omega) ?_); (with_reducible refine i_Blk (i_Seq (i_Set (i_I (i_Seq (i_Blk (i_Seq (i_Set (i_I ?_))))))))); simp only [w_set0, w_set1, w_setn0, w_setn1]; rw [w_setT]; simp only [w_set0, w_set1, w_setn0, w_setn1]; rw [w_setT])
    refine w_ForN (tm A) (fun b ρ M' => (∃ l, ρ = ((156 : Nat) : Int) :: ((x : Nat) : Int) :: ((al : Nat) : Int) :: ((s : Nat) : Int) :: ((zmnB (tm A) (zlw n A) T s b : Nat) : Int) :: ((b : Nat) : Int) :: l) ∧ M' = M2) ⟨⟨_, rfl⟩, rfl⟩ ?_ ?_
    · rintro b ρ M3 X3 hb ⟨⟨l3, rfl⟩, rfl⟩ hX3
      have hzl := (zmnB_le (m := tm A) (w := zlw n A) (T := T) (s := s) b).1
      have hX4 : ∀ (l : zLoc) (c : Nat), c = zmnB (tm A) (zlw n A) T s (b + 1) → X3 (((156 : Nat) : Int) :: ((x : Nat) : Int) :: ((al : Nat) : Int) :: ((s : Nat) : Int) :: ((c : Nat) : Int) :: ((b + 1 : Nat) : Int) :: l) M3 := fun l c hc => by subst hc; exact hX3 _ _ ⟨⟨l, rfl⟩, rfl⟩
      unfold zmnB at hX4
      clear hX3
      generalize zmnB (tm A) (zlw n A) T s b = z at hX4 hzl ⊢
      cases e : s.testBit b
      · have h3 := zor_gt e
        have h4 := zor_m hsm hb
        obtain ⟨g3, g4⟩ := gT (s ||| 2 ^ b) (by omega) (by omega)
        have g5 := hcap (s ||| 2 ^ b).testBit
        rw [e, if_neg (by decide)] at hX4
        ((with_reducible refine i_turn (i_cI_lt (i_L5 (i_F (i_FR (i_A1 ?_)))))); (with_reducible refine i_fldR (by assumption) ?_); (with_reducible refine i_fld (by assumption) ?_); (rw [m22]); (with_reducible refine i_t (by omega) ?_); (with_reducible refine i_If (i_cZ_eq (i_And (i_Shr (i_L3 (i_L5 (i_I ?_))))))); (rw [ybit (by omega) (by omega)]); (rw [e]); rw [zbI_f]; simp only [w_set0, w_set1, w_setn0, w_setn1]; (with_reducible refine i_t trivial ?_); (with_reducible refine i_Set (i_MM (i_L4 (i_Call (i_as1 (i_A0 (i_as1 (i_A1 (i_as1 (i_Or (i_L3 (i_Shl (i_I (i_L5 (i_as0 ?_))))))))))))))); (with_reducible refine i_recv0 (by assumption) ?_); (rw [ybor (by omega) (by omega)]); simp only [w_set0, w_set1, w_setn0, w_setn1])
        refine c_sumWith hO hS hx0 hn2 hA2 hw hm8 hB2 (by omega) g3 (by omega) ⟨_, rfl, ?_⟩
        ((with_reducible refine i_up (i_Inc5 ?_)); (rw [zmn4]); rw [zx_inc (by omega)]; simp only [w_set0, w_set1, w_setn0, w_setn1])
        exact hX4 _ _ rfl
      · rw [e, if_pos rfl] at hX4
        ((with_reducible refine i_turn (i_cI_lt (i_L5 (i_F (i_FR (i_A1 ?_)))))); (with_reducible refine i_fldR (by assumption) ?_); (with_reducible refine i_fld (by assumption) ?_); (rw [m22]); (with_reducible refine i_t (by omega) ?_); (with_reducible refine i_If (i_cZ_eq (i_And (i_Shr (i_L3 (i_L5 (i_I ?_))))))); (rw [ybit (by omega) (by omega)]); (rw [e]); rw [zbI_t]; (with_reducible refine i_f (by omega) ?_); (with_reducible refine i_up (i_Inc5 ?_)); rw [zx_inc (by omega)]; simp only [w_set0, w_set1, w_setn0, w_setn1])
        exact hX4 _ _ rfl
    · rintro ρ M3 X3 ⟨⟨l3, rfl⟩, rfl⟩
      have hzl := zmnB_le (m := tm A) (w := zlw n A) (T := T) (s := s) (tm A)
      ((with_reducible refine i_turn (i_cI_lt (i_L5 (i_F (i_FR (i_A1 ?_)))))); (with_reducible refine i_fldR (by assumption) ?_); (with_reducible refine i_fld (by assumption) ?_); (rw [m22]); (with_reducible refine i_f (by omega) ?_); (with_reducible refine i_sIA (i_FR (i_A0 ?_))); (with_reducible refine i_fldR (by assumption) ?_); (with_reducible refine i_L3 (i_L4 ?_)); (with_reducible refine i_in (by assumption) (by omega) (by omega) ?_); (with_reducible refine i_up (i_Inc3 ?_)); rw [zx_s (by omega) (by omega)]; simp only [w_set0, w_set1, w_setn0, w_setn1])
      have hTe : ∀ k, zmnB (tm A) (zlw n A) (fun s' => if s' = s then zmnB (tm A) (zlw n A) T s (tm A) else T s') s k = zmnB (tm A) (zlw n A) T s k := fun k => by
        induction k with
        | zero => rfl
        | succ k ih =>
          unfold zmnB
          rw [ih]
          cases e : s.testBit k
          · have h3 := zor_gt e
            (try dsimp only)
            rw [if_neg (show ¬ s ||| 2 ^ k = s by omega)]
          · rfl
      have hTo : ∀ s', s < s' → ∀ k, zmnB (tm A) (zlw n A) (fun s' => if s' = s then zmnB (tm A) (zlw n A) T s (tm A) else T s') s' k = zmnB (tm A) (zlw n A) T s' k := fun s' hs' k => by
        induction k with
        | zero => rfl
        | succ k ih =>
          unfold zmnB
          rw [ih]
          cases e : s'.testBit k
          · have h3 := zor_gt e
            (try dsimp only)
            rw [if_neg (show ¬ s' ||| 2 ^ k = s by omega)]
          · rfl
      refine hX _ _ ⟨⟨_, by rw [show (((s : Nat) : Int) + -1 : Int) = ((al : Nat) : Int) - 1 - ((k + 1 : Nat) : Int) by omega]⟩, fun b j q => by rw [zg_n _ _ _ (by omega)]; exact f2 b j q, fun s' => if s' = s then zmnB (tm A) (zlw n A) T s (tm A) else T s', ⟨by (try dsimp only); rw [if_neg (by omega)]; exact hT.1, fun s' h1 h2 => ?_⟩, fun s' h1 h2 => ?_⟩
      · by_cases e : s' = s
        · subst e
          (try dsimp only)
          rw [if_pos rfl, hTe]
        · (try dsimp only)
          rw [if_neg e, hTo s' (by omega)]
          exact hT.2 s' (by omega) h2
      · by_cases e : s' = s
        · subst e
          (try dsimp only)
          rw [if_pos rfl]
          exact ⟨zg_s _ _ _ _ _, hzl.1⟩
        · (try dsimp only)
          rw [if_neg e, zg_m _ _ _ _ _ (by omega)]
          exact gT s' (by omega) h2
  · rintro ρ M2 X ⟨⟨l, rfl⟩, f2, T, hT, gT⟩
    rw [Nat.sub_self] at hT
    obtain ⟨g0, g1'⟩ := gT 0 (by omega) (by omega)
    have g00 : M2 ((157 : Nat) : Int) 0 = ((T 0 : Nat) : Int) := g0
    ((with_reducible refine i_turn (i_cZ_ge (i_L3 ?_))); (with_reducible refine i_f (by omega) ?_); (with_reducible refine i_RetI (i_IA (i_FR (i_A0 ?_)))); (with_reducible refine i_fldR (by assumption) ?_); (with_reducible refine i_I ?_); (with_reducible refine i_in (by assumption) (by omega) (by omega) ?_); (rw [g00]))
    exact hk M2 T (fun b j q => by rw [f2 b j (by omega), f1 b j (by omega)]) (g1.to (fun b j a1 a2 => f2 b j (by omega))) hT (fun s hs => gT s (by omega) (by omega))
theorem c_boxAt {O : zOm} (hO : zWld O) (hS : zS O = zmS zC0) {x n i : Nat} {A : zTl} {T : Nat → Nat} {M : zMem} {K : Option zV → zMem → Prop} (hx : zTeC (zS O) x) (hn2 : n ≤ 16) (hA : zTR M x n A) (hw : zTw n A) (hm8 : tm A ≤ 8) (hB : zNR M 158 n (zBd n A)) (hT : zTbl (tm A) (zlw n A) T 0) (hTM : ∀ s : Nat, s < 2 ^ tm A → M ((157 : Nat) : Int) ((s : Nat) : Int) = ((T s : Nat) : Int) ∧ T s ≤ 1920) (hi : i < tm A)
    (hk : K (some (0, ((zLin (tm A) (zlw n A) i : Nat) : Int))) M) : zR O F_Order_boxAt [(2, ((156 : Nat) : Int)), (2, ((x : Nat) : Int)), (0, ((i : Nat) : Int))] M K := by
  obtain ⟨⟨s0, s1, s2, s3, s4, s5, s6, s7⟩, ⟨n57, n59, n61⟩, a164, a165⟩ := zO156_ok hS
  have hx0 := hx
  have hcap : ∀ s, zcu (tm A) (zlw n A) s ≤ 64 := fun s => zcu_le hn2 (fun q hq => (hw.1.2.2 q hq).1)
  obtain ⟨hg, hgs⟩ := zgr_of hT hm8 hcap
  have hp8 : 2 ^ tm A ≤ 2 ^ 8 := Nat.pow_le_pow_right (by decide) hm8
  have h256 : (2 : Nat) ^ 8 = 256 := rfl
  rw [← (zLin_g hT hm8 hcap).2 i hi] at hk
  obtain ⟨⟨o, x0, x1, x2, x3, x4, x5, x6⟩, ⟨xa, xb⟩, ⟨p0, p1, p2, p3, p4, p5, p6, p7, p8⟩, -⟩ := hx
  obtain ⟨m1, m2, m3, m4⟩ := hA.1
  apply r_Order_boxAt hO
  unfold B_Order_boxAt
  ((with_reducible refine i_Seq (i_Set (i_I (i_Seq (i_Set (i_I (i_Seq (i_Blk (i_Seq (i_Set (i_I ?_))))))))))); simp only [w_set0, w_set1, w_setn0, w_setn1])
  refine w_ForN (i + 1) (fun k ρ M' => (∃ l, ρ = ((156 : Nat) : Int) :: ((x : Nat) : Int) :: ((i : Nat) : Int) :: ((zgs2 (tm A) (zlw n A) T k : Nat) : Int) :: (if k = 0 then -1 else ((zgb2 (tm A) (zlw n A) T (k - 1) : Nat) : Int)) :: ((k : Nat) : Int) :: l) ∧ M' = M) ⟨⟨_, rfl⟩, rfl⟩ ?_ ?_
  · rintro k ρ M1 X hk1 ⟨⟨l, rfl⟩, rfl⟩ hX
    have hsm := (hgs k (by omega)).1
    have hgb := (hg k (by omega)).1
    have hfi : zfind (zcan (tm A) (zlw n A) T (zgs2 (tm A) (zlw n A) T k)) (tm A) < tm A := hgb
    obtain ⟨z1, z2, z3⟩ := zfind_ok (zcan (tm A) (zlw n A) T (zgs2 (tm A) (zlw n A) T k)) (tm A)
    have z2' := z2 hfi
    have hX2 : ∀ l, X (((156 : Nat) : Int) :: ((x : Nat) : Int) :: ((i : Nat) : Int) :: ((zgs2 (tm A) (zlw n A) T k ||| 2 ^ zfind (zcan (tm A) (zlw n A) T (zgs2 (tm A) (zlw n A) T k)) (tm A) : Nat) : Int) :: ((zfind (zcan (tm A) (zlw n A) T (zgs2 (tm A) (zlw n A) T k)) (tm A) : Nat) : Int) :: ((k + 1 : Nat) : Int) :: l) M1 := fun l => hX _ _ ⟨⟨l, by rw [if_neg (by omega), Nat.add_sub_cancel]; rfl⟩, rfl⟩
    clear hX hk
    generalize zfind (zcan (tm A) (zlw n A) T (zgs2 (tm A) (zlw n A) T k)) (tm A) = f at hfi z2' z3 hX2
    generalize zgs2 (tm A) (zlw n A) T k = s at hsm z2' z3 hX2 ⊢
    generalize (if k = 0 then (-1 : Int) else ((zgb2 (tm A) (zlw n A) T (k - 1) : Nat) : Int)) = la
    ((with_reducible refine i_turn (i_cI_le (i_L5 (i_L2 ?_)))); (with_reducible refine i_t (by omega) ?_); (with_reducible refine i_Blk (i_Seq (i_Set (i_I (i_Seq ?_))))); simp only [w_set0, w_set1, w_setn0, w_setn1]; rw [w_setT])
    refine w_WhileN f (fun b ρ M' => (∃ l, ρ = ((156 : Nat) : Int) :: ((x : Nat) : Int) :: ((i : Nat) : Int) :: ((s : Nat) : Int) :: la :: ((k : Nat) : Int) :: ((b : Nat) : Int) :: l) ∧ M' = M1) ⟨⟨_, rfl⟩, rfl⟩ ?_ ?_
    · rintro b ρ M2 X2 hb ⟨⟨l2, rfl⟩, rfl⟩ hX2'
      have hor := zor_m hsm (show b < tm A by omega)
      obtain ⟨g3, g4⟩ := hTM _ hor
      obtain ⟨g5, g6⟩ := hTM _ hsm
      have h0 := z3 b hb
      unfold zcan at h0
      ((with_reducible refine i_turn (i_cAnd (i_cI_lt (i_L6 (i_F (i_FR (i_A1 ?_))))))); (with_reducible refine i_fldR (by assumption) ?_); (with_reducible refine i_fld (by assumption) ?_); (rw [m2]); (with_reducible refine i_t (by omega) ?_); (with_reducible refine i_cNot (i_cZ_ne (i_Call (i_as1 (i_A0 (i_as1 (i_A1 (i_as1 (i_L3 (i_as1 (i_L6 (i_as0 ?_)))))))))))); (with_reducible refine i_recv0 (by assumption) ?_))
      refine c_canFollow hO hS hx0 hn2 hA hw hm8 hB hsm (by omega) g3 (by omega) g5 ⟨_, rfl, ?_⟩
      rw [h0]
      (rw [zbI_f]; (with_reducible refine i_f (by omega) ?_); (with_reducible refine i_Inc6 ?_); rw [zx_inc (by omega)]; simp only [w_set0, w_set1, w_setn0, w_setn1])
      exact hX2' _ _ ⟨⟨_, rfl⟩, rfl⟩
    · rintro ρ M2 X2 ⟨⟨l2, rfl⟩, rfl⟩
      have hor := zor_m hsm hfi
      obtain ⟨g3, g4⟩ := hTM _ hor
      obtain ⟨g5, g6⟩ := hTM _ hsm
      unfold zcan at z2'
      ((with_reducible refine i_turn (i_cAnd (i_cI_lt (i_L6 (i_F (i_FR (i_A1 ?_))))))); (with_reducible refine i_fldR (by assumption) ?_); (with_reducible refine i_fld (by assumption) ?_); (rw [m2]); (with_reducible refine i_t (by omega) ?_); (with_reducible refine i_cNot (i_cZ_ne (i_Call (i_as1 (i_A0 (i_as1 (i_A1 (i_as1 (i_L3 (i_as1 (i_L6 (i_as0 ?_)))))))))))); (with_reducible refine i_recv0 (by assumption) ?_))
      refine c_canFollow hO hS hx0 hn2 hA hw hm8 hB hsm hfi g3 (by omega) g5 ⟨_, rfl, ?_⟩
      rw [z2']
      (rw [zbI_t]; (with_reducible refine i_t (by omega) ?_); (with_reducible refine i_If (i_cI_lt (i_L6 (i_F (i_FR (i_A1 ?_)))))); (with_reducible refine i_fldR (by assumption) ?_); (with_reducible refine i_fld (by assumption) ?_); (rw [m2]); (with_reducible refine i_t (by omega) ?_); (with_reducible refine i_Seq (i_Set (i_L6 (i_Set (i_Or ?_))))); simp only [w_set0, w_set1, w_setn0, w_setn1]; (with_reducible refine i_L3 (i_Shl (i_I (i_L6 (i_up ?_))))); (rw [ybor (by omega) (by omega)]); simp only [w_set0, w_set1, w_setn0, w_setn1]; (with_reducible refine i_Inc5 ?_); rw [zx_inc (by omega)]; simp only [w_set0, w_set1, w_setn0, w_setn1])
      exact hX2 _
  · rintro ρ M1 X ⟨⟨l, rfl⟩, rfl⟩
    rw [if_neg (by omega), Nat.add_sub_cancel]
    ((with_reducible refine i_turn (i_cI_le (i_L5 (i_L2 ?_)))); (with_reducible refine i_f (by omega) ?_); (with_reducible refine i_RetI (i_L4 ?_)))
    exact hk
theorem c_line_bad {O : zOm} (hO : zWld O) (hS : zS O = zmS zC0) {t : Int} {T : Nat} {M : zMem} {K : Option zV → zMem → Prop} (hT : M ((0 : Nat) : Int) ((4 : Nat) : Int) = ((T : Nat) : Int)) (hT5 : T ≤ 5) (ht : ¬ (0 ≤ t ∧ t < ((T : Nat) : Int))) (hk : K (some (0, -1)) M) : zR O F_ToldNet_line [(2, ((0 : Nat) : Int)), (0, t)] M K := by
  apply r_ToldNet_line hO
  unfold B_ToldNet_line
  have f0_10 := zf_0_10 hS; have z0 := zo_0 hS; have z156 := zo_156 hS
  ((with_reducible refine i_Seq (i_Set (i_Call (i_as1 (i_A0 (i_as1 (i_L1 (i_as0 ?_)))))))); (with_reducible refine i_recv0 (by assumption) ?_); simp only [w_set0, w_set1, w_setn0, w_setn1])
  refine c_find hO hS hT hT5 (fun hx => ⟨_, rfl, ?_⟩) (fun k e hk1 => absurd (show 0 ≤ t ∧ t < ((T : Nat) : Int) by omega) ht)
  ((with_reducible refine i_Seq (i_If (i_cN (i_A2 ?_)))); simp only [w_set0, w_set1, w_setn0, w_setn1]; (with_reducible refine i_t trivial ?_); (with_reducible refine i_RetI (i_I ?_)))
  exact hk
theorem c_line_big {O : zOm} (hO : zWld O) (hS : zS O = zmS zC0) {t T n : Nat} {A : zTl} {M : zMem} {K : Option zV → zMem → Prop} (hT : M ((0 : Nat) : Int) ((4 : Nat) : Int) = ((T : Nat) : Int)) (hT5 : T ≤ 5) (ht : t < T) (hA : zTR M (185 + 13 * t) n A) (hm : 8 < tm A) (hk : K (some (0, -2)) M) : zR O F_ToldNet_line [(2, ((0 : Nat) : Int)), (0, ((t : Nat) : Int))] M K := by
  obtain ⟨⟨x0, x1, x2, x3, x4, x5, x6, x7⟩, -, ⟨p0, p1, p2, p3, p4, p5, p6, p7, p8⟩, -⟩ := zTelT hS (show t < 5 by omega)
  have g := hA.1.2.1
  apply r_ToldNet_line hO
  unfold B_ToldNet_line
  have f0_10 := zf_0_10 hS; have z0 := zo_0 hS; have z156 := zo_156 hS
  ((with_reducible refine i_Seq (i_Set (i_Call (i_as1 (i_A0 (i_as1 (i_L1 (i_as0 ?_)))))))); (with_reducible refine i_recv0 (by assumption) ?_); simp only [w_set0, w_set1, w_setn0, w_setn1])
  refine c_find hO hS hT hT5 (fun hx => absurd (show 0 ≤ ((t : Nat) : Int) ∧ ((t : Nat) : Int) < ((T : Nat) : Int) by omega) hx) (fun k e hk1 => ⟨_, rfl, ?_⟩)
  rw [show k = t by omega]
  ((with_reducible refine i_Seq (i_If (i_cN (i_A2 ?_)))); (with_reducible refine i_f (by omega) ?_); (with_reducible refine i_RetI (i_eIf (i_cI_gt (i_F (i_FR (i_A2 ?_)))))); (with_reducible refine i_fldR (by assumption) ?_); (with_reducible refine i_fld (by assumption) ?_); (with_reducible refine i_I ?_); (rw [g]); (with_reducible refine i_t (by omega) ?_); (with_reducible refine i_I ?_))
  exact hk
theorem c_line {O : zOm} (hO : zWld O) (hS : zS O = zmS zC0) {t T n : Nat} {A : zTl} {M : zMem} {K : Option zV → zMem → Prop} (hT : M ((0 : Nat) : Int) ((4 : Nat) : Int) = ((T : Nat) : Int)) (hT5 : T ≤ 5) (ht : t < T) (hn1 : 0 < n) (hn2 : n ≤ 16) (hA : zTR M (185 + 13 * t) n A) (hw : zTw n A) (hm8 : tm A ≤ 8)
    (hk : ∀ M', (∀ b j, ¬ (((157 : Nat) : Int) ≤ b ∧ b ≤ ((159 : Nat) : Int)) → M' b j = M b j) → K (some (0, ((zst2 (tm A) (zlw n A) (zLin (tm A) (zlw n A)) : Nat) : Int))) M') : zR O F_ToldNet_line [(2, ((0 : Nat) : Int)), (0, ((t : Nat) : Int))] M K := by
  have hxT := zTelT hS (show t < 5 by omega)
  obtain ⟨⟨x0, x1, x2, x3, x4, x5, x6, x7⟩, -, ⟨p0, p1, p2, p3, p4, p5, p6, p7, p8⟩, -⟩ := id hxT
  have g := hA.1.2.1
  have o156 := zo_156 hS
  have hcap : ∀ s, zcu (tm A) (zlw n A) s ≤ 64 := fun s => zcu_le hn2 (fun q hq => (hw.1.2.2 q hq).1)
  apply r_ToldNet_line hO
  unfold B_ToldNet_line
  have f0_10 := zf_0_10 hS; have z0 := zo_0 hS; have z156 := zo_156 hS
  ((with_reducible refine i_Seq (i_Set (i_Call (i_as1 (i_A0 (i_as1 (i_L1 (i_as0 ?_)))))))); (with_reducible refine i_recv0 (by assumption) ?_); simp only [w_set0, w_set1, w_setn0, w_setn1])
  refine c_find hO hS hT hT5 (fun hx => absurd (show 0 ≤ ((t : Nat) : Int) ∧ ((t : Nat) : Int) < ((T : Nat) : Int) by omega) hx) (fun k e hk1 => ⟨_, rfl, ?_⟩)
  rw [show k = t by omega]
  ((with_reducible refine i_Seq (i_If (i_cN (i_A2 ?_)))); (with_reducible refine i_f (by omega) ?_); (with_reducible refine i_RetI (i_eIf (i_cI_gt (i_F (i_FR (i_A2 ?_)))))); (with_reducible refine i_fldR (by assumption) ?_); (with_reducible refine i_fld (by assumption) ?_); (with_reducible refine i_I ?_); (rw [g]); (with_reducible refine i_f (by omega) ?_); (with_reducible refine i_Call (i_as1 (i_FR (i_A0 ?_)))); (with_reducible refine i_fldR (by assumption) ?_); (with_reducible refine i_as1 (i_A2 (i_as0 ?_))); (with_reducible refine i_recv0 (by assumption) ?_))
  refine c_lay hO hS hxT (by omega) hn1 hn2 hA hw hm8 (fun M1 T1 f1 g1 h1 h2 => ⟨_, rfl, ?_⟩)
  rw [(zLin_g h1 hm8 hcap).1]
  (skip)
  exact hk M1 f1
theorem c_at_bad {O : zOm} (hO : zWld O) (hS : zS O = zmS zC0) {t i : Int} {T n : Nat} {A : Nat → zTl} {M : zMem} {K : Option zV → zMem → Prop} (hT : M ((0 : Nat) : Int) ((4 : Nat) : Int) = ((T : Nat) : Int)) (hT5 : T ≤ 5) (hA : ∀ t : Nat, t < T → zTR M (185 + 13 * t) n (A t)) (hb : ∀ t' : Nat, t = ((t' : Nat) : Int) → t' < T → ¬ (tm (A t') ≤ 8 ∧ 0 ≤ i ∧ i < ((tm (A t') : Nat) : Int))) (hk : K (some (0, -1)) M) : zR O F_ToldNet_at [(2, ((0 : Nat) : Int)), (0, t), (0, i)] M K := by
  apply r_ToldNet_at hO
  unfold B_ToldNet_at
  have f0_10 := zf_0_10 hS; have z0 := zo_0 hS; have z156 := zo_156 hS
  ((with_reducible refine i_Seq (i_Set (i_Call (i_as1 (i_A0 (i_as1 (i_L1 (i_as0 ?_)))))))); (with_reducible refine i_recv0 (by assumption) ?_); simp only [w_set0, w_set1, w_setn0, w_setn1])
  refine c_find hO hS hT hT5 (fun hx => ⟨_, rfl, ?_⟩) (fun k e hk1 => ⟨_, rfl, ?_⟩)
  · ((with_reducible refine i_Seq (i_If (i_cOr (i_cOr (i_cOr (i_cN (i_A3 ?_))))))); simp only [w_set0, w_set1, w_setn0, w_setn1]; (with_reducible refine i_t trivial ?_); (with_reducible refine i_RetI (i_I ?_)))
    exact hk
  · obtain ⟨⟨x0, x1, x2, x3, x4, x5, x6, x7⟩, -, ⟨p0, p1, p2, p3, p4, p5, p6, p7, p8⟩, -⟩ := zTelT hS (show k < 5 by omega)
    have g := (hA k hk1).1.2.1
    have h2 := hb k e hk1
    by_cases e1 : 8 < tm (A k)
    · ((with_reducible refine i_Seq (i_If (i_cOr (i_cOr (i_cOr (i_cN (i_A3 ?_))))))); (with_reducible refine i_f (by omega) ?_); (with_reducible refine i_cI_gt (i_F (i_FR (i_A3 ?_)))); (with_reducible refine i_fldR (by assumption) ?_); (with_reducible refine i_fld (by assumption) ?_); (with_reducible refine i_I ?_); (rw [g]); (with_reducible refine i_t (by omega) ?_); (with_reducible refine i_RetI (i_I ?_)))
      exact hk
    · by_cases e2 : i < 0
      · ((with_reducible refine i_Seq (i_If (i_cOr (i_cOr (i_cOr (i_cN (i_A3 ?_))))))); (with_reducible refine i_f (by omega) ?_); (with_reducible refine i_cI_gt (i_F (i_FR (i_A3 ?_)))); (with_reducible refine i_fldR (by assumption) ?_); (with_reducible refine i_fld (by assumption) ?_); (with_reducible refine i_I ?_); (rw [g]); (with_reducible refine i_f (by omega) ?_); (with_reducible refine i_cZ_lt (i_L2 ?_)); (with_reducible refine i_t (by omega) ?_); (with_reducible refine i_RetI (i_I ?_)))
        exact hk
      · ((with_reducible refine i_Seq (i_If (i_cOr (i_cOr (i_cOr (i_cN (i_A3 ?_))))))); (with_reducible refine i_f (by omega) ?_); (with_reducible refine i_cI_gt (i_F (i_FR (i_A3 ?_)))); (with_reducible refine i_fldR (by assumption) ?_); (with_reducible refine i_fld (by assumption) ?_); (with_reducible refine i_I ?_); (rw [g]); (with_reducible refine i_f (by omega) ?_); (with_reducible refine i_cZ_lt (i_L2 ?_)); (with_reducible refine i_f (by omega) ?_); (with_reducible refine i_cI_ge (i_L2 (i_F (i_FR (i_A3 ?_))))); (with_reducible refine i_fldR (by assumption) ?_); (with_reducible refine i_fld (by assumption) ?_); (rw [g]); (with_reducible refine i_t (by omega) ?_); (with_reducible refine i_RetI (i_I ?_)))
        exact hk
theorem c_at {O : zOm} (hO : zWld O) (hS : zS O = zmS zC0) {t T n i : Nat} {A : zTl} {M : zMem} {K : Option zV → zMem → Prop} (hT : M ((0 : Nat) : Int) ((4 : Nat) : Int) = ((T : Nat) : Int)) (hT5 : T ≤ 5) (ht : t < T) (hn1 : 0 < n) (hn2 : n ≤ 16) (hA : zTR M (185 + 13 * t) n A) (hw : zTw n A) (hm8 : tm A ≤ 8) (hi : i < tm A)
    (hk : ∀ M', (∀ b j, ¬ (((157 : Nat) : Int) ≤ b ∧ b ≤ ((159 : Nat) : Int)) → M' b j = M b j) → K (some (0, ((zLin (tm A) (zlw n A) i : Nat) : Int))) M') : zR O F_ToldNet_at [(2, ((0 : Nat) : Int)), (0, ((t : Nat) : Int)), (0, ((i : Nat) : Int))] M K := by
  have hxT := zTelT hS (show t < 5 by omega)
  obtain ⟨⟨x0, x1, x2, x3, x4, x5, x6, x7⟩, -, ⟨p0, p1, p2, p3, p4, p5, p6, p7, p8⟩, -⟩ := id hxT
  have g := hA.1.2.1
  have o156 := zo_156 hS
  apply r_ToldNet_at hO
  unfold B_ToldNet_at
  have f0_10 := zf_0_10 hS; have z0 := zo_0 hS; have z156 := zo_156 hS
  ((with_reducible refine i_Seq (i_Set (i_Call (i_as1 (i_A0 (i_as1 (i_L1 (i_as0 ?_)))))))); (with_reducible refine i_recv0 (by assumption) ?_); simp only [w_set0, w_set1, w_setn0, w_setn1])
  refine c_find hO hS hT hT5 (fun hx => absurd (show 0 ≤ ((t : Nat) : Int) ∧ ((t : Nat) : Int) < ((T : Nat) : Int) by omega) hx) (fun k e hk1 => ⟨_, rfl, ?_⟩)
  rw [show k = t by omega]
  ((with_reducible refine i_Seq (i_If (i_cOr (i_cOr (i_cOr (i_cN (i_A3 ?_))))))); (with_reducible refine i_f (by omega) ?_); (with_reducible refine i_cI_gt (i_F (i_FR (i_A3 ?_)))); (with_reducible refine i_fldR (by assumption) ?_); (with_reducible refine i_fld (by assumption) ?_); (with_reducible refine i_I ?_); (rw [g]); (with_reducible refine i_f (by omega) ?_); (with_reducible refine i_cZ_lt (i_L2 ?_)); (with_reducible refine i_f (by omega) ?_); (with_reducible refine i_cI_ge (i_L2 (i_F (i_FR (i_A3 ?_))))); (with_reducible refine i_fldR (by assumption) ?_); (with_reducible refine i_fld (by assumption) ?_); (rw [g]); (with_reducible refine i_f (by omega) ?_); (with_reducible refine i_Seq (i_Pop (i_Call (i_as1 (i_FR (i_A0 ?_)))))); (with_reducible refine i_fldR (by assumption) ?_); (with_reducible refine i_as1 (i_A3 (i_as0 ?_))); (with_reducible refine i_recv0 (by assumption) ?_))
  refine c_lay hO hS hxT (by omega) hn1 hn2 hA hw hm8 (fun M1 T1 f1 g1 h1 h2 => ⟨_, rfl, ?_⟩)
  ((with_reducible refine i_RetI (i_Call (i_as1 (i_FR (i_A0 ?_))))); (with_reducible refine i_fldR (by assumption) ?_); (with_reducible refine i_as1 (i_A3 (i_as1 (i_L2 (i_as0 ?_))))); (with_reducible refine i_recv0 (by assumption) ?_))
  refine c_boxAt hO hS hxT hn2 (hA.to (fun b j a1 a2 => f1 b j (by omega))) hw hm8 g1 h1 h2 hi ⟨_, rfl, ?_⟩
  (skip)
  exact hk M1 f1
end
section
-- part k0.tok.lean.txt
/-! ===== tokens of a text: mathematics ===== -/
/-- the sort of a byte: 0 blank, 1 letter, 2 digit, 3 semicolon, 4 other -/
def zkcs (c : Nat) : Nat := if c = 9 ∨ c = 10 ∨ c = 13 ∨ c = 32 then 0 else if 97 ≤ c ∧ c ≤ 122 then 1 else if 48 ≤ c ∧ c ≤ 57 then 2 else if c = 59 then 3 else 4
def zby (B : Nat → Nat) (s k : Nat) : Nat := if k < s then B k else 0
def zsr (B : Nat → Nat) (s k : Nat) : Nat := zkcs (zby B s k)
theorem zsr_end {B : Nat → Nat} {s k : Nat} (h : s ≤ k) : zsr B s k = 4 := by
  unfold zsr zby
  rw [if_neg (by omega)]
  rfl
theorem zsr_in {B : Nat → Nat} {s k : Nat} (h : k < s) : zsr B s k = zkcs (B k) := by
  unfold zsr zby
  rw [if_pos h]
theorem zkcs_le (c : Nat) : zkcs c ≤ 4 := by
  unfold zkcs
  split
  · omega
  · split
    · omega
    · split
      · omega
      · split <;> omega
theorem zkcs_1 {c : Nat} (h : zkcs c = 1) : 97 ≤ c ∧ c ≤ 122 := by
  unfold zkcs at h
  split at h
  · omega
  · split at h
    · omega
    · split at h
      · omega
      · split at h <;> omega
theorem zkcs_2 {c : Nat} (h : zkcs c = 2) : 48 ≤ c ∧ c ≤ 57 := by
  unfold zkcs at h
  split at h
  · omega
  · split at h
    · omega
    · split at h
      · omega
      · split at h <;> omega
theorem zkcs_3 {c : Nat} (h : zkcs c = 3) : c = 59 := by
  unfold zkcs at h
  split at h
  · omega
  · split at h
    · omega
    · split at h
      · omega
      · split at h <;> omega
/-- the first place from k on that isn't blank -/
def zksk (B : Nat → Nat) (s k : Nat) : Nat := zfind (fun j => decide (k ≤ j ∧ zsr B s j ≠ 0)) s
theorem zksk_ok (B : Nat → Nat) {s k : Nat} (h : k ≤ s) : k ≤ zksk B s k ∧ zksk B s k ≤ s ∧ (∀ j, k ≤ j → j < zksk B s k → zsr B s j = 0) ∧ zsr B s (zksk B s k) ≠ 0 := by
  obtain ⟨a, b, c⟩ := zfind_ok (fun j => decide (k ≤ j ∧ zsr B s j ≠ 0)) s
  have e : zksk B s k = zfind (fun j => decide (k ≤ j ∧ zsr B s j ≠ 0)) s := rfl
  rw [← e] at a b c
  refine ⟨?_, a, fun j h1 h2 => ?_, ?_⟩
  · rcases Nat.lt_or_ge (zksk B s k) s with q | q
    · exact (of_decide_eq_true (b q)).1
    · omega
  · have := of_decide_eq_false (c j h2)
    exact Classical.byContradiction fun z => this ⟨h1, z⟩
  · rcases Nat.lt_or_ge (zksk B s k) s with q | q
    · exact (of_decide_eq_true (b q)).2
    · rw [zsr_end q]; decide
theorem zksk_s (B : Nat → Nat) (s : Nat) : zksk B s s = s := by
  have := zksk_ok B (Nat.le_refl s)
  omega
/-- the token that begins at k goes on over j -/
def zcp (B : Nat → Nat) (s k j : Nat) : Bool := decide (zsr B s j = zsr B s k ∧ (zsr B s k = 1 ∨ zsr B s k = 2))
def zen (B : Nat → Nat) (s k : Nat) : Nat := zfind (fun j => decide (k < j) && !zcp B s k j) s
theorem zen_ok (B : Nat → Nat) {s k : Nat} (h : k < s) : k < zen B s k ∧ zen B s k ≤ s ∧ (∀ j, k < j → j < zen B s k → zcp B s k j = true) ∧ zcp B s k (zen B s k) = false := by
  obtain ⟨a, b, c⟩ := zfind_ok (fun j => decide (k < j) && !zcp B s k j) s
  have e : zen B s k = zfind (fun j => decide (k < j) && !zcp B s k j) s := rfl
  rw [← e] at a b c
  refine ⟨?_, a, fun j h1 h2 => ?_, ?_⟩
  · rcases Nat.lt_or_ge (zen B s k) s with q | q
    · have := b q
      rw [Bool.and_eq_true] at this
      exact of_decide_eq_true this.1
    · omega
  · have := c j h2
    rw [decide_eq_true h1, Bool.true_and] at this
    cases z : zcp B s k j
    · rw [z] at this; cases this
    · rfl
  · rcases Nat.lt_or_ge (zen B s k) s with q | q
    · have := b q
      rw [Bool.and_eq_true] at this
      cases z : zcp B s k (zen B s k)
      · rfl
      · rw [z] at this; cases this.2
    · refine decide_eq_false fun z => ?_
      rw [zsr_end q] at z
      omega
theorem zen_s (B : Nat → Nat) (s : Nat) : zen B s s = s := by
  obtain ⟨a, b, c⟩ := zfind_ok (fun j => decide (s < j) && !zcp B s s j) s
  have e : zen B s s = zfind (fun j => decide (s < j) && !zcp B s s j) s := rfl
  rw [← e] at a b c
  rcases Nat.lt_or_ge (zen B s s) s with q | q
  · have := b q
    rw [Bool.and_eq_true] at this
    have := of_decide_eq_true this.1
    omega
  · omega
theorem zcp_t {B : Nat → Nat} {s k j : Nat} (h : zcp B s k j = true) : zsr B s j = zsr B s k ∧ (zsr B s k = 1 ∨ zsr B s k = 2) := of_decide_eq_true h
theorem zcp_f {B : Nat → Nat} {s k j : Nat} (h : zcp B s k j = false) : ¬ (zsr B s j = zsr B s k ∧ (zsr B s k = 1 ∨ zsr B s k = 2)) := of_decide_eq_false h
/-- a number out of bytes -/
def zvg (m d : Nat) (B : Nat → Nat) (k : Nat) : Nat → Nat
  | 0 => 0
  | c + 1 => zvg m d B k c * m + (B (k + c) - d)
theorem zvg_lt {m d : Nat} {B : Nat → Nat} {k : Nat} : ∀ (c : Nat), (∀ j, j < c → B (k + j) - d < m) → zvg m d B k c < m ^ c := by
  intro c
  induction c with
  | zero => exact fun _ => Nat.one_pos
  | succ c ih =>
    intro h
    have h1 := ih (fun j hj => h j (by omega))
    have h2 := h c (by omega)
    show zvg m d B k c * m + (B (k + c) - d) < m ^ (c + 1)
    rw [Nat.pow_succ]
    have h3 : (zvg m d B k c + 1) * m ≤ m ^ c * m := Nat.mul_le_mul_right _ h1
    rw [Nat.succ_mul] at h3
    omega
def zkvl (B : Nat → Nat) (s k e : Nat) : Nat := if zsr B s k = 1 then zvg 27 96 B k (min (e - k) 8) else zvg 10 48 B k (min (e - k) 8)
def zwn (v : Nat) : Nat := if v = 1887 then 3 else if v = 1960177 then 4 else if v = 1752773 then 5 else if v = 10277596 then 6 else if v = 388602 then 7 else if v = 10631 then 8 else if v = 28959 then 9 else 0
theorem zwn_le (v : Nat) : zwn v = 0 ∨ 3 ≤ zwn v ∧ zwn v ≤ 9 := by
  unfold zwn
  split
  · first | exact Or.inl rfl | exact Or.inr ⟨by decide, by decide⟩
  · split
    · first | exact Or.inl rfl | exact Or.inr ⟨by decide, by decide⟩
    · split
      · first | exact Or.inl rfl | exact Or.inr ⟨by decide, by decide⟩
      · split
        · first | exact Or.inl rfl | exact Or.inr ⟨by decide, by decide⟩
        · split
          · first | exact Or.inl rfl | exact Or.inr ⟨by decide, by decide⟩
          · split
            · first | exact Or.inl rfl | exact Or.inr ⟨by decide, by decide⟩
            · split <;> (first | exact Or.inl rfl | exact Or.inr ⟨by decide, by decide⟩)
/-- the kind of a token: 0 a name, 1 a number, 2 the sign, 3 to 9 the words that are quoted, 10 none -/
def zkd (B : Nat → Nat) (s k e : Nat) : Nat := if zsr B s k = 1 then (if 8 < e - k then 10 else zwn (zkvl B s k e)) else if zsr B s k = 2 then (if 4 < e - k then 10 else 1) else if zsr B s k = 3 then 2 else 10
def zps (B : Nat → Nat) (s : Nat) : Nat → Nat
  | 0 => zksk B s 0
  | i + 1 => zksk B s (zen B s (zps B s i))
def zKi (B : Nat → Nat) (s i : Nat) : Nat := zkd B s (zps B s i) (zen B s (zps B s i))
def zVi (B : Nat → Nat) (s i : Nat) : Nat := zkvl B s (zps B s i) (zen B s (zps B s i))
theorem zps_le (B : Nat → Nat) (s i : Nat) : zps B s i ≤ s := by
  cases i with
  | zero => exact (zksk_ok B (Nat.zero_le s)).2.1
  | succ i => exact zfind_le _ _
theorem zps_su {B : Nat → Nat} {s i : Nat} (h : zps B s i < s) : zps B s i < zps B s (i + 1) := by
  obtain ⟨a, b, -⟩ := zen_ok B h
  obtain ⟨c, -⟩ := zksk_ok B b
  show zps B s i < zksk B s (zen B s (zps B s i))
  omega
theorem zps_st {B : Nat → Nat} {s i : Nat} (h : zps B s i = s) : zps B s (i + 1) = s := by
  show zksk B s (zen B s (zps B s i)) = s
  rw [h, zen_s, zksk_s]
theorem zps_ge {B : Nat → Nat} {s : Nat} (i : Nat) : zps B s i = s ∨ i ≤ zps B s i := by
  induction i with
  | zero => exact Or.inr (Nat.zero_le _)
  | succ i ih =>
    have hl := zps_le B s i
    rcases Nat.lt_or_ge (zps B s i) s with q | q
    · have := zps_su q
      exact Or.inr (by omega)
    · exact Or.inl (zps_st (by omega))
theorem zps_mono {B : Nat → Nat} {s i j : Nat} (hij : i < j) (h : zps B s i < s) : zps B s i < zps B s j := by
  induction j with
  | zero => omega
  | succ j ih =>
    rcases Nat.lt_or_ge i j with q | q
    · have h1 := ih q
      rcases Nat.lt_or_ge (zps B s j) s with w | w
      · have := zps_su w; omega
      · rw [zps_st (by have := zps_le B s j; omega)]; exact h
    · obtain rfl : i = j := by omega
      exact zps_su h
theorem zps_nb {B : Nat → Nat} {s i : Nat} : zsr B s (zps B s i) ≠ 0 := by
  cases i with
  | zero => exact (zksk_ok B (Nat.zero_le s)).2.2.2
  | succ i =>
    have h : zen B s (zps B s i) ≤ s := zfind_le _ _
    exact (zksk_ok B h).2.2.2
theorem zKi_le (B : Nat → Nat) (s i : Nat) : zKi B s i ≤ 10 := by
  unfold zKi zkd
  split
  · split
    · omega
    · have := zwn_le (zkvl B s (zps B s i) (zen B s (zps B s i))); omega
  · split
    · split <;> omega
    · split <;> omega
/-- what is awaited behind a token -/
def zsp (q k : Nat) : Nat :=
  if q = 0 then (if k = 3 then 1 else if k = 4 ∨ k = 5 then 4 else if k = 6 then 6 else if k = 7 then 7 else if k = 8 ∨ k = 9 then 8 else 10)
  else if q = 1 then (if k = 0 then 2 else 10) else if q = 2 then (if k = 1 then 3 else 10) else if q = 3 then (if k = 1 then 3 else if k = 2 then 0 else 10)
  else if q = 4 then (if k = 0 then 5 else 10) else if q = 6 then (if k = 0 then 4 else 10) else if q = 7 then (if k = 1 then 4 else 10)
  else if q = 8 then (if k = 1 then 9 else 10) else if q = 9 then (if k = 1 then 5 else 10) else (if k = 2 then 0 else 10)
theorem zsp_le (q k : Nat) : zsp q k ≤ 10 := by
  unfold zsp
  (split; split; omega; split; omega; split; omega; split; omega; split; omega; omega; split; split; omega; omega; split; split; omega; omega; split; split; omega; split; omega; omega; split; split; omega; omega; split; split; omega; omega; split; split; omega; omega; split; split; omega; omega; split; split; omega; omega; split; omega; omega)
theorem zsp_bad {q : Nat} : zsp q 10 = 10 := by
  unfold zsp
  (split; split; omega; split; omega; split; omega; split; omega; split; omega; omega; split; split; omega; omega; split; split; omega; omega; split; split; omega; split; omega; omega; split; split; omega; omega; split; split; omega; omega; split; split; omega; omega; split; split; omega; omega; split; split; omega; omega; split; omega; omega)
def zqs (B : Nat → Nat) (s : Nat) : Nat → Nat
  | 0 => 0
  | i + 1 => zsp (zqs B s i) (zKi B s i)
def zwd (k : Nat) : Bool := decide (4 ≤ k ∧ k ≤ 7)
def zkwc (B : Nat → Nat) (s i : Nat) : Nat := zcnt (fun j => zwd (zKi B s j)) i
theorem zkwc_su (B : Nat → Nat) (s i : Nat) : zkwc B s (i + 1) = zkwc B s i + (if zwd (zKi B s i) = true then 1 else 0) := rfl
def zgd (B : Nat → Nat) (s i : Nat) : Bool := decide (zps B s i < s ∧ zqs B s (i + 1) ≠ 10 ∧ i < 400 ∧ zkwc B s (i + 1) ≤ 40)
/-- how many tokens are good -/
def zhh (B : Nat → Nat) (s : Nat) : Nat := zfind (fun i => !zgd B s i) 400
theorem zhh_ok (B : Nat → Nat) (s : Nat) : zhh B s ≤ 400 ∧ (∀ i, i < zhh B s → zps B s i < s ∧ zqs B s (i + 1) ≠ 10 ∧ i < 400 ∧ zkwc B s (i + 1) ≤ 40) ∧ ¬ (zps B s (zhh B s) < s ∧ zqs B s (zhh B s + 1) ≠ 10 ∧ zhh B s < 400 ∧ zkwc B s (zhh B s + 1) ≤ 40) := by
  obtain ⟨a, b, c⟩ := zfind_ok (fun i => !zgd B s i) 400
  have e : zhh B s = zfind (fun i => !zgd B s i) 400 := rfl
  rw [← e] at a b c
  refine ⟨a, fun i hi => ?_, fun z => ?_⟩
  · have h := c i hi
    cases w : zgd B s i
    · rw [w] at h; cases h
    · exact of_decide_eq_true w
  · have h := b z.2.2.1
    rw [show zgd B s (zhh B s) = true from decide_eq_true z] at h
    cases h
theorem zqs_le (B : Nat → Nat) (s i : Nat) : zqs B s i ≤ 10 := by
  cases i with
  | zero => exact Nat.zero_le _
  | succ i => exact zsp_le _ _
theorem zqs_lt {B : Nat → Nat} {s i : Nat} (h : i ≤ zhh B s) : zqs B s i < 10 := by
  cases i with
  | zero => exact Nat.succ_pos _
  | succ i =>
    have h1 := ((zhh_ok B s).2.1 i (by omega)).2.1
    have h2 := zqs_le B s (i + 1)
    omega
theorem zkwc_h {B : Nat → Nat} {s i : Nat} (h : i ≤ zhh B s) : zkwc B s i ≤ 40 := by
  cases i with
  | zero => exact Nat.zero_le _
  | succ i => exact ((zhh_ok B s).2.1 i (by omega)).2.2.2
theorem zKi_h {B : Nat → Nat} {s i : Nat} (h : i < zhh B s) : zKi B s i < 10 := by
  have h1 := zKi_le B s i
  have h2 := ((zhh_ok B s).2.1 i h).2.1
  rcases Nat.lt_or_ge (zKi B s i) 10 with q | q
  · exact q
  · exact absurd (show zqs B s (i + 1) = 10 by show zsp _ _ = 10; rw [show zKi B s i = 10 by omega]; exact zsp_bad) h2
/-- faults as one number: eight times the place, and the number; none -/
def zFN : Nat := 99999
def zFf (F : Nat) : Nat := if F = 99999 then 0 else F % 8
def zFq (F : Nat) : Int := if F = 99999 then -1 else ((F / 8 : Nat) : Int)
/-- the fault of syntax or room -/
def zksF (B : Nat → Nat) (s : Nat) : Nat := if zps B s (zhh B s) = s then (if zqs B s (zhh B s) = 0 then 99999 else 8 * s + 1) else if zqs B s (zhh B s + 1) = 10 then 8 * zps B s (zhh B s) + 1 else 8 * zps B s (zhh B s) + 2
theorem zFf_1 {p : Nat} (h : p ≤ 2000) : zFf (8 * p + 1) = 1 ∧ zFq (8 * p + 1) = ((p : Nat) : Int) := by
  unfold zFf zFq
  rw [if_neg (by omega), if_neg (by omega)]
  exact ⟨by omega, by omega⟩
theorem zFf_2 {p : Nat} (h : p ≤ 2000) : zFf (8 * p + 2) = 2 ∧ zFq (8 * p + 2) = ((p : Nat) : Int) := by
  unfold zFf zFq
  rw [if_neg (by omega), if_neg (by omega)]
  exact ⟨by omega, by omega⟩
theorem zFf_n : zFf 99999 = 0 ∧ zFq 99999 = -1 := ⟨rfl, rfl⟩
/-- a fault told into what is known -/
theorem zFf_at {p f : Nat} (h : p ≤ 2000) (hf : f < 8) : zFf (8 * p + f) = f ∧ zFq (8 * p + f) = ((p : Nat) : Int) := by
  unfold zFf zFq
  rw [if_neg (by omega), if_neg (by omega)]
  exact ⟨by omega, by omega⟩
/-- the value of a name below 27 ^ 8, of a number of four digits below 10000 -/
theorem zVi_lt {B : Nat → Nat} {s k e : Nat} (hk : k < s) (he : e = zen B s k) : (zsr B s k = 1 → zkvl B s k e < 282429536481) ∧ (zsr B s k = 2 → zkvl B s k e < 100000000 ∧ (e - k ≤ 4 → zkvl B s k e < 10000)) := by
  obtain ⟨h1, h2, h3, h4⟩ := zen_ok B hk
  subst he
  have hd : ∀ j, j < zen B s k - k → zsr B s (k + j) = zsr B s k := fun j hj => by
    rcases Nat.eq_zero_or_pos j with q | q
    · rw [q]; rfl
    · exact (zcp_t (h3 (k + j) (by omega) (by omega))).1
  unfold zkvl
  refine ⟨fun h => ?_, fun h => ?_⟩
  · rw [if_pos h]
    have h5 := zvg_lt (m := 27) (d := 96) (B := B) (k := k) (min (zen B s k - k) 8) (fun j hj => by
      have h6 := hd j (by omega)
      rw [h, zsr_in (by omega)] at h6
      have := zkcs_1 h6
      omega)
    have h6 : 27 ^ (min (zen B s k - k) 8) ≤ 27 ^ 8 := Nat.pow_le_pow_right (by decide) (by omega)
    have h7 : 27 ^ 8 = 282429536481 := by decide
    omega
  · rw [if_neg (by omega)]
    have h5 := zvg_lt (m := 10) (d := 48) (B := B) (k := k) (min (zen B s k - k) 8) (fun j hj => by
      have h6 := hd j (by omega)
      rw [h, zsr_in (by omega)] at h6
      have := zkcs_2 h6
      omega)
    have h6 : 10 ^ (min (zen B s k - k) 8) ≤ 10 ^ 8 := Nat.pow_le_pow_right (by decide) (by omega)
    have h7 : 10 ^ 8 = 100000000 := by decide
    refine ⟨by omega, fun h8 => ?_⟩
    have h9 : 10 ^ (min (zen B s k - k) 8) ≤ 10 ^ 4 := Nat.pow_le_pow_right (by decide) (by omega)
    have h10 : 10 ^ 4 = 10000 := by decide
    omega
end
