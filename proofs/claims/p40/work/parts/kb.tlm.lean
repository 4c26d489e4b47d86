/-! ===== the telling that a text without a fault makes: mathematics ===== -/
/-- what is known of a text without a fault -/
def uGood (n : Nat) (Z : zZt) : Prop := uO2 n Z ∧ uO4 n Z ∧ (∀ b, b < ub Z → zNew (un Z) b = true ∧ 0 < zSz (uo Z) 16 b) ∧ (∀ k, k < uk Z → uWf n Z (uw Z k)) ∧ (∀ k, k < ut Z → (up Z k).1 < n ∧ (up Z k).2.1 < n ∧ (up Z k).1 ≠ (up Z k).2.1) ∧ (∀ p, p < n → uo Z p ≠ 999) ∧ ub Z ≤ 16 ∧ uk Z ≤ 40 ∧ ut Z ≤ 100
theorem uGood_of {B : Nat → Nat} {s n : Nat} {Z : zZt} (hs : s ≤ 2000) (hA : uAll B s n Z (zhh B s)) (hF : uFin s n Z = 99999) : uGood n Z := by
  obtain ⟨⟨h1, h2, h3, h4⟩, h5, h6, h7, h8, h9⟩ := hA
  have h400 := (zhh_ok B s).1
  have hu0 : uG1 Z (ut Z) ≤ uF Z := uG1_mono (Nat.zero_le _)
  have hF9 : uG1 Z (ut Z) = 99999 ∧ zex (fun p => decide (uo Z p = 999)) n = false := by
    unfold uFin at hF
    cases e : zex (fun p => decide (uo Z p = 999)) n
    · rw [e, if_neg (by decide)] at hF
      exact ⟨hF, rfl⟩
    · rw [e, if_pos rfl] at hF
      omega
  have hFk : uFk (uF Z) := h3
  unfold uFk at hFk
  have hFZ : uF Z = 99999 := by omega
  obtain ⟨g1, g2, g3⟩ := h4 hFZ
  refine ⟨h1, h2, g1, g2, fun k hk => ⟨(h5 k hk).1, (h5 k hk).2.1, g3 k hk⟩, fun p hp z => ?_, ?_, Nat.le_trans h9 (zkwc_h (Nat.le_refl _)), by omega⟩
  · have := zex_f.mp hF9.2 p hp
    rw [decide_eq_true z] at this
    cases this
  · have key : ∀ b, b ≤ ub Z → b ≤ upb Z b := by
      intro b
      induction b with
      | zero => exact fun _ => Nat.zero_le _
      | succ b ih =>
        intro hb
        have := ih (by omega)
        have h := (g1 b (by omega)).2
        rw [upb_z]
        omega
    have h := key _ (Nat.le_refl _)
    have h2 : upb Z (ub Z) ≤ 16 := zcnt_le _ _
    omega
/-- the number of a box -/
def unb (n : Nat) (Z : zZt) (b : Nat) : Nat := zcnt (zNew (uo Z)) (zfl (uo Z) b n)
theorem unb_at {n p : Nat} {Z : zZt} (hp : p < n) : unb n Z (uo Z p) = zNum (uo Z) p := by
  unfold unb zNum
  rw [zfl_in hp]
theorem uGood.post {n b : Nat} {Z : zZt} (h : uGood n Z) (hb : b < ub Z) : ∃ p, p < n ∧ uo Z p = b ∧ ul Z p = 0 := by
  obtain ⟨q, q1, q2, q3⟩ := h.1.2.2 b 0 hb (h.2.2.1 b hb).2
  have h16 := h.2.2.2.2.2.2.1
  exact ⟨q, (h.1.1 q (by omega)).2.1, q2, q3⟩
theorem uGood.num {n p b : Nat} {Z : zZt} (h : uGood n Z) (hp : p < n) (hb : b < ub Z) : zNum (uo Z) p = unb n Z b ↔ uo Z p = b := by
  obtain ⟨q, q1, q2, -⟩ := h.post hb
  rw [← q2, unb_at q1]
  exact zNum_inj
theorem uGood.inj {n b c : Nat} {Z : zZt} (h : uGood n Z) (hb : b < ub Z) (hc : c < ub Z) : unb n Z b = unb n Z c ↔ b = c := by
  obtain ⟨q, q1, q2, -⟩ := h.post hb
  rw [← q2, unb_at q1, h.num q1 hc]
theorem uGood.lt {n b : Nat} {Z : zZt} (h : uGood n Z) (hb : b < ub Z) : unb n Z b < zcnt (zNew (uo Z)) n := by
  obtain ⟨q, q1, q2, -⟩ := h.post hb
  rw [← q2, unb_at q1]
  exact zNum_lt q1
theorem uGood.lt16 {n b : Nat} {Z : zZt} (hn : n ≤ 16) (h : uGood n Z) (hb : b < ub Z) : unb n Z b < 16 := by
  have h1 := h.lt hb
  have h2 := zcnt_le (zNew (uo Z)) n
  omega
theorem uGood.on {n i : Nat} {Z : zZt} (h : uGood n Z) (hi : i < zcnt (zNew (uo Z)) n) : ∃ b, b < ub Z ∧ unb n Z b = i := by
  obtain ⟨p, p1, -, p3⟩ := zNum_on hi
  exact ⟨uo Z p, (h.1.1 p (h.2.2.2.2.2.1 p p1)).1, by rw [unb_at p1]; exact p3⟩
theorem uGood.siz {n b : Nat} {Z : zZt} (hn : n ≤ 16) (h : uGood n Z) (hb : b < ub Z) : zSz (zNum (uo Z)) n (unb n Z b) = zSz (uo Z) 16 b := by
  have h16 := h.2.2.2.2.2.2.1
  have e1 : zSz (uo Z) 16 b = zcnt (fun q => decide (uo Z q = b)) n := zcnt_top (c := n) (fun d hd => decide_eq_false (fun z => by have := (h.1.1 d (by omega)).2.1; omega)) hn
  rw [e1]
  exact zcnt_ext fun q hq => decide_eq_decide.mpr (h.num hq hb)
/-- its rows -/
def utr (n : Nat) (Z : zZt) (i k : Nat) : Nat := zfind (fun q => decide (zNum (uo Z) q = i ∧ ul Z q = k)) n
theorem utr_ok {n b k : Nat} {Z : zZt} (h : uGood n Z) (hb : b < ub Z) (hk : k < zSz (uo Z) 16 b) : utr n Z (unb n Z b) k < n ∧ uo Z (utr n Z (unb n Z b) k) = b ∧ ul Z (utr n Z (unb n Z b) k) = k ∧ ∀ q, uo Z q = b → ul Z q = k → q = utr n Z (unb n Z b) k := by
  have h16 := h.2.2.2.2.2.2.1
  obtain ⟨q, q1, q2, q3⟩ := h.1.2.2 b k hb hk
  have q4 := (h.1.1 q (by omega)).2.1
  obtain ⟨z1, z2, z3⟩ := zfind_ok (fun q => decide (zNum (uo Z) q = unb n Z b ∧ ul Z q = k)) n
  have hlt : utr n Z (unb n Z b) k < n := by
    rcases Nat.lt_or_ge (utr n Z (unb n Z b) k) n with w | w
    · exact w
    · have := z3 q (by unfold utr at w; omega)
      rw [decide_eq_true ⟨(h.num q4 hb).mpr q2, q3⟩] at this
      cases this
  obtain ⟨y1, y2⟩ := of_decide_eq_true (z2 hlt)
  have y3 : uo Z (utr n Z (unb n Z b) k) = b := (h.num hlt hb).mp y1
  exact ⟨hlt, y3, y2, fun r r1 r2 => h.1.2.1 r _ (by omega) (by rw [r1]; exact y3) (by rw [r2]; exact y2.symm)⟩
def utC (n : Nat) (Z : zZt) (k i : Nat) : Bool := zex (fun j => decide ((uw Z j).1 = 0 ∧ unb n Z (uw Z j).2.1 = i)) k
def utH (n : Nat) (Z : zZt) (k i : Nat) : Bool := zex (fun j => decide ((uw Z j).1 = 3 ∧ unb n Z (uw Z j).2.1 = i)) k
def utD (n : Nat) (Z : zZt) (k i i' : Nat) : Bool := zex (fun j => decide ((uw Z j).1 = 1 ∧ min (unb n Z (uw Z j).2.1) (unb n Z (uw Z j).2.2) = i ∧ max (unb n Z (uw Z j).2.1) (unb n Z (uw Z j).2.2) = i')) k
def utG (n : Nat) (Z : zZt) (k p i : Nat) : Bool := zex (fun j => decide ((uw Z j).1 = 2 ∧ (uw Z j).2.1 = p ∧ unb n Z (uw Z j).2.2 = i)) k
def utv (Z : zZt) (k a b : Nat) : Nat := if a < b ∧ zex (fun j => upq (up Z j) a b) k = true then 1 else 0
def uTl (n : Nat) (Z : zZt) : zTl := ((zcnt (zNew (uo Z)) n, zNum (uo Z)), (utC n Z (uk Z), utD n Z (uk Z), utG n Z (uk Z), utH n Z (uk Z)), utr n Z, utv Z (ut Z))
theorem uTl_w {n : Nat} {Z : zZt} (hn : n ≤ 16) (h : uGood n Z) : zTw n (uTl n Z) := by
  obtain ⟨h1, h2, h3, h4, h5, h6, h7, h8⟩ := id h
  have hz := zcnt_le (zNew (uo Z)) n
  refine ⟨⟨?_, ?_, fun q hq => ⟨?_, ?_⟩⟩, fun i k hi hk => ?_, ⟨fun i hi => ?_, fun i j hij => ?_, fun p i hp => ?_, fun i hi => ?_⟩, fun a b hv => ?_, fun a b => ?_⟩
  · show zcnt _ n ≤ 16
    omega
  · show zcnt (zNew (uo Z)) n = zcnt (zNew (zNum (uo Z))) n
    exact zcnt_ext fun q _ => (zNum_id (uo Z) q).2.symm
  · exact zNum_lt hq
  · exact (zNum_id (uo Z) q).1
  · obtain ⟨b, b1, rfl⟩ := h.on hi
    have hk2 : k < zSz (uo Z) 16 b := by rw [← h.siz hn b1]; exact hk
    obtain ⟨y1, y2, y3, y4⟩ := utr_ok h b1 hk2
    refine ⟨y1, (h.num y1 b1).mpr y2, fun l hl e => ?_⟩
    have hl2 : l < zSz (uo Z) 16 b := by rw [← h.siz hn b1]; exact hl
    obtain ⟨x1, x2, x3, x4⟩ := utr_ok h b1 hl2
    have e2 : utr n Z (unb n Z b) l = utr n Z (unb n Z b) k := e
    rw [← x3, ← y3, e2]
  · obtain ⟨k, k1, k2⟩ := zex_t.mp hi
    obtain ⟨k3, k4⟩ := of_decide_eq_true k2
    have hw := h2 k k1
    unfold uWk at hw
    have hb : (uw Z k).2.1 < ub Z := by omega
    rw [← k4]
    exact ⟨h.lt hb, by show 2 ≤ zSz (zNum (uo Z)) n _; rw [h.siz hn hb]; exact (h4 k k1).1 (Or.inl k3)⟩
  · obtain ⟨k, k1, k2⟩ := zex_t.mp hij
    obtain ⟨k3, k4, k5⟩ := of_decide_eq_true k2
    have hw := h2 k k1
    unfold uWk at hw
    have hlt := (h4 k k1).2.1 k3
    have l1 := h.lt (show (uw Z k).2.1 < ub Z by omega)
    have l2 := h.lt (show (uw Z k).2.2 < ub Z by omega)
    have hne : unb n Z (uw Z k).2.1 ≠ unb n Z (uw Z k).2.2 := fun z => by
      have := (h.inj (by omega) (by omega)).mp z
      omega
    rw [← k4, ← k5]
    exact ⟨by omega, by show max _ _ < zcnt _ n; omega⟩
  · obtain ⟨k, k1, k2⟩ := zex_t.mp hp
    obtain ⟨k3, k4, k5⟩ := of_decide_eq_true k2
    have hw := h2 k k1
    unfold uWk at hw
    have hb : (uw Z k).2.2 < ub Z := by omega
    obtain ⟨q, q1, q2, q3⟩ := (h4 k k1).2.2 k3
    exact ⟨by omega, by rw [← k5]; exact h.lt hb, q, q1, by rw [← k4]; exact q2, by show zNum (uo Z) q = i; rw [← k5, h.num q1 hb]; exact q3⟩
  · obtain ⟨k, k1, k2⟩ := zex_t.mp hi
    obtain ⟨k3, k4⟩ := of_decide_eq_true k2
    have hw := h2 k k1
    unfold uWk at hw
    have hb : (uw Z k).2.1 < ub Z := by omega
    rw [← k4]
    exact ⟨h.lt hb, by show 2 ≤ zSz (zNum (uo Z)) n _; rw [h.siz hn hb]; exact (h4 k k1).1 (Or.inr k3)⟩
  · have hv2 : (if a < b ∧ zex (fun j => upq (up Z j) a b) (ut Z) = true then 1 else 0) ≠ 0 := hv
    by_cases w : a < b ∧ zex (fun j => upq (up Z j) a b) (ut Z) = true
    · obtain ⟨k, k1, k2⟩ := zex_t.mp w.2
      have k3 : (up Z k).1 = a ∧ (up Z k).2.1 = b ∨ (up Z k).1 = b ∧ (up Z k).2.1 = a := of_decide_eq_true k2
      have := h5 k k1
      exact ⟨w.1, by omega⟩
    · rw [if_neg w] at hv2
      exact absurd rfl hv2
  · show (if _ then 1 else 0) ≤ 2
    split <;> omega
theorem zChs_iff {S : Nat → Nat → Bool} {H : Nat → Bool} {r : Nat → Nat → Nat} {s : Nat → Nat} {m p q : Nat} : zChs S H r s m p q = true ↔ S p q = true ∨ ∃ i j, i < m ∧ H i = true ∧ j < s i - 1 ∧ (p = r i j ∧ q = r i (j + 1) ∨ p = r i (j + 1) ∧ q = r i j) := by
  induction m with
  | zero => exact ⟨Or.inl, fun h => h.elim id (fun ⟨i, j, h, _⟩ => absurd h (Nat.not_lt_zero _))⟩
  | succ m ih =>
    unfold zChs
    by_cases e : H m = true
    · rw [if_pos e, zchn_iff, ih]
      constructor
      · rintro ((h | ⟨i, j, h1, h2⟩) | ⟨j, h1, h2⟩)
        · exact Or.inl h
        · exact Or.inr ⟨i, j, by omega, h2⟩
        · rw [Nat.zero_add] at h2
          exact Or.inr ⟨m, j, by omega, e, h1, h2⟩
      · rintro (h | ⟨i, j, h1, h2, h3, h4⟩)
        · exact Or.inl (Or.inl h)
        · by_cases w : i = m
          · subst w
            exact Or.inr ⟨j, h3, by rw [Nat.zero_add]; exact h4⟩
          · exact Or.inl (Or.inr ⟨i, j, by omega, h2, h3, h4⟩)
    · rw [if_neg e, ih]
      constructor
      · rintro (h | ⟨i, j, h1, h2⟩)
        · exact Or.inl h
        · exact Or.inr ⟨i, j, by omega, h2⟩
      · rintro (h | ⟨i, j, h1, h2, h3⟩)
        · exact Or.inl h
        · by_cases w : i = m
          · subst w; exact absurd h2 e
          · exact Or.inr ⟨i, j, by omega, h2, h3⟩
/-- its words say what was said -/
theorem uTl_S {n : Nat} {Z : zZt} (hn : n ≤ 16) (h : uGood n Z) (p q : Nat) : tS n (uTl n Z) p q = (decide (p ≠ q) && usd Z p q) := by
  obtain ⟨h1, h2, h3, h4, h5, h6, h7, h8⟩ := id h
  rw [Bool.eq_iff_iff, Bool.and_eq_true, decide_eq_true_eq]
  unfold usd
  rw [zex_t]
  unfold tS zSay
  rw [zChs_iff, Bool.and_eq_true, decide_eq_true_eq]
  show ((_ ∧ zWq (zNum (uo Z)) (utC n Z (uk Z)) (utD n Z (uk Z)) (utG n Z (uk Z)) p q = true) ∨ ∃ i j, i < zcnt (zNew (uo Z)) n ∧ utH n Z (uk Z) i = true ∧ j < zSz (zNum (uo Z)) n i - 1 ∧ (p = utr n Z i j ∧ q = utr n Z i (j + 1) ∨ p = utr n Z i (j + 1) ∧ q = utr n Z i j)) ↔ _
  constructor
  · rintro (⟨⟨a1, a2, a3⟩, a4⟩ | ⟨i, j, b1, b2, b3, b4⟩)
    · refine ⟨a3, ?_⟩
      unfold zWq at a4
      rw [Bool.or_eq_true, Bool.or_eq_true] at a4
      rcases a4 with (a4 | a4) | a4
      · by_cases e : zNum (uo Z) p = zNum (uo Z) q
        · rw [if_pos e] at a4
          obtain ⟨k, k1, k2⟩ := zex_t.mp a4
          obtain ⟨k3, k4⟩ := of_decide_eq_true k2
          have hw := h2 k k1
          unfold uWk at hw
          have hb : (uw Z k).2.1 < ub Z := by omega
          have c1 := (h.num a1 hb).mp k4.symm
          have c2 := (h.num a2 hb).mp (e.symm.trans k4.symm)
          refine ⟨k, k1, ?_⟩
          unfold usy
          rw [if_pos k3]
          exact decide_eq_true ⟨c1, c2⟩
        · rw [if_neg e] at a4
          have key : ∀ x y, x < n → y < n → zNum (uo Z) x < zNum (uo Z) y → utD n Z (uk Z) (zNum (uo Z) x) (zNum (uo Z) y) = true → ∃ k, k < uk Z ∧ (uw Z k).1 = 1 ∧ (uo Z x = (uw Z k).2.1 ∧ uo Z y = (uw Z k).2.2 ∨ uo Z x = (uw Z k).2.2 ∧ uo Z y = (uw Z k).2.1) := fun x y hx hy hlt hd => by
            obtain ⟨k, k1, k2⟩ := zex_t.mp hd
            obtain ⟨k3, k4, k5⟩ := of_decide_eq_true k2
            have hw := h2 k k1
            unfold uWk at hw
            have hb : (uw Z k).2.1 < ub Z := by omega
            have hc : (uw Z k).2.2 < ub Z := by omega
            refine ⟨k, k1, k3, ?_⟩
            rcases Nat.le_total (unb n Z (uw Z k).2.1) (unb n Z (uw Z k).2.2) with w | w
            · rw [Nat.min_eq_left w] at k4
              rw [Nat.max_eq_right w] at k5
              exact Or.inl ⟨(h.num hx hb).mp k4.symm, (h.num hy hc).mp k5.symm⟩
            · rw [Nat.min_eq_right w] at k4
              rw [Nat.max_eq_left w] at k5
              exact Or.inr ⟨(h.num hx hc).mp k4.symm, (h.num hy hb).mp k5.symm⟩
          by_cases e2 : zNum (uo Z) p < zNum (uo Z) q
          · rw [if_pos e2] at a4
            obtain ⟨k, k1, k2, k3⟩ := key p q a1 a2 e2 a4
            refine ⟨k, k1, ?_⟩
            unfold usy
            rw [if_neg (by omega), if_pos k2]
            exact decide_eq_true k3
          · rw [if_neg e2] at a4
            obtain ⟨k, k1, k2, k3⟩ := key q p a2 a1 (by omega) a4
            refine ⟨k, k1, ?_⟩
            unfold usy
            rw [if_neg (by omega), if_pos k2]
            exact decide_eq_true (k3.elim (fun z => Or.inr ⟨z.2, z.1⟩) (fun z => Or.inl ⟨z.2, z.1⟩))
      · obtain ⟨k, k1, k2⟩ := zex_t.mp a4
        obtain ⟨k3, k4, k5⟩ := of_decide_eq_true k2
        have hw := h2 k k1
        unfold uWk at hw
        have hb : (uw Z k).2.2 < ub Z := by omega
        refine ⟨k, k1, ?_⟩
        unfold usy
        rw [if_neg (by omega), if_neg (by omega), if_pos k3]
        exact decide_eq_true (Or.inl ⟨k4.symm, (h.num a2 hb).mp k5.symm⟩)
      · obtain ⟨k, k1, k2⟩ := zex_t.mp a4
        obtain ⟨k3, k4, k5⟩ := of_decide_eq_true k2
        have hw := h2 k k1
        unfold uWk at hw
        have hb : (uw Z k).2.2 < ub Z := by omega
        refine ⟨k, k1, ?_⟩
        unfold usy
        rw [if_neg (by omega), if_neg (by omega), if_pos k3]
        exact decide_eq_true (Or.inr ⟨k4.symm, (h.num a1 hb).mp k5.symm⟩)
    · obtain ⟨k, k1, k2⟩ := zex_t.mp b2
      obtain ⟨k3, k4⟩ := of_decide_eq_true k2
      have hw := h2 k k1
      unfold uWk at hw
      have hb : (uw Z k).2.1 < ub Z := by omega
      subst k4
      rw [h.siz hn hb] at b3
      obtain ⟨y1, y2, y3, -⟩ := utr_ok h hb (show j < zSz (uo Z) 16 (uw Z k).2.1 by omega)
      obtain ⟨x1, x2, x3, -⟩ := utr_ok h hb (show j + 1 < zSz (uo Z) 16 (uw Z k).2.1 by omega)
      rcases b4 with ⟨rfl, rfl⟩ | ⟨rfl, rfl⟩
      · refine ⟨fun z => by rw [z] at y3; omega, k, k1, ?_⟩
        unfold usy
        rw [if_neg (by omega), if_neg (by omega), if_neg (by omega)]
        exact decide_eq_true ⟨y2, x2, Or.inr (by rw [y3, x3])⟩
      · refine ⟨fun z => by rw [z] at x3; omega, k, k1, ?_⟩
        unfold usy
        rw [if_neg (by omega), if_neg (by omega), if_neg (by omega)]
        exact decide_eq_true ⟨x2, y2, Or.inl (by rw [y3, x3])⟩
  · rintro ⟨a3, k, k1, k2⟩
    have hw := h2 k k1
    obtain ⟨a1, a2⟩ := usd_lt h1 (by omega) hw k2
    have hf := h4 k k1
    unfold uWk at hw
    unfold usy at k2
    by_cases s0 : (uw Z k).1 = 0
    · rw [if_pos s0] at k2
      obtain ⟨c1, c2⟩ := of_decide_eq_true k2
      have hb : (uw Z k).2.1 < ub Z := by omega
      have d1 := (h.num a1 hb).mpr c1
      have d2 := (h.num a2 hb).mpr c2
      refine Or.inl ⟨⟨a1, a2, a3⟩, ?_⟩
      unfold zWq
      rw [if_pos (d1.trans d2.symm), show utC n Z (uk Z) (zNum (uo Z) p) = true from zex_t.mpr ⟨k, k1, decide_eq_true ⟨s0, d1.symm⟩⟩]
      rfl
    rw [if_neg s0] at k2
    by_cases s1 : (uw Z k).1 = 1
    · rw [if_pos s1] at k2
      have hlt := hf.2.1 s1
      have hb : (uw Z k).2.1 < ub Z := by omega
      have hc : (uw Z k).2.2 < ub Z := by omega
      have hne : unb n Z (uw Z k).2.1 ≠ unb n Z (uw Z k).2.2 := fun z => by
        have := (h.inj hb hc).mp z
        omega
      have key : ∀ x y, zNum (uo Z) x = unb n Z (uw Z k).2.1 → zNum (uo Z) y = unb n Z (uw Z k).2.2 → (zNum (uo Z) x < zNum (uo Z) y → utD n Z (uk Z) (zNum (uo Z) x) (zNum (uo Z) y) = true) ∧ (zNum (uo Z) y < zNum (uo Z) x → utD n Z (uk Z) (zNum (uo Z) y) (zNum (uo Z) x) = true) := fun x y hx hy => by
        refine ⟨fun w => zex_t.mpr ⟨k, k1, decide_eq_true ⟨s1, ?_, ?_⟩⟩, fun w => zex_t.mpr ⟨k, k1, decide_eq_true ⟨s1, ?_, ?_⟩⟩⟩
        · rw [hx, hy] at w; rw [hx]; omega
        · rw [hx, hy] at w; rw [hy]; omega
        · rw [hx, hy] at w; rw [hy]; omega
        · rw [hx, hy] at w; rw [hx]; omega
      refine Or.inl ⟨⟨a1, a2, a3⟩, ?_⟩
      unfold zWq
      rw [Bool.or_eq_true, Bool.or_eq_true]
      refine Or.inl (Or.inl ?_)
      rcases of_decide_eq_true k2 with ⟨c1, c2⟩ | ⟨c1, c2⟩
      · have d1 := (h.num a1 hb).mpr c1
        have d2 := (h.num a2 hc).mpr c2
        obtain ⟨e1, e2⟩ := key p q d1 d2
        rw [if_neg (by omega)]
        by_cases w : zNum (uo Z) p < zNum (uo Z) q
        · rw [if_pos w]; exact e1 w
        · rw [if_neg w]; exact e2 (by omega)
      · have d1 := (h.num a1 hc).mpr c1
        have d2 := (h.num a2 hb).mpr c2
        obtain ⟨e1, e2⟩ := key q p d2 d1
        rw [if_neg (by omega)]
        by_cases w : zNum (uo Z) p < zNum (uo Z) q
        · rw [if_pos w]; exact e2 w
        · rw [if_neg w]; exact e1 (by omega)
    rw [if_neg s1] at k2
    by_cases s2 : (uw Z k).1 = 2
    · rw [if_pos s2] at k2
      have hb : (uw Z k).2.2 < ub Z := by omega
      refine Or.inl ⟨⟨a1, a2, a3⟩, ?_⟩
      unfold zWq
      rw [Bool.or_eq_true, Bool.or_eq_true]
      rcases of_decide_eq_true k2 with ⟨c1, c2⟩ | ⟨c1, c2⟩
      · exact Or.inl (Or.inr (zex_t.mpr ⟨k, k1, decide_eq_true ⟨s2, c1.symm, ((h.num a2 hb).mpr c2).symm⟩⟩))
      · exact Or.inr (zex_t.mpr ⟨k, k1, decide_eq_true ⟨s2, c1.symm, ((h.num a1 hb).mpr c2).symm⟩⟩)
    · rw [if_neg s2] at k2
      have s3 : (uw Z k).1 = 3 := by omega
      have hb : (uw Z k).2.1 < ub Z := by omega
      obtain ⟨c1, c2, c3⟩ := of_decide_eq_true k2
      have lp := (h1.1 p (by omega)).2.2
      have lq := (h1.1 q (by omega)).2.2
      rw [c1] at lp
      rw [c2] at lq
      have e1 := (utr_ok h hb lp).2.2.2 p c1 rfl
      have e2 := (utr_ok h hb lq).2.2.2 q c2 rfl
      refine Or.inr ?_
      rcases c3 with c3 | c3
      · refine ⟨unb n Z (uw Z k).2.1, ul Z q, h.lt hb, zex_t.mpr ⟨k, k1, decide_eq_true ⟨s3, rfl⟩⟩, by rw [h.siz hn hb]; omega, Or.inr ⟨?_, e2⟩⟩
        rw [← c3]; exact e1
      · refine ⟨unb n Z (uw Z k).2.1, ul Z p, h.lt hb, zex_t.mpr ⟨k, k1, decide_eq_true ⟨s3, rfl⟩⟩, by rw [h.siz hn hb]; omega, Or.inl ⟨e1, ?_⟩⟩
        rw [← c3]; exact e2
/-- a word as a number -/
def ucd (n : Nat) (Z : zZt) (w : Nat × Nat × Nat) : Nat := if w.1 = 0 then 16 * unb n Z w.2.1 else if w.1 = 1 then 256 + 16 * min (unb n Z w.2.1) (unb n Z w.2.2) + max (unb n Z w.2.1) (unb n Z w.2.2) else if w.1 = 2 then 512 + 16 * w.2.1 + unb n Z w.2.2 else 768 + 16 * unb n Z w.2.1
theorem uTl_W {n : Nat} {Z : zZt} (hn : n ≤ 16) (h : uGood n Z) {c : Nat} (hc : c < 1024) : zWsn (uTl n Z) c = zex (fun k => decide (ucd n Z (uw Z k) = c)) (uk Z) := by
  obtain ⟨h1, h2, h3, h4, h5, h6, h7, h8⟩ := id h
  have l16 := fun b (hb : b < ub Z) => h.lt16 hn hb
  rw [Bool.eq_iff_iff, zex_t]
  unfold zWsn
  show (if c < 256 then decide (c % 16 = 0) && utC n Z (uk Z) (c / 16) else if c < 512 then utD n Z (uk Z) (c / 16 % 16) (c % 16) else if c < 768 then utG n Z (uk Z) (c / 16 % 16) (c % 16) else decide (c % 16 = 0) && (decide (c < 1024) && utH n Z (uk Z) (c / 16 % 16))) = true ↔ _
  constructor
  · intro hv
    by_cases c1 : c < 256
    · rw [if_pos c1, Bool.and_eq_true, decide_eq_true_eq] at hv
      obtain ⟨k, k1, k2⟩ := zex_t.mp hv.2
      obtain ⟨k3, k4⟩ := of_decide_eq_true k2
      refine ⟨k, k1, decide_eq_true ?_⟩
      unfold ucd
      rw [if_pos k3]
      omega
    rw [if_neg c1] at hv
    by_cases c2 : c < 512
    · rw [if_pos c2] at hv
      obtain ⟨k, k1, k2⟩ := zex_t.mp hv
      obtain ⟨k3, k4, k5⟩ := of_decide_eq_true k2
      refine ⟨k, k1, decide_eq_true ?_⟩
      unfold ucd
      rw [if_neg (by omega), if_pos k3, k4, k5]
      omega
    rw [if_neg c2] at hv
    by_cases c3 : c < 768
    · rw [if_pos c3] at hv
      obtain ⟨k, k1, k2⟩ := zex_t.mp hv
      obtain ⟨k3, k4, k5⟩ := of_decide_eq_true k2
      refine ⟨k, k1, decide_eq_true ?_⟩
      unfold ucd
      rw [if_neg (by omega), if_neg (by omega), if_pos k3, k4, k5]
      omega
    · rw [if_neg c3, Bool.and_eq_true, Bool.and_eq_true, decide_eq_true_eq, decide_eq_true_eq] at hv
      obtain ⟨k, k1, k2⟩ := zex_t.mp hv.2.2
      obtain ⟨k3, k4⟩ := of_decide_eq_true k2
      refine ⟨k, k1, decide_eq_true ?_⟩
      unfold ucd
      rw [if_neg (by omega), if_neg (by omega), if_neg (by omega), k4]
      omega
  · rintro ⟨k, k1, k2⟩
    have hw := h2 k k1
    unfold uWk at hw
    have hcd := of_decide_eq_true k2
    unfold ucd at hcd
    by_cases s0 : (uw Z k).1 = 0
    · have lb := l16 (uw Z k).2.1 (by omega)
      rw [if_pos s0] at hcd
      rw [if_pos (by omega), Bool.and_eq_true, decide_eq_true_eq]
      exact ⟨by omega, zex_t.mpr ⟨k, k1, decide_eq_true ⟨s0, by omega⟩⟩⟩
    rw [if_neg s0] at hcd
    by_cases s1 : (uw Z k).1 = 1
    · have lb := l16 (uw Z k).2.1 (by omega)
      have lc := l16 (uw Z k).2.2 (by omega)
      rw [if_pos s1] at hcd
      rw [if_neg (by omega), if_pos (by omega)]
      exact zex_t.mpr ⟨k, k1, decide_eq_true ⟨s1, by omega, by omega⟩⟩
    rw [if_neg s1] at hcd
    by_cases s2 : (uw Z k).1 = 2
    · have lc := l16 (uw Z k).2.2 (by omega)
      rw [if_pos s2] at hcd
      rw [if_neg (by omega), if_neg (by omega), if_pos (by omega)]
      exact zex_t.mpr ⟨k, k1, decide_eq_true ⟨s2, by omega, by omega⟩⟩
    · have lb := l16 (uw Z k).2.1 (by omega)
      rw [if_neg s2] at hcd
      rw [if_neg (by omega), if_neg (by omega), if_neg (by omega), Bool.and_eq_true, Bool.and_eq_true, decide_eq_true_eq, decide_eq_true_eq]
      exact ⟨by omega, hc, zex_t.mpr ⟨k, k1, decide_eq_true ⟨by omega, by omega⟩⟩⟩
theorem ucd_lt {n : Nat} {Z : zZt} {w : Nat × Nat × Nat} (hn : n ≤ 16) (h : uGood n Z) (hw : uWk n Z w) : ucd n Z w < 1024 := by
  have l16 := fun b (hb : b < ub Z) => h.lt16 hn hb
  unfold uWk at hw
  unfold ucd
  by_cases s0 : w.1 = 0
  · rw [if_pos s0]
    have := l16 w.2.1 (by omega)
    omega
  rw [if_neg s0]
  by_cases s1 : w.1 = 1
  · rw [if_pos s1]
    have := l16 w.2.1 (by omega)
    have := l16 w.2.2 (by omega)
    omega
  rw [if_neg s1]
  by_cases s2 : w.1 = 2
  · rw [if_pos s2]
    have := l16 w.2.2 (by omega)
    omega
  · rw [if_neg s2]
    have := l16 w.2.1 (by omega)
    omega
theorem ucd_inj {n : Nat} {Z : zZt} {w v : Nat × Nat × Nat} (hn : n ≤ 16) (h : uGood n Z) (hw : uWk n Z w) (hv : uWk n Z v) (e : ucd n Z w = ucd n Z v) : w = v := by
  have l16 := fun b (hb : b < ub Z) => h.lt16 hn hb
  obtain ⟨s, a, b⟩ := w
  obtain ⟨s', a', b'⟩ := v
  unfold uWk at hw hv
  unfold ucd at e
  (try dsimp only at hw hv e)
  have fin : s = s' → a = a' → b = b' → (s, a, b) = (s', a', b') := fun e1 e2 e3 => by rw [e1, e2, e3]
  by_cases s0 : s = 0
  · rw [if_pos s0] at e
    have la := l16 a (by omega)
    by_cases t0 : s' = 0
    · rw [if_pos t0] at e
      exact fin (by omega) ((h.inj (by omega) (by omega)).mp (by omega)) (by omega)
    · rw [if_neg t0] at e
      by_cases t1 : s' = 1
      · rw [if_pos t1] at e; omega
      · rw [if_neg t1] at e
        by_cases t2 : s' = 2
        · rw [if_pos t2] at e; omega
        · rw [if_neg t2] at e; omega
  rw [if_neg s0] at e
  by_cases s1 : s = 1
  · rw [if_pos s1] at e
    have la := l16 a (by omega)
    have lb := l16 b (by omega)
    by_cases t0 : s' = 0
    · rw [if_pos t0] at e
      have := l16 a' (by omega)
      omega
    · rw [if_neg t0] at e
      by_cases t1 : s' = 1
      · rw [if_pos t1] at e
        have la' := l16 a' (by omega)
        have lb' := l16 b' (by omega)
        have e1 : min (unb n Z a) (unb n Z b) = min (unb n Z a') (unb n Z b') := by omega
        have e2 : max (unb n Z a) (unb n Z b) = max (unb n Z a') (unb n Z b') := by omega
        have e3 : (unb n Z a = unb n Z a' ∧ unb n Z b = unb n Z b') ∨ (unb n Z a = unb n Z b' ∧ unb n Z b = unb n Z a') := by omega
        rcases e3 with ⟨e3, e4⟩ | ⟨e3, e4⟩
        · exact fin (by omega) ((h.inj (by omega) (by omega)).mp e3) ((h.inj (by omega) (by omega)).mp e4)
        · have x1 := (h.inj (show a < ub Z by omega) (show b' < ub Z by omega)).mp e3
          have x2 := (h.inj (show b < ub Z by omega) (show a' < ub Z by omega)).mp e4
          exact fin (by omega) (by omega) (by omega)
      · rw [if_neg t1] at e
        by_cases t2 : s' = 2
        · rw [if_pos t2] at e
          omega
        · rw [if_neg t2] at e
          omega
  rw [if_neg s1] at e
  by_cases s2 : s = 2
  · rw [if_pos s2] at e
    have lb := l16 b (by omega)
    by_cases t0 : s' = 0
    · rw [if_pos t0] at e
      have := l16 a' (by omega)
      omega
    · rw [if_neg t0] at e
      by_cases t1 : s' = 1
      · rw [if_pos t1] at e
        have := l16 a' (by omega)
        have := l16 b' (by omega)
        omega
      · rw [if_neg t1] at e
        by_cases t2 : s' = 2
        · rw [if_pos t2] at e
          have lb' := l16 b' (by omega)
          exact fin (by omega) (by omega) ((h.inj (by omega) (by omega)).mp (by omega))
        · rw [if_neg t2] at e
          omega
  · rw [if_neg s2] at e
    have la := l16 a (by omega)
    by_cases t0 : s' = 0
    · rw [if_pos t0] at e
      have := l16 a' (by omega)
      omega
    · rw [if_neg t0] at e
      by_cases t1 : s' = 1
      · rw [if_pos t1] at e
        have := l16 a' (by omega)
        have := l16 b' (by omega)
        omega
      · rw [if_neg t1] at e
        by_cases t2 : s' = 2
        · rw [if_pos t2] at e
          have := l16 b' (by omega)
          omega
        · rw [if_neg t2] at e
          exact fin (by omega) ((h.inj (by omega) (by omega)).mp (by omega)) (by omega)
theorem uTl_v {n : Nat} {Z : zZt} (h : uGood n Z) (p q : Nat) : decide (tvs (uTl n Z) p q ≠ 0) = (decide (p ≠ q) && upr Z p q) := by
  unfold tvs
  show decide ((if p < q then utv Z (ut Z) p q else utv Z (ut Z) q p) ≠ 0) = _
  unfold utv
  by_cases e : p < q
  · rw [if_pos e, decide_eq_true (show p ≠ q by omega), Bool.true_and]
    show _ = zex (fun k => upq (up Z k) p q) (ut Z)
    cases w : zex (fun j => upq (up Z j) p q) (ut Z)
    · rw [if_neg (fun z => by cases z.2)]; rfl
    · rw [if_pos ⟨e, rfl⟩]; rfl
  · rw [if_neg e]
    by_cases e2 : q < p
    · rw [decide_eq_true (show p ≠ q by omega), Bool.true_and, upr_s]
      show _ = zex (fun k => upq (up Z k) q p) (ut Z)
      cases w : zex (fun j => upq (up Z j) q p) (ut Z)
      · rw [if_neg (fun z => by cases z.2)]; rfl
      · rw [if_pos ⟨e2, rfl⟩]; rfl
    · rw [if_neg (fun z => e2 z.1), decide_eq_false (show ¬ p ≠ q by omega)]; rfl
theorem uTl_v2 {n : Nat} {Z : zZt} (p q : Nat) : decide (tvs (uTl n Z) p q = 2) = false := by
  refine decide_eq_false ?_
  unfold tvs
  show ¬ (if p < q then utv Z (ut Z) p q else utv Z (ut Z) q p) = 2
  unfold utv
  split <;> split <;> omega
