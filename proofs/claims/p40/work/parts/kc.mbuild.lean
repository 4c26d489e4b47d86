/-! ===== the telling that a text makes: the reference ===== -/
theorem utC_su (n : Nat) (Z : zZt) (k i : Nat) : utC n Z (k + 1) i = (utC n Z k i || decide ((uw Z k).1 = 0 ∧ unb n Z (uw Z k).2.1 = i)) := zex_su _ _
theorem utH_su (n : Nat) (Z : zZt) (k i : Nat) : utH n Z (k + 1) i = (utH n Z k i || decide ((uw Z k).1 = 3 ∧ unb n Z (uw Z k).2.1 = i)) := zex_su _ _
theorem utD_su (n : Nat) (Z : zZt) (k i j : Nat) : utD n Z (k + 1) i j = (utD n Z k i j || decide ((uw Z k).1 = 1 ∧ min (unb n Z (uw Z k).2.1) (unb n Z (uw Z k).2.2) = i ∧ max (unb n Z (uw Z k).2.1) (unb n Z (uw Z k).2.2) = j)) := zex_su _ _
theorem utG_su (n : Nat) (Z : zZt) (k p i : Nat) : utG n Z (k + 1) p i = (utG n Z k p i || decide ((uw Z k).1 = 2 ∧ (uw Z k).2.1 = p ∧ unb n Z (uw Z k).2.2 = i)) := zex_su _ _
theorem utv_su {Z : zZt} {k : Nat} (h : (up Z k).1 ≠ (up Z k).2.1) (a b : Nat) : utv Z (k + 1) a b = if a = min (up Z k).1 (up Z k).2.1 ∧ b = max (up Z k).1 (up Z k).2.1 then 1 else utv Z k a b := by
  unfold utv
  rw [zex_su]
  have e : upq (up Z k) a b = decide ((up Z k).1 = a ∧ (up Z k).2.1 = b ∨ (up Z k).1 = b ∧ (up Z k).2.1 = a) := rfl
  rw [e]
  clear e
  generalize (up Z k).1 = x at *
  generalize (up Z k).2.1 = y at *
  by_cases w : a = min x y ∧ b = max x y
  · have w1 : a < b := by omega
    have w2 : x = a ∧ y = b ∨ x = b ∧ y = a := by omega
    rw [if_pos w, decide_eq_true w2, Bool.or_true, if_pos ⟨w1, rfl⟩]
  · rw [if_neg w]
    by_cases w1 : a < b
    · have w2 : ¬ (x = a ∧ y = b ∨ x = b ∧ y = a) := by omega
      rw [decide_eq_false w2, Bool.or_false]
    · rw [if_neg (fun z => w1 z.1), if_neg (fun z => w1 z.1)]
theorem uGood.fre {n b : Nat} {Z : zZt} (h : uGood n Z) (hb : b < ub Z) : zFre (uo Z) n b = ((unb n Z b : Nat) : Int) := by
  obtain ⟨q, q1, q2, -⟩ := h.post hb
  have h1 : zfl (uo Z) b n < n := by
    rw [← q2, zfl_in q1]
    have := zfl_le (uo Z) (uo Z q) q
    omega
  unfold zFre
  rw [if_pos h1]
  rfl
theorem zor_up {g : Nat → Bool} {a b : Nat} {P : Prop} [Decidable P] (h : P ↔ b = a) : (if b = a then true else g b) = (g b || decide P) := by
  by_cases e : b = a
  · rw [if_pos e, decide_eq_true (h.mpr e), Bool.or_true]
  · rw [if_neg e, decide_eq_false (fun z => e (h.mp z)), Bool.or_false]
theorem zor_up2 {g : Nat → Nat → Bool} {a b c d : Nat} {P : Prop} [Decidable P] (h : P ↔ c = a ∧ d = b) : zmu g a b true c d = (g c d || decide P) := by
  unfold zmu
  by_cases e : c = a ∧ d = b
  · rw [if_pos e, decide_eq_true (h.mpr e), Bool.or_true]
  · rw [if_neg e, decide_eq_false (fun z => e (h.mp z)), Bool.or_false]
theorem zor_no {g : Bool} {P : Prop} [Decidable P] (h : ¬ P) : g = (g || decide P) := by rw [decide_eq_false h, Bool.or_false]
set_option maxHeartbeats 1600000 in
theorem m_build {O : zOm} (hO : zWld O) (hS : zS O = zmS zC0) {t n : Nat} {Z : zZt} {M : zMem} {K : Option zV → zMem → Prop} (ht : t < 5) (hn : M 250 ((1 : Nat) : Int) = ((n : Nat) : Int)) (hn16 : n ≤ 16) (hG : uGood n Z) (hB : rZb M Z) (hZo : rZo M Z) (hZw : rZw M Z) (hZp : rZp M Z)
    (hk : ∀ M', (∀ b j, ¬ (b = 258 ∧ j = ((t : Nat) : Int) ∨ (b = 259 ∨ b = 260 ∨ b = 262 ∨ b = 263) ∧ ((16 * t : Nat) : Int) ≤ j ∧ j < ((16 * t + 16 : Nat) : Int) ∨ (b = 261 ∨ b = 264 ∨ b = 265 ∨ b = 266) ∧ ((256 * t : Nat) : Int) ≤ j ∧ j < ((256 * t + 256 : Nat) : Int) ∨ b = 271) → M' b j = M b j) → rTe M' t n (uTl n Z) → K none M') : zR O F_Model_build [(2, 250), (0, ((t : Nat) : Int))] M K := by
  obtain ⟨h1, h2, h3, h4, h5, h6, h7, h8, h9⟩ := id hG
  have hop : ∀ p, p < n → uo Z p < ub Z := fun p hp => (h1.1 p (h6 p hp)).1
  have hlp : ∀ p, p < n → ul Z p < 16 := fun p hp => by
    have a := (h1.1 p (h6 p hp)).2.2
    have b := zSz_le (uo Z) 16 (uo Z p)
    omega
  have hnum : ∀ p, p < n → zNum (uo Z) p < 16 := fun p hp => by
    have := zNum_lt (f := uo Z) hp
    have := zcnt_le (zNew (uo Z)) n
    omega
  apply r_Model_build hO
  unfold B_Model_build
  have f1 := zMF (k := 1) hS rfl; have f13 := zMF (k := 13) hS rfl; have a259 := zMA (a := 259) (ty := .int) (n := 112) hS rfl; have f71 := zMF (k := 71) hS rfl; have a302 := zMA (a := 302) (ty := .int) (n := 16) hS rfl; have f15 := zMF (k := 15) hS rfl; have a261 := zMA (a := 261) (ty := .int) (n := 1792) hS rfl; have f72 := zMF (k := 72) hS rfl; have a303 := zMA (a := 303) (ty := .int) (n := 16) hS rfl; have f73 := zMF (k := 73) hS rfl; have f74 := zMF (k := 74) hS rfl; have a304 := zMA (a := 304) (ty := .int) (n := 41) hS rfl; have f75 := zMF (k := 75) hS rfl; have a305 := zMA (a := 305) (ty := .int) (n := 41) hS rfl; have f25 := zMF (k := 25) hS rfl; have a271 := zMA (a := 271) (ty := .int) (n := 17) hS rfl; have f76 := zMF (k := 76) hS rfl; have a306 := zMA (a := 306) (ty := .int) (n := 41) hS rfl; have f16 := zMF (k := 16) hS rfl; have a262 := zMA (a := 262) (ty := .boolean) (n := 112) hS rfl; have f18 := zMF (k := 18) hS rfl; have a264 := zMA (a := 264) (ty := .boolean) (n := 1792) hS rfl; have f19 := zMF (k := 19) hS rfl; have a265 := zMA (a := 265) (ty := .boolean) (n := 1792) hS rfl; have f17 := zMF (k := 17) hS rfl; have a263 := zMA (a := 263) (ty := .boolean) (n := 112) hS rfl; have f77 := zMF (k := 77) hS rfl; have f20 := zMF (k := 20) hS rfl; have a266 := zMA (a := 266) (ty := .int) (n := 1792) hS rfl; have f78 := zMF (k := 78) hS rfl; have a307 := zMA (a := 307) (ty := .int) (n := 140) hS rfl; have f79 := zMF (k := 79) hS rfl; have a308 := zMA (a := 308) (ty := .int) (n := 140) hS rfl; have zo := zMO hS
  ((with_reducible refine i_Seq (i_Seq (i_Blk (i_Seq (i_Set (i_I ?_)))))); simp only [w_set0, w_set1, w_setn0, w_setn1])
  refine w_ForN n (fun c ρ M' => (∃ l, ρ = 250 :: ((t : Nat) : Int) :: ((c : Nat) : Int) :: l) ∧ (∀ b j, ¬ (b = 259 ∧ ((16 * t : Nat) : Int) ≤ j ∧ j < ((16 * t + 16 : Nat) : Int)) → M' b j = M b j) ∧ ∀ p : Nat, p < c → M' ((259 : Nat) : Int) ((16 * t + p : Nat) : Int) = ((uo Z p : Nat) : Int)) ⟨⟨_, rfl⟩, fun _ _ _ => rfl, fun p hp => absurd hp (by omega)⟩ ?_ ?_
  · rintro c ρ M1 X hc ⟨⟨l, rfl⟩, f1, b1⟩ hX
    have n1 : M1 250 ((1 : Nat) : Int) = ((n : Nat) : Int) := by rw [f1 _ _ (by omega)]; exact hn
    have o1 : M1 ((302 : Nat) : Int) ((c : Nat) : Int) = ((uo Z c : Nat) : Int) := by rw [f1 _ _ (by omega), (hZo c (by omega)).1]; exact if_neg (h6 c hc)
    ((with_reducible refine i_turn (i_cI_lt (i_L2 (i_F (i_A0 ?_))))); (with_reducible refine i_fld (by assumption) ?_); (rw [n1]); (with_reducible refine i_t (by omega) ?_); (with_reducible refine i_sIA (i_FR (i_A0 ?_))); (with_reducible refine i_fldR (by assumption) ?_); (with_reducible refine i_Add (i_Mul (i_I (i_L1 (i_L2 (i_IA (i_FR (i_A0 ?_)))))))); (with_reducible refine i_fldR (by assumption) ?_); (with_reducible refine i_L2 ?_); (with_reducible refine i_in (by assumption) (by omega) (by omega) ?_); (rw [o1]); rw [zx_cmul (by omega)]; rw [zx_add (by omega)]; (with_reducible refine i_in (by assumption) (by omega) (by omega) ?_); (with_reducible refine i_up (i_Inc2 ?_)); rw [zx_inc (by omega)]; simp only [w_set0, w_set1, w_setn0, w_setn1])
    refine hX _ _ ⟨⟨_, rfl⟩, fun b j q => by rw [zg_o _ _ (by omega)]; exact f1 b j q, fun p hp => ?_⟩
    by_cases e : p = c
    · subst e; rw [zg_s]
    · rw [zg_m _ _ _ _ _ (by omega)]; exact b1 p (by omega)
  rintro ρ M1 X ⟨⟨l, rfl⟩, f1, b1⟩
  have n1 : M1 250 ((1 : Nat) : Int) = ((n : Nat) : Int) := by rw [f1 _ _ (by omega)]; exact hn
  ((with_reducible refine i_turn (i_cI_lt (i_L2 (i_F (i_A0 ?_))))); (with_reducible refine i_fld (by assumption) ?_); (rw [n1]); (with_reducible refine i_f (by omega) ?_); (with_reducible refine i_Seq (i_sCall (i_as1 (i_A0 (i_as1 (i_L1 (i_as0 ?_))))))); (with_reducible refine i_recv0 (by assumption) ?_))
  refine m_number hO hS (f := uo Z) (by omega) n1 hn16 b1 (fun q hq => by have := hop q hq; omega) (fun M2 f2 g2 r2 s2 z2 => ⟨rfl, ?_⟩)
  ((with_reducible refine i_Seq (i_sCall (i_as1 (i_A0 (i_as1 (i_L1 (i_as0 ?_))))))); (with_reducible refine i_recv0 (by assumption) ?_))
  refine m_clearWords hO hS (by omega) (fun M3 f3 c3 e3 d3 g3 s3 => ⟨rfl, ?_⟩)
  have n3 : M3 250 ((1 : Nat) : Int) = ((n : Nat) : Int) := by rw [f3 _ _ (by omega), f2 _ _ (by omega)]; exact n1
  have b3 : ∀ p : Nat, p < n → M3 ((259 : Nat) : Int) ((16 * t + p : Nat) : Int) = ((zNum (uo Z) p : Nat) : Int) := fun p hp => by rw [f3 _ _ (by omega)]; exact r2 p hp
  have l3 : ∀ p : Nat, p < 16 → M3 ((303 : Nat) : Int) ((p : Nat) : Int) = ((ul Z p : Nat) : Int) := fun p hp => by rw [f3 _ _ (by omega), f2 _ _ (by omega), f1 _ _ (by omega)]; exact (hZo p hp).2
  ((with_reducible refine i_Seq (i_Blk (i_Seq (i_Set (i_I ?_))))); simp only [w_set0, w_set1, w_setn0, w_setn1])
  refine w_ForN n (fun c ρ M' => (∃ l, ρ = 250 :: ((t : Nat) : Int) :: ((c : Nat) : Int) :: l) ∧ (∀ b j, ¬ (b = 261 ∧ ((256 * t : Nat) : Int) ≤ j ∧ j < ((256 * t + 256 : Nat) : Int)) → M' b j = M3 b j) ∧ ∀ p : Nat, p < c → M' ((261 : Nat) : Int) ((256 * t + 16 * zNum (uo Z) p + ul Z p : Nat) : Int) = ((p : Nat) : Int)) ⟨⟨_, rfl⟩, fun _ _ _ => rfl, fun p hp => absurd hp (by omega)⟩ ?_ ?_
  · rintro c ρ M4 X2 hc ⟨⟨l2, rfl⟩, f4, r4⟩ hX
    have n4 : M4 250 ((1 : Nat) : Int) = ((n : Nat) : Int) := by rw [f4 _ _ (by omega)]; exact n3
    have b4 : M4 ((259 : Nat) : Int) ((16 * t + c : Nat) : Int) = ((zNum (uo Z) c : Nat) : Int) := by rw [f4 _ _ (by omega)]; exact b3 c hc
    have l4 : M4 ((303 : Nat) : Int) ((c : Nat) : Int) = ((ul Z c : Nat) : Int) := by rw [f4 _ _ (by omega)]; exact l3 c (by omega)
    have e1 := hnum c hc
    have e2 := hlp c hc
    ((with_reducible refine i_turn (i_cI_lt (i_L2 (i_F (i_A0 ?_))))); (with_reducible refine i_fld (by assumption) ?_); (rw [n4]); (with_reducible refine i_t (by omega) ?_); (with_reducible refine i_sIA (i_FR (i_A0 ?_))); (with_reducible refine i_fldR (by assumption) ?_); (with_reducible refine i_Add (i_Add (i_Mul (i_I (i_L1 (i_Mul (i_I (i_IA (i_FR (i_A0 ?_)))))))))); (with_reducible refine i_fldR (by assumption) ?_); (with_reducible refine i_Add (i_Mul (i_I (i_L1 (i_L2 ?_))))); rw [zx_cmul (by omega)]; rw [zx_add (by omega)]; (with_reducible refine i_in (by assumption) (by omega) (by omega) ?_); (with_reducible refine i_IA (i_FR (i_A0 ?_))); (with_reducible refine i_fldR (by assumption) ?_); (with_reducible refine i_L2 ?_); (with_reducible refine i_in (by assumption) (by omega) (by omega) ?_); (with_reducible refine i_L2 ?_); (rw [b4]); (rw [l4]); rw [zx_cmul (by omega)]; rw [zx_cmul (by omega)]; rw [zx_add (by omega)]; rw [zx_add (by omega)]; (with_reducible refine i_in (by assumption) (by omega) (by omega) ?_); (with_reducible refine i_up (i_Inc2 ?_)); rw [zx_inc (by omega)]; simp only [w_set0, w_set1, w_setn0, w_setn1])
    refine hX _ _ ⟨⟨_, rfl⟩, fun b j q => by rw [zg_o _ _ (by omega)]; exact f4 b j q, fun p hp => ?_⟩
    by_cases e : p = c
    · subst e; rw [zg_s]
    · have e3 := hnum p (by omega)
      have e4 := hlp p (by omega)
      have e5 : ¬ (zNum (uo Z) p = zNum (uo Z) c ∧ ul Z p = ul Z c) := fun z => e (h1.2.1 p c (h6 p (by omega)) (zNum_inj.mp z.1).symm z.2)
      rw [zg_m _ _ _ _ _ (by omega)]
      exact r4 p (by omega)
  rintro ρ M4 X2 ⟨⟨l2, rfl⟩, f4, r4⟩
  have n4 : M4 250 ((1 : Nat) : Int) = ((n : Nat) : Int) := by rw [f4 _ _ (by omega)]; exact n3
  have m4 : ∀ b : Nat, b < ub Z → M4 ((271 : Nat) : Int) ((b : Nat) : Int) = ((unb n Z b : Nat) : Int) := fun b hb => by rw [f4 _ _ (by omega), f3 _ _ (by omega), z2 b (by omega)]; exact hG.fre hb
  have k4 : M4 250 ((73 : Nat) : Int) = ((uk Z : Nat) : Int) := by rw [f4 _ _ (by omega), f3 _ _ (by omega), f2 _ _ (by omega), f1 _ _ (by omega)]; exact hZw.1
  have w4 : ∀ k : Nat, k < uk Z → M4 ((304 : Nat) : Int) ((k : Nat) : Int) = (((uw Z k).1 : Nat) : Int) ∧ M4 ((305 : Nat) : Int) ((k : Nat) : Int) = (((uw Z k).2.1 : Nat) : Int) ∧ M4 ((306 : Nat) : Int) ((k : Nat) : Int) = uwI (uw Z k) := fun k hk2 => by
    rw [f4 _ _ (by omega), f3 _ _ (by omega), f2 _ _ (by omega), f1 _ _ (by omega), f4 _ _ (by omega), f3 _ _ (by omega), f2 _ _ (by omega), f1 _ _ (by omega), f4 _ _ (by omega), f3 _ _ (by omega), f2 _ _ (by omega), f1 _ _ (by omega)]
    exact hZw.2 k hk2
  have t4 : M4 250 ((77 : Nat) : Int) = ((ut Z : Nat) : Int) := by rw [f4 _ _ (by omega), f3 _ _ (by omega), f2 _ _ (by omega), f1 _ _ (by omega)]; exact hZp.1
  have p4 : ∀ k : Nat, k < ut Z → M4 ((307 : Nat) : Int) ((k : Nat) : Int) = (((up Z k).1 : Nat) : Int) ∧ M4 ((308 : Nat) : Int) ((k : Nat) : Int) = (((up Z k).2.1 : Nat) : Int) := fun k hk2 => by
    rw [f4 _ _ (by omega), f3 _ _ (by omega), f2 _ _ (by omega), f1 _ _ (by omega), f4 _ _ (by omega), f3 _ _ (by omega), f2 _ _ (by omega), f1 _ _ (by omega)]
    exact ⟨(hZp.2 k hk2).1, (hZp.2 k hk2).2.1⟩
  have c4 : rFlg M4 262 t (utC n Z 0) := (c3.to (fun j _ _ => f4 _ _ (by omega))).ext (fun _ _ => rfl)
  have e4 : rFlg M4 263 t (utH n Z 0) := (e3.to (fun j _ _ => f4 _ _ (by omega))).ext (fun _ _ => rfl)
  have d4 : rMat M4 264 t (utD n Z 0) := (d3.to (fun j _ _ => f4 _ _ (by omega))).ext (fun _ _ _ _ => rfl)
  have g4 : rMat M4 265 t (utG n Z 0) := (g3.to (fun j _ _ => f4 _ _ (by omega))).ext (fun _ _ _ _ => rfl)
  ((with_reducible refine i_turn (i_cI_lt (i_L2 (i_F (i_A0 ?_))))); (with_reducible refine i_fld (by assumption) ?_); (rw [n4]); (with_reducible refine i_f (by omega) ?_); (with_reducible refine i_Seq (i_Blk (i_Seq (i_Set (i_I ?_))))); simp only [w_set0, w_set1, w_setn0, w_setn1])
  refine w_ForN (uk Z) (fun k ρ M' => (∃ l, ρ = 250 :: ((t : Nat) : Int) :: ((k : Nat) : Int) :: l) ∧ (∀ b j, ¬ ((b = 262 ∨ b = 263) ∧ ((16 * t : Nat) : Int) ≤ j ∧ j < ((16 * t + 16 : Nat) : Int) ∨ (b = 264 ∨ b = 265) ∧ ((256 * t : Nat) : Int) ≤ j ∧ j < ((256 * t + 256 : Nat) : Int)) → M' b j = M4 b j) ∧ rFlg M' 262 t (utC n Z k) ∧ rMat M' 264 t (utD n Z k) ∧ rMat M' 265 t (utG n Z k) ∧ rFlg M' 263 t (utH n Z k)) ⟨⟨_, rfl⟩, fun _ _ _ => rfl, c4, d4, g4, e4⟩ ?_ ?_
  · rintro k ρ M5 X3 hkk ⟨⟨l3, rfl⟩, f5, c5, d5, g5, e5⟩ hX
    have hw := h2 k hkk
    have k5 : M5 250 ((73 : Nat) : Int) = ((uk Z : Nat) : Int) := by rw [f5 _ _ (by omega)]; exact k4
    have m5 : ∀ b : Nat, b < ub Z → M5 ((271 : Nat) : Int) ((b : Nat) : Int) = ((unb n Z b : Nat) : Int) := fun b hb => by rw [f5 _ _ (by omega)]; exact m4 b hb
    obtain ⟨y1, y2, y3⟩ := w4 k hkk
    rw [← f5 _ _ (by omega)] at y1 y2 y3
    have hX2 : ∀ (l : zLoc) (M' : zMem), (∀ b j, ¬ ((b = 262 ∨ b = 263) ∧ ((16 * t : Nat) : Int) ≤ j ∧ j < ((16 * t + 16 : Nat) : Int) ∨ (b = 264 ∨ b = 265) ∧ ((256 * t : Nat) : Int) ≤ j ∧ j < ((256 * t + 256 : Nat) : Int)) → M' b j = M5 b j) → rFlg M' 262 t (fun i => utC n Z k i || decide ((uw Z k).1 = 0 ∧ unb n Z (uw Z k).2.1 = i)) → rMat M' 264 t (fun i j => utD n Z k i j || decide ((uw Z k).1 = 1 ∧ min (unb n Z (uw Z k).2.1) (unb n Z (uw Z k).2.2) = i ∧ max (unb n Z (uw Z k).2.1) (unb n Z (uw Z k).2.2) = j)) → rMat M' 265 t (fun p i => utG n Z k p i || decide ((uw Z k).1 = 2 ∧ (uw Z k).2.1 = p ∧ unb n Z (uw Z k).2.2 = i)) → rFlg M' 263 t (fun i => utH n Z k i || decide ((uw Z k).1 = 3 ∧ unb n Z (uw Z k).2.1 = i)) → X3 (250 :: ((t : Nat) : Int) :: ((k + 1 : Nat) : Int) :: l) M' := fun l M' f a b c d => hX _ _ ⟨⟨l, rfl⟩, fun b j q => (f b j q).trans (f5 b j q), a.ext (fun i _ => (utC_su n Z k i).symm), b.ext (fun i j _ _ => (utD_su n Z k i j).symm), c.ext (fun p i _ _ => (utG_su n Z k p i).symm), d.ext (fun i _ => (utH_su n Z k i).symm)⟩
    clear hX hk
    generalize utC n Z k = C at *
    generalize utD n Z k = D at *
    generalize utG n Z k = G at *
    generalize utH n Z k = H at *
    generalize uw Z k = w at hw y1 y2 y3 hX2
    obtain ⟨s, x, y⟩ := w
    unfold uWk at hw
    unfold uwI at y3
    (try dsimp only at hw y1 y2 y3 hX2)
    have l16 := fun b (hb : b < ub Z) => hG.lt16 hn16 hb
    have hs4 : s = 0 ∨ s = 3 ∨ s = 1 ∨ s = 2 := by omega
    rcases hs4 with e | e | e | e
    · subst e
      have hx : x < ub Z := by omega
      have mx := m5 x hx
      have lx := l16 x hx
      have y1' : M5 ((304 : Nat) : Int) ((k : Nat) : Int) = 0 := y1
      have y3' : M5 ((306 : Nat) : Int) ((k : Nat) : Int) = -1 := y3
      generalize unb n Z x = a at *
      ((with_reducible refine i_turn (i_cI_lt (i_L2 (i_F (i_A0 ?_))))); (with_reducible refine i_fld (by assumption) ?_); (rw [k5]); (with_reducible refine i_t (by omega) ?_); (with_reducible refine i_Blk (i_Seq (i_Set (i_eIf (i_cI_eq (i_IA (i_FR (i_A0 ?_)))))))); (with_reducible refine i_fldR (by assumption) ?_); (with_reducible refine i_L2 ?_); (with_reducible refine i_in (by assumption) (by omega) (by omega) ?_); (with_reducible refine i_I ?_); (rw [y1']); (with_reducible refine i_f (by omega) ?_); (with_reducible refine i_IA (i_FR (i_A0 ?_))); (with_reducible refine i_fldR (by assumption) ?_); (with_reducible refine i_IA (i_FR (i_A0 ?_))); (with_reducible refine i_fldR (by assumption) ?_); (with_reducible refine i_L2 ?_); (with_reducible refine i_in (by assumption) (by omega) (by omega) ?_); (with_reducible refine i_in (by assumption) (by omega) (by omega) ?_); (with_reducible refine i_Seq (i_Set (i_eIf (i_cZ_lt (i_IA (i_FR ?_)))))); (rw [y2]); (rw [mx]); simp only [w_set0, w_set1, w_setn0, w_setn1]; (with_reducible refine i_A0 ?_); (with_reducible refine i_fldR (by assumption) ?_); (with_reducible refine i_L2 ?_); (with_reducible refine i_in (by assumption) (by omega) (by omega) ?_); (rw [y3']); rw [w_setT]; (with_reducible refine i_t (by omega) ?_); (with_reducible refine i_I (i_Seq (i_If (i_cZ_eq (i_IA (i_FR ?_)))))); simp only [w_set0, w_set1, w_setn0, w_setn1]; (with_reducible refine i_A0 ?_); (with_reducible refine i_fldR (by assumption) ?_); (with_reducible refine i_L2 ?_); (with_reducible refine i_in (by assumption) (by omega) (by omega) ?_); (rw [y1']); simp only [w_set0, w_set1, w_setn0, w_setn1]; rw [w_setT]; (with_reducible refine i_t trivial ?_); (with_reducible refine i_sZA (i_FR (i_A0 ?_))); (with_reducible refine i_fldR (by assumption) ?_); (with_reducible refine i_Add (i_Mul (i_I (i_L1 (i_L3 (i_I ?_)))))); rw [zx_cmul (by omega)]; rw [zx_add (by omega)]; (with_reducible refine i_zin (Or.inr rfl) (by assumption) (by omega) (by omega) ?_); (with_reducible refine i_Seq (i_If (i_cI_eq (i_IA (i_FR (i_A0 ?_)))))); (with_reducible refine i_fldR (by assumption) ?_); (with_reducible refine i_L2 ?_); (with_reducible refine i_in (by assumption) (by omega) (by omega) ?_); (with_reducible refine i_I ?_); rw [zg_n _ _ _ (by omega)]; (rw [y1']); (with_reducible refine i_f (by omega) ?_); (with_reducible refine i_Seq (i_If (i_cI_eq (i_IA (i_FR (i_A0 ?_)))))); (with_reducible refine i_fldR (by assumption) ?_); (with_reducible refine i_L2 ?_); (with_reducible refine i_in (by assumption) (by omega) (by omega) ?_); (with_reducible refine i_I ?_); rw [zg_n _ _ _ (by omega)]; (rw [y1']); (with_reducible refine i_f (by omega) ?_); (with_reducible refine i_If (i_cI_eq (i_IA (i_FR (i_A0 ?_))))); (with_reducible refine i_fldR (by assumption) ?_); (with_reducible refine i_L2 ?_); (with_reducible refine i_in (by assumption) (by omega) (by omega) ?_); (with_reducible refine i_I ?_); rw [zg_n _ _ _ (by omega)]; (rw [y1']); (with_reducible refine i_f (by omega) ?_); (with_reducible refine i_up (i_Inc2 ?_)); rw [zx_inc (by omega)]; simp only [w_set0, w_set1, w_setn0, w_setn1])
      exact hX2 _ _ (fun b j q => by rw [zg_o _ _ (by omega)]) ((c5.up rfl).ext (fun b _ => zor_up ⟨fun z => z.2.symm, fun z => ⟨rfl, z.symm⟩⟩)) ((d5.to (fun j _ _ => by rw [zg_n _ _ _ (by omega)])).ext (fun i j _ _ => zor_no (fun z => absurd z.1 (by decide)))) ((g5.to (fun j _ _ => by rw [zg_n _ _ _ (by omega)])).ext (fun i j _ _ => zor_no (fun z => absurd z.1 (by decide)))) ((e5.to (fun j _ _ => by rw [zg_n _ _ _ (by omega)])).ext (fun i _ => zor_no (fun z => absurd z.1 (by decide))))
    · subst e
      have hx : x < ub Z := by omega
      have mx := m5 x hx
      have lx := l16 x hx
      have y1' : M5 ((304 : Nat) : Int) ((k : Nat) : Int) = 3 := y1
      have y3' : M5 ((306 : Nat) : Int) ((k : Nat) : Int) = -1 := y3
      generalize unb n Z x = a at *
      ((with_reducible refine i_turn (i_cI_lt (i_L2 (i_F (i_A0 ?_))))); (with_reducible refine i_fld (by assumption) ?_); (rw [k5]); (with_reducible refine i_t (by omega) ?_); (with_reducible refine i_Blk (i_Seq (i_Set (i_eIf (i_cI_eq (i_IA (i_FR (i_A0 ?_)))))))); (with_reducible refine i_fldR (by assumption) ?_); (with_reducible refine i_L2 ?_); (with_reducible refine i_in (by assumption) (by omega) (by omega) ?_); (with_reducible refine i_I ?_); (rw [y1']); (with_reducible refine i_f (by omega) ?_); (with_reducible refine i_IA (i_FR (i_A0 ?_))); (with_reducible refine i_fldR (by assumption) ?_); (with_reducible refine i_IA (i_FR (i_A0 ?_))); (with_reducible refine i_fldR (by assumption) ?_); (with_reducible refine i_L2 ?_); (with_reducible refine i_in (by assumption) (by omega) (by omega) ?_); (with_reducible refine i_in (by assumption) (by omega) (by omega) ?_); (with_reducible refine i_Seq (i_Set (i_eIf (i_cZ_lt (i_IA (i_FR ?_)))))); (rw [y2]); (rw [mx]); simp only [w_set0, w_set1, w_setn0, w_setn1]; (with_reducible refine i_A0 ?_); (with_reducible refine i_fldR (by assumption) ?_); (with_reducible refine i_L2 ?_); (with_reducible refine i_in (by assumption) (by omega) (by omega) ?_); (rw [y3']); rw [w_setT]; (with_reducible refine i_t (by omega) ?_); (with_reducible refine i_I (i_Seq (i_If (i_cZ_eq (i_IA (i_FR ?_)))))); simp only [w_set0, w_set1, w_setn0, w_setn1]; (with_reducible refine i_A0 ?_); (with_reducible refine i_fldR (by assumption) ?_); (with_reducible refine i_L2 ?_); (with_reducible refine i_in (by assumption) (by omega) (by omega) ?_); (rw [y1']); rw [w_setT]; (with_reducible refine i_f (by omega) ?_); (with_reducible refine i_Seq (i_If (i_cI_eq (i_IA (i_FR (i_A0 ?_)))))); (with_reducible refine i_fldR (by assumption) ?_); (with_reducible refine i_L2 ?_); (with_reducible refine i_in (by assumption) (by omega) (by omega) ?_); (with_reducible refine i_I ?_); (rw [y1']); (with_reducible refine i_f (by omega) ?_); (with_reducible refine i_Seq (i_If (i_cI_eq (i_IA (i_FR (i_A0 ?_)))))); (with_reducible refine i_fldR (by assumption) ?_); (with_reducible refine i_L2 ?_); (with_reducible refine i_in (by assumption) (by omega) (by omega) ?_); (with_reducible refine i_I ?_); (rw [y1']); (with_reducible refine i_f (by omega) ?_); (with_reducible refine i_If (i_cI_eq (i_IA (i_FR (i_A0 ?_))))); (with_reducible refine i_fldR (by assumption) ?_); (with_reducible refine i_L2 ?_); (with_reducible refine i_in (by assumption) (by omega) (by omega) ?_); (with_reducible refine i_I ?_); (rw [y1']); simp only [w_set0, w_set1, w_setn0, w_setn1]; (with_reducible refine i_t trivial ?_); (with_reducible refine i_sZA (i_FR (i_A0 ?_))); (with_reducible refine i_fldR (by assumption) ?_); (with_reducible refine i_Add (i_Mul (i_I (i_L1 (i_L3 (i_I ?_)))))); rw [zx_cmul (by omega)]; rw [zx_add (by omega)]; (with_reducible refine i_zin (Or.inr rfl) (by assumption) (by omega) (by omega) ?_); (with_reducible refine i_up (i_Inc2 ?_)); rw [zx_inc (by omega)]; simp only [w_set0, w_set1, w_setn0, w_setn1])
      exact hX2 _ _ (fun b j q => by rw [zg_o _ _ (by omega)]) ((c5.to (fun j _ _ => by rw [zg_n _ _ _ (by omega)])).ext (fun i _ => zor_no (fun z => absurd z.1 (by decide)))) ((d5.to (fun j _ _ => by rw [zg_n _ _ _ (by omega)])).ext (fun i j _ _ => zor_no (fun z => absurd z.1 (by decide)))) ((g5.to (fun j _ _ => by rw [zg_n _ _ _ (by omega)])).ext (fun i j _ _ => zor_no (fun z => absurd z.1 (by decide)))) ((e5.up rfl).ext (fun b _ => zor_up ⟨fun z => z.2.symm, fun z => ⟨rfl, z.symm⟩⟩))
    · subst e
      have hx : x < ub Z := by omega
      have hy : y < ub Z := by omega
      have mx := m5 x hx
      have my := m5 y hy
      have lx := l16 x hx
      have ly := l16 y hy
      have y1' : M5 ((304 : Nat) : Int) ((k : Nat) : Int) = 1 := y1
      have y3' : M5 ((306 : Nat) : Int) ((k : Nat) : Int) = ((y : Nat) : Int) := y3
      generalize unb n Z x = a at *
      generalize unb n Z y = c at *
      have hcell : (if a < c then 16 * a + c else 16 * c + a) = 16 * min a c + max a c := by split <;> omega
      ((with_reducible refine i_turn (i_cI_lt (i_L2 (i_F (i_A0 ?_))))); (with_reducible refine i_fld (by assumption) ?_); (rw [k5]); (with_reducible refine i_t (by omega) ?_); (with_reducible refine i_Blk (i_Seq (i_Set (i_eIf (i_cI_eq (i_IA (i_FR (i_A0 ?_)))))))); (with_reducible refine i_fldR (by assumption) ?_); (with_reducible refine i_L2 ?_); (with_reducible refine i_in (by assumption) (by omega) (by omega) ?_); (with_reducible refine i_I ?_); (rw [y1']); (with_reducible refine i_f (by omega) ?_); (with_reducible refine i_IA (i_FR (i_A0 ?_))); (with_reducible refine i_fldR (by assumption) ?_); (with_reducible refine i_IA (i_FR (i_A0 ?_))); (with_reducible refine i_fldR (by assumption) ?_); (with_reducible refine i_L2 ?_); (with_reducible refine i_in (by assumption) (by omega) (by omega) ?_); (with_reducible refine i_in (by assumption) (by omega) (by omega) ?_); (with_reducible refine i_Seq (i_Set (i_eIf (i_cZ_lt (i_IA (i_FR ?_)))))); (rw [y2]); (rw [mx]); simp only [w_set0, w_set1, w_setn0, w_setn1]; (with_reducible refine i_A0 ?_); (with_reducible refine i_fldR (by assumption) ?_); (with_reducible refine i_L2 ?_); (with_reducible refine i_in (by assumption) (by omega) (by omega) ?_); (rw [y3']); rw [w_setT]; (with_reducible refine i_f (by omega) ?_); (with_reducible refine i_IA (i_FR (i_A0 ?_))); (with_reducible refine i_fldR (by assumption) ?_); (with_reducible refine i_IA (i_FR (i_A0 ?_))); (with_reducible refine i_fldR (by assumption) ?_); (with_reducible refine i_L2 ?_); (with_reducible refine i_in (by assumption) (by omega) (by omega) ?_); (with_reducible refine i_in (by assumption) (by omega) (by omega) ?_); (with_reducible refine i_Seq (i_If (i_cZ_eq (i_IA (i_FR ?_))))); (rw [y3']); (rw [my]); simp only [w_set0, w_set1, w_setn0, w_setn1]; (with_reducible refine i_A0 ?_); (with_reducible refine i_fldR (by assumption) ?_); (with_reducible refine i_L2 ?_); (with_reducible refine i_in (by assumption) (by omega) (by omega) ?_); (rw [y1']); rw [w_setT]; (with_reducible refine i_f (by omega) ?_); (with_reducible refine i_Seq (i_If (i_cI_eq (i_IA (i_FR (i_A0 ?_)))))); (with_reducible refine i_fldR (by assumption) ?_); (with_reducible refine i_L2 ?_); (with_reducible refine i_in (by assumption) (by omega) (by omega) ?_); (with_reducible refine i_I ?_); (rw [y1']); simp only [w_set0, w_set1, w_setn0, w_setn1]; (with_reducible refine i_t trivial ?_); (with_reducible refine i_sZA (i_FR (i_A0 ?_))); (with_reducible refine i_fldR (by assumption) ?_); (with_reducible refine i_Add (i_Mul (i_I (i_L1 (i_Call (i_as1 (i_L3 (i_as1 (i_L4 (i_as0 (i_recv1 ?_))))))))))); (refine m_cellOf hO hS lx ly ⟨_, rfl, ?_⟩); (with_reducible refine i_I ?_); (rw [hcell]); rw [zx_cmul (by omega)]; rw [zx_add (by omega)]; (with_reducible refine i_zin (Or.inr rfl) (by assumption) (by omega) (by omega) ?_); (with_reducible refine i_Seq (i_If (i_cI_eq (i_IA (i_FR (i_A0 ?_)))))); (with_reducible refine i_fldR (by assumption) ?_); (with_reducible refine i_L2 ?_); (with_reducible refine i_in (by assumption) (by omega) (by omega) ?_); (with_reducible refine i_I ?_); rw [zg_n _ _ _ (by omega)]; (rw [y1']); (with_reducible refine i_f (by omega) ?_); (with_reducible refine i_If (i_cI_eq (i_IA (i_FR (i_A0 ?_))))); (with_reducible refine i_fldR (by assumption) ?_); (with_reducible refine i_L2 ?_); (with_reducible refine i_in (by assumption) (by omega) (by omega) ?_); (with_reducible refine i_I ?_); rw [zg_n _ _ _ (by omega)]; (rw [y1']); (with_reducible refine i_f (by omega) ?_); (with_reducible refine i_up (i_Inc2 ?_)); rw [zx_inc (by omega)]; simp only [w_set0, w_set1, w_setn0, w_setn1])
      rw [show 256 * t + (16 * min a c + max a c) = 256 * t + 16 * min a c + max a c by omega]
      exact hX2 _ _ (fun b j q => by rw [zg_o _ _ (by omega)]) ((c5.to (fun j _ _ => by rw [zg_n _ _ _ (by omega)])).ext (fun i _ => zor_no (fun z => absurd z.1 (by decide)))) ((d5.up (by omega) (by omega) rfl).ext (fun i j _ _ => zor_up2 ⟨fun z => ⟨z.2.1.symm, z.2.2.symm⟩, fun z => ⟨rfl, z.1.symm, z.2.symm⟩⟩)) ((g5.to (fun j _ _ => by rw [zg_n _ _ _ (by omega)])).ext (fun i j _ _ => zor_no (fun z => absurd z.1 (by decide)))) ((e5.to (fun j _ _ => by rw [zg_n _ _ _ (by omega)])).ext (fun i _ => zor_no (fun z => absurd z.1 (by decide))))
    · subst e
      have hx : x < n := by omega
      have hy : y < ub Z := by omega
      have my := m5 y hy
      have ly := l16 y hy
      have y1' : M5 ((304 : Nat) : Int) ((k : Nat) : Int) = 2 := y1
      have y3' : M5 ((306 : Nat) : Int) ((k : Nat) : Int) = ((y : Nat) : Int) := y3
      generalize unb n Z y = c at *
      ((with_reducible refine i_turn (i_cI_lt (i_L2 (i_F (i_A0 ?_))))); (with_reducible refine i_fld (by assumption) ?_); (rw [k5]); (with_reducible refine i_t (by omega) ?_); (with_reducible refine i_Blk (i_Seq (i_Set (i_eIf (i_cI_eq (i_IA (i_FR (i_A0 ?_)))))))); (with_reducible refine i_fldR (by assumption) ?_); (with_reducible refine i_L2 ?_); (with_reducible refine i_in (by assumption) (by omega) (by omega) ?_); (with_reducible refine i_I ?_); (rw [y1']); simp only [w_set0, w_set1, w_setn0, w_setn1]; (with_reducible refine i_t trivial ?_); (with_reducible refine i_IA (i_FR (i_A0 ?_))); (with_reducible refine i_fldR (by assumption) ?_); (with_reducible refine i_L2 ?_); (with_reducible refine i_in (by assumption) (by omega) (by omega) ?_); (with_reducible refine i_Seq (i_Set (i_eIf (i_cZ_lt (i_IA (i_FR ?_)))))); (rw [y2]); simp only [w_set0, w_set1, w_setn0, w_setn1]; (with_reducible refine i_A0 ?_); (with_reducible refine i_fldR (by assumption) ?_); (with_reducible refine i_L2 ?_); (with_reducible refine i_in (by assumption) (by omega) (by omega) ?_); (rw [y3']); rw [w_setT]; (with_reducible refine i_f (by omega) ?_); (with_reducible refine i_IA (i_FR (i_A0 ?_))); (with_reducible refine i_fldR (by assumption) ?_); (with_reducible refine i_IA (i_FR (i_A0 ?_))); (with_reducible refine i_fldR (by assumption) ?_); (with_reducible refine i_L2 ?_); (with_reducible refine i_in (by assumption) (by omega) (by omega) ?_); (with_reducible refine i_in (by assumption) (by omega) (by omega) ?_); (with_reducible refine i_Seq (i_If (i_cZ_eq (i_IA (i_FR ?_))))); (rw [y3']); (rw [my]); simp only [w_set0, w_set1, w_setn0, w_setn1]; (with_reducible refine i_A0 ?_); (with_reducible refine i_fldR (by assumption) ?_); (with_reducible refine i_L2 ?_); (with_reducible refine i_in (by assumption) (by omega) (by omega) ?_); (rw [y1']); rw [w_setT]; (with_reducible refine i_f (by omega) ?_); (with_reducible refine i_Seq (i_If (i_cI_eq (i_IA (i_FR (i_A0 ?_)))))); (with_reducible refine i_fldR (by assumption) ?_); (with_reducible refine i_L2 ?_); (with_reducible refine i_in (by assumption) (by omega) (by omega) ?_); (with_reducible refine i_I ?_); (rw [y1']); (with_reducible refine i_f (by omega) ?_); (with_reducible refine i_Seq (i_If (i_cI_eq (i_IA (i_FR (i_A0 ?_)))))); (with_reducible refine i_fldR (by assumption) ?_); (with_reducible refine i_L2 ?_); (with_reducible refine i_in (by assumption) (by omega) (by omega) ?_); (with_reducible refine i_I ?_); (rw [y1']); simp only [w_set0, w_set1, w_setn0, w_setn1]; (with_reducible refine i_t trivial ?_); (with_reducible refine i_sZA (i_FR (i_A0 ?_))); (with_reducible refine i_fldR (by assumption) ?_); (with_reducible refine i_Add (i_Add (i_Mul (i_I (i_L1 (i_Mul (i_I (i_L3 (i_L4 (i_I ?_)))))))))); rw [zx_cmul (by omega)]; rw [zx_cmul (by omega)]; rw [zx_add (by omega)]; rw [zx_add (by omega)]; (with_reducible refine i_zin (Or.inr rfl) (by assumption) (by omega) (by omega) ?_); (with_reducible refine i_If (i_cI_eq (i_IA (i_FR (i_A0 ?_))))); (with_reducible refine i_fldR (by assumption) ?_); (with_reducible refine i_L2 ?_); (with_reducible refine i_in (by assumption) (by omega) (by omega) ?_); (with_reducible refine i_I ?_); rw [zg_n _ _ _ (by omega)]; (rw [y1']); (with_reducible refine i_f (by omega) ?_); (with_reducible refine i_up (i_Inc2 ?_)); rw [zx_inc (by omega)]; simp only [w_set0, w_set1, w_setn0, w_setn1])
      exact hX2 _ _ (fun b j q => by rw [zg_o _ _ (by omega)]) ((c5.to (fun j _ _ => by rw [zg_n _ _ _ (by omega)])).ext (fun i _ => zor_no (fun z => absurd z.1 (by decide)))) ((d5.to (fun j _ _ => by rw [zg_n _ _ _ (by omega)])).ext (fun i j _ _ => zor_no (fun z => absurd z.1 (by decide)))) ((g5.up (by omega) (by omega) rfl).ext (fun i j _ _ => zor_up2 ⟨fun z => ⟨z.2.1.symm, z.2.2.symm⟩, fun z => ⟨rfl, z.1.symm, z.2.symm⟩⟩)) ((e5.to (fun j _ _ => by rw [zg_n _ _ _ (by omega)])).ext (fun i _ => zor_no (fun z => absurd z.1 (by decide))))
  rintro ρ M5 X3 ⟨⟨l3, rfl⟩, f5, c5, d5, g5, e5⟩
  have k5 : M5 250 ((73 : Nat) : Int) = ((uk Z : Nat) : Int) := by rw [f5 _ _ (by omega)]; exact k4
  have s5 : rSta M5 t (utv Z 0) := fun a b ha hb => by
    rw [f5 _ _ (by omega), f4 _ _ (by omega), s3 a b ha hb]
    unfold utv
    rw [if_neg (fun z => by cases z.2)]
  ((with_reducible refine i_turn (i_cI_lt (i_L2 (i_F (i_A0 ?_))))); (with_reducible refine i_fld (by assumption) ?_); (rw [k5]); (with_reducible refine i_f (by omega) ?_); (with_reducible refine i_Blk (i_Seq (i_Set (i_I ?_)))); simp only [w_set0, w_set1, w_setn0, w_setn1])
  refine w_ForN (ut Z) (fun k ρ M' => (∃ l, ρ = 250 :: ((t : Nat) : Int) :: ((k : Nat) : Int) :: l) ∧ (∀ b j, ¬ (b = 266 ∧ ((256 * t : Nat) : Int) ≤ j ∧ j < ((256 * t + 256 : Nat) : Int)) → M' b j = M5 b j) ∧ rSta M' t (utv Z k)) ⟨⟨_, rfl⟩, fun _ _ _ => rfl, s5⟩ ?_ ?_
  · rintro k ρ M6 X4 hkk ⟨⟨l4, rfl⟩, f6, s6⟩ hX
    obtain ⟨x1, x2, x3⟩ := h5 k hkk
    have t6 : M6 250 ((77 : Nat) : Int) = ((ut Z : Nat) : Int) := by rw [f6 _ _ (by omega), f5 _ _ (by omega)]; exact t4
    obtain ⟨y1, y2⟩ := p4 k hkk
    rw [← f5 _ _ (by omega), ← f6 _ _ (by omega)] at y1 y2
    have hsu := utv_su x3
    have hX2 : ∀ (l : zLoc) (M' : zMem), (∀ b j, ¬ (b = 266 ∧ ((256 * t : Nat) : Int) ≤ j ∧ j < ((256 * t + 256 : Nat) : Int)) → M' b j = M6 b j) → (∀ a b : Nat, a < 16 → b < 16 → M' ((266 : Nat) : Int) ((256 * t + 16 * a + b : Nat) : Int) = ((if a = min (up Z k).1 (up Z k).2.1 ∧ b = max (up Z k).1 (up Z k).2.1 then 1 else utv Z k a b : Nat) : Int)) → X4 (250 :: ((t : Nat) : Int) :: ((k + 1 : Nat) : Int) :: l) M' := fun l M' f a => hX _ _ ⟨⟨l, rfl⟩, fun b j q => (f b j q).trans (f6 b j q), fun p q hp hq => by rw [hsu]; exact a p q hp hq⟩
    clear hX hk hsu
    generalize utv Z k = v at *
    generalize (up Z k).1 = x at *
    generalize (up Z k).2.1 = y at *
    have hcell : (if x < y then 16 * x + y else 16 * y + x) = 16 * min x y + max x y := by split <;> omega
    ((with_reducible refine i_turn (i_cI_lt (i_L2 (i_F (i_A0 ?_))))); (with_reducible refine i_fld (by assumption) ?_); (rw [t6]); (with_reducible refine i_t (by omega) ?_); (with_reducible refine i_sIA (i_FR (i_A0 ?_))); (with_reducible refine i_fldR (by assumption) ?_); (with_reducible refine i_Add (i_Mul (i_I (i_L1 (i_Call (i_as1 (i_IA (i_FR (i_A0 ?_))))))))); (with_reducible refine i_fldR (by assumption) ?_); (with_reducible refine i_L2 ?_); (with_reducible refine i_in (by assumption) (by omega) (by omega) ?_); (with_reducible refine i_as1 (i_IA (i_FR (i_A0 ?_)))); (with_reducible refine i_fldR (by assumption) ?_); (with_reducible refine i_L2 ?_); (with_reducible refine i_in (by assumption) (by omega) (by omega) ?_); (with_reducible refine i_as0 (i_recv1 ?_)); (rw [y1]); (rw [y2]); (refine m_cellOf hO hS (show x < 16 by omega) (show y < 16 by omega) ⟨_, rfl, ?_⟩); (with_reducible refine i_I ?_); (rw [hcell]); rw [zx_cmul (by omega)]; rw [zx_add (by omega)]; (with_reducible refine i_in (by assumption) (by omega) (by omega) ?_); (with_reducible refine i_up (i_Inc2 ?_)); rw [zx_inc (by omega)]; simp only [w_set0, w_set1, w_setn0, w_setn1])
    refine hX2 _ _ (fun b j q => by rw [zg_o _ _ (by omega)]) (fun a b ha hb => ?_)
    by_cases e : a = min x y ∧ b = max x y
    · rw [if_pos e, e.1, e.2, show 256 * t + 16 * min x y + max x y = 256 * t + (16 * min x y + max x y) by omega, zg_s]
      rfl
    · rw [if_neg e, zg_m _ _ _ _ _ (by omega)]
      exact s6 a b ha hb
  rintro ρ M6 X4 ⟨⟨l4, rfl⟩, f6, s6⟩
  have t6 : M6 250 ((77 : Nat) : Int) = ((ut Z : Nat) : Int) := by rw [f6 _ _ (by omega), f5 _ _ (by omega)]; exact t4
  ((with_reducible refine i_turn (i_cI_lt (i_L2 (i_F (i_A0 ?_))))); (with_reducible refine i_fld (by assumption) ?_); (rw [t6]); (with_reducible refine i_f (by omega) ?_); (with_reducible refine i_RetV ?_))
  refine hk M6 (fun b j q => by rw [f6 _ _ (by omega), f5 _ _ (by omega), f4 _ _ (by omega), f3 _ _ (by omega), f2 _ _ (by omega), f1 _ _ (by omega)]) ⟨⟨?_, fun q hq => ?_, fun b hb => ?_⟩, ⟨c5.to (fun j _ _ => f6 _ _ (by omega)), d5.to (fun j _ _ => f6 _ _ (by omega)), g5.to (fun j _ _ => f6 _ _ (by omega)), e5.to (fun j _ _ => f6 _ _ (by omega))⟩, fun i k hi hkk => ?_, s6⟩
  · rw [f6 _ _ (by omega), f5 _ _ (by omega), f4 _ _ (by omega), f3 _ _ (by omega)]; exact g2
  · rw [f6 _ _ (by omega), f5 _ _ (by omega), f4 _ _ (by omega), f3 _ _ (by omega)]; exact r2 q hq
  · rw [f6 _ _ (by omega), f5 _ _ (by omega), f4 _ _ (by omega), f3 _ _ (by omega)]; exact s2 b hb
  · have hi2 : i < zcnt (zNew (uo Z)) n := hi
    have hk2 : k < zSz (zNum (uo Z)) n i := hkk
    show M6 ((261 : Nat) : Int) ((256 * t + 16 * i + k : Nat) : Int) = ((utr n Z i k : Nat) : Int)
    obtain ⟨b, b1, rfl⟩ := hG.on hi2
    rw [hG.siz hn16 b1] at hk2
    obtain ⟨y1, y2, y3, -⟩ := utr_ok hG b1 hk2
    have y4 := r4 _ y1
    have y5 := zSz_le (uo Z) 16 b
    have y6 := hG.lt16 hn16 b1
    rw [(hG.num y1 b1).mpr y2, y3] at y4
    rw [f6 _ _ (by omega), f5 _ _ (by omega)]
    exact y4
