/-! ===== served step by step: the reference ===== -/
theorem m_serveMany {O : zOm} (hO : zWld O) (hS : zS O = zmS zC0) {t n E : Nat} {len : Int} {A : zTl} {Q : zQl} {M : zMem} {K : Option zV → zMem → Prop} (ht : t < 7) (hn : M 250 ((1 : Nat) : Int) = ((n : Nat) : Int)) (hn2 : n ≤ 16) (hA : rTe M t n A) (hw : zTw n A) (hq : rQs M Q) (hQ : zQs n Q)
    (hk : ∀ M', (∀ b j, ¬ (b = 250 ∧ j = 52 ∨ b = ((266 : Nat) : Int) ∧ ((256 * t : Nat) : Int) ≤ j ∧ j < ((256 * t + 256 : Nat) : Int) ∨ ((268 : Nat) : Int) ≤ b ∧ b ≤ ((270 : Nat) : Int) ∨ ((288 : Nat) : Int) ≤ b ∧ b ≤ ((290 : Nat) : Int)) → M' b j = M b j) → (¬ len < ((tLen n (zTs A 0) : Nat) : Int) → rTe M' t n (zsw2 n A Q len).1) → K (some (0, if len < ((tLen n (zTs A 0) : Nat) : Int) then -2 else (((zsw2 n A Q len).2 : Nat) : Int))) M') : zR O F_Model_serveMany [(2, 250), (0, ((t : Nat) : Int)), (0, len), (0, ((E : Nat) : Int))] M K := by
  have gv : ∀ c : Nat, c < 256 → M ((266 : Nat) : Int) ((256 * t + c : Nat) : Int) = ((tv A (c / 16) (c % 16) : Nat) : Int) := fun c hc => by
    have := hA.2.2.2 (c / 16) (c % 16) (by omega) (by omega)
    rwa [show 256 * t + 16 * (c / 16) + c % 16 = 256 * t + c by omega] at this
  have hw0 := zTs_w hw 0
  have hln0 := tLen_b hn2 hw0
  have hhm0 := zhm_B (A := zTs A 0) hn2 hQ
  apply r_Model_serveMany hO
  unfold B_Model_serveMany
  have f20 := zMF (k := 20) hS rfl; have a266 := zMA (a := 266) (ty := .int) (n := 1792) hS rfl; have zo := zMO hS
  ((with_reducible refine i_Seq (i_Blk (i_Seq (i_Set (i_I ?_))))); simp only [w_set0, w_set1, w_setn0, w_setn1])
  refine w_ForN 256 (fun c ρ M' => (∃ l, ρ = 250 :: ((t : Nat) : Int) :: len :: ((E : Nat) : Int) :: ((c : Nat) : Int) :: l) ∧ (∀ b j, ¬ (b = ((266 : Nat) : Int) ∧ ((256 * t : Nat) : Int) ≤ j ∧ j < ((256 * t + 256 : Nat) : Int)) → M' b j = M b j) ∧ ∀ d : Nat, d < 256 → M' ((266 : Nat) : Int) ((256 * t + d : Nat) : Int) = ((if d < c then (if tv A (d / 16) (d % 16) = 0 then 0 else 2) else tv A (d / 16) (d % 16) : Nat) : Int)) ⟨⟨_, rfl⟩, fun _ _ _ => rfl, fun d hd => by rw [if_neg (Nat.not_lt_zero _)]; exact gv d hd⟩ ?_ ?_
  · rintro c ρ M1 X hc ⟨⟨l, rfl⟩, f1', h1⟩ hX
    have g := h1 c hc
    rw [if_neg (Nat.lt_irrefl _)] at g
    have hst : ∀ (d x y : Nat), d ≠ c → (if d < c then x else y) = (if d < c + 1 then x else y) := fun d x y hne => by
      by_cases w : d < c
      · rw [if_pos w, if_pos (by omega)]
      · rw [if_neg w, if_neg (by omega)]
    by_cases e : tv A (c / 16) (c % 16) = 0
    · rw [e] at g
      ((with_reducible refine i_turn (i_cI_lt (i_L4 (i_I ?_)))); (with_reducible refine i_t (by omega) ?_); (with_reducible refine i_If (i_cZ_ne (i_IA (i_FR (i_A0 ?_))))); (with_reducible refine i_fldR (by assumption) ?_); (with_reducible refine i_Add (i_Mul (i_I (i_L1 (i_L4 ?_))))); rw [zx_cmul (by omega)]; rw [zx_add (by omega)]; (with_reducible refine i_in (by assumption) (by omega) (by omega) ?_); (rw [g]); (with_reducible refine i_f (by omega) ?_); (with_reducible refine i_up (i_Inc4 ?_)); rw [zx_inc (by omega)]; simp only [w_set0, w_set1, w_setn0, w_setn1])
      refine hX _ _ ⟨⟨_, rfl⟩, f1', fun d hd => ?_⟩
      by_cases z : d = c
      · rw [z, g, if_pos (by omega), if_pos e]
      · rw [h1 d hd, hst d _ _ z]
    · clear hk gv
      ((with_reducible refine i_turn (i_cI_lt (i_L4 (i_I ?_)))); (with_reducible refine i_t (by omega) ?_); (with_reducible refine i_If (i_cZ_ne (i_IA (i_FR (i_A0 ?_))))); (with_reducible refine i_fldR (by assumption) ?_); (with_reducible refine i_Add (i_Mul (i_I (i_L1 (i_L4 ?_))))); rw [zx_cmul (by omega)]; rw [zx_add (by omega)]; (with_reducible refine i_in (by assumption) (by omega) (by omega) ?_); (rw [g]); ((with_reducible refine i_t (show (((tv A (c / 16) (c % 16) : Nat) : Int) : Int) ≠ 0 by omega) ?_)); (with_reducible refine i_sIA (i_FR (i_A0 ?_))); (with_reducible refine i_fldR (by assumption) ?_); (with_reducible refine i_Add (i_Mul (i_I (i_L1 (i_L4 (i_I ?_)))))); rw [zx_cmul (by omega)]; rw [zx_add (by omega)]; (with_reducible refine i_in (by assumption) (by omega) (by omega) ?_); (with_reducible refine i_up (i_Inc4 ?_)); rw [zx_inc (by omega)]; simp only [w_set0, w_set1, w_setn0, w_setn1])
      refine hX _ _ ⟨⟨_, rfl⟩, fun b j q => by rw [zg_o _ _ (by omega)]; exact f1' b j q, fun d hd => ?_⟩
      by_cases z : d = c
      · rw [z, zg_s, if_pos (by omega), if_neg e]
        try rfl
      · rw [zg_m _ _ _ _ _ (by omega), h1 d hd, hst d _ _ z]
  · rintro ρ M1 X ⟨⟨l, rfl⟩, f1', h1⟩
    have hA1 : rTe M1 t n (zTs A 0) := rTe.cells ht hA f1' (fun c hc => by rw [h1 c hc, if_pos hc, ← zTs_z]; rfl)
    clear h1 gv
    ((with_reducible refine i_turn (i_cI_lt (i_L4 (i_I ?_)))); (with_reducible refine i_f (by omega) ?_); (with_reducible refine i_Seq (i_If (i_cI_gt (i_Call (i_as1 (i_A0 (i_as1 (i_L1 (i_as0 ?_))))))))); (with_reducible refine i_recv0 (by assumption) ?_))
    refine m_lengthOf hO hS ht (show M1 250 ((1 : Nat) : Int) = ((n : Nat) : Int) by rw [f1' _ _ (by omega)]; exact hn) hn2 hA1 hw0 (fun M2 f2 _ _ => ⟨_, rfl, ?_⟩)
    have hA2 : rTe M2 t n (zTs A 0) := hA1.to hn2 hw0 (fun b j q => f2 b j (by omega))
    have f21 : ∀ b j, ¬ (b = 250 ∧ j = 52 ∨ b = ((266 : Nat) : Int) ∧ ((256 * t : Nat) : Int) ≤ j ∧ j < ((256 * t + 256 : Nat) : Int) ∨ ((268 : Nat) : Int) ≤ b ∧ b ≤ ((270 : Nat) : Int) ∨ ((288 : Nat) : Int) ≤ b ∧ b ≤ ((290 : Nat) : Int)) → M2 b j = M b j := fun b j q => by rw [f2 b j (by omega), f1' b j (by omega)]
    clear f1' f2 hA1
    by_cases w0 : len < ((tLen n (zTs A 0) : Nat) : Int)
    · rw [if_pos w0] at hk
      generalize tLen n (zTs A 0) = v at hln0 w0 hk ⊢
      ((with_reducible refine i_L2 ?_); (with_reducible refine i_t (by omega) ?_); (with_reducible refine i_RetI (i_I ?_)))
      exact hk M2 f21 (fun z => absurd w0 z)
    · rw [if_neg w0] at hk
      have hk2 := fun M' f r => hk M' f (fun _ => r)
      clear hk
      generalize tLen n (zTs A 0) = v at hln0 w0 ⊢
      ((with_reducible refine i_L2 ?_); (with_reducible refine i_f (by omega) ?_); (with_reducible refine i_Seq (i_Set (i_Call (i_as1 (i_A0 (i_as1 (i_L1 (i_as0 ?_)))))))); (with_reducible refine i_recv0 (by assumption) ?_); simp only [w_set0, w_set1, w_setn0, w_setn1])
      refine m_harmOf hO hS ht (show M2 250 ((1 : Nat) : Int) = ((n : Nat) : Int) by rw [f21 _ _ (by omega)]; exact hn) hn2 hA2 hw0 (hq.to (fun b j q => f21 b j (by omega))) hQ (fun M3 f3 => ⟨_, rfl, ?_⟩)
      have hA3 : rTe M3 t n (zTs A 0) := hA2.to hn2 hw0 (fun b j q => f3 b j (by omega))
      have f31 : ∀ b j, ¬ (b = 250 ∧ j = 52 ∨ b = ((266 : Nat) : Int) ∧ ((256 * t : Nat) : Int) ≤ j ∧ j < ((256 * t + 256 : Nat) : Int) ∨ ((268 : Nat) : Int) ≤ b ∧ b ≤ ((270 : Nat) : Int) ∨ ((288 : Nat) : Int) ≤ b ∧ b ≤ ((290 : Nat) : Int)) → M3 b j = M b j := fun b j q => by rw [f3 b j (by omega), f21 b j q]
      clear f3 f21 hA2 hA
      obtain ⟨m, -, m2, m3, m4⟩ := zsw2_stop n A Q len
      rw [m4] at hk2
      clear m4
      have hall := fun k => zsi_w (n := n) (Q := Q) (len := len) (s := (zTs A 0, zhm n (zTs A 0) Q)) hw0 k
      have ha3 : rTe M3 t n (zsi n Q len (zTs A 0, zhm n (zTs A 0) Q) 0).1 := hA3
      have hd0 : (((zhm n (zTs A 0) Q : Nat) : Int) : Int) = (((zsi n Q len (zTs A 0, zhm n (zTs A 0) Q) 0).2 : Nat) : Int) := rfl
      rw [hd0]
      have hbd : ∀ k, (zsi n Q len (zTs A 0, zhm n (zTs A 0) Q) k).2 ≤ 6000000 := fun k => Nat.le_trans (hall k).2.2 hhm0
      have hwk : ∀ k, zTw n (zsi n Q len (zTs A 0, zhm n (zTs A 0) Q) k).1 := fun k => (hall k).1
      clear hd0 hall hA3 hhm0 hln0 w0 v hw0
      generalize (zTs A 0, zhm n (zTs A 0) Q) = s0 at hk2 m2 m3 ha3 hbd hwk ⊢
      ((with_reducible refine i_Seq (i_Set (i_I (i_Seq ?_)))); simp only [w_set0, w_set1, w_setn0, w_setn1]; rw [w_setT])
      refine w_WhileN (m + 1) (fun k ρ M' => (∃ l, ρ = 250 :: ((t : Nat) : Int) :: len :: ((E : Nat) : Int) :: (((zsi n Q len s0 k).2 : Nat) : Int) :: zbI (decide (k ≤ m)) :: l) ∧ (∀ b j, ¬ (b = 250 ∧ j = 52 ∨ b = ((266 : Nat) : Int) ∧ ((256 * t : Nat) : Int) ≤ j ∧ j < ((256 * t + 256 : Nat) : Int) ∨ ((268 : Nat) : Int) ≤ b ∧ b ≤ ((270 : Nat) : Int) ∨ ((288 : Nat) : Int) ≤ b ∧ b ≤ ((290 : Nat) : Int)) → M' b j = M b j) ∧ rTe M' t n (zsi n Q len s0 k).1) ⟨⟨_, by rw [decide_eq_true (Nat.zero_le m)]; rfl⟩, f31, ha3⟩ ?_ ?_
      · clear ha3 f31
        rintro k ρ M4 X hkm ⟨⟨l, rfl⟩, f4, h4⟩ hX
        rw [decide_eq_true (show k ≤ m by omega)]
        have hwB := hwk k
        have hhB := hbd k
        have hnext : decide (k + 1 ≤ m) = decide ((zst n (zsi n Q len s0 k).1 Q len (zsi n Q len s0 k).2 256).2 ≠ 0) := by
          by_cases z : k = m
          · rw [z, decide_eq_false (Nat.not_succ_le_self m), decide_eq_false (fun y : (zst n (zsi n Q len s0 m).1 Q len (zsi n Q len s0 m).2 256).2 ≠ 0 => y m2)]
          · rw [decide_eq_true (show k + 1 ≤ m by omega), decide_eq_true (show (zst n (zsi n Q len s0 k).1 Q len (zsi n Q len s0 k).2 256).2 ≠ 0 from m3 k (by omega))]
        rw [zsi_su, hnext] at hX
        clear hnext m2 m3 hk2 hwk hbd hkm
        generalize zsi n Q len s0 k = s at h4 hX hwB hhB ⊢
        obtain ⟨B, h⟩ := s
        dsimp only at h4 hwB hhB ⊢
        clear s0 m
        have hzi := fun c => zst_in n B Q len h c
        ((with_reducible refine i_turn (i_cZ_ne (i_L5 ?_))); rw [zbI_t]; (with_reducible refine i_t (by omega) ?_); (with_reducible refine i_Blk (i_Seq (i_Set (i_L4 (i_Seq (i_Set (i_I (i_Seq (i_Blk (i_Seq (i_Set (i_I ?_)))))))))))); simp only [w_set0, w_set1, w_setn0, w_setn1]; rw [w_setT]; simp only [w_set0, w_set1, w_setn0, w_setn1]; rw [w_setT]; simp only [w_set0, w_set1, w_setn0, w_setn1]; rw [w_setT])
        refine w_ForN 256 (fun c ρ M' => (∃ l, ρ = 250 :: ((t : Nat) : Int) :: len :: ((E : Nat) : Int) :: ((h : Nat) : Int) :: 1 :: (((zst n B Q len h c).1 : Nat) : Int) :: ((((zst n B Q len h c).2 : Nat) : Int) - 1) :: ((c : Nat) : Int) :: l) ∧ (∀ b j, ¬ (b = 250 ∧ j = 52 ∨ b = ((266 : Nat) : Int) ∧ ((256 * t : Nat) : Int) ≤ j ∧ j < ((256 * t + 256 : Nat) : Int) ∨ ((268 : Nat) : Int) ≤ b ∧ b ≤ ((270 : Nat) : Int) ∨ ((288 : Nat) : Int) ≤ b ∧ b ≤ ((290 : Nat) : Int)) → M' b j = M b j) ∧ rTe M' t n B) ⟨⟨_, rfl⟩, f4, h4⟩ ?_ ?_
        · clear hX f4 h4
          rintro c ρ M5 X2 hc ⟨⟨l2, rfl⟩, f5, h5⟩ hX2
          have g : M5 ((266 : Nat) : Int) ((256 * t + c : Nat) : Int) = ((tv B (c / 16) (c % 16) : Nat) : Int) := by
            have := h5.2.2.2 (c / 16) (c % 16) (by omega) (by omega)
            rwa [show 256 * t + 16 * (c / 16) + c % 16 = 256 * t + c by omega] at this
          rw [zst_su] at hX2
          obtain ⟨i1, i2, -, -⟩ := hzi c
          by_cases e : tv B (c / 16) (c % 16) = 2
          · have hXc : tX B c = true := decide_eq_true (by rw [e]; decide)
            have hw1 := zv1_w hwB hXc (show 1 ≤ 2 by decide)
            have hln := tLen_b hn2 hw1
            have hhm := zhm_B (A := zTv B (zv1 B c 1)) hn2 hQ
            have hbk := zv1_bk hc e
            have h6 : rTe (zput M5 ((266 : Nat) : Int) (zup (M5 ((266 : Nat) : Int)) ((256 * t + c : Nat) : Int) 1)) t n (zTv B (zv1 B c 1)) := rTe.up (x := 1) ht hc h5
            have f6 : ∀ b j, ¬ (b = 250 ∧ j = 52 ∨ b = ((266 : Nat) : Int) ∧ ((256 * t : Nat) : Int) ≤ j ∧ j < ((256 * t + 256 : Nat) : Int) ∨ ((268 : Nat) : Int) ≤ b ∧ b ≤ ((270 : Nat) : Int) ∨ ((288 : Nat) : Int) ≤ b ∧ b ≤ ((290 : Nat) : Int)) → zput M5 ((266 : Nat) : Int) (zup (M5 ((266 : Nat) : Int)) ((256 * t + c : Nat) : Int) 1) b j = M b j := fun b j q => by rw [zg_o _ _ (by omega)]; exact f5 b j q
            rw [e] at g
            ((with_reducible refine i_turn (i_cI_lt (i_L8 (i_I ?_)))); (with_reducible refine i_t (by omega) ?_); (with_reducible refine i_Seq (i_IfBrk (i_cI_ne (i_IA (i_FR (i_A0 ?_)))))); (with_reducible refine i_fldR (by assumption) ?_); (with_reducible refine i_Add (i_Mul (i_I (i_L1 (i_L8 ?_))))); rw [zx_cmul (by omega)]; rw [zx_add (by omega)]; (with_reducible refine i_in (by assumption) (by omega) (by omega) ?_); (with_reducible refine i_I ?_); (rw [g]); (with_reducible refine i_f (by omega) ?_); (with_reducible refine i_Seq (i_sIA (i_FR (i_A0 ?_)))); (with_reducible refine i_fldR (by assumption) ?_); (with_reducible refine i_Add (i_Mul (i_I (i_L1 (i_L8 (i_I ?_)))))); rw [zx_cmul (by omega)]; rw [zx_add (by omega)]; (with_reducible refine i_in (by assumption) (by omega) (by omega) ?_); (with_reducible refine i_Seq (i_If (i_cI_le (i_Call (i_as1 (i_A0 (i_as1 (i_L1 (i_as0 ?_))))))))); (with_reducible refine i_recv0 (by assumption) ?_))
            generalize zput M5 ((266 : Nat) : Int) (zup (M5 ((266 : Nat) : Int)) ((256 * t + c : Nat) : Int) 1) = M6 at h6 f6 ⊢
            refine m_lengthOf hO hS ht (show M6 250 ((1 : Nat) : Int) = ((n : Nat) : Int) by rw [f6 _ _ (by omega)]; exact hn) hn2 h6 hw1 (fun M7 f7 _ _ => ⟨_, rfl, ?_⟩)
            have h7 : rTe M7 t n (zTv B (zv1 B c 1)) := h6.to hn2 hw1 (fun b j q => f7 b j (by omega))
            have f71 : ∀ b j, ¬ (b = 250 ∧ j = 52 ∨ b = ((266 : Nat) : Int) ∧ ((256 * t : Nat) : Int) ≤ j ∧ j < ((256 * t + 256 : Nat) : Int) ∨ ((268 : Nat) : Int) ≤ b ∧ b ≤ ((270 : Nat) : Int) ∨ ((288 : Nat) : Int) ≤ b ∧ b ≤ ((290 : Nat) : Int)) → M7 b j = M b j := fun b j q => by rw [f7 b j (by omega), f6 b j q]
            have hnx : ∀ (l : zLoc) (M' : zMem) (x : Int) (y : Nat) (u : Nat), x = ((u : Nat) : Int) - 1 → (y, u) = (if tv B (c / 16) (c % 16) = 2 ∧ ((tLen n (zTv B (zv1 B c 1)) : Nat) : Int) ≤ len ∧ zhm n (zTv B (zv1 B c 1)) Q < (zst n B Q len h c).1 then (zhm n (zTv B (zv1 B c 1)) Q, c + 1) else zst n B Q len h c) → (∀ b j, ¬ (b = 250 ∧ j = 52 ∨ b = ((266 : Nat) : Int) ∧ ((256 * t : Nat) : Int) ≤ j ∧ j < ((256 * t + 256 : Nat) : Int) ∨ ((268 : Nat) : Int) ≤ b ∧ b ≤ ((270 : Nat) : Int) ∨ ((288 : Nat) : Int) ≤ b ∧ b ≤ ((290 : Nat) : Int)) → M' b j = M b j) → rTe M' t n (zTv B (zv1 B c 1)) → X2 (250 :: ((t : Nat) : Int) :: len :: ((E : Nat) : Int) :: ((h : Nat) : Int) :: 1 :: ((y : Nat) : Int) :: x :: ((c + 1 : Nat) : Int) :: l) (zput M' ((266 : Nat) : Int) (zup (M' ((266 : Nat) : Int)) ((256 * t + c : Nat) : Int) 2)) := fun l M' x y u hx he hf hr => by
              subst hx
              refine hX2 _ _ ⟨⟨l, by rw [← he]⟩, fun b j q => by rw [zg_o _ _ (by omega)]; exact hf b j q, ?_⟩
              have := rTe.up (x := 2) ht hc hr
              rw [hbk] at this
              exact this
            clear hX2 f7 f6 h6 f5 h5 hbk
            generalize tLen n (zTv B (zv1 B c 1)) = v at hln hnx ⊢
            by_cases w1 : ((v : Nat) : Int) ≤ len
            · ((with_reducible refine i_L2 ?_); (with_reducible refine i_t (by omega) ?_); (with_reducible refine i_Blk (i_Seq (i_Set (i_Call (i_as1 (i_A0 (i_as1 (i_L1 (i_as0 ?_))))))))); (with_reducible refine i_recv0 (by assumption) ?_); simp only [w_set0, w_set1, w_setn0, w_setn1])
              refine m_harmOf hO hS ht (show M7 250 ((1 : Nat) : Int) = ((n : Nat) : Int) by rw [f71 _ _ (by omega)]; exact hn) hn2 h7 hw1 (hq.to (fun b j q => f71 b j (by omega))) hQ (fun M8 f8 => ⟨_, rfl, ?_⟩)
              have h8 : rTe M8 t n (zTv B (zv1 B c 1)) := h7.to hn2 hw1 (fun b j q => f8 b j (by omega))
              have f81 : ∀ b j, ¬ (b = 250 ∧ j = 52 ∨ b = ((266 : Nat) : Int) ∧ ((256 * t : Nat) : Int) ≤ j ∧ j < ((256 * t + 256 : Nat) : Int) ∨ ((268 : Nat) : Int) ≤ b ∧ b ≤ ((270 : Nat) : Int) ∨ ((288 : Nat) : Int) ≤ b ∧ b ≤ ((290 : Nat) : Int)) → M8 b j = M b j := fun b j q => by rw [f8 b j (by omega), f71 b j q]
              generalize zhm n (zTv B (zv1 B c 1)) Q = hh at hhm hnx ⊢
              generalize zst n B Q len h c = st at i1 i2 hnx ⊢
              obtain ⟨y, u⟩ := st
              dsimp only at i1 i2 hnx ⊢
              by_cases w2 : hh < y
              · ((with_reducible refine i_If (i_cI_lt ?_)); rw [w_setT]; (with_reducible refine i_L9 (i_L6 ?_)); (with_reducible refine i_t (by omega) ?_); (with_reducible refine i_Seq (i_Set (i_L9 (i_Set ?_)))); simp only [w_set0, w_set1, w_setn0, w_setn1]; (with_reducible refine i_L8 (i_sIA (i_FR ?_))); simp only [w_set0, w_set1, w_setn0, w_setn1]; (with_reducible refine i_A0 ?_); (with_reducible refine i_fldR (by assumption) ?_); (with_reducible refine i_Add (i_Mul (i_I (i_L1 (i_L8 (i_I ?_)))))); rw [zx_cmul (by omega)]; rw [zx_add (by omega)]; (with_reducible refine i_in (by assumption) (by omega) (by omega) ?_); (with_reducible refine i_up (i_Inc8 ?_)); rw [zx_inc (by omega)]; simp only [w_set0, w_set1, w_setn0, w_setn1])
                exact hnx _ M8 _ hh (c + 1) (by omega) (by rw [if_pos ⟨e, w1, w2⟩]) f81 h8
              · ((with_reducible refine i_If (i_cI_lt ?_)); rw [w_setT]; (with_reducible refine i_L9 (i_L6 ?_)); (with_reducible refine i_f (by omega) ?_); (with_reducible refine i_sIA (i_FR (i_A0 ?_))); (with_reducible refine i_fldR (by assumption) ?_); (with_reducible refine i_Add (i_Mul (i_I (i_L1 (i_L8 (i_I ?_)))))); rw [zx_cmul (by omega)]; rw [zx_add (by omega)]; (with_reducible refine i_in (by assumption) (by omega) (by omega) ?_); (with_reducible refine i_up (i_Inc8 ?_)); rw [zx_inc (by omega)]; simp only [w_set0, w_set1, w_setn0, w_setn1])
                exact hnx _ M8 _ y u rfl (by rw [if_neg (fun z => w2 z.2.2)]) f81 h8
            · generalize zst n B Q len h c = st at i1 i2 hnx ⊢
              obtain ⟨y, u⟩ := st
              dsimp only at i1 i2 hnx ⊢
              ((with_reducible refine i_L2 ?_); (with_reducible refine i_f (by omega) ?_); (with_reducible refine i_sIA (i_FR (i_A0 ?_))); (with_reducible refine i_fldR (by assumption) ?_); (with_reducible refine i_Add (i_Mul (i_I (i_L1 (i_L8 (i_I ?_)))))); rw [zx_cmul (by omega)]; rw [zx_add (by omega)]; (with_reducible refine i_in (by assumption) (by omega) (by omega) ?_); (with_reducible refine i_up (i_Inc8 ?_)); rw [zx_inc (by omega)]; simp only [w_set0, w_set1, w_setn0, w_setn1])
              exact hnx _ M7 _ y u rfl (by rw [if_neg (fun z => w1 z.2.1)]) f71 h7
          · rw [if_neg (fun z => e z.1)] at hX2
            ((with_reducible refine i_turn (i_cI_lt (i_L8 (i_I ?_)))); (with_reducible refine i_t (by omega) ?_); (with_reducible refine i_Seq (i_IfBrk (i_cI_ne (i_IA (i_FR (i_A0 ?_)))))); (with_reducible refine i_fldR (by assumption) ?_); (with_reducible refine i_Add (i_Mul (i_I (i_L1 (i_L8 ?_))))); rw [zx_cmul (by omega)]; rw [zx_add (by omega)]; (with_reducible refine i_in (by assumption) (by omega) (by omega) ?_); (with_reducible refine i_I ?_); (rw [g]); ((with_reducible refine i_t (show (((tv B (c / 16) (c % 16) : Nat) : Int) : Int) ≠ 2 by omega) ?_)); (with_reducible refine i_lab1 (i_up (i_Inc8 ?_))); rw [zx_inc (by omega)]; simp only [w_set0, w_set1, w_setn0, w_setn1])
            exact hX2 _ _ ⟨⟨_, rfl⟩, f5, h5⟩
        · clear f4 h4
          rintro ρ M5 X2 ⟨⟨l2, rfl⟩, f5, h5⟩
          obtain ⟨i1, i2, i3, i4⟩ := hzi 256
          clear hzi
          unfold zse at hX
          dsimp only at hX
          generalize hst : zst n B Q len h 256 = st at i1 i2 i3 i4 hX ⊢
          clear hst
          obtain ⟨y, u⟩ := st
          dsimp only at i1 i2 i3 i4 hX ⊢
          by_cases e : u = 0
          · have hy := i3 e
            subst e
            rw [if_pos rfl, decide_eq_false (fun z => z rfl)] at hX
            ((with_reducible refine i_turn (i_cI_lt (i_L8 (i_I ?_)))); (with_reducible refine i_f (by omega) ?_); (with_reducible refine i_Seq (i_Set (i_eIf (i_cZ_ge (i_L7 ?_))))); (with_reducible refine i_f (by omega) ?_); (with_reducible refine i_I (i_Seq (i_IfBrk (i_cNot (i_cZ_ne ?_))))); simp only [w_set0, w_set1, w_setn0, w_setn1]; (with_reducible refine i_L5 ?_); (with_reducible refine i_f (by omega) ?_); (with_reducible refine i_lab1 ?_))
            exact hX _ _ ⟨⟨_, rfl⟩, f5, h5⟩
          · have h2 := i4 e
            have hu := rTe.up (x := 1) ht (show u - 1 < 256 by omega) h5
            rw [if_neg e, decide_eq_true e] at hX
            rw [show (((u : Nat) : Int) - 1 : Int) = ((u - 1 : Nat) : Int) by omega]
            ((with_reducible refine i_turn (i_cI_lt (i_L8 (i_I ?_)))); (with_reducible refine i_f (by omega) ?_); (with_reducible refine i_Seq (i_Set (i_eIf (i_cZ_ge (i_L7 ?_))))); (with_reducible refine i_t (by omega) ?_); (with_reducible refine i_I (i_Seq (i_IfBrk (i_cNot (i_cZ_ne ?_))))); simp only [w_set0, w_set1, w_setn0, w_setn1]; (with_reducible refine i_L5 ?_); (with_reducible refine i_t (by omega) ?_); (with_reducible refine i_Seq (i_sIA (i_FR (i_A0 ?_)))); (with_reducible refine i_fldR (by assumption) ?_); (with_reducible refine i_Add (i_Mul (i_I (i_L1 (i_L7 (i_I ?_)))))); rw [zx_cmul (by omega)]; rw [zx_add (by omega)]; (with_reducible refine i_in (by assumption) (by omega) (by omega) ?_); (with_reducible refine i_Set (i_L6 ?_)); simp only [w_set0, w_set1, w_setn0, w_setn1])
            exact hX _ _ ⟨⟨_, rfl⟩, fun b j q => by rw [zg_o _ _ (by omega)]; exact f5 b j q, hu⟩
      · rintro ρ M4 X ⟨⟨l, rfl⟩, f4, h4⟩
        rw [decide_eq_false (Nat.not_succ_le_self m)]
        have hfin : zsi n Q len s0 (m + 1) = zsi n Q len s0 m := zsi_fx m2 1
        rw [hfin] at h4 ⊢
        have hb := hbd m
        ((with_reducible refine i_turn (i_cZ_ne (i_L5 ?_))); rw [zbI_f]; (with_reducible refine i_f (by omega) ?_); (with_reducible refine i_RetI (i_L4 ?_)))
        exact hk2 M4 f4 h4
