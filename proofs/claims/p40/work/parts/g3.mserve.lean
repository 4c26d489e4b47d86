/-! ===== served: what both compute; the reference ===== -/
/-- a set of excepts told, the others left out -/
def zTs (A : zTl) (s : Nat) : zTl := zTv A (fun a b => if tv A a b = 0 then 0 else if s.testBit (zcnt (tX A) (16 * a + b)) = true then 1 else 2)
theorem zTs_v (A : zTl) (s a b : Nat) : tv (zTs A s) a b = if tv A a b = 0 then 0 else if s.testBit (zcnt (tX A) (16 * a + b)) = true then 1 else 2 := rfl
theorem zTs_w {n : Nat} {A : zTl} (hw : zTw n A) (s : Nat) : zTw n (zTs A s) := zTv_w hw (fun a b h => fun z => h (if_pos z)) (fun a b => by split; omega; split <;> omega)
theorem zTs_X (A : zTl) (s : Nat) : tX (zTs A s) = tX A := funext fun c => by
  show decide (tv (zTs A s) (c / 16) (c % 16) ≠ 0) = decide (tv A (c / 16) (c % 16) ≠ 0)
  refine decide_eq_decide.mpr ?_
  rw [zTs_v]
  by_cases e : tv A (c / 16) (c % 16) = 0
  · rw [if_pos e]; omega
  · rw [if_neg e]
    split <;> omega
theorem zTs_s (A : zTl) (s s' : Nat) : zTs (zTs A s) s' = zTs A s' := by
  have h : (fun a b => if tv (zTs A s) a b = 0 then 0 else if s'.testBit (zcnt (tX (zTs A s)) (16 * a + b)) = true then 1 else 2) = (fun a b => if tv A a b = 0 then 0 else if s'.testBit (zcnt (tX A) (16 * a + b)) = true then 1 else 2) := funext fun a => funext fun b => by
    rw [zTs_X, zTs_v]
    by_cases e : tv A a b = 0
    · rw [if_pos e, if_pos rfl, if_pos e]
    · rw [if_neg e, if_neg e]
      have : (if s.testBit (zcnt (tX A) (16 * a + b)) = true then 1 else 2) ≠ 0 := by split <;> omega
      rw [if_neg this]
  show (A.1, A.2.1, A.2.2.1, _) = (A.1, A.2.1, A.2.2.1, _)
  rw [h]
/-- the reference's cells of the excepts -/
theorem rTe.cells {M M' : zMem} {t n : Nat} {A : zTl} {v : Nat → Nat → Nat} (ht : t < 7) (h : rTe M t n A) (hf : ∀ b j, ¬ (b = ((266 : Nat) : Int) ∧ ((256 * t : Nat) : Int) ≤ j ∧ j < ((256 * t + 256 : Nat) : Int)) → M' b j = M b j) (hv : ∀ c : Nat, c < 256 → M' ((266 : Nat) : Int) ((256 * t + c : Nat) : Int) = ((v (c / 16) (c % 16) : Nat) : Int)) : rTe M' t n (zTv A v) := by
  obtain ⟨⟨h1, h2, h3⟩, ⟨h4, h5, h6, h7⟩, h8, h9⟩ := h
  refine ⟨⟨by rw [hf _ _ (by omega)]; exact h1, fun q hq => by rw [hf _ _ (by omega)]; exact h2 q hq, fun b hb => by rw [hf _ _ (by omega)]; exact h3 b hb⟩, ⟨fun b hb => by rw [hf _ _ (by omega)]; exact h4 b hb, fun a b ha hb => by rw [hf _ _ (by omega)]; exact h5 a b ha hb, fun a b ha hb => by rw [hf _ _ (by omega)]; exact h6 a b ha hb, fun b hb => by rw [hf _ _ (by omega)]; exact h7 b hb⟩, fun i k hi hk => by rw [hf _ _ (by omega)]; exact h8 i k hi hk, fun a b ha hb => ?_⟩
  have := hv (16 * a + b) (by omega)
  rw [show (16 * a + b) / 16 = a by omega, show (16 * a + b) % 16 = b by omega, ← Nat.add_assoc] at this
  exact this
theorem m_tell {O : zOm} (hO : zWld O) (hS : zS O = zmS zC0) {t n s : Nat} {A : zTl} {M : zMem} {K : Option zV → zMem → Prop} (ht : t < 7) (hA : rTe M t n A) (hw : zTw n A) (hs : s < 65536) (hE : zcnt (tX A) 256 ≤ 16)
    (hk : ∀ M', (∀ b j, ¬ (b = ((266 : Nat) : Int) ∧ ((256 * t : Nat) : Int) ≤ j ∧ j < ((256 * t + 256 : Nat) : Int)) → M' b j = M b j) → rTe M' t n (zTs A s) → K none M') : zR O F_Model_tell [(2, 250), (0, ((t : Nat) : Int)), (0, ((s : Nat) : Int))] M K := by
  have gv : ∀ c : Nat, c < 256 → M ((266 : Nat) : Int) ((256 * t + c : Nat) : Int) = ((tv A (c / 16) (c % 16) : Nat) : Int) := fun c hc => by
    have := hA.2.2.2 (c / 16) (c % 16) (by omega) (by omega)
    rwa [show 256 * t + 16 * (c / 16) + c % 16 = 256 * t + c by omega] at this
  have hsm := za_mk hs
  have hwv := (zTs_w hw s).2.2.2.2
  apply r_Model_tell hO
  unfold B_Model_tell
  have f20 := zMF (k := 20) hS rfl; have a266 := zMA (a := 266) (ty := .int) (n := 1792) hS rfl; have zo := zMO hS
  ((with_reducible refine i_Seq (i_Seq (i_Set (i_I (i_Blk (i_Seq (i_Set (i_I ?_)))))))); simp only [w_set0, w_set1, w_setn0, w_setn1])
  refine w_ForN 256 (fun c ρ M' => (∃ l, ρ = 250 :: ((t : Nat) : Int) :: ((s : Nat) : Int) :: ((zcnt (tX A) c : Nat) : Int) :: ((c : Nat) : Int) :: l) ∧ (∀ b j, ¬ (b = ((266 : Nat) : Int) ∧ ((256 * t : Nat) : Int) ≤ j ∧ j < ((256 * t + 256 : Nat) : Int)) → M' b j = M b j) ∧ ∀ d : Nat, d < 256 → M' ((266 : Nat) : Int) ((256 * t + d : Nat) : Int) = ((if d < c then tv (zTs A s) (d / 16) (d % 16) else tv A (d / 16) (d % 16) : Nat) : Int)) ⟨⟨_, rfl⟩, fun _ _ _ => rfl, fun d hd => by rw [if_neg (Nat.not_lt_zero _)]; exact gv d hd⟩ ?_ ?_
  · rintro c ρ M1 X hc ⟨⟨l, rfl⟩, f1', h1⟩ hX
    have g := h1 c hc
    rw [if_neg (Nat.lt_irrefl _)] at g
    have hsu := zcnt_su (tX A) c
    have hmo := zcnt_mono (tX A) (show c + 1 ≤ 256 by omega)
    have hnew := zTs_v A s (c / 16) (c % 16)
    rw [show 16 * (c / 16) + c % 16 = c by omega] at hnew
    have hst : ∀ d : Nat, d < 256 → d ≠ c → (if d < c then tv (zTs A s) (d / 16) (d % 16) else tv A (d / 16) (d % 16)) = (if d < c + 1 then tv (zTs A s) (d / 16) (d % 16) else tv A (d / 16) (d % 16)) := fun d _ hne => by
      by_cases w : d < c
      · rw [if_pos w, if_pos (by omega)]
      · rw [if_neg w, if_neg (by omega)]
    by_cases e : tv A (c / 16) (c % 16) = 0
    · have hx : tX A c = false := decide_eq_false (fun z => z e)
      rw [hx, if_neg (by decide)] at hsu
      replace hsu := hsu.trans (Nat.add_zero _)
      rw [if_pos e] at hnew
      rw [e] at g
      ((with_reducible refine i_turn (i_cI_lt (i_L4 (i_I ?_)))); (with_reducible refine i_t (by omega) ?_); (with_reducible refine i_Seq (i_IfBrk (i_cZ_eq (i_IA (i_FR (i_A0 ?_)))))); (with_reducible refine i_fldR (by assumption) ?_); (with_reducible refine i_Add (i_Mul (i_I (i_L1 (i_L4 ?_))))); rw [zx_cmul (by omega)]; rw [zx_add (by omega)]; (with_reducible refine i_in (by assumption) (by omega) (by omega) ?_); (rw [g]); (with_reducible refine i_t (by omega) ?_); (with_reducible refine i_lab1 (i_up (i_Inc4 ?_))); rw [zx_inc (by omega)]; simp only [w_set0, w_set1, w_setn0, w_setn1])
      refine hX _ _ ⟨⟨_, by rw [hsu]⟩, f1', fun d hd => ?_⟩
      by_cases z : d = c
      · rw [z, g, if_pos (by omega), hnew]
      · rw [h1 d hd, hst d hd z]
    · have hx : tX A c = true := decide_eq_true e
      rw [hx, if_pos rfl] at hsu
      rw [if_neg e] at hnew
      have hyd := yand_1 (fun i => s.testBit i) (k := zcnt (tX A) c) (by omega)
      rw [← hsm] at hyd
      have fin : ∀ (l : zLoc) (v : Int), v = ((tv (zTs A s) (c / 16) (c % 16) : Nat) : Int) → X (250 :: ((t : Nat) : Int) :: ((s : Nat) : Int) :: ((zcnt (tX A) (c + 1) : Nat) : Int) :: ((c + 1 : Nat) : Int) :: l) (zput M1 ((266 : Nat) : Int) (zup (M1 ((266 : Nat) : Int)) ((256 * t + c : Nat) : Int) v)) := fun l v hv => by
        refine hX _ _ ⟨⟨l, rfl⟩, fun b j q => by rw [zg_o _ _ (by omega)]; exact f1' b j q, fun d hd => ?_⟩
        by_cases z : d = c
        · rw [z, zg_s, if_pos (by omega), hv]
        · rw [zg_m _ _ _ _ _ (by omega), h1 d hd, hst d hd z]
      rw [hsu] at fin
      have hr : zcnt (tX A) c ≤ 16 := by omega
      clear hX hmo hE hsu hst h1 f1'
      by_cases w : s.testBit (zcnt (tX A) c) = true
      · rw [if_pos w] at hyd hnew
        generalize zcnt (tX A) c = r at hyd fin hr ⊢
        ((with_reducible refine i_turn (i_cI_lt (i_L4 (i_I ?_)))); (with_reducible refine i_t (by omega) ?_); (with_reducible refine i_Seq (i_IfBrk (i_cZ_eq (i_IA (i_FR (i_A0 ?_)))))); (with_reducible refine i_fldR (by assumption) ?_); (with_reducible refine i_Add (i_Mul (i_I (i_L1 (i_L4 ?_))))); rw [zx_cmul (by omega)]; rw [zx_add (by omega)]; (with_reducible refine i_in (by assumption) (by omega) (by omega) ?_); (rw [g]); ((with_reducible refine i_f (show ¬ (((tv A (c / 16) (c % 16) : Nat) : Int) : Int) = 0 by omega) ?_)); (with_reducible refine i_Seq (i_sIA (i_FR (i_A0 ?_)))); (with_reducible refine i_fldR (by assumption) ?_); (with_reducible refine i_Add (i_Mul (i_I (i_L1 (i_L4 (i_eIf (i_cI_eq (i_And (i_Shr (i_L2 (i_L3 (i_I (i_I ?_))))))))))))); (rw [hyd]); rw [zx_cmul (by omega)]; rw [zx_add (by omega)]; simp only [w_set0, w_set1, w_setn0, w_setn1]; (with_reducible refine i_t trivial ?_); (with_reducible refine i_I ?_); (with_reducible refine i_in (by assumption) (by omega) (by omega) ?_); (with_reducible refine i_Inc3 (i_up ?_)); rw [zx_inc (by omega)]; simp only [w_set0, w_set1, w_setn0, w_setn1]; (with_reducible refine i_Inc4 ?_); rw [zx_inc (by omega)]; simp only [w_set0, w_set1, w_setn0, w_setn1])
        exact fin _ 1 (by rw [hnew]; rfl)
      · rw [if_neg w] at hyd hnew
        generalize zcnt (tX A) c = r at hyd fin hr ⊢
        ((with_reducible refine i_turn (i_cI_lt (i_L4 (i_I ?_)))); (with_reducible refine i_t (by omega) ?_); (with_reducible refine i_Seq (i_IfBrk (i_cZ_eq (i_IA (i_FR (i_A0 ?_)))))); (with_reducible refine i_fldR (by assumption) ?_); (with_reducible refine i_Add (i_Mul (i_I (i_L1 (i_L4 ?_))))); rw [zx_cmul (by omega)]; rw [zx_add (by omega)]; (with_reducible refine i_in (by assumption) (by omega) (by omega) ?_); (rw [g]); ((with_reducible refine i_f (show ¬ (((tv A (c / 16) (c % 16) : Nat) : Int) : Int) = 0 by omega) ?_)); (with_reducible refine i_Seq (i_sIA (i_FR (i_A0 ?_)))); (with_reducible refine i_fldR (by assumption) ?_); (with_reducible refine i_Add (i_Mul (i_I (i_L1 (i_L4 (i_eIf (i_cI_eq (i_And (i_Shr (i_L2 (i_L3 (i_I (i_I ?_))))))))))))); (rw [hyd]); rw [zx_cmul (by omega)]; rw [zx_add (by omega)]; (with_reducible refine i_f (by omega) ?_); (with_reducible refine i_I ?_); (with_reducible refine i_in (by assumption) (by omega) (by omega) ?_); (with_reducible refine i_Inc3 (i_up ?_)); rw [zx_inc (by omega)]; simp only [w_set0, w_set1, w_setn0, w_setn1]; (with_reducible refine i_Inc4 ?_); rw [zx_inc (by omega)]; simp only [w_set0, w_set1, w_setn0, w_setn1])
        exact fin _ 2 (by rw [hnew]; rfl)
  · rintro ρ M1 X ⟨⟨l, rfl⟩, f1', h1⟩
    ((with_reducible refine i_turn (i_cI_lt (i_L4 (i_I ?_)))); (with_reducible refine i_f (by omega) ?_); (with_reducible refine i_RetV ?_))
    exact hk M1 f1' (rTe.cells ht hA f1' (fun c hc => by rw [h1 c hc, if_pos hc]; rfl))
/-- of the first sets, the best: its number and 1, its harm, its length -/
def zsv (n : Nat) (A : zTl) (Q : zQl) (len : Int) : Nat → Nat × Nat × Nat
  | 0 => (0, 0, 0)
  | s + 1 => if ((tLen n (zTs A s) : Nat) : Int) ≤ len ∧ ((zsv n A Q len s).1 = 0 ∨ zhm n (zTs A s) Q < (zsv n A Q len s).2.1 ∨ zhm n (zTs A s) Q = (zsv n A Q len s).2.1 ∧ tLen n (zTs A s) < (zsv n A Q len s).2.2) then (s + 1, zhm n (zTs A s) Q, tLen n (zTs A s)) else zsv n A Q len s
theorem zsv_su (n : Nat) (A : zTl) (Q : zQl) (len : Int) (s : Nat) : zsv n A Q len (s + 1) = if ((tLen n (zTs A s) : Nat) : Int) ≤ len ∧ ((zsv n A Q len s).1 = 0 ∨ zhm n (zTs A s) Q < (zsv n A Q len s).2.1 ∨ zhm n (zTs A s) Q = (zsv n A Q len s).2.1 ∧ tLen n (zTs A s) < (zsv n A Q len s).2.2) then (s + 1, zhm n (zTs A s) Q, tLen n (zTs A s)) else zsv n A Q len s := rfl
theorem tLen_b {n : Nat} {A : zTl} (hn : n ≤ 16) (hw : zTw n A) : tLen n A ≤ 40000 := by
  rw [tLen_pl hn hw]
  have h1 := zPl_le (n := n) hn hw.1.1
  have h2 := zsum_cap (f := tlS n A) (c := 30) (fun k => tlS_b hn hw.1.1 k) 512
  omega
theorem zhm_B {n : Nat} {A : zTl} {Q : zQl} (hn : n ≤ 16) (hQ : zQs n Q) : zhm n A Q ≤ 6000000 := by
  have h := zhm_b (A := A) hn hQ Q.1 (Nat.le_refl _)
  have h2 := hQ.1
  unfold zhm
  have : Q.1 * 600000 ≤ 10 * 600000 := Nat.mul_le_mul_right _ h2
  omega
theorem zsv_b {n : Nat} {A : zTl} {Q : zQl} (hn : n ≤ 16) (hw : zTw n A) (hQ : zQs n Q) (len : Int) (s : Nat) : (zsv n A Q len s).1 ≤ s ∧ (zsv n A Q len s).2.1 ≤ 6000000 ∧ (zsv n A Q len s).2.2 ≤ 40000 := by
  induction s with
  | zero => exact ⟨Nat.le_refl _, Nat.zero_le _, Nat.zero_le _⟩
  | succ s ih =>
    rw [zsv_su]
    split
    · exact ⟨Nat.le_refl _, zhm_B hn hQ, tLen_b hn (zTs_w hw s)⟩
    · exact ⟨by omega, ih.2⟩
theorem m_serveFew {O : zOm} (hO : zWld O) (hS : zS O = zmS zC0) {t n E : Nat} {len : Int} {A : zTl} {Q : zQl} {M : zMem} {K : Option zV → zMem → Prop} (ht : t < 7) (hn : M 250 ((1 : Nat) : Int) = ((n : Nat) : Int)) (hn2 : n ≤ 16) (hA : rTe M t n A) (hw : zTw n A) (hq : rQs M Q) (hQ : zQs n Q) (hE : zcnt (tX A) 256 = E) (hE9 : E ≤ 9)
    (hk : ∀ M', (∀ b j, ¬ (b = 250 ∧ j = 52 ∨ b = ((266 : Nat) : Int) ∧ ((256 * t : Nat) : Int) ≤ j ∧ j < ((256 * t + 256 : Nat) : Int) ∨ ((268 : Nat) : Int) ≤ b ∧ b ≤ ((270 : Nat) : Int) ∨ ((288 : Nat) : Int) ≤ b ∧ b ≤ ((290 : Nat) : Int)) → M' b j = M b j) → ((zsv n A Q len (2 ^ E)).1 ≠ 0 → rTe M' t n (zTs A ((zsv n A Q len (2 ^ E)).1 - 1))) → K (some (0, if (zsv n A Q len (2 ^ E)).1 = 0 then -2 else (((zsv n A Q len (2 ^ E)).2.1 : Nat) : Int))) M') : zR O F_Model_serveFew [(2, 250), (0, ((t : Nat) : Int)), (0, len), (0, ((E : Nat) : Int))] M K := by
  have hpw : 2 ^ E ≤ 2 ^ 9 := Nat.pow_le_pow_right (n := 2) (by decide) hE9
  have hpw2 : (2 : Nat) ^ 9 = 512 := rfl
  have hb := fun s => zsv_b hn2 hw hQ len s
  apply r_Model_serveFew hO
  unfold B_Model_serveFew
  have zo := zMO hS
  ((with_reducible refine i_Seq (i_Set (i_I (i_Seq (i_Set (i_I (i_Seq (i_Set (i_I (i_Seq (i_Blk (i_Seq (i_Set (i_I ?_)))))))))))))); simp only [w_set0, w_set1, w_setn0, w_setn1])
  refine w_ForN (2 ^ E) (fun s ρ M' => (∃ l, ρ = 250 :: ((t : Nat) : Int) :: len :: ((E : Nat) : Int) :: ((((zsv n A Q len s).1 : Nat) : Int) - 1) :: (((zsv n A Q len s).2.1 : Nat) : Int) :: (((zsv n A Q len s).2.2 : Nat) : Int) :: ((s : Nat) : Int) :: l) ∧ (∀ b j, ¬ (b = 250 ∧ j = 52 ∨ b = ((266 : Nat) : Int) ∧ ((256 * t : Nat) : Int) ≤ j ∧ j < ((256 * t + 256 : Nat) : Int) ∨ ((268 : Nat) : Int) ≤ b ∧ b ≤ ((270 : Nat) : Int) ∨ ((288 : Nat) : Int) ≤ b ∧ b ≤ ((290 : Nat) : Int)) → M' b j = M b j) ∧ ∃ B, rTe M' t n B ∧ zTw n B ∧ tX B = tX A ∧ ∀ s, zTs B s = zTs A s) ⟨⟨_, rfl⟩, fun _ _ _ => rfl, A, hA, hw, rfl, fun _ => rfl⟩ ?_ ?_
  · rintro s ρ M1 X hs ⟨⟨l, rfl⟩, f1', B, hB, hwB, hXB, hsB⟩ hX
    have hbs := hb s
    have hln := tLen_b hn2 (zTs_w hw s)
    have hhm := zhm_B (A := zTs A s) hn2 hQ
    rw [zsv_su] at hX
    ((with_reducible refine i_turn (i_cI_lt (i_L7 (i_Shl (i_I (i_L3 ?_)))))); (rw [yshl_1 (show E < 31 by omega)]); (with_reducible refine i_t (by omega) ?_); (with_reducible refine i_Blk (i_Seq (i_sCall (i_as1 (i_A0 (i_as1 (i_L1 (i_as1 (i_L7 (i_as0 ?_)))))))))); (with_reducible refine i_recv0 (by assumption) ?_))
    refine m_tell hO hS (s := s) ht hB hwB (by omega) (by rw [hXB, hE]; omega) (fun M2 f2 h2 => ⟨rfl, ?_⟩)
    rw [hsB] at h2
    ((with_reducible refine i_Seq (i_Set (i_Call (i_as1 (i_A0 (i_as1 (i_L1 (i_as0 ?_)))))))); (with_reducible refine i_recv0 (by assumption) ?_); simp only [w_set0, w_set1, w_setn0, w_setn1])
    refine m_lengthOf hO hS ht (show M2 250 ((1 : Nat) : Int) = ((n : Nat) : Int) by rw [f2 _ _ (by omega), f1' _ _ (by omega)]; exact hn) hn2 h2 (zTs_w hw s) (fun M3 f3 _ _ => ⟨_, rfl, ?_⟩)
    have h3 : rTe M3 t n (zTs A s) := h2.to hn2 (zTs_w hw s) (fun b j q => f3 b j (by omega))
    have f31 : ∀ b j, ¬ (b = 250 ∧ j = 52 ∨ b = ((266 : Nat) : Int) ∧ ((256 * t : Nat) : Int) ≤ j ∧ j < ((256 * t + 256 : Nat) : Int) ∨ ((268 : Nat) : Int) ≤ b ∧ b ≤ ((270 : Nat) : Int) ∨ ((288 : Nat) : Int) ≤ b ∧ b ≤ ((290 : Nat) : Int)) → M3 b j = M b j := fun b j q => by rw [f3 b j (by omega), f2 b j (by omega), f1' b j q]
    have hnext : ∀ (l : zLoc) (M' : zMem) (x : Int) (y z : Nat), (∃ u, x = ((u : Nat) : Int) - 1 ∧ (u, y, z) = (if ((tLen n (zTs A s) : Nat) : Int) ≤ len ∧ ((zsv n A Q len s).1 = 0 ∨ zhm n (zTs A s) Q < (zsv n A Q len s).2.1 ∨ zhm n (zTs A s) Q = (zsv n A Q len s).2.1 ∧ tLen n (zTs A s) < (zsv n A Q len s).2.2) then (s + 1, zhm n (zTs A s) Q, tLen n (zTs A s)) else zsv n A Q len s)) → (∀ b j, ¬ (b = 250 ∧ j = 52 ∨ b = ((266 : Nat) : Int) ∧ ((256 * t : Nat) : Int) ≤ j ∧ j < ((256 * t + 256 : Nat) : Int) ∨ ((268 : Nat) : Int) ≤ b ∧ b ≤ ((270 : Nat) : Int) ∨ ((288 : Nat) : Int) ≤ b ∧ b ≤ ((290 : Nat) : Int)) → M' b j = M b j) → rTe M' t n (zTs A s) → X (250 :: ((t : Nat) : Int) :: len :: ((E : Nat) : Int) :: x :: ((y : Nat) : Int) :: ((z : Nat) : Int) :: ((s + 1 : Nat) : Int) :: l) M' := fun l M' x y z ⟨u, hu, he⟩ hf hr => by
      subst hu
      refine hX _ _ ⟨⟨l, by rw [← he]⟩, hf, zTs A s, hr, zTs_w hw s, zTs_X A s, fun s' => zTs_s A s s'⟩
    clear hX
    generalize tLen n (zTs A s) = v at hln hnext ⊢
    by_cases w : ((v : Nat) : Int) ≤ len
    · have w2 : ¬ len < ((v : Nat) : Int) := by omega
      ((with_reducible refine i_Seq (i_IfBrk (i_cI_gt ?_))); rw [w_setT]; (with_reducible refine i_L8 (i_L2 ?_)); (with_reducible refine i_f (by omega) ?_); (with_reducible refine i_Seq (i_Set (i_Call (i_as1 (i_A0 (i_as1 (i_L1 (i_as0 ?_)))))))); (with_reducible refine i_recv0 (by assumption) ?_); simp only [w_set0, w_set1, w_setn0, w_setn1])
      refine m_harmOf hO hS ht (show M3 250 ((1 : Nat) : Int) = ((n : Nat) : Int) by rw [f31 _ _ (by omega)]; exact hn) hn2 h3 (zTs_w hw s) (hq.to (fun b j q => f31 b j (by omega))) hQ (fun M4 f4 => ⟨_, rfl, ?_⟩)
      have h4 : rTe M4 t n (zTs A s) := h3.to hn2 (zTs_w hw s) (fun b j q => f4 b j (by omega))
      have f41 : ∀ b j, ¬ (b = 250 ∧ j = 52 ∨ b = ((266 : Nat) : Int) ∧ ((256 * t : Nat) : Int) ≤ j ∧ j < ((256 * t + 256 : Nat) : Int) ∨ ((268 : Nat) : Int) ≤ b ∧ b ≤ ((270 : Nat) : Int) ∨ ((288 : Nat) : Int) ≤ b ∧ b ≤ ((290 : Nat) : Int)) → M4 b j = M b j := fun b j q => by rw [f4 b j (by omega), f31 b j q]
      generalize zhm n (zTs A s) Q = h at hhm hnext ⊢
      generalize zsv n A Q len s = st at hbs hnext ⊢
      obtain ⟨u, bh, bl⟩ := st
      dsimp only at hbs hnext ⊢
      by_cases e0 : u = 0
      · subst e0
        have e : ((v : Nat) : Int) ≤ len ∧ ((0 : Nat) = 0 ∨ h < bh ∨ h = bh ∧ v < bl) := ⟨w, Or.inl rfl⟩
        ((with_reducible refine i_Seq (i_IfBrk (i_cAnd (i_cZ_ge (i_L4 ?_))))); rw [w_setT]; (with_reducible refine i_f (by omega) ?_); (with_reducible refine i_Seq (i_Set (i_L7 (i_Seq (i_Set ?_))))); simp only [w_set0, w_set1, w_setn0, w_setn1]; (with_reducible refine i_L9 (i_Set ?_)); simp only [w_set0, w_set1, w_setn0, w_setn1]; (with_reducible refine i_L8 (i_up ?_)); simp only [w_set0, w_set1, w_setn0, w_setn1]; (with_reducible refine i_Inc7 ?_); rw [zx_inc (by omega)]; simp only [w_set0, w_set1, w_setn0, w_setn1])
        exact hnext _ _ _ _ _ ⟨s + 1, by omega, by rw [if_pos e]⟩ f41 h4
      · by_cases e1 : h < bh
        · have e : ((v : Nat) : Int) ≤ len ∧ (u = 0 ∨ h < bh ∨ h = bh ∧ v < bl) := ⟨w, Or.inr (Or.inl e1)⟩
          ((with_reducible refine i_Seq (i_IfBrk (i_cAnd (i_cZ_ge (i_L4 ?_))))); rw [w_setT]; (with_reducible refine i_t (by omega) ?_); (with_reducible refine i_cOr (i_cI_gt (i_L9 (i_L5 ?_)))); (with_reducible refine i_f (by omega) ?_); (with_reducible refine i_cAnd (i_cI_eq (i_L9 (i_L5 ?_)))); (with_reducible refine i_f (by omega) ?_); (with_reducible refine i_Seq (i_Set (i_L7 (i_Seq (i_Set ?_))))); simp only [w_set0, w_set1, w_setn0, w_setn1]; (with_reducible refine i_L9 (i_Set ?_)); simp only [w_set0, w_set1, w_setn0, w_setn1]; (with_reducible refine i_L8 (i_up ?_)); simp only [w_set0, w_set1, w_setn0, w_setn1]; (with_reducible refine i_Inc7 ?_); rw [zx_inc (by omega)]; simp only [w_set0, w_set1, w_setn0, w_setn1])
          exact hnext _ _ _ _ _ ⟨s + 1, by omega, by rw [if_pos e]⟩ f41 h4
        · by_cases e2 : h = bh
          · by_cases e3 : v < bl
            · have e : ((v : Nat) : Int) ≤ len ∧ (u = 0 ∨ h < bh ∨ h = bh ∧ v < bl) := ⟨w, Or.inr (Or.inr ⟨e2, e3⟩)⟩
              ((with_reducible refine i_Seq (i_IfBrk (i_cAnd (i_cZ_ge (i_L4 ?_))))); rw [w_setT]; (with_reducible refine i_t (by omega) ?_); (with_reducible refine i_cOr (i_cI_gt (i_L9 (i_L5 ?_)))); (with_reducible refine i_f (by omega) ?_); (with_reducible refine i_cAnd (i_cI_eq (i_L9 (i_L5 ?_)))); (with_reducible refine i_t (by omega) ?_); (with_reducible refine i_cI_ge (i_L8 (i_L6 ?_))); (with_reducible refine i_f (by omega) ?_); (with_reducible refine i_Seq (i_Set (i_L7 (i_Seq (i_Set ?_))))); simp only [w_set0, w_set1, w_setn0, w_setn1]; (with_reducible refine i_L9 (i_Set ?_)); simp only [w_set0, w_set1, w_setn0, w_setn1]; (with_reducible refine i_L8 (i_up ?_)); simp only [w_set0, w_set1, w_setn0, w_setn1]; (with_reducible refine i_Inc7 ?_); rw [zx_inc (by omega)]; simp only [w_set0, w_set1, w_setn0, w_setn1])
              exact hnext _ _ _ _ _ ⟨s + 1, by omega, by rw [if_pos e]⟩ f41 h4
            · have e : ¬ (((v : Nat) : Int) ≤ len ∧ (u = 0 ∨ h < bh ∨ h = bh ∧ v < bl)) := by omega
              ((with_reducible refine i_Seq (i_IfBrk (i_cAnd (i_cZ_ge (i_L4 ?_))))); rw [w_setT]; (with_reducible refine i_t (by omega) ?_); (with_reducible refine i_cOr (i_cI_gt (i_L9 (i_L5 ?_)))); (with_reducible refine i_f (by omega) ?_); (with_reducible refine i_cAnd (i_cI_eq (i_L9 (i_L5 ?_)))); (with_reducible refine i_t (by omega) ?_); (with_reducible refine i_cI_ge (i_L8 (i_L6 ?_))); (with_reducible refine i_t (by omega) ?_); (with_reducible refine i_lab1 (i_up (i_Inc7 ?_))); rw [zx_inc (by omega)]; simp only [w_set0, w_set1, w_setn0, w_setn1])
              exact hnext _ _ _ _ _ ⟨u, rfl, by rw [if_neg e]⟩ f41 h4
          · have e : ¬ (((v : Nat) : Int) ≤ len ∧ (u = 0 ∨ h < bh ∨ h = bh ∧ v < bl)) := by omega
            ((with_reducible refine i_Seq (i_IfBrk (i_cAnd (i_cZ_ge (i_L4 ?_))))); rw [w_setT]; (with_reducible refine i_t (by omega) ?_); (with_reducible refine i_cOr (i_cI_gt (i_L9 (i_L5 ?_)))); (with_reducible refine i_t (by omega) ?_); (with_reducible refine i_lab1 (i_up (i_Inc7 ?_))); rw [zx_inc (by omega)]; simp only [w_set0, w_set1, w_setn0, w_setn1])
            exact hnext _ _ _ _ _ ⟨u, rfl, by rw [if_neg e]⟩ f41 h4
    · have e : ¬ (((v : Nat) : Int) ≤ len ∧ ((zsv n A Q len s).1 = 0 ∨ zhm n (zTs A s) Q < (zsv n A Q len s).2.1 ∨ zhm n (zTs A s) Q = (zsv n A Q len s).2.1 ∧ v < (zsv n A Q len s).2.2)) := fun z => w z.1
      ((with_reducible refine i_Seq (i_IfBrk (i_cI_gt ?_))); rw [w_setT]; (with_reducible refine i_L8 (i_L2 ?_)); (with_reducible refine i_t (by omega) ?_); (with_reducible refine i_lab1 (i_up (i_Inc7 ?_))); rw [zx_inc (by omega)]; simp only [w_set0, w_set1, w_setn0, w_setn1])
      exact hnext _ _ _ _ _ ⟨_, rfl, by rw [if_neg e]⟩ f31 h3
  · rintro ρ M1 X ⟨⟨l, rfl⟩, f1', B, hB, hwB, hXB, hsB⟩
    have hbs := hb (2 ^ E)
    generalize zsv n A Q len (2 ^ E) = st at hbs hk ⊢
    obtain ⟨u, bh, bl⟩ := st
    dsimp only at hbs hk ⊢
    by_cases e0 : u = 0
    · subst e0
      rw [if_pos rfl] at hk
      ((with_reducible refine i_turn (i_cI_lt (i_L7 (i_Shl (i_I (i_L3 ?_)))))); (rw [yshl_1 (show E < 31 by omega)]); (with_reducible refine i_f (by omega) ?_); (with_reducible refine i_Seq (i_If (i_cZ_lt (i_L4 ?_)))); (with_reducible refine i_t (by omega) ?_); (with_reducible refine i_RetI (i_I ?_)))
      exact hk M1 f1' (fun z => absurd rfl z)
    · rw [if_neg e0] at hk
      rw [show (((u : Nat) : Int) - 1 : Int) = ((u - 1 : Nat) : Int) by omega]
      ((with_reducible refine i_turn (i_cI_lt (i_L7 (i_Shl (i_I (i_L3 ?_)))))); (rw [yshl_1 (show E < 31 by omega)]); (with_reducible refine i_f (by omega) ?_); (with_reducible refine i_Seq (i_If (i_cZ_lt (i_L4 ?_)))); (with_reducible refine i_f (by omega) ?_); (with_reducible refine i_Seq (i_sCall (i_as1 (i_A0 (i_as1 (i_L1 (i_as1 (i_L4 (i_as0 ?_))))))))); (with_reducible refine i_recv0 (by assumption) ?_))
      refine m_tell hO hS (s := u - 1) ht hB hwB (by omega) (by rw [hXB, hE]; omega) (fun M2 f2 h2 => ⟨rfl, ?_⟩)
      rw [hsB] at h2
      (with_reducible refine i_RetI (i_L5 ?_))
      exact hk M2 (fun b j q => by rw [f2 b j (by omega), f1' b j q]) (fun _ => h2)
