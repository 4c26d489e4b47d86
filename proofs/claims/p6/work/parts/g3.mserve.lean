section
-- part g3.mserve.lean.txt
/-! ===== served: what both compute; the reference ===== -/
/-- a set of excepts told, the others left out -/
def zTs (A : zTl) (s : Nat) : zTl := zTv A (fun a b => if tv A a b = 0 then 0 else if s.testBit (zcnt (tX A) (16 * a + b)) = true then 1 else 2)
theorem zTs_v (A : zTl) (s a b : Nat) : tv (zTs A s) a b = if tv A a b = 0 then 0 else if s.testBit (zcnt (tX A) (16 * a + b)) = true then 1 else 2 := rfl
theorem zTs_w {n : Nat} {A : zTl} (hw : zTw n A) (s : Nat) : zTw n (zTs A s) := zTv_w hw (fun a b h => fun z => h (if_pos z)) (fun a b => by split; omega; split <;> omega)
theorem zTs_X (A : zTl) (s : Nat) : tX (zTs A s) = tX A := funext fun c => by
  show decide (tv (zTs A s) (c / 16) (c % 16) ≠ 0) = decide (tv A (c / 16) (c % 16) ≠ 0)
  refine decide_eq_decide.mpr ?_
  rw [zTs_v]
  by_cases e : tv A (c / 16) (c % 16) = 0
  · rw [if_pos e]; omega
  · rw [if_neg e]
    split <;> omega
theorem zTs_s (A : zTl) (s s' : Nat) : zTs (zTs A s) s' = zTs A s' := by
  have h : (fun a b => if tv (zTs A s) a b = 0 then 0 else if s'.testBit (zcnt (tX (zTs A s)) (16 * a + b)) = true then 1 else 2) = (fun a b => if tv A a b = 0 then 0 else if s'.testBit (zcnt (tX A) (16 * a + b)) = true then 1 else 2) := funext fun a => funext fun b => by
    rw [zTs_X, zTs_v]
    by_cases e : tv A a b = 0
    · rw [if_pos e, if_pos rfl, if_pos e]
    · rw [if_neg e, if_neg e]
      have : (if s.testBit (zcnt (tX A) (16 * a + b)) = true then 1 else 2) ≠ 0 := by split <;> omega
      rw [if_neg this]
  show (A.1, A.2.1, A.2.2.1, _) = (A.1, A.2.1, A.2.2.1, _)
  rw [h]
/-- the reference's cells of the excepts -/
theorem rTe.cells {M M' : zMem} {t n : Nat} {A : zTl} {v : Nat → Nat → Nat} (ht : t < 7) (h : rTe M t n A) (hf : ∀ b j, ¬ (b = ((266 : Nat) : Int) ∧ ((256 * t : Nat) : Int) ≤ j ∧ j < ((256 * t + 256 : Nat) : Int)) → M' b j = M b j) (hv : ∀ c : Nat, c < 256 → M' ((266 : Nat) : Int) ((256 * t + c : Nat) : Int) = ((v (c / 16) (c % 16) : Nat) : Int)) : rTe M' t n (zTv A v) := by
  obtain ⟨⟨h1, h2, h3⟩, ⟨h4, h5, h6, h7⟩, h8, h9⟩ := h
  refine ⟨⟨by rw [hf _ _ (by omega)]; exact h1, fun q hq => by rw [hf _ _ (by omega)]; exact h2 q hq, fun b hb => by rw [hf _ _ (by omega)]; exact h3 b hb⟩, ⟨fun b hb => by rw [hf _ _ (by omega)]; exact h4 b hb, fun a b ha hb => by rw [hf _ _ (by omega)]; exact h5 a b ha hb, fun a b ha hb => by rw [hf _ _ (by omega)]; exact h6 a b ha hb, fun b hb => by rw [hf _ _ (by omega)]; exact h7 b hb⟩, fun i k hi hk => by rw [hf _ _ (by omega)]; exact h8 i k hi hk, fun a b ha hb => ?_⟩
  have := hv (16 * a + b) (by omega)
  rw [show (16 * a + b) / 16 = a by omega, show (16 * a + b) % 16 = b by omega, ← Nat.add_assoc] at this
  exact this
theorem m_tell {O : zOm} (hO : zWld O) (hS : zS O = zmS zC0) {t n s : Nat} {A : zTl} {M : zMem} {K : Option zV → zMem → Prop} (ht : t < 7) (hA : rTe M t n A) (hw : zTw n A) (hs : s < 65536) (hE : zcnt (tX A) 256 ≤ 16)
    (hk : ∀ M', (∀ b j, ¬ (b = ((266 : Nat) : Int) ∧ ((256 * t : Nat) : Int) ≤ j ∧ j < ((256 * t + 256 : Nat) : Int)) → M' b j = M b j) → rTe M' t n (zTs A s) → K none M') : zR O F_Model_tell [(2, 250), (0, ((t : Nat) : Int)), (0, ((s : Nat) : Int))] M K := by
  have gv : ∀ c : Nat, c < 256 → M ((266 : Nat) : Int) ((256 * t + c : Nat) : Int) = ((tv A (c / 16) (c % 16) : Nat) : Int) := fun c hc => by
    have := hA.2.2.2 (c / 16) (c % 16) (by omega) (by omega)
    rwa [show 256 * t + 16 * (c / 16) + c % 16 = 256 * t + c by omega] at this
  have hsm := za_mk hs
  have hwv := (zTs_w hw s).2.2.2.2
  apply r_Model_tell hO
  unfold B_Model_tell
  have f20 := zMF (k := 20) hS rfl; have a266 := zMA (a := 266) (ty := .int) (n := 1792) hS rfl; have zo := zMO hS
  ((with_reducible refine i_Seq (i_Seq (i_Set (i_I (i_Blk (i_Seq (i_Set (i_I ?_)))))))); simp only [w_set0, w_set1, w_setn0, w_setn1])
  refine w_ForN 256 (fun c ρ M' => (∃ l, ρ = 250 :: ((t : Nat) : Int) :: ((s : Nat) : Int) :: ((zcnt (tX A) c : Nat) : Int) :: ((c : Nat) : Int) :: l) ∧ (∀ b j, ¬ (b = ((266 : Nat) : Int) ∧ ((256 * t : Nat) : Int) ≤ j ∧ j < ((256 * t + 256 : Nat) : Int)) → M' b j = M b j) ∧ ∀ d : Nat, d < 256 → M' ((266 : Nat) : Int) ((256 * t + d : Nat) : Int) = ((if d < c then tv (zTs A s) (d / 16) (d % 16) else tv A (d / 16) (d % 16) : Nat) : Int)) ⟨⟨_, rfl⟩, fun _ _ _ => rfl, fun d hd => by rw [if_neg (Nat.not_lt_zero _)]; exact gv d hd⟩ ?_ ?_
  · rintro c ρ M1 X hc ⟨⟨l, rfl⟩, f1', h1⟩ hX
    have g := h1 c hc
    rw [if_neg (Nat.lt_irrefl _)] at g
    have hsu := zcnt_su (tX A) c
    have hmo := zcnt_mono (tX A) (show c + 1 ≤ 256 by omega)
    have hnew := zTs_v A s (c / 16) (c % 16)
    rw [show 16 * (c / 16) + c % 16 = c by omega] at hnew
    have hst : ∀ d : Nat, d < 256 → d ≠ c → (if d < c then tv (zTs A s) (d / 16) (d % 16) else tv A (d / 16) (d % 16)) = (if d < c + 1 then tv (zTs A s) (d / 16) (d % 16) else tv A (d / 16) (d % 16)) := fun d _ hne => by
      by_cases w : d < c
      · rw [if_pos w, if_pos (by omega)]
      · rw [if_neg w, if_neg (by omega)]
    by_cases e : tv A (c / 16) (c % 16) = 0
    · have hx : tX A c = false := decide_eq_false (fun z => z e)
      rw [hx, if_neg (by decide)] at hsu
      replace hsu := hsu.trans (Nat.add_zero _)
      rw [if_pos e] at hnew
      rw [e] at g
      ((with_reducible refine i_turn (i_cI_lt (i_L4 (i_I ?_)))); (with_reducible refine i_t (by omega) ?_); (with_reducible refine i_Seq (i_IfBrk (i_cZ_eq (i_IA (i_FR (i_A0 ?_)))))); (with_reducible refine i_fldR (by assumption) ?_); (with_reducible refine i_Add (i_Mul (i_I (i_L1 (i_L4 ?_))))); rw [zx_cmul (by omega)]; rw [zx_add (by omega)]; (with_reducible refine i_in (by assumption) (by omega) (by omega) ?_); (rw [g]); (with_reducible refine i_t (by omega) ?_); (with_reducible refine i_lab1 (i_up (i_Inc4 ?_))); rw [zx_inc (by omega)]; simp only [w_set0, w_set1, w_setn0, w_setn1])
      refine hX _ _ ⟨⟨_, by rw [hsu]⟩, f1', fun d hd => ?_⟩
      by_cases z : d = c
      · rw [z, g, if_pos (by omega), hnew]
      · rw [h1 d hd, hst d hd z]
    · have hx : tX A c = true := decide_eq_true e
      rw [hx, if_pos rfl] at hsu
      rw [if_neg e] at hnew
      have hyd := yand_1 (fun i => s.testBit i) (k := zcnt (tX A) c) (by omega)
      rw [← hsm] at hyd
      have fin : ∀ (l : zLoc) (v : Int), v = ((tv (zTs A s) (c / 16) (c % 16) : Nat) : Int) → X (250 :: ((t : Nat) : Int) :: ((s : Nat) : Int) :: ((zcnt (tX A) (c + 1) : Nat) : Int) :: ((c + 1 : Nat) : Int) :: l) (zput M1 ((266 : Nat) : Int) (zup (M1 ((266 : Nat) : Int)) ((256 * t + c : Nat) : Int) v)) := fun l v hv => by
        refine hX _ _ ⟨⟨l, rfl⟩, fun b j q => by rw [zg_o _ _ (by omega)]; exact f1' b j q, fun d hd => ?_⟩
        by_cases z : d = c
        · rw [z, zg_s, if_pos (by omega), hv]
        · rw [zg_m _ _ _ _ _ (by omega), h1 d hd, hst d hd z]
      rw [hsu] at fin
      have hr : zcnt (tX A) c ≤ 16 := by omega
      clear hX hmo hE hsu hst h1 f1'
      by_cases w : s.testBit (zcnt (tX A) c) = true
      · rw [if_pos w] at hyd hnew
        generalize zcnt (tX A) c = r at hyd fin hr ⊢
        ((with_reducible refine i_turn (i_cI_lt (i_L4 (i_I ?_)))); (with_reducible refine i_t (by omega) ?_); (with_reducible refine i_Seq (i_IfBrk (i_cZ_eq (i_IA (i_FR (i_A0 ?_)))))); (with_reducible refine i_fldR (by assumption) ?_); (with_reducible refine i_Add (i_Mul (i_I (i_L1 (i_L4 ?_))))); rw [zx_cmul (by omega)]; rw [zx_add (by omega)]; (with_reducible refine i_in (by assumption) (by omega) (by omega) ?_); (rw [g]); ((with_reducible refine i_f (show ¬ (((tv A (c / 16) (c % 16) : Nat) : Int) : Int) = 0 by omega) ?_)); (with_reducible refine i_Seq (i_sIA (i_FR (i_A0 ?_)))); (with_reducible refine i_fldR (by assumption) ?_); (with_reducible refine i_Add (i_Mul (i_I (i_L1 (i_L4 (i_eIf (i_cI_eq (i_And (i_Shr (i_L2 (i_L3 (i_I (i_I ?_))))))))))))); (rw [hyd]); rw [zx_cmul (by omega)]; rw [zx_add (by omega)]; simp only [w_set0, w_set1, w_setn0, w_setn1]; (with_reducible refine i_t trivial ?_); (with_reducible refine i_I ?_); (with_reducible refine i_in (by assumption) (by omega) (by omega) ?_); (with_reducible refine i_Inc3 (i_up ?_)); rw [zx_inc (by omega)]; simp only [w_set0, w_set1, w_setn0, w_setn1]; (with_reducible refine i_Inc4 ?_); rw [zx_inc (by omega)]; simp only [w_set0, w_set1, w_setn0, w_setn1])
        exact fin _ 1 (by rw [hnew]; rfl)
      · rw [if_neg w] at hyd hnew
        generalize zcnt (tX A) c = r at hyd fin hr ⊢
        ((with_reducible refine i_turn (i_cI_lt (i_L4 (i_I ?_)))); (with_reducible refine i_t (by omega) ?_); (with_reducible refine i_Seq (i_IfBrk (i_cZ_eq (i_IA (i_FR (i_A0 ?_)))))); (with_reducible refine i_fldR (by assumption) ?_); (with_reducible refine i_Add (i_Mul (i_I (i_L1 (i_L4 ?_))))); rw [zx_cmul (by omega)]; rw [zx_add (by omega)]; (with_reducible refine i_in (by assumption) (by omega) (by omega) ?_); (rw [g]); ((with_reducible refine i_f (show ¬ (((tv A (c / 16) (c % 16) : Nat) : Int) : Int) = 0 by omega) ?_)); (with_reducible refine i_Seq (i_sIA (i_FR (i_A0 ?_)))); (with_reducible refine i_fldR (by assumption) ?_); (with_reducible refine i_Add (i_Mul (i_I (i_L1 (i_L4 (i_eIf (i_cI_eq (i_And (i_Shr (i_L2 (i_L3 (i_I (i_I ?_))))))))))))); (rw [hyd]); rw [zx_cmul (by omega)]; rw [zx_add (by omega)]; (with_reducible refine i_f (by omega) ?_); (with_reducible refine i_I ?_); (with_reducible refine i_in (by assumption) (by omega) (by omega) ?_); (with_reducible refine i_Inc3 (i_up ?_)); rw [zx_inc (by omega)]; simp only [w_set0, w_set1, w_setn0, w_setn1]; (with_reducible refine i_Inc4 ?_); rw [zx_inc (by omega)]; simp only [w_set0, w_set1, w_setn0, w_setn1])
        exact fin _ 2 (by rw [hnew]; rfl)
  · rintro ρ M1 X ⟨⟨l, rfl⟩, f1', h1⟩
    ((with_reducible refine i_turn (i_cI_lt (i_L4 (i_I ?_)))); (with_reducible refine i_f (by omega) ?_); (with_reducible refine i_RetV ?_))
    exact hk M1 f1' (rTe.cells ht hA f1' (fun c hc => by rw [h1 c hc, if_pos hc]; rfl))
/-- of the first sets, the best: its number and 1, its harm, its length -/
def zsv (n : Nat) (A : zTl) (Q : zQl) (len : Int) : Nat → Nat × Nat × Nat
  | 0 => (0, 0, 0)
  | s + 1 => if ((tLen n (zTs A s) : Nat) : Int) ≤ len ∧ ((zsv n A Q len s).1 = 0 ∨ zhm n (zTs A s) Q < (zsv n A Q len s).2.1 ∨ zhm n (zTs A s) Q = (zsv n A Q len s).2.1 ∧ tLen n (zTs A s) < (zsv n A Q len s).2.2) then (s + 1, zhm n (zTs A s) Q, tLen n (zTs A s)) else zsv n A Q len s
theorem zsv_su (n : Nat) (A : zTl) (Q : zQl) (len : Int) (s : Nat) : zsv n A Q len (s + 1) = if ((tLen n (zTs A s) : Nat) : Int) ≤ len ∧ ((zsv n A Q len s).1 = 0 ∨ zhm n (zTs A s) Q < (zsv n A Q len s).2.1 ∨ zhm n (zTs A s) Q = (zsv n A Q len s).2.1 ∧ tLen n (zTs A s) < (zsv n A Q len s).2.2) then (s + 1, zhm n (zTs A s) Q, tLen n (zTs A s)) else zsv n A Q len s := rfl
theorem tLen_b {n : Nat} {A : zTl} (hn : n ≤ 16) (hw : zTw n A) : tLen n A ≤ 40000 := by
  rw [tLen_pl hn hw]
  have h1 := zPl_le (n := n) hn hw.1.1
  have h2 := zsum_cap (f := tlS n A) (c := 30) (fun k => tlS_b hn hw.1.1 k) 512
  omega
theorem zhm_B {n : Nat} {A : zTl} {Q : zQl} (hn : n ≤ 16) (hQ : zQs n Q) : zhm n A Q ≤ 6000000 := by
  have h := zhm_b (A := A) hn hQ Q.1 (Nat.le_refl _)
  have h2 := hQ.1
  unfold zhm
  have : Q.1 * 600000 ≤ 10 * 600000 := Nat.mul_le_mul_right _ h2
  omega
theorem zsv_b {n : Nat} {A : zTl} {Q : zQl} (hn : n ≤ 16) (hw : zTw n A) (hQ : zQs n Q) (len : Int) (s : Nat) : (zsv n A Q len s).1 ≤ s ∧ (zsv n A Q len s).2.1 ≤ 6000000 ∧ (zsv n A Q len s).2.2 ≤ 40000 := by
  induction s with
  | zero => exact ⟨Nat.le_refl _, Nat.zero_le _, Nat.zero_le _⟩
  | succ s ih =>
    rw [zsv_su]
    split
    · exact ⟨Nat.le_refl _, zhm_B hn hQ, tLen_b hn (zTs_w hw s)⟩
    · exact ⟨by omega, ih.2⟩
theorem m_serveFew {O : zOm} (hO : zWld O) (hS : zS O = zmS zC0) {t n E : Nat} {len : Int} {A : zTl} {Q : zQl} {M : zMem} {K : Option zV → zMem → Prop} (ht : t < 7) (hn : M 250 ((1 : Nat) : Int) = ((n : Nat) : Int)) (hn2 : n ≤ 16) (hA : rTe M t n A) (hw : zTw n A) (hq : rQs M Q) (hQ : zQs n Q) (hE : zcnt (tX A) 256 = E) (hE9 : E ≤ 9)
    (hk : ∀ M', (∀ b j, ¬ (b = 250 ∧ j = 52 ∨ b = ((266 : Nat) : Int) ∧ ((256 * t : Nat) : Int) ≤ j ∧ j < ((256 * t + 256 : Nat) : Int) ∨ ((268 : Nat) : Int) ≤ b ∧ b ≤ ((270 : Nat) : Int) ∨ ((288 : Nat) : Int) ≤ b ∧ b ≤ ((290 : Nat) : Int)) → M' b j = M b j) → ((zsv n A Q len (2 ^ E)).1 ≠ 0 → rTe M' t n (zTs A ((zsv n A Q len (2 ^ E)).1 - 1))) → K (some (0, if (zsv n A Q len (2 ^ E)).1 = 0 then -2 else (((zsv n A Q len (2 ^ E)).2.1 : Nat) : Int))) M') : zR O F_Model_serveFew [(2, 250), (0, ((t : Nat) : Int)), (0, len), (0, ((E : Nat) : Int))] M K := by
  have hpw : 2 ^ E ≤ 2 ^ 9 := Nat.pow_le_pow_right (n := 2) (by decide) hE9
  have hpw2 : (2 : Nat) ^ 9 = 512 := rfl
  have hb := fun s => zsv_b hn2 hw hQ len s
  apply r_Model_serveFew hO
  unfold B_Model_serveFew
  have zo := zMO hS
  ((with_reducible refine i_Seq (i_Set (i_I (i_Seq (i_Set (i_I (i_Seq (i_Set (i_I (i_Seq (i_Blk (i_Seq (i_Set (i_I ?_)))))))))))))); simp only [w_set0, w_set1, w_setn0, w_setn1])
  refine w_ForN (2 ^ E) (fun s ρ M' => (∃ l, ρ = 250 :: ((t : Nat) : Int) :: len :: ((E : Nat) : Int) :: ((((zsv n A Q len s).1 : Nat) : Int) - 1) :: (((zsv n A Q len s).2.1 : Nat) : Int) :: (((zsv n A Q len s).2.2 : Nat) : Int) :: ((s : Nat) : Int) :: l) ∧ (∀ b j, ¬ (b = 250 ∧ j = 52 ∨ b = ((266 : Nat) : Int) ∧ ((256 * t : Nat) : Int) ≤ j ∧ j < ((256 * t + 256 : Nat) : Int) ∨ ((268 : Nat) : Int) ≤ b ∧ b ≤ ((270 : Nat) : Int) ∨ ((288 : Nat) : Int) ≤ b ∧ b ≤ ((290 : Nat) : Int)) → M' b j = M b j) ∧ ∃ B, rTe M' t n B ∧ zTw n B ∧ tX B = tX A ∧ ∀ s, zTs B s = zTs A s) ⟨⟨_, rfl⟩, fun _ _ _ => rfl, A, hA, hw, rfl, fun _ => rfl⟩ ?_ ?_
  · rintro s ρ M1 X hs ⟨⟨l, rfl⟩, f1', B, hB, hwB, hXB, hsB⟩ hX
    have hbs := hb s
    have hln := tLen_b hn2 (zTs_w hw s)
    have hhm := zhm_B (A := zTs A s) hn2 hQ
    rw [zsv_su] at hX
    ((with_reducible refine i_turn (i_cI_lt (i_L7 (i_Shl (i_I (i_L3 ?_)))))); (rw [yshl_1 (show E < 31 by omega)]); (with_reducible refine i_t (by omega) ?_); (with_reducible refine i_Blk (i_Seq (i_sCall (i_as1 (i_A0 (i_as1 (i_L1 (i_as1 (i_L7 (i_as0 ?_)))))))))); (with_reducible refine i_recv0 (by assumption) ?_))
    refine m_tell hO hS (s := s) ht hB hwB (by omega) (by rw [hXB, hE]; omega) (fun M2 f2 h2 => ⟨rfl, ?_⟩)
    rw [hsB] at h2
    ((with_reducible refine i_Seq (i_Set (i_Call (i_as1 (i_A0 (i_as1 (i_L1 (i_as0 ?_)))))))); (with_reducible refine i_recv0 (by assumption) ?_); simp only [w_set0, w_set1, w_setn0, w_setn1])
    refine m_lengthOf hO hS ht (show M2 250 ((1 : Nat) : Int) = ((n : Nat) : Int) by rw [f2 _ _ (by omega), f1' _ _ (by omega)]; exact hn) hn2 h2 (zTs_w hw s) (fun M3 f3 _ _ => ⟨_, rfl, ?_⟩)
    have h3 : rTe M3 t n (zTs A s) := h2.to hn2 (zTs_w hw s) (fun b j q => f3 b j (by omega))
    have f31 : ∀ b j, ¬ (b = 250 ∧ j = 52 ∨ b = ((266 : Nat) : Int) ∧ ((256 * t : Nat) : Int) ≤ j ∧ j < ((256 * t + 256 : Nat) : Int) ∨ ((268 : Nat) : Int) ≤ b ∧ b ≤ ((270 : Nat) : Int) ∨ ((288 : Nat) : Int) ≤ b ∧ b ≤ ((290 : Nat) : Int)) → M3 b j = M b j := fun b j q => by rw [f3 b j (by omega), f2 b j (by omega), f1' b j q]
    have hnext : ∀ (l : zLoc) (M' : zMem) (x : Int) (y z : Nat), (∃ u, x = ((u : Nat) : Int) - 1 ∧ (u, y, z) = (if ((tLen n (zTs A s) : Nat) : Int) ≤ len ∧ ((zsv n A Q len s).1 = 0 ∨ zhm n (zTs A s) Q < (zsv n A Q len s).2.1 ∨ zhm n (zTs A s) Q = (zsv n A Q len s).2.1 ∧ tLen n (zTs A s) < (zsv n A Q len s).2.2) then (s + 1, zhm n (zTs A s) Q, tLen n (zTs A s)) else zsv n A Q len s)) → (∀ b j, ¬ (b = 250 ∧ j = 52 ∨ b = ((266 : Nat) : Int) ∧ ((256 * t : Nat) : Int) ≤ j ∧ j < ((256 * t + 256 : Nat) : Int) ∨ ((268 : Nat) : Int) ≤ b ∧ b ≤ ((270 : Nat) : Int) ∨ ((288 : Nat) : Int) ≤ b ∧ b ≤ ((290 : Nat) : Int)) → M' b j = M b j) → rTe M' t n (zTs A s) → X (250 :: ((t : Nat) : Int) :: len :: ((E : Nat) : Int) :: x :: ((y : Nat) : Int) :: ((z : Nat) : Int) :: ((s + 1 : Nat) : Int) :: l) M' := fun l M' x y z ⟨u, hu, he⟩ hf hr => by
      subst hu
      refine hX _ _ ⟨⟨l, by rw [← he]⟩, hf, zTs A s, hr, zTs_w hw s, zTs_X A s, fun s' => zTs_s A s s'⟩
    clear hX
    generalize tLen n (zTs A s) = v at hln hnext ⊢
    by_cases w : ((v : Nat) : Int) ≤ len
    · have w2 : ¬ len < ((v : Nat) : Int) := by omega
      ((with_reducible refine i_Seq (i_IfBrk (i_cI_gt ?_))); rw [w_setT]; (with_reducible refine i_L8 (i_L2 ?_)); (with_reducible refine i_f (by omega) ?_); (with_reducible refine i_Seq (i_Set (i_Call (i_as1 (i_A0 (i_as1 (i_L1 (i_as0 ?_)))))))); (with_reducible refine i_recv0 (by assumption) ?_); simp only [w_set0, w_set1, w_setn0, w_setn1])
      refine m_harmOf hO hS ht (show M3 250 ((1 : Nat) : Int) = ((n : Nat) : Int) by rw [f31 _ _ (by omega)]; exact hn) hn2 h3 (zTs_w hw s) (hq.to (fun b j q => f31 b j (by omega))) hQ (fun M4 f4 => ⟨_, rfl, ?_⟩)
      have h4 : rTe M4 t n (zTs A s) := h3.to hn2 (zTs_w hw s) (fun b j q => f4 b j (by omega))
      have f41 : ∀ b j, ¬ (b = 250 ∧ j = 52 ∨ b = ((266 : Nat) : Int) ∧ ((256 * t : Nat) : Int) ≤ j ∧ j < ((256 * t + 256 : Nat) : Int) ∨ ((268 : Nat) : Int) ≤ b ∧ b ≤ ((270 : Nat) : Int) ∨ ((288 : Nat) : Int) ≤ b ∧ b ≤ ((290 : Nat) : Int)) → M4 b j = M b j := fun b j q => by rw [f4 b j (by omega), f31 b j q]
      generalize zhm n (zTs A s) Q = h at hhm hnext ⊢
      generalize zsv n A Q len s = st at hbs hnext ⊢
      obtain ⟨u, bh, bl⟩ := st
      dsimp only at hbs hnext ⊢
      by_cases e0 : u = 0
      · subst e0
        have e : ((v : Nat) : Int) ≤ len ∧ ((0 : Nat) = 0 ∨ h < bh ∨ h = bh ∧ v < bl) := ⟨w, Or.inl rfl⟩
        ((with_reducible refine i_Seq (i_IfBrk (i_cAnd (i_cZ_ge (i_L4 ?_))))); rw [w_setT]; (with_reducible refine i_f (by omega) ?_); (with_reducible refine i_Seq (i_Set (i_L7 (i_Seq (i_Set ?_))))); simp only [w_set0, w_set1, w_setn0, w_setn1]; (with_reducible refine i_L9 (i_Set ?_)); simp only [w_set0, w_set1, w_setn0, w_setn1]; (with_reducible refine i_L8 (i_up ?_)); simp only [w_set0, w_set1, w_setn0, w_setn1]; (with_reducible refine i_Inc7 ?_); rw [zx_inc (by omega)]; simp only [w_set0, w_set1, w_setn0, w_setn1])
        exact hnext _ _ _ _ _ ⟨s + 1, by omega, by rw [if_pos e]⟩ f41 h4
      · by_cases e1 : h < bh
        · have e : ((v : Nat) : Int) ≤ len ∧ (u = 0 ∨ h < bh ∨ h = bh ∧ v < bl) := ⟨w, Or.inr (Or.inl e1)⟩
          ((with_reducible refine i_Seq (i_IfBrk (i_cAnd (i_cZ_ge (i_L4 ?_))))); rw [w_setT]; (with_reducible refine i_t (by omega) ?_); (with_reducible refine i_cOr (i_cI_gt (i_L9 (i_L5 ?_)))); (with_reducible refine i_f (by omega) ?_); (with_reducible refine i_cAnd (i_cI_eq (i_L9 (i_L5 ?_)))); (with_reducible refine i_f (by omega) ?_); (with_reducible refine i_Seq (i_Set (i_L7 (i_Seq (i_Set ?_))))); simp only [w_set0, w_set1, w_setn0, w_setn1]; (with_reducible refine i_L9 (i_Set ?_)); simp only [w_set0, w_set1, w_setn0, w_setn1]; (with_reducible refine i_L8 (i_up ?_)); simp only [w_set0, w_set1, w_setn0, w_setn1]; (with_reducible refine i_Inc7 ?_); rw [zx_inc (by omega)]; simp only [w_set0, w_set1, w_setn0, w_setn1])
          exact hnext _ _ _ _ _ ⟨s + 1, by omega, by rw [if_pos e]⟩ f41 h4
        · by_cases e2 : h = bh
          · by_cases e3 : v < bl
            · have e : ((v : Nat) : Int) ≤ len ∧ (u = 0 ∨ h < bh ∨ h = bh ∧ v < bl) := ⟨w, Or.inr (Or.inr ⟨e2, e3⟩)⟩
              ((with_reducible refine i_Seq (i_IfBrk (i_cAnd (i_cZ_ge (i_L4 ?_))))); rw [w_setT]; (with_reducible refine i_t (by omega) ?_); (with_reducible refine i_cOr (i_cI_gt (i_L9 (i_L5 ?_)))); (with_reducible refine i_f (by omega) ?_); (with_reducible refine i_cAnd (i_cI_eq (i_L9 (i_L5 ?_)))); (with_reducible refine i_t (by omega) ?_); (with_reducible refine i_cI_ge (i_L8 (i_L6 ?_))); (with_reducible refine i_f (by omega) ?_); (with_reducible refine i_Seq (i_Set (i_L7 (i_Seq (i_Set ?_))))); simp only [w_set0, w_set1, w_setn0, w_setn1]; (with_reducible refine i_L9 (i_Set ?_)); simp only [w_set0, w_set1, w_setn0, w_setn1]; (with_reducible refine i_L8 (i_up ?_)); simp only [w_set0, w_set1, w_setn0, w_setn1]; (with_reducible refine i_Inc7 ?_); rw [zx_inc (by omega)]; simp only [w_set0, w_set1, w_setn0, w_setn1])
              exact hnext _ _ _ _ _ ⟨s + 1, by omega, by rw [if_pos e]⟩ f41 h4
            · have e : ¬ (((v : Nat) : Int) ≤ len ∧ (u = 0 ∨ h < bh ∨ h = bh ∧ v < bl)) := by omega
              ((with_reducible refine i_Seq (i_IfBrk (i_cAnd (i_cZ_ge (i_L4 ?_))))); rw [w_setT]; (with_reducible refine i_t (by omega) ?_); (with_reducible refine i_cOr (i_cI_gt (i_L9 (i_L5 ?_)))); (with_reducible refine i_f (by omega) ?_); (with_reducible refine i_cAnd (i_cI_eq (i_L9 (i_L5 ?_)))); (with_reducible refine i_t (by omega) ?_); (with_reducible refine i_cI_ge (i_L8 (i_L6 ?_))); (with_reducible refine i_t (by omega) ?_); (with_reducible refine i_lab1 (i_up (i_Inc7 ?_))); rw [zx_inc (by omega)]; simp only [w_set0, w_set1, w_setn0, w_setn1])
              exact hnext _ _ _ _ _ ⟨u, rfl, by rw [if_neg e]⟩ f41 h4
          · have e : ¬ (((v : Nat) : Int) ≤ len ∧ (u = 0 ∨ h < bh ∨ h = bh ∧ v < bl)) := by omega
            ((with_reducible refine i_Seq (i_IfBrk (i_cAnd (i_cZ_ge (i_L4 ?_))))); rw [w_setT]; (with_reducible refine i_t (by omega) ?_); (with_reducible refine i_cOr (i_cI_gt (i_L9 (i_L5 ?_)))); (with_reducible refine i_t (by omega) ?_); (with_reducible refine i_lab1 (i_up (i_Inc7 ?_))); rw [zx_inc (by omega)]; simp only [w_set0, w_set1, w_setn0, w_setn1])
            exact hnext _ _ _ _ _ ⟨u, rfl, by rw [if_neg e]⟩ f41 h4
    · have e : ¬ (((v : Nat) : Int) ≤ len ∧ ((zsv n A Q len s).1 = 0 ∨ zhm n (zTs A s) Q < (zsv n A Q len s).2.1 ∨ zhm n (zTs A s) Q = (zsv n A Q len s).2.1 ∧ v < (zsv n A Q len s).2.2)) := fun z => w z.1
      ((with_reducible refine i_Seq (i_IfBrk (i_cI_gt ?_))); rw [w_setT]; (with_reducible refine i_L8 (i_L2 ?_)); (with_reducible refine i_t (by omega) ?_); (with_reducible refine i_lab1 (i_up (i_Inc7 ?_))); rw [zx_inc (by omega)]; simp only [w_set0, w_set1, w_setn0, w_setn1])
      exact hnext _ _ _ _ _ ⟨_, rfl, by rw [if_neg e]⟩ f31 h3
  · rintro ρ M1 X ⟨⟨l, rfl⟩, f1', B, hB, hwB, hXB, hsB⟩
    have hbs := hb (2 ^ E)
    generalize zsv n A Q len (2 ^ E) = st at hbs hk ⊢
    obtain ⟨u, bh, bl⟩ := st
    dsimp only at hbs hk ⊢
    by_cases e0 : u = 0
    · subst e0
      rw [if_pos rfl] at hk
      ((with_reducible refine i_turn (i_cI_lt (i_L7 (i_Shl (i_I (i_L3 ?_)))))); (rw [yshl_1 (show E < 31 by omega)]); (with_reducible refine i_f (by omega) ?_); (with_reducible refine i_Seq (i_If (i_cZ_lt (i_L4 ?_)))); (with_reducible refine i_t (by omega) ?_); (with_reducible refine i_RetI (i_I ?_)))
      exact hk M1 f1' (fun z => absurd rfl z)
    · rw [if_neg e0] at hk
      rw [show (((u : Nat) : Int) - 1 : Int) = ((u - 1 : Nat) : Int) by omega]
      ((with_reducible refine i_turn (i_cI_lt (i_L7 (i_Shl (i_I (i_L3 ?_)))))); (rw [yshl_1 (show E < 31 by omega)]); (with_reducible refine i_f (by omega) ?_); (with_reducible refine i_Seq (i_If (i_cZ_lt (i_L4 ?_)))); (with_reducible refine i_f (by omega) ?_); (with_reducible refine i_Seq (i_sCall (i_as1 (i_A0 (i_as1 (i_L1 (i_as1 (i_L4 (i_as0 ?_))))))))); (with_reducible refine i_recv0 (by assumption) ?_))
      refine m_tell hO hS (s := u - 1) ht hB hwB (by omega) (by rw [hXB, hE]; omega) (fun M2 f2 h2 => ⟨rfl, ?_⟩)
      rw [hsB] at h2
      (with_reducible refine i_RetI (i_L5 ?_))
      exact hk M2 (fun b j q => by rw [f2 b j (by omega), f1' b j q]) (fun _ => h2)
end
section
-- part g4.cserve.lean.txt
/-! ===== served by the best set: the class ===== -/
/-- the reader's list of excepts -/
def cLs (M : zMem) (W : Nat → Bool) (E : Nat) : Prop := M ((148 : Nat) : Int) ((6 : Nat) : Int) = ((E : Nat) : Int) ∧ ∀ k : Nat, k < E → M ((153 : Nat) : Int) ((k : Nat) : Int) = zpk W ((k : Nat) : Int) 256
theorem cLs.to {M M' : zMem} {W : Nat → Bool} {E : Nat} (h : cLs M W E) (e : ∀ b j, (b = ((148 : Nat) : Int) ∧ j = 6 ∨ b = ((153 : Nat) : Int)) → M' b j = M b j) : cLs M' W E := ⟨by rw [e _ _ (by omega)]; exact h.1, fun k hk => by rw [e _ _ (by omega)]; exact h.2 k hk⟩
theorem zTv_X {A : zTl} {v : Nat → Nat → Nat} (h : ∀ a b, v a b = 0 ↔ tv A a b = 0) : tX (zTv A v) = tX A := funext fun c => by
  show decide (v (c / 16) (c % 16) ≠ 0) = decide (tv A (c / 16) (c % 16) ≠ 0)
  exact decide_eq_decide.mpr (not_congr (h _ _))
theorem zTv_s {A : zTl} {v : Nat → Nat → Nat} (h : ∀ a b, v a b = 0 ↔ tv A a b = 0) (s : Nat) : zTs (zTv A v) s = zTs A s := by
  have e : (fun a b => if tv (zTv A v) a b = 0 then 0 else if s.testBit (zcnt (tX (zTv A v)) (16 * a + b)) = true then 1 else 2) = (fun a b => if tv A a b = 0 then 0 else if s.testBit (zcnt (tX A) (16 * a + b)) = true then 1 else 2) := funext fun a => funext fun b => by
    rw [zTv_X h]
    show (if v a b = 0 then 0 else _) = _
    by_cases w : tv A a b = 0
    · rw [if_pos w, if_pos ((h a b).mpr w)]
    · rw [if_neg w, if_neg (fun z => w ((h a b).mp z))]
  show (A.1, A.2.1, A.2.2.1, _) = (A.1, A.2.1, A.2.2.1, _)
  rw [e]
theorem zTs_0 (A : zTl) (s a b : Nat) : tv (zTs A s) a b = 0 ↔ tv A a b = 0 := by
  rw [zTs_v]
  by_cases w : tv A a b = 0
  · rw [if_pos w]; exact ⟨fun _ => w, fun _ => rfl⟩
  · rw [if_neg w]
    refine ⟨fun z => ?_, fun z => absurd z w⟩
    split at z <;> omega
/-- the first of the excepts told or left by a set -/
def zTp (A : zTl) (s k : Nat) : zTl := zTv A (fun a b => if tv A a b = 0 then 0 else if zcnt (tX A) (16 * a + b) < k then (if s.testBit (zcnt (tX A) (16 * a + b)) = true then 1 else 2) else tv A a b)
theorem zTp_z (A : zTl) (s k a b : Nat) : (if tv A a b = 0 then 0 else if zcnt (tX A) (16 * a + b) < k then (if s.testBit (zcnt (tX A) (16 * a + b)) = true then 1 else 2) else tv A a b) = 0 ↔ tv A a b = 0 := by
  by_cases w : tv A a b = 0
  · rw [if_pos w]; exact ⟨fun _ => w, fun _ => rfl⟩
  · rw [if_neg w]
    refine ⟨fun z => ?_, fun z => absurd z w⟩
    split at z
    · split at z <;> omega
    · exact z
theorem zTp_X (A : zTl) (s k : Nat) : tX (zTp A s k) = tX A := zTv_X (fun a b => zTp_z A s k a b)
theorem zTp_0 (A : zTl) (s : Nat) : zTp A s 0 = A := by
  have e : (fun a b => if tv A a b = 0 then 0 else if zcnt (tX A) (16 * a + b) < 0 then (if s.testBit (zcnt (tX A) (16 * a + b)) = true then 1 else 2) else tv A a b) = tv A := funext fun a => funext fun b => by
    by_cases w : tv A a b = 0
    · rw [if_pos w, w]
    · rw [if_neg w, if_neg (Nat.not_lt_zero _)]
  show zTv A _ = A
  rw [e]
  rfl
theorem zTp_su {n : Nat} {A : zTl} (hn : n ≤ 16) (hw : zTw n A) (s : Nat) {k c : Nat} (h1 : c < 256) (h2 : tX A c = true) (h3 : zcnt (tX A) c = k) : zTv (zTp A s k) (zv1 (zTp A s k) c (if s.testBit k = true then 1 else 2)) = zTp A s (k + 1) := by
  have e : (fun a b => if 16 * a + b = c ∧ b < 16 then (if s.testBit k = true then 1 else 2) else if tv A a b = 0 then 0 else if zcnt (tX A) (16 * a + b) < k then (if s.testBit (zcnt (tX A) (16 * a + b)) = true then 1 else 2) else tv A a b) = (fun a b => if tv A a b = 0 then 0 else if zcnt (tX A) (16 * a + b) < k + 1 then (if s.testBit (zcnt (tX A) (16 * a + b)) = true then 1 else 2) else tv A a b) := funext fun a => funext fun b => by
    by_cases w : tv A a b = 0
    · have hne : ¬ (16 * a + b = c ∧ b < 16) := fun z => by
        have h2' : tv A (c / 16) (c % 16) ≠ 0 := of_decide_eq_true h2
        rw [← z.1, show (16 * a + b) / 16 = a by omega, show (16 * a + b) % 16 = b by omega] at h2'
        exact h2' w
      rw [if_neg hne, if_pos w, if_pos w]
    · obtain ⟨q1, q2⟩ := hw.2.2.2.1 a b w
      have hd : tX A (16 * a + b) = true := by
        show decide (tv A ((16 * a + b) / 16) ((16 * a + b) % 16) ≠ 0) = true
        rw [show (16 * a + b) / 16 = a by omega, show (16 * a + b) % 16 = b by omega]
        exact decide_eq_true w
      by_cases z : 16 * a + b = c
      · rw [if_pos ⟨z, by omega⟩, if_neg w, z, h3, if_pos (Nat.lt_succ_self k)]
      · have hk : zcnt (tX A) (16 * a + b) ≠ k := fun y => z (zcnt_inj (tX A) hd h2 (y.trans h3.symm))
        rw [if_neg (fun y => z y.1), if_neg w, if_neg w]
        by_cases y : zcnt (tX A) (16 * a + b) < k
        · rw [if_pos y, if_pos (Nat.lt_succ_of_lt y)]
        · rw [if_neg y, if_neg (by omega)]
  show (A.1, A.2.1, A.2.2.1, _) = (A.1, A.2.1, A.2.2.1, _)
  rw [← e]
  rfl
theorem zTp_E {n E : Nat} {A : zTl} (hn : n ≤ 16) (hw : zTw n A) (s : Nat) (hE : zcnt (tX A) 256 = E) : zTp A s E = zTs A s := by
  have e : (fun a b => if tv A a b = 0 then 0 else if zcnt (tX A) (16 * a + b) < E then (if s.testBit (zcnt (tX A) (16 * a + b)) = true then 1 else 2) else tv A a b) = (fun a b => if tv A a b = 0 then 0 else if s.testBit (zcnt (tX A) (16 * a + b)) = true then 1 else 2) := funext fun a => funext fun b => by
    by_cases w : tv A a b = 0
    · rw [if_pos w, if_pos w]
    · obtain ⟨q1, q2⟩ := hw.2.2.2.1 a b w
      have hd : tX A (16 * a + b) = true := by
        show decide (tv A ((16 * a + b) / 16) ((16 * a + b) % 16) ≠ 0) = true
        rw [show (16 * a + b) / 16 = a by omega, show (16 * a + b) % 16 = b by omega]
        exact decide_eq_true w
      have h1 := zcnt_su (tX A) (16 * a + b)
      rw [if_pos hd] at h1
      have h2 := zcnt_mono (tX A) (show 16 * a + b + 1 ≤ 256 by omega)
      rw [hE, h1] at h2
      rw [if_neg w, if_neg w, if_pos (show zcnt (tX A) (16 * a + b) < E from h2)]
  show zTv A _ = zTv A _
  rw [e]
theorem zTR.back {M M' : zMem} {x n : Nat} {A : zTl} {v : Nat → Nat → Nat} (h : zTR M x n (zTv A v)) (hv : ∀ a b, v a b = 0 ↔ tv A a b = 0) (hf : ∀ b j, ¬ (((x + 11 : Nat) : Int) ≤ b ∧ b ≤ ((x + 12 : Nat) : Int)) → M' b j = M b j) (hl : zNR M' (x + 11) n (fun p q => decide (tvs A p q = 2))) : zTR M' x n A := by
  obtain ⟨h1, h2, h3, h4, h5, h6⟩ := h
  refine ⟨zPR.fr h1 (fun b j a1 a2 => hf b j (by omega)), fun b k hb hk2 => by rw [hf _ _ (by omega)]; exact h2 b k hb hk2, ⟨h3.1.to (fun j => hf _ _ (by omega)) (fun j => hf _ _ (by omega)), h3.2⟩, h4.to (fun b j a1 a2 => hf b j (by omega)), (h5.to (fun b j a1 a2 => hf b j (by omega))).ext (fun p q hp hq => ?_), hl⟩
  show decide ((if p < q then v p q else v q p) ≠ 0) = decide ((if p < q then tv A p q else tv A q p) ≠ 0)
  refine decide_eq_decide.mpr (not_congr ?_)
  split
  · exact hv _ _
  · exact hv _ _
theorem c_begin {O : zOm} (hO : zWld O) (hS : zS O = zmS zC0) {x n E : Nat} {A : zTl} {M : zMem} {K : Option zV → zMem → Prop} (hx : zTeC (zS O) x) (hx7 : 165 < x) (hA : zTR M x n A) (hn2 : n ≤ 16) (hw : zTw n A) (hE : zcnt (tX A) 256 = E)
    (hk : ∀ M', (∀ b j, ¬ (b = ((148 : Nat) : Int) ∧ j = 6 ∨ ((153 : Nat) : Int) ≤ b ∧ b ≤ ((155 : Nat) : Int)) → M' b j = M b j) → zNR M' 154 n (fun p q => decide (tvs A p q = 2)) → cLs M' (tX A) E → K (some (0, zbI (decide (E ≤ 9)))) M') : zR O F_Reader_begin [(2, ((148 : Nat) : Int)), (2, ((x : Nat) : Int))] M K := by
  obtain ⟨⟨s0, s1, s2, s3, s4, s5, s6, s7, s8⟩, ⟨t1, t2, t3, t4, t5⟩⟩ := zO148_ok hS
  have hx0 := hx
  obtain ⟨⟨x0, x1, x2, x3, x4, x5, x6, x7⟩, ⟨xa, xb⟩, hQ0, ⟨n7, n9, n11⟩⟩ := hx
  have n9' := n9
  obtain ⟨-, -, -, o9⟩ := n9'
  have y3 := zNetB.to hS zNt_154
  have y3' := y3
  obtain ⟨-, -, -, o3⟩ := y3'
  have hE2 : E ≤ 120 := by rw [← hE]; exact tX_120 hn2 hw
  have hA' := hA
  obtain ⟨-, -, -, -, -, hl⟩ := hA'
  apply r_Reader_begin hO
  unfold B_Reader_begin
  ((with_reducible refine i_Seq (i_sCall (i_as1 (i_FR (i_A0 ?_))))); (with_reducible refine i_fldR (by assumption) ?_); (with_reducible refine i_as1 (i_FR (i_A1 ?_))); (with_reducible refine i_fldR (by assumption) ?_); (with_reducible refine i_as0 ?_); (with_reducible refine i_recv0 (by assumption) ?_))
  refine s_Net_become hO y3 n11 hl (fun M1 f1 h1 => ⟨rfl, ?_⟩)
  have fr1 : ∀ b j, ¬ (((154 : Nat) : Int) ≤ b ∧ b ≤ ((155 : Nat) : Int)) → M1 b j = M b j := fun b j q => by rw [f1 b (by simp <;> omega)]
  have hA1 : zTR M1 x n A := hA.to (fun b j a1 a2 => fr1 b j (by omega))
  clear f1 hl hA
  ((with_reducible refine i_Seq (i_sF (i_A0 (i_MM (i_I (i_Call (i_as1 (i_FR (i_A1 ?_))))))))); (with_reducible refine i_fldR (by assumption) ?_); (with_reducible refine i_as0 ?_); (with_reducible refine i_recv0 (by assumption) ?_))
  refine zTR.pairs hO hx0 hA1 hn2 hw ⟨_, rfl, ?_⟩
  rw [hE]
  ((with_reducible refine i_fld (by assumption) ?_); (with_reducible refine i_Seq (i_Blk (i_Seq (i_Set (i_I ?_))))); (rw [zmn4c, show min 120 E = E by omega]); simp only [w_set0, w_set1, w_setn0, w_setn1])
  refine w_ForN E (fun k ρ M' => (∃ l, ρ = ((148 : Nat) : Int) :: ((x : Nat) : Int) :: ((k : Nat) : Int) :: l) ∧ (∀ b j, ¬ (b = ((148 : Nat) : Int) ∧ j = 6 ∨ b = ((153 : Nat) : Int)) → M' b j = M1 b j) ∧ M' ((148 : Nat) : Int) ((6 : Nat) : Int) = ((E : Nat) : Int) ∧ ∀ j : Nat, j < k → M' ((153 : Nat) : Int) ((j : Nat) : Int) = zpk (tX A) ((j : Nat) : Int) 256) ⟨⟨_, rfl⟩, fun b j q => by rw [zg_o _ _ (by omega)], zg_s _ _ _ _ _, fun j h => absurd h (Nat.not_lt_zero _)⟩ ?_ ?_
  · rintro k ρ M2 X hk1 ⟨⟨l, rfl⟩, f2, w2, l2⟩ hX
    have hA2 : zTR M2 x n A := hA1.to (fun b j a1 a2 => f2 b j (by omega))
    ((with_reducible refine i_turn (i_cI_lt (i_L2 (i_F (i_A0 ?_))))); (with_reducible refine i_fld (by assumption) ?_); (rw [w2]); (with_reducible refine i_t (by omega) ?_); (with_reducible refine i_sIA (i_FR (i_A0 ?_))); (with_reducible refine i_fldR (by assumption) ?_); (with_reducible refine i_L2 (i_Call (i_as1 (i_FR (i_A1 ?_))))); (with_reducible refine i_fldR (by assumption) ?_); (with_reducible refine i_as1 (i_L2 (i_as0 ?_))); (with_reducible refine i_recv0 (by assumption) ?_); (refine zTR.pairAt hO hx0 hA2 hn2 hw (by unfold zin32; omega) ⟨_, rfl, ?_⟩); (with_reducible refine i_in (by assumption) (by omega) (by omega) ?_); (with_reducible refine i_up (i_Inc2 ?_)); rw [zx_inc (by omega)]; simp only [w_set0, w_set1, w_setn0, w_setn1])
    refine hX _ _ ⟨⟨l, rfl⟩, fun b j q => by rw [zg_o _ _ (by omega)]; exact f2 b j q, by rw [zg_n _ _ _ (by omega)]; exact w2, fun j hj => ?_⟩
    by_cases e : j = k
    · subst e; exact zg_s _ _ _ _ _
    · rw [zg_m _ _ _ _ _ (by omega)]; exact l2 j (by omega)
  · rintro ρ M2 X ⟨⟨l, rfl⟩, f2, w2, l2⟩
    have hk2 := hk M2 (fun b j q => by rw [f2 b j (by omega)]; exact fr1 b j (by omega)) (h1.to (fun b j a1 a2 => f2 b j (by omega))) ⟨w2, l2⟩
    by_cases e : E ≤ 9
    · rw [decide_eq_true e] at hk2
      ((with_reducible refine i_turn (i_cI_lt (i_L2 (i_F (i_A0 ?_))))); (with_reducible refine i_fld (by assumption) ?_); (rw [w2]); (with_reducible refine i_f (by omega) ?_); (with_reducible refine i_RetZ (i_eIf (i_cI_le (i_F (i_A0 ?_))))); (with_reducible refine i_fld (by assumption) ?_); (with_reducible refine i_I ?_); (rw [w2]); (with_reducible refine i_t (by omega) ?_); (with_reducible refine i_I ?_); (with_reducible refine i_z (Or.inr rfl) ?_))
      exact hk2
    · rw [decide_eq_false e] at hk2
      ((with_reducible refine i_turn (i_cI_lt (i_L2 (i_F (i_A0 ?_))))); (with_reducible refine i_fld (by assumption) ?_); (rw [w2]); (with_reducible refine i_f (by omega) ?_); (with_reducible refine i_RetZ (i_eIf (i_cI_le (i_F (i_A0 ?_))))); (with_reducible refine i_fld (by assumption) ?_); (with_reducible refine i_I ?_); (rw [w2]); (with_reducible refine i_f (by omega) ?_); (with_reducible refine i_I ?_); (with_reducible refine i_z (Or.inl rfl) ?_))
      exact hk2
theorem c_tellOnly {O : zOm} (hO : zWld O) (hS : zS O = zmS zC0) {x n s E : Nat} {A : zTl} {M : zMem} {K : Option zV → zMem → Prop} (hx : zTeC (zS O) x) (hx7 : 165 < x) (hA : zTR M x n A) (hn2 : n ≤ 16) (hw : zTw n A) (hs : s < 65536) (hL : cLs M (tX A) E) (hE : zcnt (tX A) 256 = E) (hE9 : E ≤ 9)
    (hk : ∀ M', (∀ b j, ¬ b = ((x + 12 : Nat) : Int) → M' b j = M b j) → zTR M' x n (zTs A s) → K none M') : zR O F_Reader_tellOnly [(2, ((148 : Nat) : Int)), (2, ((x : Nat) : Int)), (0, ((s : Nat) : Int))] M K := by
  obtain ⟨⟨s0, s1, s2, s3, s4, s5, s6, s7, s8⟩, ⟨t1, t2, t3, t4, t5⟩⟩ := zO148_ok hS
  have hx0 := hx
  obtain ⟨⟨x0, x1, x2, x3, x4, x5, x6, x7⟩, ⟨xa, xb⟩, hQ0, ⟨n7, n9, n11⟩⟩ := hx
  obtain ⟨hL0, hL1⟩ := hL
  have hsm := za_mk hs
  rw [← zTp_E hn2 hw s hE] at hk
  apply r_Reader_tellOnly hO
  unfold B_Reader_tellOnly
  ((with_reducible refine i_Seq (i_Blk (i_Seq (i_Set (i_I ?_))))); simp only [w_set0, w_set1, w_setn0, w_setn1])
  refine w_ForN E (fun k ρ M' => (∃ l, ρ = ((148 : Nat) : Int) :: ((x : Nat) : Int) :: ((s : Nat) : Int) :: ((k : Nat) : Int) :: l) ∧ (∀ b j, ¬ b = ((x + 12 : Nat) : Int) → M' b j = M b j) ∧ zTR M' x n (zTp A s k)) ⟨⟨_, rfl⟩, fun _ _ _ => rfl, by rw [zTp_0]; exact hA⟩ ?_ ?_
  · rintro k ρ M1 X hk1 ⟨⟨l, rfl⟩, f1, h1⟩ hX
    have e0 : M1 ((148 : Nat) : Int) ((6 : Nat) : Int) = ((E : Nat) : Int) := (f1 _ _ (by omega)).trans hL0
    obtain ⟨c, c1, c2, c3⟩ := zkth (s := tX A) (n := 256) (k := k) (by rw [hE]; exact hk1)
    obtain ⟨c4, c5, -⟩ := tX_in hn2 hw c2
    have e1 : M1 ((153 : Nat) : Int) ((k : Nat) : Int) = ((c : Nat) : Int) := (f1 _ _ (by omega)).trans ((hL1 k hk1).trans (zpk_some c1 c2 (by rw [c3])))
    have hyd := yand_1 (fun i => s.testBit i) (k := k) (by omega)
    rw [← hsm] at hyd
    have hsu := zTp_su hn2 hw s c1 c2 c3
    have hx2 : tX (zTp A s k) c = true := by rw [zTp_X]; exact c2
    clear hE hk
    by_cases w : s.testBit k = true
    · rw [if_pos w] at hyd hsu
      ((with_reducible refine i_turn (i_cI_lt (i_L3 (i_F (i_A0 ?_))))); (with_reducible refine i_fld (by assumption) ?_); (rw [e0]); (with_reducible refine i_t (by omega) ?_); (with_reducible refine i_sCall (i_as1 (i_A1 (i_as1 (i_IA (i_FR (i_A0 ?_))))))); (with_reducible refine i_fldR (by assumption) ?_); (with_reducible refine i_L3 ?_); (with_reducible refine i_in (by assumption) (by omega) (by omega) ?_); (with_reducible refine i_as1 (i_eIf (i_cZ_eq (i_And (i_Shr (i_L2 (i_L3 (i_I ?_)))))))); (rw [e1]); (rw [hyd]); (with_reducible refine i_f (by omega) ?_); (with_reducible refine i_I (i_as0 ?_)); (with_reducible refine i_recv0 (by assumption) ?_))
      refine c_setLeft hO (out := false) hx0 h1 c4 c1 hx2 (fun M2 f2 h2 => ⟨rfl, ?_⟩)
      rw [if_neg (by decide), hsu] at h2
      ((with_reducible refine i_up (i_Inc3 ?_)); rw [zx_inc (by omega)]; simp only [w_set0, w_set1, w_setn0, w_setn1])
      exact hX _ _ ⟨⟨l, rfl⟩, fun b j q => by rw [f2 b j q, f1 b j q], h2⟩
    · rw [if_neg w] at hyd hsu
      ((with_reducible refine i_turn (i_cI_lt (i_L3 (i_F (i_A0 ?_))))); (with_reducible refine i_fld (by assumption) ?_); (rw [e0]); (with_reducible refine i_t (by omega) ?_); (with_reducible refine i_sCall (i_as1 (i_A1 (i_as1 (i_IA (i_FR (i_A0 ?_))))))); (with_reducible refine i_fldR (by assumption) ?_); (with_reducible refine i_L3 ?_); (with_reducible refine i_in (by assumption) (by omega) (by omega) ?_); (with_reducible refine i_as1 (i_eIf (i_cZ_eq (i_And (i_Shr (i_L2 (i_L3 (i_I ?_)))))))); (rw [e1]); (rw [hyd]); simp only [w_set0, w_set1, w_setn0, w_setn1]; (with_reducible refine i_t trivial ?_); (with_reducible refine i_I (i_as0 ?_)); (with_reducible refine i_recv0 (by assumption) ?_))
      refine c_setLeft hO (out := true) hx0 h1 c4 c1 hx2 (fun M2 f2 h2 => ⟨rfl, ?_⟩)
      rw [if_pos rfl, hsu] at h2
      ((with_reducible refine i_up (i_Inc3 ?_)); rw [zx_inc (by omega)]; simp only [w_set0, w_set1, w_setn0, w_setn1])
      exact hX _ _ ⟨⟨l, rfl⟩, fun b j q => by rw [f2 b j q, f1 b j q], h2⟩
  · rintro ρ M1 X ⟨⟨l, rfl⟩, f1, h1⟩
    have e0 : M1 ((148 : Nat) : Int) ((6 : Nat) : Int) = ((E : Nat) : Int) := (f1 _ _ (by omega)).trans hL0
    ((with_reducible refine i_turn (i_cI_lt (i_L3 (i_F (i_A0 ?_))))); (with_reducible refine i_fld (by assumption) ?_); (rw [e0]); (with_reducible refine i_f (by omega) ?_); (with_reducible refine i_RetV ?_))
    exact hk M1 f1 h1
theorem c_serveBest {O : zOm} (hO : zWld O) (hS : zS O = zmS zC0) {x n E : Nat} {len : Int} {A : zTl} {Q : zQl} {M : zMem} {K : Option zV → zMem → Prop} (hx : zTeC (zS O) x) (hx7 : 165 < x) (hA : zTR M x n A) (hn1 : 0 < n) (hn2 : n ≤ 16) (hw : zTw n A) (hq : cQs M Q) (hQ : zQs n Q) (hC : cSo M) (hL : cLs M (tX A) E) (hE : zcnt (tX A) 256 = E) (hE9 : E ≤ 9) (hB : zNR M 154 n (fun p q => decide (tvs A p q = 2)))
    (hk : ∀ M', (∀ b j, ¬ (b = ((134 : Nat) : Int) ∧ (j = 6 ∨ j = 7) ∨ ((135 : Nat) : Int) ≤ b ∧ b ≤ ((146 : Nat) : Int) ∨ ((x + 11 : Nat) : Int) ≤ b ∧ b ≤ ((x + 12 : Nat) : Int)) → M' b j = M b j) → cSo M' → zTR M' x n (if (zsv n A Q len (2 ^ E)).1 = 0 then A else zTs A ((zsv n A Q len (2 ^ E)).1 - 1)) → K (some (0, if (zsv n A Q len (2 ^ E)).1 = 0 then -2 else (((zsv n A Q len (2 ^ E)).2.1 : Nat) : Int))) M') : zR O F_Reader_serveBest [(2, ((148 : Nat) : Int)), (2, ((x : Nat) : Int)), (2, ((134 : Nat) : Int)), (0, len)] M K := by
  obtain ⟨⟨s0, s1, s2, s3, s4, s5, s6, s7, s8⟩, ⟨t1, t2, t3, t4, t5⟩⟩ := zO148_ok hS
  have hx0 := hx
  obtain ⟨⟨x0, x1, x2, x3, x4, x5, x6, x7⟩, ⟨xa, xb⟩, hQ0, ⟨n7, n9, n11⟩⟩ := hx
  have y3 := zNetB.to hS zNt_154
  obtain ⟨⟨o134, -⟩, -⟩ := zO134_ok hS
  have n11' := n11
  obtain ⟨-, -, -, o11⟩ := n11'
  have hpw : 2 ^ E ≤ 2 ^ 9 := Nat.pow_le_pow_right (n := 2) (by decide) hE9
  have hpw2 : (2 : Nat) ^ 9 = 512 := rfl
  have hb := fun s => zsv_b hn2 hw hQ len s
  have hL0 := hL.1
  apply r_Reader_serveBest hO
  unfold B_Reader_serveBest
  ((with_reducible refine i_Seq (i_Set (i_I (i_Seq (i_Set (i_I (i_Seq (i_Set (i_I (i_Seq (i_Blk (i_Seq (i_Set (i_I ?_)))))))))))))); simp only [w_set0, w_set1, w_setn0, w_setn1])
  refine w_ForN (2 ^ E) (fun s ρ M' => (∃ l, ρ = ((148 : Nat) : Int) :: ((x : Nat) : Int) :: ((134 : Nat) : Int) :: len :: ((((zsv n A Q len s).1 : Nat) : Int) - 1) :: (((zsv n A Q len s).2.1 : Nat) : Int) :: (((zsv n A Q len s).2.2 : Nat) : Int) :: ((s : Nat) : Int) :: l) ∧ (∀ b j, ¬ (b = ((134 : Nat) : Int) ∧ (j = 6 ∨ j = 7) ∨ ((135 : Nat) : Int) ≤ b ∧ b ≤ ((146 : Nat) : Int) ∨ ((x + 11 : Nat) : Int) ≤ b ∧ b ≤ ((x + 12 : Nat) : Int)) → M' b j = M b j) ∧ cSo M' ∧ ∃ v, zTR M' x n (zTv A v) ∧ zTw n (zTv A v) ∧ ∀ a b, v a b = 0 ↔ tv A a b = 0) ⟨⟨_, rfl⟩, fun _ _ _ => rfl, hC, tv A, hA, hw, fun _ _ => Iff.rfl⟩ ?_ ?_
  · rintro s ρ M1 X hs ⟨⟨l, rfl⟩, f1', hC1, v, hAv, hwv, hv⟩ hX
    have hbs := hb s
    have hln := tLen_b hn2 (zTs_w hw s)
    have hhm := zhm_B (A := zTs A s) hn2 hQ
    have e0 : M1 ((148 : Nat) : Int) ((6 : Nat) : Int) = ((E : Nat) : Int) := (f1' _ _ (by omega)).trans hL0
    have hL1 : cLs M1 (tX (zTv A v)) E := by rw [zTv_X hv]; exact hL.to (fun b j q => f1' b j (by omega))
    have hEv : zcnt (tX (zTv A v)) 256 = E := by rw [zTv_X hv]; exact hE
    have hto := fun (K' : Option zV → zMem → Prop) (z : ∀ M', (∀ b j, ¬ b = ((x + 12 : Nat) : Int) → M' b j = M1 b j) → zTR M' x n (zTs (zTv A v) s) → K' none M') => c_tellOnly hO hS hx0 hx7 hAv hn2 hwv (s := s) (by omega) hL1 hEv hE9 (K := K') z
    rw [zTv_s hv] at hto
    rw [zsv_su] at hX
    clear hE hEv hk
    ((with_reducible refine i_turn (i_cI_lt (i_L7 (i_Shl (i_I (i_F (i_A0 ?_))))))); (with_reducible refine i_fld (by assumption) ?_); (rw [e0]); (rw [yshl_1 (show E < 31 by omega)]); (with_reducible refine i_t (by omega) ?_); (with_reducible refine i_Blk (i_Seq (i_sCall (i_as1 (i_A0 (i_as1 (i_A1 (i_as1 (i_L7 (i_as0 ?_)))))))))); (with_reducible refine i_recv0 (by assumption) ?_))
    refine hto _ (fun M2 f2 h2 => ⟨rfl, ?_⟩)
    clear hto
    ((with_reducible refine i_Seq (i_Set (i_Call (i_as1 (i_A2 (i_as1 (i_A1 (i_as0 ?_)))))))); (with_reducible refine i_recv0 (by assumption) ?_); simp only [w_set0, w_set1, w_setn0, w_setn1])
    refine c_measure hO hS hx0 (by omega) h2 hn2 (zTs_w hw s) (hC1.to (fun b j q => f2 b j (by omega))) (fun M3 f3 hT3 => ⟨_, rfl, ?_⟩)
    have h3 : zTR M3 x n (zTs A s) := h2.to (fun b j a1 a2 => f3 b j (by omega))
    have f31 : ∀ b j, ¬ (b = ((134 : Nat) : Int) ∧ (j = 6 ∨ j = 7) ∨ ((135 : Nat) : Int) ≤ b ∧ b ≤ ((146 : Nat) : Int) ∨ ((x + 11 : Nat) : Int) ≤ b ∧ b ≤ ((x + 12 : Nat) : Int)) → M3 b j = M b j := fun b j q => by rw [f3 b j (by omega), f2 b j (by omega), f1' b j q]
    have hnext : ∀ (l : zLoc) (M' : zMem) (x' : Int) (y z : Nat), (∃ u, x' = ((u : Nat) : Int) - 1 ∧ (u, y, z) = (if ((tLen n (zTs A s) : Nat) : Int) ≤ len ∧ ((zsv n A Q len s).1 = 0 ∨ zhm n (zTs A s) Q < (zsv n A Q len s).2.1 ∨ zhm n (zTs A s) Q = (zsv n A Q len s).2.1 ∧ tLen n (zTs A s) < (zsv n A Q len s).2.2) then (s + 1, zhm n (zTs A s) Q, tLen n (zTs A s)) else zsv n A Q len s)) → (∀ b j, ¬ (b = ((134 : Nat) : Int) ∧ (j = 6 ∨ j = 7) ∨ ((135 : Nat) : Int) ≤ b ∧ b ≤ ((146 : Nat) : Int) ∨ ((x + 11 : Nat) : Int) ≤ b ∧ b ≤ ((x + 12 : Nat) : Int)) → M' b j = M b j) → cSo M' → zTR M' x n (zTs A s) → X (((148 : Nat) : Int) :: ((x : Nat) : Int) :: ((134 : Nat) : Int) :: len :: x' :: ((y : Nat) : Int) :: ((z : Nat) : Int) :: ((s + 1 : Nat) : Int) :: l) M' := fun l M' x' y z ⟨u, hu, he⟩ hf hc hr => by
      subst hu
      refine hX _ _ ⟨⟨l, by rw [← he]⟩, hf, hc, fun a b => tv (zTs A s) a b, hr, zTs_w hw s, fun a b => zTs_0 A s a b⟩
    clear hX
    generalize tLen n (zTs A s) = w at hln hnext ⊢
    by_cases w1 : ((w : Nat) : Int) ≤ len
    · ((with_reducible refine i_If (i_cI_le ?_)); rw [w_setT]; (with_reducible refine i_L8 (i_L3 ?_)); (with_reducible refine i_t (by omega) ?_); (with_reducible refine i_Blk (i_Seq (i_Set (i_Call (i_as1 (i_A0 (i_as1 (i_A1 (i_as1 (i_A2 (i_as0 ?_))))))))))); (with_reducible refine i_recv0 (by assumption) ?_); simp only [w_set0, w_set1, w_setn0, w_setn1])
      refine c_harmBy hO hS hx0 hx7 h3.1.1 hn1 hn2 (zTs_w hw s) (hq.to (fun b j q => f31 b j (by omega))) hQ hT3 (fun M4 f4 hT4 => ⟨_, rfl, ?_⟩)
      have h4 : zTR M4 x n (zTs A s) := h3.to (fun b j a1 a2 => f4 b j (by omega))
      have f41 : ∀ b j, ¬ (b = ((134 : Nat) : Int) ∧ (j = 6 ∨ j = 7) ∨ ((135 : Nat) : Int) ≤ b ∧ b ≤ ((146 : Nat) : Int) ∨ ((x + 11 : Nat) : Int) ≤ b ∧ b ≤ ((x + 12 : Nat) : Int)) → M4 b j = M b j := fun b j q => by rw [f4 b j (by omega), f31 b j q]
      have hC4 := hT4.so
      generalize zhm n (zTs A s) Q = h at hhm hnext ⊢
      generalize zsv n A Q len s = st at hbs hnext ⊢
      obtain ⟨u, bh, bl⟩ := st
      dsimp only at hbs hnext ⊢
      by_cases e0 : u = 0
      · subst e0
        have e : ((w : Nat) : Int) ≤ len ∧ ((0 : Nat) = 0 ∨ h < bh ∨ h = bh ∧ w < bl) := ⟨w1, Or.inl rfl⟩
        ((with_reducible refine i_If (i_cOr (i_cOr (i_cI_eq (i_L4 (i_I ?_)))))); rw [w_setT]; (with_reducible refine i_t (by omega) ?_); (with_reducible refine i_Seq (i_Set (i_L7 (i_Seq (i_Set ?_))))); simp only [w_set0, w_set1, w_setn0, w_setn1]; (with_reducible refine i_L9 (i_Set ?_)); simp only [w_set0, w_set1, w_setn0, w_setn1]; (with_reducible refine i_L8 (i_up ?_)); simp only [w_set0, w_set1, w_setn0, w_setn1]; (with_reducible refine i_Inc7 ?_); rw [zx_inc (by omega)]; simp only [w_set0, w_set1, w_setn0, w_setn1])
        exact hnext _ _ _ _ _ ⟨s + 1, by omega, by rw [if_pos e]⟩ f41 hC4 h4
      · by_cases e1 : h < bh
        · have e : ((w : Nat) : Int) ≤ len ∧ (u = 0 ∨ h < bh ∨ h = bh ∧ w < bl) := ⟨w1, Or.inr (Or.inl e1)⟩
          ((with_reducible refine i_If (i_cOr (i_cOr (i_cI_eq (i_L4 (i_I ?_)))))); rw [w_setT]; (with_reducible refine i_f (by omega) ?_); (with_reducible refine i_cI_lt (i_L9 (i_L5 ?_))); (with_reducible refine i_t (by omega) ?_); (with_reducible refine i_Seq (i_Set (i_L7 (i_Seq (i_Set ?_))))); simp only [w_set0, w_set1, w_setn0, w_setn1]; (with_reducible refine i_L9 (i_Set ?_)); simp only [w_set0, w_set1, w_setn0, w_setn1]; (with_reducible refine i_L8 (i_up ?_)); simp only [w_set0, w_set1, w_setn0, w_setn1]; (with_reducible refine i_Inc7 ?_); rw [zx_inc (by omega)]; simp only [w_set0, w_set1, w_setn0, w_setn1])
          exact hnext _ _ _ _ _ ⟨s + 1, by omega, by rw [if_pos e]⟩ f41 hC4 h4
        · by_cases e2 : h = bh
          · by_cases e3 : w < bl
            · have e : ((w : Nat) : Int) ≤ len ∧ (u = 0 ∨ h < bh ∨ h = bh ∧ w < bl) := ⟨w1, Or.inr (Or.inr ⟨e2, e3⟩)⟩
              ((with_reducible refine i_If (i_cOr (i_cOr (i_cI_eq (i_L4 (i_I ?_)))))); rw [w_setT]; (with_reducible refine i_f (by omega) ?_); (with_reducible refine i_cI_lt (i_L9 (i_L5 ?_))); (with_reducible refine i_f (by omega) ?_); (with_reducible refine i_cAnd (i_cI_eq (i_L9 (i_L5 ?_)))); (with_reducible refine i_t (by omega) ?_); (with_reducible refine i_cI_lt (i_L8 (i_L6 ?_))); (with_reducible refine i_t (by omega) ?_); (with_reducible refine i_Seq (i_Set (i_L7 (i_Seq (i_Set ?_))))); simp only [w_set0, w_set1, w_setn0, w_setn1]; (with_reducible refine i_L9 (i_Set ?_)); simp only [w_set0, w_set1, w_setn0, w_setn1]; (with_reducible refine i_L8 (i_up ?_)); simp only [w_set0, w_set1, w_setn0, w_setn1]; (with_reducible refine i_Inc7 ?_); rw [zx_inc (by omega)]; simp only [w_set0, w_set1, w_setn0, w_setn1])
              exact hnext _ _ _ _ _ ⟨s + 1, by omega, by rw [if_pos e]⟩ f41 hC4 h4
            · have e : ¬ (((w : Nat) : Int) ≤ len ∧ (u = 0 ∨ h < bh ∨ h = bh ∧ w < bl)) := by omega
              ((with_reducible refine i_If (i_cOr (i_cOr (i_cI_eq (i_L4 (i_I ?_)))))); rw [w_setT]; (with_reducible refine i_f (by omega) ?_); (with_reducible refine i_cI_lt (i_L9 (i_L5 ?_))); (with_reducible refine i_f (by omega) ?_); (with_reducible refine i_cAnd (i_cI_eq (i_L9 (i_L5 ?_)))); (with_reducible refine i_t (by omega) ?_); (with_reducible refine i_cI_lt (i_L8 (i_L6 ?_))); (with_reducible refine i_f (by omega) ?_); (with_reducible refine i_up (i_Inc7 ?_)); rw [zx_inc (by omega)]; simp only [w_set0, w_set1, w_setn0, w_setn1])
              exact hnext _ _ _ _ _ ⟨u, rfl, by rw [if_neg e]⟩ f41 hC4 h4
          · have e : ¬ (((w : Nat) : Int) ≤ len ∧ (u = 0 ∨ h < bh ∨ h = bh ∧ w < bl)) := by omega
            ((with_reducible refine i_If (i_cOr (i_cOr (i_cI_eq (i_L4 (i_I ?_)))))); rw [w_setT]; (with_reducible refine i_f (by omega) ?_); (with_reducible refine i_cI_lt (i_L9 (i_L5 ?_))); (with_reducible refine i_f (by omega) ?_); (with_reducible refine i_cAnd (i_cI_eq (i_L9 (i_L5 ?_)))); (with_reducible refine i_f (by omega) ?_); (with_reducible refine i_up (i_Inc7 ?_)); rw [zx_inc (by omega)]; simp only [w_set0, w_set1, w_setn0, w_setn1])
            exact hnext _ _ _ _ _ ⟨u, rfl, by rw [if_neg e]⟩ f41 hC4 h4
    · have e : ¬ (((w : Nat) : Int) ≤ len ∧ ((zsv n A Q len s).1 = 0 ∨ zhm n (zTs A s) Q < (zsv n A Q len s).2.1 ∨ zhm n (zTs A s) Q = (zsv n A Q len s).2.1 ∧ w < (zsv n A Q len s).2.2)) := fun z => w1 z.1
      ((with_reducible refine i_If (i_cI_le ?_)); rw [w_setT]; (with_reducible refine i_L8 (i_L3 ?_)); (with_reducible refine i_f (by omega) ?_); (with_reducible refine i_up (i_Inc7 ?_)); rw [zx_inc (by omega)]; simp only [w_set0, w_set1, w_setn0, w_setn1])
      exact hnext _ _ _ _ _ ⟨_, rfl, by rw [if_neg e]⟩ f31 hT3.so h3
  · rintro ρ M1 X ⟨⟨l, rfl⟩, f1', hC1, v, hAv, hwv, hv⟩
    have hbs := hb (2 ^ E)
    have e0 : M1 ((148 : Nat) : Int) ((6 : Nat) : Int) = ((E : Nat) : Int) := (f1' _ _ (by omega)).trans hL0
    have hL1 : cLs M1 (tX (zTv A v)) E := by rw [zTv_X hv]; exact hL.to (fun b j q => f1' b j (by omega))
    have hEv : zcnt (tX (zTv A v)) 256 = E := by rw [zTv_X hv]; exact hE
    have hto := fun (s : Nat) (hs : s < 65536) (K' : Option zV → zMem → Prop) (z : ∀ M', (∀ b j, ¬ b = ((x + 12 : Nat) : Int) → M' b j = M1 b j) → zTR M' x n (zTs (zTv A v) s) → K' none M') => c_tellOnly hO hS hx0 hx7 hAv hn2 hwv (s := s) hs hL1 hEv hE9 (K := K') z
    clear hE hEv
    generalize zsv n A Q len (2 ^ E) = st at hbs hk ⊢
    obtain ⟨u, bh, bl⟩ := st
    dsimp only at hbs hk ⊢
    by_cases e1 : u = 0
    · subst e1
      rw [if_pos rfl, if_pos rfl] at hk
      ((with_reducible refine i_turn (i_cI_lt (i_L7 (i_Shl (i_I (i_F (i_A0 ?_))))))); (with_reducible refine i_fld (by assumption) ?_); (rw [e0]); (rw [yshl_1 (show E < 31 by omega)]); (with_reducible refine i_f (by omega) ?_); (with_reducible refine i_Seq (i_If (i_cI_eq (i_L4 (i_I ?_))))); (with_reducible refine i_t (by omega) ?_); (with_reducible refine i_Seq (i_sCall (i_as1 (i_FR (i_A1 ?_))))); (with_reducible refine i_fldR (by assumption) ?_); (with_reducible refine i_as1 (i_FR (i_A0 ?_))); (with_reducible refine i_fldR (by assumption) ?_); (with_reducible refine i_as0 ?_); (with_reducible refine i_recv0 (by assumption) ?_))
      refine s_Net_become hO n11 y3 (hB.to (fun b j a1 a2 => f1' b j (by omega))) (fun M2 f2 h2 => ⟨rfl, ?_⟩)
      have fr2 : ∀ b j, ¬ (((x + 11 : Nat) : Int) ≤ b ∧ b ≤ ((x + 12 : Nat) : Int)) → M2 b j = M1 b j := fun b j q => by rw [f2 b (by simp <;> omega)]
      (with_reducible refine i_RetI (i_I ?_))
      exact hk M2 (fun b j q => by rw [fr2 b j (by omega), f1' b j q]) (hC1.to (fun b j q => fr2 b j (by omega))) (zTR.back hAv hv fr2 h2)
    · rw [if_neg e1, if_neg e1] at hk
      rw [show (((u : Nat) : Int) - 1 : Int) = ((u - 1 : Nat) : Int) by omega]
      ((with_reducible refine i_turn (i_cI_lt (i_L7 (i_Shl (i_I (i_F (i_A0 ?_))))))); (with_reducible refine i_fld (by assumption) ?_); (rw [e0]); (rw [yshl_1 (show E < 31 by omega)]); (with_reducible refine i_f (by omega) ?_); (with_reducible refine i_Seq (i_If (i_cI_eq (i_L4 (i_I ?_))))); (with_reducible refine i_f (by omega) ?_); (with_reducible refine i_Seq (i_sCall (i_as1 (i_A0 (i_as1 (i_A1 (i_as1 (i_L4 (i_as0 ?_))))))))); (with_reducible refine i_recv0 (by assumption) ?_))
      refine hto (u - 1) (by omega) _ (fun M2 f2 h2 => ⟨rfl, ?_⟩)
      rw [zTv_s hv] at h2
      (with_reducible refine i_RetI (i_L5 ?_))
      exact hk M2 (fun b j q => by rw [f2 b j (by omega), f1' b j q]) (hC1.to (fun b j q => f2 b j (by omega))) h2
end
section
-- part g5.mstep.lean.txt
/-! ===== served step by step: what both compute; the reference ===== -/
theorem zTs_z (A : zTl) (a b : Nat) : tv (zTs A 0) a b = if tv A a b = 0 then 0 else 2 := by
  rw [zTs_v, Nat.zero_testBit]
  rfl
/-- of the first cells, the best to tell besides: its harm, its cell and 1 -/
def zst (n : Nat) (B : zTl) (Q : zQl) (len : Int) (h : Nat) : Nat → Nat × Nat
  | 0 => (h, 0)
  | c + 1 => if tv B (c / 16) (c % 16) = 2 ∧ ((tLen n (zTv B (zv1 B c 1)) : Nat) : Int) ≤ len ∧ zhm n (zTv B (zv1 B c 1)) Q < (zst n B Q len h c).1 then (zhm n (zTv B (zv1 B c 1)) Q, c + 1) else zst n B Q len h c
theorem zst_su (n : Nat) (B : zTl) (Q : zQl) (len : Int) (h c : Nat) : zst n B Q len h (c + 1) = if tv B (c / 16) (c % 16) = 2 ∧ ((tLen n (zTv B (zv1 B c 1)) : Nat) : Int) ≤ len ∧ zhm n (zTv B (zv1 B c 1)) Q < (zst n B Q len h c).1 then (zhm n (zTv B (zv1 B c 1)) Q, c + 1) else zst n B Q len h c := rfl
theorem zst_in (n : Nat) (B : zTl) (Q : zQl) (len : Int) (h c : Nat) : (zst n B Q len h c).1 ≤ h ∧ (zst n B Q len h c).2 ≤ c ∧ ((zst n B Q len h c).2 = 0 → (zst n B Q len h c).1 = h) ∧ ((zst n B Q len h c).2 ≠ 0 → tv B (((zst n B Q len h c).2 - 1) / 16) (((zst n B Q len h c).2 - 1) % 16) = 2) := by
  induction c with
  | zero => exact ⟨Nat.le_refl _, Nat.le_refl _, fun _ => rfl, fun z => absurd rfl z⟩
  | succ c ih =>
    obtain ⟨i1, i2, i3, i4⟩ := ih
    rw [zst_su]
    by_cases e : tv B (c / 16) (c % 16) = 2 ∧ ((tLen n (zTv B (zv1 B c 1)) : Nat) : Int) ≤ len ∧ zhm n (zTv B (zv1 B c 1)) Q < (zst n B Q len h c).1
    · rw [if_pos e]
      exact ⟨Nat.le_of_lt (Nat.lt_of_lt_of_le e.2.2 i1), Nat.le_refl _, fun z => absurd z (Nat.succ_ne_zero c), fun _ => e.1⟩
    · rw [if_neg e]
      exact ⟨i1, Nat.le_succ_of_le i2, i3, i4⟩
/-- one step -/
def zse (n : Nat) (Q : zQl) (len : Int) (s : zTl × Nat) : zTl × Nat := if (zst n s.1 Q len s.2 256).2 = 0 then s else (zTv s.1 (zv1 s.1 ((zst n s.1 Q len s.2 256).2 - 1) 1), (zst n s.1 Q len s.2 256).1)
/-- the steps -/
def zsi (n : Nat) (Q : zQl) (len : Int) (s : zTl × Nat) : Nat → zTl × Nat
  | 0 => s
  | k + 1 => zse n Q len (zsi n Q len s k)
theorem zsi_su (n : Nat) (Q : zQl) (len : Int) (s : zTl × Nat) (k : Nat) : zsi n Q len s (k + 1) = zse n Q len (zsi n Q len s k) := rfl
/-- no step goes further -/
def zfx (n : Nat) (Q : zQl) (len : Int) (s : zTl × Nat) : Prop := (zst n s.1 Q len s.2 256).2 = 0
theorem zsi_fx {n : Nat} {Q : zQl} {len : Int} {s : zTl × Nat} {m : Nat} (h : zfx n Q len (zsi n Q len s m)) (j : Nat) : zsi n Q len s (m + j) = zsi n Q len s m := by
  induction j with
  | zero => rfl
  | succ j ih =>
    show zse n Q len (zsi n Q len s (m + j)) = _
    rw [ih]
    exact if_pos h
def zlc (B : zTl) : Nat := zcnt (fun c => decide (tv B (c / 16) (c % 16) = 2)) 256
theorem zse_w {n : Nat} {Q : zQl} {len : Int} {s : zTl × Nat} (hw : zTw n s.1) : zTw n (zse n Q len s).1 ∧ tX (zse n Q len s).1 = tX s.1 ∧ (zse n Q len s).2 ≤ s.2 := by
  unfold zse
  obtain ⟨i1, i2, i3, i4⟩ := zst_in n s.1 Q len s.2 256
  by_cases e : (zst n s.1 Q len s.2 256).2 = 0
  · rw [if_pos e]; exact ⟨hw, rfl, Nat.le_refl _⟩
  · rw [if_neg e]
    have h2 := i4 e
    have hX : tX s.1 ((zst n s.1 Q len s.2 256).2 - 1) = true := decide_eq_true (by rw [h2]; decide)
    exact ⟨zv1_w hw hX (by decide), tX_zv1 hX (by decide), i1⟩
theorem zse_lc {n : Nat} {Q : zQl} {len : Int} {s : zTl × Nat} (h : ¬ zfx n Q len s) : zlc (zse n Q len s).1 < zlc s.1 := by
  obtain ⟨i1, i2, i3, i4⟩ := zst_in n s.1 Q len s.2 256
  have e : ¬ (zst n s.1 Q len s.2 256).2 = 0 := h
  have h2 := i4 e
  unfold zse
  rw [if_neg e]
  generalize (zst n s.1 Q len s.2 256).2 = u at i2 e h2 ⊢
  unfold zlc
  refine zcnt_sub1 (i := u - 1) (fun c _ hc => ?_) (by omega) ?_ (decide_eq_true h2)
  · have hc2 : zv1 s.1 (u - 1) 1 (c / 16) (c % 16) = 2 := of_decide_eq_true hc
    unfold zv1 at hc2
    by_cases z : 16 * (c / 16) + c % 16 = u - 1 ∧ c % 16 < 16
    · rw [if_pos z] at hc2; exact absurd hc2 (by decide)
    · rw [if_neg z] at hc2; exact decide_eq_true hc2
  · have : zv1 s.1 (u - 1) 1 ((u - 1) / 16) ((u - 1) % 16) = 1 := by
      unfold zv1
      rw [if_pos (by omega)]
    refine decide_eq_false (fun z => ?_)
    have z' : zv1 s.1 (u - 1) 1 ((u - 1) / 16) ((u - 1) % 16) = 2 := z
    rw [this] at z'
    exact absurd z' (by decide)
theorem zsi_w {n : Nat} {Q : zQl} {len : Int} {s : zTl × Nat} (hw : zTw n s.1) (k : Nat) : zTw n (zsi n Q len s k).1 ∧ tX (zsi n Q len s k).1 = tX s.1 ∧ (zsi n Q len s k).2 ≤ s.2 := by
  induction k with
  | zero => exact ⟨hw, rfl, Nat.le_refl _⟩
  | succ k ih =>
    obtain ⟨i1, i2, i3⟩ := ih
    obtain ⟨j1, j2, j3⟩ := zse_w (Q := Q) (len := len) i1
    rw [zsi_su]
    exact ⟨j1, j2.trans i2, Nat.le_trans j3 i3⟩
theorem zsi_stop {n E : Nat} {Q : zQl} {len : Int} {s : zTl × Nat} (h : zlc s.1 ≤ E) : ∃ m, m ≤ E ∧ zfx n Q len (zsi n Q len s m) ∧ ∀ k, k < m → ¬ zfx n Q len (zsi n Q len s k) := by
  have key : ∀ j, (∃ m, m < j ∧ zfx n Q len (zsi n Q len s m) ∧ ∀ k, k < m → ¬ zfx n Q len (zsi n Q len s k)) ∨ ((∀ k, k < j → ¬ zfx n Q len (zsi n Q len s k)) ∧ zlc (zsi n Q len s j).1 + j ≤ E) := by
    intro j
    induction j with
    | zero => exact Or.inr ⟨fun k hk => absurd hk (Nat.not_lt_zero _), (show zlc s.1 + 0 ≤ E from Nat.le_trans (Nat.le_of_eq (Nat.add_zero _)) h)⟩
    | succ j ih =>
      rcases ih with ⟨m, m1, m2, m3⟩ | ⟨i1, i2⟩
      · exact Or.inl ⟨m, Nat.lt_succ_of_lt m1, m2, m3⟩
      · by_cases e : zfx n Q len (zsi n Q len s j)
        · exact Or.inl ⟨j, Nat.lt_succ_self j, e, i1⟩
        · have hl := zse_lc e
          refine Or.inr ⟨fun k hk => ?_, ?_⟩
          · by_cases z : k = j
            · rw [z]; exact e
            · exact i1 k (by omega)
          · rw [zsi_su]; omega
  rcases key (E + 1) with ⟨m, m1, m2, m3⟩ | ⟨_, i2⟩
  · exact ⟨m, by omega, m2, m3⟩
  · omega
theorem zlc_z (A : zTl) : zlc (zTs A 0) = zcnt (tX A) 256 := by
  unfold zlc
  refine zcnt_ext fun c _ => ?_
  show decide (tv (zTs A 0) (c / 16) (c % 16) = 2) = decide (tv A (c / 16) (c % 16) ≠ 0)
  rw [zTs_z]
  by_cases e : tv A (c / 16) (c % 16) = 0
  · rw [if_pos e, e]; rfl
  · rw [if_neg e, decide_eq_true e]; rfl
/-- served by steps: the telling and the harm -/
def zsw2 (n : Nat) (A : zTl) (Q : zQl) (len : Int) : zTl × Nat := zsi n Q len (zTs A 0, zhm n (zTs A 0) Q) (zcnt (tX A) 256)
theorem zsw2_stop (n : Nat) (A : zTl) (Q : zQl) (len : Int) : ∃ m, m ≤ zcnt (tX A) 256 ∧ zfx n Q len (zsi n Q len (zTs A 0, zhm n (zTs A 0) Q) m) ∧ (∀ k, k < m → ¬ zfx n Q len (zsi n Q len (zTs A 0, zhm n (zTs A 0) Q) k)) ∧ zsw2 n A Q len = zsi n Q len (zTs A 0, zhm n (zTs A 0) Q) m := by
  obtain ⟨m, m1, m2, m3⟩ := zsi_stop (n := n) (Q := Q) (len := len) (s := (zTs A 0, zhm n (zTs A 0) Q)) (Nat.le_of_eq (zlc_z A))
  refine ⟨m, m1, m2, m3, ?_⟩
  have := zsi_fx m2 (zcnt (tX A) 256 - m)
  rw [show m + (zcnt (tX A) 256 - m) = zcnt (tX A) 256 from Nat.add_sub_cancel' m1] at this
  exact this
end
section
-- part g6.mmany.lean.txt
/-! ===== served step by step: the reference ===== -/
theorem m_serveMany {O : zOm} (hO : zWld O) (hS : zS O = zmS zC0) {t n E : Nat} {len : Int} {A : zTl} {Q : zQl} {M : zMem} {K : Option zV → zMem → Prop} (ht : t < 7) (hn : M 250 ((1 : Nat) : Int) = ((n : Nat) : Int)) (hn2 : n ≤ 16) (hA : rTe M t n A) (hw : zTw n A) (hq : rQs M Q) (hQ : zQs n Q)
    (hk : ∀ M', (∀ b j, ¬ (b = 250 ∧ j = 52 ∨ b = ((266 : Nat) : Int) ∧ ((256 * t : Nat) : Int) ≤ j ∧ j < ((256 * t + 256 : Nat) : Int) ∨ ((268 : Nat) : Int) ≤ b ∧ b ≤ ((270 : Nat) : Int) ∨ ((288 : Nat) : Int) ≤ b ∧ b ≤ ((290 : Nat) : Int)) → M' b j = M b j) → (¬ len < ((tLen n (zTs A 0) : Nat) : Int) → rTe M' t n (zsw2 n A Q len).1) → K (some (0, if len < ((tLen n (zTs A 0) : Nat) : Int) then -2 else (((zsw2 n A Q len).2 : Nat) : Int))) M') : zR O F_Model_serveMany [(2, 250), (0, ((t : Nat) : Int)), (0, len), (0, ((E : Nat) : Int))] M K := by
  have gv : ∀ c : Nat, c < 256 → M ((266 : Nat) : Int) ((256 * t + c : Nat) : Int) = ((tv A (c / 16) (c % 16) : Nat) : Int) := fun c hc => by
    have := hA.2.2.2 (c / 16) (c % 16) (by omega) (by omega)
    rwa [show 256 * t + 16 * (c / 16) + c % 16 = 256 * t + c by omega] at this
  have hw0 := zTs_w hw 0
  have hln0 := tLen_b hn2 hw0
  have hhm0 := zhm_B (A := zTs A 0) hn2 hQ
  apply r_Model_serveMany hO
  unfold B_Model_serveMany
  have f20 := zMF (k := 20) hS rfl; have a266 := zMA (a := 266) (ty := .int) (n := 1792) hS rfl; have zo := zMO hS
  ((with_reducible refine i_Seq (i_Blk (i_Seq (i_Set (i_I ?_))))); simp only [w_set0, w_set1, w_setn0, w_setn1])
  refine w_ForN 256 (fun c ρ M' => (∃ l, ρ = 250 :: ((t : Nat) : Int) :: len :: ((E : Nat) : Int) :: ((c : Nat) : Int) :: l) ∧ (∀ b j, ¬ (b = ((266 : Nat) : Int) ∧ ((256 * t : Nat) : Int) ≤ j ∧ j < ((256 * t + 256 : Nat) : Int)) → M' b j = M b j) ∧ ∀ d : Nat, d < 256 → M' ((266 : Nat) : Int) ((256 * t + d : Nat) : Int) = ((if d < c then (if tv A (d / 16) (d % 16) = 0 then 0 else 2) else tv A (d / 16) (d % 16) : Nat) : Int)) ⟨⟨_, rfl⟩, fun _ _ _ => rfl, fun d hd => by rw [if_neg (Nat.not_lt_zero _)]; exact gv d hd⟩ ?_ ?_
  · rintro c ρ M1 X hc ⟨⟨l, rfl⟩, f1', h1⟩ hX
    have g := h1 c hc
    rw [if_neg (Nat.lt_irrefl _)] at g
    have hst : ∀ (d x y : Nat), d ≠ c → (if d < c then x else y) = (if d < c + 1 then x else y) := fun d x y hne => by
      by_cases w : d < c
      · rw [if_pos w, if_pos (by omega)]
      · rw [if_neg w, if_neg (by omega)]
    by_cases e : tv A (c / 16) (c % 16) = 0
    · rw [e] at g
      ((with_reducible refine i_turn (i_cI_lt (i_L4 (i_I ?_)))); (with_reducible refine i_t (by omega) ?_); (with_reducible refine i_If (i_cZ_ne (i_IA (i_FR (i_A0 ?_))))); (with_reducible refine i_fldR (by assumption) ?_); (with_reducible refine i_Add (i_Mul (i_I (i_L1 (i_L4 ?_))))); rw [zx_cmul (by omega)]; rw [zx_add (by omega)]; (with_reducible refine i_in (by assumption) (by omega) (by omega) ?_); (rw [g]); (with_reducible refine i_f (by omega) ?_); (with_reducible refine i_up (i_Inc4 ?_)); rw [zx_inc (by omega)]; simp only [w_set0, w_set1, w_setn0, w_setn1])
      refine hX _ _ ⟨⟨_, rfl⟩, f1', fun d hd => ?_⟩
      by_cases z : d = c
      · rw [z, g, if_pos (by omega), if_pos e]
      · rw [h1 d hd, hst d _ _ z]
    · clear hk gv
      ((with_reducible refine i_turn (i_cI_lt (i_L4 (i_I ?_)))); (with_reducible refine i_t (by omega) ?_); (with_reducible refine i_If (i_cZ_ne (i_IA (i_FR (i_A0 ?_))))); (with_reducible refine i_fldR (by assumption) ?_); (with_reducible refine i_Add (i_Mul (i_I (i_L1 (i_L4 ?_))))); rw [zx_cmul (by omega)]; rw [zx_add (by omega)]; (with_reducible refine i_in (by assumption) (by omega) (by omega) ?_); (rw [g]); ((with_reducible refine i_t (show (((tv A (c / 16) (c % 16) : Nat) : Int) : Int) ≠ 0 by omega) ?_)); (with_reducible refine i_sIA (i_FR (i_A0 ?_))); (with_reducible refine i_fldR (by assumption) ?_); (with_reducible refine i_Add (i_Mul (i_I (i_L1 (i_L4 (i_I ?_)))))); rw [zx_cmul (by omega)]; rw [zx_add (by omega)]; (with_reducible refine i_in (by assumption) (by omega) (by omega) ?_); (with_reducible refine i_up (i_Inc4 ?_)); rw [zx_inc (by omega)]; simp only [w_set0, w_set1, w_setn0, w_setn1])
      refine hX _ _ ⟨⟨_, rfl⟩, fun b j q => by rw [zg_o _ _ (by omega)]; exact f1' b j q, fun d hd => ?_⟩
      by_cases z : d = c
      · rw [z, zg_s, if_pos (by omega), if_neg e]
        try rfl
      · rw [zg_m _ _ _ _ _ (by omega), h1 d hd, hst d _ _ z]
  · rintro ρ M1 X ⟨⟨l, rfl⟩, f1', h1⟩
    have hA1 : rTe M1 t n (zTs A 0) := rTe.cells ht hA f1' (fun c hc => by rw [h1 c hc, if_pos hc, ← zTs_z]; rfl)
    clear h1 gv
    ((with_reducible refine i_turn (i_cI_lt (i_L4 (i_I ?_)))); (with_reducible refine i_f (by omega) ?_); (with_reducible refine i_Seq (i_If (i_cI_gt (i_Call (i_as1 (i_A0 (i_as1 (i_L1 (i_as0 ?_))))))))); (with_reducible refine i_recv0 (by assumption) ?_))
    refine m_lengthOf hO hS ht (show M1 250 ((1 : Nat) : Int) = ((n : Nat) : Int) by rw [f1' _ _ (by omega)]; exact hn) hn2 hA1 hw0 (fun M2 f2 _ _ => ⟨_, rfl, ?_⟩)
    have hA2 : rTe M2 t n (zTs A 0) := hA1.to hn2 hw0 (fun b j q => f2 b j (by omega))
    have f21 : ∀ b j, ¬ (b = 250 ∧ j = 52 ∨ b = ((266 : Nat) : Int) ∧ ((256 * t : Nat) : Int) ≤ j ∧ j < ((256 * t + 256 : Nat) : Int) ∨ ((268 : Nat) : Int) ≤ b ∧ b ≤ ((270 : Nat) : Int) ∨ ((288 : Nat) : Int) ≤ b ∧ b ≤ ((290 : Nat) : Int)) → M2 b j = M b j := fun b j q => by rw [f2 b j (by omega), f1' b j (by omega)]
    clear f1' f2 hA1
    by_cases w0 : len < ((tLen n (zTs A 0) : Nat) : Int)
    · rw [if_pos w0] at hk
      generalize tLen n (zTs A 0) = v at hln0 w0 hk ⊢
      ((with_reducible refine i_L2 ?_); (with_reducible refine i_t (by omega) ?_); (with_reducible refine i_RetI (i_I ?_)))
      exact hk M2 f21 (fun z => absurd w0 z)
    · rw [if_neg w0] at hk
      have hk2 := fun M' f r => hk M' f (fun _ => r)
      clear hk
      generalize tLen n (zTs A 0) = v at hln0 w0 ⊢
      ((with_reducible refine i_L2 ?_); (with_reducible refine i_f (by omega) ?_); (with_reducible refine i_Seq (i_Set (i_Call (i_as1 (i_A0 (i_as1 (i_L1 (i_as0 ?_)))))))); (with_reducible refine i_recv0 (by assumption) ?_); simp only [w_set0, w_set1, w_setn0, w_setn1])
      refine m_harmOf hO hS ht (show M2 250 ((1 : Nat) : Int) = ((n : Nat) : Int) by rw [f21 _ _ (by omega)]; exact hn) hn2 hA2 hw0 (hq.to (fun b j q => f21 b j (by omega))) hQ (fun M3 f3 => ⟨_, rfl, ?_⟩)
      have hA3 : rTe M3 t n (zTs A 0) := hA2.to hn2 hw0 (fun b j q => f3 b j (by omega))
      have f31 : ∀ b j, ¬ (b = 250 ∧ j = 52 ∨ b = ((266 : Nat) : Int) ∧ ((256 * t : Nat) : Int) ≤ j ∧ j < ((256 * t + 256 : Nat) : Int) ∨ ((268 : Nat) : Int) ≤ b ∧ b ≤ ((270 : Nat) : Int) ∨ ((288 : Nat) : Int) ≤ b ∧ b ≤ ((290 : Nat) : Int)) → M3 b j = M b j := fun b j q => by rw [f3 b j (by omega), f21 b j q]
      clear f3 f21 hA2 hA
      obtain ⟨m, -, m2, m3, m4⟩ := zsw2_stop n A Q len
      rw [m4] at hk2
      clear m4
      have hall := fun k => zsi_w (n := n) (Q := Q) (len := len) (s := (zTs A 0, zhm n (zTs A 0) Q)) hw0 k
      have ha3 : rTe M3 t n (zsi n Q len (zTs A 0, zhm n (zTs A 0) Q) 0).1 := hA3
      have hd0 : (((zhm n (zTs A 0) Q : Nat) : Int) : Int) = (((zsi n Q len (zTs A 0, zhm n (zTs A 0) Q) 0).2 : Nat) : Int) := rfl
      rw [hd0]
      have hbd : ∀ k, (zsi n Q len (zTs A 0, zhm n (zTs A 0) Q) k).2 ≤ 6000000 := fun k => Nat.le_trans (hall k).2.2 hhm0
      have hwk : ∀ k, zTw n (zsi n Q len (zTs A 0, zhm n (zTs A 0) Q) k).1 := fun k => (hall k).1
      clear hd0 hall hA3 hhm0 hln0 w0 v hw0
      generalize (zTs A 0, zhm n (zTs A 0) Q) = s0 at hk2 m2 m3 ha3 hbd hwk ⊢
      ((with_reducible refine i_Seq (i_Set (i_I (i_Seq ?_)))); simp only [w_set0, w_set1, w_setn0, w_setn1]; rw [w_setT])
      refine w_WhileN (m + 1) (fun k ρ M' => (∃ l, ρ = 250 :: ((t : Nat) : Int) :: len :: ((E : Nat) : Int) :: (((zsi n Q len s0 k).2 : Nat) : Int) :: zbI (decide (k ≤ m)) :: l) ∧ (∀ b j, ¬ (b = 250 ∧ j = 52 ∨ b = ((266 : Nat) : Int) ∧ ((256 * t : Nat) : Int) ≤ j ∧ j < ((256 * t + 256 : Nat) : Int) ∨ ((268 : Nat) : Int) ≤ b ∧ b ≤ ((270 : Nat) : Int) ∨ ((288 : Nat) : Int) ≤ b ∧ b ≤ ((290 : Nat) : Int)) → M' b j = M b j) ∧ rTe M' t n (zsi n Q len s0 k).1) ⟨⟨_, by rw [decide_eq_true (Nat.zero_le m)]; rfl⟩, f31, ha3⟩ ?_ ?_
      · clear ha3 f31
        rintro k ρ M4 X hkm ⟨⟨l, rfl⟩, f4, h4⟩ hX
        rw [decide_eq_true (show k ≤ m by omega)]
        have hwB := hwk k
        have hhB := hbd k
        have hnext : decide (k + 1 ≤ m) = decide ((zst n (zsi n Q len s0 k).1 Q len (zsi n Q len s0 k).2 256).2 ≠ 0) := by
          by_cases z : k = m
          · rw [z, decide_eq_false (Nat.not_succ_le_self m), decide_eq_false (fun y : (zst n (zsi n Q len s0 m).1 Q len (zsi n Q len s0 m).2 256).2 ≠ 0 => y m2)]
          · rw [decide_eq_true (show k + 1 ≤ m by omega), decide_eq_true (show (zst n (zsi n Q len s0 k).1 Q len (zsi n Q len s0 k).2 256).2 ≠ 0 from m3 k (by omega))]
        rw [zsi_su, hnext] at hX
        clear hnext m2 m3 hk2 hwk hbd hkm
        generalize zsi n Q len s0 k = s at h4 hX hwB hhB ⊢
        obtain ⟨B, h⟩ := s
        dsimp only at h4 hwB hhB ⊢
        clear s0 m
        have hzi := fun c => zst_in n B Q len h c
        ((with_reducible refine i_turn (i_cZ_ne (i_L5 ?_))); rw [zbI_t]; (with_reducible refine i_t (by omega) ?_); (with_reducible refine i_Blk (i_Seq (i_Set (i_L4 (i_Seq (i_Set (i_I (i_Seq (i_Blk (i_Seq (i_Set (i_I ?_)))))))))))); simp only [w_set0, w_set1, w_setn0, w_setn1]; rw [w_setT]; simp only [w_set0, w_set1, w_setn0, w_setn1]; rw [w_setT]; simp only [w_set0, w_set1, w_setn0, w_setn1]; rw [w_setT])
        refine w_ForN 256 (fun c ρ M' => (∃ l, ρ = 250 :: ((t : Nat) : Int) :: len :: ((E : Nat) : Int) :: ((h : Nat) : Int) :: 1 :: (((zst n B Q len h c).1 : Nat) : Int) :: ((((zst n B Q len h c).2 : Nat) : Int) - 1) :: ((c : Nat) : Int) :: l) ∧ (∀ b j, ¬ (b = 250 ∧ j = 52 ∨ b = ((266 : Nat) : Int) ∧ ((256 * t : Nat) : Int) ≤ j ∧ j < ((256 * t + 256 : Nat) : Int) ∨ ((268 : Nat) : Int) ≤ b ∧ b ≤ ((270 : Nat) : Int) ∨ ((288 : Nat) : Int) ≤ b ∧ b ≤ ((290 : Nat) : Int)) → M' b j = M b j) ∧ rTe M' t n B) ⟨⟨_, rfl⟩, f4, h4⟩ ?_ ?_
        · clear hX f4 h4
          rintro c ρ M5 X2 hc ⟨⟨l2, rfl⟩, f5, h5⟩ hX2
          have g : M5 ((266 : Nat) : Int) ((256 * t + c : Nat) : Int) = ((tv B (c / 16) (c % 16) : Nat) : Int) := by
            have := h5.2.2.2 (c / 16) (c % 16) (by omega) (by omega)
            rwa [show 256 * t + 16 * (c / 16) + c % 16 = 256 * t + c by omega] at this
          rw [zst_su] at hX2
          obtain ⟨i1, i2, -, -⟩ := hzi c
          by_cases e : tv B (c / 16) (c % 16) = 2
          · have hXc : tX B c = true := decide_eq_true (by rw [e]; decide)
            have hw1 := zv1_w hwB hXc (show 1 ≤ 2 by decide)
            have hln := tLen_b hn2 hw1
            have hhm := zhm_B (A := zTv B (zv1 B c 1)) hn2 hQ
            have hbk := zv1_bk hc e
            have h6 : rTe (zput M5 ((266 : Nat) : Int) (zup (M5 ((266 : Nat) : Int)) ((256 * t + c : Nat) : Int) 1)) t n (zTv B (zv1 B c 1)) := rTe.up (x := 1) ht hc h5
            have f6 : ∀ b j, ¬ (b = 250 ∧ j = 52 ∨ b = ((266 : Nat) : Int) ∧ ((256 * t : Nat) : Int) ≤ j ∧ j < ((256 * t + 256 : Nat) : Int) ∨ ((268 : Nat) : Int) ≤ b ∧ b ≤ ((270 : Nat) : Int) ∨ ((288 : Nat) : Int) ≤ b ∧ b ≤ ((290 : Nat) : Int)) → zput M5 ((266 : Nat) : Int) (zup (M5 ((266 : Nat) : Int)) ((256 * t + c : Nat) : Int) 1) b j = M b j := fun b j q => by rw [zg_o _ _ (by omega)]; exact f5 b j q
            rw [e] at g
            ((with_reducible refine i_turn (i_cI_lt (i_L8 (i_I ?_)))); (with_reducible refine i_t (by omega) ?_); (with_reducible refine i_Seq (i_IfBrk (i_cI_ne (i_IA (i_FR (i_A0 ?_)))))); (with_reducible refine i_fldR (by assumption) ?_); (with_reducible refine i_Add (i_Mul (i_I (i_L1 (i_L8 ?_))))); rw [zx_cmul (by omega)]; rw [zx_add (by omega)]; (with_reducible refine i_in (by assumption) (by omega) (by omega) ?_); (with_reducible refine i_I ?_); (rw [g]); (with_reducible refine i_f (by omega) ?_); (with_reducible refine i_Seq (i_sIA (i_FR (i_A0 ?_)))); (with_reducible refine i_fldR (by assumption) ?_); (with_reducible refine i_Add (i_Mul (i_I (i_L1 (i_L8 (i_I ?_)))))); rw [zx_cmul (by omega)]; rw [zx_add (by omega)]; (with_reducible refine i_in (by assumption) (by omega) (by omega) ?_); (with_reducible refine i_Seq (i_If (i_cI_le (i_Call (i_as1 (i_A0 (i_as1 (i_L1 (i_as0 ?_))))))))); (with_reducible refine i_recv0 (by assumption) ?_))
            generalize zput M5 ((266 : Nat) : Int) (zup (M5 ((266 : Nat) : Int)) ((256 * t + c : Nat) : Int) 1) = M6 at h6 f6 ⊢
            refine m_lengthOf hO hS ht (show M6 250 ((1 : Nat) : Int) = ((n : Nat) : Int) by rw [f6 _ _ (by omega)]; exact hn) hn2 h6 hw1 (fun M7 f7 _ _ => ⟨_, rfl, ?_⟩)
            have h7 : rTe M7 t n (zTv B (zv1 B c 1)) := h6.to hn2 hw1 (fun b j q => f7 b j (by omega))
            have f71 : ∀ b j, ¬ (b = 250 ∧ j = 52 ∨ b = ((266 : Nat) : Int) ∧ ((256 * t : Nat) : Int) ≤ j ∧ j < ((256 * t + 256 : Nat) : Int) ∨ ((268 : Nat) : Int) ≤ b ∧ b ≤ ((270 : Nat) : Int) ∨ ((288 : Nat) : Int) ≤ b ∧ b ≤ ((290 : Nat) : Int)) → M7 b j = M b j := fun b j q => by rw [f7 b j (by omega), f6 b j q]
            have hnx : ∀ (l : zLoc) (M' : zMem) (x : Int) (y : Nat) (u : Nat), x = ((u : Nat) : Int) - 1 → (y, u) = (if tv B (c / 16) (c % 16) = 2 ∧ ((tLen n (zTv B (zv1 B c 1)) : Nat) : Int) ≤ len ∧ zhm n (zTv B (zv1 B c 1)) Q < (zst n B Q len h c).1 then (zhm n (zTv B (zv1 B c 1)) Q, c + 1) else zst n B Q len h c) → (∀ b j, ¬ (b = 250 ∧ j = 52 ∨ b = ((266 : Nat) : Int) ∧ ((256 * t : Nat) : Int) ≤ j ∧ j < ((256 * t + 256 : Nat) : Int) ∨ ((268 : Nat) : Int) ≤ b ∧ b ≤ ((270 : Nat) : Int) ∨ ((288 : Nat) : Int) ≤ b ∧ b ≤ ((290 : Nat) : Int)) → M' b j = M b j) → rTe M' t n (zTv B (zv1 B c 1)) → X2 (250 :: ((t : Nat) : Int) :: len :: ((E : Nat) : Int) :: ((h : Nat) : Int) :: 1 :: ((y : Nat) : Int) :: x :: ((c + 1 : Nat) : Int) :: l) (zput M' ((266 : Nat) : Int) (zup (M' ((266 : Nat) : Int)) ((256 * t + c : Nat) : Int) 2)) := fun l M' x y u hx he hf hr => by
              subst hx
              refine hX2 _ _ ⟨⟨l, by rw [← he]⟩, fun b j q => by rw [zg_o _ _ (by omega)]; exact hf b j q, ?_⟩
              have := rTe.up (x := 2) ht hc hr
              rw [hbk] at this
              exact this
            clear hX2 f7 f6 h6 f5 h5 hbk
            generalize tLen n (zTv B (zv1 B c 1)) = v at hln hnx ⊢
            by_cases w1 : ((v : Nat) : Int) ≤ len
            · ((with_reducible refine i_L2 ?_); (with_reducible refine i_t (by omega) ?_); (with_reducible refine i_Blk (i_Seq (i_Set (i_Call (i_as1 (i_A0 (i_as1 (i_L1 (i_as0 ?_))))))))); (with_reducible refine i_recv0 (by assumption) ?_); simp only [w_set0, w_set1, w_setn0, w_setn1])
              refine m_harmOf hO hS ht (show M7 250 ((1 : Nat) : Int) = ((n : Nat) : Int) by rw [f71 _ _ (by omega)]; exact hn) hn2 h7 hw1 (hq.to (fun b j q => f71 b j (by omega))) hQ (fun M8 f8 => ⟨_, rfl, ?_⟩)
              have h8 : rTe M8 t n (zTv B (zv1 B c 1)) := h7.to hn2 hw1 (fun b j q => f8 b j (by omega))
              have f81 : ∀ b j, ¬ (b = 250 ∧ j = 52 ∨ b = ((266 : Nat) : Int) ∧ ((256 * t : Nat) : Int) ≤ j ∧ j < ((256 * t + 256 : Nat) : Int) ∨ ((268 : Nat) : Int) ≤ b ∧ b ≤ ((270 : Nat) : Int) ∨ ((288 : Nat) : Int) ≤ b ∧ b ≤ ((290 : Nat) : Int)) → M8 b j = M b j := fun b j q => by rw [f8 b j (by omega), f71 b j q]
              generalize zhm n (zTv B (zv1 B c 1)) Q = hh at hhm hnx ⊢
              generalize zst n B Q len h c = st at i1 i2 hnx ⊢
              obtain ⟨y, u⟩ := st
              dsimp only at i1 i2 hnx ⊢
              by_cases w2 : hh < y
              · ((with_reducible refine i_If (i_cI_lt ?_)); rw [w_setT]; (with_reducible refine i_L9 (i_L6 ?_)); (with_reducible refine i_t (by omega) ?_); (with_reducible refine i_Seq (i_Set (i_L9 (i_Set ?_)))); simp only [w_set0, w_set1, w_setn0, w_setn1]; (with_reducible refine i_L8 (i_sIA (i_FR ?_))); simp only [w_set0, w_set1, w_setn0, w_setn1]; (with_reducible refine i_A0 ?_); (with_reducible refine i_fldR (by assumption) ?_); (with_reducible refine i_Add (i_Mul (i_I (i_L1 (i_L8 (i_I ?_)))))); rw [zx_cmul (by omega)]; rw [zx_add (by omega)]; (with_reducible refine i_in (by assumption) (by omega) (by omega) ?_); (with_reducible refine i_up (i_Inc8 ?_)); rw [zx_inc (by omega)]; simp only [w_set0, w_set1, w_setn0, w_setn1])
                exact hnx _ M8 _ hh (c + 1) (by omega) (by rw [if_pos ⟨e, w1, w2⟩]) f81 h8
              · ((with_reducible refine i_If (i_cI_lt ?_)); rw [w_setT]; (with_reducible refine i_L9 (i_L6 ?_)); (with_reducible refine i_f (by omega) ?_); (with_reducible refine i_sIA (i_FR (i_A0 ?_))); (with_reducible refine i_fldR (by assumption) ?_); (with_reducible refine i_Add (i_Mul (i_I (i_L1 (i_L8 (i_I ?_)))))); rw [zx_cmul (by omega)]; rw [zx_add (by omega)]; (with_reducible refine i_in (by assumption) (by omega) (by omega) ?_); (with_reducible refine i_up (i_Inc8 ?_)); rw [zx_inc (by omega)]; simp only [w_set0, w_set1, w_setn0, w_setn1])
                exact hnx _ M8 _ y u rfl (by rw [if_neg (fun z => w2 z.2.2)]) f81 h8
            · generalize zst n B Q len h c = st at i1 i2 hnx ⊢
              obtain ⟨y, u⟩ := st
              dsimp only at i1 i2 hnx ⊢
              ((with_reducible refine i_L2 ?_); (with_reducible refine i_f (by omega) ?_); (with_reducible refine i_sIA (i_FR (i_A0 ?_))); (with_reducible refine i_fldR (by assumption) ?_); (with_reducible refine i_Add (i_Mul (i_I (i_L1 (i_L8 (i_I ?_)))))); rw [zx_cmul (by omega)]; rw [zx_add (by omega)]; (with_reducible refine i_in (by assumption) (by omega) (by omega) ?_); (with_reducible refine i_up (i_Inc8 ?_)); rw [zx_inc (by omega)]; simp only [w_set0, w_set1, w_setn0, w_setn1])
              exact hnx _ M7 _ y u rfl (by rw [if_neg (fun z => w1 z.2.1)]) f71 h7
          · rw [if_neg (fun z => e z.1)] at hX2
            ((with_reducible refine i_turn (i_cI_lt (i_L8 (i_I ?_)))); (with_reducible refine i_t (by omega) ?_); (with_reducible refine i_Seq (i_IfBrk (i_cI_ne (i_IA (i_FR (i_A0 ?_)))))); (with_reducible refine i_fldR (by assumption) ?_); (with_reducible refine i_Add (i_Mul (i_I (i_L1 (i_L8 ?_))))); rw [zx_cmul (by omega)]; rw [zx_add (by omega)]; (with_reducible refine i_in (by assumption) (by omega) (by omega) ?_); (with_reducible refine i_I ?_); (rw [g]); ((with_reducible refine i_t (show (((tv B (c / 16) (c % 16) : Nat) : Int) : Int) ≠ 2 by omega) ?_)); (with_reducible refine i_lab1 (i_up (i_Inc8 ?_))); rw [zx_inc (by omega)]; simp only [w_set0, w_set1, w_setn0, w_setn1])
            exact hX2 _ _ ⟨⟨_, rfl⟩, f5, h5⟩
        · clear f4 h4
          rintro ρ M5 X2 ⟨⟨l2, rfl⟩, f5, h5⟩
          obtain ⟨i1, i2, i3, i4⟩ := hzi 256
          clear hzi
          unfold zse at hX
          dsimp only at hX
          generalize hst : zst n B Q len h 256 = st at i1 i2 i3 i4 hX ⊢
          clear hst
          obtain ⟨y, u⟩ := st
          dsimp only at i1 i2 i3 i4 hX ⊢
          by_cases e : u = 0
          · have hy := i3 e
            subst e
            rw [if_pos rfl, decide_eq_false (fun z => z rfl)] at hX
            ((with_reducible refine i_turn (i_cI_lt (i_L8 (i_I ?_)))); (with_reducible refine i_f (by omega) ?_); (with_reducible refine i_Seq (i_Set (i_eIf (i_cZ_ge (i_L7 ?_))))); (with_reducible refine i_f (by omega) ?_); (with_reducible refine i_I (i_Seq (i_IfBrk (i_cNot (i_cZ_ne ?_))))); simp only [w_set0, w_set1, w_setn0, w_setn1]; (with_reducible refine i_L5 ?_); (with_reducible refine i_f (by omega) ?_); (with_reducible refine i_lab1 ?_))
            exact hX _ _ ⟨⟨_, rfl⟩, f5, h5⟩
          · have h2 := i4 e
            have hu := rTe.up (x := 1) ht (show u - 1 < 256 by omega) h5
            rw [if_neg e, decide_eq_true e] at hX
            rw [show (((u : Nat) : Int) - 1 : Int) = ((u - 1 : Nat) : Int) by omega]
            ((with_reducible refine i_turn (i_cI_lt (i_L8 (i_I ?_)))); (with_reducible refine i_f (by omega) ?_); (with_reducible refine i_Seq (i_Set (i_eIf (i_cZ_ge (i_L7 ?_))))); (with_reducible refine i_t (by omega) ?_); (with_reducible refine i_I (i_Seq (i_IfBrk (i_cNot (i_cZ_ne ?_))))); simp only [w_set0, w_set1, w_setn0, w_setn1]; (with_reducible refine i_L5 ?_); (with_reducible refine i_t (by omega) ?_); (with_reducible refine i_Seq (i_sIA (i_FR (i_A0 ?_)))); (with_reducible refine i_fldR (by assumption) ?_); (with_reducible refine i_Add (i_Mul (i_I (i_L1 (i_L7 (i_I ?_)))))); rw [zx_cmul (by omega)]; rw [zx_add (by omega)]; (with_reducible refine i_in (by assumption) (by omega) (by omega) ?_); (with_reducible refine i_Set (i_L6 ?_)); simp only [w_set0, w_set1, w_setn0, w_setn1])
            exact hX _ _ ⟨⟨_, rfl⟩, fun b j q => by rw [zg_o _ _ (by omega)]; exact f5 b j q, hu⟩
      · rintro ρ M4 X ⟨⟨l, rfl⟩, f4, h4⟩
        rw [decide_eq_false (Nat.not_succ_le_self m)]
        have hfin : zsi n Q len s0 (m + 1) = zsi n Q len s0 m := zsi_fx m2 1
        rw [hfin] at h4 ⊢
        have hb := hbd m
        ((with_reducible refine i_turn (i_cZ_ne (i_L5 ?_))); rw [zbI_f]; (with_reducible refine i_f (by omega) ?_); (with_reducible refine i_RetI (i_L4 ?_)))
        exact hk2 M4 f4 h4
end
