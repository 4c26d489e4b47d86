section
-- part h0.seek.lean.txt
/-! ===== words by their numbers: the reference ===== -/
theorem zcnt_gap {W : Nat → Bool} {a b : Nat} (h : a ≤ b) (e : ∀ c, a ≤ c → c < b → W c = false) : zcnt W b = zcnt W a := by
  obtain ⟨d, rfl⟩ : ∃ d, b = a + d := ⟨b - a, by omega⟩
  clear h
  induction d with
  | zero => rfl
  | succ d ih => rw [show a + (d + 1) = (a + d) + 1 by omega, zcnt_su, ih (fun c h1 h2 => e c h1 (by omega)), e (a + d) (by omega) (by omega)]; rfl
theorem zWs_c {A : zTl} {i : Nat} (hi : i < 16) : zWsn A (16 * i) = tC A i := by
  unfold zWsn
  rw [if_pos (by omega), decide_eq_true (show 16 * i % 16 = 0 by omega), show 16 * i / 16 = i by omega]; rfl
theorem zWs_d {A : zTl} {i j : Nat} (hi : i < 16) (hj : j < 16) : zWsn A (256 + 16 * i + j) = tD A i j := by
  unfold zWsn
  rw [if_neg (by omega), if_pos (by omega), show (256 + 16 * i + j) / 16 % 16 = i by omega, show (256 + 16 * i + j) % 16 = j by omega]
theorem zWs_g {A : zTl} {i j : Nat} (hi : i < 16) (hj : j < 16) : zWsn A (512 + 16 * i + j) = tG A i j := by
  unfold zWsn
  rw [if_neg (by omega), if_neg (by omega), if_pos (by omega), show (512 + 16 * i + j) / 16 % 16 = i by omega, show (512 + 16 * i + j) % 16 = j by omega]
theorem zWs_h {A : zTl} {i : Nat} (hi : i < 16) : zWsn A (768 + 16 * i) = tH A i := by
  unfold zWsn
  rw [if_neg (by omega), if_neg (by omega), if_neg (by omega), decide_eq_true (show (768 + 16 * i) % 16 = 0 by omega), decide_eq_true (show 768 + 16 * i < 1024 by omega), show (768 + 16 * i) / 16 % 16 = i by omega]; rfl
/-- which numbers can be words at all -/
theorem zWs_in {n : Nat} {A : zTl} (hn : n ≤ 16) (hw : zTw n A) {c : Nat} (h : zWsn A c = true) : (c < 256 → c / 16 < tm A ∧ c % 16 = 0) ∧ (256 ≤ c → c < 512 → c / 16 % 16 < c % 16 ∧ c % 16 < tm A) ∧ (512 ≤ c → c < 768 → c / 16 % 16 < n ∧ c % 16 < tm A) ∧ (768 ≤ c → c < 1024 ∧ c / 16 % 16 < tm A ∧ c % 16 = 0) := by
  obtain ⟨-, -, ⟨h1, h2, h3, h4⟩, -⟩ := hw
  refine ⟨fun a => ?_, fun a b => ?_, fun a b => ?_, fun a => ?_⟩
  · unfold zWsn at h
    rw [if_pos a, Bool.and_eq_true, decide_eq_true_eq] at h
    exact ⟨(h1 _ h.2).1, h.1⟩
  · unfold zWsn at h
    rw [if_neg (by omega), if_pos b] at h
    exact h2 _ _ h
  · unfold zWsn at h
    rw [if_neg (by omega), if_neg (by omega), if_pos b] at h
    have := h3 _ _ h
    exact ⟨this.1, this.2.1⟩
  · unfold zWsn at h
    rw [if_neg (by omega), if_neg (by omega), if_neg (by omega), Bool.and_eq_true, Bool.and_eq_true, decide_eq_true_eq, decide_eq_true_eq] at h
    exact ⟨h.2.1, (h4 _ h.2.2).1, h.1⟩
theorem zWs_no {n : Nat} {A : zTl} (hn : n ≤ 16) (hw : zTw n A) {c : Nat} (h : ¬ ((c < 256 → c / 16 < tm A ∧ c % 16 = 0) ∧ (256 ≤ c → c < 512 → c / 16 % 16 < c % 16 ∧ c % 16 < tm A) ∧ (512 ≤ c → c < 768 → c / 16 % 16 < n ∧ c % 16 < tm A) ∧ (768 ≤ c → c < 1024 ∧ c / 16 % 16 < tm A ∧ c % 16 = 0))) : zWsn A c = false := by
  cases e : zWsn A c
  · rfl
  · exact absurd (zWs_in hn hw e) h
theorem zx_k1 {k : Int} {w : Nat} (hk : zin32 k) (hw : 1 ≤ w) (hw2 : w ≤ 2000) : (((w : Nat) : Int) = zw32 (k + 1)) ↔ (((w : Nat) : Int) = k + 1) := by
  by_cases e : k = 2147483647
  · subst e
    rw [show zw32 (2147483647 + 1) = -2147483648 by decide]
    omega
  · have := hk.1
    have := hk.2
    rw [zx_s (by omega) (by omega)]
/-- the second of a word, or none -/
def zw2 (c : Nat) : Int := if 256 ≤ c ∧ c < 768 then ((c % 16 : Nat) : Int) else -1
theorem m_meets {O : zOm} (hO : zWld O) (hS : zS O = zmS zC0) {s a w : Nat} {b k : Int} {M : zMem} {K : Option zV → zMem → Prop} (hw : M 250 ((50 : Nat) : Int) = ((w : Nat) : Int)) (hw2 : w ≤ 1100) (hk : zin32 k)
    (h0 : ¬ ((w + 1 : Nat) : Int) = k + 1 → ∀ M', (∀ b j, ¬ (b = 250 ∧ j = 50) → M' b j = M b j) → M' 250 ((50 : Nat) : Int) = ((w + 1 : Nat) : Int) → K (some (0, 0)) M')
    (h1 : ((w + 1 : Nat) : Int) = k + 1 → ∀ M', (∀ b j, ¬ (b = 250 ∧ (j = 47 ∨ j = 48 ∨ j = 49 ∨ j = 50)) → M' b j = M b j) → M' 250 ((50 : Nat) : Int) = ((w + 1 : Nat) : Int) → M' 250 ((47 : Nat) : Int) = ((s : Nat) : Int) → M' 250 ((48 : Nat) : Int) = ((a : Nat) : Int) → M' 250 ((49 : Nat) : Int) = b → K (some (0, 1)) M') : zR O F_Model_meets [(2, 250), (0, ((s : Nat) : Int)), (0, ((a : Nat) : Int)), (0, b), (0, k)] M K := by
  have hz := zx_k1 (w := w + 1) hk (by omega) (by omega)
  apply r_Model_meets hO
  unfold B_Model_meets
  have f50 := zMF (k := 50) hS rfl; have f47 := zMF (k := 47) hS rfl; have f48 := zMF (k := 48) hS rfl; have f49 := zMF (k := 49) hS rfl; have zo := zMO hS
  by_cases e : ((w + 1 : Nat) : Int) = k + 1
  · have e2 := hz.mpr e
    have hne : ¬ (((w + 1 : Nat) : Int) ≠ zw32 (k + 1)) := fun z => z e2
    ((with_reducible refine i_Seq (i_FO (i_A0 ?_))); (with_reducible refine i_fld (by assumption) ?_); (with_reducible refine i_I ?_); (with_reducible refine i_fld (by assumption) ?_); (with_reducible refine i_Seq (i_If (i_cI_ne (i_F (i_A0 ?_))))); (with_reducible refine i_fld (by assumption) ?_); (with_reducible refine i_Add (i_L4 (i_I ?_))); rw [zg_s]; (rw [hw]); rw [zx_inc (by omega)]; ((with_reducible refine i_f hne ?_)); (with_reducible refine i_Seq (i_sF (i_A0 (i_L1 ?_)))); (with_reducible refine i_fld (by assumption) ?_); (with_reducible refine i_Seq (i_sF (i_A0 (i_L2 ?_)))); (with_reducible refine i_fld (by assumption) ?_); (with_reducible refine i_Seq (i_sF (i_A0 (i_L3 ?_)))); (with_reducible refine i_fld (by assumption) ?_); (with_reducible refine i_RetZ (i_I ?_)); (with_reducible refine i_z (Or.inr rfl) ?_))
    exact h1 e _ (fun b j q => by rw [zg_o _ _ (by omega), zg_o _ _ (by omega), zg_o _ _ (by omega), zg_o _ _ (by omega)]) (by rw [zg_o _ _ (by omega), zg_o _ _ (by omega), zg_o _ _ (by omega)]; exact zg_s _ _ _ _ _) (by rw [zg_o _ _ (by omega), zg_o _ _ (by omega)]; exact zg_s _ _ _ _ _) (by rw [zg_o _ _ (by omega)]; exact zg_s _ _ _ _ _) (zg_s _ _ _ _ _)
  · have e2 : ¬ ((w + 1 : Nat) : Int) = zw32 (k + 1) := fun z => e (hz.mp z)
    ((with_reducible refine i_Seq (i_FO (i_A0 ?_))); (with_reducible refine i_fld (by assumption) ?_); (with_reducible refine i_I ?_); (with_reducible refine i_fld (by assumption) ?_); (with_reducible refine i_Seq (i_If (i_cI_ne (i_F (i_A0 ?_))))); (with_reducible refine i_fld (by assumption) ?_); (with_reducible refine i_Add (i_L4 (i_I ?_))); rw [zg_s]; (rw [hw]); rw [zx_inc (by omega)]; ((with_reducible refine i_t e2 ?_)); (with_reducible refine i_RetZ (i_I ?_)); (with_reducible refine i_z (Or.inl rfl) ?_))
    exact h0 e _ (fun b j q => by rw [zg_o _ _ (by omega)]) (zg_s _ _ _ _ _)
/-- words sought: the k-th, or how many there are -/
theorem m_seeks {O : zOm} (hO : zWld O) (hS : zS O = zmS zC0) {t n : Nat} {k : Int} {A : zTl} {M : zMem} {K : Option zV → zMem → Prop} (ht : t < 7) (hn : M 250 ((1 : Nat) : Int) = ((n : Nat) : Int)) (hn2 : n ≤ 16) (hA : rTe M t n A) (hw : zTw n A) (hk : zin32 k) (hkn : -1 ≤ k)
    (h0 : ((zcnt (zWsn A) 1024 : Nat) : Int) ≤ k ∨ k = -1 → ∀ M', (∀ b j, ¬ (b = 250 ∧ j = 50) → M' b j = M b j) → M' 250 ((50 : Nat) : Int) = ((zcnt (zWsn A) 1024 : Nat) : Int) → K (some (0, 0)) M')
    (h1 : ∀ c : Nat, c < 1024 → zWsn A c = true → ((zcnt (zWsn A) c : Nat) : Int) = k → ∀ M', (∀ b j, ¬ (b = 250 ∧ (j = 47 ∨ j = 48 ∨ j = 49 ∨ j = 50)) → M' b j = M b j) → M' 250 ((47 : Nat) : Int) = ((c / 256 : Nat) : Int) → M' 250 ((48 : Nat) : Int) = ((c / 16 % 16 : Nat) : Int) → M' 250 ((49 : Nat) : Int) = zw2 c → K (some (0, 1)) M') : zR O F_Model_seeks [(2, 250), (0, ((t : Nat) : Int)), (0, k)] M K := by
  obtain ⟨⟨g1, g2, g3⟩, ⟨g4, g5, g6, g7⟩, g8, g9⟩ := hA
  have hm := hw.1.1
  have hcl := fun c => zcnt_le (zWsn A) c
  apply r_Model_seeks hO
  unfold B_Model_seeks
  have f50 := zMF (k := 50) hS rfl; have f12 := zMF (k := 12) hS rfl; have a258 := zMA (a := 258) (ty := .int) (n := 7) hS rfl; have f16 := zMF (k := 16) hS rfl; have a262 := zMA (a := 262) (ty := .boolean) (n := 112) hS rfl; have f18 := zMF (k := 18) hS rfl; have a264 := zMA (a := 264) (ty := .boolean) (n := 1792) hS rfl; have f1 := zMF (k := 1) hS rfl; have f19 := zMF (k := 19) hS rfl; have a265 := zMA (a := 265) (ty := .boolean) (n := 1792) hS rfl; have f17 := zMF (k := 17) hS rfl; have a263 := zMA (a := 263) (ty := .boolean) (n := 112) hS rfl; have zo := zMO hS
  ((with_reducible refine i_Seq (i_sF (i_A0 (i_I ?_)))); (with_reducible refine i_fld (by assumption) ?_); (with_reducible refine i_Seq (i_Blk (i_Seq (i_Set (i_I ?_))))); simp only [w_set0, w_set1, w_setn0, w_setn1])
  -- crowds
  refine w_ForN (tm A) (fun i ρ M' => (∃ l, ρ = 250 :: ((t : Nat) : Int) :: k :: ((i : Nat) : Int) :: l) ∧ (∀ b j, ¬ (b = 250 ∧ j = 50) → M' b j = M b j) ∧ M' 250 ((50 : Nat) : Int) = ((zcnt (zWsn A) (16 * i) : Nat) : Int) ∧ (((zcnt (zWsn A) (16 * i) : Nat) : Int) ≤ k ∨ k = -1)) ⟨⟨_, rfl⟩, fun b j q => by rw [zg_o _ _ (by omega)], zg_s _ _ _ _ _, by rw [show 16 * 0 = 0 from rfl]; show (((0 : Nat) : Int) ≤ k) ∨ _; omega⟩ ?_ ?_
  · rintro i ρ M1 X hi ⟨⟨l, rfl⟩, f1, w1, hle⟩ hX
    have gm : M1 ((258 : Nat) : Int) ((t : Nat) : Int) = ((tm A : Nat) : Int) := (f1 _ _ (by omega)).trans g1
    have gC : M1 ((262 : Nat) : Int) ((16 * t + i : Nat) : Int) = zbI (tC A i) := (f1 _ _ (by omega)).trans (g4 i (by omega))
    have hsu := zcnt_su (zWsn A) (16 * i)
    rw [zWs_c (by omega)] at hsu
    have hgap : zcnt (zWsn A) (16 * (i + 1)) = zcnt (zWsn A) (16 * i + 1) := zcnt_gap (by omega) (fun c c1 c2 => zWs_no hn2 hw (by omega))
    have hl1 := hcl (16 * i)
    cases e : tC A i
    · rw [e] at gC hsu
      ((with_reducible refine i_turn (i_cI_lt (i_L3 (i_IA (i_FR (i_A0 ?_)))))); (with_reducible refine i_fldR (by assumption) ?_); (with_reducible refine i_L1 ?_); (with_reducible refine i_in (by assumption) (by omega) (by omega) ?_); (rw [gm]); (with_reducible refine i_t (by omega) ?_); (with_reducible refine i_If (i_cAnd (i_cZ_ne (i_ZA (i_FR (i_A0 ?_)))))); (with_reducible refine i_fldR (by assumption) ?_); (with_reducible refine i_Add (i_Mul (i_I (i_L1 (i_L3 ?_))))); rw [zx_cmul (by omega)]; rw [zx_add (by omega)]; (with_reducible refine i_in (by assumption) (by omega) (by omega) ?_); (rw [gC]); rw [zbI_f]; (with_reducible refine i_f (by omega) ?_); (with_reducible refine i_up (i_Inc3 ?_)); rw [zx_inc (by omega)]; simp only [w_set0, w_set1, w_setn0, w_setn1])
      exact hX _ _ ⟨⟨_, rfl⟩, f1, by rw [hgap, hsu]; exact w1, by rw [hgap, hsu]; exact hle⟩
    · rw [e, if_pos rfl] at hsu
      rw [e] at gC
      ((with_reducible refine i_turn (i_cI_lt (i_L3 (i_IA (i_FR (i_A0 ?_)))))); (with_reducible refine i_fldR (by assumption) ?_); (with_reducible refine i_L1 ?_); (with_reducible refine i_in (by assumption) (by omega) (by omega) ?_); (rw [gm]); (with_reducible refine i_t (by omega) ?_); (with_reducible refine i_If (i_cAnd (i_cZ_ne (i_ZA (i_FR (i_A0 ?_)))))); (with_reducible refine i_fldR (by assumption) ?_); (with_reducible refine i_Add (i_Mul (i_I (i_L1 (i_L3 ?_))))); rw [zx_cmul (by omega)]; rw [zx_add (by omega)]; (with_reducible refine i_in (by assumption) (by omega) (by omega) ?_); (rw [gC]); rw [zbI_t]; (with_reducible refine i_t (by omega) ?_); (with_reducible refine i_cZ_ne (i_Call (i_as1 (i_A0 (i_as1 (i_I (i_as1 (i_L3 (i_as1 (i_I (i_as1 (i_L2 (i_as0 ?_))))))))))))); (with_reducible refine i_recv0 (by assumption) ?_))
      refine m_meets hO hS (s := 0) (b := -1) w1 (by omega) hk (fun z M2 f2 w2 => ⟨_, rfl, ?_⟩) (fun z M2 f2 w2 a1 a2 a3 => ⟨_, rfl, ?_⟩)
      · ((with_reducible refine i_f (by omega) ?_); (with_reducible refine i_up (i_Inc3 ?_)); rw [zx_inc (by omega)]; simp only [w_set0, w_set1, w_setn0, w_setn1])
        exact hX _ _ ⟨⟨_, rfl⟩, fun b j q => by rw [f2 b j q, f1 b j q], by rw [hgap, hsu]; exact w2, by rw [hgap, hsu]; omega⟩
      · ((with_reducible refine i_t (by omega) ?_); (with_reducible refine i_RetZ (i_I ?_)); (with_reducible refine i_z (Or.inr rfl) ?_))
        refine h1 (16 * i) (by omega) (by rw [zWs_c (by omega)]; exact e) (by omega) M2 (fun b j q => by rw [f2 b j q, f1 b j (by omega)]) (by rw [a1, show 16 * i / 256 = 0 by omega]) (by rw [a2, show 16 * i / 16 % 16 = i by omega]) (by rw [a3]; unfold zw2; rw [if_neg (by omega)])
  rintro ρ M1 X ⟨⟨l, rfl⟩, f1, w1, hle1⟩
  have hg0 : zcnt (zWsn A) 256 = zcnt (zWsn A) (16 * tm A) := zcnt_gap (by omega) (fun c c1 c2 => zWs_no hn2 hw (by omega))
  rw [← hg0] at w1 hle1
  have gm : M1 ((258 : Nat) : Int) ((t : Nat) : Int) = ((tm A : Nat) : Int) := (f1 _ _ (by omega)).trans g1
  ((with_reducible refine i_turn (i_cI_lt (i_L3 (i_IA (i_FR (i_A0 ?_)))))); (with_reducible refine i_fldR (by assumption) ?_); (with_reducible refine i_L1 ?_); (with_reducible refine i_in (by assumption) (by omega) (by omega) ?_); (rw [gm]); (with_reducible refine i_f (by omega) ?_); (with_reducible refine i_Seq (i_Blk (i_Seq (i_Set (i_I ?_))))); simp only [w_set0, w_set1, w_setn0, w_setn1])
  -- sides
  refine w_ForN (tm A) (fun i ρ M' => (∃ l, ρ = 250 :: ((t : Nat) : Int) :: k :: ((i : Nat) : Int) :: l) ∧ (∀ b j, ¬ (b = 250 ∧ j = 50) → M' b j = M b j) ∧ M' 250 ((50 : Nat) : Int) = ((zcnt (zWsn A) (256 + 16 * i) : Nat) : Int) ∧ (((zcnt (zWsn A) (256 + 16 * i) : Nat) : Int) ≤ k ∨ k = -1)) ⟨⟨_, rfl⟩, f1, w1, hle1⟩ ?_ ?_
  · clear w1 hle1 gm f1
    rintro i ρ M2 X2 hi ⟨⟨l2, rfl⟩, f2, w2, hle2⟩ hX2
    have gm2 : M2 ((258 : Nat) : Int) ((t : Nat) : Int) = ((tm A : Nat) : Int) := (f2 _ _ (by omega)).trans g1
    have hgr : zcnt (zWsn A) (256 + 16 * i + (i + 1)) = zcnt (zWsn A) (256 + 16 * i) := zcnt_gap (by omega) (fun c c1 c2 => zWs_no hn2 hw (by omega))
    ((with_reducible refine i_turn (i_cI_lt (i_L3 (i_IA (i_FR (i_A0 ?_)))))); (with_reducible refine i_fldR (by assumption) ?_); (with_reducible refine i_L1 ?_); (with_reducible refine i_in (by assumption) (by omega) (by omega) ?_); (rw [gm2]); (with_reducible refine i_t (by omega) ?_); (with_reducible refine i_Blk (i_Seq (i_Set (i_Add (i_L3 (i_I ?_)))))); rw [zx_inc (by omega)]; simp only [w_set0, w_set1, w_setn0, w_setn1]; rw [w_setT])
    refine w_ForN (tm A - (i + 1)) (fun d ρ M' => (∃ l, ρ = 250 :: ((t : Nat) : Int) :: k :: ((i : Nat) : Int) :: ((i + 1 + d : Nat) : Int) :: l) ∧ (∀ b j, ¬ (b = 250 ∧ j = 50) → M' b j = M b j) ∧ M' 250 ((50 : Nat) : Int) = ((zcnt (zWsn A) (256 + 16 * i + (i + 1 + d)) : Nat) : Int) ∧ (((zcnt (zWsn A) (256 + 16 * i + (i + 1 + d)) : Nat) : Int) ≤ k ∨ k = -1)) ⟨⟨_, rfl⟩, f2, by rw [show 256 + 16 * i + (i + 1 + 0) = 256 + 16 * i + (i + 1) from rfl, hgr]; exact w2, by rw [show 256 + 16 * i + (i + 1 + 0) = 256 + 16 * i + (i + 1) from rfl, hgr]; exact hle2⟩ ?_ ?_
    · rintro d ρ M3 X3 hd ⟨⟨l3, rfl⟩, f3, w3, hle3⟩ hX3
      have hj : i + 1 + d < tm A := by omega
      have hij : i < i + 1 + d := by omega
      have hX4 : ∀ (l : zLoc) (M' : zMem), (∀ b j, ¬ (b = 250 ∧ j = 50) → M' b j = M b j) → M' 250 ((50 : Nat) : Int) = ((zcnt (zWsn A) (256 + 16 * i + (i + 1 + d) + 1) : Nat) : Int) → (((zcnt (zWsn A) (256 + 16 * i + (i + 1 + d) + 1) : Nat) : Int) ≤ k ∨ k = -1) → X3 (250 :: ((t : Nat) : Int) :: k :: ((i : Nat) : Int) :: ((i + 1 + d + 1 : Nat) : Int) :: l) M' := fun l M' a b c => hX3 _ _ ⟨⟨l, rfl⟩, a, b, c⟩
      clear hX3
      generalize i + 1 + d = j at hj hij w3 hle3 hX4 ⊢
      have gm3 : M3 ((258 : Nat) : Int) ((t : Nat) : Int) = ((tm A : Nat) : Int) := (f3 _ _ (by omega)).trans g1
      have gD : M3 ((264 : Nat) : Int) ((256 * t + 16 * i + j : Nat) : Int) = zbI (tD A i j) := (f3 _ _ (by omega)).trans (g5 i j (by omega) (by omega))
      have hsu := zcnt_su (zWsn A) (256 + 16 * i + j)
      rw [zWs_d (by omega) (by omega)] at hsu
      have hl1 := hcl (256 + 16 * i + j)
      cases e : tD A i j
      · rw [e] at gD hsu
        ((with_reducible refine i_turn (i_cI_lt (i_L4 (i_IA (i_FR (i_A0 ?_)))))); (with_reducible refine i_fldR (by assumption) ?_); (with_reducible refine i_L1 ?_); (with_reducible refine i_in (by assumption) (by omega) (by omega) ?_); (rw [gm3]); (with_reducible refine i_t (by omega) ?_); (with_reducible refine i_If (i_cAnd (i_cZ_ne (i_ZA (i_FR (i_A0 ?_)))))); (with_reducible refine i_fldR (by assumption) ?_); (with_reducible refine i_Add (i_Add (i_Mul (i_I (i_L1 (i_Mul (i_I (i_L3 (i_L4 ?_))))))))); rw [zx_cmul (by omega)]; rw [zx_cmul (by omega)]; rw [zx_add (by omega)]; rw [zx_add (by omega)]; (with_reducible refine i_in (by assumption) (by omega) (by omega) ?_); (rw [gD]); rw [zbI_f]; (with_reducible refine i_f (by omega) ?_); (with_reducible refine i_up (i_Inc4 ?_)); rw [zx_inc (by omega)]; simp only [w_set0, w_set1, w_setn0, w_setn1])
        exact hX4 _ _ f3 (by rw [hsu]; exact w3) (by rw [hsu]; exact hle3)
      · rw [e, if_pos rfl] at hsu
        rw [e] at gD
        ((with_reducible refine i_turn (i_cI_lt (i_L4 (i_IA (i_FR (i_A0 ?_)))))); (with_reducible refine i_fldR (by assumption) ?_); (with_reducible refine i_L1 ?_); (with_reducible refine i_in (by assumption) (by omega) (by omega) ?_); (rw [gm3]); (with_reducible refine i_t (by omega) ?_); (with_reducible refine i_If (i_cAnd (i_cZ_ne (i_ZA (i_FR (i_A0 ?_)))))); (with_reducible refine i_fldR (by assumption) ?_); (with_reducible refine i_Add (i_Add (i_Mul (i_I (i_L1 (i_Mul (i_I (i_L3 (i_L4 ?_))))))))); rw [zx_cmul (by omega)]; rw [zx_cmul (by omega)]; rw [zx_add (by omega)]; rw [zx_add (by omega)]; (with_reducible refine i_in (by assumption) (by omega) (by omega) ?_); (rw [gD]); rw [zbI_t]; (with_reducible refine i_t (by omega) ?_); (with_reducible refine i_cZ_ne (i_Call (i_as1 (i_A0 (i_as1 (i_I (i_as1 (i_L3 (i_as1 (i_L4 (i_as1 (i_L2 (i_as0 ?_))))))))))))); (with_reducible refine i_recv0 (by assumption) ?_))
        refine m_meets hO hS (s := 1) (b := ((j : Nat) : Int)) w3 (by omega) hk (fun z M4 f4 w4 => ⟨_, rfl, ?_⟩) (fun z M4 f4 w4 a1 a2 a3 => ⟨_, rfl, ?_⟩)
        · ((with_reducible refine i_f (by omega) ?_); (with_reducible refine i_up (i_Inc4 ?_)); rw [zx_inc (by omega)]; simp only [w_set0, w_set1, w_setn0, w_setn1])
          exact hX4 _ _ (fun b j q => by rw [f4 b j q, f3 b j q]) (by rw [hsu]; exact w4) (by rw [hsu]; omega)
        · ((with_reducible refine i_t (by omega) ?_); (with_reducible refine i_RetZ (i_I ?_)); (with_reducible refine i_z (Or.inr rfl) ?_))
          refine h1 (256 + 16 * i + j) (by omega) (by rw [zWs_d (by omega) (by omega)]; exact e) (by omega) M4 (fun b j q => by rw [f4 b j q, f3 b j (by omega)]) (by rw [a1, show (256 + 16 * i + j) / 256 = 1 by omega]) (by rw [a2, show (256 + 16 * i + j) / 16 % 16 = i by omega]) (by rw [a3]; unfold zw2; rw [if_pos (by omega), show (256 + 16 * i + j) % 16 = j by omega])
    · rintro ρ M3 X3 ⟨⟨l3, rfl⟩, f3, w3, hle3⟩
      rw [show i + 1 + (tm A - (i + 1)) = tm A by omega] at w3 hle3 ⊢
      have gm3 : M3 ((258 : Nat) : Int) ((t : Nat) : Int) = ((tm A : Nat) : Int) := (f3 _ _ (by omega)).trans g1
      have hgap : zcnt (zWsn A) (256 + 16 * (i + 1)) = zcnt (zWsn A) (256 + 16 * i + tm A) := zcnt_gap (by omega) (fun c c1 c2 => zWs_no hn2 hw (by omega))
      ((with_reducible refine i_turn (i_cI_lt (i_L4 (i_IA (i_FR (i_A0 ?_)))))); (with_reducible refine i_fldR (by assumption) ?_); (with_reducible refine i_L1 ?_); (with_reducible refine i_in (by assumption) (by omega) (by omega) ?_); (rw [gm3]); (with_reducible refine i_f (by omega) ?_); (with_reducible refine i_up (i_Inc3 ?_)); rw [zx_inc (by omega)]; simp only [w_set0, w_set1, w_setn0, w_setn1])
      exact hX2 _ _ ⟨⟨_, rfl⟩, f3, by rw [hgap]; exact w3, by rw [hgap]; exact hle3⟩
  clear f1 w1 hle1 gm
  rintro ρ M2 X2 ⟨⟨l2, rfl⟩, f2, w2, hle2⟩
  have hg1 : zcnt (zWsn A) 512 = zcnt (zWsn A) (256 + 16 * tm A) := zcnt_gap (by omega) (fun c c1 c2 => zWs_no hn2 hw (by omega))
  rw [← hg1] at w2 hle2
  have gm2 : M2 ((258 : Nat) : Int) ((t : Nat) : Int) = ((tm A : Nat) : Int) := (f2 _ _ (by omega)).trans g1
  ((with_reducible refine i_turn (i_cI_lt (i_L3 (i_IA (i_FR (i_A0 ?_)))))); (with_reducible refine i_fldR (by assumption) ?_); (with_reducible refine i_L1 ?_); (with_reducible refine i_in (by assumption) (by omega) (by omega) ?_); (rw [gm2]); (with_reducible refine i_f (by omega) ?_); (with_reducible refine i_Seq (i_Blk (i_Seq (i_Set (i_I ?_))))); simp only [w_set0, w_set1, w_setn0, w_setn1])
  -- stars
  refine w_ForN n (fun p ρ M' => (∃ l, ρ = 250 :: ((t : Nat) : Int) :: k :: ((p : Nat) : Int) :: l) ∧ (∀ b j, ¬ (b = 250 ∧ j = 50) → M' b j = M b j) ∧ M' 250 ((50 : Nat) : Int) = ((zcnt (zWsn A) (512 + 16 * p) : Nat) : Int) ∧ (((zcnt (zWsn A) (512 + 16 * p) : Nat) : Int) ≤ k ∨ k = -1)) ⟨⟨_, rfl⟩, f2, w2, hle2⟩ ?_ ?_
  · clear w2 hle2 gm2 f2
    rintro p ρ M3 X3 hp ⟨⟨l3, rfl⟩, f3, w3, hle3⟩ hX3
    have gn3 : M3 250 ((1 : Nat) : Int) = ((n : Nat) : Int) := (f3 _ _ (by omega)).trans hn
    ((with_reducible refine i_turn (i_cI_lt (i_L3 (i_F (i_A0 ?_))))); (with_reducible refine i_fld (by assumption) ?_); (rw [gn3]); (with_reducible refine i_t (by omega) ?_); (with_reducible refine i_Blk (i_Seq (i_Set (i_I ?_)))); simp only [w_set0, w_set1, w_setn0, w_setn1]; rw [w_setT])
    refine w_ForN (tm A) (fun i ρ M' => (∃ l, ρ = 250 :: ((t : Nat) : Int) :: k :: ((p : Nat) : Int) :: ((i : Nat) : Int) :: l) ∧ (∀ b j, ¬ (b = 250 ∧ j = 50) → M' b j = M b j) ∧ M' 250 ((50 : Nat) : Int) = ((zcnt (zWsn A) (512 + 16 * p + i) : Nat) : Int) ∧ (((zcnt (zWsn A) (512 + 16 * p + i) : Nat) : Int) ≤ k ∨ k = -1)) ⟨⟨_, rfl⟩, f3, w3, hle3⟩ ?_ ?_
    · rintro i ρ M4 X4 hi ⟨⟨l4, rfl⟩, f4, w4, hle4⟩ hX4
      have gm4 : M4 ((258 : Nat) : Int) ((t : Nat) : Int) = ((tm A : Nat) : Int) := (f4 _ _ (by omega)).trans g1
      have gG : M4 ((265 : Nat) : Int) ((256 * t + 16 * p + i : Nat) : Int) = zbI (tG A p i) := (f4 _ _ (by omega)).trans (g6 p i (by omega) (by omega))
      have hsu := zcnt_su (zWsn A) (512 + 16 * p + i)
      rw [zWs_g (by omega) (by omega)] at hsu
      have hl1 := hcl (512 + 16 * p + i)
      cases e : tG A p i
      · rw [e] at gG hsu
        ((with_reducible refine i_turn (i_cI_lt (i_L4 (i_IA (i_FR (i_A0 ?_)))))); (with_reducible refine i_fldR (by assumption) ?_); (with_reducible refine i_L1 ?_); (with_reducible refine i_in (by assumption) (by omega) (by omega) ?_); (rw [gm4]); (with_reducible refine i_t (by omega) ?_); (with_reducible refine i_If (i_cAnd (i_cZ_ne (i_ZA (i_FR (i_A0 ?_)))))); (with_reducible refine i_fldR (by assumption) ?_); (with_reducible refine i_Add (i_Add (i_Mul (i_I (i_L1 (i_Mul (i_I (i_L3 (i_L4 ?_))))))))); rw [zx_cmul (by omega)]; rw [zx_cmul (by omega)]; rw [zx_add (by omega)]; rw [zx_add (by omega)]; (with_reducible refine i_in (by assumption) (by omega) (by omega) ?_); (rw [gG]); rw [zbI_f]; (with_reducible refine i_f (by omega) ?_); (with_reducible refine i_up (i_Inc4 ?_)); rw [zx_inc (by omega)]; simp only [w_set0, w_set1, w_setn0, w_setn1])
        exact hX4 _ _ ⟨⟨_, rfl⟩, f4, hsu ▸ w4, hsu ▸ hle4⟩
      · rw [e, if_pos rfl] at hsu
        rw [e] at gG
        ((with_reducible refine i_turn (i_cI_lt (i_L4 (i_IA (i_FR (i_A0 ?_)))))); (with_reducible refine i_fldR (by assumption) ?_); (with_reducible refine i_L1 ?_); (with_reducible refine i_in (by assumption) (by omega) (by omega) ?_); (rw [gm4]); (with_reducible refine i_t (by omega) ?_); (with_reducible refine i_If (i_cAnd (i_cZ_ne (i_ZA (i_FR (i_A0 ?_)))))); (with_reducible refine i_fldR (by assumption) ?_); (with_reducible refine i_Add (i_Add (i_Mul (i_I (i_L1 (i_Mul (i_I (i_L3 (i_L4 ?_))))))))); rw [zx_cmul (by omega)]; rw [zx_cmul (by omega)]; rw [zx_add (by omega)]; rw [zx_add (by omega)]; (with_reducible refine i_in (by assumption) (by omega) (by omega) ?_); (rw [gG]); rw [zbI_t]; (with_reducible refine i_t (by omega) ?_); (with_reducible refine i_cZ_ne (i_Call (i_as1 (i_A0 (i_as1 (i_I (i_as1 (i_L3 (i_as1 (i_L4 (i_as1 (i_L2 (i_as0 ?_))))))))))))); (with_reducible refine i_recv0 (by assumption) ?_))
        refine m_meets hO hS (s := 2) (b := ((i : Nat) : Int)) w4 (by omega) hk (fun z M5 f5 w5 => ⟨_, rfl, ?_⟩) (fun z M5 f5 w5 a1 a2 a3 => ⟨_, rfl, ?_⟩)
        · ((with_reducible refine i_f (by omega) ?_); (with_reducible refine i_up (i_Inc4 ?_)); rw [zx_inc (by omega)]; simp only [w_set0, w_set1, w_setn0, w_setn1])
          exact hX4 _ _ ⟨⟨_, rfl⟩, fun b j q => by rw [f5 b j q, f4 b j q], by show M5 250 ((50 : Nat) : Int) = ((zcnt (zWsn A) (512 + 16 * p + i + 1) : Nat) : Int); rw [hsu]; exact w5, by show ((zcnt (zWsn A) (512 + 16 * p + i + 1) : Nat) : Int) ≤ k ∨ _; rw [hsu]; omega⟩
        · ((with_reducible refine i_t (by omega) ?_); (with_reducible refine i_RetZ (i_I ?_)); (with_reducible refine i_z (Or.inr rfl) ?_))
          refine h1 (512 + 16 * p + i) (by omega) (by rw [zWs_g (by omega) (by omega)]; exact e) (by omega) M5 (fun b j q => by rw [f5 b j q, f4 b j (by omega)]) (by rw [a1, show (512 + 16 * p + i) / 256 = 2 by omega]) (by rw [a2, show (512 + 16 * p + i) / 16 % 16 = p by omega]) (by rw [a3]; unfold zw2; rw [if_pos (by omega), show (512 + 16 * p + i) % 16 = i by omega])
    · rintro ρ M4 X4 ⟨⟨l4, rfl⟩, f4, w4, hle4⟩
      have gm4 : M4 ((258 : Nat) : Int) ((t : Nat) : Int) = ((tm A : Nat) : Int) := (f4 _ _ (by omega)).trans g1
      have hgap : zcnt (zWsn A) (512 + 16 * (p + 1)) = zcnt (zWsn A) (512 + 16 * p + tm A) := zcnt_gap (by omega) (fun c c1 c2 => zWs_no hn2 hw (by omega))
      ((with_reducible refine i_turn (i_cI_lt (i_L4 (i_IA (i_FR (i_A0 ?_)))))); (with_reducible refine i_fldR (by assumption) ?_); (with_reducible refine i_L1 ?_); (with_reducible refine i_in (by assumption) (by omega) (by omega) ?_); (rw [gm4]); (with_reducible refine i_f (by omega) ?_); (with_reducible refine i_up (i_Inc3 ?_)); rw [zx_inc (by omega)]; simp only [w_set0, w_set1, w_setn0, w_setn1])
      exact hX3 _ _ ⟨⟨_, rfl⟩, f4, by rw [hgap]; exact w4, by rw [hgap]; exact hle4⟩
  clear f2 w2 hle2 gm2
  rintro ρ M3 X3 ⟨⟨l3, rfl⟩, f3, w3, hle3⟩
  have hg2 : zcnt (zWsn A) 768 = zcnt (zWsn A) (512 + 16 * n) := zcnt_gap (by omega) (fun c c1 c2 => zWs_no hn2 hw (by omega))
  rw [← hg2] at w3 hle3
  have gn3 : M3 250 ((1 : Nat) : Int) = ((n : Nat) : Int) := (f3 _ _ (by omega)).trans hn
  ((with_reducible refine i_turn (i_cI_lt (i_L3 (i_F (i_A0 ?_))))); (with_reducible refine i_fld (by assumption) ?_); (rw [gn3]); (with_reducible refine i_f (by omega) ?_); (with_reducible refine i_Seq (i_Blk (i_Seq (i_Set (i_I ?_))))); simp only [w_set0, w_set1, w_setn0, w_setn1])
  -- chains
  refine w_ForN (tm A) (fun i ρ M' => (∃ l, ρ = 250 :: ((t : Nat) : Int) :: k :: ((i : Nat) : Int) :: l) ∧ (∀ b j, ¬ (b = 250 ∧ j = 50) → M' b j = M b j) ∧ M' 250 ((50 : Nat) : Int) = ((zcnt (zWsn A) (768 + 16 * i) : Nat) : Int) ∧ (((zcnt (zWsn A) (768 + 16 * i) : Nat) : Int) ≤ k ∨ k = -1)) ⟨⟨_, rfl⟩, f3, w3, hle3⟩ ?_ ?_
  · clear w3 hle3 gn3 f3
    rintro i ρ M4 X4 hi ⟨⟨l4, rfl⟩, f4, w4, hle4⟩ hX4
    have gm4 : M4 ((258 : Nat) : Int) ((t : Nat) : Int) = ((tm A : Nat) : Int) := (f4 _ _ (by omega)).trans g1
    have gH : M4 ((263 : Nat) : Int) ((16 * t + i : Nat) : Int) = zbI (tH A i) := (f4 _ _ (by omega)).trans (g7 i (by omega))
    have hsu := zcnt_su (zWsn A) (768 + 16 * i)
    rw [zWs_h (by omega)] at hsu
    have hgap : zcnt (zWsn A) (768 + 16 * (i + 1)) = zcnt (zWsn A) (768 + 16 * i + 1) := zcnt_gap (by omega) (fun c c1 c2 => zWs_no hn2 hw (by omega))
    have hl1 := hcl (768 + 16 * i)
    cases e : tH A i
    · rw [e] at gH hsu
      ((with_reducible refine i_turn (i_cI_lt (i_L3 (i_IA (i_FR (i_A0 ?_)))))); (with_reducible refine i_fldR (by assumption) ?_); (with_reducible refine i_L1 ?_); (with_reducible refine i_in (by assumption) (by omega) (by omega) ?_); (rw [gm4]); (with_reducible refine i_t (by omega) ?_); (with_reducible refine i_If (i_cAnd (i_cZ_ne (i_ZA (i_FR (i_A0 ?_)))))); (with_reducible refine i_fldR (by assumption) ?_); (with_reducible refine i_Add (i_Mul (i_I (i_L1 (i_L3 ?_))))); rw [zx_cmul (by omega)]; rw [zx_add (by omega)]; (with_reducible refine i_in (by assumption) (by omega) (by omega) ?_); (rw [gH]); rw [zbI_f]; (with_reducible refine i_f (by omega) ?_); (with_reducible refine i_up (i_Inc3 ?_)); rw [zx_inc (by omega)]; simp only [w_set0, w_set1, w_setn0, w_setn1])
      exact hX4 _ _ ⟨⟨_, rfl⟩, f4, by rw [hgap, hsu]; exact w4, by rw [hgap, hsu]; exact hle4⟩
    · rw [e, if_pos rfl] at hsu
      rw [e] at gH
      ((with_reducible refine i_turn (i_cI_lt (i_L3 (i_IA (i_FR (i_A0 ?_)))))); (with_reducible refine i_fldR (by assumption) ?_); (with_reducible refine i_L1 ?_); (with_reducible refine i_in (by assumption) (by omega) (by omega) ?_); (rw [gm4]); (with_reducible refine i_t (by omega) ?_); (with_reducible refine i_If (i_cAnd (i_cZ_ne (i_ZA (i_FR (i_A0 ?_)))))); (with_reducible refine i_fldR (by assumption) ?_); (with_reducible refine i_Add (i_Mul (i_I (i_L1 (i_L3 ?_))))); rw [zx_cmul (by omega)]; rw [zx_add (by omega)]; (with_reducible refine i_in (by assumption) (by omega) (by omega) ?_); (rw [gH]); rw [zbI_t]; (with_reducible refine i_t (by omega) ?_); (with_reducible refine i_cZ_ne (i_Call (i_as1 (i_A0 (i_as1 (i_I (i_as1 (i_L3 (i_as1 (i_I (i_as1 (i_L2 (i_as0 ?_))))))))))))); (with_reducible refine i_recv0 (by assumption) ?_))
      refine m_meets hO hS (s := 3) (b := -1) w4 (by omega) hk (fun z M5 f5 w5 => ⟨_, rfl, ?_⟩) (fun z M5 f5 w5 a1 a2 a3 => ⟨_, rfl, ?_⟩)
      · ((with_reducible refine i_f (by omega) ?_); (with_reducible refine i_up (i_Inc3 ?_)); rw [zx_inc (by omega)]; simp only [w_set0, w_set1, w_setn0, w_setn1])
        exact hX4 _ _ ⟨⟨_, rfl⟩, fun b j q => by rw [f5 b j q, f4 b j q], by rw [hgap, hsu]; exact w5, by rw [hgap, hsu]; omega⟩
      · ((with_reducible refine i_t (by omega) ?_); (with_reducible refine i_RetZ (i_I ?_)); (with_reducible refine i_z (Or.inr rfl) ?_))
        refine h1 (768 + 16 * i) (by omega) (by rw [zWs_h (by omega)]; exact e) (by omega) M5 (fun b j q => by rw [f5 b j q, f4 b j (by omega)]) (by rw [a1, show (768 + 16 * i) / 256 = 3 by omega]) (by rw [a2, show (768 + 16 * i) / 16 % 16 = i by omega]) (by rw [a3]; unfold zw2; rw [if_neg (by omega)])
  clear f3 w3 hle3 gn3
  rintro ρ M4 X4 ⟨⟨l4, rfl⟩, f4, w4, hle4⟩
  have hg3 : zcnt (zWsn A) 1024 = zcnt (zWsn A) (768 + 16 * tm A) := zcnt_gap (by omega) (fun c c1 c2 => zWs_no hn2 hw (by omega))
  rw [← hg3] at w4 hle4
  have gm4 : M4 ((258 : Nat) : Int) ((t : Nat) : Int) = ((tm A : Nat) : Int) := (f4 _ _ (by omega)).trans g1
  ((with_reducible refine i_turn (i_cI_lt (i_L3 (i_IA (i_FR (i_A0 ?_)))))); (with_reducible refine i_fldR (by assumption) ?_); (with_reducible refine i_L1 ?_); (with_reducible refine i_in (by assumption) (by omega) (by omega) ?_); (rw [gm4]); (with_reducible refine i_f (by omega) ?_); (with_reducible refine i_RetZ (i_I ?_)); (with_reducible refine i_z (Or.inl rfl) ?_))
  exact h0 hle4 M4 f4 w4
theorem m_wordsOf {O : zOm} (hO : zWld O) (hS : zS O = zmS zC0) {t n : Nat} {A : zTl} {M : zMem} {K : Option zV → zMem → Prop} (ht : t < 7) (hn : M 250 ((1 : Nat) : Int) = ((n : Nat) : Int)) (hn2 : n ≤ 16) (hA : rTe M t n A) (hw : zTw n A)
    (hk : ∀ M', (∀ b j, ¬ (b = 250 ∧ j = 50) → M' b j = M b j) → K (some (0, ((zcnt (zWsn A) 1024 : Nat) : Int))) M') : zR O F_Model_wordsOf [(2, 250), (0, ((t : Nat) : Int))] M K := by
  apply r_Model_wordsOf hO
  unfold B_Model_wordsOf
  have f50 := zMF (k := 50) hS rfl; have zo := zMO hS
  ((with_reducible refine i_Seq (i_Set (i_Call (i_as1 (i_A0 (i_as1 (i_L1 (i_as1 (i_I (i_as0 ?_)))))))))); (with_reducible refine i_recv0 (by assumption) ?_); simp only [w_set0, w_set1, w_setn0, w_setn1])
  refine m_seeks hO hS ht hn hn2 hA hw ⟨by decide, by decide⟩ (by omega) (fun _ M1 f1' w1 => ⟨_, rfl, ?_⟩) (fun c c1 c2 c3 => absurd c3 (by omega))
  ((with_reducible refine i_RetI (i_F (i_A0 ?_))); (with_reducible refine i_fld (by assumption) ?_); (rw [w1]))
  exact hk M1 f1'
end
section
-- part h1.outer.lean.txt
/-! ===== rounds, coarsest, nearly, bests, bound: whole calls ===== -/
theorem zPar179 {S : List zSh} (hS : S = zmS zC0) : zPar S 179 := zParB.to hS (by decide +kernel)
theorem m_rounds {O : zOm} (hO : zWld O) (hS : zS O = zmS zC0) {n : Nat} {μ : Nat → Nat} {T : Nat → Nat → Bool} {M : zMem} {K : Option zV → zMem → Prop} (hn : M 250 ((1 : Nat) : Int) = ((n : Nat) : Int)) (hn1 : 0 < n) (hn2 : n ≤ 16) (hT : rMx M 251 T) (hT0 : ∀ a, T a a = false) (hμ : ∀ r : Nat, r < n → M ((252 : Nat) : Int) ((r : Nat) : Int) = ((μ r : Nat) : Int) ∧ μ r < 100)
    (hk : ∀ M', (∀ b j, ¬ (b = ((292 : Nat) : Int) ∨ b = ((293 : Nat) : Int)) → M' b j = M b j) → K (some (0, ((zrR n T μ : Nat) : Int))) M') : zR O F_Model_rounds [(2, 250)] M K := by
  apply r_Model_rounds hO
  unfold B_Model_rounds
  have zo := zMO hS
  ((with_reducible refine i_RetI (i_Call (i_as1 (i_A0 (i_as0 ?_))))); (with_reducible refine i_recv0 (by assumption) ?_))
  refine m_refine hO hS hn hn1 hn2 hT hT0 hμ (fun M1 f1 h1 => ⟨_, rfl, ?_⟩)
  (skip)
  exact hk M1 f1
theorem m_coarsest_bad {O : zOm} (hO : zWld O) (hS : zS O = zmS zC0) {n : Nat} {x : Int} {M : zMem} {K : Option zV → zMem → Prop} (hn : M 250 ((1 : Nat) : Int) = ((n : Nat) : Int)) (hb : ¬ (0 ≤ x ∧ x < ((n : Nat) : Int))) (hk : K (some (0, -1)) M) : zR O F_Model_coarsest [(2, 250), (0, x)] M K := by
  apply r_Model_coarsest hO
  unfold B_Model_coarsest
  have f57 := zMF (k := 57) hS rfl; have a292 := zMA (a := 292) (ty := .int) (n := 16) hS rfl; have zo := zMO hS
  ((with_reducible refine i_Seq (i_If (i_cNot (i_cZ_ne (i_Call (i_as1 (i_A0 (i_as1 (i_L1 (i_as0 ?_)))))))))); (with_reducible refine i_recv0 (by assumption) ?_); (refine m_isPost hO hS hn ⟨_, rfl, ?_⟩); (rw [decide_eq_false hb]); rw [zbI_f]; (with_reducible refine i_f (by omega) ?_); (with_reducible refine i_RetI (i_I ?_)))
  exact hk
theorem m_coarsest {O : zOm} (hO : zWld O) (hS : zS O = zmS zC0) {n x : Nat} {μ : Nat → Nat} {T : Nat → Nat → Bool} {M : zMem} {K : Option zV → zMem → Prop} (hn : M 250 ((1 : Nat) : Int) = ((n : Nat) : Int)) (hn1 : 0 < n) (hn2 : n ≤ 16) (hT : rMx M 251 T) (hT0 : ∀ a, T a a = false) (hμ : ∀ r : Nat, r < n → M ((252 : Nat) : Int) ((r : Nat) : Int) = ((μ r : Nat) : Int) ∧ μ r < 100) (hx : x < n)
    (hk : ∀ M', (∀ b j, ¬ (b = ((292 : Nat) : Int) ∨ b = ((293 : Nat) : Int)) → M' b j = M b j) → K (some (0, ((zcr n T μ (zrR n T μ + 1) x : Nat) : Int))) M') : zR O F_Model_coarsest [(2, 250), (0, ((x : Nat) : Int))] M K := by
  apply r_Model_coarsest hO
  unfold B_Model_coarsest
  have f57 := zMF (k := 57) hS rfl; have a292 := zMA (a := 292) (ty := .int) (n := 16) hS rfl; have zo := zMO hS
  ((with_reducible refine i_Seq (i_If (i_cNot (i_cZ_ne (i_Call (i_as1 (i_A0 (i_as1 (i_L1 (i_as0 ?_)))))))))); (with_reducible refine i_recv0 (by assumption) ?_); (refine m_isPost hO hS hn ⟨_, rfl, ?_⟩); (rw [decide_eq_true (show 0 ≤ ((x : Nat) : Int) ∧ ((x : Nat) : Int) < ((n : Nat) : Int) by omega)]); rw [zbI_t]; (with_reducible refine i_t (by omega) ?_); (with_reducible refine i_Seq (i_Set (i_Call (i_as1 (i_A0 (i_as0 ?_)))))); (with_reducible refine i_recv0 (by assumption) ?_); simp only [w_set0, w_set1, w_setn0, w_setn1])
  refine m_refine hO hS hn hn1 hn2 hT hT0 hμ (fun M1 f1 h1 => ⟨_, rfl, ?_⟩)
  have g := h1 x hx
  ((with_reducible refine i_RetI (i_IA (i_FR (i_A0 ?_)))); (with_reducible refine i_fldR (by assumption) ?_); (with_reducible refine i_L1 ?_); (with_reducible refine i_in (by assumption) (by omega) (by omega) ?_); (rw [g]))
  exact hk M1 f1
/-! the class -/
theorem c_rounds {O : zOm} (hO : zWld O) (hS : zS O = zmS zC0) {n td c : Nat} {N : Nat → Nat → Nat → Bool} {μ : Nat → Nat} {M : zMem} {K : Option zV → zMem → Prop} (hD : cDy M n td c N) (htd : td < 41) (hn1 : 0 < n) (hn2 : n ≤ 16) (hμ : ∀ r : Nat, r < n → M ((2 : Nat) : Int) ((r : Nat) : Int) = ((μ r : Nat) : Int) ∧ μ r ≤ 16)
    (hk : ∀ M', (∀ b j, ¬ (((179 : Nat) : Int) ≤ b ∧ b ≤ ((182 : Nat) : Int)) → M' b j = M b j) → K (some (0, ((zrR n (N td) μ : Nat) : Int))) M') : zR O F_ToldNet_rounds [(2, ((0 : Nat) : Int))] M K := by
  obtain ⟨h1, h2, h3, h4⟩ := hD
  have hp := zPar179 hS
  have hp0 := hp.1
  have o1 := zo_1 hS
  have f1_0 := zf_1_0 hS
  apply r_ToldNet_rounds hO
  unfold B_ToldNet_rounds
  have f0_12 := zf_0_12 hS; have f0_0 := zf_0_0 hS; have f1_0 := zf_1_0 hS; have a2 := zCA (a := 2) (ty := .int) (n := 16) hS rfl; have z0 := zo_0 hS; have z1 := zo_1 hS
  ((with_reducible refine i_RetI (i_Call (i_as1 (i_FR (i_A0 ?_))))); (with_reducible refine i_fldR (by assumption) ?_); (with_reducible refine i_as1 (i_Call (i_as1 (i_FR (i_A0 ?_))))); (with_reducible refine i_fldR (by assumption) ?_); (with_reducible refine i_as0 ?_); (with_reducible refine i_recv0 (by assumption) ?_); (refine c_now hO hS h2 htd ⟨_, rfl, ?_⟩); (with_reducible refine i_as1 (i_FR (i_FR (i_A0 ?_)))); (with_reducible refine i_fldR (by assumption) ?_); (with_reducible refine i_fldR (by assumption) ?_); (with_reducible refine i_as0 ?_); (with_reducible refine i_recv0 (by assumption) ?_))
  refine c_refine hO hS hp (by omega) (zNetD hS htd) (by omega) (h4 td (Nat.le_refl _)) hn1 hn2 hμ (fun M1 f1 g1 => ⟨_, rfl, ?_⟩)
  (skip)
  exact hk M1 (fun b j q => f1 b j (by omega))
theorem c_coarsest_bad {O : zOm} (hO : zWld O) (hS : zS O = zmS zC0) {n : Nat} {x : Int} {M : zMem} {K : Option zV → zMem → Prop} (hP : M ((1 : Nat) : Int) ((2 : Nat) : Int) = ((n : Nat) : Int)) (hb : ¬ (0 ≤ x ∧ x < ((n : Nat) : Int))) (hk : K (some (0, -1)) M) : zR O F_ToldNet_coarsest [(2, ((0 : Nat) : Int)), (0, x)] M K := by
  have o1 := zo_1 hS
  apply r_ToldNet_coarsest hO
  unfold B_ToldNet_coarsest
  have f0_0 := zf_0_0 hS; have f0_12 := zf_0_12 hS; have f1_0 := zf_1_0 hS; have a2 := zCA (a := 2) (ty := .int) (n := 16) hS rfl; have z0 := zo_0 hS; have z1 := zo_1 hS
  ((with_reducible refine i_Seq (i_If (i_cNot (i_cZ_ne (i_Call (i_as1 (i_FR (i_A0 ?_)))))))); (with_reducible refine i_fldR (by assumption) ?_); (with_reducible refine i_as1 (i_L1 (i_as0 ?_))); (with_reducible refine i_recv0 (by assumption) ?_); (refine c_isPost hO hS hP ⟨_, rfl, ?_⟩); (rw [decide_eq_false hb]); rw [zbI_f]; (with_reducible refine i_f (by omega) ?_); (with_reducible refine i_RetI (i_I ?_)))
  exact hk
theorem c_coarsest {O : zOm} (hO : zWld O) (hS : zS O = zmS zC0) {n td c x : Nat} {N : Nat → Nat → Nat → Bool} {μ : Nat → Nat} {M : zMem} {K : Option zV → zMem → Prop} (hD : cDy M n td c N) (htd : td < 41) (hn1 : 0 < n) (hn2 : n ≤ 16) (hμ : ∀ r : Nat, r < n → M ((2 : Nat) : Int) ((r : Nat) : Int) = ((μ r : Nat) : Int) ∧ μ r ≤ 16) (hx : x < n)
    (hk : ∀ M', (∀ b j, ¬ (((179 : Nat) : Int) ≤ b ∧ b ≤ ((182 : Nat) : Int)) → M' b j = M b j) → K (some (0, ((zcr n (N td) μ (zrR n (N td) μ + 1) x : Nat) : Int))) M') : zR O F_ToldNet_coarsest [(2, ((0 : Nat) : Int)), (0, ((x : Nat) : Int))] M K := by
  obtain ⟨h1, h2, h3, h4⟩ := hD
  have hp := zPar179 hS
  have hp0 := hp.1
  have hp1 : zFld (zS O) ((179 : Nat) : Int) 3 0 = some (some (some 180)) := hp.2.1
  have hp7 : zArr (zS O) ((180 : Nat) : Int) .int 16 := hp.2.2.2.2.2.2.1
  have o1 := zo_1 hS
  apply r_ToldNet_coarsest hO
  unfold B_ToldNet_coarsest
  have f0_0 := zf_0_0 hS; have f0_12 := zf_0_12 hS; have f1_0 := zf_1_0 hS; have a2 := zCA (a := 2) (ty := .int) (n := 16) hS rfl; have z0 := zo_0 hS; have z1 := zo_1 hS
  ((with_reducible refine i_Seq (i_If (i_cNot (i_cZ_ne (i_Call (i_as1 (i_FR (i_A0 ?_)))))))); (with_reducible refine i_fldR (by assumption) ?_); (with_reducible refine i_as1 (i_L1 (i_as0 ?_))); (with_reducible refine i_recv0 (by assumption) ?_); (refine c_isPost hO hS h1 ⟨_, rfl, ?_⟩); (rw [decide_eq_true (show 0 ≤ ((x : Nat) : Int) ∧ ((x : Nat) : Int) < ((n : Nat) : Int) by omega)]); rw [zbI_t]; (with_reducible refine i_t (by omega) ?_); (with_reducible refine i_Seq (i_Pop (i_Call (i_as1 (i_FR (i_A0 ?_)))))); (with_reducible refine i_fldR (by assumption) ?_); (with_reducible refine i_as1 (i_Call (i_as1 (i_FR (i_A0 ?_))))); (with_reducible refine i_fldR (by assumption) ?_); (with_reducible refine i_as0 ?_); (with_reducible refine i_recv0 (by assumption) ?_); (refine c_now hO hS h2 htd ⟨_, rfl, ?_⟩); (with_reducible refine i_as1 (i_FR (i_FR (i_A0 ?_)))); (with_reducible refine i_fldR (by assumption) ?_); (with_reducible refine i_fldR (by assumption) ?_); (with_reducible refine i_as0 ?_); (with_reducible refine i_recv0 (by assumption) ?_))
  refine c_refine hO hS hp (by omega) (zNetD hS htd) (by omega) (h4 td (Nat.le_refl _)) hn1 hn2 hμ (fun M1 f1 g1 => ⟨_, rfl, ?_⟩)
  have g : M1 ((180 : Nat) : Int) ((x : Nat) : Int) = _ := g1.2.2.1 x hx
  rw [zcr_cg hn1] at g
  ((with_reducible refine i_RetI (i_IA (i_FR (i_FR (i_A0 ?_))))); (with_reducible refine i_fldR (by assumption) ?_); (with_reducible refine i_fldR (by assumption) ?_); (with_reducible refine i_L1 ?_); (with_reducible refine i_in (by assumption) (by omega) (by omega) ?_); (rw [g]))
  exact hk M1 (fun b j q => f1 b j (by omega))
theorem c_nearly_bad {O : zOm} (hO : zWld O) (hS : zS O = zmS zC0) {n : Nat} {a b : Int} {M : zMem} {K : Option zV → zMem → Prop} (hP : M ((1 : Nat) : Int) ((2 : Nat) : Int) = ((n : Nat) : Int)) (hb : ¬ ((0 ≤ b ∧ b < ((n : Nat) : Int)) ∧ 0 ≤ a ∧ a ≤ 14)) (hk : K (some (0, -1)) M) : zR O F_ToldNet_nearly [(2, ((0 : Nat) : Int)), (0, a), (0, b)] M K := by
  have o1 := zo_1 hS
  apply r_ToldNet_nearly hO
  unfold B_ToldNet_nearly
  have f0_0 := zf_0_0 hS; have f0_12 := zf_0_12 hS; have f1_0 := zf_1_0 hS; have a2 := zCA (a := 2) (ty := .int) (n := 16) hS rfl; have z0 := zo_0 hS; have z1 := zo_1 hS
  (focus ((with_reducible refine i_Seq (i_If (i_cOr (i_cOr (i_cNot (i_cZ_ne (i_Call (i_as1 (i_FR (i_A0 ?_)))))))))); (with_reducible refine i_fldR (by assumption) ?_); (with_reducible refine i_as1 (i_L2 (i_as0 ?_))); (with_reducible refine i_recv0 (by assumption) ?_); (refine c_isPost hO hS hP ⟨_, rfl, ?_⟩); (with_reducible refine i_dne ?_ ?_ <;> intro hc); (focus ((with_reducible refine i_cZ_lt (i_L1 ?_)); (with_reducible refine i_br ?_ ?_ <;> intro hc); (focus ((with_reducible refine i_RetI (i_I ?_)))); rotate_left; (focus ((with_reducible refine i_cI_gt (i_L1 (i_I ?_))); (with_reducible refine i_t (by omega) ?_); (with_reducible refine i_RetI (i_I ?_)))); rotate_right)); rotate_left 2; (focus ((with_reducible refine i_RetI (i_I ?_)))); rotate_right 2))
  all_goals first | exact hk | (exfalso; omega)
theorem c_nearly {O : zOm} (hO : zWld O) (hS : zS O = zmS zC0) {n td c k x : Nat} {N : Nat → Nat → Nat → Bool} {μ : Nat → Nat} {M : zMem} {K : Option zV → zMem → Prop} (hD : cDy M n td c N) (htd : td < 41) (hT : zReg n (N td)) (hn2 : n ≤ 16) (hμ : ∀ r : Nat, r < n → M ((2 : Nat) : Int) ((r : Nat) : Int) = ((μ r : Nat) : Int)) (hx : x < n) (hk14 : k ≤ 14)
    (hk : ∀ M', (∀ b j, ¬ (((179 : Nat) : Int) ≤ b ∧ b ≤ ((182 : Nat) : Int)) → M' b j = M b j) → K (some (0, (((zgc n k μ (N td) n).1 x : Nat) : Int))) M') : zR O F_ToldNet_nearly [(2, ((0 : Nat) : Int)), (0, ((k : Nat) : Int)), (0, ((x : Nat) : Int))] M K := by
  obtain ⟨h1, h2, h3, h4⟩ := hD
  have hp := zPar179 hS
  have hp0 := hp.1
  have hp1 : zFld (zS O) ((179 : Nat) : Int) 3 0 = some (some (some 180)) := hp.2.1
  have hp7 : zArr (zS O) ((180 : Nat) : Int) .int 16 := hp.2.2.2.2.2.2.1
  have o1 := zo_1 hS
  apply r_ToldNet_nearly hO
  unfold B_ToldNet_nearly
  have f0_0 := zf_0_0 hS; have f0_12 := zf_0_12 hS; have f1_0 := zf_1_0 hS; have a2 := zCA (a := 2) (ty := .int) (n := 16) hS rfl; have z0 := zo_0 hS; have z1 := zo_1 hS
  ((with_reducible refine i_Seq (i_If (i_cOr (i_cOr (i_cNot (i_cZ_ne (i_Call (i_as1 (i_FR (i_A0 ?_)))))))))); (with_reducible refine i_fldR (by assumption) ?_); (with_reducible refine i_as1 (i_L2 (i_as0 ?_))); (with_reducible refine i_recv0 (by assumption) ?_); (refine c_isPost hO hS h1 ⟨_, rfl, ?_⟩); (rw [decide_eq_true (show 0 ≤ ((x : Nat) : Int) ∧ ((x : Nat) : Int) < ((n : Nat) : Int) by omega)]); rw [zbI_t]; (with_reducible refine i_t (by omega) ?_); (with_reducible refine i_cZ_lt (i_L1 ?_)); (with_reducible refine i_f (by omega) ?_); (with_reducible refine i_cI_gt (i_L1 (i_I ?_))); (with_reducible refine i_f (by omega) ?_); (with_reducible refine i_Seq (i_sCall (i_as1 (i_FR (i_A0 ?_))))); (with_reducible refine i_fldR (by assumption) ?_); (with_reducible refine i_as1 (i_Call (i_as1 (i_FR (i_A0 ?_))))); (with_reducible refine i_fldR (by assumption) ?_); (with_reducible refine i_as0 ?_); (with_reducible refine i_recv0 (by assumption) ?_); (refine c_now hO hS h2 htd ⟨_, rfl, ?_⟩); (with_reducible refine i_as1 (i_FR (i_FR (i_A0 ?_)))); (with_reducible refine i_fldR (by assumption) ?_); (with_reducible refine i_fldR (by assumption) ?_); (with_reducible refine i_as1 (i_L1 (i_as0 ?_))); (with_reducible refine i_recv0 (by assumption) ?_))
  refine c_group hO hS hp (by omega) (zNetD hS htd) (by omega) (h4 td (Nat.le_refl _)) hT hn2 hμ hk14 (fun M1 f1 g1 => ⟨rfl, ?_⟩)
  have g : M1 ((180 : Nat) : Int) ((x : Nat) : Int) = _ := g1 x hx
  ((with_reducible refine i_RetI (i_IA (i_FR (i_FR (i_A0 ?_))))); (with_reducible refine i_fldR (by assumption) ?_); (with_reducible refine i_fldR (by assumption) ?_); (with_reducible refine i_L2 ?_); (with_reducible refine i_in (by assumption) (by omega) (by omega) ?_); (rw [g]))
  exact hk M1 (fun b j q => f1 b j (by omega))
theorem c_bound {O : zOm} (hO : zWld O) (hS : zS O = zmS zC0) {n td c : Nat} {N : Nat → Nat → Nat → Bool} {M : zMem} {K : Option zV → zMem → Prop} (hD : cDy M n td c N) (htd : td < 41) (hT : zReg n (N td)) (hn1 : 0 < n) (hn2 : n ≤ 16)
    (hk : ∀ M', (∀ b j, ¬ (((112 : Nat) : Int) ≤ b ∧ b ≤ ((115 : Nat) : Int) ∨ b = ((132 : Nat) : Int) ∨ b = ((133 : Nat) : Int)) → M' b j = M b j) → K (some (0, ((n * zBits n + zbd n (N td) (n - 1) : Nat) : Int))) M') : zR O F_ToldNet_bound [(2, ((0 : Nat) : Int))] M K := by
  obtain ⟨h1, h2, h3, h4⟩ := hD
  have o1 := zo_1 hS
  apply r_ToldNet_bound hO
  unfold B_ToldNet_bound
  have f0_7 := zf_0_7 hS; have f0_0 := zf_0_0 hS; have z0 := zo_0 hS; have z1 := zo_1 hS; have z108 := zo_108 hS
  ((with_reducible refine i_RetI (i_Call (i_as1 (i_FR (i_A0 ?_))))); (with_reducible refine i_fldR (by assumption) ?_); (with_reducible refine i_as1 (i_Call (i_as1 (i_FR (i_A0 ?_))))); (with_reducible refine i_fldR (by assumption) ?_); (with_reducible refine i_as0 ?_); (with_reducible refine i_recv0 (by assumption) ?_); (refine c_now hO hS h2 htd ⟨_, rfl, ?_⟩); (with_reducible refine i_as0 ?_); (with_reducible refine i_recv0 (by assumption) ?_))
  refine c_boundBelow hO hS (zNetD hS htd) (by omega) (h4 td (Nat.le_refl _)) hT hn1 hn2 (fun M1 f1 => ⟨_, rfl, ?_⟩)
  (skip)
  exact hk M1 f1
theorem c_bests_bad {O : zOm} (hO : zWld O) (hS : zS O = zmS zC0) {n : Nat} {M : zMem} {K : Option zV → zMem → Prop} (hP : M ((1 : Nat) : Int) ((2 : Nat) : Int) = ((n : Nat) : Int)) (hn2 : 8 < n) (hk : K (some (0, -1)) M) : zR O F_ToldNet_bests [(2, ((0 : Nat) : Int))] M K := by
  have o1 := zo_1 hS
  apply r_ToldNet_bests hO
  unfold B_ToldNet_bests
  have f0_0 := zf_0_0 hS; have f1_2 := zf_1_2 hS; have f0_7 := zf_0_7 hS; have f0_12 := zf_0_12 hS; have z0 := zo_0 hS; have z1 := zo_1 hS; have z108 := zo_108 hS
  ((with_reducible refine i_RetI (i_eIf (i_cI_gt (i_F (i_FR (i_A0 ?_)))))); (with_reducible refine i_fldR (by assumption) ?_); (with_reducible refine i_fld (by assumption) ?_); (with_reducible refine i_I ?_); (rw [hP]); (with_reducible refine i_t (by omega) ?_); (with_reducible refine i_I ?_))
  exact hk
theorem c_bests {O : zOm} (hO : zWld O) (hS : zS O = zmS zC0) {n td c K0 : Nat} {N : Nat → Nat → Nat → Bool} {M : zMem} {K : Option zV → zMem → Prop} (hD : cDy M n td c N) (htd : td < 41) (hT : zReg n (N td)) (hn1 : 0 < n) (hn2 : n ≤ 8) (hE : zgE n K0) (hK0 : K0 < 100000)
    (hk : ∀ M', (∀ b j, ¬ (((108 : Nat) : Int) ≤ b ∧ b ≤ ((131 : Nat) : Int) ∨ ((179 : Nat) : Int) ≤ b ∧ b ≤ ((182 : Nat) : Int)) → M' b j = M b j) → K (some (0, (((zLs n (N td) K0).2.1 : Nat) : Int))) M') : zR O F_ToldNet_bests [(2, ((0 : Nat) : Int))] M K := by
  obtain ⟨h1, h2, h3, h4⟩ := hD
  have o1 := zo_1 hS
  apply r_ToldNet_bests hO
  unfold B_ToldNet_bests
  have f0_0 := zf_0_0 hS; have f1_2 := zf_1_2 hS; have f0_7 := zf_0_7 hS; have f0_12 := zf_0_12 hS; have z0 := zo_0 hS; have z1 := zo_1 hS; have z108 := zo_108 hS
  ((with_reducible refine i_RetI (i_eIf (i_cI_gt (i_F (i_FR (i_A0 ?_)))))); (with_reducible refine i_fldR (by assumption) ?_); (with_reducible refine i_fld (by assumption) ?_); (with_reducible refine i_I ?_); (rw [h1]); (with_reducible refine i_f (by omega) ?_); (with_reducible refine i_Call (i_as1 (i_FR (i_A0 ?_)))); (with_reducible refine i_fldR (by assumption) ?_); (with_reducible refine i_as1 (i_Call (i_as1 (i_FR (i_A0 ?_))))); (with_reducible refine i_fldR (by assumption) ?_); (with_reducible refine i_as0 ?_); (with_reducible refine i_recv0 (by assumption) ?_); (refine c_now hO hS h2 htd ⟨_, rfl, ?_⟩); (with_reducible refine i_as1 (i_FR (i_A0 ?_))); (with_reducible refine i_fldR (by assumption) ?_); (with_reducible refine i_as0 ?_); (with_reducible refine i_recv0 (by assumption) ?_))
  refine c_partLeast hO hS (zNetD hS htd) (by omega) (zPar179 hS) (by omega) (h4 td (Nat.le_refl _)) hT hn1 (by omega) hE hK0 (fun M1 f1 g1 => ⟨_, rfl, ?_⟩)
  (skip)
  exact hk M1 (fun b j q => f1 b j (by omega))
end
section
-- part h2.cdays.lean.txt
/-! ===== the class: back, place, mark, net, tie, tomorrow, compare ===== -/
theorem c_place {O : zOm} (hO : zWld O) (hS : zS O = zmS zC0) {M : zMem} {K : Option zV → zMem → Prop} (hk : K (some (0, M ((0 : Nat) : Int) ((5 : Nat) : Int))) M) : zR O F_ToldNet_place [(2, ((0 : Nat) : Int))] M K := by
  apply r_ToldNet_place hO
  unfold B_ToldNet_place
  have f0_5 := zf_0_5 hS; have z0 := zo_0 hS
  ((with_reducible refine i_RetI (i_F (i_A0 ?_))); (with_reducible refine i_fld (by assumption) ?_))
  exact hk
theorem c_back_bad {O : zOm} (hO : zWld O) (hS : zS O = zmS zC0) {x : Int} {t : Nat} {M : zMem} {K : Option zV → zMem → Prop} (hn : M ((86 : Nat) : Int) ((5 : Nat) : Int) = ((t : Nat) : Int)) (hb : ¬ (0 ≤ x ∧ x ≤ ((t : Nat) : Int))) (hk : K (some (0, -1)) M) : zR O F_ToldNet_back [(2, ((0 : Nat) : Int)), (0, x)] M K := by
  apply r_ToldNet_back hO
  unfold B_ToldNet_back
  have f0_1 := zf_0_1 hS; have f86_5 := zf_86_5 hS; have z0 := zo_0 hS; have z86 := zo_86 hS
  (focus ((with_reducible refine i_Seq (i_If (i_cOr (i_cZ_lt (i_L1 ?_))))); (with_reducible refine i_br ?_ ?_ <;> intro hc); (focus ((with_reducible refine i_RetI (i_I ?_)))); rotate_left; (focus ((with_reducible refine i_cI_gt (i_L1 (i_F (i_FR (i_A0 ?_))))); (with_reducible refine i_fldR (by assumption) ?_); (with_reducible refine i_fld (by assumption) ?_); (rw [hn]); (with_reducible refine i_t (by omega) ?_); (with_reducible refine i_RetI (i_I ?_)))); rotate_right))
  all_goals first | exact hk | (exfalso; omega)
theorem c_back {O : zOm} (hO : zWld O) (hS : zS O = zmS zC0) {x t : Nat} {M : zMem} {K : Option zV → zMem → Prop} (hn : M ((86 : Nat) : Int) ((5 : Nat) : Int) = ((t : Nat) : Int)) (ht : t ≤ 2000) (hx : x ≤ t) (hk : ∀ M', (∀ b j, ¬ (b = ((86 : Nat) : Int) ∧ j = 5) → M' b j = M b j) → M' ((86 : Nat) : Int) ((5 : Nat) : Int) = ((t - x : Nat) : Int) → K (some (0, ((t - x : Nat) : Int))) M') : zR O F_ToldNet_back [(2, ((0 : Nat) : Int)), (0, ((x : Nat) : Int))] M K := by
  apply r_ToldNet_back hO
  unfold B_ToldNet_back
  have f0_1 := zf_0_1 hS; have f86_5 := zf_86_5 hS; have z0 := zo_0 hS; have z86 := zo_86 hS
  ((with_reducible refine i_Seq (i_If (i_cOr (i_cZ_lt (i_L1 ?_))))); (with_reducible refine i_f (by omega) ?_); (with_reducible refine i_cI_gt (i_L1 (i_F (i_FR (i_A0 ?_))))); (with_reducible refine i_fldR (by assumption) ?_); (with_reducible refine i_fld (by assumption) ?_); (rw [hn]); (with_reducible refine i_f (by omega) ?_); (with_reducible refine i_Seq (i_FO (i_FR (i_A0 ?_)))); (with_reducible refine i_fldR (by assumption) ?_); (with_reducible refine i_fld (by assumption) ?_); (with_reducible refine i_L1 ?_); (with_reducible refine i_fld (by assumption) ?_); (with_reducible refine i_RetI (i_F (i_FR (i_A0 ?_)))); (with_reducible refine i_fldR (by assumption) ?_); (with_reducible refine i_fld (by assumption) ?_); rw [zg_s]; (rw [hn]); rw [zx_sub (by omega) (by omega)])
  exact hk _ (fun b j q => by rw [zg_o _ _ (by omega)]) (zg_s _ _ _ _ _)
theorem c_mark_bad {O : zOm} (hO : zWld O) (hS : zS O = zmS zC0) {a v : Int} {n : Nat} {M : zMem} {K : Option zV → zMem → Prop} (hP : M ((1 : Nat) : Int) ((2 : Nat) : Int) = ((n : Nat) : Int)) (hb : ¬ ((0 ≤ a ∧ a < ((n : Nat) : Int)) ∧ 0 ≤ v ∧ v ≤ 3)) (hk : K (some (0, 0)) M) : zR O F_ToldNet_mark [(2, ((0 : Nat) : Int)), (0, a), (0, v)] M K := by
  have o1 := zo_1 hS
  apply r_ToldNet_mark hO
  unfold B_ToldNet_mark
  have f0_0 := zf_0_0 hS; have f1_0 := zf_1_0 hS; have a2 := zCA (a := 2) (ty := .int) (n := 16) hS rfl; have z0 := zo_0 hS; have z1 := zo_1 hS
  (focus ((with_reducible refine i_Seq (i_If (i_cOr (i_cOr (i_cNot (i_cZ_ne (i_Call (i_as1 (i_FR (i_A0 ?_)))))))))); (with_reducible refine i_fldR (by assumption) ?_); (with_reducible refine i_as1 (i_L1 (i_as0 ?_))); (with_reducible refine i_recv0 (by assumption) ?_); (refine c_isPost hO hS hP ⟨_, rfl, ?_⟩); (with_reducible refine i_dne ?_ ?_ <;> intro hc); (focus ((with_reducible refine i_cZ_lt (i_L2 ?_)); (with_reducible refine i_br ?_ ?_ <;> intro hc); (focus ((with_reducible refine i_RetZ (i_I ?_)); (with_reducible refine i_z (Or.inl rfl) ?_))); rotate_left; (focus ((with_reducible refine i_cI_gt (i_L2 (i_I ?_))); (with_reducible refine i_t (by omega) ?_); (with_reducible refine i_RetZ (i_I ?_)); (with_reducible refine i_z (Or.inl rfl) ?_))); rotate_right)); rotate_left 2; (focus ((with_reducible refine i_RetZ (i_I ?_)); (with_reducible refine i_z (Or.inl rfl) ?_))); rotate_right 2))
  all_goals first | exact hk | (exfalso; omega)
theorem c_mark {O : zOm} (hO : zWld O) (hS : zS O = zmS zC0) {a v n : Nat} {M : zMem} {K : Option zV → zMem → Prop} (hP : M ((1 : Nat) : Int) ((2 : Nat) : Int) = ((n : Nat) : Int)) (hn2 : n ≤ 16) (ha : a < n) (hv : v ≤ 3) (hk : ∀ M', (∀ b j, ¬ (b = ((2 : Nat) : Int) ∧ j = ((a : Nat) : Int)) → M' b j = M b j) → M' ((2 : Nat) : Int) ((a : Nat) : Int) = ((v : Nat) : Int) → K (some (0, 1)) M') : zR O F_ToldNet_mark [(2, ((0 : Nat) : Int)), (0, ((a : Nat) : Int)), (0, ((v : Nat) : Int))] M K := by
  have o1 := zo_1 hS
  apply r_ToldNet_mark hO
  unfold B_ToldNet_mark
  have f0_0 := zf_0_0 hS; have f1_0 := zf_1_0 hS; have a2 := zCA (a := 2) (ty := .int) (n := 16) hS rfl; have z0 := zo_0 hS; have z1 := zo_1 hS
  ((with_reducible refine i_Seq (i_If (i_cOr (i_cOr (i_cNot (i_cZ_ne (i_Call (i_as1 (i_FR (i_A0 ?_)))))))))); (with_reducible refine i_fldR (by assumption) ?_); (with_reducible refine i_as1 (i_L1 (i_as0 ?_))); (with_reducible refine i_recv0 (by assumption) ?_); (refine c_isPost hO hS hP ⟨_, rfl, ?_⟩); (rw [decide_eq_true (show 0 ≤ ((a : Nat) : Int) ∧ ((a : Nat) : Int) < ((n : Nat) : Int) by omega)]); rw [zbI_t]; (with_reducible refine i_t (by omega) ?_); (with_reducible refine i_cZ_lt (i_L2 ?_)); (with_reducible refine i_f (by omega) ?_); (with_reducible refine i_cI_gt (i_L2 (i_I ?_))); (with_reducible refine i_f (by omega) ?_); (with_reducible refine i_Seq (i_sIA (i_FR (i_FR (i_A0 ?_))))); (with_reducible refine i_fldR (by assumption) ?_); (with_reducible refine i_fldR (by assumption) ?_); (with_reducible refine i_L1 (i_L2 ?_)); (with_reducible refine i_in (by assumption) (by omega) (by omega) ?_); (with_reducible refine i_RetZ (i_I ?_)); (with_reducible refine i_z (Or.inr rfl) ?_))
  exact hk _ (fun b j q => by rw [zg_o _ _ (by omega)]) (zg_s _ _ _ _ _)
theorem c_dbegin {O : zOm} (hO : zWld O) (hS : zS O = zmS zC0) {n : Nat} {M : zMem} {K : Option zV → zMem → Prop} (hk : ∀ M', (∀ b j, ¬ (b = ((1 : Nat) : Int) ∧ (j = 2 ∨ j = 3 ∨ j = 4) ∨ b = ((2 : Nat) : Int) ∨ b = ((4 : Nat) : Int) ∨ b = ((5 : Nat) : Int)) → M' b j = M b j) → M' ((1 : Nat) : Int) ((2 : Nat) : Int) = ((n : Nat) : Int) → M' ((1 : Nat) : Int) ((3 : Nat) : Int) = 0 → M' ((1 : Nat) : Int) ((4 : Nat) : Int) = 0 → zNR M' 4 n (fun _ _ => false) → (∀ p : Nat, p < 16 → M' ((2 : Nat) : Int) ((p : Nat) : Int) = 0) → K none M') : zR O F_Days_begin [(2, ((1 : Nat) : Int)), (0, ((n : Nat) : Int))] M K := by
  have hy := zNetD hS (d := 0) (by omega)
  have hy4 := hy.2.2.2
  apply r_Days_begin hO
  unfold B_Days_begin
  have f1_2 := zf_1_2 hS; have f1_3 := zf_1_3 hS; have f1_4 := zf_1_4 hS; have f1_1 := zf_1_1 hS; have f1_0 := zf_1_0 hS; have a2 := zCA (a := 2) (ty := .int) (n := 16) hS rfl; have z1 := zo_1 hS
  ((with_reducible refine i_Seq (i_Seq (i_sF (i_A0 (i_L1 ?_))))); (with_reducible refine i_fld (by assumption) ?_); (with_reducible refine i_Seq (i_sF (i_A0 (i_I ?_)))); (with_reducible refine i_fld (by assumption) ?_); (with_reducible refine i_Seq (i_sF (i_A0 (i_I ?_)))); (with_reducible refine i_fld (by assumption) ?_); (with_reducible refine i_Seq (i_sCall (i_as1 (i_RA (i_FR (i_A0 ?_)))))); (with_reducible refine i_fldR (by assumption) ?_); (with_reducible refine i_I ?_); (refine i_ra (zPr_net hS (d := 0) (by omega)) ?_); (with_reducible refine i_as1 (i_L1 (i_as0 ?_))); (with_reducible refine i_recv0 (by assumption) ?_))
  refine s_Net_clear hO (n := 4) hy (fun M1 f1 h1 => ⟨rfl, ?_⟩)
  ((with_reducible refine i_sCall (i_as1 (i_FR (i_A0 ?_)))); (with_reducible refine i_fldR (by assumption) ?_); (with_reducible refine i_as1 (i_I (i_as0 (i_recv1 ?_)))))
  refine s_fill hO a2 (by decide) (fun M2 f2 h2 _ => ⟨rfl, ?_⟩)
  refine hk M2 (fun b j q => ?_) ?_ ?_ ?_ (h1.fr f2 (by simp) (by simp)) (fun p hp => h2 p hp)
  · rw [f2 b (by simp <;> omega), f1 b (by simp <;> omega)]
    rw [zg_o _ _ (by omega), zg_o _ _ (by omega), zg_o _ _ (by omega)]
  · rw [f2 _ (by simp), f1 _ (by simp)]
    rw [zg_o _ _ (by omega), zg_o _ _ (by omega), zg_s]
  · rw [f2 _ (by simp), f1 _ (by simp)]
    rw [zg_o _ _ (by omega), zg_s]
  · rw [f2 _ (by simp), f1 _ (by simp)]
    rw [zg_s]
theorem c_net_bad {O : zOm} (hO : zWld O) (hS : zS O = zmS zC0) {x : Int} {M : zMem} {K : Option zV → zMem → Prop} (hb : ¬ (2 ≤ x ∧ x ≤ 16)) (hk : K (some (0, 0)) M) : zR O F_ToldNet_net [(2, ((0 : Nat) : Int)), (0, x)] M K := by
  apply r_ToldNet_net hO
  unfold B_ToldNet_net
  have f0_0 := zf_0_0 hS; have f0_4 := zf_0_4 hS; have f0_9 := zf_0_9 hS; have f148_7 := zf_148_7 hS; have z0 := zo_0 hS; have z1 := zo_1 hS; have z148 := zo_148 hS
  (focus ((with_reducible refine i_Seq (i_If (i_cOr (i_cI_lt (i_L1 (i_I ?_)))))); (with_reducible refine i_br ?_ ?_ <;> intro hc); (focus ((with_reducible refine i_RetZ (i_I ?_)); (with_reducible refine i_z (Or.inl rfl) ?_))); rotate_left; (focus ((with_reducible refine i_cI_gt (i_L1 (i_I ?_))); (with_reducible refine i_t (by omega) ?_); (with_reducible refine i_RetZ (i_I ?_)); (with_reducible refine i_z (Or.inl rfl) ?_))); rotate_right))
  all_goals first | exact hk | (exfalso; omega)
theorem c_net {O : zOm} (hO : zWld O) (hS : zS O = zmS zC0) {n : Nat} {M : zMem} {K : Option zV → zMem → Prop} (h2 : 2 ≤ n) (h16 : n ≤ 16)
    (hk : ∀ M', (∀ b j, ¬ (b = ((0 : Nat) : Int) ∧ j = 4 ∨ b = ((148 : Nat) : Int) ∧ j = 7 ∨ b = ((1 : Nat) : Int) ∧ (j = 2 ∨ j = 3 ∨ j = 4) ∨ b = ((2 : Nat) : Int) ∨ b = ((4 : Nat) : Int) ∨ b = ((5 : Nat) : Int)) → M' b j = M b j) → cDy M' n 0 0 (fun _ _ _ => false) → M' ((0 : Nat) : Int) ((4 : Nat) : Int) = 0 → M' ((148 : Nat) : Int) ((7 : Nat) : Int) = 0 → (∀ p : Nat, p < 16 → M' ((2 : Nat) : Int) ((p : Nat) : Int) = 0) → K (some (0, 1)) M') : zR O F_ToldNet_net [(2, ((0 : Nat) : Int)), (0, ((n : Nat) : Int))] M K := by
  have o1 := zo_1 hS
  apply r_ToldNet_net hO
  unfold B_ToldNet_net
  have f0_0 := zf_0_0 hS; have f0_4 := zf_0_4 hS; have f0_9 := zf_0_9 hS; have f148_7 := zf_148_7 hS; have z0 := zo_0 hS; have z1 := zo_1 hS; have z148 := zo_148 hS
  ((with_reducible refine i_Seq (i_If (i_cOr (i_cI_lt (i_L1 (i_I ?_)))))); (with_reducible refine i_f (by omega) ?_); (with_reducible refine i_cI_gt (i_L1 (i_I ?_))); (with_reducible refine i_f (by omega) ?_); (with_reducible refine i_Seq (i_sCall (i_as1 (i_FR (i_A0 ?_))))); (with_reducible refine i_fldR (by assumption) ?_); (with_reducible refine i_as1 (i_L1 (i_as0 ?_))); (with_reducible refine i_recv0 (by assumption) ?_))
  refine c_dbegin hO hS (fun M1 f1 g1 g2 g3 g4 g5 => ⟨rfl, ?_⟩)
  ((with_reducible refine i_Seq (i_sF (i_A0 (i_I ?_)))); (with_reducible refine i_fld (by assumption) ?_); (with_reducible refine i_Seq (i_sF (i_FR (i_A0 ?_)))); (with_reducible refine i_fldR (by assumption) ?_); (with_reducible refine i_I ?_); (with_reducible refine i_fld (by assumption) ?_); (with_reducible refine i_RetZ (i_I ?_)); (with_reducible refine i_z (Or.inr rfl) ?_))
  refine hk _ (fun b j q => by rw [zg_o _ _ (by omega), zg_o _ _ (by omega), f1 b j (by omega)]) ⟨?_, ?_, ?_, fun d hd => ?_⟩ ?_ (zg_s _ _ _ _ _) (fun p hp => ?_)
  · rw [zg_o _ _ (by omega), zg_o _ _ (by omega)]; exact g1
  · rw [zg_o _ _ (by omega), zg_o _ _ (by omega)]; exact g2
  · rw [zg_o _ _ (by omega), zg_o _ _ (by omega)]; exact g3
  · obtain rfl : d = 0 := by omega
    exact zNR.to (y := 4) g4 (fun b j a1 a2 => by rw [zg_o _ _ (by omega), zg_o _ _ (by omega)])
  · rw [zg_o _ _ (by omega), zg_s]
  · rw [zg_o _ _ (by omega), zg_o _ _ (by omega)]; exact g5 p hp
theorem c_tie_bad {O : zOm} (hO : zWld O) (hS : zS O = zmS zC0) {a b v : Int} {n td c : Nat} {N : Nat → Nat → Nat → Bool} {M : zMem} {K : Option zV → zMem → Prop} (hD : cDy M n td c N) (htd : td < 41) (hn2 : n ≤ 16) (hb : ((c : Nat) : Int) = 300 ∨ ¬ ((0 ≤ a ∧ a < ((n : Nat) : Int)) ∧ (0 ≤ b ∧ b < ((n : Nat) : Int)) ∧ a ≠ b) ∨ ∀ a' b' : Nat, a = a' → b = b' → zbI (N td a' b') = v) (hc : c ≤ 300) (hk : K (some (0, -1)) M) : zR O F_ToldNet_tie [(2, ((0 : Nat) : Int)), (0, a), (0, b), (0, v)] M K := by
  obtain ⟨h1, h2, h3, h4⟩ := hD
  have o1 := zo_1 hS
  have hy := zNetD hS (d := td) htd
  have hy4 := hy.2.2.2
  apply r_ToldNet_tie hO
  unfold B_ToldNet_tie
  have f0_0 := zf_0_0 hS; have f1_4 := zf_1_4 hS; have z0 := zo_0 hS; have z1 := zo_1 hS
  by_cases e1 : (0 ≤ a ∧ a < ((n : Nat) : Int)) ∧ (0 ≤ b ∧ b < ((n : Nat) : Int)) ∧ a ≠ b
  · obtain ⟨a, rfl⟩ : ∃ a' : Nat, a = ((a' : Nat) : Int) := ⟨a.toNat, by omega⟩
    obtain ⟨b, rfl⟩ : ∃ b' : Nat, b = ((b' : Nat) : Int) := ⟨b.toNat, by omega⟩
    by_cases e2 : c = 300
    · ((with_reducible refine i_Seq (i_If (i_cOr (i_cOr (i_cNot (i_cZ_ne (i_Call (i_as1 (i_FR (i_A0 ?_)))))))))); (with_reducible refine i_fldR (by assumption) ?_); (with_reducible refine i_as1 (i_L1 (i_as1 (i_L2 (i_as0 ?_))))); (with_reducible refine i_recv0 (by assumption) ?_); (refine c_isPair hO hS h1 ⟨_, rfl, ?_⟩); (rw [decide_eq_true e1]); rw [zbI_t]; (with_reducible refine i_t (by omega) ?_); (with_reducible refine i_cI_ge (i_F (i_FR (i_A0 ?_)))); (with_reducible refine i_fldR (by assumption) ?_); (with_reducible refine i_fld (by assumption) ?_); (with_reducible refine i_I ?_); (rw [h3]); (with_reducible refine i_t (by omega) ?_); (with_reducible refine i_RetI (i_I ?_)))
      exact hk
    · have e3 : zbI (N td a b) = v := by
        rcases hb with hb | hb | hb
        · omega
        · exact absurd e1 hb
        · exact hb a b rfl rfl
      ((with_reducible refine i_Seq (i_If (i_cOr (i_cOr (i_cNot (i_cZ_ne (i_Call (i_as1 (i_FR (i_A0 ?_)))))))))); (with_reducible refine i_fldR (by assumption) ?_); (with_reducible refine i_as1 (i_L1 (i_as1 (i_L2 (i_as0 ?_))))); (with_reducible refine i_recv0 (by assumption) ?_); (refine c_isPair hO hS h1 ⟨_, rfl, ?_⟩); (rw [decide_eq_true e1]); rw [zbI_t]; (with_reducible refine i_t (by omega) ?_); (with_reducible refine i_cI_ge (i_F (i_FR (i_A0 ?_)))); (with_reducible refine i_fldR (by assumption) ?_); (with_reducible refine i_fld (by assumption) ?_); (with_reducible refine i_I ?_); (rw [h3]); (with_reducible refine i_f (by omega) ?_); (with_reducible refine i_cI_eq (i_Call (i_as1 (i_Call (i_as1 (i_FR (i_A0 ?_))))))); (with_reducible refine i_fldR (by assumption) ?_); (with_reducible refine i_as0 ?_); (with_reducible refine i_recv0 (by assumption) ?_); (refine c_now hO hS h2 htd ⟨_, rfl, ?_⟩); (with_reducible refine i_as1 (i_L1 (i_as1 (i_L2 (i_as0 ?_))))); (with_reducible refine i_recv0 (by assumption) ?_); (refine s_joins hO hy (h4 td (Nat.le_refl _)) (by omega) (by omega) ⟨_, rfl, ?_⟩); (with_reducible refine i_L3 ?_); (refine i_t e3 ?_); (with_reducible refine i_RetI (i_I ?_)))
      exact hk
  · ((with_reducible refine i_Seq (i_If (i_cOr (i_cOr (i_cNot (i_cZ_ne (i_Call (i_as1 (i_FR (i_A0 ?_)))))))))); (with_reducible refine i_fldR (by assumption) ?_); (with_reducible refine i_as1 (i_L1 (i_as1 (i_L2 (i_as0 ?_))))); (with_reducible refine i_recv0 (by assumption) ?_); (refine c_isPair hO hS h1 ⟨_, rfl, ?_⟩); (rw [decide_eq_false e1]); rw [zbI_f]; (with_reducible refine i_f (by omega) ?_); (with_reducible refine i_RetI (i_I ?_)))
    exact hk
theorem c_tie {O : zOm} (hO : zWld O) (hS : zS O = zmS zC0) {a b n td c : Nat} {v : Bool} {N : Nat → Nat → Nat → Bool} {M : zMem} {K : Option zV → zMem → Prop} (hD : cDy M n td c N) (htd : td < 41) (hn2 : n ≤ 16) (hc : c < 300) (ha : a < n) (hb : b < n) (hab : a ≠ b) (hv : N td a b ≠ v)
    (hk : ∀ M', (∀ b j, ¬ (b = ((1 : Nat) : Int) ∧ j = 4 ∨ b = ((5 + 2 * td : Nat) : Int)) → M' b j = M b j) → cDy M' n td (c + 1) (fun d => if d = td then zflip (N td) a b else N d) → K (some (0, ((c : Nat) : Int))) M') : zR O F_ToldNet_tie [(2, ((0 : Nat) : Int)), (0, ((a : Nat) : Int)), (0, ((b : Nat) : Int)), (0, zbI v)] M K := by
  obtain ⟨h1, h2, h3, h4⟩ := hD
  have o1 := zo_1 hS
  have hy := zNetD hS (d := td) htd
  have hy4 := hy.2.2.2
  have hne : ¬ zbI (N td a b) = zbI v := fun z => hv (zbI_in.mp z)
  apply r_ToldNet_tie hO
  unfold B_ToldNet_tie
  have f0_0 := zf_0_0 hS; have f1_4 := zf_1_4 hS; have z0 := zo_0 hS; have z1 := zo_1 hS
  ((with_reducible refine i_Seq (i_If (i_cOr (i_cOr (i_cNot (i_cZ_ne (i_Call (i_as1 (i_FR (i_A0 ?_)))))))))); (with_reducible refine i_fldR (by assumption) ?_); (with_reducible refine i_as1 (i_L1 (i_as1 (i_L2 (i_as0 ?_))))); (with_reducible refine i_recv0 (by assumption) ?_); (refine c_isPair hO hS h1 ⟨_, rfl, ?_⟩); (rw [decide_eq_true (show (0 ≤ ((a : Nat) : Int) ∧ ((a : Nat) : Int) < ((n : Nat) : Int)) ∧ (0 ≤ ((b : Nat) : Int) ∧ ((b : Nat) : Int) < ((n : Nat) : Int)) ∧ ((a : Nat) : Int) ≠ ((b : Nat) : Int) by omega)]); rw [zbI_t]; (with_reducible refine i_t (by omega) ?_); (with_reducible refine i_cI_ge (i_F (i_FR (i_A0 ?_)))); (with_reducible refine i_fldR (by assumption) ?_); (with_reducible refine i_fld (by assumption) ?_); (with_reducible refine i_I ?_); (rw [h3]); (with_reducible refine i_f (by omega) ?_); (with_reducible refine i_cI_eq (i_Call (i_as1 (i_Call (i_as1 (i_FR (i_A0 ?_))))))); (with_reducible refine i_fldR (by assumption) ?_); (with_reducible refine i_as0 ?_); (with_reducible refine i_recv0 (by assumption) ?_); (refine c_now hO hS h2 htd ⟨_, rfl, ?_⟩); (with_reducible refine i_as1 (i_L1 (i_as1 (i_L2 (i_as0 ?_))))); (with_reducible refine i_recv0 (by assumption) ?_); (refine s_joins hO hy (h4 td (Nat.le_refl _)) (by omega) (by omega) ⟨_, rfl, ?_⟩); (with_reducible refine i_L3 ?_); (refine i_f hne ?_); (with_reducible refine i_Seq (i_sCall (i_as1 (i_Call (i_as1 (i_FR (i_A0 ?_))))))); (with_reducible refine i_fldR (by assumption) ?_); (with_reducible refine i_as0 ?_); (with_reducible refine i_recv0 (by assumption) ?_); (refine c_now hO hS h2 htd ⟨_, rfl, ?_⟩); (with_reducible refine i_as1 (i_L1 (i_as1 (i_L2 (i_as0 ?_))))); (with_reducible refine i_recv0 (by assumption) ?_))
  refine s_Net_flip hO hy (h4 td (Nat.le_refl _)) (show a < 16 by omega) (show b < 16 by omega) hab (fun M1 f1 g1 => ⟨rfl, ?_⟩)
  have g3 : M1 ((1 : Nat) : Int) ((4 : Nat) : Int) = ((c : Nat) : Int) := by rw [f1 _ (by simp <;> omega)]; exact h3
  ((with_reducible refine i_Seq (i_FO (i_FR (i_A0 ?_)))); (with_reducible refine i_fldR (by assumption) ?_); (with_reducible refine i_fld (by assumption) ?_); (with_reducible refine i_I ?_); (with_reducible refine i_fld (by assumption) ?_); (with_reducible refine i_RetI (i_Sub (i_F (i_FR (i_A0 ?_))))); (with_reducible refine i_fldR (by assumption) ?_); (with_reducible refine i_fld (by assumption) ?_); (with_reducible refine i_I ?_); rw [zg_s]; (rw [g3]); rw [zx_inc (by omega)]; rw [zx_subc (by omega) (by omega)])
  refine hk _ (fun b j q => by rw [zg_o _ _ (by omega), f1 b (by simp <;> omega)]) ⟨?_, ?_, zg_s _ _ _ _ _, fun d hd => ?_⟩
  · rw [zg_o _ _ (by omega), f1 _ (by simp <;> omega)]; exact h1
  · rw [zg_o _ _ (by omega), f1 _ (by simp <;> omega)]; exact h2
  · by_cases e : d = td
    · subst e
      dsimp only
      rw [if_pos rfl]
      exact g1.to (fun b j a1 a2 => by rw [zg_o _ _ (by omega)])
    · dsimp only
      rw [if_neg e]
      exact (h4 d hd).to (fun b j a1 a2 => by rw [zg_o _ _ (by omega), f1 b (by simp <;> omega)])
theorem c_dgoOn {O : zOm} (hO : zWld O) (hS : zS O = zmS zC0) {n td c : Nat} {N : Nat → Nat → Nat → Bool} {M : zMem} {K : Option zV → zMem → Prop} (hD : cDy M n td c N) (htd : td < 40)
    (hk : ∀ M', (∀ b j, ¬ (b = ((1 : Nat) : Int) ∧ j = 3 ∨ b = ((6 + 2 * td : Nat) : Int) ∨ b = ((7 + 2 * td : Nat) : Int)) → M' b j = M b j) → cDy M' n (td + 1) c (fun d => if d = td + 1 then N td else N d) → K none M') : zR O F_Days_goOn [(2, ((1 : Nat) : Int))] M K := by
  obtain ⟨h1, h2, h3, h4⟩ := hD
  have hy := zNetD hS (d := td) (by omega)
  have hy1 := zNetD hS (d := td + 1) (by omega)
  have hy4 := hy1.2.2.2
  apply r_Days_goOn hO
  unfold B_Days_goOn
  have f1_1 := zf_1_1 hS; have f1_3 := zf_1_3 hS; have z1 := zo_1 hS
  ((with_reducible refine i_Seq (i_Seq (i_sCall (i_as1 (i_RA (i_FR (i_A0 ?_))))))); (with_reducible refine i_fldR (by assumption) ?_); (with_reducible refine i_Add (i_F (i_A0 ?_))); (with_reducible refine i_fld (by assumption) ?_); (with_reducible refine i_I ?_); (rw [h2]); (rw [zx_inc (a := td) (by omega)]); ((with_reducible refine i_ra (zPr_net hS (d := td + 1) (by omega)) ?_)); (with_reducible refine i_as1 (i_RA (i_FR (i_A0 ?_)))); (with_reducible refine i_fldR (by assumption) ?_); (with_reducible refine i_F (i_A0 ?_)); (with_reducible refine i_fld (by assumption) ?_); (rw [h2]); ((with_reducible refine i_ra (zPr_net hS (d := td) (by omega)) ?_)); (with_reducible refine i_as0 ?_); (with_reducible refine i_recv0 (by assumption) ?_))
  refine s_Net_become hO hy1 hy (h4 td (Nat.le_refl _)) (fun M1 f1 g1 => ⟨rfl, ?_⟩)
  have g2 : M1 ((1 : Nat) : Int) ((3 : Nat) : Int) = ((td : Nat) : Int) := by rw [f1 _ (by simp <;> omega)]; exact h2
  ((with_reducible refine i_FO (i_A0 ?_)); (with_reducible refine i_fld (by assumption) ?_); (with_reducible refine i_I ?_); (with_reducible refine i_fld (by assumption) ?_); (with_reducible refine i_RetV ?_); (rw [g2]); rw [zx_inc (by omega)])
  refine hk _ (fun b j q => by rw [zg_o _ _ (by omega), f1 b (by simp <;> omega)]) ⟨?_, zg_s _ _ _ _ _, ?_, fun d hd => ?_⟩
  · rw [zg_o _ _ (by omega), f1 _ (by simp <;> omega)]; exact h1
  · rw [zg_o _ _ (by omega), f1 _ (by simp <;> omega)]; exact h3
  · by_cases e : d = td + 1
    · subst e
      dsimp only
      rw [if_pos rfl]
      exact g1.to (fun b j a1 a2 => by rw [zg_o _ _ (by omega)])
    · dsimp only
      rw [if_neg e]
      exact (h4 d (by omega)).to (fun b j a1 a2 => by rw [zg_o _ _ (by omega), f1 b (by simp <;> omega)])
theorem c_tomorrow_bad {O : zOm} (hO : zWld O) (hS : zS O = zmS zC0) {M : zMem} {K : Option zV → zMem → Prop} (hd : M ((1 : Nat) : Int) ((3 : Nat) : Int) = ((40 : Nat) : Int)) (hk : K (some (0, -1)) M) : zR O F_ToldNet_tomorrow [(2, ((0 : Nat) : Int))] M K := by
  have hd2 : M ((1 : Nat) : Int) ((3 : Nat) : Int) = 40 := hd
  have o1 := zo_1 hS
  apply r_ToldNet_tomorrow hO
  unfold B_ToldNet_tomorrow
  have f0_0 := zf_0_0 hS; have f1_3 := zf_1_3 hS; have z0 := zo_0 hS; have z1 := zo_1 hS
  ((with_reducible refine i_Seq (i_If (i_cI_ge (i_F (i_FR (i_A0 ?_)))))); (with_reducible refine i_fldR (by assumption) ?_); (with_reducible refine i_fld (by assumption) ?_); (with_reducible refine i_I ?_); (rw [hd2]); (with_reducible refine i_t (by omega) ?_); (with_reducible refine i_RetI (i_I ?_)))
  exact hk
theorem c_tomorrow {O : zOm} (hO : zWld O) (hS : zS O = zmS zC0) {n td c : Nat} {N : Nat → Nat → Nat → Bool} {M : zMem} {K : Option zV → zMem → Prop} (hD : cDy M n td c N) (htd : td < 40)
    (hk : ∀ M', (∀ b j, ¬ (b = ((1 : Nat) : Int) ∧ j = 3 ∨ b = ((6 + 2 * td : Nat) : Int) ∨ b = ((7 + 2 * td : Nat) : Int)) → M' b j = M b j) → cDy M' n (td + 1) c (fun d => if d = td + 1 then N td else N d) → K (some (0, ((td + 1 : Nat) : Int))) M') : zR O F_ToldNet_tomorrow [(2, ((0 : Nat) : Int))] M K := by
  have h2 := hD.2.1
  have o1 := zo_1 hS
  apply r_ToldNet_tomorrow hO
  unfold B_ToldNet_tomorrow
  have f0_0 := zf_0_0 hS; have f1_3 := zf_1_3 hS; have z0 := zo_0 hS; have z1 := zo_1 hS
  ((with_reducible refine i_Seq (i_If (i_cI_ge (i_F (i_FR (i_A0 ?_)))))); (with_reducible refine i_fldR (by assumption) ?_); (with_reducible refine i_fld (by assumption) ?_); (with_reducible refine i_I ?_); (rw [h2]); (with_reducible refine i_f (by omega) ?_); (with_reducible refine i_Seq (i_sCall (i_as1 (i_FR (i_A0 ?_))))); (with_reducible refine i_fldR (by assumption) ?_); (with_reducible refine i_as0 ?_); (with_reducible refine i_recv0 (by assumption) ?_))
  refine c_dgoOn hO hS hD htd (fun M1 f1 g1 => ⟨rfl, ?_⟩)
  have g2 := g1.2.1
  ((with_reducible refine i_RetI (i_F (i_FR (i_A0 ?_)))); (with_reducible refine i_fldR (by assumption) ?_); (with_reducible refine i_fld (by assumption) ?_); (rw [g2]))
  exact hk M1 f1 g1
theorem c_compare_bad {O : zOm} (hO : zWld O) (hS : zS O = zmS zC0) {a b w : Int} {td : Nat} {M : zMem} {K : Option zV → zMem → Prop} (hd : M ((1 : Nat) : Int) ((3 : Nat) : Int) = ((td : Nat) : Int)) (htd : td < 41) (hb : ¬ ((0 ≤ a ∧ a ≤ ((td : Nat) : Int)) ∧ (0 ≤ b ∧ b ≤ ((td : Nat) : Int)) ∧ 0 ≤ w ∧ w ≤ 2)) (hk : K (some (0, -1)) M) : zR O F_ToldNet_compare [(2, ((0 : Nat) : Int)), (0, a), (0, b), (0, w)] M K := by
  have o1 := zo_1 hS
  apply r_ToldNet_compare hO
  unfold B_ToldNet_compare
  have f0_0 := zf_0_0 hS; have z0 := zo_0 hS; have z1 := zo_1 hS
  ((with_reducible refine i_Seq (i_Set (i_Call (i_as1 (i_FR (i_A0 ?_)))))); (with_reducible refine i_fldR (by assumption) ?_); (with_reducible refine i_as1 (i_L1 (i_as0 ?_))); (with_reducible refine i_recv0 (by assumption) ?_); simp only [w_set0, w_set1, w_setn0, w_setn1])
  refine c_on hO hS hd htd (fun hx => ⟨_, rfl, ?_⟩) (fun k e hk1 => ⟨_, rfl, ?_⟩)
  · ((with_reducible refine i_Seq (i_Set (i_Call (i_as1 (i_FR (i_A0 ?_)))))); (with_reducible refine i_fldR (by assumption) ?_); (with_reducible refine i_as1 (i_L2 (i_as0 ?_))); (with_reducible refine i_recv0 (by assumption) ?_); simp only [w_set0, w_set1, w_setn0, w_setn1])
    refine c_on hO hS hd htd (fun hx2 => ⟨_, rfl, ?_⟩) (fun k2 e2 hk2 => ⟨_, rfl, ?_⟩)
    · ((with_reducible refine i_Seq (i_If (i_cOr (i_cOr (i_cOr (i_cN (i_A4 ?_))))))); simp only [w_set0, w_set1, w_setn0, w_setn1]; (with_reducible refine i_t trivial ?_); (with_reducible refine i_RetI (i_I ?_)))
      exact hk
    · ((with_reducible refine i_Seq (i_If (i_cOr (i_cOr (i_cOr (i_cN (i_A4 ?_))))))); simp only [w_set0, w_set1, w_setn0, w_setn1]; (with_reducible refine i_t trivial ?_); (with_reducible refine i_RetI (i_I ?_)))
      exact hk
  · ((with_reducible refine i_Seq (i_Set (i_Call (i_as1 (i_FR (i_A0 ?_)))))); (with_reducible refine i_fldR (by assumption) ?_); (with_reducible refine i_as1 (i_L2 (i_as0 ?_))); (with_reducible refine i_recv0 (by assumption) ?_); simp only [w_set0, w_set1, w_setn0, w_setn1])
    refine c_on hO hS hd htd (fun hx2 => ⟨_, rfl, ?_⟩) (fun k2 e2 hk2 => ⟨_, rfl, ?_⟩)
    · ((with_reducible refine i_Seq (i_If (i_cOr (i_cOr (i_cOr (i_cN (i_A4 ?_))))))); (with_reducible refine i_f (by omega) ?_); (with_reducible refine i_cN (i_A5 ?_)); simp only [w_set0, w_set1, w_setn0, w_setn1]; (with_reducible refine i_t trivial ?_); (with_reducible refine i_RetI (i_I ?_)))
      exact hk
    · (focus ((with_reducible refine i_Seq (i_If (i_cOr (i_cOr (i_cOr (i_cN (i_A4 ?_))))))); (with_reducible refine i_f (by omega) ?_); (with_reducible refine i_cN (i_A5 ?_)); (with_reducible refine i_f (by omega) ?_); (with_reducible refine i_cZ_lt (i_L3 ?_)); (with_reducible refine i_br ?_ ?_ <;> intro hc); (focus ((with_reducible refine i_RetI (i_I ?_)))); rotate_left; (focus ((with_reducible refine i_cI_gt (i_L3 (i_I ?_))); (with_reducible refine i_t (by omega) ?_); (with_reducible refine i_RetI (i_I ?_)))); rotate_right))
      all_goals first | exact hk | (exfalso; omega)
theorem zcmp_sum {n w : Nat} {T U : Nat → Nat → Bool} (hT : zReg n T) (hU : zReg n U) (hn : n ≤ 16) (hw : w ≤ 2) : zP2 (fun p q => zbI (zcmpW w (T p q) (U p q))) n = if w = 0 then ((zboth n T U : Nat) : Int) else (if w = 1 then ((zpairs n T : Nat) : Int) else ((zpairs n U : Nat) : Int)) - ((zboth n T U : Nat) : Int) := by
  have hB : zReg n (fun p q => T p q && U p q) := ⟨fun a b => by show (T a b && U a b) = (T b a && U b a); rw [hT.1 a b, hU.1 a b], fun a => by show (T a a && U a a) = false; rw [hT.2.1]; rfl, fun a b h => hT.2.2 a b (by simp only [Bool.and_eq_true] at h; exact h.1)⟩
  have eB : zboth n T U = zp2 (fun p q => T p q && U p q) n := zpairs_p2 hB hn
  rw [zP2_zp2, zpairs_p2 hT hn, zpairs_p2 hU hn, eB]
  have e1 : zp2 T n = zp2 (fun p q => T p q && !U p q) n + zp2 (fun p q => T p q && U p q) n := zp2_add fun p q _ _ => by cases T p q <;> cases U p q <;> rfl
  have e2 : zp2 U n = zp2 (fun p q => !T p q && U p q) n + zp2 (fun p q => T p q && U p q) n := zp2_add fun p q _ _ => by cases T p q <;> cases U p q <;> rfl
  unfold zcmpW
  rcases (show w = 0 ∨ w = 1 ∨ w = 2 by omega) with rfl | rfl | rfl
  · rw [if_pos rfl]; rfl
  · rw [if_neg (by decide), if_pos rfl, e1]
    show ((zp2 (fun p q => T p q && !U p q) n : Nat) : Int) = _
    omega
  · rw [if_neg (by decide), if_neg (by decide), e2]
    show ((zp2 (fun p q => !T p q && U p q) n : Nat) : Int) = _
    omega
theorem zboth_le {n : Nat} {T U : Nat → Nat → Bool} (hT : zReg n T) (hU : zReg n U) (hn : n ≤ 16) : zboth n T U ≤ zpairs n T ∧ zboth n T U ≤ zpairs n U ∧ zpairs n T ≤ 120 ∧ zpairs n U ≤ 120 := by
  have hB : zReg n (fun p q => T p q && U p q) := ⟨fun a b => by show (T a b && U a b) = (T b a && U b a); rw [hT.1 a b, hU.1 a b], fun a => by show (T a a && U a a) = false; rw [hT.2.1]; rfl, fun a b h => hT.2.2 a b (by simp only [Bool.and_eq_true] at h; exact h.1)⟩
  have eB : zboth n T U = zp2 (fun p q => T p q && U p q) n := zpairs_p2 hB hn
  rw [eB, zpairs_p2 hT hn, zpairs_p2 hU hn]
  refine ⟨zp2_sub fun p q _ _ h => ?_, zp2_sub fun p q _ _ h => ?_, zp2_le _ hn, zp2_le _ hn⟩
  · simp only [Bool.and_eq_true] at h; exact h.1
  · simp only [Bool.and_eq_true] at h; exact h.2
theorem c_compare {O : zOm} (hO : zWld O) (hS : zS O = zmS zC0) {a b n td c w : Nat} {N : Nat → Nat → Nat → Bool} {M : zMem} {K : Option zV → zMem → Prop} (hD : cDy M n td c N) (htd : td < 41) (hn2 : n ≤ 16) (hR : ∀ d, d ≤ td → zReg n (N d)) (ha : a ≤ td) (hb : b ≤ td) (hw : w ≤ 2)
    (hk : K (some (0, zP2 (fun p q => zbI (zcmpW w (N a p q) (N b p q))) n)) M) : zR O F_ToldNet_compare [(2, ((0 : Nat) : Int)), (0, ((a : Nat) : Int)), (0, ((b : Nat) : Int)), (0, ((w : Nat) : Int))] M K := by
  obtain ⟨h1, h2, h3, h4⟩ := hD
  have o1 := zo_1 hS
  have ya := zNetD hS (d := a) (by omega)
  have yb := zNetD hS (d := b) (by omega)
  have ya4 := ya.2.2.2
  have yb4 := yb.2.2.2
  obtain ⟨l1, l2, l3, l4⟩ := zboth_le (hR a ha) (hR b hb) hn2
  rw [zcmp_sum (hR a ha) (hR b hb) hn2 hw] at hk
  apply r_ToldNet_compare hO
  unfold B_ToldNet_compare
  have f0_0 := zf_0_0 hS; have z0 := zo_0 hS; have z1 := zo_1 hS
  ((with_reducible refine i_Seq (i_Set (i_Call (i_as1 (i_FR (i_A0 ?_)))))); (with_reducible refine i_fldR (by assumption) ?_); (with_reducible refine i_as1 (i_L1 (i_as0 ?_))); (with_reducible refine i_recv0 (by assumption) ?_); simp only [w_set0, w_set1, w_setn0, w_setn1])
  refine c_on hO hS h2 htd (fun hx => absurd hx (by omega)) (fun k e hk1 => ⟨_, rfl, ?_⟩)
  obtain rfl : a = k := by omega
  ((with_reducible refine i_Seq (i_Set (i_Call (i_as1 (i_FR (i_A0 ?_)))))); (with_reducible refine i_fldR (by assumption) ?_); (with_reducible refine i_as1 (i_L2 (i_as0 ?_))); (with_reducible refine i_recv0 (by assumption) ?_); simp only [w_set0, w_set1, w_setn0, w_setn1])
  refine c_on hO hS h2 htd (fun hx => absurd hx (by omega)) (fun k2 e2 hk2 => ⟨_, rfl, ?_⟩)
  obtain rfl : b = k2 := by omega
  ((with_reducible refine i_Seq (i_If (i_cOr (i_cOr (i_cOr (i_cN (i_A4 ?_))))))); (with_reducible refine i_f (by omega) ?_); (with_reducible refine i_cN (i_A5 ?_)); (with_reducible refine i_f (by omega) ?_); (with_reducible refine i_cZ_lt (i_L3 ?_)); (with_reducible refine i_f (by omega) ?_); (with_reducible refine i_cI_gt (i_L3 (i_I ?_))); (with_reducible refine i_f (by omega) ?_); (with_reducible refine i_Seq (i_Set (i_Call (i_as1 (i_A4 (i_as1 (i_A5 (i_as0 ?_)))))))); (with_reducible refine i_recv0 (by assumption) ?_); simp only [w_set0, w_set1, w_setn0, w_setn1])
  refine s_Net_pairsIn hO ya (h4 a ha) yb (h4 b hb) hn2 ⟨_, rfl, ?_⟩
  rcases (show w = 0 ∨ w = 1 ∨ w = 2 by omega) with rfl | rfl | rfl
  · rw [if_pos rfl] at hk
    ((with_reducible refine i_Seq (i_If (i_cZ_eq (i_L3 ?_)))); (with_reducible refine i_t (by omega) ?_); (with_reducible refine i_RetI (i_L6 ?_)))
    exact hk
  · rw [if_neg (by decide), if_pos rfl] at hk
    ((with_reducible refine i_Seq (i_If (i_cZ_eq (i_L3 ?_)))); (with_reducible refine i_f (by omega) ?_); (with_reducible refine i_RetI (i_Sub (i_eIf (i_cI_eq (i_L3 (i_I ?_)))))); (with_reducible refine i_t (by omega) ?_); (with_reducible refine i_Call (i_as1 (i_A4 (i_as0 ?_)))); (with_reducible refine i_recv0 (by assumption) ?_); (refine s_Net_pairs hO ya (h4 a ha) hn2 ⟨_, rfl, ?_⟩); (with_reducible refine i_L6 ?_); rw [zx_sub (by omega) (by omega)])
    rw [show ((zpairs n (N a) : Nat) : Int) - ((zboth n (N a) (N b) : Nat) : Int) = ((zpairs n (N a) - zboth n (N a) (N b) : Nat) : Int) by omega] at hk
    exact hk
  · rw [if_neg (by decide), if_neg (by decide)] at hk
    ((with_reducible refine i_Seq (i_If (i_cZ_eq (i_L3 ?_)))); (with_reducible refine i_f (by omega) ?_); (with_reducible refine i_RetI (i_Sub (i_eIf (i_cI_eq (i_L3 (i_I ?_)))))); (with_reducible refine i_f (by omega) ?_); (with_reducible refine i_Call (i_as1 (i_A5 (i_as0 ?_)))); (with_reducible refine i_recv0 (by assumption) ?_); (refine s_Net_pairs hO yb (h4 b hb) hn2 ⟨_, rfl, ?_⟩); (with_reducible refine i_L6 ?_); rw [zx_sub (by omega) (by omega)])
    rw [show ((zpairs n (N b) : Nat) : Int) - ((zboth n (N a) (N b) : Nat) : Int) = ((zpairs n (N b) - zboth n (N a) (N b) : Nat) : Int) by omega] at hk
    exact hk
end
