/-! ===== words by their numbers: the reference ===== -/
theorem zcnt_gap {W : Nat → Bool} {a b : Nat} (h : a ≤ b) (e : ∀ c, a ≤ c → c < b → W c = false) : zcnt W b = zcnt W a := by
  obtain ⟨d, rfl⟩ : ∃ d, b = a + d := ⟨b - a, by omega⟩
  clear h
  induction d with
  | zero => rfl
  | succ d ih => rw [show a + (d + 1) = (a + d) + 1 by omega, zcnt_su, ih (fun c h1 h2 => e c h1 (by omega)), e (a + d) (by omega) (by omega)]; rfl
theorem zWs_c {A : zTl} {i : Nat} (hi : i < 16) : zWsn A (16 * i) = tC A i := by
  unfold zWsn
  rw [if_pos (by omega), decide_eq_true (show 16 * i % 16 = 0 by omega), show 16 * i / 16 = i by omega]; rfl
theorem zWs_d {A : zTl} {i j : Nat} (hi : i < 16) (hj : j < 16) : zWsn A (256 + 16 * i + j) = tD A i j := by
  unfold zWsn
  rw [if_neg (by omega), if_pos (by omega), show (256 + 16 * i + j) / 16 % 16 = i by omega, show (256 + 16 * i + j) % 16 = j by omega]
theorem zWs_g {A : zTl} {i j : Nat} (hi : i < 16) (hj : j < 16) : zWsn A (512 + 16 * i + j) = tG A i j := by
  unfold zWsn
  rw [if_neg (by omega), if_neg (by omega), if_pos (by omega), show (512 + 16 * i + j) / 16 % 16 = i by omega, show (512 + 16 * i + j) % 16 = j by omega]
theorem zWs_h {A : zTl} {i : Nat} (hi : i < 16) : zWsn A (768 + 16 * i) = tH A i := by
  unfold zWsn
  rw [if_neg (by omega), if_neg (by omega), if_neg (by omega), decide_eq_true (show (768 + 16 * i) % 16 = 0 by omega), decide_eq_true (show 768 + 16 * i < 1024 by omega), show (768 + 16 * i) / 16 % 16 = i by omega]; rfl
/-- which numbers can be words at all -/
theorem zWs_in {n : Nat} {A : zTl} (hn : n ≤ 16) (hw : zTw n A) {c : Nat} (h : zWsn A c = true) : (c < 256 → c / 16 < tm A ∧ c % 16 = 0) ∧ (256 ≤ c → c < 512 → c / 16 % 16 < c % 16 ∧ c % 16 < tm A) ∧ (512 ≤ c → c < 768 → c / 16 % 16 < n ∧ c % 16 < tm A) ∧ (768 ≤ c → c < 1024 ∧ c / 16 % 16 < tm A ∧ c % 16 = 0) := by
  obtain ⟨-, -, ⟨h1, h2, h3, h4⟩, -⟩ := hw
  refine ⟨fun a => ?_, fun a b => ?_, fun a b => ?_, fun a => ?_⟩
  · unfold zWsn at h
    rw [if_pos a, Bool.and_eq_true, decide_eq_true_eq] at h
    exact ⟨(h1 _ h.2).1, h.1⟩
  · unfold zWsn at h
    rw [if_neg (by omega), if_pos b] at h
    exact h2 _ _ h
  · unfold zWsn at h
    rw [if_neg (by omega), if_neg (by omega), if_pos b] at h
    have := h3 _ _ h
    exact ⟨this.1, this.2.1⟩
  · unfold zWsn at h
    rw [if_neg (by omega), if_neg (by omega), if_neg (by omega), Bool.and_eq_true, Bool.and_eq_true, decide_eq_true_eq, decide_eq_true_eq] at h
    exact ⟨h.2.1, (h4 _ h.2.2).1, h.1⟩
theorem zWs_no {n : Nat} {A : zTl} (hn : n ≤ 16) (hw : zTw n A) {c : Nat} (h : ¬ ((c < 256 → c / 16 < tm A ∧ c % 16 = 0) ∧ (256 ≤ c → c < 512 → c / 16 % 16 < c % 16 ∧ c % 16 < tm A) ∧ (512 ≤ c → c < 768 → c / 16 % 16 < n ∧ c % 16 < tm A) ∧ (768 ≤ c → c < 1024 ∧ c / 16 % 16 < tm A ∧ c % 16 = 0))) : zWsn A c = false := by
  cases e : zWsn A c
  · rfl
  · exact absurd (zWs_in hn hw e) h
theorem zx_k1 {k : Int} {w : Nat} (hk : zin32 k) (hw : 1 ≤ w) (hw2 : w ≤ 2000) : (((w : Nat) : Int) = zw32 (k + 1)) ↔ (((w : Nat) : Int) = k + 1) := by
  by_cases e : k = 2147483647
  · subst e
    rw [show zw32 (2147483647 + 1) = -2147483648 by decide]
    omega
  · have := hk.1
    have := hk.2
    rw [zx_s (by omega) (by omega)]
/-- the second of a word, or none -/
def zw2 (c : Nat) : Int := if 256 ≤ c ∧ c < 768 then ((c % 16 : Nat) : Int) else -1
theorem m_meets {O : zOm} (hO : zWld O) (hS : zS O = zmS zC0) {s a w : Nat} {b k : Int} {M : zMem} {K : Option zV → zMem → Prop} (hw : M 250 ((50 : Nat) : Int) = ((w : Nat) : Int)) (hw2 : w ≤ 1100) (hk : zin32 k)
    (h0 : ¬ ((w + 1 : Nat) : Int) = k + 1 → ∀ M', (∀ b j, ¬ (b = 250 ∧ j = 50) → M' b j = M b j) → M' 250 ((50 : Nat) : Int) = ((w + 1 : Nat) : Int) → K (some (0, 0)) M')
    (h1 : ((w + 1 : Nat) : Int) = k + 1 → ∀ M', (∀ b j, ¬ (b = 250 ∧ (j = 47 ∨ j = 48 ∨ j = 49 ∨ j = 50)) → M' b j = M b j) → M' 250 ((50 : Nat) : Int) = ((w + 1 : Nat) : Int) → M' 250 ((47 : Nat) : Int) = ((s : Nat) : Int) → M' 250 ((48 : Nat) : Int) = ((a : Nat) : Int) → M' 250 ((49 : Nat) : Int) = b → K (some (0, 1)) M') : zR O F_Model_meets [(2, 250), (0, ((s : Nat) : Int)), (0, ((a : Nat) : Int)), (0, b), (0, k)] M K := by
  have hz := zx_k1 (w := w + 1) hk (by omega) (by omega)
  apply r_Model_meets hO
  unfold B_Model_meets
  have f50 := zMF (k := 50) hS rfl; have f47 := zMF (k := 47) hS rfl; have f48 := zMF (k := 48) hS rfl; have f49 := zMF (k := 49) hS rfl; have zo := zMO hS
  by_cases e : ((w + 1 : Nat) : Int) = k + 1
  · have e2 := hz.mpr e
    have hne : ¬ (((w + 1 : Nat) : Int) ≠ zw32 (k + 1)) := fun z => z e2
    ((with_reducible refine i_Seq (i_FO (i_A0 ?_))); (with_reducible refine i_fld (by assumption) ?_); (with_reducible refine i_I ?_); (with_reducible refine i_fld (by assumption) ?_); (with_reducible refine i_Seq (i_If (i_cI_ne (i_F (i_A0 ?_))))); (with_reducible refine i_fld (by assumption) ?_); (with_reducible refine i_Add (i_L4 (i_I ?_))); rw [zg_s]; (rw [hw]); rw [zx_inc (by omega)]; ((with_reducible refine i_f hne ?_)); (with_reducible refine i_Seq (i_sF (i_A0 (i_L1 ?_)))); (with_reducible refine i_fld (by assumption) ?_); (with_reducible refine i_Seq (i_sF (i_A0 (i_L2 ?_)))); (with_reducible refine i_fld (by assumption) ?_); (with_reducible refine i_Seq (i_sF (i_A0 (i_L3 ?_)))); (with_reducible refine i_fld (by assumption) ?_); (with_reducible refine i_RetZ (i_I ?_)); (with_reducible refine i_z (Or.inr rfl) ?_))
    exact h1 e _ (fun b j q => by rw [zg_o _ _ (by omega), zg_o _ _ (by omega), zg_o _ _ (by omega), zg_o _ _ (by omega)]) (by rw [zg_o _ _ (by omega), zg_o _ _ (by omega), zg_o _ _ (by omega)]; exact zg_s _ _ _ _ _) (by rw [zg_o _ _ (by omega), zg_o _ _ (by omega)]; exact zg_s _ _ _ _ _) (by rw [zg_o _ _ (by omega)]; exact zg_s _ _ _ _ _) (zg_s _ _ _ _ _)
  · have e2 : ¬ ((w + 1 : Nat) : Int) = zw32 (k + 1) := fun z => e (hz.mp z)
    ((with_reducible refine i_Seq (i_FO (i_A0 ?_))); (with_reducible refine i_fld (by assumption) ?_); (with_reducible refine i_I ?_); (with_reducible refine i_fld (by assumption) ?_); (with_reducible refine i_Seq (i_If (i_cI_ne (i_F (i_A0 ?_))))); (with_reducible refine i_fld (by assumption) ?_); (with_reducible refine i_Add (i_L4 (i_I ?_))); rw [zg_s]; (rw [hw]); rw [zx_inc (by omega)]; ((with_reducible refine i_t e2 ?_)); (with_reducible refine i_RetZ (i_I ?_)); (with_reducible refine i_z (Or.inl rfl) ?_))
    exact h0 e _ (fun b j q => by rw [zg_o _ _ (by omega)]) (zg_s _ _ _ _ _)
/-- words sought: the k-th, or how many there are -/
theorem m_seeks {O : zOm} (hO : zWld O) (hS : zS O = zmS zC0) {t n : Nat} {k : Int} {A : zTl} {M : zMem} {K : Option zV → zMem → Prop} (ht : t < 7) (hn : M 250 ((1 : Nat) : Int) = ((n : Nat) : Int)) (hn2 : n ≤ 16) (hA : rTe M t n A) (hw : zTw n A) (hk : zin32 k) (hkn : -1 ≤ k)
    (h0 : ((zcnt (zWsn A) 1024 : Nat) : Int) ≤ k ∨ k = -1 → ∀ M', (∀ b j, ¬ (b = 250 ∧ j = 50) → M' b j = M b j) → M' 250 ((50 : Nat) : Int) = ((zcnt (zWsn A) 1024 : Nat) : Int) → K (some (0, 0)) M')
    (h1 : ∀ c : Nat, c < 1024 → zWsn A c = true → ((zcnt (zWsn A) c : Nat) : Int) = k → ∀ M', (∀ b j, ¬ (b = 250 ∧ (j = 47 ∨ j = 48 ∨ j = 49 ∨ j = 50)) → M' b j = M b j) → M' 250 ((47 : Nat) : Int) = ((c / 256 : Nat) : Int) → M' 250 ((48 : Nat) : Int) = ((c / 16 % 16 : Nat) : Int) → M' 250 ((49 : Nat) : Int) = zw2 c → K (some (0, 1)) M') : zR O F_Model_seeks [(2, 250), (0, ((t : Nat) : Int)), (0, k)] M K := by
  obtain ⟨⟨g1, g2, g3⟩, ⟨g4, g5, g6, g7⟩, g8, g9⟩ := hA
  have hm := hw.1.1
  have hcl := fun c => zcnt_le (zWsn A) c
  apply r_Model_seeks hO
  unfold B_Model_seeks
  have f50 := zMF (k := 50) hS rfl; have f12 := zMF (k := 12) hS rfl; have a258 := zMA (a := 258) (ty := .int) (n := 7) hS rfl; have f16 := zMF (k := 16) hS rfl; have a262 := zMA (a := 262) (ty := .boolean) (n := 112) hS rfl; have f18 := zMF (k := 18) hS rfl; have a264 := zMA (a := 264) (ty := .boolean) (n := 1792) hS rfl; have f1 := zMF (k := 1) hS rfl; have f19 := zMF (k := 19) hS rfl; have a265 := zMA (a := 265) (ty := .boolean) (n := 1792) hS rfl; have f17 := zMF (k := 17) hS rfl; have a263 := zMA (a := 263) (ty := .boolean) (n := 112) hS rfl; have zo := zMO hS
  ((with_reducible refine i_Seq (i_sF (i_A0 (i_I ?_)))); (with_reducible refine i_fld (by assumption) ?_); (with_reducible refine i_Seq (i_Blk (i_Seq (i_Set (i_I ?_))))); simp only [w_set0, w_set1, w_setn0, w_setn1])
  -- crowds
  refine w_ForN (tm A) (fun i ρ M' => (∃ l, ρ = 250 :: ((t : Nat) : Int) :: k :: ((i : Nat) : Int) :: l) ∧ (∀ b j, ¬ (b = 250 ∧ j = 50) → M' b j = M b j) ∧ M' 250 ((50 : Nat) : Int) = ((zcnt (zWsn A) (16 * i) : Nat) : Int) ∧ (((zcnt (zWsn A) (16 * i) : Nat) : Int) ≤ k ∨ k = -1)) ⟨⟨_, rfl⟩, fun b j q => by rw [zg_o _ _ (by omega)], zg_s _ _ _ _ _, by rw [show 16 * 0 = 0 from rfl]; show (((0 : Nat) : Int) ≤ k) ∨ _; omega⟩ ?_ ?_
  · rintro i ρ M1 X hi ⟨⟨l, rfl⟩, f1, w1, hle⟩ hX
    have gm : M1 ((258 : Nat) : Int) ((t : Nat) : Int) = ((tm A : Nat) : Int) := (f1 _ _ (by omega)).trans g1
    have gC : M1 ((262 : Nat) : Int) ((16 * t + i : Nat) : Int) = zbI (tC A i) := (f1 _ _ (by omega)).trans (g4 i (by omega))
    have hsu := zcnt_su (zWsn A) (16 * i)
    rw [zWs_c (by omega)] at hsu
    have hgap : zcnt (zWsn A) (16 * (i + 1)) = zcnt (zWsn A) (16 * i + 1) := zcnt_gap (by omega) (fun c c1 c2 => zWs_no hn2 hw (by omega))
    have hl1 := hcl (16 * i)
    cases e : tC A i
    · rw [e] at gC hsu
      ((with_reducible refine i_turn (i_cI_lt (i_L3 (i_IA (i_FR (i_A0 ?_)))))); (with_reducible refine i_fldR (by assumption) ?_); (with_reducible refine i_L1 ?_); (with_reducible refine i_in (by assumption) (by omega) (by omega) ?_); (rw [gm]); (with_reducible refine i_t (by omega) ?_); (with_reducible refine i_If (i_cAnd (i_cZ_ne (i_ZA (i_FR (i_A0 ?_)))))); (with_reducible refine i_fldR (by assumption) ?_); (with_reducible refine i_Add (i_Mul (i_I (i_L1 (i_L3 ?_))))); rw [zx_cmul (by omega)]; rw [zx_add (by omega)]; (with_reducible refine i_in (by assumption) (by omega) (by omega) ?_); (rw [gC]); rw [zbI_f]; (with_reducible refine i_f (by omega) ?_); (with_reducible refine i_up (i_Inc3 ?_)); rw [zx_inc (by omega)]; simp only [w_set0, w_set1, w_setn0, w_setn1])
      exact hX _ _ ⟨⟨_, rfl⟩, f1, by rw [hgap, hsu]; exact w1, by rw [hgap, hsu]; exact hle⟩
    · rw [e, if_pos rfl] at hsu
      rw [e] at gC
      ((with_reducible refine i_turn (i_cI_lt (i_L3 (i_IA (i_FR (i_A0 ?_)))))); (with_reducible refine i_fldR (by assumption) ?_); (with_reducible refine i_L1 ?_); (with_reducible refine i_in (by assumption) (by omega) (by omega) ?_); (rw [gm]); (with_reducible refine i_t (by omega) ?_); (with_reducible refine i_If (i_cAnd (i_cZ_ne (i_ZA (i_FR (i_A0 ?_)))))); (with_reducible refine i_fldR (by assumption) ?_); (with_reducible refine i_Add (i_Mul (i_I (i_L1 (i_L3 ?_))))); rw [zx_cmul (by omega)]; rw [zx_add (by omega)]; (with_reducible refine i_in (by assumption) (by omega) (by omega) ?_); (rw [gC]); rw [zbI_t]; (with_reducible refine i_t (by omega) ?_); (with_reducible refine i_cZ_ne (i_Call (i_as1 (i_A0 (i_as1 (i_I (i_as1 (i_L3 (i_as1 (i_I (i_as1 (i_L2 (i_as0 ?_))))))))))))); (with_reducible refine i_recv0 (by assumption) ?_))
      refine m_meets hO hS (s := 0) (b := -1) w1 (by omega) hk (fun z M2 f2 w2 => ⟨_, rfl, ?_⟩) (fun z M2 f2 w2 a1 a2 a3 => ⟨_, rfl, ?_⟩)
      · ((with_reducible refine i_f (by omega) ?_); (with_reducible refine i_up (i_Inc3 ?_)); rw [zx_inc (by omega)]; simp only [w_set0, w_set1, w_setn0, w_setn1])
        exact hX _ _ ⟨⟨_, rfl⟩, fun b j q => by rw [f2 b j q, f1 b j q], by rw [hgap, hsu]; exact w2, by rw [hgap, hsu]; omega⟩
      · ((with_reducible refine i_t (by omega) ?_); (with_reducible refine i_RetZ (i_I ?_)); (with_reducible refine i_z (Or.inr rfl) ?_))
        refine h1 (16 * i) (by omega) (by rw [zWs_c (by omega)]; exact e) (by omega) M2 (fun b j q => by rw [f2 b j q, f1 b j (by omega)]) (by rw [a1, show 16 * i / 256 = 0 by omega]) (by rw [a2, show 16 * i / 16 % 16 = i by omega]) (by rw [a3]; unfold zw2; rw [if_neg (by omega)])
  rintro ρ M1 X ⟨⟨l, rfl⟩, f1, w1, hle1⟩
  have hg0 : zcnt (zWsn A) 256 = zcnt (zWsn A) (16 * tm A) := zcnt_gap (by omega) (fun c c1 c2 => zWs_no hn2 hw (by omega))
  rw [← hg0] at w1 hle1
  have gm : M1 ((258 : Nat) : Int) ((t : Nat) : Int) = ((tm A : Nat) : Int) := (f1 _ _ (by omega)).trans g1
  ((with_reducible refine i_turn (i_cI_lt (i_L3 (i_IA (i_FR (i_A0 ?_)))))); (with_reducible refine i_fldR (by assumption) ?_); (with_reducible refine i_L1 ?_); (with_reducible refine i_in (by assumption) (by omega) (by omega) ?_); (rw [gm]); (with_reducible refine i_f (by omega) ?_); (with_reducible refine i_Seq (i_Blk (i_Seq (i_Set (i_I ?_))))); simp only [w_set0, w_set1, w_setn0, w_setn1])
  -- sides
  refine w_ForN (tm A) (fun i ρ M' => (∃ l, ρ = 250 :: ((t : Nat) : Int) :: k :: ((i : Nat) : Int) :: l) ∧ (∀ b j, ¬ (b = 250 ∧ j = 50) → M' b j = M b j) ∧ M' 250 ((50 : Nat) : Int) = ((zcnt (zWsn A) (256 + 16 * i) : Nat) : Int) ∧ (((zcnt (zWsn A) (256 + 16 * i) : Nat) : Int) ≤ k ∨ k = -1)) ⟨⟨_, rfl⟩, f1, w1, hle1⟩ ?_ ?_
  · clear w1 hle1 gm f1
    rintro i ρ M2 X2 hi ⟨⟨l2, rfl⟩, f2, w2, hle2⟩ hX2
    have gm2 : M2 ((258 : Nat) : Int) ((t : Nat) : Int) = ((tm A : Nat) : Int) := (f2 _ _ (by omega)).trans g1
    have hgr : zcnt (zWsn A) (256 + 16 * i + (i + 1)) = zcnt (zWsn A) (256 + 16 * i) := zcnt_gap (by omega) (fun c c1 c2 => zWs_no hn2 hw (by omega))
    ((with_reducible refine i_turn (i_cI_lt (i_L3 (i_IA (i_FR (i_A0 ?_)))))); (with_reducible refine i_fldR (by assumption) ?_); (with_reducible refine i_L1 ?_); (with_reducible refine i_in (by assumption) (by omega) (by omega) ?_); (rw [gm2]); (with_reducible refine i_t (by omega) ?_); (with_reducible refine i_Blk (i_Seq (i_Set (i_Add (i_L3 (i_I ?_)))))); rw [zx_inc (by omega)]; simp only [w_set0, w_set1, w_setn0, w_setn1]; rw [w_setT])
    refine w_ForN (tm A - (i + 1)) (fun d ρ M' => (∃ l, ρ = 250 :: ((t : Nat) : Int) :: k :: ((i : Nat) : Int) :: ((i + 1 + d : Nat) : Int) :: l) ∧ (∀ b j, ¬ (b = 250 ∧ j = 50) → M' b j = M b j) ∧ M' 250 ((50 : Nat) : Int) = ((zcnt (zWsn A) (256 + 16 * i + (i + 1 + d)) : Nat) : Int) ∧ (((zcnt (zWsn A) (256 + 16 * i + (i + 1 + d)) : Nat) : Int) ≤ k ∨ k = -1)) ⟨⟨_, rfl⟩, f2, by rw [show 256 + 16 * i + (i + 1 + 0) = 256 + 16 * i + (i + 1) from rfl, hgr]; exact w2, by rw [show 256 + 16 * i + (i + 1 + 0) = 256 + 16 * i + (i + 1) from rfl, hgr]; exact hle2⟩ ?_ ?_
    · rintro d ρ M3 X3 hd ⟨⟨l3, rfl⟩, f3, w3, hle3⟩ hX3
      have hj : i + 1 + d < tm A := by omega
      have hij : i < i + 1 + d := by omega
      have hX4 : ∀ (l : zLoc) (M' : zMem), (∀ b j, ¬ (b = 250 ∧ j = 50) → M' b j = M b j) → M' 250 ((50 : Nat) : Int) = ((zcnt (zWsn A) (256 + 16 * i + (i + 1 + d) + 1) : Nat) : Int) → (((zcnt (zWsn A) (256 + 16 * i + (i + 1 + d) + 1) : Nat) : Int) ≤ k ∨ k = -1) → X3 (250 :: ((t : Nat) : Int) :: k :: ((i : Nat) : Int) :: ((i + 1 + d + 1 : Nat) : Int) :: l) M' := fun l M' a b c => hX3 _ _ ⟨⟨l, rfl⟩, a, b, c⟩
      clear hX3
      generalize i + 1 + d = j at hj hij w3 hle3 hX4 ⊢
      have gm3 : M3 ((258 : Nat) : Int) ((t : Nat) : Int) = ((tm A : Nat) : Int) := (f3 _ _ (by omega)).trans g1
      have gD : M3 ((264 : Nat) : Int) ((256 * t + 16 * i + j : Nat) : Int) = zbI (tD A i j) := (f3 _ _ (by omega)).trans (g5 i j (by omega) (by omega))
      have hsu := zcnt_su (zWsn A) (256 + 16 * i + j)
      rw [zWs_d (by omega) (by omega)] at hsu
      have hl1 := hcl (256 + 16 * i + j)
      cases e : tD A i j
      · rw [e] at gD hsu
        ((with_reducible refine i_turn (i_cI_lt (i_L4 (i_IA (i_FR (i_A0 ?_)))))); (with_reducible refine i_fldR (by assumption) ?_); (with_reducible refine i_L1 ?_); (with_reducible refine i_in (by assumption) (by omega) (by omega) ?_); (rw [gm3]); (with_reducible refine i_t (by omega) ?_); (with_reducible refine i_If (i_cAnd (i_cZ_ne (i_ZA (i_FR (i_A0 ?_)))))); (with_reducible refine i_fldR (by assumption) ?_); (with_reducible refine i_Add (i_Add (i_Mul (i_I (i_L1 (i_Mul (i_I (i_L3 (i_L4 ?_))))))))); rw [zx_cmul (by omega)]; rw [zx_cmul (by omega)]; rw [zx_add (by omega)]; rw [zx_add (by omega)]; (with_reducible refine i_in (by assumption) (by omega) (by omega) ?_); (rw [gD]); rw [zbI_f]; (with_reducible refine i_f (by omega) ?_); (with_reducible refine i_up (i_Inc4 ?_)); rw [zx_inc (by omega)]; simp only [w_set0, w_set1, w_setn0, w_setn1])
        exact hX4 _ _ f3 (by rw [hsu]; exact w3) (by rw [hsu]; exact hle3)
      · rw [e, if_pos rfl] at hsu
        rw [e] at gD
        ((with_reducible refine i_turn (i_cI_lt (i_L4 (i_IA (i_FR (i_A0 ?_)))))); (with_reducible refine i_fldR (by assumption) ?_); (with_reducible refine i_L1 ?_); (with_reducible refine i_in (by assumption) (by omega) (by omega) ?_); (rw [gm3]); (with_reducible refine i_t (by omega) ?_); (with_reducible refine i_If (i_cAnd (i_cZ_ne (i_ZA (i_FR (i_A0 ?_)))))); (with_reducible refine i_fldR (by assumption) ?_); (with_reducible refine i_Add (i_Add (i_Mul (i_I (i_L1 (i_Mul (i_I (i_L3 (i_L4 ?_))))))))); rw [zx_cmul (by omega)]; rw [zx_cmul (by omega)]; rw [zx_add (by omega)]; rw [zx_add (by omega)]; (with_reducible refine i_in (by assumption) (by omega) (by omega) ?_); (rw [gD]); rw [zbI_t]; (with_reducible refine i_t (by omega) ?_); (with_reducible refine i_cZ_ne (i_Call (i_as1 (i_A0 (i_as1 (i_I (i_as1 (i_L3 (i_as1 (i_L4 (i_as1 (i_L2 (i_as0 ?_))))))))))))); (with_reducible refine i_recv0 (by assumption) ?_))
        refine m_meets hO hS (s := 1) (b := ((j : Nat) : Int)) w3 (by omega) hk (fun z M4 f4 w4 => ⟨_, rfl, ?_⟩) (fun z M4 f4 w4 a1 a2 a3 => ⟨_, rfl, ?_⟩)
        · ((with_reducible refine i_f (by omega) ?_); (with_reducible refine i_up (i_Inc4 ?_)); rw [zx_inc (by omega)]; simp only [w_set0, w_set1, w_setn0, w_setn1])
          exact hX4 _ _ (fun b j q => by rw [f4 b j q, f3 b j q]) (by rw [hsu]; exact w4) (by rw [hsu]; omega)
        · ((with_reducible refine i_t (by omega) ?_); (with_reducible refine i_RetZ (i_I ?_)); (with_reducible refine i_z (Or.inr rfl) ?_))
          refine h1 (256 + 16 * i + j) (by omega) (by rw [zWs_d (by omega) (by omega)]; exact e) (by omega) M4 (fun b j q => by rw [f4 b j q, f3 b j (by omega)]) (by rw [a1, show (256 + 16 * i + j) / 256 = 1 by omega]) (by rw [a2, show (256 + 16 * i + j) / 16 % 16 = i by omega]) (by rw [a3]; unfold zw2; rw [if_pos (by omega), show (256 + 16 * i + j) % 16 = j by omega])
    · rintro ρ M3 X3 ⟨⟨l3, rfl⟩, f3, w3, hle3⟩
      rw [show i + 1 + (tm A - (i + 1)) = tm A by omega] at w3 hle3 ⊢
      have gm3 : M3 ((258 : Nat) : Int) ((t : Nat) : Int) = ((tm A : Nat) : Int) := (f3 _ _ (by omega)).trans g1
      have hgap : zcnt (zWsn A) (256 + 16 * (i + 1)) = zcnt (zWsn A) (256 + 16 * i + tm A) := zcnt_gap (by omega) (fun c c1 c2 => zWs_no hn2 hw (by omega))
      ((with_reducible refine i_turn (i_cI_lt (i_L4 (i_IA (i_FR (i_A0 ?_)))))); (with_reducible refine i_fldR (by assumption) ?_); (with_reducible refine i_L1 ?_); (with_reducible refine i_in (by assumption) (by omega) (by omega) ?_); (rw [gm3]); (with_reducible refine i_f (by omega) ?_); (with_reducible refine i_up (i_Inc3 ?_)); rw [zx_inc (by omega)]; simp only [w_set0, w_set1, w_setn0, w_setn1])
      exact hX2 _ _ ⟨⟨_, rfl⟩, f3, by rw [hgap]; exact w3, by rw [hgap]; exact hle3⟩
  clear f1 w1 hle1 gm
  rintro ρ M2 X2 ⟨⟨l2, rfl⟩, f2, w2, hle2⟩
  have hg1 : zcnt (zWsn A) 512 = zcnt (zWsn A) (256 + 16 * tm A) := zcnt_gap (by omega) (fun c c1 c2 => zWs_no hn2 hw (by omega))
  rw [← hg1] at w2 hle2
  have gm2 : M2 ((258 : Nat) : Int) ((t : Nat) : Int) = ((tm A : Nat) : Int) := (f2 _ _ (by omega)).trans g1
  ((with_reducible refine i_turn (i_cI_lt (i_L3 (i_IA (i_FR (i_A0 ?_)))))); (with_reducible refine i_fldR (by assumption) ?_); (with_reducible refine i_L1 ?_); (with_reducible refine i_in (by assumption) (by omega) (by omega) ?_); (rw [gm2]); (with_reducible refine i_f (by omega) ?_); (with_reducible refine i_Seq (i_Blk (i_Seq (i_Set (i_I ?_))))); simp only [w_set0, w_set1, w_setn0, w_setn1])
  -- stars
  refine w_ForN n (fun p ρ M' => (∃ l, ρ = 250 :: ((t : Nat) : Int) :: k :: ((p : Nat) : Int) :: l) ∧ (∀ b j, ¬ (b = 250 ∧ j = 50) → M' b j = M b j) ∧ M' 250 ((50 : Nat) : Int) = ((zcnt (zWsn A) (512 + 16 * p) : Nat) : Int) ∧ (((zcnt (zWsn A) (512 + 16 * p) : Nat) : Int) ≤ k ∨ k = -1)) ⟨⟨_, rfl⟩, f2, w2, hle2⟩ ?_ ?_
  · clear w2 hle2 gm2 f2
    rintro p ρ M3 X3 hp ⟨⟨l3, rfl⟩, f3, w3, hle3⟩ hX3
    have gn3 : M3 250 ((1 : Nat) : Int) = ((n : Nat) : Int) := (f3 _ _ (by omega)).trans hn
    ((with_reducible refine i_turn (i_cI_lt (i_L3 (i_F (i_A0 ?_))))); (with_reducible refine i_fld (by assumption) ?_); (rw [gn3]); (with_reducible refine i_t (by omega) ?_); (with_reducible refine i_Blk (i_Seq (i_Set (i_I ?_)))); simp only [w_set0, w_set1, w_setn0, w_setn1]; rw [w_setT])
    refine w_ForN (tm A) (fun i ρ M' => (∃ l, ρ = 250 :: ((t : Nat) : Int) :: k :: ((p : Nat) : Int) :: ((i : Nat) : Int) :: l) ∧ (∀ b j, ¬ (b = 250 ∧ j = 50) → M' b j = M b j) ∧ M' 250 ((50 : Nat) : Int) = ((zcnt (zWsn A) (512 + 16 * p + i) : Nat) : Int) ∧ (((zcnt (zWsn A) (512 + 16 * p + i) : Nat) : Int) ≤ k ∨ k = -1)) ⟨⟨_, rfl⟩, f3, w3, hle3⟩ ?_ ?_
    · rintro i ρ M4 X4 hi ⟨⟨l4, rfl⟩, f4, w4, hle4⟩ hX4
      have gm4 : M4 ((258 : Nat) : Int) ((t : Nat) : Int) = ((tm A : Nat) : Int) := (f4 _ _ (by omega)).trans g1
      have gG : M4 ((265 : Nat) : Int) ((256 * t + 16 * p + i : Nat) : Int) = zbI (tG A p i) := (f4 _ _ (by omega)).trans (g6 p i (by omega) (by omega))
      have hsu := zcnt_su (zWsn A) (512 + 16 * p + i)
      rw [zWs_g (by omega) (by omega)] at hsu
      have hl1 := hcl (512 + 16 * p + i)
      cases e : tG A p i
      · rw [e] at gG hsu
        ((with_reducible refine i_turn (i_cI_lt (i_L4 (i_IA (i_FR (i_A0 ?_)))))); (with_reducible refine i_fldR (by assumption) ?_); (with_reducible refine i_L1 ?_); (with_reducible refine i_in (by assumption) (by omega) (by omega) ?_); (rw [gm4]); (with_reducible refine i_t (by omega) ?_); (with_reducible refine i_If (i_cAnd (i_cZ_ne (i_ZA (i_FR (i_A0 ?_)))))); (with_reducible refine i_fldR (by assumption) ?_); (with_reducible refine i_Add (i_Add (i_Mul (i_I (i_L1 (i_Mul (i_I (i_L3 (i_L4 ?_))))))))); rw [zx_cmul (by omega)]; rw [zx_cmul (by omega)]; rw [zx_add (by omega)]; rw [zx_add (by omega)]; (with_reducible refine i_in (by assumption) (by omega) (by omega) ?_); (rw [gG]); rw [zbI_f]; (with_reducible refine i_f (by omega) ?_); (with_reducible refine i_up (i_Inc4 ?_)); rw [zx_inc (by omega)]; simp only [w_set0, w_set1, w_setn0, w_setn1])
        exact hX4 _ _ ⟨⟨_, rfl⟩, f4, hsu ▸ w4, hsu ▸ hle4⟩
      · rw [e, if_pos rfl] at hsu
        rw [e] at gG
        ((with_reducible refine i_turn (i_cI_lt (i_L4 (i_IA (i_FR (i_A0 ?_)))))); (with_reducible refine i_fldR (by assumption) ?_); (with_reducible refine i_L1 ?_); (with_reducible refine i_in (by assumption) (by omega) (by omega) ?_); (rw [gm4]); (with_reducible refine i_t (by omega) ?_); (with_reducible refine i_If (i_cAnd (i_cZ_ne (i_ZA (i_FR (i_A0 ?_)))))); (with_reducible refine i_fldR (by assumption) ?_); (with_reducible refine i_Add (i_Add (i_Mul (i_I (i_L1 (i_Mul (i_I (i_L3 (i_L4 ?_))))))))); rw [zx_cmul (by omega)]; rw [zx_cmul (by omega)]; rw [zx_add (by omega)]; rw [zx_add (by omega)]; (with_reducible refine i_in (by assumption) (by omega) (by omega) ?_); (rw [gG]); rw [zbI_t]; (with_reducible refine i_t (by omega) ?_); (with_reducible refine i_cZ_ne (i_Call (i_as1 (i_A0 (i_as1 (i_I (i_as1 (i_L3 (i_as1 (i_L4 (i_as1 (i_L2 (i_as0 ?_))))))))))))); (with_reducible refine i_recv0 (by assumption) ?_))
        refine m_meets hO hS (s := 2) (b := ((i : Nat) : Int)) w4 (by omega) hk (fun z M5 f5 w5 => ⟨_, rfl, ?_⟩) (fun z M5 f5 w5 a1 a2 a3 => ⟨_, rfl, ?_⟩)
        · ((with_reducible refine i_f (by omega) ?_); (with_reducible refine i_up (i_Inc4 ?_)); rw [zx_inc (by omega)]; simp only [w_set0, w_set1, w_setn0, w_setn1])
          exact hX4 _ _ ⟨⟨_, rfl⟩, fun b j q => by rw [f5 b j q, f4 b j q], by show M5 250 ((50 : Nat) : Int) = ((zcnt (zWsn A) (512 + 16 * p + i + 1) : Nat) : Int); rw [hsu]; exact w5, by show ((zcnt (zWsn A) (512 + 16 * p + i + 1) : Nat) : Int) ≤ k ∨ _; rw [hsu]; omega⟩
        · ((with_reducible refine i_t (by omega) ?_); (with_reducible refine i_RetZ (i_I ?_)); (with_reducible refine i_z (Or.inr rfl) ?_))
          refine h1 (512 + 16 * p + i) (by omega) (by rw [zWs_g (by omega) (by omega)]; exact e) (by omega) M5 (fun b j q => by rw [f5 b j q, f4 b j (by omega)]) (by rw [a1, show (512 + 16 * p + i) / 256 = 2 by omega]) (by rw [a2, show (512 + 16 * p + i) / 16 % 16 = p by omega]) (by rw [a3]; unfold zw2; rw [if_pos (by omega), show (512 + 16 * p + i) % 16 = i by omega])
    · rintro ρ M4 X4 ⟨⟨l4, rfl⟩, f4, w4, hle4⟩
      have gm4 : M4 ((258 : Nat) : Int) ((t : Nat) : Int) = ((tm A : Nat) : Int) := (f4 _ _ (by omega)).trans g1
      have hgap : zcnt (zWsn A) (512 + 16 * (p + 1)) = zcnt (zWsn A) (512 + 16 * p + tm A) := zcnt_gap (by omega) (fun c c1 c2 => zWs_no hn2 hw (by omega))
      ((with_reducible refine i_turn (i_cI_lt (i_L4 (i_IA (i_FR (i_A0 ?_)))))); (with_reducible refine i_fldR (by assumption) ?_); (with_reducible refine i_L1 ?_); (with_reducible refine i_in (by assumption) (by omega) (by omega) ?_); (rw [gm4]); (with_reducible refine i_f (by omega) ?_); (with_reducible refine i_up (i_Inc3 ?_)); rw [zx_inc (by omega)]; simp only [w_set0, w_set1, w_setn0, w_setn1])
      exact hX3 _ _ ⟨⟨_, rfl⟩, f4, by rw [hgap]; exact w4, by rw [hgap]; exact hle4⟩
  clear f2 w2 hle2 gm2
  rintro ρ M3 X3 ⟨⟨l3, rfl⟩, f3, w3, hle3⟩
  have hg2 : zcnt (zWsn A) 768 = zcnt (zWsn A) (512 + 16 * n) := zcnt_gap (by omega) (fun c c1 c2 => zWs_no hn2 hw (by omega))
  rw [← hg2] at w3 hle3
  have gn3 : M3 250 ((1 : Nat) : Int) = ((n : Nat) : Int) := (f3 _ _ (by omega)).trans hn
  ((with_reducible refine i_turn (i_cI_lt (i_L3 (i_F (i_A0 ?_))))); (with_reducible refine i_fld (by assumption) ?_); (rw [gn3]); (with_reducible refine i_f (by omega) ?_); (with_reducible refine i_Seq (i_Blk (i_Seq (i_Set (i_I ?_))))); simp only [w_set0, w_set1, w_setn0, w_setn1])
  -- chains
  refine w_ForN (tm A) (fun i ρ M' => (∃ l, ρ = 250 :: ((t : Nat) : Int) :: k :: ((i : Nat) : Int) :: l) ∧ (∀ b j, ¬ (b = 250 ∧ j = 50) → M' b j = M b j) ∧ M' 250 ((50 : Nat) : Int) = ((zcnt (zWsn A) (768 + 16 * i) : Nat) : Int) ∧ (((zcnt (zWsn A) (768 + 16 * i) : Nat) : Int) ≤ k ∨ k = -1)) ⟨⟨_, rfl⟩, f3, w3, hle3⟩ ?_ ?_
  · clear w3 hle3 gn3 f3
    rintro i ρ M4 X4 hi ⟨⟨l4, rfl⟩, f4, w4, hle4⟩ hX4
    have gm4 : M4 ((258 : Nat) : Int) ((t : Nat) : Int) = ((tm A : Nat) : Int) := (f4 _ _ (by omega)).trans g1
    have gH : M4 ((263 : Nat) : Int) ((16 * t + i : Nat) : Int) = zbI (tH A i) := (f4 _ _ (by omega)).trans (g7 i (by omega))
    have hsu := zcnt_su (zWsn A) (768 + 16 * i)
    rw [zWs_h (by omega)] at hsu
    have hgap : zcnt (zWsn A) (768 + 16 * (i + 1)) = zcnt (zWsn A) (768 + 16 * i + 1) := zcnt_gap (by omega) (fun c c1 c2 => zWs_no hn2 hw (by omega))
    have hl1 := hcl (768 + 16 * i)
    cases e : tH A i
    · rw [e] at gH hsu
      ((with_reducible refine i_turn (i_cI_lt (i_L3 (i_IA (i_FR (i_A0 ?_)))))); (with_reducible refine i_fldR (by assumption) ?_); (with_reducible refine i_L1 ?_); (with_reducible refine i_in (by assumption) (by omega) (by omega) ?_); (rw [gm4]); (with_reducible refine i_t (by omega) ?_); (with_reducible refine i_If (i_cAnd (i_cZ_ne (i_ZA (i_FR (i_A0 ?_)))))); (with_reducible refine i_fldR (by assumption) ?_); (with_reducible refine i_Add (i_Mul (i_I (i_L1 (i_L3 ?_))))); rw [zx_cmul (by omega)]; rw [zx_add (by omega)]; (with_reducible refine i_in (by assumption) (by omega) (by omega) ?_); (rw [gH]); rw [zbI_f]; (with_reducible refine i_f (by omega) ?_); (with_reducible refine i_up (i_Inc3 ?_)); rw [zx_inc (by omega)]; simp only [w_set0, w_set1, w_setn0, w_setn1])
      exact hX4 _ _ ⟨⟨_, rfl⟩, f4, by rw [hgap, hsu]; exact w4, by rw [hgap, hsu]; exact hle4⟩
    · rw [e, if_pos rfl] at hsu
      rw [e] at gH
      ((with_reducible refine i_turn (i_cI_lt (i_L3 (i_IA (i_FR (i_A0 ?_)))))); (with_reducible refine i_fldR (by assumption) ?_); (with_reducible refine i_L1 ?_); (with_reducible refine i_in (by assumption) (by omega) (by omega) ?_); (rw [gm4]); (with_reducible refine i_t (by omega) ?_); (with_reducible refine i_If (i_cAnd (i_cZ_ne (i_ZA (i_FR (i_A0 ?_)))))); (with_reducible refine i_fldR (by assumption) ?_); (with_reducible refine i_Add (i_Mul (i_I (i_L1 (i_L3 ?_))))); rw [zx_cmul (by omega)]; rw [zx_add (by omega)]; (with_reducible refine i_in (by assumption) (by omega) (by omega) ?_); (rw [gH]); rw [zbI_t]; (with_reducible refine i_t (by omega) ?_); (with_reducible refine i_cZ_ne (i_Call (i_as1 (i_A0 (i_as1 (i_I (i_as1 (i_L3 (i_as1 (i_I (i_as1 (i_L2 (i_as0 ?_))))))))))))); (with_reducible refine i_recv0 (by assumption) ?_))
      refine m_meets hO hS (s := 3) (b := -1) w4 (by omega) hk (fun z M5 f5 w5 => ⟨_, rfl, ?_⟩) (fun z M5 f5 w5 a1 a2 a3 => ⟨_, rfl, ?_⟩)
      · ((with_reducible refine i_f (by omega) ?_); (with_reducible refine i_up (i_Inc3 ?_)); rw [zx_inc (by omega)]; simp only [w_set0, w_set1, w_setn0, w_setn1])
        exact hX4 _ _ ⟨⟨_, rfl⟩, fun b j q => by rw [f5 b j q, f4 b j q], by rw [hgap, hsu]; exact w5, by rw [hgap, hsu]; omega⟩
      · ((with_reducible refine i_t (by omega) ?_); (with_reducible refine i_RetZ (i_I ?_)); (with_reducible refine i_z (Or.inr rfl) ?_))
        refine h1 (768 + 16 * i) (by omega) (by rw [zWs_h (by omega)]; exact e) (by omega) M5 (fun b j q => by rw [f5 b j q, f4 b j (by omega)]) (by rw [a1, show (768 + 16 * i) / 256 = 3 by omega]) (by rw [a2, show (768 + 16 * i) / 16 % 16 = i by omega]) (by rw [a3]; unfold zw2; rw [if_neg (by omega)])
  clear f3 w3 hle3 gn3
  rintro ρ M4 X4 ⟨⟨l4, rfl⟩, f4, w4, hle4⟩
  have hg3 : zcnt (zWsn A) 1024 = zcnt (zWsn A) (768 + 16 * tm A) := zcnt_gap (by omega) (fun c c1 c2 => zWs_no hn2 hw (by omega))
  rw [← hg3] at w4 hle4
  have gm4 : M4 ((258 : Nat) : Int) ((t : Nat) : Int) = ((tm A : Nat) : Int) := (f4 _ _ (by omega)).trans g1
  ((with_reducible refine i_turn (i_cI_lt (i_L3 (i_IA (i_FR (i_A0 ?_)))))); (with_reducible refine i_fldR (by assumption) ?_); (with_reducible refine i_L1 ?_); (with_reducible refine i_in (by assumption) (by omega) (by omega) ?_); (rw [gm4]); (with_reducible refine i_f (by omega) ?_); (with_reducible refine i_RetZ (i_I ?_)); (with_reducible refine i_z (Or.inl rfl) ?_))
  exact h0 hle4 M4 f4 w4
theorem m_wordsOf {O : zOm} (hO : zWld O) (hS : zS O = zmS zC0) {t n : Nat} {A : zTl} {M : zMem} {K : Option zV → zMem → Prop} (ht : t < 7) (hn : M 250 ((1 : Nat) : Int) = ((n : Nat) : Int)) (hn2 : n ≤ 16) (hA : rTe M t n A) (hw : zTw n A)
    (hk : ∀ M', (∀ b j, ¬ (b = 250 ∧ j = 50) → M' b j = M b j) → K (some (0, ((zcnt (zWsn A) 1024 : Nat) : Int))) M') : zR O F_Model_wordsOf [(2, 250), (0, ((t : Nat) : Int))] M K := by
  apply r_Model_wordsOf hO
  unfold B_Model_wordsOf
  have f50 := zMF (k := 50) hS rfl; have zo := zMO hS
  ((with_reducible refine i_Seq (i_Set (i_Call (i_as1 (i_A0 (i_as1 (i_L1 (i_as1 (i_I (i_as0 ?_)))))))))); (with_reducible refine i_recv0 (by assumption) ?_); simp only [w_set0, w_set1, w_setn0, w_setn1])
  refine m_seeks hO hS ht hn hn2 hA hw ⟨by decide, by decide⟩ (by omega) (fun _ M1 f1' w1 => ⟨_, rfl, ?_⟩) (fun c c1 c2 c3 => absurd c3 (by omega))
  ((with_reducible refine i_RetI (i_F (i_A0 ?_))); (with_reducible refine i_fld (by assumption) ?_); (rw [w1]))
  exact hk M1 f1'
