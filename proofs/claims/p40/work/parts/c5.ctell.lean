/-! ===== the class: its plain length; words told by the rule ===== -/
/-! sums over words -/
theorem zWd.at {M : zMem} {x k : Nat} {W : Nat → Bool} (h : zWd M x W) (hk : k < zcnt W 1024) : ∃ c, c < 1024 ∧ W c = true ∧ zcnt W c = k ∧ M ((x + 6 : Nat) : Int) ((k : Nat) : Int) = ((c : Nat) : Int) := by
  obtain ⟨c, h1, h2, h3⟩ := zcnt_has W 1024 k hk
  exact ⟨c, h1, h2, h3, by rw [← h3]; exact h.2 c h1 h2⟩
def zac (W : Nat → Bool) (F : Nat → Nat) (k n : Nat) : Nat := zsum (fun c => if W c = true ∧ zcnt W c < k then F c else 0) n
theorem zac_0 (W : Nat → Bool) (F : Nat → Nat) (n : Nat) : zac W F 0 n = 0 := zsum_z fun i _ => if_neg (by omega)
theorem zac_su {W : Nat → Bool} {F : Nat → Nat} {c k : Nat} (hW : W c = true) (hz : zcnt W c = k) (n : Nat) : zac W F (k + 1) n = zac W F k n + (if c < n then F c else 0) := by
  unfold zac
  induction n with
  | zero => rfl
  | succ n ih =>
    rw [zsum_su, zsum_su, ih]
    by_cases e : n = c
    · subst e
      rw [if_pos (show W n = true ∧ zcnt W n < k + 1 from ⟨hW, by omega⟩), if_neg (show ¬ (W n = true ∧ zcnt W n < k) from fun q => by omega), if_neg (Nat.lt_irrefl n), if_pos (show n < n + 1 by omega)]
    · have h1 : (W n = true ∧ zcnt W n < k + 1) ↔ (W n = true ∧ zcnt W n < k) := ⟨fun q => ⟨q.1, by
        by_cases w : zcnt W n = k
        · exact absurd (zcnt_inj W q.1 hW (w.trans hz.symm)) e
        · have := q.2; omega⟩, fun q => ⟨q.1, by have := q.2; omega⟩⟩
      have h2 : (if W n = true ∧ zcnt W n < k + 1 then F n else 0) = (if W n = true ∧ zcnt W n < k then F n else 0) := by
        by_cases w : W n = true ∧ zcnt W n < k
        · rw [if_pos w, if_pos (h1.mpr w)]
        · rw [if_neg w, if_neg (fun q => w (h1.mp q))]
      rw [h2]
      by_cases w : c < n
      · rw [if_pos w, if_pos (show c < n + 1 by omega)]; omega
      · rw [if_neg w, if_neg (show ¬ c < n + 1 by omega)]; omega
theorem zac_end (W : Nat → Bool) (F : Nat → Nat) (n : Nat) : zac W F (zcnt W n) n = zsum (fun c => if W c = true then F c else 0) n := zsum_ext fun c hc => by
  by_cases e : W c = true
  · rw [if_pos e, if_pos ⟨e, zcnt_lt W hc e⟩]
  · rw [if_neg e, if_neg (fun q => e q.1)]
theorem zac_le {W : Nat → Bool} {F : Nat → Nat} {B : Nat} (h : ∀ c, F c ≤ B) (k n : Nat) : zac W F k n ≤ n * B := zsum_le (fun c => zite_le (h c)) n
/-- bits of a word -/
def zbo (n m c : Nat) : Nat := if c / 256 = 1 then 3 + 2 * zBits m else if c / 256 = 2 then 3 + zBits n + zBits m else 3 + zBits m
theorem zbo_le {n m : Nat} (hn : n ≤ 16) (hm : m ≤ 16) (c : Nat) : zbo n m c ≤ 11 := by
  have := zBits_4 hn
  have := zBits_4 hm
  unfold zbo
  split
  · omega
  · split <;> omega
theorem c_bitsOf {O : zOm} (hO : zWld O) {x n m c : Nat} {M : zMem} {K : Option zV → zMem → Prop} (hx : zTeC (zS O) x) (hn : M ((x + 1 : Nat) : Int) ((3 : Nat) : Int) = ((n : Nat) : Int)) (hn2 : n ≤ 16) (hm : M ((x + 1 : Nat) : Int) ((4 : Nat) : Int) = ((m : Nat) : Int)) (hm2 : m ≤ 16) (hc : c < 1024) (hk : K (some (0, ((zbo n m c : Nat) : Int))) M) : zR O F_Telling_bitsOf [(2, ((x : Nat) : Int)), (0, ((c : Nat) : Int))] M K := by
  obtain ⟨⟨o, x0, x1, x2, x3, x4, x5, x6⟩, ⟨y1, y2⟩, ⟨p0, p1, p2, p3, p4, p5, p6, p7, p8⟩, n1, n2, n3⟩ := hx
  have := zBits_4 hn2
  have := zBits_4 hm2
  apply r_Telling_bitsOf hO
  unfold B_Telling_bitsOf
  unfold zbo at hk
  ((with_reducible refine i_Seq (i_Set (i_Call (i_as1 (i_F (i_FR (i_A0 ?_))))))); (with_reducible refine i_fldR (by assumption) ?_); (with_reducible refine i_fld (by assumption) ?_); (with_reducible refine i_as0 (i_recv2 ?_)); (rw [hm]); (refine s_bits hO (by omega) ⟨_, rfl, ?_⟩); (with_reducible refine i_Sw (i_Call (i_as1 ?_))); simp only [w_set0, w_set1, w_setn0, w_setn1]; (with_reducible refine i_L1 (i_as0 (i_recv1 ?_))); (refine c_kindOf hO hc ⟨_, rfl, ?_⟩); (with_reducible refine i_sw1 ?_))
  by_cases e1 : c / 256 = 1
  · rw [if_pos e1] at hk
    rw [e1]
    ((refine i_t (by decide) ?_); (with_reducible refine i_RetI (i_Add (i_I (i_Mul (i_I (i_L2 ?_)))))); rw [zx_cmul (by omega)]; rw [zx_cadd (by omega)])
    exact hk
  · rw [if_neg e1] at hk
    by_cases e2 : c / 256 = 2
    · rw [if_pos e2] at hk
      rw [e2]
      ((refine i_f (by decide) ?_); (with_reducible refine i_sw1 ?_); (refine i_t (by decide) ?_); (with_reducible refine i_RetI (i_Add (i_Add (i_I (i_Call (i_as1 (i_F (i_FR (i_A0 ?_))))))))); (with_reducible refine i_fldR (by assumption) ?_); (with_reducible refine i_fld (by assumption) ?_); (with_reducible refine i_as0 (i_recv2 ?_)); (rw [hn]); (refine s_bits hO (by omega) ⟨_, rfl, ?_⟩); (with_reducible refine i_L2 ?_); rw [zx_cadd (by omega)]; rw [zx_add (by omega)])
      exact hk
    · rw [if_neg e2] at hk
      have h1 : ¬ (((c / 256 : Nat) : Int) ∈ [(1 : Int)]) := fun z => by rw [List.mem_singleton] at z; omega
      have h2 : ¬ (((c / 256 : Nat) : Int) ∈ [(2 : Int)]) := fun z => by rw [List.mem_singleton] at z; omega
      ((refine i_f h1 ?_); (with_reducible refine i_sw1 ?_); (refine i_f h2 ?_); (with_reducible refine i_sw0 (i_RetI (i_Add (i_I (i_L2 ?_))))); rw [zx_cadd (by omega)])
      exact hk
theorem zpairs_p2 {n : Nat} {T : Nat → Nat → Bool} (hT : zReg n T) (hn : n ≤ 16) : zpairs n T = zp2 T n := by
  have e1 := zS2_P2 (fun p q => zbI (T p q)) n
  have e2 : zsI (fun p => zbI (T p p)) n = 0 := zsI_0 fun p _ => by rw [hT.2.1]; rfl
  have e3 : zP2 (fun p q => zbI (T p q) + zbI (T q p)) n = zP2 (fun p q => 2 * zbI (T p q) + 0 * zbI (T p q)) n := zP2_ext fun p q _ _ => by rw [hT.1 q p]; omega
  have e4 : zS2 (fun p q => zbI (T p q)) n = ((zsum (fun p => zcnt (T p) 16) n : Nat) : Int) := by
    unfold zS2
    rw [← zsum_zsI]
    refine zsI_ext fun p _ => ?_
    rw [zcnt_zsI, zcnt_top (W := T p) (c := n) (fun d hd => by
      cases e : T p d
      · rfl
      · have := (hT.lt e).2; omega) hn]
  rw [e2, e3, zP2_lin, zP2_zp2, e4] at e1
  unfold zpairs
  omega
theorem zp2_add {f g h : Nat → Nat → Bool} {n : Nat} (e : ∀ p q, p < q → q < n → (if f p q = true then 1 else 0) = (if g p q = true then 1 else 0) + (if h p q = true then 1 else 0)) : zp2 f n = zp2 g n + zp2 h n := by
  have e1 : zP2 (fun p q => zbI (f p q)) n = zP2 (fun p q => 1 * zbI (g p q) + 1 * zbI (h p q)) n := zP2_ext fun p q h1 h2 => by
    have := e p q h1 h2
    revert this
    cases f p q <;> cases g p q <;> cases h p q <;> simp [zbI]
  rw [zP2_lin, zP2_zp2, zP2_zp2, zP2_zp2] at e1
  omega
/-- lengths without what sorts take -/
def zPl (n : Nat) (A : zTl) : Nat := n * zBits n + 4 * tm A + zsum (fun c => if zWsn A c = true then zbo n (tm A) c else 0) 1024 + (2 + 2 * zBits n) * zp2 (fun p q => decide (tv A p q = 1)) n
theorem tvs_lt {A : zTl} {p q : Nat} (h : p < q) : tvs A p q = tv A p q := if_pos h
theorem tvs_reg {n : Nat} {A : zTl} (hw : ∀ a b, tv A a b ≠ 0 → a < b ∧ b < n) (v : Nat → Bool) (hv : v 0 = false) : zReg n (fun p q => v (tvs A p q)) := by
  have h0 : ∀ a b, ¬ (a < b ∧ b < n) → tv A a b = 0 := fun a b h => Classical.byContradiction fun z => h (hw a b z)
  refine ⟨fun a b => ?_, fun a => ?_, fun a b h => ?_⟩
  · show v (tvs A a b) = v (tvs A b a)
    unfold tvs
    rcases Nat.lt_trichotomy a b with q | q | q
    · rw [if_pos q, if_neg (by omega)]
    · subst q; rfl
    · rw [if_neg (by omega), if_pos q]
  · show v (tvs A a a) = false
    unfold tvs
    rw [if_neg (Nat.lt_irrefl _), h0 a a (by omega), hv]
  · have h1 : v (tvs A a b) = true := h
    unfold tvs at h1
    by_cases q : a < b
    · rw [if_pos q] at h1
      by_cases w : b < n
      · omega
      · rw [h0 a b (fun z => w z.2), hv] at h1; cases h1
    · rw [if_neg q] at h1
      by_cases w : b < a ∧ a < n
      · omega
      · rw [h0 b a w, hv] at h1; cases h1
theorem c_plainLength {O : zOm} (hO : zWld O) {x n : Nat} {A : zTl} {M : zMem} {K : Option zV → zMem → Prop} (hx : zTeC (zS O) x) (hA : zTR M x n A) (hn : n ≤ 16) (hm : tm A ≤ 16) (hv1 : ∀ a b, tv A a b ≠ 0 → a < b ∧ b < n) (hv2 : ∀ a b, tv A a b ≤ 2) (hk : K (some (0, ((zPl n A : Nat) : Int))) M) : zR O F_Telling_plainLength [(2, ((x : Nat) : Int))] M K := by
  have hx0 := hx
  obtain ⟨⟨o, x0, x1, x2, x3, x4, x5, x6⟩, ⟨y1, y2⟩, ⟨p0, p1, p2, p3, p4, p5, p6, p7, p8⟩, n1, n2, n3⟩ := hx
  obtain ⟨hP, hr, ⟨hW, hW2⟩, hS, hX, hL⟩ := hA
  have o2 := n2.2.2.2
  have o3 := n3.2.2.2
  have hP1 := hP.1
  have hP2 := hP.2.1
  have hb4 := zBits_4 hm
  have hbn4 := zBits_4 hn
  have hW1 := hW.1
  have hnb : n * zBits n ≤ 16 * 4 := Nat.mul_le_mul hn hbn4
  have rX := tvs_reg hv1 (fun k => decide (k ≠ 0)) rfl
  have rL := tvs_reg hv1 (fun k => decide (k = 2)) rfl
  have pX := zpairs_p2 rX hn
  have pL := zpairs_p2 rL hn
  have hadd : zp2 (fun p q => decide (tvs A p q ≠ 0)) n = zp2 (fun p q => decide (tv A p q = 1)) n + zp2 (fun p q => decide (tvs A p q = 2)) n := zp2_add fun p q h1 _ => by
    rw [tvs_lt h1]
    have := hv2 p q
    rcases (show tv A p q = 0 ∨ tv A p q = 1 ∨ tv A p q = 2 by omega) with e | e | e <;> rw [e] <;> rfl
  have hle := zp2_le (fun p q => decide (tvs A p q ≠ 0)) hn
  apply r_Telling_plainLength hO
  unfold B_Telling_plainLength
  ((with_reducible refine i_Seq (i_Set (i_F (i_FR (i_A0 ?_))))); (with_reducible refine i_fldR (by assumption) ?_); (with_reducible refine i_fld (by assumption) ?_); (with_reducible refine i_Seq (i_Set (i_Add (i_Mul ?_)))); (rw [hP1]); simp only [w_set0, w_set1, w_setn0, w_setn1]; (with_reducible refine i_L1 (i_Call (i_as1 (i_L1 (i_as0 (i_recv2 ?_)))))); (refine s_bits hO (by omega) ⟨_, rfl, ?_⟩); (with_reducible refine i_Mul (i_I (i_F (i_FR (i_A0 ?_))))); (with_reducible refine i_fldR (by assumption) ?_); (with_reducible refine i_fld (by assumption) ?_); (with_reducible refine i_Seq (i_Blk (i_Seq (i_Set (i_I ?_))))); (rw [hP2]); (rw [zx_mul (by omega)]); rw [zx_cmul (by omega)]; rw [zx_add (by omega)]; simp only [w_set0, w_set1, w_setn0, w_setn1])
  refine w_ForN (zcnt (zWsn A) 1024) (fun k ρ M' => (∃ l, ρ = ((x : Nat) : Int) :: ((n : Nat) : Int) :: ((n * zBits n + 4 * tm A + zac (zWsn A) (zbo n (tm A)) k 1024 : Nat) : Int) :: ((k : Nat) : Int) :: l) ∧ M' = M) ⟨⟨_, by rw [zac_0]; rfl⟩, rfl⟩ ?_ ?_
  · rintro k ρ M1 X hk1 ⟨⟨l, rfl⟩, rfl⟩ hX
    obtain ⟨c, c1, c2, c3, c4⟩ := hW.at hk1
    have h1 := zac_le (W := zWsn A) (zbo_le (n := n) hn hm) k 1024
    have h2 := zbo_le (n := n) hn hm c
    rw [zac_su c2 c3, if_pos c1] at hX
    ((with_reducible refine i_turn (i_cI_lt (i_L3 (i_F (i_A0 ?_))))); (with_reducible refine i_fld (by assumption) ?_); (rw [hW1]); (with_reducible refine i_t (by omega) ?_); (with_reducible refine i_Set (i_Add (i_L2 (i_Call (i_as1 (i_A0 (i_as1 (i_IA (i_FR (i_A0 ?_)))))))))); (with_reducible refine i_fldR (by assumption) ?_); (with_reducible refine i_L3 ?_); (with_reducible refine i_in (by assumption) (by omega) (by omega) ?_); (with_reducible refine i_as0 ?_); (with_reducible refine i_recv0 (by assumption) ?_); (rw [c4]); (refine c_bitsOf hO hx0 hP1 hn hP2 hm c1 ⟨_, rfl, ?_⟩); (with_reducible refine i_up ?_); rw [zx_add (by omega)]; simp only [w_set0, w_set1, w_setn0, w_setn1]; (with_reducible refine i_Inc3 ?_); rw [zx_inc (by omega)]; simp only [w_set0, w_set1, w_setn0, w_setn1])
    exact hX _ _ ⟨⟨_, by rw [← Nat.add_assoc]⟩, rfl⟩
  · rintro ρ M1 X ⟨⟨l, rfl⟩, rfl⟩
    have h1 := zac_le (W := zWsn A) (zbo_le (n := n) hn hm) (zcnt (zWsn A) 1024) 1024
    rw [zac_end] at h1 ⊢
    have h5 : (2 + 2 * zBits n) * zp2 (fun p q => decide (tv A p q = 1)) n ≤ 10 * 120 := Nat.mul_le_mul (by omega) (zp2_le _ hn)
    unfold zPl at hk
    ((with_reducible refine i_turn (i_cI_lt (i_L3 (i_F (i_A0 ?_))))); (with_reducible refine i_fld (by assumption) ?_); (rw [hW1]); (with_reducible refine i_f (by omega) ?_); (with_reducible refine i_RetI (i_Add (i_L2 (i_Mul (i_Call (i_as1 (i_L1 (i_as0 (i_recv2 ?_))))))))); (refine s_exceptBits hO (by omega) ⟨_, rfl, ?_⟩); (with_reducible refine i_Sub (i_Call (i_as1 (i_FR (i_A0 ?_))))); (with_reducible refine i_fldR (by assumption) ?_); (with_reducible refine i_as0 ?_); (with_reducible refine i_recv0 (by assumption) ?_); (refine s_Net_pairs hO n2 hX hn ⟨_, rfl, ?_⟩); (with_reducible refine i_Call (i_as1 (i_FR (i_A0 ?_)))); (with_reducible refine i_fldR (by assumption) ?_); (with_reducible refine i_as0 ?_); (with_reducible refine i_recv0 (by assumption) ?_); (refine s_Net_pairs hO n3 hL hn ⟨_, rfl, ?_⟩); (rw [pX]); (rw [pL]); (rw [hadd]); rw [zx_sub (by omega) (by omega)]; (rw [Nat.add_sub_cancel]); (rw [zx_mul (by omega)]); rw [zx_add (by omega)])
    exact hk
theorem c_tell {O : zOm} (hO : zWld O) {r x y n m : Nat} {g : Nat → Nat} {T : Nat → Nat → Bool} {M : zMem} {K : Option zV → zMem → Prop} (hr : zRl (zS O) r) (hx : zTeC (zS O) x) (hy : zNet (zS O) y) (hrx : r + 1 < x) (hyx : y + 1 < x ∨ x + 12 < y) (hyr : y + 1 < r ∨ r + 1 < y) (hN : zNR M y n T) (hT : zReg n T) (hM : zPR M (x + 1) n g m) (hn : n ≤ 16) (hm : m ≤ 16) (hg : ∀ q, q < n → g q < m) (hon : ∀ i, i < m → ∃ p, p < n ∧ g p = i)
    (hk : ∀ M', (∀ b j, ¬ (b = ((r : Nat) : Int) ∨ b = ((r + 1 : Nat) : Int) ∨ b = ((x : Nat) : Int) ∨ ((x + 5 : Nat) : Int) ≤ b ∧ b ≤ ((x + 12 : Nat) : Int)) → M' b j = M b j) → zTR M' x n (zRul n m T g) → K (some (0, ((zPl n (zRul n m T g) : Nat) : Int))) M') : zR O F_Rule_tell [(2, ((r : Nat) : Int)), (2, ((y : Nat) : Int)), (2, ((x : Nat) : Int))] M K := by
  have hr0 := hr
  have hx0 := hx
  have hy0 := hy
  obtain ⟨r0, r1, r2, r3, r4, r5⟩ := hr
  obtain ⟨⟨o, x0, x1, x2, x3, x4, x5, x6⟩, ⟨y1, y2⟩, hp, n1, n2, n3⟩ := hx
  obtain ⟨u1, u2, u3, u4⟩ := hy
  have hp0 := hp
  obtain ⟨p0, p1, p2, p3, p4, p5, p6, p7, p8⟩ := hp
  have hN1 := hN.1
  have hM2 := hM.2.1
  have hb4 := zBits_4 hm
  have hbn4 := zBits_4 hn
  apply r_Rule_tell hO
  unfold B_Rule_tell
  ((with_reducible refine i_Seq (i_sF (i_A0 (i_Call (i_as1 (i_F (i_A1 ?_))))))); (with_reducible refine i_fld (by assumption) ?_); (with_reducible refine i_as0 (i_recv2 ?_)); (rw [hN1]); (refine s_exceptBits hO (by omega) ⟨_, rfl, ?_⟩); (with_reducible refine i_fld (by assumption) ?_); (with_reducible refine i_Seq (i_sF (i_A0 (i_Call (i_as1 (i_F (i_FR (i_A2 ?_)))))))); (with_reducible refine i_fldR (by assumption) ?_); (with_reducible refine i_fld (by assumption) ?_); (with_reducible refine i_as0 (i_recv2 ?_)); rw [zg_n _ _ _ (by omega)]; (rw [hM2]); (refine s_bits hO (by omega) ⟨_, rfl, ?_⟩); (with_reducible refine i_fld (by assumption) ?_); (with_reducible refine i_Seq (i_sF (i_A0 (i_Call (i_as1 (i_F (i_A1 ?_))))))); (with_reducible refine i_fld (by assumption) ?_); (with_reducible refine i_as0 (i_recv2 ?_)); rw [zg_n _ _ _ (by omega)]; rw [zg_n _ _ _ (by omega)]; (rw [hN1]); (refine s_bits hO (by omega) ⟨_, rfl, ?_⟩); (with_reducible refine i_fld (by assumption) ?_); (with_reducible refine i_Seq (i_sCall (i_as1 (i_A2 (i_as0 ?_))))); (with_reducible refine i_recv0 (by assumption) ?_))
  have e1 : ∀ b j, ¬ b = ((r : Nat) : Int) → zput (zput (zput M ((r : Nat) : Int) (zup (M ((r : Nat) : Int)) ((1 : Nat) : Int) ((2 + 2 * zBits n : Nat) : Int))) ((r : Nat) : Int) (zup (zput M ((r : Nat) : Int) (zup (M ((r : Nat) : Int)) ((1 : Nat) : Int) ((2 + 2 * zBits n : Nat) : Int)) ((r : Nat) : Int)) ((2 : Nat) : Int) ((zBits m : Nat) : Int))) ((r : Nat) : Int) (zup (zput (zput M ((r : Nat) : Int) (zup (M ((r : Nat) : Int)) ((1 : Nat) : Int) ((2 + 2 * zBits n : Nat) : Int))) ((r : Nat) : Int) (zup (zput M ((r : Nat) : Int) (zup (M ((r : Nat) : Int)) ((1 : Nat) : Int) ((2 + 2 * zBits n : Nat) : Int)) ((r : Nat) : Int)) ((2 : Nat) : Int) ((zBits m : Nat) : Int)) ((r : Nat) : Int)) ((3 : Nat) : Int) ((zBits n : Nat) : Int)) b j = M b j := fun b j q => by
    (rw [zg_n _ _ _ (by omega)]; rw [zg_n _ _ _ (by omega)]; rw [zg_n _ _ _ (by omega)])
  have e2 : zput (zput (zput M ((r : Nat) : Int) (zup (M ((r : Nat) : Int)) ((1 : Nat) : Int) ((2 + 2 * zBits n : Nat) : Int))) ((r : Nat) : Int) (zup (zput M ((r : Nat) : Int) (zup (M ((r : Nat) : Int)) ((1 : Nat) : Int) ((2 + 2 * zBits n : Nat) : Int)) ((r : Nat) : Int)) ((2 : Nat) : Int) ((zBits m : Nat) : Int))) ((r : Nat) : Int) (zup (zput (zput M ((r : Nat) : Int) (zup (M ((r : Nat) : Int)) ((1 : Nat) : Int) ((2 + 2 * zBits n : Nat) : Int))) ((r : Nat) : Int) (zup (zput M ((r : Nat) : Int) (zup (M ((r : Nat) : Int)) ((1 : Nat) : Int) ((2 + 2 * zBits n : Nat) : Int)) ((r : Nat) : Int)) ((2 : Nat) : Int) ((zBits m : Nat) : Int)) ((r : Nat) : Int)) ((3 : Nat) : Int) ((zBits n : Nat) : Int)) ((r : Nat) : Int) ((1 : Nat) : Int) = ((2 + 2 * zBits n : Nat) : Int) := by
    (rw [zg_m _ _ _ _ _ (by omega)]; rw [zg_m _ _ _ _ _ (by omega)]; rw [zg_s])
  have e3 : zput (zput (zput M ((r : Nat) : Int) (zup (M ((r : Nat) : Int)) ((1 : Nat) : Int) ((2 + 2 * zBits n : Nat) : Int))) ((r : Nat) : Int) (zup (zput M ((r : Nat) : Int) (zup (M ((r : Nat) : Int)) ((1 : Nat) : Int) ((2 + 2 * zBits n : Nat) : Int)) ((r : Nat) : Int)) ((2 : Nat) : Int) ((zBits m : Nat) : Int))) ((r : Nat) : Int) (zup (zput (zput M ((r : Nat) : Int) (zup (M ((r : Nat) : Int)) ((1 : Nat) : Int) ((2 + 2 * zBits n : Nat) : Int))) ((r : Nat) : Int) (zup (zput M ((r : Nat) : Int) (zup (M ((r : Nat) : Int)) ((1 : Nat) : Int) ((2 + 2 * zBits n : Nat) : Int)) ((r : Nat) : Int)) ((2 : Nat) : Int) ((zBits m : Nat) : Int)) ((r : Nat) : Int)) ((3 : Nat) : Int) ((zBits n : Nat) : Int)) ((r : Nat) : Int) ((2 : Nat) : Int) = ((zBits m : Nat) : Int) := by
    (rw [zg_m _ _ _ _ _ (by omega)]; rw [zg_s])
  have e4 : zput (zput (zput M ((r : Nat) : Int) (zup (M ((r : Nat) : Int)) ((1 : Nat) : Int) ((2 + 2 * zBits n : Nat) : Int))) ((r : Nat) : Int) (zup (zput M ((r : Nat) : Int) (zup (M ((r : Nat) : Int)) ((1 : Nat) : Int) ((2 + 2 * zBits n : Nat) : Int)) ((r : Nat) : Int)) ((2 : Nat) : Int) ((zBits m : Nat) : Int))) ((r : Nat) : Int) (zup (zput (zput M ((r : Nat) : Int) (zup (M ((r : Nat) : Int)) ((1 : Nat) : Int) ((2 + 2 * zBits n : Nat) : Int))) ((r : Nat) : Int) (zup (zput M ((r : Nat) : Int) (zup (M ((r : Nat) : Int)) ((1 : Nat) : Int) ((2 + 2 * zBits n : Nat) : Int)) ((r : Nat) : Int)) ((2 : Nat) : Int) ((zBits m : Nat) : Int)) ((r : Nat) : Int)) ((3 : Nat) : Int) ((zBits n : Nat) : Int)) ((r : Nat) : Int) ((3 : Nat) : Int) = ((zBits n : Nat) : Int) := by
    (rw [zg_s])
  generalize zput (zput (zput M ((r : Nat) : Int) (zup (M ((r : Nat) : Int)) ((1 : Nat) : Int) ((2 + 2 * zBits n : Nat) : Int))) ((r : Nat) : Int) (zup (zput M ((r : Nat) : Int) (zup (M ((r : Nat) : Int)) ((1 : Nat) : Int) ((2 + 2 * zBits n : Nat) : Int)) ((r : Nat) : Int)) ((2 : Nat) : Int) ((zBits m : Nat) : Int))) ((r : Nat) : Int) (zup (zput (zput M ((r : Nat) : Int) (zup (M ((r : Nat) : Int)) ((1 : Nat) : Int) ((2 + 2 * zBits n : Nat) : Int))) ((r : Nat) : Int) (zup (zput M ((r : Nat) : Int) (zup (M ((r : Nat) : Int)) ((1 : Nat) : Int) ((2 + 2 * zBits n : Nat) : Int)) ((r : Nat) : Int)) ((2 : Nat) : Int) ((zBits m : Nat) : Int)) ((r : Nat) : Int)) ((3 : Nat) : Int) ((zBits n : Nat) : Int)) = M1 at e1 e2 e3 e4 ⊢
  have P1 : zPR M1 (x + 1) n g m := hM.fr (fun b j h1 h2 => e1 b j (by omega))
  have N1 : zNR M1 y n T := ⟨by rw [e1 _ _ (by omega)]; exact hN.1, fun p hp => by rw [e1 _ _ (by omega)]; exact hN.2 p hp⟩
  refine c_clearWords hO hx0 P1.1 (fun M2 f2 w2 s2 xx2 ll2 => ⟨rfl, ?_⟩)
  have P2 : zPR M2 (x + 1) n g m := P1.fr (fun b j h1 h2 => f2 b j (by omega))
  have N2 : zNR M2 y n T := ⟨by rw [f2 _ _ (by omega)]; exact N1.1, fun p hp => by rw [f2 _ _ (by omega)]; exact N1.2 p hp⟩
  ((with_reducible refine i_Seq (i_sCall (i_as1 (i_A0 (i_as1 (i_A1 (i_as1 (i_FR (i_A2 ?_))))))))); (with_reducible refine i_fldR (by assumption) ?_); (with_reducible refine i_as0 ?_); (with_reducible refine i_recv0 (by assumption) ?_))
  refine c_countBetween hO hr0 hp0 hy0 P2 hn hm N2 hg (by omega) hyr (fun M3 f3 b3 => ⟨rfl, ?_⟩)
  have P3 : zPR M3 (x + 1) n g m := P2.fr (fun b j h1 h2 => f3 b j (by omega))
  have N3 : zNR M3 y n T := ⟨by rw [f3 _ _ (by omega)]; exact N2.1, fun p hp => by rw [f3 _ _ (by omega)]; exact N2.2 p hp⟩
  have E3 : M3 ((r : Nat) : Int) ((1 : Nat) : Int) = ((2 + 2 * zBits n : Nat) : Int) := by rw [f3 _ _ (by omega), f2 _ _ (by omega)]; exact e2
  have B3 : M3 ((r : Nat) : Int) ((2 : Nat) : Int) = ((zBits m : Nat) : Int) := by rw [f3 _ _ (by omega), f2 _ _ (by omega)]; exact e3
  have C3 : M3 ((r : Nat) : Int) ((3 : Nat) : Int) = ((zBits n : Nat) : Int) := by rw [f3 _ _ (by omega), f2 _ _ (by omega)]; exact e4
  have K3 : zTk M3 x n m T g 0 (fun _ _ => false) := ⟨⟨by rw [f3 _ _ (by omega)]; exact s2.1, fun p hp => by rw [f3 _ _ (by omega)]; exact s2.2 p hp⟩, (w2.to (fun j => f3 _ _ (by omega)) (fun j => f3 _ _ (by omega))).ext (fun c _ => (zrV_top c (Nat.zero_le _)).symm), by rw [zcnt_z (fun c _ => zrV_top c (Nat.zero_le _))]; exact Nat.zero_le _⟩
  ((with_reducible refine i_Seq (i_sCall (i_as1 (i_A0 (i_as1 (i_A2 (i_as0 ?_))))))); (with_reducible refine i_recv0 (by assumption) ?_))
  refine c_takeCrowds hO hr0 hx0 hrx E3 B3 P3 hn hm hg hT b3 K3 (fun M4 f4 K4 => ⟨rfl, ?_⟩)
  have P4 : zPR M4 (x + 1) n g m := P3.fr (fun b j h1 h2 => f4 b j (by omega))
  have N4 : zNR M4 y n T := ⟨by rw [f4 _ _ (by omega)]; exact N3.1, fun p hp => by rw [f4 _ _ (by omega)]; exact N3.2 p hp⟩
  ((with_reducible refine i_Seq (i_sCall (i_as1 (i_A0 (i_as1 (i_A2 (i_as0 ?_))))))); (with_reducible refine i_recv0 (by assumption) ?_))
  refine c_takeSides hO hr0 hx0 hrx ((f4 _ _ (by omega)).trans E3) ((f4 _ _ (by omega)).trans B3) P4 hn hm hg hon hT (fun a b ha hb => (f4 _ _ (by omega)).trans (b3 a b ha hb)) K4 (fun M5 f5 K5 => ⟨rfl, ?_⟩)
  have P5 : zPR M5 (x + 1) n g m := P4.fr (fun b j h1 h2 => f5 b j (by omega))
  have N5 : zNR M5 y n T := ⟨by rw [f5 _ _ (by omega)]; exact N4.1, fun p hp => by rw [f5 _ _ (by omega)]; exact N4.2 p hp⟩
  ((with_reducible refine i_Seq (i_sCall (i_as1 (i_A0 (i_as1 (i_A1 (i_as1 (i_A2 (i_as0 ?_))))))))); (with_reducible refine i_recv0 (by assumption) ?_))
  refine c_takeStars hO hr0 hx0 hy0 hrx hyx N5 (by rw [f5 _ _ (by omega), f4 _ _ (by omega)]; exact E3) (by rw [f5 _ _ (by omega), f4 _ _ (by omega)]; exact B3) (by rw [f5 _ _ (by omega), f4 _ _ (by omega)]; exact C3) P5 hn hm hg K5 (fun M6 f6 K6 => ⟨rfl, ?_⟩)
  have P6 : zPR M6 (x + 1) n g m := P5.fr (fun b j h1 h2 => f6 b j (by omega))
  have N6 : zNR M6 y n T := ⟨by rw [f6 _ _ (by omega)]; exact N5.1, fun p hp => by rw [f6 _ _ (by omega)]; exact N5.2 p hp⟩
  ((with_reducible refine i_Seq (i_sCall (i_as1 (i_A0 (i_as1 (i_A1 (i_as1 (i_A2 (i_as0 ?_))))))))); (with_reducible refine i_recv0 (by assumption) ?_))
  refine c_layRows hO hx0 hy0 hyx N6 hT P6 hn hm hon (fun M7 f7 R7 => ⟨rfl, ?_⟩)
  have P7 : zPR M7 (x + 1) n g m := P6.fr (fun b j h1 h2 => f7 b j (by omega))
  have N7 : zNR M7 y n T := ⟨by rw [f7 _ _ (by omega)]; exact N6.1, fun p hp => by rw [f7 _ _ (by omega)]; exact N6.2 p hp⟩
  have K7 := K6.to (M' := M7) (fun j => f7 _ _ (by omega)) (fun j => f7 _ _ (by omega)) (fun j => f7 _ _ (by omega)) (fun j => f7 _ _ (by omega))
  ((with_reducible refine i_Seq (i_sCall (i_as1 (i_A0 (i_as1 (i_A1 (i_as1 (i_A2 (i_as0 ?_))))))))); (with_reducible refine i_recv0 (by assumption) ?_))
  refine c_takeChains hO hr0 hx0 hy0 hrx hyx N7 hT (by rw [f7 _ _ (by omega), f6 _ _ (by omega), f5 _ _ (by omega), f4 _ _ (by omega)]; exact E3) (by rw [f7 _ _ (by omega), f6 _ _ (by omega), f5 _ _ (by omega), f4 _ _ (by omega)]; exact B3) P7 hn hm hon R7 K7 (fun M8 f8 K8 => ⟨rfl, ?_⟩)
  have P8 : zPR M8 (x + 1) n g m := P7.fr (fun b j h1 h2 => f8 b j (by omega))
  have N8 : zNR M8 y n T := ⟨by rw [f8 _ _ (by omega)]; exact N7.1, fun p hp => by rw [f8 _ _ (by omega)]; exact N7.2 p hp⟩
  have R8 : ∀ b k : Nat, b < m → k < zSz g n b → M8 ((x + 5 : Nat) : Int) ((zSt0 g n b + k : Nat) : Int) = ((zrow n g T b k : Nat) : Int) := fun b k h1 h2 => (f8 _ _ (by omega)).trans (R7 b k h1 h2)
  ((with_reducible refine i_Seq (i_sCall (i_as1 (i_A2 (i_as1 (i_A1 (i_as0 ?_))))))); (with_reducible refine i_recv0 (by assumption) ?_))
  refine c_correct hO hx0 hy0 hyx P8.1 K8.1 N8 (fun M9 f9 x9 l9 => ⟨rfl, ?_⟩)
  have P9 : zPR M9 (x + 1) n g m := P8.fr (fun b j h1 h2 => f9 b j (by omega))
  have K9 := K8.to (M' := M9) (fun j => f9 _ _ (by omega)) (fun j => f9 _ _ (by omega)) (fun j => f9 _ _ (by omega)) (fun j => f9 _ _ (by omega))
  have hA : zTR M9 x n (zRul n m T g) := ⟨P9, fun b k h1 h2 => (f9 _ _ (by omega)).trans (R8 b k h1 h2), ⟨K9.2.1.ext (fun c hc => by unfold zrV; rw [decide_eq_true hc]; rfl), by
      have h1 := K9.2.2
      rw [zcnt_ext (s := zrV n m T g 1024) (t := zWsn (zRul n m T g)) (fun c hc => by unfold zrV; rw [decide_eq_true hc]; rfl)] at h1
      have := zp2_le (zrSd n m T g) hn
      omega⟩, by rw [zRul_S n m T g hg]; exact K9.1, x9.ext (fun p q _ _ => (zRul_X hg hT p q).symm), l9.ext (fun p q _ _ => by
      have h2 : tvs (zRul n m T g) p q ≠ 2 := by
        have w1 := (zRul_v (n := n) (m := m) (T := T) (g := g) p q).2
        have w2 := (zRul_v (n := n) (m := m) (T := T) (g := g) q p).2
        unfold tvs; split <;> omega
      rw [decide_eq_false h2])⟩
  ((with_reducible refine i_RetI (i_Call (i_as1 (i_A2 (i_as0 ?_))))); (with_reducible refine i_recv0 (by assumption) ?_))
  refine c_plainLength hO hx0 hA hn hm (fun a b => (zRul_v a b).1) (fun a b => by have := (zRul_v (n := n) (m := m) (T := T) (g := g) a b).2; omega) ⟨_, rfl, ?_⟩
  (skip)
  refine hk M9 (fun b j q => ?_) hA
  rw [f9 _ _ (by omega), f8 _ _ (by omega), f7 _ _ (by omega), f6 _ _ (by omega), f5 _ _ (by omega), f4 _ _ (by omega), f3 _ _ (by omega), f2 _ _ (by omega), e1 _ _ (by omega)]
