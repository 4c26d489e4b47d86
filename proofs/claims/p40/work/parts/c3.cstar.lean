/-! ===== the class: stars, rows, chains by the rule ===== -/
theorem zcnt_n16 {n : Nat} (hn : n ≤ 16) (t f : Nat → Bool) : zcnt (fun i => t i && (decide (i < n) && f i)) 16 = zcnt (fun i => t i && f i) n := by
  rw [zcnt_top (c := n) (fun d hd => by rw [decide_eq_false (show ¬ d < n by omega)]; simp) hn]
  exact zcnt_ext fun i hi => by rw [decide_eq_true hi, Bool.true_and]
theorem zcnt_m16 {n : Nat} (hn : n ≤ 16) (f : Nat → Bool) : zcnt (fun i => decide (i < n) && f i) 16 = zcnt f n := by
  rw [zcnt_top (c := n) (fun d hd => by rw [decide_eq_false (show ¬ d < n by omega)]; rfl) hn]
  exact zcnt_ext fun i hi => by rw [decide_eq_true hi, Bool.true_and]
/-- tables that are symmetric -/
theorem zrS0_sym (n m : Nat) (T : Nat → Nat → Bool) (g : Nat → Nat) (p q : Nat) : zrS0 n m T g p q = zrS0 n m T g q p := by
  unfold zrS0
  rw [zWq_sym]
  exact zdb ⟨fun h => ⟨h.2.1, h.1, fun w => h.2.2 w.symm⟩, fun h => ⟨h.2.1, h.1, fun w => h.2.2 w.symm⟩⟩
theorem zrA_sym {n : Nat} {g : Nat → Nat} {p i : Nat} {S : Nat → Nat → Bool} (h : ∀ a b, S a b = S b a) (a b : Nat) : zrA n g p i S a b = zrA n g p i S b a := by
  unfold zrA
  rw [h a b, Bool.or_comm (decide (a = p ∧ b ≠ p ∧ b < n ∧ g b = i))]
theorem zrI_sym {n m : Nat} {T : Nat → Nat → Bool} {g : Nat → Nat} {S : Nat → Nat → Bool} {p : Nat} (h : ∀ a b, S a b = S b a) (i a b : Nat) : zrI n m T g S p i a b = zrI n m T g S p i b a := by
  induction i generalizing a b with
  | zero => exact h a b
  | succ i ih =>
    rw [zrI_su]
    split
    · exact zrA_sym ih a b
    · exact ih a b
theorem zrP_sym (n m : Nat) (T : Nat → Nat → Bool) (g : Nat → Nat) (p a b : Nat) : zrP n m T g p a b = zrP n m T g p b a := by
  induction p generalizing a b with
  | zero => exact zrS0_sym n m T g a b
  | succ p ih => exact zrI_sym ih m a b
theorem zchn_sym {S : Nat → Nat → Bool} {w : Nat → Nat} {f : Nat} (h : ∀ a b, S a b = S b a) (k a b : Nat) : zchn S w f k a b = zchn S w f k b a := by
  induction k generalizing a b with
  | zero => exact h a b
  | succ k ih =>
    rw [zchn_su, zchn_su, ih a b]
    generalize zchn S w f k b a = z
    rw [Bool.and_comm (decide (b = w (f + k))), Bool.and_comm (decide (b = w (f + k + 1))), Bool.or_assoc, Bool.or_assoc, Bool.or_comm (decide (a = w (f + k)) && decide (b = w (f + k + 1)))]
theorem zrQ_sym (n m : Nat) (T : Nat → Nat → Bool) (g : Nat → Nat) (i a b : Nat) : zrQ n m T g i a b = zrQ n m T g i b a := by
  induction i generalizing a b with
  | zero => exact zrP_sym n m T g n a b
  | succ i ih =>
    rw [zrQ_su]
    split
    · exact zchn_sym ih _ a b
    · exact ih a b
theorem zrG_in {n m : Nat} {T : Nat → Nat → Bool} {g : Nat → Nat} {p i : Nat} (hp : p < n) (hi : i < m) : zrG n m T g p i = zrc n m T g (zrI n m T g (zrP n m T g p) p i) p i := by unfold zrG; rw [decide_eq_true ⟨hp, hi⟩]; rfl
theorem zrW_big {n m : Nat} {T : Nat → Nat → Bool} {g : Nat → Nat} {c : Nat} (h : zrW n m T g c = true) : (c < 256 → c / 16 < m ∧ c % 16 = 0) ∧ (512 ≤ c → c < 768 → c / 16 % 16 < n ∧ c % 16 < m) ∧ (768 ≤ c → c / 16 % 16 < m ∧ c % 16 = 0 ∧ c < 1024) := by
  unfold zrW at h
  refine ⟨fun q => ?_, fun q w => ?_, fun q => ?_⟩
  · rw [if_pos q, Bool.and_eq_true] at h
    have h2 := h.2
    unfold zrC at h2
    exact ⟨(of_decide_eq_true h2).1, of_decide_eq_true h.1⟩
  · rw [if_neg (by omega), if_neg (by omega), if_pos w] at h
    unfold zrG at h
    rw [Bool.and_eq_true] at h
    exact of_decide_eq_true h.1
  · rw [if_neg (by omega), if_neg (by omega), if_neg (by omega), Bool.and_eq_true, Bool.and_eq_true] at h
    have h2 := h.2.2
    unfold zrH at h2
    rw [Bool.and_eq_true] at h2
    exact ⟨of_decide_eq_true h2.1, of_decide_eq_true h.1, of_decide_eq_true h.2.1⟩
theorem c_takeStars {O : zOm} (hO : zWld O) {r x y n m : Nat} {g : Nat → Nat} {T : Nat → Nat → Bool} {M : zMem} {K : Option zV → zMem → Prop} (hr : zRl (zS O) r) (hx : zTeC (zS O) x) (hy : zNet (zS O) y) (hrx : r + 1 < x) (hyx : y + 1 < x ∨ x + 12 < y) (hN : zNR M y n T) (hE : M ((r : Nat) : Int) ((1 : Nat) : Int) = ((2 + 2 * zBits n : Nat) : Int)) (hB : M ((r : Nat) : Int) ((2 : Nat) : Int) = ((zBits m : Nat) : Int)) (hB3 : M ((r : Nat) : Int) ((3 : Nat) : Int) = ((zBits n : Nat) : Int)) (hM : zPR M (x + 1) n g m) (hn : n ≤ 16) (hm : m ≤ 16) (hg : ∀ q, q < n → g q < m) (hS : zTk M x n m T g 512 (zrS0 n m T g))
    (hk : ∀ M', (∀ b j, ¬ (b = ((x : Nat) : Int) ∧ j = 6 ∨ b = ((x + 6 : Nat) : Int) ∨ b = ((x + 8 : Nat) : Int)) → M' b j = M b j) → zTk M' x n m T g 768 (zrP n m T g n) → K none M') : zR O F_Rule_takeStars [(2, ((r : Nat) : Int)), (2, ((y : Nat) : Int)), (2, ((x : Nat) : Int))] M K := by
  have hr0 := hr
  have hx0 := hx
  obtain ⟨r0, r1, r2, r3, r4, r5⟩ := hr
  obtain ⟨⟨o, x0, x1, x2, x3, x4, x5, x6⟩, ⟨y1, y2⟩, hp, n1, n2, n3⟩ := hx
  have n10 := n1
  obtain ⟨v1, v2, v3, v4⟩ := n1
  obtain ⟨u1, u2, u3, u4⟩ := hy
  have hp0 := hp
  obtain ⟨p0, p1, p2, p3, p4, p5, p6, p7, p8⟩ := hp
  have hb4 := zBits_4 hm
  have hbn4 := zBits_4 hn
  apply r_Rule_takeStars hO
  unfold B_Rule_takeStars
  ((with_reducible refine i_Seq (i_Seq (i_Set (i_FR (i_A2 ?_))))); (with_reducible refine i_fldR (by assumption) ?_); (with_reducible refine i_Blk (i_Seq (i_Set (i_I ?_)))); simp only [w_set0, w_set1, w_setn0, w_setn1])
  refine w_ForN n (fun p ρ M' => (∃ l, ρ = ((r : Nat) : Int) :: ((y : Nat) : Int) :: ((x : Nat) : Int) :: ((x + 1 : Nat) : Int) :: ((p : Nat) : Int) :: l) ∧ (∀ b j, ¬ (b = ((x : Nat) : Int) ∧ j = 6 ∨ b = ((x + 6 : Nat) : Int) ∨ b = ((x + 8 : Nat) : Int)) → M' b j = M b j) ∧ zTk M' x n m T g (512 + 16 * p) (zrP n m T g p)) ⟨⟨_, rfl⟩, fun _ _ _ => rfl, hS⟩ ?_ ?_
  · rintro p ρ M1 X hp1 ⟨⟨l, rfl⟩, hf, hK⟩ hX
    have gn : M1 ((x + 1 : Nat) : Int) ((3 : Nat) : Int) = ((n : Nat) : Int) := (hf _ _ (by omega)).trans hM.1
    ((with_reducible refine i_turn (i_cI_lt (i_L4 (i_F (i_A3 ?_))))); (with_reducible refine i_fld (by assumption) ?_); (rw [gn]); (with_reducible refine i_t (by omega) ?_); (with_reducible refine i_Blk (i_Seq (i_Set (i_I ?_)))); simp only [w_set0, w_set1, w_setn0, w_setn1]; rw [w_setT])
    refine w_ForN m (fun b ρ M' => (∃ l, ρ = ((r : Nat) : Int) :: ((y : Nat) : Int) :: ((x : Nat) : Int) :: ((x + 1 : Nat) : Int) :: ((p : Nat) : Int) :: ((b : Nat) : Int) :: l) ∧ (∀ b j, ¬ (b = ((x : Nat) : Int) ∧ j = 6 ∨ b = ((x + 6 : Nat) : Int) ∨ b = ((x + 8 : Nat) : Int)) → M' b j = M b j) ∧ zTk M' x n m T g (512 + 16 * p + b) (zrI n m T g (zrP n m T g p) p b)) ⟨⟨_, rfl⟩, hf, hK⟩ ?_ ?_
    · rintro b ρ M2 X1 hb1 ⟨⟨l, rfl⟩, hf, hK⟩ hX1
      have gm : M2 ((x + 1 : Nat) : Int) ((4 : Nat) : Int) = ((m : Nat) : Int) := (hf _ _ (by omega)).trans hM.2.1
      have gP : zPR M2 (x + 1) n g m := hM.fr (fun b j h1 h2 => hf b j (by omega))
      have gk : M2 ((x + 1 + 2 : Nat) : Int) ((b : Nat) : Int) = zmk (fun q => decide (q < n) && decide (g q = b)) := gP.2.2.2 b hb1
      have gE : M2 ((r : Nat) : Int) ((1 : Nat) : Int) = ((2 + 2 * zBits n : Nat) : Int) := (hf _ _ (by omega)).trans hE
      have gB : M2 ((r : Nat) : Int) ((2 : Nat) : Int) = ((zBits m : Nat) : Int) := (hf _ _ (by omega)).trans hB
      have gB3 : M2 ((r : Nat) : Int) ((3 : Nat) : Int) = ((zBits n : Nat) : Int) := (hf _ _ (by omega)).trans hB3
      have gT : M2 ((y + 1 : Nat) : Int) ((p : Nat) : Int) = zmk (T p) := (hf _ _ (by omega)).trans (hN.2 p (by omega))
      have hGv := zrG_in (T := T) (g := g) hp1 hb1
      have hsym := zrI_sym (n := n) (m := m) (T := T) (g := g) (p := p) (zrP_sym n m T g p) b
      rw [zrI_su] at hX1
      generalize zrI n m T g (zrP n m T g p) p b = S at hK hX1 hGv hsym
      have gS : M2 ((x + 7 + 1 : Nat) : Int) ((p : Nat) : Int) = zmk (S p) := hK.1.2 p (by omega)
      have hWb := zrW_g (n := n) (m := m) (T := T) (g := g) (a := p) (b := b) (by omega) (by omega)
      rw [hGv] at hWb
      have hfm : zmk (fun i => ((decide (i < n) && decide (g i = b)) && !decide (i = p)) && !S p i) = zmk (fun i => decide (i < n) && zfr g S p b i) := zmk_ext fun i _ => by
        unfold zfr
        rw [Bool.eq_iff_iff]
        simp only [Bool.and_eq_true, decide_eq_true_eq, Bool.not_eq_true', decide_eq_false_iff_not]
        constructor
        · rintro ⟨⟨⟨a1, a2⟩, a3⟩, a4⟩; exact ⟨a1, a3, a2, a4⟩
        · rintro ⟨a1, a3, a2, a4⟩; exact ⟨⟨⟨a1, a2⟩, a3⟩, a4⟩
      have hcv : zrc n m T g S p b = decide (((3 + zBits n + zBits m : Nat) : Int) < ((2 + 2 * zBits n : Nat) : Int) * (2 * ((zcnt (fun q => T p q && zfr g S p b q) n : Nat) : Int) - ((zcnt (zfr g S p b) n : Nat) : Int))) := by
        unfold zrc
        rw [zrO_cnt]
        apply decide_eq_decide.mpr
        generalize ((2 + 2 * zBits n : Nat) : Int) * (2 * ((zcnt (fun q => T p q && zfr g S p b q) n : Nat) : Int) - ((zcnt (zfr g S p b) n : Nat) : Int)) = w
        constructor <;> intro h <;> omega
      have hc1 := zcnt_le (fun q => T p q && zfr g S p b q) n
      have hc2 := zcnt_le (zfr g S p b) n
      by_cases hc : ((3 + zBits n + zBits m : Nat) : Int) < ((2 + 2 * zBits n : Nat) : Int) * (2 * ((zcnt (fun q => T p q && zfr g S p b q) n : Nat) : Int) - ((zcnt (zfr g S p b) n : Nat) : Int))
      · rw [decide_eq_true hc] at hcv
        rw [hcv] at hX1 hWb
        simp only [if_true] at hX1
        have hpos : 0 < zcnt (fun q => T p q && zfr g S p b q) n := Classical.byContradiction fun z => by
          have z0 : zcnt (fun q => T p q && zfr g S p b q) n = 0 := by omega
          rw [z0] at hc
          have : ((2 + 2 * zBits n : Nat) : Int) * (2 * ((0 : Nat) : Int) - ((zcnt (zfr g S p b) n : Nat) : Int)) ≤ 0 := Int.mul_nonpos_of_nonneg_of_nonpos (by omega) (by omega)
          omega
        obtain ⟨q, q1, q2, -⟩ := zcnt_has _ _ 0 hpos
        rw [Bool.and_eq_true] at q2
        have q3 : q ≠ p ∧ g q = b ∧ S p q = false := of_decide_eq_true q2.2
        have hs : ∀ a c, S a c = true → zrA n g p b S a c = true := fun a c h => by unfold zrA; rw [h]; rfl
        have hup : zrA n g p b S p q = true := by unfold zrA; rw [decide_eq_true (show p = p ∧ q ≠ p ∧ q < n ∧ g q = b from ⟨rfl, q3.1, q1, q3.2.1⟩)]; simp
        have hex : ∃ a c, a < c ∧ c < n ∧ S a c = false ∧ zrA n g p b S a c = true := by
          rcases Nat.lt_or_ge p q with w | w
          · exact ⟨p, q, w, q1, q3.2.2, hup⟩
          · exact ⟨q, p, by omega, hp1, by rw [hsym]; exact q3.2.2, by rw [zrA_sym hsym]; exact hup⟩
        obtain ⟨a, c, w1, w2, hf1, hf2⟩ := hex
        have hfew := zrV_few hK.2.2 hn hs w1 w2 hf1 hf2
        ((with_reducible refine i_turn (i_cI_lt (i_L5 (i_F (i_A3 ?_))))); (with_reducible refine i_fld (by assumption) ?_); (rw [gm]); (with_reducible refine i_t (by omega) ?_); (with_reducible refine i_Blk (i_Seq (i_Set (i_And (i_And (i_IA (i_FR (i_A3 ?_)))))))); (with_reducible refine i_fldR (by assumption) ?_); (with_reducible refine i_L5 ?_); (with_reducible refine i_in (by assumption) (by omega) (by omega) ?_); (with_reducible refine i_Xor (i_Shl (i_I (i_L4 (i_I (i_Xor (i_IA (i_FR (i_FR (i_A2 ?_)))))))))); (with_reducible refine i_fldR (by assumption) ?_); (with_reducible refine i_fldR (by assumption) ?_); (with_reducible refine i_L4 ?_); (with_reducible refine i_in (by assumption) (by omega) (by omega) ?_); (with_reducible refine i_I (i_Seq (i_Set (i_Call (i_as1 (i_And (i_IA (i_FR ?_)))))))); (rw [gk]); (rw [gS]); (rw [yshl_mk (by omega)]); (rw [ynot_mk]); (rw [ynot_mk]); (rw [hfm]); simp only [w_set0, w_set1, w_setn0, w_setn1]; (with_reducible refine i_A1 ?_); (with_reducible refine i_fldR (by assumption) ?_); (with_reducible refine i_L4 ?_); (with_reducible refine i_in (by assumption) (by omega) (by omega) ?_); (rw [gT]); rw [w_setT]; (with_reducible refine i_L6 (i_as0 (i_recv1 ?_))); (rw [yand_mk]); (refine s_bitCount hO ⟨_, rfl, ?_⟩); (with_reducible refine i_If (i_cAnd (i_cZ_gt ?_))); (rw [zcnt_n16 hn]); simp only [w_set0, w_set1, w_setn0, w_setn1]; rw [w_setT]; (with_reducible refine i_L7 ?_); (with_reducible refine i_t (by omega) ?_); (with_reducible refine i_cZ_ne (i_Call (i_as1 (i_A0 (i_as1 (i_L7 (i_as1 (i_Call (i_as1 (i_L6 (i_as0 (i_recv1 ?_)))))))))))); (refine s_bitCount hO ⟨_, rfl, ?_⟩); (with_reducible refine i_as1 (i_Add (i_Add (i_I (i_F (i_A0 ?_)))))); (with_reducible refine i_fld (by assumption) ?_); (with_reducible refine i_F (i_A0 ?_)); (with_reducible refine i_fld (by assumption) ?_); (with_reducible refine i_as0 ?_); (with_reducible refine i_recv0 (by assumption) ?_); (rw [gB]); (rw [gB3]); (rw [zcnt_m16 hn]); rw [zx_cadd (by omega)]; rw [zx_add (by omega)])
        refine c_isSparing hO hr0 gE (by omega) (by omega) (by omega) (by omega) ⟨_, rfl, ?_⟩
        ((rw [decide_eq_true hc]); rw [zbI_t]; (with_reducible refine i_t (by omega) ?_); (with_reducible refine i_Seq (i_sCall (i_as1 (i_A2 (i_as1 (i_Call (i_as1 (i_I (i_as1 (i_L4 (i_as1 (i_L5 (i_as0 (i_recv1 ?_)))))))))))))); (refine c_wordOf hO (k := 2) (by omega) (by omega) (by omega) ⟨_, rfl, ?_⟩); (with_reducible refine i_as0 ?_); (with_reducible refine i_recv0 (by assumption) ?_))
        rw [show 256 * 2 + 16 * p + b = 512 + 16 * p + b by omega]
        refine c_addWord hO hx0 hK.2.1 (by omega) (fun d hd => zrV_top d hd) hfew (fun M3 f3 h3 => ⟨rfl, ?_⟩)
        have gk2 : M3 ((x + 1 + 2 : Nat) : Int) ((b : Nat) : Int) = zmk (fun q => decide (q < n) && decide (g q = b)) := (f3 _ _ (by omega)).trans gk
        have gN2 : zNR M3 (x + 7) n S := ⟨by rw [f3 _ _ (by omega)]; exact hK.1.1, fun p hp => by rw [f3 _ _ (by omega)]; exact hK.1.2 p hp⟩
        ((with_reducible refine i_sCall (i_as1 (i_FR (i_A2 ?_)))); (with_reducible refine i_fldR (by assumption) ?_); (with_reducible refine i_as1 (i_Shl (i_I (i_L4 (i_as1 (i_IA (i_FR (i_A3 ?_)))))))); (with_reducible refine i_fldR (by assumption) ?_); (with_reducible refine i_L5 ?_); (with_reducible refine i_in (by assumption) (by omega) (by omega) ?_); (with_reducible refine i_as0 ?_); (with_reducible refine i_recv0 (by assumption) ?_); (rw [gk2]); (rw [yshl_mk (by omega)]); (refine s_Net_cross hO n10 gN2 hn (fun M4 f4 h4 => ⟨rfl, ?_⟩)); (with_reducible refine i_up (i_Inc5 ?_)); rw [zx_inc (by omega)]; simp only [w_set0, w_set1, w_setn0, w_setn1])
        have h5 : zNR M4 (x + 7) n (zrA n g p b S) := h4.ext fun a c ha hc => by
          unfold zcrs zrA
          congr 1
          rw [Bool.eq_iff_iff]
          simp only [Bool.and_eq_true, Bool.or_eq_true, decide_eq_true_eq, Bool.not_eq_true', decide_eq_false_iff_not]
          constructor
          · rintro ⟨⟨a1, a2⟩, ⟨a3, a4, a5⟩ | ⟨⟨a4, a5⟩, a3⟩⟩
            · exact Or.inl ⟨a3, fun z => a2 (z.trans a3.symm), a4, a5⟩
            · exact Or.inr ⟨a3, fun z => a2 (a3.trans z.symm), a4, a5⟩
          · rintro (⟨a3, a2, a4, a5⟩ | ⟨a3, a2, a4, a5⟩)
            · exact ⟨⟨by omega, fun z => a2 (z.trans a3)⟩, Or.inl ⟨a3, a4, a5⟩⟩
            · exact ⟨⟨a4, fun z => a2 (z.symm.trans a3)⟩, Or.inr ⟨⟨a4, a5⟩, a3⟩⟩
        refine hX1 _ _ ⟨⟨_, rfl⟩, fun b' j q => ?_, zTk.add (L := 512 + 16 * p + b) hK.2.2 (by omega) hWb h5 (h3.to (fun j => by rw [f4 _ (by simp <;> omega)]) (fun j => by rw [f4 _ (by simp <;> omega)])) hs w1 w2 hf1 hf2⟩
        rw [f4 b' (by simp <;> omega), f3 b' j (by omega)]
        exact hf b' j q
      · rw [decide_eq_false hc] at hcv
        rw [hcv] at hX1 hWb
        simp only [Bool.false_eq_true, if_false] at hX1
        have hfin : ∀ l, X1 (((r : Nat) : Int) :: ((y : Nat) : Int) :: ((x : Nat) : Int) :: ((x + 1 : Nat) : Int) :: ((p : Nat) : Int) :: ((b + 1 : Nat) : Int) :: l) M2 := fun l => hX1 _ _ ⟨⟨l, rfl⟩, hf, hK.no hWb⟩
        by_cases h1 : 0 < zcnt (fun q => T p q && zfr g S p b q) n
        · ((with_reducible refine i_turn (i_cI_lt (i_L5 (i_F (i_A3 ?_))))); (with_reducible refine i_fld (by assumption) ?_); (rw [gm]); (with_reducible refine i_t (by omega) ?_); (with_reducible refine i_Blk (i_Seq (i_Set (i_And (i_And (i_IA (i_FR (i_A3 ?_)))))))); (with_reducible refine i_fldR (by assumption) ?_); (with_reducible refine i_L5 ?_); (with_reducible refine i_in (by assumption) (by omega) (by omega) ?_); (with_reducible refine i_Xor (i_Shl (i_I (i_L4 (i_I (i_Xor (i_IA (i_FR (i_FR (i_A2 ?_)))))))))); (with_reducible refine i_fldR (by assumption) ?_); (with_reducible refine i_fldR (by assumption) ?_); (with_reducible refine i_L4 ?_); (with_reducible refine i_in (by assumption) (by omega) (by omega) ?_); (with_reducible refine i_I (i_Seq (i_Set (i_Call (i_as1 (i_And (i_IA (i_FR ?_)))))))); (rw [gk]); (rw [gS]); (rw [yshl_mk (by omega)]); (rw [ynot_mk]); (rw [ynot_mk]); (rw [hfm]); simp only [w_set0, w_set1, w_setn0, w_setn1]; (with_reducible refine i_A1 ?_); (with_reducible refine i_fldR (by assumption) ?_); (with_reducible refine i_L4 ?_); (with_reducible refine i_in (by assumption) (by omega) (by omega) ?_); (rw [gT]); rw [w_setT]; (with_reducible refine i_L6 (i_as0 (i_recv1 ?_))); (rw [yand_mk]); (refine s_bitCount hO ⟨_, rfl, ?_⟩); (with_reducible refine i_If (i_cAnd (i_cZ_gt ?_))); (rw [zcnt_n16 hn]); simp only [w_set0, w_set1, w_setn0, w_setn1]; rw [w_setT]; (with_reducible refine i_L7 ?_); (with_reducible refine i_t (by omega) ?_); (with_reducible refine i_cZ_ne (i_Call (i_as1 (i_A0 (i_as1 (i_L7 (i_as1 (i_Call (i_as1 (i_L6 (i_as0 (i_recv1 ?_)))))))))))); (refine s_bitCount hO ⟨_, rfl, ?_⟩); (with_reducible refine i_as1 (i_Add (i_Add (i_I (i_F (i_A0 ?_)))))); (with_reducible refine i_fld (by assumption) ?_); (with_reducible refine i_F (i_A0 ?_)); (with_reducible refine i_fld (by assumption) ?_); (with_reducible refine i_as0 ?_); (with_reducible refine i_recv0 (by assumption) ?_); (rw [gB]); (rw [gB3]); (rw [zcnt_m16 hn]); rw [zx_cadd (by omega)]; rw [zx_add (by omega)])
          refine c_isSparing hO hr0 gE (by omega) (by omega) (by omega) (by omega) ⟨_, rfl, ?_⟩
          ((rw [decide_eq_false hc]); rw [zbI_f]; (with_reducible refine i_f (by omega) ?_); (with_reducible refine i_up (i_Inc5 ?_)); rw [zx_inc (by omega)]; simp only [w_set0, w_set1, w_setn0, w_setn1])
          exact hfin _
        · ((with_reducible refine i_turn (i_cI_lt (i_L5 (i_F (i_A3 ?_))))); (with_reducible refine i_fld (by assumption) ?_); (rw [gm]); (with_reducible refine i_t (by omega) ?_); (with_reducible refine i_Blk (i_Seq (i_Set (i_And (i_And (i_IA (i_FR (i_A3 ?_)))))))); (with_reducible refine i_fldR (by assumption) ?_); (with_reducible refine i_L5 ?_); (with_reducible refine i_in (by assumption) (by omega) (by omega) ?_); (with_reducible refine i_Xor (i_Shl (i_I (i_L4 (i_I (i_Xor (i_IA (i_FR (i_FR (i_A2 ?_)))))))))); (with_reducible refine i_fldR (by assumption) ?_); (with_reducible refine i_fldR (by assumption) ?_); (with_reducible refine i_L4 ?_); (with_reducible refine i_in (by assumption) (by omega) (by omega) ?_); (with_reducible refine i_I (i_Seq (i_Set (i_Call (i_as1 (i_And (i_IA (i_FR ?_)))))))); (rw [gk]); (rw [gS]); (rw [yshl_mk (by omega)]); (rw [ynot_mk]); (rw [ynot_mk]); (rw [hfm]); simp only [w_set0, w_set1, w_setn0, w_setn1]; (with_reducible refine i_A1 ?_); (with_reducible refine i_fldR (by assumption) ?_); (with_reducible refine i_L4 ?_); (with_reducible refine i_in (by assumption) (by omega) (by omega) ?_); (rw [gT]); rw [w_setT]; (with_reducible refine i_L6 (i_as0 (i_recv1 ?_))); (rw [yand_mk]); (refine s_bitCount hO ⟨_, rfl, ?_⟩); (with_reducible refine i_If (i_cAnd (i_cZ_gt ?_))); (rw [zcnt_n16 hn]); simp only [w_set0, w_set1, w_setn0, w_setn1]; rw [w_setT]; (with_reducible refine i_L7 ?_); (with_reducible refine i_f (by omega) ?_); (with_reducible refine i_up (i_Inc5 ?_)); rw [zx_inc (by omega)]; simp only [w_set0, w_set1, w_setn0, w_setn1])
          exact hfin _
    · rintro ρ M2 X1 ⟨⟨l, rfl⟩, hf, hK⟩
      have gm : M2 ((x + 1 : Nat) : Int) ((4 : Nat) : Int) = ((m : Nat) : Int) := (hf _ _ (by omega)).trans hM.2.1
      ((with_reducible refine i_turn (i_cI_lt (i_L5 (i_F (i_A3 ?_))))); (with_reducible refine i_fld (by assumption) ?_); (rw [gm]); (with_reducible refine i_f (by omega) ?_); (with_reducible refine i_up (i_Inc4 ?_)); rw [zx_inc (by omega)]; simp only [w_set0, w_set1, w_setn0, w_setn1])
      refine hX _ _ ⟨⟨_, rfl⟩, hf, hK.lim (fun c h1 h2 => ?_)⟩
      by_cases e : 512 ≤ c ∧ c < 768
      · have := (zrW_big h2).2.1 e.1 e.2
        omega
      · omega
  · rintro ρ M1 X ⟨⟨l, rfl⟩, hf, hK⟩
    have gn : M1 ((x + 1 : Nat) : Int) ((3 : Nat) : Int) = ((n : Nat) : Int) := (hf _ _ (by omega)).trans hM.1
    ((with_reducible refine i_turn (i_cI_lt (i_L4 (i_F (i_A3 ?_))))); (with_reducible refine i_fld (by assumption) ?_); (rw [gn]); (with_reducible refine i_f (by omega) ?_); (with_reducible refine i_RetV ?_))
    refine hk _ hf (hK.lim (fun c h1 h2 => ?_))
    by_cases e : 512 ≤ c ∧ c < 768
    · have := (zrW_big h2).2.1 e.1 e.2
      omega
    · omega
/-! rows -/
theorem zSt0_cnt (g : Nat → Nat) (n b : Nat) : zSt0 g n b = zcnt (fun q => decide (g q < b)) n := by
  unfold zSt0
  induction b with
  | zero => exact (zcnt_z (fun i _ => decide_eq_false (Nat.not_lt_zero _))).symm
  | succ b ih =>
    rw [zsum_su, ih]
    unfold zSz
    clear ih
    induction n with
    | zero => rfl
    | succ n ih =>
      rw [zcnt_su, zcnt_su, zcnt_su, ← ih]
      by_cases e : g n < b
      · rw [decide_eq_true e, decide_eq_false (show ¬ g n = b by omega), decide_eq_true (show g n < b + 1 by omega)]; simp only [if_true, Bool.false_eq_true, if_false]; omega
      · by_cases e2 : g n = b
        · rw [decide_eq_false e, decide_eq_true e2, decide_eq_true (show g n < b + 1 by omega)]; simp only [if_true, Bool.false_eq_true, if_false]; omega
        · rw [decide_eq_false e, decide_eq_false e2, decide_eq_false (show ¬ g n < b + 1 by omega)]; simp only [Bool.false_eq_true, if_false]; omega
theorem zSt0_le (g : Nat → Nat) (n b : Nat) : zSt0 g n b ≤ n := by rw [zSt0_cnt]; exact zcnt_le _ _
theorem zSt0_su (g : Nat → Nat) (n b : Nat) : zSt0 g n (b + 1) = zSt0 g n b + zSz g n b := rfl
theorem zSt0_mono (g : Nat → Nat) (n : Nat) {b c : Nat} (h : b ≤ c) : zSt0 g n b ≤ zSt0 g n c := by
  induction c with
  | zero => rw [show b = 0 by omega]; exact Nat.le_refl _
  | succ c ih =>
    rcases Nat.lt_or_ge b (c + 1) with q | q
    · have := ih (by omega)
      have := zSt0_su g n c
      omega
    · rw [show b = c + 1 by omega]; exact Nat.le_refl _
theorem zSt0_in (g : Nat → Nat) (n : Nat) {b c : Nat} (h : b < c) : zSt0 g n b + zSz g n b ≤ zSt0 g n c := by
  rw [← zSt0_su]; exact zSt0_mono g n h
theorem c_firstInRow {O : zOm} (hO : zWld O) {y n i : Nat} {g : Nat → Nat} {T : Nat → Nat → Bool} {M : zMem} {K : Option zV → zMem → Prop} (hy : zNet (zS O) y) (hN : zNR M y n T) (hn : n ≤ 16) (hT : zReg n T) (hon : ∃ p, p < n ∧ g p = i)
    (hk : ∀ p : Nat, (zmnF (fun p => decide (g p = i)) (zdeg n (fun p => decide (g p = i)) T) n).1 = ((p : Nat) : Int) → p < n → g p = i → K (some (0, ((p : Nat) : Int))) M) : zR O F_Rule_firstInRow [(2, ((y : Nat) : Int)), (0, zmk (fun q => decide (q < n) && decide (g q = i)))] M K := by
  obtain ⟨u1, u2, u3, u4⟩ := hy
  have hN1 := hN.1
  have hdeg : ∀ p, zcnt (fun q => T p q && (decide (q < n) && decide (g q = i))) 16 = zdeg n (fun p => decide (g p = i)) T p := fun p => by
    rw [zcnt_nb hn]
    unfold zdeg
    refine zcnt_ext fun q _ => ?_
    by_cases e : q = p
    · subst e; rw [hT.2.1]; simp
    · rw [decide_eq_true e, Bool.true_and, Bool.and_comm]
  have hd15 : ∀ p, p < n → zdeg n (fun p => decide (g p = i)) T p < 16 := fun p hp => by
    have h1 := zcnt_sub1 (s := fun q => decide (q ≠ p) && (decide (g q = i) && T p q)) (t := fun _ => true) (n := n) (i := p) (fun _ _ _ => rfl) hp (by simp) rfl
    have h2 := zcnt_le (fun _ => true) n
    show zcnt (fun q => decide (q ≠ p) && (decide (g q = i) && T p q)) n < 16
    omega
  apply r_Rule_firstInRow hO
  unfold B_Rule_firstInRow
  ((with_reducible refine i_Seq (i_Set (i_I (i_Seq (i_Set (i_I (i_Seq (i_Blk (i_Seq (i_Set (i_I ?_))))))))))); simp only [w_set0, w_set1, w_setn0, w_setn1])
  refine w_ForN n (fun k ρ M' => (∃ a b l, ρ = ((y : Nat) : Int) :: zmk (fun q => decide (q < n) && decide (g q = i)) :: ((a : Nat) : Int) :: ((b : Nat) : Int) :: ((k : Nat) : Int) :: l ∧ a < 16 ∧ b ≤ 16 ∧ ((zmnF (fun p => decide (g p = i)) (zdeg n (fun p => decide (g p = i)) T) k).1 < 0 → a = 0 ∧ b = 16) ∧ (¬ (zmnF (fun p => decide (g p = i)) (zdeg n (fun p => decide (g p = i)) T) k).1 < 0 → (zmnF (fun p => decide (g p = i)) (zdeg n (fun p => decide (g p = i)) T) k).1 = ((a : Nat) : Int) ∧ (zmnF (fun p => decide (g p = i)) (zdeg n (fun p => decide (g p = i)) T) k).2 = ((b : Nat) : Int))) ∧ M' = M) ⟨⟨0, 16, _, rfl, by omega, by omega, fun _ => ⟨rfl, rfl⟩, fun q => absurd (show (-1 : Int) < 0 by omega) q⟩, rfl⟩ ?_ ?_
  · rintro k ρ M1 X hk1 ⟨⟨a, b, l, rfl, ha, hb, h1, h2⟩, rfl⟩ hX
    have gr := hN.2 k (by omega)
    have hd := hd15 k hk1
    have e0 := zmnF_su (fun p => decide (g p = i)) (zdeg n (fun p => decide (g p = i)) T) k
    have hX2 : ∀ (l : zLoc) (a b : Nat), a < 16 → b ≤ 16 → ((zmnF (fun p => decide (g p = i)) (zdeg n (fun p => decide (g p = i)) T) (k + 1)).1 < 0 → a = 0 ∧ b = 16) → (¬ (zmnF (fun p => decide (g p = i)) (zdeg n (fun p => decide (g p = i)) T) (k + 1)).1 < 0 → (zmnF (fun p => decide (g p = i)) (zdeg n (fun p => decide (g p = i)) T) (k + 1)).1 = ((a : Nat) : Int) ∧ (zmnF (fun p => decide (g p = i)) (zdeg n (fun p => decide (g p = i)) T) (k + 1)).2 = ((b : Nat) : Int)) → X (((y : Nat) : Int) :: zmk (fun q => decide (q < n) && decide (g q = i)) :: ((a : Nat) : Int) :: ((b : Nat) : Int) :: ((k + 1 : Nat) : Int) :: l) M1 := fun l a b h1 h2 h3 h4 => hX _ _ ⟨⟨a, b, l, rfl, h1, h2, h3, h4⟩, rfl⟩
    generalize zmnF (fun p => decide (g p = i)) (zdeg n (fun p => decide (g p = i)) T) (k + 1) = z1 at e0 hX2
    generalize zmnF (fun p => decide (g p = i)) (zdeg n (fun p => decide (g p = i)) T) k = z0 at e0 h1 h2
    by_cases hB : g k = i
    · have hbit : yand (yshr (zmk (fun q => decide (q < n) && decide (g q = i))) ((k : Nat) : Int)) 1 = 1 := by rw [yand_1 _ (by omega), decide_eq_true hk1, decide_eq_true hB]; rfl
      have hde := hdeg k
      by_cases hl : zdeg n (fun p => decide (g p = i)) T k < b
      · ((with_reducible refine i_turn (i_cI_lt (i_L4 (i_F (i_A0 ?_))))); (with_reducible refine i_fld (by assumption) ?_); (rw [hN1]); (with_reducible refine i_t (by omega) ?_); (with_reducible refine i_If (i_cI_eq (i_And (i_Shr (i_L1 (i_L4 (i_I (i_I ?_)))))))); (rw [hbit]); simp only [w_set0, w_set1, w_setn0, w_setn1]; (with_reducible refine i_t trivial ?_); (with_reducible refine i_Blk (i_Seq (i_Set (i_Call (i_as1 (i_And (i_IA (i_FR (i_A0 ?_))))))))); (with_reducible refine i_fldR (by assumption) ?_); (with_reducible refine i_L4 ?_); (with_reducible refine i_in (by assumption) (by omega) (by omega) ?_); (with_reducible refine i_L1 (i_as0 (i_recv1 ?_))); (rw [gr]); (rw [yand_mk]); (refine s_bitCount hO ⟨_, rfl, ?_⟩); (with_reducible refine i_If (i_cI_lt ?_)); (rw [hde]); simp only [w_set0, w_set1, w_setn0, w_setn1]; rw [w_setT]; (with_reducible refine i_L5 (i_L3 ?_)); (with_reducible refine i_t (by omega) ?_); (with_reducible refine i_Seq (i_Set (i_L4 (i_Set ?_)))); simp only [w_set0, w_set1, w_setn0, w_setn1]; (with_reducible refine i_L5 (i_up ?_)); simp only [w_set0, w_set1, w_setn0, w_setn1]; (with_reducible refine i_Inc4 ?_); rw [zx_inc (by omega)]; simp only [w_set0, w_set1, w_setn0, w_setn1])
        have hcond : (decide (g k = i) = true) ∧ (z0.1 < 0 ∨ ((zdeg n (fun p => decide (g p = i)) T k : Nat) : Int) < z0.2) := ⟨decide_eq_true hB, by
          by_cases w : z0.1 < 0
          · exact Or.inl w
          · have := (h2 w).2; exact Or.inr (by omega)⟩
        rw [if_pos hcond] at e0
        subst e0
        exact hX2 _ _ _ (by omega) (by omega) (fun q => absurd q (by show ¬ ((k : Nat) : Int) < 0; omega)) (fun _ => ⟨rfl, rfl⟩)
      · ((with_reducible refine i_turn (i_cI_lt (i_L4 (i_F (i_A0 ?_))))); (with_reducible refine i_fld (by assumption) ?_); (rw [hN1]); (with_reducible refine i_t (by omega) ?_); (with_reducible refine i_If (i_cI_eq (i_And (i_Shr (i_L1 (i_L4 (i_I (i_I ?_)))))))); (rw [hbit]); simp only [w_set0, w_set1, w_setn0, w_setn1]; (with_reducible refine i_t trivial ?_); (with_reducible refine i_Blk (i_Seq (i_Set (i_Call (i_as1 (i_And (i_IA (i_FR (i_A0 ?_))))))))); (with_reducible refine i_fldR (by assumption) ?_); (with_reducible refine i_L4 ?_); (with_reducible refine i_in (by assumption) (by omega) (by omega) ?_); (with_reducible refine i_L1 (i_as0 (i_recv1 ?_))); (rw [gr]); (rw [yand_mk]); (refine s_bitCount hO ⟨_, rfl, ?_⟩); (with_reducible refine i_If (i_cI_lt ?_)); (rw [hde]); simp only [w_set0, w_set1, w_setn0, w_setn1]; rw [w_setT]; (with_reducible refine i_L5 (i_L3 ?_)); (with_reducible refine i_f (by omega) ?_); (with_reducible refine i_up (i_Inc4 ?_)); rw [zx_inc (by omega)]; simp only [w_set0, w_set1, w_setn0, w_setn1])
        have hcond : ¬ ((decide (g k = i) = true) ∧ (z0.1 < 0 ∨ ((zdeg n (fun p => decide (g p = i)) T k : Nat) : Int) < z0.2)) := fun q => by
          rcases q.2 with w | w
          · have := (h1 w).2; omega
          · by_cases w2 : z0.1 < 0
            · have := (h1 w2).2; omega
            · have := (h2 w2).2; omega
        rw [if_neg hcond] at e0
        subst e0
        exact hX2 _ _ _ ha hb h1 h2
    · have hbit : yand (yshr (zmk (fun q => decide (q < n) && decide (g q = i))) ((k : Nat) : Int)) 1 = 0 := by rw [yand_1 _ (by omega), decide_eq_false hB, Bool.and_false]; rfl
      ((with_reducible refine i_turn (i_cI_lt (i_L4 (i_F (i_A0 ?_))))); (with_reducible refine i_fld (by assumption) ?_); (rw [hN1]); (with_reducible refine i_t (by omega) ?_); (with_reducible refine i_If (i_cI_eq (i_And (i_Shr (i_L1 (i_L4 (i_I (i_I ?_)))))))); (rw [hbit]); (with_reducible refine i_f (by omega) ?_); (with_reducible refine i_up (i_Inc4 ?_)); rw [zx_inc (by omega)]; simp only [w_set0, w_set1, w_setn0, w_setn1])
      rw [if_neg (fun q => hB (of_decide_eq_true q.1))] at e0
      subst e0
      exact hX2 _ _ _ ha hb h1 h2
  · rintro ρ M1 X ⟨⟨a, b, l, rfl, ha, hb, h1, h2⟩, rfl⟩
    ((with_reducible refine i_turn (i_cI_lt (i_L4 (i_F (i_A0 ?_))))); (with_reducible refine i_fld (by assumption) ?_); (rw [hN1]); (with_reducible refine i_f (by omega) ?_); (with_reducible refine i_RetI (i_L2 ?_)))
    rcases zmnF_ok (fun p => decide (g p = i)) (zdeg n (fun p => decide (g p = i)) T) n with ⟨q1, q2, q3⟩ | ⟨p, q1, q2, q3, q4, q5⟩
    · obtain ⟨p, w1, w2⟩ := hon
      exact absurd (q3 p w1) (by simp [w2])
    · have h3 := (h2 (by rw [q1]; omega)).1
      have : a = p := by omega
      subst this
      exact hk a q1 q3 (of_decide_eq_true q4)
