/-! ===== the bound: the class ===== -/
theorem yshr_mk (s : Nat → Bool) {k : Nat} (hk : k < 16) : yshr (zmk s) ((k : Nat) : Int) = zmk (fun i => decide (i + k < 16) && s (i + k)) := by
  have h := zmk_lt s
  rw [yshr_eq]
  exact zb_ext (zshr_in _ _) (zmk_in _) fun i hi => by
    rw [zb_shr h.1 ⟨by omega, by omega⟩ (by omega), zb_mk, zb_mk, decide_eq_true hi, Bool.true_and]
    by_cases w : i < 16
    · rw [decide_eq_true w, Bool.true_and]
    · rw [decide_eq_false w, decide_eq_false (show ¬ i + k < 16 by omega)]; rfl
theorem zPC.rg {M : zMem} {p n : Nat} {f : Nat → Nat} (h : zPC M p n f) (hf : zRG n f) : zPR M p n f (zmU f n) := by
  obtain ⟨h1, h2⟩ := zRG_cg hf
  have h3 := zPR.ext h h1
  rwa [h2] at h3
theorem zmn4 (a b : Nat) : (if (4 : Nat) = 3 then max ((a : Nat) : Int) ((b : Nat) : Int) else min ((a : Nat) : Int) ((b : Nat) : Int)) = ((min a b : Nat) : Int) := by
  rw [if_neg (by decide)]; omega
theorem zmx3 (a b : Nat) : (if (3 : Nat) = 3 then max ((a : Nat) : Int) ((b : Nat) : Int) else min ((a : Nat) : Int) ((b : Nat) : Int)) = ((max a b : Nat) : Int) := by
  rw [if_pos rfl]; omega
theorem zmn4c (b c : Nat) : (if (4 : Nat) = 3 then max (@OfNat.ofNat Int c (@instOfNat c)) ((b : Nat) : Int) else min (@OfNat.ofNat Int c (@instOfNat c)) ((b : Nat) : Int)) = ((min (@OfNat.ofNat Nat c (instOfNatNat c)) b : Nat) : Int) := by
  have h : (@OfNat.ofNat Int c (@instOfNat c)) = ((c : Nat) : Int) := rfl
  have h2 : @OfNat.ofNat Nat c (instOfNatNat c) = c := rfl
  rw [if_neg (by decide), h, h2]; omega
theorem zmn4d (b c : Nat) : (if (4 : Nat) = 3 then max ((b : Nat) : Int) (@OfNat.ofNat Int c (@instOfNat c)) else min ((b : Nat) : Int) (@OfNat.ofNat Int c (@instOfNat c))) = ((min b (@OfNat.ofNat Nat c (instOfNatNat c)) : Nat) : Int) := by
  have h : (@OfNat.ofNat Int c (@instOfNat c)) = ((c : Nat) : Int) := rfl
  have h2 : @OfNat.ofNat Nat c (instOfNatNat c) = c := rfl
  rw [if_neg (by decide), h, h2]; omega
theorem c_wrongPairs {O : zOm} (hO : zWld O) {y p from' m n : Nat} {f : Nat → Nat} {T : Nat → Nat → Bool} {M : zMem} {K : Option zV → zMem → Prop} (hy : zNet (zS O) y) (hp : zPar (zS O) p) (hN : zNR M y n T) (hT : zReg n T) (hm : from' + m ≤ 16) (hM : zPC M p m f) (hf : zRG m f)
    (hk : K (some (0, ((zlv m f (zsh T from') m : Nat) : Int))) M) : zR O F_Search_wrongPairs [(2, ((y : Nat) : Int)), (0, ((from' : Nat) : Int)), (2, ((p : Nat) : Int))] M K := by
  have hR := hM.rg hf
  rw [zlv_all hf] at hk
  have hBm := zRG_mU hf (Nat.le_refl _)
  have hsur := fun i (h : i < zmU f m) => zRG_sur hf (Nat.le_refl m) h
  generalize zmU f m = B at hR hk hBm hsur
  have hR0 := hR
  obtain ⟨m1, m2, m3, m4⟩ := hR
  have hp0 := hp
  obtain ⟨p0, p1, p2, p3, p4, p5, p6, p7, p8⟩ := hp
  obtain ⟨y0, y1, y2, y3⟩ := hy
  have hm16 : m ≤ 16 := by omega
  have hTs : ∀ a b, zsh T from' a b = zsh T from' b a := fun a b => hT.1 _ _
  have hT0 : ∀ a, zsh T from' a a = false := fun a => hT.2.1 _
  apply r_Search_wrongPairs hO
  unfold B_Search_wrongPairs
  ((with_reducible refine i_Seq (i_Set (i_I (i_Seq (i_Blk (i_Seq (i_Set (i_I ?_)))))))); simp only [w_set0, w_set1, w_setn0, w_setn1])
  refine w_ForN B (fun i ρ M' => (∃ l, ρ = ((y : Nat) : Int) :: ((from' : Nat) : Int) :: ((p : Nat) : Int) :: ((zsum (fun i => zsum (fun d => zmo m f (zsh T from') i (i + d)) (B - i)) i : Nat) : Int) :: ((i : Nat) : Int) :: l) ∧ M' = M) ⟨⟨_, rfl⟩, rfl⟩ ?_ ?_
  · rintro i ρ M1 X hi ⟨⟨l, rfl⟩, rfl⟩ hX
    have hcap := zlv_le (m := m) (B := B) hm16 (by omega) f (zsh T from') i (by omega)
    have hX1 : ∀ (l : zLoc) (c : Nat), c = zsum (fun i => zsum (fun d => zmo m f (zsh T from') i (i + d)) (B - i)) i + zsum (fun d => zmo m f (zsh T from') i (i + d)) (B - i) → X (((y : Nat) : Int) :: ((from' : Nat) : Int) :: ((p : Nat) : Int) :: ((c : Nat) : Int) :: ((i + 1 : Nat) : Int) :: l) M1 := fun l c hc => by subst hc; exact hX _ _ ⟨⟨l, rfl⟩, rfl⟩
    clear hX
    generalize zsum (fun i => zsum (fun d => zmo m f (zsh T from') i (i + d)) (B - i)) i = c0 at hcap hX1 ⊢
    have hsi := zSz_le f m i
    ((with_reducible refine i_turn (i_cI_lt (i_L4 (i_F (i_A2 ?_))))); (with_reducible refine i_fld (by assumption) ?_); (rw [m2]); (with_reducible refine i_t (by omega) ?_); (with_reducible refine i_Blk (i_Seq (i_Set (i_Call (i_as1 (i_A2 (i_as1 (i_L4 (i_as0 ?_))))))))); (with_reducible refine i_recv0 (by assumption) ?_); (refine c_sizeOf hO hp0 hR0 hm16 (by omega) hi ⟨_, rfl, ?_⟩); (with_reducible refine i_Blk (i_Seq (i_Set ?_))); simp only [w_set0, w_set1, w_setn0, w_setn1]; (with_reducible refine i_L4 ?_); simp only [w_set0, w_set1, w_setn0, w_setn1]; rw [w_setT]; simp only [w_set0, w_set1, w_setn0, w_setn1]; rw [w_setT])
    refine w_ForN (B - i) (fun d ρ M' => (∃ l, ρ = ((y : Nat) : Int) :: ((from' : Nat) : Int) :: ((p : Nat) : Int) :: ((c0 + zsum (fun d => zmo m f (zsh T from') i (i + d)) d : Nat) : Int) :: ((i : Nat) : Int) :: ((zSz f m i : Nat) : Int) :: ((i + d : Nat) : Int) :: l) ∧ M' = M1) ⟨⟨_, rfl⟩, rfl⟩ ?_ ?_
    · rintro d ρ M2 X2 hd ⟨⟨l2, rfl⟩, rfl⟩ hX2
      have hc1 := zsum_cap (f := fun d => zmo m f (zsh T from') i (i + d)) (c := 120) (fun d => zmo_le hm16 _ _ _ _) d
      have hc2 : d * 120 ≤ 16 * 120 := Nat.mul_le_mul_right _ (by omega)
      have hX3 : ∀ (l : zLoc) (c : Nat), c = zsum (fun d => zmo m f (zsh T from') i (i + d)) d + zmo m f (zsh T from') i (i + d) → X2 (((y : Nat) : Int) :: ((from' : Nat) : Int) :: ((p : Nat) : Int) :: ((c0 + c : Nat) : Int) :: ((i : Nat) : Int) :: ((zSz f m i : Nat) : Int) :: ((i + d + 1 : Nat) : Int) :: l) M2 := fun l c hc => by subst hc; exact hX2 _ _ ⟨⟨l, rfl⟩, rfl⟩
      clear hX2
      generalize zsum (fun d => zmo m f (zsh T from') i (i + d)) d = c1 at hc1 hX3 ⊢
      have hj : i + d < B := by omega
      have hzle := zmo_le hm16 f (zsh T from') i (i + d)
      have hij : i ≤ i + d := by omega
      generalize i + d = j at hX3 hj hzle hij ⊢
      have hsj := zSz_le f m j
      have gj := m4 j hj
      ((with_reducible refine i_turn (i_cI_lt (i_L6 (i_F (i_A2 ?_))))); (with_reducible refine i_fld (by assumption) ?_); (rw [m2]); (with_reducible refine i_t (by omega) ?_); (with_reducible refine i_Blk (i_Seq (i_Set (i_I (i_Seq (i_Blk (i_Seq (i_Set (i_I ?_))))))))); simp only [w_set0, w_set1, w_setn0, w_setn1]; rw [w_setT]; simp only [w_set0, w_set1, w_setn0, w_setn1]; rw [w_setT])
      refine w_ForN m (fun q ρ M' => (∃ l, ρ = ((y : Nat) : Int) :: ((from' : Nat) : Int) :: ((p : Nat) : Int) :: ((c0 + c1 : Nat) : Int) :: ((i : Nat) : Int) :: ((zSz f m i : Nat) : Int) :: ((j : Nat) : Int) :: ((zbw (zsh T from') f m i j q : Nat) : Int) :: ((q : Nat) : Int) :: l) ∧ M' = M2) ⟨⟨_, rfl⟩, rfl⟩ ?_ ?_
      · rintro q ρ M3 X3 hq ⟨⟨l3, rfl⟩, rfl⟩ hX4
        have hb1 := zbw_le (zsh T from') f m i j q
        have hb2 : q * m ≤ 16 * 16 := Nat.mul_le_mul (by omega) hm16
        have gq := m3 q hq
        have gy : M3 ((y + 1 : Nat) : Int) ((from' + q : Nat) : Int) = _ := hN.2 (from' + q) (by omega)
        have hfq := zRG_le hf hq
        have hc := zcnt_le (fun r => zsh T from' q r && decide (f r = j)) m
        have hX5 : ∀ (l : zLoc) (c : Nat), c = zbw (zsh T from') f m i j q + (if f q = i then zcnt (fun r => zsh T from' q r && decide (f r = j)) m else 0) → X3 (((y : Nat) : Int) :: ((from' : Nat) : Int) :: ((p : Nat) : Int) :: ((c0 + c1 : Nat) : Int) :: ((i : Nat) : Int) :: ((zSz f m i : Nat) : Int) :: ((j : Nat) : Int) :: ((c : Nat) : Int) :: ((q + 1 : Nat) : Int) :: l) M3 := fun l c hc => by subst hc; exact hX4 _ _ ⟨⟨l, rfl⟩, rfl⟩
        clear hX4
        have hz : yand (yshr (zmk (T (from' + q))) ((from' : Nat) : Int)) (zmk (fun r => decide (r < m) && decide (f r = j))) = zmk (fun r => (decide (r + from' < 16) && zsh T from' q r) && (decide (r < m) && decide (f r = j))) := by
          rw [yshr_mk _ (by omega), yand_mk]
          refine zmk_ext fun r _ => ?_
          unfold zsh
          rw [Nat.add_comm r from']
        have hzc : zcnt (fun r => (decide (r + from' < 16) && zsh T from' q r) && (decide (r < m) && decide (f r = j))) 16 = zcnt (fun r => zsh T from' q r && decide (f r = j)) m := by
          rw [zcnt_nb hm16]
          exact zcnt_ext fun r hr => by rw [decide_eq_true (show r + from' < 16 by omega), Bool.true_and]
        by_cases e : f q = i
        · rw [if_pos e] at hX5
          ((with_reducible refine i_turn (i_cI_lt (i_L8 (i_F (i_A2 ?_))))); (with_reducible refine i_fld (by assumption) ?_); (rw [m1]); (with_reducible refine i_t (by omega) ?_); (with_reducible refine i_If (i_cI_eq (i_IA (i_FR (i_A2 ?_))))); (with_reducible refine i_fldR (by assumption) ?_); (with_reducible refine i_L8 ?_); (with_reducible refine i_in (by assumption) (by omega) (by omega) ?_); (with_reducible refine i_L4 ?_); (rw [gq]); (with_reducible refine i_t (by omega) ?_); (with_reducible refine i_Set (i_Add (i_L7 (i_Call (i_as1 (i_And (i_Shr (i_IA (i_FR (i_A0 ?_)))))))))); (with_reducible refine i_fldR (by assumption) ?_); (with_reducible refine i_Add (i_L1 (i_L8 ?_))); rw [zx_add (by omega)]; (with_reducible refine i_in (by assumption) (by omega) (by omega) ?_); (with_reducible refine i_L1 (i_IA (i_FR (i_A2 ?_)))); (with_reducible refine i_fldR (by assumption) ?_); (with_reducible refine i_L6 ?_); (with_reducible refine i_in (by assumption) (by omega) (by omega) ?_); (with_reducible refine i_as0 (i_recv1 ?_)); (rw [gy]); (rw [gj]); (rw [hz]); (refine s_bitCount hO ⟨_, rfl, ?_⟩); (with_reducible refine i_up ?_); (rw [hzc]); rw [zx_add (by omega)]; simp only [w_set0, w_set1, w_setn0, w_setn1]; (with_reducible refine i_Inc8 ?_); rw [zx_inc (by omega)]; simp only [w_set0, w_set1, w_setn0, w_setn1])
          exact hX5 _ _ (by omega)
        · rw [if_neg e] at hX5
          ((with_reducible refine i_turn (i_cI_lt (i_L8 (i_F (i_A2 ?_))))); (with_reducible refine i_fld (by assumption) ?_); (rw [m1]); (with_reducible refine i_t (by omega) ?_); (with_reducible refine i_If (i_cI_eq (i_IA (i_FR (i_A2 ?_))))); (with_reducible refine i_fldR (by assumption) ?_); (with_reducible refine i_L8 ?_); (with_reducible refine i_in (by assumption) (by omega) (by omega) ?_); (with_reducible refine i_L4 ?_); (rw [gq]); (with_reducible refine i_f (by omega) ?_); (with_reducible refine i_up (i_Inc8 ?_)); rw [zx_inc (by omega)]; simp only [w_set0, w_set1, w_setn0, w_setn1])
          exact hX5 _ _ (by omega)
      · rintro ρ M3 X3 ⟨⟨l3, rfl⟩, rfl⟩
        have hb1 := zbw_le (zsh T from') f m i j m
        have hb2 : m * m ≤ 16 * 16 := Nat.mul_le_mul hm16 hm16
        have hm1 : zSz f m i * zSz f m j ≤ 16 * 16 := Nat.mul_le_mul (by omega) (by omega)
        have hm2 : zSz f m i * (zSz f m i - 1) ≤ 16 * 16 := Nat.mul_le_mul (by omega) (by omega)
        obtain ⟨q0, q1, q2⟩ := hsur i hi
        have hs0 : 1 ≤ zSz f m i := zcnt_ex q1 (decide_eq_true q2)
        have hX4 : ∀ (l : zLoc) (u1 u2 : Nat), zon m f (zsh T from') i j = u1 → zof m f (zsh T from') i j = u2 → X2 (((y : Nat) : Int) :: ((from' : Nat) : Int) :: ((p : Nat) : Int) :: ((c0 + c1 + min u1 u2 : Nat) : Int) :: ((i : Nat) : Int) :: ((zSz f m i : Nat) : Int) :: ((j + 1 : Nat) : Int) :: l) M3 := fun l u1 u2 h1 h2 => by
          subst h1; subst h2
          rw [Nat.add_assoc]
          exact hX3 l _ rfl
        clear hX3
        by_cases e : i = j
        · obtain ⟨e1, e2⟩ := zon_crowd (m := m) (f := f) (i := i) hTs hT0
          have hle := zon_of m f (zsh T from') i i
          subst e
          have hpp : zbw (zsh T from') f m i i m / 2 ≤ zSz f m i * (zSz f m i - 1) / 2 := by
            have h1 := zov_crowd (n := m) (g := f) (i := i) hTs hT0
            rw [zon_wo] at h1
            omega
          have hX5 := fun l => hX4 l _ _ e1 e2
          clear hX4
          unfold zmo at hzle
          rw [e1, e2] at hzle
          ((with_reducible refine i_turn (i_cI_lt (i_L8 (i_F (i_A2 ?_))))); (with_reducible refine i_fld (by assumption) ?_); (rw [m1]); (with_reducible refine i_f (by omega) ?_); (with_reducible refine i_Seq (i_Set (i_eIf (i_cI_eq (i_L4 (i_L6 ?_)))))); simp only [w_set0, w_set1, w_setn0, w_setn1]; (with_reducible refine i_t trivial ?_); (with_reducible refine i_Div (i_L7 (i_I ?_))); rw [zx_divc (by omega)]; simp only [w_set0, w_set1, w_setn0, w_setn1]; (with_reducible refine i_nn (by decide) ?_); (with_reducible refine i_Seq (i_Set (i_eIf (i_cI_eq (i_L4 (i_L6 ?_)))))); simp only [w_set0, w_set1, w_setn0, w_setn1]; (with_reducible refine i_t trivial ?_); (with_reducible refine i_Div (i_Mul (i_L5 (i_Sub (i_L5 (i_I (i_I ?_))))))); rw [zx_subc (by omega) (by omega)]; (rw [zx_mul (by omega)]); rw [zx_divc (by omega)]; simp only [w_set0, w_set1, w_setn0, w_setn1]; (with_reducible refine i_nn (by decide) ?_); (with_reducible refine i_Set (i_Add (i_L3 (i_MM (i_L7 (i_Sub (i_L8 (i_L7 (i_up ?_))))))))); rw [zx_sub (by omega) (by omega)]; (rw [zmn4]); rw [zx_add (by omega)]; simp only [w_set0, w_set1, w_setn0, w_setn1]; (with_reducible refine i_Inc6 ?_); rw [zx_inc (by omega)]; simp only [w_set0, w_set1, w_setn0, w_setn1])
          exact hX5 _
        · obtain ⟨e1, e2⟩ := zon_side (m := m) (f := f) hTs e
          have hpp : zbw (zsh T from') f m i j m ≤ zSz f m i * zSz f m j := by
            have h1 := zov_side (n := m) (g := f) hTs e
            rw [zon_wo, e1, ← Int.natCast_mul] at h1
            omega
          have hX5 := fun l => hX4 l _ _ e1 e2
          clear hX4
          unfold zmo at hzle
          rw [e1, e2] at hzle
          ((with_reducible refine i_turn (i_cI_lt (i_L8 (i_F (i_A2 ?_))))); (with_reducible refine i_fld (by assumption) ?_); (rw [m1]); (with_reducible refine i_f (by omega) ?_); (with_reducible refine i_Seq (i_Set (i_eIf (i_cI_eq (i_L4 (i_L6 ?_)))))); (with_reducible refine i_f (by omega) ?_); (with_reducible refine i_L7 (i_Seq (i_Set (i_eIf (i_cI_eq ?_))))); simp only [w_set0, w_set1, w_setn0, w_setn1]; (with_reducible refine i_L4 (i_L6 ?_)); (with_reducible refine i_f (by omega) ?_); (with_reducible refine i_Mul (i_L5 (i_Call (i_as1 (i_A2 (i_as1 (i_L6 (i_as0 ?_)))))))); (with_reducible refine i_recv0 (by assumption) ?_); (refine c_sizeOf hO hp0 hR0 hm16 (by omega) hj ⟨_, rfl, ?_⟩); (with_reducible refine i_Set (i_Add ?_)); (rw [zx_mul (by omega)]); simp only [w_set0, w_set1, w_setn0, w_setn1]; (with_reducible refine i_L3 (i_MM (i_L7 (i_Sub (i_L8 (i_L7 (i_up ?_))))))); rw [zx_sub (by omega) (by omega)]; (rw [zmn4]); rw [zx_add (by omega)]; simp only [w_set0, w_set1, w_setn0, w_setn1]; (with_reducible refine i_Inc6 ?_); rw [zx_inc (by omega)]; simp only [w_set0, w_set1, w_setn0, w_setn1])
          exact hX5 _
    · rintro ρ M2 X2 ⟨⟨l2, rfl⟩, rfl⟩
      rw [show i + (B - i) = B by omega]
      ((with_reducible refine i_turn (i_cI_lt (i_L6 (i_F (i_A2 ?_))))); (with_reducible refine i_fld (by assumption) ?_); (rw [m2]); (with_reducible refine i_f (by omega) ?_); (with_reducible refine i_up (i_Inc4 ?_)); rw [zx_inc (by omega)]; simp only [w_set0, w_set1, w_setn0, w_setn1])
      exact hX1 _ _ rfl
  · rintro ρ M1 X ⟨⟨l, rfl⟩, rfl⟩
    ((with_reducible refine i_turn (i_cI_lt (i_L4 (i_F (i_A2 ?_))))); (with_reducible refine i_fld (by assumption) ?_); (rw [m2]); (with_reducible refine i_f (by omega) ?_); (with_reducible refine i_RetI (i_L3 ?_)))
    exact hk
theorem c_partPiece {O : zOm} (hO : zWld O) (hS : zS O = zmS zC0) {y from' m n : Nat} {T : Nat → Nat → Bool} {M : zMem} {K : Option zV → zMem → Prop} (hy : zNet (zS O) y) (hy7 : y + 1 < 108) (hN : zNR M y n T) (hT : zReg n T) (hm1 : 0 < m) (hm5 : m ≤ 5) (hm : from' + m ≤ 16)
    (hk : ∀ M', (∀ b j, ¬ (((112 : Nat) : Int) ≤ b ∧ b ≤ ((115 : Nat) : Int) ∨ b = ((132 : Nat) : Int)) → M' b j = M b j) → (∀ j : Nat, 1 ≤ j → j < 6 → M' ((132 : Nat) : Int) ((j : Nat) : Int) = ((zpl m (zsh T from') (zgK m) j : Nat) : Int)) → K none M') : zR O F_Search_partPiece [(2, ((108 : Nat) : Int)), (2, ((y : Nat) : Int)), (0, ((from' : Nat) : Int)), (0, ((m : Nat) : Int))] M K := by
  obtain ⟨hK1, hK2⟩ := zgK_ok (n := m) (by omega)
  generalize zgK m = K0 at hK1 hK2 hk
  have t0 := zo_108 hS
  have t1 := zf_108_1 hS
  have t2 := zf_108_4 hS
  have ta : zArr (zS O) ((132 : Nat) : Int) .int 6 := zCA (a := 132) (ty := .int) (n := 6) hS rfl
  have hX := zTeB.to hS zTe_111
  obtain ⟨⟨x0, x1, x2, x3, x4, x5, x6, x7⟩, ⟨xa, xb⟩, hQ0, -⟩ := hX
  have hQ := hQ0
  obtain ⟨q0, q1, q2, q3, q4, q5, q6, q7, q8⟩ := hQ
  apply r_Search_partPiece hO
  unfold B_Search_partPiece
  ((with_reducible refine i_Seq (i_Seq (i_Set (i_FR (i_FR (i_A0 ?_)))))); (with_reducible refine i_fldR (by assumption) ?_); (with_reducible refine i_fldR (by assumption) ?_); (with_reducible refine i_Seq (i_sCall (i_as1 ?_))); simp only [w_set0, w_set1, w_setn0, w_setn1]; (with_reducible refine i_A4 (i_as1 (i_L3 (i_as0 ?_)))); (with_reducible refine i_recv0 (by assumption) ?_))
  refine c_setWhole hO (p := 112) hQ0 (show m ≤ 16 by omega) (fun M1 f1 h1 => ⟨rfl, ?_⟩)
  change zPC M1 112 m (zgs m 0) at h1
  ((with_reducible refine i_Seq (i_sCall (i_as1 (i_FR (i_A0 ?_))))); (with_reducible refine i_fldR (by assumption) ?_); (with_reducible refine i_as1 (i_I (i_as0 (i_recv1 ?_)))))
  refine s_fill hO ta (by decide) (fun M2 f2 h2 _ => ⟨rfl, ?_⟩)
  have h21 : zPC M2 112 m (zgs m 0) := h1.fr (fun b j a1 a2 => by rw [f2 b (by simp <;> omega)])
  have fr2 : ∀ b j, ¬ (((112 : Nat) : Int) ≤ b ∧ b ≤ ((115 : Nat) : Int) ∨ b = ((132 : Nat) : Int)) → M2 b j = M b j := fun b j q => by rw [f2 b (by simp <;> omega), f1 b j (by omega)]
  clear f1 f2 h1
  ((with_reducible refine i_Seq (i_Set (i_I (i_Blk (i_Seq (i_Set (i_I ?_))))))); simp only [w_set0, w_set1, w_setn0, w_setn1])
  refine w_ForM (fun μ ρ M' => ∃ k b l, ρ = ((108 : Nat) : Int) :: ((y : Nat) : Int) :: ((from' : Nat) : Int) :: ((m : Nat) : Int) :: ((112 : Nat) : Int) :: zbI b :: ((k : Nat) : Int) :: l ∧ (∀ b j, ¬ (((112 : Nat) : Int) ≤ b ∧ b ≤ ((115 : Nat) : Int) ∨ b = ((132 : Nat) : Int)) → M' b j = M b j) ∧ (∀ j : Nat, 1 ≤ j → j < 6 → M' ((132 : Nat) : Int) ((j : Nat) : Int) = ((if k = 0 then 120 else zpl m (zsh T from') (k - 1) j : Nat) : Int)) ∧ k ≤ K0 + 1 ∧ (b = true → k ≤ K0 ∧ zPC M' 112 m (zgs m k)) ∧ (b = false → k = K0 + 1) ∧ μ = K0 + 1 - k) _ ⟨0, true, _, rfl, fr2, fun j _ hj => by rw [if_pos rfl]; exact h2 j hj, by omega, fun _ => ⟨Nat.zero_le _, h21⟩, (fun z => by cases z), rfl⟩ ?_
  clear fr2 h2 h21
  rintro μ ρ M3 X3 ⟨k, b, l3, rfl, f3, p3, hle, hbt, hbf, rfl⟩ hX3
  cases b
  · clear hX3
    have e := hbf rfl
    subst e
    ((with_reducible refine i_turn (i_cAnd (i_cZ_ne (i_L5 ?_)))); rw [zbI_f]; (with_reducible refine i_f (by omega) ?_); (with_reducible refine i_RetV ?_))
    exact hk M3 f3 (fun j h1 h6 => by rw [p3 j h1 h6, if_neg (by omega)]; rfl)
  · obtain ⟨hkK, h31⟩ := hbt rfl
    have hRG := zgs_RG m k
    have gN3 : zNR M3 y n T := hN.to (fun b j a1 a2 => f3 b j (by omega))
    have hU := zRG_mU hRG (Nat.le_refl _)
    have hU1 := zmU_pos (f := zgs m k) hm1
    have gU : M3 ((112 : Nat) : Int) ((4 : Nat) : Int) = ((zmU (zgs m k) m : Nat) : Int) := (h31.rg hRG).2.1
    ((with_reducible refine i_turn (i_cAnd (i_cZ_ne (i_L5 ?_)))); rw [zbI_t]; (with_reducible refine i_t (by omega) ?_); (with_reducible refine i_cI_lt (i_L6 (i_Ldc ?_))); (with_reducible refine i_t (by omega) ?_); (with_reducible refine i_Blk (i_Seq (i_Set (i_Call (i_as1 (i_A1 (i_as1 (i_L2 (i_as1 (i_A4 (i_as0 (i_recv1 ?_)))))))))))); simp only [w_set0, w_set1, w_setn0, w_setn1])
    refine c_wrongPairs hO hy (p := 112) hQ0 gN3 hT hm h31 hRG ⟨_, rfl, ?_⟩
    have hv := zlv_le (m := m) (B := m) (by omega) (by omega) (zgs m k) (zsh T from') m (Nat.le_refl _)
    change zlv m (zgs m k) (zsh T from') m ≤ 40000 at hv
    have hpk : ∀ j, zpl m (zsh T from') k j = if k = 0 then zlv m (zgs m k) (zsh T from') m else if zmU (zgs m k) m ≤ j ∧ zlv m (zgs m k) (zsh T from') m < zpl m (zsh T from') (k - 1) j then zlv m (zgs m k) (zsh T from') m else zpl m (zsh T from') (k - 1) j := fun j => by
      cases k with
      | zero => rfl
      | succ k => rw [if_neg (by omega)]; exact zpl_su m (zsh T from') k j
    have hk01 : k = 0 → zmU (zgs m k) m = 1 := fun e => by subst e; exact zmU_0 hm1
    have hpl0 : k = 0 → zlv m (zgs m k) (zsh T from') m ≤ 120 := fun e => by
      have := zpl_le hm1 (by omega) (zsh T from') k 0
      rw [hpk, if_pos e] at this
      exact this
    have hple := fun j => zpl_le hm1 (by omega) (zsh T from') (k - 1) j
    generalize zlv m (zgs m k) (zsh T from') m = v at hv hpk hpl0 ⊢
    generalize hu : zmU (zgs m k) m = u at hU hU1 hpk hk01 gU ⊢
    ((with_reducible refine i_Seq (i_Blk (i_Seq (i_Set (i_F (i_A4 ?_)))))); (with_reducible refine i_fld (by assumption) ?_); (rw [gU]); simp only [w_set0, w_set1, w_setn0, w_setn1]; rw [w_setT]; simp only [w_set0, w_set1, w_setn0, w_setn1]; rw [w_setT])
    refine w_ForN (6 - u) (fun d ρ M' => (∃ l, ρ = ((108 : Nat) : Int) :: ((y : Nat) : Int) :: ((from' : Nat) : Int) :: ((m : Nat) : Int) :: ((112 : Nat) : Int) :: 1 :: ((k : Nat) : Int) :: ((v : Nat) : Int) :: ((u + d : Nat) : Int) :: l) ∧ (∀ b j, ¬ b = ((132 : Nat) : Int) → M' b j = M3 b j) ∧ ∀ j : Nat, 1 ≤ j → j < 6 → M' ((132 : Nat) : Int) ((j : Nat) : Int) = ((if j < u + d then zpl m (zsh T from') k j else if k = 0 then 120 else zpl m (zsh T from') (k - 1) j : Nat) : Int)) ⟨⟨_, rfl⟩, fun _ _ _ => rfl, fun j h1 h6 => ?_⟩ ?_ ?_
    · rw [p3 j h1 h6]
      by_cases w : j < u + 0
      · rw [if_pos w, hpk j]
        have hk0 : k ≠ 0 := fun e => by have := hk01 e; omega
        rw [if_neg hk0, if_neg hk0, if_neg (by omega)]
      · rw [if_neg w]
    · rintro d ρ M5 X5 hd ⟨⟨l5, rfl⟩, f5, p5⟩ hX5
      have gp := p5 (u + d) (by omega) (by omega)
      rw [if_neg (Nat.lt_irrefl _)] at gp
      have hmin : zpl m (zsh T from') k (u + d) = min (if k = 0 then 120 else zpl m (zsh T from') (k - 1) (u + d)) v := by
        rw [hpk (u + d)]
        by_cases hk0 : k = 0
        · have := hpl0 hk0
          rw [if_pos hk0, if_pos hk0]; omega
        · rw [if_neg hk0, if_neg hk0]
          split <;> omega
      generalize (if k = 0 then 120 else zpl m (zsh T from') (k - 1) (u + d)) = w0 at gp hmin
      ((with_reducible refine i_turn (i_cI_le (i_L8 (i_I ?_)))); (with_reducible refine i_t (by omega) ?_); (with_reducible refine i_sIA (i_FR (i_A0 ?_))); (with_reducible refine i_fldR (by assumption) ?_); (with_reducible refine i_L8 (i_MM (i_IA (i_FR (i_A0 ?_))))); (with_reducible refine i_fldR (by assumption) ?_); (with_reducible refine i_L8 ?_); (with_reducible refine i_in (by assumption) (by omega) (by omega) ?_); (with_reducible refine i_L7 ?_); (with_reducible refine i_in (by assumption) (by omega) (by omega) ?_); (with_reducible refine i_up (i_Inc8 ?_)); (rw [gp]); (rw [zmn4]); rw [zx_inc (by omega)]; simp only [w_set0, w_set1, w_setn0, w_setn1])
      refine hX5 _ _ ⟨⟨_, rfl⟩, fun b j q => by rw [zg_n _ _ _ (by omega)]; exact f5 b j q, fun j h1 h6 => ?_⟩
      by_cases e : j = u + d
      · rw [e, zg_s, if_pos (by omega), hmin]
      · rw [zg_m _ _ _ _ _ (by omega), p5 j h1 h6]
        by_cases w : j < u + d
        · rw [if_pos w, if_pos (show j < u + (d + 1) by omega)]
        · rw [if_neg w, if_neg (show ¬ j < u + (d + 1) by omega)]
    · rintro ρ M5 X5 ⟨⟨l5, rfl⟩, f5, p5⟩
      rw [show u + (6 - u) = 6 by omega]
      have h51 : zPC M5 112 m (zgs m k) := h31.fr (fun b j a1 a2 => f5 b j (by omega))
      ((with_reducible refine i_turn (i_cI_le (i_L8 (i_I ?_)))); (with_reducible refine i_f (by omega) ?_); (with_reducible refine i_Set (i_Call (i_as1 (i_A4 (i_as0 ?_))))); (with_reducible refine i_recv0 (by assumption) ?_); simp only [w_set0, w_set1, w_setn0, w_setn1])
      refine c_goOn hO (p := 112) hQ0 hm1 (by omega) h51 hRG (fun M6 f6 h6 => ⟨_, rfl, ?_⟩)
      ((with_reducible refine i_up (i_Inc6 ?_)); rw [zx_inc (by omega)]; simp only [w_set0, w_set1, w_setn0, w_setn1])
      refine hX3 (K0 - k) _ M6 (by omega) ⟨k + 1, decide (zgq (zgs m k) m ≠ 0), _, rfl, fun b j q => by rw [f6 b j (by omega), f5 b j (by omega), f3 b j q], fun j h1 h6 => ?_, by omega, fun z => ?_, fun z => ?_, by omega⟩
      · rw [f6 _ _ (by omega), p5 j h1 h6, if_pos (by omega), if_neg (by omega)]; rfl
      · have z2 := of_decide_eq_true z
        rw [if_neg z2] at h6
        refine ⟨Classical.byContradiction fun w => z2 ?_, by rw [zgs_su z2]; exact h6⟩
        have : k = K0 := by omega
        rw [this]; exact hK2.1
      · have z2 := of_decide_eq_false z
        refine Classical.byContradiction fun w => z2 (hK2.2 k (by omega))
theorem c_boundBelow {O : zOm} (hO : zWld O) (hS : zS O = zmS zC0) {y n : Nat} {T : Nat → Nat → Bool} {M : zMem} {K : Option zV → zMem → Prop} (hy : zNet (zS O) y) (hy7 : y + 1 < 108) (hN : zNR M y n T) (hT : zReg n T) (hn1 : 0 < n) (hn2 : n ≤ 16)
    (hk : ∀ M', (∀ b j, ¬ (((112 : Nat) : Int) ≤ b ∧ b ≤ ((115 : Nat) : Int) ∨ b = ((132 : Nat) : Int) ∨ b = ((133 : Nat) : Int)) → M' b j = M b j) → K (some (0, ((n * zBits n + zbd n T (n - 1) : Nat) : Int))) M') : zR O F_Search_boundBelow [(2, ((108 : Nat) : Int)), (2, ((y : Nat) : Int))] M K := by
  have hB4 := zBits_4 hn2
  have t0 := zo_108 hS
  have t2 := zf_108_4 hS
  have t3 := zf_108_5 hS
  have ta : zArr (zS O) ((132 : Nat) : Int) .int 6 := zCA (a := 132) (ty := .int) (n := 6) hS rfl
  have tb : zArr (zS O) ((133 : Nat) : Int) .int 6 := zCA (a := 133) (ty := .int) (n := 6) hS rfl
  have hy0 := hy
  obtain ⟨y0, y1, y2, y3⟩ := hy
  have gy := hN.1
  apply r_Search_boundBelow hO
  unfold B_Search_boundBelow
  ((with_reducible refine i_Seq (i_Set (i_F (i_A1 ?_)))); (with_reducible refine i_fld (by assumption) ?_); (with_reducible refine i_Seq (i_sCall (i_as1 (i_FR ?_)))); (rw [gy]); simp only [w_set0, w_set1, w_setn0, w_setn1]; (with_reducible refine i_A0 ?_); (with_reducible refine i_fldR (by assumption) ?_); (with_reducible refine i_as1 (i_I (i_as0 (i_recv1 ?_)))))
  refine s_fill hO tb (by decide) (fun M1 f1 h1 _ => ⟨rfl, ?_⟩)
  ((with_reducible refine i_Seq (i_Blk (i_Seq (i_Set (i_I ?_))))); simp only [w_set0, w_set1, w_setn0, w_setn1])
  refine w_ForN ((n + 4) / 5) (fun c ρ M' => (∃ l, ρ = ((108 : Nat) : Int) :: ((y : Nat) : Int) :: ((n : Nat) : Int) :: ((5 * c : Nat) : Int) :: l) ∧ (∀ b j, ¬ (((112 : Nat) : Int) ≤ b ∧ b ≤ ((115 : Nat) : Int) ∨ b = ((132 : Nat) : Int) ∨ b = ((133 : Nat) : Int)) → M' b j = M b j) ∧ ∀ j : Nat, 1 ≤ j → j < 6 → M' ((133 : Nat) : Int) ((j : Nat) : Int) = ((zbs n T c j : Nat) : Int)) ⟨⟨_, rfl⟩, fun b j q => by rw [f1 b (by simp <;> omega)], fun j h0 hj => by rw [h1 j hj]; rfl⟩ ?_ ?_
  · rintro c ρ M2 X2 hc ⟨⟨l2, rfl⟩, f2, p2⟩ hX2
    have gN2 : zNR M2 y n T := hN.to (fun b j a1 a2 => f2 b j (by omega))
    have hle2 := fun j => zbs_le hn2 T j c (by omega)
    have hpc := fun j => zpc_le (n := n) (c := c) (by omega) T j
    have hsu : ∀ j, zbs n T (c + 1) j = zbs n T c j + zpc n T c j := fun j => zsum_su _ _
    unfold zpc at hpc hsu
    have hX3 : ∀ (l : zLoc) (M' : zMem), (∀ b j, ¬ (((112 : Nat) : Int) ≤ b ∧ b ≤ ((115 : Nat) : Int) ∨ b = ((132 : Nat) : Int) ∨ b = ((133 : Nat) : Int)) → M' b j = M b j) → (∀ j : Nat, 1 ≤ j → j < 6 → M' ((133 : Nat) : Int) ((j : Nat) : Int) = ((zbs n T (c + 1) j : Nat) : Int)) → X2 (((108 : Nat) : Int) :: ((y : Nat) : Int) :: ((n : Nat) : Int) :: ((5 * c + 5 : Nat) : Int) :: l) M' := fun l M' h1 h2 => hX2 _ _ ⟨⟨l, by rw [show 5 * (c + 1) = 5 * c + 5 by omega]⟩, h1, h2⟩
    clear hX2
    ((with_reducible refine i_turn (i_cI_lt (i_L3 (i_L2 ?_)))); (with_reducible refine i_t (by omega) ?_); (with_reducible refine i_Seq (i_sCall (i_as1 (i_A0 (i_as1 (i_A1 (i_as1 (i_L3 (i_as1 (i_MM (i_I (i_Sub (i_L2 (i_L3 (i_as0 ?_))))))))))))))); (with_reducible refine i_recv0 (by assumption) ?_); rw [zx_sub (by omega) (by omega)]; (rw [zmn4c]))
    refine c_partPiece hO hS hy0 hy7 gN2 hT (m := min 5 (n - 5 * c)) (by omega) (by omega) (by omega) (fun M3 f3 p3 => ⟨rfl, ?_⟩)
    generalize min 5 (n - 5 * c) = mm at hpc hsu p3
    ((with_reducible refine i_Blk (i_Seq (i_Set (i_I ?_)))); simp only [w_set0, w_set1, w_setn0, w_setn1]; rw [w_setT])
    refine w_ForN 5 (fun k ρ M' => (∃ l, ρ = ((108 : Nat) : Int) :: ((y : Nat) : Int) :: ((n : Nat) : Int) :: ((5 * c : Nat) : Int) :: ((1 + k : Nat) : Int) :: l) ∧ (∀ b j, ¬ b = ((133 : Nat) : Int) → M' b j = M3 b j) ∧ ∀ j : Nat, 1 ≤ j → j < 6 → M' ((133 : Nat) : Int) ((j : Nat) : Int) = ((if j < 1 + k then zbs n T (c + 1) j else zbs n T c j : Nat) : Int)) ⟨⟨_, rfl⟩, fun _ _ _ => rfl, fun j h0 h6 => by rw [if_neg (by omega), f3 _ _ (by omega)]; exact p2 j h0 h6⟩ ?_ ?_
    · rintro k ρ M4 X4 hk1 ⟨⟨l4, rfl⟩, f4, p4⟩ hX4
      have g1 := p4 (1 + k) (by omega) (by omega)
      rw [if_neg (Nat.lt_irrefl _)] at g1
      have g2 : M4 ((132 : Nat) : Int) ((1 + k : Nat) : Int) = _ := (f4 _ _ (by omega)).trans (p3 (1 + k) (by omega) (by omega))
      have hs1 := hsu (1 + k)
      have hp1 := hpc (1 + k)
      have hl1 := hle2 (1 + k)
      ((with_reducible refine i_turn (i_cI_le (i_L4 (i_I ?_)))); (with_reducible refine i_t (by omega) ?_); (with_reducible refine i_IO (i_FR (i_A0 ?_))); (with_reducible refine i_fldR (by assumption) ?_); (with_reducible refine i_L4 ?_); (with_reducible refine i_in (by assumption) (by omega) (by omega) ?_); (with_reducible refine i_IA (i_FR (i_A0 ?_))); (with_reducible refine i_fldR (by assumption) ?_); (with_reducible refine i_L4 ?_); (with_reducible refine i_in (by assumption) (by omega) (by omega) ?_); (with_reducible refine i_up (i_Inc4 ?_)); (rw [g1]); (rw [g2]); rw [zx_inc (by omega)]; rw [zx_add (by omega)]; simp only [w_set0, w_set1, w_setn0, w_setn1])
      refine hX4 _ _ ⟨⟨_, rfl⟩, fun b j q => by rw [zg_n _ _ _ (by omega)]; exact f4 b j q, fun j h0 h6 => ?_⟩
      by_cases e : j = 1 + k
      · rw [e, zg_s, if_pos (by omega), hs1]
      · rw [zg_m _ _ _ _ _ (by omega), p4 j h0 h6]
        by_cases v : j < 1 + k
        · rw [if_pos v, if_pos (by omega)]
        · rw [if_neg v, if_neg (by omega)]
    · rintro ρ M4 X4 ⟨⟨l4, rfl⟩, f4, p4⟩
      ((with_reducible refine i_turn (i_cI_le (i_L4 (i_I ?_)))); (with_reducible refine i_f (by omega) ?_); (with_reducible refine i_up (i_Inc3 ?_)); rw [zx_addc (by omega)]; simp only [w_set0, w_set1, w_setn0, w_setn1])
      exact hX3 _ _ (fun b j q => by rw [f4 b j (by omega), f3 b j (by omega), f2 b j q]) (fun j h0 h6 => by rw [p4 j h0 h6, if_pos (by omega)])
  · rintro ρ M2 X2 ⟨⟨l2, rfl⟩, f2, p2⟩
    have hE : 2 + 2 * zBits n ≤ 10 := by omega
    have hv1 := zbv_le hn2 hn1 T 1 (by omega)
    have gp1 : M2 ((133 : Nat) : Int) 1 = ((zbs n T ((n + 4) / 5) 1 : Nat) : Int) := p2 1 (by omega) (by omega)
    have hb1 := zbs_le hn2 T 1 ((n + 4) / 5) (by omega)
    have hmul1 : (2 + 2 * zBits n) * zbs n T ((n + 4) / 5) 1 ≤ 10 * 480 := Nat.mul_le_mul hE (by omega)
    ((with_reducible refine i_turn (i_cI_lt (i_L3 (i_L2 ?_)))); (with_reducible refine i_f (by omega) ?_); (with_reducible refine i_Seq (i_Set (i_Add (i_I (i_Mul (i_Call (i_as1 (i_L2 (i_as0 (i_recv2 ?_)))))))))); (refine s_exceptBits hO (show n ≤ 128 by omega) ⟨_, rfl, ?_⟩); (with_reducible refine i_IA (i_FR (i_A0 ?_))); (with_reducible refine i_fldR (by assumption) ?_); (with_reducible refine i_I ?_); (with_reducible refine i_in (by assumption) (by omega) (by omega) ?_); (with_reducible refine i_Seq (i_Blk (i_Seq (i_Set (i_I ?_))))); (rw [gp1]); (rw [zx_mul (by omega)]); rw [zx_cadd (by omega)]; simp only [w_set0, w_set1, w_setn0, w_setn1]; rw [w_setT])
    refine w_ForN (n - 1) (fun k ρ M' => (∃ l, ρ = ((108 : Nat) : Int) :: ((y : Nat) : Int) :: ((n : Nat) : Int) :: ((zbd n T k : Nat) : Int) :: ((2 + k : Nat) : Int) :: l) ∧ M' = M2) ⟨⟨_, rfl⟩, rfl⟩ ?_ ?_
    · rintro k ρ M3 X3 hk1 ⟨⟨l3, rfl⟩, rfl⟩ hX3
      have hd := zbd_le hn2 hn1 T k
      have hd1 := zbd_le hn2 hn1 T (k + 1)
      have hbv := zbd_su n T k
      have hv := zbv_le hn2 hn1 T (k + 2) (by omega)
      rw [show k + 2 = 2 + k by omega] at hbv hv
      have gp := p2 (min (2 + k) 5) (by omega) (by omega)
      have hbs := zbs_le hn2 T (min (2 + k) 5) ((n + 4) / 5) (by omega)
      have hmul : (2 + 2 * zBits n) * zbs n T ((n + 4) / 5) (min (2 + k) 5) ≤ 10 * 480 := Nat.mul_le_mul hE (by omega)
      have hX4 : ∀ (l : zLoc) (c : Nat), c = zbd n T (k + 1) → X3 (((108 : Nat) : Int) :: ((y : Nat) : Int) :: ((n : Nat) : Int) :: ((c : Nat) : Int) :: ((2 + k + 1 : Nat) : Int) :: l) M3 := fun l c hc => by subst hc; exact hX3 _ _ ⟨⟨l, rfl⟩, rfl⟩
      unfold zbv at hbv hv
      ((with_reducible refine i_turn (i_cI_le (i_L4 (i_L2 ?_)))); (with_reducible refine i_t (by omega) ?_); (with_reducible refine i_Set (i_MM (i_L3 (i_Add (i_Mul (i_I (i_L4 (i_Mul (i_Call (i_as1 (i_L2 (i_as0 (i_recv2 ?_))))))))))))); (refine s_exceptBits hO (show n ≤ 128 by omega) ⟨_, rfl, ?_⟩); (with_reducible refine i_IA (i_FR (i_A0 ?_))); (with_reducible refine i_fldR (by assumption) ?_); (with_reducible refine i_MM (i_L4 (i_I ?_))); (with_reducible refine i_in (by assumption) (by omega) (by omega) ?_); (with_reducible refine i_up ?_); (rw [zmn4d]); (rw [gp]); (rw [zx_mul (by omega)]); rw [zx_cmul (by omega)]; rw [zx_add (by omega)]; (rw [zmn4]); simp only [w_set0, w_set1, w_setn0, w_setn1]; (with_reducible refine i_Inc4 ?_); rw [zx_inc (by omega)]; simp only [w_set0, w_set1, w_setn0, w_setn1])
      exact hX4 _ _ (by omega)
    · rintro ρ M3 X3 ⟨⟨l3, rfl⟩, rfl⟩
      have hd := zbd_le hn2 hn1 T (n - 1)
      have hnB : n * zBits n ≤ 16 * 4 := Nat.mul_le_mul hn2 hB4
      ((with_reducible refine i_turn (i_cI_le (i_L4 (i_L2 ?_)))); (with_reducible refine i_f (by omega) ?_); (with_reducible refine i_RetI (i_Add (i_Mul (i_L2 (i_Call (i_as1 (i_L2 (i_as0 (i_recv2 ?_))))))))); (refine s_bits hO (show n ≤ 128 by omega) ⟨_, rfl, ?_⟩); (with_reducible refine i_L3 ?_); (rw [zx_mul (by omega)]); rw [zx_add (by omega)])
      exact hk M3 f2
