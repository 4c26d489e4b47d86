/-! ===== sentences by what they spare: the class ===== -/
theorem zsum_p2 {n : Nat} {T : Nat → Nat → Bool} (hT : zReg n T) (hn : n ≤ 16) : zsum (fun p => zcnt (T p) 16) n = 2 * zp2 T n := by
  have e1 := zS2_P2 (fun p q => zbI (T p q)) n
  have e2 : zsI (fun p => zbI (T p p)) n = 0 := zsI_0 fun p _ => by rw [hT.2.1]; rfl
  have e3 : zP2 (fun p q => zbI (T p q) + zbI (T q p)) n = zP2 (fun p q => 2 * zbI (T p q) + 0 * zbI (T p q)) n := zP2_ext fun p q _ _ => by rw [hT.1 q p]; omega
  have e4 : zS2 (fun p q => zbI (T p q)) n = ((zsum (fun p => zcnt (T p) 16) n : Nat) : Int) := by
    unfold zS2
    rw [← zsum_zsI]
    refine zsI_ext fun p _ => ?_
    rw [zcnt_zsI, zcnt_top (W := T p) (c := n) (fun d hd => by
      cases e : T p d
      · rfl
      · have := (hT.lt e).2; omega) hn]
  rw [e2, e3, zP2_lin, zP2_zp2, e4] at e1
  omega
theorem zReg.and {n : Nat} {T U : Nat → Nat → Bool} (hT : zReg n T) (hU : ∀ a b, U a b = U b a) : zReg n (fun p q => T p q && U p q) := ⟨fun a b => by show (T a b && U a b) = (T b a && U b a); rw [hT.1 a b, hU a b], fun a => by show (T a a && U a a) = false; rw [hT.2.1]; rfl, fun a b h => by
  have h : (T a b && U a b) = true := h
  rw [Bool.and_eq_true] at h
  exact hT.2.2 a b h.1⟩
theorem zSta_s (n : Nat) (A : zTl) (j p q : Nat) : (zSta n A j).2 p q = (zSta n A j).2 q p := by
  induction j with
  | zero => rfl
  | succ j ih =>
    rw [zSta_su]
    show ((zSta n A j).2 p q || zWp n A _ p q) = ((zSta n A j).2 q p || zWp n A _ q p)
    rw [ih, zWp_s]
theorem zspw_p2 {n : Nat} {A : zTl} {H : Nat → Nat → Bool} {c : Nat} : zP2 (zspw n A H c) n = 2 * ((zp2 (fun p q => (zWp n A c p q && !H p q) && zBd n A p q) n : Nat) : Int) - ((zp2 (fun p q => zWp n A c p q && !H p q) n : Nat) : Int) := by
  rw [zP2_ext (w := fun p q => 2 * zbI ((zWp n A c p q && !H p q) && zBd n A p q) + (-1) * zbI (zWp n A c p q && !H p q)) (fun p q _ _ => by
    unfold zspw
    cases zWp n A c p q <;> cases H p q <;> cases zBd n A p q <;> rfl), zP2_lin, zP2_zp2, zP2_zp2]
  omega
def zO156 (S : List zSh) : Prop := (zObj S ((156 : Nat) : Int) 11 ∧ zFld S ((156 : Nat) : Int) 11 1 = some (some (some 158)) ∧ zFld S ((156 : Nat) : Int) 11 2 = some (some (some 160)) ∧ zFld S ((156 : Nat) : Int) 11 3 = some (some (some 162)) ∧ zFld S ((156 : Nat) : Int) 11 4 = some (some (some 164)) ∧ zFld S ((156 : Nat) : Int) 11 5 = some (some (some 165)) ∧ zFld S ((156 : Nat) : Int) 11 6 = some none ∧ zFld S ((156 : Nat) : Int) 11 7 = some none) ∧ (zNet S 158 ∧ zNet S 160 ∧ zNet S 162) ∧ zArr S ((164 : Nat) : Int) .int 1920 ∧ zArr S ((165 : Nat) : Int) .boolean 120
theorem zO156_ok {S : List zSh} (hS : S = zmS zC0) : zO156 S := ⟨⟨zo_156 hS, zf_156_1 hS, zf_156_2 hS, zf_156_3 hS, zf_156_4 hS, zf_156_5 hS, zf_156_6 hS, zf_156_7 hS⟩, ⟨zNetB.to hS (by decide +kernel), zNetB.to hS (by decide +kernel), zNetB.to hS (by decide +kernel)⟩, zCA (a := 164) (ty := .int) (n := 1920) hS rfl, zCA (a := 165) (ty := .boolean) (n := 120) hS rfl⟩
theorem c_ospare {O : zOm} (hO : zWld O) (hS : zS O = zmS zC0) {x n k : Nat} {A : zTl} {H : Nat → Nat → Bool} {M : zMem} {K : Option zV → zMem → Prop} (hx : zTeC (zS O) x) (hn1 : 0 < n) (hn2 : n ≤ 16) (hA : zTR M x n A) (hw : zTw n A) (hk0 : k < zcnt (zWsn A) 1024) (hB : zNR M 158 n (zBd n A)) (hH : zNR M 162 n H) (hHs : ∀ p q, H p q = H q p) (hp : ∀ p : Nat, p < 16 → M ((164 : Nat) : Int) ((k * 16 + p : Nat) : Int) = zmk (zWp n A (zwc A k) p))
    (hk : K (some (0, zspv n A H (zwc A k))) M) : zR O F_Order_spareOf [(2, ((156 : Nat) : Int)), (2, ((x : Nat) : Int)), (0, ((k : Nat) : Int))] M K := by
  obtain ⟨⟨s0, s1, s2, s3, s4, s5, s6, s7⟩, ⟨n57, n59, n61⟩, a164, a165⟩ := zO156_ok hS
  obtain ⟨y0, y1, y2, y3⟩ := n57
  obtain ⟨u0, u1, u2, u3⟩ := n61
  obtain ⟨w1, w2, w3⟩ := zwc_ok hk0
  have h120 := hA.2.2.1.2
  have hx0 := hx
  obtain ⟨⟨o, x0, x1, x2, x3, x4, x5, x6⟩, ⟨xa, xb⟩, hP, -⟩ := hx
  have hwd := hA.2.2.1.1.2 _ w1 w2
  rw [w3] at hwd
  have hm := hw.1.1
  have hBb := zBits_4 hn2
  have hb1 := hB.1
  have hF : zReg n (fun p q => zWp n A (zwc A k) p q && !H p q) := (zWp_reg n A _).and (U := fun p q => !H p q) (fun a b => by rw [hHs])
  have hG : zReg n (fun p q => (zWp n A (zwc A k) p q && !H p q) && zBd n A p q) := hF.and (zBd_reg hw).1
  have e1 := zsum_p2 hF hn2
  have e2 := zsum_p2 hG hn2
  have hz := zspw_p2 (n := n) (A := A) (H := H) (c := zwc A k)
  have hbe := zov_b (w := zspw n A H (zwc A k)) (zspw_b n A H (zwc A k)) hn2 (a := n) (b := 0) hn2 (by omega)
  rw [zov_end] at hbe
  have hmb := zmulb (e := ((2 + 2 * zBits n : Nat) : Int)) (by omega) (by omega) hbe.1 hbe.2
  have hcapA := fun j => zsum_cap (f := fun p => zcnt (fun q => zWp n A (zwc A k) p q && !H p q) 16) (c := 16) (fun p => zcnt_le _ _) j
  have hcapT := fun j => zsum_cap (f := fun p => zcnt (fun q => (zWp n A (zwc A k) p q && !H p q) && zBd n A p q) 16) (c := 16) (fun p => zcnt_le _ _) j
  unfold zspv at hk
  have hbo := zbo_le hn2 hm (zwc A k)
  apply r_Order_spareOf hO
  unfold B_Order_spareOf
  ((with_reducible refine i_Seq (i_Set (i_I (i_Seq (i_Set (i_I (i_Seq (i_Blk (i_Seq (i_Set (i_I ?_))))))))))); simp only [w_set0, w_set1, w_setn0, w_setn1])
  refine w_ForN n (fun p ρ M' => (∃ l, ρ = ((156 : Nat) : Int) :: ((x : Nat) : Int) :: ((k : Nat) : Int) :: ((zsum (fun p => zcnt (fun q => (zWp n A (zwc A k) p q && !H p q) && zBd n A p q) 16) p : Nat) : Int) :: ((zsum (fun p => zcnt (fun q => zWp n A (zwc A k) p q && !H p q) 16) p : Nat) : Int) :: ((p : Nat) : Int) :: l) ∧ M' = M) ⟨⟨_, rfl⟩, rfl⟩ ?_ ?_
  · rintro p ρ M1 X hp1 ⟨⟨l, rfl⟩, rfl⟩ hX
    have r1 := hp p (by omega)
    have r2 := hH.2 p (by omega)
    have r3 := hB.2 p (by omega)
    have c1 := hcapA p
    have c2 := hcapT p
    have c3 := zcnt_le (fun q => zWp n A (zwc A k) p q && !H p q) 16
    have c4 := zcnt_le (fun q => (zWp n A (zwc A k) p q && !H p q) && zBd n A p q) 16
    ((with_reducible refine i_turn (i_cI_lt (i_L5 (i_F (i_FR (i_A0 ?_)))))); (with_reducible refine i_fldR (by assumption) ?_); (with_reducible refine i_fld (by assumption) ?_); (rw [hb1]); (with_reducible refine i_t (by omega) ?_); (with_reducible refine i_Blk (i_Seq (i_Set (i_And (i_IA (i_FR (i_A0 ?_))))))); (with_reducible refine i_fldR (by assumption) ?_); (with_reducible refine i_Add (i_Mul (i_L2 (i_I (i_L5 ?_))))); rw [zx_mulc (by omega)]; rw [zx_add (by omega)]; (with_reducible refine i_in (by assumption) (by omega) (by omega) ?_); (with_reducible refine i_Xor (i_IA (i_FR (i_FR (i_A0 ?_))))); (with_reducible refine i_fldR (by assumption) ?_); (with_reducible refine i_fldR (by assumption) ?_); (with_reducible refine i_L5 ?_); (with_reducible refine i_in (by assumption) (by omega) (by omega) ?_); (with_reducible refine i_I (i_Seq (i_Set (i_Add ?_)))); (rw [r1]); (rw [r2]); (rw [ynot_mk]); simp only [w_set0, w_set1, w_setn0, w_setn1]; (with_reducible refine i_L4 (i_Call (i_as1 ?_))); rw [w_setT]; (with_reducible refine i_L6 (i_as0 (i_recv1 ?_))); (refine s_bitCount hO ⟨_, rfl, ?_⟩); (with_reducible refine i_Set (i_Add ?_)); rw [zx_add (by omega)]; simp only [w_set0, w_set1, w_setn0, w_setn1]; (with_reducible refine i_L3 (i_Call (i_as1 (i_And (i_L6 (i_IA (i_FR (i_FR (i_A0 ?_))))))))); (with_reducible refine i_fldR (by assumption) ?_); (with_reducible refine i_fldR (by assumption) ?_); (with_reducible refine i_L5 ?_); (with_reducible refine i_in (by assumption) (by omega) (by omega) ?_); (with_reducible refine i_as0 (i_recv1 ?_)); (rw [r3]); (rw [yand_mk]); (refine s_bitCount hO ⟨_, rfl, ?_⟩); (with_reducible refine i_up ?_); rw [zx_add (by omega)]; simp only [w_set0, w_set1, w_setn0, w_setn1]; (with_reducible refine i_Inc5 ?_); rw [zx_inc (by omega)]; simp only [w_set0, w_set1, w_setn0, w_setn1])
    refine hX _ _ ⟨⟨_, rfl⟩, rfl⟩
  · rintro ρ M1 X ⟨⟨l, rfl⟩, rfl⟩
    rw [e1, e2]
    generalize zp2 (fun p q => zWp n A (zwc A k) p q && !H p q) n = a1 at hz e1
    generalize zp2 (fun p q => (zWp n A (zwc A k) p q && !H p q) && zBd n A p q) n = t1 at hz e2
    have b1 := hcapA n
    have b2 := hcapT n
    rw [e1] at b1
    rw [e2] at b2
    clear hcapA hcapT e1 e2 hF hG
    generalize zP2 (zspw n A H (zwc A k)) n = z at hz hbe hmb hk
    have hD1 : zw32 (((2 * (2 * t1) : Nat) : Int) - ((2 * a1 : Nat) : Int)) = 2 * z := by rw [zx_s (by omega) (by omega)]; omega
    have hE1 : zw32 (((2 + 2 * zBits n : Nat) : Int) * (2 * z)) = 2 * (((2 + 2 * zBits n : Nat) : Int) * z) := by
      rw [Int.mul_left_comm]
      generalize ((2 + 2 * zBits n : Nat) : Int) * z = P at hmb ⊢
      rw [zx_s (by omega) (by omega)]
    have hF1 : zw32 ((2 * (((2 + 2 * zBits n : Nat) : Int) * z)).tdiv 2) = ((2 + 2 * zBits n : Nat) : Int) * z := by
      rw [Int.mul_tdiv_cancel_left _ (by decide)]
      generalize ((2 + 2 * zBits n : Nat) : Int) * z = P at hmb ⊢
      rw [zx_s (by omega) (by omega)]
    ((with_reducible refine i_turn (i_cI_lt (i_L5 (i_F (i_FR (i_A0 ?_)))))); (with_reducible refine i_fldR (by assumption) ?_); (with_reducible refine i_fld (by assumption) ?_); (rw [hb1]); (with_reducible refine i_f (by omega) ?_); (with_reducible refine i_RetI (i_Sub (i_Div (i_Mul (i_Call (i_as1 (i_F (i_FR (i_A0 ?_))))))))); (with_reducible refine i_fldR (by assumption) ?_); (with_reducible refine i_fld (by assumption) ?_); (with_reducible refine i_as0 (i_recv2 ?_)); (rw [hb1]); (refine s_exceptBits hO (by omega) ⟨_, rfl, ?_⟩); (with_reducible refine i_Sub (i_Mul (i_I (i_L3 (i_L4 (i_I ?_)))))); rw [zx_cmul (by omega)]; (rw [hD1]); (rw [hE1]); (rw [hF1]); (with_reducible refine i_nn (by decide) ?_); (with_reducible refine i_Call (i_as1 (i_A1 (i_as1 (i_IA (i_FR (i_A1 ?_))))))); (with_reducible refine i_fldR (by assumption) ?_); (with_reducible refine i_L2 ?_); (with_reducible refine i_in (by assumption) (by omega) (by omega) ?_); (with_reducible refine i_as0 ?_); (with_reducible refine i_recv0 (by assumption) ?_); (rw [hwd]); (refine c_bitsOf hO hx0 hA.1.1 hn2 hA.1.2.1 hm w1 ⟨_, rfl, ?_⟩); rw [zx_s (by omega) (by omega)])
    generalize ((2 + 2 * zBits n : Nat) : Int) * z = P at hmb hk ⊢
    (skip)
    exact hk
theorem c_choose {O : zOm} (hO : zWld O) (hS : zS O = zmS zC0) {x n : Nat} {A : zTl} {SS : Nat → Bool} {H : Nat → Nat → Bool} {M : zMem} {K : Option zV → zMem → Prop} (hx : zTeC (zS O) x) (hx7 : 165 < x) (hn1 : 0 < n) (hn2 : n ≤ 16) (hA : zTR M x n A) (hw : zTw n A) (hB : zNR M 158 n (zBd n A)) (hH : zNR M 162 n H) (hHs : ∀ p q, H p q = H q p) (hp : ∀ k p : Nat, k < zcnt (zWsn A) 1024 → p < 16 → M ((164 : Nat) : Int) ((k * 16 + p : Nat) : Int) = zmk (zWp n A (zwc A k) p)) (hsp : ∀ k : Nat, k < zcnt (zWsn A) 1024 → M ((165 : Nat) : Int) ((k : Nat) : Int) = zbI (SS k))
    (hk : ∀ M', (∀ b j, ¬ (b = ((156 : Nat) : Int) ∧ (j = 6 ∨ j = 7)) → M' b j = M b j) → M' ((156 : Nat) : Int) ((6 : Nat) : Int) = (((zSpk n A SS H (zcnt (zWsn A) 1024)).1 - 1 : Nat) : Int) → M' ((156 : Nat) : Int) ((7 : Nat) : Int) = (zSpk n A SS H (zcnt (zWsn A) 1024)).2 → K none M') : zR O F_Order_choose [(2, ((156 : Nat) : Int)), (2, ((x : Nat) : Int))] M K := by
  obtain ⟨⟨s0, s1, s2, s3, s4, s5, s6, s7⟩, ⟨n57, n59, n61⟩, a164, a165⟩ := zO156_ok hS
  have h120 := hA.2.2.1.2
  have hwc := hA.2.2.1.1.1
  have hm := hw.1.1
  have hx0 := hx
  obtain ⟨⟨o, x0, x1, x2, x3, x4, x5, x6⟩, ⟨xa, xb⟩, hP, -⟩ := hx
  apply r_Order_choose hO
  unfold B_Order_choose
  ((with_reducible refine i_Seq (i_Seq (i_sF (i_A0 (i_I ?_))))); (with_reducible refine i_fld (by assumption) ?_); (with_reducible refine i_Seq (i_sF (i_A0 (i_Ldc ?_)))); (with_reducible refine i_fld (by assumption) ?_); (with_reducible refine i_Blk (i_Seq (i_Set (i_I ?_)))); simp only [w_set0, w_set1, w_setn0, w_setn1])
  refine w_ForN (zcnt (zWsn A) 1024) (fun k ρ M' => (∃ l, ρ = ((156 : Nat) : Int) :: ((x : Nat) : Int) :: ((k : Nat) : Int) :: l) ∧ (∀ b j, ¬ (b = ((156 : Nat) : Int) ∧ (j = 6 ∨ j = 7)) → M' b j = M b j) ∧ M' ((156 : Nat) : Int) ((6 : Nat) : Int) = (((zSpk n A SS H k).1 - 1 : Nat) : Int) ∧ M' ((156 : Nat) : Int) ((7 : Nat) : Int) = (zSpk n A SS H k).2) ⟨⟨_, rfl⟩, fun b j q => by rw [zg_o _ _ (by omega), zg_o _ _ (by omega)], by rw [zg_o _ _ (by omega)]; exact zg_s _ _ _ _ _, zg_s _ _ _ _ _⟩ ?_ ?_
  · rintro k ρ M1 X hk1 ⟨⟨l, rfl⟩, f1, g6, g7⟩ hX
    have hA1 : zTR M1 x n A := hA.to (fun b j a1 a2 => f1 b j (by omega))
    have c1 : M1 ((x : Nat) : Int) ((6 : Nat) : Int) = ((zcnt (zWsn A) 1024 : Nat) : Int) := by rw [f1 _ _ (by omega)]; exact hwc
    have P1 : M1 ((165 : Nat) : Int) ((k : Nat) : Int) = zbI (SS k) := by rw [f1 _ _ (by omega)]; exact hsp k hk1
    have hX2 : ∀ (l : zLoc) (M' : zMem) (r : Nat × Int), r = zSpk n A SS H (k + 1) → (∀ b j, ¬ (b = ((156 : Nat) : Int) ∧ (j = 6 ∨ j = 7)) → M' b j = M b j) → M' ((156 : Nat) : Int) ((6 : Nat) : Int) = ((r.1 - 1 : Nat) : Int) → M' ((156 : Nat) : Int) ((7 : Nat) : Int) = r.2 → X (((156 : Nat) : Int) :: ((x : Nat) : Int) :: ((k + 1 : Nat) : Int) :: l) M' := fun l M' r hr a1 a2 a3 => by subst hr; exact hX _ _ ⟨⟨l, rfl⟩, a1, a2, a3⟩
    clear hX
    rw [zSpk_su] at hX2
    have hvb := zspv_b hn2 hm H (zwc A k)
    generalize zSpk n A SS H k = r at g6 g7 hX2
    obtain ⟨rb, rv⟩ := r
    dsimp only at g6 g7 hX2
    cases e1 : SS k
    · rw [e1] at P1 hX2
      ((with_reducible refine i_turn (i_cI_lt (i_L2 (i_F (i_A1 ?_))))); (with_reducible refine i_fld (by assumption) ?_); (rw [c1]); (with_reducible refine i_t (by omega) ?_); (with_reducible refine i_If (i_cNot (i_cZ_ne (i_ZA (i_FR (i_A0 ?_)))))); (with_reducible refine i_fldR (by assumption) ?_); (with_reducible refine i_L2 ?_); (with_reducible refine i_in (by assumption) (by omega) (by omega) ?_); (rw [P1]); rw [zbI_f]; (with_reducible refine i_f (by omega) ?_); (with_reducible refine i_Blk (i_Seq (i_Set (i_Call (i_as1 (i_A0 (i_as1 (i_A1 (i_as1 (i_L2 (i_as0 ?_))))))))))); (with_reducible refine i_recv0 (by assumption) ?_); simp only [w_set0, w_set1, w_setn0, w_setn1])
      refine c_ospare hO hS hx0 hn1 hn2 hA1 hw hk1 (hB.to (fun b j a1 a2 => f1 b j (by omega))) (hH.to (fun b j a1 a2 => f1 b j (by omega))) hHs (fun p hp1 => by rw [f1 _ _ (by omega)]; exact hp k p hk1 hp1) ⟨_, rfl, ?_⟩
      generalize zspv n A H (zwc A k) = v at hX2 hvb ⊢
      by_cases e3 : rv < v
      · rw [if_pos ⟨rfl, e3⟩] at hX2
        ((with_reducible refine i_If (i_cI_gt ?_)); rw [w_setT]; (with_reducible refine i_L3 (i_F (i_A0 ?_))); (with_reducible refine i_fld (by assumption) ?_); (rw [g7]); (with_reducible refine i_t (by omega) ?_); (with_reducible refine i_Seq (i_sF (i_A0 (i_L2 ?_)))); (with_reducible refine i_fld (by assumption) ?_); (with_reducible refine i_sF (i_A0 (i_L3 ?_))); (with_reducible refine i_fld (by assumption) ?_); (with_reducible refine i_up (i_Inc2 ?_)); rw [zx_inc (by omega)]; simp only [w_set0, w_set1, w_setn0, w_setn1])
        exact hX2 _ _ _ rfl (fun b j q => by rw [zg_o _ _ (by omega), zg_o _ _ (by omega)]; exact f1 b j q) (by rw [zg_o _ _ (by omega), zg_s]; rfl) (zg_s _ _ _ _ _)
      · rw [if_neg (fun z => e3 z.2)] at hX2
        ((with_reducible refine i_If (i_cI_gt ?_)); rw [w_setT]; (with_reducible refine i_L3 (i_F (i_A0 ?_))); (with_reducible refine i_fld (by assumption) ?_); (rw [g7]); (with_reducible refine i_f (by omega) ?_); (with_reducible refine i_up (i_Inc2 ?_)); rw [zx_inc (by omega)]; simp only [w_set0, w_set1, w_setn0, w_setn1])
        exact hX2 _ M1 _ rfl f1 g6 g7
    · rw [e1] at P1 hX2
      rw [if_neg (fun z => by cases z.1)] at hX2
      ((with_reducible refine i_turn (i_cI_lt (i_L2 (i_F (i_A1 ?_))))); (with_reducible refine i_fld (by assumption) ?_); (rw [c1]); (with_reducible refine i_t (by omega) ?_); (with_reducible refine i_If (i_cNot (i_cZ_ne (i_ZA (i_FR (i_A0 ?_)))))); (with_reducible refine i_fldR (by assumption) ?_); (with_reducible refine i_L2 ?_); (with_reducible refine i_in (by assumption) (by omega) (by omega) ?_); (rw [P1]); rw [zbI_t]; (with_reducible refine i_t (by omega) ?_); (with_reducible refine i_up (i_Inc2 ?_)); rw [zx_inc (by omega)]; simp only [w_set0, w_set1, w_setn0, w_setn1])
      exact hX2 _ M1 _ rfl f1 g6 g7
  · rintro ρ M1 X ⟨⟨l, rfl⟩, f1, g6, g7⟩
    have c1 : M1 ((x : Nat) : Int) ((6 : Nat) : Int) = ((zcnt (zWsn A) 1024 : Nat) : Int) := by rw [f1 _ _ (by omega)]; exact hwc
    ((with_reducible refine i_turn (i_cI_lt (i_L2 (i_F (i_A1 ?_))))); (with_reducible refine i_fld (by assumption) ?_); (rw [c1]); (with_reducible refine i_f (by omega) ?_); (with_reducible refine i_RetV ?_))
    exact hk M1 f1 g6 g7
theorem c_speak {O : zOm} (hO : zWld O) (hS : zS O = zmS zC0) {x n i : Nat} {A : zTl} {M : zMem} {K : Option zV → zMem → Prop} (hx : zTeC (zS O) x) (hx7 : 165 < x) (hn1 : 0 < n) (hn2 : n ≤ 16) (hA : zTR M x n A) (hw : zTw n A) (hi : i < zcnt (zWsn A) 1024)
    (hk : ∀ M', (∀ b j, ¬ (((156 : Nat) : Int) ≤ b ∧ b ≤ ((165 : Nat) : Int)) → M' b j = M b j) → M' ((156 : Nat) : Int) ((6 : Nat) : Int) = (((zSen n A i).1 - 1 : Nat) : Int) → M' ((156 : Nat) : Int) ((7 : Nat) : Int) = (zSen n A i).2 → K none M') : zR O F_Order_speak [(2, ((156 : Nat) : Int)), (2, ((x : Nat) : Int)), (0, ((i : Nat) : Int))] M K := by
  obtain ⟨⟨s0, s1, s2, s3, s4, s5, s6, s7⟩, ⟨n57, n59, n61⟩, a164, a165⟩ := zO156_ok hS
  have h120 := hA.2.2.1.2
  have hwc := hA.2.2.1.1.1
  have hm := hw.1.1
  have hx0 := hx
  obtain ⟨⟨o, x0, x1, x2, x3, x4, x5, x6⟩, ⟨xa, xb⟩, hP, -⟩ := hx
  have n57' := n57
  have n59' := n59
  have n61' := n61
  obtain ⟨y0, y1, y2, y3⟩ := n57
  obtain ⟨v0, v1, v2, v3⟩ := n59
  obtain ⟨u0, u1, u2, u3⟩ := n61
  apply r_Order_speak hO
  unfold B_Order_speak
  ((with_reducible refine i_Seq (i_Seq (i_sCall (i_as1 (i_A1 (i_as1 (i_FR (i_A0 ?_)))))))); (with_reducible refine i_fldR (by assumption) ?_); (with_reducible refine i_as0 ?_); (with_reducible refine i_recv0 (by assumption) ?_))
  refine c_build hO hx0 n57' hA (fun M1 f1 g1 => ⟨rfl, ?_⟩)
  have b1 := g1.1
  ((with_reducible refine i_Seq (i_sCall (i_as1 (i_FR (i_A0 ?_))))); (with_reducible refine i_fldR (by assumption) ?_); (with_reducible refine i_as1 (i_F (i_FR (i_A0 ?_)))); (with_reducible refine i_fldR (by assumption) ?_); (with_reducible refine i_fld (by assumption) ?_); (with_reducible refine i_as0 ?_); (with_reducible refine i_recv0 (by assumption) ?_); (rw [b1]))
  refine s_Net_clear hO n61' (P := n) (fun M2 f2 g2 => ⟨rfl, ?_⟩)
  have k2 : ∀ b j, ¬ (((156 : Nat) : Int) ≤ b ∧ b ≤ ((165 : Nat) : Int)) → M2 b j = M b j := fun b j q => by rw [f2 b (by simp <;> omega), f1 b j (by omega)]
  have g1' : zNR M2 158 n (zBd n A) := g1.fr f2 (by simp) (by simp)
  ((with_reducible refine i_Seq (i_Blk (i_Seq (i_Set (i_I ?_))))); simp only [w_set0, w_set1, w_setn0, w_setn1])
  refine w_ForN (zcnt (zWsn A) 1024) (fun k ρ M' => (∃ l, ρ = ((156 : Nat) : Int) :: ((x : Nat) : Int) :: ((i : Nat) : Int) :: ((k : Nat) : Int) :: l) ∧ (∀ b j, ¬ (((156 : Nat) : Int) ≤ b ∧ b ≤ ((165 : Nat) : Int)) → M' b j = M b j) ∧ zNR M' 158 n (zBd n A) ∧ zNR M' 162 n (fun _ _ => false) ∧ (∀ j p : Nat, j < k → p < 16 → M' ((164 : Nat) : Int) ((j * 16 + p : Nat) : Int) = zmk (zWp n A (zwc A j) p)) ∧ ∀ j : Nat, j < k → M' ((165 : Nat) : Int) ((j : Nat) : Int) = 0) ⟨⟨_, rfl⟩, k2, g1', g2, fun j p hj _ => absurd hj (by omega), fun j hj => absurd hj (by omega)⟩ ?_ ?_
  · rintro k ρ M3 X hk1 ⟨⟨l, rfl⟩, f3, g57, g61, hp, hsp⟩ hX
    obtain ⟨w1, w2, w3⟩ := zwc_ok hk1
    have hA3 : zTR M3 x n A := hA.to (fun b j a1 a2 => f3 b j (by omega))
    have c3 : M3 ((x : Nat) : Int) ((6 : Nat) : Int) = ((zcnt (zWsn A) 1024 : Nat) : Int) := by rw [f3 _ _ (by omega)]; exact hwc
    have b3 := g57.1
    have hwd := hA3.2.2.1.1.2 _ w1 w2
    rw [w3] at hwd
    ((with_reducible refine i_turn (i_cI_lt (i_L3 (i_F (i_A1 ?_))))); (with_reducible refine i_fld (by assumption) ?_); (rw [c3]); (with_reducible refine i_t (by omega) ?_); (with_reducible refine i_Seq (i_sZA (i_FR (i_A0 ?_)))); (with_reducible refine i_fldR (by assumption) ?_); (with_reducible refine i_L3 (i_I ?_)); (with_reducible refine i_zin (Or.inl rfl) (by assumption) (by omega) (by omega) ?_); (with_reducible refine i_Seq (i_sCall (i_as1 (i_FR (i_A0 ?_))))); (with_reducible refine i_fldR (by assumption) ?_); (with_reducible refine i_as1 (i_F (i_FR (i_A0 ?_)))); (with_reducible refine i_fldR (by assumption) ?_); (with_reducible refine i_fld (by assumption) ?_); (with_reducible refine i_as0 ?_); (with_reducible refine i_recv0 (by assumption) ?_); rw [zg_n _ _ _ (by omega)]; (rw [b3]))
    refine s_Net_clear hO n59' (P := n) (fun M4 f4 g4 => ⟨rfl, ?_⟩)
    have k4 : ∀ b j, ¬ (b = ((160 : Nat) : Int) ∨ b = ((161 : Nat) : Int) ∨ b = ((165 : Nat) : Int) ∧ j = ((k : Nat) : Int)) → M4 b j = M3 b j := fun b j q => by rw [f4 b (by simp <;> omega), zg_o _ _ (by omega)]
    have hwd4 : M4 ((x + 6 : Nat) : Int) ((k : Nat) : Int) = ((zwc A k : Nat) : Int) := by rw [k4 _ _ (by omega)]; exact hwd
    have p4 : M4 ((165 : Nat) : Int) ((k : Nat) : Int) = 0 := by rw [f4 _ (by simp <;> omega), zg_s]
    ((with_reducible refine i_Seq (i_sCall (i_as1 (i_A1 (i_as1 (i_IA (i_FR (i_A1 ?_)))))))); (with_reducible refine i_fldR (by assumption) ?_); (with_reducible refine i_L3 ?_); (with_reducible refine i_in (by assumption) (by omega) (by omega) ?_); (with_reducible refine i_as1 (i_FR (i_A0 ?_))); (with_reducible refine i_fldR (by assumption) ?_); (with_reducible refine i_as0 ?_); (with_reducible refine i_recv0 (by assumption) ?_); (rw [hwd4]))
    refine c_say hO hx0 n59' (by omega) hn2 (hA3.to (fun b j a1 a2 => k4 b j (by omega))) hw w2 g4 (fun M5 f5 g5 => ⟨rfl, ?_⟩)
    have k5 : ∀ b j, ¬ (b = ((160 : Nat) : Int) ∨ b = ((161 : Nat) : Int) ∨ b = ((165 : Nat) : Int) ∧ j = ((k : Nat) : Int)) → M5 b j = M3 b j := fun b j q => by rw [f5 b j (by omega), k4 b j q]
    ((with_reducible refine i_Copy (i_FR (i_FR (i_A0 ?_)))); (with_reducible refine i_fldR (by assumption) ?_); (with_reducible refine i_fldR (by assumption) ?_); (with_reducible refine i_I (i_FR (i_A0 ?_))); (with_reducible refine i_fldR (by assumption) ?_); (with_reducible refine i_Mul (i_L3 (i_I (i_I ?_)))); rw [zx_mulc (by omega)]; (with_reducible refine i_copy (by assumption) (by assumption) (by omega) ?_); (with_reducible refine i_up (i_Inc3 ?_)); rw [zx_inc (by omega)]; simp only [w_set0, w_set1, w_setn0, w_setn1])
    refine hX _ _ ⟨⟨_, rfl⟩, fun b j q => ?_, g57.to (fun b j a1 a2 => ?_), g61.to (fun b j a1 a2 => ?_), fun j p hj hp1 => ?_, fun j hj => ?_⟩
    · rw [zput_ne _ _ (by omega), k5 b j (by omega), f3 b j q]
    · rw [zput_ne _ _ (by omega), k5 b j (by omega)]
    · rw [zput_ne _ _ (by omega), k5 b j (by omega)]
    · rw [zput_self]
      unfold zcpy
      by_cases e : j = k
      · subst e
        rw [if_pos (by omega), show (0 : Int) + (((j * 16 + p : Nat) : Int) - ((j * 16 : Nat) : Int)) = ((p : Nat) : Int) by omega]
        exact g5.2 p hp1
      · rw [if_neg (by omega), k5 _ _ (by omega)]
        exact hp j p (by omega) hp1
    · rw [zput_ne _ _ (by omega)]
      by_cases e : j = k
      · subst e
        rw [f5 _ _ (by omega)]; exact p4
      · rw [k5 _ _ (by omega)]; exact hsp j (by omega)
  rintro ρ M3 X ⟨⟨l3, rfl⟩, f3, g57, g61, hp, hsp⟩
  have c3 : M3 ((x : Nat) : Int) ((6 : Nat) : Int) = ((zcnt (zWsn A) 1024 : Nat) : Int) := by rw [f3 _ _ (by omega)]; exact hwc
  ((with_reducible refine i_turn (i_cI_lt (i_L3 (i_F (i_A1 ?_))))); (with_reducible refine i_fld (by assumption) ?_); (rw [c3]); (with_reducible refine i_f (by omega) ?_); (with_reducible refine i_Blk (i_Seq (i_Set (i_I ?_)))); simp only [w_set0, w_set1, w_setn0, w_setn1])
  refine w_ForN (i + 1) (fun s ρ M' => (∃ l, ρ = ((156 : Nat) : Int) :: ((x : Nat) : Int) :: ((i : Nat) : Int) :: ((s : Nat) : Int) :: l) ∧ (∀ b j, ¬ (((156 : Nat) : Int) ≤ b ∧ b ≤ ((165 : Nat) : Int)) → M' b j = M b j) ∧ zNR M' 158 n (zBd n A) ∧ zNR M' 162 n (zSta n A s).2 ∧ (∀ j p : Nat, j < zcnt (zWsn A) 1024 → p < 16 → M' ((164 : Nat) : Int) ((j * 16 + p : Nat) : Int) = zmk (zWp n A (zwc A j) p)) ∧ (∀ j : Nat, j < zcnt (zWsn A) 1024 → M' ((165 : Nat) : Int) ((j : Nat) : Int) = zbI ((zSta n A s).1 j)) ∧ (s ≠ 0 → M' ((156 : Nat) : Int) ((6 : Nat) : Int) = (((zSen n A (s - 1)).1 - 1 : Nat) : Int) ∧ M' ((156 : Nat) : Int) ((7 : Nat) : Int) = (zSen n A (s - 1)).2)) ⟨⟨_, rfl⟩, f3, g57, g61, hp, fun j hj => hsp j hj, fun z => absurd rfl z⟩ ?_ ?_
  · rintro s ρ M4 X4 hs ⟨⟨l4, rfl⟩, f4, g57, g61, hp, hsp, -⟩ hX4
    obtain ⟨c1, c2⟩ := zSta_cnt hn2 hm s (by omega)
    have z3 := c2 (by omega)
    have hss := zSta_s n A s
    rw [zSta_su] at hX4
    simp only [Nat.add_sub_cancel] at hX4
    unfold zSen at hX4 z3
    generalize zSta n A s = st at g61 hsp hX4 z3 hss
    obtain ⟨SS, HH⟩ := st
    dsimp only at g61 hsp hX4 z3 hss
    ((with_reducible refine i_turn (i_cI_le (i_L3 (i_L2 ?_)))); (with_reducible refine i_t (by omega) ?_); (with_reducible refine i_Seq (i_sCall (i_as1 (i_A0 (i_as1 (i_A1 (i_as0 ?_))))))); (with_reducible refine i_recv0 (by assumption) ?_))
    refine c_choose hO hS hx0 hx7 hn1 hn2 (hA.to (fun b j a1 a2 => f4 b j (by omega))) hw g57 g61 hss hp hsp (fun M5 f5 a6 a7 => ⟨rfl, ?_⟩)
    obtain ⟨o1, o2, o3, o4⟩ := zSpk_ok hn2 hm SS HH (zcnt (zWsn A) 1024)
    obtain ⟨o5, o6⟩ := o2 z3
    generalize zSpk n A SS HH (zcnt (zWsn A) 1024) = r at a6 a7 hX4 o5 o6 z3
    obtain ⟨rb, rv⟩ := r
    dsimp only at a6 a7 hX4 o5 o6 z3
    ((with_reducible refine i_Seq (i_sZA (i_FR (i_A0 ?_)))); (with_reducible refine i_fldR (by assumption) ?_); (with_reducible refine i_F (i_A0 ?_)); (with_reducible refine i_fld (by assumption) ?_); (with_reducible refine i_I ?_); (with_reducible refine i_zin (Or.inr rfl) (by assumption) (by omega) (by omega) ?_); (with_reducible refine i_Blk (i_Seq (i_Set (i_I ?_)))); (rw [a6]); simp only [w_set0, w_set1, w_setn0, w_setn1]; rw [w_setT])
    have f6 : ∀ b j, ¬ (b = ((156 : Nat) : Int) ∧ (j = 6 ∨ j = 7) ∨ b = ((165 : Nat) : Int)) → zput M5 ((165 : Nat) : Int) (zup (M5 ((165 : Nat) : Int)) ((rb - 1 : Nat) : Int) 1) b j = M4 b j := fun b j q => by rw [zg_o _ _ (by omega), f5 b j (by omega)]
    have b6 : zput M5 ((165 : Nat) : Int) (zup (M5 ((165 : Nat) : Int)) ((rb - 1 : Nat) : Int) 1) ((156 : Nat) : Int) ((6 : Nat) : Int) = ((rb - 1 : Nat) : Int) := by rw [zg_n _ _ _ (by omega)]; exact a6
    have b7 : zput M5 ((165 : Nat) : Int) (zup (M5 ((165 : Nat) : Int)) ((rb - 1 : Nat) : Int) 1) ((156 : Nat) : Int) ((7 : Nat) : Int) = rv := by rw [zg_n _ _ _ (by omega)]; exact a7
    have q6 : ∀ j : Nat, j < zcnt (zWsn A) 1024 → zput M5 ((165 : Nat) : Int) (zup (M5 ((165 : Nat) : Int)) ((rb - 1 : Nat) : Int) 1) ((165 : Nat) : Int) ((j : Nat) : Int) = zbI (SS j || decide (j = rb - 1)) := fun j hj => by
      by_cases e : j = rb - 1
      · subst e; rw [zg_s, decide_eq_true rfl, Bool.or_true]; rfl
      · rw [zg_m _ _ _ _ _ (by omega), decide_eq_false e, Bool.or_false, f5 _ _ (by omega)]; exact hsp j hj
    generalize zput M5 ((165 : Nat) : Int) (zup (M5 ((165 : Nat) : Int)) ((rb - 1 : Nat) : Int) 1) = M6 at f6 b6 b7 q6 ⊢
    have g57' : zNR M6 158 n (zBd n A) := g57.to (fun b j a1 a2 => f6 b j (by omega))
    have g61' : zNR M6 162 n HH := g61.to (fun b j a1 a2 => f6 b j (by omega))
    have hp6 : ∀ p : Nat, p < 16 → M6 ((164 : Nat) : Int) (((rb - 1) * 16 + p : Nat) : Int) = zmk (zWp n A (zwc A (rb - 1)) p) := fun p hp1 => by rw [f6 _ _ (by omega)]; exact hp _ p (by omega) hp1
    refine w_ForN n (fun p ρ M' => (∃ l, ρ = ((156 : Nat) : Int) :: ((x : Nat) : Int) :: ((i : Nat) : Int) :: ((s : Nat) : Int) :: ((p : Nat) : Int) :: l) ∧ (∀ b j, ¬ b = ((163 : Nat) : Int) → M' b j = M6 b j) ∧ zNR M' 162 n (fun a b => HH a b || (decide (a < p) && zWp n A (zwc A (rb - 1)) a b))) ⟨⟨_, rfl⟩, fun _ _ _ => rfl, g61'.ext (fun a b _ _ => by rw [decide_eq_false (by omega), Bool.false_and, Bool.or_false])⟩ ?_ ?_
    · rintro p ρ M7 X7 hp1 ⟨⟨l7, rfl⟩, f7, g7⟩ hX7
      have b1' : M7 ((158 : Nat) : Int) ((1 : Nat) : Int) = ((n : Nat) : Int) := by rw [f7 _ _ (by omega)]; exact g57'.1
      have r6 : M7 ((156 : Nat) : Int) ((6 : Nat) : Int) = ((rb - 1 : Nat) : Int) := by rw [f7 _ _ (by omega)]; exact b6
      have r3 : M7 ((164 : Nat) : Int) (((rb - 1) * 16 + p : Nat) : Int) = zmk (zWp n A (zwc A (rb - 1)) p) := by rw [f7 _ _ (by omega)]; exact hp6 p (by omega)
      ((with_reducible refine i_turn (i_cI_lt (i_L4 (i_F (i_FR (i_A0 ?_)))))); (with_reducible refine i_fldR (by assumption) ?_); (with_reducible refine i_fld (by assumption) ?_); (rw [b1']); (with_reducible refine i_t (by omega) ?_); (with_reducible refine i_IO (i_FR (i_FR (i_A0 ?_)))); (with_reducible refine i_fldR (by assumption) ?_); (with_reducible refine i_fldR (by assumption) ?_); (with_reducible refine i_L4 ?_); (with_reducible refine i_in (by assumption) (by omega) (by omega) ?_); (with_reducible refine i_IA (i_FR (i_A0 ?_))); (with_reducible refine i_fldR (by assumption) ?_); (with_reducible refine i_Add (i_Mul (i_F (i_A0 ?_)))); (with_reducible refine i_fld (by assumption) ?_); (with_reducible refine i_I (i_L4 ?_)); (rw [r6]); rw [zx_mulc (by omega)]; rw [zx_add (by omega)]; (with_reducible refine i_in (by assumption) (by omega) (by omega) ?_); (with_reducible refine i_up (i_Inc4 ?_)); (rw [r3]); rw [zx_inc (by omega)]; simp only [w_set0, w_set1, w_setn0, w_setn1])
      refine hX7 _ _ ⟨⟨_, rfl⟩, fun b j q => by rw [zg_n _ _ _ (by omega)]; exact f7 b j q, (g7.orow (by omega) (zWp n A (zwc A (rb - 1)) p)).ext (fun a b _ _ => ?_)⟩
      try dsimp only
      by_cases e : a = p
      · subst e
        rw [decide_eq_true rfl, decide_eq_false (Nat.lt_irrefl _), decide_eq_true (show a < a + 1 by omega), Bool.false_and, Bool.or_false]
      · rw [decide_eq_false e, Bool.false_and, Bool.or_false, zdb (show a < p ↔ a < p + 1 by omega)]
    · rintro ρ M7 X7 ⟨⟨l7, rfl⟩, f7, g7⟩
      have b1' : M7 ((158 : Nat) : Int) ((1 : Nat) : Int) = ((n : Nat) : Int) := by rw [f7 _ _ (by omega)]; exact g57'.1
      ((with_reducible refine i_turn (i_cI_lt (i_L4 (i_F (i_FR (i_A0 ?_)))))); (with_reducible refine i_fldR (by assumption) ?_); (with_reducible refine i_fld (by assumption) ?_); (rw [b1']); (with_reducible refine i_f (by omega) ?_); (with_reducible refine i_up (i_Inc3 ?_)); rw [zx_inc (by omega)]; simp only [w_set0, w_set1, w_setn0, w_setn1])
      refine hX4 _ _ ⟨⟨_, rfl⟩, fun b j q => by rw [f7 b j (by omega), f6 b j (by omega), f4 b j q], g57'.to (fun b j a1 a2 => f7 b j (by omega)), g7.ext (fun a b _ _ => ?_), fun j p hj hp1 => ?_, fun j hj => ?_, fun _ => ⟨?_, ?_⟩⟩
      · try dsimp only
        cases e : zWp n A (zwc A (rb - 1)) a b
        · rw [Bool.and_false]
        · rw [decide_eq_true ((zWp_reg n A _).2.2 a b e), Bool.true_and]
      · rw [f7 _ _ (by omega), f6 _ _ (by omega)]; exact hp j p hj hp1
      · rw [f7 _ _ (by omega)]; exact q6 j hj
      · rw [f7 _ _ (by omega)]; exact b6
      · rw [f7 _ _ (by omega)]; exact b7
  · rintro ρ M4 X4 ⟨⟨l4, rfl⟩, f4, g57, g61, hp, hsp, g6⟩
    obtain ⟨h6, h7⟩ := g6 (by omega)
    rw [Nat.add_sub_cancel] at h6 h7
    ((with_reducible refine i_turn (i_cI_le (i_L3 (i_L2 ?_)))); (with_reducible refine i_f (by omega) ?_); (with_reducible refine i_RetV ?_))
    exact hk M4 f4 h6 h7
theorem c_sent_bad {O : zOm} (hO : zWld O) (hS : zS O = zmS zC0) {t i : Int} {T n : Nat} {A : Nat → zTl} {M : zMem} {K : Option zV → zMem → Prop} (hT : M ((0 : Nat) : Int) ((4 : Nat) : Int) = ((T : Nat) : Int)) (hT5 : T ≤ 5) (hA : ∀ t : Nat, t < T → zTR M (185 + 13 * t) n (A t)) (hb : ∀ t' : Nat, t = ((t' : Nat) : Int) → t' < T → ¬ (0 ≤ i ∧ i < ((zcnt (zWsn (A t')) 1024 : Nat) : Int))) (hk : K (some (0, -1)) M) : zR O F_ToldNet_sentence [(2, ((0 : Nat) : Int)), (0, t), (0, i)] M K := by
  apply r_ToldNet_sentence hO
  unfold B_ToldNet_sentence
  have f0_10 := zf_0_10 hS; have f156_6 := zf_156_6 hS; have z0 := zo_0 hS; have z156 := zo_156 hS
  ((with_reducible refine i_Seq (i_Set (i_Call (i_as1 (i_A0 (i_as1 (i_L1 (i_as0 ?_)))))))); (with_reducible refine i_recv0 (by assumption) ?_); simp only [w_set0, w_set1, w_setn0, w_setn1])
  refine c_find hO hS hT hT5 (fun hx => ⟨_, rfl, ?_⟩) (fun k e hk1 => ⟨_, rfl, ?_⟩)
  · ((with_reducible refine i_Seq (i_If (i_cOr (i_cOr (i_cN (i_A3 ?_)))))); simp only [w_set0, w_set1, w_setn0, w_setn1]; (with_reducible refine i_t trivial ?_); (with_reducible refine i_RetI (i_I ?_)))
    exact hk
  · obtain ⟨⟨x0, x1, x2, x3, x4, x5, x6, x7⟩, -, -, -⟩ := zTelT hS (show k < 5 by omega)
    have h1 := (hA k hk1).2.2.1.1.1
    have h2 := hb k e hk1
    by_cases h0 : i < 0
    · ((with_reducible refine i_Seq (i_If (i_cOr (i_cOr (i_cN (i_A3 ?_)))))); (with_reducible refine i_f (by omega) ?_); (with_reducible refine i_cZ_lt (i_L2 ?_)); (with_reducible refine i_t (by omega) ?_); (with_reducible refine i_RetI (i_I ?_)))
      exact hk
    · ((with_reducible refine i_Seq (i_If (i_cOr (i_cOr (i_cN (i_A3 ?_)))))); (with_reducible refine i_f (by omega) ?_); (with_reducible refine i_cZ_lt (i_L2 ?_)); (with_reducible refine i_f (by omega) ?_); (with_reducible refine i_cI_ge (i_L2 (i_F (i_A3 ?_)))); (with_reducible refine i_fld (by assumption) ?_); (rw [h1]); (with_reducible refine i_t (by omega) ?_); (with_reducible refine i_RetI (i_I ?_)))
      exact hk
theorem c_sentence {O : zOm} (hO : zWld O) (hS : zS O = zmS zC0) {t T n i : Nat} {A : zTl} {M : zMem} {K : Option zV → zMem → Prop} (hT : M ((0 : Nat) : Int) ((4 : Nat) : Int) = ((T : Nat) : Int)) (hT5 : T ≤ 5) (ht : t < T) (hn1 : 0 < n) (hn2 : n ≤ 16) (hA : zTR M (185 + 13 * t) n A) (hw : zTw n A) (hi : i < zcnt (zWsn A) 1024)
    (hk : ∀ M', (∀ b j, ¬ (((156 : Nat) : Int) ≤ b ∧ b ≤ ((165 : Nat) : Int)) → M' b j = M b j) → K (some (0, (((zSen n A i).1 - 1 : Nat) : Int))) M') : zR O F_ToldNet_sentence [(2, ((0 : Nat) : Int)), (0, ((t : Nat) : Int)), (0, ((i : Nat) : Int))] M K := by
  have hxT := zTelT hS (show t < 5 by omega)
  obtain ⟨⟨x0, x1, x2, x3, x4, x5, x6, x7⟩, -, -, -⟩ := id hxT
  have h1 := hA.2.2.1.1.1
  have h2 := hA.2.2.1.2
  have o156 := zo_156 hS
  apply r_ToldNet_sentence hO
  unfold B_ToldNet_sentence
  have f0_10 := zf_0_10 hS; have f156_6 := zf_156_6 hS; have z0 := zo_0 hS; have z156 := zo_156 hS
  ((with_reducible refine i_Seq (i_Set (i_Call (i_as1 (i_A0 (i_as1 (i_L1 (i_as0 ?_)))))))); (with_reducible refine i_recv0 (by assumption) ?_); simp only [w_set0, w_set1, w_setn0, w_setn1])
  refine c_find hO hS hT hT5 (fun hx => absurd (show 0 ≤ ((t : Nat) : Int) ∧ ((t : Nat) : Int) < ((T : Nat) : Int) by omega) hx) (fun k e hk1 => ⟨_, rfl, ?_⟩)
  rw [show k = t by omega]
  ((with_reducible refine i_Seq (i_If (i_cOr (i_cOr (i_cN (i_A3 ?_)))))); (with_reducible refine i_f (by omega) ?_); (with_reducible refine i_cZ_lt (i_L2 ?_)); (with_reducible refine i_f (by omega) ?_); (with_reducible refine i_cI_ge (i_L2 (i_F (i_A3 ?_)))); (with_reducible refine i_fld (by assumption) ?_); (rw [h1]); (with_reducible refine i_f (by omega) ?_); (with_reducible refine i_Seq (i_sCall (i_as1 (i_FR (i_A0 ?_))))); (with_reducible refine i_fldR (by assumption) ?_); (with_reducible refine i_as1 (i_A3 (i_as1 (i_L2 (i_as0 ?_))))); (with_reducible refine i_recv0 (by assumption) ?_))
  refine c_speak hO hS hxT (by omega) hn1 hn2 hA hw hi (fun M1 f1 g6 g7 => ⟨rfl, ?_⟩)
  ((with_reducible refine i_RetI (i_F (i_FR (i_A0 ?_)))); (with_reducible refine i_fldR (by assumption) ?_); (with_reducible refine i_fld (by assumption) ?_); (rw [g6]))
  exact hk M1 f1
theorem c_spar_bad {O : zOm} (hO : zWld O) (hS : zS O = zmS zC0) {t i : Int} {T n : Nat} {A : Nat → zTl} {M : zMem} {K : Option zV → zMem → Prop} (hT : M ((0 : Nat) : Int) ((4 : Nat) : Int) = ((T : Nat) : Int)) (hT5 : T ≤ 5) (hA : ∀ t : Nat, t < T → zTR M (185 + 13 * t) n (A t)) (hb : ∀ t' : Nat, t = ((t' : Nat) : Int) → t' < T → ¬ (0 ≤ i ∧ i < ((zcnt (zWsn (A t')) 1024 : Nat) : Int))) (hk : K (some (0, -100000)) M) : zR O F_ToldNet_spares [(2, ((0 : Nat) : Int)), (0, t), (0, i)] M K := by
  apply r_ToldNet_spares hO
  unfold B_ToldNet_spares
  have f0_10 := zf_0_10 hS; have f156_7 := zf_156_7 hS; have z0 := zo_0 hS; have z156 := zo_156 hS
  ((with_reducible refine i_Seq (i_Set (i_Call (i_as1 (i_A0 (i_as1 (i_L1 (i_as0 ?_)))))))); (with_reducible refine i_recv0 (by assumption) ?_); simp only [w_set0, w_set1, w_setn0, w_setn1])
  refine c_find hO hS hT hT5 (fun hx => ⟨_, rfl, ?_⟩) (fun k e hk1 => ⟨_, rfl, ?_⟩)
  · ((with_reducible refine i_Seq (i_If (i_cOr (i_cOr (i_cN (i_A3 ?_)))))); simp only [w_set0, w_set1, w_setn0, w_setn1]; (with_reducible refine i_t trivial ?_); (with_reducible refine i_RetI (i_Ldc ?_)))
    exact hk
  · obtain ⟨⟨x0, x1, x2, x3, x4, x5, x6, x7⟩, -, -, -⟩ := zTelT hS (show k < 5 by omega)
    have h1 := (hA k hk1).2.2.1.1.1
    have h2 := hb k e hk1
    by_cases h0 : i < 0
    · ((with_reducible refine i_Seq (i_If (i_cOr (i_cOr (i_cN (i_A3 ?_)))))); (with_reducible refine i_f (by omega) ?_); (with_reducible refine i_cZ_lt (i_L2 ?_)); (with_reducible refine i_t (by omega) ?_); (with_reducible refine i_RetI (i_Ldc ?_)))
      exact hk
    · ((with_reducible refine i_Seq (i_If (i_cOr (i_cOr (i_cN (i_A3 ?_)))))); (with_reducible refine i_f (by omega) ?_); (with_reducible refine i_cZ_lt (i_L2 ?_)); (with_reducible refine i_f (by omega) ?_); (with_reducible refine i_cI_ge (i_L2 (i_F (i_A3 ?_)))); (with_reducible refine i_fld (by assumption) ?_); (rw [h1]); (with_reducible refine i_t (by omega) ?_); (with_reducible refine i_RetI (i_Ldc ?_)))
      exact hk
theorem c_spares {O : zOm} (hO : zWld O) (hS : zS O = zmS zC0) {t T n i : Nat} {A : zTl} {M : zMem} {K : Option zV → zMem → Prop} (hT : M ((0 : Nat) : Int) ((4 : Nat) : Int) = ((T : Nat) : Int)) (hT5 : T ≤ 5) (ht : t < T) (hn1 : 0 < n) (hn2 : n ≤ 16) (hA : zTR M (185 + 13 * t) n A) (hw : zTw n A) (hi : i < zcnt (zWsn A) 1024)
    (hk : ∀ M', (∀ b j, ¬ (((156 : Nat) : Int) ≤ b ∧ b ≤ ((165 : Nat) : Int)) → M' b j = M b j) → K (some (0, (zSen n A i).2)) M') : zR O F_ToldNet_spares [(2, ((0 : Nat) : Int)), (0, ((t : Nat) : Int)), (0, ((i : Nat) : Int))] M K := by
  have hxT := zTelT hS (show t < 5 by omega)
  obtain ⟨⟨x0, x1, x2, x3, x4, x5, x6, x7⟩, -, -, -⟩ := id hxT
  have h1 := hA.2.2.1.1.1
  have h2 := hA.2.2.1.2
  have o156 := zo_156 hS
  apply r_ToldNet_spares hO
  unfold B_ToldNet_spares
  have f0_10 := zf_0_10 hS; have f156_7 := zf_156_7 hS; have z0 := zo_0 hS; have z156 := zo_156 hS
  ((with_reducible refine i_Seq (i_Set (i_Call (i_as1 (i_A0 (i_as1 (i_L1 (i_as0 ?_)))))))); (with_reducible refine i_recv0 (by assumption) ?_); simp only [w_set0, w_set1, w_setn0, w_setn1])
  refine c_find hO hS hT hT5 (fun hx => absurd (show 0 ≤ ((t : Nat) : Int) ∧ ((t : Nat) : Int) < ((T : Nat) : Int) by omega) hx) (fun k e hk1 => ⟨_, rfl, ?_⟩)
  rw [show k = t by omega]
  ((with_reducible refine i_Seq (i_If (i_cOr (i_cOr (i_cN (i_A3 ?_)))))); (with_reducible refine i_f (by omega) ?_); (with_reducible refine i_cZ_lt (i_L2 ?_)); (with_reducible refine i_f (by omega) ?_); (with_reducible refine i_cI_ge (i_L2 (i_F (i_A3 ?_)))); (with_reducible refine i_fld (by assumption) ?_); (rw [h1]); (with_reducible refine i_f (by omega) ?_); (with_reducible refine i_Seq (i_sCall (i_as1 (i_FR (i_A0 ?_))))); (with_reducible refine i_fldR (by assumption) ?_); (with_reducible refine i_as1 (i_A3 (i_as1 (i_L2 (i_as0 ?_))))); (with_reducible refine i_recv0 (by assumption) ?_))
  refine c_speak hO hS hxT (by omega) hn1 hn2 hA hw hi (fun M1 f1 g6 g7 => ⟨rfl, ?_⟩)
  ((with_reducible refine i_RetI (i_F (i_FR (i_A0 ?_)))); (with_reducible refine i_fldR (by assumption) ?_); (with_reducible refine i_fld (by assumption) ?_); (rw [g7]))
  exact hk M1 f1
