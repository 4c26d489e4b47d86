/-! ===== sentences by what they spare: what both compute; the reference ===== -/
/-- the number of the k-th word -/
def zwc (A : zTl) (k : Nat) : Nat := (zpk (zWsn A) ((k : Nat) : Int) 1024).toNat
theorem zwc_ok {A : zTl} {k : Nat} (hk : k < zcnt (zWsn A) 1024) : zwc A k < 1024 ∧ zWsn A (zwc A k) = true ∧ zcnt (zWsn A) (zwc A k) = k := by
  obtain ⟨c, h1, h2, h3⟩ := zcnt_has (zWsn A) 1024 k hk
  have h4 : zpk (zWsn A) ((k : Nat) : Int) 1024 = ((c : Nat) : Int) := zpk_some h1 h2 (by rw [h3])
  have h5 : zwc A k = c := by unfold zwc; rw [h4]; rfl
  rw [h5]
  exact ⟨h1, h2, h3⟩
/-- what a word says anew, and what that spares -/
def zspw (n : Nat) (A : zTl) (H : Nat → Nat → Bool) (c p q : Nat) : Int := if (!H p q && zWp n A c p q) = true then zsg (zBd n A p q) else 0
def zspv (n : Nat) (A : zTl) (H : Nat → Nat → Bool) (c : Nat) : Int := ((2 + 2 * zBits n : Nat) : Int) * zP2 (zspw n A H c) n - ((zbo n (tm A) c : Nat) : Int)
theorem zspw_b (n : Nat) (A : zTl) (H : Nat → Nat → Bool) (c p q : Nat) : -1 ≤ zspw n A H c p q ∧ zspw n A H c p q ≤ 1 := by
  unfold zspw
  split
  · exact zsg_b _
  · omega
theorem zspv_b {n : Nat} {A : zTl} (hn : n ≤ 16) (hm : tm A ≤ 16) (H : Nat → Nat → Bool) (c : Nat) : -3000 ≤ zspv n A H c ∧ zspv n A H c ≤ 3000 := by
  have h1 := zov_b (zspw_b n A H c) hn (Nat.le_refl 16) (b := 0) (by omega)
  have h2 := zov_b (w := zspw n A H c) (zspw_b n A H c) hn (a := n) (b := 0) hn (by omega)
  rw [zov_end] at h2
  have h3 := zbo_le hn hm c
  have h4 := zBits_4 hn
  have h5 := zmulb (e := ((2 + 2 * zBits n : Nat) : Int)) (by omega) (by omega) h2.1 h2.2
  unfold zspv
  omega
/-- the best of the first k words that aren't spoken (its number and one more), and what it spares -/
def zSpk (n : Nat) (A : zTl) (S : Nat → Bool) (H : Nat → Nat → Bool) : Nat → Nat × Int
  | 0 => (0, -100000)
  | k + 1 => if S k = false ∧ (zSpk n A S H k).2 < zspv n A H (zwc A k) then (k + 1, zspv n A H (zwc A k)) else zSpk n A S H k
theorem zSpk_su (n : Nat) (A : zTl) (S : Nat → Bool) (H : Nat → Nat → Bool) (k : Nat) : zSpk n A S H (k + 1) = if S k = false ∧ (zSpk n A S H k).2 < zspv n A H (zwc A k) then (k + 1, zspv n A H (zwc A k)) else zSpk n A S H k := rfl
theorem zSpk_ok {n : Nat} {A : zTl} (hn : n ≤ 16) (hm : tm A ≤ 16) (S : Nat → Bool) (H : Nat → Nat → Bool) (k : Nat) : ((zSpk n A S H k).1 = 0 → (zSpk n A S H k).2 = -100000 ∧ ∀ j, j < k → S j = true) ∧ ((zSpk n A S H k).1 ≠ 0 → (zSpk n A S H k).1 ≤ k ∧ S ((zSpk n A S H k).1 - 1) = false) ∧ -100000 ≤ (zSpk n A S H k).2 ∧ (zSpk n A S H k).2 ≤ 3000 := by
  induction k with
  | zero => exact ⟨fun _ => ⟨rfl, fun j hj => absurd hj (by omega)⟩, fun h => absurd rfl h, by show (-100000 : Int) ≤ -100000; omega, by show (-100000 : Int) ≤ 3000; omega⟩
  | succ k ih =>
    have hb := zspv_b hn hm H (zwc A k)
    rw [zSpk_su]
    by_cases e : S k = false ∧ (zSpk n A S H k).2 < zspv n A H (zwc A k)
    · rw [if_pos e]
      exact ⟨fun h => absurd h (by show ¬ k + 1 = 0; omega), fun _ => ⟨Nat.le_refl _, e.1⟩, by show -100000 ≤ zspv n A H (zwc A k); omega, hb.2⟩
    · rw [if_neg e]
      refine ⟨fun h => ?_, fun h => ?_, ih.2.2⟩
      · obtain ⟨h1, h2⟩ := ih.1 h
        refine ⟨h1, fun j hj => ?_⟩
        by_cases w : j = k
        · subst w
          cases hs : S j
          · exact absurd ⟨hs, by omega⟩ e
          · rfl
        · exact h2 j (by omega)
      · obtain ⟨h1, h2⟩ := ih.2.1 h
        exact ⟨by omega, h2⟩
/-- spoken and heard behind j sentences -/
def zSta (n : Nat) (A : zTl) : Nat → (Nat → Bool) × (Nat → Nat → Bool)
  | 0 => (fun _ => false, fun _ _ => false)
  | j + 1 => (fun k => (zSta n A j).1 k || decide (k = (zSpk n A (zSta n A j).1 (zSta n A j).2 (zcnt (zWsn A) 1024)).1 - 1), fun p q => (zSta n A j).2 p q || zWp n A (zwc A ((zSpk n A (zSta n A j).1 (zSta n A j).2 (zcnt (zWsn A) 1024)).1 - 1)) p q)
/-- the j-th sentence: its word and one more, what it spares -/
def zSen (n : Nat) (A : zTl) (j : Nat) : Nat × Int := zSpk n A (zSta n A j).1 (zSta n A j).2 (zcnt (zWsn A) 1024)
theorem zSta_su (n : Nat) (A : zTl) (j : Nat) : zSta n A (j + 1) = (fun k => (zSta n A j).1 k || decide (k = (zSen n A j).1 - 1), fun p q => (zSta n A j).2 p q || zWp n A (zwc A ((zSen n A j).1 - 1)) p q) := rfl
theorem zSta_cnt {n : Nat} {A : zTl} (hn : n ≤ 16) (hm : tm A ≤ 16) (j : Nat) (hj : j ≤ zcnt (zWsn A) 1024) : zcnt (zSta n A j).1 (zcnt (zWsn A) 1024) = j ∧ (j < zcnt (zWsn A) 1024 → (zSen n A j).1 ≠ 0) := by
  have key : ∀ j, zcnt (zSta n A j).1 (zcnt (zWsn A) 1024) = j → j < zcnt (zWsn A) 1024 → (zSen n A j).1 ≠ 0 := fun j h1 h2 h3 => by
    have h4 := ((zSpk_ok hn hm (zSta n A j).1 (zSta n A j).2 (zcnt (zWsn A) 1024)).1 h3).2
    have h5 : zcnt (zSta n A j).1 (zcnt (zWsn A) 1024) = zcnt (fun _ => true) (zcnt (zWsn A) 1024) := zcnt_ext h4
    have h6 : ∀ N, zcnt (fun _ => true) N = N := fun N => by
      induction N with
      | zero => rfl
      | succ N ih => rw [zcnt_su, ih]; rfl
    rw [h6] at h5
    omega
  induction j with
  | zero =>
    have h1 : zcnt (zSta n A 0).1 (zcnt (zWsn A) 1024) = 0 := zcnt_z fun _ _ => rfl
    exact ⟨h1, key 0 h1⟩
  | succ j ih =>
    obtain ⟨h1, h2⟩ := ih (by omega)
    have h3 := h2 (by omega)
    obtain ⟨h4, h5⟩ := (zSpk_ok hn hm (zSta n A j).1 (zSta n A j).2 (zcnt (zWsn A) 1024)).2.1 h3
    have h6 : zcnt (zSta n A (j + 1)).1 (zcnt (zWsn A) 1024) = j + 1 := by
      rw [zSta_su]
      show zcnt (fun k => (zSta n A j).1 k || decide (k = (zSen n A j).1 - 1)) _ = _
      have h5' : (zSta n A j).1 ((zSen n A j).1 - 1) = false := h5
      rw [zcnt_ins h5', h1, if_pos (by have : (zSen n A j).1 ≤ zcnt (zWsn A) 1024 := h4; omega)]
    exact ⟨h6, key _ h6⟩
/-- what is heard of pairs, in the reference -/
def rHd (M : zMem) (n : Nat) (H : Nat → Nat → Bool) : Prop := ∀ p q : Nat, p < q → q < n → M ((297 : Nat) : Int) ((16 * p + q : Nat) : Int) = zbI (H p q)
theorem m_spareOf {O : zOm} (hO : zWld O) (hS : zS O = zmS zC0) {t n c : Nat} {A : zTl} {H : Nat → Nat → Bool} {M : zMem} {K : Option zV → zMem → Prop} (ht : t < 7) (hn : M 250 ((1 : Nat) : Int) = ((n : Nat) : Int)) (hn2 : n ≤ 16) (hA : rTe M t n A) (hw : zTw n A) (hS1 : rMx M 268 (tS n A)) (hc : zWsn A c = true) (hH : rHd M n H) (h47 : M 250 ((47 : Nat) : Int) = ((c / 256 : Nat) : Int)) (h48 : M 250 ((48 : Nat) : Int) = ((c / 16 % 16 : Nat) : Int)) (h49 : M 250 ((49 : Nat) : Int) = zw2 c)
    (hk : K (some (0, zspv n A H c)) M) : zR O F_Model_spareOf [(2, 250), (0, ((t : Nat) : Int))] M K := by
  obtain ⟨i1, i2, i3, i4⟩ := zWs_in hn2 hw hc
  have hm := hw.1.1
  have hB := zBits_4 hn2
  have hBm := zBits_4 hm
  have gm := hA.1.1
  have hend := zov_end (zspw n A H c) n
  have hbe := zov_b (w := zspw n A H c) (zspw_b n A H c) hn2 (a := n) (b := 0) hn2 (by omega)
  rw [hend] at hbe
  have hmb := zmulb (e := ((2 + 2 * zBits n : Nat) : Int)) (by omega) (by omega) hbe.1 hbe.2
  unfold zspv at hk
  apply r_Model_spareOf hO
  unfold B_Model_spareOf
  have f1 := zMF (k := 1) hS rfl; have f62 := zMF (k := 62) hS rfl; have a297 := zMA (a := 297) (ty := .boolean) (n := 256) hS rfl; have f12 := zMF (k := 12) hS rfl; have a258 := zMA (a := 258) (ty := .int) (n := 7) hS rfl; have f47 := zMF (k := 47) hS rfl; have zo := zMO hS
  ((with_reducible refine i_Seq (i_Set (i_I (i_Seq (i_Blk (i_Seq (i_Set (i_I ?_)))))))); simp only [w_set0, w_set1, w_setn0, w_setn1])
  refine w_Pairs (n := n) (fun a b => [250, ((t : Nat) : Int), zov (zspw n A H c) n a b]) (fun a b M' => M' = M ∧ a ≤ 16) (fun _ _ => ⟨_, rfl, rfl⟩) f1 (fun a b M' h => by rw [h.1]; exact hn) hn2 ⟨_, rfl⟩ ⟨rfl, by omega⟩ (fun a M' _ h => ⟨h, by rw [zov_row]⟩) (fun a M' _ h => ⟨⟨h.1, by omega⟩, by rw [zov_nx]⟩) ?_ ?_
  · rintro a b l M2 Y Z hab hbn ⟨rfl, ha16⟩ hY
    simp only [List.cons_append, List.nil_append] at hY ⊢
    have hbd := zov_b (w := zspw n A H c) (zspw_b n A H c) hn2 (a := a) (b := b) (by omega) (by omega)
    have gH := hH a b hab hbn
    have hY2 : ∀ (l : zLoc) (x : Int), x = zov (zspw n A H c) n a b + zspw n A H c a b → Y (250 :: ((t : Nat) : Int) :: x :: ((a : Nat) : Int) :: ((b : Nat) : Int) :: l) M2 := fun l x hx => by subst hx; rw [← zov_su _ hab]; exact hY l M2 ⟨rfl, ha16⟩
    clear hY
    have hv : zspw n A H c a b = if (!H a b && zWp n A c a b) = true then zsg (zBd n A a b) else 0 := rfl
    generalize zov (zspw n A H c) n a b = z at hbd hY2 ⊢
    rw [hv] at hY2
    clear hv hmb hbe hend hk
    cases e1 : H a b
    · rw [e1] at gH hY2
      ((with_reducible refine i_If (i_cAnd (i_cNot (i_cZ_ne (i_ZA (i_FR (i_A0 ?_))))))); (with_reducible refine i_fldR (by assumption) ?_); (with_reducible refine i_Add (i_Mul (i_I (i_L3 (i_L4 ?_))))); rw [zx_cmul (by omega)]; rw [zx_add (by omega)]; (with_reducible refine i_in (by assumption) (by omega) (by omega) ?_); (rw [gH]); rw [zbI_f]; (with_reducible refine i_f (by omega) ?_); (with_reducible refine i_cZ_ne (i_Call (i_as1 (i_A0 (i_as1 (i_L1 (i_as1 (i_L3 (i_as1 (i_L4 (i_as0 ?_))))))))))); (with_reducible refine i_recv0 (by assumption) ?_); (refine m_isOfWord hO hS ht hn2 hA hw hc (show a < n by omega) hbn (by omega) h47 h48 h49 ⟨_, rfl, ?_⟩))
      cases e2 : zWp n A c a b
      · rw [e2] at hY2
        (rw [zbI_f]; (with_reducible refine i_f (by omega) ?_))
        exact hY2 _ _ (by simp)
      · rw [e2] at hY2
        (rw [zbI_t]; (with_reducible refine i_t (by omega) ?_); (with_reducible refine i_Set (i_Add (i_L2 (i_eIf (i_cZ_ne (i_Call (i_as1 (i_A0 (i_as1 (i_L1 (i_as1 (i_L3 (i_as1 (i_L4 (i_as0 ?_))))))))))))))); (with_reducible refine i_recv0 (by assumption) ?_); (refine m_builds hO hS ht hA hS1 (show a < 16 by omega) (show b < 16 by omega) ⟨_, rfl, ?_⟩))
        cases e3 : zBd n A a b
        · rw [e3] at hY2
          (rw [zbI_f]; (with_reducible refine i_f (by omega) ?_); (with_reducible refine i_I ?_); rw [zx_s (by omega) (by omega)]; simp only [w_set0, w_set1, w_setn0, w_setn1])
          exact hY2 _ _ (by simp [zsg])
        · rw [e3] at hY2
          (rw [zbI_t]; (with_reducible refine i_t (by omega) ?_); (with_reducible refine i_I ?_); rw [zx_s (by omega) (by omega)]; simp only [w_set0, w_set1, w_setn0, w_setn1])
          exact hY2 _ _ (by simp [zsg])
    · rw [e1] at gH hY2
      ((with_reducible refine i_If (i_cAnd (i_cNot (i_cZ_ne (i_ZA (i_FR (i_A0 ?_))))))); (with_reducible refine i_fldR (by assumption) ?_); (with_reducible refine i_Add (i_Mul (i_I (i_L3 (i_L4 ?_))))); rw [zx_cmul (by omega)]; rw [zx_add (by omega)]; (with_reducible refine i_in (by assumption) (by omega) (by omega) ?_); (rw [gH]); rw [zbI_t]; (with_reducible refine i_t (by omega) ?_))
      exact hY2 _ _ (by simp)
  · rintro l M2 ⟨rfl, _⟩
    simp only [List.cons_append, List.nil_append]
    rw [hend]
    generalize zP2 (zspw n A H c) n = z at hk hmb hbe ⊢
    have hE1 : zw32 (((2 + 2 * zBits n : Nat) : Int) * z) = ((2 + 2 * zBits n : Nat) : Int) * z := zx_s (by omega) (by omega)
    unfold zbo at hk
    by_cases e1 : c / 256 = 1
    · rw [if_pos e1] at hk
      rw [e1] at h47
      ((with_reducible refine i_Seq (i_Set (i_Call (i_as1 (i_IA (i_FR (i_A0 ?_))))))); (with_reducible refine i_fldR (by assumption) ?_); (with_reducible refine i_L1 ?_); (with_reducible refine i_in (by assumption) (by omega) (by omega) ?_); (with_reducible refine i_as0 (i_recv1 ?_)); (rw [gm]); (refine m_bitsOf hO hS (show tm A ≤ 128 by omega) ⟨_, rfl, ?_⟩); (with_reducible refine i_Seq (i_Set (i_eIf (i_cI_eq (i_F ?_))))); simp only [w_set0, w_set1, w_setn0, w_setn1]; (with_reducible refine i_A0 ?_); (with_reducible refine i_fld (by assumption) ?_); (with_reducible refine i_I ?_); (rw [h47]); (with_reducible refine i_t (by omega) ?_); (with_reducible refine i_Add (i_I (i_Mul (i_I (i_L3 (i_RetI (i_Sub (i_Mul (i_Call (i_as1 ?_)))))))))); rw [zx_cmul (by omega)]; rw [zx_cadd (by omega)]; simp only [w_set0, w_set1, w_setn0, w_setn1]; (with_reducible refine i_A0 (i_as0 ?_)); (with_reducible refine i_recv0 (by assumption) ?_); (refine m_exceptBits hO hS hn hn2 ⟨_, rfl, ?_⟩); (with_reducible refine i_L2 ?_); (rw [hE1]); rw [w_setT]; (with_reducible refine i_L4 ?_); rw [zx_s (by omega) (by omega)])
      exact hk
    · rw [if_neg e1] at hk
      by_cases e2 : c / 256 = 2
      · rw [if_pos e2] at hk
        rw [e2] at h47
        ((with_reducible refine i_Seq (i_Set (i_Call (i_as1 (i_IA (i_FR (i_A0 ?_))))))); (with_reducible refine i_fldR (by assumption) ?_); (with_reducible refine i_L1 ?_); (with_reducible refine i_in (by assumption) (by omega) (by omega) ?_); (with_reducible refine i_as0 (i_recv1 ?_)); (rw [gm]); (refine m_bitsOf hO hS (show tm A ≤ 128 by omega) ⟨_, rfl, ?_⟩); (with_reducible refine i_Seq (i_Set (i_eIf (i_cI_eq (i_F ?_))))); simp only [w_set0, w_set1, w_setn0, w_setn1]; (with_reducible refine i_A0 ?_); (with_reducible refine i_fld (by assumption) ?_); (with_reducible refine i_I ?_); (rw [h47]); (with_reducible refine i_f (by omega) ?_); (with_reducible refine i_eIf (i_cI_eq (i_F (i_A0 ?_)))); (with_reducible refine i_fld (by assumption) ?_); (with_reducible refine i_I ?_); (rw [h47]); (with_reducible refine i_t (by omega) ?_); (with_reducible refine i_Add (i_Add (i_I (i_Call (i_as1 (i_F (i_A0 ?_))))))); (with_reducible refine i_fld (by assumption) ?_); (with_reducible refine i_as0 (i_recv1 ?_)); (rw [hn]); (refine m_bitsOf hO hS (show n ≤ 128 by omega) ⟨_, rfl, ?_⟩); (with_reducible refine i_L3 (i_RetI (i_Sub (i_Mul (i_Call (i_as1 ?_)))))); rw [zx_cadd (by omega)]; rw [zx_add (by omega)]; simp only [w_set0, w_set1, w_setn0, w_setn1]; (with_reducible refine i_A0 (i_as0 ?_)); (with_reducible refine i_recv0 (by assumption) ?_); (refine m_exceptBits hO hS hn hn2 ⟨_, rfl, ?_⟩); (with_reducible refine i_L2 ?_); (rw [hE1]); rw [w_setT]; (with_reducible refine i_L4 ?_); rw [zx_s (by omega) (by omega)])
        exact hk
      · rw [if_neg e2] at hk
        ((with_reducible refine i_Seq (i_Set (i_Call (i_as1 (i_IA (i_FR (i_A0 ?_))))))); (with_reducible refine i_fldR (by assumption) ?_); (with_reducible refine i_L1 ?_); (with_reducible refine i_in (by assumption) (by omega) (by omega) ?_); (with_reducible refine i_as0 (i_recv1 ?_)); (rw [gm]); (refine m_bitsOf hO hS (show tm A ≤ 128 by omega) ⟨_, rfl, ?_⟩); (with_reducible refine i_Seq (i_Set (i_eIf (i_cI_eq (i_F ?_))))); simp only [w_set0, w_set1, w_setn0, w_setn1]; (with_reducible refine i_A0 ?_); (with_reducible refine i_fld (by assumption) ?_); (with_reducible refine i_I ?_); (rw [h47]); (with_reducible refine i_f (by omega) ?_); (with_reducible refine i_eIf (i_cI_eq (i_F (i_A0 ?_)))); (with_reducible refine i_fld (by assumption) ?_); (with_reducible refine i_I ?_); (rw [h47]); (with_reducible refine i_f (by omega) ?_); (with_reducible refine i_Add (i_I (i_L3 (i_RetI (i_Sub (i_Mul (i_Call (i_as1 ?_)))))))); rw [zx_cadd (by omega)]; simp only [w_set0, w_set1, w_setn0, w_setn1]; (with_reducible refine i_A0 (i_as0 ?_)); (with_reducible refine i_recv0 (by assumption) ?_); (refine m_exceptBits hO hS hn hn2 ⟨_, rfl, ?_⟩); (with_reducible refine i_L2 ?_); (rw [hE1]); rw [w_setT]; (with_reducible refine i_L4 ?_); rw [zx_s (by omega) (by omega)])
        exact hk
/-- the reference's best so far -/
def zbI1 (r : Nat) : Int := if r = 0 then -1 else ((r - 1 : Nat) : Int)
theorem m_speaks_bad {O : zOm} (hO : zWld O) (hS : zS O = zmS zC0) {t n : Nat} {i : Int} {A : zTl} {M : zMem} {K : Option zV → zMem → Prop} (ht : t < 7) (hn : M 250 ((1 : Nat) : Int) = ((n : Nat) : Int)) (hn2 : n ≤ 16) (hA : rTe M t n A) (hw : zTw n A) (hi : ¬ (0 ≤ i ∧ i < ((zcnt (zWsn A) 1024 : Nat) : Int))) (hk : ∀ M', (∀ b j, ¬ (b = 250 ∧ j = 50) → M' b j = M b j) → K (some (0, -1)) M') : zR O F_Model_speaks [(2, 250), (0, ((t : Nat) : Int)), (0, i)] M K := by
  apply r_Model_speaks hO
  unfold B_Model_speaks
  have f62 := zMF (k := 62) hS rfl; have a297 := zMA (a := 297) (ty := .boolean) (n := 256) hS rfl; have f63 := zMF (k := 63) hS rfl; have a298 := zMA (a := 298) (ty := .boolean) (n := 512) hS rfl; have f64 := zMF (k := 64) hS rfl; have f1 := zMF (k := 1) hS rfl; have zo := zMO hS
  ((with_reducible refine i_Seq (i_Set (i_Call (i_as1 (i_A0 (i_as1 (i_L1 (i_as0 ?_)))))))); (with_reducible refine i_recv0 (by assumption) ?_); simp only [w_set0, w_set1, w_setn0, w_setn1])
  refine m_wordsOf hO hS ht hn hn2 hA hw (fun M1 f1' => ⟨_, rfl, ?_⟩)
  have h2 := hk M1 f1'
  by_cases h0 : i < 0
  · ((with_reducible refine i_Seq (i_If (i_cOr (i_cZ_lt (i_L2 ?_))))); (with_reducible refine i_t (by omega) ?_); (with_reducible refine i_RetI (i_I ?_)))
    exact h2
  · ((with_reducible refine i_Seq (i_If (i_cOr (i_cZ_lt (i_L2 ?_))))); (with_reducible refine i_f (by omega) ?_); (with_reducible refine i_cI_ge (i_L2 (i_L3 ?_))); (with_reducible refine i_t (by omega) ?_); (with_reducible refine i_RetI (i_I ?_)))
    exact h2
theorem m_speaks {O : zOm} (hO : zWld O) (hS : zS O = zmS zC0) {t n i : Nat} {A : zTl} {M : zMem} {K : Option zV → zMem → Prop} (ht : t < 7) (hn : M 250 ((1 : Nat) : Int) = ((n : Nat) : Int)) (hn2 : n ≤ 16) (hA : rTe M t n A) (hw : zTw n A) (hi : i < zcnt (zWsn A) 1024) (h120 : zcnt (zWsn A) 1024 ≤ 500)
    (hk : ∀ M', (∀ b j, ¬ (b = 250 ∧ (j = 47 ∨ j = 48 ∨ j = 49 ∨ j = 50 ∨ j = 64) ∨ b = 268 ∨ b = 297 ∨ b = 298) → M' b j = M b j) → M' 250 ((64 : Nat) : Int) = (zSen n A i).2 → K (some (0, (((zSen n A i).1 - 1 : Nat) : Int))) M') : zR O F_Model_speaks [(2, 250), (0, ((t : Nat) : Int)), (0, ((i : Nat) : Int))] M K := by
  have hm := hw.1.1
  apply r_Model_speaks hO
  unfold B_Model_speaks
  have f62 := zMF (k := 62) hS rfl; have a297 := zMA (a := 297) (ty := .boolean) (n := 256) hS rfl; have f63 := zMF (k := 63) hS rfl; have a298 := zMA (a := 298) (ty := .boolean) (n := 512) hS rfl; have f64 := zMF (k := 64) hS rfl; have f1 := zMF (k := 1) hS rfl; have zo := zMO hS
  ((with_reducible refine i_Seq (i_Set (i_Call (i_as1 (i_A0 (i_as1 (i_L1 (i_as0 ?_)))))))); (with_reducible refine i_recv0 (by assumption) ?_); simp only [w_set0, w_set1, w_setn0, w_setn1])
  refine m_wordsOf hO hS ht hn hn2 hA hw (fun M1 f1' => ⟨_, rfl, ?_⟩)
  have n1 : M1 250 ((1 : Nat) : Int) = ((n : Nat) : Int) := by rw [f1' _ _ (by omega)]; exact hn
  ((with_reducible refine i_Seq (i_If (i_cOr (i_cZ_lt (i_L2 ?_))))); (with_reducible refine i_f (by omega) ?_); (with_reducible refine i_cI_ge (i_L2 (i_L3 ?_))); (with_reducible refine i_f (by omega) ?_); (with_reducible refine i_Seq (i_sCall (i_as1 (i_A0 (i_as1 (i_L1 (i_as0 ?_))))))); (with_reducible refine i_recv0 (by assumption) ?_))
  refine m_hearA hO hS ht n1 hn2 (hA.to hn2 hw (fun b j q => f1' b j (by omega))) hw (fun M2 f2' S2 => ⟨rfl, ?_⟩)
  have k2 : ∀ b j, ¬ (b = 250 ∧ j = 50 ∨ b = 268) → M2 b j = M b j := fun b j q => by rw [f2' b j (by omega), f1' b j (by omega)]
  ((with_reducible refine i_Seq (i_Blk (i_Seq (i_Set (i_I ?_))))); simp only [w_set0, w_set1, w_setn0, w_setn1])
  refine w_ForN 256 (fun k ρ M' => (∃ l, ρ = 250 :: ((t : Nat) : Int) :: ((i : Nat) : Int) :: ((zcnt (zWsn A) 1024 : Nat) : Int) :: ((k : Nat) : Int) :: l) ∧ (∀ b j, ¬ b = ((297 : Nat) : Int) → M' b j = M2 b j) ∧ ∀ j : Nat, j < k → M' ((297 : Nat) : Int) ((j : Nat) : Int) = 0) ⟨⟨_, rfl⟩, fun _ _ _ => rfl, fun j hj => absurd hj (by omega)⟩ ?_ ?_
  · rintro k ρ M9 X hk1 ⟨⟨l, rfl⟩, hf, h⟩ hX
    ((with_reducible refine i_turn (i_cI_lt (i_L4 (i_I ?_)))); (with_reducible refine i_t (by omega) ?_); (with_reducible refine i_sZA (i_FR (i_A0 ?_))); (with_reducible refine i_fldR (by assumption) ?_); (with_reducible refine i_L4 (i_I ?_)); (with_reducible refine i_zin (Or.inl rfl) (by assumption) (by omega) (by omega) ?_); (with_reducible refine i_up (i_Inc4 ?_)); rw [zx_inc (by omega)]; simp only [w_set0, w_set1, w_setn0, w_setn1])
    refine hX _ _ ⟨⟨_, rfl⟩, fun b j q => by rw [zg_n _ _ _ (by omega)]; exact hf b j q, fun j hj => ?_⟩
    by_cases e : j = k
    · subst e; rw [zg_s]
    · rw [zg_m _ _ _ _ _ (by omega)]; exact h j (by omega)
  rintro ρ M3 X ⟨⟨l3, rfl⟩, f3, h3⟩
  ((with_reducible refine i_turn (i_cI_lt (i_L4 (i_I ?_)))); (with_reducible refine i_f (by omega) ?_); (with_reducible refine i_Seq (i_Blk (i_Seq (i_Set (i_I ?_))))); simp only [w_set0, w_set1, w_setn0, w_setn1])
  refine w_ForN 512 (fun k ρ M' => (∃ l, ρ = 250 :: ((t : Nat) : Int) :: ((i : Nat) : Int) :: ((zcnt (zWsn A) 1024 : Nat) : Int) :: ((k : Nat) : Int) :: l) ∧ (∀ b j, ¬ b = ((298 : Nat) : Int) → M' b j = M3 b j) ∧ ∀ j : Nat, j < k → M' ((298 : Nat) : Int) ((j : Nat) : Int) = 0) ⟨⟨_, rfl⟩, fun _ _ _ => rfl, fun j hj => absurd hj (by omega)⟩ ?_ ?_
  · rintro k ρ M9 X hk1 ⟨⟨l, rfl⟩, hf, h⟩ hX
    ((with_reducible refine i_turn (i_cI_lt (i_L4 (i_I ?_)))); (with_reducible refine i_t (by omega) ?_); (with_reducible refine i_sZA (i_FR (i_A0 ?_))); (with_reducible refine i_fldR (by assumption) ?_); (with_reducible refine i_L4 (i_I ?_)); (with_reducible refine i_zin (Or.inl rfl) (by assumption) (by omega) (by omega) ?_); (with_reducible refine i_up (i_Inc4 ?_)); rw [zx_inc (by omega)]; simp only [w_set0, w_set1, w_setn0, w_setn1])
    refine hX _ _ ⟨⟨_, rfl⟩, fun b j q => by rw [zg_n _ _ _ (by omega)]; exact hf b j q, fun j hj => ?_⟩
    by_cases e : j = k
    · subst e; rw [zg_s]
    · rw [zg_m _ _ _ _ _ (by omega)]; exact h j (by omega)
  rintro ρ M4 X4 ⟨⟨l4, rfl⟩, f4, h4⟩
  ((with_reducible refine i_turn (i_cI_lt (i_L4 (i_I ?_)))); (with_reducible refine i_f (by omega) ?_); (with_reducible refine i_Seq (i_Set (i_I (i_Seq (i_Blk (i_Seq (i_Set (i_I ?_)))))))); simp only [w_set0, w_set1, w_setn0, w_setn1]; rw [w_setT])
  have k4 : ∀ b j, ¬ (b = 250 ∧ (j = 47 ∨ j = 48 ∨ j = 49 ∨ j = 50 ∨ j = 64) ∨ b = 268 ∨ b = 297 ∨ b = 298) → M4 b j = M b j := fun b j q => by rw [f4 b j (by omega), f3 b j (by omega), k2 b j (by omega)]
  have S4 : rMx M4 268 (tS n A) := S2.to (fun j => by rw [f4 _ _ (by omega), f3 _ _ (by omega)])
  have H4 : rHd M4 n (zSta n A 0).2 := fun p q hpq hq => by rw [f4 _ _ (by omega)]; exact h3 _ (by omega)
  have P4 : ∀ j : Nat, j < zcnt (zWsn A) 1024 → M4 ((298 : Nat) : Int) ((j : Nat) : Int) = zbI ((zSta n A 0).1 j) := fun j hj => h4 j (by omega)
  refine w_ForN (i + 1) (fun s ρ M' => (∃ l, ρ = 250 :: ((t : Nat) : Int) :: ((i : Nat) : Int) :: ((zcnt (zWsn A) 1024 : Nat) : Int) :: (if s = 0 then -1 else (((zSen n A (s - 1)).1 - 1 : Nat) : Int)) :: ((s : Nat) : Int) :: l) ∧ (∀ b j, ¬ (b = 250 ∧ (j = 47 ∨ j = 48 ∨ j = 49 ∨ j = 50 ∨ j = 64) ∨ b = 268 ∨ b = 297 ∨ b = 298) → M' b j = M b j) ∧ rMx M' 268 (tS n A) ∧ rHd M' n (zSta n A s).2 ∧ (∀ j : Nat, j < zcnt (zWsn A) 1024 → M' ((298 : Nat) : Int) ((j : Nat) : Int) = zbI ((zSta n A s).1 j)) ∧ (s ≠ 0 → M' 250 ((64 : Nat) : Int) = (zSen n A (s - 1)).2)) ⟨⟨_, rfl⟩, k4, S4, H4, P4, fun z => absurd rfl z⟩ ?_ ?_
  · rintro s ρ M5 X5 hs ⟨⟨l5, rfl⟩, k5, S5, H5, P5, -⟩ hX5
    ((with_reducible refine i_turn (i_cI_le (i_L5 (i_L2 ?_)))); (with_reducible refine i_t (by omega) ?_); (with_reducible refine i_Blk (i_Seq (i_Set (i_I (i_Seq (i_Blk (i_Seq (i_Set (i_I ?_))))))))); simp only [w_set0, w_set1, w_setn0, w_setn1]; rw [w_setT])
    obtain ⟨c1, c2⟩ := zSta_cnt hn2 hm s (by omega)
    have c3 := c2 (by omega)
    rw [zSta_su] at hX5
    simp only [Nat.add_sub_cancel] at hX5
    unfold zSen at hX5 c3
    generalize zSta n A s = st at H5 P5 hX5 c3
    obtain ⟨SS, HH⟩ := st
    dsimp only at H5 P5 hX5 c3
    refine w_ForN (zcnt (zWsn A) 1024) (fun k ρ M' => (∃ l, ρ = 250 :: ((t : Nat) : Int) :: ((i : Nat) : Int) :: ((zcnt (zWsn A) 1024 : Nat) : Int) :: zbI1 (zSpk n A SS HH k).1 :: ((s : Nat) : Int) :: ((k : Nat) : Int) :: l) ∧ (∀ b j, ¬ (b = 250 ∧ (j = 47 ∨ j = 48 ∨ j = 49 ∨ j = 50 ∨ j = 64)) → M' b j = M5 b j) ∧ ((zSpk n A SS HH k).1 ≠ 0 → M' 250 ((64 : Nat) : Int) = (zSpk n A SS HH k).2)) ⟨⟨_, rfl⟩, fun _ _ _ => rfl, fun z => absurd rfl z⟩ ?_ ?_
    · rintro k ρ M6 X6 hk1 ⟨⟨l6, rfl⟩, f6, g6⟩ hX6
      have k6 : ∀ b j, ¬ (b = 250 ∧ (j = 47 ∨ j = 48 ∨ j = 49 ∨ j = 50 ∨ j = 64) ∨ b = 268 ∨ b = 297 ∨ b = 298) → M6 b j = M b j := fun b j q => by rw [f6 b j (by omega), k5 b j q]
      have P6 : M6 ((298 : Nat) : Int) ((k : Nat) : Int) = zbI (SS k) := by rw [f6 _ _ (by omega)]; exact P5 k hk1
      have hX7 : ∀ (l : zLoc) (M' : zMem) (r : Nat × Int), r = zSpk n A SS HH (k + 1) → (∀ b j, ¬ (b = 250 ∧ (j = 47 ∨ j = 48 ∨ j = 49 ∨ j = 50 ∨ j = 64)) → M' b j = M5 b j) → (r.1 ≠ 0 → M' 250 ((64 : Nat) : Int) = r.2) → X6 (250 :: ((t : Nat) : Int) :: ((i : Nat) : Int) :: ((zcnt (zWsn A) 1024 : Nat) : Int) :: zbI1 r.1 :: ((s : Nat) : Int) :: ((k + 1 : Nat) : Int) :: l) M' := fun l M' r hr a1 a2 => by subst hr; exact hX6 _ _ ⟨⟨l, rfl⟩, a1, a2⟩
      clear hX6
      rw [zSpk_su] at hX7
      obtain ⟨o1, o2, o3, o4⟩ := zSpk_ok hn2 hm SS HH k
      obtain ⟨w1, w2, w3⟩ := zwc_ok hk1
      have hvb := zspv_b hn2 hm HH (zwc A k)
      generalize zSpk n A SS HH k = r at g6 hX7 o1 o2 o3 o4 ⊢
      obtain ⟨rb, rv⟩ := r
      dsimp only at g6 hX7 o1 o2 o3 o4 ⊢
      cases e1 : SS k
      · rw [e1] at P6 hX7
        ((with_reducible refine i_turn (i_cI_lt (i_L6 (i_L3 ?_)))); (with_reducible refine i_t (by omega) ?_); (with_reducible refine i_Blk (i_Seq (i_IfBrk (i_cZ_ne (i_ZA (i_FR (i_A0 ?_))))))); (with_reducible refine i_fldR (by assumption) ?_); (with_reducible refine i_L6 ?_); (with_reducible refine i_in (by assumption) (by omega) (by omega) ?_); (rw [P6]); rw [zbI_f]; (with_reducible refine i_f (by omega) ?_); (with_reducible refine i_Seq (i_Set (i_Call (i_as1 (i_A0 (i_as1 (i_L1 (i_as1 (i_L6 (i_as0 ?_)))))))))); (with_reducible refine i_recv0 (by assumption) ?_); simp only [w_set0, w_set1, w_setn0, w_setn1])
        refine m_seeks hO hS ht (show M6 250 ((1 : Nat) : Int) = ((n : Nat) : Int) by rw [k6 _ _ (by omega)]; exact hn) hn2 (hA.to hn2 hw (fun b j q => k6 b j (by omega))) hw ⟨by omega, by omega⟩ (by omega) (fun z => absurd z (by omega)) (fun c hc1 hc2 hc3 M7 f7 a7 b7 d7 => ⟨_, rfl, ?_⟩)
        have hcc : c = zwc A k := zcnt_inj _ hc2 w2 (by omega)
        rw [← hcc] at hX7 hvb
        have k7 : ∀ b j, ¬ (b = 250 ∧ (j = 47 ∨ j = 48 ∨ j = 49 ∨ j = 50 ∨ j = 64) ∨ b = 268 ∨ b = 297 ∨ b = 298) → M7 b j = M b j := fun b j q => by rw [f7 b j (by omega), k6 b j q]
        ((with_reducible refine i_Seq (i_Set (i_Call (i_as1 (i_A0 (i_as1 (i_L1 (i_as0 ?_)))))))); (with_reducible refine i_recv0 (by assumption) ?_); simp only [w_set0, w_set1, w_setn0, w_setn1]; rw [w_setT]; simp only [w_set0, w_set1, w_setn0, w_setn1])
        refine m_spareOf hO hS (H := HH) ht (show M7 250 ((1 : Nat) : Int) = ((n : Nat) : Int) by rw [k7 _ _ (by omega)]; exact hn) hn2 (hA.to hn2 hw (fun b j q => k7 b j (by omega))) hw (S5.to (fun j => by rw [f7 _ _ (by omega), f6 _ _ (by omega)])) hc2 (fun p q hpq hq => by rw [f7 _ _ (by omega), f6 _ _ (by omega)]; exact H5 p q hpq hq) a7 b7 d7 ⟨_, rfl, ?_⟩
        have f7' : ∀ b j, ¬ (b = 250 ∧ (j = 47 ∨ j = 48 ∨ j = 49 ∨ j = 50 ∨ j = 64)) → M7 b j = M5 b j := fun b j q => by rw [f7 b j (by omega), f6 b j q]
        generalize zspv n A HH c = v at hX7 hvb ⊢
        unfold zbI1
        by_cases e2 : rb = 0
        · obtain ⟨o5, -⟩ := o1 e2
          rw [if_pos ⟨rfl, by omega⟩] at hX7
          rw [if_pos e2]
          ((with_reducible refine i_Seq (i_IfBrk (i_cAnd (i_cZ_ge (i_L4 ?_))))); rw [w_setT]; (with_reducible refine i_f (by omega) ?_); (with_reducible refine i_Seq (i_Set (i_L6 (i_sF ?_)))); simp only [w_set0, w_set1, w_setn0, w_setn1]; (with_reducible refine i_A0 (i_L8 ?_)); (with_reducible refine i_fld (by assumption) ?_); (with_reducible refine i_up (i_Inc6 ?_)); rw [zx_inc (by omega)]; simp only [w_set0, w_set1, w_setn0, w_setn1])
          have h9 := fun l => hX7 l (zput M7 250 (zup (M7 250) ((64 : Nat) : Int) v)) _ rfl (fun b j q => by rw [zg_o _ _ (by omega)]; exact f7' b j q) (fun _ => zg_s _ _ _ _ _)
          unfold zbI1 at h9
          rw [if_neg (by omega), Nat.add_sub_cancel] at h9
          exact h9 _
        · have g7 : M7 250 ((64 : Nat) : Int) = rv := by rw [f7 _ _ (by omega)]; exact g6 e2
          rw [if_neg e2]
          by_cases e3 : rv < v
          · rw [if_pos ⟨rfl, e3⟩] at hX7
            ((with_reducible refine i_Seq (i_IfBrk (i_cAnd (i_cZ_ge (i_L4 ?_))))); rw [w_setT]; (with_reducible refine i_t (by omega) ?_); (with_reducible refine i_cI_le (i_L8 (i_F (i_A0 ?_)))); (with_reducible refine i_fld (by assumption) ?_); (rw [g7]); (with_reducible refine i_f (by omega) ?_); (with_reducible refine i_Seq (i_Set (i_L6 (i_sF ?_)))); simp only [w_set0, w_set1, w_setn0, w_setn1]; (with_reducible refine i_A0 (i_L8 ?_)); (with_reducible refine i_fld (by assumption) ?_); (with_reducible refine i_up (i_Inc6 ?_)); rw [zx_inc (by omega)]; simp only [w_set0, w_set1, w_setn0, w_setn1])
            have h9 := fun l => hX7 l (zput M7 250 (zup (M7 250) ((64 : Nat) : Int) v)) _ rfl (fun b j q => by rw [zg_o _ _ (by omega)]; exact f7' b j q) (fun _ => zg_s _ _ _ _ _)
            unfold zbI1 at h9
            rw [if_neg (by omega), Nat.add_sub_cancel] at h9
            exact h9 _
          · rw [if_neg (fun z => e3 z.2)] at hX7
            ((with_reducible refine i_Seq (i_IfBrk (i_cAnd (i_cZ_ge (i_L4 ?_))))); rw [w_setT]; (with_reducible refine i_t (by omega) ?_); (with_reducible refine i_cI_le (i_L8 (i_F (i_A0 ?_)))); (with_reducible refine i_fld (by assumption) ?_); (rw [g7]); (with_reducible refine i_t (by omega) ?_); (with_reducible refine i_lab1 (i_up (i_Inc6 ?_))); rw [zx_inc (by omega)]; simp only [w_set0, w_set1, w_setn0, w_setn1])
            have h9 := fun l => hX7 l M7 _ rfl f7' (fun _ => g7)
            unfold zbI1 at h9
            rw [if_neg e2] at h9
            exact h9 _
      · rw [e1] at P6 hX7
        rw [if_neg (fun z => by cases z.1)] at hX7
        ((with_reducible refine i_turn (i_cI_lt (i_L6 (i_L3 ?_)))); (with_reducible refine i_t (by omega) ?_); (with_reducible refine i_Blk (i_Seq (i_IfBrk (i_cZ_ne (i_ZA (i_FR (i_A0 ?_))))))); (with_reducible refine i_fldR (by assumption) ?_); (with_reducible refine i_L6 ?_); (with_reducible refine i_in (by assumption) (by omega) (by omega) ?_); (rw [P6]); rw [zbI_t]; (with_reducible refine i_t (by omega) ?_); (with_reducible refine i_lab1 (i_up (i_Inc6 ?_))); rw [zx_inc (by omega)]; simp only [w_set0, w_set1, w_setn0, w_setn1])
        exact hX7 _ M6 _ rfl f6 g6
    · rintro ρ M6 X6 ⟨⟨l6, rfl⟩, f6, g6⟩
      obtain ⟨o1, o2, o3, o4⟩ := zSpk_ok hn2 hm SS HH (zcnt (zWsn A) 1024)
      obtain ⟨o5, o6⟩ := o2 c3
      have g7 := g6 c3
      generalize zSpk n A SS HH (zcnt (zWsn A) 1024) = r at g7 hX5 o5 o6 c3 ⊢
      obtain ⟨rb, rv⟩ := r
      dsimp only at g7 hX5 o5 o6 c3 ⊢
      unfold zbI1
      rw [if_neg c3]
      obtain ⟨w1, w2, w3⟩ := zwc_ok (A := A) (k := rb - 1) (by omega)
      ((with_reducible refine i_turn (i_cI_lt (i_L6 (i_L3 ?_)))); (with_reducible refine i_f (by omega) ?_); (with_reducible refine i_Seq (i_sZA (i_FR (i_A0 ?_)))); (with_reducible refine i_fldR (by assumption) ?_); (with_reducible refine i_L4 (i_I ?_)); (with_reducible refine i_zin (Or.inr rfl) (by assumption) (by omega) (by omega) ?_); (with_reducible refine i_Seq (i_Set (i_Call (i_as1 (i_A0 (i_as1 (i_L1 (i_as1 (i_L4 (i_as0 ?_)))))))))); (with_reducible refine i_recv0 (by assumption) ?_); simp only [w_set0, w_set1, w_setn0, w_setn1])
      have f7 : ∀ b j, ¬ (b = 250 ∧ (j = 47 ∨ j = 48 ∨ j = 49 ∨ j = 50 ∨ j = 64) ∨ b = 268 ∨ b = 297 ∨ b = 298) → zput M6 ((298 : Nat) : Int) (zup (M6 ((298 : Nat) : Int)) ((rb - 1 : Nat) : Int) 1) b j = M b j := fun b j q => by rw [zg_o _ _ (by omega), f6 b j (by omega), k5 b j q]
      have P7 : ∀ j : Nat, j < zcnt (zWsn A) 1024 → zput M6 ((298 : Nat) : Int) (zup (M6 ((298 : Nat) : Int)) ((rb - 1 : Nat) : Int) 1) ((298 : Nat) : Int) ((j : Nat) : Int) = zbI (SS j || decide (j = rb - 1)) := fun j hj => by
        by_cases e : j = rb - 1
        · subst e; rw [zg_s, decide_eq_true rfl, Bool.or_true]; rfl
        · rw [zg_m _ _ _ _ _ (by omega), decide_eq_false e, Bool.or_false, f6 _ _ (by omega)]; exact P5 j hj
      have H7 : rHd (zput M6 ((298 : Nat) : Int) (zup (M6 ((298 : Nat) : Int)) ((rb - 1 : Nat) : Int) 1)) n HH := fun p q hpq hq => by rw [zg_n _ _ _ (by omega), f6 _ _ (by omega)]; exact H5 p q hpq hq
      have S7 : rMx (zput M6 ((298 : Nat) : Int) (zup (M6 ((298 : Nat) : Int)) ((rb - 1 : Nat) : Int) 1)) 268 (tS n A) := S5.to (fun j => by rw [zg_n _ _ _ (by omega), f6 _ _ (by omega)])
      have g8 : zput M6 ((298 : Nat) : Int) (zup (M6 ((298 : Nat) : Int)) ((rb - 1 : Nat) : Int) 1) 250 ((64 : Nat) : Int) = rv := by rw [zg_n _ _ _ (by omega)]; exact g7
      generalize zput M6 ((298 : Nat) : Int) (zup (M6 ((298 : Nat) : Int)) ((rb - 1 : Nat) : Int) 1) = M7 at f7 P7 H7 S7 g8 ⊢
      refine m_seeks hO hS ht (show M7 250 ((1 : Nat) : Int) = ((n : Nat) : Int) by rw [f7 _ _ (by omega)]; exact hn) hn2 (hA.to hn2 hw (fun b j q => f7 b j (by omega))) hw ⟨by omega, by omega⟩ (by omega) (fun z => absurd z (by omega)) (fun c hc1 hc2 hc3 M8 f8 a8 b8 d8 => ⟨_, rfl, ?_⟩)
      have hcc : c = zwc A (rb - 1) := zcnt_inj _ hc2 w2 (by omega)
      rw [← hcc] at hX5
      have k8 : ∀ b j, ¬ (b = 250 ∧ (j = 47 ∨ j = 48 ∨ j = 49 ∨ j = 50 ∨ j = 64) ∨ b = 268 ∨ b = 297 ∨ b = 298) → M8 b j = M b j := fun b j q => by rw [f8 b j (by omega), f7 b j q]
      have n8 : M8 250 ((1 : Nat) : Int) = ((n : Nat) : Int) := by rw [k8 _ _ (by omega)]; exact hn
      ((with_reducible refine i_Blk (i_Seq (i_Set (i_I ?_)))); simp only [w_set0, w_set1, w_setn0, w_setn1]; rw [w_setT])
      refine w_Pairs (n := n) (fun a b => [250, ((t : Nat) : Int), ((i : Nat) : Int), ((zcnt (zWsn A) 1024 : Nat) : Int), ((rb - 1 : Nat) : Int), ((s : Nat) : Int), 1]) (fun a b M' => (∀ b j, ¬ b = ((297 : Nat) : Int) → M' b j = M8 b j) ∧ rHd M' n (fun p q => HH p q || (decide (p < a ∨ p = a ∧ q < b) && zWp n A c p q))) (fun _ _ => ⟨_, rfl, rfl⟩) f1 (fun a b M' h => by rw [h.1 _ _ (by omega)]; exact n8) hn2 ⟨_, rfl⟩ ⟨fun _ _ _ => rfl, fun p q hpq hq => by rw [f8 _ _ (by omega), H7 p q hpq hq]; dsimp only; rw [decide_eq_false (by omega), Bool.false_and, Bool.or_false]⟩ (fun a M' _ h => ⟨⟨h.1, fun p q hpq hq => by rw [h.2 p q hpq hq]; dsimp only; rw [zdb (show (p < a ∨ p = a ∧ q < 0) ↔ (p < a ∨ p = a ∧ q < a + 1) by omega)]⟩, rfl⟩) (fun a M' _ h => ⟨⟨h.1, fun p q hpq hq => by rw [h.2 p q hpq hq]; dsimp only; rw [zdb (show (p < a ∨ p = a ∧ q < n) ↔ (p < a + 1 ∨ p = a + 1 ∧ q < 0) by omega)]⟩, rfl⟩) ?_ ?_
      · rintro a b l M9 Y Z hab hbn ⟨f9, h9⟩ hY
        simp only [List.cons_append, List.nil_append] at hY ⊢
        have a9 : M9 250 ((47 : Nat) : Int) = ((c / 256 : Nat) : Int) := by rw [f9 _ _ (by omega)]; exact a8
        have b9 : M9 250 ((48 : Nat) : Int) = ((c / 16 % 16 : Nat) : Int) := by rw [f9 _ _ (by omega)]; exact b8
        have d9 : M9 250 ((49 : Nat) : Int) = zw2 c := by rw [f9 _ _ (by omega)]; exact d8
        have hA9 : rTe M9 t n A := hA.to hn2 hw (fun b j q => by rw [f9 b j (by omega), k8 b j (by omega)])
        ((with_reducible refine i_If (i_cZ_ne (i_Call (i_as1 (i_A0 (i_as1 (i_L1 (i_as1 (i_L7 (i_as1 (i_L8 (i_as0 ?_)))))))))))); (with_reducible refine i_recv0 (by assumption) ?_); (refine m_isOfWord hO hS ht hn2 hA9 hw hc2 (show a < n by omega) hbn (by omega) a9 b9 d9 ⟨_, rfl, ?_⟩))
        cases e : zWp n A c a b
        · (rw [zbI_f]; (with_reducible refine i_f (by omega) ?_))
          refine hY _ _ ⟨f9, fun p q hpq hq => ?_⟩
          rw [h9 p q hpq hq]
          dsimp only
          by_cases w : p = a ∧ q = b
          · obtain ⟨rfl, rfl⟩ := w
            rw [e, Bool.and_false, Bool.and_false]
          · rw [zdb (show (p < a ∨ p = a ∧ q < b) ↔ (p < a ∨ p = a ∧ q < b + 1) by omega)]
        · (rw [zbI_t]; (with_reducible refine i_t (by omega) ?_); (with_reducible refine i_sZA (i_FR (i_A0 ?_))); (with_reducible refine i_fldR (by assumption) ?_); (with_reducible refine i_Add (i_Mul (i_I (i_L7 (i_L8 (i_I ?_)))))); rw [zx_cmul (by omega)]; rw [zx_add (by omega)]; (with_reducible refine i_zin (Or.inr rfl) (by assumption) (by omega) (by omega) ?_))
          refine hY _ _ ⟨fun b j q => by rw [zg_n _ _ _ (by omega)]; exact f9 b j q, fun p q hpq hq => ?_⟩
          by_cases w : p = a ∧ q = b
          · obtain ⟨rfl, rfl⟩ := w
            rw [zg_s]; dsimp only; rw [e, decide_eq_true (Or.inr ⟨rfl, by omega⟩), Bool.and_true, Bool.or_true]; rfl
          · rw [zg_m _ _ _ _ _ (by omega), h9 p q hpq hq]; dsimp only; rw [zdb (show (p < a ∨ p = a ∧ q < b) ↔ (p < a ∨ p = a ∧ q < b + 1) by omega)]
      · rintro l M9 ⟨f9, h9⟩
        simp only [List.cons_append, List.nil_append]
        ((with_reducible refine i_up (i_Inc5 ?_)); rw [zx_inc (by omega)]; simp only [w_set0, w_set1, w_setn0, w_setn1])
        refine hX5 _ _ ⟨⟨_, by rw [if_neg (by omega)]⟩, fun b j q => by rw [f9 b j (by omega), k8 b j q], S7.to (fun j => by rw [f9 _ _ (by omega), f8 _ _ (by omega)]), fun p q hpq hq => ?_, fun j hj => ?_, fun _ => ?_⟩
        · rw [h9 p q hpq hq]; dsimp only; rw [decide_eq_true (Or.inl (by omega)), Bool.true_and]
        · rw [f9 _ _ (by omega), f8 _ _ (by omega)]; exact P7 j hj
        · rw [f9 _ _ (by omega), f8 _ _ (by omega)]; exact g8
  · rintro ρ M5 X5 ⟨⟨l5, rfl⟩, k5, S5, H5, P5, g5⟩
    have g6 := g5 (by omega)
    rw [Nat.add_sub_cancel] at g6
    ((with_reducible refine i_turn (i_cI_le (i_L5 (i_L2 ?_)))); (with_reducible refine i_f (by omega) ?_); (with_reducible refine i_RetI (i_L4 ?_)))
    rw [if_neg (by omega), Nat.add_sub_cancel]
    exact hk M5 k5 g6
theorem m_sentence_bad {O : zOm} (hO : zWld O) (hS : zS O = zmS zC0) {t i : Int} {T n : Nat} {A : Nat → zTl} {M : zMem} {K : Option zV → zMem → Prop} (hT : M 250 ((11 : Nat) : Int) = ((T : Nat) : Int)) (hT5 : T ≤ 5) (hn : M 250 ((1 : Nat) : Int) = ((n : Nat) : Int)) (hn2 : n ≤ 16) (hA : ∀ t, t < T → rTe M t n (A t) ∧ zTw n (A t)) (hb : ∀ t' : Nat, t = ((t' : Nat) : Int) → t' < T → ¬ (0 ≤ i ∧ i < ((zcnt (zWsn (A t')) 1024 : Nat) : Int))) (hk : ∀ M', (∀ b j, ¬ (b = 250 ∧ j = 50) → M' b j = M b j) → K (some (0, -1)) M') : zR O F_Model_sentence [(2, 250), (0, t), (0, i)] M K := by
  apply r_Model_sentence hO
  unfold B_Model_sentence
  have zo := zMO hS
  by_cases ht : 0 ≤ t ∧ t < ((T : Nat) : Int)
  · obtain ⟨t, rfl⟩ : ∃ t' : Nat, t = ((t' : Nat) : Int) := ⟨t.toNat, by omega⟩
    obtain ⟨a1, a2⟩ := hA t (by omega)
    ((with_reducible refine i_RetI (i_eIf (i_cZ_ne (i_Call (i_as1 (i_A0 (i_as1 (i_L1 (i_as0 ?_))))))))); (with_reducible refine i_recv0 (by assumption) ?_); (refine m_isTelling hO hS hT ⟨_, rfl, ?_⟩); (rw [decide_eq_true ht]); rw [zbI_t]; (with_reducible refine i_t (by omega) ?_); (with_reducible refine i_Call (i_as1 (i_A0 (i_as1 (i_L1 (i_as1 (i_L2 (i_as0 ?_)))))))); (with_reducible refine i_recv0 (by assumption) ?_))
    refine m_speaks_bad hO hS (by omega) hn hn2 a1 a2 (hb t rfl (by omega)) (fun M1 f1 => ⟨_, rfl, ?_⟩)
    exact hk M1 f1
  · ((with_reducible refine i_RetI (i_eIf (i_cZ_ne (i_Call (i_as1 (i_A0 (i_as1 (i_L1 (i_as0 ?_))))))))); (with_reducible refine i_recv0 (by assumption) ?_); (refine m_isTelling hO hS hT ⟨_, rfl, ?_⟩); (rw [decide_eq_false ht]); rw [zbI_f]; (with_reducible refine i_f (by omega) ?_); (with_reducible refine i_I ?_))
    exact hk M (fun _ _ _ => rfl)
theorem m_sentence {O : zOm} (hO : zWld O) (hS : zS O = zmS zC0) {t T n i : Nat} {A : zTl} {M : zMem} {K : Option zV → zMem → Prop} (hT : M 250 ((11 : Nat) : Int) = ((T : Nat) : Int)) (hT5 : T ≤ 5) (ht : t < T) (hn : M 250 ((1 : Nat) : Int) = ((n : Nat) : Int)) (hn2 : n ≤ 16) (hA : rTe M t n A) (hw : zTw n A) (hi : i < zcnt (zWsn A) 1024) (h120 : zcnt (zWsn A) 1024 ≤ 500)
    (hk : ∀ M', (∀ b j, ¬ (b = 250 ∧ (j = 47 ∨ j = 48 ∨ j = 49 ∨ j = 50 ∨ j = 64) ∨ b = 268 ∨ b = 297 ∨ b = 298) → M' b j = M b j) → K (some (0, (((zSen n A i).1 - 1 : Nat) : Int))) M') : zR O F_Model_sentence [(2, 250), (0, ((t : Nat) : Int)), (0, ((i : Nat) : Int))] M K := by
  apply r_Model_sentence hO
  unfold B_Model_sentence
  have zo := zMO hS
  ((with_reducible refine i_RetI (i_eIf (i_cZ_ne (i_Call (i_as1 (i_A0 (i_as1 (i_L1 (i_as0 ?_))))))))); (with_reducible refine i_recv0 (by assumption) ?_); (refine m_isTelling hO hS hT ⟨_, rfl, ?_⟩); (rw [decide_eq_true (show 0 ≤ ((t : Nat) : Int) ∧ ((t : Nat) : Int) < ((T : Nat) : Int) by omega)]); rw [zbI_t]; (with_reducible refine i_t (by omega) ?_); (with_reducible refine i_Call (i_as1 (i_A0 (i_as1 (i_L1 (i_as1 (i_L2 (i_as0 ?_)))))))); (with_reducible refine i_recv0 (by assumption) ?_))
  refine m_speaks hO hS (by omega) hn hn2 hA hw hi h120 (fun M1 f1 _ => ⟨_, rfl, ?_⟩)
  exact hk M1 f1
theorem m_spares_bad {O : zOm} (hO : zWld O) (hS : zS O = zmS zC0) {t i : Int} {T n : Nat} {A : Nat → zTl} {M : zMem} {K : Option zV → zMem → Prop} (hT : M 250 ((11 : Nat) : Int) = ((T : Nat) : Int)) (hT5 : T ≤ 5) (hn : M 250 ((1 : Nat) : Int) = ((n : Nat) : Int)) (hn2 : n ≤ 16) (hA : ∀ t, t < T → rTe M t n (A t) ∧ zTw n (A t)) (hb : ∀ t' : Nat, t = ((t' : Nat) : Int) → t' < T → ¬ (0 ≤ i ∧ i < ((zcnt (zWsn (A t')) 1024 : Nat) : Int))) (hk : ∀ M', (∀ b j, ¬ (b = 250 ∧ j = 50) → M' b j = M b j) → K (some (0, -100000)) M') : zR O F_Model_spares [(2, 250), (0, t), (0, i)] M K := by
  apply r_Model_spares hO
  unfold B_Model_spares
  have f64 := zMF (k := 64) hS rfl; have zo := zMO hS
  by_cases ht : 0 ≤ t ∧ t < ((T : Nat) : Int)
  · obtain ⟨t, rfl⟩ : ∃ t' : Nat, t = ((t' : Nat) : Int) := ⟨t.toNat, by omega⟩
    obtain ⟨a1, a2⟩ := hA t (by omega)
    ((with_reducible refine i_RetI (i_eIf (i_cOr (i_cNot (i_cZ_ne (i_Call (i_as1 (i_A0 (i_as1 (i_L1 (i_as0 ?_))))))))))); (with_reducible refine i_recv0 (by assumption) ?_); (refine m_isTelling hO hS hT ⟨_, rfl, ?_⟩); (rw [decide_eq_true ht]); rw [zbI_t]; (with_reducible refine i_t (by omega) ?_); (with_reducible refine i_cZ_lt (i_Call (i_as1 (i_A0 (i_as1 (i_L1 (i_as1 (i_L2 (i_as0 ?_))))))))); (with_reducible refine i_recv0 (by assumption) ?_))
    refine m_speaks_bad hO hS (by omega) hn hn2 a1 a2 (hb t rfl (by omega)) (fun M1 f1 => ⟨_, rfl, ?_⟩)
    ((with_reducible refine i_t (by omega) ?_); (with_reducible refine i_Ldc ?_))
    exact hk M1 f1
  · ((with_reducible refine i_RetI (i_eIf (i_cOr (i_cNot (i_cZ_ne (i_Call (i_as1 (i_A0 (i_as1 (i_L1 (i_as0 ?_))))))))))); (with_reducible refine i_recv0 (by assumption) ?_); (refine m_isTelling hO hS hT ⟨_, rfl, ?_⟩); (rw [decide_eq_false ht]); rw [zbI_f]; (with_reducible refine i_f (by omega) ?_); (with_reducible refine i_Ldc ?_))
    exact hk M (fun _ _ _ => rfl)
theorem m_spares {O : zOm} (hO : zWld O) (hS : zS O = zmS zC0) {t T n i : Nat} {A : zTl} {M : zMem} {K : Option zV → zMem → Prop} (hT : M 250 ((11 : Nat) : Int) = ((T : Nat) : Int)) (hT5 : T ≤ 5) (ht : t < T) (hn : M 250 ((1 : Nat) : Int) = ((n : Nat) : Int)) (hn2 : n ≤ 16) (hA : rTe M t n A) (hw : zTw n A) (hi : i < zcnt (zWsn A) 1024) (h120 : zcnt (zWsn A) 1024 ≤ 500)
    (hk : ∀ M', (∀ b j, ¬ (b = 250 ∧ (j = 47 ∨ j = 48 ∨ j = 49 ∨ j = 50 ∨ j = 64) ∨ b = 268 ∨ b = 297 ∨ b = 298) → M' b j = M b j) → K (some (0, (zSen n A i).2)) M') : zR O F_Model_spares [(2, 250), (0, ((t : Nat) : Int)), (0, ((i : Nat) : Int))] M K := by
  apply r_Model_spares hO
  unfold B_Model_spares
  have f64 := zMF (k := 64) hS rfl; have zo := zMO hS
  ((with_reducible refine i_RetI (i_eIf (i_cOr (i_cNot (i_cZ_ne (i_Call (i_as1 (i_A0 (i_as1 (i_L1 (i_as0 ?_))))))))))); (with_reducible refine i_recv0 (by assumption) ?_); (refine m_isTelling hO hS hT ⟨_, rfl, ?_⟩); (rw [decide_eq_true (show 0 ≤ ((t : Nat) : Int) ∧ ((t : Nat) : Int) < ((T : Nat) : Int) by omega)]); rw [zbI_t]; (with_reducible refine i_t (by omega) ?_); (with_reducible refine i_cZ_lt (i_Call (i_as1 (i_A0 (i_as1 (i_L1 (i_as1 (i_L2 (i_as0 ?_))))))))); (with_reducible refine i_recv0 (by assumption) ?_))
  refine m_speaks hO hS (by omega) hn hn2 hA hw hi h120 (fun M1 f1 g1 => ⟨_, rfl, ?_⟩)
  ((with_reducible refine i_f (by omega) ?_); (with_reducible refine i_F (i_A0 ?_)); (with_reducible refine i_fld (by assumption) ?_); (rw [g1]))
  exact hk M1 f1
