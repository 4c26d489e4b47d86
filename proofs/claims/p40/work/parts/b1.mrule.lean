/-! ===== words by the rule: the reference ===== -/
theorem m_hasOther {O : zOm} (hO : zWld O) (hS : zS O = zmS zC0) {t p b n z : Nat} {f : Nat → Nat} {M : zMem} {K : Option zV → zMem → Prop} (ht : t < 7) (hb : rBox M t n f) (hp : p < n) (hn : n ≤ 16) (hb2 : b < 16) (hz : M ((260 : Nat) : Int) ((16 * t + b : Nat) : Int) = ((z : Nat) : Int)) (hk : K (some (0, zbI (decide ((if f p = b then 1 else 0) < z)))) M) : zR O F_Model_hasOther [(2, 250), (0, ((t : Nat) : Int)), (0, ((p : Nat) : Int)), (0, ((b : Nat) : Int))] M K := by
  apply r_Model_hasOther hO
  unfold B_Model_hasOther
  have f14 := zMF (k := 14) hS rfl; have a260 := zMA (a := 260) (ty := .int) (n := 112) hS rfl; have zo := zMO hS
  by_cases e : f p = b
  · rw [if_pos e] at hk
    (focus ((with_reducible refine i_RetZ (i_eIf (i_cI_gt (i_IA (i_FR (i_A0 ?_)))))); (with_reducible refine i_fldR (by assumption) ?_); (with_reducible refine i_Add (i_Mul (i_I (i_L1 (i_L3 ?_))))); rw [zx_cmul (by omega)]; rw [zx_add (by omega)]; (with_reducible refine i_in (by assumption) (by omega) (by omega) ?_); (with_reducible refine i_eIf (i_cZ_ne (i_Call (i_as1 (i_A0 (i_as1 (i_L1 (i_as1 (i_L2 (i_as1 (i_L3 (i_as0 ?_)))))))))))); (with_reducible refine i_recv0 (by assumption) ?_); (rw [hz]); (refine m_isIn hO hS ht hb hp hn ⟨_, rfl, ?_⟩); (rw [decide_eq_true e]); rw [zbI_t]; (with_reducible refine i_t (by omega) ?_); (with_reducible refine i_I ?_); (with_reducible refine i_br ?_ ?_ <;> intro hc); (focus ((with_reducible refine i_I ?_); (with_reducible refine i_z (Or.inr rfl) ?_))); rotate_left; (focus ((with_reducible refine i_I ?_); (with_reducible refine i_z (Or.inl rfl) ?_))); rotate_right))
    · rw [decide_eq_true (by omega)] at hk; exact hk
    · rw [decide_eq_false (by omega)] at hk; exact hk
  · rw [if_neg e] at hk
    (focus ((with_reducible refine i_RetZ (i_eIf (i_cI_gt (i_IA (i_FR (i_A0 ?_)))))); (with_reducible refine i_fldR (by assumption) ?_); (with_reducible refine i_Add (i_Mul (i_I (i_L1 (i_L3 ?_))))); rw [zx_cmul (by omega)]; rw [zx_add (by omega)]; (with_reducible refine i_in (by assumption) (by omega) (by omega) ?_); (with_reducible refine i_eIf (i_cZ_ne (i_Call (i_as1 (i_A0 (i_as1 (i_L1 (i_as1 (i_L2 (i_as1 (i_L3 (i_as0 ?_)))))))))))); (with_reducible refine i_recv0 (by assumption) ?_); (rw [hz]); (refine m_isIn hO hS ht hb hp hn ⟨_, rfl, ?_⟩); (rw [decide_eq_false e]); rw [zbI_f]; (with_reducible refine i_f (by omega) ?_); (with_reducible refine i_I ?_); (with_reducible refine i_br ?_ ?_ <;> intro hc); (focus ((with_reducible refine i_I ?_); (with_reducible refine i_z (Or.inr rfl) ?_))); rotate_left; (focus ((with_reducible refine i_I ?_); (with_reducible refine i_z (Or.inl rfl) ?_))); rotate_right))
    · rw [decide_eq_true (by omega)] at hk; exact hk
    · rw [decide_eq_false (by omega)] at hk; exact hk
theorem rFlg.up {M : zMem} {c t : Nat} {g : Nat → Bool} (h : rFlg M c t g) {i : Nat} {x : Int} {v : Bool} (hx : x = zbI v) : rFlg (zput M ((c : Nat) : Int) (zup (M ((c : Nat) : Int)) ((16 * t + i : Nat) : Int) x)) c t (fun b => if b = i then v else g b) := fun b hb => by
  by_cases e : b = i
  · subst e; rw [zg_s, hx]; show _ = zbI (if b = b then v else g b); rw [if_pos rfl]
  · rw [zg_m _ _ _ _ _ (by omega)]; show _ = zbI (if b = i then v else g b); rw [if_neg e]; exact h b hb
theorem rFlg.ext {M : zMem} {c t : Nat} {g g' : Nat → Bool} (h : rFlg M c t g) (e : ∀ b, b < 16 → g b = g' b) : rFlg M c t g' := fun b hb => by rw [← e b hb]; exact h b hb
theorem rMat.ext {M : zMem} {c t : Nat} {g g' : Nat → Nat → Bool} (h : rMat M c t g) (e : ∀ a b, a < 16 → b < 16 → g a b = g' a b) : rMat M c t g' := fun a b ha hb => by rw [← e a b ha hb]; exact h a b ha hb
theorem rMat.up {M : zMem} {c t : Nat} {g : Nat → Nat → Bool} (h : rMat M c t g) {i j : Nat} (hi : i < 16) (hj : j < 16) {x : Int} {v : Bool} (hx : x = zbI v) : rMat (zput M ((c : Nat) : Int) (zup (M ((c : Nat) : Int)) ((256 * t + 16 * i + j : Nat) : Int) x)) c t (zmu g i j v) := fun a b ha hb => by
  unfold zmu
  by_cases e : a = i ∧ b = j
  · obtain ⟨rfl, rfl⟩ := e
    rw [zg_s, if_pos ⟨rfl, rfl⟩, hx]
  · rw [zg_m _ _ _ _ _ (by omega), if_neg e]; exact h a b ha hb
theorem rFlg.to {M M' : zMem} {c t : Nat} {g : Nat → Bool} (h : rFlg M c t g) (e : ∀ j : Int, ((16 * t : Nat) : Int) ≤ j → j < ((16 * t + 16 : Nat) : Int) → M' ((c : Nat) : Int) j = M ((c : Nat) : Int) j) : rFlg M' c t g := fun b hb => by rw [e _ (by omega) (by omega)]; exact h b hb
theorem rMat.to {M M' : zMem} {c t : Nat} {g : Nat → Nat → Bool} (h : rMat M c t g) (e : ∀ j : Int, ((256 * t : Nat) : Int) ≤ j → j < ((256 * t + 256 : Nat) : Int) → M' ((c : Nat) : Int) j = M ((c : Nat) : Int) j) : rMat M' c t g := fun a b ha hb => by rw [e _ (by omega) (by omega)]; exact h a b ha hb
theorem zmu_chn (T : Nat → Nat → Bool) (x y p q : Nat) : ((T p q || (decide (p = x) && decide (q = y))) || (decide (p = y) && decide (q = x))) = zmu (zmu T x y true) y x true p q := by
  unfold zmu
  by_cases c1 : p = y ∧ q = x
  · rw [if_pos c1]; simp [c1]
  · have d1 : (decide (p = y) && decide (q = x)) = false := by rw [← Bool.decide_and]; exact decide_eq_false c1
    rw [if_neg c1, d1, Bool.or_false]
    by_cases c2 : p = x ∧ q = y
    · rw [if_pos c2]; simp [c2]
    · have d2 : (decide (p = x) && decide (q = y)) = false := by rw [← Bool.decide_and]; exact decide_eq_false c2
      rw [if_neg c2, d2, Bool.or_false]
theorem zWq_no (g : Nat → Nat) (C : Nat → Bool) (D : Nat → Nat → Bool) (n m : Nat) (r : Nat → Nat → Nat) (s : Nat → Nat) : zSay n m g C D (fun _ _ => false) (fun _ => false) r s = fun p q => decide (p < n ∧ q < n ∧ p ≠ q) && zWq g C D (fun _ _ => false) p q := zChs_no _ _ _ _
set_option maxHeartbeats 20000000 in
theorem m_rule {O : zOm} (hO : zWld O) (hS : zS O = zmS zC0) {t n m : Nat} {f g : Nat → Nat} {T : Nat → Nat → Bool} {M : zMem} {K : Option zV → zMem → Prop} (ht : t < 7) (hn : M 250 ((1 : Nat) : Int) = ((n : Nat) : Int)) (hn2 : n ≤ 16) (hb : rBox M t n f) (hb2 : ∀ q : Nat, q < n → f q ≤ 16) (hT : rMx M 267 T) (hg : g = zNum f) (hm : m = zcnt (zNew f) n)
    (hk : ∀ M', (∀ b j, ¬ ((b = 258 ∧ j = ((t : Nat) : Int) ∨ (b = 259 ∨ b = 260 ∨ b = 262 ∨ b = 263) ∧ ((16 * t : Nat) : Int) ≤ j ∧ j < ((16 * t + 16 : Nat) : Int) ∨ (b = 261 ∨ b = 264 ∨ b = 265 ∨ b = 266) ∧ ((256 * t : Nat) : Int) ≤ j ∧ j < ((256 * t + 256 : Nat) : Int)) ∨ b = 268 ∨ b = 271 ∨ b = 283 ∨ b = 284) → M' b j = M b j) → M' ((258 : Nat) : Int) ((t : Nat) : Int) = ((m : Nat) : Int) → rBox M' t n g → rSiz M' t (zSz g n) → rFlg M' 262 t (zrC n m T g) → rMat M' 264 t (zrD n m T g) → rMat M' 265 t (zrG n m T g) → rFlg M' 263 t (zrH n m T g) → rRow M' t m (zSz g n) (zrow n g T) → rSta M' t (zxe (fun p q => zrSd n m T g p q ^^ T p q) n) → K none M') : zR O F_Model_rule [(2, 250), (0, ((t : Nat) : Int))] M K := by
  have hm16 : m ≤ 16 := by rw [hm]; have := zcnt_le (zNew f) n; omega
  have hg16 : ∀ q : Nat, q < n → g q < 16 := fun q hq => by rw [hg]; have := zNum_le f q; omega
  have hon : ∀ i : Nat, i < m → ∃ p, p < n ∧ g p = i := fun i hi => by rw [hg]; rw [hm] at hi; exact zSz_nw hi
  have hsz : ∀ b, zSz g n b ≤ 16 := fun b => by have := zSz_le g n b; omega
  have hE : 2 + 2 * zBits n ≤ 10 := by have := zBits_4 hn2; omega
  have hbn := zBits_4 hn2
  have hbm := zBits_4 hm16
  have hrl : ∀ i k : Nat, i < m → zrow n g T i k < n := fun i k hi => by
    unfold zrow
    refine zlyS_lt ?_ k
    rcases zmnF_ok (fun p => decide (g p = i)) (zdeg n (fun p => decide (g p = i)) T) n with ⟨h1, h2, h3⟩ | ⟨p, h1, h2, h3, h4, h5⟩
    · obtain ⟨p, hp, hp2⟩ := hon i hi
      exact absurd (h3 p hp) (by simp [hp2])
    · rw [h1]; exact h3
  apply r_Model_rule hO
  unfold B_Model_rule
  have f1 := zMF (k := 1) hS rfl; have f12 := zMF (k := 12) hS rfl; have a258 := zMA (a := 258) (ty := .int) (n := 7) hS rfl; have f16 := zMF (k := 16) hS rfl; have a262 := zMA (a := 262) (ty := .boolean) (n := 112) hS rfl; have f14 := zMF (k := 14) hS rfl; have a260 := zMA (a := 260) (ty := .int) (n := 112) hS rfl; have f41 := zMF (k := 41) hS rfl; have a283 := zMA (a := 283) (ty := .int) (n := 256) hS rfl; have f18 := zMF (k := 18) hS rfl; have a264 := zMA (a := 264) (ty := .boolean) (n := 1792) hS rfl; have f22 := zMF (k := 22) hS rfl; have a268 := zMA (a := 268) (ty := .boolean) (n := 256) hS rfl; have f21 := zMF (k := 21) hS rfl; have a267 := zMA (a := 267) (ty := .boolean) (n := 256) hS rfl; have f19 := zMF (k := 19) hS rfl; have a265 := zMA (a := 265) (ty := .boolean) (n := 1792) hS rfl; have f15 := zMF (k := 15) hS rfl; have a261 := zMA (a := 261) (ty := .int) (n := 1792) hS rfl; have f17 := zMF (k := 17) hS rfl; have a263 := zMA (a := 263) (ty := .boolean) (n := 112) hS rfl; have zo := zMO hS
  ((with_reducible refine i_Seq (i_Seq (i_sCall (i_as1 (i_A0 (i_as1 (i_L1 (i_as0 ?_)))))))); (with_reducible refine i_recv0 (by assumption) ?_))
  refine m_number hO hS ht hn hn2 hb hb2 (fun M1 hf1 hm1 hb1 hs1 _ => ⟨rfl, ?_⟩)
  rw [← hg] at hb1 hs1
  rw [← hm] at hm1
  ((with_reducible refine i_Seq (i_sCall (i_as1 (i_A0 (i_as1 (i_L1 (i_as0 ?_))))))); (with_reducible refine i_recv0 (by assumption) ?_))
  refine m_clearWords hO hS ht (fun M2 hf2 hC2 hH2 hD2 hG2 hX2 => ⟨rfl, ?_⟩)
  have n2 : M2 250 ((1 : Nat) : Int) = ((n : Nat) : Int) := by rw [hf2 _ _ (by omega), hf1 _ _ (by omega)]; exact hn
  have b2 : rBox M2 t n g := fun q hq => by rw [hf2 _ _ (by omega)]; exact hb1 q hq
  have T2 : rMx M2 267 T := hT.to (fun j => by rw [hf2 _ _ (by omega), hf1 _ _ (by omega)])
  ((with_reducible refine i_Seq (i_sCall (i_as1 (i_A0 (i_as1 (i_L1 (i_as0 ?_))))))); (with_reducible refine i_recv0 (by assumption) ?_))
  refine m_weigh hO hS ht n2 hn2 b2 hg16 T2 (fun M3 hf3 hO3 => ⟨rfl, ?_⟩)
  have n3 : M3 250 ((1 : Nat) : Int) = ((n : Nat) : Int) := by rw [hf3 _ _ (by omega)]; exact n2
  have b3 : rBox M3 t n g := fun q hq => by rw [hf3 _ _ (by omega)]; exact b2 q hq
  have T3 : rMx M3 267 T := T2.to (fun j => hf3 _ _ (by omega))
  have s3 : rSiz M3 t (zSz g n) := fun b hb => by rw [hf3 _ _ (by omega), hf2 _ _ (by omega)]; exact hs1 b hb
  have m3 : M3 ((258 : Nat) : Int) ((t : Nat) : Int) = ((m : Nat) : Int) := by rw [hf3 _ _ (by omega), hf2 _ _ (by omega)]; exact hm1
  have C3 : rFlg M3 262 t (fun _ => false) := hC2.to (fun j _ _ => hf3 _ _ (by omega))
  have H3 : rFlg M3 263 t (fun _ => false) := hH2.to (fun j _ _ => hf3 _ _ (by omega))
  have D3 : rMat M3 264 t (fun _ _ => false) := hD2.to (fun j _ _ => hf3 _ _ (by omega))
  have G3 : rMat M3 265 t (fun _ _ => false) := hG2.to (fun j _ _ => hf3 _ _ (by omega))
  have fr3 : ∀ b j, ¬ ((b = 258 ∧ j = ((t : Nat) : Int) ∨ (b = 259 ∨ b = 260 ∨ b = 262 ∨ b = 263) ∧ ((16 * t : Nat) : Int) ≤ j ∧ j < ((16 * t + 16 : Nat) : Int) ∨ (b = 261 ∨ b = 264 ∨ b = 265 ∨ b = 266) ∧ ((256 * t : Nat) : Int) ≤ j ∧ j < ((256 * t + 256 : Nat) : Int)) ∨ b = 268 ∨ b = 271 ∨ b = 283 ∨ b = 284) → M3 b j = M b j := fun b j q => by rw [hf3 b j (by omega), hf2 b j (by omega), hf1 b j (by omega)]
  clear hf1 hf2 hf3 hC2 hH2 hD2 hG2 hX2 hb1 hs1 hm1 n2 b2 T2
  ((with_reducible refine i_Seq (i_Set (i_Call (i_as1 (i_A0 (i_as0 ?_)))))); (with_reducible refine i_recv0 (by assumption) ?_); (refine m_exceptBits hO hS n3 hn2 ⟨_, rfl, ?_⟩); (with_reducible refine i_Seq (i_Set (i_Call (i_as1 (i_F ?_))))); simp only [w_set0, w_set1, w_setn0, w_setn1]; (with_reducible refine i_A0 ?_); (with_reducible refine i_fld (by assumption) ?_); (with_reducible refine i_as0 (i_recv1 ?_)); (rw [n3]); (refine m_bitsOf hO hS (by omega) ⟨_, rfl, ?_⟩); (with_reducible refine i_Seq (i_Set (i_Call (i_as1 (i_IA (i_FR ?_)))))); simp only [w_set0, w_set1, w_setn0, w_setn1]; (with_reducible refine i_A0 ?_); (with_reducible refine i_fldR (by assumption) ?_); (with_reducible refine i_L1 ?_); (with_reducible refine i_in (by assumption) (by omega) (by omega) ?_); (with_reducible refine i_as0 (i_recv1 ?_)); (rw [m3]); (refine m_bitsOf hO hS (by omega) ⟨_, rfl, ?_⟩); (with_reducible refine i_Seq (i_Blk (i_Seq (i_Set (i_I ?_))))); simp only [w_set0, w_set1, w_setn0, w_setn1])
  generalize hEe : 2 + 2 * zBits n = E at hE
  generalize hbne : zBits n = bn at hbn
  generalize hbme : zBits m = bm at hbm
  refine w_ForN m (fun i ρ M' => (∃ l, ρ = 250 :: ((t : Nat) : Int) :: ((E : Nat) : Int) :: ((bn : Nat) : Int) :: ((bm : Nat) : Int) :: ((i : Nat) : Int) :: l) ∧ (∀ b j, ¬ (b = 262 ∧ ((16 * t : Nat) : Int) ≤ j ∧ j < ((16 * t + 16 : Nat) : Int) ∨ b = 264 ∧ ((256 * t : Nat) : Int) ≤ j ∧ j < ((256 * t + 256 : Nat) : Int)) → M' b j = M3 b j) ∧ rFlg M' 262 t (fun b => decide (b < i) && zrC n m T g b) ∧ rMat M' 264 t (fun a b => decide (a < i) && zrD n m T g a b)) ⟨⟨_, rfl⟩, fun _ _ _ => rfl, C3.ext (fun b _ => rfl), D3.ext (fun a b _ _ => rfl)⟩ ?_ ?_
  · rintro i ρ M4 X hi ⟨⟨l, rfl⟩, hf, hC, hD⟩ hX
    have m4 : M4 ((258 : Nat) : Int) ((t : Nat) : Int) = ((m : Nat) : Int) := (hf _ _ (by omega)).trans m3
    have s4 : M4 ((260 : Nat) : Int) ((16 * t + i : Nat) : Int) = ((zSz g n i : Nat) : Int) := (hf _ _ (by omega)).trans (s3 i (by omega))
    have o4 : M4 ((283 : Nat) : Int) ((17 * i : Nat) : Int) = zP2 (zwo g T i i) n := by
      rw [hf _ _ (by omega), show 17 * i = 16 * i + i by omega]; exact hO3 i i (Nat.le_refl _) (by omega)
    have hbd := zov_b (zwo_b g T i i) hn2 (a := n) (b := 0) hn2 (by omega)
    rw [zov_end] at hbd
    have hml := zmulb (e := ((E : Nat) : Int)) (x := zP2 (zwo g T i i) n) (B := 272) (by omega) (by omega) hbd.1 hbd.2
    have hCv : zrC n m T g i = decide (1 < zSz g n i ∧ 0 < ((E : Nat) : Int) * zP2 (zwo g T i i) n - 3 - ((bm : Nat) : Int)) := by
      unfold zrC; rw [hEe, hbme]; apply decide_eq_decide.mpr; constructor
      · intro w; exact w.2
      · intro w; exact ⟨hi, w⟩
    ((with_reducible refine i_turn (i_cI_lt (i_L5 (i_IA (i_FR (i_A0 ?_)))))); (with_reducible refine i_fldR (by assumption) ?_); (with_reducible refine i_L1 ?_); (with_reducible refine i_in (by assumption) (by omega) (by omega) ?_); (rw [m4]); (with_reducible refine i_t (by omega) ?_))
    refine i_Seq (w_cut (zR.mon' O) (fun ρ' M' => ρ' = 250 :: ((t : Nat) : Int) :: ((E : Nat) : Int) :: ((bn : Nat) : Int) :: ((bm : Nat) : Int) :: ((i : Nat) : Int) :: l ∧ M' = zput M4 ((262 : Nat) : Int) (zup (M4 ((262 : Nat) : Int)) ((16 * t + i : Nat) : Int) (zbI (zrC n m T g i)))) ?_ ?_)
    · (focus ((with_reducible refine i_sZA (i_FR (i_A0 ?_))); (with_reducible refine i_fldR (by assumption) ?_); (with_reducible refine i_Add (i_Mul (i_I (i_L1 (i_L5 (i_eIf (i_cAnd (i_cI_gt (i_IA (i_FR (i_A0 ?_))))))))))); (with_reducible refine i_fldR (by assumption) ?_); (with_reducible refine i_Add (i_Mul (i_I (i_L1 (i_L5 ?_))))); rw [zx_cmul (by omega)]; rw [zx_add (by omega)]; (with_reducible refine i_in (by assumption) (by omega) (by omega) ?_); (with_reducible refine i_I ?_); (rw [s4]); (with_reducible refine i_br ?_ ?_ <;> intro hc); (focus ((with_reducible refine i_cZ_gt (i_Sub (i_Sub (i_Mul (i_L2 (i_IA (i_FR (i_A0 ?_)))))))); (with_reducible refine i_fldR (by assumption) ?_); (with_reducible refine i_Mul (i_I (i_L5 ?_))); rw [zx_cmul (by omega)]; (with_reducible refine i_in (by assumption) (by omega) (by omega) ?_); (with_reducible refine i_I (i_L4 ?_)); (rw [o4]); (rw [zx_3 (by omega) (by omega) (by omega)]); (with_reducible refine i_br ?_ ?_ <;> intro hc); (focus ((with_reducible refine i_I ?_); (with_reducible refine i_zin (Or.inr rfl) (by assumption) (by omega) (by omega) ?_); simp only [w_set0, w_set1, w_setn0, w_setn1])); rotate_left; (focus ((with_reducible refine i_I ?_); (with_reducible refine i_zin (Or.inl rfl) (by assumption) (by omega) (by omega) ?_); simp only [w_set0, w_set1, w_setn0, w_setn1])); rotate_right)); rotate_left 2; (focus ((with_reducible refine i_I ?_); (with_reducible refine i_zin (Or.inl rfl) (by assumption) (by omega) (by omega) ?_); simp only [w_set0, w_set1, w_setn0, w_setn1])); rotate_right 2))
      all_goals first | refine ⟨trivial, ?_⟩ | refine ⟨rfl, ?_⟩
      all_goals rw [hCv]
      all_goals first | (rw [decide_eq_true (by omega)]; rfl) | (rw [decide_eq_false (by omega)]; rfl)
    · rintro ρ' M' ⟨rfl, rfl⟩
      have hC5 : rFlg (zput M4 ((262 : Nat) : Int) (zup (M4 ((262 : Nat) : Int)) ((16 * t + i : Nat) : Int) (zbI (zrC n m T g i)))) 262 t (fun b => decide (b < i + 1) && zrC n m T g b) := (hC.up (i := i) rfl).ext (fun b _ => by
        by_cases e : b = i
        · subst e; simp
        · simp [e, show (b < i + 1) = (b < i) by apply propext; omega])
      have hD5 : rMat (zput M4 ((262 : Nat) : Int) (zup (M4 ((262 : Nat) : Int)) ((16 * t + i : Nat) : Int) (zbI (zrC n m T g i)))) 264 t (fun a b => decide (a < i ∨ a = i ∧ b < i + 1) && zrD n m T g a b) := (hD.to (fun j _ _ => by rw [zg_n _ _ _ (by omega)])).ext (fun a b _ _ => by
        by_cases e : a = i ∧ b < i + 1
        · obtain ⟨rfl, e⟩ := e
          have : zrD n m T g a b = false := decide_eq_false (fun w => by omega)
          simp [this]
        · exact zdb (by omega))
      have hf5 : ∀ b j, ¬ (b = 262 ∧ ((16 * t : Nat) : Int) ≤ j ∧ j < ((16 * t + 16 : Nat) : Int) ∨ b = 264 ∧ ((256 * t : Nat) : Int) ≤ j ∧ j < ((256 * t + 256 : Nat) : Int)) → (zput M4 ((262 : Nat) : Int) (zup (M4 ((262 : Nat) : Int)) ((16 * t + i : Nat) : Int) (zbI (zrC n m T g i)))) b j = M3 b j := (by intro b j q; ((rw [zg_o _ _ (by omega)])); first | done | rfl | exact hf b j (by omega))
      generalize zput M4 ((262 : Nat) : Int) (zup (M4 ((262 : Nat) : Int)) ((16 * t + i : Nat) : Int) (zbI (zrC n m T g i))) = M5 at hC5 hD5 hf5 ⊢
      ((with_reducible refine i_Blk (i_Seq (i_Set (i_Add (i_L5 (i_I ?_)))))); rw [zx_inc (by omega)]; simp only [w_set0, w_set1, w_setn0, w_setn1]; rw [w_setT])
      refine w_ForN (m - (i + 1)) (fun k ρ M' => (∃ l, ρ = 250 :: ((t : Nat) : Int) :: ((E : Nat) : Int) :: ((bn : Nat) : Int) :: ((bm : Nat) : Int) :: ((i : Nat) : Int) :: ((i + 1 + k : Nat) : Int) :: l) ∧ (∀ b j, ¬ (b = 262 ∧ ((16 * t : Nat) : Int) ≤ j ∧ j < ((16 * t + 16 : Nat) : Int) ∨ b = 264 ∧ ((256 * t : Nat) : Int) ≤ j ∧ j < ((256 * t + 256 : Nat) : Int)) → M' b j = M3 b j) ∧ rFlg M' 262 t (fun b => decide (b < i + 1) && zrC n m T g b) ∧ rMat M' 264 t (fun a b => decide (a < i ∨ a = i ∧ b < i + 1 + k) && zrD n m T g a b)) ⟨⟨_, rfl⟩, hf5, hC5, hD5⟩ ?_ ?_
      · rintro k ρ M6 X1 hk1 ⟨⟨l, rfl⟩, hf, hC, hD⟩ hX1
        have m6 : M6 ((258 : Nat) : Int) ((t : Nat) : Int) = ((m : Nat) : Int) := (hf _ _ (by omega)).trans m3
        obtain ⟨j, hj⟩ : ∃ j, j = i + 1 + k := ⟨_, rfl⟩
        rw [← hj] at hD ⊢
        have o6 : M6 ((283 : Nat) : Int) ((16 * i + j : Nat) : Int) = zP2 (zwo g T i j) n := by
          rw [hf _ _ (by omega)]; exact hO3 i j (by omega) (by omega)
        have hbd := zov_b (zwo_b g T i j) hn2 (a := n) (b := 0) hn2 (by omega)
        rw [zov_end] at hbd
        have hml := zmulb (e := ((E : Nat) : Int)) (x := zP2 (zwo g T i j) n) (B := 272) (by omega) (by omega) hbd.1 hbd.2
        have hDv : zrD n m T g i j = decide (0 < ((E : Nat) : Int) * zP2 (zwo g T i j) n - 3 - 2 * ((bm : Nat) : Int)) := by
          unfold zrD; rw [hEe, hbme]; apply decide_eq_decide.mpr; constructor
          · intro w; exact w.2.2
          · intro w; exact ⟨by omega, by omega, w⟩
        have hX2 : ∀ (l : zLoc) M', M' = zput M6 ((264 : Nat) : Int) (zup (M6 ((264 : Nat) : Int)) ((256 * t + 16 * i + j : Nat) : Int) (zbI (zrD n m T g i j))) → X1 (250 :: ((t : Nat) : Int) :: ((E : Nat) : Int) :: ((bn : Nat) : Int) :: ((bm : Nat) : Int) :: ((i : Nat) : Int) :: ((j + 1 : Nat) : Int) :: l) M' := fun l M' e => by
          subst e
          refine hX1 _ _ ⟨⟨l, by rw [hj]; rfl⟩, (by intro b j q; ((rw [zg_o _ _ (by omega)])); first | done | rfl | exact hf b j (by omega)), hC.to (fun j _ _ => by rw [zg_n _ _ _ (by omega)]), (hD.up (by omega) (by omega) rfl).ext (fun a b _ _ => ?_)⟩
          unfold zmu
          by_cases e : a = i ∧ b = j
          · rw [if_pos e, e.1, e.2, decide_eq_true (by omega)]; rfl
          · rw [if_neg e]; exact zdb (by omega)
        (focus ((with_reducible refine i_turn (i_cI_lt (i_L6 (i_IA (i_FR (i_A0 ?_)))))); (with_reducible refine i_fldR (by assumption) ?_); (with_reducible refine i_L1 ?_); (with_reducible refine i_in (by assumption) (by omega) (by omega) ?_); (rw [m6]); (with_reducible refine i_t (by omega) ?_); (with_reducible refine i_sZA (i_FR (i_A0 ?_))); (with_reducible refine i_fldR (by assumption) ?_); (with_reducible refine i_Add (i_Add (i_Mul (i_I (i_L1 (i_Mul (i_I (i_L5 (i_L6 (i_eIf (i_cZ_gt (i_Sub (i_Sub (i_Mul (i_L2 (i_IA (i_FR (i_A0 ?_)))))))))))))))))); (with_reducible refine i_fldR (by assumption) ?_); (with_reducible refine i_Add (i_Mul (i_I (i_L5 (i_L6 ?_))))); rw [zx_cmul (by omega)]; rw [zx_add (by omega)]; (with_reducible refine i_in (by assumption) (by omega) (by omega) ?_); (with_reducible refine i_I (i_Mul (i_I (i_L4 ?_)))); (rw [o6]); rw [zx_cmul (by omega)]; (rw [zx_3 (by omega) (by omega) (by omega)]); rw [zx_cmul (by omega)]; rw [zx_add (by omega)]; rw [zx_add (by omega)]; (with_reducible refine i_br ?_ ?_ <;> intro hc); (focus ((with_reducible refine i_I ?_); (with_reducible refine i_zin (Or.inr rfl) (by assumption) (by omega) (by omega) ?_); (with_reducible refine i_up (i_Inc6 ?_)); rw [zx_inc (by omega)]; simp only [w_set0, w_set1, w_setn0, w_setn1])); rotate_left; (focus ((with_reducible refine i_I ?_); (with_reducible refine i_zin (Or.inl rfl) (by assumption) (by omega) (by omega) ?_); (with_reducible refine i_up (i_Inc6 ?_)); rw [zx_inc (by omega)]; simp only [w_set0, w_set1, w_setn0, w_setn1])); rotate_right))
        all_goals refine hX2 _ _ ?_
        all_goals rw [hDv]
        all_goals first | (rw [decide_eq_true (by omega)]; rfl) | (rw [decide_eq_false (by omega)]; rfl)
      · rintro ρ M6 X1 ⟨⟨l, rfl⟩, hf, hC, hD⟩
        have m6 : M6 ((258 : Nat) : Int) ((t : Nat) : Int) = ((m : Nat) : Int) := (hf _ _ (by omega)).trans m3
        ((with_reducible refine i_turn (i_cI_lt (i_L6 (i_IA (i_FR (i_A0 ?_)))))); (with_reducible refine i_fldR (by assumption) ?_); (with_reducible refine i_L1 ?_); (with_reducible refine i_in (by assumption) (by omega) (by omega) ?_); (rw [m6]); (with_reducible refine i_f (by omega) ?_); (with_reducible refine i_up (i_Inc5 ?_)); rw [zx_inc (by omega)]; simp only [w_set0, w_set1, w_setn0, w_setn1])
        refine hX _ _ ⟨⟨_, rfl⟩, hf, hC, hD.ext (fun a b _ _ => ?_)⟩
        by_cases e : a = i ∧ ¬ b < m
        · have : zrD n m T g a b = false := decide_eq_false (fun w => by omega)
          rw [this, Bool.and_false, Bool.and_false]
        · exact zdb (by omega)
  rintro ρ M4 X ⟨⟨l, rfl⟩, hf4, hC, hD⟩
  have n4 : M4 250 ((1 : Nat) : Int) = ((n : Nat) : Int) := (hf4 _ _ (by omega)).trans n3
  have m4 : M4 ((258 : Nat) : Int) ((t : Nat) : Int) = ((m : Nat) : Int) := (hf4 _ _ (by omega)).trans m3
  have b4 : rBox M4 t n g := fun q hq => by rw [hf4 _ _ (by omega)]; exact b3 q hq
  have s4 : rSiz M4 t (zSz g n) := fun b hb => by rw [hf4 _ _ (by omega)]; exact s3 b hb
  have T4 : rMx M4 267 T := T3.to (fun j => hf4 _ _ (by omega))
  have H4 : rFlg M4 263 t (fun _ => false) := H3.to (fun j _ _ => hf4 _ _ (by omega))
  have G4 : rMat M4 265 t (fun _ _ => false) := G3.to (fun j _ _ => hf4 _ _ (by omega))
  have C4 : rFlg M4 262 t (zrC n m T g) := hC.ext (fun b _ => by
    by_cases e : b < m
    · simp [e]
    · have : zrC n m T g b = false := decide_eq_false (fun w => e w.1)
      simp [this])
  have D4 : rMat M4 264 t (zrD n m T g) := hD.ext (fun a b _ _ => by
    by_cases e : a < m
    · simp [e]
    · have : zrD n m T g a b = false := decide_eq_false (fun w => by omega)
      simp [this])
  have fr4 : ∀ b j, ¬ ((b = 258 ∧ j = ((t : Nat) : Int) ∨ (b = 259 ∨ b = 260 ∨ b = 262 ∨ b = 263) ∧ ((16 * t : Nat) : Int) ≤ j ∧ j < ((16 * t + 16 : Nat) : Int) ∨ (b = 261 ∨ b = 264 ∨ b = 265 ∨ b = 266) ∧ ((256 * t : Nat) : Int) ≤ j ∧ j < ((256 * t + 256 : Nat) : Int)) ∨ b = 268 ∨ b = 271 ∨ b = 283 ∨ b = 284) → M4 b j = M b j := fun b j q => by rw [hf4 b j (by omega), fr3 b j q]
  clear hf4 hC hD n3 m3 b3 s3 T3 H3 G3 C3 D3 fr3 hO3
  ((with_reducible refine i_turn (i_cI_lt (i_L5 (i_IA (i_FR (i_A0 ?_)))))); (with_reducible refine i_fldR (by assumption) ?_); (with_reducible refine i_L1 ?_); (with_reducible refine i_in (by assumption) (by omega) (by omega) ?_); (rw [m4]); (with_reducible refine i_f (by omega) ?_); (with_reducible refine i_Seq (i_sCall (i_as1 (i_A0 (i_as1 (i_L1 (i_as0 ?_))))))); (with_reducible refine i_recv0 (by assumption) ?_))
  refine m_hear hO hS (r := fun _ _ => 0) ht n4 hn2 m4 hm16 b4 hg16 C4 H4 D4 G4 s4 (fun b _ => hsz b) (fun _ _ _ h => by cases h) (fun _ _ _ h => by cases h) (fun M5 hf5 h5 => ⟨rfl, ?_⟩)
  rw [zWq_no] at h5
  ((with_reducible refine i_Seq (i_Blk (i_Seq (i_Set (i_I ?_))))); simp only [w_set0, w_set1, w_setn0, w_setn1])
  have WF : ∀ b j, ¬ (b = 265 ∧ ((256 * t : Nat) : Int) ≤ j ∧ j < ((256 * t + 256 : Nat) : Int) ∨ b = 268) → M5 b j = M4 b j := fun b j q => hf5 b j (by omega)
  refine w_ForN n (fun p ρ M' => (∃ l, ρ = 250 :: ((t : Nat) : Int) :: ((E : Nat) : Int) :: ((bn : Nat) : Int) :: ((bm : Nat) : Int) :: ((p : Nat) : Int) :: l) ∧ (∀ b j, ¬ (b = 265 ∧ ((256 * t : Nat) : Int) ≤ j ∧ j < ((256 * t + 256 : Nat) : Int) ∨ b = 268) → M' b j = M4 b j) ∧ rMx M' 268 (zrP n m T g p) ∧ rMat M' 265 t (fun a b => decide (a < p) && zrG n m T g a b)) ⟨⟨_, rfl⟩, WF, h5, (G4.to (fun j _ _ => hf5 _ _ (by omega))).ext (fun a b _ _ => rfl)⟩ ?_ ?_
  · rintro p ρ M6 X hp ⟨⟨l, rfl⟩, hf, hS6, hG6⟩ hX
    have n6 : M6 250 ((1 : Nat) : Int) = ((n : Nat) : Int) := (hf _ _ (by omega)).trans n4
    ((with_reducible refine i_turn (i_cI_lt (i_L5 (i_F (i_A0 ?_))))); (with_reducible refine i_fld (by assumption) ?_); (rw [n6]); (with_reducible refine i_t (by omega) ?_); (with_reducible refine i_Blk (i_Seq (i_Set (i_I ?_)))); simp only [w_set0, w_set1, w_setn0, w_setn1]; rw [w_setT])
    refine w_ForN m (fun i ρ M' => (∃ l, ρ = 250 :: ((t : Nat) : Int) :: ((E : Nat) : Int) :: ((bn : Nat) : Int) :: ((bm : Nat) : Int) :: ((p : Nat) : Int) :: ((i : Nat) : Int) :: l) ∧ (∀ b j, ¬ (b = 265 ∧ ((256 * t : Nat) : Int) ≤ j ∧ j < ((256 * t + 256 : Nat) : Int) ∨ b = 268) → M' b j = M4 b j) ∧ rMx M' 268 (zrI n m T g (zrP n m T g p) p i) ∧ rMat M' 265 t (fun a b => decide (a < p ∨ a = p ∧ b < i) && zrG n m T g a b)) ⟨⟨_, rfl⟩, hf, hS6, hG6.ext (fun a b _ _ => zdb (by omega))⟩ ?_ ?_
    · rintro i ρ M7 X1 hi ⟨⟨l, rfl⟩, hf, hS7, hG7⟩ hX1
      have n7 : M7 250 ((1 : Nat) : Int) = ((n : Nat) : Int) := (hf _ _ (by omega)).trans n4
      have m7 : M7 ((258 : Nat) : Int) ((t : Nat) : Int) = ((m : Nat) : Int) := (hf _ _ (by omega)).trans m4
      have b7 : rBox M7 t n g := fun q hq => by rw [hf _ _ (by omega)]; exact b4 q hq
      have s7 : M7 ((260 : Nat) : Int) ((16 * t + i : Nat) : Int) = ((zSz g n i : Nat) : Int) := (hf _ _ (by omega)).trans (s4 i (by omega))
      have T7 : rMx M7 267 T := T4.to (fun j => hf _ _ (by omega))
      have hGv : zrG n m T g p i = zrc n m T g (zrI n m T g (zrP n m T g p) p i) p i := by unfold zrG; rw [decide_eq_true ⟨hp, hi⟩]; rfl
      rw [zrI_su] at hX1
      generalize zrI n m T g (zrP n m T g p) p i = S at hS7 hX1 hGv
      have hbd := zsI_b (w := zrw T g S p i) (c := 1) (fun q => zrw_b T g S p i q)
      ((with_reducible refine i_turn (i_cI_lt (i_L6 (i_IA (i_FR (i_A0 ?_)))))); (with_reducible refine i_fldR (by assumption) ?_); (with_reducible refine i_L1 ?_); (with_reducible refine i_in (by assumption) (by omega) (by omega) ?_); (rw [m7]); (with_reducible refine i_t (by omega) ?_); (with_reducible refine i_Blk (i_Seq (i_Set (i_I (i_Seq (i_Blk (i_Seq (i_Set (i_I ?_))))))))); simp only [w_set0, w_set1, w_setn0, w_setn1]; rw [w_setT]; simp only [w_set0, w_set1, w_setn0, w_setn1]; rw [w_setT])
      refine w_ForN n (fun q ρ M' => (∃ l, ρ = 250 :: ((t : Nat) : Int) :: ((E : Nat) : Int) :: ((bn : Nat) : Int) :: ((bm : Nat) : Int) :: ((p : Nat) : Int) :: ((i : Nat) : Int) :: zsI (zrw T g S p i) q :: ((q : Nat) : Int) :: l) ∧ M' = M7) ⟨⟨_, rfl⟩, rfl⟩ ?_ ?_
      · rintro q ρ M8 X2 hq ⟨⟨l, rfl⟩, rfl⟩ hX2
        have gT := T7 p q (by omega) (by omega)
        have gS := hS7 p q (by omega) (by omega)
        have hb1 := hbd q
        have hX3 : ∀ (l : zLoc) (x : Int), x = zsI (zrw T g S p i) q + zrw T g S p i q → X2 (250 :: ((t : Nat) : Int) :: ((E : Nat) : Int) :: ((bn : Nat) : Int) :: ((bm : Nat) : Int) :: ((p : Nat) : Int) :: ((i : Nat) : Int) :: x :: ((q + 1 : Nat) : Int) :: l) M8 := fun l x e => by subst e; exact hX2 _ _ ⟨⟨l, rfl⟩, rfl⟩
        have hw : zrw T g S p i q = if q ≠ p ∧ g q = i ∧ S p q = false then zsg (T p q) else 0 := rfl
        cases e1 : S p q <;> cases e2 : T p q <;> rw [e1] at gS hw <;> rw [e2] at gT hw
        all_goals
          (first | ((focus ((with_reducible refine i_turn (i_cI_lt (i_L8 (i_F (i_A0 ?_))))); (with_reducible refine i_fld (by assumption) ?_); (rw [n7]); (with_reducible refine i_t (by omega) ?_); (with_reducible refine i_If (i_cAnd (i_cAnd (i_cI_ne (i_L8 (i_L5 ?_)))))); (with_reducible refine i_br ?_ ?_ <;> intro hc); (focus ((with_reducible refine i_cZ_ne (i_Call (i_as1 (i_A0 (i_as1 (i_L1 (i_as1 (i_L8 (i_as1 (i_L6 (i_as0 ?_))))))))))); (with_reducible refine i_recv0 (by assumption) ?_); (refine m_isIn hO hS ht b7 hq hn2 ⟨_, rfl, ?_⟩); (with_reducible refine i_dne ?_ ?_ <;> intro hc); (focus ((with_reducible refine i_cNot (i_cZ_ne (i_ZA (i_FR (i_A0 ?_))))); (with_reducible refine i_fldR (by assumption) ?_); (with_reducible refine i_Add (i_Mul (i_I (i_L5 (i_L8 ?_))))); rw [zx_cmul (by omega)]; rw [zx_add (by omega)]; (with_reducible refine i_in (by assumption) (by omega) (by omega) ?_); (rw [gS]); rw [zbI_f]; (with_reducible refine i_f (by omega) ?_); (with_reducible refine i_Set (i_Add (i_L7 (i_eIf (i_cZ_ne (i_ZA (i_FR (i_A0 ?_)))))))); (with_reducible refine i_fldR (by assumption) ?_); (with_reducible refine i_Add (i_Mul (i_I (i_L5 (i_L8 ?_))))); rw [zx_cmul (by omega)]; rw [zx_add (by omega)]; (with_reducible refine i_in (by assumption) (by omega) (by omega) ?_); (rw [gT]); rw [zbI_f]; (with_reducible refine i_f (by omega) ?_); (with_reducible refine i_I (i_up ?_)); rw [zx_s (by omega) (by omega)]; simp only [w_set0, w_set1, w_setn0, w_setn1]; (with_reducible refine i_Inc8 ?_); rw [zx_inc (by omega)]; simp only [w_set0, w_set1, w_setn0, w_setn1])); rotate_left; (focus ((with_reducible refine i_up (i_Inc8 ?_)); rw [zx_inc (by omega)]; simp only [w_set0, w_set1, w_setn0, w_setn1])); rotate_right)); rotate_left 2; (focus ((with_reducible refine i_up (i_Inc8 ?_)); rw [zx_inc (by omega)]; simp only [w_set0, w_set1, w_setn0, w_setn1])); rotate_right 2))) | ((focus ((with_reducible refine i_turn (i_cI_lt (i_L8 (i_F (i_A0 ?_))))); (with_reducible refine i_fld (by assumption) ?_); (rw [n7]); (with_reducible refine i_t (by omega) ?_); (with_reducible refine i_If (i_cAnd (i_cAnd (i_cI_ne (i_L8 (i_L5 ?_)))))); (with_reducible refine i_br ?_ ?_ <;> intro hc); (focus ((with_reducible refine i_cZ_ne (i_Call (i_as1 (i_A0 (i_as1 (i_L1 (i_as1 (i_L8 (i_as1 (i_L6 (i_as0 ?_))))))))))); (with_reducible refine i_recv0 (by assumption) ?_); (refine m_isIn hO hS ht b7 hq hn2 ⟨_, rfl, ?_⟩); (with_reducible refine i_dne ?_ ?_ <;> intro hc); (focus ((with_reducible refine i_cNot (i_cZ_ne (i_ZA (i_FR (i_A0 ?_))))); (with_reducible refine i_fldR (by assumption) ?_); (with_reducible refine i_Add (i_Mul (i_I (i_L5 (i_L8 ?_))))); rw [zx_cmul (by omega)]; rw [zx_add (by omega)]; (with_reducible refine i_in (by assumption) (by omega) (by omega) ?_); (rw [gS]); rw [zbI_f]; (with_reducible refine i_f (by omega) ?_); (with_reducible refine i_Set (i_Add (i_L7 (i_eIf (i_cZ_ne (i_ZA (i_FR (i_A0 ?_)))))))); (with_reducible refine i_fldR (by assumption) ?_); (with_reducible refine i_Add (i_Mul (i_I (i_L5 (i_L8 ?_))))); rw [zx_cmul (by omega)]; rw [zx_add (by omega)]; (with_reducible refine i_in (by assumption) (by omega) (by omega) ?_); (rw [gT]); rw [zbI_t]; (with_reducible refine i_t (by omega) ?_); (with_reducible refine i_I (i_up ?_)); rw [zx_s (by omega) (by omega)]; simp only [w_set0, w_set1, w_setn0, w_setn1]; (with_reducible refine i_Inc8 ?_); rw [zx_inc (by omega)]; simp only [w_set0, w_set1, w_setn0, w_setn1])); rotate_left; (focus ((with_reducible refine i_up (i_Inc8 ?_)); rw [zx_inc (by omega)]; simp only [w_set0, w_set1, w_setn0, w_setn1])); rotate_right)); rotate_left 2; (focus ((with_reducible refine i_up (i_Inc8 ?_)); rw [zx_inc (by omega)]; simp only [w_set0, w_set1, w_setn0, w_setn1])); rotate_right 2))) | ((focus ((with_reducible refine i_turn (i_cI_lt (i_L8 (i_F (i_A0 ?_))))); (with_reducible refine i_fld (by assumption) ?_); (rw [n7]); (with_reducible refine i_t (by omega) ?_); (with_reducible refine i_If (i_cAnd (i_cAnd (i_cI_ne (i_L8 (i_L5 ?_)))))); (with_reducible refine i_br ?_ ?_ <;> intro hc); (focus ((with_reducible refine i_cZ_ne (i_Call (i_as1 (i_A0 (i_as1 (i_L1 (i_as1 (i_L8 (i_as1 (i_L6 (i_as0 ?_))))))))))); (with_reducible refine i_recv0 (by assumption) ?_); (refine m_isIn hO hS ht b7 hq hn2 ⟨_, rfl, ?_⟩); (with_reducible refine i_dne ?_ ?_ <;> intro hc); (focus ((with_reducible refine i_cNot (i_cZ_ne (i_ZA (i_FR (i_A0 ?_))))); (with_reducible refine i_fldR (by assumption) ?_); (with_reducible refine i_Add (i_Mul (i_I (i_L5 (i_L8 ?_))))); rw [zx_cmul (by omega)]; rw [zx_add (by omega)]; (with_reducible refine i_in (by assumption) (by omega) (by omega) ?_); (rw [gS]); rw [zbI_t]; (with_reducible refine i_t (by omega) ?_); (with_reducible refine i_up (i_Inc8 ?_)); rw [zx_inc (by omega)]; simp only [w_set0, w_set1, w_setn0, w_setn1])); rotate_left; (focus ((with_reducible refine i_up (i_Inc8 ?_)); rw [zx_inc (by omega)]; simp only [w_set0, w_set1, w_setn0, w_setn1])); rotate_right)); rotate_left 2; (focus ((with_reducible refine i_up (i_Inc8 ?_)); rw [zx_inc (by omega)]; simp only [w_set0, w_set1, w_setn0, w_setn1])); rotate_right 2))))
        all_goals refine hX3 _ _ ?_
        all_goals rw [hw]
        all_goals first | (rw [if_pos ⟨by omega, by assumption, rfl⟩]; rfl) | (rw [if_neg (by omega)]; omega) | (rw [if_neg (fun w => absurd w.2.2 (by decide))]; omega)
      rintro ρ M8 X2 ⟨⟨l, rfl⟩, rfl⟩
      have hb1 := hbd n
      have hml := zmulb (e := ((E : Nat) : Int)) (x := zsI (zrw T g S p i) n) (B := 16) (by omega) (by omega) (by omega) (by omega)
      have hcv : zrc n m T g S p i = decide (0 < ((E : Nat) : Int) * zsI (zrw T g S p i) n - 3 - ((bn : Nat) : Int) - ((bm : Nat) : Int)) := by unfold zrc; rw [hEe, hbne, hbme]; rfl
      have hpos : 0 < ((E : Nat) : Int) * zsI (zrw T g S p i) n - 3 - ((bn : Nat) : Int) - ((bm : Nat) : Int) → (if g p = i then 1 else 0) < zSz g n i := fun w => zrO_pos hp (by
        unfold zrO
        rcases Int.lt_or_le 0 (zsI (zrw T g S p i) n) with z | z
        · exact z
        · have : ((E : Nat) : Int) * zsI (zrw T g S p i) n ≤ 0 := Int.mul_nonpos_of_nonneg_of_nonpos (by omega) z
          omega)
      by_cases hc : 0 < ((E : Nat) : Int) * zsI (zrw T g S p i) n - 3 - ((bn : Nat) : Int) - ((bm : Nat) : Int)
      · have hpo := hpos hc
        rw [decide_eq_true hc] at hcv
        rw [hcv] at hX1 hGv
        simp only [if_true] at hX1
        ((with_reducible refine i_turn (i_cI_lt (i_L8 (i_F (i_A0 ?_))))); (with_reducible refine i_fld (by assumption) ?_); (rw [n7]); (with_reducible refine i_f (by omega) ?_); (with_reducible refine i_Seq (i_IfBrk (i_cOr (i_cNot (i_cZ_ne (i_Call (i_as1 (i_A0 (i_as1 (i_L1 (i_as1 (i_L5 (i_as1 (i_L6 (i_as0 ?_))))))))))))))); (with_reducible refine i_recv0 (by assumption) ?_); (refine m_hasOther hO hS ht b7 hp hn2 (by omega) s7 ⟨_, rfl, ?_⟩); (rw [decide_eq_true hpo]); rw [zbI_t]; (with_reducible refine i_t (by omega) ?_); (with_reducible refine i_cZ_le (i_Sub (i_Sub (i_Sub (i_Mul (i_L2 (i_L7 (i_I (i_L3 (i_L4 ?_)))))))))); (rw [zx_4 (by omega) (by omega) (by omega) (by omega)]); (with_reducible refine i_f (by omega) ?_); (with_reducible refine i_Seq (i_sZA (i_FR (i_A0 ?_)))); (with_reducible refine i_fldR (by assumption) ?_); (with_reducible refine i_Add (i_Add (i_Mul (i_I (i_L1 (i_Mul (i_I (i_L5 (i_L6 (i_I ?_)))))))))); rw [zx_cmul (by omega)]; rw [zx_cmul (by omega)]; rw [zx_add (by omega)]; rw [zx_add (by omega)]; (with_reducible refine i_zin (Or.inr rfl) (by assumption) (by omega) (by omega) ?_); (with_reducible refine i_Blk (i_Seq (i_Set (i_I ?_)))); simp only [w_set0, w_set1, w_setn0, w_setn1])
        have hG8 : rMat (zput M8 ((265 : Nat) : Int) (zup (M8 ((265 : Nat) : Int)) ((256 * t + 16 * p + i : Nat) : Int) 1)) 265 t (fun a b => decide (a < p ∨ a = p ∧ b < i + 1) && zrG n m T g a b) := (hG7.up (v := true) (by omega) (by omega) rfl).ext (fun a b _ _ => by
          unfold zmu
          by_cases e : a = p ∧ b = i
          · rw [if_pos e]; obtain ⟨rfl, rfl⟩ := e; rw [hGv]; simp
          · rw [if_neg e]; exact zdb (by omega))
        have hf8 : ∀ b j, ¬ (b = 265 ∧ ((256 * t : Nat) : Int) ≤ j ∧ j < ((256 * t + 256 : Nat) : Int) ∨ b = 268) → (zput M8 ((265 : Nat) : Int) (zup (M8 ((265 : Nat) : Int)) ((256 * t + 16 * p + i : Nat) : Int) 1)) b j = M4 b j := (by intro b j q; ((rw [zg_o _ _ (by omega)])); first | done | rfl | exact hf b j (by omega))
        have hS8 : rMx (zput M8 ((265 : Nat) : Int) (zup (M8 ((265 : Nat) : Int)) ((256 * t + 16 * p + i : Nat) : Int) 1)) 268 S := hS7.to (fun j => by rw [zg_n _ _ _ (by omega)])
        have gn8 : M8 250 ((1 : Nat) : Int) = ((n : Nat) : Int) := n7
        generalize zput M8 ((265 : Nat) : Int) (zup (M8 ((265 : Nat) : Int)) ((256 * t + 16 * p + i : Nat) : Int) 1) = M9 at hG8 hf8 hS8 ⊢
        refine w_ForN n (fun q ρ M' => (∃ l x, ρ = 250 :: ((t : Nat) : Int) :: ((E : Nat) : Int) :: ((bn : Nat) : Int) :: ((bm : Nat) : Int) :: ((p : Nat) : Int) :: ((i : Nat) : Int) :: x :: ((q : Nat) : Int) :: l) ∧ (∀ b j, ¬ b = ((268 : Nat) : Int) → M' b j = M9 b j) ∧ rMx M' 268 (zrA q g p i S)) ⟨⟨_, _, rfl⟩, fun _ _ _ => rfl, hS8.ext (fun a b _ _ => by unfold zrA; simp)⟩ ?_ ?_
        · rintro q ρ M10 X3 hq ⟨⟨l, x, rfl⟩, hf10, hS10⟩ hX3
          have n10 : M10 250 ((1 : Nat) : Int) = ((n : Nat) : Int) := by rw [hf10 _ _ (by omega), hf8 _ _ (by omega)]; exact n4
          have b10 : rBox M10 t n g := fun q hq => by rw [hf10 _ _ (by omega), hf8 _ _ (by omega)]; exact b4 q hq
          (focus ((with_reducible refine i_turn (i_cI_lt (i_L8 (i_F (i_A0 ?_))))); (with_reducible refine i_fld (by assumption) ?_); (rw [n10]); (with_reducible refine i_t (by omega) ?_); (with_reducible refine i_If (i_cAnd (i_cI_ne (i_L8 (i_L5 ?_))))); (with_reducible refine i_br ?_ ?_ <;> intro hc); (focus ((with_reducible refine i_cZ_ne (i_Call (i_as1 (i_A0 (i_as1 (i_L1 (i_as1 (i_L8 (i_as1 (i_L6 (i_as0 ?_))))))))))); (with_reducible refine i_recv0 (by assumption) ?_); (refine m_isIn hO hS ht b10 hq hn2 ⟨_, rfl, ?_⟩); (with_reducible refine i_dne ?_ ?_ <;> intro hc); (focus ((with_reducible refine i_sCall (i_as1 (i_A0 (i_as1 (i_L5 (i_as1 (i_L8 (i_as0 ?_)))))))); (with_reducible refine i_recv0 (by assumption) ?_); (refine m_say hO hS (by omega) (by omega) hS10 (fun M11 hf11 h11 => ⟨rfl, ?_⟩)); (with_reducible refine i_up (i_Inc8 ?_)); rw [zx_inc (by omega)]; simp only [w_set0, w_set1, w_setn0, w_setn1])); rotate_left; (focus ((with_reducible refine i_up (i_Inc8 ?_)); rw [zx_inc (by omega)]; simp only [w_set0, w_set1, w_setn0, w_setn1])); rotate_right)); rotate_left 2; (focus ((with_reducible refine i_up (i_Inc8 ?_)); rw [zx_inc (by omega)]; simp only [w_set0, w_set1, w_setn0, w_setn1])); rotate_right 2))
          · refine hX3 _ _ ⟨⟨_, _, rfl⟩, fun b j z => (hf11 b j z).trans (hf10 b j z), h11.ext (fun a b ha hb => ?_)⟩
            rename_i c1 c2
            unfold zmu zrA
            by_cases w1 : a = q ∧ b = p
            · rw [if_pos w1, w1.1, w1.2]; simp [c1, c2]; omega
            · rw [if_neg w1]
              by_cases w2 : a = p ∧ b = q
              · rw [if_pos w2, w2.1, w2.2]; simp [c1, c2]; omega
              · rw [if_neg w2]; congr 1; rw [← Bool.decide_or, ← Bool.decide_or]; apply decide_eq_decide.mpr; omega
          all_goals
            refine hX3 _ _ ⟨⟨_, _, rfl⟩, hf10, hS10.ext (fun a b ha hb => ?_)⟩
            unfold zrA
            congr 1
            rw [← Bool.decide_or, ← Bool.decide_or]
            apply decide_eq_decide.mpr
            have hh : ¬ (q ≠ p ∧ g q = i) := by omega
            constructor
            · intro w; rcases w with ⟨w1, w2, w3, w4⟩ | ⟨w1, w2, w3, w4⟩
              · exact Or.inl ⟨w1, w2, by omega, w4⟩
              · exact Or.inr ⟨w1, w2, by omega, w4⟩
            · intro w; rcases w with ⟨w1, w2, w3, w4⟩ | ⟨w1, w2, w3, w4⟩
              · refine Or.inl ⟨w1, w2, ?_, w4⟩
                rcases Nat.lt_or_ge b q with z | z
                · exact z
                · exact absurd (show q ≠ p ∧ g q = i by rw [show q = b by omega]; exact ⟨w2, w4⟩) hh
              · refine Or.inr ⟨w1, w2, ?_, w4⟩
                rcases Nat.lt_or_ge a q with z | z
                · exact z
                · exact absurd (show q ≠ p ∧ g q = i by rw [show q = a by omega]; exact ⟨w2, w4⟩) hh
        · rintro ρ M10 X3 ⟨⟨l, x, rfl⟩, hf10, hS10⟩
          have n10 : M10 250 ((1 : Nat) : Int) = ((n : Nat) : Int) := by rw [hf10 _ _ (by omega), hf8 _ _ (by omega)]; exact n4
          ((with_reducible refine i_turn (i_cI_lt (i_L8 (i_F (i_A0 ?_))))); (with_reducible refine i_fld (by assumption) ?_); (rw [n10]); (with_reducible refine i_f (by omega) ?_); (with_reducible refine i_up (i_Inc6 ?_)); rw [zx_inc (by omega)]; simp only [w_set0, w_set1, w_setn0, w_setn1])
          exact hX1 _ _ ⟨⟨_, rfl⟩, fun b j z => by rw [hf10 b j (by omega), hf8 b j z], hS10, hG8.to (fun j _ _ => hf10 _ _ (by omega))⟩
      · rw [decide_eq_false hc] at hcv
        rw [hcv] at hX1 hGv
        simp only [Bool.false_eq_true, if_false] at hX1
        have hX3 : ∀ l, X1 (250 :: ((t : Nat) : Int) :: ((E : Nat) : Int) :: ((bn : Nat) : Int) :: ((bm : Nat) : Int) :: ((p : Nat) : Int) :: ((i + 1 : Nat) : Int) :: l) M8 := fun l => hX1 _ _ ⟨⟨l, rfl⟩, hf, hS7, hG7.ext (fun a b _ _ => by
          by_cases e : a = p ∧ b = i
          · obtain ⟨rfl, rfl⟩ := e; rw [hGv]; simp
          · exact zdb (by omega))⟩
        (focus ((with_reducible refine i_turn (i_cI_lt (i_L8 (i_F (i_A0 ?_))))); (with_reducible refine i_fld (by assumption) ?_); (rw [n7]); (with_reducible refine i_f (by omega) ?_); (with_reducible refine i_Seq (i_IfBrk (i_cOr (i_cNot (i_cZ_ne (i_Call (i_as1 (i_A0 (i_as1 (i_L1 (i_as1 (i_L5 (i_as1 (i_L6 (i_as0 ?_))))))))))))))); (with_reducible refine i_recv0 (by assumption) ?_); (refine m_hasOther hO hS ht b7 hp hn2 (by omega) s7 ⟨_, rfl, ?_⟩); (with_reducible refine i_dne ?_ ?_ <;> intro hc); (focus ((with_reducible refine i_cZ_le (i_Sub (i_Sub (i_Sub (i_Mul (i_L2 (i_L7 (i_I (i_L3 (i_L4 ?_)))))))))); (rw [zx_4 (by omega) (by omega) (by omega) (by omega)]); (with_reducible refine i_t (by omega) ?_); (with_reducible refine i_lab1 (i_up (i_Inc6 ?_))); rw [zx_inc (by omega)]; simp only [w_set0, w_set1, w_setn0, w_setn1])); rotate_left; (focus ((with_reducible refine i_lab1 (i_up (i_Inc6 ?_))); rw [zx_inc (by omega)]; simp only [w_set0, w_set1, w_setn0, w_setn1])); rotate_right))
        all_goals first | exact hX3 _ | (exfalso; omega)
    · rintro ρ M7 X1 ⟨⟨l, rfl⟩, hf, hS7, hG7⟩
      have m7 : M7 ((258 : Nat) : Int) ((t : Nat) : Int) = ((m : Nat) : Int) := (hf _ _ (by omega)).trans m4
      ((with_reducible refine i_turn (i_cI_lt (i_L6 (i_IA (i_FR (i_A0 ?_)))))); (with_reducible refine i_fldR (by assumption) ?_); (with_reducible refine i_L1 ?_); (with_reducible refine i_in (by assumption) (by omega) (by omega) ?_); (rw [m7]); (with_reducible refine i_f (by omega) ?_); (with_reducible refine i_up (i_Inc5 ?_)); rw [zx_inc (by omega)]; simp only [w_set0, w_set1, w_setn0, w_setn1])
      refine hX _ _ ⟨⟨_, rfl⟩, hf, hS7, hG7.ext (fun a b _ _ => ?_)⟩
      by_cases e : a = p ∧ ¬ b < m
      · have : zrG n m T g a b = false := by unfold zrG; rw [decide_eq_false (fun w => e.2 w.2)]; rfl
        rw [this, Bool.and_false, Bool.and_false]
      · exact zdb (by omega)
  rintro ρ M6 X1 ⟨⟨l, rfl⟩, hf6, hS6, hG6⟩
  have n6 : M6 250 ((1 : Nat) : Int) = ((n : Nat) : Int) := (hf6 _ _ (by omega)).trans n4
  have m6 : M6 ((258 : Nat) : Int) ((t : Nat) : Int) = ((m : Nat) : Int) := (hf6 _ _ (by omega)).trans m4
  have b6 : rBox M6 t n g := fun q hq => by rw [hf6 _ _ (by omega)]; exact b4 q hq
  have s6 : rSiz M6 t (zSz g n) := fun b hb => by rw [hf6 _ _ (by omega)]; exact s4 b hb
  have T6 : rMx M6 267 T := T4.to (fun j => hf6 _ _ (by omega))
  have H6 : rFlg M6 263 t (fun _ => false) := H4.to (fun j _ _ => hf6 _ _ (by omega))
  have C6 : rFlg M6 262 t (zrC n m T g) := C4.to (fun j _ _ => hf6 _ _ (by omega))
  have D6 : rMat M6 264 t (zrD n m T g) := D4.to (fun j _ _ => hf6 _ _ (by omega))
  have G6 : rMat M6 265 t (zrG n m T g) := hG6.ext (fun a b _ _ => by
    by_cases e : a < n
    · simp [e]
    · have : zrG n m T g a b = false := by unfold zrG; rw [decide_eq_false (fun w => e w.1)]; rfl
      simp [this])
  have fr6 : ∀ b j, ¬ ((b = 258 ∧ j = ((t : Nat) : Int) ∨ (b = 259 ∨ b = 260 ∨ b = 262 ∨ b = 263) ∧ ((16 * t : Nat) : Int) ≤ j ∧ j < ((16 * t + 16 : Nat) : Int) ∨ (b = 261 ∨ b = 264 ∨ b = 265 ∨ b = 266) ∧ ((256 * t : Nat) : Int) ≤ j ∧ j < ((256 * t + 256 : Nat) : Int)) ∨ b = 268 ∨ b = 271 ∨ b = 283 ∨ b = 284) → M6 b j = M b j := fun b j q => by rw [hf6 b j (by omega), fr4 b j q]
  clear hf6 hG6 n4 m4 b4 s4 T4 H4 G4 C4 D4 fr4 h5 WF hf5
  ((with_reducible refine i_turn (i_cI_lt (i_L5 (i_F (i_A0 ?_))))); (with_reducible refine i_fld (by assumption) ?_); (rw [n6]); (with_reducible refine i_f (by omega) ?_); (with_reducible refine i_Seq (i_Blk (i_Seq (i_Set (i_I ?_))))); simp only [w_set0, w_set1, w_setn0, w_setn1])
  refine w_ForN m (fun i ρ M' => (∃ l, ρ = 250 :: ((t : Nat) : Int) :: ((E : Nat) : Int) :: ((bn : Nat) : Int) :: ((bm : Nat) : Int) :: ((i : Nat) : Int) :: l) ∧ (∀ b j, ¬ (b = 261 ∧ ((256 * t : Nat) : Int) ≤ j ∧ j < ((256 * t + 256 : Nat) : Int) ∨ b = 284) → M' b j = M6 b j) ∧ (∀ i' k : Nat, i' < i → k < zSz g n i' → M' ((261 : Nat) : Int) ((256 * t + 16 * i' + k : Nat) : Int) = ((zrow n g T i' k : Nat) : Int))) ⟨⟨_, rfl⟩, fun _ _ _ => rfl, fun _ _ h => absurd h (by omega)⟩ ?_ ?_
  · rintro i ρ M7 X hi ⟨⟨l, rfl⟩, hf, hr⟩ hX
    have m7 : M7 ((258 : Nat) : Int) ((t : Nat) : Int) = ((m : Nat) : Int) := (hf _ _ (by omega)).trans m6
    have n7 : M7 250 ((1 : Nat) : Int) = ((n : Nat) : Int) := (hf _ _ (by omega)).trans n6
    have b7 : rBox M7 t n g := fun q hq => by rw [hf _ _ (by omega)]; exact b6 q hq
    have T7 : rMx M7 267 T := T6.to (fun j => hf _ _ (by omega))
    have s7 : M7 ((260 : Nat) : Int) ((16 * t + i : Nat) : Int) = ((zSz g n i : Nat) : Int) := (hf _ _ (by omega)).trans (s6 i (by omega))
    ((with_reducible refine i_turn (i_cI_lt (i_L5 (i_IA (i_FR (i_A0 ?_)))))); (with_reducible refine i_fldR (by assumption) ?_); (with_reducible refine i_L1 ?_); (with_reducible refine i_in (by assumption) (by omega) (by omega) ?_); (rw [m7]); (with_reducible refine i_t (by omega) ?_); (with_reducible refine i_sCall (i_as1 (i_A0 (i_as1 (i_L1 (i_as1 (i_L5 (i_as0 ?_)))))))); (with_reducible refine i_recv0 (by assumption) ?_))
    refine m_lay hO hS ht n7 hn2 (by omega) b7 T7 s7 (hsz i) (hon i hi) (fun M8 hf8 h8 => ⟨rfl, ?_⟩)
    ((with_reducible refine i_up (i_Inc5 ?_)); rw [zx_inc (by omega)]; simp only [w_set0, w_set1, w_setn0, w_setn1])
    refine hX _ _ ⟨⟨_, rfl⟩, fun b j q => by rw [hf8 b j (by omega)]; exact hf b j q, fun i' k h1 h2 => ?_⟩
    by_cases e : i' = i
    · subst e; exact h8 k h2
    · have := hsz i'
      rw [hf8 _ _ (by omega)]; exact hr i' k (by omega) h2
  rintro ρ M7 X ⟨⟨l, rfl⟩, hf7, hr7⟩
  have n7 : M7 250 ((1 : Nat) : Int) = ((n : Nat) : Int) := (hf7 _ _ (by omega)).trans n6
  have m7 : M7 ((258 : Nat) : Int) ((t : Nat) : Int) = ((m : Nat) : Int) := (hf7 _ _ (by omega)).trans m6
  have b7 : rBox M7 t n g := fun q hq => by rw [hf7 _ _ (by omega)]; exact b6 q hq
  have s7 : rSiz M7 t (zSz g n) := fun b hb => by rw [hf7 _ _ (by omega)]; exact s6 b hb
  have T7 : rMx M7 267 T := T6.to (fun j => hf7 _ _ (by omega))
  have H7 : rFlg M7 263 t (fun _ => false) := H6.to (fun j _ _ => hf7 _ _ (by omega))
  have C7 : rFlg M7 262 t (zrC n m T g) := C6.to (fun j _ _ => hf7 _ _ (by omega))
  have D7 : rMat M7 264 t (zrD n m T g) := D6.to (fun j _ _ => hf7 _ _ (by omega))
  have G7 : rMat M7 265 t (zrG n m T g) := G6.to (fun j _ _ => hf7 _ _ (by omega))
  have S7 : rMx M7 268 (zrP n m T g n) := hS6.to (fun j => hf7 _ _ (by omega))
  have fr7 : ∀ b j, ¬ ((b = 258 ∧ j = ((t : Nat) : Int) ∨ (b = 259 ∨ b = 260 ∨ b = 262 ∨ b = 263) ∧ ((16 * t : Nat) : Int) ≤ j ∧ j < ((16 * t + 16 : Nat) : Int) ∨ (b = 261 ∨ b = 264 ∨ b = 265 ∨ b = 266) ∧ ((256 * t : Nat) : Int) ≤ j ∧ j < ((256 * t + 256 : Nat) : Int)) ∨ b = 268 ∨ b = 271 ∨ b = 283 ∨ b = 284) → M7 b j = M b j := fun b j q => by rw [hf7 b j (by omega), fr6 b j q]
  clear hf7 n6 m6 b6 s6 T6 H6 G6 C6 D6 fr6 hS6
  ((with_reducible refine i_turn (i_cI_lt (i_L5 (i_IA (i_FR (i_A0 ?_)))))); (with_reducible refine i_fldR (by assumption) ?_); (with_reducible refine i_L1 ?_); (with_reducible refine i_in (by assumption) (by omega) (by omega) ?_); (rw [m7]); (with_reducible refine i_f (by omega) ?_); (with_reducible refine i_Seq (i_Blk (i_Seq (i_Set (i_I ?_))))); simp only [w_set0, w_set1, w_setn0, w_setn1])
  refine w_ForN m (fun i ρ M' => (∃ l, ρ = 250 :: ((t : Nat) : Int) :: ((E : Nat) : Int) :: ((bn : Nat) : Int) :: ((bm : Nat) : Int) :: ((i : Nat) : Int) :: l) ∧ (∀ b j, ¬ (b = 263 ∧ ((16 * t : Nat) : Int) ≤ j ∧ j < ((16 * t + 16 : Nat) : Int) ∨ b = 268) → M' b j = M7 b j) ∧ rMx M' 268 (zrQ n m T g i) ∧ rFlg M' 263 t (fun b => decide (b < i) && zrH n m T g b)) ⟨⟨_, rfl⟩, fun _ _ _ => rfl, S7, H7.ext (fun b _ => rfl)⟩ ?_ ?_
  · rintro i ρ M8 X hi ⟨⟨l, rfl⟩, hf, hS8, hH8⟩ hX
    have m8 : M8 ((258 : Nat) : Int) ((t : Nat) : Int) = ((m : Nat) : Int) := (hf _ _ (by omega)).trans m7
    have s8 : M8 ((260 : Nat) : Int) ((16 * t + i : Nat) : Int) = ((zSz g n i : Nat) : Int) := (hf _ _ (by omega)).trans (s7 i (by omega))
    have T8 : rMx M8 267 T := T7.to (fun j => hf _ _ (by omega))
    have hHv : zrH n m T g i = zrh n m T g (zrQ n m T g i) i := by unfold zrH; rw [decide_eq_true hi]; rfl
    have hsi := hsz i
    have r8 : ∀ k : Nat, k < zSz g n i → M8 ((261 : Nat) : Int) ((256 * t + 16 * i + k : Nat) : Int) = ((zrow n g T i k : Nat) : Int) := fun k hk1 => (hf _ _ (by omega)).trans (hr7 i k hi hk1)
    have rl : ∀ k : Nat, zrow n g T i k < 16 := fun k => by have := hrl i k hi; omega
    have hbd := zsI_b (w := zrk T (zrow n g T i) (zrQ n m T g i)) (c := 1) (fun q => zrk_b _ _ _ q)
    rw [zrQ_su] at hX
    generalize zrQ n m T g i = S at hS8 hX hHv hbd
    have hcv : zrh n m T g S i = decide (2 ≤ zSz g n i ∧ 0 < ((E : Nat) : Int) * zsI (zrk T (zrow n g T i) S) (zSz g n i - 1) - 3 - ((bm : Nat) : Int)) := by unfold zrh zrK; rw [hEe, hbme]
    generalize zrow n g T i = r at r8 rl hX hbd hcv
    generalize hse : zSz g n i = z at s8 hX hcv r8 hsi
    ((with_reducible refine i_turn (i_cI_lt (i_L5 (i_IA (i_FR (i_A0 ?_)))))); (with_reducible refine i_fldR (by assumption) ?_); (with_reducible refine i_L1 ?_); (with_reducible refine i_in (by assumption) (by omega) (by omega) ?_); (rw [m8]); (with_reducible refine i_t (by omega) ?_); (with_reducible refine i_Blk (i_Seq (i_Set (i_I (i_Seq (i_Blk (i_Seq (i_Set (i_I ?_))))))))); simp only [w_set0, w_set1, w_setn0, w_setn1]; rw [w_setT]; simp only [w_set0, w_set1, w_setn0, w_setn1]; rw [w_setT])
    refine w_ForN (z - 1) (fun k ρ M' => (∃ l, ρ = 250 :: ((t : Nat) : Int) :: ((E : Nat) : Int) :: ((bn : Nat) : Int) :: ((bm : Nat) : Int) :: ((i : Nat) : Int) :: zsI (zrk T r S) k :: ((k + 1 : Nat) : Int) :: l) ∧ M' = M8) ⟨⟨_, rfl⟩, rfl⟩ ?_ ?_
    · rintro k ρ M9 X2 hk1 ⟨⟨l, rfl⟩, rfl⟩ hX2
      have g1 : M9 ((261 : Nat) : Int) ((256 * t + 16 * i + (k + 1) - 1 : Nat) : Int) = ((r k : Nat) : Int) := by rw [show 256 * t + 16 * i + (k + 1) - 1 = 256 * t + 16 * i + k by omega]; exact r8 k (by omega)
      have g2 := r8 (k + 1) (by omega)
      have l1 := rl k
      have l2 := rl (k + 1)
      have gT := T8 (r k) (r (k + 1)) l1 l2
      have gS := hS8 (r k) (r (k + 1)) l1 l2
      have hb1 := hbd k
      have hX3 : ∀ (l : zLoc) (x : Int), x = zsI (zrk T r S) k + zrk T r S k → X2 (250 :: ((t : Nat) : Int) :: ((E : Nat) : Int) :: ((bn : Nat) : Int) :: ((bm : Nat) : Int) :: ((i : Nat) : Int) :: x :: ((k + 1 + 1 : Nat) : Int) :: l) M9 := fun l x e => by subst e; exact hX2 _ _ ⟨⟨l, rfl⟩, rfl⟩
      have hw : zrk T r S k = if S (r k) (r (k + 1)) = true then 0 else zsg (T (r k) (r (k + 1))) := rfl
      cases e1 : S (r k) (r (k + 1)) <;> cases e2 : T (r k) (r (k + 1)) <;> rw [e1] at gS hw <;> rw [e2] at gT hw
      all_goals (first | (((with_reducible refine i_turn (i_cI_lt (i_L7 (i_IA (i_FR (i_A0 ?_)))))); (with_reducible refine i_fldR (by assumption) ?_); (with_reducible refine i_Add (i_Mul (i_I (i_L1 (i_L5 ?_))))); rw [zx_cmul (by omega)]; rw [zx_add (by omega)]; (with_reducible refine i_in (by assumption) (by omega) (by omega) ?_); (rw [s8]); (with_reducible refine i_t (by omega) ?_); (with_reducible refine i_Blk (i_Seq (i_Set (i_Add (i_Mul (i_I (i_IA (i_FR (i_A0 ?_))))))))); (with_reducible refine i_fldR (by assumption) ?_); (with_reducible refine i_Sub (i_Add (i_Add (i_Mul (i_I (i_L1 (i_Mul (i_I (i_L5 (i_L7 (i_I ?_))))))))))); rw [zx_cmul (by omega)]; rw [zx_cmul (by omega)]; rw [zx_add (by omega)]; rw [zx_add (by omega)]; rw [zx_subc (by omega) (by omega)]; (with_reducible refine i_in (by assumption) (by omega) (by omega) ?_); (with_reducible refine i_IA (i_FR (i_A0 ?_))); (with_reducible refine i_fldR (by assumption) ?_); (with_reducible refine i_Add (i_Add (i_Mul (i_I (i_L1 (i_Mul (i_I (i_L5 (i_L7 ?_))))))))); (rw [g1]); rw [zx_cmul (by omega)]; rw [zx_cmul (by omega)]; rw [zx_add (by omega)]; rw [zx_add (by omega)]; (with_reducible refine i_in (by assumption) (by omega) (by omega) ?_); (with_reducible refine i_If (i_cNot (i_cZ_ne (i_ZA (i_FR ?_))))); (rw [g2]); rw [zx_cmul (by omega)]; rw [zx_add (by omega)]; simp only [w_set0, w_set1, w_setn0, w_setn1]; (with_reducible refine i_A0 ?_); (with_reducible refine i_fldR (by assumption) ?_); rw [w_setT]; (with_reducible refine i_L8 ?_); (with_reducible refine i_in (by assumption) (by omega) (by omega) ?_); (rw [gS]); rw [zbI_f]; (with_reducible refine i_f (by omega) ?_); (with_reducible refine i_Set (i_Add (i_L6 (i_eIf (i_cZ_ne (i_ZA (i_FR (i_A0 ?_)))))))); (with_reducible refine i_fldR (by assumption) ?_); (with_reducible refine i_L8 ?_); (with_reducible refine i_in (by assumption) (by omega) (by omega) ?_); (rw [gT]); rw [zbI_f]; (with_reducible refine i_f (by omega) ?_); (with_reducible refine i_I (i_up ?_)); rw [zx_s (by omega) (by omega)]; simp only [w_set0, w_set1, w_setn0, w_setn1]; (with_reducible refine i_Inc7 ?_); rw [zx_inc (by omega)]; simp only [w_set0, w_set1, w_setn0, w_setn1])) | (((with_reducible refine i_turn (i_cI_lt (i_L7 (i_IA (i_FR (i_A0 ?_)))))); (with_reducible refine i_fldR (by assumption) ?_); (with_reducible refine i_Add (i_Mul (i_I (i_L1 (i_L5 ?_))))); rw [zx_cmul (by omega)]; rw [zx_add (by omega)]; (with_reducible refine i_in (by assumption) (by omega) (by omega) ?_); (rw [s8]); (with_reducible refine i_t (by omega) ?_); (with_reducible refine i_Blk (i_Seq (i_Set (i_Add (i_Mul (i_I (i_IA (i_FR (i_A0 ?_))))))))); (with_reducible refine i_fldR (by assumption) ?_); (with_reducible refine i_Sub (i_Add (i_Add (i_Mul (i_I (i_L1 (i_Mul (i_I (i_L5 (i_L7 (i_I ?_))))))))))); rw [zx_cmul (by omega)]; rw [zx_cmul (by omega)]; rw [zx_add (by omega)]; rw [zx_add (by omega)]; rw [zx_subc (by omega) (by omega)]; (with_reducible refine i_in (by assumption) (by omega) (by omega) ?_); (with_reducible refine i_IA (i_FR (i_A0 ?_))); (with_reducible refine i_fldR (by assumption) ?_); (with_reducible refine i_Add (i_Add (i_Mul (i_I (i_L1 (i_Mul (i_I (i_L5 (i_L7 ?_))))))))); (rw [g1]); rw [zx_cmul (by omega)]; rw [zx_cmul (by omega)]; rw [zx_add (by omega)]; rw [zx_add (by omega)]; (with_reducible refine i_in (by assumption) (by omega) (by omega) ?_); (with_reducible refine i_If (i_cNot (i_cZ_ne (i_ZA (i_FR ?_))))); (rw [g2]); rw [zx_cmul (by omega)]; rw [zx_add (by omega)]; simp only [w_set0, w_set1, w_setn0, w_setn1]; (with_reducible refine i_A0 ?_); (with_reducible refine i_fldR (by assumption) ?_); rw [w_setT]; (with_reducible refine i_L8 ?_); (with_reducible refine i_in (by assumption) (by omega) (by omega) ?_); (rw [gS]); rw [zbI_f]; (with_reducible refine i_f (by omega) ?_); (with_reducible refine i_Set (i_Add (i_L6 (i_eIf (i_cZ_ne (i_ZA (i_FR (i_A0 ?_)))))))); (with_reducible refine i_fldR (by assumption) ?_); (with_reducible refine i_L8 ?_); (with_reducible refine i_in (by assumption) (by omega) (by omega) ?_); (rw [gT]); rw [zbI_t]; (with_reducible refine i_t (by omega) ?_); (with_reducible refine i_I (i_up ?_)); rw [zx_s (by omega) (by omega)]; simp only [w_set0, w_set1, w_setn0, w_setn1]; (with_reducible refine i_Inc7 ?_); rw [zx_inc (by omega)]; simp only [w_set0, w_set1, w_setn0, w_setn1])) | (((with_reducible refine i_turn (i_cI_lt (i_L7 (i_IA (i_FR (i_A0 ?_)))))); (with_reducible refine i_fldR (by assumption) ?_); (with_reducible refine i_Add (i_Mul (i_I (i_L1 (i_L5 ?_))))); rw [zx_cmul (by omega)]; rw [zx_add (by omega)]; (with_reducible refine i_in (by assumption) (by omega) (by omega) ?_); (rw [s8]); (with_reducible refine i_t (by omega) ?_); (with_reducible refine i_Blk (i_Seq (i_Set (i_Add (i_Mul (i_I (i_IA (i_FR (i_A0 ?_))))))))); (with_reducible refine i_fldR (by assumption) ?_); (with_reducible refine i_Sub (i_Add (i_Add (i_Mul (i_I (i_L1 (i_Mul (i_I (i_L5 (i_L7 (i_I ?_))))))))))); rw [zx_cmul (by omega)]; rw [zx_cmul (by omega)]; rw [zx_add (by omega)]; rw [zx_add (by omega)]; rw [zx_subc (by omega) (by omega)]; (with_reducible refine i_in (by assumption) (by omega) (by omega) ?_); (with_reducible refine i_IA (i_FR (i_A0 ?_))); (with_reducible refine i_fldR (by assumption) ?_); (with_reducible refine i_Add (i_Add (i_Mul (i_I (i_L1 (i_Mul (i_I (i_L5 (i_L7 ?_))))))))); (rw [g1]); rw [zx_cmul (by omega)]; rw [zx_cmul (by omega)]; rw [zx_add (by omega)]; rw [zx_add (by omega)]; (with_reducible refine i_in (by assumption) (by omega) (by omega) ?_); (with_reducible refine i_If (i_cNot (i_cZ_ne (i_ZA (i_FR ?_))))); (rw [g2]); rw [zx_cmul (by omega)]; rw [zx_add (by omega)]; simp only [w_set0, w_set1, w_setn0, w_setn1]; (with_reducible refine i_A0 ?_); (with_reducible refine i_fldR (by assumption) ?_); rw [w_setT]; (with_reducible refine i_L8 ?_); (with_reducible refine i_in (by assumption) (by omega) (by omega) ?_); (rw [gS]); rw [zbI_t]; (with_reducible refine i_t (by omega) ?_); (with_reducible refine i_up (i_Inc7 ?_)); rw [zx_inc (by omega)]; simp only [w_set0, w_set1, w_setn0, w_setn1])))
      · exact hX3 _ _ (by rw [hw]; rfl)
      · exact hX3 _ _ (by rw [hw]; rfl)
      · exact hX3 _ _ (by rw [hw]; show _ = _ + (0 : Int); omega)
      · exact hX3 _ _ (by rw [hw]; show _ = _ + (0 : Int); omega)
    rintro ρ M9 X2 ⟨⟨l, rfl⟩, rfl⟩
    have hb1 := hbd (z - 1)
    have hml := zmulb (e := ((E : Nat) : Int)) (x := zsI (zrk T r S) (z - 1)) (B := 16) (by omega) (by omega) (by omega) (by omega)
    by_cases hc : 2 ≤ z ∧ 0 < ((E : Nat) : Int) * zsI (zrk T r S) (z - 1) - 3 - ((bm : Nat) : Int)
    · rw [decide_eq_true hc] at hcv
      rw [hcv] at hX hHv
      simp only [if_true] at hX
      have hz1 : z - 1 + 1 = z := by omega
      rw [hz1]
      ((with_reducible refine i_turn (i_cI_lt (i_L7 (i_IA (i_FR (i_A0 ?_)))))); (with_reducible refine i_fldR (by assumption) ?_); (with_reducible refine i_Add (i_Mul (i_I (i_L1 (i_L5 ?_))))); rw [zx_cmul (by omega)]; rw [zx_add (by omega)]; (with_reducible refine i_in (by assumption) (by omega) (by omega) ?_); (rw [s8]); (with_reducible refine i_f (by omega) ?_); (with_reducible refine i_Seq (i_IfBrk (i_cOr (i_cI_lt (i_IA (i_FR (i_A0 ?_))))))); (with_reducible refine i_fldR (by assumption) ?_); (with_reducible refine i_Add (i_Mul (i_I (i_L1 (i_L5 ?_))))); rw [zx_cmul (by omega)]; rw [zx_add (by omega)]; (with_reducible refine i_in (by assumption) (by omega) (by omega) ?_); (with_reducible refine i_I ?_); (rw [s8]); (with_reducible refine i_f (by omega) ?_); (with_reducible refine i_cZ_le (i_Sub (i_Sub (i_Mul (i_L2 (i_L6 (i_I (i_L4 ?_)))))))); (rw [zx_3 (by omega) (by omega) (by omega)]); (with_reducible refine i_f (by omega) ?_); (with_reducible refine i_Seq (i_sZA (i_FR (i_A0 ?_)))); (with_reducible refine i_fldR (by assumption) ?_); (with_reducible refine i_Add (i_Mul (i_I (i_L1 (i_L5 (i_I ?_)))))); rw [zx_cmul (by omega)]; rw [zx_add (by omega)]; (with_reducible refine i_zin (Or.inr rfl) (by assumption) (by omega) (by omega) ?_); (with_reducible refine i_Blk (i_Seq (i_Set (i_I ?_)))); simp only [w_set0, w_set1, w_setn0, w_setn1])
      have hH9 : rFlg (zput M9 ((263 : Nat) : Int) (zup (M9 ((263 : Nat) : Int)) ((16 * t + i : Nat) : Int) 1)) 263 t (fun b => decide (b < i + 1) && zrH n m T g b) := (hH8.up (v := true) (i := i) rfl).ext (fun b _ => by
        by_cases e : b = i
        · subst e; simp [hHv]
        · simp only [if_neg e]; exact zdb (by omega))
      have hf9 : ∀ b j, ¬ (b = 263 ∧ ((16 * t : Nat) : Int) ≤ j ∧ j < ((16 * t + 16 : Nat) : Int) ∨ b = 268) → (zput M9 ((263 : Nat) : Int) (zup (M9 ((263 : Nat) : Int)) ((16 * t + i : Nat) : Int) 1)) b j = M7 b j := (by intro b j q; ((rw [zg_o _ _ (by omega)])); first | done | rfl | exact hf b j (by omega))
      have hS9 : rMx (zput M9 ((263 : Nat) : Int) (zup (M9 ((263 : Nat) : Int)) ((16 * t + i : Nat) : Int) 1)) 268 S := hS8.to (fun j => by rw [zg_n _ _ _ (by omega)])
      have s9 : (zput M9 ((263 : Nat) : Int) (zup (M9 ((263 : Nat) : Int)) ((16 * t + i : Nat) : Int) 1)) ((260 : Nat) : Int) ((16 * t + i : Nat) : Int) = ((z : Nat) : Int) := by rw [zg_n _ _ _ (by omega)]; exact s8
      have r9 : ∀ k : Nat, k < z → (zput M9 ((263 : Nat) : Int) (zup (M9 ((263 : Nat) : Int)) ((16 * t + i : Nat) : Int) 1)) ((261 : Nat) : Int) ((256 * t + 16 * i + k : Nat) : Int) = ((r k : Nat) : Int) := fun k hk1 => by rw [zg_n _ _ _ (by omega)]; exact r8 k hk1
      generalize zput M9 ((263 : Nat) : Int) (zup (M9 ((263 : Nat) : Int)) ((16 * t + i : Nat) : Int) 1) = M10 at hH9 hf9 hS9 s9 r9 ⊢
      refine w_ForN (z - 1) (fun k ρ M' => (∃ l x, ρ = 250 :: ((t : Nat) : Int) :: ((E : Nat) : Int) :: ((bn : Nat) : Int) :: ((bm : Nat) : Int) :: ((i : Nat) : Int) :: x :: ((k + 1 : Nat) : Int) :: l) ∧ (∀ b j, ¬ b = ((268 : Nat) : Int) → M' b j = M10 b j) ∧ rMx M' 268 (zchn S r 0 k)) ⟨⟨_, _, rfl⟩, fun _ _ _ => rfl, hS9⟩ ?_ ?_
      · rintro k ρ M11 X3 hk1 ⟨⟨l, x, rfl⟩, hf11, hS11⟩ hX3
        have s11 : M11 ((260 : Nat) : Int) ((16 * t + i : Nat) : Int) = ((z : Nat) : Int) := (hf11 _ _ (by omega)).trans s9
        have g1 : M11 ((261 : Nat) : Int) ((256 * t + 16 * i + (k + 1) - 1 : Nat) : Int) = ((r k : Nat) : Int) := by rw [show 256 * t + 16 * i + (k + 1) - 1 = 256 * t + 16 * i + k by omega]; exact (hf11 _ _ (by omega)).trans (r9 k (by omega))
        have g2 : M11 ((261 : Nat) : Int) ((256 * t + 16 * i + (k + 1) : Nat) : Int) = ((r (k + 1) : Nat) : Int) := (hf11 _ _ (by omega)).trans (r9 (k + 1) (by omega))
        ((with_reducible refine i_turn (i_cI_lt (i_L7 (i_IA (i_FR (i_A0 ?_)))))); (with_reducible refine i_fldR (by assumption) ?_); (with_reducible refine i_Add (i_Mul (i_I (i_L1 (i_L5 ?_))))); rw [zx_cmul (by omega)]; rw [zx_add (by omega)]; (with_reducible refine i_in (by assumption) (by omega) (by omega) ?_); (rw [s11]); (with_reducible refine i_t (by omega) ?_); (with_reducible refine i_sCall (i_as1 (i_A0 (i_as1 (i_IA (i_FR (i_A0 ?_))))))); (with_reducible refine i_fldR (by assumption) ?_); (with_reducible refine i_Sub (i_Add (i_Add (i_Mul (i_I (i_L1 (i_Mul (i_I (i_L5 (i_L7 (i_I ?_))))))))))); rw [zx_cmul (by omega)]; rw [zx_cmul (by omega)]; rw [zx_add (by omega)]; rw [zx_add (by omega)]; rw [zx_subc (by omega) (by omega)]; (with_reducible refine i_in (by assumption) (by omega) (by omega) ?_); (with_reducible refine i_as1 (i_IA (i_FR (i_A0 ?_)))); (with_reducible refine i_fldR (by assumption) ?_); (with_reducible refine i_Add (i_Add (i_Mul (i_I (i_L1 (i_Mul (i_I (i_L5 (i_L7 ?_))))))))); (rw [g1]); rw [zx_cmul (by omega)]; rw [zx_cmul (by omega)]; rw [zx_add (by omega)]; rw [zx_add (by omega)]; (with_reducible refine i_in (by assumption) (by omega) (by omega) ?_); (with_reducible refine i_as0 ?_); (with_reducible refine i_recv0 (by assumption) ?_); (rw [g2]); (refine m_say hO hS (rl k) (rl (k + 1)) hS11 (fun M12 hf12 h12 => ⟨rfl, ?_⟩)); (with_reducible refine i_up (i_Inc7 ?_)); rw [zx_inc (by omega)]; simp only [w_set0, w_set1, w_setn0, w_setn1])
        refine hX3 _ _ ⟨⟨_, _, rfl⟩, fun b j q => (hf12 b j q).trans (hf11 b j q), h12.ext fun p q _ _ => ?_⟩
        rw [zchn_su, Nat.zero_add]
        exact (zmu_chn _ _ _ _ _).symm
      · rintro ρ M11 X3 ⟨⟨l, x, rfl⟩, hf11, hS11⟩
        have s11 : M11 ((260 : Nat) : Int) ((16 * t + i : Nat) : Int) = ((z : Nat) : Int) := (hf11 _ _ (by omega)).trans s9
        ((with_reducible refine i_turn (i_cI_lt (i_L7 (i_IA (i_FR (i_A0 ?_)))))); (with_reducible refine i_fldR (by assumption) ?_); (with_reducible refine i_Add (i_Mul (i_I (i_L1 (i_L5 ?_))))); rw [zx_cmul (by omega)]; rw [zx_add (by omega)]; (with_reducible refine i_in (by assumption) (by omega) (by omega) ?_); (rw [s11]); (with_reducible refine i_f (by omega) ?_); (with_reducible refine i_up (i_Inc5 ?_)); rw [zx_inc (by omega)]; simp only [w_set0, w_set1, w_setn0, w_setn1])
        exact hX _ _ ⟨⟨_, rfl⟩, fun b j q => by rw [hf11 b j (by omega), hf9 b j q], hS11, hH9.to (fun j _ _ => hf11 _ _ (by omega))⟩
    · rw [decide_eq_false hc] at hcv
      rw [hcv] at hX hHv
      simp only [Bool.false_eq_true, if_false] at hX
      have hX3 : ∀ l, X (250 :: ((t : Nat) : Int) :: ((E : Nat) : Int) :: ((bn : Nat) : Int) :: ((bm : Nat) : Int) :: ((i + 1 : Nat) : Int) :: l) M9 := fun l => hX _ _ ⟨⟨l, rfl⟩, hf, hS8, hH8.ext (fun b _ => by
        by_cases e : b = i
        · subst e; rw [hHv]; simp
        · exact zdb (by omega))⟩
      by_cases hz : 1 ≤ z
      · have hz1 : z - 1 + 1 = z := by omega
        rw [hz1]
        (focus ((with_reducible refine i_turn (i_cI_lt (i_L7 (i_IA (i_FR (i_A0 ?_)))))); (with_reducible refine i_fldR (by assumption) ?_); (with_reducible refine i_Add (i_Mul (i_I (i_L1 (i_L5 ?_))))); rw [zx_cmul (by omega)]; rw [zx_add (by omega)]; (with_reducible refine i_in (by assumption) (by omega) (by omega) ?_); (rw [s8]); (with_reducible refine i_f (by omega) ?_); (with_reducible refine i_Seq (i_IfBrk (i_cOr (i_cI_lt (i_IA (i_FR (i_A0 ?_))))))); (with_reducible refine i_fldR (by assumption) ?_); (with_reducible refine i_Add (i_Mul (i_I (i_L1 (i_L5 ?_))))); rw [zx_cmul (by omega)]; rw [zx_add (by omega)]; (with_reducible refine i_in (by assumption) (by omega) (by omega) ?_); (with_reducible refine i_I ?_); (rw [s8]); (with_reducible refine i_br ?_ ?_ <;> intro hc); (focus ((with_reducible refine i_lab1 (i_up (i_Inc5 ?_))); rw [zx_inc (by omega)]; simp only [w_set0, w_set1, w_setn0, w_setn1])); rotate_left; (focus ((with_reducible refine i_cZ_le (i_Sub (i_Sub (i_Mul (i_L2 (i_L6 (i_I (i_L4 ?_)))))))); (rw [zx_3 (by omega) (by omega) (by omega)]); (with_reducible refine i_t (by omega) ?_); (with_reducible refine i_lab1 (i_up (i_Inc5 ?_))); rw [zx_inc (by omega)]; simp only [w_set0, w_set1, w_setn0, w_setn1])); rotate_right))
        all_goals first | exact hX3 _ | (exfalso; omega)
      · have hz1 : z = 0 := by omega
        subst hz1
        (focus ((with_reducible refine i_turn (i_cI_lt (i_L7 (i_IA (i_FR (i_A0 ?_)))))); (with_reducible refine i_fldR (by assumption) ?_); (with_reducible refine i_Add (i_Mul (i_I (i_L1 (i_L5 ?_))))); rw [zx_cmul (by omega)]; rw [zx_add (by omega)]; (with_reducible refine i_in (by assumption) (by omega) (by omega) ?_); (rw [s8]); (with_reducible refine i_f (by omega) ?_); (with_reducible refine i_Seq (i_IfBrk (i_cOr (i_cI_lt (i_IA (i_FR (i_A0 ?_))))))); (with_reducible refine i_fldR (by assumption) ?_); (with_reducible refine i_Add (i_Mul (i_I (i_L1 (i_L5 ?_))))); rw [zx_cmul (by omega)]; rw [zx_add (by omega)]; (with_reducible refine i_in (by assumption) (by omega) (by omega) ?_); (with_reducible refine i_I ?_); (rw [s8]); (with_reducible refine i_t (by omega) ?_); (with_reducible refine i_lab1 (i_up (i_Inc5 ?_))); rw [zx_inc (by omega)]; simp only [w_set0, w_set1, w_setn0, w_setn1]))
        all_goals first | exact hX3 _ | (exfalso; omega)
  rintro ρ M8 X ⟨⟨l, rfl⟩, hf, hS8, hH8⟩
  have n8 : M8 250 ((1 : Nat) : Int) = ((n : Nat) : Int) := (hf _ _ (by omega)).trans n7
  have m8 : M8 ((258 : Nat) : Int) ((t : Nat) : Int) = ((m : Nat) : Int) := (hf _ _ (by omega)).trans m7
  have T8 : rMx M8 267 T := T7.to (fun j => hf _ _ (by omega))
  ((with_reducible refine i_turn (i_cI_lt (i_L5 (i_IA (i_FR (i_A0 ?_)))))); (with_reducible refine i_fldR (by assumption) ?_); (with_reducible refine i_L1 ?_); (with_reducible refine i_in (by assumption) (by omega) (by omega) ?_); (rw [m8]); (with_reducible refine i_f (by omega) ?_); (with_reducible refine i_sCall (i_as1 (i_A0 (i_as1 (i_L1 (i_as0 ?_)))))); (with_reducible refine i_recv0 (by assumption) ?_))
  refine m_exceptsAnew hO hS ht n8 hn2 hS8 T8 (fun M9 hf9 h9 => ⟨rfl, ?_⟩)
  (with_reducible refine i_RetV ?_)
  refine hk M9 (fun b j q => by rw [hf9 b j (by omega), hf b j (by omega), fr7 b j q]) ?_ ?_ ?_ ?_ ?_ ?_ ?_ ?_ h9
  · rw [hf9 _ _ (by omega)]; exact m8
  · intro q hq; rw [hf9 _ _ (by omega), hf _ _ (by omega)]; exact b7 q hq
  · intro b hb; rw [hf9 _ _ (by omega), hf _ _ (by omega)]; exact s7 b hb
  · exact C7.to (fun j _ _ => by rw [hf9 _ _ (by omega), hf _ _ (by omega)])
  · exact D7.to (fun j _ _ => by rw [hf9 _ _ (by omega), hf _ _ (by omega)])
  · exact G7.to (fun j _ _ => by rw [hf9 _ _ (by omega), hf _ _ (by omega)])
  · refine (hH8.to (fun j _ _ => by rw [hf9 _ _ (by omega)])).ext (fun b _ => ?_)
    by_cases e : b < m
    · simp [e]
    · have : zrH n m T g b = false := by unfold zrH; rw [decide_eq_false e]; rfl
      simp [this]
  · intro i k hi hk1
    have := hsz i
    rw [hf9 _ _ (by omega), hf _ _ (by omega)]; exact hr7 i k hi hk1
