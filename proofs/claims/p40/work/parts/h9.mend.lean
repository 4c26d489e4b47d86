/-! ===== mend: both sides ===== -/
theorem zM1_len {n : Nat} (hn : 0 < n) {T : Nat → Nat → Bool} {p : Nat} {x : (Nat → Nat) × Nat} (h : x.2 = zLgt n T x.1) : (zM1 n T p x).2 = zLgt n T (zM1 n T p x).1 := by
  unfold zM1
  split
  · exact h
  · next e => exact ((zMb_ok n T x.1 p x.2 (znb n x.1 p + 1)).2.2 e).2.2.trans (zLn_cg hn _ _).symm
theorem zMr_len {n : Nat} (hn : 0 < n) {T : Nat → Nat → Bool} {x : (Nat → Nat) × Nat} (h : x.2 = zLgt n T x.1) (p : Nat) : (zMr n T x p).2 = zLgt n T (zMr n T x p).1 := by
  induction p with
  | zero => exact h
  | succ p ih => rw [zMr_su]; exact zM1_len hn ih
theorem zMs_len {n : Nat} (hn : 0 < n) {T : Nat → Nat → Bool} {x : (Nat → Nat) × Nat} (h : x.2 = zLgt n T x.1) (k : Nat) : (zMs n T x k).2 = zLgt n T (zMs n T x k).1 := by
  induction k with
  | zero => exact h
  | succ k ih => rw [zMs_su]; exact zMr_len hn ih n
theorem zPt_len {n : Nat} (hn : 0 < n) (T : Nat → Nat → Bool) : (zPt n T).2 = zLgt n T (zPt n T).1 := by
  obtain ⟨f, h1, h2⟩ := zJs_g hn T 16
  refine zMs_len hn ?_ 20001
  rw [h1, h2, zLn_cg hn]
/-- a telling with its excepts anew -/
def zmA (n : Nat) (A : zTl) (T : Nat → Nat → Bool) : zTl := zTv A (zxe (fun p q => tS n A p q ^^ T p q) n)
theorem zxe_1 (X : Nat → Nat → Bool) (n p q : Nat) : zxe X n p q ≤ 1 := by unfold zxe; split <;> omega
theorem zxe_in {X : Nat → Nat → Bool} {n p q : Nat} (h : zxe X n p q ≠ 0) : p < q ∧ q < n ∧ X p q = true := by
  unfold zxe at h
  by_cases e : p < q ∧ q < n ∧ X p q = true
  · exact e
  · rw [if_neg e] at h; exact absurd rfl h
theorem zmA_w {n : Nat} {A : zTl} {T : Nat → Nat → Bool} (hw : zTw n A) : zTw n (zmA n A T) := ⟨hw.1, hw.2.1, hw.2.2.1, fun a b h => by
  have h1 := zxe_in (X := fun p q => tS n A p q ^^ T p q) h
  exact ⟨h1.1, h1.2.1⟩, fun a b => Nat.le_trans (zxe_1 (fun p q => tS n A p q ^^ T p q) n a b) (by omega)⟩
theorem zmA_len {n : Nat} {A : zTl} {T : Nat → Nat → Bool} (hn : n ≤ 16) (hw : zTw n A) : tLen n (zmA n A T) = zPl n (zmA n A T) := by
  rw [tLen_pl hn (zmA_w hw), zsum_z (fun k _ => ?_)]
  · rfl
  · have : tQ n (zmA n A T) k = 0 := zp2_0 fun p q _ _ => by
      have := zxe_1 (fun p q => tS n A p q ^^ T p q) n p q
      unfold tgC
      exact decide_eq_false (fun z => by have h2 : zxe (fun p q => tS n A p q ^^ T p q) n p q = 2 := z.2; omega)
    unfold tlS
    rw [this, if_neg (Nat.lt_irrefl _)]
theorem zTR.corr {M M' : zMem} {x n : Nat} {A : zTl} {T : Nat → Nat → Bool} (hn2 : n ≤ 16) (hw : zTw n A) (hT : zReg n T) (h : zTR M x n A) (hf : ∀ b j, ¬ (((x + 9 : Nat) : Int) ≤ b ∧ b ≤ ((x + 12 : Nat) : Int)) → M' b j = M b j) (g9 : zNR M' (x + 9) n (fun p q => tS n A p q ^^ T p q)) (g11 : zNR M' (x + 11) n (fun _ _ => false)) : zTR M' x n (zmA n A T) := by
  obtain ⟨hP, hr, ⟨hW, hW2⟩, hS, hX, hL⟩ := h
  have hR : zReg n (fun p q => tS n A p q ^^ T p q) := (tS_reg hw).xor hT
  have key : ∀ p q, p < q → (decide (zxe (fun p q => tS n A p q ^^ T p q) n p q ≠ 0)) = (tS n A p q ^^ T p q) := fun p q hpq => by
    cases e : (tS n A p q ^^ T p q)
    · refine decide_eq_false (fun z => ?_)
      have h1 := (zxe_in z).2.2
      try dsimp only at h1
      rw [e] at h1
      cases h1
    · refine decide_eq_true ?_
      have h2 := (hR.lt e).2
      unfold zxe
      try dsimp only
      rw [if_pos ⟨hpq, h2, e⟩]
      omega
  refine ⟨hP.fr (fun b j a1 a2 => hf b j (by omega)), fun b k hb hk => ?_, ⟨hW.to (fun j => hf _ _ (by omega)) (fun j => hf _ _ (by omega)), hW2⟩, hS.to (fun b j a1 a2 => hf b j (by omega)), g9.ext (fun p q _ _ => ?_), g11.ext (fun p q _ _ => ?_)⟩
  · rw [hf _ _ (by omega)]; exact hr b k hb hk
  · show (tS n A p q ^^ T p q) = decide (tvs (zmA n A T) p q ≠ 0)
    unfold tvs
    rcases Nat.lt_trichotomy p q with w | w | w
    · rw [if_pos w]; exact (key p q w).symm
    · subst w
      rw [if_neg (Nat.lt_irrefl _)]
      have h1 := hR.2.1 p
      try dsimp only at h1
      rw [h1]
      refine (decide_eq_false (fun z => ?_)).symm
      have := (zxe_in (X := fun p q => tS n A p q ^^ T p q) z).1
      omega
    · rw [if_neg (by omega)]
      have h1 := hR.1 p q
      try dsimp only at h1
      rw [h1]
      exact (key q p w).symm
  · refine (decide_eq_false (fun z => ?_)).symm
    unfold tvs at z
    have e1 : ∀ a b, tv (zmA n A T) a b ≤ 1 := fun a b => zxe_1 (fun p q => tS n A p q ^^ T p q) n a b
    have e2 := e1 p q
    have e3 := e1 q p
    split at z <;> omega
/-- mended: the telling behind, and the answer -/
def zmd (n : Nat) (A : zTl) (T : Nat → Nat → Bool) : zTl := if (zPt n T).2 < tLen n (zmA n A T) then zRq n T (zPt n T).1 else zmA n A T
def zmn (n : Nat) (A : zTl) (T : Nat → Nat → Bool) : Int := if (zPt n T).2 < tLen n (zmA n A T) then 2 else if zp2 (fun p q => zBd n A p q ^^ T p q) n = 0 then 0 else 1
theorem zmd_w {n : Nat} {A : zTl} {T : Nat → Nat → Bool} (hn : n ≤ 16) (hw : zTw n A) : zTw n (zmd n A T) := by
  unfold zmd
  split
  · exact zRq_w hn
  · exact zmA_w hw
theorem m_mend_bad {O : zOm} (hO : zWld O) (hS : zS O = zmS zC0) {t : Int} {T : Nat} {M : zMem} {K : Option zV → zMem → Prop} (hT : M 250 ((11 : Nat) : Int) = ((T : Nat) : Int)) (ht : ¬ (0 ≤ t ∧ t < ((T : Nat) : Int))) (hk : K (some (0, -1)) M) : zR O F_Model_mend [(2, 250), (0, t)] M K := by
  apply r_Model_mend hO
  unfold B_Model_mend
  have f1 := zMF (k := 1) hS rfl; have f2 := zMF (k := 2) hS rfl; have a251 := zMA (a := 251) (ty := .boolean) (n := 256) hS rfl; have zo := zMO hS
  ((with_reducible refine i_Seq (i_If (i_cNot (i_cZ_ne (i_Call (i_as1 (i_A0 (i_as1 (i_L1 (i_as0 ?_)))))))))); (with_reducible refine i_recv0 (by assumption) ?_); (refine m_isTelling hO hS hT ⟨_, rfl, ?_⟩); (rw [decide_eq_false ht]); rw [zbI_f]; (with_reducible refine i_f (by omega) ?_); (with_reducible refine i_RetI (i_I ?_)))
  exact hk
theorem m_mend {O : zOm} (hO : zWld O) (hS : zS O = zmS zC0) {t T n : Nat} {A : zTl} {N : Nat → Nat → Bool} {M : zMem} {K : Option zV → zMem → Prop} (hT : M 250 ((11 : Nat) : Int) = ((T : Nat) : Int)) (hT5 : T ≤ 5) (ht : t < T) (hn : M 250 ((1 : Nat) : Int) = ((n : Nat) : Int)) (hn1 : 0 < n) (hn2 : n ≤ 16) (hN : rMx M 251 N) (hA : rTe M t n A) (hw : zTw n A)
    (hk : ∀ M', (∀ b j, ¬ ((b = 258 ∧ j = ((t : Nat) : Int) ∨ (b = 259 ∨ b = 260 ∨ b = 262 ∨ b = 263) ∧ ((16 * t : Nat) : Int) ≤ j ∧ j < ((16 * t + 16 : Nat) : Int) ∨ (b = 261 ∨ b = 264 ∨ b = 265 ∨ b = 266) ∧ ((256 * t : Nat) : Int) ≤ j ∧ j < ((256 * t + 256 : Nat) : Int)) ∨ (b = 258 ∧ j = ((5 : Nat) : Int) ∨ (b = 259 ∨ b = 260 ∨ b = 262 ∨ b = 263) ∧ ((16 * 5 : Nat) : Int) ≤ j ∧ j < ((16 * 5 + 16 : Nat) : Int) ∨ (b = 261 ∨ b = 264 ∨ b = 265 ∨ b = 266) ∧ ((256 * 5 : Nat) : Int) ≤ j ∧ j < ((256 * 5 + 256 : Nat) : Int)) ∨ (b = 258 ∧ j = ((6 : Nat) : Int) ∨ (b = 259 ∨ b = 260 ∨ b = 262 ∨ b = 263) ∧ ((16 * 6 : Nat) : Int) ≤ j ∧ j < ((16 * 6 + 16 : Nat) : Int) ∨ (b = 261 ∨ b = 264 ∨ b = 265 ∨ b = 266) ∧ ((256 * 6 : Nat) : Int) ≤ j ∧ j < ((256 * 6 + 256 : Nat) : Int)) ∨ ((267 : Nat) : Int) ≤ b ∧ b ≤ ((272 : Nat) : Int) ∨ ((283 : Nat) : Int) ≤ b ∧ b ≤ ((285 : Nat) : Int)) → M' b j = M b j) → rTe M' t n (zmd n A N) → K (some (0, zmn n A N)) M') : zR O F_Model_mend [(2, 250), (0, ((t : Nat) : Int))] M K := by
  have hb01 : ∀ j : Nat, j < 256 → M ((251 : Nat) : Int) j = 0 ∨ M ((251 : Nat) : Int) j = 1 := fun j hj => hN.b01 hj
  unfold zmd zmn at hk
  apply r_Model_mend hO
  unfold B_Model_mend
  have f1 := zMF (k := 1) hS rfl; have f2 := zMF (k := 2) hS rfl; have a251 := zMA (a := 251) (ty := .boolean) (n := 256) hS rfl; have zo := zMO hS
  ((with_reducible refine i_Seq (i_If (i_cNot (i_cZ_ne (i_Call (i_as1 (i_A0 (i_as1 (i_L1 (i_as0 ?_)))))))))); (with_reducible refine i_recv0 (by assumption) ?_); (refine m_isTelling hO hS hT ⟨_, rfl, ?_⟩); (rw [decide_eq_true (show 0 ≤ ((t : Nat) : Int) ∧ ((t : Nat) : Int) < ((T : Nat) : Int) by omega)]); rw [zbI_t]; (with_reducible refine i_t (by omega) ?_); (with_reducible refine i_Seq (i_sCall (i_as1 (i_A0 (i_as0 ?_))))); (with_reducible refine i_recv0 (by assumption) ?_))
  refine m_aimAtNet hO hS hN hb01 (fun M1 f1' g1 => ⟨rfl, ?_⟩)
  have n1 : M1 250 ((1 : Nat) : Int) = ((n : Nat) : Int) := by rw [f1' _ _ (by omega)]; exact hn
  ((with_reducible refine i_Seq (i_sCall (i_as1 (i_A0 (i_as1 (i_L1 (i_as0 ?_))))))); (with_reducible refine i_recv0 (by assumption) ?_))
  refine m_hearA hO hS (by omega) n1 hn2 (hA.to hn2 hw (fun b j q => f1' b j (by omega))) hw (fun M2 f2' S2 => ⟨rfl, ?_⟩)
  have k2 : ∀ b j, ¬ (b = 267 ∨ b = 268) → M2 b j = M b j := fun b j q => by rw [f2' b j (by omega), f1' b j (by omega)]
  have n2 : M2 250 ((1 : Nat) : Int) = ((n : Nat) : Int) := by rw [k2 _ _ (by omega)]; exact hn
  have hA2 : rTe M2 t n A := hA.to hn2 hw (fun b j q => k2 b j (by omega))
  have hN2 : rMx M2 251 N := hN.to (fun j => k2 _ _ (by omega))
  have g2 : rMx M2 267 N := g1.to (fun j => f2' _ _ (by omega))
  ((with_reducible refine i_Seq (i_Set (i_I (i_Seq (i_Blk (i_Seq (i_Set (i_I ?_)))))))); simp only [w_set0, w_set1, w_setn0, w_setn1])
  refine w_Pairs (n := n) (fun a b => [250, ((t : Nat) : Int), zbI (decide (zop (fun p q => zBd n A p q ^^ N p q) n a b = 0))]) (fun a b M' => M' = M2) (fun _ _ => ⟨_, rfl, rfl⟩) f1 (fun a b M' h => by rw [h]; exact n2) hn2 ⟨_, rfl⟩ rfl (fun a M' _ h => ⟨h, by rw [← zop_row]⟩) (fun a M' _ h => ⟨h, rfl⟩) ?_ ?_
  · rintro a b l M3 Y Z hab hbn rfl hY
    simp only [List.cons_append, List.nil_append] at hY ⊢
    have hU1 := hN2 a b (by omega) (by omega)
    rw [zop_su _ hab] at hY
    ((with_reducible refine i_If (i_cI_ne (i_Call (i_as1 (i_A0 (i_as1 (i_L1 (i_as1 (i_L3 (i_as1 (i_L4 (i_as0 ?_)))))))))))); (with_reducible refine i_recv0 (by assumption) ?_); (refine m_builds hO hS (by omega) hA2 S2 (by omega) (by omega) ⟨_, rfl, ?_⟩); (with_reducible refine i_ZA (i_FR (i_A0 ?_))); (with_reducible refine i_fldR (by assumption) ?_); (with_reducible refine i_Add (i_Mul (i_I (i_L3 (i_L4 ?_))))); rw [zx_cmul (by omega)]; rw [zx_add (by omega)]; (with_reducible refine i_in (by assumption) (by omega) (by omega) ?_))
    generalize zop (fun p q => zBd n A p q ^^ N p q) n a b = z at hY ⊢
    generalize zBd n A a b = v at hY ⊢
    generalize N a b = u at hU1 hY
    cases v <;> cases u
    · (rw [zbI_f]; (rw [hU1]); rw [zbI_f]; (with_reducible refine i_f (by omega) ?_))
      exact hY _ _ rfl
    · have hY2 := fun l => hY l M3 rfl
      rw [decide_eq_false (show ¬ z + (if (false ^^ true) = true then 1 else 0) = 0 by simp)] at hY2
      (rw [zbI_f]; (rw [hU1]); rw [zbI_t]; (with_reducible refine i_t (by omega) ?_); (with_reducible refine i_Set (i_I ?_)); simp only [w_set0, w_set1, w_setn0, w_setn1])
      exact hY2 _
    · have hY2 := fun l => hY l M3 rfl
      rw [decide_eq_false (show ¬ z + (if (true ^^ false) = true then 1 else 0) = 0 by simp)] at hY2
      (rw [zbI_t]; (rw [hU1]); rw [zbI_f]; (with_reducible refine i_t (by omega) ?_); (with_reducible refine i_Set (i_I ?_)); simp only [w_set0, w_set1, w_setn0, w_setn1])
      exact hY2 _
    · (rw [zbI_t]; (rw [hU1]); rw [zbI_t]; (with_reducible refine i_f (by omega) ?_))
      exact hY _ _ rfl
  · rintro l M3 rfl
    simp only [List.cons_append, List.nil_append]
    rw [zop_end]
    ((with_reducible refine i_Seq (i_sCall (i_as1 (i_A0 (i_as1 (i_L1 (i_as0 ?_))))))); (with_reducible refine i_recv0 (by assumption) ?_))
    refine m_exceptsAnew hO hS (by omega) n2 hn2 S2 g2 (fun M4 f4 g4 => ⟨rfl, ?_⟩)
    have n4 : M4 250 ((1 : Nat) : Int) = ((n : Nat) : Int) := by rw [f4 _ _ (by omega)]; exact n2
    have hA4 : rTe M4 t n (zmA n A N) := by
      obtain ⟨⟨h1, h2, h3⟩, ⟨h4, h5, h6, h7⟩, h8, h9⟩ := hA2
      exact ⟨⟨by rw [f4 _ _ (by omega)]; exact h1, fun q hq => by rw [f4 _ _ (by omega)]; exact h2 q hq, fun b hb => by rw [f4 _ _ (by omega)]; exact h3 b hb⟩, ⟨fun b hb => by rw [f4 _ _ (by omega)]; exact h4 b hb, fun a b ha hb => by rw [f4 _ _ (by omega)]; exact h5 a b ha hb, fun a b ha hb => by rw [f4 _ _ (by omega)]; exact h6 a b ha hb, fun b hb => by rw [f4 _ _ (by omega)]; exact h7 b hb⟩, fun i k hi hk => by rw [f4 _ _ (by omega)]; exact h8 i k hi hk, g4⟩
    ((with_reducible refine i_Seq (i_Set (i_Call (i_as1 (i_A0 (i_as1 (i_L1 (i_as0 ?_)))))))); (with_reducible refine i_recv0 (by assumption) ?_); simp only [w_set0, w_set1, w_setn0, w_setn1])
    refine m_lengthOf hO hS (by omega) n4 hn2 hA4 (zmA_w hw) (fun M5 f5 _ _ => ⟨_, rfl, ?_⟩)
    have n5 : M5 250 ((1 : Nat) : Int) = ((n : Nat) : Int) := by rw [f5 _ _ (by omega)]; exact n4
    have hA5 : rTe M5 t n (zmA n A N) := hA4.to hn2 (zmA_w hw) (fun b j q => f5 b j (by omega))
    ((with_reducible refine i_Seq (i_If (i_cI_lt (i_Call (i_as1 (i_A0 (i_as1 (i_I (i_as0 ?_))))))))); (with_reducible refine i_recv0 (by assumption) ?_))
    refine m_part hO hS (t := 5) (by omega) n5 hn1 hn2 (g2.to (fun j => by rw [f5 _ _ (by omega), f4 _ _ (by omega)])) (fun M6 f6 g6 => ⟨_, rfl, ?_⟩)
    have hA6 : rTe M6 t n (zmA n A N) := hA5.to hn2 (zmA_w hw) (fun b j q => f6 b j (by omega))
    have k6 : ∀ b j, ¬ ((b = 258 ∧ j = ((t : Nat) : Int) ∨ (b = 259 ∨ b = 260 ∨ b = 262 ∨ b = 263) ∧ ((16 * t : Nat) : Int) ≤ j ∧ j < ((16 * t + 16 : Nat) : Int) ∨ (b = 261 ∨ b = 264 ∨ b = 265 ∨ b = 266) ∧ ((256 * t : Nat) : Int) ≤ j ∧ j < ((256 * t + 256 : Nat) : Int)) ∨ (b = 258 ∧ j = ((5 : Nat) : Int) ∨ (b = 259 ∨ b = 260 ∨ b = 262 ∨ b = 263) ∧ ((16 * 5 : Nat) : Int) ≤ j ∧ j < ((16 * 5 + 16 : Nat) : Int) ∨ (b = 261 ∨ b = 264 ∨ b = 265 ∨ b = 266) ∧ ((256 * 5 : Nat) : Int) ≤ j ∧ j < ((256 * 5 + 256 : Nat) : Int)) ∨ (b = 258 ∧ j = ((6 : Nat) : Int) ∨ (b = 259 ∨ b = 260 ∨ b = 262 ∨ b = 263) ∧ ((16 * 6 : Nat) : Int) ≤ j ∧ j < ((16 * 6 + 16 : Nat) : Int) ∨ (b = 261 ∨ b = 264 ∨ b = 265 ∨ b = 266) ∧ ((256 * 6 : Nat) : Int) ≤ j ∧ j < ((256 * 6 + 256 : Nat) : Int)) ∨ ((267 : Nat) : Int) ≤ b ∧ b ≤ ((272 : Nat) : Int) ∨ ((283 : Nat) : Int) ≤ b ∧ b ≤ ((285 : Nat) : Int)) → M6 b j = M b j := fun b j q => by rw [f6 b j (by omega), f5 b j (by omega), f4 b j (by omega), k2 b j (by omega)]
    generalize tLen n (zmA n A N) = own at hk ⊢
    generalize (zPt n N).2 = len at hk ⊢
    by_cases e : len < own
    · rw [if_pos e, if_pos e] at hk
      ((with_reducible refine i_L3 ?_); (with_reducible refine i_t (by omega) ?_); (with_reducible refine i_Seq (i_sCall (i_as1 (i_A0 (i_as1 (i_I (i_as1 (i_L1 (i_as0 ?_))))))))); (with_reducible refine i_recv0 (by assumption) ?_))
      refine m_become hO hS (s := 5) (by omega) (by omega) (by omega) hn2 g6 (zRq_w hn2) (fun M7 f7 g7 => ⟨rfl, ?_⟩)
      (with_reducible refine i_RetI (i_I ?_))
      exact hk M7 (fun b j q => by rw [f7 b j (by omega), k6 b j q]) g7
    · rw [if_neg e, if_neg e] at hk
      have h2 := hk M6 k6 hA6
      by_cases w : zp2 (fun p q => zBd n A p q ^^ N p q) n = 0
      · rw [if_pos w] at h2
        rw [decide_eq_true w]
        ((with_reducible refine i_L3 ?_); rw [zbI_t]; (with_reducible refine i_f (by omega) ?_); (with_reducible refine i_RetI (i_eIf (i_cZ_ne (i_L2 ?_)))); (with_reducible refine i_t (by omega) ?_); (with_reducible refine i_I ?_))
        exact h2
      · rw [if_neg w] at h2
        rw [decide_eq_false w]
        ((with_reducible refine i_L3 ?_); rw [zbI_f]; (with_reducible refine i_f (by omega) ?_); (with_reducible refine i_RetI (i_eIf (i_cZ_ne (i_L2 ?_)))); (with_reducible refine i_f (by omega) ?_); (with_reducible refine i_I ?_))
        exact h2
theorem zTeC166 {S : List zSh} (hS : S = zmS zC0) : zTeC S 166 := zTeB.to hS (by decide +kernel)
theorem c_mend_bad {O : zOm} (hO : zWld O) (hS : zS O = zmS zC0) {t : Int} {T : Nat} {M : zMem} {K : Option zV → zMem → Prop} (hT : M ((0 : Nat) : Int) ((4 : Nat) : Int) = ((T : Nat) : Int)) (hT5 : T ≤ 5) (ht : ¬ (0 ≤ t ∧ t < ((T : Nat) : Int))) (hk : K (some (0, -1)) M) : zR O F_ToldNet_mend [(2, ((0 : Nat) : Int)), (0, t)] M K := by
  apply r_ToldNet_mend hO
  unfold B_ToldNet_mend
  have f0_0 := zf_0_0 hS; have f0_13 := zf_0_13 hS; have f0_7 := zf_0_7 hS; have f0_11 := zf_0_11 hS; have f0_6 := zf_0_6 hS; have z0 := zo_0 hS; have z1 := zo_1 hS; have z108 := zo_108 hS
  ((with_reducible refine i_Seq (i_Set (i_Call (i_as1 (i_A0 (i_as1 (i_L1 (i_as0 ?_)))))))); (with_reducible refine i_recv0 (by assumption) ?_); simp only [w_set0, w_set1, w_setn0, w_setn1])
  refine c_find hO hS hT hT5 (fun hx => ⟨_, rfl, ?_⟩) (fun k e hk1 => absurd (show 0 ≤ t ∧ t < ((T : Nat) : Int) by omega) ht)
  ((with_reducible refine i_Seq (i_If (i_cN (i_A2 ?_)))); simp only [w_set0, w_set1, w_setn0, w_setn1]; (with_reducible refine i_t trivial ?_); (with_reducible refine i_RetI (i_I ?_)))
  exact hk
theorem c_mend {O : zOm} (hO : zWld O) (hS : zS O = zmS zC0) {t T n td c : Nat} {A : zTl} {N : Nat → Nat → Nat → Bool} {M : zMem} {K : Option zV → zMem → Prop} (hT : M ((0 : Nat) : Int) ((4 : Nat) : Int) = ((T : Nat) : Int)) (hT5 : T ≤ 5) (ht : t < T) (hD : cDy M n td c N) (htd : td < 41) (hR : zReg n (N td)) (hn1 : 0 < n) (hn2 : n ≤ 16) (hA : zTR M (185 + 13 * t) n A) (hw : zTw n A)
    (hk : ∀ M', (∀ b j, ¬ (((106 : Nat) : Int) ≤ b ∧ b ≤ ((131 : Nat) : Int) ∨ ((166 : Nat) : Int) ≤ b ∧ b ≤ ((178 : Nat) : Int) ∨ ((183 : Nat) : Int) ≤ b ∧ b ≤ ((184 : Nat) : Int) ∨ ((185 + 13 * t : Nat) : Int) ≤ b ∧ b ≤ ((197 + 13 * t : Nat) : Int)) → M' b j = M b j) → zTR M' (185 + 13 * t) n (zmd n A (N td)) → K (some (0, zmn n A (N td))) M') : zR O F_ToldNet_mend [(2, ((0 : Nat) : Int)), (0, ((t : Nat) : Int))] M K := by
  obtain ⟨d1, d2, d3, d4⟩ := hD
  have hxT := zTelT hS (show t < 5 by omega)
  obtain ⟨⟨x0, x1, x2, x3, x4, x5, x6, x7⟩, -, -, -⟩ := id hxT
  have hd := zTeC166 hS
  have e0 : zFld (zS O) ((166 : Nat) : Int) 4 0 = some (some (some 167)) := hd.1.2.1
  have hs := zNet183 hS
  have hs4 := hs.2.2.2
  have hy := zNetD hS (d := td) htd
  have hyN := d4 td (Nat.le_refl _)
  have o106 := zo_106 hS
  have o108 := zo_108 hS
  have o1 := zo_1 hS
  have hdp : zPar (zS O) 167 := hd.2.2.1
  have hzl := zPt_len hn1 (N td)
  unfold zmd zmn at hk
  rw [zmA_len hn2 hw] at hk
  have hb1 := zPl_le (A := zmA n A (N td)) hn2 (zmA_w hw).1.1
  have hb2 := zLn_le (T := N td) (f := (zPt n (N td)).1) hn2
  rw [← hzl] at hb2
  apply r_ToldNet_mend hO
  unfold B_ToldNet_mend
  have f0_0 := zf_0_0 hS; have f0_13 := zf_0_13 hS; have f0_7 := zf_0_7 hS; have f0_11 := zf_0_11 hS; have f0_6 := zf_0_6 hS; have z0 := zo_0 hS; have z1 := zo_1 hS; have z108 := zo_108 hS
  ((with_reducible refine i_Seq (i_Set (i_Call (i_as1 (i_A0 (i_as1 (i_L1 (i_as0 ?_)))))))); (with_reducible refine i_recv0 (by assumption) ?_); simp only [w_set0, w_set1, w_setn0, w_setn1])
  refine c_find hO hS hT hT5 (fun hx => absurd (show 0 ≤ ((t : Nat) : Int) ∧ ((t : Nat) : Int) < ((T : Nat) : Int) by omega) hx) (fun k e hk1 => ⟨_, rfl, ?_⟩)
  rw [show k = t by omega]
  ((with_reducible refine i_Seq (i_If (i_cN (i_A2 ?_)))); (with_reducible refine i_f (by omega) ?_); (with_reducible refine i_Seq (i_Set (i_Call (i_as1 (i_FR (i_A0 ?_)))))); (with_reducible refine i_fldR (by assumption) ?_); (with_reducible refine i_as0 ?_); (with_reducible refine i_recv0 (by assumption) ?_); (refine c_now hO hS d2 htd ⟨_, rfl, ?_⟩); (with_reducible refine i_Seq (i_sCall (i_as1 ?_))); simp only [w_set0, w_set1, w_setn0, w_setn1]; (with_reducible refine i_A2 (i_as1 (i_FR (i_A0 ?_)))); (with_reducible refine i_fldR (by assumption) ?_); (with_reducible refine i_as0 ?_); (with_reducible refine i_recv0 (by assumption) ?_))
  refine c_build hO hxT hs hA (fun M1 f1 g1 => ⟨rfl, ?_⟩)
  ((with_reducible refine i_Seq (i_sCall (i_as1 (i_FR (i_A0 ?_))))); (with_reducible refine i_fldR (by assumption) ?_); (with_reducible refine i_as1 (i_FR (i_A0 ?_))); (with_reducible refine i_fldR (by assumption) ?_); (with_reducible refine i_as1 (i_A3 (i_as0 ?_))); (with_reducible refine i_recv0 (by assumption) ?_))
  refine s_Net_differ hO hs hs hy g1 (hyN.to (fun b j a1 a2 => f1 b j (by omega))) (fun M2 f2 g2 => ⟨rfl, ?_⟩)
  have k2 : ∀ b j, ¬ (((183 : Nat) : Int) ≤ b ∧ b ≤ ((184 : Nat) : Int)) → M2 b j = M b j := fun b j q => by rw [f2 b (by simp <;> omega), f1 b j (by omega)]
  have hA2 : zTR M2 (185 + 13 * t) n A := hA.to (fun b j a1 a2 => k2 b j (by omega))
  ((with_reducible refine i_Seq (i_Set (i_Call (i_as1 (i_FR (i_A0 ?_)))))); (with_reducible refine i_fldR (by assumption) ?_); (with_reducible refine i_as0 ?_); (with_reducible refine i_recv0 (by assumption) ?_); simp only [w_set0, w_set1, w_setn0, w_setn1])
  refine s_Net_pairs hO hs g2 hn2 ⟨_, rfl, ?_⟩
  rw [zpairs_p2 ((zBd_reg hw).xor hR) hn2]
  ((with_reducible refine i_Seq (i_sCall (i_as1 (i_A2 (i_as1 (i_A3 (i_as0 ?_))))))); (with_reducible refine i_recv0 (by assumption) ?_))
  refine c_correct hO hxT hy (by omega) hA2.1.1 hA2.2.2.2.1 (hyN.to (fun b j a1 a2 => k2 b j (by omega))) (fun M3 f3 g3 g3' => ⟨rfl, ?_⟩)
  have hA3 := hA2.corr hn2 hw hR f3 g3 g3'
  have k3 : ∀ b j, ¬ (((183 : Nat) : Int) ≤ b ∧ b ≤ ((184 : Nat) : Int) ∨ ((185 + 13 * t : Nat) : Int) ≤ b ∧ b ≤ ((197 + 13 * t : Nat) : Int)) → M3 b j = M b j := fun b j q => by rw [f3 b j (by omega), k2 b j (by omega)]
  ((with_reducible refine i_Seq (i_sCall (i_as1 (i_FR (i_A0 ?_))))); (with_reducible refine i_fldR (by assumption) ?_); (with_reducible refine i_as1 (i_A3 (i_as1 (i_FR (i_FR (i_A0 ?_)))))); (with_reducible refine i_fldR (by assumption) ?_); (with_reducible refine i_fldR (by assumption) ?_); (with_reducible refine i_as0 ?_); (with_reducible refine i_recv0 (by assumption) ?_))
  refine c_partByRule hO hS hy (by omega) hdp (by omega) (hyN.to (fun b j a1 a2 => k3 b j (by omega))) hR hn1 hn2 (fun M4 f4 g4 => ⟨rfl, ?_⟩)
  ((with_reducible refine i_Seq (i_If (i_cI_lt (i_Call (i_as1 (i_FR (i_A0 ?_))))))); (with_reducible refine i_fldR (by assumption) ?_); (with_reducible refine i_as1 (i_A3 (i_as1 (i_FR (i_A0 ?_))))); (with_reducible refine i_fldR (by assumption) ?_); (with_reducible refine i_as0 ?_); (with_reducible refine i_recv0 (by assumption) ?_))
  refine c_tellA hO (zRl_106 hS) hd hy (by omega) (by omega) (by omega) (hyN.to (fun b j a1 a2 => by rw [f4 b j (by omega), k3 b j (by omega)])) hR g4 hn2 (fun M5 f5 g5 => ⟨_, rfl, ?_⟩)
  have hA5 : zTR M5 (185 + 13 * t) n (zmA n A (N td)) := hA3.to (fun b j a1 a2 => by rw [f5 b j (by omega), f4 b j (by omega)])
  have k5 : ∀ b j, ¬ (((106 : Nat) : Int) ≤ b ∧ b ≤ ((131 : Nat) : Int) ∨ ((166 : Nat) : Int) ≤ b ∧ b ≤ ((178 : Nat) : Int) ∨ ((183 : Nat) : Int) ≤ b ∧ b ≤ ((184 : Nat) : Int) ∨ ((185 + 13 * t : Nat) : Int) ≤ b ∧ b ≤ ((197 + 13 * t : Nat) : Int)) → M5 b j = M b j := fun b j q => by rw [f5 b j (by omega), f4 b j (by omega), k3 b j (by omega)]
  rw [← hzl]
  ((with_reducible refine i_Call (i_as1 (i_A2 (i_as0 ?_)))); (with_reducible refine i_recv0 (by assumption) ?_))
  refine c_plainLength hO hxT hA5 hn2 (zmA_w hw).1.1 (zmA_w hw).2.2.2.1 (zmA_w hw).2.2.2.2 ⟨_, rfl, ?_⟩
  generalize zPl n (zmA n A (N td)) = own at hk hb1 ⊢
  generalize (zPt n (N td)).2 = len at hk hb2 ⊢
  by_cases e2 : len < own
  · rw [if_pos e2, if_pos e2] at hk
    ((with_reducible refine i_t (by omega) ?_); (with_reducible refine i_Seq (i_sCall (i_as1 (i_A2 (i_as1 (i_FR (i_A0 ?_))))))); (with_reducible refine i_fldR (by assumption) ?_); (with_reducible refine i_as0 ?_); (with_reducible refine i_recv0 (by assumption) ?_))
    refine c_tbecome hO hxT hd (by omega) hn2 g5 (zRq_w hn2) (fun M6 f6 g6 => ⟨rfl, ?_⟩)
    (with_reducible refine i_RetI (i_I ?_))
    exact hk M6 (fun b j q => by rw [f6 b j (by omega), k5 b j q]) g6
  · rw [if_neg e2, if_neg e2] at hk
    have h2 := hk M5 k5 hA5
    generalize zp2 (fun p q => zBd n A p q ^^ N td p q) n = u at h2 ⊢
    by_cases w : u = 0
    · rw [if_pos w] at h2
      ((with_reducible refine i_f (by omega) ?_); (with_reducible refine i_RetI (i_eIf (i_cZ_eq (i_L4 ?_)))); (with_reducible refine i_t (by omega) ?_); (with_reducible refine i_I ?_))
      exact h2
    · rw [if_neg w] at h2
      ((with_reducible refine i_f (by omega) ?_); (with_reducible refine i_RetI (i_eIf (i_cZ_eq (i_L4 ?_)))); (with_reducible refine i_f (by omega) ?_); (with_reducible refine i_I ?_))
      exact h2
