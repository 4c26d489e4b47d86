/-! ===== sorts and length: the reference ===== -/
def tgR (n : Nat) (A : zTl) (k p q : Nat) : Bool := decide (zso (tf A) p q (tS n A p q) = k ∧ tv A p q ≠ 1)
def tgC (n : Nat) (A : zTl) (k p q : Nat) : Bool := decide (zso (tf A) p q (tS n A p q) = k ∧ tv A p q = 2)
/-- R and C of a sort -/
def tR (n : Nat) (A : zTl) (k : Nat) : Nat := zp2 (tgR n A k) n
def tQ (n : Nat) (A : zTl) (k : Nat) : Nat := zp2 (tgC n A k) n
theorem zTw.f16 {n : Nat} {A : zTl} (hw : zTw n A) : ∀ q : Nat, q < n → tf A q < 16 := fun q hq => by
  have := (hw.1.2.2 q hq).1
  have := hw.1.1
  omega
theorem m_sorts {O : zOm} (hO : zWld O) (hS : zS O = zmS zC0) {t n : Nat} {A : zTl} {M : zMem} {K : Option zV → zMem → Prop} (ht : t < 7) (hn : M 250 ((1 : Nat) : Int) = ((n : Nat) : Int)) (hn2 : n ≤ 16) (hA : rTe M t n A) (hw : zTw n A) (hk : ∀ M', (∀ b j, ¬ (b = 268 ∨ b = 269 ∨ b = 270) → M' b j = M b j) → rMx M' 268 (tS n A) → (∀ k : Nat, k < 512 → M' ((269 : Nat) : Int) ((k : Nat) : Int) = ((tR n A k : Nat) : Int) ∧ M' ((270 : Nat) : Int) ((k : Nat) : Int) = ((tQ n A k : Nat) : Int)) → K none M') : zR O F_Model_sorts [(2, 250), (0, ((t : Nat) : Int))] M K := by
  have hA0 := hA
  obtain ⟨⟨h1, h2, h3⟩, ⟨h4, h5, h6, h7⟩, h8, h9⟩ := hA
  apply r_Model_sorts hO
  unfold B_Model_sorts
  have f23 := zMF (k := 23) hS rfl; have a269 := zMA (a := 269) (ty := .int) (n := 512) hS rfl; have f24 := zMF (k := 24) hS rfl; have a270 := zMA (a := 270) (ty := .int) (n := 512) hS rfl; have f1 := zMF (k := 1) hS rfl; have f22 := zMF (k := 22) hS rfl; have a268 := zMA (a := 268) (ty := .boolean) (n := 256) hS rfl; have f20 := zMF (k := 20) hS rfl; have a266 := zMA (a := 266) (ty := .int) (n := 1792) hS rfl; have zo := zMO hS
  ((with_reducible refine i_Seq (i_Seq (i_sCall (i_as1 (i_A0 (i_as1 (i_L1 (i_as0 ?_)))))))); (with_reducible refine i_recv0 (by assumption) ?_))
  refine m_hearA hO hS ht hn hn2 hA0 hw (fun M1 hf1 hS1 => ⟨rfl, ?_⟩)
  ((with_reducible refine i_Seq (i_Blk (i_Seq (i_Set (i_I ?_))))); simp only [w_set0, w_set1, w_setn0, w_setn1])
  refine w_ForN 512 (fun k ρ M' => ρ = [250, ((t : Nat) : Int), ((k : Nat) : Int)] ∧ (∀ b j, ¬ (b = 268 ∨ b = 269 ∨ b = 270) → M' b j = M b j) ∧ rMx M' 268 (tS n A) ∧ ∀ j : Nat, j < k → M' ((269 : Nat) : Int) ((j : Nat) : Int) = 0 ∧ M' ((270 : Nat) : Int) ((j : Nat) : Int) = 0) ⟨rfl, fun b j q => hf1 b j (by omega), hS1, fun j hj => absurd hj (by omega)⟩ ?_ ?_
  · rintro k ρ M9 X hk1 ⟨rfl, hf, hS9, h⟩ hX
    ((with_reducible refine i_turn (i_cI_lt (i_L2 (i_I ?_)))); (with_reducible refine i_t (by omega) ?_); (with_reducible refine i_Seq (i_sIA (i_FR (i_A0 ?_)))); (with_reducible refine i_fldR (by assumption) ?_); (with_reducible refine i_L2 (i_I ?_)); (with_reducible refine i_in (by assumption) (by omega) (by omega) ?_); (with_reducible refine i_sIA (i_FR (i_A0 ?_))); (with_reducible refine i_fldR (by assumption) ?_); (with_reducible refine i_L2 (i_I ?_)); (with_reducible refine i_in (by assumption) (by omega) (by omega) ?_); (with_reducible refine i_up (i_Inc2 ?_)); rw [zx_inc (by omega)]; simp only [w_set0, w_set1, w_setn0, w_setn1])
    refine hX _ _ ⟨rfl, (by intro b j q; ((rw [zg_n _ _ _ (by omega)]; rw [zg_n _ _ _ (by omega)])); first | done | rfl | exact hf b j (by omega)), hS9.to (fun j => by rw [zg_n _ _ _ (by omega), zg_n _ _ _ (by omega)]), fun j hj => ?_⟩
    by_cases e : j = k
    · subst e
      exact ⟨by (rw [zg_n _ _ _ (by omega)]; rw [zg_s]), by (rw [zg_s])⟩
    · obtain ⟨e1, e2⟩ := h j (by omega)
      refine ⟨?_, ?_⟩
      · (rw [zg_n _ _ _ (by omega)]; rw [zg_m _ _ _ _ _ (by omega)])
        exact e1
      · (rw [zg_m _ _ _ _ _ (by omega)]; rw [zg_n _ _ _ (by omega)])
        exact e2
  rintro ρ M2 X ⟨rfl, hf2, hS2, hz2⟩
  ((with_reducible refine i_turn (i_cI_lt (i_L2 (i_I ?_)))); (with_reducible refine i_f (by omega) ?_); (with_reducible refine i_Blk (i_Seq (i_Set (i_I ?_)))); simp only [w_set0, w_set1, w_setn0, w_setn1])
  refine w_Pairs (n := n) (fun _ _ => [250, ((t : Nat) : Int)]) (fun a b M' => (∀ b j, ¬ (b = 268 ∨ b = 269 ∨ b = 270) → M' b j = M b j) ∧ rMx M' 268 (tS n A) ∧ ∀ k : Nat, k < 512 → M' ((269 : Nat) : Int) ((k : Nat) : Int) = ((zop (tgR n A k) n a b : Nat) : Int) ∧ M' ((270 : Nat) : Int) ((k : Nat) : Int) = ((zop (tgC n A k) n a b : Nat) : Int)) (fun _ _ => ⟨[((t : Nat) : Int)], rfl, rfl⟩) f1 (fun a b M' h => (h.1 _ _ (by omega)).trans hn) hn2 ⟨_, rfl⟩ ⟨hf2, hS2, fun k hk1 => ⟨(hz2 k hk1).1, (hz2 k hk1).2⟩⟩ (fun a M' _ h => ⟨⟨h.1, h.2.1, fun k hk1 => by rw [← zop_row, ← zop_row]; exact h.2.2 k hk1⟩, rfl⟩) (fun a M' _ h => ⟨⟨h.1, h.2.1, fun k hk1 => h.2.2 k hk1⟩, rfl⟩) ?_ ?_
  · rintro a b l M3 Y Z hab hbn ⟨hf, hS3, h⟩ hY
    simp only [List.cons_append, List.nil_append] at hY ⊢
    have gS : M3 ((268 : Nat) : Int) ((16 * a + b : Nat) : Int) = zbI (tS n A a b) := hS3 a b (by omega) (by omega)
    have gv : M3 ((266 : Nat) : Int) ((256 * t + 16 * a + b : Nat) : Int) = ((tv A a b : Nat) : Int) := (hf _ _ (by omega)).trans (h9 a b (by omega) (by omega))
    have gb : rBox M3 t n (tf A) := fun q hq => by rw [hf _ _ (by omega)]; exact h2 q hq
    have hlt := zso_lt (s := tS n A a b) (hw.f16 a (by omega)) (hw.f16 b hbn)
    have hR : ∀ k, zop (tgR n A k) n a (b + 1) = zop (tgR n A k) n a b + (if zso (tf A) a b (tS n A a b) = k ∧ tv A a b ≠ 1 then 1 else 0) := fun k => by rw [zop_su _ hab]; unfold tgR; simp only [decide_eq_true_eq]
    have hC : ∀ k, zop (tgC n A k) n a (b + 1) = zop (tgC n A k) n a b + (if zso (tf A) a b (tS n A a b) = k ∧ tv A a b = 2 then 1 else 0) := fun k => by rw [zop_su _ hab]; unfold tgC; simp only [decide_eq_true_eq]
    generalize hke : zso (tf A) a b (tS n A a b) = k0 at hlt hR hC
    obtain ⟨q1, q2⟩ := h k0 hlt
    have b1 := zop_le (tgR n A k0) hn2 (a := a) (b := b) (by omega) (by omega)
    have b2 := zop_le (tgC n A k0) hn2 (a := a) (b := b) (by omega) (by omega)
    have hv := hw.2.2.2.2 a b
    rcases (show tv A a b = 0 ∨ tv A a b = 1 ∨ tv A a b = 2 by omega) with e | e | e <;> rw [e] at gv hR hC
    · ((with_reducible refine i_Blk (i_Seq (i_Set (i_Call (i_as1 (i_A0 (i_as1 (i_L1 (i_as1 (i_L2 (i_as1 (i_L3 (i_as1 (i_ZA (i_FR (i_A0 ?_)))))))))))))))); (with_reducible refine i_fldR (by assumption) ?_); (with_reducible refine i_Add (i_Mul (i_I (i_L2 (i_L3 ?_))))); rw [zx_cmul (by omega)]; rw [zx_add (by omega)]; (with_reducible refine i_in (by assumption) (by omega) (by omega) ?_); (with_reducible refine i_as0 ?_); (with_reducible refine i_recv0 (by assumption) ?_); (rw [gS]); (refine m_sortOf hO hS ht hn2 gb hw.f16 (by omega) hbn ⟨_, rfl, ?_⟩); (with_reducible refine i_Seq (i_If (i_cI_ne (i_IA (i_FR ?_))))); (rw [hke]); simp only [w_set0, w_set1, w_setn0, w_setn1]; (with_reducible refine i_A0 ?_); (with_reducible refine i_fldR (by assumption) ?_); (with_reducible refine i_Add (i_Add (i_Mul (i_I (i_L1 (i_Mul (i_I (i_L2 (i_L3 ?_))))))))); rw [zx_cmul (by omega)]; rw [zx_cmul (by omega)]; rw [zx_add (by omega)]; rw [zx_add (by omega)]; (with_reducible refine i_in (by assumption) (by omega) (by omega) ?_); (with_reducible refine i_I ?_); (rw [gv]); rw [w_setT]; (with_reducible refine i_t (by omega) ?_); (with_reducible refine i_IO (i_FR (i_A0 ?_))); (with_reducible refine i_fldR (by assumption) ?_); (with_reducible refine i_L4 ?_); (with_reducible refine i_in (by assumption) (by omega) (by omega) ?_); (with_reducible refine i_I (i_If (i_cI_eq (i_IA (i_FR (i_A0 ?_)))))); (with_reducible refine i_fldR (by assumption) ?_); (with_reducible refine i_Add (i_Add (i_Mul (i_I (i_L1 (i_Mul (i_I (i_L2 (i_L3 ?_))))))))); rw [zg_n _ _ _ (by omega)]; (rw [q1]); rw [zx_inc (by omega)]; rw [zx_cmul (by omega)]; rw [zx_cmul (by omega)]; rw [zx_add (by omega)]; rw [zx_add (by omega)]; (with_reducible refine i_in (by assumption) (by omega) (by omega) ?_); (with_reducible refine i_I ?_); (rw [gv]); (with_reducible refine i_f (by omega) ?_))
      refine hY _ _ ⟨(by intro b j q; ((rw [zg_n _ _ _ (by omega)])); first | done | rfl | exact hf b j (by omega)), hS3.to (fun j => by rw [zg_n _ _ _ (by omega)]), fun k hk1 => ?_⟩
      rw [hR, hC]
      by_cases w : k0 = k
      · subst w
        exact ⟨by rw [zg_s]; simp, by rw [zg_n _ _ _ (by omega), q2]; simp⟩
      · exact ⟨by rw [zg_m _ _ _ _ _ (by omega), (h k hk1).1]; simp [w], by rw [zg_n _ _ _ (by omega), (h k hk1).2]; simp⟩
    · ((with_reducible refine i_Blk (i_Seq (i_Set (i_Call (i_as1 (i_A0 (i_as1 (i_L1 (i_as1 (i_L2 (i_as1 (i_L3 (i_as1 (i_ZA (i_FR (i_A0 ?_)))))))))))))))); (with_reducible refine i_fldR (by assumption) ?_); (with_reducible refine i_Add (i_Mul (i_I (i_L2 (i_L3 ?_))))); rw [zx_cmul (by omega)]; rw [zx_add (by omega)]; (with_reducible refine i_in (by assumption) (by omega) (by omega) ?_); (with_reducible refine i_as0 ?_); (with_reducible refine i_recv0 (by assumption) ?_); (rw [gS]); (refine m_sortOf hO hS ht hn2 gb hw.f16 (by omega) hbn ⟨_, rfl, ?_⟩); (with_reducible refine i_Seq (i_If (i_cI_ne (i_IA (i_FR ?_))))); (rw [hke]); simp only [w_set0, w_set1, w_setn0, w_setn1]; (with_reducible refine i_A0 ?_); (with_reducible refine i_fldR (by assumption) ?_); (with_reducible refine i_Add (i_Add (i_Mul (i_I (i_L1 (i_Mul (i_I (i_L2 (i_L3 ?_))))))))); rw [zx_cmul (by omega)]; rw [zx_cmul (by omega)]; rw [zx_add (by omega)]; rw [zx_add (by omega)]; (with_reducible refine i_in (by assumption) (by omega) (by omega) ?_); (with_reducible refine i_I ?_); (rw [gv]); rw [w_setT]; (with_reducible refine i_f (by omega) ?_); (with_reducible refine i_If (i_cI_eq (i_IA (i_FR (i_A0 ?_))))); (with_reducible refine i_fldR (by assumption) ?_); (with_reducible refine i_Add (i_Add (i_Mul (i_I (i_L1 (i_Mul (i_I (i_L2 (i_L3 ?_))))))))); rw [zx_cmul (by omega)]; rw [zx_cmul (by omega)]; rw [zx_add (by omega)]; rw [zx_add (by omega)]; (with_reducible refine i_in (by assumption) (by omega) (by omega) ?_); (with_reducible refine i_I ?_); (rw [gv]); (with_reducible refine i_f (by omega) ?_))
      refine hY _ _ ⟨hf, hS3, fun k hk1 => ?_⟩
      rw [hR, hC]
      simpa using h k hk1
    · ((with_reducible refine i_Blk (i_Seq (i_Set (i_Call (i_as1 (i_A0 (i_as1 (i_L1 (i_as1 (i_L2 (i_as1 (i_L3 (i_as1 (i_ZA (i_FR (i_A0 ?_)))))))))))))))); (with_reducible refine i_fldR (by assumption) ?_); (with_reducible refine i_Add (i_Mul (i_I (i_L2 (i_L3 ?_))))); rw [zx_cmul (by omega)]; rw [zx_add (by omega)]; (with_reducible refine i_in (by assumption) (by omega) (by omega) ?_); (with_reducible refine i_as0 ?_); (with_reducible refine i_recv0 (by assumption) ?_); (rw [gS]); (refine m_sortOf hO hS ht hn2 gb hw.f16 (by omega) hbn ⟨_, rfl, ?_⟩); (with_reducible refine i_Seq (i_If (i_cI_ne (i_IA (i_FR ?_))))); (rw [hke]); simp only [w_set0, w_set1, w_setn0, w_setn1]; (with_reducible refine i_A0 ?_); (with_reducible refine i_fldR (by assumption) ?_); (with_reducible refine i_Add (i_Add (i_Mul (i_I (i_L1 (i_Mul (i_I (i_L2 (i_L3 ?_))))))))); rw [zx_cmul (by omega)]; rw [zx_cmul (by omega)]; rw [zx_add (by omega)]; rw [zx_add (by omega)]; (with_reducible refine i_in (by assumption) (by omega) (by omega) ?_); (with_reducible refine i_I ?_); (rw [gv]); rw [w_setT]; (with_reducible refine i_t (by omega) ?_); (with_reducible refine i_IO (i_FR (i_A0 ?_))); (with_reducible refine i_fldR (by assumption) ?_); (with_reducible refine i_L4 ?_); (with_reducible refine i_in (by assumption) (by omega) (by omega) ?_); (with_reducible refine i_I (i_If (i_cI_eq (i_IA (i_FR (i_A0 ?_)))))); (with_reducible refine i_fldR (by assumption) ?_); (with_reducible refine i_Add (i_Add (i_Mul (i_I (i_L1 (i_Mul (i_I (i_L2 (i_L3 ?_))))))))); rw [zg_n _ _ _ (by omega)]; (rw [q1]); rw [zx_inc (by omega)]; rw [zx_cmul (by omega)]; rw [zx_cmul (by omega)]; rw [zx_add (by omega)]; rw [zx_add (by omega)]; (with_reducible refine i_in (by assumption) (by omega) (by omega) ?_); (with_reducible refine i_I ?_); (rw [gv]); (with_reducible refine i_t (by omega) ?_); (with_reducible refine i_IO (i_FR (i_A0 ?_))); (with_reducible refine i_fldR (by assumption) ?_); (with_reducible refine i_L4 ?_); (with_reducible refine i_in (by assumption) (by omega) (by omega) ?_); (with_reducible refine i_I ?_); rw [zg_n _ _ _ (by omega)]; (rw [q2]); rw [zx_inc (by omega)])
      refine hY _ _ ⟨(by intro b j q; ((rw [zg_n _ _ _ (by omega)]; rw [zg_n _ _ _ (by omega)])); first | done | rfl | exact hf b j (by omega)), hS3.to (fun j => by rw [zg_n _ _ _ (by omega), zg_n _ _ _ (by omega)]), fun k hk1 => ?_⟩
      rw [hR, hC]
      by_cases w : k0 = k
      · subst w
        exact ⟨by rw [zg_n _ _ _ (by omega), zg_s]; simp, by rw [zg_s]; simp⟩
      · exact ⟨by rw [zg_n _ _ _ (by omega), zg_m _ _ _ _ _ (by omega), (h k hk1).1]; simp [w], by rw [zg_m _ _ _ _ _ (by omega), zg_n _ _ _ (by omega), (h k hk1).2]; simp [w]⟩
  · rintro l M3 ⟨hf, hS3, h⟩
    simp only [List.cons_append, List.nil_append]
    (with_reducible refine i_RetV ?_)
    exact hk _ hf hS3 (fun k hk1 => h k hk1)
/-- the bits of a box's words, as the reference adds them -/
def tlw (n : Nat) (A : zTl) (i : Nat) : Nat := (((if tC A i = true then 3 + zBits (tm A) else 0) + (if tH A i = true then 3 + zBits (tm A) else 0)) + zsum (fun j => if i < j ∧ tD A i j = true then 3 + 2 * zBits (tm A) else 0) (tm A)) + zsum (fun p => if tG A p i = true then 3 + zBits n + zBits (tm A) else 0) n
def tlX (n t : Nat) (A : zTl) : Nat → Nat := fun k => if tv A (k / 16) (k % 16) = 1 then 2 + 2 * zBits n else 0
def tlS (n : Nat) (A : zTl) (k : Nat) : Nat := if 0 < tQ n A k then 4 + 2 * zBits (tm A) + zBits (tR n A k + 1) else 0
def tLen (n : Nat) (A : zTl) : Nat := n * zBits n + 4 * tm A + zsum (tlw n A) (tm A) + zsum (tlX n 0 A) 256 + zsum (tlS n A) 512
theorem tR_le (n : Nat) (A : zTl) (k : Nat) (hn : n ≤ 16) : tR n A k ≤ 120 := zp2_le _ hn
theorem zite_le {P : Prop} [Decidable P] {a c : Nat} (h : a ≤ c) : (if P then a else 0) ≤ c := by split <;> omega
theorem zsum_z {f : Nat → Nat} {n : Nat} (h : ∀ i, i < n → f i = 0) : zsum f n = 0 := by
  induction n with
  | zero => rfl
  | succ n ih => rw [zsum_su, ih (fun i hi => h i (by omega)), h n (by omega)]
theorem tlw_le {n : Nat} {A : zTl} (hn : n ≤ 16) (hm : tm A ≤ 16) (i : Nat) : tlw n A i ≤ 400 := by
  have h1 := zBits_4 hn
  have h2 := zBits_4 hm
  have h3 := zsum_le (f := fun j => if i < j ∧ tD A i j = true then 3 + 2 * zBits (tm A) else 0) (c := 11) (fun j => zite_le (by omega)) (tm A)
  have h4 := zsum_le (f := fun p => if tG A p i = true then 3 + zBits n + zBits (tm A) else 0) (c := 11) (fun j => zite_le (by omega)) n
  have h5 : (if tC A i = true then 3 + zBits (tm A) else 0) ≤ 7 := by split <;> omega
  have h6 : (if tH A i = true then 3 + zBits (tm A) else 0) ≤ 7 := by split <;> omega
  unfold tlw
  omega
set_option maxHeartbeats 4000000 in
theorem m_lengthOf {O : zOm} (hO : zWld O) (hS : zS O = zmS zC0) {t n : Nat} {A : zTl} {M : zMem} {K : Option zV → zMem → Prop} (ht : t < 7) (hn : M 250 ((1 : Nat) : Int) = ((n : Nat) : Int)) (hn2 : n ≤ 16) (hA : rTe M t n A) (hw : zTw n A) (hk : ∀ M', (∀ b j, ¬ (b = 268 ∨ b = 269 ∨ b = 270) → M' b j = M b j) → rMx M' 268 (tS n A) → (∀ k : Nat, k < 512 → M' ((269 : Nat) : Int) ((k : Nat) : Int) = ((tR n A k : Nat) : Int) ∧ M' ((270 : Nat) : Int) ((k : Nat) : Int) = ((tQ n A k : Nat) : Int)) → K (some (0, ((tLen n A : Nat) : Int))) M') : zR O F_Model_lengthOf [(2, 250), (0, ((t : Nat) : Int))] M K := by
  have hm16 := hw.1.1
  have hbn := zBits_4 hn2
  have hbm := zBits_4 hm16
  have hle := tlw_le (A := A) hn2 hm16
  have hnb : n * zBits n ≤ 64 := Nat.mul_le_mul hn2 hbn
  apply r_Model_lengthOf hO
  unfold B_Model_lengthOf
  have f1 := zMF (k := 1) hS rfl; have f12 := zMF (k := 12) hS rfl; have a258 := zMA (a := 258) (ty := .int) (n := 7) hS rfl; have f16 := zMF (k := 16) hS rfl; have a262 := zMA (a := 262) (ty := .boolean) (n := 112) hS rfl; have f17 := zMF (k := 17) hS rfl; have a263 := zMA (a := 263) (ty := .boolean) (n := 112) hS rfl; have f18 := zMF (k := 18) hS rfl; have a264 := zMA (a := 264) (ty := .boolean) (n := 1792) hS rfl; have f19 := zMF (k := 19) hS rfl; have a265 := zMA (a := 265) (ty := .boolean) (n := 1792) hS rfl; have f20 := zMF (k := 20) hS rfl; have a266 := zMA (a := 266) (ty := .int) (n := 1792) hS rfl; have f24 := zMF (k := 24) hS rfl; have a270 := zMA (a := 270) (ty := .int) (n := 512) hS rfl; have f23 := zMF (k := 23) hS rfl; have a269 := zMA (a := 269) (ty := .int) (n := 512) hS rfl; have zo := zMO hS
  ((with_reducible refine i_Seq (i_sCall (i_as1 (i_A0 (i_as1 (i_L1 (i_as0 ?_))))))); (with_reducible refine i_recv0 (by assumption) ?_))
  refine m_sorts hO hS ht hn hn2 hA hw (fun M1 hf1 hS1 hs1 => ⟨rfl, ?_⟩)
  have hk2 := hk M1 hf1 hS1 hs1
  clear hk
  have n1 : M1 250 ((1 : Nat) : Int) = ((n : Nat) : Int) := (hf1 _ _ (by omega)).trans hn
  obtain ⟨⟨m1, b1, z1⟩, ⟨C1, D1, G1, H1⟩, -, v1⟩ := hA.to hn2 hw (fun b j q => hf1 b j (by omega))
  ((with_reducible refine i_Seq (i_Set (i_Call (i_as1 (i_F (i_A0 ?_)))))); (with_reducible refine i_fld (by assumption) ?_); (with_reducible refine i_as0 (i_recv1 ?_)); (rw [n1]); (refine m_bitsOf hO hS (by omega) ⟨_, rfl, ?_⟩); (with_reducible refine i_Seq (i_Set (i_Call (i_as1 (i_IA (i_FR ?_)))))); simp only [w_set0, w_set1, w_setn0, w_setn1]; (with_reducible refine i_A0 ?_); (with_reducible refine i_fldR (by assumption) ?_); (with_reducible refine i_L1 ?_); (with_reducible refine i_in (by assumption) (by omega) (by omega) ?_); (with_reducible refine i_as0 (i_recv1 ?_)); (rw [m1]); (refine m_bitsOf hO hS (by omega) ⟨_, rfl, ?_⟩); (with_reducible refine i_Seq (i_Set (i_Add (i_Mul (i_F ?_))))); simp only [w_set0, w_set1, w_setn0, w_setn1]; (with_reducible refine i_A0 ?_); (with_reducible refine i_fld (by assumption) ?_); (with_reducible refine i_L2 (i_Mul (i_I (i_IA (i_FR (i_A0 ?_)))))); (with_reducible refine i_fldR (by assumption) ?_); (with_reducible refine i_L1 ?_); (with_reducible refine i_in (by assumption) (by omega) (by omega) ?_); (with_reducible refine i_Seq (i_Blk (i_Seq (i_Set (i_I ?_))))); (rw [n1]); (rw [m1]); (rw [zx_mul (by omega)]); rw [zx_cmul (by omega)]; rw [zx_add (by omega)]; simp only [w_set0, w_set1, w_setn0, w_setn1])
  refine w_ForN (tm A) (fun i ρ M' => (∃ l, ρ = 250 :: ((t : Nat) : Int) :: ((zBits n : Nat) : Int) :: ((zBits (tm A) : Nat) : Int) :: ((n * zBits n + 4 * tm A + zsum (tlw n A) i : Nat) : Int) :: ((i : Nat) : Int) :: l) ∧ M' = M1) ⟨⟨_, rfl⟩, rfl⟩ ?_ ?_
  · rintro i ρ M2 X hi ⟨⟨l, rfl⟩, rfl⟩ hX
    have hX2 : ∀ (l : zLoc) (x : Nat), x = n * zBits n + 4 * tm A + zsum (tlw n A) i + tlw n A i → X (250 :: ((t : Nat) : Int) :: ((zBits n : Nat) : Int) :: ((zBits (tm A) : Nat) : Int) :: ((x : Nat) : Int) :: ((i + 1 : Nat) : Int) :: l) M2 := fun l x e => by subst e; exact hX _ _ ⟨⟨l, by rw [zsum_su, ← Nat.add_assoc]⟩, rfl⟩
    have hac := zsum_le hle i
    have hacb : n * zBits n + 4 * tm A + zsum (tlw n A) i ≤ 10000 := by omega
    generalize n * zBits n + 4 * tm A + zsum (tlw n A) i = acc at hX2 hacb ⊢
    have gC := C1 i (by omega)
    have gH := H1 i (by omega)
    unfold tlw at hX2
    ((with_reducible refine i_turn (i_cI_lt (i_L5 (i_IA (i_FR (i_A0 ?_)))))); (with_reducible refine i_fldR (by assumption) ?_); (with_reducible refine i_L1 ?_); (with_reducible refine i_in (by assumption) (by omega) (by omega) ?_); (rw [m1]); (with_reducible refine i_t (by omega) ?_))
    refine i_Seq (w_cut (zR.mon' O) (fun ρ' M' => ρ' = 250 :: ((t : Nat) : Int) :: ((zBits n : Nat) : Int) :: ((zBits (tm A) : Nat) : Int) :: ((acc + (if tC A i = true then 3 + zBits (tm A) else 0) : Nat) : Int) :: ((i : Nat) : Int) :: l ∧ M' = M2) ?_ ?_)
    · cases e : tC A i <;> rw [e] at gC
      · ((with_reducible refine i_If (i_cZ_ne (i_ZA (i_FR (i_A0 ?_))))); (with_reducible refine i_fldR (by assumption) ?_); (with_reducible refine i_Add (i_Mul (i_I (i_L1 (i_L5 ?_))))); rw [zx_cmul (by omega)]; rw [zx_add (by omega)]; (with_reducible refine i_in (by assumption) (by omega) (by omega) ?_); (rw [gC]); rw [zbI_f]; simp only [w_set0, w_set1, w_setn0, w_setn1]; (with_reducible refine i_f (by omega) ?_))
        exact ⟨by simp, by first | rfl | trivial⟩
      · ((with_reducible refine i_If (i_cZ_ne (i_ZA (i_FR (i_A0 ?_))))); (with_reducible refine i_fldR (by assumption) ?_); (with_reducible refine i_Add (i_Mul (i_I (i_L1 (i_L5 ?_))))); rw [zx_cmul (by omega)]; rw [zx_add (by omega)]; (with_reducible refine i_in (by assumption) (by omega) (by omega) ?_); (rw [gC]); rw [zbI_t]; simp only [w_set0, w_set1, w_setn0, w_setn1]; (with_reducible refine i_t (by omega) ?_); (with_reducible refine i_Set (i_Add (i_L4 (i_Add (i_I (i_L3 ?_)))))); rw [zx_cadd (by omega)]; rw [zx_add (by omega)]; simp only [w_set0, w_set1, w_setn0, w_setn1])
        exact ⟨by simp, by first | rfl | trivial⟩
    rintro ρ' M' ⟨rfl, rfl⟩
    have hc1 : (if tC A i = true then 3 + zBits (tm A) else 0) ≤ 7 := by split <;> omega
    have hc2 : (if tH A i = true then 3 + zBits (tm A) else 0) ≤ 7 := by split <;> omega
    generalize (if tC A i = true then 3 + zBits (tm A) else 0) = c1 at hc1 hX2 ⊢
    refine i_Seq (w_cut (zR.mon' O) (fun ρ' M2 => ρ' = 250 :: ((t : Nat) : Int) :: ((zBits n : Nat) : Int) :: ((zBits (tm A) : Nat) : Int) :: ((acc + (c1 + (if tH A i = true then 3 + zBits (tm A) else 0)) : Nat) : Int) :: ((i : Nat) : Int) :: l ∧ M2 = M') ?_ ?_)
    · cases e : tH A i <;> rw [e] at gH
      · ((with_reducible refine i_If (i_cZ_ne (i_ZA (i_FR (i_A0 ?_))))); (with_reducible refine i_fldR (by assumption) ?_); (with_reducible refine i_Add (i_Mul (i_I (i_L1 (i_L5 ?_))))); rw [zx_cmul (by omega)]; rw [zx_add (by omega)]; (with_reducible refine i_in (by assumption) (by omega) (by omega) ?_); (rw [gH]); rw [zbI_f]; simp only [w_set0, w_set1, w_setn0, w_setn1]; (with_reducible refine i_f (by omega) ?_))
        exact ⟨by simp, by first | rfl | trivial⟩
      · ((with_reducible refine i_If (i_cZ_ne (i_ZA (i_FR (i_A0 ?_))))); (with_reducible refine i_fldR (by assumption) ?_); (with_reducible refine i_Add (i_Mul (i_I (i_L1 (i_L5 ?_))))); rw [zx_cmul (by omega)]; rw [zx_add (by omega)]; (with_reducible refine i_in (by assumption) (by omega) (by omega) ?_); (rw [gH]); rw [zbI_t]; simp only [w_set0, w_set1, w_setn0, w_setn1]; (with_reducible refine i_t (by omega) ?_); (with_reducible refine i_Set (i_Add (i_L4 (i_Add (i_I (i_L3 ?_)))))); rw [zx_cadd (by omega)]; rw [zx_add (by omega)]; simp only [w_set0, w_set1, w_setn0, w_setn1])
        exact ⟨by simp [Nat.add_assoc], by first | rfl | trivial⟩
    rintro ρ' M2 ⟨rfl, rfl⟩
    generalize (if tH A i = true then 3 + zBits (tm A) else 0) = c2 at hc2 hX2 ⊢
    have hd1 := zsum_le (f := fun j => if i < j ∧ tD A i j = true then 3 + 2 * zBits (tm A) else 0) (c := 11) (fun j => zite_le (by omega))
    have hd2 := zsum_le (f := fun p => if tG A p i = true then 3 + zBits n + zBits (tm A) else 0) (c := 11) (fun j => zite_le (by omega))
    ((with_reducible refine i_Seq (i_Blk (i_Seq (i_Set (i_Add (i_L5 (i_I ?_))))))); rw [zx_inc (by omega)]; simp only [w_set0, w_set1, w_setn0, w_setn1]; rw [w_setT])
    have hz0 : zsum (fun j => if i < j ∧ tD A i j = true then 3 + 2 * zBits (tm A) else 0) (i + 1 + 0) = 0 := zsum_z (fun j hj => if_neg (fun w => by omega))
    rw [show acc + (c1 + c2) = acc + (c1 + c2) + zsum (fun j => if i < j ∧ tD A i j = true then 3 + 2 * zBits (tm A) else 0) (i + 1 + 0) by rw [hz0]; rfl]
    refine w_ForN (tm A - (i + 1)) (fun k ρ M' => (∃ l, ρ = 250 :: ((t : Nat) : Int) :: ((zBits n : Nat) : Int) :: ((zBits (tm A) : Nat) : Int) :: ((acc + (c1 + c2) + zsum (fun j => if i < j ∧ tD A i j = true then 3 + 2 * zBits (tm A) else 0) (i + 1 + k) : Nat) : Int) :: ((i : Nat) : Int) :: ((i + 1 + k : Nat) : Int) :: l) ∧ M' = M2) ⟨⟨_, rfl⟩, rfl⟩ ?_ ?_
    · rintro k ρ M3 X1 hk1 ⟨⟨l, rfl⟩, rfl⟩ hX1
      obtain ⟨j, hj⟩ : ∃ j, j = i + 1 + k := ⟨_, rfl⟩
      have gD := D1 i j (by omega) (by omega)
      have hX3 : ∀ (l : zLoc) (x : Nat), x = acc + (c1 + c2) + (zsum (fun j => if i < j ∧ tD A i j = true then 3 + 2 * zBits (tm A) else 0) j + (if i < j ∧ tD A i j = true then 3 + 2 * zBits (tm A) else 0)) → X1 (250 :: ((t : Nat) : Int) :: ((zBits n : Nat) : Int) :: ((zBits (tm A) : Nat) : Int) :: ((x : Nat) : Int) :: ((i : Nat) : Int) :: ((j + 1 : Nat) : Int) :: l) M3 := fun l x e => by subst e; exact hX1 _ _ ⟨⟨l, by rw [hj]; rfl⟩, rfl⟩
      rw [← hj]
      have hb1 := hd1 j
      cases e : tD A i j <;> rw [e] at gD hX3
      · ((with_reducible refine i_turn (i_cI_lt (i_L6 (i_IA (i_FR (i_A0 ?_)))))); (with_reducible refine i_fldR (by assumption) ?_); (with_reducible refine i_L1 ?_); (with_reducible refine i_in (by assumption) (by omega) (by omega) ?_); (rw [m1]); (with_reducible refine i_t (by omega) ?_); (with_reducible refine i_If (i_cZ_ne (i_ZA (i_FR (i_A0 ?_))))); (with_reducible refine i_fldR (by assumption) ?_); (with_reducible refine i_Add (i_Add (i_Mul (i_I (i_L1 (i_Mul (i_I (i_L5 (i_L6 ?_))))))))); rw [zx_cmul (by omega)]; rw [zx_cmul (by omega)]; rw [zx_add (by omega)]; rw [zx_add (by omega)]; (with_reducible refine i_in (by assumption) (by omega) (by omega) ?_); (rw [gD]); rw [zbI_f]; (with_reducible refine i_f (by omega) ?_); (with_reducible refine i_up (i_Inc6 ?_)); rw [zx_inc (by omega)]; simp only [w_set0, w_set1, w_setn0, w_setn1])
        exact hX3 _ _ (by simp)
      · rw [if_pos ⟨by omega, rfl⟩] at hX3
        ((with_reducible refine i_turn (i_cI_lt (i_L6 (i_IA (i_FR (i_A0 ?_)))))); (with_reducible refine i_fldR (by assumption) ?_); (with_reducible refine i_L1 ?_); (with_reducible refine i_in (by assumption) (by omega) (by omega) ?_); (rw [m1]); (with_reducible refine i_t (by omega) ?_); (with_reducible refine i_If (i_cZ_ne (i_ZA (i_FR (i_A0 ?_))))); (with_reducible refine i_fldR (by assumption) ?_); (with_reducible refine i_Add (i_Add (i_Mul (i_I (i_L1 (i_Mul (i_I (i_L5 (i_L6 ?_))))))))); rw [zx_cmul (by omega)]; rw [zx_cmul (by omega)]; rw [zx_add (by omega)]; rw [zx_add (by omega)]; (with_reducible refine i_in (by assumption) (by omega) (by omega) ?_); (rw [gD]); rw [zbI_t]; (with_reducible refine i_t (by omega) ?_); (with_reducible refine i_Set (i_Add (i_L4 (i_Add (i_I (i_Mul (i_I (i_L3 (i_up ?_))))))))); rw [zx_cmul (by omega)]; rw [zx_cadd (by omega)]; rw [zx_add (by omega)]; simp only [w_set0, w_set1, w_setn0, w_setn1]; (with_reducible refine i_Inc6 ?_); rw [zx_inc (by omega)]; simp only [w_set0, w_set1, w_setn0, w_setn1])
        exact hX3 _ _ (by omega)
    · rintro ρ M3 X1 ⟨⟨l, rfl⟩, rfl⟩
      have hb1 := hd1 (tm A)
      rw [show i + 1 + (tm A - (i + 1)) = tm A by omega]
      generalize zsum (fun j => if i < j ∧ tD A i j = true then 3 + 2 * zBits (tm A) else 0) (tm A) = c3 at hX2 hb1 ⊢
      ((with_reducible refine i_turn (i_cI_lt (i_L6 (i_IA (i_FR (i_A0 ?_)))))); (with_reducible refine i_fldR (by assumption) ?_); (with_reducible refine i_L1 ?_); (with_reducible refine i_in (by assumption) (by omega) (by omega) ?_); (rw [m1]); (with_reducible refine i_f (by omega) ?_); (with_reducible refine i_Blk (i_Seq (i_Set (i_I ?_)))); simp only [w_set0, w_set1, w_setn0, w_setn1])
      refine w_ForN n (fun p ρ M' => (∃ l, ρ = 250 :: ((t : Nat) : Int) :: ((zBits n : Nat) : Int) :: ((zBits (tm A) : Nat) : Int) :: ((acc + (c1 + c2) + c3 + zsum (fun p => if tG A p i = true then 3 + zBits n + zBits (tm A) else 0) p : Nat) : Int) :: ((i : Nat) : Int) :: ((p : Nat) : Int) :: l) ∧ M' = M3) ⟨⟨_, rfl⟩, rfl⟩ ?_ ?_
      · rintro p ρ M4 X2 hp ⟨⟨l, rfl⟩, rfl⟩ hX3
        have gG := G1 p i (by omega) (by omega)
        have hb2 := hd2 p
        have hX4 : ∀ (l : zLoc) (x : Nat), x = acc + (c1 + c2) + c3 + (zsum (fun p => if tG A p i = true then 3 + zBits n + zBits (tm A) else 0) p + (if tG A p i = true then 3 + zBits n + zBits (tm A) else 0)) → X2 (250 :: ((t : Nat) : Int) :: ((zBits n : Nat) : Int) :: ((zBits (tm A) : Nat) : Int) :: ((x : Nat) : Int) :: ((i : Nat) : Int) :: ((p + 1 : Nat) : Int) :: l) M4 := fun l x e => by subst e; exact hX3 _ _ ⟨⟨l, rfl⟩, rfl⟩
        cases e : tG A p i <;> rw [e] at gG hX4
        · ((with_reducible refine i_turn (i_cI_lt (i_L6 (i_F (i_A0 ?_))))); (with_reducible refine i_fld (by assumption) ?_); (rw [n1]); (with_reducible refine i_t (by omega) ?_); (with_reducible refine i_If (i_cZ_ne (i_ZA (i_FR (i_A0 ?_))))); (with_reducible refine i_fldR (by assumption) ?_); (with_reducible refine i_Add (i_Add (i_Mul (i_I (i_L1 (i_Mul (i_I (i_L6 (i_L5 ?_))))))))); rw [zx_cmul (by omega)]; rw [zx_cmul (by omega)]; rw [zx_add (by omega)]; rw [zx_add (by omega)]; (with_reducible refine i_in (by assumption) (by omega) (by omega) ?_); (rw [gG]); rw [zbI_f]; (with_reducible refine i_f (by omega) ?_); (with_reducible refine i_up (i_Inc6 ?_)); rw [zx_inc (by omega)]; simp only [w_set0, w_set1, w_setn0, w_setn1])
          exact hX4 _ _ (by simp)
        · rw [if_pos rfl] at hX4
          ((with_reducible refine i_turn (i_cI_lt (i_L6 (i_F (i_A0 ?_))))); (with_reducible refine i_fld (by assumption) ?_); (rw [n1]); (with_reducible refine i_t (by omega) ?_); (with_reducible refine i_If (i_cZ_ne (i_ZA (i_FR (i_A0 ?_))))); (with_reducible refine i_fldR (by assumption) ?_); (with_reducible refine i_Add (i_Add (i_Mul (i_I (i_L1 (i_Mul (i_I (i_L6 (i_L5 ?_))))))))); rw [zx_cmul (by omega)]; rw [zx_cmul (by omega)]; rw [zx_add (by omega)]; rw [zx_add (by omega)]; (with_reducible refine i_in (by assumption) (by omega) (by omega) ?_); (rw [gG]); rw [zbI_t]; (with_reducible refine i_t (by omega) ?_); (with_reducible refine i_Set (i_Add (i_L4 (i_Add (i_Add (i_I (i_L2 (i_L3 (i_up ?_))))))))); rw [zx_cadd (by omega)]; rw [zx_add (by omega)]; rw [zx_add (by omega)]; simp only [w_set0, w_set1, w_setn0, w_setn1]; (with_reducible refine i_Inc6 ?_); rw [zx_inc (by omega)]; simp only [w_set0, w_set1, w_setn0, w_setn1])
          exact hX4 _ _ (by omega)
      · rintro ρ M4 X2 ⟨⟨l, rfl⟩, rfl⟩
        ((with_reducible refine i_turn (i_cI_lt (i_L6 (i_F (i_A0 ?_))))); (with_reducible refine i_fld (by assumption) ?_); (rw [n1]); (with_reducible refine i_f (by omega) ?_); (with_reducible refine i_up (i_Inc5 ?_)); rw [zx_inc (by omega)]; simp only [w_set0, w_set1, w_setn0, w_setn1])
        exact hX2 _ _ (by omega)
  · rintro ρ M2 X ⟨⟨l, rfl⟩, rfl⟩
    have hac := zsum_le hle (tm A)
    have hacb : n * zBits n + 4 * tm A + zsum (tlw n A) (tm A) ≤ 10000 := by omega
    unfold tLen at hk2
    generalize n * zBits n + 4 * tm A + zsum (tlw n A) (tm A) = acc at hk2 hacb ⊢
    ((with_reducible refine i_turn (i_cI_lt (i_L5 (i_IA (i_FR (i_A0 ?_)))))); (with_reducible refine i_fldR (by assumption) ?_); (with_reducible refine i_L1 ?_); (with_reducible refine i_in (by assumption) (by omega) (by omega) ?_); (rw [m1]); (with_reducible refine i_f (by omega) ?_); (with_reducible refine i_Seq (i_Blk (i_Seq (i_Set (i_I ?_))))); simp only [w_set0, w_set1, w_setn0, w_setn1])
    have hx1 := zsum_le (f := tlX n 0 A) (c := 10) (fun j => zite_le (by omega))
    refine w_ForN 256 (fun k ρ M' => (∃ l, ρ = 250 :: ((t : Nat) : Int) :: ((zBits n : Nat) : Int) :: ((zBits (tm A) : Nat) : Int) :: ((acc + zsum (tlX n 0 A) k : Nat) : Int) :: ((k : Nat) : Int) :: l) ∧ M' = M2) ⟨⟨_, rfl⟩, rfl⟩ ?_ ?_
    · rintro k ρ M3 X1 hk1 ⟨⟨l, rfl⟩, rfl⟩ hX1
      have gv := v1 (k / 16) (k % 16) (by omega) (by omega)
      rw [show 256 * t + 16 * (k / 16) + k % 16 = 256 * t + k by omega] at gv
      have hb1 := hx1 k
      have hX3 : ∀ (l : zLoc) (x : Nat), x = acc + (zsum (tlX n 0 A) k + tlX n 0 A k) → X1 (250 :: ((t : Nat) : Int) :: ((zBits n : Nat) : Int) :: ((zBits (tm A) : Nat) : Int) :: ((x : Nat) : Int) :: ((k + 1 : Nat) : Int) :: l) M3 := fun l x e => by subst e; exact hX1 _ _ ⟨⟨l, rfl⟩, rfl⟩
      unfold tlX at hX3
      by_cases e : tv A (k / 16) (k % 16) = 1
      · rw [if_pos e] at hX3
        rw [e] at gv
        ((with_reducible refine i_turn (i_cI_lt (i_L5 (i_I ?_)))); (with_reducible refine i_t (by omega) ?_); (with_reducible refine i_If (i_cI_eq (i_IA (i_FR (i_A0 ?_))))); (with_reducible refine i_fldR (by assumption) ?_); (with_reducible refine i_Add (i_Mul (i_I (i_L1 (i_L5 ?_))))); rw [zx_cmul (by omega)]; rw [zx_add (by omega)]; (with_reducible refine i_in (by assumption) (by omega) (by omega) ?_); (with_reducible refine i_I ?_); (rw [gv]); (with_reducible refine i_t (by omega) ?_); (with_reducible refine i_Set (i_Add (i_L4 (i_Call (i_as1 (i_A0 (i_as0 ?_))))))); (with_reducible refine i_recv0 (by assumption) ?_); (refine m_exceptBits hO hS n1 hn2 ⟨_, rfl, ?_⟩); (with_reducible refine i_up ?_); rw [zx_add (by omega)]; simp only [w_set0, w_set1, w_setn0, w_setn1]; (with_reducible refine i_Inc5 ?_); rw [zx_inc (by omega)]; simp only [w_set0, w_set1, w_setn0, w_setn1])
        exact hX3 _ _ (by unfold tlX; omega)
      · rw [if_neg e] at hX3
        ((with_reducible refine i_turn (i_cI_lt (i_L5 (i_I ?_)))); (with_reducible refine i_t (by omega) ?_); (with_reducible refine i_If (i_cI_eq (i_IA (i_FR (i_A0 ?_))))); (with_reducible refine i_fldR (by assumption) ?_); (with_reducible refine i_Add (i_Mul (i_I (i_L1 (i_L5 ?_))))); rw [zx_cmul (by omega)]; rw [zx_add (by omega)]; (with_reducible refine i_in (by assumption) (by omega) (by omega) ?_); (with_reducible refine i_I ?_); (rw [gv]); (with_reducible refine i_f (by omega) ?_); (with_reducible refine i_up (i_Inc5 ?_)); rw [zx_inc (by omega)]; simp only [w_set0, w_set1, w_setn0, w_setn1])
        exact hX3 _ _ (by unfold tlX; omega)
    · rintro ρ M3 X1 ⟨⟨l, rfl⟩, rfl⟩
      have hb1 := hx1 256
      have hacb2 : acc + zsum (tlX n 0 A) 256 ≤ 13000 := by omega
      generalize acc + zsum (tlX n 0 A) 256 = acc2 at hk2 hacb2 ⊢
      ((with_reducible refine i_turn (i_cI_lt (i_L5 (i_I ?_)))); (with_reducible refine i_f (by omega) ?_); (with_reducible refine i_Seq (i_Blk (i_Seq (i_Set (i_I ?_))))); simp only [w_set0, w_set1, w_setn0, w_setn1])
      have hx2 := zsum_le (f := tlS n A) (c := 30) (fun j => zite_le (by have := zBits_in (tR n A j + 1); omega))
      refine w_ForN 512 (fun k ρ M' => (∃ l, ρ = 250 :: ((t : Nat) : Int) :: ((zBits n : Nat) : Int) :: ((zBits (tm A) : Nat) : Int) :: ((acc2 + zsum (tlS n A) k : Nat) : Int) :: ((k : Nat) : Int) :: l) ∧ M' = M3) ⟨⟨_, rfl⟩, rfl⟩ ?_ ?_
      · rintro k ρ M4 X2 hk1 ⟨⟨l, rfl⟩, rfl⟩ hX2
        obtain ⟨g1, g2⟩ := hs1 k hk1
        have hb1 := hx2 k
        have hR := tR_le n A k hn2
        have hbi := zBits_in (tR n A k + 1)
        have hX3 : ∀ (l : zLoc) (x : Nat), x = acc2 + (zsum (tlS n A) k + tlS n A k) → X2 (250 :: ((t : Nat) : Int) :: ((zBits n : Nat) : Int) :: ((zBits (tm A) : Nat) : Int) :: ((x : Nat) : Int) :: ((k + 1 : Nat) : Int) :: l) M4 := fun l x e => by subst e; exact hX2 _ _ ⟨⟨l, rfl⟩, rfl⟩
        have ew : tlS n A k = if 0 < tQ n A k then 4 + 2 * zBits (tm A) + zBits (tR n A k + 1) else 0 := rfl
        by_cases e : 0 < tQ n A k
        · rw [if_pos e] at ew
          ((with_reducible refine i_turn (i_cI_lt (i_L5 (i_I ?_)))); (with_reducible refine i_t (by omega) ?_); (with_reducible refine i_If (i_cZ_gt (i_IA (i_FR (i_A0 ?_))))); (with_reducible refine i_fldR (by assumption) ?_); (with_reducible refine i_L5 ?_); (with_reducible refine i_in (by assumption) (by omega) (by omega) ?_); (rw [g2]); (with_reducible refine i_t (by omega) ?_); (with_reducible refine i_Set (i_Add (i_L4 (i_Add (i_Add (i_I (i_Mul (i_I (i_L3 (i_Call (i_as1 (i_Add (i_IA (i_FR (i_A0 ?_))))))))))))))); (with_reducible refine i_fldR (by assumption) ?_); (with_reducible refine i_L5 ?_); (with_reducible refine i_in (by assumption) (by omega) (by omega) ?_); (with_reducible refine i_I (i_as0 (i_recv1 ?_))); (rw [g1]); rw [zx_inc (by omega)]; rw [zx_cmul (by omega)]; rw [zx_cadd (by omega)]; simp only [w_set0, w_set1, w_setn0, w_setn1])
          refine m_bitsOf hO hS (by omega) ⟨_, rfl, ?_⟩
          ((with_reducible refine i_up (i_Inc5 ?_)); rw [zx_inc (by omega)]; rw [zx_add (by omega)]; rw [zx_add (by omega)]; simp only [w_set0, w_set1, w_setn0, w_setn1])
          exact hX3 _ _ (by omega)
        · rw [if_neg e] at ew
          ((with_reducible refine i_turn (i_cI_lt (i_L5 (i_I ?_)))); (with_reducible refine i_t (by omega) ?_); (with_reducible refine i_If (i_cZ_gt (i_IA (i_FR (i_A0 ?_))))); (with_reducible refine i_fldR (by assumption) ?_); (with_reducible refine i_L5 ?_); (with_reducible refine i_in (by assumption) (by omega) (by omega) ?_); (rw [g2]); (with_reducible refine i_f (by omega) ?_); (with_reducible refine i_up (i_Inc5 ?_)); rw [zx_inc (by omega)]; simp only [w_set0, w_set1, w_setn0, w_setn1])
          exact hX3 _ _ (by omega)
      · rintro ρ M4 X2 ⟨⟨l, rfl⟩, rfl⟩
        ((with_reducible refine i_turn (i_cI_lt (i_L5 (i_I ?_)))); (with_reducible refine i_f (by omega) ?_); (with_reducible refine i_RetI (i_L4 ?_)))
        exact hk2
