/-! ===== the reference: words cleared, excepts anew, what a telling holds ===== -/
def rSta (M : zMem) (t : Nat) (v : Nat → Nat → Nat) : Prop := ∀ a b : Nat, a < 16 → b < 16 → M ((266 : Nat) : Int) ((256 * t + 16 * a + b : Nat) : Int) = ((v a b : Nat) : Int)
/-- excepts as far as pairs were looked at -/
def zxs (X : Nat → Nat → Bool) (n a b p q : Nat) : Nat := if p < q ∧ q < n ∧ (p < a ∨ p = a ∧ q < b) ∧ X p q = true then 1 else 0
def zxe (X : Nat → Nat → Bool) (n p q : Nat) : Nat := if p < q ∧ q < n ∧ X p q = true then 1 else 0
theorem zxs_iff {X : Nat → Nat → Bool} {n a b a' b' p q : Nat} (h : p < q → q < n → ((p < a ∨ p = a ∧ q < b) ↔ (p < a' ∨ p = a' ∧ q < b'))) : zxs X n a b p q = zxs X n a' b' p q := by
  unfold zxs
  by_cases h1 : p < q ∧ q < n
  · have := h h1.1 h1.2
    by_cases h2 : X p q = true
    · by_cases h3 : (p < a ∨ p = a ∧ q < b)
      · rw [if_pos ⟨h1.1, h1.2, h3, h2⟩, if_pos ⟨h1.1, h1.2, this.mp h3, h2⟩]
      · rw [if_neg (fun w => h3 w.2.2.1), if_neg (fun w => h3 (this.mpr w.2.2.1))]
    · rw [if_neg (fun w => h2 w.2.2.2), if_neg (fun w => h2 w.2.2.2)]
  · rw [if_neg (fun w => h1 ⟨w.1, w.2.1⟩), if_neg (fun w => h1 ⟨w.1, w.2.1⟩)]
theorem zxs_end (X : Nat → Nat → Bool) (n p q : Nat) : zxs X n n 0 p q = zxe X n p q := by
  unfold zxs zxe
  by_cases h1 : p < q ∧ q < n ∧ X p q = true
  · rw [if_pos h1, if_pos ⟨h1.1, h1.2.1, Or.inl (by omega), h1.2.2⟩]
  · rw [if_neg h1, if_neg (fun w => h1 ⟨w.1, w.2.1, w.2.2.2⟩)]
theorem m_exceptsAnew {O : zOm} (hO : zWld O) (hS : zS O = zmS zC0) {t n : Nat} {S T : Nat → Nat → Bool} {M : zMem} {K : Option zV → zMem → Prop} (ht : t < 7) (hn : M 250 ((1 : Nat) : Int) = ((n : Nat) : Int)) (hn2 : n ≤ 16) (hS1 : rMx M 268 S) (hT : rMx M 267 T)
    (hk : ∀ M', (∀ b j, ¬ (b = ((266 : Nat) : Int) ∧ ((256 * t : Nat) : Int) ≤ j ∧ j < ((256 * t + 256 : Nat) : Int)) → M' b j = M b j) → rSta M' t (zxe (fun p q => S p q ^^ T p q) n) → K none M') : zR O F_Model_exceptsAnew [(2, 250), (0, ((t : Nat) : Int))] M K := by
  apply r_Model_exceptsAnew hO
  unfold B_Model_exceptsAnew
  have f20 := zMF (k := 20) hS rfl; have a266 := zMA (a := 266) (ty := .int) (n := 1792) hS rfl; have f1 := zMF (k := 1) hS rfl; have f22 := zMF (k := 22) hS rfl; have a268 := zMA (a := 268) (ty := .boolean) (n := 256) hS rfl; have f21 := zMF (k := 21) hS rfl; have a267 := zMA (a := 267) (ty := .boolean) (n := 256) hS rfl; have zo := zMO hS
  ((with_reducible refine i_Seq (i_Seq (i_Blk (i_Seq (i_Set (i_I ?_)))))); simp only [w_set0, w_set1, w_setn0, w_setn1])
  refine w_ForN 256 (fun k ρ M' => ρ = [250, ((t : Nat) : Int), ((k : Nat) : Int)] ∧ (∀ b j, ¬ (b = ((266 : Nat) : Int) ∧ ((256 * t : Nat) : Int) ≤ j ∧ j < ((256 * t + 256 : Nat) : Int)) → M' b j = M b j) ∧ ∀ j : Nat, j < k → M' ((266 : Nat) : Int) ((256 * t + j : Nat) : Int) = 0) ⟨rfl, fun _ _ _ => rfl, fun j hj => absurd hj (by omega)⟩ ?_ ?_
  · rintro k ρ M9 X hk1 ⟨rfl, hf, h⟩ hX
    ((with_reducible refine i_turn (i_cI_lt (i_L2 (i_I ?_)))); (with_reducible refine i_t (by omega) ?_); (with_reducible refine i_sIA (i_FR (i_A0 ?_))); (with_reducible refine i_fldR (by assumption) ?_); (with_reducible refine i_Add (i_Mul (i_I (i_L1 (i_L2 (i_I ?_)))))); rw [zx_cmul (by omega)]; rw [zx_add (by omega)]; (with_reducible refine i_in (by assumption) (by omega) (by omega) ?_); (with_reducible refine i_up (i_Inc2 ?_)); rw [zx_inc (by omega)]; simp only [w_set0, w_set1, w_setn0, w_setn1])
    refine hX _ _ ⟨rfl, (by intro b j q; ((rw [zg_o _ _ (by omega)])); first | done | rfl | exact hf b j (by omega)), fun j hj => ?_⟩
    by_cases e : j = k
    · subst e; rw [zg_s]
    · rw [zg_m _ _ _ _ _ (by omega)]; exact h j (by omega)
  rintro ρ M1 X ⟨rfl, hf1, h1⟩
  ((with_reducible refine i_turn (i_cI_lt (i_L2 (i_I ?_)))); (with_reducible refine i_f (by omega) ?_); (with_reducible refine i_Blk (i_Seq (i_Set (i_I ?_)))); simp only [w_set0, w_set1, w_setn0, w_setn1])
  refine w_Pairs (n := n) (fun _ _ => [250, ((t : Nat) : Int)]) (fun a b M' => (∀ b j, ¬ (b = ((266 : Nat) : Int) ∧ ((256 * t : Nat) : Int) ≤ j ∧ j < ((256 * t + 256 : Nat) : Int)) → M' b j = M b j) ∧ rSta M' t (zxs (fun p q => S p q ^^ T p q) n a b)) (fun _ _ => ⟨[((t : Nat) : Int)], rfl, rfl⟩) f1 (fun a b M' h => (h.1 _ _ (by omega)).trans hn) hn2 ⟨_, rfl⟩ ⟨hf1, fun p q hp hq => by rw [Nat.add_assoc, h1 _ (by omega)]; unfold zxs; rw [if_neg (by omega)]; rfl⟩ (fun a M' _ h => ⟨⟨h.1, fun p q hp hq => by rw [h.2 p q hp hq, zxs_iff (a' := a) (b' := a + 1) (fun _ _ => by omega)]⟩, rfl⟩) (fun a M' _ h => ⟨⟨h.1, fun p q hp hq => by rw [h.2 p q hp hq, zxs_iff (a' := a + 1) (b' := 0) (fun _ _ => by omega)]⟩, rfl⟩) ?_ ?_
  · rintro a b l M2 Y Z hab hbn ⟨hf, h⟩ hY
    simp only [List.cons_append, List.nil_append] at hY ⊢
    have g1 : M2 ((268 : Nat) : Int) ((16 * a + b : Nat) : Int) = zbI (S a b) := (hf _ _ (by omega)).trans (hS1 a b (by omega) (by omega))
    have g2 : M2 ((267 : Nat) : Int) ((16 * a + b : Nat) : Int) = zbI (T a b) := (hf _ _ (by omega)).trans (hT a b (by omega) (by omega))
    have fin : ∀ x : Nat, x = (if (S a b ^^ T a b) = true then 1 else 0) → rSta (zput M2 ((266 : Nat) : Int) (zup (M2 ((266 : Nat) : Int)) ((256 * t + 16 * a + b : Nat) : Int) ((x : Nat) : Int))) t (zxs (fun p q => S p q ^^ T p q) n a (b + 1)) := fun x hx p q hp hq => by
      by_cases e : p = a ∧ q = b
      · obtain ⟨rfl, rfl⟩ := e
        rw [zg_s, hx]; unfold zxs
        by_cases w : (S p q ^^ T p q) = true
        · rw [if_pos w, if_pos ⟨hab, hbn, Or.inr ⟨rfl, by omega⟩, w⟩]
        · rw [if_neg w, if_neg (fun z => w z.2.2.2)]
      · rw [zg_m _ _ _ _ _ (by omega), h p q hp hq, zxs_iff (a' := a) (b' := b + 1) (fun _ _ => by omega)]
    cases e1 : S a b <;> cases e2 : T a b <;> simp only [e1, e2, zbI_t, zbI_f] at g1 g2 fin
    all_goals (first | (((with_reducible refine i_sIA (i_FR (i_A0 ?_))); (with_reducible refine i_fldR (by assumption) ?_); (with_reducible refine i_Add (i_Add (i_Mul (i_I (i_L1 (i_Mul (i_I (i_L2 (i_L3 (i_eIf (i_cI_ne (i_ZA (i_FR (i_A0 ?_)))))))))))))); (with_reducible refine i_fldR (by assumption) ?_); (with_reducible refine i_Add (i_Mul (i_I (i_L2 (i_L3 ?_))))); rw [zx_cmul (by omega)]; rw [zx_add (by omega)]; (with_reducible refine i_in (by assumption) (by omega) (by omega) ?_); (with_reducible refine i_ZA (i_FR (i_A0 ?_))); (with_reducible refine i_fldR (by assumption) ?_); (with_reducible refine i_Add (i_Mul (i_I (i_L2 (i_L3 ?_))))); (rw [g1]); rw [zx_cmul (by omega)]; rw [zx_add (by omega)]; (with_reducible refine i_in (by assumption) (by omega) (by omega) ?_); (rw [g2]); rw [zx_cmul (by omega)]; rw [zx_add (by omega)]; rw [zx_add (by omega)]; (with_reducible refine i_f (by omega) ?_); (with_reducible refine i_I ?_); (with_reducible refine i_in (by assumption) (by omega) (by omega) ?_))) | (((with_reducible refine i_sIA (i_FR (i_A0 ?_))); (with_reducible refine i_fldR (by assumption) ?_); (with_reducible refine i_Add (i_Add (i_Mul (i_I (i_L1 (i_Mul (i_I (i_L2 (i_L3 (i_eIf (i_cI_ne (i_ZA (i_FR (i_A0 ?_)))))))))))))); (with_reducible refine i_fldR (by assumption) ?_); (with_reducible refine i_Add (i_Mul (i_I (i_L2 (i_L3 ?_))))); rw [zx_cmul (by omega)]; rw [zx_add (by omega)]; (with_reducible refine i_in (by assumption) (by omega) (by omega) ?_); (with_reducible refine i_ZA (i_FR (i_A0 ?_))); (with_reducible refine i_fldR (by assumption) ?_); (with_reducible refine i_Add (i_Mul (i_I (i_L2 (i_L3 ?_))))); (rw [g1]); rw [zx_cmul (by omega)]; rw [zx_add (by omega)]; (with_reducible refine i_in (by assumption) (by omega) (by omega) ?_); (rw [g2]); rw [zx_cmul (by omega)]; rw [zx_add (by omega)]; rw [zx_add (by omega)]; (with_reducible refine i_t (by omega) ?_); (with_reducible refine i_I ?_); (with_reducible refine i_in (by assumption) (by omega) (by omega) ?_))))
    · exact hY _ _ ⟨(by intro b j q; ((rw [zg_o _ _ (by omega)])); first | done | rfl | exact hf b j (by omega)), fin 0 rfl⟩
    · exact hY _ _ ⟨(by intro b j q; ((rw [zg_o _ _ (by omega)])); first | done | rfl | exact hf b j (by omega)), fin 1 rfl⟩
    · exact hY _ _ ⟨(by intro b j q; ((rw [zg_o _ _ (by omega)])); first | done | rfl | exact hf b j (by omega)), fin 1 rfl⟩
    · exact hY _ _ ⟨(by intro b j q; ((rw [zg_o _ _ (by omega)])); first | done | rfl | exact hf b j (by omega)), fin 0 rfl⟩
  · rintro l M2 ⟨hf, h⟩
    simp only [List.cons_append, List.nil_append]
    (with_reducible refine i_RetV ?_)
    exact hk _ hf (fun p q hp hq => by rw [h p q hp hq, zxs_end])
theorem m_clearWords {O : zOm} (hO : zWld O) (hS : zS O = zmS zC0) {t : Nat} {M : zMem} {K : Option zV → zMem → Prop} (ht : t < 7)
    (hk : ∀ M', (∀ b j, ¬ ((b = 262 ∨ b = 263) ∧ ((16 * t : Nat) : Int) ≤ j ∧ j < ((16 * t + 16 : Nat) : Int) ∨ (b = 261 ∨ b = 264 ∨ b = 265 ∨ b = 266) ∧ ((256 * t : Nat) : Int) ≤ j ∧ j < ((256 * t + 256 : Nat) : Int)) → M' b j = M b j) → rFlg M' 262 t (fun _ => false) → rFlg M' 263 t (fun _ => false) → rMat M' 264 t (fun _ _ => false) → rMat M' 265 t (fun _ _ => false) → rSta M' t (fun _ _ => 0) → K none M') : zR O F_Model_clearWords [(2, 250), (0, ((t : Nat) : Int))] M K := by
  apply r_Model_clearWords hO
  unfold B_Model_clearWords
  have f16 := zMF (k := 16) hS rfl; have a262 := zMA (a := 262) (ty := .boolean) (n := 112) hS rfl; have f17 := zMF (k := 17) hS rfl; have a263 := zMA (a := 263) (ty := .boolean) (n := 112) hS rfl; have f18 := zMF (k := 18) hS rfl; have a264 := zMA (a := 264) (ty := .boolean) (n := 1792) hS rfl; have f19 := zMF (k := 19) hS rfl; have a265 := zMA (a := 265) (ty := .boolean) (n := 1792) hS rfl; have f20 := zMF (k := 20) hS rfl; have a266 := zMA (a := 266) (ty := .int) (n := 1792) hS rfl; have f15 := zMF (k := 15) hS rfl; have a261 := zMA (a := 261) (ty := .int) (n := 1792) hS rfl; have zo := zMO hS
  ((with_reducible refine i_Seq (i_Seq (i_Blk (i_Seq (i_Set (i_I ?_)))))); simp only [w_set0, w_set1, w_setn0, w_setn1])
  refine w_ForN 16 (fun k ρ M' => ρ = [250, ((t : Nat) : Int), ((k : Nat) : Int)] ∧ (∀ b j, ¬ ((b = 262 ∨ b = 263) ∧ ((16 * t : Nat) : Int) ≤ j ∧ j < ((16 * t + 16 : Nat) : Int)) → M' b j = M b j) ∧ ∀ j : Nat, j < k → M' ((262 : Nat) : Int) ((16 * t + j : Nat) : Int) = 0 ∧ M' ((263 : Nat) : Int) ((16 * t + j : Nat) : Int) = 0) ⟨rfl, fun _ _ _ => rfl, fun j hj => absurd hj (by omega)⟩ ?_ ?_
  · rintro k ρ M9 X hk1 ⟨rfl, hf, h⟩ hX
    ((with_reducible refine i_turn (i_cI_lt (i_L2 (i_I ?_)))); (with_reducible refine i_t (by omega) ?_); (with_reducible refine i_Seq (i_sZA (i_FR (i_A0 ?_)))); (with_reducible refine i_fldR (by assumption) ?_); (with_reducible refine i_Add (i_Mul (i_I (i_L1 (i_L2 (i_I ?_)))))); rw [zx_cmul (by omega)]; rw [zx_add (by omega)]; (with_reducible refine i_zin (Or.inl rfl) (by assumption) (by omega) (by omega) ?_); (with_reducible refine i_sZA (i_FR (i_A0 ?_))); (with_reducible refine i_fldR (by assumption) ?_); (with_reducible refine i_Add (i_Mul (i_I (i_L1 (i_L2 (i_I ?_)))))); rw [zx_cmul (by omega)]; rw [zx_add (by omega)]; (with_reducible refine i_zin (Or.inl rfl) (by assumption) (by omega) (by omega) ?_); (with_reducible refine i_up (i_Inc2 ?_)); rw [zx_inc (by omega)]; simp only [w_set0, w_set1, w_setn0, w_setn1])
    refine hX _ _ ⟨rfl, (by intro b j q; ((rw [zg_o _ _ (by omega)]; rw [zg_o _ _ (by omega)])); first | done | rfl | exact hf b j (by omega)), fun j hj => ?_⟩
    by_cases e : j = k
    · subst e
      exact ⟨by rw [zg_n _ _ _ (by omega), zg_s], by rw [zg_s]⟩
    · obtain ⟨h1, h2⟩ := h j (by omega)
      exact ⟨by rw [zg_n _ _ _ (by omega), zg_m _ _ _ _ _ (by omega)]; exact h1, by rw [zg_m _ _ _ _ _ (by omega), zg_n _ _ _ (by omega)]; exact h2⟩
  rintro ρ M1 X ⟨rfl, hf1, h1⟩
  ((with_reducible refine i_turn (i_cI_lt (i_L2 (i_I ?_)))); (with_reducible refine i_f (by omega) ?_); (with_reducible refine i_Blk (i_Seq (i_Set (i_I ?_)))); simp only [w_set0, w_set1, w_setn0, w_setn1])
  refine w_ForN 256 (fun k ρ M' => ρ = [250, ((t : Nat) : Int), ((k : Nat) : Int)] ∧ (∀ b j, ¬ ((b = 261 ∨ b = 264 ∨ b = 265 ∨ b = 266) ∧ ((256 * t : Nat) : Int) ≤ j ∧ j < ((256 * t + 256 : Nat) : Int)) → M' b j = M1 b j) ∧ ∀ j : Nat, j < k → M' ((264 : Nat) : Int) ((256 * t + j : Nat) : Int) = 0 ∧ M' ((265 : Nat) : Int) ((256 * t + j : Nat) : Int) = 0 ∧ M' ((266 : Nat) : Int) ((256 * t + j : Nat) : Int) = 0) ⟨rfl, fun _ _ _ => rfl, fun j hj => absurd hj (by omega)⟩ ?_ ?_
  · rintro k ρ M9 X hk1 ⟨rfl, hf, h⟩ hX
    ((with_reducible refine i_turn (i_cI_lt (i_L2 (i_I ?_)))); (with_reducible refine i_t (by omega) ?_); (with_reducible refine i_Seq (i_sZA (i_FR (i_A0 ?_)))); (with_reducible refine i_fldR (by assumption) ?_); (with_reducible refine i_Add (i_Mul (i_I (i_L1 (i_L2 (i_I ?_)))))); rw [zx_cmul (by omega)]; rw [zx_add (by omega)]; (with_reducible refine i_zin (Or.inl rfl) (by assumption) (by omega) (by omega) ?_); (with_reducible refine i_Seq (i_sZA (i_FR (i_A0 ?_)))); (with_reducible refine i_fldR (by assumption) ?_); (with_reducible refine i_Add (i_Mul (i_I (i_L1 (i_L2 (i_I ?_)))))); rw [zx_cmul (by omega)]; rw [zx_add (by omega)]; (with_reducible refine i_zin (Or.inl rfl) (by assumption) (by omega) (by omega) ?_); (with_reducible refine i_Seq (i_sIA (i_FR (i_A0 ?_)))); (with_reducible refine i_fldR (by assumption) ?_); (with_reducible refine i_Add (i_Mul (i_I (i_L1 (i_L2 (i_I ?_)))))); rw [zx_cmul (by omega)]; rw [zx_add (by omega)]; (with_reducible refine i_in (by assumption) (by omega) (by omega) ?_); (with_reducible refine i_sIA (i_FR (i_A0 ?_))); (with_reducible refine i_fldR (by assumption) ?_); (with_reducible refine i_Add (i_Mul (i_I (i_L1 (i_L2 (i_I ?_)))))); rw [zx_cmul (by omega)]; rw [zx_add (by omega)]; (with_reducible refine i_in (by assumption) (by omega) (by omega) ?_); (with_reducible refine i_up (i_Inc2 ?_)); rw [zx_inc (by omega)]; simp only [w_set0, w_set1, w_setn0, w_setn1])
    refine hX _ _ ⟨rfl, (by intro b j q; ((rw [zg_o _ _ (by omega)]; rw [zg_o _ _ (by omega)]; rw [zg_o _ _ (by omega)]; rw [zg_o _ _ (by omega)])); first | done | rfl | exact hf b j (by omega)), fun j hj => ?_⟩
    by_cases e : j = k
    · subst e
      exact ⟨by (rw [zg_n _ _ _ (by omega)]; rw [zg_n _ _ _ (by omega)]; rw [zg_n _ _ _ (by omega)]; rw [zg_s]), by (rw [zg_n _ _ _ (by omega)]; rw [zg_n _ _ _ (by omega)]; rw [zg_s]), by (rw [zg_n _ _ _ (by omega)]; rw [zg_s])⟩
    · obtain ⟨h1, h2, h3⟩ := h j (by omega)
      refine ⟨?_, ?_, ?_⟩
      · (rw [zg_n _ _ _ (by omega)]; rw [zg_n _ _ _ (by omega)]; rw [zg_n _ _ _ (by omega)]; rw [zg_m _ _ _ _ _ (by omega)])
        exact h1
      · (rw [zg_n _ _ _ (by omega)]; rw [zg_n _ _ _ (by omega)]; rw [zg_m _ _ _ _ _ (by omega)]; rw [zg_n _ _ _ (by omega)])
        exact h2
      · (rw [zg_n _ _ _ (by omega)]; rw [zg_m _ _ _ _ _ (by omega)]; rw [zg_n _ _ _ (by omega)]; rw [zg_n _ _ _ (by omega)])
        exact h3
  rintro ρ M2 X ⟨rfl, hf2, h2⟩
  ((with_reducible refine i_turn (i_cI_lt (i_L2 (i_I ?_)))); (with_reducible refine i_f (by omega) ?_); (with_reducible refine i_RetV ?_))
  refine hk _ (fun b j q => by rw [hf2 b j (by omega), hf1 b j (by omega)]) (fun b hb => by rw [hf2 _ _ (by omega)]; exact (h1 b hb).1) (fun b hb => by rw [hf2 _ _ (by omega)]; exact (h1 b hb).2) (fun a b ha hb => ?_) (fun a b ha hb => ?_) (fun a b ha hb => ?_)
  · have := (h2 (16 * a + b) (by omega)).1
    rw [← Nat.add_assoc] at this
    exact this
  · have := (h2 (16 * a + b) (by omega)).2.1
    rw [← Nat.add_assoc] at this
    exact this
  · have := (h2 (16 * a + b) (by omega)).2.2
    rw [← Nat.add_assoc] at this
    exact this
