/-! ===== questions of posts reached: the reference ===== -/
theorem zlk_s {n : Nat} {A : zTl} (op : Bool) (p q : Nat) : zlk n A op p q = zlk n A op q p := by
  have h1 : tvs A p q = tvs A q p := by
    unfold tvs
    by_cases h : p < q
    · rw [if_pos h, if_neg (by omega)]
    · by_cases h2 : q < p
      · rw [if_neg h, if_pos h2]
      · rw [show p = q by omega]
  unfold zlk
  rw [h1, tS_s (n := n) (A := A) p q, zso_s (tf A) p q]
theorem zlN_s {n : Nat} {A : zTl} (op : Bool) (p q : Nat) : zlN n A op p q = zlN n A op q p := by
  unfold zlN
  rw [zlk_s op p q]
  exact zdb ⟨fun h => ⟨h.2.1, h.1, fun z => h.2.2 z.symm⟩, fun h => ⟨h.2.1, h.1, fun z => h.2.2 z.symm⟩⟩
theorem zlN_0 {n : Nat} {A : zTl} (op : Bool) (p : Nat) : zlN n A op p p = false := by
  unfold zlN
  rw [decide_eq_false (fun h => h.2.2 rfl)]; rfl
theorem zlN_in {n : Nat} {A : zTl} {op : Bool} {p q : Nat} (h : zlN n A op p q = true) : p < n ∧ q < n ∧ p ≠ q := by
  unfold zlN at h
  rw [Bool.and_eq_true] at h
  exact of_decide_eq_true h.1
/-- the links: of pairs ahead of a b as told, else as they were -/
def rLk (M : zMem) (n : Nat) (L : Nat → Nat → Bool) : Prop := ∀ p q : Nat, p < n → q < n → p ≠ q → M ((289 : Nat) : Int) ((16 * p + q : Nat) : Int) = zbI (L p q)
theorem m_links {O : zOm} (hO : zWld O) (hS : zS O = zmS zC0) {t n : Nat} {op : Bool} {A : zTl} {M : zMem} {K : Option zV → zMem → Prop} (ht : t < 7) (hn : M 250 ((1 : Nat) : Int) = ((n : Nat) : Int)) (hn2 : n ≤ 16) (hA : rTe M t n A) (hw : zTw n A) (hS1 : rMx M 268 (tS n A)) (hR : ∀ k : Nat, k < 512 → M ((269 : Nat) : Int) ((k : Nat) : Int) = ((tR n A k : Nat) : Int) ∧ M ((270 : Nat) : Int) ((k : Nat) : Int) = ((tQ n A k : Nat) : Int))
    (hk : ∀ M', (∀ b j, ¬ b = ((289 : Nat) : Int) → M' b j = M b j) → rLk M' n (zlN n A op) → K none M') : zR O F_Model_links [(2, 250), (0, ((t : Nat) : Int)), (0, zbI op)] M K := by
  have hA0 := hA
  obtain ⟨⟨h1, h2, h3⟩, ⟨h4, h5, h6, h7⟩, h8, h9⟩ := hA
  apply r_Model_links hO
  unfold B_Model_links
  have f1 := zMF (k := 1) hS rfl; have f22 := zMF (k := 22) hS rfl; have a268 := zMA (a := 268) (ty := .boolean) (n := 256) hS rfl; have f20 := zMF (k := 20) hS rfl; have a266 := zMA (a := 266) (ty := .int) (n := 1792) hS rfl; have f24 := zMF (k := 24) hS rfl; have a270 := zMA (a := 270) (ty := .int) (n := 512) hS rfl; have f23 := zMF (k := 23) hS rfl; have a269 := zMA (a := 269) (ty := .int) (n := 512) hS rfl; have f53 := zMF (k := 53) hS rfl; have a289 := zMA (a := 289) (ty := .boolean) (n := 256) hS rfl; have zo := zMO hS
  ((with_reducible refine i_Seq (i_Blk (i_Seq (i_Set (i_I ?_))))); simp only [w_set0, w_set1, w_setn0, w_setn1])
  refine w_Pairs (n := n) (fun _ _ => [250, ((t : Nat) : Int), zbI op]) (fun a b M' => (∀ b j, ¬ b = ((289 : Nat) : Int) → M' b j = M b j) ∧ ∀ p q : Nat, p < n → q < n → p ≠ q → ((p < q ∧ (p < a ∨ p = a ∧ q < b)) ∨ (q < p ∧ (q < a ∨ q = a ∧ p < b))) → M' ((289 : Nat) : Int) ((16 * p + q : Nat) : Int) = zbI (zlN n A op p q)) (fun _ _ => ⟨[((t : Nat) : Int), zbI op], rfl, rfl⟩) f1 (fun a b M' h => (h.1 _ _ (by omega)).trans hn) hn2 ⟨_, rfl⟩ ⟨fun _ _ _ => rfl, fun p q _ _ _ h => absurd h (by omega)⟩ (fun a M' _ h => ⟨⟨h.1, fun p q hp hq hpq e => h.2 p q hp hq hpq (by omega)⟩, rfl⟩) (fun a M' _ h => ⟨⟨h.1, fun p q hp hq hpq e => h.2 p q hp hq hpq (by omega)⟩, rfl⟩) ?_ ?_
  · rintro a b l M3 Y Z hab hbn ⟨hf, h⟩ hY
    simp only [List.cons_append, List.nil_append] at hY ⊢
    have gS : M3 ((268 : Nat) : Int) ((16 * a + b : Nat) : Int) = zbI (tS n A a b) := (hf _ _ (by omega)).trans (hS1 a b (by omega) (by omega))
    have gv : M3 ((266 : Nat) : Int) ((256 * t + 16 * a + b : Nat) : Int) = ((tv A a b : Nat) : Int) := (hf _ _ (by omega)).trans (h9 a b (by omega) (by omega))
    have gb : rBox M3 t n (tf A) := fun r hr => by rw [hf _ _ (by omega)]; exact h2 r hr
    have hlt := zso_lt (s := tS n A a b) (hw.f16 a (by omega)) (hw.f16 b hbn)
    have hY2 : ∀ (l : zLoc) (v : Bool), v = zlN n A op a b → Y (250 :: ((t : Nat) : Int) :: zbI op :: ((a : Nat) : Int) :: ((b : Nat) : Int) :: l) (zput (zput M3 ((289 : Nat) : Int) (zup (M3 ((289 : Nat) : Int)) ((16 * a + b : Nat) : Int) (zbI v))) ((289 : Nat) : Int) (zup ((zput M3 ((289 : Nat) : Int) (zup (M3 ((289 : Nat) : Int)) ((16 * a + b : Nat) : Int) (zbI v))) ((289 : Nat) : Int)) ((16 * b + a : Nat) : Int) (zbI v))) := fun l v hv => by
      subst hv
      refine hY _ _ ⟨fun b j z => by rw [zg_n _ _ _ z, zg_n _ _ _ z]; exact hf b j z, fun p q hp hq hpq e => ?_⟩
      by_cases e1 : p = a ∧ q = b
      · rw [e1.1, e1.2, zg_m _ _ _ _ _ (by omega), zg_s]
      · by_cases e2 : p = b ∧ q = a
        · rw [e2.1, e2.2, zg_s, zlN_s]
        · rw [zg_m _ _ _ _ _ (by omega), zg_m _ _ _ _ _ (by omega)]
          exact h p q hp hq hpq (by omega)
    clear hY
    have hL : zlN n A op a b = zlk n A op a b := by unfold zlN; rw [decide_eq_true ⟨by omega, hbn, by omega⟩, Bool.true_and]
    rw [hL] at hY2
    unfold zlk at hY2
    rw [tvs_lt hab] at hY2
    obtain ⟨g1, g2⟩ := hR _ hlt
    generalize hke : zso (tf A) a b (tS n A a b) = k0 at hlt hY2 g1 g2
    have g1' : M3 ((269 : Nat) : Int) ((k0 : Nat) : Int) = ((tR n A k0 : Nat) : Int) := (hf _ _ (by omega)).trans g1
    have g2' : M3 ((270 : Nat) : Int) ((k0 : Nat) : Int) = ((tQ n A k0 : Nat) : Int) := (hf _ _ (by omega)).trans g2
    have hv := hw.2.2.2.2 a b
    have hso := fun (l : zLoc) => l
    by_cases e : tv A a b = 1
    · rw [if_pos e] at hY2
      rw [e] at gv
      have hm := fun (K' : Option zV → zMem → Prop) (z : K' (some (0, ((k0 : Nat) : Int))) M3) => m_sortOf hO hS (s := tS n A a b) ht hn2 gb hw.f16 (show a < n by omega) hbn (K := K') (by rw [hke]; exact z)
      cases hs : tS n A a b
      all_goals
        rw [hs] at gS hY2 hm
        (first | (((with_reducible refine i_Blk (i_Seq (i_Set (i_Call (i_as1 (i_A0 (i_as1 (i_L1 (i_as1 (i_L3 (i_as1 (i_L4 (i_as1 (i_ZA (i_FR (i_A0 ?_)))))))))))))))); (with_reducible refine i_fldR (by assumption) ?_); (with_reducible refine i_Add (i_Mul (i_I (i_L3 (i_L4 ?_))))); rw [zx_cmul (by omega)]; rw [zx_add (by omega)]; (with_reducible refine i_in (by assumption) (by omega) (by omega) ?_); (with_reducible refine i_as0 ?_); (with_reducible refine i_recv0 (by assumption) ?_); (rw [gS]); rw [zbI_f]; (refine hm _ ⟨_, rfl, ?_⟩); (with_reducible refine i_Seq (i_Set (i_ZA (i_FR ?_)))); simp only [w_set0, w_set1, w_setn0, w_setn1]; (with_reducible refine i_A0 ?_); (with_reducible refine i_fldR (by assumption) ?_); (with_reducible refine i_Add (i_Mul (i_I (i_L3 (i_L4 ?_))))); rw [zx_cmul (by omega)]; rw [zx_add (by omega)]; (with_reducible refine i_in (by assumption) (by omega) (by omega) ?_); (with_reducible refine i_Seq (i_Ite (i_cI_eq (i_IA (i_FR ?_))))); (rw [gS]); rw [zbI_f]; simp only [w_set0, w_set1, w_setn0, w_setn1]; (with_reducible refine i_A0 ?_); (with_reducible refine i_fldR (by assumption) ?_); (with_reducible refine i_Add (i_Add (i_Mul (i_I (i_L1 (i_Mul (i_I (i_L3 (i_L4 ?_))))))))); rw [zx_cmul (by omega)]; rw [zx_cmul (by omega)]; rw [zx_add (by omega)]; rw [zx_add (by omega)]; (with_reducible refine i_in (by assumption) (by omega) (by omega) ?_); (with_reducible refine i_I ?_); (rw [gv]); rw [w_setT]; simp only [w_set0, w_set1, w_setn0, w_setn1]; rw [w_setT]; (with_reducible refine i_t (by omega) ?_); (with_reducible refine i_Set (i_eIf (i_cNot (i_cZ_ne (i_L6 ?_))))); (with_reducible refine i_f (by omega) ?_); (with_reducible refine i_I (i_Seq (i_sZA (i_FR ?_)))); simp only [w_set0, w_set1, w_setn0, w_setn1]; (with_reducible refine i_A0 ?_); (with_reducible refine i_fldR (by assumption) ?_); (with_reducible refine i_Add (i_Mul (i_I (i_L3 (i_L4 (i_L6 ?_)))))); rw [zx_cmul (by omega)]; rw [zx_add (by omega)]; (with_reducible refine i_zin (Or.inr rfl) (by assumption) (by omega) (by omega) ?_); (with_reducible refine i_sZA (i_FR (i_A0 ?_))); (with_reducible refine i_fldR (by assumption) ?_); (with_reducible refine i_Add (i_Mul (i_I (i_L4 (i_L3 (i_L6 ?_)))))); rw [zx_cmul (by omega)]; rw [zx_add (by omega)]; (with_reducible refine i_zin (Or.inr rfl) (by assumption) (by omega) (by omega) ?_))) | (((with_reducible refine i_Blk (i_Seq (i_Set (i_Call (i_as1 (i_A0 (i_as1 (i_L1 (i_as1 (i_L3 (i_as1 (i_L4 (i_as1 (i_ZA (i_FR (i_A0 ?_)))))))))))))))); (with_reducible refine i_fldR (by assumption) ?_); (with_reducible refine i_Add (i_Mul (i_I (i_L3 (i_L4 ?_))))); rw [zx_cmul (by omega)]; rw [zx_add (by omega)]; (with_reducible refine i_in (by assumption) (by omega) (by omega) ?_); (with_reducible refine i_as0 ?_); (with_reducible refine i_recv0 (by assumption) ?_); (rw [gS]); rw [zbI_t]; (refine hm _ ⟨_, rfl, ?_⟩); (with_reducible refine i_Seq (i_Set (i_ZA (i_FR ?_)))); simp only [w_set0, w_set1, w_setn0, w_setn1]; (with_reducible refine i_A0 ?_); (with_reducible refine i_fldR (by assumption) ?_); (with_reducible refine i_Add (i_Mul (i_I (i_L3 (i_L4 ?_))))); rw [zx_cmul (by omega)]; rw [zx_add (by omega)]; (with_reducible refine i_in (by assumption) (by omega) (by omega) ?_); (with_reducible refine i_Seq (i_Ite (i_cI_eq (i_IA (i_FR ?_))))); (rw [gS]); rw [zbI_t]; simp only [w_set0, w_set1, w_setn0, w_setn1]; (with_reducible refine i_A0 ?_); (with_reducible refine i_fldR (by assumption) ?_); (with_reducible refine i_Add (i_Add (i_Mul (i_I (i_L1 (i_Mul (i_I (i_L3 (i_L4 ?_))))))))); rw [zx_cmul (by omega)]; rw [zx_cmul (by omega)]; rw [zx_add (by omega)]; rw [zx_add (by omega)]; (with_reducible refine i_in (by assumption) (by omega) (by omega) ?_); (with_reducible refine i_I ?_); (rw [gv]); rw [w_setT]; simp only [w_set0, w_set1, w_setn0, w_setn1]; rw [w_setT]; (with_reducible refine i_t (by omega) ?_); (with_reducible refine i_Set (i_eIf (i_cNot (i_cZ_ne (i_L6 ?_))))); (with_reducible refine i_t (by omega) ?_); (with_reducible refine i_I (i_Seq (i_sZA (i_FR ?_)))); simp only [w_set0, w_set1, w_setn0, w_setn1]; (with_reducible refine i_A0 ?_); (with_reducible refine i_fldR (by assumption) ?_); (with_reducible refine i_Add (i_Mul (i_I (i_L3 (i_L4 (i_L6 ?_)))))); rw [zx_cmul (by omega)]; rw [zx_add (by omega)]; (with_reducible refine i_zin (Or.inl rfl) (by assumption) (by omega) (by omega) ?_); (with_reducible refine i_sZA (i_FR (i_A0 ?_))); (with_reducible refine i_fldR (by assumption) ?_); (with_reducible refine i_Add (i_Mul (i_I (i_L4 (i_L3 (i_L6 ?_)))))); rw [zx_cmul (by omega)]; rw [zx_add (by omega)]; (with_reducible refine i_zin (Or.inl rfl) (by assumption) (by omega) (by omega) ?_))))
        exact hY2 _ _ rfl
    · rw [if_neg e] at hY2
      have hm := fun (K' : Option zV → zMem → Prop) (z : K' (some (0, ((k0 : Nat) : Int))) M3) => m_sortOf hO hS (s := tS n A a b) ht hn2 gb hw.f16 (show a < n by omega) hbn (K := K') (by rw [hke]; exact z)
      by_cases c1 : 0 < tQ n A k0 ∧ tQ n A k0 < tR n A k0
      · rw [if_pos c1] at hY2
        ((with_reducible refine i_Blk (i_Seq (i_Set (i_Call (i_as1 (i_A0 (i_as1 (i_L1 (i_as1 (i_L3 (i_as1 (i_L4 (i_as1 (i_ZA (i_FR (i_A0 ?_)))))))))))))))); (with_reducible refine i_fldR (by assumption) ?_); (with_reducible refine i_Add (i_Mul (i_I (i_L3 (i_L4 ?_))))); rw [zx_cmul (by omega)]; rw [zx_add (by omega)]; (with_reducible refine i_in (by assumption) (by omega) (by omega) ?_); (with_reducible refine i_as0 ?_); (with_reducible refine i_recv0 (by assumption) ?_); (rw [gS]); (refine hm _ ⟨_, rfl, ?_⟩); (with_reducible refine i_Seq (i_Set (i_ZA (i_FR ?_)))); simp only [w_set0, w_set1, w_setn0, w_setn1]; (with_reducible refine i_A0 ?_); (with_reducible refine i_fldR (by assumption) ?_); (with_reducible refine i_Add (i_Mul (i_I (i_L3 (i_L4 ?_))))); rw [zx_cmul (by omega)]; rw [zx_add (by omega)]; (with_reducible refine i_in (by assumption) (by omega) (by omega) ?_); (with_reducible refine i_Seq (i_Ite (i_cI_eq (i_IA (i_FR ?_))))); (rw [gS]); simp only [w_set0, w_set1, w_setn0, w_setn1]; (with_reducible refine i_A0 ?_); (with_reducible refine i_fldR (by assumption) ?_); (with_reducible refine i_Add (i_Add (i_Mul (i_I (i_L1 (i_Mul (i_I (i_L3 (i_L4 ?_))))))))); rw [zx_cmul (by omega)]; rw [zx_cmul (by omega)]; rw [zx_add (by omega)]; rw [zx_add (by omega)]; (with_reducible refine i_in (by assumption) (by omega) (by omega) ?_); (with_reducible refine i_I ?_); (rw [gv]); ((with_reducible refine i_f (show ¬ (((tv A a b : Nat) : Int) : Int) = 1 by omega) ?_)); (with_reducible refine i_Ite (i_cAnd (i_cZ_gt (i_IA (i_FR (i_A0 ?_)))))); (with_reducible refine i_fldR (by assumption) ?_); rw [w_setT]; simp only [w_set0, w_set1, w_setn0, w_setn1]; (with_reducible refine i_L5 ?_); (with_reducible refine i_in (by assumption) (by omega) (by omega) ?_); (rw [g2']); rw [w_setT]; (with_reducible refine i_t (by omega) ?_); (with_reducible refine i_cI_lt (i_IA (i_FR (i_A0 ?_)))); (with_reducible refine i_fldR (by assumption) ?_); (with_reducible refine i_L5 ?_); (with_reducible refine i_in (by assumption) (by omega) (by omega) ?_); (with_reducible refine i_IA (i_FR (i_A0 ?_))); (with_reducible refine i_fldR (by assumption) ?_); (with_reducible refine i_L5 ?_); (with_reducible refine i_in (by assumption) (by omega) (by omega) ?_); (rw [g1']); (rw [g2']); (with_reducible refine i_t (by omega) ?_); (with_reducible refine i_Set (i_L2 (i_Seq (i_sZA (i_FR ?_))))); simp only [w_set0, w_set1, w_setn0, w_setn1]; (with_reducible refine i_A0 ?_); (with_reducible refine i_fldR (by assumption) ?_); (with_reducible refine i_Add (i_Mul (i_I (i_L3 (i_L4 (i_L6 ?_)))))); rw [zx_cmul (by omega)]; rw [zx_add (by omega)]; (with_reducible refine i_zin (zbI_01 _) (by assumption) (by omega) (by omega) ?_); (with_reducible refine i_sZA (i_FR (i_A0 ?_))); (with_reducible refine i_fldR (by assumption) ?_); (with_reducible refine i_Add (i_Mul (i_I (i_L4 (i_L3 (i_L6 ?_)))))); rw [zx_cmul (by omega)]; rw [zx_add (by omega)]; (with_reducible refine i_zin (zbI_01 _) (by assumption) (by omega) (by omega) ?_))
        exact hY2 _ _ rfl
      · rw [if_neg c1] at hY2
        by_cases c2 : 0 < tQ n A k0
        · rw [if_pos c2] at hY2
          cases hs : tS n A a b
          all_goals
            rw [hs] at gS hY2 hm
            (first | (((with_reducible refine i_Blk (i_Seq (i_Set (i_Call (i_as1 (i_A0 (i_as1 (i_L1 (i_as1 (i_L3 (i_as1 (i_L4 (i_as1 (i_ZA (i_FR (i_A0 ?_)))))))))))))))); (with_reducible refine i_fldR (by assumption) ?_); (with_reducible refine i_Add (i_Mul (i_I (i_L3 (i_L4 ?_))))); rw [zx_cmul (by omega)]; rw [zx_add (by omega)]; (with_reducible refine i_in (by assumption) (by omega) (by omega) ?_); (with_reducible refine i_as0 ?_); (with_reducible refine i_recv0 (by assumption) ?_); (rw [gS]); rw [zbI_f]; (refine hm _ ⟨_, rfl, ?_⟩); (with_reducible refine i_Seq (i_Set (i_ZA (i_FR ?_)))); simp only [w_set0, w_set1, w_setn0, w_setn1]; (with_reducible refine i_A0 ?_); (with_reducible refine i_fldR (by assumption) ?_); (with_reducible refine i_Add (i_Mul (i_I (i_L3 (i_L4 ?_))))); rw [zx_cmul (by omega)]; rw [zx_add (by omega)]; (with_reducible refine i_in (by assumption) (by omega) (by omega) ?_); (with_reducible refine i_Seq (i_Ite (i_cI_eq (i_IA (i_FR ?_))))); (rw [gS]); rw [zbI_f]; simp only [w_set0, w_set1, w_setn0, w_setn1]; (with_reducible refine i_A0 ?_); (with_reducible refine i_fldR (by assumption) ?_); (with_reducible refine i_Add (i_Add (i_Mul (i_I (i_L1 (i_Mul (i_I (i_L3 (i_L4 ?_))))))))); rw [zx_cmul (by omega)]; rw [zx_cmul (by omega)]; rw [zx_add (by omega)]; rw [zx_add (by omega)]; (with_reducible refine i_in (by assumption) (by omega) (by omega) ?_); (with_reducible refine i_I ?_); (rw [gv]); ((with_reducible refine i_f (show ¬ (((tv A a b : Nat) : Int) : Int) = 1 by omega) ?_)); (with_reducible refine i_Ite (i_cAnd (i_cZ_gt (i_IA (i_FR (i_A0 ?_)))))); (with_reducible refine i_fldR (by assumption) ?_); rw [w_setT]; simp only [w_set0, w_set1, w_setn0, w_setn1]; (with_reducible refine i_L5 ?_); (with_reducible refine i_in (by assumption) (by omega) (by omega) ?_); (rw [g2']); rw [w_setT]; (with_reducible refine i_t (by omega) ?_); (with_reducible refine i_cI_lt (i_IA (i_FR (i_A0 ?_)))); (with_reducible refine i_fldR (by assumption) ?_); (with_reducible refine i_L5 ?_); (with_reducible refine i_in (by assumption) (by omega) (by omega) ?_); (with_reducible refine i_IA (i_FR (i_A0 ?_))); (with_reducible refine i_fldR (by assumption) ?_); (with_reducible refine i_L5 ?_); (with_reducible refine i_in (by assumption) (by omega) (by omega) ?_); (rw [g1']); (rw [g2']); (with_reducible refine i_f (by omega) ?_); (with_reducible refine i_If (i_cZ_gt (i_IA (i_FR (i_A0 ?_))))); (with_reducible refine i_fldR (by assumption) ?_); (with_reducible refine i_L5 ?_); (with_reducible refine i_in (by assumption) (by omega) (by omega) ?_); (rw [g2']); (with_reducible refine i_t (by omega) ?_); (with_reducible refine i_Set (i_eIf (i_cNot (i_cZ_ne (i_L6 ?_))))); (with_reducible refine i_f (by omega) ?_); (with_reducible refine i_I (i_Seq (i_sZA (i_FR ?_)))); simp only [w_set0, w_set1, w_setn0, w_setn1]; (with_reducible refine i_A0 ?_); (with_reducible refine i_fldR (by assumption) ?_); (with_reducible refine i_Add (i_Mul (i_I (i_L3 (i_L4 (i_L6 ?_)))))); rw [zx_cmul (by omega)]; rw [zx_add (by omega)]; (with_reducible refine i_zin (Or.inr rfl) (by assumption) (by omega) (by omega) ?_); (with_reducible refine i_sZA (i_FR (i_A0 ?_))); (with_reducible refine i_fldR (by assumption) ?_); (with_reducible refine i_Add (i_Mul (i_I (i_L4 (i_L3 (i_L6 ?_)))))); rw [zx_cmul (by omega)]; rw [zx_add (by omega)]; (with_reducible refine i_zin (Or.inr rfl) (by assumption) (by omega) (by omega) ?_))) | (((with_reducible refine i_Blk (i_Seq (i_Set (i_Call (i_as1 (i_A0 (i_as1 (i_L1 (i_as1 (i_L3 (i_as1 (i_L4 (i_as1 (i_ZA (i_FR (i_A0 ?_)))))))))))))))); (with_reducible refine i_fldR (by assumption) ?_); (with_reducible refine i_Add (i_Mul (i_I (i_L3 (i_L4 ?_))))); rw [zx_cmul (by omega)]; rw [zx_add (by omega)]; (with_reducible refine i_in (by assumption) (by omega) (by omega) ?_); (with_reducible refine i_as0 ?_); (with_reducible refine i_recv0 (by assumption) ?_); (rw [gS]); rw [zbI_t]; (refine hm _ ⟨_, rfl, ?_⟩); (with_reducible refine i_Seq (i_Set (i_ZA (i_FR ?_)))); simp only [w_set0, w_set1, w_setn0, w_setn1]; (with_reducible refine i_A0 ?_); (with_reducible refine i_fldR (by assumption) ?_); (with_reducible refine i_Add (i_Mul (i_I (i_L3 (i_L4 ?_))))); rw [zx_cmul (by omega)]; rw [zx_add (by omega)]; (with_reducible refine i_in (by assumption) (by omega) (by omega) ?_); (with_reducible refine i_Seq (i_Ite (i_cI_eq (i_IA (i_FR ?_))))); (rw [gS]); rw [zbI_t]; simp only [w_set0, w_set1, w_setn0, w_setn1]; (with_reducible refine i_A0 ?_); (with_reducible refine i_fldR (by assumption) ?_); (with_reducible refine i_Add (i_Add (i_Mul (i_I (i_L1 (i_Mul (i_I (i_L3 (i_L4 ?_))))))))); rw [zx_cmul (by omega)]; rw [zx_cmul (by omega)]; rw [zx_add (by omega)]; rw [zx_add (by omega)]; (with_reducible refine i_in (by assumption) (by omega) (by omega) ?_); (with_reducible refine i_I ?_); (rw [gv]); ((with_reducible refine i_f (show ¬ (((tv A a b : Nat) : Int) : Int) = 1 by omega) ?_)); (with_reducible refine i_Ite (i_cAnd (i_cZ_gt (i_IA (i_FR (i_A0 ?_)))))); (with_reducible refine i_fldR (by assumption) ?_); rw [w_setT]; simp only [w_set0, w_set1, w_setn0, w_setn1]; (with_reducible refine i_L5 ?_); (with_reducible refine i_in (by assumption) (by omega) (by omega) ?_); (rw [g2']); rw [w_setT]; (with_reducible refine i_t (by omega) ?_); (with_reducible refine i_cI_lt (i_IA (i_FR (i_A0 ?_)))); (with_reducible refine i_fldR (by assumption) ?_); (with_reducible refine i_L5 ?_); (with_reducible refine i_in (by assumption) (by omega) (by omega) ?_); (with_reducible refine i_IA (i_FR (i_A0 ?_))); (with_reducible refine i_fldR (by assumption) ?_); (with_reducible refine i_L5 ?_); (with_reducible refine i_in (by assumption) (by omega) (by omega) ?_); (rw [g1']); (rw [g2']); (with_reducible refine i_f (by omega) ?_); (with_reducible refine i_If (i_cZ_gt (i_IA (i_FR (i_A0 ?_))))); (with_reducible refine i_fldR (by assumption) ?_); (with_reducible refine i_L5 ?_); (with_reducible refine i_in (by assumption) (by omega) (by omega) ?_); (rw [g2']); (with_reducible refine i_t (by omega) ?_); (with_reducible refine i_Set (i_eIf (i_cNot (i_cZ_ne (i_L6 ?_))))); (with_reducible refine i_t (by omega) ?_); (with_reducible refine i_I (i_Seq (i_sZA (i_FR ?_)))); simp only [w_set0, w_set1, w_setn0, w_setn1]; (with_reducible refine i_A0 ?_); (with_reducible refine i_fldR (by assumption) ?_); (with_reducible refine i_Add (i_Mul (i_I (i_L3 (i_L4 (i_L6 ?_)))))); rw [zx_cmul (by omega)]; rw [zx_add (by omega)]; (with_reducible refine i_zin (Or.inl rfl) (by assumption) (by omega) (by omega) ?_); (with_reducible refine i_sZA (i_FR (i_A0 ?_))); (with_reducible refine i_fldR (by assumption) ?_); (with_reducible refine i_Add (i_Mul (i_I (i_L4 (i_L3 (i_L6 ?_)))))); rw [zx_cmul (by omega)]; rw [zx_add (by omega)]; (with_reducible refine i_zin (Or.inl rfl) (by assumption) (by omega) (by omega) ?_))))
            exact hY2 _ _ rfl
        · rw [if_neg c2] at hY2
          ((with_reducible refine i_Blk (i_Seq (i_Set (i_Call (i_as1 (i_A0 (i_as1 (i_L1 (i_as1 (i_L3 (i_as1 (i_L4 (i_as1 (i_ZA (i_FR (i_A0 ?_)))))))))))))))); (with_reducible refine i_fldR (by assumption) ?_); (with_reducible refine i_Add (i_Mul (i_I (i_L3 (i_L4 ?_))))); rw [zx_cmul (by omega)]; rw [zx_add (by omega)]; (with_reducible refine i_in (by assumption) (by omega) (by omega) ?_); (with_reducible refine i_as0 ?_); (with_reducible refine i_recv0 (by assumption) ?_); (rw [gS]); (refine hm _ ⟨_, rfl, ?_⟩); (with_reducible refine i_Seq (i_Set (i_ZA (i_FR ?_)))); simp only [w_set0, w_set1, w_setn0, w_setn1]; (with_reducible refine i_A0 ?_); (with_reducible refine i_fldR (by assumption) ?_); (with_reducible refine i_Add (i_Mul (i_I (i_L3 (i_L4 ?_))))); rw [zx_cmul (by omega)]; rw [zx_add (by omega)]; (with_reducible refine i_in (by assumption) (by omega) (by omega) ?_); (with_reducible refine i_Seq (i_Ite (i_cI_eq (i_IA (i_FR ?_))))); (rw [gS]); simp only [w_set0, w_set1, w_setn0, w_setn1]; (with_reducible refine i_A0 ?_); (with_reducible refine i_fldR (by assumption) ?_); (with_reducible refine i_Add (i_Add (i_Mul (i_I (i_L1 (i_Mul (i_I (i_L3 (i_L4 ?_))))))))); rw [zx_cmul (by omega)]; rw [zx_cmul (by omega)]; rw [zx_add (by omega)]; rw [zx_add (by omega)]; (with_reducible refine i_in (by assumption) (by omega) (by omega) ?_); (with_reducible refine i_I ?_); (rw [gv]); ((with_reducible refine i_f (show ¬ (((tv A a b : Nat) : Int) : Int) = 1 by omega) ?_)); (with_reducible refine i_Ite (i_cAnd (i_cZ_gt (i_IA (i_FR (i_A0 ?_)))))); (with_reducible refine i_fldR (by assumption) ?_); rw [w_setT]; simp only [w_set0, w_set1, w_setn0, w_setn1]; (with_reducible refine i_L5 ?_); (with_reducible refine i_in (by assumption) (by omega) (by omega) ?_); (rw [g2']); rw [w_setT]; (with_reducible refine i_f (by omega) ?_); (with_reducible refine i_If (i_cZ_gt (i_IA (i_FR (i_A0 ?_))))); (with_reducible refine i_fldR (by assumption) ?_); (with_reducible refine i_L5 ?_); (with_reducible refine i_in (by assumption) (by omega) (by omega) ?_); (rw [g2']); (with_reducible refine i_f (by omega) ?_); (with_reducible refine i_Seq (i_sZA (i_FR (i_A0 ?_)))); (with_reducible refine i_fldR (by assumption) ?_); (with_reducible refine i_Add (i_Mul (i_I (i_L3 (i_L4 (i_L6 ?_)))))); rw [zx_cmul (by omega)]; rw [zx_add (by omega)]; (with_reducible refine i_zin (zbI_01 _) (by assumption) (by omega) (by omega) ?_); (with_reducible refine i_sZA (i_FR (i_A0 ?_))); (with_reducible refine i_fldR (by assumption) ?_); (with_reducible refine i_Add (i_Mul (i_I (i_L4 (i_L3 (i_L6 ?_)))))); rw [zx_cmul (by omega)]; rw [zx_add (by omega)]; (with_reducible refine i_zin (zbI_01 _) (by assumption) (by omega) (by omega) ?_))
          exact hY2 _ _ rfl
  · rintro l M3 ⟨hf, h⟩
    simp only [List.cons_append, List.nil_append]
    (with_reducible refine i_RetV ?_)
    exact hk _ hf (fun p q hp hq hpq => h p q hp hq hpq (by omega))
theorem m_farOf {O : zOm} (hO : zWld O) (hS : zS O = zmS zC0) {n a b : Nat} {L : Nat → Nat → Bool} {M : zMem} {K : Option zV → zMem → Prop} (hn : M 250 ((1 : Nat) : Int) = ((n : Nat) : Int)) (hn2 : n ≤ 16) (hL : rLk M n L) (hL0 : ∀ p, L p p = false) (ha : a < n) (hb : b < n)
    (hk : ∀ M', (∀ b j, ¬ b = ((290 : Nat) : Int) → M' b j = M b j) → K (some (0, ((zfar n L a b : Nat) : Int))) M') : zR O F_Model_farOf [(2, 250), (0, ((a : Nat) : Int)), (0, ((b : Nat) : Int))] M K := by
  apply r_Model_farOf hO
  unfold B_Model_farOf
  have f1 := zMF (k := 1) hS rfl; have f54 := zMF (k := 54) hS rfl; have a290 := zMA (a := 290) (ty := .int) (n := 16) hS rfl; have f53 := zMF (k := 53) hS rfl; have a289 := zMA (a := 289) (ty := .boolean) (n := 256) hS rfl; have zo := zMO hS
  ((with_reducible refine i_Seq (i_Blk (i_Seq (i_Set (i_I ?_))))); simp only [w_set0, w_set1, w_setn0, w_setn1])
  refine w_ForN n (fun k ρ M' => (∃ l, ρ = 250 :: ((a : Nat) : Int) :: ((b : Nat) : Int) :: ((k : Nat) : Int) :: l) ∧ (∀ b j, ¬ b = ((290 : Nat) : Int) → M' b j = M b j) ∧ ∀ q : Nat, q < k → M' ((290 : Nat) : Int) ((q : Nat) : Int) = ((if q = a then 0 else n : Nat) : Int)) ⟨⟨_, rfl⟩, fun _ _ _ => rfl, fun j hj => absurd hj (Nat.not_lt_zero _)⟩ ?_ ?_
  · rintro k ρ M9 X hk1 ⟨⟨l, rfl⟩, hf, h⟩ hX
    have gn : M9 250 ((1 : Nat) : Int) = ((n : Nat) : Int) := (hf _ _ (by omega)).trans hn
    have fin : ∀ (l : zLoc) (v : Nat), v = (if k = a then 0 else n) → X (250 :: ((a : Nat) : Int) :: ((b : Nat) : Int) :: ((k + 1 : Nat) : Int) :: l) (zput M9 ((290 : Nat) : Int) (zup (M9 ((290 : Nat) : Int)) ((k : Nat) : Int) ((v : Nat) : Int))) := fun l v hv => by
      subst hv
      refine hX _ _ ⟨⟨_, rfl⟩, fun b j q => by rw [zg_n _ _ _ q]; exact hf b j q, fun j hj => ?_⟩
      by_cases e : j = k
      · subst e; rw [zg_s]
      · rw [zg_m _ _ _ _ _ (by omega)]; exact h j (by omega)
    clear hX
    by_cases e : k = a
    · ((with_reducible refine i_turn (i_cI_lt (i_L3 (i_F (i_A0 ?_))))); (with_reducible refine i_fld (by assumption) ?_); (rw [gn]); (with_reducible refine i_t (by omega) ?_); (with_reducible refine i_sIA (i_FR (i_A0 ?_))); (with_reducible refine i_fldR (by assumption) ?_); (with_reducible refine i_L3 (i_eIf (i_cI_eq (i_L3 (i_L1 ?_))))); (with_reducible refine i_t (by omega) ?_); (with_reducible refine i_I ?_); (with_reducible refine i_in (by assumption) (by omega) (by omega) ?_); (with_reducible refine i_up (i_Inc3 ?_)); rw [zx_inc (by omega)]; simp only [w_set0, w_set1, w_setn0, w_setn1])
      exact fin _ 0 (by rw [if_pos e])
    · ((with_reducible refine i_turn (i_cI_lt (i_L3 (i_F (i_A0 ?_))))); (with_reducible refine i_fld (by assumption) ?_); (rw [gn]); (with_reducible refine i_t (by omega) ?_); (with_reducible refine i_sIA (i_FR (i_A0 ?_))); (with_reducible refine i_fldR (by assumption) ?_); (with_reducible refine i_L3 (i_eIf (i_cI_eq (i_L3 (i_L1 ?_))))); (with_reducible refine i_f (by omega) ?_); (with_reducible refine i_F (i_A0 ?_)); (with_reducible refine i_fld (by assumption) ?_); (with_reducible refine i_in (by assumption) (by omega) (by omega) ?_); (with_reducible refine i_up (i_Inc3 ?_)); (rw [gn]); rw [zx_inc (by omega)]; simp only [w_set0, w_set1, w_setn0, w_setn1])
      exact fin _ n (by rw [if_neg e])
  rintro ρ M2 X ⟨⟨l, rfl⟩, hf2, hz2⟩
  have gn2 : M2 250 ((1 : Nat) : Int) = ((n : Nat) : Int) := (hf2 _ _ (by omega)).trans hn
  ((with_reducible refine i_turn (i_cI_lt (i_L3 (i_F (i_A0 ?_))))); (with_reducible refine i_fld (by assumption) ?_); (rw [gn2]); (with_reducible refine i_f (by omega) ?_); (with_reducible refine i_Seq (i_Blk (i_Seq (i_Set (i_I ?_))))); simp only [w_set0, w_set1, w_setn0, w_setn1])
  refine w_ForN n (fun d ρ M' => (∃ l, ρ = 250 :: ((a : Nat) : Int) :: ((b : Nat) : Int) :: ((d : Nat) : Int) :: l) ∧ (∀ b j, ¬ b = ((290 : Nat) : Int) → M' b j = M b j) ∧ ∀ q : Nat, q < n → M' ((290 : Nat) : Int) ((q : Nat) : Int) = ((if zfar n L a q ≤ d then zfar n L a q else n : Nat) : Int)) ⟨⟨_, rfl⟩, hf2, fun q hq => ?_⟩ ?_ ?_
  · rw [hz2 q hq]
    have h0 : zfar n L a q ≤ 0 ↔ q = a := by
      rw [zfar_lt (by omega)]
      exact ⟨fun h => of_decide_eq_true h, fun h => decide_eq_true h⟩
    by_cases e : q = a
    · have := h0.mpr e
      rw [if_pos e, if_pos this]; omega
    · rw [if_neg e, if_neg (fun z => e (h0.mp z))]
  · rintro d ρ M3 X3 hd ⟨⟨l3, rfl⟩, hf3, h3⟩ hX3
    have gn3 : M3 250 ((1 : Nat) : Int) = ((n : Nat) : Int) := (hf3 _ _ (by omega)).trans hn
    ((with_reducible refine i_turn (i_cI_lt (i_L3 (i_F (i_A0 ?_))))); (with_reducible refine i_fld (by assumption) ?_); (rw [gn3]); (with_reducible refine i_t (by omega) ?_); (with_reducible refine i_Blk (i_Seq (i_Set (i_I ?_)))); simp only [w_set0, w_set1, w_setn0, w_setn1]; rw [w_setT])
    -- posts gone through: those at d with their neighbours
    refine w_ForN n (fun p ρ M' => (∃ l, ρ = 250 :: ((a : Nat) : Int) :: ((b : Nat) : Int) :: ((d : Nat) : Int) :: ((p : Nat) : Int) :: l) ∧ (∀ b j, ¬ b = ((290 : Nat) : Int) → M' b j = M b j) ∧ ∀ q : Nat, q < n → M' ((290 : Nat) : Int) ((q : Nat) : Int) = ((if zfar n L a q ≤ d then zfar n L a q else if ∃ r, r < p ∧ zfar n L a r = d ∧ L r q = true then min (d + 1) n else n : Nat) : Int)) ⟨⟨_, rfl⟩, hf3, fun q hq => ?_⟩ ?_ ?_
    · rw [h3 q hq]
      by_cases e : zfar n L a q ≤ d
      · rw [if_pos e, if_pos e]
      · rw [if_neg e, if_neg e, if_neg (fun ⟨r, h, _⟩ => absurd h (Nat.not_lt_zero _))]
    · rintro p ρ M4 X4 hp ⟨⟨l4, rfl⟩, hf4, h4⟩ hX4
      have gn4 : M4 250 ((1 : Nat) : Int) = ((n : Nat) : Int) := (hf4 _ _ (by omega)).trans hn
      have gp := h4 p hp
      have hfl := zfar_le n L a p
      by_cases ed : zfar n L a p = d
      · rw [if_pos (by omega), ed] at gp
        ((with_reducible refine i_turn (i_cI_lt (i_L4 (i_F (i_A0 ?_))))); (with_reducible refine i_fld (by assumption) ?_); (rw [gn4]); (with_reducible refine i_t (by omega) ?_); (with_reducible refine i_Seq (i_IfBrk (i_cI_ne (i_IA (i_FR (i_A0 ?_)))))); (with_reducible refine i_fldR (by assumption) ?_); (with_reducible refine i_L4 ?_); (with_reducible refine i_in (by assumption) (by omega) (by omega) ?_); (with_reducible refine i_L3 ?_); (rw [gp]); (with_reducible refine i_f (by omega) ?_); (with_reducible refine i_Blk (i_Seq (i_Set (i_I ?_)))); simp only [w_set0, w_set1, w_setn0, w_setn1]; rw [w_setT])
        refine w_ForN n (fun q ρ M' => (∃ l, ρ = 250 :: ((a : Nat) : Int) :: ((b : Nat) : Int) :: ((d : Nat) : Int) :: ((p : Nat) : Int) :: ((q : Nat) : Int) :: l) ∧ (∀ b j, ¬ b = ((290 : Nat) : Int) → M' b j = M b j) ∧ ∀ x : Nat, x < n → M' ((290 : Nat) : Int) ((x : Nat) : Int) = ((if zfar n L a x ≤ d then zfar n L a x else if (∃ r, r < p ∧ zfar n L a r = d ∧ L r x = true) ∨ x < q ∧ L p x = true then min (d + 1) n else n : Nat) : Int)) ⟨⟨_, rfl⟩, hf4, fun x hx => ?_⟩ ?_ ?_
        · rw [h4 x hx]
          by_cases e : zfar n L a x ≤ d
          · rw [if_pos e, if_pos e]
          · rw [if_neg e, if_neg e]
            by_cases w : ∃ r, r < p ∧ zfar n L a r = d ∧ L r x = true
            · rw [if_pos w, if_pos (Or.inl w)]
            · rw [if_neg w, if_neg (fun z => by rcases z with z | z; exact w z; exact absurd z.1 (Nat.not_lt_zero _))]
        · rintro q ρ M5 X5 hq ⟨⟨l5, rfl⟩, hf5, h5⟩ hX5
          have gn5 : M5 250 ((1 : Nat) : Int) = ((n : Nat) : Int) := (hf5 _ _ (by omega)).trans hn
          have gq := h5 q hq
          have stay : (∀ x : Nat, x < n → x = q → (if zfar n L a x ≤ d then zfar n L a x else if (∃ r, r < p ∧ zfar n L a r = d ∧ L r x = true) ∨ x < q ∧ L p x = true then min (d + 1) n else n) = (if zfar n L a x ≤ d then zfar n L a x else if (∃ r, r < p ∧ zfar n L a r = d ∧ L r x = true) ∨ x < q + 1 ∧ L p x = true then min (d + 1) n else n)) → ∀ l : zLoc, X5 (250 :: ((a : Nat) : Int) :: ((b : Nat) : Int) :: ((d : Nat) : Int) :: ((p : Nat) : Int) :: ((q + 1 : Nat) : Int) :: l) M5 := fun he l => hX5 _ _ ⟨⟨l, rfl⟩, hf5, fun x hx => by
            by_cases e : x = q
            · rw [h5 x hx, he x hx e]
            · rw [h5 x hx]
              have : (x < q ∧ L p x = true) ↔ (x < q + 1 ∧ L p x = true) := ⟨fun z => ⟨by omega, z.2⟩, fun z => ⟨by omega, z.2⟩⟩
              simp only [this]⟩
          by_cases epq : p = q
          · ((with_reducible refine i_turn (i_cI_lt (i_L5 (i_F (i_A0 ?_))))); (with_reducible refine i_fld (by assumption) ?_); (rw [gn5]); (with_reducible refine i_t (by omega) ?_); (with_reducible refine i_If (i_cAnd (i_cAnd (i_cI_ne (i_L4 (i_L5 ?_)))))); (with_reducible refine i_f (by omega) ?_); (with_reducible refine i_up (i_Inc5 ?_)); rw [zx_inc (by omega)]; simp only [w_set0, w_set1, w_setn0, w_setn1])
            refine stay (fun x hx e => ?_) _
            have : zfar n L a x ≤ d := by rw [e, ← epq]; omega
            rw [if_pos this, if_pos this]
          · have gL : M5 ((289 : Nat) : Int) ((16 * p + q : Nat) : Int) = zbI (L p q) := (hf5 _ _ (by omega)).trans (hL p q hp hq epq)
            cases hLq : L p q
            · rw [hLq] at gL
              ((with_reducible refine i_turn (i_cI_lt (i_L5 (i_F (i_A0 ?_))))); (with_reducible refine i_fld (by assumption) ?_); (rw [gn5]); (with_reducible refine i_t (by omega) ?_); (with_reducible refine i_If (i_cAnd (i_cAnd (i_cI_ne (i_L4 (i_L5 ?_)))))); (with_reducible refine i_t (by omega) ?_); (with_reducible refine i_cZ_ne (i_ZA (i_FR (i_A0 ?_)))); (with_reducible refine i_fldR (by assumption) ?_); (with_reducible refine i_Add (i_Mul (i_I (i_L4 (i_L5 ?_))))); rw [zx_cmul (by omega)]; rw [zx_add (by omega)]; (with_reducible refine i_in (by assumption) (by omega) (by omega) ?_); (rw [gL]); rw [zbI_f]; (with_reducible refine i_f (by omega) ?_); (with_reducible refine i_up (i_Inc5 ?_)); rw [zx_inc (by omega)]; simp only [w_set0, w_set1, w_setn0, w_setn1])
              refine stay (fun x hx e => ?_) _
              subst e
              simp only [hLq, Bool.false_eq_true, and_false]
            · rw [hLq] at gL
              by_cases e1 : zfar n L a q ≤ d
              · rw [if_pos e1] at gq
                ((with_reducible refine i_turn (i_cI_lt (i_L5 (i_F (i_A0 ?_))))); (with_reducible refine i_fld (by assumption) ?_); (rw [gn5]); (with_reducible refine i_t (by omega) ?_); (with_reducible refine i_If (i_cAnd (i_cAnd (i_cI_ne (i_L4 (i_L5 ?_)))))); (with_reducible refine i_t (by omega) ?_); (with_reducible refine i_cZ_ne (i_ZA (i_FR (i_A0 ?_)))); (with_reducible refine i_fldR (by assumption) ?_); (with_reducible refine i_Add (i_Mul (i_I (i_L4 (i_L5 ?_))))); rw [zx_cmul (by omega)]; rw [zx_add (by omega)]; (with_reducible refine i_in (by assumption) (by omega) (by omega) ?_); (rw [gL]); rw [zbI_t]; (with_reducible refine i_t (by omega) ?_); (with_reducible refine i_cI_gt (i_IA (i_FR (i_A0 ?_)))); (with_reducible refine i_fldR (by assumption) ?_); (with_reducible refine i_L5 ?_); (with_reducible refine i_in (by assumption) (by omega) (by omega) ?_); (with_reducible refine i_Add (i_L3 (i_I ?_))); (rw [gq]); rw [zx_inc (by omega)]; (with_reducible refine i_f (by omega) ?_); (with_reducible refine i_up (i_Inc5 ?_)); rw [zx_inc (by omega)]; simp only [w_set0, w_set1, w_setn0, w_setn1])
                refine stay (fun x hx e => ?_) _
                subst e
                rw [if_pos e1, if_pos e1]
              · rw [if_neg e1] at gq
                by_cases e2 : (∃ r, r < p ∧ zfar n L a r = d ∧ L r q = true) ∨ q < q ∧ L p q = true
                · rw [if_pos e2] at gq
                  ((with_reducible refine i_turn (i_cI_lt (i_L5 (i_F (i_A0 ?_))))); (with_reducible refine i_fld (by assumption) ?_); (rw [gn5]); (with_reducible refine i_t (by omega) ?_); (with_reducible refine i_If (i_cAnd (i_cAnd (i_cI_ne (i_L4 (i_L5 ?_)))))); (with_reducible refine i_t (by omega) ?_); (with_reducible refine i_cZ_ne (i_ZA (i_FR (i_A0 ?_)))); (with_reducible refine i_fldR (by assumption) ?_); (with_reducible refine i_Add (i_Mul (i_I (i_L4 (i_L5 ?_))))); rw [zx_cmul (by omega)]; rw [zx_add (by omega)]; (with_reducible refine i_in (by assumption) (by omega) (by omega) ?_); (rw [gL]); rw [zbI_t]; (with_reducible refine i_t (by omega) ?_); (with_reducible refine i_cI_gt (i_IA (i_FR (i_A0 ?_)))); (with_reducible refine i_fldR (by assumption) ?_); (with_reducible refine i_L5 ?_); (with_reducible refine i_in (by assumption) (by omega) (by omega) ?_); (with_reducible refine i_Add (i_L3 (i_I ?_))); (rw [gq]); rw [zx_inc (by omega)]; (with_reducible refine i_f (by omega) ?_); (with_reducible refine i_up (i_Inc5 ?_)); rw [zx_inc (by omega)]; simp only [w_set0, w_set1, w_setn0, w_setn1])
                  refine stay (fun x hx e => ?_) _
                  subst e
                  rw [if_neg e1, if_neg e1, if_pos e2, if_pos (by rcases e2 with z | z; exact Or.inl z; exact absurd z.1 (Nat.lt_irrefl _))]
                · rw [if_neg e2] at gq
                  by_cases e3 : d + 1 < n
                  · ((with_reducible refine i_turn (i_cI_lt (i_L5 (i_F (i_A0 ?_))))); (with_reducible refine i_fld (by assumption) ?_); (rw [gn5]); (with_reducible refine i_t (by omega) ?_); (with_reducible refine i_If (i_cAnd (i_cAnd (i_cI_ne (i_L4 (i_L5 ?_)))))); (with_reducible refine i_t (by omega) ?_); (with_reducible refine i_cZ_ne (i_ZA (i_FR (i_A0 ?_)))); (with_reducible refine i_fldR (by assumption) ?_); (with_reducible refine i_Add (i_Mul (i_I (i_L4 (i_L5 ?_))))); rw [zx_cmul (by omega)]; rw [zx_add (by omega)]; (with_reducible refine i_in (by assumption) (by omega) (by omega) ?_); (rw [gL]); rw [zbI_t]; (with_reducible refine i_t (by omega) ?_); (with_reducible refine i_cI_gt (i_IA (i_FR (i_A0 ?_)))); (with_reducible refine i_fldR (by assumption) ?_); (with_reducible refine i_L5 ?_); (with_reducible refine i_in (by assumption) (by omega) (by omega) ?_); (with_reducible refine i_Add (i_L3 (i_I ?_))); (rw [gq]); rw [zx_inc (by omega)]; (with_reducible refine i_t (by omega) ?_); (with_reducible refine i_sIA (i_FR (i_A0 ?_))); (with_reducible refine i_fldR (by assumption) ?_); (with_reducible refine i_L5 (i_Add (i_L3 (i_I ?_)))); (with_reducible refine i_in (by assumption) (by omega) (by omega) ?_); (with_reducible refine i_up (i_Inc5 ?_)); rw [zx_inc (by omega)]; rw [zx_inc (by omega)]; simp only [w_set0, w_set1, w_setn0, w_setn1])
                    refine hX5 _ _ ⟨⟨_, rfl⟩, fun b j z => by rw [zg_n _ _ _ z]; exact hf5 b j z, fun x hx => ?_⟩
                    by_cases e : x = q
                    · subst e
                      rw [zg_s, if_neg e1, if_pos (Or.inr ⟨by omega, hLq⟩), show min (d + 1) n = d + 1 by omega]
                    · rw [zg_m _ _ _ _ _ (by omega), h5 x hx]
                      have : (x < q ∧ L p x = true) ↔ (x < q + 1 ∧ L p x = true) := ⟨fun z => ⟨by omega, z.2⟩, fun z => ⟨by omega, z.2⟩⟩
                      simp only [this]
                  · ((with_reducible refine i_turn (i_cI_lt (i_L5 (i_F (i_A0 ?_))))); (with_reducible refine i_fld (by assumption) ?_); (rw [gn5]); (with_reducible refine i_t (by omega) ?_); (with_reducible refine i_If (i_cAnd (i_cAnd (i_cI_ne (i_L4 (i_L5 ?_)))))); (with_reducible refine i_t (by omega) ?_); (with_reducible refine i_cZ_ne (i_ZA (i_FR (i_A0 ?_)))); (with_reducible refine i_fldR (by assumption) ?_); (with_reducible refine i_Add (i_Mul (i_I (i_L4 (i_L5 ?_))))); rw [zx_cmul (by omega)]; rw [zx_add (by omega)]; (with_reducible refine i_in (by assumption) (by omega) (by omega) ?_); (rw [gL]); rw [zbI_t]; (with_reducible refine i_t (by omega) ?_); (with_reducible refine i_cI_gt (i_IA (i_FR (i_A0 ?_)))); (with_reducible refine i_fldR (by assumption) ?_); (with_reducible refine i_L5 ?_); (with_reducible refine i_in (by assumption) (by omega) (by omega) ?_); (with_reducible refine i_Add (i_L3 (i_I ?_))); (rw [gq]); rw [zx_inc (by omega)]; (with_reducible refine i_f (by omega) ?_); (with_reducible refine i_up (i_Inc5 ?_)); rw [zx_inc (by omega)]; simp only [w_set0, w_set1, w_setn0, w_setn1])
                    refine stay (fun x hx e => ?_) _
                    subst e
                    rw [if_neg e1, if_neg e1, if_neg e2]
                    split <;> omega
        · rintro ρ M5 X5 ⟨⟨l5, rfl⟩, hf5, h5⟩
          have gn5 : M5 250 ((1 : Nat) : Int) = ((n : Nat) : Int) := (hf5 _ _ (by omega)).trans hn
          ((with_reducible refine i_turn (i_cI_lt (i_L5 (i_F (i_A0 ?_))))); (with_reducible refine i_fld (by assumption) ?_); (rw [gn5]); (with_reducible refine i_f (by omega) ?_); (with_reducible refine i_up (i_Inc4 ?_)); rw [zx_inc (by omega)]; simp only [w_set0, w_set1, w_setn0, w_setn1])
          refine hX4 _ _ ⟨⟨_, rfl⟩, hf5, fun x hx => ?_⟩
          rw [h5 x hx]
          have : ((∃ r, r < p ∧ zfar n L a r = d ∧ L r x = true) ∨ x < n ∧ L p x = true) ↔ (∃ r, r < p + 1 ∧ zfar n L a r = d ∧ L r x = true) := ⟨fun z => by
            rcases z with ⟨r, a1, a2⟩ | z
            · exact ⟨r, by omega, a2⟩
            · exact ⟨p, by omega, ed, z.2⟩, fun ⟨r, a1, a2⟩ => by
            by_cases e : r = p
            · subst e; exact Or.inr ⟨hx, a2.2⟩
            · exact Or.inl ⟨r, by omega, a2⟩⟩
          simp only [this]
      · have gne : M4 ((290 : Nat) : Int) ((p : Nat) : Int) ≠ ((d : Nat) : Int) := by
          rw [gp]
          by_cases e : zfar n L a p ≤ d
          · rw [if_pos e]; omega
          · rw [if_neg e]; split <;> omega
        ((with_reducible refine i_turn (i_cI_lt (i_L4 (i_F (i_A0 ?_))))); (with_reducible refine i_fld (by assumption) ?_); (rw [gn4]); (with_reducible refine i_t (by omega) ?_); (with_reducible refine i_Seq (i_IfBrk (i_cI_ne (i_IA (i_FR (i_A0 ?_)))))); (with_reducible refine i_fldR (by assumption) ?_); (with_reducible refine i_L4 ?_); (with_reducible refine i_in (by assumption) (by omega) (by omega) ?_); (with_reducible refine i_L3 ?_); ((with_reducible refine i_t gne ?_)); (with_reducible refine i_lab1 (i_up (i_Inc4 ?_))); rw [zx_inc (by omega)]; simp only [w_set0, w_set1, w_setn0, w_setn1])
        refine hX4 _ _ ⟨⟨_, rfl⟩, hf4, fun x hx => ?_⟩
        rw [h4 x hx]
        have : (∃ r, r < p ∧ zfar n L a r = d ∧ L r x = true) ↔ (∃ r, r < p + 1 ∧ zfar n L a r = d ∧ L r x = true) := ⟨fun ⟨r, a1, a2⟩ => ⟨r, by omega, a2⟩, fun ⟨r, a1, a2⟩ => ⟨r, by
          by_cases e : r = p
          · subst e; exact absurd a2.1 ed
          · omega, a2⟩⟩
        simp only [this]
    · rintro ρ M4 X4 ⟨⟨l4, rfl⟩, hf4, h4⟩
      have gn4 : M4 250 ((1 : Nat) : Int) = ((n : Nat) : Int) := (hf4 _ _ (by omega)).trans hn
      ((with_reducible refine i_turn (i_cI_lt (i_L4 (i_F (i_A0 ?_))))); (with_reducible refine i_fld (by assumption) ?_); (rw [gn4]); (with_reducible refine i_f (by omega) ?_); (with_reducible refine i_up (i_Inc3 ?_)); rw [zx_inc (by omega)]; simp only [w_set0, w_set1, w_setn0, w_setn1])
      refine hX3 _ _ ⟨⟨_, rfl⟩, hf4, fun q hq => ?_⟩
      rw [h4 q hq]
      have hfq := zfar_le n L a q
      by_cases e : zfar n L a q ≤ d
      · rw [if_pos e, if_pos (by omega)]
      · rw [if_neg e]
        have hiff : (∃ r, r < n ∧ zfar n L a r = d ∧ L r q = true) ↔ (d + 1 < n ∧ zfar n L a q ≤ d + 1) ∨ (d + 1 = n ∧ ∃ r, r < n ∧ zfar n L a r = d ∧ L r q = true) := by
          constructor
          · rintro ⟨r, a1, a2, a3⟩
            by_cases z : d + 1 < n
            · refine Or.inl ⟨z, (zfar_lt z).mpr ?_⟩
              rw [zre_su, Bool.or_eq_true]
              refine Or.inr (decide_eq_true ⟨r, a1, ?_⟩)
              rw [(zfar_lt hd).mp (by omega), a3]; rfl
            · exact Or.inr ⟨by omega, r, a1, a2, a3⟩
          · rintro (⟨z, h⟩ | ⟨z, h⟩)
            · have h2 := (zfar_lt z).mp h
              rw [zre_su, Bool.or_eq_true] at h2
              rcases h2 with h2 | h2
              · exact absurd ((zfar_lt hd).mpr h2) e
              · obtain ⟨r, a1, a2⟩ := of_decide_eq_true h2
                rw [Bool.and_eq_true] at a2
                have h4 := (zfar_lt hd).mpr a2.1
                refine ⟨r, a1, Classical.byContradiction fun y => e ?_, a2.2⟩
                have h5 : zfar n L a r ≤ d - 1 := by omega
                have h6 := (zfar_lt (show d - 1 < n by omega)).mp h5
                refine (zfar_lt hd).mpr ?_
                rw [show d = (d - 1) + 1 by omega, zre_su, Bool.or_eq_true]
                refine Or.inr (decide_eq_true ⟨r, a1, ?_⟩)
                rw [h6, a2.2]; rfl
            · exact h
        by_cases z : d + 1 < n
        · by_cases y : zfar n L a q ≤ d + 1
          · rw [if_pos (hiff.mpr (Or.inl ⟨z, y⟩)), if_pos y]; omega
          · rw [if_neg (fun h => by rcases hiff.mp h with h | h; exact y h.2; omega), if_neg y]
        · split <;> split <;> omega
  · rintro ρ M3 X3 ⟨⟨l3, rfl⟩, hf3, h3⟩
    have gn3 : M3 250 ((1 : Nat) : Int) = ((n : Nat) : Int) := (hf3 _ _ (by omega)).trans hn
    have gb := h3 b hb
    rw [if_pos (zfar_le n L a b)] at gb
    ((with_reducible refine i_turn (i_cI_lt (i_L3 (i_F (i_A0 ?_))))); (with_reducible refine i_fld (by assumption) ?_); (rw [gn3]); (with_reducible refine i_f (by omega) ?_); (with_reducible refine i_RetI (i_IA (i_FR (i_A0 ?_)))); (with_reducible refine i_fldR (by assumption) ?_); (with_reducible refine i_L2 ?_); (with_reducible refine i_in (by assumption) (by omega) (by omega) ?_); (rw [gb]))
    exact hk M3 hf3
theorem m_pathsOf {O : zOm} (hO : zWld O) (hS : zS O = zmS zC0) {n a b : Nat} {L : Nat → Nat → Bool} {M : zMem} {K : Option zV → zMem → Prop} (hn : M 250 ((1 : Nat) : Int) = ((n : Nat) : Int)) (hn2 : n ≤ 16) (hL : rLk M n L) (hL0 : ∀ p, L p p = false) (ha : a < n) (hb : b < n)
    (hk : K (some (0, ((zcnt (fun r => L a r && L b r) n : Nat) : Int))) M) : zR O F_Model_pathsOf [(2, 250), (0, ((a : Nat) : Int)), (0, ((b : Nat) : Int))] M K := by
  apply r_Model_pathsOf hO
  unfold B_Model_pathsOf
  have f1 := zMF (k := 1) hS rfl; have f53 := zMF (k := 53) hS rfl; have a289 := zMA (a := 289) (ty := .boolean) (n := 256) hS rfl; have zo := zMO hS
  ((with_reducible refine i_Seq (i_Set (i_I (i_Seq (i_Blk (i_Seq (i_Set (i_I ?_)))))))); simp only [w_set0, w_set1, w_setn0, w_setn1])
  refine w_ForN n (fun r ρ M' => (∃ l, ρ = 250 :: ((a : Nat) : Int) :: ((b : Nat) : Int) :: ((zcnt (fun r => L a r && L b r) r : Nat) : Int) :: ((r : Nat) : Int) :: l) ∧ M' = M) ⟨⟨_, rfl⟩, rfl⟩ ?_ ?_
  · rintro r ρ M1 X hr ⟨⟨l, rfl⟩, rfl⟩ hX
    have hc := zcnt_le (fun r => L a r && L b r) r
    have hX2 : ∀ (l : zLoc) (x y : Bool), L a r = x → L b r = y → X (250 :: ((a : Nat) : Int) :: ((b : Nat) : Int) :: ((zcnt (fun r => L a r && L b r) r + (if (x && y) = true then 1 else 0) : Nat) : Int) :: ((r + 1 : Nat) : Int) :: l) M1 := fun l x y h1 h2 => by subst h1; subst h2; exact hX _ _ ⟨⟨l, rfl⟩, rfl⟩
    clear hX
    generalize zcnt (fun r => L a r && L b r) r = u at hc hX2 ⊢
    by_cases e1 : r = a
    · have h1 : L a r = false := by rw [e1]; exact hL0 a
      ((with_reducible refine i_turn (i_cI_lt (i_L4 (i_F (i_A0 ?_))))); (with_reducible refine i_fld (by assumption) ?_); (rw [hn]); (with_reducible refine i_t (by omega) ?_); (with_reducible refine i_If (i_cAnd (i_cAnd (i_cAnd (i_cI_ne (i_L4 (i_L1 ?_))))))); (with_reducible refine i_f (by omega) ?_); (with_reducible refine i_up (i_Inc4 ?_)); rw [zx_inc (by omega)]; simp only [w_set0, w_set1, w_setn0, w_setn1])
      exact hX2 _ false _ h1 rfl
    · by_cases e2 : r = b
      · have h2 : L b r = false := by rw [e2]; exact hL0 b
        ((with_reducible refine i_turn (i_cI_lt (i_L4 (i_F (i_A0 ?_))))); (with_reducible refine i_fld (by assumption) ?_); (rw [hn]); (with_reducible refine i_t (by omega) ?_); (with_reducible refine i_If (i_cAnd (i_cAnd (i_cAnd (i_cI_ne (i_L4 (i_L1 ?_))))))); (with_reducible refine i_t (by omega) ?_); (with_reducible refine i_cI_ne (i_L4 (i_L2 ?_))); (with_reducible refine i_f (by omega) ?_); (with_reducible refine i_up (i_Inc4 ?_)); rw [zx_inc (by omega)]; simp only [w_set0, w_set1, w_setn0, w_setn1])
        have h3 := fun l => hX2 l _ false rfl h2
        simp only [Bool.and_false, Bool.false_eq_true, if_false, Nat.add_zero] at h3
        exact h3 _
      · have g1 := hL a r ha hr (fun z => e1 z.symm)
        have g2 := hL b r hb hr (fun z => e2 z.symm)
        generalize L a r = x at g1 hX2
        generalize L b r = y at g2 hX2
        cases x <;> cases y
        all_goals
          (first | (((with_reducible refine i_turn (i_cI_lt (i_L4 (i_F (i_A0 ?_))))); (with_reducible refine i_fld (by assumption) ?_); (rw [hn]); (with_reducible refine i_t (by omega) ?_); (with_reducible refine i_If (i_cAnd (i_cAnd (i_cAnd (i_cI_ne (i_L4 (i_L1 ?_))))))); (with_reducible refine i_t (by omega) ?_); (with_reducible refine i_cI_ne (i_L4 (i_L2 ?_))); (with_reducible refine i_t (by omega) ?_); (with_reducible refine i_cZ_ne (i_ZA (i_FR (i_A0 ?_)))); (with_reducible refine i_fldR (by assumption) ?_); (with_reducible refine i_Add (i_Mul (i_I (i_L1 (i_L4 ?_))))); rw [zx_cmul (by omega)]; rw [zx_add (by omega)]; (with_reducible refine i_in (by assumption) (by omega) (by omega) ?_); (rw [g1]); rw [zbI_t]; (with_reducible refine i_t (by omega) ?_); (with_reducible refine i_cZ_ne (i_ZA (i_FR (i_A0 ?_)))); (with_reducible refine i_fldR (by assumption) ?_); (with_reducible refine i_Add (i_Mul (i_I (i_L2 (i_L4 ?_))))); rw [zx_cmul (by omega)]; rw [zx_add (by omega)]; (with_reducible refine i_in (by assumption) (by omega) (by omega) ?_); (rw [g2]); rw [zbI_t]; (with_reducible refine i_t (by omega) ?_); (with_reducible refine i_Inc3 (i_up ?_)); rw [zx_inc (by omega)]; simp only [w_set0, w_set1, w_setn0, w_setn1]; (with_reducible refine i_Inc4 ?_); rw [zx_inc (by omega)]; simp only [w_set0, w_set1, w_setn0, w_setn1])) | (((with_reducible refine i_turn (i_cI_lt (i_L4 (i_F (i_A0 ?_))))); (with_reducible refine i_fld (by assumption) ?_); (rw [hn]); (with_reducible refine i_t (by omega) ?_); (with_reducible refine i_If (i_cAnd (i_cAnd (i_cAnd (i_cI_ne (i_L4 (i_L1 ?_))))))); (with_reducible refine i_t (by omega) ?_); (with_reducible refine i_cI_ne (i_L4 (i_L2 ?_))); (with_reducible refine i_t (by omega) ?_); (with_reducible refine i_cZ_ne (i_ZA (i_FR (i_A0 ?_)))); (with_reducible refine i_fldR (by assumption) ?_); (with_reducible refine i_Add (i_Mul (i_I (i_L1 (i_L4 ?_))))); rw [zx_cmul (by omega)]; rw [zx_add (by omega)]; (with_reducible refine i_in (by assumption) (by omega) (by omega) ?_); (rw [g1]); rw [zbI_t]; (with_reducible refine i_t (by omega) ?_); (with_reducible refine i_cZ_ne (i_ZA (i_FR (i_A0 ?_)))); (with_reducible refine i_fldR (by assumption) ?_); (with_reducible refine i_Add (i_Mul (i_I (i_L2 (i_L4 ?_))))); rw [zx_cmul (by omega)]; rw [zx_add (by omega)]; (with_reducible refine i_in (by assumption) (by omega) (by omega) ?_); (rw [g2]); rw [zbI_f]; (with_reducible refine i_f (by omega) ?_); (with_reducible refine i_up (i_Inc4 ?_)); rw [zx_inc (by omega)]; simp only [w_set0, w_set1, w_setn0, w_setn1])) | (((with_reducible refine i_turn (i_cI_lt (i_L4 (i_F (i_A0 ?_))))); (with_reducible refine i_fld (by assumption) ?_); (rw [hn]); (with_reducible refine i_t (by omega) ?_); (with_reducible refine i_If (i_cAnd (i_cAnd (i_cAnd (i_cI_ne (i_L4 (i_L1 ?_))))))); (with_reducible refine i_t (by omega) ?_); (with_reducible refine i_cI_ne (i_L4 (i_L2 ?_))); (with_reducible refine i_t (by omega) ?_); (with_reducible refine i_cZ_ne (i_ZA (i_FR (i_A0 ?_)))); (with_reducible refine i_fldR (by assumption) ?_); (with_reducible refine i_Add (i_Mul (i_I (i_L1 (i_L4 ?_))))); rw [zx_cmul (by omega)]; rw [zx_add (by omega)]; (with_reducible refine i_in (by assumption) (by omega) (by omega) ?_); (rw [g1]); rw [zbI_f]; (with_reducible refine i_f (by omega) ?_); (with_reducible refine i_up (i_Inc4 ?_)); rw [zx_inc (by omega)]; simp only [w_set0, w_set1, w_setn0, w_setn1])))
          exact hX2 _ _ _ rfl rfl
  · rintro ρ M1 X ⟨⟨l, rfl⟩, rfl⟩
    ((with_reducible refine i_turn (i_cI_lt (i_L4 (i_F (i_A0 ?_))))); (with_reducible refine i_fld (by assumption) ?_); (rw [hn]); (with_reducible refine i_f (by omega) ?_); (with_reducible refine i_RetI (i_L3 ?_)))
    exact hk
theorem m_triosOf {O : zOm} (hO : zWld O) (hS : zS O = zmS zC0) {n a : Nat} {L : Nat → Nat → Bool} {M : zMem} {K : Option zV → zMem → Prop} (hn : M 250 ((1 : Nat) : Int) = ((n : Nat) : Int)) (hn2 : n ≤ 16) (hL : rLk M n L) (hL0 : ∀ p, L p p = false) (ha : a < n)
    (hk : K (some (0, ((zp2 (fun p q => L a p && (L a q && L p q)) n : Nat) : Int))) M) : zR O F_Model_triosOf [(2, 250), (0, ((a : Nat) : Int))] M K := by
  apply r_Model_triosOf hO
  unfold B_Model_triosOf
  have f1 := zMF (k := 1) hS rfl; have f53 := zMF (k := 53) hS rfl; have a289 := zMA (a := 289) (ty := .boolean) (n := 256) hS rfl; have zo := zMO hS
  ((with_reducible refine i_Seq (i_Set (i_I (i_Seq (i_Blk (i_Seq (i_Set (i_I ?_)))))))); simp only [w_set0, w_set1, w_setn0, w_setn1])
  refine w_ForN n (fun p ρ M' => (∃ l, ρ = 250 :: ((a : Nat) : Int) :: ((zop (fun p q => L a p && (L a q && L p q)) n p 0 : Nat) : Int) :: ((p : Nat) : Int) :: l) ∧ M' = M) ⟨⟨_, rfl⟩, rfl⟩ ?_ ?_
  · rintro p ρ M1 X hp ⟨⟨l, rfl⟩, rfl⟩ hX
    have skip' : L a p = false → ∀ l : zLoc, X (250 :: ((a : Nat) : Int) :: ((zop (fun p q => L a p && (L a q && L p q)) n p 0 : Nat) : Int) :: ((p + 1 : Nat) : Int) :: l) M1 := fun h l => by
      refine hX _ _ ⟨⟨l, ?_⟩, rfl⟩
      have e : zop (fun p q => L a p && (L a q && L p q)) n (p + 1) 0 = zop (fun p q => L a p && (L a q && L p q)) n p 0 := by
        rw [← zop_nx]
        unfold zop
        congr 1
        rw [zcnt_z (fun q _ => by show (decide (p < q) && (L a p && (L a q && L p q))) = false; rw [h]; simp)]; rfl
      rw [e]
    by_cases e1 : p = a
    · have h1 : L a p = false := by rw [e1]; exact hL0 a
      ((with_reducible refine i_turn (i_cI_lt (i_L3 (i_F (i_A0 ?_))))); (with_reducible refine i_fld (by assumption) ?_); (rw [hn]); (with_reducible refine i_t (by omega) ?_); (with_reducible refine i_Seq (i_IfBrk (i_cOr (i_cI_eq (i_L3 (i_L1 ?_)))))); (with_reducible refine i_t (by omega) ?_); (with_reducible refine i_lab1 (i_up (i_Inc3 ?_))); rw [zx_inc (by omega)]; simp only [w_set0, w_set1, w_setn0, w_setn1])
      exact skip' h1 _
    · have g1 := hL a p ha hp (fun z => e1 z.symm)
      cases h1 : L a p
      · rw [h1] at g1
        ((with_reducible refine i_turn (i_cI_lt (i_L3 (i_F (i_A0 ?_))))); (with_reducible refine i_fld (by assumption) ?_); (rw [hn]); (with_reducible refine i_t (by omega) ?_); (with_reducible refine i_Seq (i_IfBrk (i_cOr (i_cI_eq (i_L3 (i_L1 ?_)))))); (with_reducible refine i_f (by omega) ?_); (with_reducible refine i_cNot (i_cZ_ne (i_ZA (i_FR (i_A0 ?_))))); (with_reducible refine i_fldR (by assumption) ?_); (with_reducible refine i_Add (i_Mul (i_I (i_L1 (i_L3 ?_))))); rw [zx_cmul (by omega)]; rw [zx_add (by omega)]; (with_reducible refine i_in (by assumption) (by omega) (by omega) ?_); (rw [g1]); rw [zbI_f]; (with_reducible refine i_f (by omega) ?_); (with_reducible refine i_lab1 (i_up (i_Inc3 ?_))); rw [zx_inc (by omega)]; simp only [w_set0, w_set1, w_setn0, w_setn1])
        exact skip' h1 _
      · clear skip'
        rw [h1] at g1
        ((with_reducible refine i_turn (i_cI_lt (i_L3 (i_F (i_A0 ?_))))); (with_reducible refine i_fld (by assumption) ?_); (rw [hn]); (with_reducible refine i_t (by omega) ?_); (with_reducible refine i_Seq (i_IfBrk (i_cOr (i_cI_eq (i_L3 (i_L1 ?_)))))); (with_reducible refine i_f (by omega) ?_); (with_reducible refine i_cNot (i_cZ_ne (i_ZA (i_FR (i_A0 ?_))))); (with_reducible refine i_fldR (by assumption) ?_); (with_reducible refine i_Add (i_Mul (i_I (i_L1 (i_L3 ?_))))); rw [zx_cmul (by omega)]; rw [zx_add (by omega)]; (with_reducible refine i_in (by assumption) (by omega) (by omega) ?_); (rw [g1]); rw [zbI_t]; (with_reducible refine i_t (by omega) ?_); (with_reducible refine i_Blk (i_Seq (i_Set (i_Add (i_L3 (i_I ?_)))))); rw [zx_inc (by omega)]; simp only [w_set0, w_set1, w_setn0, w_setn1]; rw [w_setT])
        refine w_ForN (n - (p + 1)) (fun d ρ M' => (∃ l, ρ = 250 :: ((a : Nat) : Int) :: ((zop (fun p q => L a p && (L a q && L p q)) n p (p + 1 + d) : Nat) : Int) :: ((p : Nat) : Int) :: ((p + 1 + d : Nat) : Int) :: l) ∧ M' = M1) ⟨⟨_, by rw [zop_row]⟩, rfl⟩ ?_ ?_
        · rintro d ρ M2 X2 hd ⟨⟨l2, rfl⟩, rfl⟩ hX2
          have hle := zop_le (fun p q => L a p && (L a q && L p q)) hn2 (a := p) (b := p + 1 + d) (by omega) (by omega)
          have hsu := zop_su (fun p q => L a p && (L a q && L p q)) (n := n) (a := p) (b := p + 1 + d) (by omega)
          have hX3 : ∀ (l : zLoc) (c : Nat), c = zop (fun p q => L a p && (L a q && L p q)) n p (p + 1 + d + 1) → X2 (250 :: ((a : Nat) : Int) :: ((c : Nat) : Int) :: ((p : Nat) : Int) :: ((p + 1 + d + 1 : Nat) : Int) :: l) M2 := fun l c hc => by subst hc; exact hX2 _ _ ⟨⟨l, rfl⟩, rfl⟩
          rw [hsu] at hX3
          clear hX2 hsu
          generalize zop (fun p q => L a p && (L a q && L p q)) n p (p + 1 + d) = u at hle hX3 ⊢
          have hqn : p + 1 + d < n := by omega
          have hpq : p ≠ p + 1 + d := by omega
          generalize p + 1 + d = q at hqn hpq hX3 ⊢
          rw [h1, Bool.true_and] at hX3
          by_cases e2 : q = a
          · have h2 : L a q = false := by rw [e2]; exact hL0 a
            rw [h2] at hX3
            ((with_reducible refine i_turn (i_cI_lt (i_L4 (i_F (i_A0 ?_))))); (with_reducible refine i_fld (by assumption) ?_); (rw [hn]); (with_reducible refine i_t (by omega) ?_); (with_reducible refine i_If (i_cAnd (i_cAnd (i_cI_ne (i_L4 (i_L1 ?_)))))); (with_reducible refine i_f (by omega) ?_); (with_reducible refine i_up (i_Inc4 ?_)); rw [zx_inc (by omega)]; simp only [w_set0, w_set1, w_setn0, w_setn1])
            exact hX3 _ _ rfl
          · have g2 := hL a q ha hqn (fun z => e2 z.symm)
            have g3 := hL p q hp hqn hpq
            generalize L a q = x at g2 hX3
            generalize L p q = y at g3 hX3
            cases x <;> cases y
            all_goals
              (first | (((with_reducible refine i_turn (i_cI_lt (i_L4 (i_F (i_A0 ?_))))); (with_reducible refine i_fld (by assumption) ?_); (rw [hn]); (with_reducible refine i_t (by omega) ?_); (with_reducible refine i_If (i_cAnd (i_cAnd (i_cI_ne (i_L4 (i_L1 ?_)))))); (with_reducible refine i_t (by omega) ?_); (with_reducible refine i_cZ_ne (i_ZA (i_FR (i_A0 ?_)))); (with_reducible refine i_fldR (by assumption) ?_); (with_reducible refine i_Add (i_Mul (i_I (i_L1 (i_L4 ?_))))); rw [zx_cmul (by omega)]; rw [zx_add (by omega)]; (with_reducible refine i_in (by assumption) (by omega) (by omega) ?_); (rw [g2]); rw [zbI_t]; (with_reducible refine i_t (by omega) ?_); (with_reducible refine i_cZ_ne (i_ZA (i_FR (i_A0 ?_)))); (with_reducible refine i_fldR (by assumption) ?_); (with_reducible refine i_Add (i_Mul (i_I (i_L3 (i_L4 ?_))))); rw [zx_cmul (by omega)]; rw [zx_add (by omega)]; (with_reducible refine i_in (by assumption) (by omega) (by omega) ?_); (rw [g3]); rw [zbI_t]; (with_reducible refine i_t (by omega) ?_); (with_reducible refine i_Inc2 (i_up ?_)); rw [zx_inc (by omega)]; simp only [w_set0, w_set1, w_setn0, w_setn1]; (with_reducible refine i_Inc4 ?_); rw [zx_inc (by omega)]; simp only [w_set0, w_set1, w_setn0, w_setn1])) | (((with_reducible refine i_turn (i_cI_lt (i_L4 (i_F (i_A0 ?_))))); (with_reducible refine i_fld (by assumption) ?_); (rw [hn]); (with_reducible refine i_t (by omega) ?_); (with_reducible refine i_If (i_cAnd (i_cAnd (i_cI_ne (i_L4 (i_L1 ?_)))))); (with_reducible refine i_t (by omega) ?_); (with_reducible refine i_cZ_ne (i_ZA (i_FR (i_A0 ?_)))); (with_reducible refine i_fldR (by assumption) ?_); (with_reducible refine i_Add (i_Mul (i_I (i_L1 (i_L4 ?_))))); rw [zx_cmul (by omega)]; rw [zx_add (by omega)]; (with_reducible refine i_in (by assumption) (by omega) (by omega) ?_); (rw [g2]); rw [zbI_t]; (with_reducible refine i_t (by omega) ?_); (with_reducible refine i_cZ_ne (i_ZA (i_FR (i_A0 ?_)))); (with_reducible refine i_fldR (by assumption) ?_); (with_reducible refine i_Add (i_Mul (i_I (i_L3 (i_L4 ?_))))); rw [zx_cmul (by omega)]; rw [zx_add (by omega)]; (with_reducible refine i_in (by assumption) (by omega) (by omega) ?_); (rw [g3]); rw [zbI_f]; (with_reducible refine i_f (by omega) ?_); (with_reducible refine i_up (i_Inc4 ?_)); rw [zx_inc (by omega)]; simp only [w_set0, w_set1, w_setn0, w_setn1])) | (((with_reducible refine i_turn (i_cI_lt (i_L4 (i_F (i_A0 ?_))))); (with_reducible refine i_fld (by assumption) ?_); (rw [hn]); (with_reducible refine i_t (by omega) ?_); (with_reducible refine i_If (i_cAnd (i_cAnd (i_cI_ne (i_L4 (i_L1 ?_)))))); (with_reducible refine i_t (by omega) ?_); (with_reducible refine i_cZ_ne (i_ZA (i_FR (i_A0 ?_)))); (with_reducible refine i_fldR (by assumption) ?_); (with_reducible refine i_Add (i_Mul (i_I (i_L1 (i_L4 ?_))))); rw [zx_cmul (by omega)]; rw [zx_add (by omega)]; (with_reducible refine i_in (by assumption) (by omega) (by omega) ?_); (rw [g2]); rw [zbI_f]; (with_reducible refine i_f (by omega) ?_); (with_reducible refine i_up (i_Inc4 ?_)); rw [zx_inc (by omega)]; simp only [w_set0, w_set1, w_setn0, w_setn1])))
              exact hX3 _ _ rfl
        · rintro ρ M2 X2 ⟨⟨l2, rfl⟩, rfl⟩
          rw [show p + 1 + (n - (p + 1)) = n by omega, zop_nx]
          ((with_reducible refine i_turn (i_cI_lt (i_L4 (i_F (i_A0 ?_))))); (with_reducible refine i_fld (by assumption) ?_); (rw [hn]); (with_reducible refine i_f (by omega) ?_); (with_reducible refine i_up (i_Inc3 ?_)); rw [zx_inc (by omega)]; simp only [w_set0, w_set1, w_setn0, w_setn1])
          exact hX _ _ ⟨⟨_, rfl⟩, rfl⟩
  · rintro ρ M1 X ⟨⟨l, rfl⟩, rfl⟩
    rw [zop_end]
    ((with_reducible refine i_turn (i_cI_lt (i_L3 (i_F (i_A0 ?_))))); (with_reducible refine i_fld (by assumption) ?_); (rw [hn]); (with_reducible refine i_f (by omega) ?_); (with_reducible refine i_RetI (i_L2 ?_)))
    exact hk
theorem m_endOf {O : zOm} (hO : zWld O) (hS : zS O = zmS zC0) {t n kind a b' how : Nat} {b : Int} {A : zTl} {M : zMem} {K : Option zV → zMem → Prop} (ht : t < 7) (hn : M 250 ((1 : Nat) : Int) = ((n : Nat) : Int)) (hn2 : n ≤ 16) (hA : rTe M t n A) (hw : zTw n A) (hS1 : rMx M 268 (tS n A)) (hR : ∀ k : Nat, k < 512 → M ((269 : Nat) : Int) ((k : Nat) : Int) = ((tR n A k : Nat) : Int) ∧ M ((270 : Nat) : Int) ((k : Nat) : Int) = ((tQ n A k : Nat) : Int)) (hQ : zQok n kind a b b') (hh : how ≤ 1)
    (hk : ∀ M', (∀ b j, ¬ (b = 250 ∧ j = 52 ∨ b = ((288 : Nat) : Int) ∨ b = ((289 : Nat) : Int) ∨ b = ((290 : Nat) : Int)) → M' b j = M b j) → K (some (0, ((zan n A kind a b' how : Nat) : Int))) M') : zR O F_Model_endOf [(2, 250), (0, ((t : Nat) : Int)), (0, ((kind : Nat) : Int)), (0, ((a : Nat) : Int)), (0, b), (0, ((how : Nat) : Int))] M K := by
  have hK5 : kind ≤ 5 := by rcases hQ with h | h | h <;> omega
  have hL0 := fun op => zlN_0 (n := n) (A := A) op
  apply r_Model_endOf hO
  unfold B_Model_endOf
  have zo := zMO hS
  by_cases h3 : kind < 3
  · have e : zan n A kind a b' how = zqS n A kind a b' how := by unfold zan; rw [if_pos h3]
    rw [e] at hk
    ((with_reducible refine i_Seq (i_If (i_cI_lt (i_L2 (i_I ?_))))); (with_reducible refine i_t (by omega) ?_); (with_reducible refine i_Seq (i_sCall (i_as1 (i_A0 (i_as1 (i_L1 (i_as1 (i_L2 (i_as1 (i_L3 (i_as1 (i_L4 (i_as0 ?_))))))))))))); (with_reducible refine i_recv0 (by assumption) ?_))
    refine m_collect hO hS ht hn hn2 hA hw hS1 hQ h3 (fun M1 f1' q1 t1 => ⟨rfl, ?_⟩)
    ((with_reducible refine i_RetI (i_Call (i_as1 (i_A0 (i_as1 (i_L5 (i_as0 ?_))))))); (with_reducible refine i_recv0 (by assumption) ?_))
    refine m_sumOf hO hS hn2 (fun k hk1 => by rw [f1' _ _ (by omega), f1' _ _ (by omega)]; exact hR k hk1) q1 t1 hh ⟨_, rfl, ?_⟩
    (skip)
    exact hk M1 (fun b j q => f1' b j (by omega))
  · have hab : a < n := by rcases hQ with h | h | h <;> omega
    by_cases e3 : kind = 3
    · subst e3
      have hb : b = ((b' : Nat) : Int) ∧ b' < n := by rcases hQ with h | h | h <;> omega
      obtain ⟨hb1, hb2⟩ := hb
      subst hb1
      have e : zan n A 3 a b' how = zfar n (zlN n A (decide (how = 0))) a b' := rfl
      rw [e] at hk
      rcases (show how = 0 ∨ how = 1 by omega) with rfl | rfl
      · rw [show decide ((0 : Nat) = 0) = true from rfl] at hk
        ((with_reducible refine i_Seq (i_If (i_cI_lt (i_L2 (i_I ?_))))); (with_reducible refine i_f (by omega) ?_); (with_reducible refine i_Seq (i_sCall (i_as1 (i_A0 (i_as1 (i_L1 (i_as1 (i_eIf (i_cI_eq (i_L2 (i_I ?_))))))))))); (with_reducible refine i_t (by omega) ?_); (with_reducible refine i_eIf (i_cNot (i_cZ_ne (i_L5 ?_)))); (with_reducible refine i_f (by omega) ?_); (with_reducible refine i_I (i_as0 ?_)); (with_reducible refine i_recv0 (by assumption) ?_))
        refine m_links hO hS (op := true) ht hn hn2 hA hw hS1 hR (fun M1 f1' l1 => ⟨rfl, ?_⟩)
        ((with_reducible refine i_RetI (i_eIf (i_cI_eq (i_L2 (i_I ?_))))); (with_reducible refine i_t (by omega) ?_); (with_reducible refine i_Call (i_as1 (i_A0 (i_as1 (i_L3 (i_as1 (i_L4 (i_as0 ?_)))))))); (with_reducible refine i_recv0 (by assumption) ?_))
        refine m_farOf hO hS (show M1 250 ((1 : Nat) : Int) = ((n : Nat) : Int) from (f1' _ _ (by omega)).trans hn) hn2 l1 (hL0 _) hab hb2 (fun M2 f2' => ⟨_, rfl, ?_⟩)
        (skip)
        exact hk M2 (fun b j q => by rw [f2' b j (by omega), f1' b j (by omega)])
      · rw [show decide ((1 : Nat) = 0) = false from rfl] at hk
        ((with_reducible refine i_Seq (i_If (i_cI_lt (i_L2 (i_I ?_))))); (with_reducible refine i_f (by omega) ?_); (with_reducible refine i_Seq (i_sCall (i_as1 (i_A0 (i_as1 (i_L1 (i_as1 (i_eIf (i_cI_eq (i_L2 (i_I ?_))))))))))); (with_reducible refine i_t (by omega) ?_); (with_reducible refine i_eIf (i_cNot (i_cZ_ne (i_L5 ?_)))); (with_reducible refine i_t (by omega) ?_); (with_reducible refine i_I (i_as0 ?_)); (with_reducible refine i_recv0 (by assumption) ?_))
        refine m_links hO hS (op := false) ht hn hn2 hA hw hS1 hR (fun M1 f1' l1 => ⟨rfl, ?_⟩)
        ((with_reducible refine i_RetI (i_eIf (i_cI_eq (i_L2 (i_I ?_))))); (with_reducible refine i_t (by omega) ?_); (with_reducible refine i_Call (i_as1 (i_A0 (i_as1 (i_L3 (i_as1 (i_L4 (i_as0 ?_)))))))); (with_reducible refine i_recv0 (by assumption) ?_))
        refine m_farOf hO hS (show M1 250 ((1 : Nat) : Int) = ((n : Nat) : Int) from (f1' _ _ (by omega)).trans hn) hn2 l1 (hL0 _) hab hb2 (fun M2 f2' => ⟨_, rfl, ?_⟩)
        (skip)
        exact hk M2 (fun b j q => by rw [f2' b j (by omega), f1' b j (by omega)])
    · have hbi : ∃ op : Bool, ((how : Nat) : Int) = zbI op ∧ decide (how = 1) = op := by
        rcases (show how = 0 ∨ how = 1 by omega) with rfl | rfl
        · exact ⟨false, rfl, rfl⟩
        · exact ⟨true, rfl, rfl⟩
      obtain ⟨op, ho1, ho2⟩ := hbi
      by_cases e4 : kind = 4
      · subst e4
        have hb : b = ((b' : Nat) : Int) ∧ b' < n := by rcases hQ with h | h | h <;> omega
        obtain ⟨hb1, hb2⟩ := hb
        subst hb1
        have e : zan n A 4 a b' how = zcnt (fun r => zlN n A (decide (how = 1)) a r && zlN n A (decide (how = 1)) b' r) n := rfl
        rw [e, ho2] at hk
        ((with_reducible refine i_Seq (i_If (i_cI_lt (i_L2 (i_I ?_))))); (with_reducible refine i_f (by omega) ?_); (with_reducible refine i_Seq (i_sCall (i_as1 (i_A0 (i_as1 (i_L1 (i_as1 (i_eIf (i_cI_eq (i_L2 (i_I ?_))))))))))); (with_reducible refine i_f (by omega) ?_); (with_reducible refine i_L5 (i_as0 ?_)); (with_reducible refine i_recv0 (by assumption) ?_))
        rw [ho1]
        refine m_links hO hS (op := op) ht hn hn2 hA hw hS1 hR (fun M1 f1' l1 => ⟨rfl, ?_⟩)
        ((with_reducible refine i_RetI (i_eIf (i_cI_eq (i_L2 (i_I ?_))))); (with_reducible refine i_f (by omega) ?_); (with_reducible refine i_eIf (i_cI_eq (i_L2 (i_I ?_)))); (with_reducible refine i_t (by omega) ?_); (with_reducible refine i_Call (i_as1 (i_A0 (i_as1 (i_L3 (i_as1 (i_L4 (i_as0 ?_)))))))); (with_reducible refine i_recv0 (by assumption) ?_))
        refine m_pathsOf hO hS (show M1 250 ((1 : Nat) : Int) = ((n : Nat) : Int) from (f1' _ _ (by omega)).trans hn) hn2 l1 (hL0 _) hab hb2 ⟨_, rfl, ?_⟩
        (skip)
        exact hk M1 (fun b j q => by rw [f1' b j (by omega)])
      · have e5 : kind = 5 := by omega
        subst e5
        have e : zan n A 5 a b' how = zp2 (fun p q => zlN n A (decide (how = 1)) a p && (zlN n A (decide (how = 1)) a q && zlN n A (decide (how = 1)) p q)) n := rfl
        rw [e, ho2] at hk
        ((with_reducible refine i_Seq (i_If (i_cI_lt (i_L2 (i_I ?_))))); (with_reducible refine i_f (by omega) ?_); (with_reducible refine i_Seq (i_sCall (i_as1 (i_A0 (i_as1 (i_L1 (i_as1 (i_eIf (i_cI_eq (i_L2 (i_I ?_))))))))))); (with_reducible refine i_f (by omega) ?_); (with_reducible refine i_L5 (i_as0 ?_)); (with_reducible refine i_recv0 (by assumption) ?_))
        rw [ho1]
        refine m_links hO hS (op := op) ht hn hn2 hA hw hS1 hR (fun M1 f1' l1 => ⟨rfl, ?_⟩)
        ((with_reducible refine i_RetI (i_eIf (i_cI_eq (i_L2 (i_I ?_))))); (with_reducible refine i_f (by omega) ?_); (with_reducible refine i_eIf (i_cI_eq (i_L2 (i_I ?_)))); (with_reducible refine i_f (by omega) ?_); (with_reducible refine i_Call (i_as1 (i_A0 (i_as1 (i_L3 (i_as0 ?_)))))); (with_reducible refine i_recv0 (by assumption) ?_))
        refine m_triosOf hO hS (show M1 250 ((1 : Nat) : Int) = ((n : Nat) : Int) from (f1' _ _ (by omega)).trans hn) hn2 l1 (hL0 _) hab ⟨_, rfl, ?_⟩
        (skip)
        exact hk M1 (fun b j q => by rw [f1' b j (by omega)])
theorem zan_b {n kind a b' how : Nat} {A : zTl} (hn : n ≤ 16) (hh : how ≤ 1) : zan n A kind a b' how ≤ 62000 := by
  unfold zan
  split
  · unfold zqS
    rw [if_neg (by omega), if_neg (by omega)]
    have h1 : zqA n A kind a b' ≤ 120 := zp2_le _ hn
    have h2 := zsum_cap (f := zshr' n A kind a b' how) (c := 120) (fun k => by
      have h1 := zls_ok n A kind a b' k
      have h2 : zas n A kind a b' k ≤ 120 := zp2_le _ hn
      unfold zshr'
      rw [if_neg (by omega), if_neg (by omega)]
      split <;> split <;> omega) 512
    omega
  · split
    · have := zfar_le n (zlN n A (decide (how = 0))) a b'
      omega
    · split
      · have := zcnt_le (fun r => zlN n A (decide (how = 1)) a r && zlN n A (decide (how = 1)) b' r) n
        omega
      · have := zp2_le (fun p q => zlN n A (decide (how = 1)) a p && (zlN n A (decide (how = 1)) a q && zlN n A (decide (how = 1)) p q)) hn
        omega
theorem m_offOf {O : zOm} (hO : zWld O) (hS : zS O = zmS zC0) {t n kind a b' : Nat} {b : Int} {A : zTl} {M : zMem} {K : Option zV → zMem → Prop} (ht : t < 7) (hn : M 250 ((1 : Nat) : Int) = ((n : Nat) : Int)) (hn2 : n ≤ 16) (hA : rTe M t n A) (hw : zTw n A) (hS1 : rMx M 268 (tS n A)) (hR : ∀ k : Nat, k < 512 → M ((269 : Nat) : Int) ((k : Nat) : Int) = ((tR n A k : Nat) : Int) ∧ M ((270 : Nat) : Int) ((k : Nat) : Int) = ((tQ n A k : Nat) : Int)) (hQ : zQok n kind a b b')
    (hk : ∀ M', (∀ b j, ¬ (b = 250 ∧ j = 52 ∨ b = ((288 : Nat) : Int) ∨ b = ((289 : Nat) : Int) ∨ b = ((290 : Nat) : Int)) → M' b j = M b j) → K (some (0, ((zoF n A kind a b' : Nat) : Int))) M') : zR O F_Model_offOf [(2, 250), (0, ((t : Nat) : Int)), (0, ((kind : Nat) : Int)), (0, ((a : Nat) : Int)), (0, b)] M K := by
  have hle := zan_le n A kind a b'
  have hb1 := zan_b (n := n) (A := A) (kind := kind) (a := a) (b' := b') (how := 1) hn2 (Nat.le_refl _)
  unfold zoF at hk
  apply r_Model_offOf hO
  unfold B_Model_offOf
  have zo := zMO hS
  ((with_reducible refine i_RetI (i_Sub (i_Call (i_as1 (i_A0 (i_as1 (i_L1 (i_as1 (i_L2 (i_as1 (i_L3 (i_as1 (i_L4 (i_as1 (i_I (i_as0 ?_)))))))))))))))); (with_reducible refine i_recv0 (by assumption) ?_))
  refine m_endOf hO hS (how := 1) ht hn hn2 hA hw hS1 hR hQ (Nat.le_refl _) (fun M1 f1' => ⟨_, rfl, ?_⟩)
  ((with_reducible refine i_Call (i_as1 (i_A0 (i_as1 (i_L1 (i_as1 (i_L2 (i_as1 (i_L3 (i_as1 (i_L4 (i_as1 (i_I (i_as0 ?_)))))))))))))); (with_reducible refine i_recv0 (by assumption) ?_))
  refine m_endOf hO hS (how := 0) ht (show M1 250 ((1 : Nat) : Int) = ((n : Nat) : Int) from (f1' _ _ (by omega)).trans hn) hn2 (hA.to hn2 hw (fun b j q => f1' b j (by omega))) hw (hS1.to (fun j => f1' _ _ (by omega))) (fun k hk1 => by rw [f1' _ _ (by omega), f1' _ _ (by omega)]; exact hR k hk1) hQ (by omega) (fun M2 f2' => ⟨_, rfl, ?_⟩)
  (rw [zx_sub (by omega) (by omega)])
  exact hk M2 (fun b j q => by rw [f2' b j (by omega), f1' b j (by omega)])
