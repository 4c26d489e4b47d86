section
-- part a5.hear.lean.txt
/-! ===== what the words of a telling say: the reference ===== -/
theorem m_say {O : zOm} (hO : zWld O) (hS : zS O = zmS zC0) {a b : Nat} {T : Nat → Nat → Bool} {M : zMem} {K : Option zV → zMem → Prop} (ha : a < 16) (hb : b < 16) (hT : rMx M 268 T) (hk : ∀ M', (∀ b j, ¬ b = ((268 : Nat) : Int) → M' b j = M b j) → rMx M' 268 (zmu (zmu T a b true) b a true) → K none M') : zR O F_Model_say [(2, 250), (0, ((a : Nat) : Int)), (0, ((b : Nat) : Int))] M K := by
  apply r_Model_say hO
  unfold B_Model_say
  have f22 := zMF (k := 22) hS rfl; have a268 := zMA (a := 268) (ty := .boolean) (n := 256) hS rfl; have zo := zMO hS
  ((with_reducible refine i_Seq (i_Seq (i_sZA (i_FR (i_A0 ?_))))); (with_reducible refine i_fldR (by assumption) ?_); (with_reducible refine i_Add (i_Mul (i_I (i_L1 (i_L2 (i_I ?_)))))); rw [zx_cmul (by omega)]; rw [zx_add (by omega)]; (with_reducible refine i_zin (Or.inr rfl) (by assumption) (by omega) (by omega) ?_); (with_reducible refine i_sZA (i_FR (i_A0 ?_))); (with_reducible refine i_fldR (by assumption) ?_); (with_reducible refine i_Add (i_Mul (i_I (i_L2 (i_L1 (i_I ?_)))))); rw [zx_cmul (by omega)]; rw [zx_add (by omega)]; (with_reducible refine i_zin (Or.inr rfl) (by assumption) (by omega) (by omega) ?_); (with_reducible refine i_RetV ?_))
  have hf : ∀ b j, ¬ b = ((268 : Nat) : Int) → M b j = M b j := fun _ _ _ => rfl
  exact hk _ (by intro b j q; ((rw [zg_n _ _ _ (by omega)]; rw [zg_n _ _ _ (by omega)])); first | done | rfl | exact hf b j (by omega)) ((hT.up (v := true) ha hb rfl).up (v := true) hb ha rfl)
/-- a table as far as pairs were looked at -/
def zpt (Q : Nat → Nat → Bool) (n a b : Nat) : Nat → Nat → Bool := fun p q => decide (p < n ∧ q < n ∧ ((p < q ∧ (p < a ∨ p = a ∧ q < b)) ∨ (q < p ∧ (q < a ∨ q = a ∧ p < b)))) && Q p q
theorem zpt_0 (Q : Nat → Nat → Bool) (n p q : Nat) : zpt Q n 0 0 p q = false := by
  unfold zpt; rw [decide_eq_false (by omega)]; rfl
theorem zpt_row (Q : Nat → Nat → Bool) (n a p q : Nat) : zpt Q n a 0 p q = zpt Q n a (a + 1) p q := by
  unfold zpt; congr 1; apply decide_eq_decide.mpr; constructor <;> intro h <;> omega
theorem zpt_nx (Q : Nat → Nat → Bool) (n a p q : Nat) : zpt Q n a n p q = zpt Q n (a + 1) 0 p q := by
  unfold zpt; congr 1; apply decide_eq_decide.mpr; constructor <;> intro h <;> omega
theorem zpt_end (Q : Nat → Nat → Bool) (n p q : Nat) : zpt Q n n 0 p q = (decide (p < n ∧ q < n ∧ p ≠ q) && Q p q) := by
  unfold zpt; congr 1; apply decide_eq_decide.mpr; constructor <;> intro h <;> omega
theorem zpt_su {Q : Nat → Nat → Bool} (hQ : ∀ p q, Q p q = Q q p) {n a b : Nat} (hab : a < b) (hb : b < n) (p q : Nat) : zpt Q n a (b + 1) p q = zmu (zmu (zpt Q n a b) a b (Q a b)) b a (Q a b) p q := by
  unfold zmu
  by_cases e1 : p = b ∧ q = a
  · obtain ⟨rfl, rfl⟩ := e1
    rw [if_pos ⟨rfl, rfl⟩]; unfold zpt; rw [decide_eq_true (by omega), hQ]; rfl
  · rw [if_neg e1]
    by_cases e2 : p = a ∧ q = b
    · obtain ⟨rfl, rfl⟩ := e2
      rw [if_pos ⟨rfl, rfl⟩]; unfold zpt; rw [decide_eq_true (by omega)]; rfl
    · rw [if_neg e2]; unfold zpt; congr 1; apply decide_eq_decide.mpr; constructor <;> intro h <;> omega
theorem zpt_no {Q : Nat → Nat → Bool} (hQ : ∀ p q, Q p q = Q q p) {n a b : Nat} (hab : a < b) (hb : b < n) (h : Q a b = false) (p q : Nat) : zpt Q n a (b + 1) p q = zpt Q n a b p q := by
  rw [zpt_su hQ hab hb, h]
  unfold zmu
  by_cases e1 : p = b ∧ q = a
  · obtain ⟨rfl, rfl⟩ := e1
    rw [if_pos ⟨rfl, rfl⟩]; unfold zpt; rw [decide_eq_false (by omega)]; rfl
  · rw [if_neg e1]
    by_cases e2 : p = a ∧ q = b
    · obtain ⟨rfl, rfl⟩ := e2
      rw [if_pos ⟨rfl, rfl⟩]; unfold zpt; rw [decide_eq_false (by omega)]; rfl
    · rw [if_neg e2]
/-- what words but chains say -/
def zWq (f : Nat → Nat) (C : Nat → Bool) (D G : Nat → Nat → Bool) (a b : Nat) : Bool := ((if f a = f b then C (f a) else if f a < f b then D (f a) (f b) else D (f b) (f a)) || G a (f b)) || G b (f a)
theorem zWq_sym (f : Nat → Nat) (C : Nat → Bool) (D G : Nat → Nat → Bool) (a b : Nat) : zWq f C D G a b = zWq f C D G b a := by
  unfold zWq
  by_cases e : f a = f b
  · rw [if_pos e, if_pos e.symm, e, Bool.or_assoc, Bool.or_comm (G a (f b)), Bool.or_assoc]
  · rw [if_neg e, if_neg (show ¬ f b = f a from fun q => e q.symm), Bool.or_assoc, Bool.or_comm (G a (f b)), Bool.or_assoc]
    rcases Nat.lt_or_ge (f a) (f b) with q | q
    · rw [if_pos q, if_neg (show ¬ f b < f a by omega)]
    · rw [if_neg (show ¬ f a < f b by omega), if_pos (show f b < f a by omega)]
/-- chains besides -/
def zChs (S : Nat → Nat → Bool) (H : Nat → Bool) (r : Nat → Nat → Nat) (s : Nat → Nat) : Nat → Nat → Nat → Bool
  | 0 => S
  | i + 1 => if H i = true then zchn (zChs S H r s i) (r i) 0 (s i - 1) else zChs S H r s i
def zSay (n m : Nat) (f : Nat → Nat) (C : Nat → Bool) (D G : Nat → Nat → Bool) (H : Nat → Bool) (r : Nat → Nat → Nat) (s : Nat → Nat) : Nat → Nat → Bool := zChs (fun p q => decide (p < n ∧ q < n ∧ p ≠ q) && zWq f C D G p q) H r s m
/-- flags of boxes, tables of boxes, rows of a telling in the reference -/
def rFlg (M : zMem) (c t : Nat) (g : Nat → Bool) : Prop := ∀ b : Nat, b < 16 → M ((c : Nat) : Int) ((16 * t + b : Nat) : Int) = zbI (g b)
def rMat (M : zMem) (c t : Nat) (g : Nat → Nat → Bool) : Prop := ∀ a b : Nat, a < 16 → b < 16 → M ((c : Nat) : Int) ((256 * t + 16 * a + b : Nat) : Int) = zbI (g a b)
def rRow (M : zMem) (t m : Nat) (s : Nat → Nat) (r : Nat → Nat → Nat) : Prop := ∀ i k : Nat, i < m → k < s i → M ((261 : Nat) : Int) ((256 * t + 16 * i + k : Nat) : Int) = ((r i k : Nat) : Int)
theorem zchn_su (T : Nat → Nat → Bool) (w : Nat → Nat) (f k p q : Nat) : zchn T w f (k + 1) p q = ((zchn T w f k p q || (decide (p = w (f + k)) && decide (q = w (f + k + 1)))) || (decide (p = w (f + k + 1)) && decide (q = w (f + k)))) := rfl
theorem m_hear {O : zOm} (hO : zWld O) (hS : zS O = zmS zC0) {t n m : Nat} {f : Nat → Nat} {C : Nat → Bool} {D G : Nat → Nat → Bool} {H : Nat → Bool} {r : Nat → Nat → Nat} {s : Nat → Nat} {M : zMem} {K : Option zV → zMem → Prop} (ht : t < 7) (hn : M 250 ((1 : Nat) : Int) = ((n : Nat) : Int)) (hn2 : n ≤ 16) (hm : M ((258 : Nat) : Int) ((t : Nat) : Int) = ((m : Nat) : Int)) (hm2 : m ≤ 16) (hb : rBox M t n f) (hb2 : ∀ q : Nat, q < n → f q < 16) (hC : rFlg M 262 t C) (hH : rFlg M 263 t H) (hD : rMat M 264 t D) (hG : rMat M 265 t G) (hs : rSiz M t s) (hs2 : ∀ b : Nat, b < m → s b ≤ 16) (hr : ∀ i k : Nat, i < m → H i = true → k < s i → M ((261 : Nat) : Int) ((256 * t + 16 * i + k : Nat) : Int) = ((r i k : Nat) : Int)) (hr2 : ∀ i k : Nat, i < m → H i = true → k < s i → r i k < 16)
    (hk : ∀ M', (∀ b j, ¬ b = ((268 : Nat) : Int) → M' b j = M b j) → rMx M' 268 (zSay n m f C D G H r s) → K none M') : zR O F_Model_hear [(2, 250), (0, ((t : Nat) : Int))] M K := by
  apply r_Model_hear hO
  unfold B_Model_hear
  have f22 := zMF (k := 22) hS rfl; have a268 := zMA (a := 268) (ty := .boolean) (n := 256) hS rfl; have f1 := zMF (k := 1) hS rfl; have f13 := zMF (k := 13) hS rfl; have a259 := zMA (a := 259) (ty := .int) (n := 112) hS rfl; have f16 := zMF (k := 16) hS rfl; have a262 := zMA (a := 262) (ty := .boolean) (n := 112) hS rfl; have f18 := zMF (k := 18) hS rfl; have a264 := zMA (a := 264) (ty := .boolean) (n := 1792) hS rfl; have f19 := zMF (k := 19) hS rfl; have a265 := zMA (a := 265) (ty := .boolean) (n := 1792) hS rfl; have f12 := zMF (k := 12) hS rfl; have a258 := zMA (a := 258) (ty := .int) (n := 7) hS rfl; have f17 := zMF (k := 17) hS rfl; have a263 := zMA (a := 263) (ty := .boolean) (n := 112) hS rfl; have f14 := zMF (k := 14) hS rfl; have a260 := zMA (a := 260) (ty := .int) (n := 112) hS rfl; have f15 := zMF (k := 15) hS rfl; have a261 := zMA (a := 261) (ty := .int) (n := 1792) hS rfl; have zo := zMO hS
  ((with_reducible refine i_Seq (i_Seq (i_Blk (i_Seq (i_Set (i_I ?_)))))); simp only [w_set0, w_set1, w_setn0, w_setn1])
  refine w_ForN 256 (fun k ρ M' => ρ = [250, ((t : Nat) : Int), ((k : Nat) : Int)] ∧ (∀ b j, ¬ b = ((268 : Nat) : Int) → M' b j = M b j) ∧ ∀ j : Nat, j < k → M' ((268 : Nat) : Int) ((j : Nat) : Int) = 0) ⟨rfl, fun _ _ _ => rfl, fun j hj => absurd hj (by omega)⟩ ?_ ?_
  · rintro k ρ M9 X hk1 ⟨rfl, hf, h⟩ hX
    ((with_reducible refine i_turn (i_cI_lt (i_L2 (i_I ?_)))); (with_reducible refine i_t (by omega) ?_); (with_reducible refine i_sZA (i_FR (i_A0 ?_))); (with_reducible refine i_fldR (by assumption) ?_); (with_reducible refine i_L2 (i_I ?_)); (with_reducible refine i_zin (Or.inl rfl) (by assumption) (by omega) (by omega) ?_); (with_reducible refine i_up (i_Inc2 ?_)); rw [zx_inc (by omega)]; simp only [w_set0, w_set1, w_setn0, w_setn1])
    refine hX _ _ ⟨rfl, (by intro b j q; ((rw [zg_n _ _ _ (by omega)])); first | done | rfl | exact hf b j (by omega)), fun j hj => ?_⟩
    by_cases e : j = k
    · subst e; rw [zg_s]
    · rw [zg_m _ _ _ _ _ (by omega)]; exact h j (by omega)
  rintro ρ M1 X ⟨rfl, hf1, h1⟩
  ((with_reducible refine i_turn (i_cI_lt (i_L2 (i_I ?_)))); (with_reducible refine i_f (by omega) ?_); (with_reducible refine i_Seq (i_Blk (i_Seq (i_Set (i_I ?_))))); simp only [w_set0, w_set1, w_setn0, w_setn1])
  have hQ := zWq_sym f C D G
  refine w_Pairs (n := n) (fun _ _ => [250, ((t : Nat) : Int)]) (fun a b M' => (∀ b j, ¬ b = ((268 : Nat) : Int) → M' b j = M b j) ∧ rMx M' 268 (zpt (zWq f C D G) n a b)) (fun _ _ => ⟨[((t : Nat) : Int)], rfl, rfl⟩) f1 (fun a b M' h => (h.1 _ _ (by omega)).trans hn) hn2 ⟨_, rfl⟩ ⟨hf1, fun p q hp hq => by rw [h1 _ (by omega), zpt_0]; rfl⟩ (fun a M' _ h => ⟨⟨h.1, h.2.ext fun p q _ _ => zpt_row _ _ _ _ _⟩, rfl⟩) (fun a M' _ h => ⟨⟨h.1, h.2.ext fun p q _ _ => zpt_nx _ _ _ _ _⟩, rfl⟩) ?_ ?_
  · intro a b l M2 Y Z hab hbn ⟨hf, h⟩ hY
    simp only [List.cons_append, List.nil_append] at hY ⊢
    have ga : M2 ((259 : Nat) : Int) ((16 * t + a : Nat) : Int) = ((f a : Nat) : Int) := (hf _ _ (by omega)).trans (hb a (by omega))
    have gb : M2 ((259 : Nat) : Int) ((16 * t + b : Nat) : Int) = ((f b : Nat) : Int) := (hf _ _ (by omega)).trans (hb b hbn)
    have la := hb2 a (by omega)
    have lb := hb2 b hbn
    have gC : M2 ((262 : Nat) : Int) ((16 * t + f a : Nat) : Int) = zbI (C (f a)) := (hf _ _ (by omega)).trans (hC _ la)
    have gD1 : M2 ((264 : Nat) : Int) ((256 * t + (16 * f a + f b) : Nat) : Int) = zbI (D (f a) (f b)) := by rw [← Nat.add_assoc]; exact (hf _ _ (by omega)).trans (hD _ _ la lb)
    have gD2 : M2 ((264 : Nat) : Int) ((256 * t + (16 * f b + f a) : Nat) : Int) = zbI (D (f b) (f a)) := by rw [← Nat.add_assoc]; exact (hf _ _ (by omega)).trans (hD _ _ lb la)
    have gG1 : M2 ((265 : Nat) : Int) ((256 * t + 16 * a + f b : Nat) : Int) = zbI (G a (f b)) := (hf _ _ (by omega)).trans (hG _ _ (by omega) lb)
    have gG2 : M2 ((265 : Nat) : Int) ((256 * t + 16 * b + f a : Nat) : Int) = zbI (G b (f a)) := (hf _ _ (by omega)).trans (hG _ _ (by omega) la)
    have fin1 : ∀ M4, (∀ b j, ¬ b = ((268 : Nat) : Int) → M4 b j = M2 b j) → rMx M4 268 (zmu (zmu (zpt (zWq f C D G) n a b) a b true) b a true) → zWq f C D G a b = true → (∀ b j, ¬ b = ((268 : Nat) : Int) → M4 b j = M b j) ∧ rMx M4 268 (zpt (zWq f C D G) n a (b + 1)) := fun M4 hf4 h4 hw => ⟨fun b j q => (hf4 b j q).trans (hf b j q), h4.ext fun p q _ _ => by rw [zpt_su hQ hab hbn, hw]⟩
    have fin2 : zWq f C D G a b = false → (∀ b j, ¬ b = ((268 : Nat) : Int) → M2 b j = M b j) ∧ rMx M2 268 (zpt (zWq f C D G) n a (b + 1)) := fun hw => ⟨hf, h.ext fun p q _ _ => by rw [zpt_no hQ hab hbn hw]⟩
    rcases Nat.lt_trichotomy (f a) (f b) with e | e | e
    · have e2 : ¬ f a = f b := by omega
      (focus ((with_reducible refine i_Blk (i_Seq (i_Set (i_IA (i_FR (i_A0 ?_)))))); (with_reducible refine i_fldR (by assumption) ?_); (with_reducible refine i_Add (i_Mul (i_I (i_L1 (i_L2 ?_))))); rw [zx_cmul (by omega)]; rw [zx_add (by omega)]; (with_reducible refine i_in (by assumption) (by omega) (by omega) ?_); (with_reducible refine i_Seq (i_Set (i_IA (i_FR ?_)))); (rw [ga]); simp only [w_set0, w_set1, w_setn0, w_setn1]; (with_reducible refine i_A0 ?_); (with_reducible refine i_fldR (by assumption) ?_); (with_reducible refine i_Add (i_Mul (i_I (i_L1 (i_L3 ?_))))); rw [zx_cmul (by omega)]; rw [zx_add (by omega)]; (with_reducible refine i_in (by assumption) (by omega) (by omega) ?_); (with_reducible refine i_Seq (i_Set (i_eIf (i_cI_eq ?_)))); (rw [gb]); simp only [w_set0, w_set1, w_setn0, w_setn1]; rw [w_setT]; simp only [w_set0, w_set1, w_setn0, w_setn1]; (with_reducible refine i_L4 ?_); rw [w_setT]; (with_reducible refine i_L5 ?_); (with_reducible refine i_f (by omega) ?_); (with_reducible refine i_ZA (i_FR (i_A0 ?_))); (with_reducible refine i_fldR (by assumption) ?_); (with_reducible refine i_Add (i_Mul (i_I (i_L1 (i_eIf (i_cI_lt (i_L4 (i_L5 ?_)))))))); rw [zx_cmul (by omega)]; (with_reducible refine i_t (by omega) ?_); (with_reducible refine i_Add (i_Mul (i_I (i_L4 (i_L5 ?_))))); rw [zx_cmul (by omega)]; rw [zx_add (by omega)]; rw [zx_add (by omega)]; (with_reducible refine i_in (by assumption) (by omega) (by omega) ?_); (with_reducible refine i_If (i_cOr (i_cOr (i_cZ_ne ?_)))); (rw [gD1]); simp only [w_set0, w_set1, w_setn0, w_setn1]; rw [w_setT]; (with_reducible refine i_L6 ?_); (with_reducible refine i_bne ?_ ?_ <;> intro hc); (focus ((with_reducible refine i_sCall (i_as1 (i_A0 (i_as1 (i_L2 (i_as1 (i_L3 (i_as0 ?_)))))))); (with_reducible refine i_recv0 (by assumption) ?_); (refine m_say hO hS (by omega) (by omega) h (fun M4 hf4 h4 => ⟨rfl, ?_⟩)))); rotate_left; (focus ((with_reducible refine i_cZ_ne (i_ZA (i_FR (i_A0 ?_)))); (with_reducible refine i_fldR (by assumption) ?_); (with_reducible refine i_Add (i_Add (i_Mul (i_I (i_L1 (i_Mul (i_I (i_L2 (i_L5 ?_))))))))); rw [zx_cmul (by omega)]; rw [zx_cmul (by omega)]; rw [zx_add (by omega)]; rw [zx_add (by omega)]; (with_reducible refine i_in (by assumption) (by omega) (by omega) ?_); (rw [gG1]); (with_reducible refine i_bne ?_ ?_ <;> intro hc); (focus ((with_reducible refine i_sCall (i_as1 (i_A0 (i_as1 (i_L2 (i_as1 (i_L3 (i_as0 ?_)))))))); (with_reducible refine i_recv0 (by assumption) ?_); (refine m_say hO hS (by omega) (by omega) h (fun M4 hf4 h4 => ⟨rfl, ?_⟩)))); rotate_left; (focus ((with_reducible refine i_cZ_ne (i_ZA (i_FR (i_A0 ?_)))); (with_reducible refine i_fldR (by assumption) ?_); (with_reducible refine i_Add (i_Add (i_Mul (i_I (i_L1 (i_Mul (i_I (i_L3 (i_L4 ?_))))))))); rw [zx_cmul (by omega)]; rw [zx_cmul (by omega)]; rw [zx_add (by omega)]; rw [zx_add (by omega)]; (with_reducible refine i_in (by assumption) (by omega) (by omega) ?_); (rw [gG2]); (with_reducible refine i_bne ?_ ?_ <;> intro hc); (focus ((with_reducible refine i_sCall (i_as1 (i_A0 (i_as1 (i_L2 (i_as1 (i_L3 (i_as0 ?_)))))))); (with_reducible refine i_recv0 (by assumption) ?_); (refine m_say hO hS (by omega) (by omega) h (fun M4 hf4 h4 => ⟨rfl, ?_⟩)))); rotate_left; rotate_right)); rotate_right)); rotate_right))
      all_goals first | exact hY _ _ (fin1 _ hf4 h4 (by unfold zWq; simp [*])) | exact hY _ _ (fin2 (by unfold zWq; simp [*]))
    · (focus ((with_reducible refine i_Blk (i_Seq (i_Set (i_IA (i_FR (i_A0 ?_)))))); (with_reducible refine i_fldR (by assumption) ?_); (with_reducible refine i_Add (i_Mul (i_I (i_L1 (i_L2 ?_))))); rw [zx_cmul (by omega)]; rw [zx_add (by omega)]; (with_reducible refine i_in (by assumption) (by omega) (by omega) ?_); (with_reducible refine i_Seq (i_Set (i_IA (i_FR ?_)))); (rw [ga]); simp only [w_set0, w_set1, w_setn0, w_setn1]; (with_reducible refine i_A0 ?_); (with_reducible refine i_fldR (by assumption) ?_); (with_reducible refine i_Add (i_Mul (i_I (i_L1 (i_L3 ?_))))); rw [zx_cmul (by omega)]; rw [zx_add (by omega)]; (with_reducible refine i_in (by assumption) (by omega) (by omega) ?_); (with_reducible refine i_Seq (i_Set (i_eIf (i_cI_eq ?_)))); (rw [gb]); simp only [w_set0, w_set1, w_setn0, w_setn1]; rw [w_setT]; simp only [w_set0, w_set1, w_setn0, w_setn1]; (with_reducible refine i_L4 ?_); rw [w_setT]; (with_reducible refine i_L5 ?_); (with_reducible refine i_t (by omega) ?_); (with_reducible refine i_ZA (i_FR (i_A0 ?_))); (with_reducible refine i_fldR (by assumption) ?_); (with_reducible refine i_Add (i_Mul (i_I (i_L1 (i_L4 ?_))))); rw [zx_cmul (by omega)]; rw [zx_add (by omega)]; (with_reducible refine i_in (by assumption) (by omega) (by omega) ?_); (with_reducible refine i_If (i_cOr (i_cOr (i_cZ_ne ?_)))); (rw [gC]); simp only [w_set0, w_set1, w_setn0, w_setn1]; rw [w_setT]; (with_reducible refine i_L6 ?_); (with_reducible refine i_bne ?_ ?_ <;> intro hc); (focus ((with_reducible refine i_sCall (i_as1 (i_A0 (i_as1 (i_L2 (i_as1 (i_L3 (i_as0 ?_)))))))); (with_reducible refine i_recv0 (by assumption) ?_); (refine m_say hO hS (by omega) (by omega) h (fun M4 hf4 h4 => ⟨rfl, ?_⟩)))); rotate_left; (focus ((with_reducible refine i_cZ_ne (i_ZA (i_FR (i_A0 ?_)))); (with_reducible refine i_fldR (by assumption) ?_); (with_reducible refine i_Add (i_Add (i_Mul (i_I (i_L1 (i_Mul (i_I (i_L2 (i_L5 ?_))))))))); rw [zx_cmul (by omega)]; rw [zx_cmul (by omega)]; rw [zx_add (by omega)]; rw [zx_add (by omega)]; (with_reducible refine i_in (by assumption) (by omega) (by omega) ?_); (rw [gG1]); (with_reducible refine i_bne ?_ ?_ <;> intro hc); (focus ((with_reducible refine i_sCall (i_as1 (i_A0 (i_as1 (i_L2 (i_as1 (i_L3 (i_as0 ?_)))))))); (with_reducible refine i_recv0 (by assumption) ?_); (refine m_say hO hS (by omega) (by omega) h (fun M4 hf4 h4 => ⟨rfl, ?_⟩)))); rotate_left; (focus ((with_reducible refine i_cZ_ne (i_ZA (i_FR (i_A0 ?_)))); (with_reducible refine i_fldR (by assumption) ?_); (with_reducible refine i_Add (i_Add (i_Mul (i_I (i_L1 (i_Mul (i_I (i_L3 (i_L4 ?_))))))))); rw [zx_cmul (by omega)]; rw [zx_cmul (by omega)]; rw [zx_add (by omega)]; rw [zx_add (by omega)]; (with_reducible refine i_in (by assumption) (by omega) (by omega) ?_); (rw [gG2]); (with_reducible refine i_bne ?_ ?_ <;> intro hc); (focus ((with_reducible refine i_sCall (i_as1 (i_A0 (i_as1 (i_L2 (i_as1 (i_L3 (i_as0 ?_)))))))); (with_reducible refine i_recv0 (by assumption) ?_); (refine m_say hO hS (by omega) (by omega) h (fun M4 hf4 h4 => ⟨rfl, ?_⟩)))); rotate_left; rotate_right)); rotate_right)); rotate_right))
      all_goals first | exact hY _ _ (fin1 _ hf4 h4 (by unfold zWq; rw [if_pos e]; clear e; simp only [*, Bool.or_true, Bool.true_or])) | exact hY _ _ (fin2 (by unfold zWq; rw [if_pos e]; clear e; simp only [*, Bool.or_false, Bool.or_self]))
    · have e2 : ¬ f a = f b := by omega
      have e3 : ¬ f a < f b := by omega
      (focus ((with_reducible refine i_Blk (i_Seq (i_Set (i_IA (i_FR (i_A0 ?_)))))); (with_reducible refine i_fldR (by assumption) ?_); (with_reducible refine i_Add (i_Mul (i_I (i_L1 (i_L2 ?_))))); rw [zx_cmul (by omega)]; rw [zx_add (by omega)]; (with_reducible refine i_in (by assumption) (by omega) (by omega) ?_); (with_reducible refine i_Seq (i_Set (i_IA (i_FR ?_)))); (rw [ga]); simp only [w_set0, w_set1, w_setn0, w_setn1]; (with_reducible refine i_A0 ?_); (with_reducible refine i_fldR (by assumption) ?_); (with_reducible refine i_Add (i_Mul (i_I (i_L1 (i_L3 ?_))))); rw [zx_cmul (by omega)]; rw [zx_add (by omega)]; (with_reducible refine i_in (by assumption) (by omega) (by omega) ?_); (with_reducible refine i_Seq (i_Set (i_eIf (i_cI_eq ?_)))); (rw [gb]); simp only [w_set0, w_set1, w_setn0, w_setn1]; rw [w_setT]; simp only [w_set0, w_set1, w_setn0, w_setn1]; (with_reducible refine i_L4 ?_); rw [w_setT]; (with_reducible refine i_L5 ?_); (with_reducible refine i_f (by omega) ?_); (with_reducible refine i_ZA (i_FR (i_A0 ?_))); (with_reducible refine i_fldR (by assumption) ?_); (with_reducible refine i_Add (i_Mul (i_I (i_L1 (i_eIf (i_cI_lt (i_L4 (i_L5 ?_)))))))); rw [zx_cmul (by omega)]; (with_reducible refine i_f (by omega) ?_); (with_reducible refine i_Add (i_Mul (i_I (i_L5 (i_L4 ?_))))); rw [zx_cmul (by omega)]; rw [zx_add (by omega)]; rw [zx_add (by omega)]; (with_reducible refine i_in (by assumption) (by omega) (by omega) ?_); (with_reducible refine i_If (i_cOr (i_cOr (i_cZ_ne ?_)))); (rw [gD2]); simp only [w_set0, w_set1, w_setn0, w_setn1]; rw [w_setT]; (with_reducible refine i_L6 ?_); (with_reducible refine i_bne ?_ ?_ <;> intro hc); (focus ((with_reducible refine i_sCall (i_as1 (i_A0 (i_as1 (i_L2 (i_as1 (i_L3 (i_as0 ?_)))))))); (with_reducible refine i_recv0 (by assumption) ?_); (refine m_say hO hS (by omega) (by omega) h (fun M4 hf4 h4 => ⟨rfl, ?_⟩)))); rotate_left; (focus ((with_reducible refine i_cZ_ne (i_ZA (i_FR (i_A0 ?_)))); (with_reducible refine i_fldR (by assumption) ?_); (with_reducible refine i_Add (i_Add (i_Mul (i_I (i_L1 (i_Mul (i_I (i_L2 (i_L5 ?_))))))))); rw [zx_cmul (by omega)]; rw [zx_cmul (by omega)]; rw [zx_add (by omega)]; rw [zx_add (by omega)]; (with_reducible refine i_in (by assumption) (by omega) (by omega) ?_); (rw [gG1]); (with_reducible refine i_bne ?_ ?_ <;> intro hc); (focus ((with_reducible refine i_sCall (i_as1 (i_A0 (i_as1 (i_L2 (i_as1 (i_L3 (i_as0 ?_)))))))); (with_reducible refine i_recv0 (by assumption) ?_); (refine m_say hO hS (by omega) (by omega) h (fun M4 hf4 h4 => ⟨rfl, ?_⟩)))); rotate_left; (focus ((with_reducible refine i_cZ_ne (i_ZA (i_FR (i_A0 ?_)))); (with_reducible refine i_fldR (by assumption) ?_); (with_reducible refine i_Add (i_Add (i_Mul (i_I (i_L1 (i_Mul (i_I (i_L3 (i_L4 ?_))))))))); rw [zx_cmul (by omega)]; rw [zx_cmul (by omega)]; rw [zx_add (by omega)]; rw [zx_add (by omega)]; (with_reducible refine i_in (by assumption) (by omega) (by omega) ?_); (rw [gG2]); (with_reducible refine i_bne ?_ ?_ <;> intro hc); (focus ((with_reducible refine i_sCall (i_as1 (i_A0 (i_as1 (i_L2 (i_as1 (i_L3 (i_as0 ?_)))))))); (with_reducible refine i_recv0 (by assumption) ?_); (refine m_say hO hS (by omega) (by omega) h (fun M4 hf4 h4 => ⟨rfl, ?_⟩)))); rotate_left; rotate_right)); rotate_right)); rotate_right))
      all_goals first | exact hY _ _ (fin1 _ hf4 h4 (by unfold zWq; simp [*])) | exact hY _ _ (fin2 (by unfold zWq; simp [*]))
  · intro l M2 ⟨hf, h⟩
    simp only [List.cons_append, List.nil_append]
    ((with_reducible refine i_Blk (i_Seq (i_Set (i_I ?_)))); simp only [w_set0, w_set1, w_setn0, w_setn1])
    refine w_ForN m (fun i ρ M' => (∃ l, ρ = 250 :: ((t : Nat) : Int) :: ((i : Nat) : Int) :: l) ∧ (∀ b j, ¬ b = ((268 : Nat) : Int) → M' b j = M b j) ∧ rMx M' 268 (zChs (fun p q => decide (p < n ∧ q < n ∧ p ≠ q) && zWq f C D G p q) H r s i)) ⟨⟨_, rfl⟩, hf, h.ext fun p q _ _ => zpt_end _ _ _ _⟩ ?_ ?_
    · rintro i ρ M3 X hi ⟨⟨l, rfl⟩, hf, h⟩ hX
      have gm : M3 ((258 : Nat) : Int) ((t : Nat) : Int) = ((m : Nat) : Int) := (hf _ _ (by omega)).trans hm
      have gH : M3 ((263 : Nat) : Int) ((16 * t + i : Nat) : Int) = zbI (H i) := (hf _ _ (by omega)).trans (hH _ (by omega))
      cases hv : H i
      · rw [hv] at gH
        ((with_reducible refine i_turn (i_cI_lt (i_L2 (i_IA (i_FR (i_A0 ?_)))))); (with_reducible refine i_fldR (by assumption) ?_); (with_reducible refine i_L1 ?_); (with_reducible refine i_in (by assumption) (by omega) (by omega) ?_); (rw [gm]); (with_reducible refine i_t (by omega) ?_); (with_reducible refine i_Seq (i_IfBrk (i_cNot (i_cZ_ne (i_ZA (i_FR (i_A0 ?_))))))); (with_reducible refine i_fldR (by assumption) ?_); (with_reducible refine i_Add (i_Mul (i_I (i_L1 (i_L2 ?_))))); rw [zx_cmul (by omega)]; rw [zx_add (by omega)]; (with_reducible refine i_in (by assumption) (by omega) (by omega) ?_); (rw [gH, zbI_f]); (with_reducible refine i_f (by omega) ?_); (with_reducible refine i_lab1 (i_up (i_Inc2 ?_))); rw [zx_inc (by omega)]; simp only [w_set0, w_set1, w_setn0, w_setn1])
        exact hX _ _ ⟨⟨_, rfl⟩, hf, by unfold zChs; rw [if_neg (by rw [hv]; simp)]; exact h⟩
      · rw [hv] at gH
        ((with_reducible refine i_turn (i_cI_lt (i_L2 (i_IA (i_FR (i_A0 ?_)))))); (with_reducible refine i_fldR (by assumption) ?_); (with_reducible refine i_L1 ?_); (with_reducible refine i_in (by assumption) (by omega) (by omega) ?_); (rw [gm]); (with_reducible refine i_t (by omega) ?_); (with_reducible refine i_Seq (i_IfBrk (i_cNot (i_cZ_ne (i_ZA (i_FR (i_A0 ?_))))))); (with_reducible refine i_fldR (by assumption) ?_); (with_reducible refine i_Add (i_Mul (i_I (i_L1 (i_L2 ?_))))); rw [zx_cmul (by omega)]; rw [zx_add (by omega)]; (with_reducible refine i_in (by assumption) (by omega) (by omega) ?_); (rw [gH, zbI_t]); (with_reducible refine i_t (by omega) ?_); (with_reducible refine i_Blk (i_Seq (i_Set (i_I ?_)))); simp only [w_set0, w_set1, w_setn0, w_setn1]; rw [w_setT])
        have hsi := hs2 i hi
        refine w_ForN (s i - 1) (fun k ρ M' => (∃ l, ρ = 250 :: ((t : Nat) : Int) :: ((i : Nat) : Int) :: ((k + 1 : Nat) : Int) :: l) ∧ (∀ b j, ¬ b = ((268 : Nat) : Int) → M' b j = M b j) ∧ rMx M' 268 (zchn (zChs (fun p q => decide (p < n ∧ q < n ∧ p ≠ q) && zWq f C D G p q) H r s i) (r i) 0 k)) ⟨⟨_, rfl⟩, hf, h⟩ ?_ ?_
        · rintro k ρ M4 X1 hk1 ⟨⟨l, rfl⟩, hf, h⟩ hX1
          have gs : M4 ((260 : Nat) : Int) ((16 * t + i : Nat) : Int) = ((s i : Nat) : Int) := (hf _ _ (by omega)).trans (hs _ (by omega))
          have g1 : M4 ((261 : Nat) : Int) ((256 * t + 16 * i + (k + 1) - 1 : Nat) : Int) = ((r i k : Nat) : Int) := (hf _ _ (by omega)).trans (hr i k hi hv (by omega))
          have g2 : M4 ((261 : Nat) : Int) ((256 * t + 16 * i + (k + 1) : Nat) : Int) = ((r i (k + 1) : Nat) : Int) := (hf _ _ (by omega)).trans (hr i (k + 1) hi hv (by omega))
          have l1 := hr2 i k hi hv (by omega)
          have l2 := hr2 i (k + 1) hi hv (by omega)
          ((with_reducible refine i_turn (i_cI_lt (i_L3 (i_IA (i_FR (i_A0 ?_)))))); (with_reducible refine i_fldR (by assumption) ?_); (with_reducible refine i_Add (i_Mul (i_I (i_L1 (i_L2 ?_))))); rw [zx_cmul (by omega)]; rw [zx_add (by omega)]; (with_reducible refine i_in (by assumption) (by omega) (by omega) ?_); (rw [gs]); (with_reducible refine i_t (by omega) ?_); (with_reducible refine i_sCall (i_as1 (i_A0 (i_as1 (i_IA (i_FR (i_A0 ?_))))))); (with_reducible refine i_fldR (by assumption) ?_); (with_reducible refine i_Sub (i_Add (i_Add (i_Mul (i_I (i_L1 (i_Mul (i_I (i_L2 (i_L3 (i_I ?_))))))))))); rw [zx_cmul (by omega)]; rw [zx_cmul (by omega)]; rw [zx_add (by omega)]; rw [zx_add (by omega)]; rw [zx_subc (by omega) (by omega)]; (with_reducible refine i_in (by assumption) (by omega) (by omega) ?_); (with_reducible refine i_as1 (i_IA (i_FR (i_A0 ?_)))); (with_reducible refine i_fldR (by assumption) ?_); (with_reducible refine i_Add (i_Add (i_Mul (i_I (i_L1 (i_Mul (i_I (i_L2 (i_L3 ?_))))))))); (rw [g1]); rw [zx_cmul (by omega)]; rw [zx_cmul (by omega)]; rw [zx_add (by omega)]; rw [zx_add (by omega)]; (with_reducible refine i_in (by assumption) (by omega) (by omega) ?_); (with_reducible refine i_as0 ?_); (with_reducible refine i_recv0 (by assumption) ?_); (rw [g2]); (refine m_say hO hS l1 l2 h (fun M5 hf5 h5 => ⟨rfl, ?_⟩)); (with_reducible refine i_up (i_Inc3 ?_)); rw [zx_inc (by omega)]; simp only [w_set0, w_set1, w_setn0, w_setn1])
          refine hX1 _ _ ⟨⟨_, rfl⟩, fun b j q => (hf5 b j q).trans (hf b j q), h5.ext fun p q _ _ => ?_⟩
          rw [zchn_su, Nat.zero_add]
          unfold zmu
          by_cases c1 : p = r i (k + 1) ∧ q = r i k
          · rw [if_pos c1]; simp [c1]
          · rw [if_neg c1]
            by_cases c2 : p = r i k ∧ q = r i (k + 1)
            · rw [if_pos c2]; simp [c2]
            · rw [if_neg c2]
              have d1 : (decide (p = r i (k + 1)) && decide (q = r i k)) = false := by rw [← Bool.decide_and]; exact decide_eq_false c1
              have d2 : (decide (p = r i k) && decide (q = r i (k + 1))) = false := by rw [← Bool.decide_and]; exact decide_eq_false c2
              rw [d1, d2, Bool.or_false, Bool.or_false]
        · rintro ρ M4 X1 ⟨⟨l, rfl⟩, hf, h⟩
          have gs : M4 ((260 : Nat) : Int) ((16 * t + i : Nat) : Int) = ((s i : Nat) : Int) := (hf _ _ (by omega)).trans (hs _ (by omega))
          ((with_reducible refine i_turn (i_cI_lt (i_L3 (i_IA (i_FR (i_A0 ?_)))))); (with_reducible refine i_fldR (by assumption) ?_); (with_reducible refine i_Add (i_Mul (i_I (i_L1 (i_L2 ?_))))); rw [zx_cmul (by omega)]; rw [zx_add (by omega)]; (with_reducible refine i_in (by assumption) (by omega) (by omega) ?_); (rw [gs]); (with_reducible refine i_f (by omega) ?_); (with_reducible refine i_up (i_Inc2 ?_)); rw [zx_inc (by omega)]; simp only [w_set0, w_set1, w_setn0, w_setn1])
          exact hX _ _ ⟨⟨_, rfl⟩, hf, by unfold zChs; rw [if_pos hv]; exact h⟩
    · rintro ρ M3 X ⟨⟨l, rfl⟩, hf, h⟩
      have gm : M3 ((258 : Nat) : Int) ((t : Nat) : Int) = ((m : Nat) : Int) := (hf _ _ (by omega)).trans hm
      ((with_reducible refine i_turn (i_cI_lt (i_L2 (i_IA (i_FR (i_A0 ?_)))))); (with_reducible refine i_fldR (by assumption) ?_); (with_reducible refine i_L1 ?_); (with_reducible refine i_in (by assumption) (by omega) (by omega) ?_); (rw [gm]); (with_reducible refine i_f (by omega) ?_); (with_reducible refine i_RetV ?_))
      exact hk _ hf h
end
section
-- part a6.sums.lean.txt
/-! ===== sums over pairs of posts; the reference's counts ===== -/
def zsI (w : Nat → Int) : Nat → Int
  | 0 => 0
  | k + 1 => zsI w k + w k
/-- the sum over pairs ahead of (a, b) -/
def zov (w : Nat → Nat → Int) (n a b : Nat) : Int := zsI (fun p => zsI (fun q => if p < q then w p q else 0) n) a + zsI (fun q => if a < q then w a q else 0) b
def zP2 (w : Nat → Nat → Int) (n : Nat) : Int := zsI (fun p => zsI (fun q => if p < q then w p q else 0) n) n
theorem zsI_ext {v w : Nat → Int} {n : Nat} (h : ∀ i, i < n → v i = w i) : zsI v n = zsI w n := by
  induction n with
  | zero => rfl
  | succ n ih => unfold zsI; rw [ih (fun i hi => h i (by omega)), h n (by omega)]
theorem zsI_0 {w : Nat → Int} {n : Nat} (h : ∀ i, i < n → w i = 0) : zsI w n = 0 := by
  induction n with
  | zero => rfl
  | succ n ih => unfold zsI; rw [ih (fun i hi => h i (by omega)), h n (by omega)]; rfl
theorem zsI_add (v w : Nat → Int) (n : Nat) : zsI (fun i => v i + w i) n = zsI v n + zsI w n := by
  induction n with
  | zero => rfl
  | succ n ih => unfold zsI; rw [ih]; omega
theorem zsI_mul (c : Int) (w : Nat → Int) (n : Nat) : zsI (fun i => c * w i) n = c * zsI w n := by
  induction n with
  | zero => simp [zsI]
  | succ n ih => unfold zsI; rw [ih, Int.mul_add]
theorem zsI_b {w : Nat → Int} {c : Int} (h : ∀ i, -c ≤ w i ∧ w i ≤ c) (n : Nat) : -(n * c) ≤ zsI w n ∧ zsI w n ≤ n * c := by
  induction n with
  | zero => simp [zsI]
  | succ n ih =>
    have := h n
    have e : ((n + 1 : Nat) : Int) * c = n * c + c := by rw [Int.natCast_add, Int.add_mul]; simp
    unfold zsI
    rw [e]
    omega
theorem zov_00 (w : Nat → Nat → Int) (n : Nat) : zov w n 0 0 = 0 := rfl
theorem zov_row (w : Nat → Nat → Int) (n a : Nat) : zov w n a 0 = zov w n a (a + 1) := by
  unfold zov
  rw [zsI_0 (n := a + 1) (fun i hi => if_neg (by omega))]
  rfl
theorem zov_nx (w : Nat → Nat → Int) (n a : Nat) : zov w n a n = zov w n (a + 1) 0 := by
  unfold zov
  show _ = (zsI _ a + zsI _ n) + 0
  omega
theorem zov_su (w : Nat → Nat → Int) {n a b : Nat} (h : a < b) : zov w n a (b + 1) = zov w n a b + w a b := by
  unfold zov
  rw [show zsI (fun q => if a < q then w a q else 0) (b + 1) = zsI (fun q => if a < q then w a q else 0) b + (if a < b then w a b else 0) from rfl, if_pos h]
  omega
theorem zov_end (w : Nat → Nat → Int) (n : Nat) : zov w n n 0 = zP2 w n := by unfold zov zP2; show _ + 0 = _; omega
theorem zov_b {w : Nat → Nat → Int} (h : ∀ p q, -1 ≤ w p q ∧ w p q ≤ 1) {n a b : Nat} (hn : n ≤ 16) (ha : a ≤ 16) (hb : b ≤ 16) : -272 ≤ zov w n a b ∧ zov w n a b ≤ 272 := by
  have h1 := zsI_b (w := fun p => zsI (fun q => if p < q then w p q else 0) n) (c := 16) (fun p => by
    have h2 := zsI_b (w := fun q => if p < q then w p q else 0) (c := 1) (fun q => by have := h p q; show _ ≤ (if _ then _ else _) ∧ (if _ then _ else _) ≤ _; split <;> omega) n
    omega) a
  have h2 := zsI_b (w := fun q => if a < q then w a q else 0) (c := 1) (fun q => by have := h a q; show _ ≤ (if _ then _ else _) ∧ (if _ then _ else _) ≤ _; split <;> omega) b
  unfold zov
  omega
theorem zP2_ext {v w : Nat → Nat → Int} {n : Nat} (h : ∀ p q, p < q → q < n → v p q = w p q) : zP2 v n = zP2 w n := by
  unfold zP2
  refine zsI_ext fun p _ => zsI_ext fun q hq => ?_
  by_cases e : p < q
  · rw [if_pos e, if_pos e, h p q e hq]
  · rw [if_neg e, if_neg e]
def zsg (b : Bool) : Int := if b = true then 1 else -1
theorem zsg_b (b : Bool) : -1 ≤ zsg b ∧ zsg b ≤ 1 := by cases b <;> simp [zsg]
theorem zbI_b (b : Bool) : -1 ≤ zbI b ∧ zbI b ≤ 1 := by cases b <;> simp [zbI]
theorem m_tiesOfGoal {O : zOm} (hO : zWld O) (hS : zS O = zmS zC0) {n : Nat} {T : Nat → Nat → Bool} {M : zMem} {K : Option zV → zMem → Prop} (hn : M 250 ((1 : Nat) : Int) = ((n : Nat) : Int)) (hn2 : n ≤ 16) (hT : rMx M 267 T) (hk : K (some (0, zP2 (fun p q => zbI (T p q)) n)) M) : zR O F_Model_tiesOfGoal [(2, 250)] M K := by
  apply r_Model_tiesOfGoal hO
  unfold B_Model_tiesOfGoal
  have f1 := zMF (k := 1) hS rfl; have f21 := zMF (k := 21) hS rfl; have a267 := zMA (a := 267) (ty := .boolean) (n := 256) hS rfl; have zo := zMO hS
  ((with_reducible refine i_Seq (i_Set (i_I (i_Seq (i_Blk (i_Seq (i_Set (i_I ?_)))))))); simp only [w_set0, w_set1, w_setn0, w_setn1])
  refine w_Pairs (n := n) (fun a b => [250, zov (fun p q => zbI (T p q)) n a b]) (fun a b M' => M' = M ∧ a ≤ 16) (fun _ _ => ⟨_, rfl, rfl⟩) f1 (fun a b M' h => by rw [h.1]; exact hn) hn2 ⟨_, rfl⟩ ⟨rfl, by omega⟩ (fun a M' _ h => ⟨h, by rw [zov_row]⟩) (fun a M' _ h => ⟨⟨h.1, by omega⟩, by rw [zov_nx]⟩) ?_ ?_
  · rintro a b l M2 Y Z hab hbn ⟨rfl, _⟩ hY
    simp only [List.cons_append, List.nil_append] at hY ⊢
    have hbd := zov_b (w := fun p q => zbI (T p q)) (fun p q => zbI_b _) hn2 (a := a) (b := b) (by omega) (by omega)
    have hT1 := hT a b (by omega) (by omega)
    rw [zov_su _ hab] at hY
    cases e : T a b <;> rw [e] at hT1 hY
    · ((with_reducible refine i_Set (i_Add (i_L1 (i_eIf (i_cZ_ne (i_ZA (i_FR (i_A0 ?_)))))))); (with_reducible refine i_fldR (by assumption) ?_); (with_reducible refine i_Add (i_Mul (i_I (i_L2 (i_L3 ?_))))); rw [zx_cmul (by omega)]; rw [zx_add (by omega)]; (with_reducible refine i_in (by assumption) (by omega) (by omega) ?_); (rw [hT1, zbI_f]); (with_reducible refine i_f (by omega) ?_); (with_reducible refine i_I ?_); rw [zx_s (by omega) (by omega)]; simp only [w_set0, w_set1, w_setn0, w_setn1])
      exact hY _ _ ⟨rfl, by omega⟩
    · ((with_reducible refine i_Set (i_Add (i_L1 (i_eIf (i_cZ_ne (i_ZA (i_FR (i_A0 ?_)))))))); (with_reducible refine i_fldR (by assumption) ?_); (with_reducible refine i_Add (i_Mul (i_I (i_L2 (i_L3 ?_))))); rw [zx_cmul (by omega)]; rw [zx_add (by omega)]; (with_reducible refine i_in (by assumption) (by omega) (by omega) ?_); (rw [hT1, zbI_t]); (with_reducible refine i_t (by omega) ?_); (with_reducible refine i_I ?_); rw [zx_s (by omega) (by omega)]; simp only [w_set0, w_set1, w_setn0, w_setn1])
      exact hY _ _ ⟨rfl, by omega⟩
  · rintro l M2 ⟨rfl, _⟩
    simp only [List.cons_append, List.nil_append]
    rw [zov_end]
    (with_reducible refine i_RetI (i_L1 ?_))
    exact hk
/-- the sums of the two boxes i, j -/
def zky (f : Nat → Nat) (i j p q : Nat) : Bool := decide (f p = i ∧ f q = j ∨ f p = j ∧ f q = i)
def zwo (f : Nat → Nat) (T : Nat → Nat → Bool) (i j p q : Nat) : Int := if zky f i j p q = true then zsg (T p q) else 0
theorem zwo_b (f : Nat → Nat) (T : Nat → Nat → Bool) (i j p q : Nat) : -1 ≤ zwo f T i j p q ∧ zwo f T i j p q ≤ 1 := by
  unfold zwo
  have := zsg_b (T p q)
  split <;> omega
theorem m_weigh {O : zOm} (hO : zWld O) (hS : zS O = zmS zC0) {t n : Nat} {f : Nat → Nat} {T : Nat → Nat → Bool} {M : zMem} {K : Option zV → zMem → Prop} (ht : t < 7) (hn : M 250 ((1 : Nat) : Int) = ((n : Nat) : Int)) (hn2 : n ≤ 16) (hb : rBox M t n f) (hb2 : ∀ q : Nat, q < n → f q < 16) (hT : rMx M 267 T)
    (hk : ∀ M', (∀ b j, ¬ b = ((283 : Nat) : Int) → M' b j = M b j) → (∀ i j : Nat, i ≤ j → j < 16 → M' ((283 : Nat) : Int) ((16 * i + j : Nat) : Int) = zP2 (zwo f T i j) n) → K none M') : zR O F_Model_weigh [(2, 250), (0, ((t : Nat) : Int))] M K := by
  apply r_Model_weigh hO
  unfold B_Model_weigh
  have f41 := zMF (k := 41) hS rfl; have a283 := zMA (a := 283) (ty := .int) (n := 256) hS rfl; have f1 := zMF (k := 1) hS rfl; have f13 := zMF (k := 13) hS rfl; have a259 := zMA (a := 259) (ty := .int) (n := 112) hS rfl; have f21 := zMF (k := 21) hS rfl; have a267 := zMA (a := 267) (ty := .boolean) (n := 256) hS rfl; have zo := zMO hS
  ((with_reducible refine i_Seq (i_Seq (i_Blk (i_Seq (i_Set (i_I ?_)))))); simp only [w_set0, w_set1, w_setn0, w_setn1])
  refine w_ForN 256 (fun k ρ M' => ρ = [250, ((t : Nat) : Int), ((k : Nat) : Int)] ∧ (∀ b j, ¬ b = ((283 : Nat) : Int) → M' b j = M b j) ∧ ∀ j : Nat, j < k → M' ((283 : Nat) : Int) ((j : Nat) : Int) = 0) ⟨rfl, fun _ _ _ => rfl, fun j hj => absurd hj (by omega)⟩ ?_ ?_
  · rintro k ρ M9 X hk1 ⟨rfl, hf, h⟩ hX
    ((with_reducible refine i_turn (i_cI_lt (i_L2 (i_I ?_)))); (with_reducible refine i_t (by omega) ?_); (with_reducible refine i_sIA (i_FR (i_A0 ?_))); (with_reducible refine i_fldR (by assumption) ?_); (with_reducible refine i_L2 (i_I ?_)); (with_reducible refine i_in (by assumption) (by omega) (by omega) ?_); (with_reducible refine i_up (i_Inc2 ?_)); rw [zx_inc (by omega)]; simp only [w_set0, w_set1, w_setn0, w_setn1])
    refine hX _ _ ⟨rfl, (by intro b j q; ((rw [zg_n _ _ _ (by omega)])); first | done | rfl | exact hf b j (by omega)), fun j hj => ?_⟩
    by_cases e : j = k
    · subst e; rw [zg_s]
    · rw [zg_m _ _ _ _ _ (by omega)]; exact h j (by omega)
  rintro ρ M1 X ⟨rfl, hf1, h1⟩
  ((with_reducible refine i_turn (i_cI_lt (i_L2 (i_I ?_)))); (with_reducible refine i_f (by omega) ?_); (with_reducible refine i_Blk (i_Seq (i_Set (i_I ?_)))); simp only [w_set0, w_set1, w_setn0, w_setn1])
  refine w_Pairs (n := n) (fun _ _ => [250, ((t : Nat) : Int)]) (fun a b M' => (∀ b j, ¬ b = ((283 : Nat) : Int) → M' b j = M b j) ∧ (∀ i j : Nat, i ≤ j → j < 16 → M' ((283 : Nat) : Int) ((16 * i + j : Nat) : Int) = zov (zwo f T i j) n a b)) (fun _ _ => ⟨[((t : Nat) : Int)], rfl, rfl⟩) f1 (fun a b M' h => (h.1 _ _ (by omega)).trans hn) hn2 ⟨_, rfl⟩ ⟨hf1, fun i j hi hj => by rw [h1 _ (by omega)]; rfl⟩ (fun a M' _ h => ⟨⟨h.1, fun i j hi hj => by rw [h.2 i j hi hj, zov_row]⟩, rfl⟩) (fun a M' _ h => ⟨⟨h.1, fun i j hi hj => by rw [h.2 i j hi hj, zov_nx]⟩, rfl⟩) ?_ ?_
  · rintro a b l M2 Y Z hab hbn ⟨hf, h⟩ hY
    simp only [List.cons_append, List.nil_append] at hY ⊢
    have ga : M2 ((259 : Nat) : Int) ((16 * t + a : Nat) : Int) = ((f a : Nat) : Int) := (hf _ _ (by omega)).trans (hb a (by omega))
    have gb : M2 ((259 : Nat) : Int) ((16 * t + b : Nat) : Int) = ((f b : Nat) : Int) := (hf _ _ (by omega)).trans (hb b hbn)
    have gT : M2 ((267 : Nat) : Int) ((16 * a + b : Nat) : Int) = zbI (T a b) := (hf _ _ (by omega)).trans (hT a b (by omega) (by omega))
    have la := hb2 a (by omega)
    have lb := hb2 b hbn
    have hbd := fun i j => zov_b (w := zwo f T i j) (zwo_b f T i j) hn2 (a := a) (b := b) (by omega) (by omega)
    have fin : ∀ (i j : Nat) (x : Int), i ≤ j → j < 16 → (f a = i ∧ f b = j ∨ f a = j ∧ f b = i) → x = zov (zwo f T i j) n a b + zsg (T a b) → (∀ c k, ¬ c = ((283 : Nat) : Int) → (zput M2 ((283 : Nat) : Int) (zup (M2 ((283 : Nat) : Int)) ((16 * i + j : Nat) : Int) x)) c k = M c k) ∧ (∀ i' j' : Nat, i' ≤ j' → j' < 16 → (zput M2 ((283 : Nat) : Int) (zup (M2 ((283 : Nat) : Int)) ((16 * i + j : Nat) : Int) x)) ((283 : Nat) : Int) ((16 * i' + j' : Nat) : Int) = zov (zwo f T i' j') n a (b + 1)) := fun i j x hij hj hk1 hx => by
      refine ⟨(by intro b j q; ((rw [zg_n _ _ _ (by omega)])); first | done | rfl | exact hf b j (by omega)), fun i' j' h1 h2 => ?_⟩
      rw [zov_su _ hab]
      by_cases e : i' = i ∧ j' = j
      · obtain ⟨rfl, rfl⟩ := e
        rw [zg_s, hx]; congr 1; unfold zwo zky; rw [decide_eq_true hk1]; rfl
      · rw [zg_m _ _ _ _ _ (by omega), h i' j' h1 h2]
        unfold zwo zky
        rw [decide_eq_false (by omega)]
        simp
    rcases Nat.lt_or_ge (f a) (f b) with e | e
    · have h2 := h (f a) (f b) (by omega) lb
      have h3 := hbd (f a) (f b)
      cases eT : T a b <;> rw [eT] at gT fin
      · ((with_reducible refine i_Blk (i_Seq (i_Set (i_IA (i_FR (i_A0 ?_)))))); (with_reducible refine i_fldR (by assumption) ?_); (with_reducible refine i_Add (i_Mul (i_I (i_L1 (i_L2 ?_))))); rw [zx_cmul (by omega)]; rw [zx_add (by omega)]; (with_reducible refine i_in (by assumption) (by omega) (by omega) ?_); (with_reducible refine i_Seq (i_Set (i_IA (i_FR ?_)))); (rw [ga]); simp only [w_set0, w_set1, w_setn0, w_setn1]; (with_reducible refine i_A0 ?_); (with_reducible refine i_fldR (by assumption) ?_); (with_reducible refine i_Add (i_Mul (i_I (i_L1 (i_L3 ?_))))); rw [zx_cmul (by omega)]; rw [zx_add (by omega)]; (with_reducible refine i_in (by assumption) (by omega) (by omega) ?_); (with_reducible refine i_IO (i_FR ?_)); (rw [gb]); simp only [w_set0, w_set1, w_setn0, w_setn1]; (with_reducible refine i_A0 ?_); (with_reducible refine i_fldR (by assumption) ?_); (with_reducible refine i_eIf (i_cI_lt ?_)); rw [w_setT]; simp only [w_set0, w_set1, w_setn0, w_setn1]; (with_reducible refine i_L4 ?_); rw [w_setT]; (with_reducible refine i_L5 ?_); (with_reducible refine i_t (by omega) ?_); (with_reducible refine i_Add (i_Mul (i_I (i_L4 (i_L5 ?_))))); rw [zx_cmul (by omega)]; rw [zx_add (by omega)]; (with_reducible refine i_in (by assumption) (by omega) (by omega) ?_); (with_reducible refine i_eIf (i_cZ_ne (i_ZA (i_FR (i_A0 ?_))))); (with_reducible refine i_fldR (by assumption) ?_); (with_reducible refine i_Add (i_Mul (i_I (i_L2 (i_L3 ?_))))); (rw [h2]); rw [zx_cmul (by omega)]; rw [zx_add (by omega)]; (with_reducible refine i_in (by assumption) (by omega) (by omega) ?_); (rw [gT, zbI_f]); (with_reducible refine i_f (by omega) ?_); (with_reducible refine i_I ?_); rw [zx_s (by omega) (by omega)])
        exact hY _ _ (fin (f a) (f b) _ (by omega) lb (by omega) rfl)
      · ((with_reducible refine i_Blk (i_Seq (i_Set (i_IA (i_FR (i_A0 ?_)))))); (with_reducible refine i_fldR (by assumption) ?_); (with_reducible refine i_Add (i_Mul (i_I (i_L1 (i_L2 ?_))))); rw [zx_cmul (by omega)]; rw [zx_add (by omega)]; (with_reducible refine i_in (by assumption) (by omega) (by omega) ?_); (with_reducible refine i_Seq (i_Set (i_IA (i_FR ?_)))); (rw [ga]); simp only [w_set0, w_set1, w_setn0, w_setn1]; (with_reducible refine i_A0 ?_); (with_reducible refine i_fldR (by assumption) ?_); (with_reducible refine i_Add (i_Mul (i_I (i_L1 (i_L3 ?_))))); rw [zx_cmul (by omega)]; rw [zx_add (by omega)]; (with_reducible refine i_in (by assumption) (by omega) (by omega) ?_); (with_reducible refine i_IO (i_FR ?_)); (rw [gb]); simp only [w_set0, w_set1, w_setn0, w_setn1]; (with_reducible refine i_A0 ?_); (with_reducible refine i_fldR (by assumption) ?_); (with_reducible refine i_eIf (i_cI_lt ?_)); rw [w_setT]; simp only [w_set0, w_set1, w_setn0, w_setn1]; (with_reducible refine i_L4 ?_); rw [w_setT]; (with_reducible refine i_L5 ?_); (with_reducible refine i_t (by omega) ?_); (with_reducible refine i_Add (i_Mul (i_I (i_L4 (i_L5 ?_))))); rw [zx_cmul (by omega)]; rw [zx_add (by omega)]; (with_reducible refine i_in (by assumption) (by omega) (by omega) ?_); (with_reducible refine i_eIf (i_cZ_ne (i_ZA (i_FR (i_A0 ?_))))); (with_reducible refine i_fldR (by assumption) ?_); (with_reducible refine i_Add (i_Mul (i_I (i_L2 (i_L3 ?_))))); (rw [h2]); rw [zx_cmul (by omega)]; rw [zx_add (by omega)]; (with_reducible refine i_in (by assumption) (by omega) (by omega) ?_); (rw [gT, zbI_t]); (with_reducible refine i_t (by omega) ?_); (with_reducible refine i_I ?_); rw [zx_s (by omega) (by omega)])
        exact hY _ _ (fin (f a) (f b) _ (by omega) lb (by omega) rfl)
    · have h2 := h (f b) (f a) (by omega) la
      have h3 := hbd (f b) (f a)
      cases eT : T a b <;> rw [eT] at gT fin
      · ((with_reducible refine i_Blk (i_Seq (i_Set (i_IA (i_FR (i_A0 ?_)))))); (with_reducible refine i_fldR (by assumption) ?_); (with_reducible refine i_Add (i_Mul (i_I (i_L1 (i_L2 ?_))))); rw [zx_cmul (by omega)]; rw [zx_add (by omega)]; (with_reducible refine i_in (by assumption) (by omega) (by omega) ?_); (with_reducible refine i_Seq (i_Set (i_IA (i_FR ?_)))); (rw [ga]); simp only [w_set0, w_set1, w_setn0, w_setn1]; (with_reducible refine i_A0 ?_); (with_reducible refine i_fldR (by assumption) ?_); (with_reducible refine i_Add (i_Mul (i_I (i_L1 (i_L3 ?_))))); rw [zx_cmul (by omega)]; rw [zx_add (by omega)]; (with_reducible refine i_in (by assumption) (by omega) (by omega) ?_); (with_reducible refine i_IO (i_FR ?_)); (rw [gb]); simp only [w_set0, w_set1, w_setn0, w_setn1]; (with_reducible refine i_A0 ?_); (with_reducible refine i_fldR (by assumption) ?_); (with_reducible refine i_eIf (i_cI_lt ?_)); rw [w_setT]; simp only [w_set0, w_set1, w_setn0, w_setn1]; (with_reducible refine i_L4 ?_); rw [w_setT]; (with_reducible refine i_L5 ?_); (with_reducible refine i_f (by omega) ?_); (with_reducible refine i_Add (i_Mul (i_I (i_L5 (i_L4 ?_))))); rw [zx_cmul (by omega)]; rw [zx_add (by omega)]; (with_reducible refine i_in (by assumption) (by omega) (by omega) ?_); (with_reducible refine i_eIf (i_cZ_ne (i_ZA (i_FR (i_A0 ?_))))); (with_reducible refine i_fldR (by assumption) ?_); (with_reducible refine i_Add (i_Mul (i_I (i_L2 (i_L3 ?_))))); (rw [h2]); rw [zx_cmul (by omega)]; rw [zx_add (by omega)]; (with_reducible refine i_in (by assumption) (by omega) (by omega) ?_); (rw [gT, zbI_f]); (with_reducible refine i_f (by omega) ?_); (with_reducible refine i_I ?_); rw [zx_s (by omega) (by omega)])
        exact hY _ _ (fin (f b) (f a) _ (by omega) la (by omega) rfl)
      · ((with_reducible refine i_Blk (i_Seq (i_Set (i_IA (i_FR (i_A0 ?_)))))); (with_reducible refine i_fldR (by assumption) ?_); (with_reducible refine i_Add (i_Mul (i_I (i_L1 (i_L2 ?_))))); rw [zx_cmul (by omega)]; rw [zx_add (by omega)]; (with_reducible refine i_in (by assumption) (by omega) (by omega) ?_); (with_reducible refine i_Seq (i_Set (i_IA (i_FR ?_)))); (rw [ga]); simp only [w_set0, w_set1, w_setn0, w_setn1]; (with_reducible refine i_A0 ?_); (with_reducible refine i_fldR (by assumption) ?_); (with_reducible refine i_Add (i_Mul (i_I (i_L1 (i_L3 ?_))))); rw [zx_cmul (by omega)]; rw [zx_add (by omega)]; (with_reducible refine i_in (by assumption) (by omega) (by omega) ?_); (with_reducible refine i_IO (i_FR ?_)); (rw [gb]); simp only [w_set0, w_set1, w_setn0, w_setn1]; (with_reducible refine i_A0 ?_); (with_reducible refine i_fldR (by assumption) ?_); (with_reducible refine i_eIf (i_cI_lt ?_)); rw [w_setT]; simp only [w_set0, w_set1, w_setn0, w_setn1]; (with_reducible refine i_L4 ?_); rw [w_setT]; (with_reducible refine i_L5 ?_); (with_reducible refine i_f (by omega) ?_); (with_reducible refine i_Add (i_Mul (i_I (i_L5 (i_L4 ?_))))); rw [zx_cmul (by omega)]; rw [zx_add (by omega)]; (with_reducible refine i_in (by assumption) (by omega) (by omega) ?_); (with_reducible refine i_eIf (i_cZ_ne (i_ZA (i_FR (i_A0 ?_))))); (with_reducible refine i_fldR (by assumption) ?_); (with_reducible refine i_Add (i_Mul (i_I (i_L2 (i_L3 ?_))))); (rw [h2]); rw [zx_cmul (by omega)]; rw [zx_add (by omega)]; (with_reducible refine i_in (by assumption) (by omega) (by omega) ?_); (rw [gT, zbI_t]); (with_reducible refine i_t (by omega) ?_); (with_reducible refine i_I ?_); rw [zx_s (by omega) (by omega)])
        exact hY _ _ (fin (f b) (f a) _ (by omega) la (by omega) rfl)
  · rintro l M2 ⟨hf, h⟩
    simp only [List.cons_append, List.nil_append]
    (with_reducible refine i_RetV ?_)
    exact hk _ hf (fun i j hi hj => by rw [h i j hi hj, zov_end])
end
section
-- part a7.msmall.lean.txt
/-! ===== the reference: net, tie, tomorrow, mark, compare, the tape ===== -/
theorem m_net_bad {O : zOm} (hO : zWld O) (hS : zS O = zmS zC0) {x : Int} {M : zMem} {K : Option zV → zMem → Prop} (hb : ¬ (2 ≤ x ∧ x ≤ 16)) (hk : K (some (0, 0)) M) : zR O F_Model_net [(2, 250), (0, x)] M K := by
  apply r_Model_net hO
  unfold B_Model_net
  have f1 := zMF (k := 1) hS rfl; have f2 := zMF (k := 2) hS rfl; have a251 := zMA (a := 251) (ty := .boolean) (n := 256) hS rfl; have f3 := zMF (k := 3) hS rfl; have a252 := zMA (a := 252) (ty := .int) (n := 16) hS rfl; have f4 := zMF (k := 4) hS rfl; have f5 := zMF (k := 5) hS rfl; have f11 := zMF (k := 11) hS rfl; have f28 := zMF (k := 28) hS rfl; have zo := zMO hS
  (focus ((with_reducible refine i_Seq (i_If (i_cOr (i_cI_lt (i_L1 (i_I ?_)))))); (with_reducible refine i_br ?_ ?_ <;> intro hc); (focus ((with_reducible refine i_RetZ (i_I ?_)); (with_reducible refine i_z (Or.inl rfl) ?_))); rotate_left; (focus ((with_reducible refine i_cI_gt (i_L1 (i_I ?_))); (with_reducible refine i_t (by omega) ?_); (with_reducible refine i_RetZ (i_I ?_)); (with_reducible refine i_z (Or.inl rfl) ?_))); rotate_right))
  all_goals first | exact hk | (exfalso; omega)
theorem m_net {O : zOm} (hO : zWld O) (hS : zS O = zmS zC0) {n : Nat} {M : zMem} {K : Option zV → zMem → Prop} (h2 : 2 ≤ n) (h16 : n ≤ 16)
    (hk : ∀ M', (∀ b j, ¬ (b = 250 ∧ (j = 1 ∨ j = 4 ∨ j = 5 ∨ j = 11 ∨ j = 28) ∨ b = 251 ∨ b = 252) → M' b j = M b j) → M' 250 ((1 : Nat) : Int) = ((n : Nat) : Int) → M' 250 ((4 : Nat) : Int) = 0 → M' 250 ((5 : Nat) : Int) = 0 → M' 250 ((11 : Nat) : Int) = 0 → M' 250 ((28 : Nat) : Int) = 0 → rMx M' 251 (fun _ _ => false) → (∀ p : Nat, p < 16 → M' ((252 : Nat) : Int) ((p : Nat) : Int) = 0) → K (some (0, 1)) M') : zR O F_Model_net [(2, 250), (0, ((n : Nat) : Int))] M K := by
  apply r_Model_net hO
  unfold B_Model_net
  have f1 := zMF (k := 1) hS rfl; have f2 := zMF (k := 2) hS rfl; have a251 := zMA (a := 251) (ty := .boolean) (n := 256) hS rfl; have f3 := zMF (k := 3) hS rfl; have a252 := zMA (a := 252) (ty := .int) (n := 16) hS rfl; have f4 := zMF (k := 4) hS rfl; have f5 := zMF (k := 5) hS rfl; have f11 := zMF (k := 11) hS rfl; have f28 := zMF (k := 28) hS rfl; have zo := zMO hS
  ((with_reducible refine i_Seq (i_If (i_cOr (i_cI_lt (i_L1 (i_I ?_)))))); (with_reducible refine i_f (by omega) ?_); (with_reducible refine i_cI_gt (i_L1 (i_I ?_))); (with_reducible refine i_f (by omega) ?_); (with_reducible refine i_Seq (i_sF (i_A0 (i_L1 ?_)))); (with_reducible refine i_fld (by assumption) ?_); (with_reducible refine i_Seq (i_Blk (i_Seq (i_Set (i_I ?_))))); simp only [w_set0, w_set1, w_setn0, w_setn1])
  refine w_ForN 256 (fun k ρ M' => ρ = [250, ((n : Nat) : Int), ((k : Nat) : Int)] ∧ (∀ b j, ¬ (b = 250 ∧ (j = 1 ∨ j = 4 ∨ j = 5 ∨ j = 11 ∨ j = 28) ∨ b = 251 ∨ b = 252) → M' b j = M b j) ∧ M' 250 ((1 : Nat) : Int) = ((n : Nat) : Int) ∧ ∀ j : Nat, j < k → M' ((251 : Nat) : Int) j = 0) ⟨rfl, (have hf : ∀ b j, ¬ (b = 250 ∧ (j = 1 ∨ j = 4 ∨ j = 5 ∨ j = 11 ∨ j = 28) ∨ b = 251 ∨ b = 252) → M b j = M b j := fun _ _ _ => rfl; (by intro b j q; ((rw [zg_o _ _ (by omega)])); first | done | rfl | exact hf b j (by omega))), zg_s _ _ _ _ _, fun j hj => absurd hj (by omega)⟩ ?_ ?_
  · rintro k ρ M1 X hk1 ⟨rfl, hf, g1, h⟩ hX
    ((with_reducible refine i_turn (i_cI_lt (i_L2 (i_I ?_)))); (with_reducible refine i_t (by omega) ?_); (with_reducible refine i_sZA (i_FR (i_A0 ?_))); (with_reducible refine i_fldR (by assumption) ?_); (with_reducible refine i_L2 (i_I ?_)); (with_reducible refine i_zin (Or.inl rfl) (by assumption) (by omega) (by omega) ?_); (with_reducible refine i_up (i_Inc2 ?_)); rw [zx_inc (by omega)]; simp only [w_set0, w_set1, w_setn0, w_setn1])
    refine hX _ _ ⟨rfl, (by intro b j q; ((rw [zg_n _ _ _ (by omega)])); first | done | rfl | exact hf b j (by omega)), by rw [zg_n _ _ _ (by omega)]; exact g1, fun j hj => ?_⟩
    by_cases e : j = k
    · subst e; rw [zg_s]
    · rw [zg_m _ _ _ _ _ (by omega)]; exact h j (by omega)
  rintro ρ M1 X ⟨rfl, hf, g1, h1⟩
  ((with_reducible refine i_turn (i_cI_lt (i_L2 (i_I ?_)))); (with_reducible refine i_f (by omega) ?_); (with_reducible refine i_Seq (i_Blk (i_Seq (i_Set (i_I ?_))))); simp only [w_set0, w_set1, w_setn0, w_setn1])
  refine w_ForN 16 (fun k ρ M' => ρ = [250, ((n : Nat) : Int), ((k : Nat) : Int)] ∧ (∀ b j, ¬ b = 252 → M' b j = M1 b j) ∧ ∀ j : Nat, j < k → M' ((252 : Nat) : Int) j = 0) ⟨rfl, fun _ _ _ => rfl, fun j hj => absurd hj (by omega)⟩ ?_ ?_
  · rintro k ρ M2 X hk1 ⟨rfl, hf, h⟩ hX
    ((with_reducible refine i_turn (i_cI_lt (i_L2 (i_I ?_)))); (with_reducible refine i_t (by omega) ?_); (with_reducible refine i_sIA (i_FR (i_A0 ?_))); (with_reducible refine i_fldR (by assumption) ?_); (with_reducible refine i_L2 (i_I ?_)); (with_reducible refine i_in (by assumption) (by omega) (by omega) ?_); (with_reducible refine i_up (i_Inc2 ?_)); rw [zx_inc (by omega)]; simp only [w_set0, w_set1, w_setn0, w_setn1])
    refine hX _ _ ⟨rfl, (by intro b j q; ((rw [zg_n _ _ _ (by omega)])); first | done | rfl | exact hf b j (by omega)), fun j hj => ?_⟩
    by_cases e : j = k
    · subst e; rw [zg_s]
    · rw [zg_m _ _ _ _ _ (by omega)]; exact h j (by omega)
  rintro ρ M2 X ⟨rfl, hf2, h2⟩
  ((with_reducible refine i_turn (i_cI_lt (i_L2 (i_I ?_)))); (with_reducible refine i_f (by omega) ?_); (with_reducible refine i_Seq (i_sF (i_A0 (i_I ?_)))); (with_reducible refine i_fld (by assumption) ?_); (with_reducible refine i_Seq (i_sF (i_A0 (i_I ?_)))); (with_reducible refine i_fld (by assumption) ?_); (with_reducible refine i_Seq (i_sF (i_A0 (i_I ?_)))); (with_reducible refine i_fld (by assumption) ?_); (with_reducible refine i_Seq (i_sF (i_A0 (i_I ?_)))); (with_reducible refine i_fld (by assumption) ?_); (with_reducible refine i_RetZ (i_I ?_)); (with_reducible refine i_z (Or.inr rfl) ?_))
  refine hk _ ?_ ?_ ?_ ?_ ?_ ?_ ?_ ?_
  · intro b j q
    (rw [zg_o _ _ (by omega)]; rw [zg_o _ _ (by omega)]; rw [zg_o _ _ (by omega)]; rw [zg_o _ _ (by omega)])
    rw [hf2 _ _ (by omega)]; exact hf b j q
  · (rw [zg_m _ _ _ _ _ (by omega)]; rw [zg_m _ _ _ _ _ (by omega)]; rw [zg_m _ _ _ _ _ (by omega)]; rw [zg_m _ _ _ _ _ (by omega)])
    rw [hf2 _ _ (by omega)]; exact g1
  · (rw [zg_m _ _ _ _ _ (by omega)]; rw [zg_m _ _ _ _ _ (by omega)]; rw [zg_m _ _ _ _ _ (by omega)]; rw [zg_s])
  · (rw [zg_m _ _ _ _ _ (by omega)]; rw [zg_m _ _ _ _ _ (by omega)]; rw [zg_s])
  · (rw [zg_m _ _ _ _ _ (by omega)]; rw [zg_s])
  · (rw [zg_s])
  · intro a b ha hb
    (rw [zbI_f]; rw [zg_n _ _ _ (by omega)]; rw [zg_n _ _ _ (by omega)]; rw [zg_n _ _ _ (by omega)]; rw [zg_n _ _ _ (by omega)])
    rw [hf2 _ _ (by omega), h1 _ (by omega)]; first | done | rfl
  · intro p hp
    (rw [zg_n _ _ _ (by omega)]; rw [zg_n _ _ _ (by omega)]; rw [zg_n _ _ _ (by omega)]; rw [zg_n _ _ _ (by omega)])
    exact h2 p hp
theorem m_tie_bad {O : zOm} (hO : zWld O) (hS : zS O = zmS zC0) {a b v : Int} {n c : Nat} {T : Nat → Nat → Bool} {M : zMem} {K : Option zV → zMem → Prop} (hn : M 250 ((1 : Nat) : Int) = ((n : Nat) : Int)) (hn2 : n ≤ 16) (hc : M 250 ((5 : Nat) : Int) = ((c : Nat) : Int)) (hT : rMx M 251 T) (hb : ((c : Nat) : Int) = 300 ∨ ¬ ((0 ≤ a ∧ a < ((n : Nat) : Int)) ∧ (0 ≤ b ∧ b < ((n : Nat) : Int)) ∧ a ≠ b) ∨ ∀ a' b' : Nat, a = a' → b = b' → zbI (T a' b') = v) (hk : K (some (0, -1)) M) : zR O F_Model_tie [(2, 250), (0, a), (0, b), (0, v)] M K := by
  apply r_Model_tie hO
  unfold B_Model_tie
  have f5 := zMF (k := 5) hS rfl; have f2 := zMF (k := 2) hS rfl; have a251 := zMA (a := 251) (ty := .boolean) (n := 256) hS rfl; have f6 := zMF (k := 6) hS rfl; have a253 := zMA (a := 253) (ty := .int) (n := 300) hS rfl; have f7 := zMF (k := 7) hS rfl; have a254 := zMA (a := 254) (ty := .int) (n := 300) hS rfl; have f8 := zMF (k := 8) hS rfl; have a255 := zMA (a := 255) (ty := .boolean) (n := 300) hS rfl; have f9 := zMF (k := 9) hS rfl; have a256 := zMA (a := 256) (ty := .int) (n := 300) hS rfl; have f4 := zMF (k := 4) hS rfl; have zo := zMO hS
  (focus ((with_reducible refine i_Seq (i_If (i_cOr (i_cOr (i_cI_eq (i_F (i_A0 ?_))))))); (with_reducible refine i_fld (by assumption) ?_); (with_reducible refine i_I ?_); (rw [hc]); (with_reducible refine i_br ?_ ?_ <;> intro hc); (focus ((with_reducible refine i_RetI (i_I ?_)))); rotate_left; (focus ((with_reducible refine i_cNot (i_cZ_ne (i_Call (i_as1 (i_A0 (i_as1 (i_L1 (i_as1 (i_L2 (i_as0 ?_)))))))))); (with_reducible refine i_recv0 (by assumption) ?_); (refine m_isPair hO hS hn ⟨_, rfl, ?_⟩); (with_reducible refine i_dne ?_ ?_ <;> intro hc); (focus ((with_reducible refine i_cI_eq (i_ZA (i_FR (i_A0 ?_)))); (with_reducible refine i_fldR (by assumption) ?_); (with_reducible refine i_Add (i_Mul (i_I (i_L1 (i_L2 ?_))))))); rotate_left; (focus ((with_reducible refine i_RetI (i_I ?_)))); rotate_right)); rotate_right))
  all_goals first | exact hk | skip
  all_goals
    rename_i w1 w2
    obtain ⟨a', rfl⟩ : ∃ a' : Nat, a = a' := ⟨a.toNat, by omega⟩
    obtain ⟨b', rfl⟩ : ∃ b' : Nat, b = b' := ⟨b.toNat, by omega⟩
    have h3 : zbI (T a' b') = v := by
      rcases hb with q | q | q
      · exact absurd q (by omega)
      · exact absurd (by omega) q
      · exact q a' b' rfl rfl
    (rw [zx_cmul (by omega)]; rw [zx_add (by omega)]; (with_reducible refine i_in (by assumption) (by omega) (by omega) ?_); (with_reducible refine i_L3 ?_); (rw [hT _ _ (by omega) (by omega)]); (with_reducible refine i_t (by omega) ?_); (with_reducible refine i_RetI (i_I ?_)))
    exact hk
theorem m_tie {O : zOm} (hO : zWld O) (hS : zS O = zmS zC0) {a b n c td : Nat} {v : Bool} {T : Nat → Nat → Bool} {A B : Nat → Nat} {I : Nat → Bool} {D : Nat → Nat} {M : zMem} {K : Option zV → zMem → Prop} (hn : M 250 ((1 : Nat) : Int) = ((n : Nat) : Int)) (hn2 : n ≤ 16) (hd : M 250 ((4 : Nat) : Int) = ((td : Nat) : Int)) (hC : rCh M c A B I D) (hT : rMx M 251 T) (hc : c < 300) (ha : a < n) (hb : b < n) (hab : a ≠ b) (hv : T a b ≠ v)
    (hk : ∀ M', (∀ b j, ¬ (b = 250 ∧ j = 5 ∨ b = 251 ∨ 253 ≤ b ∧ b ≤ 256) → M' b j = M b j) → rCh M' (c + 1) (fun k => if k = c then a else A k) (fun k => if k = c then b else B k) (fun k => if k = c then v else I k) (fun k => if k = c then td else D k) → rMx M' 251 (zmu (zmu T a b v) b a v) → K (some (0, ((c : Nat) : Int))) M') : zR O F_Model_tie [(2, 250), (0, ((a : Nat) : Int)), (0, ((b : Nat) : Int)), (0, zbI v)] M K := by
  obtain ⟨h5, h300, hC⟩ := hC
  have hv01 := zbI_01 v
  have hT1 := hT a b (by omega) (by omega)
  have hne : ¬ zbI (T a b) = zbI v := fun q => hv (zbI_in.mp q)
  apply r_Model_tie hO
  unfold B_Model_tie
  have f5 := zMF (k := 5) hS rfl; have f2 := zMF (k := 2) hS rfl; have a251 := zMA (a := 251) (ty := .boolean) (n := 256) hS rfl; have f6 := zMF (k := 6) hS rfl; have a253 := zMA (a := 253) (ty := .int) (n := 300) hS rfl; have f7 := zMF (k := 7) hS rfl; have a254 := zMA (a := 254) (ty := .int) (n := 300) hS rfl; have f8 := zMF (k := 8) hS rfl; have a255 := zMA (a := 255) (ty := .boolean) (n := 300) hS rfl; have f9 := zMF (k := 9) hS rfl; have a256 := zMA (a := 256) (ty := .int) (n := 300) hS rfl; have f4 := zMF (k := 4) hS rfl; have zo := zMO hS
  ((with_reducible refine i_Seq (i_If (i_cOr (i_cOr (i_cI_eq (i_F (i_A0 ?_))))))); (with_reducible refine i_fld (by assumption) ?_); (with_reducible refine i_I ?_); (rw [h5]); (with_reducible refine i_f (by omega) ?_); (with_reducible refine i_cNot (i_cZ_ne (i_Call (i_as1 (i_A0 (i_as1 (i_L1 (i_as1 (i_L2 (i_as0 ?_)))))))))); (with_reducible refine i_recv0 (by assumption) ?_); (refine m_isPair hO hS hn ⟨_, rfl, ?_⟩); (rw [decide_eq_true (by omega), zbI_t]); (with_reducible refine i_t (by omega) ?_); (with_reducible refine i_cI_eq (i_ZA (i_FR (i_A0 ?_)))); (with_reducible refine i_fldR (by assumption) ?_); (with_reducible refine i_Add (i_Mul (i_I (i_L1 (i_L2 ?_))))); rw [zx_cmul (by omega)]; rw [zx_add (by omega)]; (with_reducible refine i_in (by assumption) (by omega) (by omega) ?_); (with_reducible refine i_L3 ?_); (rw [hT1]); (refine i_f hne ?_); (with_reducible refine i_Seq (i_sIA (i_FR (i_A0 ?_)))); (with_reducible refine i_fldR (by assumption) ?_); (with_reducible refine i_F (i_A0 ?_)); (with_reducible refine i_fld (by assumption) ?_); (with_reducible refine i_L1 ?_); (with_reducible refine i_in (by assumption) (by omega) (by omega) ?_); (with_reducible refine i_Seq (i_sIA (i_FR (i_A0 ?_)))); (with_reducible refine i_fldR (by assumption) ?_); (with_reducible refine i_F (i_A0 ?_)); (with_reducible refine i_fld (by assumption) ?_); (with_reducible refine i_L2 ?_); rw [zg_n _ _ _ (by omega)]; (with_reducible refine i_in (by assumption) (by omega) (by omega) ?_); (with_reducible refine i_Seq (i_sZA (i_FR (i_A0 ?_)))); (with_reducible refine i_fldR (by assumption) ?_); (with_reducible refine i_F (i_A0 ?_)); (with_reducible refine i_fld (by assumption) ?_); (with_reducible refine i_L3 ?_); rw [zg_n _ _ _ (by omega)]; rw [zg_n _ _ _ (by omega)]; (with_reducible refine i_zin (zbI_01 _) (by assumption) (by omega) (by omega) ?_); (with_reducible refine i_Seq (i_sIA (i_FR (i_A0 ?_)))); (with_reducible refine i_fldR (by assumption) ?_); (with_reducible refine i_F (i_A0 ?_)); (with_reducible refine i_fld (by assumption) ?_); (with_reducible refine i_F (i_A0 ?_)); (with_reducible refine i_fld (by assumption) ?_); rw [zg_n _ _ _ (by omega)]; rw [zg_n _ _ _ (by omega)]; rw [zg_n _ _ _ (by omega)]; (with_reducible refine i_in (by assumption) (by omega) (by omega) ?_); (with_reducible refine i_Seq (i_FO (i_A0 ?_))); (with_reducible refine i_fld (by assumption) ?_); (with_reducible refine i_I ?_); (with_reducible refine i_fld (by assumption) ?_); (with_reducible refine i_Seq (i_sZA (i_FR (i_A0 ?_)))); (with_reducible refine i_fldR (by assumption) ?_); (with_reducible refine i_Add (i_Mul (i_I (i_L1 (i_L2 (i_L3 ?_)))))); rw [zg_n _ _ _ (by omega)]; rw [zg_n _ _ _ (by omega)]; rw [zg_n _ _ _ (by omega)]; rw [zg_n _ _ _ (by omega)]; rw [zg_n _ _ _ (by omega)]; rw [zg_n _ _ _ (by omega)]; rw [zg_n _ _ _ (by omega)]; (rw [h5]); (rw [hd]); rw [zx_inc (by omega)]; rw [zx_cmul (by omega)]; rw [zx_add (by omega)]; (with_reducible refine i_zin (zbI_01 _) (by assumption) (by omega) (by omega) ?_); (with_reducible refine i_Seq (i_sZA (i_FR (i_A0 ?_)))); (with_reducible refine i_fldR (by assumption) ?_); (with_reducible refine i_Add (i_Mul (i_I (i_L2 (i_L1 (i_L3 ?_)))))); rw [zx_cmul (by omega)]; rw [zx_add (by omega)]; (with_reducible refine i_zin (zbI_01 _) (by assumption) (by omega) (by omega) ?_); (with_reducible refine i_RetI (i_Sub (i_F (i_A0 ?_)))); (with_reducible refine i_fld (by assumption) ?_); (with_reducible refine i_I ?_); rw [zg_n _ _ _ (by omega)]; rw [zg_n _ _ _ (by omega)]; rw [zg_s]; rw [zx_subc (by omega) (by omega)])
  refine hk _ ?_ ?_ ?_
  · intro b j q
    (rw [zg_n _ _ _ (by omega)]; rw [zg_n _ _ _ (by omega)]; rw [zg_o _ _ (by omega)]; rw [zg_n _ _ _ (by omega)]; rw [zg_n _ _ _ (by omega)]; rw [zg_n _ _ _ (by omega)]; rw [zg_n _ _ _ (by omega)])
  · refine ⟨?_, by omega, fun k hk1 => ?_⟩
    · (rw [zg_n _ _ _ (by omega)]; rw [zg_n _ _ _ (by omega)]; rw [zg_s])
    · by_cases e : k = c
      · subst e
        simp only [if_true]
        refine ⟨?_, ?_, ?_, ?_, by omega, by omega⟩
        · (rw [zg_n _ _ _ (by omega)]; rw [zg_n _ _ _ (by omega)]; rw [zg_n _ _ _ (by omega)]; rw [zg_n _ _ _ (by omega)]; rw [zg_n _ _ _ (by omega)]; rw [zg_n _ _ _ (by omega)]; rw [zg_s])
        · (rw [zg_n _ _ _ (by omega)]; rw [zg_n _ _ _ (by omega)]; rw [zg_n _ _ _ (by omega)]; rw [zg_n _ _ _ (by omega)]; rw [zg_n _ _ _ (by omega)]; rw [zg_s])
        · (rw [zg_n _ _ _ (by omega)]; rw [zg_n _ _ _ (by omega)]; rw [zg_n _ _ _ (by omega)]; rw [zg_n _ _ _ (by omega)]; rw [zg_s])
        · (rw [zg_n _ _ _ (by omega)]; rw [zg_n _ _ _ (by omega)]; rw [zg_n _ _ _ (by omega)]; rw [zg_s])
      · obtain ⟨e1, e2, e3, e4, e5, e6⟩ := hC k (by omega)
        simp only [if_neg e]
        refine ⟨?_, ?_, ?_, ?_, e5, e6⟩
        · (rw [zg_n _ _ _ (by omega)]; rw [zg_n _ _ _ (by omega)]; rw [zg_n _ _ _ (by omega)]; rw [zg_n _ _ _ (by omega)]; rw [zg_n _ _ _ (by omega)]; rw [zg_n _ _ _ (by omega)]; rw [zg_m _ _ _ _ _ (by omega)])
          exact e1
        · (rw [zg_n _ _ _ (by omega)]; rw [zg_n _ _ _ (by omega)]; rw [zg_n _ _ _ (by omega)]; rw [zg_n _ _ _ (by omega)]; rw [zg_n _ _ _ (by omega)]; rw [zg_m _ _ _ _ _ (by omega)]; rw [zg_n _ _ _ (by omega)])
          exact e2
        · (rw [zg_n _ _ _ (by omega)]; rw [zg_n _ _ _ (by omega)]; rw [zg_n _ _ _ (by omega)]; rw [zg_n _ _ _ (by omega)]; rw [zg_m _ _ _ _ _ (by omega)]; rw [zg_n _ _ _ (by omega)]; rw [zg_n _ _ _ (by omega)])
          exact e3
        · (rw [zg_n _ _ _ (by omega)]; rw [zg_n _ _ _ (by omega)]; rw [zg_n _ _ _ (by omega)]; rw [zg_m _ _ _ _ _ (by omega)]; rw [zg_n _ _ _ (by omega)]; rw [zg_n _ _ _ (by omega)]; rw [zg_n _ _ _ (by omega)])
          exact e4
  · refine rMx.up (rMx.up ?_ (by omega) (by omega) rfl) (by omega) (by omega) rfl
    intro p q hp hq
    (rw [zg_n _ _ _ (by omega)]; rw [zg_n _ _ _ (by omega)]; rw [zg_n _ _ _ (by omega)]; rw [zg_n _ _ _ (by omega)]; rw [zg_n _ _ _ (by omega)])
    exact hT p q hp hq
theorem m_tomorrow_bad {O : zOm} (hO : zWld O) (hS : zS O = zmS zC0) {M : zMem} {K : Option zV → zMem → Prop} (hd : M 250 ((4 : Nat) : Int) = 40) (hk : K (some (0, -1)) M) : zR O F_Model_tomorrow [(2, 250)] M K := by
  apply r_Model_tomorrow hO
  unfold B_Model_tomorrow
  have f4 := zMF (k := 4) hS rfl; have zo := zMO hS
  ((with_reducible refine i_Seq (i_If (i_cI_eq (i_F (i_A0 ?_))))); (with_reducible refine i_fld (by assumption) ?_); (with_reducible refine i_I ?_); (rw [hd]); simp only [w_set0, w_set1, w_setn0, w_setn1]; (with_reducible refine i_t trivial ?_); (with_reducible refine i_RetI (i_I ?_)))
  exact hk
theorem m_tomorrow {O : zOm} (hO : zWld O) (hS : zS O = zmS zC0) {td : Nat} {M : zMem} {K : Option zV → zMem → Prop} (hd : M 250 ((4 : Nat) : Int) = ((td : Nat) : Int)) (ht : td < 40) (hk : ∀ M', (∀ b j, ¬ (b = 250 ∧ j = 4) → M' b j = M b j) → M' 250 ((4 : Nat) : Int) = ((td + 1 : Nat) : Int) → K (some (0, ((td + 1 : Nat) : Int))) M') : zR O F_Model_tomorrow [(2, 250)] M K := by
  apply r_Model_tomorrow hO
  unfold B_Model_tomorrow
  have f4 := zMF (k := 4) hS rfl; have zo := zMO hS
  have hf : ∀ b j, ¬ (b = 250 ∧ j = 4) → M b j = M b j := fun _ _ _ => rfl
  ((with_reducible refine i_Seq (i_If (i_cI_eq (i_F (i_A0 ?_))))); (with_reducible refine i_fld (by assumption) ?_); (with_reducible refine i_I ?_); (rw [hd]); (with_reducible refine i_f (by omega) ?_); (with_reducible refine i_Seq (i_FO (i_A0 ?_))); (with_reducible refine i_fld (by assumption) ?_); (with_reducible refine i_I ?_); (with_reducible refine i_fld (by assumption) ?_); (with_reducible refine i_RetI (i_F (i_A0 ?_))); (with_reducible refine i_fld (by assumption) ?_); rw [zg_s]; (rw [hd]); rw [zx_inc (by omega)])
  exact hk _ (by intro b j q; ((rw [zg_o _ _ (by omega)])); first | done | rfl | exact hf b j (by omega)) (zg_s _ _ _ _ _)
theorem m_mark_bad {O : zOm} (hO : zWld O) (hS : zS O = zmS zC0) {a v : Int} {n : Nat} {M : zMem} {K : Option zV → zMem → Prop} (hn : M 250 ((1 : Nat) : Int) = ((n : Nat) : Int)) (hb : ¬ ((0 ≤ a ∧ a < ((n : Nat) : Int)) ∧ 0 ≤ v ∧ v ≤ 3)) (hk : K (some (0, 0)) M) : zR O F_Model_mark [(2, 250), (0, a), (0, v)] M K := by
  apply r_Model_mark hO
  unfold B_Model_mark
  have f3 := zMF (k := 3) hS rfl; have a252 := zMA (a := 252) (ty := .int) (n := 16) hS rfl; have zo := zMO hS
  (focus ((with_reducible refine i_Seq (i_If (i_cOr (i_cOr (i_cNot (i_cZ_ne (i_Call (i_as1 (i_A0 (i_as1 (i_L1 (i_as0 ?_)))))))))))); (with_reducible refine i_recv0 (by assumption) ?_); (refine m_isPost hO hS hn ⟨_, rfl, ?_⟩); (with_reducible refine i_dne ?_ ?_ <;> intro hc); (focus ((with_reducible refine i_cZ_lt (i_L2 ?_)); (with_reducible refine i_br ?_ ?_ <;> intro hc); (focus ((with_reducible refine i_RetZ (i_I ?_)); (with_reducible refine i_z (Or.inl rfl) ?_))); rotate_left; (focus ((with_reducible refine i_cI_gt (i_L2 (i_I ?_))); (with_reducible refine i_t (by omega) ?_); (with_reducible refine i_RetZ (i_I ?_)); (with_reducible refine i_z (Or.inl rfl) ?_))); rotate_right)); rotate_left 2; (focus ((with_reducible refine i_RetZ (i_I ?_)); (with_reducible refine i_z (Or.inl rfl) ?_))); rotate_right 2))
  all_goals first | exact hk | (exfalso; omega)
theorem m_mark {O : zOm} (hO : zWld O) (hS : zS O = zmS zC0) {a v n : Nat} {M : zMem} {K : Option zV → zMem → Prop} (hn : M 250 ((1 : Nat) : Int) = ((n : Nat) : Int)) (hn2 : n ≤ 16) (ha : a < n) (hv : v ≤ 3) (hk : ∀ M', (∀ b j, ¬ (b = ((252 : Nat) : Int) ∧ j = ((a : Nat) : Int)) → M' b j = M b j) → M' ((252 : Nat) : Int) ((a : Nat) : Int) = ((v : Nat) : Int) → K (some (0, 1)) M') : zR O F_Model_mark [(2, 250), (0, ((a : Nat) : Int)), (0, ((v : Nat) : Int))] M K := by
  apply r_Model_mark hO
  unfold B_Model_mark
  have f3 := zMF (k := 3) hS rfl; have a252 := zMA (a := 252) (ty := .int) (n := 16) hS rfl; have zo := zMO hS
  have hf : ∀ b j, ¬ (b = ((252 : Nat) : Int) ∧ j = ((a : Nat) : Int)) → M b j = M b j := fun _ _ _ => rfl
  ((with_reducible refine i_Seq (i_If (i_cOr (i_cOr (i_cNot (i_cZ_ne (i_Call (i_as1 (i_A0 (i_as1 (i_L1 (i_as0 ?_)))))))))))); (with_reducible refine i_recv0 (by assumption) ?_); (refine m_isPost hO hS hn ⟨_, rfl, ?_⟩); (rw [decide_eq_true (by omega)]); rw [zbI_t]; (with_reducible refine i_t (by omega) ?_); (with_reducible refine i_cZ_lt (i_L2 ?_)); (with_reducible refine i_f (by omega) ?_); (with_reducible refine i_cI_gt (i_L2 (i_I ?_))); (with_reducible refine i_f (by omega) ?_); (with_reducible refine i_Seq (i_sIA (i_FR (i_A0 ?_)))); (with_reducible refine i_fldR (by assumption) ?_); (with_reducible refine i_L1 (i_L2 ?_)); (with_reducible refine i_in (by assumption) (by omega) (by omega) ?_); (with_reducible refine i_RetZ (i_I ?_)); (with_reducible refine i_z (Or.inr rfl) ?_))
  exact hk _ (by intro b j q; ((rw [zg_o _ _ (by omega)])); first | done | rfl | exact hf b j (by omega)) (zg_s _ _ _ _ _)
theorem m_back_bad {O : zOm} (hO : zWld O) (hS : zS O = zmS zC0) {x : Int} {t : Nat} {M : zMem} {K : Option zV → zMem → Prop} (hn : M 250 ((33 : Nat) : Int) = ((t : Nat) : Int)) (hb : ¬ (0 ≤ x ∧ x ≤ ((t : Nat) : Int))) (hk : K (some (0, -1)) M) : zR O F_Model_back [(2, 250), (0, x)] M K := by
  apply r_Model_back hO
  unfold B_Model_back
  have f33 := zMF (k := 33) hS rfl; have zo := zMO hS
  (focus ((with_reducible refine i_Seq (i_If (i_cOr (i_cZ_lt (i_L1 ?_))))); (with_reducible refine i_br ?_ ?_ <;> intro hc); (focus ((with_reducible refine i_RetI (i_I ?_)))); rotate_left; (focus ((with_reducible refine i_cI_gt (i_L1 (i_F (i_A0 ?_)))); (with_reducible refine i_fld (by assumption) ?_); (rw [hn]); (with_reducible refine i_t (by omega) ?_); (with_reducible refine i_RetI (i_I ?_)))); rotate_right))
  all_goals first | exact hk | (exfalso; omega)
theorem m_back {O : zOm} (hO : zWld O) (hS : zS O = zmS zC0) {x t : Nat} {M : zMem} {K : Option zV → zMem → Prop} (hn : M 250 ((33 : Nat) : Int) = ((t : Nat) : Int)) (ht : t ≤ 2000) (hx : x ≤ t) (hk : ∀ M', (∀ b j, ¬ (b = 250 ∧ j = 33) → M' b j = M b j) → M' 250 ((33 : Nat) : Int) = ((t - x : Nat) : Int) → K (some (0, ((t - x : Nat) : Int))) M') : zR O F_Model_back [(2, 250), (0, ((x : Nat) : Int))] M K := by
  apply r_Model_back hO
  unfold B_Model_back
  have f33 := zMF (k := 33) hS rfl; have zo := zMO hS
  have hf : ∀ b j, ¬ (b = 250 ∧ j = 33) → M b j = M b j := fun _ _ _ => rfl
  ((with_reducible refine i_Seq (i_If (i_cOr (i_cZ_lt (i_L1 ?_))))); (with_reducible refine i_f (by omega) ?_); (with_reducible refine i_cI_gt (i_L1 (i_F (i_A0 ?_)))); (with_reducible refine i_fld (by assumption) ?_); (rw [hn]); (with_reducible refine i_f (by omega) ?_); (with_reducible refine i_Seq (i_sF (i_A0 (i_Sub (i_F (i_A0 ?_)))))); (with_reducible refine i_fld (by assumption) ?_); (with_reducible refine i_L1 ?_); (with_reducible refine i_fld (by assumption) ?_); (with_reducible refine i_RetI (i_F (i_A0 ?_))); (with_reducible refine i_fld (by assumption) ?_); rw [zg_s]; (rw [hn]); rw [zx_sub (by omega) (by omega)])
  exact hk _ (by intro b j q; ((rw [zg_o _ _ (by omega)])); first | done | rfl | exact hf b j (by omega)) (zg_s _ _ _ _ _)
theorem m_place {O : zOm} (hO : zWld O) (hS : zS O = zmS zC0) {M : zMem} {K : Option zV → zMem → Prop} (hk : K (some (0, M 250 ((40 : Nat) : Int))) M) : zR O F_Model_place [(2, 250)] M K := by
  apply r_Model_place hO
  unfold B_Model_place
  have f40 := zMF (k := 40) hS rfl; have zo := zMO hS
  ((with_reducible refine i_RetI (i_F (i_A0 ?_))); (with_reducible refine i_fld (by assumption) ?_))
  exact hk
theorem m_drop_bad {O : zOm} (hO : zWld O) (hS : zS O = zmS zC0) {M : zMem} {K : Option zV → zMem → Prop} (hn : M 250 ((11 : Nat) : Int) = 0) (hk : K (some (0, -1)) M) : zR O F_Model_drop [(2, 250)] M K := by
  apply r_Model_drop hO
  unfold B_Model_drop
  have f11 := zMF (k := 11) hS rfl; have zo := zMO hS
  ((with_reducible refine i_Seq (i_If (i_cZ_eq (i_F (i_A0 ?_))))); (with_reducible refine i_fld (by assumption) ?_); (rw [hn]); simp only [w_set0, w_set1, w_setn0, w_setn1]; (with_reducible refine i_t trivial ?_); (with_reducible refine i_RetI (i_I ?_)))
  exact hk
theorem m_drop {O : zOm} (hO : zWld O) (hS : zS O = zmS zC0) {t : Nat} {M : zMem} {K : Option zV → zMem → Prop} (hn : M 250 ((11 : Nat) : Int) = ((t : Nat) : Int)) (h0 : 0 < t) (h5 : t ≤ 5) (hk : ∀ M', (∀ b j, ¬ (b = 250 ∧ j = 11) → M' b j = M b j) → M' 250 ((11 : Nat) : Int) = ((t - 1 : Nat) : Int) → K (some (0, ((t - 1 : Nat) : Int))) M') : zR O F_Model_drop [(2, 250)] M K := by
  apply r_Model_drop hO
  unfold B_Model_drop
  have f11 := zMF (k := 11) hS rfl; have zo := zMO hS
  have hf : ∀ b j, ¬ (b = 250 ∧ j = 11) → M b j = M b j := fun _ _ _ => rfl
  ((with_reducible refine i_Seq (i_If (i_cZ_eq (i_F (i_A0 ?_))))); (with_reducible refine i_fld (by assumption) ?_); (rw [hn]); (with_reducible refine i_f (by omega) ?_); (with_reducible refine i_Seq (i_FO (i_A0 ?_))); (with_reducible refine i_fld (by assumption) ?_); (with_reducible refine i_I ?_); (with_reducible refine i_fld (by assumption) ?_); (with_reducible refine i_RetI (i_F (i_A0 ?_))); (with_reducible refine i_fld (by assumption) ?_); rw [zg_s]; (rw [hn]); rw [zx_subc (by omega) (by omega)])
  exact hk _ (by intro b j q; ((rw [zg_o _ _ (by omega)])); first | done | rfl | exact hf b j (by omega)) (zg_s _ _ _ _ _)
theorem m_compare_bad {O : zOm} (hO : zWld O) (hS : zS O = zmS zC0) {a b w : Int} {td : Nat} {M : zMem} {K : Option zV → zMem → Prop} (hd : M 250 ((4 : Nat) : Int) = ((td : Nat) : Int)) (hb : ¬ ((0 ≤ a ∧ a ≤ ((td : Nat) : Int)) ∧ (0 ≤ b ∧ b ≤ ((td : Nat) : Int)) ∧ 0 ≤ w ∧ w ≤ 2)) (hk : K (some (0, -1)) M) : zR O F_Model_compare [(2, 250), (0, a), (0, b), (0, w)] M K := by
  apply r_Model_compare hO
  unfold B_Model_compare
  have f21 := zMF (k := 21) hS rfl; have a267 := zMA (a := 267) (ty := .boolean) (n := 256) hS rfl; have f10 := zMF (k := 10) hS rfl; have a257 := zMA (a := 257) (ty := .boolean) (n := 256) hS rfl; have f1 := zMF (k := 1) hS rfl; have zo := zMO hS
  (focus ((with_reducible refine i_Seq (i_If (i_cOr (i_cOr (i_cOr (i_cNot (i_cZ_ne (i_Call (i_as1 (i_A0 (i_as1 (i_L1 (i_as0 ?_))))))))))))); (with_reducible refine i_recv0 (by assumption) ?_); (refine m_isDay hO hS hd ⟨_, rfl, ?_⟩); (with_reducible refine i_dne ?_ ?_ <;> intro hc); (focus ((with_reducible refine i_cNot (i_cZ_ne (i_Call (i_as1 (i_A0 (i_as1 (i_L2 (i_as0 ?_)))))))); (with_reducible refine i_recv0 (by assumption) ?_); (refine m_isDay hO hS hd ⟨_, rfl, ?_⟩); (with_reducible refine i_dne ?_ ?_ <;> intro hc); (focus ((with_reducible refine i_cZ_lt (i_L3 ?_)); (with_reducible refine i_br ?_ ?_ <;> intro hc); (focus ((with_reducible refine i_RetI (i_I ?_)))); rotate_left; (focus ((with_reducible refine i_cI_gt (i_L3 (i_I ?_))); (with_reducible refine i_t (by omega) ?_); (with_reducible refine i_RetI (i_I ?_)))); rotate_right)); rotate_left 2; (focus ((with_reducible refine i_RetI (i_I ?_)))); rotate_right 2)); rotate_left 3; (focus ((with_reducible refine i_RetI (i_I ?_)))); rotate_right 3))
  all_goals first | exact hk | (exfalso; omega)
theorem rMx.b01 {M : zMem} {c : Nat} {T : Nat → Nat → Bool} (h : rMx M c T) {j : Nat} (hj : j < 256) : M ((c : Nat) : Int) ((j : Nat) : Int) = 0 ∨ M ((c : Nat) : Int) ((j : Nat) : Int) = 1 := by
  have := h (j / 16) (j % 16) (by omega) (by omega)
  rw [show 16 * (j / 16) + j % 16 = j by omega] at this
  rw [this]; exact zbI_01 _
/-- what compare counts -/
def zcmpW (w : Nat) (x y : Bool) : Bool := if w = 0 then x && y else if w = 1 then x && !y else !x && y
theorem m_compare {O : zOm} (hO : zWld O) (hS : zS O = zmS zC0) {a b n td c w : Nat} {A B : Nat → Nat} {I : Nat → Bool} {D : Nat → Nat} {M : zMem} {K : Option zV → zMem → Prop} (hn : M 250 ((1 : Nat) : Int) = ((n : Nat) : Int)) (hn2 : n ≤ 16) (hd : M 250 ((4 : Nat) : Int) = ((td : Nat) : Int)) (ha : a ≤ td) (hb : b ≤ td) (hw : w ≤ 2) (hC : rCh M c A B I D)
    (hk : ∀ M', (∀ b j, ¬ (b = ((257 : Nat) : Int) ∨ b = ((267 : Nat) : Int)) → M' b j = M b j) → K (some (0, zP2 (fun p q => zbI (zcmpW w (zrep A B I D a c p q) (zrep A B I D b c p q))) n)) M') : zR O F_Model_compare [(2, 250), (0, ((a : Nat) : Int)), (0, ((b : Nat) : Int)), (0, ((w : Nat) : Int))] M K := by
  apply r_Model_compare hO
  unfold B_Model_compare
  have f21 := zMF (k := 21) hS rfl; have a267 := zMA (a := 267) (ty := .boolean) (n := 256) hS rfl; have f10 := zMF (k := 10) hS rfl; have a257 := zMA (a := 257) (ty := .boolean) (n := 256) hS rfl; have f1 := zMF (k := 1) hS rfl; have zo := zMO hS
  ((with_reducible refine i_Seq (i_If (i_cOr (i_cOr (i_cOr (i_cNot (i_cZ_ne (i_Call (i_as1 (i_A0 (i_as1 (i_L1 (i_as0 ?_))))))))))))); (with_reducible refine i_recv0 (by assumption) ?_); (refine m_isDay hO hS hd ⟨_, rfl, ?_⟩); (rw [decide_eq_true (by omega)]); rw [zbI_t]; (with_reducible refine i_t (by omega) ?_); (with_reducible refine i_cNot (i_cZ_ne (i_Call (i_as1 (i_A0 (i_as1 (i_L2 (i_as0 ?_)))))))); (with_reducible refine i_recv0 (by assumption) ?_); (refine m_isDay hO hS hd ⟨_, rfl, ?_⟩); (rw [decide_eq_true (by omega)]); rw [zbI_t]; (with_reducible refine i_t (by omega) ?_); (with_reducible refine i_cZ_lt (i_L3 ?_)); (with_reducible refine i_f (by omega) ?_); (with_reducible refine i_cI_gt (i_L3 (i_I ?_))); (with_reducible refine i_f (by omega) ?_); (with_reducible refine i_Seq (i_sCall (i_as1 (i_A0 (i_as1 (i_L1 (i_as0 ?_))))))); (with_reducible refine i_recv0 (by assumption) ?_))
  refine m_asOf hO hS hC (fun M1 hf1 h1 => ⟨rfl, ?_⟩)
  ((with_reducible refine i_Seq (i_Blk (i_Seq (i_Set (i_I ?_))))); simp only [w_set0, w_set1, w_setn0, w_setn1])
  refine w_ForN 256 (fun k ρ M' => ρ = [250, ((a : Nat) : Int), ((b : Nat) : Int), ((w : Nat) : Int), ((k : Nat) : Int)] ∧ (∀ b j, ¬ b = ((267 : Nat) : Int) → M' b j = M1 b j) ∧ ∀ j : Nat, j < k → M' ((267 : Nat) : Int) ((j : Nat) : Int) = M1 ((257 : Nat) : Int) ((j : Nat) : Int)) ⟨rfl, fun _ _ _ => rfl, fun j hj => absurd hj (by omega)⟩ ?_ ?_
  · rintro k ρ M2 X hk1 ⟨rfl, hf, h⟩ hX
    have hb1 : M2 ((257 : Nat) : Int) ((k : Nat) : Int) = 0 ∨ M2 ((257 : Nat) : Int) ((k : Nat) : Int) = 1 := by rw [hf _ _ (by omega)]; exact h1.b01 hk1
    ((with_reducible refine i_turn (i_cI_lt (i_L4 (i_I ?_)))); (with_reducible refine i_t (by omega) ?_); (with_reducible refine i_sZA (i_FR (i_A0 ?_))); (with_reducible refine i_fldR (by assumption) ?_); (with_reducible refine i_L4 (i_ZA (i_FR (i_A0 ?_)))); (with_reducible refine i_fldR (by assumption) ?_); (with_reducible refine i_L4 ?_); (with_reducible refine i_in (by assumption) (by omega) (by omega) ?_); (with_reducible refine i_zin (by assumption) (by assumption) (by omega) (by omega) ?_); (with_reducible refine i_up (i_Inc4 ?_)); rw [zx_inc (by omega)]; simp only [w_set0, w_set1, w_setn0, w_setn1])
    refine hX _ _ ⟨rfl, (by intro b j q; ((rw [zg_n _ _ _ (by omega)])); first | done | rfl | exact hf b j (by omega)), fun j hj => ?_⟩
    by_cases e : j = k
    · subst e; rw [zg_s]; exact hf _ _ (by omega)
    · rw [zg_m _ _ _ _ _ (by omega)]; exact h j (by omega)
  rintro ρ M2 X ⟨rfl, hf2, h2⟩
  have h2' : rMx M2 267 (zrep A B I D a c) := h1.cp h2
  have hC2 : rCh M2 c A B I D := ⟨by rw [hf2 _ _ (by omega), hf1 _ _ (by omega)]; exact hC.1, hC.2.1, fun k hk1 => by
    obtain ⟨e1, e2, e3, e4, e5⟩ := hC.2.2 k hk1
    exact ⟨by rw [hf2 _ _ (by omega), hf1 _ _ (by omega)]; exact e1, by rw [hf2 _ _ (by omega), hf1 _ _ (by omega)]; exact e2, by rw [hf2 _ _ (by omega), hf1 _ _ (by omega)]; exact e3, by rw [hf2 _ _ (by omega), hf1 _ _ (by omega)]; exact e4, e5⟩⟩
  ((with_reducible refine i_turn (i_cI_lt (i_L4 (i_I ?_)))); (with_reducible refine i_f (by omega) ?_); (with_reducible refine i_Seq (i_sCall (i_as1 (i_A0 (i_as1 (i_L2 (i_as0 ?_))))))); (with_reducible refine i_recv0 (by assumption) ?_))
  refine m_asOf hO hS hC2 (fun M3 hf3 h3 => ⟨rfl, ?_⟩)
  have h3' : rMx M3 267 (zrep A B I D a c) := h2'.to (fun j => hf3 _ _ (by omega))
  have gn : M3 250 ((1 : Nat) : Int) = ((n : Nat) : Int) := by rw [hf3 _ _ (by omega), hf2 _ _ (by omega), hf1 _ _ (by omega)]; exact hn
  ((with_reducible refine i_Seq (i_Set (i_I (i_Seq (i_Blk (i_Seq (i_Set (i_I ?_)))))))); simp only [w_set0, w_set1, w_setn0, w_setn1])
  refine w_Pairs (n := n) (fun p q => [250, ((a : Nat) : Int), ((b : Nat) : Int), ((w : Nat) : Int), zov (fun p q => zbI (zcmpW w (zrep A B I D a c p q) (zrep A B I D b c p q))) n p q]) (fun a b M' => M' = M3 ∧ a ≤ 16) (fun _ _ => ⟨_, rfl, rfl⟩) f1 (fun a b M' h => by rw [h.1]; exact gn) hn2 ⟨_, rfl⟩ ⟨rfl, by omega⟩ (fun a M' _ h => ⟨h, by rw [zov_row]⟩) (fun a M' _ h => ⟨⟨h.1, by omega⟩, by rw [zov_nx]⟩) ?_ ?_
  · rintro p q l M2 Y Z hab hbn ⟨rfl, _⟩ hY
    simp only [List.cons_append, List.nil_append] at hY ⊢
    have hbd := zov_b (w := fun p q => zbI (zcmpW w (zrep A B I D a c p q) (zrep A B I D b c p q))) (fun p q => zbI_b _) hn2 (a := p) (b := q) (by omega) (by omega)
    have e1 := h3' p q (by omega) (by omega)
    have e2 := h3 p q (by omega) (by omega)
    rw [zov_su _ hab] at hY
    have hw3 : w = 0 ∨ w = 1 ∨ w = 2 := by omega
    rcases hw3 with rfl | rfl | rfl <;> cases x1 : zrep A B I D a c p q <;> cases x2 : zrep A B I D b c p q <;> simp only [x1, x2, zbI_t, zbI_f] at e1 e2 <;> simp only [x1, x2, zbI_t, zbI_f, Int.add_zero, show zcmpW 0 false false = false from rfl, show zcmpW 0 false true = false from rfl, show zcmpW 0 true false = false from rfl, show zcmpW 0 true true = true from rfl, show zcmpW 1 false false = false from rfl, show zcmpW 1 false true = false from rfl, show zcmpW 1 true false = true from rfl, show zcmpW 1 true true = false from rfl, show zcmpW 2 false false = false from rfl, show zcmpW 2 false true = true from rfl, show zcmpW 2 true false = false from rfl, show zcmpW 2 true true = false from rfl] at hY
    all_goals (first | (((with_reducible refine i_Blk (i_Seq (i_Set (i_ZA (i_FR (i_A0 ?_)))))); (with_reducible refine i_fldR (by assumption) ?_); (with_reducible refine i_Add (i_Mul (i_I (i_L5 (i_L6 ?_))))); rw [zx_cmul (by omega)]; rw [zx_add (by omega)]; (with_reducible refine i_in (by assumption) (by omega) (by omega) ?_); (with_reducible refine i_Seq (i_Set (i_ZA (i_FR ?_)))); (rw [e1]); simp only [w_set0, w_set1, w_setn0, w_setn1]; (with_reducible refine i_A0 ?_); (with_reducible refine i_fldR (by assumption) ?_); (with_reducible refine i_Add (i_Mul (i_I (i_L5 (i_L6 ?_))))); rw [zx_cmul (by omega)]; rw [zx_add (by omega)]; (with_reducible refine i_in (by assumption) (by omega) (by omega) ?_); (with_reducible refine i_If (i_cOr (i_cOr (i_cAnd (i_cAnd (i_cZ_eq ?_)))))); (rw [e2]); simp only [w_set0, w_set1, w_setn0, w_setn1]; (with_reducible refine i_L3 ?_); rw [w_setT]; simp only [w_set0, w_set1, w_setn0, w_setn1]; rw [w_setT]; (with_reducible refine i_f (by omega) ?_); (with_reducible refine i_cAnd (i_cAnd (i_cI_eq (i_L3 (i_I ?_))))); (with_reducible refine i_f (by omega) ?_); (with_reducible refine i_cAnd (i_cAnd (i_cI_eq (i_L3 (i_I ?_))))); (with_reducible refine i_t (by omega) ?_); (with_reducible refine i_cNot (i_cZ_ne (i_L7 ?_))); (with_reducible refine i_f (by omega) ?_); (with_reducible refine i_cZ_ne (i_L8 ?_)); (with_reducible refine i_t (by omega) ?_); (with_reducible refine i_Inc4 ?_); rw [zx_s (by omega) (by omega)]; simp only [w_set0, w_set1, w_setn0, w_setn1])) | (((with_reducible refine i_Blk (i_Seq (i_Set (i_ZA (i_FR (i_A0 ?_)))))); (with_reducible refine i_fldR (by assumption) ?_); (with_reducible refine i_Add (i_Mul (i_I (i_L5 (i_L6 ?_))))); rw [zx_cmul (by omega)]; rw [zx_add (by omega)]; (with_reducible refine i_in (by assumption) (by omega) (by omega) ?_); (with_reducible refine i_Seq (i_Set (i_ZA (i_FR ?_)))); (rw [e1]); simp only [w_set0, w_set1, w_setn0, w_setn1]; (with_reducible refine i_A0 ?_); (with_reducible refine i_fldR (by assumption) ?_); (with_reducible refine i_Add (i_Mul (i_I (i_L5 (i_L6 ?_))))); rw [zx_cmul (by omega)]; rw [zx_add (by omega)]; (with_reducible refine i_in (by assumption) (by omega) (by omega) ?_); (with_reducible refine i_If (i_cOr (i_cOr (i_cAnd (i_cAnd (i_cZ_eq ?_)))))); (rw [e2]); simp only [w_set0, w_set1, w_setn0, w_setn1]; (with_reducible refine i_L3 ?_); rw [w_setT]; simp only [w_set0, w_set1, w_setn0, w_setn1]; rw [w_setT]; (with_reducible refine i_f (by omega) ?_); (with_reducible refine i_cAnd (i_cAnd (i_cI_eq (i_L3 (i_I ?_))))); (with_reducible refine i_t (by omega) ?_); (with_reducible refine i_cZ_ne (i_L7 ?_)); (with_reducible refine i_t (by omega) ?_); (with_reducible refine i_cNot (i_cZ_ne (i_L8 ?_))); (with_reducible refine i_t (by omega) ?_); (with_reducible refine i_cAnd (i_cAnd (i_cI_eq (i_L3 (i_I ?_))))); (with_reducible refine i_f (by omega) ?_))) | (((with_reducible refine i_Blk (i_Seq (i_Set (i_ZA (i_FR (i_A0 ?_)))))); (with_reducible refine i_fldR (by assumption) ?_); (with_reducible refine i_Add (i_Mul (i_I (i_L5 (i_L6 ?_))))); rw [zx_cmul (by omega)]; rw [zx_add (by omega)]; (with_reducible refine i_in (by assumption) (by omega) (by omega) ?_); (with_reducible refine i_Seq (i_Set (i_ZA (i_FR ?_)))); (rw [e1]); simp only [w_set0, w_set1, w_setn0, w_setn1]; (with_reducible refine i_A0 ?_); (with_reducible refine i_fldR (by assumption) ?_); (with_reducible refine i_Add (i_Mul (i_I (i_L5 (i_L6 ?_))))); rw [zx_cmul (by omega)]; rw [zx_add (by omega)]; (with_reducible refine i_in (by assumption) (by omega) (by omega) ?_); (with_reducible refine i_If (i_cOr (i_cOr (i_cAnd (i_cAnd (i_cZ_eq ?_)))))); (rw [e2]); simp only [w_set0, w_set1, w_setn0, w_setn1]; (with_reducible refine i_L3 ?_); rw [w_setT]; simp only [w_set0, w_set1, w_setn0, w_setn1]; rw [w_setT]; (with_reducible refine i_f (by omega) ?_); (with_reducible refine i_cAnd (i_cAnd (i_cI_eq (i_L3 (i_I ?_))))); (with_reducible refine i_f (by omega) ?_); (with_reducible refine i_cAnd (i_cAnd (i_cI_eq (i_L3 (i_I ?_))))); (with_reducible refine i_t (by omega) ?_); (with_reducible refine i_cNot (i_cZ_ne (i_L7 ?_))); (with_reducible refine i_f (by omega) ?_); (with_reducible refine i_cZ_ne (i_L8 ?_)); (with_reducible refine i_f (by omega) ?_))) | (((with_reducible refine i_Blk (i_Seq (i_Set (i_ZA (i_FR (i_A0 ?_)))))); (with_reducible refine i_fldR (by assumption) ?_); (with_reducible refine i_Add (i_Mul (i_I (i_L5 (i_L6 ?_))))); rw [zx_cmul (by omega)]; rw [zx_add (by omega)]; (with_reducible refine i_in (by assumption) (by omega) (by omega) ?_); (with_reducible refine i_Seq (i_Set (i_ZA (i_FR ?_)))); (rw [e1]); simp only [w_set0, w_set1, w_setn0, w_setn1]; (with_reducible refine i_A0 ?_); (with_reducible refine i_fldR (by assumption) ?_); (with_reducible refine i_Add (i_Mul (i_I (i_L5 (i_L6 ?_))))); rw [zx_cmul (by omega)]; rw [zx_add (by omega)]; (with_reducible refine i_in (by assumption) (by omega) (by omega) ?_); (with_reducible refine i_If (i_cOr (i_cOr (i_cAnd (i_cAnd (i_cZ_eq ?_)))))); (rw [e2]); simp only [w_set0, w_set1, w_setn0, w_setn1]; (with_reducible refine i_L3 ?_); rw [w_setT]; simp only [w_set0, w_set1, w_setn0, w_setn1]; rw [w_setT]; (with_reducible refine i_t (by omega) ?_); (with_reducible refine i_cZ_ne (i_L7 ?_)); (with_reducible refine i_t (by omega) ?_); (with_reducible refine i_cZ_ne (i_L8 ?_)); (with_reducible refine i_f (by omega) ?_); (with_reducible refine i_cAnd (i_cAnd (i_cI_eq (i_L3 (i_I ?_))))); (with_reducible refine i_f (by omega) ?_); (with_reducible refine i_cAnd (i_cAnd (i_cI_eq (i_L3 (i_I ?_))))); (with_reducible refine i_f (by omega) ?_))) | (((with_reducible refine i_Blk (i_Seq (i_Set (i_ZA (i_FR (i_A0 ?_)))))); (with_reducible refine i_fldR (by assumption) ?_); (with_reducible refine i_Add (i_Mul (i_I (i_L5 (i_L6 ?_))))); rw [zx_cmul (by omega)]; rw [zx_add (by omega)]; (with_reducible refine i_in (by assumption) (by omega) (by omega) ?_); (with_reducible refine i_Seq (i_Set (i_ZA (i_FR ?_)))); (rw [e1]); simp only [w_set0, w_set1, w_setn0, w_setn1]; (with_reducible refine i_A0 ?_); (with_reducible refine i_fldR (by assumption) ?_); (with_reducible refine i_Add (i_Mul (i_I (i_L5 (i_L6 ?_))))); rw [zx_cmul (by omega)]; rw [zx_add (by omega)]; (with_reducible refine i_in (by assumption) (by omega) (by omega) ?_); (with_reducible refine i_If (i_cOr (i_cOr (i_cAnd (i_cAnd (i_cZ_eq ?_)))))); (rw [e2]); simp only [w_set0, w_set1, w_setn0, w_setn1]; (with_reducible refine i_L3 ?_); rw [w_setT]; simp only [w_set0, w_set1, w_setn0, w_setn1]; rw [w_setT]; (with_reducible refine i_f (by omega) ?_); (with_reducible refine i_cAnd (i_cAnd (i_cI_eq (i_L3 (i_I ?_))))); (with_reducible refine i_t (by omega) ?_); (with_reducible refine i_cZ_ne (i_L7 ?_)); (with_reducible refine i_t (by omega) ?_); (with_reducible refine i_cNot (i_cZ_ne (i_L8 ?_))); (with_reducible refine i_f (by omega) ?_); (with_reducible refine i_Inc4 ?_); rw [zx_s (by omega) (by omega)]; simp only [w_set0, w_set1, w_setn0, w_setn1])) | (((with_reducible refine i_Blk (i_Seq (i_Set (i_ZA (i_FR (i_A0 ?_)))))); (with_reducible refine i_fldR (by assumption) ?_); (with_reducible refine i_Add (i_Mul (i_I (i_L5 (i_L6 ?_))))); rw [zx_cmul (by omega)]; rw [zx_add (by omega)]; (with_reducible refine i_in (by assumption) (by omega) (by omega) ?_); (with_reducible refine i_Seq (i_Set (i_ZA (i_FR ?_)))); (rw [e1]); simp only [w_set0, w_set1, w_setn0, w_setn1]; (with_reducible refine i_A0 ?_); (with_reducible refine i_fldR (by assumption) ?_); (with_reducible refine i_Add (i_Mul (i_I (i_L5 (i_L6 ?_))))); rw [zx_cmul (by omega)]; rw [zx_add (by omega)]; (with_reducible refine i_in (by assumption) (by omega) (by omega) ?_); (with_reducible refine i_If (i_cOr (i_cOr (i_cAnd (i_cAnd (i_cZ_eq ?_)))))); (rw [e2]); simp only [w_set0, w_set1, w_setn0, w_setn1]; (with_reducible refine i_L3 ?_); rw [w_setT]; simp only [w_set0, w_set1, w_setn0, w_setn1]; rw [w_setT]; (with_reducible refine i_f (by omega) ?_); (with_reducible refine i_cAnd (i_cAnd (i_cI_eq (i_L3 (i_I ?_))))); (with_reducible refine i_f (by omega) ?_); (with_reducible refine i_cAnd (i_cAnd (i_cI_eq (i_L3 (i_I ?_))))); (with_reducible refine i_t (by omega) ?_); (with_reducible refine i_cNot (i_cZ_ne (i_L7 ?_))); (with_reducible refine i_t (by omega) ?_))) | (((with_reducible refine i_Blk (i_Seq (i_Set (i_ZA (i_FR (i_A0 ?_)))))); (with_reducible refine i_fldR (by assumption) ?_); (with_reducible refine i_Add (i_Mul (i_I (i_L5 (i_L6 ?_))))); rw [zx_cmul (by omega)]; rw [zx_add (by omega)]; (with_reducible refine i_in (by assumption) (by omega) (by omega) ?_); (with_reducible refine i_Seq (i_Set (i_ZA (i_FR ?_)))); (rw [e1]); simp only [w_set0, w_set1, w_setn0, w_setn1]; (with_reducible refine i_A0 ?_); (with_reducible refine i_fldR (by assumption) ?_); (with_reducible refine i_Add (i_Mul (i_I (i_L5 (i_L6 ?_))))); rw [zx_cmul (by omega)]; rw [zx_add (by omega)]; (with_reducible refine i_in (by assumption) (by omega) (by omega) ?_); (with_reducible refine i_If (i_cOr (i_cOr (i_cAnd (i_cAnd (i_cZ_eq ?_)))))); (rw [e2]); simp only [w_set0, w_set1, w_setn0, w_setn1]; (with_reducible refine i_L3 ?_); rw [w_setT]; simp only [w_set0, w_set1, w_setn0, w_setn1]; rw [w_setT]; (with_reducible refine i_t (by omega) ?_); (with_reducible refine i_cZ_ne (i_L7 ?_)); (with_reducible refine i_f (by omega) ?_); (with_reducible refine i_cAnd (i_cAnd (i_cI_eq (i_L3 (i_I ?_))))); (with_reducible refine i_f (by omega) ?_); (with_reducible refine i_cAnd (i_cAnd (i_cI_eq (i_L3 (i_I ?_))))); (with_reducible refine i_f (by omega) ?_))) | (((with_reducible refine i_Blk (i_Seq (i_Set (i_ZA (i_FR (i_A0 ?_)))))); (with_reducible refine i_fldR (by assumption) ?_); (with_reducible refine i_Add (i_Mul (i_I (i_L5 (i_L6 ?_))))); rw [zx_cmul (by omega)]; rw [zx_add (by omega)]; (with_reducible refine i_in (by assumption) (by omega) (by omega) ?_); (with_reducible refine i_Seq (i_Set (i_ZA (i_FR ?_)))); (rw [e1]); simp only [w_set0, w_set1, w_setn0, w_setn1]; (with_reducible refine i_A0 ?_); (with_reducible refine i_fldR (by assumption) ?_); (with_reducible refine i_Add (i_Mul (i_I (i_L5 (i_L6 ?_))))); rw [zx_cmul (by omega)]; rw [zx_add (by omega)]; (with_reducible refine i_in (by assumption) (by omega) (by omega) ?_); (with_reducible refine i_If (i_cOr (i_cOr (i_cAnd (i_cAnd (i_cZ_eq ?_)))))); (rw [e2]); simp only [w_set0, w_set1, w_setn0, w_setn1]; (with_reducible refine i_L3 ?_); rw [w_setT]; simp only [w_set0, w_set1, w_setn0, w_setn1]; rw [w_setT]; (with_reducible refine i_f (by omega) ?_); (with_reducible refine i_cAnd (i_cAnd (i_cI_eq (i_L3 (i_I ?_))))); (with_reducible refine i_t (by omega) ?_); (with_reducible refine i_cZ_ne (i_L7 ?_)); (with_reducible refine i_f (by omega) ?_); (with_reducible refine i_cAnd (i_cAnd (i_cI_eq (i_L3 (i_I ?_))))); (with_reducible refine i_f (by omega) ?_))) | (((with_reducible refine i_Blk (i_Seq (i_Set (i_ZA (i_FR (i_A0 ?_)))))); (with_reducible refine i_fldR (by assumption) ?_); (with_reducible refine i_Add (i_Mul (i_I (i_L5 (i_L6 ?_))))); rw [zx_cmul (by omega)]; rw [zx_add (by omega)]; (with_reducible refine i_in (by assumption) (by omega) (by omega) ?_); (with_reducible refine i_Seq (i_Set (i_ZA (i_FR ?_)))); (rw [e1]); simp only [w_set0, w_set1, w_setn0, w_setn1]; (with_reducible refine i_A0 ?_); (with_reducible refine i_fldR (by assumption) ?_); (with_reducible refine i_Add (i_Mul (i_I (i_L5 (i_L6 ?_))))); rw [zx_cmul (by omega)]; rw [zx_add (by omega)]; (with_reducible refine i_in (by assumption) (by omega) (by omega) ?_); (with_reducible refine i_If (i_cOr (i_cOr (i_cAnd (i_cAnd (i_cZ_eq ?_)))))); (rw [e2]); simp only [w_set0, w_set1, w_setn0, w_setn1]; (with_reducible refine i_L3 ?_); rw [w_setT]; simp only [w_set0, w_set1, w_setn0, w_setn1]; rw [w_setT]; (with_reducible refine i_t (by omega) ?_); (with_reducible refine i_cZ_ne (i_L7 ?_)); (with_reducible refine i_t (by omega) ?_); (with_reducible refine i_cZ_ne (i_L8 ?_)); (with_reducible refine i_t (by omega) ?_); (with_reducible refine i_Inc4 ?_); rw [zx_s (by omega) (by omega)]; simp only [w_set0, w_set1, w_setn0, w_setn1])))
    all_goals exact hY _ _ ⟨rfl, by omega⟩
  · rintro l M2 ⟨rfl, _⟩
    simp only [List.cons_append, List.nil_append]
    rw [zov_end]
    (with_reducible refine i_RetI (i_L4 ?_))
    exact hk _ (fun b j q => by rw [hf3 _ _ (by omega), hf2 _ _ (by omega), hf1 _ _ (by omega)])
end
