/-! ===== what a text tells: the reference ===== -/
def uoI (x : Nat) : Int := if x = 999 then -1 else ((x : Nat) : Int)
def uwI (w : Nat × Nat × Nat) : Int := if w.1 = 1 ∨ w.1 = 2 then ((w.2.2 : Nat) : Int) else -1
def uXI (b m : Nat) : Int := if b < m then ((b : Nat) : Int) else -1
def rZb (M : zMem) (Z : zZt) : Prop := M 250 ((68 : Nat) : Int) = ((ub Z : Nat) : Int) ∧ ∀ b : Nat, b < ub Z → M ((300 : Nat) : Int) ((b : Nat) : Int) = ((un Z b : Nat) : Int) ∧ M ((301 : Nat) : Int) ((b : Nat) : Int) = ((zSz (uo Z) 16 b : Nat) : Int)
def rZo (M : zMem) (Z : zZt) : Prop := ∀ p : Nat, p < 16 → M ((302 : Nat) : Int) ((p : Nat) : Int) = uoI (uo Z p) ∧ M ((303 : Nat) : Int) ((p : Nat) : Int) = ((ul Z p : Nat) : Int)
def rZw (M : zMem) (Z : zZt) : Prop := M 250 ((73 : Nat) : Int) = ((uk Z : Nat) : Int) ∧ ∀ k : Nat, k < uk Z → M ((304 : Nat) : Int) ((k : Nat) : Int) = (((uw Z k).1 : Nat) : Int) ∧ M ((305 : Nat) : Int) ((k : Nat) : Int) = (((uw Z k).2.1 : Nat) : Int) ∧ M ((306 : Nat) : Int) ((k : Nat) : Int) = uwI (uw Z k)
def rZp (M : zMem) (Z : zZt) : Prop := M 250 ((77 : Nat) : Int) = ((ut Z : Nat) : Int) ∧ ∀ k : Nat, k < ut Z → M ((307 : Nat) : Int) ((k : Nat) : Int) = (((up Z k).1 : Nat) : Int) ∧ M ((308 : Nat) : Int) ((k : Nat) : Int) = (((up Z k).2.1 : Nat) : Int) ∧ M ((309 : Nat) : Int) ((k : Nat) : Int) = zbI (up Z k).2.2.1 ∧ M ((310 : Nat) : Int) ((k : Nat) : Int) = (((up Z k).2.2.2 : Nat) : Int)
def rZf (M : zMem) (F : Nat) : Prop := M 250 ((66 : Nat) : Int) = ((zFf F : Nat) : Int) ∧ M 250 ((40 : Nat) : Int) = zFq F
def rZt (M : zMem) (Z : zZt) : Prop := rZb M Z ∧ rZo M Z ∧ rZw M Z ∧ rZp M Z ∧ rZf M (uF Z)
theorem rZb.to {M M' : zMem} {Z Z' : zZt} (h : rZb M Z) (e : ∀ b j, b = 250 ∧ j = 68 ∨ b = ((300 : Nat) : Int) ∨ b = ((301 : Nat) : Int) → M' b j = M b j) (ez : Z'.1 = Z.1) : rZb M' Z' := by
  have e1 : ub Z' = ub Z := by unfold ub; rw [ez]
  have e2 : un Z' = un Z := by unfold un; rw [ez]
  have e3 : uo Z' = uo Z := by unfold uo; rw [ez]
  unfold rZb
  rw [e1, e2, e3]
  exact ⟨by rw [e _ _ (by omega)]; exact h.1, fun b hb => by rw [e _ _ (by omega), e _ _ (by omega)]; exact h.2 b hb⟩
theorem rZo.to {M M' : zMem} {Z Z' : zZt} (h : rZo M Z) (e : ∀ b j, b = ((302 : Nat) : Int) ∨ b = ((303 : Nat) : Int) → M' b j = M b j) (ez : Z'.1 = Z.1) : rZo M' Z' := by
  have e3 : uo Z' = uo Z := by unfold uo; rw [ez]
  have e4 : ul Z' = ul Z := by unfold ul; rw [ez]
  unfold rZo
  rw [e3, e4]
  exact fun p hp => by rw [e _ _ (by omega), e _ _ (by omega)]; exact h p hp
theorem rZw.to {M M' : zMem} {Z Z' : zZt} (h : rZw M Z) (e : ∀ b j, b = 250 ∧ j = 73 ∨ ((304 : Nat) : Int) ≤ b ∧ b ≤ ((306 : Nat) : Int) → M' b j = M b j) (ez : Z'.2.1 = Z.2.1) : rZw M' Z' := by
  have e1 : uk Z' = uk Z := by unfold uk; rw [ez]
  have e2 : uw Z' = uw Z := by unfold uw; rw [ez]
  unfold rZw
  rw [e1, e2]
  exact ⟨by rw [e _ _ (by omega)]; exact h.1, fun b hb => by rw [e _ _ (by omega), e _ _ (by omega), e _ _ (by omega)]; exact h.2 b hb⟩
theorem rZp.to {M M' : zMem} {Z Z' : zZt} (h : rZp M Z) (e : ∀ b j, b = 250 ∧ j = 77 ∨ ((307 : Nat) : Int) ≤ b ∧ b ≤ ((310 : Nat) : Int) → M' b j = M b j) (ez : Z'.2.2.1 = Z.2.2.1) : rZp M' Z' := by
  have e1 : ut Z' = ut Z := by unfold ut; rw [ez]
  have e2 : up Z' = up Z := by unfold up; rw [ez]
  unfold rZp
  rw [e1, e2]
  exact ⟨by rw [e _ _ (by omega)]; exact h.1, fun b hb => by rw [e _ _ (by omega), e _ _ (by omega), e _ _ (by omega), e _ _ (by omega)]; exact h.2 b hb⟩
theorem rZf.to {M M' : zMem} {F : Nat} (h : rZf M F) (e : ∀ b j, b = 250 ∧ (j = 66 ∨ j = 40) → M' b j = M b j) : rZf M' F := ⟨by rw [e _ _ (by omega)]; exact h.1, by rw [e _ _ (by omega)]; exact h.2⟩
/-- nothing but the fault has changed -/
theorem rZt.bl {M M' : zMem} {Z Z' : zZt} (h : rZt M Z) (e : ∀ b j, ¬ (b = 250 ∧ (j = 40 ∨ j = 66)) → M' b j = M b j) (ez : Z'.1 = Z.1) (ez2 : Z'.2.1 = Z.2.1) (ez3 : Z'.2.2.1 = Z.2.2.1) (hf : rZf M' (uF Z')) : rZt M' Z' :=
  ⟨h.1.to (fun b j q => e b j (by omega)) ez, h.2.1.to (fun b j q => e b j (by omega)) ez, h.2.2.1.to (fun b j q => e b j (by omega)) ez2, h.2.2.2.1.to (fun b j q => e b j (by omega)) ez3, hf⟩
theorem rZt.to {M M' : zMem} {Z : zZt} (h : rZt M Z) (e : ∀ b j, b = 250 ∧ (j = 40 ∨ j = 66 ∨ j = 68 ∨ j = 73 ∨ j = 77) ∨ ((300 : Nat) : Int) ≤ b ∧ b ≤ ((310 : Nat) : Int) → M' b j = M b j) : rZt M' Z :=
  ⟨h.1.to (fun b j q => e b j (by omega)) rfl, h.2.1.to (fun b j q => e b j (by omega)) rfl, h.2.2.1.to (fun b j q => e b j (by omega)) rfl, h.2.2.2.1.to (fun b j q => e b j (by omega)) rfl, h.2.2.2.2.to (fun b j q => e b j (by omega))⟩
theorem m_tells {O : zOm} (hO : zWld O) (hS : zS O = zmS zC0) {f p F : Nat} {fi : Int} {M : zMem} {K : Option zV → zMem → Prop} (hfi : fi = ((f : Nat) : Int)) (hF : rZf M F) (hk9 : uFk F) (hf : 0 < f) (hf8 : f < 8) (hp : p ≤ 2000)
    (hk : ∀ M', (∀ b j, ¬ (b = 250 ∧ (j = 40 ∨ j = 66)) → M' b j = M b j) → rZf M' (min F (8 * p + f)) → K none M') : zR O F_Model_tells [(2, 250), (0, fi), (0, ((p : Nat) : Int))] M K := by
  subst hfi
  obtain ⟨h1, h2⟩ := hF
  have hat := zFf_at hp hf8
  have set : min F (8 * p + f) = 8 * p + f → ∀ M', (∀ b j, ¬ (b = 250 ∧ (j = 40 ∨ j = 66)) → M' b j = M b j) → M' 250 ((66 : Nat) : Int) = ((f : Nat) : Int) → M' 250 ((40 : Nat) : Int) = ((p : Nat) : Int) → K none M' := fun e M' f1 a b => hk M' f1 ⟨by rw [e, hat.1]; exact a, by rw [e, hat.2]; exact b⟩
  apply r_Model_tells hO
  unfold B_Model_tells
  have f66 := zMF (k := 66) hS rfl; have f40 := zMF (k := 40) hS rfl; have zo := zMO hS
  by_cases e : F = 99999
  · subst e
    have h1' : M 250 ((66 : Nat) : Int) = 0 := h1
    ((with_reducible refine i_Seq (i_Seq (i_If (i_cAnd (i_cZ_ne (i_F (i_A0 ?_))))))); (with_reducible refine i_fld (by assumption) ?_); (rw [h1']); (with_reducible refine i_f (by omega) ?_); (with_reducible refine i_Seq (i_sF (i_A0 (i_L1 ?_)))); (with_reducible refine i_fld (by assumption) ?_); (with_reducible refine i_sF (i_A0 (i_L2 ?_))); (with_reducible refine i_fld (by assumption) ?_); (with_reducible refine i_RetV ?_))
    exact set (by omega) _ (fun b j q => by rw [zg_o _ _ (by omega), zg_o _ _ (by omega)]) (by rw [zg_o _ _ (by omega)]; exact zg_s _ _ _ _ _) (zg_s _ _ _ _ _)
  · have h9 : F % 8 ≠ 0 ∧ F / 8 ≤ 2000 := hk9.elim (fun z => absurd z e) (fun z => z)
    have h1' : M 250 ((66 : Nat) : Int) = ((F % 8 : Nat) : Int) := by rw [h1]; unfold zFf; rw [if_neg e]
    have h2' : M 250 ((40 : Nat) : Int) = ((F / 8 : Nat) : Int) := by rw [h2]; unfold zFq; rw [if_neg e]
    by_cases a1 : F / 8 < p
    · ((with_reducible refine i_Seq (i_Seq (i_If (i_cAnd (i_cZ_ne (i_F (i_A0 ?_))))))); (with_reducible refine i_fld (by assumption) ?_); (rw [h1']); (with_reducible refine i_t (by omega) ?_); (with_reducible refine i_cOr (i_cI_gt (i_L2 (i_F (i_A0 ?_))))); (with_reducible refine i_fld (by assumption) ?_); (rw [h2']); (with_reducible refine i_t (by omega) ?_); (with_reducible refine i_RetV ?_))
      exact hk M (fun _ _ _ => rfl) (by rw [show min F (8 * p + f) = F by omega]; exact ⟨h1, h2⟩)
    by_cases a2 : p < F / 8
    · ((with_reducible refine i_Seq (i_Seq (i_If (i_cAnd (i_cZ_ne (i_F (i_A0 ?_))))))); (with_reducible refine i_fld (by assumption) ?_); (rw [h1']); (with_reducible refine i_t (by omega) ?_); (with_reducible refine i_cOr (i_cI_gt (i_L2 (i_F (i_A0 ?_))))); (with_reducible refine i_fld (by assumption) ?_); (rw [h2']); (with_reducible refine i_f (by omega) ?_); (with_reducible refine i_cAnd (i_cI_eq (i_L2 (i_F (i_A0 ?_))))); (with_reducible refine i_fld (by assumption) ?_); (rw [h2']); (with_reducible refine i_f (by omega) ?_); (with_reducible refine i_Seq (i_sF (i_A0 (i_L1 ?_)))); (with_reducible refine i_fld (by assumption) ?_); (with_reducible refine i_sF (i_A0 (i_L2 ?_))); (with_reducible refine i_fld (by assumption) ?_); (with_reducible refine i_RetV ?_))
      exact set (by omega) _ (fun b j q => by rw [zg_o _ _ (by omega), zg_o _ _ (by omega)]) (by rw [zg_o _ _ (by omega)]; exact zg_s _ _ _ _ _) (zg_s _ _ _ _ _)
    by_cases a3 : F % 8 ≤ f
    · ((with_reducible refine i_Seq (i_Seq (i_If (i_cAnd (i_cZ_ne (i_F (i_A0 ?_))))))); (with_reducible refine i_fld (by assumption) ?_); (rw [h1']); (with_reducible refine i_t (by omega) ?_); (with_reducible refine i_cOr (i_cI_gt (i_L2 (i_F (i_A0 ?_))))); (with_reducible refine i_fld (by assumption) ?_); (rw [h2']); (with_reducible refine i_f (by omega) ?_); (with_reducible refine i_cAnd (i_cI_eq (i_L2 (i_F (i_A0 ?_))))); (with_reducible refine i_fld (by assumption) ?_); (rw [h2']); (with_reducible refine i_t (by omega) ?_); (with_reducible refine i_cI_ge (i_L1 (i_F (i_A0 ?_)))); (with_reducible refine i_fld (by assumption) ?_); (rw [h1']); (with_reducible refine i_t (by omega) ?_); (with_reducible refine i_RetV ?_))
      exact hk M (fun _ _ _ => rfl) (by rw [show min F (8 * p + f) = F by omega]; exact ⟨h1, h2⟩)
    · ((with_reducible refine i_Seq (i_Seq (i_If (i_cAnd (i_cZ_ne (i_F (i_A0 ?_))))))); (with_reducible refine i_fld (by assumption) ?_); (rw [h1']); (with_reducible refine i_t (by omega) ?_); (with_reducible refine i_cOr (i_cI_gt (i_L2 (i_F (i_A0 ?_))))); (with_reducible refine i_fld (by assumption) ?_); (rw [h2']); (with_reducible refine i_f (by omega) ?_); (with_reducible refine i_cAnd (i_cI_eq (i_L2 (i_F (i_A0 ?_))))); (with_reducible refine i_fld (by assumption) ?_); (rw [h2']); (with_reducible refine i_t (by omega) ?_); (with_reducible refine i_cI_ge (i_L1 (i_F (i_A0 ?_)))); (with_reducible refine i_fld (by assumption) ?_); (rw [h1']); (with_reducible refine i_f (by omega) ?_); (with_reducible refine i_Seq (i_sF (i_A0 (i_L1 ?_)))); (with_reducible refine i_fld (by assumption) ?_); (with_reducible refine i_sF (i_A0 (i_L2 ?_))); (with_reducible refine i_fld (by assumption) ?_); (with_reducible refine i_RetV ?_))
      exact set (by omega) _ (fun b j q => by rw [zg_o _ _ (by omega), zg_o _ _ (by omega)]) (by rw [zg_o _ _ (by omega)]; exact zg_s _ _ _ _ _) (zg_s _ _ _ _ _)
theorem m_textBox {O : zOm} (hO : zWld O) (hS : zS O = zmS zC0) {k v : Nat} {Z : zZt} {M : zMem} {K : Option zV → zMem → Prop} (hB : rZb M Z) (hub : ub Z ≤ 110) (hk1 : k ≤ 2000) (hv : M ((299 : Nat) : Int) ((k : Nat) : Int) = ((v : Nat) : Int)) (hk : K (some (0, uXI (ufn Z v) (ub Z))) M) : zR O F_Model_textBox [(2, 250), (0, ((k : Nat) : Int))] M K := by
  obtain ⟨b1, b2⟩ := hB
  have hle := zfl_le (un Z) v (ub Z)
  have hfe : ufn Z v = zfl (un Z) v (ub Z) := rfl
  apply r_Model_textBox hO
  unfold B_Model_textBox
  have f68 := zMF (k := 68) hS rfl; have f69 := zMF (k := 69) hS rfl; have a300 := zMA (a := 300) (ty := .long) (n := 110) hS rfl; have f65 := zMF (k := 65) hS rfl; have a299 := zMA (a := 299) (ty := .long) (n := 2001) hS rfl; have zo := zMO hS
  ((with_reducible refine i_Seq (i_Blk (i_Seq (i_Set (i_I ?_))))); simp only [w_set0, w_set1, w_setn0, w_setn1])
  refine w_ForN (ufn Z v) (fun c ρ M' => (∃ l, ρ = 250 :: ((k : Nat) : Int) :: ((c : Nat) : Int) :: l) ∧ M' = M) ⟨⟨_, rfl⟩, rfl⟩ ?_ ?_
  · rintro c ρ M1 X hc ⟨⟨l, rfl⟩, rfl⟩ hX
    have g := (b2 c (by omega)).1
    have hne : ¬ ((un Z c : Nat) : Int) = ((v : Nat) : Int) := by
      have := zfl_no (f := un Z) (l := v) (k := ub Z) (j := c) hc
      omega
    ((with_reducible refine i_turn (i_cI_lt (i_L2 (i_F (i_A0 ?_))))); (with_reducible refine i_fld (by assumption) ?_); (rw [b1]); (with_reducible refine i_t (by omega) ?_); (with_reducible refine i_If (i_cZ_eq (i_CmpL (i_LA (i_FR (i_A0 ?_)))))); (with_reducible refine i_fldR (by assumption) ?_); (with_reducible refine i_L2 ?_); (with_reducible refine i_in (by assumption) (by omega) (by omega) ?_); (with_reducible refine i_LA (i_FR (i_A0 ?_))); (with_reducible refine i_fldR (by assumption) ?_); (with_reducible refine i_L1 ?_); (with_reducible refine i_in (by assumption) (by omega) (by omega) ?_); (rw [g]); (rw [hv]); (refine i_cmp ?_); (with_reducible refine i_f (by omega) ?_); (with_reducible refine i_up (i_Inc2 ?_)); rw [zx_inc (by omega)]; simp only [w_set0, w_set1, w_setn0, w_setn1])
    exact hX _ _ ⟨⟨_, rfl⟩, rfl⟩
  · rintro ρ M1 X ⟨⟨l, rfl⟩, rfl⟩
    unfold uXI at hk
    by_cases h : ufn Z v < ub Z
    · rw [if_pos h] at hk
      have g := (b2 _ h).1
      have he : ((un Z (ufn Z v) : Nat) : Int) = ((v : Nat) : Int) := by rw [show un Z (ufn Z v) = v from zfl_at h]
      ((with_reducible refine i_turn (i_cI_lt (i_L2 (i_F (i_A0 ?_))))); (with_reducible refine i_fld (by assumption) ?_); (rw [b1]); (with_reducible refine i_t (by omega) ?_); (with_reducible refine i_If (i_cZ_eq (i_CmpL (i_LA (i_FR (i_A0 ?_)))))); (with_reducible refine i_fldR (by assumption) ?_); (with_reducible refine i_L2 ?_); (with_reducible refine i_in (by assumption) (by omega) (by omega) ?_); (with_reducible refine i_LA (i_FR (i_A0 ?_))); (with_reducible refine i_fldR (by assumption) ?_); (with_reducible refine i_L1 ?_); (with_reducible refine i_in (by assumption) (by omega) (by omega) ?_); (rw [g]); (rw [hv]); (refine i_cmp ?_); (with_reducible refine i_t (by omega) ?_); (with_reducible refine i_RetI (i_L2 ?_)))
      exact hk
    · rw [if_neg h] at hk
      ((with_reducible refine i_turn (i_cI_lt (i_L2 (i_F (i_A0 ?_))))); (with_reducible refine i_fld (by assumption) ?_); (rw [b1]); (with_reducible refine i_f (by omega) ?_); (with_reducible refine i_RetI (i_I ?_)))
      exact hk
theorem ukb_e (Z : zZt) (v p : Nat) : (ukb Z v p).1 = Z.1 ∧ (ukb Z v p).2.1 = Z.2.1 ∧ (ukb Z v p).2.2.1 = Z.2.2.1 ∧ uF (ukb Z v p) = if ufn Z v < ub Z then uF Z else min (uF Z) (8 * p + 4) := by
  unfold ukb
  by_cases h : ufn Z v < ub Z
  · rw [if_pos h, if_pos h]; exact ⟨rfl, rfl, rfl, rfl⟩
  · rw [if_neg h, if_neg h]; exact ⟨rfl, rfl, rfl, rfl⟩
theorem ukp_e (n : Nat) (Z : zZt) (v p : Nat) : (ukp n Z v p).1 = Z.1 ∧ (ukp n Z v p).2.1 = Z.2.1 ∧ (ukp n Z v p).2.2.1 = Z.2.2.1 ∧ uF (ukp n Z v p) = if v < n then uF Z else min (uF Z) (8 * p + 5) := by
  unfold ukp
  by_cases h : v < n
  · rw [if_pos h, if_pos h]; exact ⟨rfl, rfl, rfl, rfl⟩
  · rw [if_neg h, if_neg h]; exact ⟨rfl, rfl, rfl, rfl⟩
theorem m_knownBox {O : zOm} (hO : zWld O) (hS : zS O = zmS zC0) {k v p F : Nat} {Z : zZt} {M : zMem} {K : Option zV → zMem → Prop} (hB : rZb M Z) (hFz : rZf M F) (hub : ub Z ≤ 110) (hF : uFk F) (hk1 : k ≤ 2000) (hv : M ((299 : Nat) : Int) ((k : Nat) : Int) = ((v : Nat) : Int)) (hp : M ((280 : Nat) : Int) ((k : Nat) : Int) = ((p : Nat) : Int)) (hp2 : p ≤ 2000)
    (hk : ∀ M', (∀ b j, ¬ (b = 250 ∧ (j = 40 ∨ j = 66)) → M' b j = M b j) → rZf M' (if ufn Z v < ub Z then F else min F (8 * p + 4)) → K (some (0, uXI (ufn Z v) (ub Z))) M') : zR O F_Model_knownBox [(2, 250), (0, ((k : Nat) : Int))] M K := by
  apply r_Model_knownBox hO
  unfold B_Model_knownBox
  have f37 := zMF (k := 37) hS rfl; have a280 := zMA (a := 280) (ty := .int) (n := 2001) hS rfl; have zo := zMO hS
  ((with_reducible refine i_Seq (i_Set (i_Call (i_as1 (i_A0 (i_as1 (i_L1 (i_as0 ?_)))))))); (with_reducible refine i_recv0 (by assumption) ?_); simp only [w_set0, w_set1, w_setn0, w_setn1])
  refine m_textBox hO hS hB hub hk1 hv ⟨_, rfl, ?_⟩
  by_cases h : ufn Z v < ub Z
  · have e : uXI (ufn Z v) (ub Z) = ((ufn Z v : Nat) : Int) := if_pos h
    rw [e] at hk ⊢
    rw [if_pos h] at hk
    ((with_reducible refine i_Seq (i_If (i_cZ_lt (i_L2 ?_)))); (with_reducible refine i_f (by omega) ?_); (with_reducible refine i_RetI (i_L2 ?_)))
    exact hk M (fun _ _ _ => rfl) hFz
  · have e : uXI (ufn Z v) (ub Z) = -1 := if_neg h
    rw [e] at hk ⊢
    rw [if_neg h] at hk
    ((with_reducible refine i_Seq (i_If (i_cZ_lt (i_L2 ?_)))); (with_reducible refine i_t (by omega) ?_); (with_reducible refine i_sCall (i_as1 (i_A0 (i_as1 (i_I (i_as1 (i_IA (i_FR (i_A0 ?_))))))))); (with_reducible refine i_fldR (by assumption) ?_); (with_reducible refine i_L1 ?_); (with_reducible refine i_in (by assumption) (by omega) (by omega) ?_); (with_reducible refine i_as0 ?_); (with_reducible refine i_recv0 (by assumption) ?_); (rw [hp]))
    refine m_tells hO hS (f := 4) rfl hFz hF (by decide) (by decide) hp2 (fun M1 f1 g1 => ⟨rfl, ?_⟩)
    (with_reducible refine i_RetI (i_L2 ?_))
    exact hk M1 f1 g1
theorem m_isKnownPost {O : zOm} (hO : zWld O) (hS : zS O = zmS zC0) {k v p n F : Nat} {M : zMem} {K : Option zV → zMem → Prop} (hFz : rZf M F) (hn : M 250 ((1 : Nat) : Int) = ((n : Nat) : Int)) (hF : uFk F) (hk1 : k ≤ 2000) (hv : M ((282 : Nat) : Int) ((k : Nat) : Int) = ((v : Nat) : Int)) (hp : M ((280 : Nat) : Int) ((k : Nat) : Int) = ((p : Nat) : Int)) (hp2 : p ≤ 2000)
    (hk : ∀ M', (∀ b j, ¬ (b = 250 ∧ (j = 40 ∨ j = 66)) → M' b j = M b j) → rZf M' (if v < n then F else min F (8 * p + 5)) → K (some (0, zbI (decide (v < n)))) M') : zR O F_Model_isKnownPost [(2, 250), (0, ((k : Nat) : Int))] M K := by
  apply r_Model_isKnownPost hO
  unfold B_Model_isKnownPost
  have f39 := zMF (k := 39) hS rfl; have a282 := zMA (a := 282) (ty := .int) (n := 2001) hS rfl; have f37 := zMF (k := 37) hS rfl; have a280 := zMA (a := 280) (ty := .int) (n := 2001) hS rfl; have zo := zMO hS
  by_cases h : v < n
  · rw [if_pos h, decide_eq_true h] at hk
    ((with_reducible refine i_Seq (i_If (i_cZ_ne (i_Call (i_as1 (i_A0 (i_as1 (i_IA (i_FR (i_A0 ?_)))))))))); (with_reducible refine i_fldR (by assumption) ?_); (with_reducible refine i_L1 ?_); (with_reducible refine i_in (by assumption) (by omega) (by omega) ?_); (with_reducible refine i_as0 ?_); (with_reducible refine i_recv0 (by assumption) ?_); (rw [hv]); (refine m_isPost hO hS hn ⟨_, rfl, ?_⟩); (rw [decide_eq_true (show 0 ≤ ((v : Nat) : Int) ∧ ((v : Nat) : Int) < ((n : Nat) : Int) by omega)]); rw [zbI_t]; (with_reducible refine i_t (by omega) ?_); (with_reducible refine i_RetZ (i_I ?_)); (with_reducible refine i_z (Or.inr rfl) ?_))
    exact hk M (fun _ _ _ => rfl) hFz
  · rw [if_neg h, decide_eq_false h] at hk
    ((with_reducible refine i_Seq (i_If (i_cZ_ne (i_Call (i_as1 (i_A0 (i_as1 (i_IA (i_FR (i_A0 ?_)))))))))); (with_reducible refine i_fldR (by assumption) ?_); (with_reducible refine i_L1 ?_); (with_reducible refine i_in (by assumption) (by omega) (by omega) ?_); (with_reducible refine i_as0 ?_); (with_reducible refine i_recv0 (by assumption) ?_); (rw [hv]); (refine m_isPost hO hS hn ⟨_, rfl, ?_⟩); (rw [decide_eq_false (show ¬ (0 ≤ ((v : Nat) : Int) ∧ ((v : Nat) : Int) < ((n : Nat) : Int)) by omega)]); rw [zbI_f]; (with_reducible refine i_f (by omega) ?_); (with_reducible refine i_Seq (i_sCall (i_as1 (i_A0 (i_as1 (i_I (i_as1 (i_IA (i_FR (i_A0 ?_)))))))))); (with_reducible refine i_fldR (by assumption) ?_); (with_reducible refine i_L1 ?_); (with_reducible refine i_in (by assumption) (by omega) (by omega) ?_); (with_reducible refine i_as0 ?_); (with_reducible refine i_recv0 (by assumption) ?_); (rw [hp]))
    refine m_tells hO hS (f := 5) rfl hFz hF (by decide) (by decide) hp2 (fun M1 f1 g1 => ⟨rfl, ?_⟩)
    ((with_reducible refine i_RetZ (i_I ?_)); (with_reducible refine i_z (Or.inl rfl) ?_))
    exact hk M1 f1 g1
/-- what the tell methods find: the tokens, the posts, the head, what was told -/
def rTx (M : zMem) (B : Nat → Nat) (s n i : Nat) (Z : zZt) : Prop := rTt M B s ∧ M 250 ((1 : Nat) : Int) = ((n : Nat) : Int) ∧ M 250 ((67 : Nat) : Int) = ((i : Nat) : Int) ∧ rZt M Z
/-- the cells that a tell may change -/
def rXF (M M' : zMem) : Prop := ∀ b j, ¬ (b = 250 ∧ (j = 40 ∨ j = 66 ∨ j = 67 ∨ j = 68 ∨ j = 73 ∨ j = 77) ∨ ((300 : Nat) : Int) ≤ b ∧ b ≤ ((310 : Nat) : Int)) → M' b j = M b j
theorem rXF.rf (M : zMem) : rXF M M := fun _ _ _ => rfl
theorem rXF.tr {M M1 M2 : zMem} (h1 : rXF M M1) (h2 : rXF M1 M2) : rXF M M2 := fun b j q => (h2 b j q).trans (h1 b j q)
theorem rXF.bl {M M1 : zMem} (h : ∀ b j, ¬ (b = 250 ∧ (j = 40 ∨ j = 66)) → M1 b j = M b j) : rXF M M1 := fun b j q => h b j (by omega)
/-- a box while its numbers are told -/
def rBJ (Z : zZt) (v : Nat) (M M' : zMem) (h : Nat) (r : (Nat → Nat) × (Nat → Nat) × Nat) : Prop := (∀ b j, ¬ (b = 250 ∧ (j = 40 ∨ j = 66 ∨ j = 67) ∨ ((300 : Nat) : Int) ≤ b ∧ b ≤ ((303 : Nat) : Int)) → M' b j = M b j) ∧ M' 250 ((67 : Nat) : Int) = ((h : Nat) : Int) ∧ (∀ b : Nat, b ≤ ub Z → M' ((300 : Nat) : Int) ((b : Nat) : Int) = ((uup (un Z) (ub Z) v b : Nat) : Int) ∧ M' ((301 : Nat) : Int) ((b : Nat) : Int) = ((zSz r.1 16 b : Nat) : Int)) ∧ (∀ p : Nat, p < 16 → M' ((302 : Nat) : Int) ((p : Nat) : Int) = uoI (r.1 p) ∧ M' ((303 : Nat) : Int) ((p : Nat) : Int) = ((r.2.1 p : Nat) : Int)) ∧ rZf M' r.2.2
set_option maxHeartbeats 1600000 in
theorem m_tellBox {O : zOm} (hO : zWld O) (hS : zS O = zmS zC0) {i s n : Nat} {B : Nat → Nat} {Z : zZt} {M : zMem} {K : Option zV → zMem → Prop} (hs : s ≤ 2000) (hn16 : n ≤ 16) (hq0 : zqs B s (zhh B s) = 0) (hi : i < zhh B s) (hq : zqs B s i = 0) (hK : zKi B s i = 3) (hA : uAll B s n Z i) (hX : rTx M B s n i Z)
    (hk : ∀ M', rXF M M' → M' 250 ((67 : Nat) : Int) = ((zeb B s i + 1 : Nat) : Int) → rZt M' (usb B s n Z i) → K none M') : zR O F_Model_tellBox [(2, 250)] M K := by
  obtain ⟨hR, hn, hh, hZ⟩ := hX
  have h400 := (zhh_ok B s).1
  have hp := fun j => Nat.le_trans (zps_le B s j) hs
  obtain ⟨g1, g2, g3, g4, g5, g6⟩ := zgr_3 hq0 hi hq hK
  have hub := hA.2.2.2.1
  have hFk : uFk (uF Z) := hA.1.2.2.1
  have k1 := hR.tk (show i + 1 < zhh B s by omega)
  have v1 : M ((299 : Nat) : Int) ((i + 1 : Nat) : Int) = ((zVi B s (i + 1) : Nat) : Int) := k1.2.2.2.2 g1
  have p1 := k1.2.1
  have hI := fun c => ubs_I (n := n) (b := ub Z) (o := uo Z) (l := ul Z) (F := if ufn Z (zVi B s (i + 1)) < ub Z then min (uF Z) (8 * zps B s (i + 1) + 3) else uF Z) (i := i + 2) (P := zps B s) (V := zVi B s) hn16 (by omega) (fun q z => by have := (hA.1.1.1 q (by omega)).1; omega) hp c
  have hF1 : uFk (if ufn Z (zVi B s (i + 1)) < ub Z then min (uF Z) (8 * zps B s (i + 1) + 3) else uF Z) := by
    split
    · exact uFk_min hFk (hp _) (by decide) (by decide)
    · exact hFk
  generalize hF1e : (if ufn Z (zVi B s (i + 1)) < ub Z then min (uF Z) (8 * zps B s (i + 1) + 3) else uF Z) = F1 at hI hF1
  have hfin : usb B s n Z i = ((ub Z + 1, uup (un Z) (ub Z) (zVi B s (i + 1)), (ubs n (zps B s) (zVi B s) (ub Z) (uo Z, ul Z, F1) (i + 2) (zeb B s i - (i + 2))).1, (ubs n (zps B s) (zVi B s) (ub Z) (uo Z, ul Z, F1) (i + 2) (zeb B s i - (i + 2))).2.1), Z.2.1, Z.2.2.1, (ubs n (zps B s) (zVi B s) (ub Z) (uo Z, ul Z, F1) (i + 2) (zeb B s i - (i + 2))).2.2) := by
    rw [← hF1e]
    rfl
  rw [hfin] at hk
  clear hfin
  obtain ⟨N, hN⟩ : ∃ N, zeb B s i = i + 2 + N := ⟨zeb B s i - (i + 2), by omega⟩
  rw [hN] at g2 g3 g4 g5 g6 hk
  rw [show i + 2 + N - (i + 2) = N by omega] at hk
  apply r_Model_tellBox hO
  unfold B_Model_tellBox
  have f67 := zMF (k := 67) hS rfl; have f37 := zMF (k := 37) hS rfl; have a280 := zMA (a := 280) (ty := .int) (n := 2001) hS rfl; have f68 := zMF (k := 68) hS rfl; have f69 := zMF (k := 69) hS rfl; have a300 := zMA (a := 300) (ty := .long) (n := 110) hS rfl; have f65 := zMF (k := 65) hS rfl; have a299 := zMA (a := 299) (ty := .long) (n := 2001) hS rfl; have f70 := zMF (k := 70) hS rfl; have a301 := zMA (a := 301) (ty := .int) (n := 110) hS rfl; have f36 := zMF (k := 36) hS rfl; have a279 := zMA (a := 279) (ty := .int) (n := 2001) hS rfl; have f39 := zMF (k := 39) hS rfl; have a282 := zMA (a := 282) (ty := .int) (n := 2001) hS rfl; have f71 := zMF (k := 71) hS rfl; have a302 := zMA (a := 302) (ty := .int) (n := 16) hS rfl; have f72 := zMF (k := 72) hS rfl; have a303 := zMA (a := 303) (ty := .int) (n := 16) hS rfl; have zo := zMO hS
  refine i_Seq ?_
  refine i_Seq ?_
  refine w_cut (zR.mon' O) (fun ρ M1 => ρ = [250] ∧ (∀ b j, ¬ (b = 250 ∧ (j = 40 ∨ j = 66)) → M1 b j = M b j) ∧ rZf M1 F1) ?_ ?_
  · ((with_reducible refine i_If (i_cZ_ge (i_Call (i_as1 (i_A0 (i_as1 (i_Add (i_F (i_A0 ?_))))))))); (with_reducible refine i_fld (by assumption) ?_); (with_reducible refine i_I (i_as0 ?_)); (with_reducible refine i_recv0 (by assumption) ?_); (rw [hh]); rw [zx_inc (by omega)]; simp only [w_set0, w_set1, w_setn0, w_setn1])
    refine m_textBox hO hS hZ.1 (by omega) (by omega) v1 ⟨_, rfl, ?_⟩
    by_cases hd : ufn Z (zVi B s (i + 1)) < ub Z
    · rw [show uXI (ufn Z (zVi B s (i + 1))) (ub Z) = ((ufn Z (zVi B s (i + 1)) : Nat) : Int) from if_pos hd]
      rw [if_pos hd] at hF1e
      (simp only [w_set0, w_set1, w_setn0, w_setn1]; (with_reducible refine i_t (by omega) ?_); (with_reducible refine i_sCall (i_as1 (i_A0 (i_as1 (i_I (i_as1 (i_IA (i_FR (i_A0 ?_))))))))); (with_reducible refine i_fldR (by assumption) ?_); (with_reducible refine i_Add (i_F (i_A0 ?_))); (with_reducible refine i_fld (by assumption) ?_); (with_reducible refine i_I ?_); (rw [hh]); rw [zx_inc (by omega)]; (with_reducible refine i_in (by assumption) (by omega) (by omega) ?_); (with_reducible refine i_as0 ?_); (with_reducible refine i_recv0 (by assumption) ?_); (rw [p1]); simp only [w_set0, w_set1, w_setn0, w_setn1])
      refine m_tells hO hS (f := 3) rfl hZ.2.2.2.2 hFk (by decide) (by decide) (hp _) (fun M1 f1 z1 => ⟨rfl, ?_⟩)
      rw [hF1e] at z1
      exact ⟨by trivial, f1, z1⟩
    · rw [show uXI (ufn Z (zVi B s (i + 1))) (ub Z) = -1 from if_neg hd]
      rw [if_neg hd] at hF1e
      (simp only [w_set0, w_set1, w_setn0, w_setn1]; (with_reducible refine i_f (by omega) ?_))
      exact ⟨by trivial, fun _ _ _ => by trivial, by rw [← hF1e]; exact hZ.2.2.2.2⟩
  rintro ρ M1 ⟨rfl, f1, z1⟩
  have b1 : M1 250 ((68 : Nat) : Int) = ((ub Z : Nat) : Int) := by rw [f1 _ _ (by omega)]; exact hZ.1.1
  have hh1 : M1 250 ((67 : Nat) : Int) = ((i : Nat) : Int) := by rw [f1 _ _ (by omega)]; exact hh
  have v11 : M1 ((299 : Nat) : Int) ((i + 1 : Nat) : Int) = ((zVi B s (i + 1) : Nat) : Int) := by rw [f1 _ _ (by omega)]; exact v1
  have hs0 : zSz (uo Z) 16 (ub Z) = 0 := zcnt_z fun q _ => decide_eq_false (fun z => by have := (hA.1.1.1 q (by omega)).1; omega)
  ((with_reducible refine i_Seq (i_Set (i_F (i_A0 ?_)))); (with_reducible refine i_fld (by assumption) ?_); (with_reducible refine i_Seq (i_sLA (i_FR ?_))); (rw [b1]); simp only [w_set0, w_set1, w_setn0, w_setn1]; (with_reducible refine i_A0 ?_); (with_reducible refine i_fldR (by assumption) ?_); (with_reducible refine i_L1 (i_LA (i_FR (i_A0 ?_)))); (with_reducible refine i_fldR (by assumption) ?_); (with_reducible refine i_Add (i_F (i_A0 ?_))); (with_reducible refine i_fld (by assumption) ?_); (with_reducible refine i_I ?_); (rw [hh1]); rw [zx_inc (by omega)]; (with_reducible refine i_in (by assumption) (by omega) (by omega) ?_); (with_reducible refine i_in (by assumption) (by omega) (by omega) ?_); (with_reducible refine i_Seq (i_sIA (i_FR (i_A0 ?_)))); (with_reducible refine i_fldR (by assumption) ?_); (with_reducible refine i_L1 (i_I ?_)); (with_reducible refine i_in (by assumption) (by omega) (by omega) ?_); (with_reducible refine i_Seq (i_FO (i_A0 ?_))); (with_reducible refine i_fld (by assumption) ?_); (with_reducible refine i_I ?_); (with_reducible refine i_fld (by assumption) ?_); (with_reducible refine i_Seq ?_); rw [zg_n _ _ _ (by omega)]; rw [zg_n _ _ _ (by omega)]; (rw [hh1]); (rw [v11]); rw [zx_addc (by omega)])
  refine w_WhileN N (fun c ρ M' => (∃ l, ρ = 250 :: ((ub Z : Nat) : Int) :: l) ∧ rBJ Z (zVi B s (i + 1)) M M' (i + 2 + c) (ubs n (zps B s) (zVi B s) (ub Z) (uo Z, ul Z, F1) (i + 2) c)) ⟨⟨_, rfl⟩, ?_, ?_, fun b hb => ?_, fun p hp2 => ?_, ?_⟩ ?_ ?_
  · intro b j q
    rw [zg_o _ _ (by omega), zg_o _ _ (by omega), zg_o _ _ (by omega)]
    exact f1 b j (by omega)
  · exact zg_s _ _ _ _ _
  · show _ = _ ∧ _ = ((zSz (uo Z) 16 b : Nat) : Int)
    by_cases e : b = ub Z
    · subst e
      rw [uup_s, hs0]
      exact ⟨by rw [zg_n _ _ _ (by omega), zg_n _ _ _ (by omega)]; exact zg_s _ _ _ _ _, by rw [zg_n _ _ _ (by omega)]; exact zg_s _ _ _ _ _⟩
    · obtain ⟨y1, y2⟩ := hZ.1.2 b (by omega)
      rw [uup_n _ _ e]
      exact ⟨by rw [zg_o _ _ (by omega), zg_o _ _ (by omega), zg_o _ _ (by omega), f1 _ _ (by omega)]; exact y1, by rw [zg_o _ _ (by omega), zg_o _ _ (by omega), zg_o _ _ (by omega), f1 _ _ (by omega)]; exact y2⟩
  · obtain ⟨y1, y2⟩ := hZ.2.1 p hp2
    exact ⟨by rw [zg_o _ _ (by omega), zg_o _ _ (by omega), zg_o _ _ (by omega), f1 _ _ (by omega)]; exact y1, by rw [zg_o _ _ (by omega), zg_o _ _ (by omega), zg_o _ _ (by omega), f1 _ _ (by omega)]; exact y2⟩
  · exact z1.to (fun b j q => by rw [zg_o _ _ (by omega), zg_o _ _ (by omega), zg_o _ _ (by omega)])
  · rintro c ρ M2 X hc ⟨⟨l, rfl⟩, f2, h2, n2, o2, z2⟩ hX
    have hIc := hI c
    have hX2 : ∀ (l : zLoc) (M' : zMem) (r' : (Nat → Nat) × (Nat → Nat) × Nat), ubq n (zps B s) (zVi B s) (ub Z) (ubs n (zps B s) (zVi B s) (ub Z) (uo Z, ul Z, F1) (i + 2) c) (i + 2 + c) = r' → rBJ Z (zVi B s (i + 1)) M M' (i + 2 + c + 1) r' → X (250 :: ((ub Z : Nat) : Int) :: l) M' := fun l M' r' e a => by
      subst e
      exact hX _ _ ⟨⟨l, rfl⟩, a⟩
    clear hX hI hk
    generalize ubs n (zps B s) (zVi B s) (ub Z) (uo Z, ul Z, F1) (i + 2) c = r at hIc n2 o2 z2 hX2
    obtain ⟨-, -, -, -, -, -, hFr, -⟩ := hIc
    have hFr2 := hFr hF1
    have kj := hR.tk (show i + 2 + c < zhh B s by omega)
    have kk := g4 (i + 2 + c) (by omega) (by omega)
    have t1 : M2 ((279 : Nat) : Int) ((i + 2 + c : Nat) : Int) = 1 := by
      rw [f2 _ _ (by omega), kj.1, kk]
      rfl
    have t2 : M2 ((282 : Nat) : Int) ((i + 2 + c : Nat) : Int) = ((zVi B s (i + 2 + c) : Nat) : Int) := by rw [f2 _ _ (by omega)]; exact kj.2.2.2.1 kk
    have t3 : M2 ((280 : Nat) : Int) ((i + 2 + c : Nat) : Int) = ((zps B s (i + 2 + c) : Nat) : Int) := by rw [f2 _ _ (by omega)]; exact kj.2.1
    have nn2 : M2 250 ((1 : Nat) : Int) = ((n : Nat) : Int) := by rw [f2 _ _ (by omega)]; exact hn
    unfold ubq at hX2
    generalize zVi B s (i + 2 + c) = v at t2 hX2
    have hpj := hp (i + 2 + c)
    generalize zps B s (i + 2 + c) = pj at t3 hX2 hpj
    by_cases e1 : n ≤ v
    · rw [if_pos e1] at hX2
      ((with_reducible refine i_turn (i_cI_eq (i_IA (i_FR (i_A0 ?_))))); (with_reducible refine i_fldR (by assumption) ?_); (with_reducible refine i_F (i_A0 ?_)); (with_reducible refine i_fld (by assumption) ?_); (with_reducible refine i_in (by assumption) (by omega) (by omega) ?_); (with_reducible refine i_I ?_); (rw [h2]); (rw [t1]); simp only [w_set0, w_set1, w_setn0, w_setn1]; (with_reducible refine i_t trivial ?_); (with_reducible refine i_Blk (i_Seq (i_Set (i_IA (i_FR (i_A0 ?_)))))); (with_reducible refine i_fldR (by assumption) ?_); (with_reducible refine i_F (i_A0 ?_)); (with_reducible refine i_fld (by assumption) ?_); (with_reducible refine i_in (by assumption) (by omega) (by omega) ?_); (with_reducible refine i_Seq (i_If (i_cZ_ne (i_Call (i_as1 ?_))))); (rw [h2]); (rw [t2]); simp only [w_set0, w_set1, w_setn0, w_setn1]; (with_reducible refine i_A0 (i_as1 (i_F (i_A0 ?_)))); (with_reducible refine i_fld (by assumption) ?_); (with_reducible refine i_as0 ?_); (with_reducible refine i_recv0 (by assumption) ?_); (rw [h2]); rw [w_setT])
      refine m_isKnownPost hO hS z2 nn2 hFr2 (by omega) t2 t3 hpj (fun M3 f3 z3 => ⟨_, rfl, ?_⟩)
      rw [if_neg (by omega)] at z3
      rw [decide_eq_false (by omega)]
      have h3 : M3 250 ((67 : Nat) : Int) = ((i + 2 + c : Nat) : Int) := by rw [f3 _ _ (by omega)]; exact h2
      (rw [zbI_f]; (with_reducible refine i_f (by omega) ?_); (with_reducible refine i_FO (i_A0 ?_)); (with_reducible refine i_fld (by assumption) ?_); (with_reducible refine i_I ?_); (with_reducible refine i_fld (by assumption) ?_); (rw [h3]); rw [zx_inc (by omega)])
      refine hX2 _ _ _ rfl ⟨fun b j q => by rw [zg_o _ _ (by omega), f3 b j (by omega)]; exact f2 b j q, zg_s _ _ _ _ _, fun b hb => by rw [zg_o _ _ (by omega), zg_o _ _ (by omega), f3 _ _ (by omega), f3 _ _ (by omega)]; exact n2 b hb, fun p hp2 => by rw [zg_o _ _ (by omega), zg_o _ _ (by omega), f3 _ _ (by omega), f3 _ _ (by omega)]; exact o2 p hp2, z3.to (fun b j q => zg_o _ _ (by omega))⟩
    rw [if_neg e1] at hX2
    obtain ⟨ov, lv⟩ := o2 v (by omega)
    by_cases e2 : r.1 v = 999
    · rw [if_neg (fun z => z e2)] at hX2
      have ov' : M2 ((302 : Nat) : Int) ((v : Nat) : Int) = -1 := by rw [ov, e2]; rfl
      have sb := (n2 (ub Z) (Nat.le_refl _)).2
      have hsz := zSz_le r.1 16 (ub Z)
      have hup : zSz (uup r.1 v (ub Z)) 16 (ub Z) = zSz r.1 16 (ub Z) + 1 := by rw [zSz_uup (by omega) (by omega), if_pos rfl]
      have hun : ∀ b, b < ub Z → zSz (uup r.1 v (ub Z)) 16 b = zSz r.1 16 b := fun b hb => by rw [zSz_uup (by omega) (by omega), if_neg (by omega), Nat.add_zero]
      ((with_reducible refine i_turn (i_cI_eq (i_IA (i_FR (i_A0 ?_))))); (with_reducible refine i_fldR (by assumption) ?_); (with_reducible refine i_F (i_A0 ?_)); (with_reducible refine i_fld (by assumption) ?_); (with_reducible refine i_in (by assumption) (by omega) (by omega) ?_); (with_reducible refine i_I ?_); (rw [h2]); (rw [t1]); simp only [w_set0, w_set1, w_setn0, w_setn1]; (with_reducible refine i_t trivial ?_); (with_reducible refine i_Blk (i_Seq (i_Set (i_IA (i_FR (i_A0 ?_)))))); (with_reducible refine i_fldR (by assumption) ?_); (with_reducible refine i_F (i_A0 ?_)); (with_reducible refine i_fld (by assumption) ?_); (with_reducible refine i_in (by assumption) (by omega) (by omega) ?_); (with_reducible refine i_Seq (i_If (i_cZ_ne (i_Call (i_as1 ?_))))); (rw [h2]); (rw [t2]); simp only [w_set0, w_set1, w_setn0, w_setn1]; (with_reducible refine i_A0 (i_as1 (i_F (i_A0 ?_)))); (with_reducible refine i_fld (by assumption) ?_); (with_reducible refine i_as0 ?_); (with_reducible refine i_recv0 (by assumption) ?_); (rw [h2]); rw [w_setT])
      refine m_isKnownPost hO hS z2 nn2 hFr2 (by omega) t2 t3 hpj (fun M3 f3 z3 => ⟨_, rfl, ?_⟩)
      rw [if_pos (by omega)] at z3
      rw [decide_eq_true (by omega)]
      have h3 : M3 250 ((67 : Nat) : Int) = ((i + 2 + c : Nat) : Int) := by rw [f3 _ _ (by omega)]; exact h2
      have o3 : M3 ((302 : Nat) : Int) ((v : Nat) : Int) = -1 := by rw [f3 _ _ (by omega)]; exact ov'
      have sb3 : M3 ((301 : Nat) : Int) ((ub Z : Nat) : Int) = ((zSz r.1 16 (ub Z) : Nat) : Int) := by rw [f3 _ _ (by omega)]; exact sb
      generalize hsg : zSz r.1 16 (ub Z) = z at sb3 hsz hup hX2
      (rw [zbI_t]; (with_reducible refine i_t (by omega) ?_); (with_reducible refine i_Ite (i_cZ_ge (i_IA (i_FR (i_A0 ?_))))); (with_reducible refine i_fldR (by assumption) ?_); (with_reducible refine i_L2 ?_); (with_reducible refine i_in (by assumption) (by omega) (by omega) ?_); (rw [o3]); (with_reducible refine i_f (by omega) ?_); (with_reducible refine i_Seq (i_sIA (i_FR (i_A0 ?_)))); (with_reducible refine i_fldR (by assumption) ?_); (with_reducible refine i_L2 (i_L1 ?_)); (with_reducible refine i_in (by assumption) (by omega) (by omega) ?_); (with_reducible refine i_Seq (i_sIA (i_FR (i_A0 ?_)))); (with_reducible refine i_fldR (by assumption) ?_); (with_reducible refine i_L2 (i_IA (i_FR (i_A0 ?_)))); (with_reducible refine i_fldR (by assumption) ?_); (with_reducible refine i_L1 ?_); (with_reducible refine i_in (by assumption) (by omega) (by omega) ?_); (with_reducible refine i_in (by assumption) (by omega) (by omega) ?_); (with_reducible refine i_IO (i_FR (i_A0 ?_))); (with_reducible refine i_fldR (by assumption) ?_); (with_reducible refine i_L1 ?_); (with_reducible refine i_in (by assumption) (by omega) (by omega) ?_); (with_reducible refine i_I (i_FO (i_A0 ?_))); (with_reducible refine i_fld (by assumption) ?_); (with_reducible refine i_I ?_); (with_reducible refine i_fld (by assumption) ?_); rw [zg_n _ _ _ (by omega)]; rw [zg_n _ _ _ (by omega)]; rw [zg_n _ _ _ (by omega)]; rw [zg_n _ _ _ (by omega)]; rw [zg_n _ _ _ (by omega)]; rw [zg_n _ _ _ (by omega)]; (rw [sb3]); (rw [h3]); rw [zx_inc (by omega)]; rw [zx_inc (by omega)])
      refine hX2 _ _ _ rfl ⟨fun b j q => by rw [zg_o _ _ (by omega), zg_o _ _ (by omega), zg_o _ _ (by omega), zg_o _ _ (by omega), f3 b j (by omega)]; exact f2 b j q, zg_s _ _ _ _ _, fun b hb => ?_, fun p hp2 => ?_, z3.to (fun b j q => by rw [zg_o _ _ (by omega), zg_o _ _ (by omega), zg_o _ _ (by omega), zg_o _ _ (by omega)])⟩
      · obtain ⟨y1, y2⟩ := n2 b hb
        refine ⟨by rw [zg_o _ _ (by omega), zg_o _ _ (by omega), zg_o _ _ (by omega), zg_o _ _ (by omega), f3 _ _ (by omega)]; exact y1, ?_⟩
        (try dsimp only)
        by_cases e : b = ub Z
        · subst e
          rw [hup, zg_o _ _ (by omega)]
          exact zg_s _ _ _ _ _
        · rw [hun b (by omega), zg_o _ _ (by omega), zg_o _ _ (by omega), zg_o _ _ (by omega), zg_o _ _ (by omega), f3 _ _ (by omega)]
          exact y2
      · obtain ⟨y1, y2⟩ := o2 p hp2
        (try dsimp only)
        by_cases e : p = v
        · subst e
          rw [uup_s, uup_s]
          refine ⟨?_, ?_⟩
          · rw [zg_o _ _ (by omega), zg_o _ _ (by omega), zg_o _ _ (by omega), zg_s]
            unfold uoI
            rw [if_neg (by omega)]
          · rw [zg_o _ _ (by omega), zg_o _ _ (by omega), zg_s]
        · rw [uup_n _ _ e, uup_n _ _ e]
          exact ⟨by rw [zg_o _ _ (by omega), zg_o _ _ (by omega), zg_o _ _ (by omega), zg_o _ _ (by omega), f3 _ _ (by omega)]; exact y1, by rw [zg_o _ _ (by omega), zg_o _ _ (by omega), zg_o _ _ (by omega), zg_o _ _ (by omega), f3 _ _ (by omega)]; exact y2⟩
    · rw [if_pos e2] at hX2
      have ov' : M2 ((302 : Nat) : Int) ((v : Nat) : Int) = ((r.1 v : Nat) : Int) := by rw [ov]; unfold uoI; rw [if_neg e2]
      ((with_reducible refine i_turn (i_cI_eq (i_IA (i_FR (i_A0 ?_))))); (with_reducible refine i_fldR (by assumption) ?_); (with_reducible refine i_F (i_A0 ?_)); (with_reducible refine i_fld (by assumption) ?_); (with_reducible refine i_in (by assumption) (by omega) (by omega) ?_); (with_reducible refine i_I ?_); (rw [h2]); (rw [t1]); simp only [w_set0, w_set1, w_setn0, w_setn1]; (with_reducible refine i_t trivial ?_); (with_reducible refine i_Blk (i_Seq (i_Set (i_IA (i_FR (i_A0 ?_)))))); (with_reducible refine i_fldR (by assumption) ?_); (with_reducible refine i_F (i_A0 ?_)); (with_reducible refine i_fld (by assumption) ?_); (with_reducible refine i_in (by assumption) (by omega) (by omega) ?_); (with_reducible refine i_Seq (i_If (i_cZ_ne (i_Call (i_as1 ?_))))); (rw [h2]); (rw [t2]); simp only [w_set0, w_set1, w_setn0, w_setn1]; (with_reducible refine i_A0 (i_as1 (i_F (i_A0 ?_)))); (with_reducible refine i_fld (by assumption) ?_); (with_reducible refine i_as0 ?_); (with_reducible refine i_recv0 (by assumption) ?_); (rw [h2]); rw [w_setT])
      refine m_isKnownPost hO hS z2 nn2 hFr2 (by omega) t2 t3 hpj (fun M3 f3 z3 => ⟨_, rfl, ?_⟩)
      rw [if_pos (by omega)] at z3
      rw [decide_eq_true (by omega)]
      have h3 : M3 250 ((67 : Nat) : Int) = ((i + 2 + c : Nat) : Int) := by rw [f3 _ _ (by omega)]; exact h2
      have o3 : M3 ((302 : Nat) : Int) ((v : Nat) : Int) = ((r.1 v : Nat) : Int) := by rw [f3 _ _ (by omega)]; exact ov'
      have t33 : M3 ((280 : Nat) : Int) ((i + 2 + c : Nat) : Int) = ((pj : Nat) : Int) := by rw [f3 _ _ (by omega)]; exact t3
      (rw [zbI_t]; (with_reducible refine i_t (by omega) ?_); (with_reducible refine i_Ite (i_cZ_ge (i_IA (i_FR (i_A0 ?_))))); (with_reducible refine i_fldR (by assumption) ?_); (with_reducible refine i_L2 ?_); (with_reducible refine i_in (by assumption) (by omega) (by omega) ?_); (rw [o3]); (with_reducible refine i_t (by omega) ?_); (with_reducible refine i_sCall (i_as1 (i_A0 (i_as1 (i_I (i_as1 (i_IA (i_FR (i_A0 ?_))))))))); (with_reducible refine i_fldR (by assumption) ?_); (with_reducible refine i_F (i_A0 ?_)); (with_reducible refine i_fld (by assumption) ?_); (with_reducible refine i_in (by assumption) (by omega) (by omega) ?_); (with_reducible refine i_as0 ?_); (with_reducible refine i_recv0 (by assumption) ?_); (rw [h3]); (rw [t33]))
      refine m_tells hO hS (f := 3) rfl z3 hFr2 (by decide) (by decide) hpj (fun M4 f4 z4 => ⟨rfl, ?_⟩)
      have h4 : M4 250 ((67 : Nat) : Int) = ((i + 2 + c : Nat) : Int) := by rw [f4 _ _ (by omega)]; exact h3
      ((with_reducible refine i_FO (i_A0 ?_)); (with_reducible refine i_fld (by assumption) ?_); (with_reducible refine i_I ?_); (with_reducible refine i_fld (by assumption) ?_); (rw [h4]); rw [zx_inc (by omega)])
      refine hX2 _ _ _ rfl ⟨fun b j q => by rw [zg_o _ _ (by omega), f4 b j (by omega), f3 b j (by omega)]; exact f2 b j q, zg_s _ _ _ _ _, fun b hb => by rw [zg_o _ _ (by omega), zg_o _ _ (by omega), f4 _ _ (by omega), f4 _ _ (by omega), f3 _ _ (by omega), f3 _ _ (by omega)]; exact n2 b hb, fun p hp2 => by rw [zg_o _ _ (by omega), zg_o _ _ (by omega), f4 _ _ (by omega), f4 _ _ (by omega), f3 _ _ (by omega), f3 _ _ (by omega)]; exact o2 p hp2, z4.to (fun b j q => zg_o _ _ (by omega))⟩
  · rintro ρ M2 X ⟨⟨l, rfl⟩, f2, h2, n2, o2, z2⟩
    have kj := hR.tk (show i + 2 + N < zhh B s by omega)
    have t1 : M2 ((279 : Nat) : Int) ((i + 2 + N : Nat) : Int) = 2 := by
      rw [f2 _ _ (by omega), kj.1, g5]
      rfl
    have b2 : M2 250 ((68 : Nat) : Int) = ((ub Z : Nat) : Int) := by rw [f2 _ _ (by omega)]; exact hZ.1.1
    ((with_reducible refine i_turn (i_cI_eq (i_IA (i_FR (i_A0 ?_))))); (with_reducible refine i_fldR (by assumption) ?_); (with_reducible refine i_F (i_A0 ?_)); (with_reducible refine i_fld (by assumption) ?_); (with_reducible refine i_in (by assumption) (by omega) (by omega) ?_); (with_reducible refine i_I ?_); (rw [h2]); (rw [t1]); (with_reducible refine i_f (by omega) ?_); (with_reducible refine i_Seq (i_FO (i_A0 ?_))); (with_reducible refine i_fld (by assumption) ?_); (with_reducible refine i_I ?_); (with_reducible refine i_fld (by assumption) ?_); (with_reducible refine i_FO (i_A0 ?_)); (with_reducible refine i_fld (by assumption) ?_); (with_reducible refine i_I ?_); (with_reducible refine i_fld (by assumption) ?_); (with_reducible refine i_RetV ?_); rw [zg_m _ _ _ _ _ (by omega)]; (rw [h2]); (rw [b2]); rw [zx_inc (by omega)]; rw [zx_inc (by omega)])
    refine hk _ (fun b j q => by rw [zg_o _ _ (by omega), zg_o _ _ (by omega), f2 b j (by omega)]) (zg_s _ _ _ _ _) ⟨⟨?_, fun b hb => ?_⟩, fun p hp2 => ?_, ?_, ?_, ?_⟩
    · rw [zg_o _ _ (by omega)]; exact zg_s _ _ _ _ _
    · rw [zg_o _ _ (by omega), zg_o _ _ (by omega), zg_o _ _ (by omega), zg_o _ _ (by omega)]
      exact n2 b (Nat.le_of_lt_succ hb)
    · rw [zg_o _ _ (by omega), zg_o _ _ (by omega), zg_o _ _ (by omega), zg_o _ _ (by omega)]
      exact o2 p hp2
    · exact hZ.2.2.1.to (fun b j q => by rw [zg_o _ _ (by omega), zg_o _ _ (by omega)]; exact f2 b j (by omega)) rfl
    · exact hZ.2.2.2.1.to (fun b j q => by rw [zg_o _ _ (by omega), zg_o _ _ (by omega)]; exact f2 b j (by omega)) rfl
    · exact z2.to (fun b j q => by rw [zg_o _ _ (by omega), zg_o _ _ (by omega)])
/-! ===== words ===== -/
theorem uw_eq {n : Nat} {Z : zZt} {w v : Nat × Nat × Nat} (hw : uWk n Z w) (hv : uWk n Z v) : w = v ↔ w.1 = v.1 ∧ w.2.1 = v.2.1 ∧ uwI w = uwI v := by
  refine ⟨fun h => by rw [h]; exact ⟨rfl, rfl, rfl⟩, fun ⟨h1, h2, h3⟩ => ?_⟩
  have h4 : w.2.2 = v.2.2 := by
    unfold uWk at hw hv
    unfold uwI at h3
    split at h3
    · split at h3 <;> omega
    · split at h3 <;> omega
  exact Prod.ext h1 (Prod.ext h2 h4)
theorem m_tellWord {O : zOm} (hO : zWld O) (hS : zS O = zmS zC0) {n p k : Nat} {w : Nat × Nat × Nat} {si bi : Int} {Z : zZt} {M : zMem} {K : Option zV → zMem → Prop} (hsi : si = ((w.1 : Nat) : Int)) (hbi : bi = uwI w) (hZ : rZt M Z) (hF : uFk (uF Z)) (hk40 : uk Z ≤ 40) (h4 : uO4 n Z) (hw : uWk n Z w) (hk1 : k ≤ 2000) (hp : M ((280 : Nat) : Int) ((k : Nat) : Int) = ((p : Nat) : Int)) (hp2 : p ≤ 2000)
    (hk : ∀ M', (∀ b j, ¬ (b = 250 ∧ (j = 40 ∨ j = 66 ∨ j = 73) ∨ ((304 : Nat) : Int) ≤ b ∧ b ≤ ((306 : Nat) : Int)) → M' b j = M b j) → rZt M' (uaw Z w p) → K none M') : zR O F_Model_tellWord [(2, 250), (0, si), (0, ((w.2.1 : Nat) : Int)), (0, bi), (0, ((k : Nat) : Int))] M K := by
  subst hsi hbi
  obtain ⟨w1, w2⟩ := hZ.2.2.1
  have hFs : ∀ c, uFk (if zex (fun k => decide (uw Z k = w)) c = true then min (uF Z) (8 * p + 3) else uF Z) := fun c => by
    split
    · exact uFk_min hF hp2 (by decide) (by decide)
    · exact hF
  apply r_Model_tellWord hO
  unfold B_Model_tellWord
  have f73 := zMF (k := 73) hS rfl; have f74 := zMF (k := 74) hS rfl; have a304 := zMA (a := 304) (ty := .int) (n := 41) hS rfl; have f75 := zMF (k := 75) hS rfl; have a305 := zMA (a := 305) (ty := .int) (n := 41) hS rfl; have f76 := zMF (k := 76) hS rfl; have a306 := zMA (a := 306) (ty := .int) (n := 41) hS rfl; have f37 := zMF (k := 37) hS rfl; have a280 := zMA (a := 280) (ty := .int) (n := 2001) hS rfl; have zo := zMO hS
  ((with_reducible refine i_Seq (i_Seq (i_Blk (i_Seq (i_Set (i_I ?_)))))); simp only [w_set0, w_set1, w_setn0, w_setn1])
  refine w_ForN (uk Z) (fun c ρ M' => (∃ l, ρ = 250 :: ((w.1 : Nat) : Int) :: ((w.2.1 : Nat) : Int) :: uwI w :: ((k : Nat) : Int) :: ((c : Nat) : Int) :: l) ∧ (∀ b j, ¬ (b = 250 ∧ (j = 40 ∨ j = 66)) → M' b j = M b j) ∧ rZf M' (if zex (fun k => decide (uw Z k = w)) c = true then min (uF Z) (8 * p + 3) else uF Z)) ⟨⟨_, rfl⟩, fun _ _ _ => rfl, hZ.2.2.2.2⟩ ?_ ?_
  · rintro c ρ M1 X hc ⟨⟨l, rfl⟩, f1, z1⟩ hX
    obtain ⟨y1, y2, y3⟩ := w2 c hc
    rw [← f1 _ _ (by omega)] at y1 y2 y3
    have k1 : M1 250 ((73 : Nat) : Int) = ((uk Z : Nat) : Int) := by rw [f1 _ _ (by omega)]; exact w1
    have p1 : M1 ((280 : Nat) : Int) ((k : Nat) : Int) = ((p : Nat) : Int) := by rw [f1 _ _ (by omega)]; exact hp
    have he := uw_eq (h4 c hc) hw
    have hFc := hFs c
    have hX2 : ∀ (l : zLoc) (M' : zMem), (∀ b j, ¬ (b = 250 ∧ (j = 40 ∨ j = 66)) → M' b j = M b j) → rZf M' (if (zex (fun k => decide (uw Z k = w)) c || decide (uw Z c = w)) = true then min (uF Z) (8 * p + 3) else uF Z) → X (250 :: ((w.1 : Nat) : Int) :: ((w.2.1 : Nat) : Int) :: uwI w :: ((k : Nat) : Int) :: ((c + 1 : Nat) : Int) :: l) M' := fun l M' a b => hX _ _ ⟨⟨l, rfl⟩, a, by rw [zex_su]; exact b⟩
    clear hX hk
    generalize zex (fun k => decide (uw Z k = w)) c = ex at z1 hFc hX2
    by_cases e : uw Z c = w
    · obtain ⟨e1, e2, e3⟩ := he.mp e
      have e1' : M1 ((304 : Nat) : Int) ((c : Nat) : Int) = ((w.1 : Nat) : Int) := by rw [y1, e1]
      have e2' : M1 ((305 : Nat) : Int) ((c : Nat) : Int) = ((w.2.1 : Nat) : Int) := by rw [y2, e2]
      have e3' : M1 ((306 : Nat) : Int) ((c : Nat) : Int) = uwI w := by rw [y3, e3]
      rw [decide_eq_true e, Bool.or_true, if_pos rfl] at hX2
      ((with_reducible refine i_turn (i_cI_lt (i_L5 (i_F (i_A0 ?_))))); (with_reducible refine i_fld (by assumption) ?_); (rw [k1]); (with_reducible refine i_t (by omega) ?_); (with_reducible refine i_If (i_cAnd (i_cAnd (i_cI_eq (i_IA (i_FR (i_A0 ?_))))))); (with_reducible refine i_fldR (by assumption) ?_); (with_reducible refine i_L5 ?_); (with_reducible refine i_in (by assumption) (by omega) (by omega) ?_); (with_reducible refine i_L1 ?_); (rw [e1']); simp only [w_set0, w_set1, w_setn0, w_setn1]; (with_reducible refine i_t trivial ?_); (with_reducible refine i_cI_eq (i_IA (i_FR (i_A0 ?_)))); (with_reducible refine i_fldR (by assumption) ?_); (with_reducible refine i_L5 ?_); (with_reducible refine i_in (by assumption) (by omega) (by omega) ?_); (with_reducible refine i_L2 ?_); (rw [e2']); simp only [w_set0, w_set1, w_setn0, w_setn1]; (with_reducible refine i_t trivial ?_); (with_reducible refine i_cI_eq (i_IA (i_FR (i_A0 ?_)))); (with_reducible refine i_fldR (by assumption) ?_); (with_reducible refine i_L5 ?_); (with_reducible refine i_in (by assumption) (by omega) (by omega) ?_); (with_reducible refine i_L3 ?_); (rw [e3']); simp only [w_set0, w_set1, w_setn0, w_setn1]; (with_reducible refine i_t trivial ?_); (with_reducible refine i_sCall (i_as1 (i_A0 (i_as1 (i_I (i_as1 (i_IA (i_FR (i_A0 ?_))))))))); (with_reducible refine i_fldR (by assumption) ?_); (with_reducible refine i_L4 ?_); (with_reducible refine i_in (by assumption) (by omega) (by omega) ?_); (with_reducible refine i_as0 ?_); (with_reducible refine i_recv0 (by assumption) ?_); (rw [p1]))
      refine m_tells hO hS (f := 3) rfl z1 hFc (by decide) (by decide) hp2 (fun M2 f2 z2 => ⟨rfl, ?_⟩)
      ((with_reducible refine i_up (i_Inc5 ?_)); rw [zx_inc (by omega)]; simp only [w_set0, w_set1, w_setn0, w_setn1])
      refine hX2 _ M2 (fun b j q => by rw [f2 b j q, f1 b j q]) ?_
      cases ex
      · exact z2
      · rw [if_pos rfl] at z2
        rw [show min (uF Z) (8 * p + 3) = min (min (uF Z) (8 * p + 3)) (8 * p + 3) by omega]
        exact z2
    · rw [decide_eq_false e, Bool.or_false] at hX2
      by_cases e1 : (uw Z c).1 = w.1
      · by_cases e2 : (uw Z c).2.1 = w.2.1
        · have e3 : ¬ uwI (uw Z c) = uwI w := fun z => e (he.mpr ⟨e1, e2, z⟩)
          ((with_reducible refine i_turn (i_cI_lt (i_L5 (i_F (i_A0 ?_))))); (with_reducible refine i_fld (by assumption) ?_); (rw [k1]); (with_reducible refine i_t (by omega) ?_); (with_reducible refine i_If (i_cAnd (i_cAnd (i_cI_eq (i_IA (i_FR (i_A0 ?_))))))); (with_reducible refine i_fldR (by assumption) ?_); (with_reducible refine i_L5 ?_); (with_reducible refine i_in (by assumption) (by omega) (by omega) ?_); (with_reducible refine i_L1 ?_); (rw [y1]); (with_reducible refine i_t (by omega) ?_); (with_reducible refine i_cI_eq (i_IA (i_FR (i_A0 ?_)))); (with_reducible refine i_fldR (by assumption) ?_); (with_reducible refine i_L5 ?_); (with_reducible refine i_in (by assumption) (by omega) (by omega) ?_); (with_reducible refine i_L2 ?_); (rw [y2]); (with_reducible refine i_t (by omega) ?_); (with_reducible refine i_cI_eq (i_IA (i_FR (i_A0 ?_)))); (with_reducible refine i_fldR (by assumption) ?_); (with_reducible refine i_L5 ?_); (with_reducible refine i_in (by assumption) (by omega) (by omega) ?_); (with_reducible refine i_L3 ?_); (rw [y3]); (with_reducible refine i_f (by omega) ?_); (with_reducible refine i_up (i_Inc5 ?_)); rw [zx_inc (by omega)]; simp only [w_set0, w_set1, w_setn0, w_setn1])
          exact hX2 _ M1 f1 z1
        · ((with_reducible refine i_turn (i_cI_lt (i_L5 (i_F (i_A0 ?_))))); (with_reducible refine i_fld (by assumption) ?_); (rw [k1]); (with_reducible refine i_t (by omega) ?_); (with_reducible refine i_If (i_cAnd (i_cAnd (i_cI_eq (i_IA (i_FR (i_A0 ?_))))))); (with_reducible refine i_fldR (by assumption) ?_); (with_reducible refine i_L5 ?_); (with_reducible refine i_in (by assumption) (by omega) (by omega) ?_); (with_reducible refine i_L1 ?_); (rw [y1]); (with_reducible refine i_t (by omega) ?_); (with_reducible refine i_cI_eq (i_IA (i_FR (i_A0 ?_)))); (with_reducible refine i_fldR (by assumption) ?_); (with_reducible refine i_L5 ?_); (with_reducible refine i_in (by assumption) (by omega) (by omega) ?_); (with_reducible refine i_L2 ?_); (rw [y2]); (with_reducible refine i_f (by omega) ?_); (with_reducible refine i_up (i_Inc5 ?_)); rw [zx_inc (by omega)]; simp only [w_set0, w_set1, w_setn0, w_setn1])
          exact hX2 _ M1 f1 z1
      · ((with_reducible refine i_turn (i_cI_lt (i_L5 (i_F (i_A0 ?_))))); (with_reducible refine i_fld (by assumption) ?_); (rw [k1]); (with_reducible refine i_t (by omega) ?_); (with_reducible refine i_If (i_cAnd (i_cAnd (i_cI_eq (i_IA (i_FR (i_A0 ?_))))))); (with_reducible refine i_fldR (by assumption) ?_); (with_reducible refine i_L5 ?_); (with_reducible refine i_in (by assumption) (by omega) (by omega) ?_); (with_reducible refine i_L1 ?_); (rw [y1]); (with_reducible refine i_f (by omega) ?_); (with_reducible refine i_up (i_Inc5 ?_)); rw [zx_inc (by omega)]; simp only [w_set0, w_set1, w_setn0, w_setn1])
        exact hX2 _ M1 f1 z1
  · rintro ρ M1 X ⟨⟨l, rfl⟩, f1, z1⟩
    have k1 : M1 250 ((73 : Nat) : Int) = ((uk Z : Nat) : Int) := by rw [f1 _ _ (by omega)]; exact w1
    ((with_reducible refine i_turn (i_cI_lt (i_L5 (i_F (i_A0 ?_))))); (with_reducible refine i_fld (by assumption) ?_); (rw [k1]); (with_reducible refine i_f (by omega) ?_); (with_reducible refine i_Seq (i_sIA (i_FR (i_A0 ?_)))); (with_reducible refine i_fldR (by assumption) ?_); (with_reducible refine i_F (i_A0 ?_)); (with_reducible refine i_fld (by assumption) ?_); (with_reducible refine i_L1 ?_); (with_reducible refine i_in (by assumption) (by omega) (by omega) ?_); (with_reducible refine i_Seq (i_sIA (i_FR (i_A0 ?_)))); (with_reducible refine i_fldR (by assumption) ?_); (with_reducible refine i_F (i_A0 ?_)); (with_reducible refine i_fld (by assumption) ?_); (with_reducible refine i_L2 ?_); rw [zg_n _ _ _ (by omega)]; (with_reducible refine i_in (by assumption) (by omega) (by omega) ?_); (with_reducible refine i_Seq (i_sIA (i_FR (i_A0 ?_)))); (with_reducible refine i_fldR (by assumption) ?_); (with_reducible refine i_F (i_A0 ?_)); (with_reducible refine i_fld (by assumption) ?_); (with_reducible refine i_L3 ?_); rw [zg_n _ _ _ (by omega)]; rw [zg_n _ _ _ (by omega)]; (with_reducible refine i_in (by assumption) (by omega) (by omega) ?_); (with_reducible refine i_FO (i_A0 ?_)); (with_reducible refine i_fld (by assumption) ?_); (with_reducible refine i_I ?_); (with_reducible refine i_fld (by assumption) ?_); (with_reducible refine i_RetV ?_); rw [zg_n _ _ _ (by omega)]; rw [zg_n _ _ _ (by omega)]; rw [zg_n _ _ _ (by omega)]; (rw [k1]); rw [zx_inc (by omega)])
    refine hk _ (fun b j q => by rw [zg_o _ _ (by omega), zg_o _ _ (by omega), zg_o _ _ (by omega), zg_o _ _ (by omega)]; exact f1 b j (by omega)) ⟨hZ.1.to (fun b j q => by rw [zg_o _ _ (by omega), zg_o _ _ (by omega), zg_o _ _ (by omega), zg_o _ _ (by omega)]; exact f1 b j (by omega)) rfl, hZ.2.1.to (fun b j q => by rw [zg_o _ _ (by omega), zg_o _ _ (by omega), zg_o _ _ (by omega), zg_o _ _ (by omega)]; exact f1 b j (by omega)) rfl, ⟨zg_s _ _ _ _ _, fun c hc => ?_⟩, hZ.2.2.2.1.to (fun b j q => by rw [zg_o _ _ (by omega), zg_o _ _ (by omega), zg_o _ _ (by omega), zg_o _ _ (by omega)]; exact f1 b j (by omega)) rfl, z1.to (fun b j q => by rw [zg_o _ _ (by omega), zg_o _ _ (by omega), zg_o _ _ (by omega), zg_o _ _ (by omega)])⟩
    have huw : uw (uaw Z w p) = uup (uw Z) (uk Z) w := rfl
    have huk : uk (uaw Z w p) = uk Z + 1 := rfl
    rw [huw]
    rw [huk] at hc
    by_cases e : c = uk Z
    · subst e
      rw [uup_s]
      exact ⟨by rw [zg_n _ _ _ (by omega), zg_n _ _ _ (by omega), zg_n _ _ _ (by omega), zg_s], by rw [zg_n _ _ _ (by omega), zg_n _ _ _ (by omega), zg_s], by rw [zg_n _ _ _ (by omega), zg_s]⟩
    · rw [uup_n _ _ e]
      obtain ⟨y1, y2, y3⟩ := w2 c (by omega)
      exact ⟨by rw [zg_o _ _ (by omega), zg_o _ _ (by omega), zg_o _ _ (by omega), zg_o _ _ (by omega), f1 _ _ (by omega)]; exact y1, by rw [zg_o _ _ (by omega), zg_o _ _ (by omega), zg_o _ _ (by omega), zg_o _ _ (by omega), f1 _ _ (by omega)]; exact y2, by rw [zg_o _ _ (by omega), zg_o _ _ (by omega), zg_o _ _ (by omega), zg_o _ _ (by omega), f1 _ _ (by omega)]; exact y3⟩
/-- what the class of word tells needs of all that is known -/
theorem uAll.w40 {B : Nat → Nat} {s n i : Nat} {Z : zZt} (h : uAll B s n Z i) (hi : i < zhh B s) (hk : 4 ≤ zKi B s i ∧ zKi B s i ≤ 7) : uk Z < 40 ∧ ub Z ≤ 100 := by
  have h1 := zkwc_w (i' := i + 1) hk (by omega)
  have h2 := ((zhh_ok B s).2.1 i hi).2.2.2
  have h3 := h.2.2.2.2.2
  have h4 := h.2.2.2.1
  have h5 := (zhh_ok B s).1
  exact ⟨by omega, by omega⟩
theorem m_tellOne {O : zOm} (hO : zWld O) (hS : zS O = zmS zC0) {i s n k : Nat} {ki : Int} {B : Nat → Nat} {Z : zZt} {M : zMem} {K : Option zV → zMem → Prop} (hki : ki = ((k : Nat) : Int)) (hs : s ≤ 2000) (hq0 : zqs B s (zhh B s) = 0) (hi : i < zhh B s) (hq : zqs B s i = 0) (hK : zKi B s i = 4 ∨ zKi B s i = 5) (hk03 : k = 0 ∨ k = 3) (hA : uAll B s n Z i) (hX : rTx M B s n i Z)
    (hk : ∀ M', rXF M M' → M' 250 ((67 : Nat) : Int) = ((i + 3 : Nat) : Int) → rZt M' (us1 B s k Z i) → K none M') : zR O F_Model_tellOne [(2, 250), (0, ki)] M K := by
  subst hki
  obtain ⟨hR, hn, hh, hZ⟩ := hX
  have h400 := (zhh_ok B s).1
  have hp := fun j => Nat.le_trans (zps_le B s j) hs
  obtain ⟨g1, g2, g3, g4⟩ := zgr_45 hq0 hi hq hK
  obtain ⟨w40, u100⟩ := hA.w40 hi (by omega)
  have hFk : uFk (uF Z) := hA.1.2.2.1
  have k1 := hR.tk (show i + 1 < zhh B s by omega)
  have v1 : M ((299 : Nat) : Int) ((i + 1 : Nat) : Int) = ((zVi B s (i + 1) : Nat) : Int) := k1.2.2.2.2 g1
  have p1 := k1.2.1
  have p0 := (hR.tk hi).2.1
  unfold us1 at hk
  generalize zVi B s (i + 1) = v at hk v1
  apply r_Model_tellOne hO
  unfold B_Model_tellOne
  have f67 := zMF (k := 67) hS rfl; have f70 := zMF (k := 70) hS rfl; have a301 := zMA (a := 301) (ty := .int) (n := 110) hS rfl; have f37 := zMF (k := 37) hS rfl; have a280 := zMA (a := 280) (ty := .int) (n := 2001) hS rfl; have zo := zMO hS
  ((with_reducible refine i_Seq (i_Seq (i_Set (i_Call (i_as1 (i_A0 (i_as1 (i_Add (i_F (i_A0 ?_)))))))))); (with_reducible refine i_fld (by assumption) ?_); (with_reducible refine i_I (i_as0 ?_)); (with_reducible refine i_recv0 (by assumption) ?_); (rw [hh]); rw [zx_inc (by omega)]; simp only [w_set0, w_set1, w_setn0, w_setn1])
  refine m_knownBox hO hS hZ.1 hZ.2.2.2.2 (by omega) hFk (by omega) v1 p1 (hp _) (fun M1 f1 z1 => ⟨_, rfl, ?_⟩)
  have h1 : M1 250 ((67 : Nat) : Int) = ((i : Nat) : Int) := by rw [f1 _ _ (by omega)]; exact hh
  by_cases e : ufn Z v < ub Z
  · rw [if_pos e] at hk z1
    rw [show uXI (ufn Z v) (ub Z) = ((ufn Z v : Nat) : Int) from if_pos e]
    have hZ1 : rZt M1 Z := hZ.bl f1 rfl rfl rfl z1
    have sz := (hZ1.1.2 _ e).2
    have p11 : M1 ((280 : Nat) : Int) ((i + 1 : Nat) : Int) = ((zps B s (i + 1) : Nat) : Int) := by rw [f1 _ _ (by omega)]; exact p1
    have p01 : M1 ((280 : Nat) : Int) ((i : Nat) : Int) = ((zps B s i : Nat) : Int) := by rw [f1 _ _ (by omega)]; exact p0
    have hwk : ∀ Z' : zZt, Z'.1 = Z.1 → uWk n Z' (k, ufn Z v, 0) := fun Z' ez => by
      refine Or.inl ⟨hk03, ?_, ?_, rfl⟩
      · unfold ub; rw [ez]; exact e
      · unfold un; rw [ez]; exact ufn_new e
    have hbI : (-1 : Int) = uwI (k, ufn Z v, 0) := by
      unfold uwI
      rw [if_neg (by (try dsimp only); omega)]
    by_cases e2 : zSz (uo Z) 16 (ufn Z v) < 2
    · rw [if_pos e2] at hk
      generalize zSz (uo Z) 16 (ufn Z v) = z at sz e2
      ((with_reducible refine i_Seq (i_If (i_cZ_ge (i_L2 ?_)))); (with_reducible refine i_t (by omega) ?_); (with_reducible refine i_Seq (i_If (i_cI_lt (i_IA (i_FR (i_A0 ?_)))))); (with_reducible refine i_fldR (by assumption) ?_); (with_reducible refine i_L2 ?_); (with_reducible refine i_in (by assumption) (by omega) (by omega) ?_); (with_reducible refine i_I ?_); (rw [sz]); (with_reducible refine i_t (by omega) ?_); (with_reducible refine i_sCall (i_as1 (i_A0 (i_as1 (i_I (i_as1 (i_IA (i_FR (i_A0 ?_))))))))); (with_reducible refine i_fldR (by assumption) ?_); (with_reducible refine i_Add (i_F (i_A0 ?_))); (with_reducible refine i_fld (by assumption) ?_); (with_reducible refine i_I ?_); (rw [h1]); rw [zx_inc (by omega)]; (with_reducible refine i_in (by assumption) (by omega) (by omega) ?_); (with_reducible refine i_as0 ?_); (with_reducible refine i_recv0 (by assumption) ?_); (rw [p11]))
      refine m_tells hO hS (f := 5) rfl z1 hFk (by decide) (by decide) (hp _) (fun M2 f2 z2 => ⟨rfl, ?_⟩)
      have hZ2 : rZt M2 (ubl Z (8 * zps B s (i + 1) + 5)) := hZ1.bl f2 rfl rfl rfl z2
      have h2 : M2 250 ((67 : Nat) : Int) = ((i : Nat) : Int) := by rw [f2 _ _ (by omega)]; exact h1
      ((with_reducible refine i_sCall (i_as1 (i_A0 (i_as1 (i_L1 (i_as1 (i_L2 (i_as1 (i_I (i_as1 (i_F (i_A0 ?_)))))))))))); (with_reducible refine i_fld (by assumption) ?_); (with_reducible refine i_as0 ?_); (with_reducible refine i_recv0 (by assumption) ?_); (rw [h2]))
      refine m_tellWord hO hS (n := n) (w := (k, ufn Z v, 0)) (p := zps B s i) rfl hbI hZ2 (uFk_min hFk (hp _) (by decide) (by decide)) (by show uk Z ≤ 40; omega) (fun c hc => hA.1.2.1 c hc) (hwk _ rfl) (by omega) (by rw [f2 _ _ (by omega)]; exact p01) (hp _) (fun M3 f3 z3 => ⟨rfl, ?_⟩)
      have h3 : M3 250 ((67 : Nat) : Int) = ((i : Nat) : Int) := by rw [f3 _ _ (by omega)]; exact h2
      ((with_reducible refine i_FO (i_A0 ?_)); (with_reducible refine i_fld (by assumption) ?_); (with_reducible refine i_I ?_); (with_reducible refine i_fld (by assumption) ?_); (with_reducible refine i_RetV ?_); (rw [h3]); rw [zx_addc (by omega)])
      exact hk _ (fun b j q => by rw [zg_o _ _ (by omega), f3 b j (by omega), f2 b j (by omega), f1 b j (by omega)]) (zg_s _ _ _ _ _) (z3.to (fun b j q => zg_o _ _ (by omega)))
    · rw [if_neg e2] at hk
      have hsz := zSz_le (uo Z) 16 (ufn Z v)
      generalize zSz (uo Z) 16 (ufn Z v) = z at sz e2 hsz
      ((with_reducible refine i_Seq (i_If (i_cZ_ge (i_L2 ?_)))); (with_reducible refine i_t (by omega) ?_); (with_reducible refine i_Seq (i_If (i_cI_lt (i_IA (i_FR (i_A0 ?_)))))); (with_reducible refine i_fldR (by assumption) ?_); (with_reducible refine i_L2 ?_); (with_reducible refine i_in (by assumption) (by omega) (by omega) ?_); (with_reducible refine i_I ?_); (rw [sz]); (with_reducible refine i_f (by omega) ?_); (with_reducible refine i_sCall (i_as1 (i_A0 (i_as1 (i_L1 (i_as1 (i_L2 (i_as1 (i_I (i_as1 (i_F (i_A0 ?_)))))))))))); (with_reducible refine i_fld (by assumption) ?_); (with_reducible refine i_as0 ?_); (with_reducible refine i_recv0 (by assumption) ?_); (rw [h1]))
      refine m_tellWord hO hS (n := n) (w := (k, ufn Z v, 0)) (p := zps B s i) rfl hbI hZ1 hFk (by omega) hA.1.2.1 (hwk _ rfl) (by omega) p01 (hp _) (fun M3 f3 z3 => ⟨rfl, ?_⟩)
      have h3 : M3 250 ((67 : Nat) : Int) = ((i : Nat) : Int) := by rw [f3 _ _ (by omega)]; exact h1
      ((with_reducible refine i_FO (i_A0 ?_)); (with_reducible refine i_fld (by assumption) ?_); (with_reducible refine i_I ?_); (with_reducible refine i_fld (by assumption) ?_); (with_reducible refine i_RetV ?_); (rw [h3]); rw [zx_addc (by omega)])
      exact hk _ (fun b j q => by rw [zg_o _ _ (by omega), f3 b j (by omega), f1 b j (by omega)]) (zg_s _ _ _ _ _) (z3.to (fun b j q => zg_o _ _ (by omega)))
  · rw [if_neg e] at hk z1
    rw [show uXI (ufn Z v) (ub Z) = -1 from if_neg e]
    ((with_reducible refine i_Seq (i_If (i_cZ_ge (i_L2 ?_)))); (with_reducible refine i_f (by omega) ?_); (with_reducible refine i_FO (i_A0 ?_)); (with_reducible refine i_fld (by assumption) ?_); (with_reducible refine i_I ?_); (with_reducible refine i_fld (by assumption) ?_); (with_reducible refine i_RetV ?_); (rw [h1]); rw [zx_addc (by omega)])
    exact hk _ (fun b j q => by rw [zg_o _ _ (by omega), f1 b j (by omega)]) (zg_s _ _ _ _ _) ((hZ.bl (Z' := ubl Z (8 * zps B s (i + 1) + 4)) f1 rfl rfl rfl z1).to (fun b j q => zg_o _ _ (by omega)))
theorem m_tellSides {O : zOm} (hO : zWld O) (hS : zS O = zmS zC0) {i s n : Nat} {B : Nat → Nat} {Z : zZt} {M : zMem} {K : Option zV → zMem → Prop} (hs : s ≤ 2000) (hq0 : zqs B s (zhh B s) = 0) (hi : i < zhh B s) (hq : zqs B s i = 0) (hK : zKi B s i = 6) (hA : uAll B s n Z i) (hX : rTx M B s n i Z)
    (hk : ∀ M', rXF M M' → M' 250 ((67 : Nat) : Int) = ((i + 4 : Nat) : Int) → rZt M' (us2 B s Z i) → K none M') : zR O F_Model_tellSides [(2, 250)] M K := by
  obtain ⟨hR, hn, hh, hZ⟩ := hX
  have h400 := (zhh_ok B s).1
  have hp := fun j => Nat.le_trans (zps_le B s j) hs
  obtain ⟨g1, g2, g3, g4, g5⟩ := zgr_6 hq0 hi hq hK
  obtain ⟨w40, u100⟩ := hA.w40 hi (by omega)
  have hFk : uFk (uF Z) := hA.1.2.2.1
  have k1 := hR.tk (show i + 1 < zhh B s by omega)
  have k2 := hR.tk (show i + 2 < zhh B s by omega)
  have v1 : M ((299 : Nat) : Int) ((i + 1 : Nat) : Int) = ((zVi B s (i + 1) : Nat) : Int) := k1.2.2.2.2 g1
  have v2 : M ((299 : Nat) : Int) ((i + 2 : Nat) : Int) = ((zVi B s (i + 2) : Nat) : Int) := k2.2.2.2.2 g2
  have p1 := k1.2.1
  have p2 := k2.2.1
  have p0 := (hR.tk hi).2.1
  unfold us2 at hk
  (try dsimp only at hk)
  have hk1 := ukb_e Z (zVi B s (i + 1)) (zps B s (i + 1))
  have hk2 := ukb_e (ukb Z (zVi B s (i + 1)) (zps B s (i + 1))) (zVi B s (i + 2)) (zps B s (i + 2))
  have hfn : ufn (ukb Z (zVi B s (i + 1)) (zps B s (i + 1))) (zVi B s (i + 2)) = ufn Z (zVi B s (i + 2)) := by unfold ufn un ub; rw [hk1.1]
  have hub2 : ub (ukb Z (zVi B s (i + 1)) (zps B s (i + 1))) = ub Z := by unfold ub; rw [hk1.1]
  rw [hfn, hub2] at hk2
  generalize hZ2e : ukb (ukb Z (zVi B s (i + 1)) (zps B s (i + 1))) (zVi B s (i + 2)) (zps B s (i + 2)) = Z2 at hk hk2
  generalize ukb Z (zVi B s (i + 1)) (zps B s (i + 1)) = Z1 at hk1 hk2 hfn hub2
  obtain ⟨a1, a2, a3, a4⟩ := hk1
  obtain ⟨b1, b2, b3, b4⟩ := hk2
  rw [a1] at b1
  rw [a2] at b2
  rw [a3] at b3
  have hF1 : uFk (uF Z1) := by
    rw [a4]
    split
    · exact hFk
    · exact uFk_min hFk (hp _) (by decide) (by decide)
  have hF2 : uFk (uF Z2) := by
    rw [b4]
    split
    · exact hF1
    · exact uFk_min hF1 (hp _) (by decide) (by decide)
  clear hZ2e
  generalize zVi B s (i + 1) = va at *
  generalize zVi B s (i + 2) = vb at *
  apply r_Model_tellSides hO
  unfold B_Model_tellSides
  have f67 := zMF (k := 67) hS rfl; have f37 := zMF (k := 37) hS rfl; have a280 := zMA (a := 280) (ty := .int) (n := 2001) hS rfl; have zo := zMO hS
  ((with_reducible refine i_Seq (i_Seq (i_Set (i_Call (i_as1 (i_A0 (i_as1 (i_Add (i_F (i_A0 ?_)))))))))); (with_reducible refine i_fld (by assumption) ?_); (with_reducible refine i_I (i_as0 ?_)); (with_reducible refine i_recv0 (by assumption) ?_); (rw [hh]); rw [zx_inc (by omega)]; simp only [w_set0, w_set1, w_setn0, w_setn1])
  refine m_knownBox hO hS hZ.1 hZ.2.2.2.2 (by omega) hFk (by omega) v1 p1 (hp _) (fun M1 f1 z1 => ⟨_, rfl, ?_⟩)
  rw [← a4] at z1
  have h1 : M1 250 ((67 : Nat) : Int) = ((i : Nat) : Int) := by rw [f1 _ _ (by omega)]; exact hh
  have hZ1 : rZt M1 Z1 := hZ.bl f1 a1 a2 a3 z1
  ((with_reducible refine i_Seq (i_Set (i_Call (i_as1 (i_A0 (i_as1 (i_Add (i_F (i_A0 ?_))))))))); (with_reducible refine i_fld (by assumption) ?_); (with_reducible refine i_I (i_as0 ?_)); (with_reducible refine i_recv0 (by assumption) ?_); (rw [h1]); rw [zx_addc (by omega)]; simp only [w_set0, w_set1, w_setn0, w_setn1])
  refine m_knownBox hO hS hZ1.1 z1 (by omega) hF1 (by omega) (by rw [f1 _ _ (by omega)]; exact v2) (by rw [f1 _ _ (by omega)]; exact p2) (hp _) (fun M2 f2 z2 => ⟨_, rfl, ?_⟩)
  rw [hfn, hub2, ← b4] at z2
  rw [hfn, hub2]
  have h2 : M2 250 ((67 : Nat) : Int) = ((i : Nat) : Int) := by rw [f2 _ _ (by omega)]; exact h1
  have hZ2 : rZt M2 Z2 := hZ1.bl f2 (b1.trans a1.symm) (b2.trans a2.symm) (b3.trans a3.symm) z2
  have p22 : M2 ((280 : Nat) : Int) ((i + 2 : Nat) : Int) = ((zps B s (i + 2) : Nat) : Int) := by rw [f2 _ _ (by omega), f1 _ _ (by omega)]; exact p2
  have p02 : M2 ((280 : Nat) : Int) ((i : Nat) : Int) = ((zps B s i : Nat) : Int) := by rw [f2 _ _ (by omega), f1 _ _ (by omega)]; exact p0
  have hub : ub Z2 = ub Z := by unfold ub; rw [b1]
  have huk : uk Z2 = uk Z := by unfold uk; rw [b2]
  have hO4 : uO4 n Z2 := fun c hc => by
    have h := hA.1.2.1 c (by rw [huk] at hc; exact hc)
    have e : uw Z2 = uw Z := by unfold uw; rw [b2]
    unfold uWk un ub at h ⊢
    rw [e, b1]
    exact h
  have hnw : ∀ v, ufn Z v < ub Z → ufn Z v < ub Z2 ∧ zNew (un Z2) (ufn Z v) = true := fun v hv => ⟨by rw [hub]; exact hv, by unfold un; rw [b1]; exact ufn_new hv⟩
  have hend : ∀ (M3 : zMem) Z', rXF M M3 → M3 250 ((67 : Nat) : Int) = ((i : Nat) : Int) → rZt M3 Z' → (∀ M', rXF M M' → M' 250 ((67 : Nat) : Int) = ((i + 4 : Nat) : Int) → rZt M' Z' → K none M') → K none (zput M3 250 (zup (M3 250) ((67 : Nat) : Int) ((i + 4 : Nat) : Int))) := fun M3 Z' f3 h3 z3 hk => hk _ (fun b j q => by rw [zg_o _ _ (by omega), f3 b j q]) (zg_s _ _ _ _ _) (z3.to (fun b j q => zg_o _ _ (by omega)))
  have f12 : rXF M M2 := (rXF.bl f1).tr (rXF.bl f2)
  by_cases e : ufn Z va < ub Z ∧ ufn Z vb < ub Z
  · rw [if_pos e] at hk
    rw [show uXI (ufn Z va) (ub Z) = ((ufn Z va : Nat) : Int) from if_pos e.1, show uXI (ufn Z vb) (ub Z) = ((ufn Z vb : Nat) : Int) from if_pos e.2]
    obtain ⟨n1, n2⟩ := hnw va e.1
    obtain ⟨n3, n4⟩ := hnw vb e.2
    generalize ufn Z va = x at *
    generalize ufn Z vb = y at *
    have hwk : ∀ Z' : zZt, Z'.1 = Z2.1 → uWk n Z' (1, min x y, max x y) := fun Z' ez => by
      have eb : ub Z' = ub Z2 := by unfold ub; rw [ez]
      have en : un Z' = un Z2 := by unfold un; rw [ez]
      refine Or.inr (Or.inl ⟨rfl, by (try dsimp only); omega, by (try dsimp only); omega, ?_, ?_⟩)
      · rw [en]
        (try dsimp only)
        rcases Nat.le_total x y with w | w
        · rw [Nat.min_eq_left w]; exact n2
        · rw [Nat.min_eq_right w]; exact n4
      · rw [en]
        (try dsimp only)
        rcases Nat.le_total x y with w | w
        · rw [Nat.max_eq_right w]; exact n4
        · rw [Nat.max_eq_left w]; exact n2
    by_cases e2 : x = y
    · subst e2
      rw [if_pos rfl] at hk
      rw [Nat.min_self, Nat.max_self] at hk hwk
      ((with_reducible refine i_Seq (i_If (i_cAnd (i_cZ_ge (i_L1 ?_))))); (with_reducible refine i_t (by omega) ?_); (with_reducible refine i_cZ_ge (i_L2 ?_)); (with_reducible refine i_t (by omega) ?_); (with_reducible refine i_Seq (i_If (i_cI_eq (i_L1 (i_L2 ?_))))); simp only [w_set0, w_set1, w_setn0, w_setn1]; (with_reducible refine i_t trivial ?_); (with_reducible refine i_sCall (i_as1 (i_A0 (i_as1 (i_I (i_as1 (i_IA (i_FR (i_A0 ?_))))))))); (with_reducible refine i_fldR (by assumption) ?_); (with_reducible refine i_Add (i_F (i_A0 ?_))); (with_reducible refine i_fld (by assumption) ?_); (with_reducible refine i_I ?_); (rw [h2]); rw [zx_addc (by omega)]; (with_reducible refine i_in (by assumption) (by omega) (by omega) ?_); (with_reducible refine i_as0 ?_); (with_reducible refine i_recv0 (by assumption) ?_); (rw [p22]))
      refine m_tells hO hS (f := 5) rfl z2 hF2 (by decide) (by decide) (hp _) (fun M3 f3 z3 => ⟨rfl, ?_⟩)
      have hZ3 : rZt M3 (ubl Z2 (8 * zps B s (i + 2) + 5)) := hZ2.bl f3 rfl rfl rfl z3
      have h3 : M3 250 ((67 : Nat) : Int) = ((i : Nat) : Int) := by rw [f3 _ _ (by omega)]; exact h2
      ((with_reducible refine i_sCall (i_as1 (i_A0 (i_as1 (i_I (i_as1 (i_eIf (i_cI_lt (i_L1 (i_L2 ?_)))))))))); (with_reducible refine i_f (by omega) ?_); (with_reducible refine i_L2 (i_as1 (i_eIf (i_cI_lt (i_L1 (i_L2 ?_)))))); (with_reducible refine i_f (by omega) ?_); (with_reducible refine i_L1 (i_as1 (i_F (i_A0 ?_)))); (with_reducible refine i_fld (by assumption) ?_); (with_reducible refine i_as0 ?_); (with_reducible refine i_recv0 (by assumption) ?_); (rw [h3]))
      refine m_tellWord hO hS (n := n) (w := (1, x, x)) (p := zps B s i) rfl rfl hZ3 (uFk_min hF2 (hp _) (by decide) (by decide)) (by show uk Z2 ≤ 40; omega) hO4 (hwk _ rfl) (by omega) (by rw [f3 _ _ (by omega)]; exact p02) (hp _) (fun M4 f4 z4 => ⟨rfl, ?_⟩)
      have h4 : M4 250 ((67 : Nat) : Int) = ((i : Nat) : Int) := by rw [f4 _ _ (by omega)]; exact h3
      ((with_reducible refine i_FO (i_A0 ?_)); (with_reducible refine i_fld (by assumption) ?_); (with_reducible refine i_I ?_); (with_reducible refine i_fld (by assumption) ?_); (with_reducible refine i_RetV ?_); (rw [h4]); rw [zx_addc (by omega)])
      exact hend M4 _ (f12.tr ((rXF.bl f3).tr (fun b j q => f4 b j (by omega)))) h4 z4 hk
    · rw [if_neg e2] at hk
      by_cases e3 : x < y
      · rw [Nat.min_eq_left (by omega), Nat.max_eq_right (by omega)] at hk hwk
        ((with_reducible refine i_Seq (i_If (i_cAnd (i_cZ_ge (i_L1 ?_))))); (with_reducible refine i_t (by omega) ?_); (with_reducible refine i_cZ_ge (i_L2 ?_)); (with_reducible refine i_t (by omega) ?_); (with_reducible refine i_Seq (i_If (i_cI_eq (i_L1 (i_L2 ?_))))); (with_reducible refine i_f (by omega) ?_); (with_reducible refine i_sCall (i_as1 (i_A0 (i_as1 (i_I (i_as1 (i_eIf (i_cI_lt (i_L1 (i_L2 ?_)))))))))); (with_reducible refine i_t (by omega) ?_); (with_reducible refine i_L1 (i_as1 (i_eIf (i_cI_lt (i_L1 (i_L2 ?_)))))); (with_reducible refine i_t (by omega) ?_); (with_reducible refine i_L2 (i_as1 (i_F (i_A0 ?_)))); (with_reducible refine i_fld (by assumption) ?_); (with_reducible refine i_as0 ?_); (with_reducible refine i_recv0 (by assumption) ?_); (rw [h2]))
        refine m_tellWord hO hS (n := n) (w := (1, x, y)) (p := zps B s i) rfl rfl hZ2 hF2 (by omega) hO4 (hwk _ rfl) (by omega) p02 (hp _) (fun M4 f4 z4 => ⟨rfl, ?_⟩)
        have h4 : M4 250 ((67 : Nat) : Int) = ((i : Nat) : Int) := by rw [f4 _ _ (by omega)]; exact h2
        ((with_reducible refine i_FO (i_A0 ?_)); (with_reducible refine i_fld (by assumption) ?_); (with_reducible refine i_I ?_); (with_reducible refine i_fld (by assumption) ?_); (with_reducible refine i_RetV ?_); (rw [h4]); rw [zx_addc (by omega)])
        exact hend M4 _ (f12.tr (fun b j q => f4 b j (by omega))) h4 z4 hk
      · rw [Nat.min_eq_right (by omega), Nat.max_eq_left (by omega)] at hk hwk
        ((with_reducible refine i_Seq (i_If (i_cAnd (i_cZ_ge (i_L1 ?_))))); (with_reducible refine i_t (by omega) ?_); (with_reducible refine i_cZ_ge (i_L2 ?_)); (with_reducible refine i_t (by omega) ?_); (with_reducible refine i_Seq (i_If (i_cI_eq (i_L1 (i_L2 ?_))))); (with_reducible refine i_f (by omega) ?_); (with_reducible refine i_sCall (i_as1 (i_A0 (i_as1 (i_I (i_as1 (i_eIf (i_cI_lt (i_L1 (i_L2 ?_)))))))))); (with_reducible refine i_f (by omega) ?_); (with_reducible refine i_L2 (i_as1 (i_eIf (i_cI_lt (i_L1 (i_L2 ?_)))))); (with_reducible refine i_f (by omega) ?_); (with_reducible refine i_L1 (i_as1 (i_F (i_A0 ?_)))); (with_reducible refine i_fld (by assumption) ?_); (with_reducible refine i_as0 ?_); (with_reducible refine i_recv0 (by assumption) ?_); (rw [h2]))
        refine m_tellWord hO hS (n := n) (w := (1, y, x)) (p := zps B s i) rfl rfl hZ2 hF2 (by omega) hO4 (hwk _ rfl) (by omega) p02 (hp _) (fun M4 f4 z4 => ⟨rfl, ?_⟩)
        have h4 : M4 250 ((67 : Nat) : Int) = ((i : Nat) : Int) := by rw [f4 _ _ (by omega)]; exact h2
        ((with_reducible refine i_FO (i_A0 ?_)); (with_reducible refine i_fld (by assumption) ?_); (with_reducible refine i_I ?_); (with_reducible refine i_fld (by assumption) ?_); (with_reducible refine i_RetV ?_); (rw [h4]); rw [zx_addc (by omega)])
        exact hend M4 _ (f12.tr (fun b j q => f4 b j (by omega))) h4 z4 hk
  · rw [if_neg e] at hk
    by_cases ea : ufn Z va < ub Z
    · have eb : ¬ ufn Z vb < ub Z := fun z => e ⟨ea, z⟩
      rw [show uXI (ufn Z va) (ub Z) = ((ufn Z va : Nat) : Int) from if_pos ea, show uXI (ufn Z vb) (ub Z) = -1 from if_neg eb]
      ((with_reducible refine i_Seq (i_If (i_cAnd (i_cZ_ge (i_L1 ?_))))); (with_reducible refine i_t (by omega) ?_); (with_reducible refine i_cZ_ge (i_L2 ?_)); (with_reducible refine i_f (by omega) ?_); (with_reducible refine i_FO (i_A0 ?_)); (with_reducible refine i_fld (by assumption) ?_); (with_reducible refine i_I ?_); (with_reducible refine i_fld (by assumption) ?_); (with_reducible refine i_RetV ?_); (rw [h2]); rw [zx_addc (by omega)])
      exact hend M2 _ f12 h2 hZ2 hk
    · rw [show uXI (ufn Z va) (ub Z) = -1 from if_neg ea]
      ((with_reducible refine i_Seq (i_If (i_cAnd (i_cZ_ge (i_L1 ?_))))); (with_reducible refine i_f (by omega) ?_); (with_reducible refine i_FO (i_A0 ?_)); (with_reducible refine i_fld (by assumption) ?_); (with_reducible refine i_I ?_); (with_reducible refine i_fld (by assumption) ?_); (with_reducible refine i_RetV ?_); (rw [h2]); rw [zx_addc (by omega)])
      exact hend M2 _ f12 h2 hZ2 hk
theorem m_tellStar {O : zOm} (hO : zWld O) (hS : zS O = zmS zC0) {i s n : Nat} {B : Nat → Nat} {Z : zZt} {M : zMem} {K : Option zV → zMem → Prop} (hs : s ≤ 2000) (hn16 : n ≤ 16) (hq0 : zqs B s (zhh B s) = 0) (hi : i < zhh B s) (hq : zqs B s i = 0) (hK : zKi B s i = 7) (hA : uAll B s n Z i) (hX : rTx M B s n i Z)
    (hk : ∀ M', rXF M M' → M' 250 ((67 : Nat) : Int) = ((i + 4 : Nat) : Int) → rZt M' (us3 B s n Z i) → K none M') : zR O F_Model_tellStar [(2, 250)] M K := by
  obtain ⟨hR, hn, hh, hZ⟩ := hX
  have h400 := (zhh_ok B s).1
  have hp := fun j => Nat.le_trans (zps_le B s j) hs
  obtain ⟨g1, g2, g3, g4, g5⟩ := zgr_7 hq0 hi hq hK
  obtain ⟨w40, u100⟩ := hA.w40 hi (by omega)
  have hFk : uFk (uF Z) := hA.1.2.2.1
  have k1 := hR.tk (show i + 1 < zhh B s by omega)
  have k2 := hR.tk (show i + 2 < zhh B s by omega)
  have v1 : M ((282 : Nat) : Int) ((i + 1 : Nat) : Int) = ((zVi B s (i + 1) : Nat) : Int) := k1.2.2.2.1 g1
  have v2 : M ((299 : Nat) : Int) ((i + 2 : Nat) : Int) = ((zVi B s (i + 2) : Nat) : Int) := k2.2.2.2.2 g2
  have p1 := k1.2.1
  have p2 := k2.2.1
  have p0 := (hR.tk hi).2.1
  unfold us3 at hk
  (try dsimp only at hk)
  have hk1 := ukp_e n Z (zVi B s (i + 1)) (zps B s (i + 1))
  have hk2 := ukb_e (ukp n Z (zVi B s (i + 1)) (zps B s (i + 1))) (zVi B s (i + 2)) (zps B s (i + 2))
  have hfn : ufn (ukp n Z (zVi B s (i + 1)) (zps B s (i + 1))) (zVi B s (i + 2)) = ufn Z (zVi B s (i + 2)) := by unfold ufn un ub; rw [hk1.1]
  have hub2 : ub (ukp n Z (zVi B s (i + 1)) (zps B s (i + 1))) = ub Z := by unfold ub; rw [hk1.1]
  rw [hfn, hub2] at hk2
  generalize hZ2e : ukb (ukp n Z (zVi B s (i + 1)) (zps B s (i + 1))) (zVi B s (i + 2)) (zps B s (i + 2)) = Z2 at hk hk2
  generalize ukp n Z (zVi B s (i + 1)) (zps B s (i + 1)) = Z1 at hk1 hk2 hfn hub2
  obtain ⟨a1, a2, a3, a4⟩ := hk1
  obtain ⟨b1, b2, b3, b4⟩ := hk2
  rw [a1] at b1
  rw [a2] at b2
  rw [a3] at b3
  have hF1 : uFk (uF Z1) := by
    rw [a4]
    split
    · exact hFk
    · exact uFk_min hFk (hp _) (by decide) (by decide)
  have hF2 : uFk (uF Z2) := by
    rw [b4]
    split
    · exact hF1
    · exact uFk_min hF1 (hp _) (by decide) (by decide)
  clear hZ2e
  generalize zVi B s (i + 1) = x at *
  generalize zVi B s (i + 2) = vb at *
  apply r_Model_tellStar hO
  unfold B_Model_tellStar
  have f67 := zMF (k := 67) hS rfl; have f39 := zMF (k := 39) hS rfl; have a282 := zMA (a := 282) (ty := .int) (n := 2001) hS rfl; have f70 := zMF (k := 70) hS rfl; have a301 := zMA (a := 301) (ty := .int) (n := 110) hS rfl; have f71 := zMF (k := 71) hS rfl; have a302 := zMA (a := 302) (ty := .int) (n := 16) hS rfl; have f37 := zMF (k := 37) hS rfl; have a280 := zMA (a := 280) (ty := .int) (n := 2001) hS rfl; have zo := zMO hS
  ((with_reducible refine i_Seq (i_Seq (i_Set (i_Call (i_as1 (i_A0 (i_as1 (i_Add (i_F (i_A0 ?_)))))))))); (with_reducible refine i_fld (by assumption) ?_); (with_reducible refine i_I (i_as0 ?_)); (with_reducible refine i_recv0 (by assumption) ?_); (rw [hh]); rw [zx_inc (by omega)]; simp only [w_set0, w_set1, w_setn0, w_setn1])
  refine m_isKnownPost hO hS hZ.2.2.2.2 hn hFk (by omega) v1 p1 (hp _) (fun M1 f1 z1 => ⟨_, rfl, ?_⟩)
  rw [← a4] at z1
  have h1 : M1 250 ((67 : Nat) : Int) = ((i : Nat) : Int) := by rw [f1 _ _ (by omega)]; exact hh
  have hZ1 : rZt M1 Z1 := hZ.bl f1 a1 a2 a3 z1
  ((with_reducible refine i_Seq (i_Set (i_Call (i_as1 (i_A0 (i_as1 (i_Add (i_F (i_A0 ?_))))))))); (with_reducible refine i_fld (by assumption) ?_); (with_reducible refine i_I (i_as0 ?_)); (with_reducible refine i_recv0 (by assumption) ?_); (rw [h1]); rw [zx_addc (by omega)]; simp only [w_set0, w_set1, w_setn0, w_setn1])
  refine m_knownBox hO hS hZ1.1 z1 (by omega) hF1 (by omega) (by rw [f1 _ _ (by omega)]; exact v2) (by rw [f1 _ _ (by omega)]; exact p2) (hp _) (fun M2 f2 z2 => ⟨_, rfl, ?_⟩)
  rw [hfn, hub2, ← b4] at z2
  rw [hfn, hub2]
  have h2 : M2 250 ((67 : Nat) : Int) = ((i : Nat) : Int) := by rw [f2 _ _ (by omega)]; exact h1
  have hZ2 : rZt M2 Z2 := hZ1.bl f2 (b1.trans a1.symm) (b2.trans a2.symm) (b3.trans a3.symm) z2
  have v12 : M2 ((282 : Nat) : Int) ((i + 1 : Nat) : Int) = ((x : Nat) : Int) := by rw [f2 _ _ (by omega), f1 _ _ (by omega)]; exact v1
  have p22 : M2 ((280 : Nat) : Int) ((i + 2 : Nat) : Int) = ((zps B s (i + 2) : Nat) : Int) := by rw [f2 _ _ (by omega), f1 _ _ (by omega)]; exact p2
  have p02 : M2 ((280 : Nat) : Int) ((i : Nat) : Int) = ((zps B s i : Nat) : Int) := by rw [f2 _ _ (by omega), f1 _ _ (by omega)]; exact p0
  have hub : ub Z2 = ub Z := by unfold ub; rw [b1]
  have huk : uk Z2 = uk Z := by unfold uk; rw [b2]
  have huo : uo Z2 = uo Z := by unfold uo; rw [b1]
  have hO4 : uO4 n Z2 := fun c hc => by
    have h := hA.1.2.1 c (by rw [huk] at hc; exact hc)
    have e : uw Z2 = uw Z := by unfold uw; rw [b2]
    unfold uWk un ub at h ⊢
    rw [e, b1]
    exact h
  have hend : ∀ (M3 : zMem) Z', rXF M M3 → M3 250 ((67 : Nat) : Int) = ((i : Nat) : Int) → rZt M3 Z' → (∀ M', rXF M M' → M' 250 ((67 : Nat) : Int) = ((i + 4 : Nat) : Int) → rZt M' Z' → K none M') → K none (zput M3 250 (zup (M3 250) ((67 : Nat) : Int) ((i + 4 : Nat) : Int))) := fun M3 Z' f3 h3 z3 hk => hk _ (fun b j q => by rw [zg_o _ _ (by omega), f3 b j q]) (zg_s _ _ _ _ _) (z3.to (fun b j q => zg_o _ _ (by omega)))
  have f12 : rXF M M2 := (rXF.bl f1).tr (rXF.bl f2)
  by_cases e : x < n ∧ ufn Z vb < ub Z
  · rw [if_pos e] at hk
    rw [show uXI (ufn Z vb) (ub Z) = ((ufn Z vb : Nat) : Int) from if_pos e.2, decide_eq_true e.1]
    have hwk : ∀ Z' : zZt, Z'.1 = Z2.1 → uWk n Z' (2, x, ufn Z vb) := fun Z' ez => by
      refine Or.inr (Or.inr ⟨rfl, e.1, ?_, ?_⟩)
      · unfold ub; rw [ez, b1]; exact e.2
      · unfold un; rw [ez, b1]; exact ufn_new e.2
    have sz := (hZ2.1.2 (ufn Z vb) (by omega)).2
    have ox := (hZ2.2.1 x (by omega)).1
    rw [huo] at sz ox
    have hsz := zSz_le (uo Z) 16 (ufn Z vb)
    generalize hzz : zSz (uo Z) 16 (ufn Z vb) = z at sz hk hsz
    have hox : uoI (uo Z x) = ((ufn Z vb : Nat) : Int) ↔ uo Z x = ufn Z vb := by
      have := e.2
      unfold uoI
      split <;> omega
    have done : ∀ M3 Z3, (∀ b j, ¬ (b = 250 ∧ (j = 40 ∨ j = 66)) → M3 b j = M2 b j) → rZt M3 Z3 → Z3.1 = Z2.1 → Z3.2.1 = Z2.2.1 → uFk (uF Z3) → (∀ M', rXF M M' → M' 250 ((67 : Nat) : Int) = ((i + 4 : Nat) : Int) → rZt M' (uaw Z3 (2, x, ufn Z vb) (zps B s i)) → K none M') → zR O F_Model_tellWord [(2, 250), (0, 2), (0, ((x : Nat) : Int)), (0, ((ufn Z vb : Nat) : Int)), (0, ((i : Nat) : Int))] M3 (fun v M4 => v = none ∧ M4 250 ((67 : Nat) : Int) = ((i : Nat) : Int) ∧ K none (zput M4 250 (zup (M4 250) ((67 : Nat) : Int) ((i + 4 : Nat) : Int)))) := fun M3 Z3 f3 z3 c1 c2 c3 hk => by
      refine m_tellWord hO hS (n := n) (w := (2, x, ufn Z vb)) (p := zps B s i) rfl rfl z3 c3 (by unfold uk; rw [c2]; show uk Z2 ≤ 40; omega) (fun c hc => ?_) (hwk _ c1) (by omega) (by rw [f3 _ _ (by omega)]; exact p02) (hp _) (fun M4 f4 z4 => ⟨rfl, ?_, ?_⟩)
      · have h := hO4 c (by unfold uk at hc ⊢; rw [c2] at hc; exact hc)
        unfold uWk un ub uw at h ⊢
        rw [c1, c2]
        exact h
      · rw [f4 _ _ (by omega), f3 _ _ (by omega)]; exact h2
      · exact hend M4 _ (f12.tr ((rXF.bl f3).tr (fun b j q => f4 b j (by omega)))) (by rw [f4 _ _ (by omega), f3 _ _ (by omega)]; exact h2) z4 hk
    by_cases e1 : uo Z x = ufn Z vb
    · have ox' : M2 ((302 : Nat) : Int) ((x : Nat) : Int) = ((ufn Z vb : Nat) : Int) := ox.trans (hox.mpr e1)
      rw [if_pos e1] at hk
      by_cases e2 : z = 1
      · rw [if_pos e2] at hk
        ((with_reducible refine i_Seq (i_If (i_cAnd (i_cZ_ne (i_L1 ?_))))); rw [zbI_t]; (with_reducible refine i_t (by omega) ?_); (with_reducible refine i_cZ_ge (i_L2 ?_)); (with_reducible refine i_t (by omega) ?_); (with_reducible refine i_Blk (i_Seq (i_Set (i_IA (i_FR (i_A0 ?_)))))); (with_reducible refine i_fldR (by assumption) ?_); (with_reducible refine i_Add (i_F (i_A0 ?_))); (with_reducible refine i_fld (by assumption) ?_); (with_reducible refine i_I ?_); (rw [h2]); rw [zx_inc (by omega)]; (with_reducible refine i_in (by assumption) (by omega) (by omega) ?_); (with_reducible refine i_Seq (i_If (i_cI_eq (i_IA (i_FR ?_))))); (rw [v12]); simp only [w_set0, w_set1, w_setn0, w_setn1]; (with_reducible refine i_A0 ?_); (with_reducible refine i_fldR (by assumption) ?_); (with_reducible refine i_L2 ?_); (with_reducible refine i_in (by assumption) (by omega) (by omega) ?_); (with_reducible refine i_eIf (i_cI_eq (i_IA (i_FR (i_A0 ?_))))); (with_reducible refine i_fldR (by assumption) ?_); (with_reducible refine i_L3 ?_); (with_reducible refine i_in (by assumption) (by omega) (by omega) ?_); (with_reducible refine i_L2 ?_); (rw [sz]); (rw [ox']); simp only [w_set0, w_set1, w_setn0, w_setn1]; (with_reducible refine i_t trivial ?_); (with_reducible refine i_I ?_); (with_reducible refine i_t (by omega) ?_); (with_reducible refine i_sCall (i_as1 (i_A0 (i_as1 (i_I (i_as1 (i_IA (i_FR (i_A0 ?_))))))))); (with_reducible refine i_fldR (by assumption) ?_); (with_reducible refine i_Add (i_F (i_A0 ?_))); (with_reducible refine i_fld (by assumption) ?_); (with_reducible refine i_I ?_); (rw [h2]); rw [zx_addc (by omega)]; (with_reducible refine i_in (by assumption) (by omega) (by omega) ?_); (with_reducible refine i_as0 ?_); (with_reducible refine i_recv0 (by assumption) ?_); (rw [p22]))
        refine m_tells hO hS (f := 5) rfl z2 hF2 (by decide) (by decide) (hp _) (fun M3 f3 z3 => ⟨rfl, ?_⟩)
        have h3 : M3 250 ((67 : Nat) : Int) = ((i : Nat) : Int) := by rw [f3 _ _ (by omega)]; exact h2
        ((with_reducible refine i_sCall (i_as1 (i_A0 (i_as1 (i_I (i_as1 (i_L3 (i_as1 (i_L2 (i_as1 (i_F (i_A0 ?_)))))))))))); (with_reducible refine i_fld (by assumption) ?_); (with_reducible refine i_as0 ?_); (with_reducible refine i_recv0 (by assumption) ?_); (rw [h3]))
        refine (done M3 (ubl Z2 (8 * zps B s (i + 2) + 5)) f3 (hZ2.bl f3 rfl rfl rfl z3) rfl rfl (uFk_min hF2 (hp _) (by decide) (by decide)) hk).mono (fun v M4 ⟨hv, h4, hK4⟩ => ⟨hv, ?_⟩)
        ((with_reducible refine i_FO (i_A0 ?_)); (with_reducible refine i_fld (by assumption) ?_); (with_reducible refine i_I ?_); (with_reducible refine i_fld (by assumption) ?_); (with_reducible refine i_RetV ?_); (rw [h4]); rw [zx_addc (by omega)])
        exact hK4
      · rw [if_neg e2] at hk
        ((with_reducible refine i_Seq (i_If (i_cAnd (i_cZ_ne (i_L1 ?_))))); rw [zbI_t]; (with_reducible refine i_t (by omega) ?_); (with_reducible refine i_cZ_ge (i_L2 ?_)); (with_reducible refine i_t (by omega) ?_); (with_reducible refine i_Blk (i_Seq (i_Set (i_IA (i_FR (i_A0 ?_)))))); (with_reducible refine i_fldR (by assumption) ?_); (with_reducible refine i_Add (i_F (i_A0 ?_))); (with_reducible refine i_fld (by assumption) ?_); (with_reducible refine i_I ?_); (rw [h2]); rw [zx_inc (by omega)]; (with_reducible refine i_in (by assumption) (by omega) (by omega) ?_); (with_reducible refine i_Seq (i_If (i_cI_eq (i_IA (i_FR ?_))))); (rw [v12]); simp only [w_set0, w_set1, w_setn0, w_setn1]; (with_reducible refine i_A0 ?_); (with_reducible refine i_fldR (by assumption) ?_); (with_reducible refine i_L2 ?_); (with_reducible refine i_in (by assumption) (by omega) (by omega) ?_); (with_reducible refine i_eIf (i_cI_eq (i_IA (i_FR (i_A0 ?_))))); (with_reducible refine i_fldR (by assumption) ?_); (with_reducible refine i_L3 ?_); (with_reducible refine i_in (by assumption) (by omega) (by omega) ?_); (with_reducible refine i_L2 ?_); (rw [sz]); (rw [ox']); simp only [w_set0, w_set1, w_setn0, w_setn1]; (with_reducible refine i_t trivial ?_); (with_reducible refine i_I ?_); (with_reducible refine i_f (by omega) ?_); (with_reducible refine i_sCall (i_as1 (i_A0 (i_as1 (i_I (i_as1 (i_L3 (i_as1 (i_L2 (i_as1 (i_F (i_A0 ?_)))))))))))); (with_reducible refine i_fld (by assumption) ?_); (with_reducible refine i_as0 ?_); (with_reducible refine i_recv0 (by assumption) ?_); (rw [h2]))
        refine (done M2 Z2 (fun _ _ _ => rfl) hZ2 rfl rfl hF2 hk).mono (fun v M4 ⟨hv, h4, hK4⟩ => ⟨hv, ?_⟩)
        ((with_reducible refine i_FO (i_A0 ?_)); (with_reducible refine i_fld (by assumption) ?_); (with_reducible refine i_I ?_); (with_reducible refine i_fld (by assumption) ?_); (with_reducible refine i_RetV ?_); (rw [h4]); rw [zx_addc (by omega)])
        exact hK4
    · have ox' : ¬ M2 ((302 : Nat) : Int) ((x : Nat) : Int) = ((ufn Z vb : Nat) : Int) := fun w => e1 (hox.mp (ox.symm.trans w))
      rw [if_neg e1] at hk
      by_cases e2 : z = 0
      · rw [if_pos e2] at hk
        ((with_reducible refine i_Seq (i_If (i_cAnd (i_cZ_ne (i_L1 ?_))))); rw [zbI_t]; (with_reducible refine i_t (by omega) ?_); (with_reducible refine i_cZ_ge (i_L2 ?_)); (with_reducible refine i_t (by omega) ?_); (with_reducible refine i_Blk (i_Seq (i_Set (i_IA (i_FR (i_A0 ?_)))))); (with_reducible refine i_fldR (by assumption) ?_); (with_reducible refine i_Add (i_F (i_A0 ?_))); (with_reducible refine i_fld (by assumption) ?_); (with_reducible refine i_I ?_); (rw [h2]); rw [zx_inc (by omega)]; (with_reducible refine i_in (by assumption) (by omega) (by omega) ?_); (with_reducible refine i_Seq (i_If (i_cI_eq (i_IA (i_FR ?_))))); (rw [v12]); simp only [w_set0, w_set1, w_setn0, w_setn1]; (with_reducible refine i_A0 ?_); (with_reducible refine i_fldR (by assumption) ?_); (with_reducible refine i_L2 ?_); (with_reducible refine i_in (by assumption) (by omega) (by omega) ?_); (with_reducible refine i_eIf (i_cI_eq (i_IA (i_FR (i_A0 ?_))))); (with_reducible refine i_fldR (by assumption) ?_); (with_reducible refine i_L3 ?_); (with_reducible refine i_in (by assumption) (by omega) (by omega) ?_); (with_reducible refine i_L2 ?_); (rw [sz]); (with_reducible refine i_f (by omega) ?_); (with_reducible refine i_I ?_); (with_reducible refine i_t (by omega) ?_); (with_reducible refine i_sCall (i_as1 (i_A0 (i_as1 (i_I (i_as1 (i_IA (i_FR (i_A0 ?_))))))))); (with_reducible refine i_fldR (by assumption) ?_); (with_reducible refine i_Add (i_F (i_A0 ?_))); (with_reducible refine i_fld (by assumption) ?_); (with_reducible refine i_I ?_); (rw [h2]); rw [zx_addc (by omega)]; (with_reducible refine i_in (by assumption) (by omega) (by omega) ?_); (with_reducible refine i_as0 ?_); (with_reducible refine i_recv0 (by assumption) ?_); (rw [p22]))
        refine m_tells hO hS (f := 5) rfl z2 hF2 (by decide) (by decide) (hp _) (fun M3 f3 z3 => ⟨rfl, ?_⟩)
        have h3 : M3 250 ((67 : Nat) : Int) = ((i : Nat) : Int) := by rw [f3 _ _ (by omega)]; exact h2
        ((with_reducible refine i_sCall (i_as1 (i_A0 (i_as1 (i_I (i_as1 (i_L3 (i_as1 (i_L2 (i_as1 (i_F (i_A0 ?_)))))))))))); (with_reducible refine i_fld (by assumption) ?_); (with_reducible refine i_as0 ?_); (with_reducible refine i_recv0 (by assumption) ?_); (rw [h3]))
        refine (done M3 (ubl Z2 (8 * zps B s (i + 2) + 5)) f3 (hZ2.bl f3 rfl rfl rfl z3) rfl rfl (uFk_min hF2 (hp _) (by decide) (by decide)) hk).mono (fun v M4 ⟨hv, h4, hK4⟩ => ⟨hv, ?_⟩)
        ((with_reducible refine i_FO (i_A0 ?_)); (with_reducible refine i_fld (by assumption) ?_); (with_reducible refine i_I ?_); (with_reducible refine i_fld (by assumption) ?_); (with_reducible refine i_RetV ?_); (rw [h4]); rw [zx_addc (by omega)])
        exact hK4
      · rw [if_neg e2] at hk
        ((with_reducible refine i_Seq (i_If (i_cAnd (i_cZ_ne (i_L1 ?_))))); rw [zbI_t]; (with_reducible refine i_t (by omega) ?_); (with_reducible refine i_cZ_ge (i_L2 ?_)); (with_reducible refine i_t (by omega) ?_); (with_reducible refine i_Blk (i_Seq (i_Set (i_IA (i_FR (i_A0 ?_)))))); (with_reducible refine i_fldR (by assumption) ?_); (with_reducible refine i_Add (i_F (i_A0 ?_))); (with_reducible refine i_fld (by assumption) ?_); (with_reducible refine i_I ?_); (rw [h2]); rw [zx_inc (by omega)]; (with_reducible refine i_in (by assumption) (by omega) (by omega) ?_); (with_reducible refine i_Seq (i_If (i_cI_eq (i_IA (i_FR ?_))))); (rw [v12]); simp only [w_set0, w_set1, w_setn0, w_setn1]; (with_reducible refine i_A0 ?_); (with_reducible refine i_fldR (by assumption) ?_); (with_reducible refine i_L2 ?_); (with_reducible refine i_in (by assumption) (by omega) (by omega) ?_); (with_reducible refine i_eIf (i_cI_eq (i_IA (i_FR (i_A0 ?_))))); (with_reducible refine i_fldR (by assumption) ?_); (with_reducible refine i_L3 ?_); (with_reducible refine i_in (by assumption) (by omega) (by omega) ?_); (with_reducible refine i_L2 ?_); (rw [sz]); (with_reducible refine i_f (by omega) ?_); (with_reducible refine i_I ?_); (with_reducible refine i_f (by omega) ?_); (with_reducible refine i_sCall (i_as1 (i_A0 (i_as1 (i_I (i_as1 (i_L3 (i_as1 (i_L2 (i_as1 (i_F (i_A0 ?_)))))))))))); (with_reducible refine i_fld (by assumption) ?_); (with_reducible refine i_as0 ?_); (with_reducible refine i_recv0 (by assumption) ?_); (rw [h2]))
        refine (done M2 Z2 (fun _ _ _ => rfl) hZ2 rfl rfl hF2 hk).mono (fun v M4 ⟨hv, h4, hK4⟩ => ⟨hv, ?_⟩)
        ((with_reducible refine i_FO (i_A0 ?_)); (with_reducible refine i_fld (by assumption) ?_); (with_reducible refine i_I ?_); (with_reducible refine i_fld (by assumption) ?_); (with_reducible refine i_RetV ?_); (rw [h4]); rw [zx_addc (by omega)])
        exact hK4
  · rw [if_neg e] at hk
    by_cases ea : x < n
    · have eb : ¬ ufn Z vb < ub Z := fun z => e ⟨ea, z⟩
      rw [decide_eq_true ea, show uXI (ufn Z vb) (ub Z) = -1 from if_neg eb]
      ((with_reducible refine i_Seq (i_If (i_cAnd (i_cZ_ne (i_L1 ?_))))); rw [zbI_t]; (with_reducible refine i_t (by omega) ?_); (with_reducible refine i_cZ_ge (i_L2 ?_)); (with_reducible refine i_f (by omega) ?_); (with_reducible refine i_FO (i_A0 ?_)); (with_reducible refine i_fld (by assumption) ?_); (with_reducible refine i_I ?_); (with_reducible refine i_fld (by assumption) ?_); (with_reducible refine i_RetV ?_); (rw [h2]); rw [zx_addc (by omega)])
      exact hend M2 _ f12 h2 hZ2 hk
    · rw [decide_eq_false ea]
      ((with_reducible refine i_Seq (i_If (i_cAnd (i_cZ_ne (i_L1 ?_))))); rw [zbI_f]; (with_reducible refine i_f (by omega) ?_); (with_reducible refine i_FO (i_A0 ?_)); (with_reducible refine i_fld (by assumption) ?_); (with_reducible refine i_I ?_); (with_reducible refine i_fld (by assumption) ?_); (with_reducible refine i_RetV ?_); (rw [h2]); rw [zx_addc (by omega)])
      exact hend M2 _ f12 h2 hZ2 hk
