/-! ===== harm and leads: the reference ===== -/
/-- the reader's questions: how many; of each its kind, a, b, b as a number, weight -/
abbrev zQl : Type := Nat × (Nat → Nat × Nat × Int × Nat × Nat)
def qk (Q : zQl) (i : Nat) : Nat := (Q.2 i).1
def qa (Q : zQl) (i : Nat) : Nat := (Q.2 i).2.1
def qb (Q : zQl) (i : Nat) : Int := (Q.2 i).2.2.1
def qc (Q : zQl) (i : Nat) : Nat := (Q.2 i).2.2.2.1
def qw (Q : zQl) (i : Nat) : Nat := (Q.2 i).2.2.2.2
def zQs (n : Nat) (Q : zQl) : Prop := Q.1 ≤ 10 ∧ ∀ i, i < Q.1 → zQok n (qk Q i) (qa Q i) (qb Q i) (qc Q i) ∧ qw Q i ≤ 9
def rQs (M : zMem) (Q : zQl) : Prop := M 250 ((28 : Nat) : Int) = ((Q.1 : Nat) : Int) ∧ ∀ i : Nat, i < Q.1 → M ((274 : Nat) : Int) ((i : Nat) : Int) = ((qk Q i : Nat) : Int) ∧ M ((275 : Nat) : Int) ((i : Nat) : Int) = ((qa Q i : Nat) : Int) ∧ M ((276 : Nat) : Int) ((i : Nat) : Int) = qb Q i ∧ M ((277 : Nat) : Int) ((i : Nat) : Int) = ((qw Q i : Nat) : Int)
theorem rQs.to {M M' : zMem} {Q : zQl} (h : rQs M Q) (e : ∀ b j, (b = 250 ∧ j = 28 ∨ ((274 : Nat) : Int) ≤ b ∧ b ≤ ((277 : Nat) : Int)) → M' b j = M b j) : rQs M' Q := ⟨by rw [e _ _ (by omega)]; exact h.1, fun i hi => by
  obtain ⟨h1, h2, h3, h4⟩ := h.2 i hi
  exact ⟨by rw [e _ _ (by omega)]; exact h1, by rw [e _ _ (by omega)]; exact h2, by rw [e _ _ (by omega)]; exact h3, by rw [e _ _ (by omega)]; exact h4⟩⟩
def zhm (n : Nat) (A : zTl) (Q : zQl) : Nat := zsum (fun i => qw Q i * zoF n A (qk Q i) (qa Q i) (qc Q i)) Q.1
theorem zoF_b {n kind a b' : Nat} {A : zTl} (hn : n ≤ 16) : zoF n A kind a b' ≤ 62000 := Nat.le_trans (Nat.sub_le _ _) (zan_b hn (Nat.le_refl _))
theorem zhm_b {n : Nat} {A : zTl} {Q : zQl} (hn : n ≤ 16) (hQ : zQs n Q) (k : Nat) (hk : k ≤ Q.1) : zsum (fun i => qw Q i * zoF n A (qk Q i) (qa Q i) (qc Q i)) k ≤ k * 600000 := by
  induction k with
  | zero => exact Nat.zero_le _
  | succ k ih =>
    have h1 := ih (by omega)
    have h2 : qw Q k * zoF n A (qk Q k) (qa Q k) (qc Q k) ≤ 9 * 62000 := Nat.mul_le_mul (hQ.2 k (by omega)).2 (zoF_b hn)
    rw [zsum_su]; omega
theorem m_harmOf {O : zOm} (hO : zWld O) (hS : zS O = zmS zC0) {t n : Nat} {A : zTl} {Q : zQl} {M : zMem} {K : Option zV → zMem → Prop} (ht : t < 7) (hn : M 250 ((1 : Nat) : Int) = ((n : Nat) : Int)) (hn2 : n ≤ 16) (hA : rTe M t n A) (hw : zTw n A) (hq : rQs M Q) (hQ : zQs n Q)
    (hk : ∀ M', (∀ b j, ¬ (b = 250 ∧ j = 52 ∨ ((268 : Nat) : Int) ≤ b ∧ b ≤ ((270 : Nat) : Int) ∨ ((288 : Nat) : Int) ≤ b ∧ b ≤ ((290 : Nat) : Int)) → M' b j = M b j) → K (some (0, ((zhm n A Q : Nat) : Int))) M') : zR O F_Model_harmOf [(2, 250), (0, ((t : Nat) : Int))] M K := by
  have hq10 := hQ.1
  apply r_Model_harmOf hO
  unfold B_Model_harmOf
  have f28 := zMF (k := 28) hS rfl; have f32 := zMF (k := 32) hS rfl; have a277 := zMA (a := 277) (ty := .int) (n := 10) hS rfl; have f29 := zMF (k := 29) hS rfl; have a274 := zMA (a := 274) (ty := .int) (n := 10) hS rfl; have f30 := zMF (k := 30) hS rfl; have a275 := zMA (a := 275) (ty := .int) (n := 10) hS rfl; have f31 := zMF (k := 31) hS rfl; have a276 := zMA (a := 276) (ty := .int) (n := 10) hS rfl; have zo := zMO hS
  ((with_reducible refine i_Seq (i_sCall (i_as1 (i_A0 (i_as1 (i_L1 (i_as0 ?_))))))); (with_reducible refine i_recv0 (by assumption) ?_))
  refine m_sorts hO hS ht hn hn2 hA hw (fun M1 f1' S1 R1 => ⟨rfl, ?_⟩)
  ((with_reducible refine i_Seq (i_Set (i_I (i_Seq (i_Blk (i_Seq (i_Set (i_I ?_)))))))); simp only [w_set0, w_set1, w_setn0, w_setn1])
  refine w_ForN Q.1 (fun i ρ M' => (∃ l, ρ = 250 :: ((t : Nat) : Int) :: ((zsum (fun i => qw Q i * zoF n A (qk Q i) (qa Q i) (qc Q i)) i : Nat) : Int) :: ((i : Nat) : Int) :: l) ∧ (∀ b j, ¬ (b = 250 ∧ j = 52 ∨ ((288 : Nat) : Int) ≤ b ∧ b ≤ ((290 : Nat) : Int)) → M' b j = M1 b j)) ⟨⟨_, rfl⟩, fun _ _ _ => rfl⟩ ?_ ?_
  · rintro i ρ M2 X hi ⟨⟨l, rfl⟩, f2'⟩ hX
    obtain ⟨g1, g2, g3, g4⟩ := hq.2 i hi
    have f21 : ∀ b j, ¬ (b = 250 ∧ j = 52 ∨ ((268 : Nat) : Int) ≤ b ∧ b ≤ ((270 : Nat) : Int) ∨ ((288 : Nat) : Int) ≤ b ∧ b ≤ ((290 : Nat) : Int)) → M2 b j = M b j := fun b j q => by rw [f2' b j (by omega), f1' b j (by omega)]
    have e0 : M2 250 ((28 : Nat) : Int) = ((Q.1 : Nat) : Int) := (f21 _ _ (by omega)).trans hq.1
    have e1 := (f21 ((274 : Nat) : Int) ((i : Nat) : Int) (by omega)).trans g1
    have e2 := (f21 ((275 : Nat) : Int) ((i : Nat) : Int) (by omega)).trans g2
    have e3 := (f21 ((276 : Nat) : Int) ((i : Nat) : Int) (by omega)).trans g3
    have e4 := (f21 ((277 : Nat) : Int) ((i : Nat) : Int) (by omega)).trans g4
    obtain ⟨hq1, hq2⟩ := hQ.2 i hi
    have hb1 := zhm_b (A := A) hn2 hQ i (by omega)
    have hmul : qw Q i * zoF n A (qk Q i) (qa Q i) (qc Q i) ≤ 9 * 62000 := Nat.mul_le_mul hq2 (zoF_b hn2)
    have hX2 : ∀ (l : zLoc) (M' : zMem) (v : Nat), v = zsum (fun i => qw Q i * zoF n A (qk Q i) (qa Q i) (qc Q i)) i + qw Q i * zoF n A (qk Q i) (qa Q i) (qc Q i) → (∀ b j, ¬ (b = 250 ∧ j = 52 ∨ ((288 : Nat) : Int) ≤ b ∧ b ≤ ((290 : Nat) : Int)) → M' b j = M1 b j) → X (250 :: ((t : Nat) : Int) :: ((v : Nat) : Int) :: ((i + 1 : Nat) : Int) :: l) M' := fun l M' v hv hf => by subst hv; exact hX _ _ ⟨⟨l, rfl⟩, hf⟩
    clear hX
    generalize zsum (fun i => qw Q i * zoF n A (qk Q i) (qa Q i) (qc Q i)) i = u at hb1 hX2 ⊢
    ((with_reducible refine i_turn (i_cI_lt (i_L3 (i_F (i_A0 ?_))))); (with_reducible refine i_fld (by assumption) ?_); (rw [e0]); (with_reducible refine i_t (by omega) ?_); (with_reducible refine i_Set (i_Add (i_L2 (i_Mul (i_IA (i_FR (i_A0 ?_))))))); (with_reducible refine i_fldR (by assumption) ?_); (with_reducible refine i_L3 ?_); (with_reducible refine i_in (by assumption) (by omega) (by omega) ?_); (with_reducible refine i_Call (i_as1 (i_A0 (i_as1 (i_L1 (i_as1 (i_IA (i_FR (i_A0 ?_))))))))); (with_reducible refine i_fldR (by assumption) ?_); (with_reducible refine i_L3 ?_); (with_reducible refine i_in (by assumption) (by omega) (by omega) ?_); (with_reducible refine i_as1 (i_IA (i_FR (i_A0 ?_)))); (with_reducible refine i_fldR (by assumption) ?_); (with_reducible refine i_L3 ?_); (with_reducible refine i_in (by assumption) (by omega) (by omega) ?_); (with_reducible refine i_as1 (i_IA (i_FR (i_A0 ?_)))); (with_reducible refine i_fldR (by assumption) ?_); (with_reducible refine i_L3 ?_); (with_reducible refine i_in (by assumption) (by omega) (by omega) ?_); (with_reducible refine i_as0 ?_); (with_reducible refine i_recv0 (by assumption) ?_); (rw [e1]); (rw [e2]); (rw [e3]); (rw [e4]); simp only [w_set0, w_set1, w_setn0, w_setn1])
    refine m_offOf hO hS ht (show M2 250 ((1 : Nat) : Int) = ((n : Nat) : Int) from (f21 _ _ (by omega)).trans hn) hn2 (hA.to hn2 hw (fun b j q => f21 b j (by omega))) hw (S1.to (fun j => f2' _ _ (by omega))) (fun k hk1 => by rw [f2' _ _ (by omega), f2' _ _ (by omega)]; exact R1 k hk1) hq1 (fun M3 f3 => ⟨_, rfl, ?_⟩)
    generalize zoF n A (qk Q i) (qa Q i) (qc Q i) = v at hmul hX2 ⊢
    ((with_reducible refine i_up (i_Inc3 ?_)); (rw [zx_mul (by omega)]); rw [zx_inc (by omega)]; rw [zx_add (by omega)]; simp only [w_set0, w_set1, w_setn0, w_setn1])
    exact hX2 _ _ _ rfl (fun b j q => by rw [f3 b j (by omega), f2' b j q])
  · rintro ρ M2 X ⟨⟨l, rfl⟩, f2'⟩
    have e0 : M2 250 ((28 : Nat) : Int) = ((Q.1 : Nat) : Int) := by rw [f2' _ _ (by omega), f1' _ _ (by omega)]; exact hq.1
    ((with_reducible refine i_turn (i_cI_lt (i_L3 (i_F (i_A0 ?_))))); (with_reducible refine i_fld (by assumption) ?_); (rw [e0]); (with_reducible refine i_f (by omega) ?_); (with_reducible refine i_RetI (i_L2 ?_)))
    exact hk M2 (fun b j q => by rw [f2' b j (by omega), f1' b j (by omega)])
/-- does it lead: with the k-th except told besides it is less far off -/
def zld (n : Nat) (A : zTl) (kind a b : Nat) (c : Nat) : Bool := tX A c && (decide (tv A (c / 16) (c % 16) = 2) && decide (zoF n (zTv A (zv1 A c 1)) kind a b < zoF n A kind a b))
/-- those led to ahead of the k-th -/
def zldC (n : Nat) (A : zTl) (kind a b k : Nat) : Nat := zcnt (fun c => zld n A kind a b c && decide (zcnt (tX A) c < k)) 256
theorem zldC_su {n : Nat} {A : zTl} {kind a b c k : Nat} (hc : c < 256) (hX : tX A c = true) (hk : zcnt (tX A) c = k) : zldC n A kind a b (k + 1) = zldC n A kind a b k + (if zld n A kind a b c = true then 1 else 0) := by
  have hin : ∀ d, zld n A kind a b d = true → zcnt (tX A) d = k → d = c := fun d h1 h2 => by
    unfold zld at h1
    rw [Bool.and_eq_true] at h1
    exact zcnt_inj (tX A) h1.1 hX (by rw [h2, hk])
  unfold zldC
  by_cases e : zld n A kind a b c = true
  · have h := zcnt_ins (W := fun d => zld n A kind a b d && decide (zcnt (tX A) d < k)) (c := c) (by rw [decide_eq_false (show ¬ zcnt (tX A) c < k by omega), Bool.and_false]) 256
    rw [if_pos hc] at h
    rw [if_pos e, ← h]
    refine zcnt_ext fun d _ => ?_
    by_cases z : d = c
    · subst z
      rw [e, decide_eq_true (show zcnt (tX A) d < k + 1 by omega), decide_eq_true (show d = d from rfl), Bool.or_true]; rfl
    · rw [decide_eq_false z, Bool.or_false]
      cases w : zld n A kind a b d
      · rfl
      · have : zcnt (tX A) d ≠ k := fun y => z (hin d w y)
        rw [decide_eq_decide.mpr (show zcnt (tX A) d < k + 1 ↔ zcnt (tX A) d < k by omega)]
  · rw [if_neg e]
    refine Eq.trans ?_ (Nat.add_zero _).symm
    exact zcnt_ext (s := fun c => zld n A kind a b c && decide (zcnt (tX A) c < k + 1)) (t := fun c => zld n A kind a b c && decide (zcnt (tX A) c < k)) (n := 256) fun d _ => by
      cases w : zld n A kind a b d
      · rw [Bool.false_and, Bool.false_and]
      · have : zcnt (tX A) d ≠ k := fun y => e (by rw [← hin d w y]; exact w)
        rw [decide_eq_decide.mpr (show zcnt (tX A) d < k + 1 ↔ zcnt (tX A) d < k by omega)]
theorem zldC_0 (n : Nat) (A : zTl) (kind a b : Nat) : zldC n A kind a b 0 = 0 := zcnt_z fun c _ => by rw [decide_eq_false (Nat.not_lt_zero _), Bool.and_false]
theorem zldC_le (n : Nat) (A : zTl) (kind a b k : Nat) (hk : k ≤ zcnt (tX A) 256) : zldC n A kind a b k ≤ k := by
  induction k with
  | zero => rw [zldC_0]; exact Nat.le_refl _
  | succ k ih =>
    obtain ⟨c, c1, c2, c3⟩ := zkth (s := tX A) (show k < zcnt (tX A) 256 by omega)
    have := ih (by omega)
    rw [zldC_su c1 c2 c3]
    split <;> omega
theorem m_leadOf {O : zOm} (hO : zWld O) (hS : zS O = zmS zC0) {t n kind a b' : Nat} {b i : Int} {A : zTl} {M : zMem} {K : Option zV → zMem → Prop} (ht : t < 7) (hn : M 250 ((1 : Nat) : Int) = ((n : Nat) : Int)) (hn2 : n ≤ 16) (hA : rTe M t n A) (hw : zTw n A) (hQ : zQok n kind a b b')
    (hk : ∀ M' x, (∀ b j, ¬ (b = 250 ∧ j = 52 ∨ b = 250 ∧ j = 55 ∨ ((268 : Nat) : Int) ≤ b ∧ b ≤ ((270 : Nat) : Int) ∨ ((288 : Nat) : Int) ≤ b ∧ b ≤ ((290 : Nat) : Int)) → M' b j = M b j) → M' 250 ((55 : Nat) : Int) = ((zldC n A kind a b' (zcnt (tX A) 256) : Nat) : Int) → ((x = -1 ∧ ∀ k, k < zcnt (tX A) 256 → zldC n A kind a b' (k + 1) ≠ zldC n A kind a b' k → ((zldC n A kind a b' k : Nat) : Int) ≠ i) ∨ ∃ k : Nat, x = ((k : Nat) : Int) ∧ k < zcnt (tX A) 256 ∧ zldC n A kind a b' (k + 1) = zldC n A kind a b' k + 1 ∧ ((zldC n A kind a b' k : Nat) : Int) = i) → K (some (0, x)) M') : zR O F_Model_leadOf [(2, 250), (0, ((t : Nat) : Int)), (0, ((kind : Nat) : Int)), (0, ((a : Nat) : Int)), (0, b), (0, i)] M K := by
  have hoff := zoF_b (n := n) (A := A) (kind := kind) (a := a) (b' := b') hn2
  apply r_Model_leadOf hO
  unfold B_Model_leadOf
  have f55 := zMF (k := 55) hS rfl; have f20 := zMF (k := 20) hS rfl; have a266 := zMA (a := 266) (ty := .int) (n := 1792) hS rfl; have zo := zMO hS
  ((with_reducible refine i_Seq (i_sCall (i_as1 (i_A0 (i_as1 (i_L1 (i_as0 ?_))))))); (with_reducible refine i_recv0 (by assumption) ?_))
  refine m_sorts hO hS ht hn hn2 hA hw (fun M1 f1' S1 R1 => ⟨rfl, ?_⟩)
  have hA1 : rTe M1 t n A := hA.to hn2 hw (fun b j q => f1' b j (by omega))
  ((with_reducible refine i_Seq (i_Set (i_Call (i_as1 (i_A0 (i_as1 (i_L1 (i_as1 (i_L2 (i_as1 (i_L3 (i_as1 (i_L4 (i_as0 ?_)))))))))))))); (with_reducible refine i_recv0 (by assumption) ?_); simp only [w_set0, w_set1, w_setn0, w_setn1])
  refine m_offOf hO hS ht (show M1 250 ((1 : Nat) : Int) = ((n : Nat) : Int) from (f1' _ _ (by omega)).trans hn) hn2 hA1 hw S1 R1 hQ (fun M2 f2' => ⟨_, rfl, ?_⟩)
  have hA2 : rTe M2 t n A := hA1.to hn2 hw (fun b j q => f2' b j (by omega))
  ((with_reducible refine i_Seq (i_Set (i_I (i_Seq (i_Set (i_Call (i_as1 ?_))))))); simp only [w_set0, w_set1, w_setn0, w_setn1]; (with_reducible refine i_A0 (i_as1 (i_L1 (i_as0 ?_)))); (with_reducible refine i_recv0 (by assumption) ?_); simp only [w_set0, w_set1, w_setn0, w_setn1])
  refine m_exceptsOf hO hS ht hA2 hw ⟨_, rfl, ?_⟩
  have fr2 : ∀ b j, ¬ (b = 250 ∧ j = 52 ∨ b = 250 ∧ j = 55 ∨ ((268 : Nat) : Int) ≤ b ∧ b ≤ ((270 : Nat) : Int) ∨ ((288 : Nat) : Int) ≤ b ∧ b ≤ ((290 : Nat) : Int)) → M2 b j = M b j := fun b j q => by rw [f2' b j (by omega), f1' b j (by omega)]
  clear f1' f2' S1 R1 hA1 hA2
  have hE := zcnt_le (tX A) 256
  have hldle := fun k hk => zldC_le n A kind a b' k hk
  generalize hEE : zcnt (tX A) 256 = E at hk hE hldle ⊢
  ((with_reducible refine i_Seq (i_sF (i_A0 (i_I ?_)))); (with_reducible refine i_fld (by assumption) ?_); (with_reducible refine i_Seq (i_Blk (i_Seq (i_Set (i_I ?_))))); simp only [w_set0, w_set1, w_setn0, w_setn1])
  refine w_ForN E (fun k ρ M' => (∃ x l, ρ = 250 :: ((t : Nat) : Int) :: ((kind : Nat) : Int) :: ((a : Nat) : Int) :: b :: i :: ((zoF n A kind a b' : Nat) : Int) :: x :: ((E : Nat) : Int) :: ((k : Nat) : Int) :: l ∧ ((x = -1 ∧ ∀ j, j < k → zldC n A kind a b' (j + 1) ≠ zldC n A kind a b' j → ((zldC n A kind a b' j : Nat) : Int) ≠ i) ∨ ∃ j : Nat, x = ((j : Nat) : Int) ∧ j < k ∧ zldC n A kind a b' (j + 1) = zldC n A kind a b' j + 1 ∧ ((zldC n A kind a b' j : Nat) : Int) = i)) ∧ (∀ b j, ¬ (b = 250 ∧ j = 52 ∨ b = 250 ∧ j = 55 ∨ ((268 : Nat) : Int) ≤ b ∧ b ≤ ((270 : Nat) : Int) ∨ ((288 : Nat) : Int) ≤ b ∧ b ≤ ((290 : Nat) : Int)) → M' b j = M b j) ∧ M' 250 ((55 : Nat) : Int) = ((zldC n A kind a b' k : Nat) : Int)) ⟨⟨_, _, rfl, Or.inl ⟨rfl, fun j h => absurd h (Nat.not_lt_zero _)⟩⟩, fun b j q => by rw [zg_o _ _ (by omega)]; exact fr2 b j q, by rw [zldC_0]; exact zg_s _ _ _ _ _⟩ ?_ ?_
  · clear fr2
    rintro k ρ M3 X hk1 ⟨⟨x, l, rfl, hx⟩, f3, w3⟩ hX
    obtain ⟨c, c1, c2, c3⟩ := zkth (s := tX A) (n := 256) (show k < zcnt (tX A) 256 by rw [hEE]; exact hk1)
    have hA3 : rTe M3 t n A := hA.to hn2 hw (fun b j q => f3 b j (by omega))
    have hp : zpk (tX A) ((k : Nat) : Int) 256 = ((c : Nat) : Int) := zpk_some c1 c2 (by omega)
    have gv : M3 ((266 : Nat) : Int) ((256 * t + c : Nat) : Int) = ((tv A (c / 16) (c % 16) : Nat) : Int) := by
      have := hA3.2.2.2 (c / 16) (c % 16) (by omega) (by omega)
      rwa [show 256 * t + 16 * (c / 16) + c % 16 = 256 * t + c by omega] at this
    have hsu_ := zldC_su (n := n) (kind := kind) (a := a) (b := b') c1 c2 c3
    have hsu := hsu_
    clear hsu_
    have hcl : zldC n A kind a b' k ≤ k := hldle k (by omega)
    have same : zldC n A kind a b' (k + 1) = zldC n A kind a b' k → ∀ (l : zLoc) (M' : zMem), (∀ b j, ¬ (b = 250 ∧ j = 52 ∨ b = 250 ∧ j = 55 ∨ ((268 : Nat) : Int) ≤ b ∧ b ≤ ((270 : Nat) : Int) ∨ ((288 : Nat) : Int) ≤ b ∧ b ≤ ((290 : Nat) : Int)) → M' b j = M b j) → M' 250 ((55 : Nat) : Int) = ((zldC n A kind a b' k : Nat) : Int) → X (250 :: ((t : Nat) : Int) :: ((kind : Nat) : Int) :: ((a : Nat) : Int) :: b :: i :: ((zoF n A kind a b' : Nat) : Int) :: x :: ((E : Nat) : Int) :: ((k + 1 : Nat) : Int) :: l) M' := fun e l M' hf h55 => by
      refine hX _ _ ⟨⟨x, l, rfl, ?_⟩, hf, by rw [e]; exact h55⟩
      rcases hx with ⟨h1, h2⟩ | ⟨j, h1, h2, h3⟩
      · refine Or.inl ⟨h1, fun j hj hne => ?_⟩
        by_cases z : j = k
        · subst z; exact absurd e hne
        · exact h2 j (by omega) hne
      · exact Or.inr ⟨j, h1, by omega, h3⟩
    by_cases e2 : tv A (c / 16) (c % 16) = 2
    · have hu := rTe.up (x := 1) ht c1 hA3
      have hw2 := zv1_w hw c2 (show 1 ≤ 2 by omega)
      rw [e2] at gv
      ((with_reducible refine i_turn (i_cI_lt (i_L9 (i_L8 ?_)))); (with_reducible refine i_t (by omega) ?_); (with_reducible refine i_Blk (i_Seq (i_Set (i_Add (i_Mul (i_I (i_L1 (i_Call (i_as1 (i_A0 (i_as1 (i_L1 (i_as1 (i_L9 (i_as0 ?_))))))))))))))); (with_reducible refine i_recv0 (by assumption) ?_); (refine m_exceptAt hO hS ht hA3 hw (by omega) ⟨_, rfl, ?_⟩); (with_reducible refine i_Seq (i_IfBrk (i_cI_ne (i_IA (i_FR ?_))))); (rw [hp]); rw [zx_cmul (by omega)]; rw [zx_add (by omega)]; simp only [w_set0, w_set1, w_setn0, w_setn1]; (with_reducible refine i_A0 ?_); (with_reducible refine i_fldR (by assumption) ?_); rw [w_setT]; (with_reducible refine i_L10 ?_); (with_reducible refine i_in (by assumption) (by omega) (by omega) ?_); (with_reducible refine i_I ?_); (rw [gv]); (with_reducible refine i_f (by omega) ?_); (with_reducible refine i_Seq (i_sIA (i_FR (i_A0 ?_)))); (with_reducible refine i_fldR (by assumption) ?_); (with_reducible refine i_L10 (i_I ?_)); (with_reducible refine i_in (by assumption) (by omega) (by omega) ?_); (with_reducible refine i_Seq (i_sCall (i_as1 (i_A0 (i_as1 (i_L1 (i_as0 ?_))))))); (with_reducible refine i_recv0 (by assumption) ?_))
      refine m_sorts hO hS ht (show (zput M3 ((266 : Nat) : Int) (zup (M3 ((266 : Nat) : Int)) ((256 * t + c : Nat) : Int) 1)) 250 ((1 : Nat) : Int) = ((n : Nat) : Int) by rw [zg_n _ _ _ (by omega), f3 _ _ (by omega)]; exact hn) hn2 hu hw2 (fun M4 f4 S4 R4 => ⟨rfl, ?_⟩)
      have hA4 : rTe M4 t n (zTv A (zv1 A c 1)) := hu.to hn2 hw2 (fun b j q => f4 b j (by omega))
      have gn4 : M4 250 ((1 : Nat) : Int) = ((n : Nat) : Int) := by rw [f4 _ _ (by omega), zg_n _ _ _ (by omega), f3 _ _ (by omega)]; exact hn
      ((with_reducible refine i_Seq (i_Set (i_eIf (i_cI_lt (i_Call (i_as1 (i_A0 (i_as1 (i_L1 (i_as1 (i_L2 (i_as1 (i_L3 (i_as1 (i_L4 (i_as0 ?_)))))))))))))))); (with_reducible refine i_recv0 (by assumption) ?_))
      refine m_offOf hO hS ht gn4 hn2 hA4 hw2 S4 R4 hQ (fun M5 f5 => ⟨_, rfl, ?_⟩)
      have hoff2 := zoF_b (n := n) (A := zTv A (zv1 A c 1)) (kind := kind) (a := a) (b' := b') hn2
      have w5 : M5 250 ((55 : Nat) : Int) = ((zldC n A kind a b' k : Nat) : Int) := by rw [f5 _ _ (by omega), f4 _ _ (by omega), zg_n _ _ _ (by omega)]; exact w3
      have f53 : ∀ b j, ¬ (b = 250 ∧ j = 52 ∨ b = 250 ∧ j = 55 ∨ ((268 : Nat) : Int) ≤ b ∧ b ≤ ((270 : Nat) : Int) ∨ ((288 : Nat) : Int) ≤ b ∧ b ≤ ((290 : Nat) : Int)) → zput M5 ((266 : Nat) : Int) (zup (M5 ((266 : Nat) : Int)) ((256 * t + c : Nat) : Int) 2) b j = M b j := fun b j q => by
        by_cases z : b = ((266 : Nat) : Int) ∧ j = ((256 * t + c : Nat) : Int)
        · rw [z.1, z.2, zg_s, ← f3 _ _ (by omega), gv]; rfl
        · rw [zg_o _ _ z, f5 b j (by omega), f4 b j (by omega), zg_o _ _ z]; exact f3 b j q
      by_cases e3 : zoF n (zTv A (zv1 A c 1)) kind a b' < zoF n A kind a b'
      · have hl : zld n A kind a b' c = true := by unfold zld; rw [c2, decide_eq_true e2, decide_eq_true e3]; rfl
        rw [hl, if_pos rfl] at hsu
        have w55 : zput M5 ((266 : Nat) : Int) (zup (M5 ((266 : Nat) : Int)) ((256 * t + c : Nat) : Int) 2) 250 ((55 : Nat) : Int) = ((zldC n A kind a b' k : Nat) : Int) := by rw [zg_n _ _ _ (by omega)]; exact w5
        have fin : ∀ (l : zLoc) (y : Int) (M' : zMem), (∀ b j, ¬ (b = 250 ∧ j = 55) → M' b j = zput M5 ((266 : Nat) : Int) (zup (M5 ((266 : Nat) : Int)) ((256 * t + c : Nat) : Int) 2) b j) → M' 250 ((55 : Nat) : Int) = ((zldC n A kind a b' k + 1 : Nat) : Int) → (((zldC n A kind a b' k : Nat) : Int) = i ∧ y = ((k : Nat) : Int) ∨ ¬ ((zldC n A kind a b' k : Nat) : Int) = i ∧ y = x) → X (250 :: ((t : Nat) : Int) :: ((kind : Nat) : Int) :: ((a : Nat) : Int) :: b :: i :: ((zoF n A kind a b' : Nat) : Int) :: y :: ((E : Nat) : Int) :: ((k + 1 : Nat) : Int) :: l) M' := fun l y M' hf h55 hy => by
          refine hX _ _ ⟨⟨y, l, rfl, ?_⟩, fun b j q => by rw [hf b j (by omega)]; exact f53 b j q, by rw [hsu]; exact h55⟩
          rcases hy with ⟨y1, y2⟩ | ⟨y1, y2⟩
          · exact Or.inr ⟨k, y2, by omega, hsu, y1⟩
          · rw [y2]
            rcases hx with ⟨h1, h2⟩ | ⟨j, h1, h2, h3⟩
            · refine Or.inl ⟨h1, fun j hj hne => ?_⟩
              by_cases z : j = k
              · subst z; exact y1
              · exact h2 j (by omega) hne
            · exact Or.inr ⟨j, h1, by omega, h3⟩
        clear hX same
        ((with_reducible refine i_L6 ?_); (with_reducible refine i_t (by omega) ?_); (with_reducible refine i_I (i_Seq (i_sIA (i_FR ?_)))); simp only [w_set0, w_set1, w_setn0, w_setn1]; (with_reducible refine i_A0 ?_); (with_reducible refine i_fldR (by assumption) ?_); (with_reducible refine i_L10 (i_I ?_)); (with_reducible refine i_in (by assumption) (by omega) (by omega) ?_); (with_reducible refine i_Seq (i_IfBrk (i_cNot (i_cZ_ne ?_)))); rw [w_setT]; (with_reducible refine i_L11 ?_); (with_reducible refine i_t (by omega) ?_); (with_reducible refine i_Seq (i_If (i_cI_eq (i_F (i_A0 ?_))))); (with_reducible refine i_fld (by assumption) ?_); (with_reducible refine i_L5 ?_); rw [zg_n _ _ _ (by omega)])
        generalize zput M5 ((266 : Nat) : Int) (zup (M5 ((266 : Nat) : Int)) ((256 * t + c : Nat) : Int) 2) = M6 at w55 fin f53 ⊢
        by_cases e4 : ((zldC n A kind a b' k : Nat) : Int) = i
        · ((with_reducible refine i_t (by omega) ?_); (with_reducible refine i_Set (i_L9 (i_FO ?_))); simp only [w_set0, w_set1, w_setn0, w_setn1]; (with_reducible refine i_A0 ?_); (with_reducible refine i_fld (by assumption) ?_); (with_reducible refine i_I ?_); (with_reducible refine i_fld (by assumption) ?_); (with_reducible refine i_up (i_Inc9 ?_)); (rw [w55]); rw [zx_inc (by omega)]; rw [zx_inc (by omega)]; simp only [w_set0, w_set1, w_setn0, w_setn1])
          exact fin _ _ _ (fun b j q => by rw [zg_o _ _ (by omega)]) (zg_s _ _ _ _ _) (Or.inl ⟨e4, rfl⟩)
        · ((with_reducible refine i_f (by omega) ?_); (with_reducible refine i_FO (i_A0 ?_)); (with_reducible refine i_fld (by assumption) ?_); (with_reducible refine i_I ?_); (with_reducible refine i_fld (by assumption) ?_); (with_reducible refine i_up (i_Inc9 ?_)); (rw [w55]); rw [zx_inc (by omega)]; rw [zx_inc (by omega)]; simp only [w_set0, w_set1, w_setn0, w_setn1])
          exact fin _ _ _ (fun b j q => by rw [zg_o _ _ (by omega)]) (zg_s _ _ _ _ _) (Or.inr ⟨e4, rfl⟩)
      · have hl : zld n A kind a b' c = false := by unfold zld; rw [decide_eq_false e3, Bool.and_false, Bool.and_false]
        rw [hl, if_neg (by decide)] at hsu
        replace hsu := hsu.trans (Nat.add_zero _)
        ((with_reducible refine i_L6 ?_); (with_reducible refine i_f (by omega) ?_); (with_reducible refine i_I (i_Seq (i_sIA (i_FR ?_)))); simp only [w_set0, w_set1, w_setn0, w_setn1]; (with_reducible refine i_A0 ?_); (with_reducible refine i_fldR (by assumption) ?_); (with_reducible refine i_L10 (i_I ?_)); (with_reducible refine i_in (by assumption) (by omega) (by omega) ?_); (with_reducible refine i_Seq (i_IfBrk (i_cNot (i_cZ_ne ?_)))); rw [w_setT]; (with_reducible refine i_L11 ?_); (with_reducible refine i_f (by omega) ?_); (with_reducible refine i_lab1 (i_up (i_Inc9 ?_))); rw [zx_inc (by omega)]; simp only [w_set0, w_set1, w_setn0, w_setn1])
        exact same hsu _ _ f53 (by rw [zg_n _ _ _ (by omega)]; exact w5)
    · have hl : zld n A kind a b' c = false := by unfold zld; rw [decide_eq_false e2]; simp
      rw [hl, if_neg (by decide)] at hsu
      replace hsu := hsu.trans (Nat.add_zero _)
      ((with_reducible refine i_turn (i_cI_lt (i_L9 (i_L8 ?_)))); (with_reducible refine i_t (by omega) ?_); (with_reducible refine i_Blk (i_Seq (i_Set (i_Add (i_Mul (i_I (i_L1 (i_Call (i_as1 (i_A0 (i_as1 (i_L1 (i_as1 (i_L9 (i_as0 ?_))))))))))))))); (with_reducible refine i_recv0 (by assumption) ?_); (refine m_exceptAt hO hS ht hA3 hw (by omega) ⟨_, rfl, ?_⟩); (with_reducible refine i_Seq (i_IfBrk (i_cI_ne (i_IA (i_FR ?_))))); (rw [hp]); rw [zx_cmul (by omega)]; rw [zx_add (by omega)]; simp only [w_set0, w_set1, w_setn0, w_setn1]; (with_reducible refine i_A0 ?_); (with_reducible refine i_fldR (by assumption) ?_); rw [w_setT]; (with_reducible refine i_L10 ?_); (with_reducible refine i_in (by assumption) (by omega) (by omega) ?_); (with_reducible refine i_I ?_); (rw [gv]); ((with_reducible refine i_t (show (((tv A (c / 16) (c % 16) : Nat) : Int) : Int) ≠ 2 by omega) ?_)); (with_reducible refine i_lab1 (i_up (i_Inc9 ?_))); rw [zx_inc (by omega)]; simp only [w_set0, w_set1, w_setn0, w_setn1])
      exact same hsu _ _ f3 w3
  · rintro ρ M3 X ⟨⟨x, l, rfl, hx⟩, f3, w3⟩
    ((with_reducible refine i_turn (i_cI_lt (i_L9 (i_L8 ?_)))); (with_reducible refine i_f (by omega) ?_); (with_reducible refine i_RetI (i_L7 ?_)))
    exact hk M3 x f3 w3 hx
