/-! ===== what a text tells: the class ===== -/
def urk (Z : zZt) (b : Nat) : Nat := zcnt (zNew (un Z)) b
def upb (Z : zZt) (b : Nat) : Nat := zcnt (fun q => decide (uo Z q < b)) 16
def uM (Z : zZt) (w : Nat × Nat × Nat) : Nat × Nat × Nat := if w.1 = 2 then (2, w.2.1, urk Z w.2.2) else (w.1, urk Z w.2.1, if w.1 = 1 then urk Z w.2.2 else 0)
def cZb (M : zMem) (Z : zZt) : Prop := M ((92 : Nat) : Int) ((10 : Nat) : Int) = ((urk Z (ub Z) : Nat) : Int) ∧ ∀ b : Nat, b < ub Z → zNew (un Z) b = true → M ((93 : Nat) : Int) ((urk Z b : Nat) : Int) = ((un Z b : Nat) : Int) ∧ M ((94 : Nat) : Int) ((urk Z b : Nat) : Int) = zmk (fun q => decide (uo Z q = b)) ∧ M ((95 : Nat) : Int) ((urk Z b : Nat) : Int) = ((upb Z b : Nat) : Int) ∧ M ((96 : Nat) : Int) ((urk Z b : Nat) : Int) = ((zSz (uo Z) 16 b : Nat) : Int)
/-- the names alone -/
def cZm (M : zMem) (Z : zZt) : Prop := M ((92 : Nat) : Int) ((10 : Nat) : Int) = ((urk Z (ub Z) : Nat) : Int) ∧ ∀ b : Nat, b < ub Z → zNew (un Z) b = true → M ((93 : Nat) : Int) ((urk Z b : Nat) : Int) = ((un Z b : Nat) : Int)
theorem cZb.nm {M : zMem} {Z : zZt} (h : cZb M Z) : cZm M Z := ⟨h.1, fun b hb hn => (h.2 b hb hn).1⟩
def cZo (M : zMem) (Z : zZt) : Prop := M ((92 : Nat) : Int) ((11 : Nat) : Int) = ((upb Z (ub Z) : Nat) : Int) ∧ M ((92 : Nat) : Int) ((12 : Nat) : Int) = zmk (fun q => decide (uo Z q ≠ 999)) ∧ ∀ q : Nat, q < 16 → uo Z q ≠ 999 → M ((97 : Nat) : Int) ((upb Z (uo Z q) + ul Z q : Nat) : Int) = ((q : Nat) : Int)
def cZw (M : zMem) (Z : zZt) : Prop := ∃ (wc : Nat) (C : Nat → Nat × Nat × Nat), M ((92 : Nat) : Int) ((13 : Nat) : Int) = ((wc : Nat) : Int) ∧ wc ≤ uk Z ∧ (∀ j : Nat, j < wc → M ((98 : Nat) : Int) ((j : Nat) : Int) = (((C j).1 : Nat) : Int) ∧ M ((99 : Nat) : Int) ((j : Nat) : Int) = (((C j).2.1 : Nat) : Int) ∧ M ((100 : Nat) : Int) ((j : Nat) : Int) = (((C j).2.2 : Nat) : Int)) ∧ (∀ j, j < wc → ∃ k, k < uk Z ∧ C j = uM Z (uw Z k)) ∧ (∀ k, k < uk Z → ∃ j, j < wc ∧ C j = uM Z (uw Z k)) ∧ ∀ i j, i < j → j < wc → C i ≠ C j
def cZf (M : zMem) (F : Nat) : Prop := M ((92 : Nat) : Int) ((14 : Nat) : Int) = ((zFf F : Nat) : Int) ∧ M ((92 : Nat) : Int) ((15 : Nat) : Int) = zFq F
def cZn (M : zMem) (n : Nat) (Z : zZt) : Prop := M ((92 : Nat) : Int) ((9 : Nat) : Int) = ((n : Nat) : Int) ∧ zNR M 101 n (fun p q => decide (p ≠ q) && usd Z p q) ∧ zNR M 103 n (fun p q => decide (p ≠ q) && upr Z p q)
def cZt (M : zMem) (n : Nat) (Z : zZt) : Prop := cZn M n Z ∧ cZb M Z ∧ cZo M Z ∧ cZw M Z ∧ cZf M (uF Z)
def cTa (M : zMem) (B : Nat → Nat) (s : Nat) : Prop := M ((86 : Nat) : Int) ((6 : Nat) : Int) = ((zhh B s : Nat) : Int) ∧ M ((86 : Nat) : Int) ((5 : Nat) : Int) = ((s : Nat) : Int) ∧ ∀ j, j < zhh B s → cTk1 M B s j
theorem cTa.to {M M' : zMem} {B : Nat → Nat} {s : Nat} (h : cTa M B s) (e : ∀ b j, b = ((86 : Nat) : Int) ∨ ((88 : Nat) : Int) ≤ b ∧ b ≤ ((90 : Nat) : Int) → M' b j = M b j) : cTa M' B s := ⟨by rw [e _ _ (by omega)]; exact h.1, by rw [e _ _ (by omega)]; exact h.2.1, fun j hj => by
  obtain ⟨a, b, c⟩ := h.2.2 j hj
  exact ⟨by rw [e _ _ (by omega)]; exact a, by rw [e _ _ (by omega)]; exact b, fun z => by rw [e _ _ (by omega)]; exact c z⟩⟩
theorem zKi_0 {B : Nat → Nat} {s i : Nat} (h : zKi B s i = 0) : zsr B s (zps B s i) = 1 := by
  unfold zKi zkd at h
  split at h
  · assumption
  · split at h
    · split at h <;> omega
    · split at h <;> omega
theorem zKi_1 {B : Nat → Nat} {s i : Nat} (h : zKi B s i = 1) : zsr B s (zps B s i) = 2 ∧ zen B s (zps B s i) - zps B s i ≤ 4 := by
  unfold zKi zkd at h
  split at h
  · split at h
    · omega
    · have := zwn_le (zkvl B s (zps B s i) (zen B s (zps B s i)))
      omega
  · split at h
    · split at h
      · omega
      · exact ⟨by assumption, by omega⟩
    · split at h <;> omega
theorem zVi_1 {B : Nat → Nat} {s i : Nat} (hi : i < zhh B s) (h : zKi B s i = 1) : zVi B s i < 10000 := by
  obtain ⟨h1, h2⟩ := zKi_1 h
  exact ((zVi_lt ((zhh_ok B s).2.1 i hi).1 rfl).2 h1).2 h2
theorem cTa.v0 {M : zMem} {B : Nat → Nat} {s i : Nat} (h : cTa M B s) (hi : i < zhh B s) (hk : zKi B s i = 0) : M ((90 : Nat) : Int) ((i : Nat) : Int) = ((zVi B s i : Nat) : Int) := (h.2.2 i hi).2.2 (Or.inl (zKi_0 hk))
theorem cTa.v1 {M : zMem} {B : Nat → Nat} {s i : Nat} (h : cTa M B s) (hi : i < zhh B s) (hk : zKi B s i = 1) : M ((90 : Nat) : Int) ((i : Nat) : Int) = ((zVi B s i : Nat) : Int) := (h.2.2 i hi).2.2 (Or.inr (zKi_1 hk).1)
theorem zNet101 {S : List zSh} (hS : S = zmS zC0) : zNet S 101 := zNetB.to hS (by decide +kernel)
theorem zNet103 {S : List zSh} (hS : S = zmS zC0) : zNet S 103 := zNetB.to hS (by decide +kernel)
/-- the cells that the class's tells may change -/
def cXF (M M' : zMem) : Prop := ∀ b j, ¬ (((92 : Nat) : Int) ≤ b ∧ b ≤ ((104 : Nat) : Int)) → M' b j = M b j
theorem cXF.rf (M : zMem) : cXF M M := fun _ _ _ => rfl
theorem cXF.tr {M M1 M2 : zMem} (h1 : cXF M M1) (h2 : cXF M1 M2) : cXF M M2 := fun b j q => (h2 b j q).trans (h1 b j q)
theorem cXF.bl {M M1 : zMem} (h : ∀ b j, ¬ (b = ((92 : Nat) : Int) ∧ (j = 14 ∨ j = 15)) → M1 b j = M b j) : cXF M M1 := fun b j q => h b j (by omega)
theorem cZn.to {M M' : zMem} {n : Nat} {Z Z' : zZt} (h : cZn M n Z) (e : ∀ b j, b = ((92 : Nat) : Int) ∧ j = 9 ∨ ((101 : Nat) : Int) ≤ b ∧ b ≤ ((104 : Nat) : Int) → M' b j = M b j) (e1 : ∀ p q, usd Z' p q = usd Z p q) (e2 : ∀ p q, upr Z' p q = upr Z p q) : cZn M' n Z' := by
  obtain ⟨a, b, c⟩ := h
  refine ⟨by rw [e _ _ (by omega)]; exact a, ?_, ?_⟩
  · refine zNR.ext (T := fun p q => decide (p ≠ q) && usd Z p q) ⟨by rw [e _ _ (by omega)]; exact b.1, fun p hp => by rw [e _ _ (by omega)]; exact b.2 p hp⟩ (fun p q _ _ => by rw [e1])
  · refine zNR.ext (T := fun p q => decide (p ≠ q) && upr Z p q) ⟨by rw [e _ _ (by omega)]; exact c.1, fun p hp => by rw [e _ _ (by omega)]; exact c.2 p hp⟩ (fun p q _ _ => by rw [e2])
theorem cZm.to {M M' : zMem} {Z Z' : zZt} (h : cZm M Z) (e : ∀ b j, b = ((92 : Nat) : Int) ∧ j = 10 ∨ b = ((93 : Nat) : Int) → M' b j = M b j) (ez : Z'.1 = Z.1) : cZm M' Z' := by
  unfold cZm urk ub un at h ⊢
  rw [ez]
  exact ⟨by rw [e _ _ (by omega)]; exact h.1, fun b hb hn => by rw [e _ _ (by omega)]; exact h.2 b hb hn⟩
theorem cZb.to {M M' : zMem} {Z Z' : zZt} (h : cZb M Z) (e : ∀ b j, b = ((92 : Nat) : Int) ∧ j = 10 ∨ ((93 : Nat) : Int) ≤ b ∧ b ≤ ((96 : Nat) : Int) → M' b j = M b j) (ez : Z'.1 = Z.1) : cZb M' Z' := by
  unfold cZb urk upb ub un uo at h ⊢
  rw [ez]
  exact ⟨by rw [e _ _ (by omega)]; exact h.1, fun b hb hn => by rw [e _ _ (by omega), e _ _ (by omega), e _ _ (by omega), e _ _ (by omega)]; exact h.2 b hb hn⟩
theorem cZo.to {M M' : zMem} {Z Z' : zZt} (h : cZo M Z) (e : ∀ b j, b = ((92 : Nat) : Int) ∧ (j = 11 ∨ j = 12) ∨ b = ((97 : Nat) : Int) → M' b j = M b j) (ez : Z'.1 = Z.1) : cZo M' Z' := by
  unfold cZo upb ub uo ul at h ⊢
  rw [ez]
  exact ⟨by rw [e _ _ (by omega)]; exact h.1, by rw [e _ _ (by omega)]; exact h.2.1, fun q hq hn => by rw [e _ _ (by omega)]; exact h.2.2 q hq hn⟩
theorem cZw.to {M M' : zMem} {Z Z' : zZt} (h : cZw M Z) (e : ∀ b j, b = ((92 : Nat) : Int) ∧ j = 13 ∨ ((98 : Nat) : Int) ≤ b ∧ b ≤ ((100 : Nat) : Int) → M' b j = M b j) (ez : Z'.2.1 = Z.2.1) (em : ∀ k, k < uk Z → uM Z' (uw Z k) = uM Z (uw Z k)) : cZw M' Z' := by
  obtain ⟨wc, C, h1, h2, h3, h4, h5, h6⟩ := h
  have ek : uk Z' = uk Z := by unfold uk; rw [ez]
  have ew : uw Z' = uw Z := by unfold uw; rw [ez]
  refine ⟨wc, C, by rw [e _ _ (by omega)]; exact h1, by rw [ek]; exact h2, fun j hj => by rw [e _ _ (by omega), e _ _ (by omega), e _ _ (by omega)]; exact h3 j hj, fun j hj => ?_, fun k hk => ?_, h6⟩
  · obtain ⟨k, k1, k2⟩ := h4 j hj
    exact ⟨k, by rw [ek]; exact k1, by rw [ew, em k k1]; exact k2⟩
  · rw [ek] at hk
    obtain ⟨j, j1, j2⟩ := h5 k hk
    exact ⟨j, j1, by rw [ew, em k hk]; exact j2⟩
theorem uM_e {Z Z' : zZt} (ez : Z'.1 = Z.1) (w : Nat × Nat × Nat) : uM Z' w = uM Z w := by
  unfold uM urk un
  rw [ez]
theorem usd_e {Z Z' : zZt} (ez : Z'.1 = Z.1) (ez2 : Z'.2.1 = Z.2.1) (p q : Nat) : usd Z' p q = usd Z p q := by
  unfold usd uo ul uw uk
  rw [ez, ez2]
theorem upr_e {Z Z' : zZt} (ez : Z'.2.2.1 = Z.2.2.1) (p q : Nat) : upr Z' p q = upr Z p q := by
  unfold upr up ut
  rw [ez]
theorem cZt.bl {M M' : zMem} {n : Nat} {Z Z' : zZt} (h : cZt M n Z) (e : ∀ b j, ¬ (b = ((92 : Nat) : Int) ∧ (j = 14 ∨ j = 15)) → M' b j = M b j) (ez : Z'.1 = Z.1) (ez2 : Z'.2.1 = Z.2.1) (ez3 : Z'.2.2.1 = Z.2.2.1) (hf : cZf M' (uF Z')) : cZt M' n Z' :=
  ⟨h.1.to (fun b j q => e b j (by omega)) (usd_e ez ez2) (upr_e ez3), h.2.1.to (fun b j q => e b j (by omega)) ez, h.2.2.1.to (fun b j q => e b j (by omega)) ez, h.2.2.2.1.to (fun b j q => e b j (by omega)) ez2 (fun _ _ => uM_e ez _), hf⟩
theorem c_xblame {O : zOm} (hO : zWld O) (hS : zS O = zmS zC0) {f p F : Nat} {fi : Int} {M : zMem} {K : Option zV → zMem → Prop} (hfi : fi = ((f : Nat) : Int)) (hF : cZf M F) (hk9 : uFk F) (hf : 0 < f) (hf8 : f < 8) (hp : p ≤ 2000)
    (hk : ∀ M', (∀ b j, ¬ (b = ((92 : Nat) : Int) ∧ (j = 14 ∨ j = 15)) → M' b j = M b j) → cZf M' (min F (8 * p + f)) → K none M') : zR O F_Text_blame [(2, ((92 : Nat) : Int)), (0, fi), (0, ((p : Nat) : Int))] M K := by
  subst hfi
  obtain ⟨h1, h2⟩ := hF
  have hat := zFf_at hp hf8
  have set : min F (8 * p + f) = 8 * p + f → ∀ M', (∀ b j, ¬ (b = ((92 : Nat) : Int) ∧ (j = 14 ∨ j = 15)) → M' b j = M b j) → M' ((92 : Nat) : Int) ((14 : Nat) : Int) = ((f : Nat) : Int) → M' ((92 : Nat) : Int) ((15 : Nat) : Int) = ((p : Nat) : Int) → K none M' := fun e M' f1 a b => hk M' f1 ⟨by rw [e, hat.1]; exact a, by rw [e, hat.2]; exact b⟩
  apply r_Text_blame hO
  unfold B_Text_blame
  have f92_14 := zf_92_14 hS; have f92_15 := zf_92_15 hS; have z92 := zo_92 hS
  by_cases e : F = 99999
  · subst e
    have h1' : M ((92 : Nat) : Int) ((14 : Nat) : Int) = 0 := h1
    ((with_reducible refine i_Seq (i_If (i_cOr (i_cOr (i_cZ_eq (i_F (i_A0 ?_))))))); (with_reducible refine i_fld (by assumption) ?_); (rw [h1']); simp only [w_set0, w_set1, w_setn0, w_setn1]; (with_reducible refine i_t trivial ?_); (with_reducible refine i_Seq (i_sF (i_A0 (i_L1 ?_)))); (with_reducible refine i_fld (by assumption) ?_); (with_reducible refine i_sF (i_A0 (i_L2 ?_))); (with_reducible refine i_fld (by assumption) ?_); (with_reducible refine i_RetV ?_))
    exact set (by omega) _ (fun b j q => by rw [zg_o _ _ (by omega), zg_o _ _ (by omega)]) (by rw [zg_o _ _ (by omega)]; exact zg_s _ _ _ _ _) (zg_s _ _ _ _ _)
  · have h9 : F % 8 ≠ 0 ∧ F / 8 ≤ 2000 := hk9.elim (fun z => absurd z e) (fun z => z)
    have h1' : M ((92 : Nat) : Int) ((14 : Nat) : Int) = ((F % 8 : Nat) : Int) := by rw [h1]; unfold zFf; rw [if_neg e]
    have h2' : M ((92 : Nat) : Int) ((15 : Nat) : Int) = ((F / 8 : Nat) : Int) := by rw [h2]; unfold zFq; rw [if_neg e]
    by_cases a1 : F / 8 < p
    · ((with_reducible refine i_Seq (i_If (i_cOr (i_cOr (i_cZ_eq (i_F (i_A0 ?_))))))); (with_reducible refine i_fld (by assumption) ?_); (rw [h1']); (with_reducible refine i_f (by omega) ?_); (with_reducible refine i_cI_lt (i_L2 (i_F (i_A0 ?_)))); (with_reducible refine i_fld (by assumption) ?_); (rw [h2']); (with_reducible refine i_f (by omega) ?_); (with_reducible refine i_cAnd (i_cI_eq (i_L2 (i_F (i_A0 ?_))))); (with_reducible refine i_fld (by assumption) ?_); (rw [h2']); (with_reducible refine i_f (by omega) ?_); (with_reducible refine i_RetV ?_))
      exact hk M (fun _ _ _ => rfl) (by rw [show min F (8 * p + f) = F by omega]; exact ⟨h1, h2⟩)
    by_cases a2 : p < F / 8
    · ((with_reducible refine i_Seq (i_If (i_cOr (i_cOr (i_cZ_eq (i_F (i_A0 ?_))))))); (with_reducible refine i_fld (by assumption) ?_); (rw [h1']); (with_reducible refine i_f (by omega) ?_); (with_reducible refine i_cI_lt (i_L2 (i_F (i_A0 ?_)))); (with_reducible refine i_fld (by assumption) ?_); (rw [h2']); (with_reducible refine i_t (by omega) ?_); (with_reducible refine i_Seq (i_sF (i_A0 (i_L1 ?_)))); (with_reducible refine i_fld (by assumption) ?_); (with_reducible refine i_sF (i_A0 (i_L2 ?_))); (with_reducible refine i_fld (by assumption) ?_); (with_reducible refine i_RetV ?_))
      exact set (by omega) _ (fun b j q => by rw [zg_o _ _ (by omega), zg_o _ _ (by omega)]) (by rw [zg_o _ _ (by omega)]; exact zg_s _ _ _ _ _) (zg_s _ _ _ _ _)
    by_cases a3 : F % 8 ≤ f
    · ((with_reducible refine i_Seq (i_If (i_cOr (i_cOr (i_cZ_eq (i_F (i_A0 ?_))))))); (with_reducible refine i_fld (by assumption) ?_); (rw [h1']); (with_reducible refine i_f (by omega) ?_); (with_reducible refine i_cI_lt (i_L2 (i_F (i_A0 ?_)))); (with_reducible refine i_fld (by assumption) ?_); (rw [h2']); (with_reducible refine i_f (by omega) ?_); (with_reducible refine i_cAnd (i_cI_eq (i_L2 (i_F (i_A0 ?_))))); (with_reducible refine i_fld (by assumption) ?_); (rw [h2']); (with_reducible refine i_t (by omega) ?_); (with_reducible refine i_cI_lt (i_L1 (i_F (i_A0 ?_)))); (with_reducible refine i_fld (by assumption) ?_); (rw [h1']); (with_reducible refine i_f (by omega) ?_); (with_reducible refine i_RetV ?_))
      exact hk M (fun _ _ _ => rfl) (by rw [show min F (8 * p + f) = F by omega]; exact ⟨h1, h2⟩)
    · ((with_reducible refine i_Seq (i_If (i_cOr (i_cOr (i_cZ_eq (i_F (i_A0 ?_))))))); (with_reducible refine i_fld (by assumption) ?_); (rw [h1']); (with_reducible refine i_f (by omega) ?_); (with_reducible refine i_cI_lt (i_L2 (i_F (i_A0 ?_)))); (with_reducible refine i_fld (by assumption) ?_); (rw [h2']); (with_reducible refine i_f (by omega) ?_); (with_reducible refine i_cAnd (i_cI_eq (i_L2 (i_F (i_A0 ?_))))); (with_reducible refine i_fld (by assumption) ?_); (rw [h2']); (with_reducible refine i_t (by omega) ?_); (with_reducible refine i_cI_lt (i_L1 (i_F (i_A0 ?_)))); (with_reducible refine i_fld (by assumption) ?_); (rw [h1']); (with_reducible refine i_t (by omega) ?_); (with_reducible refine i_Seq (i_sF (i_A0 (i_L1 ?_)))); (with_reducible refine i_fld (by assumption) ?_); (with_reducible refine i_sF (i_A0 (i_L2 ?_))); (with_reducible refine i_fld (by assumption) ?_); (with_reducible refine i_RetV ?_))
      exact set (by omega) _ (fun b j q => by rw [zg_o _ _ (by omega), zg_o _ _ (by omega)]) (by rw [zg_o _ _ (by omega)]; exact zg_s _ _ _ _ _) (zg_s _ _ _ _ _)
/-- the class's number of the box that a name has -/
def uRI (Z : zZt) (v : Nat) : Int := if ufn Z v < ub Z then ((urk Z (ufn Z v) : Nat) : Int) else -1
theorem urk_le (Z : zZt) (b : Nat) : urk Z b ≤ b := zcnt_le _ _
theorem c_findName {O : zOm} (hO : zWld O) (hS : zS O = zmS zC0) {v : Nat} {Z : zZt} {M : zMem} {K : Option zV → zMem → Prop} (hB : cZm M Z) (hub : ub Z ≤ 100) (hk : K (some (0, uRI Z v)) M) : zR O F_Text_findName [(2, ((92 : Nat) : Int)), (1, ((v : Nat) : Int))] M K := by
  obtain ⟨b1, b2⟩ := hB
  have a93 := zCA (a := 93) (ty := .long) (n := 100) hS rfl
  have hle := zfl_le (un Z) v (ub Z)
  have hfe : ufn Z v = zfl (un Z) v (ub Z) := rfl
  have hrk := urk_le Z (ub Z)
  obtain ⟨N, hN⟩ : ∃ N, N = urk Z (ufn Z v) := ⟨_, rfl⟩
  have hNl : N ≤ urk Z (ub Z) := by rw [hN]; exact zcnt_mono _ (by omega)
  apply r_Text_findName hO
  unfold B_Text_findName
  have f92_10 := zf_92_10 hS; have f92_0 := zf_92_0 hS; have a93 := zCA (a := 93) (ty := .long) (n := 100) hS rfl; have z92 := zo_92 hS
  ((with_reducible refine i_Seq (i_Blk (i_Seq (i_Set (i_I ?_))))); simp only [w_set0, w_set1, w_setn0, w_setn1])
  refine w_ForN N (fun c ρ M' => (∃ y l, ρ = ((92 : Nat) : Int) :: ((v : Nat) : Int) :: y :: ((c : Nat) : Int) :: l) ∧ M' = M) ⟨⟨_, _, rfl⟩, rfl⟩ ?_ ?_
  · rintro c ρ M1 X hc ⟨⟨y, l, rfl⟩, rfl⟩ hX
    obtain ⟨β, c1, c2, c3⟩ := zcnt_has (zNew (un Z)) (ufn Z v) c (by rw [hN] at hc; exact hc)
    have g := b2 β (by omega) c2
    rw [show urk Z β = c from c3] at g
    have hne : ¬ ((un Z β : Nat) : Int) = ((v : Nat) : Int) := by
      have := zfl_no (f := un Z) (l := v) (k := ub Z) (j := β) c1
      omega
    ((with_reducible refine i_turn (i_cI_lt (i_L3 (i_F (i_A0 ?_))))); (with_reducible refine i_fld (by assumption) ?_); (rw [b1]); (with_reducible refine i_t (by omega) ?_); (with_reducible refine i_If (i_cZ_eq (i_CmpL (i_LA (i_FR (i_A0 ?_)))))); (with_reducible refine i_fldR (by assumption) ?_); (with_reducible refine i_L3 ?_); (with_reducible refine i_in (by assumption) (by omega) (by omega) ?_); (with_reducible refine i_Ll1 ?_); (rw [g]); (refine i_cmp ?_); (with_reducible refine i_f (by omega) ?_); (with_reducible refine i_up (i_Inc3 ?_)); rw [zx_inc (by omega)]; simp only [w_set0, w_set1, w_setn0, w_setn1])
    exact hX _ _ ⟨⟨_, _, rfl⟩, rfl⟩
  · rintro ρ M1 X ⟨⟨y, l, rfl⟩, rfl⟩
    unfold uRI at hk
    by_cases h : ufn Z v < ub Z
    · rw [if_pos h, ← hN] at hk
      have g := b2 _ h (ufn_new h)
      have hlt : N < urk Z (ub Z) := by rw [hN]; exact zcnt_lt _ h (ufn_new h)
      rw [← hN] at g
      have he : ((un Z (ufn Z v) : Nat) : Int) = ((v : Nat) : Int) := by rw [show un Z (ufn Z v) = v from zfl_at h]
      ((with_reducible refine i_turn (i_cI_lt (i_L3 (i_F (i_A0 ?_))))); (with_reducible refine i_fld (by assumption) ?_); (rw [b1]); (with_reducible refine i_t (by omega) ?_); (with_reducible refine i_If (i_cZ_eq (i_CmpL (i_LA (i_FR (i_A0 ?_)))))); (with_reducible refine i_fldR (by assumption) ?_); (with_reducible refine i_L3 ?_); (with_reducible refine i_in (by assumption) (by omega) (by omega) ?_); (with_reducible refine i_Ll1 ?_); (rw [g]); (refine i_cmp ?_); (with_reducible refine i_t (by omega) ?_); (with_reducible refine i_RetI (i_L3 ?_)))
      exact hk
    · rw [if_neg h] at hk
      have hNe : N = urk Z (ub Z) := by rw [hN, show ufn Z v = ub Z by omega]
      ((with_reducible refine i_turn (i_cI_lt (i_L3 (i_F (i_A0 ?_))))); (with_reducible refine i_fld (by assumption) ?_); (rw [b1]); (with_reducible refine i_f (by omega) ?_); (with_reducible refine i_RetI (i_I ?_)))
      exact hk
theorem c_boxNamed {O : zOm} (hO : zWld O) (hS : zS O = zmS zC0) {k v p F : Nat} {Z : zZt} {M : zMem} {K : Option zV → zMem → Prop} (hB : cZb M Z) (hFz : cZf M F) (hub : ub Z ≤ 100) (hF : uFk F) (hk4 : k < 400) (hv : M ((90 : Nat) : Int) ((k : Nat) : Int) = ((v : Nat) : Int)) (hp : M ((89 : Nat) : Int) ((k : Nat) : Int) = ((p : Nat) : Int)) (hp2 : p ≤ 2000)
    (hk : ∀ M', (∀ b j, ¬ (b = ((92 : Nat) : Int) ∧ (j = 14 ∨ j = 15)) → M' b j = M b j) → cZf M' (if ufn Z v < ub Z then F else min F (8 * p + 4)) → K (some (0, uRI Z v)) M') : zR O F_Text_boxNamed [(2, ((92 : Nat) : Int)), (2, ((86 : Nat) : Int)), (0, ((k : Nat) : Int))] M K := by
  have a90 := zCA (a := 90) (ty := .long) (n := 400) hS rfl
  apply r_Text_boxNamed hO
  unfold B_Text_boxNamed
  have f86_3 := zf_86_3 hS; have a90 := zCA (a := 90) (ty := .long) (n := 400) hS rfl; have f86_2 := zf_86_2 hS; have a89 := zCA (a := 89) (ty := .int) (n := 400) hS rfl; have z86 := zo_86 hS; have z92 := zo_92 hS
  ((with_reducible refine i_Seq (i_Set (i_Call (i_as1 (i_A0 (i_as1 (i_LA (i_FR (i_A1 ?_))))))))); (with_reducible refine i_fldR (by assumption) ?_); (with_reducible refine i_L2 ?_); (with_reducible refine i_in (by assumption) (by omega) (by omega) ?_); (with_reducible refine i_as0 ?_); (with_reducible refine i_recv0 (by assumption) ?_); (rw [hv]); simp only [w_set0, w_set1, w_setn0, w_setn1])
  refine c_findName hO hS hB.nm hub ⟨_, rfl, ?_⟩
  unfold uRI at hk ⊢
  by_cases h : ufn Z v < ub Z
  · rw [if_pos h] at hk ⊢
    rw [if_pos h] at hk
    ((with_reducible refine i_Seq (i_If (i_cI_eq (i_L3 (i_I ?_))))); (with_reducible refine i_f (by omega) ?_); (with_reducible refine i_RetI (i_L3 ?_)))
    exact hk M (fun _ _ _ => rfl) hFz
  · rw [if_neg h] at hk ⊢
    rw [if_neg h] at hk
    ((with_reducible refine i_Seq (i_If (i_cI_eq (i_L3 (i_I ?_))))); simp only [w_set0, w_set1, w_setn0, w_setn1]; (with_reducible refine i_t trivial ?_); (with_reducible refine i_sCall (i_as1 (i_A0 (i_as1 (i_I (i_as1 (i_IA (i_FR (i_A1 ?_))))))))); (with_reducible refine i_fldR (by assumption) ?_); (with_reducible refine i_L2 ?_); (with_reducible refine i_in (by assumption) (by omega) (by omega) ?_); (with_reducible refine i_as0 ?_); (with_reducible refine i_recv0 (by assumption) ?_); (rw [hp]))
    refine c_xblame hO hS (f := 4) rfl hFz hF (by decide) (by decide) hp2 (fun M1 f1 g1 => ⟨rfl, ?_⟩)
    (with_reducible refine i_RetI (i_L3 ?_))
    exact hk M1 f1 g1
theorem c_postTold {O : zOm} (hO : zWld O) (hS : zS O = zmS zC0) {k v p n F : Nat} {M : zMem} {K : Option zV → zMem → Prop} (hFz : cZf M F) (hn : M ((92 : Nat) : Int) ((9 : Nat) : Int) = ((n : Nat) : Int)) (hn16 : n ≤ 16) (hF : uFk F) (hk4 : k < 400) (hv : M ((90 : Nat) : Int) ((k : Nat) : Int) = ((v : Nat) : Int)) (hv4 : v < 10000) (hp : M ((89 : Nat) : Int) ((k : Nat) : Int) = ((p : Nat) : Int)) (hp2 : p ≤ 2000)
    (hk : ∀ M', (∀ b j, ¬ (b = ((92 : Nat) : Int) ∧ (j = 14 ∨ j = 15)) → M' b j = M b j) → cZf M' (if v < n then F else min F (8 * p + 5)) → K (some (0, if v < n then ((v : Nat) : Int) else -1)) M') : zR O F_Text_postTold [(2, ((92 : Nat) : Int)), (2, ((86 : Nat) : Int)), (0, ((k : Nat) : Int))] M K := by
  have a90 := zCA (a := 90) (ty := .long) (n := 400) hS rfl
  apply r_Text_postTold hO
  unfold B_Text_postTold
  have f86_3 := zf_86_3 hS; have a90 := zCA (a := 90) (ty := .long) (n := 400) hS rfl; have f92_9 := zf_92_9 hS; have f86_2 := zf_86_2 hS; have a89 := zCA (a := 89) (ty := .int) (n := 400) hS rfl; have z86 := zo_86 hS; have z92 := zo_92 hS
  by_cases h : v < n
  · rw [if_pos h] at hk
    rw [if_pos h] at hk
    ((with_reducible refine i_Seq (i_If (i_cZ_ge (i_CmpL (i_LA (i_FR (i_A1 ?_))))))); (with_reducible refine i_fldR (by assumption) ?_); (with_reducible refine i_L2 ?_); (with_reducible refine i_in (by assumption) (by omega) (by omega) ?_); (with_reducible refine i_I2L (i_F (i_A0 ?_))); (with_reducible refine i_fld (by assumption) ?_); (rw [hv]); (rw [hn]); (refine i_cmpge ?_); (with_reducible refine i_f (by omega) ?_); (with_reducible refine i_RetI (i_L2I (i_LA (i_FR (i_A1 ?_))))); (with_reducible refine i_fldR (by assumption) ?_); (with_reducible refine i_L2 ?_); (with_reducible refine i_in (by assumption) (by omega) (by omega) ?_); (rw [hv]); rw [zx_s (by omega) (by omega)])
    exact hk M (fun _ _ _ => rfl) hFz
  · rw [if_neg h] at hk
    rw [if_neg h] at hk
    ((with_reducible refine i_Seq (i_If (i_cZ_ge (i_CmpL (i_LA (i_FR (i_A1 ?_))))))); (with_reducible refine i_fldR (by assumption) ?_); (with_reducible refine i_L2 ?_); (with_reducible refine i_in (by assumption) (by omega) (by omega) ?_); (with_reducible refine i_I2L (i_F (i_A0 ?_))); (with_reducible refine i_fld (by assumption) ?_); (rw [hv]); (rw [hn]); (refine i_cmpge ?_); (with_reducible refine i_t (by omega) ?_); (with_reducible refine i_Seq (i_sCall (i_as1 (i_A0 (i_as1 (i_I (i_as1 (i_IA (i_FR (i_A1 ?_)))))))))); (with_reducible refine i_fldR (by assumption) ?_); (with_reducible refine i_L2 ?_); (with_reducible refine i_in (by assumption) (by omega) (by omega) ?_); (with_reducible refine i_as0 ?_); (with_reducible refine i_recv0 (by assumption) ?_); (rw [hp]))
    refine c_xblame hO hS (f := 5) rfl hFz hF (by decide) (by decide) hp2 (fun M1 f1 g1 => ⟨rfl, ?_⟩)
    (with_reducible refine i_RetI (i_I ?_))
    exact hk M1 f1 g1
/-! ===== the boxes ===== -/
theorem zmk_or1 (s : Nat → Bool) {x : Nat} (hx : x < 16) : yor (zmk s) (yshl 1 ((x : Nat) : Int)) = zmk (fun q => s q || decide (q = x)) := by rw [yshl_mk hx, yor_mk]
/-- posts placed ahead of a box, when one more is placed in the last -/
theorem upb_uup {o : Nat → Nat} {x b c : Nat} (hx : x < 16) (ho : o x = 999) (hb : b < 999) (hc : c ≤ 999) : zcnt (fun q => decide (uup o x b q < c)) 16 = zcnt (fun q => decide (o q < c)) 16 + (if b < c then 1 else 0) := by
  by_cases h : b < c
  · rw [if_pos h]
    have e : zcnt (fun q => decide (uup o x b q < c)) 16 = zcnt (fun q => decide (o q < c) || decide (q = x)) 16 := zcnt_ext fun q _ => by
      by_cases e : q = x
      · subst e
        rw [uup_s, decide_eq_true h, decide_eq_true rfl, Bool.or_true]
      · rw [uup_n _ _ e, decide_eq_false e, Bool.or_false]
    rw [e, zcnt_ins (by rw [ho]; exact decide_eq_false (by omega)), if_pos hx]
  · rw [if_neg h, Nat.add_zero]
    exact zcnt_ext fun q _ => by
      by_cases e : q = x
      · subst e
        rw [uup_s, ho]
        exact decide_eq_decide.mpr (by omega)
      · rw [uup_n _ _ e]
theorem upb_su (o : Nat → Nat) (b : Nat) : zcnt (fun q => decide (o q < b + 1)) 16 = zcnt (fun q => decide (o q < b)) 16 + zSz o 16 b := by
  have h : ∀ N, zcnt (fun q => decide (o q < b + 1)) N = zcnt (fun q => decide (o q < b)) N + zSz o N b := by
    intro N
    induction N with
    | zero => rfl
    | succ N ih =>
      rw [zcnt_su, zcnt_su, zSz_su, ih]
      by_cases e1 : o N < b
      · rw [if_pos (decide_eq_true (by omega)), if_pos (decide_eq_true e1), if_neg (by omega)]
        omega
      · by_cases e2 : o N = b
        · rw [if_pos (decide_eq_true (by omega)), if_neg (fun z => e1 (of_decide_eq_true z)), if_pos e2]
          omega
        · rw [if_neg (fun z => by have := of_decide_eq_true z; omega), if_neg (fun z => e1 (of_decide_eq_true z)), if_neg e2]
          omega
  exact h 16
/-- a box while its numbers are told, in the class -/
def cBJ (Z : zZt) (M M' : zMem) (r : (Nat → Nat) × (Nat → Nat) × Nat) : Prop := (∀ b j, ¬ (b = ((92 : Nat) : Int) ∧ (j = 11 ∨ j = 12 ∨ j = 14 ∨ j = 15) ∨ b = ((97 : Nat) : Int)) → M' b j = M b j) ∧ M' ((92 : Nat) : Int) ((11 : Nat) : Int) = ((upb Z (ub Z) + zSz r.1 16 (ub Z) : Nat) : Int) ∧ M' ((92 : Nat) : Int) ((12 : Nat) : Int) = zmk (fun q => decide (r.1 q ≠ 999)) ∧ (∀ q : Nat, q < 16 → r.1 q ≠ 999 → M' ((97 : Nat) : Int) ((upb Z (r.1 q) + r.2.1 q : Nat) : Int) = ((q : Nat) : Int)) ∧ cZf M' r.2.2
/-- is the c-th number of a box a fault itself -/
def uBx (B : Nat → Nat) (s n : Nat) (Z : zZt) (i c : Nat) : Bool := decide (n ≤ zVi B s (i + 2 + c)) || decide ((ubs n (zps B s) (zVi B s) (ub Z) (uo Z, ul Z, 99999) (i + 2) c).1 (zVi B s (i + 2 + c)) ≠ 999)
/-- what is told of posts doesn't look at the fault -/
theorem ubs_F {n : Nat} {P V : Nat → Nat} {b i : Nat} {o l : Nat → Nat} {F G : Nat} : ∀ c, (ubs n P V b (o, l, F) i c).1 = (ubs n P V b (o, l, G) i c).1 ∧ (ubs n P V b (o, l, F) i c).2.1 = (ubs n P V b (o, l, G) i c).2.1
  | 0 => ⟨rfl, rfl⟩
  | c + 1 => by
    obtain ⟨h1, h2⟩ := ubs_F (n := n) (P := P) (V := V) (b := b) (i := i) (o := o) (l := l) (F := F) (G := G) c
    show (ubq n P V b (ubs n P V b (o, l, F) i c) (i + c)).1 = (ubq n P V b (ubs n P V b (o, l, G) i c) (i + c)).1 ∧ (ubq n P V b (ubs n P V b (o, l, F) i c) (i + c)).2.1 = (ubq n P V b (ubs n P V b (o, l, G) i c) (i + c)).2.1
    unfold ubq
    rw [h1, h2]
    split
    · exact ⟨rfl, rfl⟩
    · split <;> exact ⟨rfl, rfl⟩
set_option maxHeartbeats 3200000 in
theorem c_takeBox {O : zOm} (hO : zWld O) (hS : zS O = zmS zC0) {i s n : Nat} {B : Nat → Nat} {Z : zZt} {M : zMem} {K : Option zV → zMem → Prop} (hs : s ≤ 2000) (hn16 : n ≤ 16) (hq0 : zqs B s (zhh B s) = 0) (hi : i < zhh B s) (hq : zqs B s i = 0) (hK : zKi B s i = 3) (hA : uAll B s n Z i) (hT : cTa M B s) (hZ : cZt M n Z) (hgood : ∀ c, c < zeb B s i - (i + 2) → uBx B s n Z i c = false)
    (hk : ∀ M', cXF M M' → cZt M' n (usb B s n Z i) → K (some (0, ((zeb B s i + 1 : Nat) : Int))) M') : zR O F_Text_takeBox [(2, ((92 : Nat) : Int)), (2, ((86 : Nat) : Int)), (0, ((i + 1 : Nat) : Int))] M K := by
  have h400 := (zhh_ok B s).1
  have a90 := zCA (a := 90) (ty := .long) (n := 400) hS rfl
  have a93 := zCA (a := 93) (ty := .long) (n := 100) hS rfl
  have hp := fun j => Nat.le_trans (zps_le B s j) hs
  obtain ⟨g1, g2, g3, g4, g5, g6⟩ := zgr_3 hq0 hi hq hK
  have hub := hA.2.2.2.1
  have hFk : uFk (uF Z) := hA.1.2.2.1
  have v1 := hT.v0 (show i + 1 < zhh B s by omega) g1
  have p1 := (hT.2.2 (i + 1) (by omega)).2.1
  have hrk := urk_le Z (ub Z)
  have hno : ∀ q, uo Z q ≠ ub Z := fun q z => by have := (hA.1.1.1 q (by omega)).1; omega
  have hI := fun c => ubs_I (n := n) (b := ub Z) (o := uo Z) (l := ul Z) (F := if ufn Z (zVi B s (i + 1)) < ub Z then min (uF Z) (8 * zps B s (i + 1) + 3) else uF Z) (i := i + 2) (P := zps B s) (V := zVi B s) hn16 (by omega) hno hp c
  have hF1 : uFk (if ufn Z (zVi B s (i + 1)) < ub Z then min (uF Z) (8 * zps B s (i + 1) + 3) else uF Z) := by
    split
    · exact uFk_min hFk (hp _) (by decide) (by decide)
    · exact hFk
  have hA2 := hA.box hs hn16 hq0 hi hq hK
  have hsay : ∀ k, k < uk Z → ∀ p q, usy (uo (usb B s n Z i)) (ul (usb B s n Z i)) (uw Z k) p q = usy (uo Z) (ul Z) (uw Z k) p q := fun k hk2 p q => by
    obtain ⟨i1, i2, -⟩ := usb_I (B := B) (i := i) hs hn16 hA.1.1 (by omega)
    exact usy_box (hA.1.2.1 k hk2) (by omega) i1 (fun q hq => (i2 q hq).elim Or.inl (fun z => Or.inr z.1)) p q
  have hsd : ∀ p q, usd (usb B s n Z i) p q = usd Z p q := fun p q => zex_ext fun k hk2 => hsay k hk2 p q
  have hszn : ∀ d, d < ub Z → zSz (uo (usb B s n Z i)) 16 d = zSz (uo Z) 16 d := fun d hd => by
    obtain ⟨-, -, -, i4, -⟩ := usb_I (B := B) (i := i) hs hn16 hA.1.1 (by omega)
    exact i4 d (by omega) (by omega)
  have hnw : ∀ b, b < ub Z → zNew (un (usb B s n Z i)) b = zNew (un Z) b := fun b hb => zNew_uup hb
  have hrkn : ∀ b, b ≤ ub Z → urk (usb B s n Z i) b = urk Z b := fun b hb => zcnt_ext fun c hc => hnw c (by omega)
  have huMn : ∀ k, k < uk Z → uM (usb B s n Z i) (uw Z k) = uM Z (uw Z k) := fun k hk2 => by
    have hw := hA.1.2.1 k hk2
    unfold uWk at hw
    unfold uM
    by_cases e2 : (uw Z k).1 = 2
    · rw [if_pos e2, if_pos e2, hrkn _ (by omega)]
    · rw [if_neg e2, if_neg e2, hrkn _ (by omega)]
      by_cases e1 : (uw Z k).1 = 1
      · rw [if_pos e1, if_pos e1, hrkn _ (by omega)]
      · rw [if_neg e1, if_neg e1]
  have hnl : zNew (un (usb B s n Z i)) (ub Z) = decide (ufn Z (zVi B s (i + 1)) = ub Z) := zNew_last
  have hubn : ub (usb B s n Z i) = ub Z + 1 := rfl
  have hunn : un (usb B s n Z i) (ub Z) = zVi B s (i + 1) := uup_s _ _ _
  have hunn2 : ∀ b, b < ub Z → un (usb B s n Z i) b = un Z b := fun b hb => uup_n _ _ (by omega)
  have hukn : (usb B s n Z i).2.1 = Z.2.1 := rfl
  have hutn : (usb B s n Z i).2.2.1 = Z.2.2.1 := rfl
  have hrn : (uo (usb B s n Z i), ul (usb B s n Z i), uF (usb B s n Z i)) = ubs n (zps B s) (zVi B s) (ub Z) (uo Z, ul Z, if ufn Z (zVi B s (i + 1)) < ub Z then min (uF Z) (8 * zps B s (i + 1) + 3) else uF Z) (i + 2) (zeb B s i - (i + 2)) := rfl
  have hupn : ∀ b, b ≤ ub Z → upb (usb B s n Z i) b = upb Z b := fun b hb => zcnt_ext fun q _ => by
    obtain ⟨i1, i2, -⟩ := usb_I (B := B) (i := i) hs hn16 hA.1.1 (by omega)
    (try dsimp only at i1 i2)
    by_cases e : uo Z q = 999
    · rw [e]
      rcases i2 q e with z | z
      · rw [z]
      · rw [z.1]; exact decide_eq_decide.mpr (by omega)
    · rw [(i1 q e).1]
  have hoq : ∀ b, b < ub Z → ∀ q, (uo (usb B s n Z i) q = b ↔ uo Z q = b) := fun b hb q => by
    obtain ⟨i1, i2, -⟩ := usb_I (B := B) (i := i) hs hn16 hA.1.1 (by omega)
    (try dsimp only at i1 i2)
    by_cases e : uo Z q = 999
    · rw [e]
      rcases i2 q e with z | z
      · rw [z]
      · rw [z.1]; omega
    · rw [(i1 q e).1]
  generalize hF1e : (if ufn Z (zVi B s (i + 1)) < ub Z then min (uF Z) (8 * zps B s (i + 1) + 3) else uF Z) = F1 at hI hF1 hrn
  obtain ⟨N, hN⟩ : ∃ N, zeb B s i = i + 2 + N := ⟨zeb B s i - (i + 2), by omega⟩
  rw [hN] at g2 g3 g4 g5 g6 hk hrn hA2 hgood
  rw [show i + 2 + N - (i + 2) = N by omega] at hrn hgood
  have hgd : ∀ c, c < N → ¬ n ≤ zVi B s (i + 2 + c) ∧ (ubs n (zps B s) (zVi B s) (ub Z) (uo Z, ul Z, F1) (i + 2) c).1 (zVi B s (i + 2 + c)) = 999 := fun c hc => by
    have h := hgood c hc
    unfold uBx at h
    rw [Bool.or_eq_false_iff] at h
    refine ⟨of_decide_eq_false h.1, ?_⟩
    rw [(ubs_F (n := n) (P := zps B s) (V := zVi B s) (b := ub Z) (i := i + 2) (o := uo Z) (l := ul Z) (F := F1) (G := 99999) c).1]
    exact Classical.byContradiction fun w => (of_decide_eq_false h.2) w
  clear hgood
  generalize hZn : usb B s n Z i = Zn at *
  obtain ⟨zn1, zb1, zo1, zw1, zf1⟩ := hZ
  have hupl : ∀ d e, d ≤ e → upb Z d ≤ upb Z e := fun d e h => zcnt_sub fun q _ hq => decide_eq_true (by have := of_decide_eq_true hq; omega)
  have hupz : ∀ d, upb Z (d + 1) = upb Z d + zSz (uo Z) 16 d := fun d => upb_su (uo Z) d
  obtain ⟨tw, htw⟩ : ∃ tw, tw = decide (ufn Z (zVi B s (i + 1)) < ub Z) := ⟨_, rfl⟩
  apply r_Text_takeBox hO
  unfold B_Text_takeBox
  have f86_3 := zf_86_3 hS; have a90 := zCA (a := 90) (ty := .long) (n := 400) hS rfl; have f86_2 := zf_86_2 hS; have a89 := zCA (a := 89) (ty := .int) (n := 400) hS rfl; have f92_11 := zf_92_11 hS; have f86_6 := zf_86_6 hS; have f86_1 := zf_86_1 hS; have a88 := zCA (a := 88) (ty := .int) (n := 400) hS rfl; have f92_12 := zf_92_12 hS; have f92_3 := zf_92_3 hS; have a97 := zCA (a := 97) (ty := .int) (n := 400) hS rfl; have f92_10 := zf_92_10 hS; have f92_0 := zf_92_0 hS; have a93 := zCA (a := 93) (ty := .long) (n := 100) hS rfl; have f92_1 := zf_92_1 hS; have a94 := zCA (a := 94) (ty := .int) (n := 100) hS rfl; have f92_2 := zf_92_2 hS; have a95 := zCA (a := 95) (ty := .int) (n := 100) hS rfl; have f92_16 := zf_92_16 hS; have a96 := zCA (a := 96) (ty := .int) (n := 100) hS rfl; have z86 := zo_86 hS; have z92 := zo_92 hS
  refine i_Seq (w_cut (zR.mon' O) (fun ρ M1 => ρ = [((92 : Nat) : Int), ((86 : Nat) : Int), ((i + 1 : Nat) : Int), zbI tw] ∧ M1 = M) ?_ ?_)
  · ((with_reducible refine i_Set (i_eIf (i_cI_ne (i_Call (i_as1 (i_A0 (i_as1 (i_LA (i_FR (i_A1 ?_)))))))))); (with_reducible refine i_fldR (by assumption) ?_); (with_reducible refine i_L2 ?_); (with_reducible refine i_in (by assumption) (by omega) (by omega) ?_); (with_reducible refine i_as0 ?_); (with_reducible refine i_recv0 (by assumption) ?_); (rw [v1]))
    refine c_findName hO hS zb1.nm (by omega) ⟨_, rfl, ?_⟩
    unfold uRI
    by_cases hd : ufn Z (zVi B s (i + 1)) < ub Z
    · rw [if_pos hd, htw, decide_eq_true hd]
      ((with_reducible refine i_I ?_); rw [zbI_t]; (with_reducible refine i_t (by omega) ?_); (with_reducible refine i_I ?_); simp only [w_set0, w_set1, w_setn0, w_setn1])
      exact ⟨by trivial, by trivial⟩
    · rw [if_neg hd, htw, decide_eq_false hd]
      ((with_reducible refine i_I ?_); rw [zbI_f]; (with_reducible refine i_f (by omega) ?_); (with_reducible refine i_I ?_); simp only [w_set0, w_set1, w_setn0, w_setn1])
      exact ⟨by trivial, by trivial⟩
  rintro ρ M1 ⟨rfl, rfl⟩
  refine i_Seq (w_cut (zR.mon' O) (fun ρ M2 => ρ = [((92 : Nat) : Int), ((86 : Nat) : Int), ((i + 1 : Nat) : Int), zbI tw] ∧ (∀ b j, ¬ (b = ((92 : Nat) : Int) ∧ (j = 14 ∨ j = 15)) → M2 b j = M1 b j) ∧ cZf M2 F1) ?_ ?_)
  · by_cases hd : ufn Z (zVi B s (i + 1)) < ub Z
    · rw [if_pos hd] at hF1e
      rw [htw, decide_eq_true hd]
      ((with_reducible refine i_If (i_cZ_ne (i_L3 ?_))); rw [zbI_t]; simp only [w_set0, w_set1, w_setn0, w_setn1]; (with_reducible refine i_t (by omega) ?_); (with_reducible refine i_sCall (i_as1 (i_A0 (i_as1 (i_I (i_as1 (i_IA (i_FR (i_A1 ?_))))))))); (with_reducible refine i_fldR (by assumption) ?_); (with_reducible refine i_L2 ?_); (with_reducible refine i_in (by assumption) (by omega) (by omega) ?_); (with_reducible refine i_as0 ?_); (with_reducible refine i_recv0 (by assumption) ?_); (rw [p1]); simp only [w_set0, w_set1, w_setn0, w_setn1])
      refine c_xblame hO hS (f := 3) rfl zf1 hFk (by decide) (by decide) (hp _) (fun M2 f2 z2 => ⟨rfl, ?_⟩)
      rw [hF1e] at z2
      exact ⟨by trivial, f2, z2⟩
    · rw [if_neg hd] at hF1e
      rw [htw, decide_eq_false hd]
      ((with_reducible refine i_If (i_cZ_ne (i_L3 ?_))); rw [zbI_f]; simp only [w_set0, w_set1, w_setn0, w_setn1]; (with_reducible refine i_f (by omega) ?_))
      exact ⟨by trivial, fun _ _ _ => by trivial, by rw [← hF1e]; exact zf1⟩
  rintro ρ M2 ⟨rfl, f2, z2⟩
  have q11 : M2 ((92 : Nat) : Int) ((11 : Nat) : Int) = ((upb Z (ub Z) : Nat) : Int) := by rw [f2 _ _ (by omega)]; exact zo1.1
  have hz0 : zSz (uo Z) 16 (ub Z) = 0 := zcnt_z fun q _ => decide_eq_false (hno q)
  have hm0 : (0 : Int) = zmk (fun q => decide (uo Z q = ub Z)) := by
    rw [zmk_0]
    exact zmk_ext fun q _ => (decide_eq_false (hno q)).symm
  have hT2 : cTa M2 B s := hT.to (fun b j q => f2 b j (by omega))
  ((with_reducible refine i_Seq (i_Set (i_F (i_A0 ?_)))); (with_reducible refine i_fld (by assumption) ?_); (with_reducible refine i_Seq (i_Set (i_I (i_Seq (i_Set (i_Add ?_)))))); (rw [q11]); simp only [w_set0, w_set1, w_setn0, w_setn1]; (with_reducible refine i_L2 (i_I (i_Seq ?_))); rw [zx_inc (by omega)]; simp only [w_set0, w_set1, w_setn0, w_setn1])
  refine w_WhileN N (fun c ρ M' => (∃ l, ρ = ((92 : Nat) : Int) :: ((86 : Nat) : Int) :: ((i + 1 : Nat) : Int) :: zbI tw :: ((upb Z (ub Z) : Nat) : Int) :: zmk (fun q => decide ((ubs n (zps B s) (zVi B s) (ub Z) (uo Z, ul Z, F1) (i + 2) c).1 q = ub Z)) :: ((i + 2 + c : Nat) : Int) :: l) ∧ cBJ Z M1 M' (ubs n (zps B s) (zVi B s) (ub Z) (uo Z, ul Z, F1) (i + 2) c)) ⟨⟨[], by rw [show (0 : Int) = zmk (fun q => decide (uo Z q = ub Z)) from hm0]; rfl⟩, fun b j q => f2 b j (by omega), ?_, ?_, fun q hq hn => ?_, z2⟩ ?_ ?_
  · show _ = ((upb Z (ub Z) + zSz (uo Z) 16 (ub Z) : Nat) : Int)
    rw [hz0]; exact q11
  · rw [f2 _ _ (by omega)]; exact zo1.2.1
  · rw [f2 _ _ (by omega)]; exact zo1.2.2 q hq hn
  · rintro c ρ M3 X hc ⟨⟨l, rfl⟩, f3, r1, r2, r3, z3⟩ hX
    have hIc := hI c
    obtain ⟨hgc1, hgc2⟩ := hgd c hc
    have hX2 : ∀ (l : zLoc) (M' : zMem) (r' : (Nat → Nat) × (Nat → Nat) × Nat), ubq n (zps B s) (zVi B s) (ub Z) (ubs n (zps B s) (zVi B s) (ub Z) (uo Z, ul Z, F1) (i + 2) c) (i + 2 + c) = r' → cBJ Z M1 M' r' → X (((92 : Nat) : Int) :: ((86 : Nat) : Int) :: ((i + 1 : Nat) : Int) :: zbI tw :: ((upb Z (ub Z) : Nat) : Int) :: zmk (fun q => decide (r'.1 q = ub Z)) :: ((i + 2 + c + 1 : Nat) : Int) :: l) M' := fun l M' r' e a => by
      subst e
      exact hX _ _ ⟨⟨l, rfl⟩, a⟩
    clear hX hI hk hrn hgd
    generalize ubs n (zps B s) (zVi B s) (ub Z) (uo Z, ul Z, F1) (i + 2) c = r at hIc r1 r2 r3 z3 hX2 hgc2 ⊢
    obtain ⟨i1, i2, i3, i4, -, -, hFr, -⟩ := hIc
    have hFr2 := hFr hF1
    have kk := g4 (i + 2 + c) (by omega) (by omega)
    have hjh : i + 2 + c < zhh B s := by omega
    have hT3 : cTa M3 B s := hT.to (fun b j q => f3 b j (by omega))
    have t1 : M3 ((88 : Nat) : Int) ((i + 2 + c : Nat) : Int) = 1 := by rw [(hT3.2.2 _ hjh).1, kk]; rfl
    have t2 := hT3.v1 hjh kk
    have t3 := (hT3.2.2 _ hjh).2.1
    have t4 := hT3.1
    have v4 := zVi_1 hjh kk
    have nn3 : M3 ((92 : Nat) : Int) ((9 : Nat) : Int) = ((n : Nat) : Int) := by rw [f3 _ _ (by omega)]; exact zn1.1
    unfold ubq at hX2
    generalize zVi B s (i + 2 + c) = v at t2 hX2 v4 hgc1 hgc2
    have hpj := hp (i + 2 + c)
    generalize zps B s (i + 2 + c) = pj at t3 hX2 hpj
    have e1 := hgc1
    have e2 := hgc2
    rw [if_neg e1] at hX2
    rw [if_neg (fun z => z e2)] at hX2
    have hsb : decide (r.1 v ≠ 999) = false := decide_eq_false (fun z => z e2)
    have hsz := zSz_le r.1 16 (ub Z)
    have hup : zSz (uup r.1 v (ub Z)) 16 (ub Z) = zSz r.1 16 (ub Z) + 1 := by rw [zSz_uup (by omega) (by omega), if_pos rfl]
    have hroom : upb Z (ub Z) + zSz r.1 16 (ub Z) < 16 := by
      have e3 : zcnt (fun q => decide (r.1 q < ub Z)) 16 = upb Z (ub Z) := zcnt_ext fun q _ => by
        by_cases w : uo Z q = 999
        · rw [w]
          rcases i2 q w with z | z
          · rw [z]
          · rw [z.1]; exact decide_eq_decide.mpr (by omega)
        · rw [(i1 q w).1]
      have e4 := upb_su r.1 (ub Z)
      have e5 := zcnt_sub1 (s := fun q => decide (r.1 q < ub Z + 1)) (t := fun _ => true) (n := 16) (i := v) (fun _ _ _ => rfl) (by omega) (decide_eq_false (by omega)) rfl
      have e6 := zcnt_le (fun _ => true) 16
      omega
    have hrow : ∀ q, q < 16 → q ≠ v → r.1 q ≠ 999 → upb Z (r.1 q) + r.2.1 q ≠ upb Z (ub Z) + zSz r.1 16 (ub Z) := fun q hq hqv hn => by
      by_cases w : uo Z q = 999
      · rcases i2 q w with z | z
        · exact absurd z hn
        · rw [z.1]; omega
      · obtain ⟨w1, w2⟩ := i1 q w
        obtain ⟨w3, -, w4⟩ := hA.1.1.1 q w
        have w5 := hupz (uo Z q)
        have w6 := hupl (uo Z q + 1) (ub Z) (by omega)
        rw [w1, w2]
        omega
    have hsn : (fun q => decide (uup r.1 v (ub Z) q ≠ 999)) = (fun q => decide (r.1 q ≠ 999) || decide (q = v)) := funext fun q => by
      by_cases e : q = v
      · subst e; rw [uup_s, decide_eq_true rfl, Bool.or_true]; exact decide_eq_true (by omega)
      · rw [uup_n _ _ e, decide_eq_false e, Bool.or_false]
    have hmn : (fun q => decide (uup r.1 v (ub Z) q = ub Z)) = (fun q => decide (r.1 q = ub Z) || decide (q = v)) := funext fun q => by
      by_cases e : q = v
      · subst e; rw [uup_s, decide_eq_true rfl, decide_eq_true rfl, Bool.or_true]
      · rw [uup_n _ _ e, decide_eq_false e, Bool.or_false]
    have hX3 := fun l M' => hX2 l M' _ rfl
    (try dsimp only at hX3)
    rw [hmn] at hX3
    clear hX2
    ((with_reducible refine i_turn (i_cAnd (i_cI_lt (i_L6 (i_F (i_A1 ?_)))))); (with_reducible refine i_fld (by assumption) ?_); (rw [t4]); (with_reducible refine i_t (by omega) ?_); (with_reducible refine i_cI_eq (i_IA (i_FR (i_A1 ?_)))); (with_reducible refine i_fldR (by assumption) ?_); (with_reducible refine i_L6 ?_); (with_reducible refine i_in (by assumption) (by omega) (by omega) ?_); (with_reducible refine i_I ?_); (rw [t1]); simp only [w_set0, w_set1, w_setn0, w_setn1]; (with_reducible refine i_t trivial ?_); (with_reducible refine i_Blk (i_Seq (i_Set (i_Call (i_as1 (i_A0 (i_as1 (i_A1 (i_as1 (i_L6 (i_as0 ?_))))))))))); (with_reducible refine i_recv0 (by assumption) ?_); simp only [w_set0, w_set1, w_setn0, w_setn1])
    refine c_postTold hO hS z3 nn3 hn16 hFr2 (by omega) t2 v4 t3 hpj (fun M4 f4 z4 => ⟨_, rfl, ?_⟩)
    rw [if_pos (by omega)] at z4 ⊢
    have s4 : M4 ((92 : Nat) : Int) ((12 : Nat) : Int) = zmk (fun q => decide (r.1 q ≠ 999)) := by rw [f4 _ _ (by omega)]; exact r2
    have p4 : M4 ((92 : Nat) : Int) ((11 : Nat) : Int) = ((upb Z (ub Z) + zSz r.1 16 (ub Z) : Nat) : Int) := by rw [f4 _ _ (by omega)]; exact r1
    have hb0 : yand (yshr (zmk (fun q => decide (r.1 q ≠ 999))) ((v : Nat) : Int)) 1 = 0 := by rw [yand_1 _ (show v < 16 by omega), if_neg (by rw [hsb]; decide)]
    have hor1 : zor (zmk (fun q => decide (r.1 q ≠ 999))) (yshl 1 ((v : Nat) : Int)) = zmk (fun q => decide (r.1 q ≠ 999) || decide (q = v)) := by rw [← yor_eq, zmk_or1 _ (show v < 16 by omega)]
    have hor2 : yor (zmk (fun q => decide (r.1 q = ub Z))) (yshl 1 ((v : Nat) : Int)) = zmk (fun q => decide (r.1 q = ub Z) || decide (q = v)) := zmk_or1 _ (by omega)
    generalize hpz : upb Z (ub Z) + zSz r.1 16 (ub Z) = pz at p4 hroom hrow
    ((with_reducible refine i_Seq (i_If (i_cI_ne ?_))); rw [w_setT]; (with_reducible refine i_L7 (i_I ?_)); (with_reducible refine i_t (by omega) ?_); (with_reducible refine i_Seq (i_If (i_cI_eq (i_And (i_Shr (i_F (i_A0 ?_))))))); (with_reducible refine i_fld (by assumption) ?_); (with_reducible refine i_L7 (i_I (i_I ?_))); (rw [s4]); (rw [hb0]); (with_reducible refine i_f (by omega) ?_); (with_reducible refine i_Seq (i_FO (i_A0 ?_))); (with_reducible refine i_fld (by assumption) ?_); (with_reducible refine i_Shl (i_I (i_L7 ?_))); (with_reducible refine i_fld (by assumption) ?_); (with_reducible refine i_Set (i_Or (i_L5 (i_Shl (i_I (i_L7 (i_Seq (i_If (i_cI_lt (i_F ?_)))))))))); (rw [s4]); (rw [hor1]); (rw [hor2]); simp only [w_set0, w_set1, w_setn0, w_setn1]; (with_reducible refine i_A0 ?_); (with_reducible refine i_fld (by assumption) ?_); (with_reducible refine i_Len (i_FR (i_A0 ?_))); (with_reducible refine i_fldR (by assumption) ?_); (with_reducible refine i_len (by assumption) (by omega) ?_); rw [zg_m _ _ _ _ _ (by omega)]; (rw [p4]); (with_reducible refine i_t (by omega) ?_); (with_reducible refine i_Seq (i_sIA (i_FR (i_A0 ?_)))); (with_reducible refine i_fldR (by assumption) ?_); (with_reducible refine i_F (i_A0 ?_)); (with_reducible refine i_fld (by assumption) ?_); (with_reducible refine i_L7 ?_); rw [zg_m _ _ _ _ _ (by omega)]; (with_reducible refine i_in (by assumption) (by omega) (by omega) ?_); (with_reducible refine i_FO (i_A0 ?_)); (with_reducible refine i_fld (by assumption) ?_); (with_reducible refine i_I ?_); (with_reducible refine i_fld (by assumption) ?_); (with_reducible refine i_Inc6 ?_); rw [zg_n _ _ _ (by omega)]; rw [zg_m _ _ _ _ _ (by omega)]; (rw [p4]); rw [zx_inc (by omega)]; rw [zx_inc (by omega)]; simp only [w_set0, w_set1, w_setn0, w_setn1])
    refine hX3 _ _ ⟨fun b j q => by rw [zg_o _ _ (by omega), zg_o _ _ (by omega), zg_o _ _ (by omega), f4 b j (by omega)]; exact f3 b j q, ?_, ?_, fun q hq hn => ?_, ⟨?_, ?_⟩⟩
    · (try dsimp only)
      rw [hup, zg_s]
      omega
    · (try dsimp only)
      rw [hsn, zg_o _ _ (by omega), zg_o _ _ (by omega), zg_s]
    · (try dsimp only at hn ⊢)
      by_cases e : q = v
      · subst e
        rw [uup_s, uup_s, hpz, zg_o _ _ (by omega), zg_s]
      · rw [uup_n _ _ e] at hn
        have hne := hrow q hq e hn
        rw [uup_n _ _ e, uup_n _ _ e, zg_o _ _ (by omega), zg_o _ _ (by omega), zg_o _ _ (by omega), f4 _ _ (by omega)]
        exact r3 q hq hn
    · rw [zg_o _ _ (by omega), zg_o _ _ (by omega), zg_o _ _ (by omega)]; exact z4.1
    · rw [zg_o _ _ (by omega), zg_o _ _ (by omega), zg_o _ _ (by omega)]; exact z4.2
  · rintro ρ M3 X ⟨⟨l, rfl⟩, f3, r1, r2, r3, z3⟩
    rw [← hrn] at r1 r2 r3 z3 ⊢
    (try dsimp only at r1 r2 r3 z3 ⊢)
    have hT3 : cTa M3 B s := hT.to (fun b j q => f3 b j (by omega))
    have hjh : i + 2 + N < zhh B s := by omega
    have t1 : M3 ((88 : Nat) : Int) ((i + 2 + N : Nat) : Int) = 2 := by rw [(hT3.2.2 _ hjh).1, g5]; rfl
    have t4 := hT3.1
    have b3 : M3 ((92 : Nat) : Int) ((10 : Nat) : Int) = ((urk Z (ub Z) : Nat) : Int) := by rw [f3 _ _ (by omega)]; exact zb1.1
    have v13 : M3 ((90 : Nat) : Int) ((i + 1 : Nat) : Int) = ((zVi B s (i + 1) : Nat) : Int) := by rw [f3 _ _ (by omega)]; exact v1
    have hupe : upb Zn (ub Zn) = upb Z (ub Z) + zSz (uo Zn) 16 (ub Z) := by
      rw [hubn]
      exact (upb_su (uo Zn) (ub Z)).trans (congrArg (fun x => x + zSz (uo Zn) 16 (ub Z)) (hupn (ub Z) (Nat.le_refl _)))
    have hcZo : ∀ M', (∀ b j, b = ((92 : Nat) : Int) ∧ (j = 11 ∨ j = 12) ∨ b = ((97 : Nat) : Int) → M' b j = M3 b j) → cZo M' Zn := fun M' e => ⟨by rw [e _ _ (by omega), hupe]; exact r1, by rw [e _ _ (by omega)]; exact r2, fun q hq hn => by
      have hle : uo Zn q ≤ ub Z := by
        have := (hA2.1.1.1 q hn).1
        omega
      rw [e _ _ (by omega), hupn _ hle]
      exact r3 q hq hn⟩
    have hrs : urk Zn (ub Zn) = urk Z (ub Z) + (if zNew (un Zn) (ub Z) = true then 1 else 0) := by
      rw [hubn]
      exact (zcnt_su (zNew (un Zn)) (ub Z)).trans (congrArg (fun x => x + (if zNew (un Zn) (ub Z) = true then 1 else 0)) (hrkn (ub Z) (Nat.le_refl _)))
    have hold : ∀ b, b < ub Z → zNew (un Zn) b = true → M3 ((93 : Nat) : Int) ((urk Zn b : Nat) : Int) = ((un Zn b : Nat) : Int) ∧ M3 ((94 : Nat) : Int) ((urk Zn b : Nat) : Int) = zmk (fun q => decide (uo Zn q = b)) ∧ M3 ((95 : Nat) : Int) ((urk Zn b : Nat) : Int) = ((upb Zn b : Nat) : Int) ∧ M3 ((96 : Nat) : Int) ((urk Zn b : Nat) : Int) = ((zSz (uo Zn) 16 b : Nat) : Int) := fun b hb hn => by
      rw [hnw b hb] at hn
      rw [hrkn b (by omega), hunn2 b hb, hupn b (by omega), hszn b hb, f3 _ _ (by omega), f3 _ _ (by omega), f3 _ _ (by omega), f3 _ _ (by omega), zmk_ext (s := fun q => decide (uo Zn q = b)) (t := fun q => decide (uo Z q = b)) (fun q _ => decide_eq_decide.mpr (hoq b hb q))]
      exact zb1.2 b hb hn
    have hrlt : ∀ b, b < ub Z → zNew (un Zn) b = true → urk Zn b < urk Z (ub Z) := fun b hb hn => by
      rw [hrkn b (by omega)]
      rw [hnw b hb] at hn
      exact zcnt_lt _ hb hn
    have fin : ∀ M', (∀ b j, ¬ (b = ((92 : Nat) : Int) ∧ j = 10 ∨ ((93 : Nat) : Int) ≤ b ∧ b ≤ ((96 : Nat) : Int)) → M' b j = M3 b j) → cZb M' Zn → K (some (0, ((i + 2 + N + 1 : Nat) : Int))) M' := fun M' e hb => hk M' (fun b j q => by rw [e b j (by omega)]; exact f3 b j (by omega)) ⟨zn1.to (fun b j q => by rw [e b j (by omega)]; exact f3 b j (by omega)) hsd (upr_e hutn), hb, hcZo M' (fun b j q => e b j (by omega)), zw1.to (fun b j q => by rw [e b j (by omega)]; exact f3 b j (by omega)) hukn huMn, ⟨by rw [e _ _ (by omega)]; exact z3.1, by rw [e _ _ (by omega)]; exact z3.2⟩⟩
    by_cases hd : ufn Z (zVi B s (i + 1)) < ub Z
    · have hnf : zNew (un Zn) (ub Z) = false := by rw [hnl]; exact decide_eq_false (by omega)
      rw [hnf, if_neg (by decide), Nat.add_zero] at hrs
      rw [htw, decide_eq_true hd]
      ((with_reducible refine i_turn (i_cAnd (i_cI_lt (i_L6 (i_F (i_A1 ?_)))))); (with_reducible refine i_fld (by assumption) ?_); rw [zbI_t]; (rw [t4]); (with_reducible refine i_t (by omega) ?_); (with_reducible refine i_cI_eq (i_IA (i_FR (i_A1 ?_)))); (with_reducible refine i_fldR (by assumption) ?_); (with_reducible refine i_L6 ?_); (with_reducible refine i_in (by assumption) (by omega) (by omega) ?_); (with_reducible refine i_I ?_); (rw [t1]); (with_reducible refine i_f (by omega) ?_); (with_reducible refine i_Seq (i_If (i_cAnd (i_cNot (i_cZ_ne (i_L3 ?_)))))); (with_reducible refine i_t (by omega) ?_); (with_reducible refine i_RetI (i_Add (i_L6 (i_I ?_)))); rw [zx_inc (by omega)])
      exact fin M3 (fun _ _ _ => rfl) ⟨by rw [hrs]; exact b3, fun b hb hn => by
        rw [hubn] at hb
        by_cases e : b = ub Z
        · rw [e, hnf] at hn; cases hn
        · exact hold b (by omega) hn⟩
    · have hnt : zNew (un Zn) (ub Z) = true := by
        rw [hnl]
        have := zfl_le (un Z) (zVi B s (i + 1)) (ub Z)
        unfold ufn at hd ⊢
        exact decide_eq_true (by omega)
      rw [hnt, if_pos rfl] at hrs
      rw [htw, decide_eq_false hd]
      have hle16 : upb Z (ub Z) + zSz (uo Zn) 16 (ub Z) ≤ 16 := by
        rw [← hupe]
        exact zcnt_le _ _
      ((with_reducible refine i_turn (i_cAnd (i_cI_lt (i_L6 (i_F (i_A1 ?_)))))); (with_reducible refine i_fld (by assumption) ?_); rw [zbI_f]; (rw [t4]); (with_reducible refine i_t (by omega) ?_); (with_reducible refine i_cI_eq (i_IA (i_FR (i_A1 ?_)))); (with_reducible refine i_fldR (by assumption) ?_); (with_reducible refine i_L6 ?_); (with_reducible refine i_in (by assumption) (by omega) (by omega) ?_); (with_reducible refine i_I ?_); (rw [t1]); (with_reducible refine i_f (by omega) ?_); (with_reducible refine i_Seq (i_If (i_cAnd (i_cNot (i_cZ_ne (i_L3 ?_)))))); (with_reducible refine i_f (by omega) ?_); (with_reducible refine i_cI_lt (i_F (i_A0 ?_))); (with_reducible refine i_fld (by assumption) ?_); (with_reducible refine i_I ?_); (rw [b3]); (with_reducible refine i_t (by omega) ?_); (with_reducible refine i_Seq (i_sLA (i_FR (i_A0 ?_)))); (with_reducible refine i_fldR (by assumption) ?_); (with_reducible refine i_F (i_A0 ?_)); (with_reducible refine i_fld (by assumption) ?_); (with_reducible refine i_LA (i_FR (i_A1 ?_))); (with_reducible refine i_fldR (by assumption) ?_); (with_reducible refine i_L2 ?_); (with_reducible refine i_in (by assumption) (by omega) (by omega) ?_); (with_reducible refine i_in (by assumption) (by omega) (by omega) ?_); (with_reducible refine i_Seq (i_sIA (i_FR (i_A0 ?_)))); (with_reducible refine i_fldR (by assumption) ?_); (with_reducible refine i_F (i_A0 ?_)); (with_reducible refine i_fld (by assumption) ?_); (with_reducible refine i_L5 ?_); rw [zg_n _ _ _ (by omega)]; (with_reducible refine i_in (by assumption) (by omega) (by omega) ?_); (with_reducible refine i_Seq (i_sIA (i_FR (i_A0 ?_)))); (with_reducible refine i_fldR (by assumption) ?_); (with_reducible refine i_F (i_A0 ?_)); (with_reducible refine i_fld (by assumption) ?_); (with_reducible refine i_L4 ?_); rw [zg_n _ _ _ (by omega)]; rw [zg_n _ _ _ (by omega)]; (with_reducible refine i_in (by assumption) (by omega) (by omega) ?_); (with_reducible refine i_Seq (i_sIA (i_FR (i_A0 ?_)))); (with_reducible refine i_fldR (by assumption) ?_); (with_reducible refine i_F (i_A0 ?_)); (with_reducible refine i_fld (by assumption) ?_); (with_reducible refine i_Sub (i_F (i_A0 ?_))); (with_reducible refine i_fld (by assumption) ?_); (with_reducible refine i_L4 ?_); rw [zg_n _ _ _ (by omega)]; rw [zg_n _ _ _ (by omega)]; rw [zg_n _ _ _ (by omega)]; (with_reducible refine i_in (by assumption) (by omega) (by omega) ?_); (with_reducible refine i_FO (i_A0 ?_)); (with_reducible refine i_fld (by assumption) ?_); (with_reducible refine i_I ?_); (with_reducible refine i_fld (by assumption) ?_); (with_reducible refine i_RetI (i_Add (i_L6 (i_I ?_)))); rw [zg_n _ _ _ (by omega)]; rw [zg_n _ _ _ (by omega)]; rw [zg_n _ _ _ (by omega)]; rw [zg_n _ _ _ (by omega)]; rw [zg_n _ _ _ (by omega)]; rw [zg_n _ _ _ (by omega)]; rw [zg_n _ _ _ (by omega)]; (rw [b3]); (rw [v13]); (rw [r1]); rw [zx_inc (by omega)]; rw [zx_inc (by omega)]; rw [zx_sub (by omega) (by omega)])
      refine fin _ (fun b j q => by rw [zg_o _ _ (by omega), zg_o _ _ (by omega), zg_o _ _ (by omega), zg_o _ _ (by omega), zg_o _ _ (by omega)]) ⟨by rw [hrs]; exact zg_s _ _ _ _ _, fun b hb hn => ?_⟩
      rw [hubn] at hb
      by_cases e : b = ub Z
      · subst e
        rw [hrkn _ (Nat.le_refl _), hunn, hupn _ (Nat.le_refl _)]
        exact ⟨by rw [zg_n _ _ _ (by omega), zg_n _ _ _ (by omega), zg_n _ _ _ (by omega), zg_n _ _ _ (by omega), zg_s], by rw [zg_n _ _ _ (by omega), zg_n _ _ _ (by omega), zg_n _ _ _ (by omega), zg_s], by rw [zg_n _ _ _ (by omega), zg_n _ _ _ (by omega), zg_s], by rw [zg_n _ _ _ (by omega), zg_s]; omega⟩
      · have hlt := hrlt b (by omega) hn
        obtain ⟨y1, y2, y3, y4⟩ := hold b (by omega) hn
        exact ⟨by rw [zg_o _ _ (by omega), zg_o _ _ (by omega), zg_o _ _ (by omega), zg_o _ _ (by omega), zg_o _ _ (by omega)]; exact y1, by rw [zg_o _ _ (by omega), zg_o _ _ (by omega), zg_o _ _ (by omega), zg_o _ _ (by omega), zg_o _ _ (by omega)]; exact y2, by rw [zg_o _ _ (by omega), zg_o _ _ (by omega), zg_o _ _ (by omega), zg_o _ _ (by omega), zg_o _ _ (by omega)]; exact y3, by rw [zg_o _ _ (by omega), zg_o _ _ (by omega), zg_o _ _ (by omega), zg_o _ _ (by omega), zg_o _ _ (by omega)]; exact y4⟩
