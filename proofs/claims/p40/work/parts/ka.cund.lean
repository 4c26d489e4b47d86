/-! ===== all tells: the class ===== -/
theorem ubl_le (Z : zZt) (x : Nat) : uF (ubl Z x) ≤ uF Z := Nat.min_le_left _ _
theorem uaw_le (Z : zZt) (w : Nat × Nat × Nat) (p : Nat) : uF (uaw Z w p) ≤ uF Z := by
  show (if _ then min (uF Z) _ else uF Z) ≤ _
  split
  · exact Nat.min_le_left _ _
  · exact Nat.le_refl _
theorem uif_le {c : Prop} [Decidable c] (Z : zZt) (x : Nat) : uF (if c then ubl Z x else Z) ≤ uF Z := by
  split
  · exact ubl_le _ _
  · exact Nat.le_refl _
theorem ukb_le (Z : zZt) (v p : Nat) : uF (ukb Z v p) ≤ uF Z := by
  unfold ukb
  split
  · exact Nat.le_refl _
  · exact ubl_le _ _
theorem ukp_le (n : Nat) (Z : zZt) (v p : Nat) : uF (ukp n Z v p) ≤ uF Z := by
  unfold ukp
  split
  · exact Nat.le_refl _
  · exact ubl_le _ _
theorem ubq_le (n : Nat) (P V : Nat → Nat) (b : Nat) (r : (Nat → Nat) × (Nat → Nat) × Nat) (j : Nat) : (ubq n P V b r j).2.2 ≤ r.2.2 := by
  unfold ubq
  split
  · exact Nat.min_le_left _ _
  · split
    · exact Nat.min_le_left _ _
    · exact Nat.le_refl _
theorem ubs_le (n : Nat) (P V : Nat → Nat) (b : Nat) (r : (Nat → Nat) × (Nat → Nat) × Nat) (i : Nat) : ∀ c, (ubs n P V b r i c).2.2 ≤ r.2.2
  | 0 => Nat.le_refl _
  | c + 1 => Nat.le_trans (ubq_le n P V b (ubs n P V b r i c) (i + c)) (ubs_le n P V b r i c)
theorem ubs_bad {n : Nat} {P V : Nat → Nat} {b : Nat} {r : (Nat → Nat) × (Nat → Nat) × Nat} {i c : Nat} (h : n ≤ V (i + c) ∨ (ubs n P V b r i c).1 (V (i + c)) ≠ 999) : ∀ {N}, c < N → (ubs n P V b r i N).2.2 ≤ 8 * P (i + c) + 5 := by
  intro N
  induction N with
  | zero => exact fun z => absurd z (Nat.not_lt_zero _)
  | succ N ih =>
    intro hc
    by_cases e : c = N
    · subst e
      show (ubq n P V b (ubs n P V b r i c) (i + c)).2.2 ≤ _
      unfold ubq
      by_cases w : n ≤ V (i + c)
      · rw [if_pos w]
        exact Nat.min_le_right _ _
      · rw [if_neg w, if_pos (h.elim (fun z => absurd z w) id)]
        exact Nat.le_trans (Nat.min_le_right _ _) (by omega)
    · exact Nat.le_trans (ubq_le n P V b (ubs n P V b r i N) (i + N)) (ih (by omega))
theorem usb_F (B : Nat → Nat) (s n : Nat) (Z : zZt) (i : Nat) : uF (usb B s n Z i) ≤ uF Z := by
  refine Nat.le_trans (ubs_le n (zps B s) (zVi B s) (ub Z) (uo Z, ul Z, if ufn Z (zVi B s (i + 1)) < ub Z then min (uF Z) (8 * zps B s (i + 1) + 3) else uF Z) (i + 2) (zeb B s i - (i + 2))) ?_
  (try dsimp only)
  split
  · exact Nat.min_le_left _ _
  · exact Nat.le_refl _
theorem usb_bad {B : Nat → Nat} {s n i c : Nat} {Z : zZt} (hs : s ≤ 2000) (hc : c < zeb B s i - (i + 2)) (h : uBx B s n Z i c = true) : uF (usb B s n Z i) ≠ 99999 := by
  have h2 : n ≤ zVi B s (i + 2 + c) ∨ (ubs n (zps B s) (zVi B s) (ub Z) (uo Z, ul Z, if ufn Z (zVi B s (i + 1)) < ub Z then min (uF Z) (8 * zps B s (i + 1) + 3) else uF Z) (i + 2) c).1 (zVi B s (i + 2 + c)) ≠ 999 := by
    unfold uBx at h
    rw [Bool.or_eq_true] at h
    refine h.imp of_decide_eq_true (fun w => ?_)
    rw [(ubs_F (n := n) (P := zps B s) (V := zVi B s) (b := ub Z) (i := i + 2) (o := uo Z) (l := ul Z) (F := if ufn Z (zVi B s (i + 1)) < ub Z then min (uF Z) (8 * zps B s (i + 1) + 3) else uF Z) (G := 99999) c).1]
    exact of_decide_eq_true w
  have h3 := ubs_bad h2 hc
  have h4 := zps_le B s (i + 2 + c)
  have h5 : uF (usb B s n Z i) ≤ 8 * zps B s (i + 2 + c) + 5 := h3
  omega
theorem us1_F (B : Nat → Nat) (s k : Nat) (Z : zZt) (i : Nat) : uF (us1 B s k Z i) ≤ uF Z := by
  unfold us1
  split
  · exact Nat.le_trans (uaw_le _ _ _) (uif_le _ _)
  · exact ubl_le _ _
theorem us2_F (B : Nat → Nat) (s : Nat) (Z : zZt) (i : Nat) : uF (us2 B s Z i) ≤ uF Z := by
  have h := Nat.le_trans (ukb_le (ukb Z (zVi B s (i + 1)) (zps B s (i + 1))) (zVi B s (i + 2)) (zps B s (i + 2))) (ukb_le _ _ _)
  unfold us2
  (try dsimp only)
  split
  · exact Nat.le_trans (uaw_le _ _ _) (Nat.le_trans (uif_le _ _) h)
  · exact h
theorem us3_F (B : Nat → Nat) (s n : Nat) (Z : zZt) (i : Nat) : uF (us3 B s n Z i) ≤ uF Z := by
  have h := Nat.le_trans (ukb_le (ukp n Z (zVi B s (i + 1)) (zps B s (i + 1))) (zVi B s (i + 2)) (zps B s (i + 2))) (ukp_le _ _ _ _)
  unfold us3
  (try dsimp only)
  split
  · exact Nat.le_trans (uaw_le _ _ _) (Nat.le_trans (uif_le _ _) h)
  · exact h
theorem us4_F (B : Nat → Nat) (s n : Nat) (also : Bool) (Z : zZt) (i : Nat) : uF (us4 B s n also Z i) ≤ uF Z := by
  have h := Nat.le_trans (ukp_le n (ukp n Z (zVi B s (i + 1)) (zps B s (i + 1))) (zVi B s (i + 2)) (zps B s (i + 2))) (ukp_le _ _ _ _)
  unfold us4
  (try dsimp only)
  split
  · show uF (if _ then _ else _ : zZt) ≤ _
    exact Nat.le_trans (uif_le _ _) (Nat.le_trans (uif_le _ _) h)
  · exact h
theorem uFk_ne {F G : Nat} (h : uFk F) (h1 : F ≠ 99999) (h2 : G ≤ F) : G ≠ 99999 := by
  unfold uFk at h
  omega
/-- the class's picture: exact, or of a text that has a fault already -/
def cZj (M : zMem) (n : Nat) (Z : zZt) : Prop := cZt M n Z ∨ uF Z ≠ 99999 ∧ cZv M n Z
set_option maxHeartbeats 1600000 in
theorem c_takeTell {O : zOm} (hO : zWld O) (hS : zS O = zmS zC0) {i s n : Nat} {B : Nat → Nat} {Z : zZt} {M : zMem} {K : Option zV → zMem → Prop} (hs : s ≤ 2000) (hn16 : n ≤ 16) (hq0 : zqs B s (zhh B s) = 0) (hi : i < zhh B s) (hq : zqs B s i = 0) (hA : uAll B s n Z i) (hT : cTa M B s) (hJ : cZj M n Z)
    (hk : ∀ M', cXF M M' → cZj M' n (ust B s n Z i) → K (some (0, ((znt B s i : Nat) : Int))) M') : zR O F_Text_takeTell [(2, ((92 : Nat) : Int)), (2, ((86 : Nat) : Int)), (0, ((i : Nat) : Int))] M K := by
  have h400 := (zhh_ok B s).1
  obtain ⟨k3, k9, -⟩ := zgr_tell hi hq
  have t0 := (hT.2.2 i hi).1
  have hub : ub Z ≤ 100 := by have := hA.2.2.2.1; omega
  have hFk : uFk (uF Z) := hA.1.2.2.1
  unfold ust znt at hk
  apply r_Text_takeTell hO
  unfold B_Text_takeTell
  have f86_1 := zf_86_1 hS; have a88 := zCA (a := 88) (ty := .int) (n := 400) hS rfl; have z86 := zo_86 hS; have z92 := zo_92 hS
  have hc : zKi B s i = 3 ∨ zKi B s i = 4 ∨ zKi B s i = 5 ∨ zKi B s i = 6 ∨ zKi B s i = 7 ∨ zKi B s i = 8 ∨ zKi B s i = 9 := by omega
  rcases hc with e | e | e | e | e | e | e
  · rw [if_pos e, if_pos e] at hk
    rw [e] at t0
    have t1 : M ((88 : Nat) : Int) ((i : Nat) : Int) = 3 := t0
    ((with_reducible refine i_Sw (i_IA (i_FR (i_A1 ?_)))); (with_reducible refine i_fldR (by assumption) ?_); (with_reducible refine i_L2 ?_); (with_reducible refine i_in (by assumption) (by omega) (by omega) ?_); (with_reducible refine i_sw1 ?_); (rw [t1]); (refine i_t (by decide) ?_); (with_reducible refine i_RetI (i_Call (i_as1 (i_A0 (i_as1 (i_A1 (i_as1 (i_Add (i_L2 (i_I (i_as0 ?_))))))))))); (with_reducible refine i_recv0 (by assumption) ?_); rw [zx_inc (by omega)])
    rcases hJ with hZ | ⟨hF, hZ⟩
    · by_cases hgd : ∃ c, c < zeb B s i - (i + 2) ∧ uBx B s n Z i c = true
      · obtain ⟨c, c1, c2⟩ := id hgd
        obtain ⟨w1, w2, w3, w4⟩ := hZ.vb hA.1.1 (by omega) (Nat.le_trans hA.2.2.2.2.2 (zkwc_h (Nat.le_of_lt hi)))
        refine c_vtakeBox hO hS hs hn16 hq0 hi hq e hA hT w1 w2 w3 w4 (Or.inr hgd) (fun M1 f1 z1 => ⟨_, rfl, ?_⟩)
        (skip)
        exact hk M1 f1 (Or.inr ⟨usb_bad hs c1 c2, z1⟩)
      · refine c_takeBox hO hS hs hn16 hq0 hi hq e hA hT hZ (fun c hc => ?_) (fun M1 f1 z1 => ⟨_, rfl, ?_⟩)
        · cases w : uBx B s n Z i c
          · rfl
          · exact absurd ⟨c, hc, w⟩ hgd
        · (skip)
          exact hk M1 f1 (Or.inl z1)
    · refine c_vtakeBox hO hS hs hn16 hq0 hi hq e hA hT hZ.1 hZ.2.1 hZ.2.2.1 hZ.2.2.2.1 (Or.inl hZ.2.2.2.2) (fun M1 f1 z1 => ⟨_, rfl, ?_⟩)
      (skip)
      exact hk M1 f1 (Or.inr ⟨uFk_ne hFk hF (usb_F B s n Z i), z1⟩)
  · rw [if_neg (show ¬ zKi B s i = 3 by omega), if_neg (show ¬ zKi B s i = 3 by omega), if_pos e, if_pos (show zKi B s i ≤ 5 by omega)] at hk
    rw [e] at t0
    have t1 : M ((88 : Nat) : Int) ((i : Nat) : Int) = 4 := t0
    ((with_reducible refine i_Sw (i_IA (i_FR (i_A1 ?_)))); (with_reducible refine i_fldR (by assumption) ?_); (with_reducible refine i_L2 ?_); (with_reducible refine i_in (by assumption) (by omega) (by omega) ?_); (with_reducible refine i_sw1 ?_); (rw [t1]); (refine i_f (by decide) ?_); (with_reducible refine i_sw1 ?_); (refine i_t (by decide) ?_); (with_reducible refine i_Seq (i_sCall (i_as1 (i_A0 (i_as1 (i_A1 (i_as1 (i_L2 (i_as1 (i_I (i_as0 ?_))))))))))); (with_reducible refine i_recv0 (by assumption) ?_))
    rcases hJ with hZ | ⟨hF, hZ⟩
    · refine c_takeOfBox hO hS (k := 0) rfl hs hn16 hq0 hi hq (Or.inl e) (Or.inl rfl) hA hT hZ (fun M1 f1 z1 => ⟨rfl, ?_⟩)
      ((with_reducible refine i_RetI (i_Add (i_L2 (i_I ?_)))); rw [zx_addc (by omega)])
      exact hk M1 f1 (Or.inl z1)
    · refine c_vtakeOfBox hO hS (k := 0) rfl hn16 hq0 hi hq (Or.inl e) (Or.inl rfl) hub hT hZ (fun M1 f1 z1 => ⟨rfl, ?_⟩)
      ((with_reducible refine i_RetI (i_Add (i_L2 (i_I ?_)))); rw [zx_addc (by omega)])
      exact hk M1 f1 (Or.inr ⟨uFk_ne hFk hF (us1_F B s 0 Z i), z1.z (us1_1 B s 0 Z i)⟩)
  · rw [if_neg (show ¬ zKi B s i = 3 by omega), if_neg (show ¬ zKi B s i = 3 by omega), if_neg (show ¬ zKi B s i = 4 by omega), if_pos e, if_pos (show zKi B s i ≤ 5 by omega)] at hk
    rw [e] at t0
    have t1 : M ((88 : Nat) : Int) ((i : Nat) : Int) = 5 := t0
    ((with_reducible refine i_Sw (i_IA (i_FR (i_A1 ?_)))); (with_reducible refine i_fldR (by assumption) ?_); (with_reducible refine i_L2 ?_); (with_reducible refine i_in (by assumption) (by omega) (by omega) ?_); (with_reducible refine i_sw1 ?_); (rw [t1]); (refine i_f (by decide) ?_); (with_reducible refine i_sw1 ?_); (refine i_f (by decide) ?_); (with_reducible refine i_sw1 ?_); (refine i_t (by decide) ?_); (with_reducible refine i_Seq (i_sCall (i_as1 (i_A0 (i_as1 (i_A1 (i_as1 (i_L2 (i_as1 (i_I (i_as0 ?_))))))))))); (with_reducible refine i_recv0 (by assumption) ?_))
    rcases hJ with hZ | ⟨hF, hZ⟩
    · refine c_takeOfBox hO hS (k := 3) rfl hs hn16 hq0 hi hq (Or.inr e) (Or.inr rfl) hA hT hZ (fun M1 f1 z1 => ⟨rfl, ?_⟩)
      ((with_reducible refine i_RetI (i_Add (i_L2 (i_I ?_)))); rw [zx_addc (by omega)])
      exact hk M1 f1 (Or.inl z1)
    · refine c_vtakeOfBox hO hS (k := 3) rfl hn16 hq0 hi hq (Or.inr e) (Or.inr rfl) hub hT hZ (fun M1 f1 z1 => ⟨rfl, ?_⟩)
      ((with_reducible refine i_RetI (i_Add (i_L2 (i_I ?_)))); rw [zx_addc (by omega)])
      exact hk M1 f1 (Or.inr ⟨uFk_ne hFk hF (us1_F B s 3 Z i), z1.z (us1_1 B s 3 Z i)⟩)
  · rw [if_neg (show ¬ zKi B s i = 3 by omega), if_neg (show ¬ zKi B s i = 3 by omega), if_neg (show ¬ zKi B s i = 4 by omega), if_neg (show ¬ zKi B s i = 5 by omega), if_pos e, if_neg (show ¬ zKi B s i ≤ 5 by omega)] at hk
    rw [e] at t0
    have t1 : M ((88 : Nat) : Int) ((i : Nat) : Int) = 6 := t0
    ((with_reducible refine i_Sw (i_IA (i_FR (i_A1 ?_)))); (with_reducible refine i_fldR (by assumption) ?_); (with_reducible refine i_L2 ?_); (with_reducible refine i_in (by assumption) (by omega) (by omega) ?_); (with_reducible refine i_sw1 ?_); (rw [t1]); (refine i_f (by decide) ?_); (with_reducible refine i_sw1 ?_); (refine i_f (by decide) ?_); (with_reducible refine i_sw1 ?_); (refine i_f (by decide) ?_); (with_reducible refine i_sw1 ?_); (refine i_t (by decide) ?_); (with_reducible refine i_Seq (i_sCall (i_as1 (i_A0 (i_as1 (i_A1 (i_as1 (i_L2 (i_as0 ?_))))))))); (with_reducible refine i_recv0 (by assumption) ?_))
    rcases hJ with hZ | ⟨hF, hZ⟩
    · refine c_xtakeSides hO hS hs hn16 hq0 hi hq e hA hT hZ (fun M1 f1 z1 => ⟨rfl, ?_⟩)
      ((with_reducible refine i_RetI (i_Add (i_L2 (i_I ?_)))); rw [zx_addc (by omega)])
      exact hk M1 f1 (Or.inl z1)
    · refine c_vtakeSides hO hS hn16 hq0 hi hq e hub hT hZ (fun M1 f1 z1 => ⟨rfl, ?_⟩)
      ((with_reducible refine i_RetI (i_Add (i_L2 (i_I ?_)))); rw [zx_addc (by omega)])
      exact hk M1 f1 (Or.inr ⟨uFk_ne hFk hF (us2_F B s Z i), z1.z (us2_1 B s Z i)⟩)
  · rw [if_neg (show ¬ zKi B s i = 3 by omega), if_neg (show ¬ zKi B s i = 3 by omega), if_neg (show ¬ zKi B s i = 4 by omega), if_neg (show ¬ zKi B s i = 5 by omega), if_neg (show ¬ zKi B s i = 6 by omega), if_pos e, if_neg (show ¬ zKi B s i ≤ 5 by omega)] at hk
    rw [e] at t0
    have t1 : M ((88 : Nat) : Int) ((i : Nat) : Int) = 7 := t0
    ((with_reducible refine i_Sw (i_IA (i_FR (i_A1 ?_)))); (with_reducible refine i_fldR (by assumption) ?_); (with_reducible refine i_L2 ?_); (with_reducible refine i_in (by assumption) (by omega) (by omega) ?_); (with_reducible refine i_sw1 ?_); (rw [t1]); (refine i_f (by decide) ?_); (with_reducible refine i_sw1 ?_); (refine i_f (by decide) ?_); (with_reducible refine i_sw1 ?_); (refine i_f (by decide) ?_); (with_reducible refine i_sw1 ?_); (refine i_f (by decide) ?_); (with_reducible refine i_sw1 ?_); (refine i_t (by decide) ?_); (with_reducible refine i_Seq (i_sCall (i_as1 (i_A0 (i_as1 (i_A1 (i_as1 (i_L2 (i_as0 ?_))))))))); (with_reducible refine i_recv0 (by assumption) ?_))
    rcases hJ with hZ | ⟨hF, hZ⟩
    · refine c_takeStar hO hS hs hn16 hq0 hi hq e hA hT hZ (fun M1 f1 z1 => ⟨rfl, ?_⟩)
      ((with_reducible refine i_RetI (i_Add (i_L2 (i_I ?_)))); rw [zx_addc (by omega)])
      exact hk M1 f1 (Or.inl z1)
    · refine c_vtakeStar hO hS hn16 hq0 hi hq e hub hT hZ (fun M1 f1 z1 => ⟨rfl, ?_⟩)
      ((with_reducible refine i_RetI (i_Add (i_L2 (i_I ?_)))); rw [zx_addc (by omega)])
      exact hk M1 f1 (Or.inr ⟨uFk_ne hFk hF (us3_F B s n Z i), z1.z (us3_1 B s n Z i)⟩)
  · rw [if_neg (show ¬ zKi B s i = 3 by omega), if_neg (show ¬ zKi B s i = 3 by omega), if_neg (show ¬ zKi B s i = 4 by omega), if_neg (show ¬ zKi B s i = 5 by omega), if_neg (show ¬ zKi B s i = 6 by omega), if_neg (show ¬ zKi B s i = 7 by omega), if_neg (show ¬ zKi B s i ≤ 5 by omega)] at hk
    have t1 : M ((88 : Nat) : Int) ((i : Nat) : Int) = 8 := by rw [t0, e]; rfl
    ((with_reducible refine i_Sw (i_IA (i_FR (i_A1 ?_)))); (with_reducible refine i_fldR (by assumption) ?_); (with_reducible refine i_L2 ?_); (with_reducible refine i_in (by assumption) (by omega) (by omega) ?_); (with_reducible refine i_sw1 ?_); (rw [t1]); (refine i_f (by decide) ?_); (with_reducible refine i_sw1 ?_); (refine i_f (by decide) ?_); (with_reducible refine i_sw1 ?_); (refine i_f (by decide) ?_); (with_reducible refine i_sw1 ?_); (refine i_f (by decide) ?_); (with_reducible refine i_sw1 ?_); (refine i_f (by decide) ?_); (with_reducible refine i_sw0 (i_Seq (i_sCall (i_as1 (i_A0 (i_as1 (i_A1 (i_as1 (i_L2 (i_as0 ?_)))))))))); (with_reducible refine i_recv0 (by assumption) ?_))
    rcases hJ with hZ | ⟨hF, hZ⟩
    · refine c_takePair hO hS hs hn16 hq0 hi hq (Or.inl e) hA hT hZ (fun M1 f1 z1 => ⟨rfl, ?_⟩)
      ((with_reducible refine i_RetI (i_Add (i_L2 (i_I ?_)))); rw [zx_addc (by omega)])
      exact hk M1 f1 (Or.inl z1)
    · refine c_vtakePair hO hS hn16 hq0 hi hq (Or.inl e) hT hZ (fun M1 f1 z1 => ⟨rfl, ?_⟩)
      ((with_reducible refine i_RetI (i_Add (i_L2 (i_I ?_)))); rw [zx_addc (by omega)])
      exact hk M1 f1 (Or.inr ⟨uFk_ne hFk hF (us4_F B s n _ Z i), z1.z (us4_1 B s n _ Z i)⟩)
  · rw [if_neg (show ¬ zKi B s i = 3 by omega), if_neg (show ¬ zKi B s i = 3 by omega), if_neg (show ¬ zKi B s i = 4 by omega), if_neg (show ¬ zKi B s i = 5 by omega), if_neg (show ¬ zKi B s i = 6 by omega), if_neg (show ¬ zKi B s i = 7 by omega), if_neg (show ¬ zKi B s i ≤ 5 by omega)] at hk
    have t1 : M ((88 : Nat) : Int) ((i : Nat) : Int) = 9 := by rw [t0, e]; rfl
    ((with_reducible refine i_Sw (i_IA (i_FR (i_A1 ?_)))); (with_reducible refine i_fldR (by assumption) ?_); (with_reducible refine i_L2 ?_); (with_reducible refine i_in (by assumption) (by omega) (by omega) ?_); (with_reducible refine i_sw1 ?_); (rw [t1]); (refine i_f (by decide) ?_); (with_reducible refine i_sw1 ?_); (refine i_f (by decide) ?_); (with_reducible refine i_sw1 ?_); (refine i_f (by decide) ?_); (with_reducible refine i_sw1 ?_); (refine i_f (by decide) ?_); (with_reducible refine i_sw1 ?_); (refine i_f (by decide) ?_); (with_reducible refine i_sw0 (i_Seq (i_sCall (i_as1 (i_A0 (i_as1 (i_A1 (i_as1 (i_L2 (i_as0 ?_)))))))))); (with_reducible refine i_recv0 (by assumption) ?_))
    rcases hJ with hZ | ⟨hF, hZ⟩
    · refine c_takePair hO hS hs hn16 hq0 hi hq (Or.inr e) hA hT hZ (fun M1 f1 z1 => ⟨rfl, ?_⟩)
      ((with_reducible refine i_RetI (i_Add (i_L2 (i_I ?_)))); rw [zx_addc (by omega)])
      exact hk M1 f1 (Or.inl z1)
    · refine c_vtakePair hO hS hn16 hq0 hi hq (Or.inr e) hT hZ (fun M1 f1 z1 => ⟨rfl, ?_⟩)
      ((with_reducible refine i_RetI (i_Add (i_L2 (i_I ?_)))); rw [zx_addc (by omega)])
      exact hk M1 f1 (Or.inr ⟨uFk_ne hFk hF (us4_F B s n _ Z i), z1.z (us4_1 B s n _ Z i)⟩)
/-- the faults of alsos that are said, token by token -/
def uH1 (B : Nat → Nat) (s n : Nat) (Z : zZt) (i F : Nat) : Nat :=
  let F1 := if zVi B s (i + 1) < n then F else min F (8 * zps B s (i + 1) + 5)
  let F2 := if zVi B s (i + 2) < n then F1 else min F1 (8 * zps B s (i + 2) + 5)
  if zVi B s (i + 1) < n ∧ zVi B s (i + 2) < n ∧ zVi B s (i + 1) ≠ zVi B s (i + 2) ∧ usd Z (zVi B s (i + 1)) (zVi B s (i + 2)) = true then min F2 (8 * zps B s (i + 2) + 5) else F2
def uH (B : Nat → Nat) (s n : Nat) (Z : zZt) : Nat → Nat
  | 0 => uF Z
  | i + 1 => if zKi B s i = 9 then uH1 B s n Z i (uH B s n Z i) else uH B s n Z i
theorem uH1_le (B : Nat → Nat) (s n : Nat) (Z : zZt) (i F : Nat) : uH1 B s n Z i F ≤ F := by
  unfold uH1
  (try dsimp only)
  split <;> split <;> split <;> omega
theorem uH1_k {B : Nat → Nat} {s n i F : Nat} {Z : zZt} (hs : s ≤ 2000) (hF : uFk F) : uFk (uH1 B s n Z i F) := by
  have hp := fun j => Nat.le_trans (zps_le B s j) hs
  have h1 : uFk (if zVi B s (i + 1) < n then F else min F (8 * zps B s (i + 1) + 5)) := by
    split
    · exact hF
    · exact uFk_min hF (hp _) (by decide) (by decide)
  have h2 : uFk (if zVi B s (i + 2) < n then (if zVi B s (i + 1) < n then F else min F (8 * zps B s (i + 1) + 5)) else min (if zVi B s (i + 1) < n then F else min F (8 * zps B s (i + 1) + 5)) (8 * zps B s (i + 2) + 5)) := by
    by_cases e : zVi B s (i + 2) < n
    · rw [if_pos e]; exact h1
    · rw [if_neg e]; exact uFk_min h1 (hp _) (by decide) (by decide)
  unfold uH1
  (try dsimp only)
  by_cases e : zVi B s (i + 1) < n ∧ zVi B s (i + 2) < n ∧ zVi B s (i + 1) ≠ zVi B s (i + 2) ∧ usd Z (zVi B s (i + 1)) (zVi B s (i + 2)) = true
  · rw [if_pos e]; exact uFk_min h2 (hp _) (by decide) (by decide)
  · rw [if_neg e]; exact h2
theorem uH_mono {B : Nat → Nat} {s n : Nat} {Z : zZt} {i j : Nat} (h : i ≤ j) : uH B s n Z j ≤ uH B s n Z i := by
  induction j with
  | zero => rw [show i = 0 by omega]; exact Nat.le_refl _
  | succ j ih =>
    by_cases e : i = j + 1
    · rw [e]; exact Nat.le_refl _
    · have h1 := ih (by omega)
      refine Nat.le_trans ?_ h1
      show (if zKi B s j = 9 then uH1 B s n Z j (uH B s n Z j) else uH B s n Z j) ≤ _
      split
      · exact uH1_le _ _ _ _ _ _
      · exact Nat.le_refl _
theorem uG1_mono {Z : zZt} {i j : Nat} (h : i ≤ j) : uG1 Z j ≤ uG1 Z i := by
  induction j with
  | zero => rw [show i = 0 by omega]; exact Nat.le_refl _
  | succ j ih =>
    by_cases e : i = j + 1
    · rw [e]; exact Nat.le_refl _
    · have h1 := ih (by omega)
      refine Nat.le_trans ?_ h1
      show (if (up Z j).2.2.1 = true ∧ usd Z (up Z j).1 (up Z j).2.1 = true then min (uG1 Z j) (8 * (up Z j).2.2.2 + 5) else uG1 Z j) ≤ uG1 Z j
      split
      · exact Nat.min_le_left _ _
      · exact Nat.le_refl _
theorem uH_k {B : Nat → Nat} {s n : Nat} {Z : zZt} (hs : s ≤ 2000) (hF : uFk (uF Z)) : ∀ i, uFk (uH B s n Z i)
  | 0 => hF
  | i + 1 => by
    show uFk (if _ then _ else _)
    split
    · exact uH1_k hs (uH_k hs hF i)
    · exact uH_k hs hF i
/-- both ways of looking at the alsos find the same fault -/
theorem uH_G {B : Nat → Nat} {s n : Nat} {Z : zZt} (hA : uAll B s n Z (zhh B s)) (h3 : ∀ i, i < zhh B s → zKi B s i = 9 → i + 2 < zhh B s) : uH B s n Z (zhh B s) = uG1 Z (ut Z) := by
  obtain ⟨-, h5, h7, -⟩ := hA
  refine Nat.le_antisymm ?_ ?_
  · have key : ∀ k, k ≤ ut Z → uH B s n Z (zhh B s) ≤ uG1 Z k := by
      intro k
      induction k with
      | zero => exact fun _ => uH_mono (Nat.zero_le _)
      | succ k ih =>
        intro hk
        have i1 := ih (by omega)
        unfold uG1
        by_cases e : (up Z k).2.2.1 = true ∧ usd Z (up Z k).1 (up Z k).2.1 = true
        · rw [if_pos e]
          obtain ⟨a, b, c, j, j1, j2, j3⟩ := h5 k (by omega)
          obtain ⟨j4, j5, j6⟩ := j3 e.1
          refine Nat.le_min.mpr ⟨i1, ?_⟩
          by_cases e2 : (up Z k).1 = (up Z k).2.1
          · exact Nat.le_trans (uH_mono (Nat.zero_le _)) (c e2)
          · refine Nat.le_trans (uH_mono (i := j + 1) (by omega)) ?_
            show (if zKi B s j = 9 then uH1 B s n Z j (uH B s n Z j) else uH B s n Z j) ≤ _
            rw [if_pos j4]
            unfold uH1
            (try dsimp only)
            rw [j2]
            rw [if_pos (show zVi B s (j + 1) < n ∧ zVi B s (j + 2) < n ∧ zVi B s (j + 1) ≠ zVi B s (j + 2) ∧ usd Z (zVi B s (j + 1)) (zVi B s (j + 2)) = true from by rw [← j5, ← j6]; exact ⟨a, b, e2, e.2⟩)]
            exact Nat.min_le_right _ _
        · rw [if_neg e]; exact i1
    exact key _ (Nat.le_refl _)
  · have hG0 : uG1 Z (ut Z) ≤ uF Z := uG1_mono (Nat.zero_le _)
    have key : ∀ i, i ≤ zhh B s → uG1 Z (ut Z) ≤ uH B s n Z i := by
      intro i
      induction i with
      | zero => exact fun _ => hG0
      | succ i ih =>
        intro hi
        have i1 := ih (by omega)
        show _ ≤ (if zKi B s i = 9 then uH1 B s n Z i (uH B s n Z i) else uH B s n Z i)
        by_cases e : zKi B s i = 9
        · rw [if_pos e]
          obtain ⟨a, b, c⟩ := h7 i (by omega) e
          have c1 : uG1 Z (ut Z) ≤ (if zVi B s (i + 1) < n then uH B s n Z i else min (uH B s n Z i) (8 * zps B s (i + 1) + 5)) := by
            by_cases w : zVi B s (i + 1) < n
            · rw [if_pos w]; exact i1
            · rw [if_neg w]; exact Nat.le_min.mpr ⟨i1, Nat.le_trans hG0 (a (by omega))⟩
          have c2 : uG1 Z (ut Z) ≤ (if zVi B s (i + 2) < n then (if zVi B s (i + 1) < n then uH B s n Z i else min (uH B s n Z i) (8 * zps B s (i + 1) + 5)) else min (if zVi B s (i + 1) < n then uH B s n Z i else min (uH B s n Z i) (8 * zps B s (i + 1) + 5)) (8 * zps B s (i + 2) + 5)) := by
            by_cases w : zVi B s (i + 2) < n
            · rw [if_pos w]; exact c1
            · rw [if_neg w]; exact Nat.le_min.mpr ⟨c1, Nat.le_trans hG0 (b (by omega))⟩
          unfold uH1
          (try dsimp only)
          by_cases w : zVi B s (i + 1) < n ∧ zVi B s (i + 2) < n ∧ zVi B s (i + 1) ≠ zVi B s (i + 2) ∧ usd Z (zVi B s (i + 1)) (zVi B s (i + 2)) = true
          · rw [if_pos w]
            refine Nat.le_min.mpr ⟨c2, ?_⟩
            obtain ⟨k, k1, k2⟩ := c w.1 w.2.1
            refine Nat.le_trans (uG1_mono (i := k + 1) k1) ?_
            unfold uG1
            rw [k2]
            rw [if_pos ⟨rfl, w.2.2.2⟩]
            exact Nat.min_le_right _ _
          · rw [if_neg w]; exact c2
        · rw [if_neg e]; exact i1
    exact key _ (Nat.le_refl _)
set_option maxHeartbeats 1600000 in
theorem c_checkAlsos {O : zOm} (hO : zWld O) (hS : zS O = zmS zC0) {s n : Nat} {B : Nat → Nat} {Z : zZt} {M : zMem} {K : Option zV → zMem → Prop} (hs : s ≤ 2000) (hn16 : n ≤ 16) (hF : uFk (uF Z)) (h3 : ∀ i, i < zhh B s → zKi B s i = 9 → i + 2 < zhh B s ∧ zKi B s (i + 1) = 1 ∧ zKi B s (i + 2) = 1) (hT : cTa M B s) (hZ : cZt M n Z)
    (hk : ∀ M', (∀ b j, ¬ (b = ((92 : Nat) : Int) ∧ (j = 14 ∨ j = 15)) → M' b j = M b j) → cZf M' (uH B s n Z (zhh B s)) → K none M') : zR O F_Text_checkAlsos [(2, ((92 : Nat) : Int)), (2, ((86 : Nat) : Int))] M K := by
  have h400 := (zhh_ok B s).1
  have n100 := zNet101 hS
  have n100o := n100.2.2.2
  have hp := fun j => Nat.le_trans (zps_le B s j) hs
  have hHe : uH B s n Z (zhh B s) = uH B s n Z (zhh B s - 2) := by
    have key : ∀ d, d ≤ 2 → d ≤ zhh B s → uH B s n Z (zhh B s) = uH B s n Z (zhh B s - d) := by
      intro d
      induction d with
      | zero => exact fun _ _ => by rw [Nat.sub_zero]
      | succ d ih =>
        intro h1 h2
        rw [ih (by omega) (by omega)]
        have e : zhh B s - d = (zhh B s - (d + 1)) + 1 := by omega
        rw [e]
        show (if zKi B s (zhh B s - (d + 1)) = 9 then _ else _) = _
        rw [if_neg]
        intro w
        have := (h3 _ (by omega) w).1
        omega
    rcases Nat.lt_or_ge (zhh B s) 2 with w | w
    · have h := key (zhh B s) (by omega) (Nat.le_refl _)
      rw [h, show zhh B s - zhh B s = 0 by omega, show zhh B s - 2 = 0 by omega]
    · exact key 2 (Nat.le_refl _) w
  rw [hHe] at hk
  apply r_Text_checkAlsos hO
  unfold B_Text_checkAlsos
  have f86_6 := zf_86_6 hS; have f86_1 := zf_86_1 hS; have a88 := zCA (a := 88) (ty := .int) (n := 400) hS rfl; have f92_7 := zf_92_7 hS; have f86_2 := zf_86_2 hS; have a89 := zCA (a := 89) (ty := .int) (n := 400) hS rfl; have z86 := zo_86 hS; have z92 := zo_92 hS
  ((with_reducible refine i_Seq (i_Blk (i_Seq (i_Set (i_I ?_))))); simp only [w_set0, w_set1, w_setn0, w_setn1])
  refine w_ForN (zhh B s - 2) (fun c ρ M' => (∃ l, ρ = ((92 : Nat) : Int) :: ((86 : Nat) : Int) :: ((c : Nat) : Int) :: l) ∧ (∀ b j, ¬ (b = ((92 : Nat) : Int) ∧ (j = 14 ∨ j = 15)) → M' b j = M b j) ∧ cZf M' (uH B s n Z c)) ⟨⟨_, rfl⟩, fun _ _ _ => rfl, hZ.2.2.2.2⟩ ?_ ?_
  · rintro c ρ M1 X hc ⟨⟨l, rfl⟩, f1, z1⟩ hX
    have hT1 : cTa M1 B s := hT.to (fun b j q => f1 b j (by omega))
    have t1 := hT1.1
    have t2 := (hT1.2.2 c (by omega)).1
    have hFc := uH_k (B := B) (n := n) hs hF c
    have hX2 : ∀ (l : zLoc) (M' : zMem), (∀ b j, ¬ (b = ((92 : Nat) : Int) ∧ (j = 14 ∨ j = 15)) → M' b j = M b j) → cZf M' (if zKi B s c = 9 then uH1 B s n Z c (uH B s n Z c) else uH B s n Z c) → X (((92 : Nat) : Int) :: ((86 : Nat) : Int) :: ((c + 1 : Nat) : Int) :: l) M' := fun l M' u v => hX _ _ ⟨⟨l, rfl⟩, u, v⟩
    clear hX hk hHe
    by_cases e : zKi B s c = 9
    · obtain ⟨e1, e2, e3⟩ := h3 c (by omega) e
      rw [if_pos e] at hX2
      have v1 := hT1.v1 (show c + 1 < zhh B s by omega) e2
      have v14 := zVi_1 (show c + 1 < zhh B s by omega) e2
      have v2 := hT1.v1 (show c + 2 < zhh B s by omega) e3
      have v24 := zVi_1 (show c + 2 < zhh B s by omega) e3
      have p1 := (hT1.2.2 (c + 1) (by omega)).2.1
      have p2 := (hT1.2.2 (c + 2) (by omega)).2.1
      have nn1 : M1 ((92 : Nat) : Int) ((9 : Nat) : Int) = ((n : Nat) : Int) := by rw [f1 _ _ (by omega)]; exact hZ.1.1
      have hpp := hp (c + 2)
      have hpp1 := hp (c + 1)
      have t2' : M1 ((88 : Nat) : Int) ((c : Nat) : Int) = 9 := by rw [t2, e]; rfl
      unfold uH1 at hX2
      (try dsimp only at hX2)
      generalize uH B s n Z c = F at z1 hFc hX2
      generalize zVi B s (c + 1) = a at *
      generalize zVi B s (c + 2) = b at *
      generalize zps B s (c + 2) = pp at *
      generalize zps B s (c + 1) = pp1 at *
      have hFc1 : uFk (if a < n then F else min F (8 * pp1 + 5)) := by
        split
        · exact hFc
        · exact uFk_min hFc hpp1 (by decide) (by decide)
      ((with_reducible refine i_turn (i_cI_lt (i_Add (i_L2 (i_I (i_F (i_A1 ?_))))))); (with_reducible refine i_fld (by assumption) ?_); (rw [t1]); rw [zx_addc (by omega)]; (with_reducible refine i_t (by omega) ?_); (with_reducible refine i_If (i_cI_eq (i_IA (i_FR (i_A1 ?_))))); (with_reducible refine i_fldR (by assumption) ?_); (with_reducible refine i_L2 ?_); (with_reducible refine i_in (by assumption) (by omega) (by omega) ?_); (with_reducible refine i_I ?_); (rw [t2']); simp only [w_set0, w_set1, w_setn0, w_setn1]; (with_reducible refine i_t trivial ?_); (with_reducible refine i_Blk (i_Seq (i_Set (i_Call (i_as1 (i_A0 (i_as1 (i_A1 (i_as1 (i_Add (i_L2 (i_I (i_as0 ?_))))))))))))); (with_reducible refine i_recv0 (by assumption) ?_); rw [zx_inc (by omega)]; simp only [w_set0, w_set1, w_setn0, w_setn1])
      refine c_postTold hO hS z1 nn1 hn16 hFc (by omega) v1 v14 p1 hpp1 (fun M2 f2 z2 => ⟨_, rfl, ?_⟩)
      generalize (if a < n then F else min F (8 * pp1 + 5)) = F1 at *
      ((with_reducible refine i_Seq (i_Set (i_Call (i_as1 (i_A0 (i_as1 (i_A1 (i_as1 (i_Add (i_L2 (i_I (i_as0 ?_)))))))))))); (with_reducible refine i_recv0 (by assumption) ?_); rw [zx_addc (by omega)]; simp only [w_set0, w_set1, w_setn0, w_setn1]; rw [w_setT]; simp only [w_set0, w_set1, w_setn0, w_setn1])
      refine c_postTold hO hS z2 (by rw [f2 _ _ (by omega)]; exact nn1) hn16 hFc1 (by omega) (by rw [f2 _ _ (by omega)]; exact v2) v24 (by rw [f2 _ _ (by omega)]; exact p2) hpp (fun M3 f3 z3 => ⟨_, rfl, ?_⟩)
      have hFc2 : uFk (if b < n then F1 else min F1 (8 * pp + 5)) := by
        split
        · exact hFc1
        · exact uFk_min hFc1 hpp (by decide) (by decide)
      generalize (if b < n then F1 else min F1 (8 * pp + 5)) = F2 at *
      have f13 : ∀ b j, ¬ (b = ((92 : Nat) : Int) ∧ (j = 14 ∨ j = 15)) → M3 b j = M b j := fun b j q => by rw [f3 b j q, f2 b j q, f1 b j q]
      have p23 : M3 ((89 : Nat) : Int) ((c + 2 : Nat) : Int) = ((pp : Nat) : Int) := by rw [f3 _ _ (by omega), f2 _ _ (by omega)]; exact p2
      have hjs : zNR M3 101 n (fun p q => decide (p ≠ q) && usd Z p q) := ⟨by rw [f13 _ _ (by omega)]; exact hZ.1.2.1.1, fun p hp2 => by rw [f13 _ _ (by omega)]; exact hZ.1.2.1.2 p hp2⟩
      by_cases ea : a < n
      · by_cases eb : b < n
        · rw [if_pos ea, if_pos eb]
          cases w : (decide (a ≠ b) && usd Z a b)
          · rw [if_neg (fun z => by rw [decide_eq_true z.2.2.1, z.2.2.2] at w; cases w)] at hX2
            ((with_reducible refine i_If (i_cAnd (i_cAnd (i_cI_ne (i_L3 (i_I ?_)))))); rw [w_setT]; (with_reducible refine i_t (by omega) ?_); (with_reducible refine i_cI_ne (i_L4 (i_I ?_))); (with_reducible refine i_t (by omega) ?_); (with_reducible refine i_cZ_ne (i_Call (i_as1 (i_FR (i_A0 ?_))))); (with_reducible refine i_fldR (by assumption) ?_); (with_reducible refine i_as1 (i_L3 (i_as1 (i_L4 (i_as0 ?_))))); (with_reducible refine i_recv0 (by assumption) ?_); (refine s_joins hO n100 hjs (show a < 16 by omega) (show b < 16 by omega) ⟨_, rfl, ?_⟩); (rw [w]); rw [zbI_f]; (with_reducible refine i_f (by omega) ?_); (with_reducible refine i_up (i_Inc2 ?_)); rw [zx_inc (by omega)]; simp only [w_set0, w_set1, w_setn0, w_setn1])
            exact hX2 _ M3 f13 z3
          · have w2 : a ≠ b ∧ usd Z a b = true := by
              rw [Bool.and_eq_true] at w
              exact ⟨of_decide_eq_true w.1, w.2⟩
            rw [if_pos ⟨ea, eb, w2.1, w2.2⟩] at hX2
            ((with_reducible refine i_If (i_cAnd (i_cAnd (i_cI_ne (i_L3 (i_I ?_)))))); rw [w_setT]; (with_reducible refine i_t (by omega) ?_); (with_reducible refine i_cI_ne (i_L4 (i_I ?_))); (with_reducible refine i_t (by omega) ?_); (with_reducible refine i_cZ_ne (i_Call (i_as1 (i_FR (i_A0 ?_))))); (with_reducible refine i_fldR (by assumption) ?_); (with_reducible refine i_as1 (i_L3 (i_as1 (i_L4 (i_as0 ?_))))); (with_reducible refine i_recv0 (by assumption) ?_); (refine s_joins hO n100 hjs (show a < 16 by omega) (show b < 16 by omega) ⟨_, rfl, ?_⟩); (rw [w]); rw [zbI_t]; (with_reducible refine i_t (by omega) ?_); (with_reducible refine i_sCall (i_as1 (i_A0 (i_as1 (i_I (i_as1 (i_IA (i_FR (i_A1 ?_))))))))); (with_reducible refine i_fldR (by assumption) ?_); (with_reducible refine i_Add (i_L2 (i_I ?_))); rw [zx_addc (by omega)]; (with_reducible refine i_in (by assumption) (by omega) (by omega) ?_); (with_reducible refine i_as0 ?_); (with_reducible refine i_recv0 (by assumption) ?_); (rw [p23]))
            refine c_xblame hO hS (f := 5) rfl z3 hFc2 (by decide) (by decide) hpp (fun M4 f4 z4 => ⟨rfl, ?_⟩)
            ((with_reducible refine i_up (i_Inc2 ?_)); rw [zx_inc (by omega)]; simp only [w_set0, w_set1, w_setn0, w_setn1])
            exact hX2 _ M4 (fun b j q => by rw [f4 b j q, f13 b j q]) z4
        · rw [if_neg (fun z => eb z.2.1)] at hX2
          rw [if_pos ea, if_neg eb]
          ((with_reducible refine i_If (i_cAnd (i_cAnd (i_cI_ne (i_L3 (i_I ?_)))))); rw [w_setT]; (with_reducible refine i_t (by omega) ?_); (with_reducible refine i_cI_ne (i_L4 (i_I ?_))); (with_reducible refine i_f (by omega) ?_); (with_reducible refine i_up (i_Inc2 ?_)); rw [zx_inc (by omega)]; simp only [w_set0, w_set1, w_setn0, w_setn1])
          exact hX2 _ M3 f13 z3
      · rw [if_neg (fun z => ea z.1)] at hX2
        rw [if_neg ea]
        ((with_reducible refine i_If (i_cAnd (i_cAnd (i_cI_ne (i_L3 (i_I ?_)))))); rw [w_setT]; (with_reducible refine i_f (by omega) ?_); (with_reducible refine i_up (i_Inc2 ?_)); rw [zx_inc (by omega)]; simp only [w_set0, w_set1, w_setn0, w_setn1])
        exact hX2 _ M3 f13 z3
    · rw [if_neg e] at hX2
      have e' : ¬ ((zKi B s c : Nat) : Int) = 9 := by omega
      ((with_reducible refine i_turn (i_cI_lt (i_Add (i_L2 (i_I (i_F (i_A1 ?_))))))); (with_reducible refine i_fld (by assumption) ?_); (rw [t1]); rw [zx_addc (by omega)]; (with_reducible refine i_t (by omega) ?_); (with_reducible refine i_If (i_cI_eq (i_IA (i_FR (i_A1 ?_))))); (with_reducible refine i_fldR (by assumption) ?_); (with_reducible refine i_L2 ?_); (with_reducible refine i_in (by assumption) (by omega) (by omega) ?_); (with_reducible refine i_I ?_); (rw [t2]); (with_reducible refine i_f (by omega) ?_); (with_reducible refine i_up (i_Inc2 ?_)); rw [zx_inc (by omega)]; simp only [w_set0, w_set1, w_setn0, w_setn1])
      exact hX2 _ M1 f1 z1
  · rintro ρ M1 X ⟨⟨l, rfl⟩, f1, z1⟩
    have t1 : M1 ((86 : Nat) : Int) ((6 : Nat) : Int) = ((zhh B s : Nat) : Int) := by rw [f1 _ _ (by omega)]; exact hT.1
    ((with_reducible refine i_turn (i_cI_lt (i_Add (i_L2 (i_I (i_F (i_A1 ?_))))))); (with_reducible refine i_fld (by assumption) ?_); (rw [t1]); rw [zx_addc (by omega)]; (with_reducible refine i_f (by omega) ?_); (with_reducible refine i_RetV ?_))
    exact hk M1 f1 z1
set_option maxHeartbeats 1600000 in
theorem c_vcheckAlsos {O : zOm} (hO : zWld O) (hS : zS O = zmS zC0) {s n : Nat} {B : Nat → Nat} {M : zMem} {K : Option zV → zMem → Prop} (hn16 : n ≤ 16) (h3 : ∀ i, i < zhh B s → zKi B s i = 9 → i + 2 < zhh B s ∧ zKi B s (i + 1) = 1 ∧ zKi B s (i + 2) = 1) (hT : cTa M B s) (hn : M ((92 : Nat) : Int) ((9 : Nat) : Int) = ((n : Nat) : Int)) (hN : cVn M n) (hf : M ((92 : Nat) : Int) ((14 : Nat) : Int) ≠ 0)
    (hk : ∀ M', cFo M M' → M' ((92 : Nat) : Int) ((14 : Nat) : Int) ≠ 0 → K none M') : zR O F_Text_checkAlsos [(2, ((92 : Nat) : Int)), (2, ((86 : Nat) : Int))] M K := by
  have h400 := (zhh_ok B s).1
  have n100 := zNet101 hS
  have n100o := n100.2.2.2
  apply r_Text_checkAlsos hO
  unfold B_Text_checkAlsos
  have f86_6 := zf_86_6 hS; have f86_1 := zf_86_1 hS; have a88 := zCA (a := 88) (ty := .int) (n := 400) hS rfl; have f92_7 := zf_92_7 hS; have f86_2 := zf_86_2 hS; have a89 := zCA (a := 89) (ty := .int) (n := 400) hS rfl; have z86 := zo_86 hS; have z92 := zo_92 hS
  ((with_reducible refine i_Seq (i_Blk (i_Seq (i_Set (i_I ?_))))); simp only [w_set0, w_set1, w_setn0, w_setn1])
  refine w_ForN (zhh B s - 2) (fun c ρ M' => (∃ l, ρ = ((92 : Nat) : Int) :: ((86 : Nat) : Int) :: ((c : Nat) : Int) :: l) ∧ cFo M M' ∧ M' ((92 : Nat) : Int) ((14 : Nat) : Int) ≠ 0) ⟨⟨_, rfl⟩, fun _ _ _ => rfl, hf⟩ ?_ ?_
  · rintro c ρ M1 X hc ⟨⟨l, rfl⟩, f1, z1⟩ hX
    have hT1 : cTa M1 B s := hT.to (fun b j q => f1 b j (by omega))
    have t1 := hT1.1
    have t2 := (hT1.2.2 c (by omega)).1
    have hX2 : ∀ (l : zLoc) (M' : zMem), cFo M M' → M' ((92 : Nat) : Int) ((14 : Nat) : Int) ≠ 0 → X (((92 : Nat) : Int) :: ((86 : Nat) : Int) :: ((c + 1 : Nat) : Int) :: l) M' := fun l M' u v => hX _ _ ⟨⟨l, rfl⟩, u, v⟩
    clear hX hk
    by_cases e : zKi B s c = 9
    · obtain ⟨e1, e2, e3⟩ := h3 c (by omega) e
      have v1 := hT1.v1 (show c + 1 < zhh B s by omega) e2
      have v14 := zVi_1 (show c + 1 < zhh B s by omega) e2
      have v2 := hT1.v1 (show c + 2 < zhh B s by omega) e3
      have v24 := zVi_1 (show c + 2 < zhh B s by omega) e3
      have p1 := (hT1.2.2 (c + 1) (by omega)).2.1
      have p2 := (hT1.2.2 (c + 2) (by omega)).2.1
      have nn1 : M1 ((92 : Nat) : Int) ((9 : Nat) : Int) = ((n : Nat) : Int) := by rw [f1 _ _ (by omega)]; exact hn
      have t2' : M1 ((88 : Nat) : Int) ((c : Nat) : Int) = 9 := by rw [t2, e]; rfl
      generalize zVi B s (c + 1) = a at *
      generalize zVi B s (c + 2) = b at *
      generalize zps B s (c + 2) = pp at *
      generalize zps B s (c + 1) = pp1 at *
      ((with_reducible refine i_turn (i_cI_lt (i_Add (i_L2 (i_I (i_F (i_A1 ?_))))))); (with_reducible refine i_fld (by assumption) ?_); (rw [t1]); rw [zx_addc (by omega)]; (with_reducible refine i_t (by omega) ?_); (with_reducible refine i_If (i_cI_eq (i_IA (i_FR (i_A1 ?_))))); (with_reducible refine i_fldR (by assumption) ?_); (with_reducible refine i_L2 ?_); (with_reducible refine i_in (by assumption) (by omega) (by omega) ?_); (with_reducible refine i_I ?_); (rw [t2']); simp only [w_set0, w_set1, w_setn0, w_setn1]; (with_reducible refine i_t trivial ?_); (with_reducible refine i_Blk (i_Seq (i_Set (i_Call (i_as1 (i_A0 (i_as1 (i_A1 (i_as1 (i_Add (i_L2 (i_I (i_as0 ?_))))))))))))); (with_reducible refine i_recv0 (by assumption) ?_); rw [zx_inc (by omega)]; simp only [w_set0, w_set1, w_setn0, w_setn1])
      refine c_vpostTold hO hS nn1 hn16 (by omega) v1 v14 p1 (fun M2 f2 z2 => ⟨_, rfl, ?_⟩)
      have z2' := z2 (Or.inl z1)
      ((with_reducible refine i_Seq (i_Set (i_Call (i_as1 (i_A0 (i_as1 (i_A1 (i_as1 (i_Add (i_L2 (i_I (i_as0 ?_)))))))))))); (with_reducible refine i_recv0 (by assumption) ?_); rw [zx_addc (by omega)]; simp only [w_set0, w_set1, w_setn0, w_setn1]; rw [w_setT]; simp only [w_set0, w_set1, w_setn0, w_setn1])
      refine c_vpostTold hO hS (by rw [f2 _ _ (by omega)]; exact nn1) hn16 (by omega) (by rw [f2 _ _ (by omega)]; exact v2) v24 (by rw [f2 _ _ (by omega)]; exact p2) (fun M3 f3 z3 => ⟨_, rfl, ?_⟩)
      have z3' := z3 (Or.inl z2')
      have f13 : cFo M M3 := fun b j q => by rw [f3 b j q, f2 b j q, f1 b j q]
      have p23 : M3 ((89 : Nat) : Int) ((c + 2 : Nat) : Int) = ((pp : Nat) : Int) := by rw [f3 _ _ (by omega), f2 _ _ (by omega)]; exact p2
      obtain ⟨T, hT3⟩ := hN.1
      have hjs : zNR M3 101 n T := ⟨by rw [f13 _ _ (by omega)]; exact hT3.1, fun p hp2 => by rw [f13 _ _ (by omega)]; exact hT3.2 p hp2⟩
      by_cases ea : a < n
      · by_cases eb : b < n
        · rw [if_pos ea, if_pos eb]
          cases w : T a b
          · ((with_reducible refine i_If (i_cAnd (i_cAnd (i_cI_ne (i_L3 (i_I ?_)))))); rw [w_setT]; (with_reducible refine i_t (by omega) ?_); (with_reducible refine i_cI_ne (i_L4 (i_I ?_))); (with_reducible refine i_t (by omega) ?_); (with_reducible refine i_cZ_ne (i_Call (i_as1 (i_FR (i_A0 ?_))))); (with_reducible refine i_fldR (by assumption) ?_); (with_reducible refine i_as1 (i_L3 (i_as1 (i_L4 (i_as0 ?_))))); (with_reducible refine i_recv0 (by assumption) ?_); (refine s_joins hO n100 hjs (show a < 16 by omega) (show b < 16 by omega) ⟨_, rfl, ?_⟩); (rw [w]); rw [zbI_f]; (with_reducible refine i_f (by omega) ?_); (with_reducible refine i_up (i_Inc2 ?_)); rw [zx_inc (by omega)]; simp only [w_set0, w_set1, w_setn0, w_setn1])
            exact hX2 _ M3 f13 z3'
          · ((with_reducible refine i_If (i_cAnd (i_cAnd (i_cI_ne (i_L3 (i_I ?_)))))); rw [w_setT]; (with_reducible refine i_t (by omega) ?_); (with_reducible refine i_cI_ne (i_L4 (i_I ?_))); (with_reducible refine i_t (by omega) ?_); (with_reducible refine i_cZ_ne (i_Call (i_as1 (i_FR (i_A0 ?_))))); (with_reducible refine i_fldR (by assumption) ?_); (with_reducible refine i_as1 (i_L3 (i_as1 (i_L4 (i_as0 ?_))))); (with_reducible refine i_recv0 (by assumption) ?_); (refine s_joins hO n100 hjs (show a < 16 by omega) (show b < 16 by omega) ⟨_, rfl, ?_⟩); (rw [w]); rw [zbI_t]; (with_reducible refine i_t (by omega) ?_); (with_reducible refine i_sCall (i_as1 (i_A0 (i_as1 (i_I (i_as1 (i_IA (i_FR (i_A1 ?_))))))))); (with_reducible refine i_fldR (by assumption) ?_); (with_reducible refine i_Add (i_L2 (i_I ?_))); rw [zx_addc (by omega)]; (with_reducible refine i_in (by assumption) (by omega) (by omega) ?_); (with_reducible refine i_as0 ?_); (with_reducible refine i_recv0 (by assumption) ?_); (rw [p23]))
            refine c_vblame hO hS (f := 5) rfl (by decide) (fun M4 f4 z4 => ⟨rfl, ?_⟩)
            ((with_reducible refine i_up (i_Inc2 ?_)); rw [zx_inc (by omega)]; simp only [w_set0, w_set1, w_setn0, w_setn1])
            exact hX2 _ M4 (fun b j q => by rw [f4 b j q, f13 b j q]) z4
        · rw [if_pos ea, if_neg eb]
          ((with_reducible refine i_If (i_cAnd (i_cAnd (i_cI_ne (i_L3 (i_I ?_)))))); rw [w_setT]; (with_reducible refine i_t (by omega) ?_); (with_reducible refine i_cI_ne (i_L4 (i_I ?_))); (with_reducible refine i_f (by omega) ?_); (with_reducible refine i_up (i_Inc2 ?_)); rw [zx_inc (by omega)]; simp only [w_set0, w_set1, w_setn0, w_setn1])
          exact hX2 _ M3 f13 z3'
      · rw [if_neg ea]
        ((with_reducible refine i_If (i_cAnd (i_cAnd (i_cI_ne (i_L3 (i_I ?_)))))); rw [w_setT]; (with_reducible refine i_f (by omega) ?_); (with_reducible refine i_up (i_Inc2 ?_)); rw [zx_inc (by omega)]; simp only [w_set0, w_set1, w_setn0, w_setn1])
        exact hX2 _ M3 f13 z3'
    · have e' : ¬ ((zKi B s c : Nat) : Int) = 9 := by omega
      ((with_reducible refine i_turn (i_cI_lt (i_Add (i_L2 (i_I (i_F (i_A1 ?_))))))); (with_reducible refine i_fld (by assumption) ?_); (rw [t1]); rw [zx_addc (by omega)]; (with_reducible refine i_t (by omega) ?_); (with_reducible refine i_If (i_cI_eq (i_IA (i_FR (i_A1 ?_))))); (with_reducible refine i_fldR (by assumption) ?_); (with_reducible refine i_L2 ?_); (with_reducible refine i_in (by assumption) (by omega) (by omega) ?_); (with_reducible refine i_I ?_); (rw [t2]); (with_reducible refine i_f (by omega) ?_); (with_reducible refine i_up (i_Inc2 ?_)); rw [zx_inc (by omega)]; simp only [w_set0, w_set1, w_setn0, w_setn1])
      exact hX2 _ M1 f1 z1
  · rintro ρ M1 X ⟨⟨l, rfl⟩, f1, z1⟩
    have t1 : M1 ((86 : Nat) : Int) ((6 : Nat) : Int) = ((zhh B s : Nat) : Int) := by rw [f1 _ _ (by omega)]; exact hT.1
    ((with_reducible refine i_turn (i_cI_lt (i_Add (i_L2 (i_I (i_F (i_A1 ?_))))))); (with_reducible refine i_fld (by assumption) ?_); (rw [t1]); rw [zx_addc (by omega)]; (with_reducible refine i_f (by omega) ?_); (with_reducible refine i_RetV ?_))
    exact hk M1 f1 z1
theorem uFin_le (s n : Nat) (Z : zZt) : uFin s n Z ≤ uF Z := by
  have h : uG1 Z (ut Z) ≤ uF Z := uG1_mono (Nat.zero_le _)
  unfold uFin
  split
  · exact Nat.le_trans (Nat.min_le_left _ _) h
  · exact h
set_option maxHeartbeats 1600000 in
theorem c_understand {O : zOm} (hO : zWld O) (hS : zS O = zmS zC0) {s n : Nat} {B : Nat → Nat} {M : zMem} {K : Option zV → zMem → Prop} (hs : s ≤ 2000) (hn1 : 0 < n) (hn16 : n ≤ 16) (hF : zksF B s = 99999) (hT : cTa M B s)
    (hk : ∀ M', cXF M M' → uAll B s n (uZT B s n) (zhh B s) → (cZt M' n ((uZT B s n).1, (uZT B s n).2.1, (uZT B s n).2.2.1, uFin s n (uZT B s n)) ∨ uFin s n (uZT B s n) ≠ 99999 ∧ M' ((92 : Nat) : Int) ((14 : Nat) : Int) ≠ 0) → K none M') : zR O F_Text_understand [(2, ((92 : Nat) : Int)), (2, ((86 : Nat) : Int)), (0, ((n : Nat) : Int))] M K := by
  have h400 := (zhh_ok B s).1
  have n100 := zNet101 hS
  have n102 := zNet103 hS
  have n100o := n100.2.2.2
  have n102o := n102.2.2.2
  obtain ⟨hse, hq0⟩ := zks_fine hs hF
  apply r_Text_understand hO
  unfold B_Text_understand
  have f92_9 := zf_92_9 hS; have f92_10 := zf_92_10 hS; have f92_11 := zf_92_11 hS; have f92_12 := zf_92_12 hS; have f92_13 := zf_92_13 hS; have f92_14 := zf_92_14 hS; have f92_15 := zf_92_15 hS; have f92_7 := zf_92_7 hS; have f92_8 := zf_92_8 hS; have f86_6 := zf_86_6 hS; have f86_5 := zf_86_5 hS; have z86 := zo_86 hS; have z92 := zo_92 hS
  ((with_reducible refine i_Seq (i_Seq (i_sF (i_A0 (i_L2 ?_))))); (with_reducible refine i_fld (by assumption) ?_); (with_reducible refine i_Seq (i_sF (i_A0 (i_I ?_)))); (with_reducible refine i_fld (by assumption) ?_); (with_reducible refine i_Seq (i_sF (i_A0 (i_I ?_)))); (with_reducible refine i_fld (by assumption) ?_); (with_reducible refine i_Seq (i_sF (i_A0 (i_I ?_)))); (with_reducible refine i_fld (by assumption) ?_); (with_reducible refine i_Seq (i_sF (i_A0 (i_I ?_)))); (with_reducible refine i_fld (by assumption) ?_); (with_reducible refine i_Seq (i_sF (i_A0 (i_I ?_)))); (with_reducible refine i_fld (by assumption) ?_); (with_reducible refine i_Seq (i_sF (i_A0 (i_I ?_)))); (with_reducible refine i_fld (by assumption) ?_); (with_reducible refine i_Seq (i_sCall (i_as1 (i_FR (i_A0 ?_))))); (with_reducible refine i_fldR (by assumption) ?_); (with_reducible refine i_as1 (i_L2 (i_as0 ?_))); (with_reducible refine i_recv0 (by assumption) ?_))
  refine s_Net_clear hO n100 (fun M1 f1 g1 => ⟨rfl, ?_⟩)
  ((with_reducible refine i_Seq (i_sCall (i_as1 (i_FR (i_A0 ?_))))); (with_reducible refine i_fldR (by assumption) ?_); (with_reducible refine i_as1 (i_L2 (i_as0 ?_))); (with_reducible refine i_recv0 (by assumption) ?_))
  refine s_Net_clear hO n102 (fun M2 f2 g2 => ⟨rfl, ?_⟩)
  have f1' : ∀ b j, ¬ (b = ((92 : Nat) : Int) ∨ b = ((101 : Nat) : Int) ∨ b = ((102 : Nat) : Int)) → M1 b j = M b j := fun b j q => by rw [f1 b (by simp <;> omega), zg_n _ _ _ (by omega), zg_n _ _ _ (by omega), zg_n _ _ _ (by omega), zg_n _ _ _ (by omega), zg_n _ _ _ (by omega), zg_n _ _ _ (by omega), zg_n _ _ _ (by omega)]
  have f2' : ∀ b j, ¬ (b = ((103 : Nat) : Int) ∨ b = ((104 : Nat) : Int)) → M2 b j = M1 b j := fun b j q => by rw [f2 b (by simp <;> omega)]
  have hi92 : M2 ((92 : Nat) : Int) ((9 : Nat) : Int) = ((n : Nat) : Int) ∧ M2 ((92 : Nat) : Int) ((10 : Nat) : Int) = 0 ∧ M2 ((92 : Nat) : Int) ((11 : Nat) : Int) = 0 ∧ M2 ((92 : Nat) : Int) ((12 : Nat) : Int) = 0 ∧ M2 ((92 : Nat) : Int) ((13 : Nat) : Int) = 0 ∧ M2 ((92 : Nat) : Int) ((14 : Nat) : Int) = 0 ∧ M2 ((92 : Nat) : Int) ((15 : Nat) : Int) = -1 := by
    have e : M1 ((92 : Nat) : Int) = _ := f1 ((92 : Nat) : Int) (by simp <;> omega)
    refine ⟨?_, ?_, ?_, ?_, ?_, ?_, ?_⟩
    all_goals (rw [f2' _ _ (by omega), e]; (first | ((rw [zg_o _ _ (by omega)]; rw [zg_o _ _ (by omega)]; rw [zg_o _ _ (by omega)]; rw [zg_o _ _ (by omega)]; rw [zg_o _ _ (by omega)]; rw [zg_o _ _ (by omega)]; rw [zg_s])) | ((rw [zg_o _ _ (by omega)]; rw [zg_o _ _ (by omega)]; rw [zg_o _ _ (by omega)]; rw [zg_o _ _ (by omega)]; rw [zg_o _ _ (by omega)]; rw [zg_s])) | ((rw [zg_o _ _ (by omega)]; rw [zg_o _ _ (by omega)]; rw [zg_o _ _ (by omega)]; rw [zg_o _ _ (by omega)]; rw [zg_s])) | ((rw [zg_o _ _ (by omega)]; rw [zg_o _ _ (by omega)]; rw [zg_o _ _ (by omega)]; rw [zg_s])) | ((rw [zg_o _ _ (by omega)]; rw [zg_o _ _ (by omega)]; rw [zg_s])) | ((rw [zg_o _ _ (by omega)]; rw [zg_s])) | (rw [zg_s])))
  obtain ⟨q9, q10, q11, q12, q13, q14, q15⟩ := hi92
  have hus : ∀ p q, usd uZ0 p q = false := fun _ _ => rfl
  have hur : ∀ p q, upr uZ0 p q = false := fun _ _ => rfl
  have hZ0 : cZt M2 n uZ0 := by
    refine ⟨⟨q9, ?_, g2.ext (fun p q _ _ => by rw [hur, Bool.and_false])⟩, ⟨q10, fun b hb => absurd hb (Nat.not_lt_zero _)⟩, ⟨?_, ?_, fun q _ h => absurd rfl h⟩, ⟨0, fun _ => (0, 0, 0), q13, Nat.le_refl _, fun j hj => absurd hj (Nat.not_lt_zero _), fun j hj => absurd hj (Nat.not_lt_zero _), fun k hk2 => absurd hk2 (Nat.not_lt_zero _), fun i j h1 h2 => absurd h2 (Nat.not_lt_zero _)⟩, q14, q15⟩
    · exact zNR.ext (T := fun _ _ => false) ⟨by rw [f2' _ _ (by omega)]; exact g1.1, fun p hp => by rw [f2' _ _ (by omega)]; exact g1.2 p hp⟩ (fun p q _ _ => by rw [hus, Bool.and_false])
    · rw [q11, show upb uZ0 (ub uZ0) = 0 from zcnt_z fun q _ => rfl]
      rfl
    · rw [q12, zmk_0]
      exact zmk_ext fun q _ => rfl
  have f02 : cXF M M2 := fun b j q => by rw [f2' b j (by omega), f1' b j (by omega)]
  clear f1 f2 f1' f2' q9 q10 q11 q12 q13 q14 q15 hus hur g1 g2
  ((with_reducible refine i_Seq (i_Set (i_I (i_Seq ?_)))); simp only [w_set0, w_set1, w_setn0, w_setn1])
  refine w_While (α := zLoc × zMem × Nat × zZt) (fun x => (x.1, x.2.1)) (fun x => (∃ l, x.1 = ((92 : Nat) : Int) :: ((86 : Nat) : Int) :: ((n : Nat) : Int) :: ((x.2.2.1 : Nat) : Int) :: l) ∧ cXF M x.2.1 ∧ cZj x.2.1 n x.2.2.2 ∧ x.2.2.1 ≤ zhh B s ∧ zqs B s x.2.2.1 = 0 ∧ uAll B s n x.2.2.2 x.2.2.1 ∧ ∃ f, zhh B s ≤ x.2.2.1 + f ∧ ufi B s n f x.2.2.1 x.2.2.2 = uZT B s n) (fun x => zhh B s - x.2.2.1) (fun x X hx hy => ?_) (_, M2, 0, uZ0) ⟨⟨_, rfl⟩, f02, Or.inl hZ0, Nat.zero_le _, rfl, uAll.z0, zhh B s, Nat.le_add_left _ _, rfl⟩
  obtain ⟨ρ, M3, i, Z⟩ := x
  (try dsimp only at hx)
  obtain ⟨⟨l, rfl⟩, f3, hZ3, hi, hq, hA, f, hf1, hf2⟩ := hx
  (try dsimp only at f3 hZ3 hi hq hA hf1 hf2 hy ⊢)
  have hT3 : cTa M3 B s := hT.to (fun b j q => f3 b j (by omega))
  have t3 := hT3.1
  by_cases hih : i < zhh B s
  · obtain ⟨d1, d2, d3⟩ := zgr_nt hq0 hih hq
    have hA2 := hA.st hs hn16 hq0 hih hq
    obtain ⟨f, rfl⟩ : ∃ f', f = f' + 1 := ⟨f - 1, by omega⟩
    rw [ufi_su hih] at hf2
    have hmx : max (i + 1) (znt B s i) = znt B s i := by omega
    have d4 : zhh B s ≤ znt B s i + f := by omega
    ((with_reducible refine i_turn (i_cI_lt (i_L3 (i_F (i_A1 ?_))))); (with_reducible refine i_fld (by assumption) ?_); (rw [t3]); (with_reducible refine i_t (by omega) ?_); (with_reducible refine i_Set (i_MM (i_Add (i_L3 (i_I (i_Call (i_as1 (i_A0 (i_as1 (i_A1 (i_as1 (i_L3 (i_as0 ?_))))))))))))); (with_reducible refine i_recv0 (by assumption) ?_); rw [zx_inc (by omega)]; simp only [w_set0, w_set1, w_setn0, w_setn1])
    refine c_takeTell hO hS hs hn16 hq0 hih hq hA hT3 hZ3 (fun M4 f4 z4 => ⟨_, rfl, ?_⟩)
    (skip)
    rw [if_true, show max (((i + 1 : Nat) : Int) : Int) ((znt B s i : Nat) : Int) = ((znt B s i : Nat) : Int) by omega]
    exact hy (_, M4, znt B s i, ust B s n Z i) ⟨⟨_, rfl⟩, f3.tr f4, z4, d2, d3, hA2, f, d4, hf2⟩ (by (try dsimp only); omega)
  · have e : i = zhh B s := by omega
    rw [ufi_end (by omega)] at hf2
    rw [hf2] at hA hZ3
    clear hy hf2
    rw [e] at hA
    generalize uZT B s n = ZT at hA hZ3 hk
    have hFk : uFk (uF ZT) := hA.1.2.2.1
    have h3' : ∀ i, i < zhh B s → zKi B s i = 9 → i + 2 < zhh B s ∧ zKi B s (i + 1) = 1 ∧ zKi B s (i + 2) = 1 := fun i hi2 h9 => by
      have hqi : zqs B s i = 0 := by
        have h10 := ((zhh_ok B s).2.1 i hi2).2.1
        have hsp : zsp (zqs B s i) (zKi B s i) ≠ 10 := h10
        rw [h9] at hsp
        have hq9 := zqs_lt (Nat.le_of_lt hi2)
        exact (by decide : ∀ q, q < 10 → zsp q 9 ≠ 10 → q = 0) _ hq9 hsp
      obtain ⟨y1, y2, y3, y4, y5⟩ := zgr_89 hq0 hi2 hqi (Or.inr h9)
      exact ⟨by omega, y1, y2⟩
    have hHG := uH_G hA (fun i hi2 h9 => (h3' i hi2 h9).1)
    have hHk := uH_k (B := B) (n := n) hs hFk (zhh B s)
    have h2 := hA.1.1
    have sz3 : M3 ((86 : Nat) : Int) ((5 : Nat) : Int) = ((s : Nat) : Int) := hT3.2.1
    have hall : zmk (fun q => decide (uo ZT q ≠ 999)) = ((2 ^ n - 1 : Nat) : Int) ↔ zex (fun p => decide (uo ZT p = 999)) n = false := by
      rw [zall_mk hn16, zex_f]
      constructor
      · intro h k hk3
        have := zmk_inj h k (by omega)
        rw [decide_eq_true hk3] at this
        exact decide_eq_false (of_decide_eq_true this)
      · intro h
        refine zmk_ext fun q _ => ?_
        by_cases w : q < n
        · rw [decide_eq_true w]
          exact decide_eq_true (of_decide_eq_false (h q w))
        · rw [decide_eq_false w]
          refine decide_eq_false (fun z => w ?_)
          exact (h2.1 q z).2.1
    have hpw : (1 : Nat) ≤ 2 ^ n := Nat.one_le_two_pow
    have hpw2 : 2 ^ n ≤ 2 ^ 16 := Nat.pow_le_pow_right (by decide) hn16
    have hpw3 : (2 : Nat) ^ 16 = 65536 := by decide
    rcases hZ3 with hZ | ⟨hF, hZ⟩
    · have s3 : M3 ((92 : Nat) : Int) ((12 : Nat) : Int) = zmk (fun q => decide (uo ZT q ≠ 999)) := hZ.2.2.1.2.1
      have hk2 : ∀ M', (∀ b j, ¬ (b = ((92 : Nat) : Int) ∧ (j = 14 ∨ j = 15)) → M' b j = M3 b j) → cZf M' (uFin s n ZT) → K none M' := fun M' u v => hk M' (f3.tr (cXF.bl u)) hA (Or.inl (hZ.bl u rfl rfl rfl v))
      unfold uFin at hk2
      rw [← hHG] at hk2
      clear hk hHG
      ((with_reducible refine i_turn (i_cI_lt (i_L3 (i_F (i_A1 ?_))))); (with_reducible refine i_fld (by assumption) ?_); (rw [t3]); (with_reducible refine i_f (by omega) ?_); (with_reducible refine i_Seq (i_sCall (i_as1 (i_A0 (i_as1 (i_A1 (i_as0 ?_))))))); (with_reducible refine i_recv0 (by assumption) ?_))
      refine c_checkAlsos hO hS hs hn16 hFk h3' hT3 hZ (fun M4 f4 z4 => ⟨rfl, ?_⟩)
      have s4 : M4 ((92 : Nat) : Int) ((12 : Nat) : Int) = zmk (fun q => decide (uo ZT q ≠ 999)) := by rw [f4 _ _ (by omega)]; exact s3
      have sz4 : M4 ((86 : Nat) : Int) ((5 : Nat) : Int) = ((s : Nat) : Int) := by rw [f4 _ _ (by omega)]; exact sz3
      generalize uH B s n ZT (zhh B s) = G at *
      generalize zmk (fun q => decide (uo ZT q ≠ 999)) = sm at *
      cases w : zex (fun p => decide (uo ZT p = 999)) n
      · have w2 := hall.mpr w
        rw [w, if_neg (by decide)] at hk2
        ((with_reducible refine i_If (i_cI_ne (i_F (i_A0 ?_)))); (with_reducible refine i_fld (by assumption) ?_); (with_reducible refine i_Sub (i_Shl (i_I (i_L2 (i_I ?_))))); (rw [s4]); (rw [yshl_1 (show n < 31 by omega)]); (rw [zx_subc (by omega) (by omega)]); (with_reducible refine i_f (by omega) ?_); (with_reducible refine i_RetV ?_))
        exact hk2 M4 f4 z4
      · have w2 : ¬ sm = ((2 ^ n - 1 : Nat) : Int) := fun z => by rw [hall.mp z] at w; cases w
        rw [w, if_pos rfl] at hk2
        ((with_reducible refine i_If (i_cI_ne (i_F (i_A0 ?_)))); (with_reducible refine i_fld (by assumption) ?_); (with_reducible refine i_Sub (i_Shl (i_I (i_L2 (i_I ?_))))); (rw [s4]); (rw [yshl_1 (show n < 31 by omega)]); (rw [zx_subc (by omega) (by omega)]); (with_reducible refine i_t (by omega) ?_); (with_reducible refine i_sCall (i_as1 (i_A0 (i_as1 (i_I (i_as1 (i_F (i_A1 ?_)))))))); (with_reducible refine i_fld (by assumption) ?_); (with_reducible refine i_as0 ?_); (with_reducible refine i_recv0 (by assumption) ?_); (rw [sz4]))
        refine c_xblame hO hS (f := 6) rfl z4 hHk (by decide) (by decide) hs (fun M5 f5 z5 => ⟨rfl, ?_⟩)
        (with_reducible refine i_RetV ?_)
        exact hk2 M5 (fun b j q => by rw [f5 b j q, f4 b j q]) z5
    · have hne : uFin s n ZT ≠ 99999 := uFk_ne hFk hF (uFin_le s n ZT)
      have s3 : M3 ((92 : Nat) : Int) ((12 : Nat) : Int) = zmk (fun q => decide (uo ZT q ≠ 999)) := hZ.1.2.2
      have hk3 : ∀ M', cFo M3 M' → M' ((92 : Nat) : Int) ((14 : Nat) : Int) ≠ 0 → K none M' := fun M' u v => hk M' (f3.tr (cXF.bl u)) hA (Or.inr ⟨hne, v⟩)
      clear hk hHG hall
      ((with_reducible refine i_turn (i_cI_lt (i_L3 (i_F (i_A1 ?_))))); (with_reducible refine i_fld (by assumption) ?_); (rw [t3]); (with_reducible refine i_f (by omega) ?_); (with_reducible refine i_Seq (i_sCall (i_as1 (i_A0 (i_as1 (i_A1 (i_as0 ?_))))))); (with_reducible refine i_recv0 (by assumption) ?_))
      refine c_vcheckAlsos hO hS hn16 h3' hT3 hZ.1.1 hZ.2.2.2.1 hZ.2.2.2.2 (fun M4 f4 z4 => ⟨rfl, ?_⟩)
      have s4 : M4 ((92 : Nat) : Int) ((12 : Nat) : Int) = zmk (fun q => decide (uo ZT q ≠ 999)) := by rw [f4 _ _ (by omega)]; exact s3
      have sz4 : M4 ((86 : Nat) : Int) ((5 : Nat) : Int) = ((s : Nat) : Int) := by rw [f4 _ _ (by omega)]; exact sz3
      generalize zmk (fun q => decide (uo ZT q ≠ 999)) = sm at *
      by_cases w2 : sm = ((2 ^ n - 1 : Nat) : Int)
      · ((with_reducible refine i_If (i_cI_ne (i_F (i_A0 ?_)))); (with_reducible refine i_fld (by assumption) ?_); (with_reducible refine i_Sub (i_Shl (i_I (i_L2 (i_I ?_))))); (rw [s4]); (rw [yshl_1 (show n < 31 by omega)]); (rw [zx_subc (by omega) (by omega)]); (with_reducible refine i_f (by omega) ?_); (with_reducible refine i_RetV ?_))
        exact hk3 M4 f4 z4
      · ((with_reducible refine i_If (i_cI_ne (i_F (i_A0 ?_)))); (with_reducible refine i_fld (by assumption) ?_); (with_reducible refine i_Sub (i_Shl (i_I (i_L2 (i_I ?_))))); (rw [s4]); (rw [yshl_1 (show n < 31 by omega)]); (rw [zx_subc (by omega) (by omega)]); (with_reducible refine i_t (by omega) ?_); (with_reducible refine i_sCall (i_as1 (i_A0 (i_as1 (i_I (i_as1 (i_F (i_A1 ?_)))))))); (with_reducible refine i_fld (by assumption) ?_); (with_reducible refine i_as0 ?_); (with_reducible refine i_recv0 (by assumption) ?_); (rw [sz4]))
        refine c_vblame hO hS (f := 6) rfl (by decide) (fun M5 f5 z5 => ⟨rfl, ?_⟩)
        (with_reducible refine i_RetV ?_)
        exact hk3 M5 (fun b j q => by rw [f5 b j q, f4 b j q]) z5
