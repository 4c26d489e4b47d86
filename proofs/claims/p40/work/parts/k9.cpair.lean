/-! ===== sides, stars, pairs told, all tells: the class ===== -/
/-- what a word of two sets of posts says comes in -/
theorem c_crossSay {O : zOm} (hO : zWld O) (hS : zS O = zmS zC0) {n p : Nat} {M2 M4 : zMem} {Z2 : zZt} {w : Nat × Nat × Nat} {s t : Nat → Bool} {K2 : Option zV → zMem → Prop} (hn16 : n ≤ 16) (z2 : cZt M2 n Z2) (f4 : ∀ b j, ¬ (b = ((92 : Nat) : Int) ∧ (j = 13 ∨ j = 14 ∨ j = 15) ∨ ((98 : Nat) : Int) ≤ b ∧ b ≤ ((100 : Nat) : Int)) → M4 b j = M2 b j) (w4 : cZw M4 (uaw Z2 w p)) (z4 : cZf M4 (if zex (fun k => decide (uw Z2 k = w)) (uk Z2) = true then min (uF Z2) (8 * p + 3) else uF Z2))
    (hu : ∀ x y, usy (uo Z2) (ul Z2) w x y = ((s x && t y) || (t x && s y))) (hlt : ∀ x y, usy (uo Z2) (ul Z2) w x y = true → x < n) (hk : ∀ M5, cXF M2 M5 → cZt M5 n (uaw Z2 w p) → K2 none M5) : zR O F_Net_cross [(2, ((101 : Nat) : Int)), (0, zmk s), (0, zmk t)] M4 K2 := by
  have n100 := zNet101 hS
  have hN4 : zNR M4 101 n (fun p q => decide (p ≠ q) && usd Z2 p q) := ⟨by rw [f4 _ _ (by omega)]; exact z2.1.2.1.1, fun p hp2 => by rw [f4 _ _ (by omega)]; exact z2.1.2.1.2 p hp2⟩
  refine s_Net_cross hO n100 hN4 hn16 (fun M5 f5 h5 => ?_)
  have f5' : ∀ b j, ¬ b = ((102 : Nat) : Int) → M5 b j = M4 b j := fun b j q => by rw [f5 b (by simp <;> omega)]
  exact hk M5 (fun b j q => by rw [f5' b j (by omega), f4 b j (by omega)]) (z2.aw f4 w4 z4 f5' h5 (fun x y => zcrs_say rfl (hu x y) (hlt x y)))
theorem urk_lt {Z : zZt} {a b : Nat} (ha : zNew (un Z) a = true) (h : a < b) : urk Z a < urk Z b := zcnt_lt _ h ha
set_option maxHeartbeats 1600000 in
theorem c_xtakeSides {O : zOm} (hO : zWld O) (hS : zS O = zmS zC0) {i s n : Nat} {B : Nat → Nat} {Z : zZt} {M : zMem} {K : Option zV → zMem → Prop} (hs : s ≤ 2000) (hn16 : n ≤ 16) (hq0 : zqs B s (zhh B s) = 0) (hi : i < zhh B s) (hq : zqs B s i = 0) (hK : zKi B s i = 6) (hA : uAll B s n Z i) (hT : cTa M B s) (hZ : cZt M n Z)
    (hk : ∀ M', cXF M M' → cZt M' n (us2 B s Z i) → K none M') : zR O F_Text_takeSides [(2, ((92 : Nat) : Int)), (2, ((86 : Nat) : Int)), (0, ((i : Nat) : Int))] M K := by
  have h400 := (zhh_ok B s).1
  have n100o := (zNet101 hS).2.2.2
  have hp := fun j => Nat.le_trans (zps_le B s j) hs
  obtain ⟨g1, g2, g3, g4, g5⟩ := zgr_6 hq0 hi hq hK
  obtain ⟨w40, u100⟩ := hA.w40 hi (by omega)
  have hFk : uFk (uF Z) := hA.1.2.2.1
  have v1 := hT.v0 (show i + 1 < zhh B s by omega) g1
  have v2 := hT.v0 (show i + 2 < zhh B s by omega) g2
  have p1 := (hT.2.2 (i + 1) (by omega)).2.1
  have p2 := (hT.2.2 (i + 2) (by omega)).2.1
  have p0 := (hT.2.2 i hi).2.1
  have hrk := urk_le Z (ub Z)
  unfold us2 at hk
  (try dsimp only at hk)
  have hk1 := ukb_e Z (zVi B s (i + 1)) (zps B s (i + 1))
  have hk2 := ukb_e (ukb Z (zVi B s (i + 1)) (zps B s (i + 1))) (zVi B s (i + 2)) (zps B s (i + 2))
  have hfn : ufn (ukb Z (zVi B s (i + 1)) (zps B s (i + 1))) (zVi B s (i + 2)) = ufn Z (zVi B s (i + 2)) := by unfold ufn un ub; rw [hk1.1]
  have hub2 : ub (ukb Z (zVi B s (i + 1)) (zps B s (i + 1))) = ub Z := by unfold ub; rw [hk1.1]
  have hri : uRI (ukb Z (zVi B s (i + 1)) (zps B s (i + 1))) (zVi B s (i + 2)) = uRI Z (zVi B s (i + 2)) := by
    unfold uRI
    rw [hfn, hub2]
    unfold urk un
    rw [hk1.1]
  rw [hfn, hub2] at hk2
  generalize hZ2e : ukb (ukb Z (zVi B s (i + 1)) (zps B s (i + 1))) (zVi B s (i + 2)) (zps B s (i + 2)) = Z2 at hk hk2
  generalize ukb Z (zVi B s (i + 1)) (zps B s (i + 1)) = Z1 at hk1 hk2 hfn hub2 hri
  obtain ⟨a1, a2, a3, a4⟩ := hk1
  obtain ⟨b1, b2, b3, b4⟩ := hk2
  rw [a1] at b1
  rw [a2] at b2
  rw [a3] at b3
  have hF1 : uFk (uF Z1) := by
    rw [a4]
    split
    · exact hFk
    · exact uFk_min hFk (hp _) (by decide) (by decide)
  have hF2 : uFk (uF Z2) := by
    rw [b4]
    split
    · exact hF1
    · exact uFk_min hF1 (hp _) (by decide) (by decide)
  clear hZ2e
  generalize zVi B s (i + 1) = va at *
  generalize zVi B s (i + 2) = vb at *
  apply r_Text_takeSides hO
  unfold B_Text_takeSides
  have f86_2 := zf_86_2 hS; have a89 := zCA (a := 89) (ty := .int) (n := 400) hS rfl; have f92_7 := zf_92_7 hS; have f92_1 := zf_92_1 hS; have a94 := zCA (a := 94) (ty := .int) (n := 100) hS rfl; have z86 := zo_86 hS; have z92 := zo_92 hS
  ((with_reducible refine i_Seq (i_Seq (i_Set (i_Call (i_as1 (i_A0 (i_as1 (i_A1 (i_as1 (i_Add (i_L2 (i_I (i_as0 ?_))))))))))))); (with_reducible refine i_recv0 (by assumption) ?_); rw [zx_inc (by omega)]; simp only [w_set0, w_set1, w_setn0, w_setn1])
  refine c_boxNamed hO hS hZ.2.1 hZ.2.2.2.2 u100 hFk (by omega) v1 p1 (hp _) (fun M1 f1 z1 => ⟨_, rfl, ?_⟩)
  rw [← a4] at z1
  have hZ1 : cZt M1 n Z1 := hZ.bl f1 a1 a2 a3 z1
  ((with_reducible refine i_Seq (i_Set (i_Call (i_as1 (i_A0 (i_as1 (i_A1 (i_as1 (i_Add (i_L2 (i_I (i_as0 ?_)))))))))))); (with_reducible refine i_recv0 (by assumption) ?_); rw [zx_addc (by omega)]; simp only [w_set0, w_set1, w_setn0, w_setn1])
  refine c_boxNamed hO hS hZ1.2.1 z1 (by omega) hF1 (by omega) (by rw [f1 _ _ (by omega)]; exact v2) (by rw [f1 _ _ (by omega)]; exact p2) (hp _) (fun M2 f2 z2 => ⟨_, rfl, ?_⟩)
  rw [hfn, hub2, ← b4] at z2
  rw [hri]
  have hZ2 : cZt M2 n Z2 := hZ1.bl f2 (b1.trans a1.symm) (b2.trans a2.symm) (b3.trans a3.symm) z2
  have f12 : cXF M M2 := (cXF.bl f1).tr (cXF.bl f2)
  have p22 : M2 ((89 : Nat) : Int) ((i + 2 : Nat) : Int) = ((zps B s (i + 2) : Nat) : Int) := by rw [f12 _ _ (by omega)]; exact p2
  have p02 : M2 ((89 : Nat) : Int) ((i : Nat) : Int) = ((zps B s i : Nat) : Int) := by rw [f12 _ _ (by omega)]; exact p0
  have huo : uo Z2 = uo Z := by unfold uo; rw [b1]
  have hul : ul Z2 = ul Z := by unfold ul; rw [b1]
  by_cases e : ufn Z va < ub Z ∧ ufn Z vb < ub Z
  · rw [if_pos e] at hk
    rw [show uRI Z va = ((urk Z (ufn Z va) : Nat) : Int) from if_pos e.1, show uRI Z vb = ((urk Z (ufn Z vb) : Nat) : Int) from if_pos e.2]
    obtain ⟨ex, ey⟩ := e
    have nx := ufn_new ex
    have ny := ufn_new ey
    generalize ufn Z va = x at *
    generalize ufn Z vb = y at *
    have hrx := urk_lt nx ex
    have hry := urk_lt ny ey
    have hmk : ∀ (M3 : zMem) (Z3 : zZt), cZb M3 Z3 → Z3.1 = Z.1 → ∀ b, b < ub Z → zNew (un Z) b = true → M3 ((94 : Nat) : Int) ((urk Z b : Nat) : Int) = zmk (fun q => decide (uo Z q = b)) := fun M3 Z3 h e1 b hb hn => (((cZb.to (Z' := Z) h (fun _ _ _ => rfl) e1.symm).2 b hb hn).2.1)
    have hmono : ∀ a b, zNew (un Z) a = true → zNew (un Z) b = true → (min (urk Z a) (urk Z b) = urk Z (min a b) ∧ max (urk Z a) (urk Z b) = urk Z (max a b)) := fun a b _ _ => by
      rcases Nat.le_total a b with w | w
      · have := zcnt_mono (zNew (un Z)) w
        have h2 : urk Z a ≤ urk Z b := this
        rw [Nat.min_eq_left w, Nat.max_eq_right w, Nat.min_eq_left h2, Nat.max_eq_right h2]
        exact ⟨rfl, rfl⟩
      · have := zcnt_mono (zNew (un Z)) w
        have h2 : urk Z b ≤ urk Z a := this
        rw [Nat.min_eq_right w, Nat.max_eq_left w, Nat.min_eq_right h2, Nat.max_eq_left h2]
        exact ⟨rfl, rfl⟩
    obtain ⟨hmn, hmx⟩ := hmono x y nx ny
    have hwk : uWk n Z (1, min x y, max x y) := by
      refine Or.inr (Or.inl ⟨rfl, by (try dsimp only); omega, by (try dsimp only); omega, ?_, ?_⟩)
      · (try dsimp only)
        rcases Nat.le_total x y with w | w
        · rw [Nat.min_eq_left w]; exact nx
        · rw [Nat.min_eq_right w]; exact ny
      · (try dsimp only)
        rcases Nat.le_total x y with w | w
        · rw [Nat.max_eq_right w]; exact ny
        · rw [Nat.max_eq_left w]; exact nx
    have done : ∀ (M3 : zMem) (Z3 : zZt), cXF M M3 → cZt M3 n Z3 → Z3.1 = Z.1 → Z3.2.1 = Z.2.1 → uFk (uF Z3) → (∀ M', cXF M M' → cZt M' n (uaw Z3 (1, min x y, max x y) (zps B s i)) → K none M') →
        zR O F_Text_takeWord [(2, ((92 : Nat) : Int)), (0, 1), (0, ((min (urk Z x) (urk Z y) : Nat) : Int)), (0, ((max (urk Z x) (urk Z y) : Nat) : Int)), (0, ((zps B s i : Nat) : Int))] M3 (fun v M4 => v = none ∧ M4 ((94 : Nat) : Int) ((urk Z x : Nat) : Int) = zmk (fun q => decide (uo Z q = x)) ∧ M4 ((94 : Nat) : Int) ((urk Z y : Nat) : Int) = zmk (fun q => decide (uo Z q = y)) ∧ zR O F_Net_cross [(2, ((101 : Nat) : Int)), (0, zmk (fun q => decide (uo Z q = x))), (0, zmk (fun q => decide (uo Z q = y)))] M4 (fun v M5 => v = none ∧ K none M5)) := fun M3 Z3 f3 z3 c1 c2 c3 hk => by
      have hu : ∀ w, uM Z3 w = uM Z w := uM_e c1
      have eo : uo Z3 = uo Z := by unfold uo; rw [c1]
      have el : ul Z3 = ul Z := by unfold ul; rw [c1]
      refine c_takeWord hO hS (n := n) (Z := Z3) (w := (1, min x y, max x y)) (by rw [hu]; rfl) (by rw [hu, hmn]; rfl) (by rw [hu, hmx]; rfl) z3.2.2.2.1 z3.2.2.2.2 c3 (by unfold uk; rw [c2]; exact w40) (fun c hc => ?_) ?_ (hp _) (fun M4 f4 w4 z4 => ⟨rfl, ?_, ?_, ?_⟩)
      · have := hA.1.2.1 c (by unfold uk at hc ⊢; rw [c2] at hc; exact hc)
        unfold uWk un ub uw at this ⊢
        rw [c1, c2]
        exact this
      · unfold uWk un ub at hwk ⊢
        rw [c1]
        exact hwk
      · rw [f4 _ _ (by omega)]; exact hmk M3 Z3 z3.2.1 c1 x ex nx
      · rw [f4 _ _ (by omega)]; exact hmk M3 Z3 z3.2.1 c1 y ey ny
      · refine c_crossSay hO hS hn16 z3 f4 w4 z4 (fun p q => ?_) (fun p q hy => ?_) (fun M5 f5 z5 => ⟨rfl, hk M5 (f3.tr f5) z5⟩)
        · rw [eo, el]
          unfold usy
          rw [if_neg (show ¬ (1 : Nat) = 0 by decide), if_pos (show (1 : Nat) = 1 from rfl), Bool.eq_iff_iff]
          simp only [Bool.or_eq_true, Bool.and_eq_true, decide_eq_true_eq]
          rcases Nat.le_total x y with w | w
          · rw [Nat.min_eq_left w, Nat.max_eq_right w]
          · rw [Nat.min_eq_right w, Nat.max_eq_left w]
            exact ⟨fun z => z.elim Or.inr Or.inl, fun z => z.elim Or.inr Or.inl⟩
        · rw [eo, el] at hy
          exact (usd_lt hA.1.1 (by omega) hwk hy).1
    have hxy : x = y ↔ urk Z x = urk Z y := ⟨fun z => by rw [z], fun z => zcnt_inj _ nx ny z⟩
    by_cases e2 : x = y
    · rw [if_pos e2] at hk
      have e2' := hxy.mp e2
      ((with_reducible refine i_Seq (i_If (i_cOr (i_cI_eq (i_L3 (i_I ?_)))))); (with_reducible refine i_f (by omega) ?_); (with_reducible refine i_cI_eq (i_L4 (i_I ?_))); (with_reducible refine i_f (by omega) ?_); (with_reducible refine i_Seq (i_If (i_cI_eq (i_L3 (i_L4 ?_))))); (with_reducible refine i_t (by omega) ?_); (with_reducible refine i_sCall (i_as1 (i_A0 (i_as1 (i_I (i_as1 (i_IA (i_FR (i_A1 ?_))))))))); (with_reducible refine i_fldR (by assumption) ?_); (with_reducible refine i_Add (i_L2 (i_I ?_))); rw [zx_addc (by omega)]; (with_reducible refine i_in (by assumption) (by omega) (by omega) ?_); (with_reducible refine i_as0 ?_); (with_reducible refine i_recv0 (by assumption) ?_); (rw [p22]))
      refine c_xblame hO hS (f := 5) rfl z2 hF2 (by decide) (by decide) (hp _) (fun M3 f3 z3 => ⟨rfl, ?_⟩)
      have p03 : M3 ((89 : Nat) : Int) ((i : Nat) : Int) = ((zps B s i : Nat) : Int) := by rw [f3 _ _ (by omega)]; exact p02
      ((with_reducible refine i_Seq (i_sCall (i_as1 (i_A0 (i_as1 (i_I (i_as1 (i_MM (i_L3 (i_L4 (i_as1 (i_MM (i_L3 (i_L4 (i_as1 (i_IA (i_FR (i_A1 ?_)))))))))))))))))); (with_reducible refine i_fldR (by assumption) ?_); (with_reducible refine i_L2 ?_); (with_reducible refine i_in (by assumption) (by omega) (by omega) ?_); (with_reducible refine i_as0 ?_); (with_reducible refine i_recv0 (by assumption) ?_); (rw [p03]); (rw [zmn4]); (rw [zmx3]))
      refine (done M3 (ubl Z2 (8 * zps B s (i + 2) + 5)) (f12.tr (cXF.bl f3)) (hZ2.bl f3 rfl rfl rfl z3) b1 b2 (uFk_min hF2 (hp _) (by decide) (by decide)) hk).mono (fun v M4 ⟨hv, q1, q2, hc⟩ => ⟨hv, ?_⟩)
      ((with_reducible refine i_sCall (i_as1 (i_FR (i_A0 ?_)))); (with_reducible refine i_fldR (by assumption) ?_); (with_reducible refine i_as1 (i_IA (i_FR (i_A0 ?_)))); (with_reducible refine i_fldR (by assumption) ?_); (with_reducible refine i_L3 ?_); (with_reducible refine i_in (by assumption) (by omega) (by omega) ?_); (with_reducible refine i_as1 (i_IA (i_FR (i_A0 ?_)))); (with_reducible refine i_fldR (by assumption) ?_); (with_reducible refine i_L4 ?_); (with_reducible refine i_in (by assumption) (by omega) (by omega) ?_); (with_reducible refine i_as0 ?_); (with_reducible refine i_recv0 (by assumption) ?_); (rw [q1]); (rw [q2]))
      refine hc.mono (fun v M5 h5 => ⟨h5.1, ?_⟩)
      (with_reducible refine i_RetV ?_)
      exact h5.2
    · rw [if_neg e2] at hk
      have e2' : ¬ urk Z x = urk Z y := fun z => e2 (hxy.mpr z)
      ((with_reducible refine i_Seq (i_If (i_cOr (i_cI_eq (i_L3 (i_I ?_)))))); (with_reducible refine i_f (by omega) ?_); (with_reducible refine i_cI_eq (i_L4 (i_I ?_))); (with_reducible refine i_f (by omega) ?_); (with_reducible refine i_Seq (i_If (i_cI_eq (i_L3 (i_L4 ?_))))); (with_reducible refine i_f (by omega) ?_); (with_reducible refine i_Seq (i_sCall (i_as1 (i_A0 (i_as1 (i_I (i_as1 (i_MM (i_L3 (i_L4 (i_as1 (i_MM (i_L3 (i_L4 (i_as1 (i_IA (i_FR (i_A1 ?_)))))))))))))))))); (with_reducible refine i_fldR (by assumption) ?_); (with_reducible refine i_L2 ?_); (with_reducible refine i_in (by assumption) (by omega) (by omega) ?_); (with_reducible refine i_as0 ?_); (with_reducible refine i_recv0 (by assumption) ?_); (rw [p02]); (rw [zmn4]); (rw [zmx3]))
      refine (done M2 Z2 f12 hZ2 b1 b2 hF2 hk).mono (fun v M4 ⟨hv, q1, q2, hc⟩ => ⟨hv, ?_⟩)
      ((with_reducible refine i_sCall (i_as1 (i_FR (i_A0 ?_)))); (with_reducible refine i_fldR (by assumption) ?_); (with_reducible refine i_as1 (i_IA (i_FR (i_A0 ?_)))); (with_reducible refine i_fldR (by assumption) ?_); (with_reducible refine i_L3 ?_); (with_reducible refine i_in (by assumption) (by omega) (by omega) ?_); (with_reducible refine i_as1 (i_IA (i_FR (i_A0 ?_)))); (with_reducible refine i_fldR (by assumption) ?_); (with_reducible refine i_L4 ?_); (with_reducible refine i_in (by assumption) (by omega) (by omega) ?_); (with_reducible refine i_as0 ?_); (with_reducible refine i_recv0 (by assumption) ?_); (rw [q1]); (rw [q2]))
      refine hc.mono (fun v M5 h5 => ⟨h5.1, ?_⟩)
      (with_reducible refine i_RetV ?_)
      exact h5.2
  · rw [if_neg e] at hk
    by_cases ea : ufn Z va < ub Z
    · have eb : ¬ ufn Z vb < ub Z := fun z => e ⟨ea, z⟩
      rw [show uRI Z va = ((urk Z (ufn Z va) : Nat) : Int) from if_pos ea, show uRI Z vb = -1 from if_neg eb]
      ((with_reducible refine i_Seq (i_If (i_cOr (i_cI_eq (i_L3 (i_I ?_)))))); (with_reducible refine i_f (by omega) ?_); (with_reducible refine i_cI_eq (i_L4 (i_I ?_))); simp only [w_set0, w_set1, w_setn0, w_setn1]; (with_reducible refine i_t trivial ?_); (with_reducible refine i_RetV ?_))
      exact hk M2 f12 hZ2
    · rw [show uRI Z va = -1 from if_neg ea]
      ((with_reducible refine i_Seq (i_If (i_cOr (i_cI_eq (i_L3 (i_I ?_)))))); simp only [w_set0, w_set1, w_setn0, w_setn1]; (with_reducible refine i_t trivial ?_); (with_reducible refine i_RetV ?_))
      exact hk M2 f12 hZ2
theorem zSz_none {o : Nat → Nat} {b x : Nat} (hx : x < 16) : zSz o 16 b = (if o x = b then 1 else 0) ↔ ∀ q, q < 16 → q ≠ x → o q ≠ b := by
  have key : ∀ N, (∀ q, q < N → q ≠ x → o q ≠ b) → zSz o N b = if x < N ∧ o x = b then 1 else 0 := by
    intro N
    induction N with
    | zero => exact fun _ => rfl
    | succ N ih =>
      intro h
      rw [zSz_su, ih (fun q h1 h2 => h q (by omega) h2)]
      by_cases e : N = x
      · subst e
        rw [if_neg (by omega)]
        by_cases e2 : o N = b
        · rw [if_pos e2, if_pos ⟨by omega, e2⟩]
        · rw [if_neg e2, if_neg (fun w => e2 w.2)]
      · rw [if_neg (h N (by omega) e)]
        by_cases e2 : x < N ∧ o x = b
        · rw [if_pos e2, if_pos ⟨by omega, e2.2⟩]
        · rw [if_neg e2, if_neg (fun w => e2 ⟨by omega, w.2⟩)]
  refine ⟨fun h q h1 h2 h3 => ?_, fun h => ?_⟩
  · by_cases e : o x = b
    · rw [if_pos e] at h
      have h4 : 2 ≤ zSz o 16 b := by
        rcases Nat.lt_or_ge q x with w | w
        · exact zcnt_two w hx (decide_eq_true h3) (decide_eq_true e)
        · exact zcnt_two (show x < q by omega) h1 (decide_eq_true e) (decide_eq_true h3)
      omega
    · rw [if_neg e] at h
      have h4 : 1 ≤ zSz o 16 b := zcnt_ex h1 (decide_eq_true h3)
      omega
  · rw [key 16 h]
    by_cases e : o x = b
    · rw [if_pos e, if_pos ⟨hx, e⟩]
    · rw [if_neg e, if_neg (fun w => e w.2)]
set_option maxHeartbeats 1600000 in
theorem c_takeStar {O : zOm} (hO : zWld O) (hS : zS O = zmS zC0) {i s n : Nat} {B : Nat → Nat} {Z : zZt} {M : zMem} {K : Option zV → zMem → Prop} (hs : s ≤ 2000) (hn16 : n ≤ 16) (hq0 : zqs B s (zhh B s) = 0) (hi : i < zhh B s) (hq : zqs B s i = 0) (hK : zKi B s i = 7) (hA : uAll B s n Z i) (hT : cTa M B s) (hZ : cZt M n Z)
    (hk : ∀ M', cXF M M' → cZt M' n (us3 B s n Z i) → K none M') : zR O F_Text_takeStar [(2, ((92 : Nat) : Int)), (2, ((86 : Nat) : Int)), (0, ((i : Nat) : Int))] M K := by
  have h400 := (zhh_ok B s).1
  have n100o := (zNet101 hS).2.2.2
  have hp := fun j => Nat.le_trans (zps_le B s j) hs
  obtain ⟨g1, g2, g3, g4, g5⟩ := zgr_7 hq0 hi hq hK
  obtain ⟨w40, u100⟩ := hA.w40 hi (by omega)
  have hFk : uFk (uF Z) := hA.1.2.2.1
  have v1 := hT.v1 (show i + 1 < zhh B s by omega) g1
  have v14 := zVi_1 (show i + 1 < zhh B s by omega) g1
  have v2 := hT.v0 (show i + 2 < zhh B s by omega) g2
  have p1 := (hT.2.2 (i + 1) (by omega)).2.1
  have p2 := (hT.2.2 (i + 2) (by omega)).2.1
  have p0 := (hT.2.2 i hi).2.1
  have hrk := urk_le Z (ub Z)
  unfold us3 at hk
  (try dsimp only at hk)
  have hk1 := ukp_e n Z (zVi B s (i + 1)) (zps B s (i + 1))
  have hk2 := ukb_e (ukp n Z (zVi B s (i + 1)) (zps B s (i + 1))) (zVi B s (i + 2)) (zps B s (i + 2))
  have hfn : ufn (ukp n Z (zVi B s (i + 1)) (zps B s (i + 1))) (zVi B s (i + 2)) = ufn Z (zVi B s (i + 2)) := by unfold ufn un ub; rw [hk1.1]
  have hub2 : ub (ukp n Z (zVi B s (i + 1)) (zps B s (i + 1))) = ub Z := by unfold ub; rw [hk1.1]
  have hri : uRI (ukp n Z (zVi B s (i + 1)) (zps B s (i + 1))) (zVi B s (i + 2)) = uRI Z (zVi B s (i + 2)) := by
    unfold uRI
    rw [hfn, hub2]
    unfold urk un
    rw [hk1.1]
  rw [hfn, hub2] at hk2
  generalize hZ2e : ukb (ukp n Z (zVi B s (i + 1)) (zps B s (i + 1))) (zVi B s (i + 2)) (zps B s (i + 2)) = Z2 at hk hk2
  generalize ukp n Z (zVi B s (i + 1)) (zps B s (i + 1)) = Z1 at hk1 hk2 hfn hub2 hri
  obtain ⟨a1, a2, a3, a4⟩ := hk1
  obtain ⟨b1, b2, b3, b4⟩ := hk2
  rw [a1] at b1
  rw [a2] at b2
  rw [a3] at b3
  have hF1 : uFk (uF Z1) := by
    rw [a4]
    split
    · exact hFk
    · exact uFk_min hFk (hp _) (by decide) (by decide)
  have hF2 : uFk (uF Z2) := by
    rw [b4]
    split
    · exact hF1
    · exact uFk_min hF1 (hp _) (by decide) (by decide)
  clear hZ2e
  generalize zVi B s (i + 1) = x at *
  generalize zVi B s (i + 2) = vb at *
  apply r_Text_takeStar hO
  unfold B_Text_takeStar
  have f92_1 := zf_92_1 hS; have a94 := zCA (a := 94) (ty := .int) (n := 100) hS rfl; have f86_2 := zf_86_2 hS; have a89 := zCA (a := 89) (ty := .int) (n := 400) hS rfl; have f92_7 := zf_92_7 hS; have z86 := zo_86 hS; have z92 := zo_92 hS
  ((with_reducible refine i_Seq (i_Seq (i_Set (i_Call (i_as1 (i_A0 (i_as1 (i_A1 (i_as1 (i_Add (i_L2 (i_I (i_as0 ?_))))))))))))); (with_reducible refine i_recv0 (by assumption) ?_); rw [zx_inc (by omega)]; simp only [w_set0, w_set1, w_setn0, w_setn1])
  refine c_postTold hO hS hZ.2.2.2.2 hZ.1.1 hn16 hFk (by omega) v1 v14 p1 (hp _) (fun M1 f1 z1 => ⟨_, rfl, ?_⟩)
  rw [← a4] at z1
  have hZ1 : cZt M1 n Z1 := hZ.bl f1 a1 a2 a3 z1
  ((with_reducible refine i_Seq (i_Set (i_Call (i_as1 (i_A0 (i_as1 (i_A1 (i_as1 (i_Add (i_L2 (i_I (i_as0 ?_)))))))))))); (with_reducible refine i_recv0 (by assumption) ?_); rw [zx_addc (by omega)]; simp only [w_set0, w_set1, w_setn0, w_setn1])
  refine c_boxNamed hO hS hZ1.2.1 z1 (by omega) hF1 (by omega) (by rw [f1 _ _ (by omega)]; exact v2) (by rw [f1 _ _ (by omega)]; exact p2) (hp _) (fun M2 f2 z2 => ⟨_, rfl, ?_⟩)
  rw [hfn, hub2, ← b4] at z2
  rw [hri]
  have hZ2 : cZt M2 n Z2 := hZ1.bl f2 (b1.trans a1.symm) (b2.trans a2.symm) (b3.trans a3.symm) z2
  have f12 : cXF M M2 := (cXF.bl f1).tr (cXF.bl f2)
  have p22 : M2 ((89 : Nat) : Int) ((i + 2 : Nat) : Int) = ((zps B s (i + 2) : Nat) : Int) := by rw [f12 _ _ (by omega)]; exact p2
  have p02 : M2 ((89 : Nat) : Int) ((i : Nat) : Int) = ((zps B s i : Nat) : Int) := by rw [f12 _ _ (by omega)]; exact p0
  by_cases e : x < n ∧ ufn Z vb < ub Z
  · rw [if_pos e] at hk
    rw [show uRI Z vb = ((urk Z (ufn Z vb) : Nat) : Int) from if_pos e.2, if_pos e.1]
    obtain ⟨ex, ey⟩ := e
    have ny := ufn_new ey
    generalize ufn Z vb = y at *
    have hry := urk_lt ny ey
    have hx16 : x < 16 := by omega
    have hmk : ∀ (M3 : zMem) (Z3 : zZt), cZb M3 Z3 → Z3.1 = Z.1 → M3 ((94 : Nat) : Int) ((urk Z y : Nat) : Int) = zmk (fun q => decide (uo Z q = y)) := fun M3 Z3 h e1 => (((cZb.to (Z' := Z) h (fun _ _ _ => rfl) e1.symm).2 y ey ny).2.1)
    have hwk : uWk n Z (2, x, y) := Or.inr (Or.inr ⟨rfl, ex, ey, ny⟩)
    have done : ∀ (M3 : zMem) (Z3 : zZt), cXF M M3 → cZt M3 n Z3 → Z3.1 = Z.1 → Z3.2.1 = Z.2.1 → uFk (uF Z3) → (∀ M', cXF M M' → cZt M' n (uaw Z3 (2, x, y) (zps B s i)) → K none M') →
        zR O F_Text_takeWord [(2, ((92 : Nat) : Int)), (0, 2), (0, ((x : Nat) : Int)), (0, ((urk Z y : Nat) : Int)), (0, ((zps B s i : Nat) : Int))] M3 (fun v M4 => v = none ∧ M4 ((94 : Nat) : Int) ((urk Z y : Nat) : Int) = zmk (fun q => decide (uo Z q = y)) ∧ zR O F_Net_cross [(2, ((101 : Nat) : Int)), (0, zmk (fun q => decide (q = x))), (0, zmk (fun q => decide (uo Z q = y)))] M4 (fun v M5 => v = none ∧ K none M5)) := fun M3 Z3 f3 z3 c1 c2 c3 hk => by
      have hu : ∀ w, uM Z3 w = uM Z w := uM_e c1
      have eo : uo Z3 = uo Z := by unfold uo; rw [c1]
      have el : ul Z3 = ul Z := by unfold ul; rw [c1]
      refine c_takeWord hO hS (n := n) (Z := Z3) (w := (2, x, y)) (by rw [hu]; rfl) (by rw [hu]; rfl) (by rw [hu]; rfl) z3.2.2.2.1 z3.2.2.2.2 c3 (by unfold uk; rw [c2]; exact w40) (fun c hc => ?_) ?_ (hp _) (fun M4 f4 w4 z4 => ⟨rfl, ?_, ?_⟩)
      · have := hA.1.2.1 c (by unfold uk at hc ⊢; rw [c2] at hc; exact hc)
        unfold uWk un ub uw at this ⊢
        rw [c1, c2]
        exact this
      · unfold uWk un ub at hwk ⊢
        rw [c1]
        exact hwk
      · rw [f4 _ _ (by omega)]; exact hmk M3 Z3 z3.2.1 c1
      · refine c_crossSay hO hS hn16 z3 f4 w4 z4 (fun p q => ?_) (fun p q hy => ?_) (fun M5 f5 z5 => ⟨rfl, hk M5 (f3.tr f5) z5⟩)
        · rw [eo, el]
          unfold usy
          rw [if_neg (show ¬ (2 : Nat) = 0 by decide), if_neg (show ¬ (2 : Nat) = 1 by decide), if_pos (show (2 : Nat) = 2 from rfl), Bool.eq_iff_iff]
          simp only [Bool.or_eq_true, Bool.and_eq_true, decide_eq_true_eq]
          exact ⟨fun z => z.elim Or.inl (fun w => Or.inr ⟨w.2, w.1⟩), fun z => z.elim Or.inl (fun w => Or.inr ⟨w.2, w.1⟩)⟩
        · rw [eo, el] at hy
          exact (usd_lt hA.1.1 (by omega) hwk hy).1
    have m2 := hmk M2 Z2 hZ2.2.1 b1
    have hnot : yand (zmk (fun q => decide (uo Z q = y))) (yxor (yshl 1 ((x : Nat) : Int)) (-1)) = zmk (fun q => decide (uo Z q = y) && !decide (q = x)) := by rw [yshl_mk hx16, ynot_mk]
    have h0 : zmk (fun q => decide (uo Z q = y) && !decide (q = x)) = 0 ↔ zSz (uo Z) 16 y = (if uo Z x = y then 1 else 0) := by
      rw [zmk_eq0, zSz_none hx16]
      constructor
      · intro h q h1 h2 h3
        have := h q h1
        rw [decide_eq_true h3, decide_eq_false h2] at this
        cases this
      · intro h q h1
        by_cases h2 : q = x
        · rw [decide_eq_true h2, Bool.not_true, Bool.and_false]
        · rw [decide_eq_false (h q h1 h2)]; rfl
    by_cases e2 : zSz (uo Z) 16 y = (if uo Z x = y then 1 else 0)
    · rw [if_pos e2] at hk
      have e2' := h0.mpr e2
      ((with_reducible refine i_Seq (i_If (i_cOr (i_cI_eq (i_L3 (i_I ?_)))))); (with_reducible refine i_f (by omega) ?_); (with_reducible refine i_cI_eq (i_L4 (i_I ?_))); (with_reducible refine i_f (by omega) ?_); (with_reducible refine i_Seq (i_If (i_cZ_eq (i_And (i_IA (i_FR (i_A0 ?_))))))); (with_reducible refine i_fldR (by assumption) ?_); (with_reducible refine i_L4 ?_); (with_reducible refine i_in (by assumption) (by omega) (by omega) ?_); (with_reducible refine i_Xor (i_Shl (i_I (i_L3 (i_I ?_))))); (rw [m2]); (rw [hnot]); (with_reducible refine i_t (by omega) ?_); (with_reducible refine i_sCall (i_as1 (i_A0 (i_as1 (i_I (i_as1 (i_IA (i_FR (i_A1 ?_))))))))); (with_reducible refine i_fldR (by assumption) ?_); (with_reducible refine i_Add (i_L2 (i_I ?_))); rw [zx_addc (by omega)]; (with_reducible refine i_in (by assumption) (by omega) (by omega) ?_); (with_reducible refine i_as0 ?_); (with_reducible refine i_recv0 (by assumption) ?_); (rw [p22]))
      refine c_xblame hO hS (f := 5) rfl z2 hF2 (by decide) (by decide) (hp _) (fun M3 f3 z3 => ⟨rfl, ?_⟩)
      have p03 : M3 ((89 : Nat) : Int) ((i : Nat) : Int) = ((zps B s i : Nat) : Int) := by rw [f3 _ _ (by omega)]; exact p02
      ((with_reducible refine i_Seq (i_sCall (i_as1 (i_A0 (i_as1 (i_I (i_as1 (i_L3 (i_as1 (i_L4 (i_as1 (i_IA (i_FR (i_A1 ?_)))))))))))))); (with_reducible refine i_fldR (by assumption) ?_); (with_reducible refine i_L2 ?_); (with_reducible refine i_in (by assumption) (by omega) (by omega) ?_); (with_reducible refine i_as0 ?_); (with_reducible refine i_recv0 (by assumption) ?_); (rw [p03]))
      refine (done M3 (ubl Z2 (8 * zps B s (i + 2) + 5)) (f12.tr (cXF.bl f3)) (hZ2.bl f3 rfl rfl rfl z3) b1 b2 (uFk_min hF2 (hp _) (by decide) (by decide)) hk).mono (fun v M4 ⟨hv, q1, hc⟩ => ⟨hv, ?_⟩)
      ((with_reducible refine i_sCall (i_as1 (i_FR (i_A0 ?_)))); (with_reducible refine i_fldR (by assumption) ?_); (with_reducible refine i_as1 (i_Shl (i_I (i_L3 (i_as1 (i_IA (i_FR (i_A0 ?_)))))))); (with_reducible refine i_fldR (by assumption) ?_); (with_reducible refine i_L4 ?_); (with_reducible refine i_in (by assumption) (by omega) (by omega) ?_); (with_reducible refine i_as0 ?_); (with_reducible refine i_recv0 (by assumption) ?_); (rw [q1]); (rw [yshl_mk hx16]))
      refine hc.mono (fun v M5 h5 => ⟨h5.1, ?_⟩)
      (with_reducible refine i_RetV ?_)
      exact h5.2
    · rw [if_neg e2] at hk
      have e2' : ¬ zmk (fun q => decide (uo Z q = y) && !decide (q = x)) = 0 := fun z => e2 (h0.mp z)
      ((with_reducible refine i_Seq (i_If (i_cOr (i_cI_eq (i_L3 (i_I ?_)))))); (with_reducible refine i_f (by omega) ?_); (with_reducible refine i_cI_eq (i_L4 (i_I ?_))); (with_reducible refine i_f (by omega) ?_); (with_reducible refine i_Seq (i_If (i_cZ_eq (i_And (i_IA (i_FR (i_A0 ?_))))))); (with_reducible refine i_fldR (by assumption) ?_); (with_reducible refine i_L4 ?_); (with_reducible refine i_in (by assumption) (by omega) (by omega) ?_); (with_reducible refine i_Xor (i_Shl (i_I (i_L3 (i_I ?_))))); (rw [m2]); (rw [hnot]); (with_reducible refine i_f (by omega) ?_); (with_reducible refine i_Seq (i_sCall (i_as1 (i_A0 (i_as1 (i_I (i_as1 (i_L3 (i_as1 (i_L4 (i_as1 (i_IA (i_FR (i_A1 ?_)))))))))))))); (with_reducible refine i_fldR (by assumption) ?_); (with_reducible refine i_L2 ?_); (with_reducible refine i_in (by assumption) (by omega) (by omega) ?_); (with_reducible refine i_as0 ?_); (with_reducible refine i_recv0 (by assumption) ?_); (rw [p02]))
      refine (done M2 Z2 f12 hZ2 b1 b2 hF2 hk).mono (fun v M4 ⟨hv, q1, hc⟩ => ⟨hv, ?_⟩)
      ((with_reducible refine i_sCall (i_as1 (i_FR (i_A0 ?_)))); (with_reducible refine i_fldR (by assumption) ?_); (with_reducible refine i_as1 (i_Shl (i_I (i_L3 (i_as1 (i_IA (i_FR (i_A0 ?_)))))))); (with_reducible refine i_fldR (by assumption) ?_); (with_reducible refine i_L4 ?_); (with_reducible refine i_in (by assumption) (by omega) (by omega) ?_); (with_reducible refine i_as0 ?_); (with_reducible refine i_recv0 (by assumption) ?_); (rw [q1]); (rw [yshl_mk hx16]))
      refine hc.mono (fun v M5 h5 => ⟨h5.1, ?_⟩)
      (with_reducible refine i_RetV ?_)
      exact h5.2
  · rw [if_neg e] at hk
    by_cases ea : x < n
    · have eb : ¬ ufn Z vb < ub Z := fun z => e ⟨ea, z⟩
      rw [show uRI Z vb = -1 from if_neg eb, if_pos ea]
      ((with_reducible refine i_Seq (i_If (i_cOr (i_cI_eq (i_L3 (i_I ?_)))))); (with_reducible refine i_f (by omega) ?_); (with_reducible refine i_cI_eq (i_L4 (i_I ?_))); simp only [w_set0, w_set1, w_setn0, w_setn1]; (with_reducible refine i_t trivial ?_); (with_reducible refine i_RetV ?_))
      exact hk M2 f12 hZ2
    · rw [if_neg ea]
      ((with_reducible refine i_Seq (i_If (i_cOr (i_cI_eq (i_L3 (i_I ?_)))))); simp only [w_set0, w_set1, w_setn0, w_setn1]; (with_reducible refine i_t trivial ?_); (with_reducible refine i_RetV ?_))
      exact hk M2 f12 hZ2
theorem upr_s (Z : zZt) (p q : Nat) : upr Z p q = upr Z q p := zex_ext fun k _ => decide_eq_decide.mpr ⟨fun h => h.elim Or.inr Or.inl, fun h => h.elim Or.inr Or.inl⟩
theorem upr_ap (Z : zZt) (x : Nat × Nat × Bool × Nat) (p q : Nat) : upr (uap Z x) p q = (upr Z p q || upq x p q) := by
  show zex (fun k => upq (uup (up Z) (ut Z) x k) p q) (ut Z + 1) = _
  rw [zex_su]
  congr 1
  · exact zex_ext fun k hk => by rw [uup_n _ _ (by omega)]
  · rw [uup_s]
theorem cZt.F {M : zMem} {n : Nat} {Z Z' : zZt} (h : cZt M n Z) (e1 : Z'.1 = Z.1) (e2 : Z'.2.1 = Z.2.1) (e3 : ∀ p q, (decide (p ≠ q) && upr Z' p q) = (decide (p ≠ q) && upr Z p q)) (hf : cZf M (uF Z')) : cZt M n Z' :=
  ⟨⟨h.1.1, h.1.2.1.ext (fun p q _ _ => by rw [usd_e e1 e2]), h.1.2.2.ext (fun p q _ _ => (e3 p q).symm)⟩, h.2.1.to (fun _ _ _ => rfl) e1, h.2.2.1.to (fun _ _ _ => rfl) e1, h.2.2.2.1.to (fun _ _ _ => rfl) e2 (fun _ _ => uM_e e1 _), hf⟩
set_option maxHeartbeats 1600000 in
theorem c_takePair {O : zOm} (hO : zWld O) (hS : zS O = zmS zC0) {i s n : Nat} {B : Nat → Nat} {Z : zZt} {M : zMem} {K : Option zV → zMem → Prop} (hs : s ≤ 2000) (hn16 : n ≤ 16) (hq0 : zqs B s (zhh B s) = 0) (hi : i < zhh B s) (hq : zqs B s i = 0) (hK : zKi B s i = 8 ∨ zKi B s i = 9) (hA : uAll B s n Z i) (hT : cTa M B s) (hZ : cZt M n Z)
    (hk : ∀ M', cXF M M' → cZt M' n (us4 B s n (decide (zKi B s i = 9)) Z i) → K none M') : zR O F_Text_takePair [(2, ((92 : Nat) : Int)), (2, ((86 : Nat) : Int)), (0, ((i : Nat) : Int))] M K := by
  have h400 := (zhh_ok B s).1
  have n100 := zNet101 hS
  have n102 := zNet103 hS
  have n100o := n100.2.2.2
  have n102o := n102.2.2.2
  have hp := fun j => Nat.le_trans (zps_le B s j) hs
  obtain ⟨g1, g2, g3, g4, g5⟩ := zgr_89 hq0 hi hq hK
  have hFk : uFk (uF Z) := hA.1.2.2.1
  have v1 := hT.v1 (show i + 1 < zhh B s by omega) g1
  have v14 := zVi_1 (show i + 1 < zhh B s by omega) g1
  have v2 := hT.v1 (show i + 2 < zhh B s by omega) g2
  have v24 := zVi_1 (show i + 2 < zhh B s by omega) g2
  have p1 := (hT.2.2 (i + 1) (by omega)).2.1
  have p2 := (hT.2.2 (i + 2) (by omega)).2.1
  have t0 := (hT.2.2 i hi).1
  have h5 := hA.2.1
  have hpm : ∀ k, k < ut Z → (up Z k).2.2.2 < zps B s (i + 2) := fun k hk2 => by
    obtain ⟨-, -, -, j, j1, j2, -⟩ := h5 k hk2
    rw [j2]
    exact zps_mono (by omega) ((zhh_ok B s).2.1 (j + 2) (by omega)).1
  unfold us4 at hk
  (try dsimp only at hk)
  have hk1 := ukp_e n Z (zVi B s (i + 1)) (zps B s (i + 1))
  have hk2 := ukp_e n (ukp n Z (zVi B s (i + 1)) (zps B s (i + 1))) (zVi B s (i + 2)) (zps B s (i + 2))
  have hZZ : zVi B s (i + 1) < n ∧ zVi B s (i + 2) < n → ukp n (ukp n Z (zVi B s (i + 1)) (zps B s (i + 1))) (zVi B s (i + 2)) (zps B s (i + 2)) = Z := fun e => by
    unfold ukp
    rw [if_pos e.2, if_pos e.1]
  generalize ukp n (ukp n Z (zVi B s (i + 1)) (zps B s (i + 1))) (zVi B s (i + 2)) (zps B s (i + 2)) = Z2 at hk hk2 hZZ
  generalize ukp n Z (zVi B s (i + 1)) (zps B s (i + 1)) = Z1 at hk1 hk2
  obtain ⟨a1, a2, a3, a4⟩ := hk1
  obtain ⟨b1, b2, b3, b4⟩ := hk2
  rw [a1] at b1
  rw [a2] at b2
  rw [a3] at b3
  have hF1 : uFk (uF Z1) := by
    rw [a4]
    split
    · exact hFk
    · exact uFk_min hFk (hp _) (by decide) (by decide)
  have hpp := hp (i + 2)
  have hpp1 := hp (i + 1)
  generalize zVi B s (i + 1) = a at *
  generalize zVi B s (i + 2) = b at *
  generalize zps B s (i + 2) = pp at *
  generalize zps B s (i + 1) = pp1 at *
  apply r_Text_takePair hO
  unfold B_Text_takePair
  have f86_2 := zf_86_2 hS; have a89 := zCA (a := 89) (ty := .int) (n := 400) hS rfl; have f86_1 := zf_86_1 hS; have a88 := zCA (a := 88) (ty := .int) (n := 400) hS rfl; have f92_7 := zf_92_7 hS; have f92_8 := zf_92_8 hS; have z86 := zo_86 hS; have z92 := zo_92 hS
  ((with_reducible refine i_Seq (i_Seq (i_Set (i_Call (i_as1 (i_A0 (i_as1 (i_A1 (i_as1 (i_Add (i_L2 (i_I (i_as0 ?_))))))))))))); (with_reducible refine i_recv0 (by assumption) ?_); rw [zx_inc (by omega)]; simp only [w_set0, w_set1, w_setn0, w_setn1])
  refine c_postTold hO hS hZ.2.2.2.2 hZ.1.1 hn16 hFk (by omega) v1 v14 p1 hpp1 (fun M1 f1 z1 => ⟨_, rfl, ?_⟩)
  rw [← a4] at z1
  have hZ1 : cZt M1 n Z1 := hZ.bl f1 a1 a2 a3 z1
  ((with_reducible refine i_Seq (i_Set (i_Call (i_as1 (i_A0 (i_as1 (i_A1 (i_as1 (i_Add (i_L2 (i_I (i_as0 ?_)))))))))))); (with_reducible refine i_recv0 (by assumption) ?_); rw [zx_addc (by omega)]; simp only [w_set0, w_set1, w_setn0, w_setn1])
  refine c_postTold hO hS z1 hZ1.1.1 hn16 hF1 (by omega) (by rw [f1 _ _ (by omega)]; exact v2) v24 (by rw [f1 _ _ (by omega)]; exact p2) hpp (fun M2 f2 z2 => ⟨_, rfl, ?_⟩)
  rw [← b4] at z2
  have f12 : cXF M M2 := (cXF.bl f1).tr (cXF.bl f2)
  have hZ2 : cZt M2 n Z2 := hZ.bl (fun b j q => by rw [f2 b j q, f1 b j q]) b1 b2 b3 z2
  by_cases e : a < n ∧ b < n
  · rw [if_pos e] at hk
    have ez := hZZ e
    subst ez
    obtain ⟨ea, eb⟩ := e
    have p22 : M2 ((89 : Nat) : Int) ((i + 2 : Nat) : Int) = ((pp : Nat) : Int) := by rw [f12 _ _ (by omega)]; exact p2
    have t02 : M2 ((88 : Nat) : Int) ((i : Nat) : Int) = ((zKi B s i : Nat) : Int) := by rw [f12 _ _ (by omega)]; exact t0
    rw [if_pos ea, if_pos eb]
    -- the state behind, and its fault
    have hst : ∀ (c5 : Prop) [Decidable c5], (∀ M', cXF M M' → cZt M' n (uap (if c5 then ubl (if upr Z2 a b = true then ubl Z2 (8 * pp + 3) else Z2) (8 * pp + 5) else (if upr Z2 a b = true then ubl Z2 (8 * pp + 3) else Z2)) (a, b, decide (zKi B s i = 9), pp)) → K none M') →
        ∀ M' : zMem, cXF M M' → cZt M' n (Z2.1, Z2.2.1, (uap Z2 (a, b, decide (zKi B s i = 9), pp)).2.2.1, if c5 then min (if upr Z2 a b = true then min (uF Z2) (8 * pp + 3) else uF Z2) (8 * pp + 5) else (if upr Z2 a b = true then min (uF Z2) (8 * pp + 3) else uF Z2)) → K none M' := fun c5 _ h M' f z => h M' f (by
      by_cases w : c5
      · rw [if_pos w] at z ⊢
        by_cases w2 : upr Z2 a b = true
        · rw [if_pos w2] at z ⊢; exact z
        · rw [if_neg w2] at z ⊢; exact z
      · rw [if_neg w] at z ⊢
        by_cases w2 : upr Z2 a b = true
        · rw [if_pos w2] at z ⊢; exact z
        · rw [if_neg w2] at z ⊢; exact z)
    have hk3 := hst _ hk
    clear hst hk
    have hup : ∀ p q, upr (Z2.1, Z2.2.1, (uap Z2 (a, b, decide (zKi B s i = 9), pp)).2.2.1, if a = b ∨ decide (zKi B s i = 9) = false ∧ usd Z2 a b = false then min (if upr Z2 a b = true then min (uF Z2) (8 * pp + 3) else uF Z2) (8 * pp + 5) else (if upr Z2 a b = true then min (uF Z2) (8 * pp + 3) else uF Z2)) p q = (upr Z2 p q || upq (a, b, decide (zKi B s i = 9), pp) p q) := fun p q => (upr_e (Z := uap Z2 (a, b, decide (zKi B s i = 9), pp)) rfl p q).trans (upr_ap Z2 _ p q)
    have hFe : uF (Z2.1, Z2.2.1, (uap Z2 (a, b, decide (zKi B s i = 9), pp)).2.2.1, if a = b ∨ decide (zKi B s i = 9) = false ∧ usd Z2 a b = false then min (if upr Z2 a b = true then min (uF Z2) (8 * pp + 3) else uF Z2) (8 * pp + 5) else (if upr Z2 a b = true then min (uF Z2) (8 * pp + 3) else uF Z2)) = if a = b ∨ decide (zKi B s i = 9) = false ∧ usd Z2 a b = false then min (if upr Z2 a b = true then min (uF Z2) (8 * pp + 3) else uF Z2) (8 * pp + 5) else (if upr Z2 a b = true then min (uF Z2) (8 * pp + 3) else uF Z2) := rfl
    generalize hZn : ((Z2.1, Z2.2.1, (uap Z2 (a, b, decide (zKi B s i = 9), pp)).2.2.1, if a = b ∨ decide (zKi B s i = 9) = false ∧ usd Z2 a b = false then min (if upr Z2 a b = true then min (uF Z2) (8 * pp + 3) else uF Z2) (8 * pp + 5) else (if upr Z2 a b = true then min (uF Z2) (8 * pp + 3) else uF Z2)) : zZt) = Zn at hk3 hup hFe
    have hn1 : Zn.1 = Z2.1 := by rw [← hZn]
    have hn2 : Zn.2.1 = Z2.2.1 := by rw [← hZn]
    clear hZn
    by_cases u1 : a = b
    · subst u1
      rw [if_pos (Or.inl rfl)] at hFe
      have hsame : ∀ p q, (decide (p ≠ q) && upr Zn p q) = (decide (p ≠ q) && upr Z2 p q) := fun p q => by
        rw [hup]
        by_cases w : p = q
        · rw [decide_eq_false (fun z => z w), Bool.false_and, Bool.false_and]
        · rw [show upq (a, a, decide (zKi B s i = 9), pp) p q = false from decide_eq_false (fun z => by
            have z2 : a = p ∧ a = q ∨ a = q ∧ a = p := z
            omega), Bool.or_false]
      have hF9 : uF Zn = min (uF Z2) (8 * pp + 5) := by
        rw [hFe]
        by_cases w2 : upr Z2 a a = true
        · rw [if_pos w2]
          obtain ⟨k, k1, k2⟩ := zex_t.mp w2
          have k3 : (up Z2 k).1 = a ∧ (up Z2 k).2.1 = a ∨ (up Z2 k).1 = a ∧ (up Z2 k).2.1 = a := of_decide_eq_true k2
          have k4 := (h5 k k1).2.2.1 (by omega)
          have k5 := hpm k k1
          omega
        · rw [if_neg w2]
      ((with_reducible refine i_Seq (i_If (i_cOr (i_cI_eq (i_L3 (i_I ?_)))))); (with_reducible refine i_f (by omega) ?_); (with_reducible refine i_cI_eq (i_L4 (i_I ?_))); (with_reducible refine i_f (by omega) ?_); (with_reducible refine i_Seq (i_Set (i_IA (i_FR (i_A1 ?_))))); (with_reducible refine i_fldR (by assumption) ?_); (with_reducible refine i_Add (i_L2 (i_I ?_))); rw [zx_addc (by omega)]; (with_reducible refine i_in (by assumption) (by omega) (by omega) ?_); (with_reducible refine i_Seq (i_If (i_cI_eq ?_))); (rw [p22]); simp only [w_set0, w_set1, w_setn0, w_setn1]; (with_reducible refine i_L3 (i_L4 ?_)); simp only [w_set0, w_set1, w_setn0, w_setn1]; (with_reducible refine i_t trivial ?_); (with_reducible refine i_Seq (i_sCall (i_as1 (i_A0 (i_as1 (i_I (i_as1 (i_L5 (i_as0 ?_))))))))); (with_reducible refine i_recv0 (by assumption) ?_))
      refine c_xblame hO hS (f := 5) rfl z2 hFk (by decide) (by decide) hpp (fun M3 f3 z3 => ⟨rfl, ?_⟩)
      (with_reducible refine i_RetV ?_)
      exact hk3 M3 (f12.tr (cXF.bl f3)) ((hZ2.bl (Z' := ubl Z2 (8 * pp + 5)) f3 rfl rfl rfl z3).F hn1 hn2 hsame (by rw [hF9]; exact z3))
    · have hba : ¬ ((a : Nat) : Int) = ((b : Nat) : Int) := by omega
      have hjs := hZ2.1.2.1
      have hT1 : (decide (a ≠ b) && usd Z2 a b) = usd Z2 a b := by rw [decide_eq_true u1, Bool.true_and]
      have hT2 : (decide (a ≠ b) && upr Z2 a b) = upr Z2 a b := by rw [decide_eq_true u1, Bool.true_and]
      -- the second half: is the pair told already
      have tail : ∀ (M3 : zMem) (F3 : Nat), (∀ b j, ¬ (b = ((92 : Nat) : Int) ∧ (j = 14 ∨ j = 15)) → M3 b j = M2 b j) → cZf M3 F3 → uFk F3 → uF Zn = (if upr Z2 a b = true then min F3 (8 * pp + 3) else F3) →
          zR O F_Net_joins [(2, ((103 : Nat) : Int)), (0, ((a : Nat) : Int)), (0, ((b : Nat) : Int))] M3 (fun v M4 => v = some (0, zbI (upr Z2 a b)) ∧ M4 = M3) ∧ (upr Z2 a b = true → zR O F_Text_blame [(2, ((92 : Nat) : Int)), (0, 3), (0, ((pp : Nat) : Int))] M3 (fun v M4 => v = none ∧ K none M4)) ∧ (upr Z2 a b = false → zR O F_Net_flip [(2, ((103 : Nat) : Int)), (0, ((a : Nat) : Int)), (0, ((b : Nat) : Int))] M3 (fun v M4 => v = none ∧ K none M4)) := fun M3 F3 f3 z3 hF3 hFn => by
        have hN3 : zNR M3 103 n (fun p q => decide (p ≠ q) && upr Z2 p q) := ⟨by rw [f3 _ _ (by omega)]; exact hZ2.1.2.2.1, fun p hp2 => by rw [f3 _ _ (by omega)]; exact hZ2.1.2.2.2 p hp2⟩
        refine ⟨s_joins hO n102 hN3 (by omega) (by omega) ⟨by rw [hT2], rfl⟩, fun w => ?_, fun w => ?_⟩
        · rw [if_pos w] at hFn
          refine c_xblame hO hS (f := 3) rfl z3 hF3 (by decide) (by decide) hpp (fun M4 f4 z4 => ⟨rfl, ?_⟩)
          refine hk3 M4 (f12.tr ((cXF.bl f3).tr (cXF.bl f4))) ((hZ2.bl (Z' := (Z2.1, Z2.2.1, Z2.2.2.1, uF Zn)) (fun b j q => by rw [f4 b j q, f3 b j q]) rfl rfl rfl (by rw [show uF (Z2.1, Z2.2.1, Z2.2.2.1, uF Zn) = uF Zn from rfl, hFn]; exact z4)).F hn1 hn2 (fun p q => ?_) (by rw [hFn]; exact z4))
          rw [hup]
          show (_ && _) = (decide (p ≠ q) && upr Z2 p q)
          cases w3 : upq (a, b, decide (zKi B s i = 9), pp) p q
          · rw [Bool.or_false]
          · have w4 : a = p ∧ b = q ∨ a = q ∧ b = p := of_decide_eq_true w3
            have w5 : upr Z2 p q = true := by
              rcases w4 with ⟨h1, h2⟩ | ⟨h1, h2⟩
              · rw [← h1, ← h2]; exact w
              · rw [← h1, ← h2, upr_s]; exact w
            rw [w5]; rfl
        · rw [if_neg (by rw [w]; decide)] at hFn
          refine s_Net_flip hO n102 hN3 (by omega) (by omega) u1 (fun M4 f4 h4 => ⟨rfl, ?_⟩)
          have f4' : ∀ b j, ¬ b = ((104 : Nat) : Int) → M4 b j = M3 b j := fun b j q => by rw [f4 b (by simp <;> omega)]
          have hb0 := hZ2.2.1
          refine hk3 M4 (fun b j q => by rw [f4' b j (by omega), f3 b j (by omega)]; exact f12 b j q) ⟨⟨by rw [f4' _ _ (by omega), f3 _ _ (by omega)]; exact hZ2.1.1, zNR.ext (T := fun p q => decide (p ≠ q) && usd Z2 p q) ⟨by rw [f4' _ _ (by omega), f3 _ _ (by omega)]; exact hjs.1, fun p hp2 => by rw [f4' _ _ (by omega), f3 _ _ (by omega)]; exact hjs.2 p hp2⟩ (fun p q _ _ => by rw [usd_e hn1 hn2]), h4.ext (fun p q _ _ => ?_)⟩, hZ2.2.1.to (fun b j q => by rw [f4' _ _ (by omega), f3 _ _ (by omega)]) hn1, hZ2.2.2.1.to (fun b j q => by rw [f4' _ _ (by omega), f3 _ _ (by omega)]) hn1, hZ2.2.2.2.1.to (fun b j q => by rw [f4' _ _ (by omega), f3 _ _ (by omega)]) hn2 (fun _ _ => uM_e hn1 _), by rw [hFn]; exact ⟨by rw [f4' _ _ (by omega)]; exact z3.1, by rw [f4' _ _ (by omega)]; exact z3.2⟩⟩
          rw [hup]
          unfold zflip
          (try dsimp only)
          by_cases w4 : p = a ∧ q = b ∨ p = b ∧ q = a
          · have w5 : upr Z2 p q = false := by
              rcases w4 with ⟨h1, h2⟩ | ⟨h1, h2⟩
              · rw [h1, h2]; exact w
              · rw [h1, h2, upr_s]; exact w
            have w6 : upq (a, b, decide (zKi B s i = 9), pp) p q = true := decide_eq_true (show a = p ∧ b = q ∨ a = q ∧ b = p by omega)
            rw [w5, w6, decide_eq_true (show p ≠ q by omega)]
            rcases w4 with w4 | w4
            · rw [decide_eq_true w4]; rfl
            · rw [decide_eq_true w4, Bool.or_true]; rfl
          · have w6 : upq (a, b, decide (zKi B s i = 9), pp) p q = false := decide_eq_false (fun z => by
              have z2 : a = p ∧ b = q ∨ a = q ∧ b = p := z
              omega)
            rw [w6, decide_eq_false (fun z => w4 (Or.inl z)), decide_eq_false (fun z => w4 (Or.inr z)), Bool.or_false, Bool.or_false, Bool.xor_false]
      by_cases u2 : decide (zKi B s i = 9) = false ∧ usd Z2 a b = false
      · rw [if_pos (Or.inr u2)] at hFe
        have k8 : zKi B s i = 8 := by have := of_decide_eq_false u2.1; omega
        ((with_reducible refine i_Seq (i_If (i_cOr (i_cI_eq (i_L3 (i_I ?_)))))); (with_reducible refine i_f (by omega) ?_); (with_reducible refine i_cI_eq (i_L4 (i_I ?_))); (with_reducible refine i_f (by omega) ?_); (with_reducible refine i_Seq (i_Set (i_IA (i_FR (i_A1 ?_))))); (with_reducible refine i_fldR (by assumption) ?_); (with_reducible refine i_Add (i_L2 (i_I ?_))); rw [zx_addc (by omega)]; (with_reducible refine i_in (by assumption) (by omega) (by omega) ?_); (with_reducible refine i_Seq (i_If (i_cI_eq ?_))); (rw [p22]); simp only [w_set0, w_set1, w_setn0, w_setn1]; (with_reducible refine i_L3 (i_L4 ?_)); (with_reducible refine i_f (by omega) ?_); (with_reducible refine i_Seq (i_If (i_cAnd (i_cI_eq (i_IA (i_FR (i_A1 ?_))))))); (with_reducible refine i_fldR (by assumption) ?_); (with_reducible refine i_L2 ?_); (with_reducible refine i_in (by assumption) (by omega) (by omega) ?_); (with_reducible refine i_I ?_); (rw [t02]); (with_reducible refine i_t (by omega) ?_); (with_reducible refine i_cNot (i_cZ_ne (i_Call (i_as1 (i_FR (i_A0 ?_)))))); (with_reducible refine i_fldR (by assumption) ?_); (with_reducible refine i_as1 (i_L3 (i_as1 (i_L4 (i_as0 ?_))))); (with_reducible refine i_recv0 (by assumption) ?_); (refine s_joins hO n100 hjs (show a < 16 by omega) (show b < 16 by omega) ⟨_, rfl, ?_⟩); (rw [hT1]); (rw [u2.2]); rw [zbI_f]; (with_reducible refine i_f (by omega) ?_); (with_reducible refine i_sCall (i_as1 (i_A0 (i_as1 (i_I (i_as1 (i_L5 (i_as0 ?_)))))))); (with_reducible refine i_recv0 (by assumption) ?_))
        refine c_xblame hO hS (f := 5) rfl z2 hFk (by decide) (by decide) hpp (fun M3 f3 z3 => ⟨rfl, ?_⟩)
        obtain ⟨s1, s2, s3⟩ := tail M3 _ f3 z3 (uFk_min hFk hpp (by decide) (by decide)) (by rw [hFe]; split <;> omega)
        ((with_reducible refine i_Ite (i_cZ_ne (i_Call (i_as1 (i_FR (i_A0 ?_)))))); (with_reducible refine i_fldR (by assumption) ?_); (with_reducible refine i_as1 (i_L3 (i_as1 (i_L4 (i_as0 ?_))))); (with_reducible refine i_recv0 (by assumption) ?_))
        refine s1.mono (fun v M4 h4 => ⟨_, h4.1, ?_⟩)
        obtain ⟨-, rfl⟩ := h4
        cases w : upr Z2 a b
        · (rw [zbI_f]; (with_reducible refine i_f (by omega) ?_); (with_reducible refine i_sCall (i_as1 (i_FR (i_A0 ?_)))); (with_reducible refine i_fldR (by assumption) ?_); (with_reducible refine i_as1 (i_L3 (i_as1 (i_L4 (i_as0 ?_))))); (with_reducible refine i_recv0 (by assumption) ?_))
          refine (s3 w).mono (fun v M5 h5 => ⟨h5.1, ?_⟩)
          (with_reducible refine i_RetV ?_)
          exact h5.2
        · (rw [zbI_t]; (with_reducible refine i_t (by omega) ?_); (with_reducible refine i_sCall (i_as1 (i_A0 (i_as1 (i_I (i_as1 (i_L5 (i_as0 ?_)))))))); (with_reducible refine i_recv0 (by assumption) ?_))
          refine (s2 w).mono (fun v M5 h5 => ⟨h5.1, ?_⟩)
          (with_reducible refine i_RetV ?_)
          exact h5.2
      · rw [if_neg (fun z => z.elim u1 u2)] at hFe
        obtain ⟨s1, s2, s3⟩ := tail M2 _ (fun _ _ _ => rfl) z2 hFk hFe
        have fin : ∀ {Q : zMem → Prop}, (∀ v M4, v = some (0, zbI (upr Z2 a b)) ∧ M4 = M2 → True) → True := fun _ => trivial
        clear fin
        by_cases k9 : zKi B s i = 9
        · ((with_reducible refine i_Seq (i_If (i_cOr (i_cI_eq (i_L3 (i_I ?_)))))); (with_reducible refine i_f (by omega) ?_); (with_reducible refine i_cI_eq (i_L4 (i_I ?_))); (with_reducible refine i_f (by omega) ?_); (with_reducible refine i_Seq (i_Set (i_IA (i_FR (i_A1 ?_))))); (with_reducible refine i_fldR (by assumption) ?_); (with_reducible refine i_Add (i_L2 (i_I ?_))); rw [zx_addc (by omega)]; (with_reducible refine i_in (by assumption) (by omega) (by omega) ?_); (with_reducible refine i_Seq (i_If (i_cI_eq ?_))); (rw [p22]); simp only [w_set0, w_set1, w_setn0, w_setn1]; (with_reducible refine i_L3 (i_L4 ?_)); (with_reducible refine i_f (by omega) ?_); (with_reducible refine i_Seq (i_If (i_cAnd (i_cI_eq (i_IA (i_FR (i_A1 ?_))))))); (with_reducible refine i_fldR (by assumption) ?_); (with_reducible refine i_L2 ?_); (with_reducible refine i_in (by assumption) (by omega) (by omega) ?_); (with_reducible refine i_I ?_); (rw [t02]); (with_reducible refine i_f (by omega) ?_); (with_reducible refine i_Ite (i_cZ_ne (i_Call (i_as1 (i_FR (i_A0 ?_)))))); (with_reducible refine i_fldR (by assumption) ?_); (with_reducible refine i_as1 (i_L3 (i_as1 (i_L4 (i_as0 ?_))))); (with_reducible refine i_recv0 (by assumption) ?_))
          refine s1.mono (fun v M4 h4 => ⟨_, h4.1, ?_⟩)
          obtain ⟨-, rfl⟩ := h4
          cases w : upr Z2 a b
          · (rw [zbI_f]; (with_reducible refine i_f (by omega) ?_); (with_reducible refine i_sCall (i_as1 (i_FR (i_A0 ?_)))); (with_reducible refine i_fldR (by assumption) ?_); (with_reducible refine i_as1 (i_L3 (i_as1 (i_L4 (i_as0 ?_))))); (with_reducible refine i_recv0 (by assumption) ?_))
            refine (s3 w).mono (fun v M5 h5 => ⟨h5.1, ?_⟩)
            (with_reducible refine i_RetV ?_)
            exact h5.2
          · (rw [zbI_t]; (with_reducible refine i_t (by omega) ?_); (with_reducible refine i_sCall (i_as1 (i_A0 (i_as1 (i_I (i_as1 (i_L5 (i_as0 ?_)))))))); (with_reducible refine i_recv0 (by assumption) ?_))
            refine (s2 w).mono (fun v M5 h5 => ⟨h5.1, ?_⟩)
            (with_reducible refine i_RetV ?_)
            exact h5.2
        · have k8 : zKi B s i = 8 := by omega
          have u3 : usd Z2 a b = true := by
            cases h : usd Z2 a b
            · exact absurd ⟨decide_eq_false k9, h⟩ u2
            · rfl
          ((with_reducible refine i_Seq (i_If (i_cOr (i_cI_eq (i_L3 (i_I ?_)))))); (with_reducible refine i_f (by omega) ?_); (with_reducible refine i_cI_eq (i_L4 (i_I ?_))); (with_reducible refine i_f (by omega) ?_); (with_reducible refine i_Seq (i_Set (i_IA (i_FR (i_A1 ?_))))); (with_reducible refine i_fldR (by assumption) ?_); (with_reducible refine i_Add (i_L2 (i_I ?_))); rw [zx_addc (by omega)]; (with_reducible refine i_in (by assumption) (by omega) (by omega) ?_); (with_reducible refine i_Seq (i_If (i_cI_eq ?_))); (rw [p22]); simp only [w_set0, w_set1, w_setn0, w_setn1]; (with_reducible refine i_L3 (i_L4 ?_)); (with_reducible refine i_f (by omega) ?_); (with_reducible refine i_Seq (i_If (i_cAnd (i_cI_eq (i_IA (i_FR (i_A1 ?_))))))); (with_reducible refine i_fldR (by assumption) ?_); (with_reducible refine i_L2 ?_); (with_reducible refine i_in (by assumption) (by omega) (by omega) ?_); (with_reducible refine i_I ?_); (rw [t02]); (with_reducible refine i_t (by omega) ?_); (with_reducible refine i_cNot (i_cZ_ne (i_Call (i_as1 (i_FR (i_A0 ?_)))))); (with_reducible refine i_fldR (by assumption) ?_); (with_reducible refine i_as1 (i_L3 (i_as1 (i_L4 (i_as0 ?_))))); (with_reducible refine i_recv0 (by assumption) ?_); (refine s_joins hO n100 hjs (show a < 16 by omega) (show b < 16 by omega) ⟨_, rfl, ?_⟩); (rw [hT1]); (rw [u3]); rw [zbI_t]; (with_reducible refine i_t (by omega) ?_); (with_reducible refine i_Ite (i_cZ_ne (i_Call (i_as1 (i_FR (i_A0 ?_)))))); (with_reducible refine i_fldR (by assumption) ?_); (with_reducible refine i_as1 (i_L3 (i_as1 (i_L4 (i_as0 ?_))))); (with_reducible refine i_recv0 (by assumption) ?_))
          refine s1.mono (fun v M4 h4 => ⟨_, h4.1, ?_⟩)
          obtain ⟨-, rfl⟩ := h4
          cases w : upr Z2 a b
          · (rw [zbI_f]; (with_reducible refine i_f (by omega) ?_); (with_reducible refine i_sCall (i_as1 (i_FR (i_A0 ?_)))); (with_reducible refine i_fldR (by assumption) ?_); (with_reducible refine i_as1 (i_L3 (i_as1 (i_L4 (i_as0 ?_))))); (with_reducible refine i_recv0 (by assumption) ?_))
            refine (s3 w).mono (fun v M5 h5 => ⟨h5.1, ?_⟩)
            (with_reducible refine i_RetV ?_)
            exact h5.2
          · (rw [zbI_t]; (with_reducible refine i_t (by omega) ?_); (with_reducible refine i_sCall (i_as1 (i_A0 (i_as1 (i_I (i_as1 (i_L5 (i_as0 ?_)))))))); (with_reducible refine i_recv0 (by assumption) ?_))
            refine (s2 w).mono (fun v M5 h5 => ⟨h5.1, ?_⟩)
            (with_reducible refine i_RetV ?_)
            exact h5.2
  · rw [if_neg e] at hk
    by_cases ea : a < n
    · have eb : ¬ b < n := fun z => e ⟨ea, z⟩
      rw [if_pos ea, if_neg eb]
      ((with_reducible refine i_Seq (i_If (i_cOr (i_cI_eq (i_L3 (i_I ?_)))))); (with_reducible refine i_f (by omega) ?_); (with_reducible refine i_cI_eq (i_L4 (i_I ?_))); simp only [w_set0, w_set1, w_setn0, w_setn1]; (with_reducible refine i_t trivial ?_); (with_reducible refine i_RetV ?_))
      exact hk M2 f12 hZ2
    · rw [if_neg ea]
      ((with_reducible refine i_Seq (i_If (i_cOr (i_cI_eq (i_L3 (i_I ?_)))))); simp only [w_set0, w_set1, w_setn0, w_setn1]; (with_reducible refine i_t trivial ?_); (with_reducible refine i_RetV ?_))
      exact hk M2 f12 hZ2
