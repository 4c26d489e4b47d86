/-! ===== the telling that a text makes: the class ===== -/
theorem uGood.rkb {n b : Nat} {Z : zZt} (h : uGood n Z) (hb : b ≤ ub Z) : urk Z b = b := by
  show zcnt (zNew (un Z)) b = b
  induction b with
  | zero => rfl
  | succ b ih => rw [zcnt_su, ih (by omega), if_pos (h.2.2.1 b (by omega)).1]
theorem uGood.wMe {n : Nat} {Z : zZt} {w : Nat × Nat × Nat} (h : uGood n Z) (hw : uWk n Z w) : uM Z w = w := by
  obtain ⟨s, x, y⟩ := w
  unfold uWk at hw
  unfold uM
  (try dsimp only at hw ⊢)
  by_cases e : s = 2
  · rw [if_pos e, h.rkb (show y ≤ ub Z by omega), e]
  · rw [if_neg e, h.rkb (show x ≤ ub Z by omega)]
    by_cases e1 : s = 1
    · rw [if_pos e1, h.rkb (show y ≤ ub Z by omega)]
    · rw [if_neg e1, show y = 0 by omega]
/-- the class's boxes, when all is good -/
def cZg (M : zMem) (Z : zZt) : Prop := M ((92 : Nat) : Int) ((10 : Nat) : Int) = ((ub Z : Nat) : Int) ∧ (∀ b : Nat, b < ub Z → M ((94 : Nat) : Int) ((b : Nat) : Int) = zmk (fun q => decide (uo Z q = b)) ∧ M ((95 : Nat) : Int) ((b : Nat) : Int) = ((upb Z b : Nat) : Int) ∧ M ((96 : Nat) : Int) ((b : Nat) : Int) = ((zSz (uo Z) 16 b : Nat) : Int)) ∧ ∀ q : Nat, q < 16 → uo Z q ≠ 999 → M ((97 : Nat) : Int) ((upb Z (uo Z q) + ul Z q : Nat) : Int) = ((q : Nat) : Int)
theorem cZg.to {M M' : zMem} {Z : zZt} (h : cZg M Z) (e : ∀ b j, ((92 : Nat) : Int) ≤ b ∧ b ≤ ((104 : Nat) : Int) → M' b j = M b j) : cZg M' Z := by
  refine ⟨by rw [e _ _ (by omega)]; exact h.1, fun b hb => ?_, fun q hq hn => by rw [e _ _ (by omega)]; exact h.2.2 q hq hn⟩
  rw [e _ _ (by omega), e _ _ (by omega), e _ _ (by omega)]
  exact h.2.1 b hb
theorem cZg.of {M : zMem} {n : Nat} {Z : zZt} (hG : uGood n Z) (hB : cZb M Z) (hO : cZo M Z) : cZg M Z := by
  refine ⟨by rw [hB.1, hG.rkb (Nat.le_refl _)], fun b hb => ?_, hO.2.2⟩
  have h := hB.2 b hb (hG.2.2.1 b hb).1
  rw [hG.rkb (by omega)] at h
  exact h.2
theorem upb_16 (Z : zZt) {b : Nat} : upb Z b + zSz (uo Z) 16 b ≤ 16 := by
  rw [← upb_z]
  exact zcnt_le _ _
theorem c_tboxOf {O : zOm} (hO : zWld O) (hS : zS O = zmS zC0) {p n : Nat} {Z : zZt} {M : zMem} {K : Option zV → zMem → Prop} (hG : uGood n Z) (hZ : cZg M Z) (hn16 : n ≤ 16) (hp : p < n) (hk : K (some (0, ((uo Z p : Nat) : Int))) M) : zR O F_Text_boxOf [(2, ((92 : Nat) : Int)), (0, ((p : Nat) : Int))] M K := by
  obtain ⟨b10, b2, -⟩ := hZ
  have h16 := hG.2.2.2.2.2.2.1
  have hN : uo Z p < ub Z := (hG.1.1 p (hG.2.2.2.2.2.1 p hp)).1
  apply r_Text_boxOf hO
  unfold B_Text_boxOf
  have f92_10 := zf_92_10 hS; have f92_1 := zf_92_1 hS; have a94 := zCA (a := 94) (ty := .int) (n := 100) hS rfl; have z92 := zo_92 hS
  ((with_reducible refine i_Seq (i_Blk (i_Seq (i_Set (i_I ?_))))); simp only [w_set0, w_set1, w_setn0, w_setn1])
  refine w_ForN (uo Z p) (fun c ρ M' => (∃ l, ρ = ((92 : Nat) : Int) :: ((p : Nat) : Int) :: ((c : Nat) : Int) :: l) ∧ M' = M) ⟨⟨_, rfl⟩, rfl⟩ ?_ ?_
  · rintro c ρ M1 X hc ⟨⟨l, rfl⟩, rfl⟩ hX
    have g := (b2 c (by omega)).1
    have e : decide (uo Z p = c) = false := decide_eq_false (by omega)
    have hb0 : yand (yshr (zmk (fun q => decide (uo Z q = c))) ((p : Nat) : Int)) 1 = 0 := by rw [yand_1 _ (show p < 16 by omega), if_neg (by rw [e]; decide)]
    ((with_reducible refine i_turn (i_cI_lt (i_L2 (i_F (i_A0 ?_))))); (with_reducible refine i_fld (by assumption) ?_); (rw [b10]); (with_reducible refine i_t (by omega) ?_); (with_reducible refine i_If (i_cI_eq (i_And (i_Shr (i_IA (i_FR (i_A0 ?_))))))); (with_reducible refine i_fldR (by assumption) ?_); (with_reducible refine i_L2 ?_); (with_reducible refine i_in (by assumption) (by omega) (by omega) ?_); (with_reducible refine i_L1 (i_I (i_I ?_))); (rw [g]); (rw [hb0]); (with_reducible refine i_f (by omega) ?_); (with_reducible refine i_up (i_Inc2 ?_)); rw [zx_inc (by omega)]; simp only [w_set0, w_set1, w_setn0, w_setn1])
    exact hX _ _ ⟨⟨_, rfl⟩, rfl⟩
  · rintro ρ M1 X ⟨⟨l, rfl⟩, rfl⟩
    have g := (b2 (uo Z p) hN).1
    have e : decide (uo Z p = uo Z p) = true := decide_eq_true rfl
    have hb1 : yand (yshr (zmk (fun q => decide (uo Z q = uo Z p))) ((p : Nat) : Int)) 1 = 1 := by rw [yand_1 _ (show p < 16 by omega), if_pos (by exact e)]
    generalize uo Z p = x at *
    ((with_reducible refine i_turn (i_cI_lt (i_L2 (i_F (i_A0 ?_))))); (with_reducible refine i_fld (by assumption) ?_); (rw [b10]); (with_reducible refine i_t (by omega) ?_); (with_reducible refine i_If (i_cI_eq (i_And (i_Shr (i_IA (i_FR (i_A0 ?_))))))); (with_reducible refine i_fldR (by assumption) ?_); (with_reducible refine i_L2 ?_); (with_reducible refine i_in (by assumption) (by omega) (by omega) ?_); (with_reducible refine i_L1 (i_I (i_I ?_))); (rw [g]); (rw [hb1]); simp only [w_set0, w_set1, w_setn0, w_setn1]; (with_reducible refine i_t trivial ?_); (with_reducible refine i_RetI (i_L2 ?_)))
    exact hk
theorem c_tnumOf {O : zOm} (hO : zWld O) (hS : zS O = zmS zC0) {p n b : Nat} {Z : zZt} {M : zMem} {K : Option zV → zMem → Prop} (hp : zPar (zS O) p) (hG : uGood n Z) (hZ : cZg M Z) (hn16 : n ≤ 16) (hM : ∀ q : Nat, q < n → M ((p + 1 : Nat) : Int) ((q : Nat) : Int) = ((zNum (uo Z) q : Nat) : Int)) (hb : b < ub Z) (hk : K (some (0, ((unb n Z b : Nat) : Int))) M) : zR O F_Text_numberOf [(2, ((92 : Nat) : Int)), (2, ((p : Nat) : Int)), (0, ((b : Nat) : Int))] M K := by
  obtain ⟨p0, p1, p2, p3, p4, p5, p6, p7, p8⟩ := hp
  obtain ⟨-, b2, r2⟩ := hZ
  have h16 := hG.2.2.2.2.2.2.1
  obtain ⟨q, q1, q2, q3⟩ := hG.post hb
  have s1 := (b2 b hb).2.1
  have s2 := r2 q (by omega) (by omega)
  rw [q2, q3, Nat.add_zero] at s2
  have s3 := hM q q1
  have s4 : zNum (uo Z) q = unb n Z b := by rw [← q2]; exact (unb_at q1).symm
  have s5 := upb_16 Z (b := b)
  have s6 := (hG.2.2.1 b hb).2
  rw [s4] at s3
  apply r_Text_numberOf hO
  unfold B_Text_numberOf
  have f92_3 := zf_92_3 hS; have a97 := zCA (a := 97) (ty := .int) (n := 400) hS rfl; have f92_2 := zf_92_2 hS; have a95 := zCA (a := 95) (ty := .int) (n := 100) hS rfl; have z92 := zo_92 hS
  ((with_reducible refine i_Seq (i_Set (i_IA (i_FR (i_A0 ?_))))); (with_reducible refine i_fldR (by assumption) ?_); (with_reducible refine i_IA (i_FR (i_A0 ?_))); (with_reducible refine i_fldR (by assumption) ?_); (with_reducible refine i_L2 ?_); (with_reducible refine i_in (by assumption) (by omega) (by omega) ?_); (with_reducible refine i_in (by assumption) (by omega) (by omega) ?_); (with_reducible refine i_RetI (i_eIf (i_cI_eq ?_))); (rw [s1]); (rw [s2]); simp only [w_set0, w_set1, w_setn0, w_setn1]; (with_reducible refine i_L3 (i_I ?_)); (with_reducible refine i_f (by omega) ?_); (with_reducible refine i_IA (i_FR (i_A1 ?_))); (with_reducible refine i_fldR (by assumption) ?_); (with_reducible refine i_L3 ?_); (with_reducible refine i_in (by assumption) (by omega) (by omega) ?_); (rw [s3]))
  exact hk
theorem c_tnumbered {O : zOm} (hO : zWld O) (hS : zS O = zmS zC0) {p n k : Nat} {w : Nat × Nat × Nat} {Z : zZt} {M : zMem} {K : Option zV → zMem → Prop} (hp : zPar (zS O) p) (hG : uGood n Z) (hZ : cZg M Z) (hn16 : n ≤ 16) (hM : ∀ q : Nat, q < n → M ((p + 1 : Nat) : Int) ((q : Nat) : Int) = ((zNum (uo Z) q : Nat) : Int)) (hk40 : k < 40) (h1 : M ((98 : Nat) : Int) ((k : Nat) : Int) = ((w.1 : Nat) : Int)) (h2 : M ((99 : Nat) : Int) ((k : Nat) : Int) = ((w.2.1 : Nat) : Int)) (h3 : M ((100 : Nat) : Int) ((k : Nat) : Int) = ((w.2.2 : Nat) : Int)) (hw : uWk n Z w) (hk : K (some (0, ((ucd n Z w : Nat) : Int))) M) : zR O F_Text_numbered [(2, ((92 : Nat) : Int)), (2, ((p : Nat) : Int)), (0, ((k : Nat) : Int))] M K := by
  have hp0 := hp.1
  have l16 := fun b (hb : b < ub Z) => hG.lt16 hn16 hb
  obtain ⟨s, x, y⟩ := w
  unfold uWk at hw
  unfold ucd at hk
  (try dsimp only at hw h1 h2 h3 hk)
  have hs4 : s = 2 ∨ s = 1 ∨ s = 0 ∨ s = 3 := by omega
  apply r_Text_numbered hO
  unfold B_Text_numbered
  have f92_4 := zf_92_4 hS; have a98 := zCA (a := 98) (ty := .int) (n := 40) hS rfl; have f92_5 := zf_92_5 hS; have a99 := zCA (a := 99) (ty := .int) (n := 40) hS rfl; have f92_6 := zf_92_6 hS; have a100 := zCA (a := 100) (ty := .int) (n := 40) hS rfl; have z92 := zo_92 hS
  rcases hs4 with e | e | e | e
  · subst e
    have hy : y < ub Z := by omega
    have ly := l16 y hy
    have h1' : M ((98 : Nat) : Int) ((k : Nat) : Int) = 2 := h1
    rw [if_neg (by decide), if_neg (by decide), if_pos rfl] at hk
    ((with_reducible refine i_Seq (i_If (i_cI_eq (i_IA (i_FR (i_A0 ?_)))))); (with_reducible refine i_fldR (by assumption) ?_); (with_reducible refine i_L2 ?_); (with_reducible refine i_in (by assumption) (by omega) (by omega) ?_); (with_reducible refine i_I ?_); (rw [h1']); simp only [w_set0, w_set1, w_setn0, w_setn1]; (with_reducible refine i_t trivial ?_); (with_reducible refine i_RetI (i_Call (i_as1 (i_I (i_as1 (i_IA (i_FR (i_A0 ?_)))))))); (with_reducible refine i_fldR (by assumption) ?_); (with_reducible refine i_L2 ?_); (with_reducible refine i_in (by assumption) (by omega) (by omega) ?_); (with_reducible refine i_as1 (i_Call (i_as1 (i_A0 (i_as1 (i_A1 (i_as1 (i_IA (i_FR (i_A0 ?_)))))))))); (with_reducible refine i_fldR (by assumption) ?_); (with_reducible refine i_L2 ?_); (with_reducible refine i_in (by assumption) (by omega) (by omega) ?_); (with_reducible refine i_as0 ?_); (with_reducible refine i_recv0 (by assumption) ?_); (rw [h2]); (rw [h3]); (refine c_tnumOf hO hS hp hG hZ hn16 hM hy ⟨_, rfl, ?_⟩); (with_reducible refine i_as0 (i_recv1 ?_)))
    refine c_wordOf hO (k := 2) (by omega) (show x < 16 by omega) ly ⟨_, rfl, ?_⟩
    (skip)
    exact hk
  · subst e
    have hx : x < ub Z := by omega
    have hy : y < ub Z := by omega
    have lx := l16 x hx
    have ly := l16 y hy
    have h1' : M ((98 : Nat) : Int) ((k : Nat) : Int) = 1 := h1
    rw [if_neg (by decide), if_pos rfl] at hk
    ((with_reducible refine i_Seq (i_If (i_cI_eq (i_IA (i_FR (i_A0 ?_)))))); (with_reducible refine i_fldR (by assumption) ?_); (with_reducible refine i_L2 ?_); (with_reducible refine i_in (by assumption) (by omega) (by omega) ?_); (with_reducible refine i_I ?_); (rw [h1']); (with_reducible refine i_f (by omega) ?_); (with_reducible refine i_Seq (i_Set (i_Call (i_as1 (i_A0 (i_as1 (i_A1 (i_as1 (i_IA (i_FR (i_A0 ?_))))))))))); (with_reducible refine i_fldR (by assumption) ?_); (with_reducible refine i_L2 ?_); (with_reducible refine i_in (by assumption) (by omega) (by omega) ?_); (with_reducible refine i_as0 ?_); (with_reducible refine i_recv0 (by assumption) ?_); (rw [h2]); simp only [w_set0, w_set1, w_setn0, w_setn1])
    refine c_tnumOf hO hS hp hG hZ hn16 hM hx ⟨_, rfl, ?_⟩
    ((with_reducible refine i_Seq (i_If (i_cI_ne (i_IA (i_FR (i_A0 ?_)))))); (with_reducible refine i_fldR (by assumption) ?_); (with_reducible refine i_L2 ?_); (with_reducible refine i_in (by assumption) (by omega) (by omega) ?_); (with_reducible refine i_I ?_); (rw [h1']); (with_reducible refine i_f (by omega) ?_); (with_reducible refine i_Seq (i_Set (i_Call (i_as1 (i_A0 (i_as1 (i_A1 (i_as1 (i_IA (i_FR (i_A0 ?_))))))))))); (with_reducible refine i_fldR (by assumption) ?_); (with_reducible refine i_L2 ?_); (with_reducible refine i_in (by assumption) (by omega) (by omega) ?_); (with_reducible refine i_as0 ?_); (with_reducible refine i_recv0 (by assumption) ?_); (rw [h3]); simp only [w_set0, w_set1, w_setn0, w_setn1])
    refine c_tnumOf hO hS hp hG hZ hn16 hM hy ⟨_, rfl, ?_⟩
    ((with_reducible refine i_RetI (i_Call (i_as1 (i_I (i_as1 (i_MM (i_L3 (i_L4 (i_as1 (i_MM (i_L3 (i_L4 (i_as0 (i_recv1 ?_)))))))))))))); (rw [zmn4]); (rw [zmx3]))
    refine c_wordOf hO (k := 1) (by omega) (show min (unb n Z x) (unb n Z y) < 16 by omega) (show max (unb n Z x) (unb n Z y) < 16 by omega) ⟨_, rfl, ?_⟩
    (skip)
    exact hk
  · subst e
    have hx : x < ub Z := by omega
    have lx := l16 x hx
    have h1' : M ((98 : Nat) : Int) ((k : Nat) : Int) = 0 := h1
    rw [if_pos rfl] at hk
    ((with_reducible refine i_Seq (i_If (i_cI_eq (i_IA (i_FR (i_A0 ?_)))))); (with_reducible refine i_fldR (by assumption) ?_); (with_reducible refine i_L2 ?_); (with_reducible refine i_in (by assumption) (by omega) (by omega) ?_); (with_reducible refine i_I ?_); (rw [h1']); (with_reducible refine i_f (by omega) ?_); (with_reducible refine i_Seq (i_Set (i_Call (i_as1 (i_A0 (i_as1 (i_A1 (i_as1 (i_IA (i_FR (i_A0 ?_))))))))))); (with_reducible refine i_fldR (by assumption) ?_); (with_reducible refine i_L2 ?_); (with_reducible refine i_in (by assumption) (by omega) (by omega) ?_); (with_reducible refine i_as0 ?_); (with_reducible refine i_recv0 (by assumption) ?_); (rw [h2]); simp only [w_set0, w_set1, w_setn0, w_setn1])
    refine c_tnumOf hO hS hp hG hZ hn16 hM hx ⟨_, rfl, ?_⟩
    ((with_reducible refine i_Seq (i_If (i_cI_ne (i_IA (i_FR (i_A0 ?_)))))); (with_reducible refine i_fldR (by assumption) ?_); (with_reducible refine i_L2 ?_); (with_reducible refine i_in (by assumption) (by omega) (by omega) ?_); (with_reducible refine i_I ?_); (rw [h1']); (with_reducible refine i_t (by omega) ?_); (with_reducible refine i_RetI (i_Call (i_as1 (i_IA (i_FR (i_A0 ?_)))))); (with_reducible refine i_fldR (by assumption) ?_); (with_reducible refine i_L2 ?_); (with_reducible refine i_in (by assumption) (by omega) (by omega) ?_); (with_reducible refine i_as1 (i_L3 (i_as1 (i_I (i_as0 (i_recv1 ?_)))))); (rw [h1']))
    refine c_wordOf hO (k := 0) (b := 0) (by omega) lx (by omega) ⟨_, rfl, ?_⟩
    rw [show 256 * 0 + 16 * unb n Z x + 0 = 16 * unb n Z x by omega]
    (skip)
    exact hk
  · subst e
    have hx : x < ub Z := by omega
    have lx := l16 x hx
    have h1' : M ((98 : Nat) : Int) ((k : Nat) : Int) = 3 := h1
    rw [if_neg (by decide), if_neg (by decide), if_neg (by decide)] at hk
    ((with_reducible refine i_Seq (i_If (i_cI_eq (i_IA (i_FR (i_A0 ?_)))))); (with_reducible refine i_fldR (by assumption) ?_); (with_reducible refine i_L2 ?_); (with_reducible refine i_in (by assumption) (by omega) (by omega) ?_); (with_reducible refine i_I ?_); (rw [h1']); (with_reducible refine i_f (by omega) ?_); (with_reducible refine i_Seq (i_Set (i_Call (i_as1 (i_A0 (i_as1 (i_A1 (i_as1 (i_IA (i_FR (i_A0 ?_))))))))))); (with_reducible refine i_fldR (by assumption) ?_); (with_reducible refine i_L2 ?_); (with_reducible refine i_in (by assumption) (by omega) (by omega) ?_); (with_reducible refine i_as0 ?_); (with_reducible refine i_recv0 (by assumption) ?_); (rw [h2]); simp only [w_set0, w_set1, w_setn0, w_setn1])
    refine c_tnumOf hO hS hp hG hZ hn16 hM hx ⟨_, rfl, ?_⟩
    ((with_reducible refine i_Seq (i_If (i_cI_ne (i_IA (i_FR (i_A0 ?_)))))); (with_reducible refine i_fldR (by assumption) ?_); (with_reducible refine i_L2 ?_); (with_reducible refine i_in (by assumption) (by omega) (by omega) ?_); (with_reducible refine i_I ?_); (rw [h1']); (with_reducible refine i_t (by omega) ?_); (with_reducible refine i_RetI (i_Call (i_as1 (i_IA (i_FR (i_A0 ?_)))))); (with_reducible refine i_fldR (by assumption) ?_); (with_reducible refine i_L2 ?_); (with_reducible refine i_in (by assumption) (by omega) (by omega) ?_); (with_reducible refine i_as1 (i_L3 (i_as1 (i_I (i_as0 (i_recv1 ?_)))))); (rw [h1']))
    refine c_wordOf hO (k := 3) (b := 0) (by omega) lx (by omega) ⟨_, rfl, ?_⟩
    rw [show 256 * 3 + 16 * unb n Z x + 0 = 768 + 16 * unb n Z x by omega]
    (skip)
    exact hk
/-- a word laid behind all others -/
theorem c_addRaw {O : zOm} (hO : zWld O) {x c w : Nat} {M : zMem} {K : Option zV → zMem → Prop} (hx : zTeC (zS O) x) (hw : M ((x : Nat) : Int) ((6 : Nat) : Int) = ((w : Nat) : Int)) (hw2 : w < 120)
    (hk : ∀ M', (∀ b j, ¬ (b = ((x : Nat) : Int) ∧ j = 6 ∨ b = ((x + 6 : Nat) : Int)) → M' b j = M b j) → M' ((x : Nat) : Int) ((6 : Nat) : Int) = ((w + 1 : Nat) : Int) → (∀ j : Nat, M' ((x + 6 : Nat) : Int) ((j : Nat) : Int) = if j = w then ((c : Nat) : Int) else M ((x + 6 : Nat) : Int) ((j : Nat) : Int)) → K none M') : zR O F_Telling_addWord [(2, ((x : Nat) : Int)), (0, ((c : Nat) : Int))] M K := by
  obtain ⟨⟨o, x0, x1, x2, x3, x4, x5, x6⟩, ⟨y1, y2⟩, -⟩ := hx
  apply r_Telling_addWord hO
  unfold B_Telling_addWord
  ((with_reducible refine i_Seq (i_If (i_cI_lt (i_F (i_A0 ?_))))); (with_reducible refine i_fld (by assumption) ?_); (with_reducible refine i_I ?_); (rw [hw]); (with_reducible refine i_t (by omega) ?_); (with_reducible refine i_Seq (i_sIA (i_FR (i_A0 ?_)))); (with_reducible refine i_fldR (by assumption) ?_); (with_reducible refine i_F (i_A0 ?_)); (with_reducible refine i_fld (by assumption) ?_); (with_reducible refine i_L1 ?_); (with_reducible refine i_in (by assumption) (by omega) (by omega) ?_); (with_reducible refine i_FO (i_A0 ?_)); (with_reducible refine i_fld (by assumption) ?_); (with_reducible refine i_I ?_); (with_reducible refine i_fld (by assumption) ?_); (with_reducible refine i_RetV ?_); rw [zg_n _ _ _ (by omega)]; (rw [hw]); rw [zx_inc (by omega)])
  refine hk _ (fun b j q => by rw [zg_o _ _ (by omega), zg_o _ _ (by omega)]) (zg_s _ _ _ _ _) (fun j => ?_)
  rw [zg_n _ _ _ (by omega)]
  by_cases e : j = w
  · rw [if_pos e, e, zg_s]
  · rw [if_neg e, zg_m _ _ _ _ _ (by omega)]
theorem c_insert {O : zOm} (hO : zWld O) {x c : Nat} {W : Nat → Bool} {M : zMem} {K : Option zV → zMem → Prop} (hx : zTeC (zS O) x) (hW : zWd M x W) (hc : c < 1024) (hnew : W c = false) (hn : zcnt W 1024 < 120)
    (hk : ∀ M', (∀ b j, ¬ (b = ((x : Nat) : Int) ∧ j = 6 ∨ b = ((x + 6 : Nat) : Int)) → M' b j = M b j) → zWd M' x (fun d => W d || decide (d = c)) → K none M') : zR O F_Text_insert [(2, ((x : Nat) : Int)), (0, ((c : Nat) : Int))] M K := by
  obtain ⟨h1, h2⟩ := hW
  have hx0 := hx
  obtain ⟨⟨o, x0, x1, x2, x3, x4, x5, x6⟩, ⟨y1, y2⟩, -⟩ := hx
  obtain ⟨N, hN⟩ : ∃ N, N = zcnt W 1024 := ⟨_, rfl⟩
  obtain ⟨p, hp⟩ : ∃ p, p = zcnt W c := ⟨_, rfl⟩
  have hpN : p ≤ N := by rw [hp, hN]; exact zcnt_mono W (by omega)
  rw [← hN] at h1 hn
  -- the words that are there, by their places
  have hlo : ∀ j, j < p → ∃ d : Nat, d < c ∧ M ((x + 6 : Nat) : Int) ((j : Nat) : Int) = ((d : Nat) : Int) := fun j hj => by
    obtain ⟨d, d1, d2, d3⟩ := zcnt_has W c j (by omega)
    have := h2 d (by omega) d2
    rw [d3] at this
    exact ⟨d, d1, this⟩
  have hhi : ∀ j, p ≤ j → j < N → ∃ d : Nat, c < d ∧ M ((x + 6 : Nat) : Int) ((j : Nat) : Int) = ((d : Nat) : Int) := fun j hj hj2 => by
    obtain ⟨d, d1, d2, d3⟩ := zcnt_has W 1024 j (by omega)
    have h3 := h2 d d1 d2
    rw [d3] at h3
    refine ⟨d, ?_, h3⟩
    rcases Nat.lt_trichotomy c d with e | e | e
    · exact e
    · rw [← e, hnew] at d2; cases d2
    · have := zcnt_lt W e d2
      omega
  apply r_Text_insert hO
  unfold B_Text_insert
  ((with_reducible refine i_Seq (i_Seq (i_sCall (i_as1 (i_A0 (i_as1 (i_L1 (i_as0 ?_)))))))); (with_reducible refine i_recv0 (by assumption) ?_))
  refine c_addRaw hO hx0 h1 hn (fun M1 f1 g1 w1 => ⟨rfl, ?_⟩)
  ((with_reducible refine i_Blk (i_Seq (i_Set (i_Sub (i_F (i_A0 ?_)))))); (with_reducible refine i_fld (by assumption) ?_); (with_reducible refine i_I ?_); (rw [g1]); rw [zx_subc (by omega) (by omega)]; simp only [w_set0, w_set1, w_setn0, w_setn1])
  refine w_ForN (N - p) (fun i ρ M' => (∃ l, ρ = ((x : Nat) : Int) :: ((c : Nat) : Int) :: ((N - i : Nat) : Int) :: l) ∧ (∀ b j, ¬ b = ((x + 6 : Nat) : Int) → M' b j = M1 b j) ∧ (∀ j : Nat, j < N - i → M' ((x + 6 : Nat) : Int) ((j : Nat) : Int) = M ((x + 6 : Nat) : Int) ((j : Nat) : Int)) ∧ M' ((x + 6 : Nat) : Int) ((N - i : Nat) : Int) = ((c : Nat) : Int) ∧ ∀ j : Nat, N - i < j → j ≤ N → M' ((x + 6 : Nat) : Int) ((j : Nat) : Int) = M ((x + 6 : Nat) : Int) ((j - 1 : Nat) : Int)) ⟨⟨_, rfl⟩, fun _ _ _ => rfl, fun j hj => by rw [w1 j, if_neg (by omega)], by rw [w1, if_pos (by omega)], fun j a b => absurd b (by omega)⟩ ?_ ?_
  · rintro i ρ M2 X hi ⟨⟨l, rfl⟩, f2, a2, b2, c2⟩ hX
    obtain ⟨v, hv⟩ : ∃ v, N - i = v + 1 := ⟨N - i - 1, by omega⟩
    have hX2 : ∀ (l : zLoc) (M' : zMem) (y : Int), y = ((v : Nat) : Int) → (∀ b j, ¬ b = ((x + 6 : Nat) : Int) → M' b j = M1 b j) → (∀ j : Nat, j < v → M' ((x + 6 : Nat) : Int) ((j : Nat) : Int) = M ((x + 6 : Nat) : Int) ((j : Nat) : Int)) → M' ((x + 6 : Nat) : Int) ((v : Nat) : Int) = ((c : Nat) : Int) → (∀ j : Nat, v < j → j ≤ N → M' ((x + 6 : Nat) : Int) ((j : Nat) : Int) = M ((x + 6 : Nat) : Int) ((j - 1 : Nat) : Int)) → X (((x : Nat) : Int) :: ((c : Nat) : Int) :: y :: l) M' := fun l M' y e a b d f => by
      subst e
      have e2 : N - (i + 1) = v := by omega
      exact hX _ _ ⟨⟨l, by rw [e2]⟩, a, by rw [e2]; exact b, by rw [e2]; exact d, by rw [e2]; exact f⟩
    clear hX hk
    rw [hv] at a2 b2 c2 ⊢
    obtain ⟨d, d1, d2⟩ := hhi v (by omega) (by omega)
    have a3 : M2 ((x + 6 : Nat) : Int) ((v : Nat) : Int) = ((d : Nat) : Int) := (a2 v (by omega)).trans d2
    have e1 : v + 1 - 1 = v := by omega
    ((with_reducible refine i_turn (i_cAnd (i_cZ_gt (i_L2 ?_)))); (with_reducible refine i_t (by omega) ?_); (with_reducible refine i_cI_gt (i_IA (i_FR (i_A0 ?_)))); (with_reducible refine i_fldR (by assumption) ?_); (with_reducible refine i_Sub (i_L2 (i_I ?_))); rw [zx_subc (by omega) (by omega)]; (with_reducible refine i_in (by assumption) (by omega) (by omega) ?_); (with_reducible refine i_IA (i_FR (i_A0 ?_))); (with_reducible refine i_fldR (by assumption) ?_); (with_reducible refine i_L2 ?_); (with_reducible refine i_in (by assumption) (by omega) (by omega) ?_); (rw [e1]); (rw [a3]); (rw [b2]); (with_reducible refine i_t (by omega) ?_); (with_reducible refine i_Seq (i_sIA (i_FR (i_A0 ?_)))); (with_reducible refine i_fldR (by assumption) ?_); (with_reducible refine i_L2 (i_IA (i_FR (i_A0 ?_)))); (with_reducible refine i_fldR (by assumption) ?_); (with_reducible refine i_Sub (i_L2 (i_I ?_))); rw [zx_subc (by omega) (by omega)]; (with_reducible refine i_in (by assumption) (by omega) (by omega) ?_); (with_reducible refine i_in (by assumption) (by omega) (by omega) ?_); (with_reducible refine i_sIA (i_FR (i_A0 ?_))); (with_reducible refine i_fldR (by assumption) ?_); (with_reducible refine i_Sub (i_L2 (i_I (i_L1 ?_)))); (rw [e1]); (rw [a3]); rw [zx_subc (by omega) (by omega)]; (with_reducible refine i_in (by assumption) (by omega) (by omega) ?_); (with_reducible refine i_up (i_Inc2 ?_)); (rw [e1]); rw [zx_s (by omega) (by omega)]; simp only [w_set0, w_set1, w_setn0, w_setn1])
    refine hX2 _ _ _ (by omega) (fun b j q => by rw [zg_n _ _ _ q, zg_n _ _ _ q]; exact f2 b j q) (fun j hj => by rw [zg_o _ _ (by omega), zg_o _ _ (by omega)]; exact a2 j (by omega)) (zg_s _ _ _ _ _) (fun j j1 j2 => ?_)
    by_cases e : j = v + 1
    · subst e
      rw [zg_m _ _ _ _ _ (by omega), zg_s, e1]
      exact d2.symm
    · rw [zg_o _ _ (by omega), zg_o _ _ (by omega)]
      exact c2 j (by omega) j2
  · rintro ρ M2 X ⟨⟨l, rfl⟩, f2, a2, b2, c2⟩
    rw [show N - (N - p) = p by omega] at a2 b2 c2 ⊢
    have fin : K none M2 := hk M2 (fun b j q => by rw [f2 b j (by omega)]; exact f1 b j q) ⟨by rw [f2 _ _ (by omega), g1, zcnt_ins hnew, if_pos hc, hN], fun d hd hv => by
      rw [zcnt_ins hnew]
      by_cases e : d = c
      · subst e
        rw [if_neg (Nat.lt_irrefl _), Nat.add_zero, ← hp]
        exact b2
      · have hv2 : W d = true := by simpa [e] using hv
        by_cases e2 : c < d
        · have e3 : p ≤ zcnt W d := by rw [hp]; exact zcnt_mono W (by omega)
          have e4 : zcnt W d < N := by rw [hN]; exact zcnt_lt W hd hv2
          rw [if_pos e2, c2 _ (by omega) (by omega), Nat.add_sub_cancel]
          exact h2 d hd hv2
        · have e3 : zcnt W d < p := by rw [hp]; exact zcnt_lt W (by omega) hv2
          rw [if_neg e2, show zcnt W d + 0 = zcnt W d from rfl, a2 _ e3]
          exact h2 d hd hv2⟩
    clear hk
    by_cases e : p = 0
    · subst e
      ((with_reducible refine i_turn (i_cAnd (i_cZ_gt (i_L2 ?_)))); (with_reducible refine i_f (by omega) ?_); (with_reducible refine i_RetV ?_))
      exact fin
    · obtain ⟨v, rfl⟩ : ∃ v, p = v + 1 := ⟨p - 1, by omega⟩
      obtain ⟨d, d1, d2⟩ := hlo v (by omega)
      have a3 : M2 ((x + 6 : Nat) : Int) ((v : Nat) : Int) = ((d : Nat) : Int) := (a2 v (by omega)).trans d2
      have e1 : v + 1 - 1 = v := by omega
      ((with_reducible refine i_turn (i_cAnd (i_cZ_gt (i_L2 ?_)))); (with_reducible refine i_t (by omega) ?_); (with_reducible refine i_cI_gt (i_IA (i_FR (i_A0 ?_)))); (with_reducible refine i_fldR (by assumption) ?_); (with_reducible refine i_Sub (i_L2 (i_I ?_))); rw [zx_subc (by omega) (by omega)]; (with_reducible refine i_in (by assumption) (by omega) (by omega) ?_); (with_reducible refine i_IA (i_FR (i_A0 ?_))); (with_reducible refine i_fldR (by assumption) ?_); (with_reducible refine i_L2 ?_); (with_reducible refine i_in (by assumption) (by omega) (by omega) ?_); (rw [e1]); (rw [a3]); (rw [b2]); (with_reducible refine i_f (by omega) ?_); (with_reducible refine i_RetV ?_))
      exact fin
set_option maxHeartbeats 1600000 in
theorem c_write {O : zOm} (hO : zWld O) (hS : zS O = zmS zC0) {x n : Nat} {Z : zZt} {M : zMem} {K : Option zV → zMem → Prop} (hx : zTeC (zS O) x) (hx7 : 165 < x) (hn16 : n ≤ 16) (hG : uGood n Z) (hZ : cZt M n Z)
    (hk : ∀ M', (∀ b j, ¬ (((x : Nat) : Int) ≤ b ∧ b ≤ ((x + 12 : Nat) : Int)) → M' b j = M b j) → zTR M' x n (uTl n Z) → K none M') : zR O F_Text_write [(2, ((92 : Nat) : Int)), (2, ((x : Nat) : Int))] M K := by
  obtain ⟨h1, h2, h3, h4, h5, h6, h7, h8, h9⟩ := id hG
  have hx0 := hx
  obtain ⟨⟨o, x0, x1, x2, x3, x4, x5, x6⟩, ⟨xa, xb⟩, hpr, ⟨n7, n9, n11⟩⟩ := hx
  have r7 := n7.2.2.2
  have r9 := n9.2.2.2
  have hpr0 := hpr
  obtain ⟨p0, p1, p2, p3, p4, p5, p6, p7, p8⟩ := hpr
  have n100 := zNet101 hS
  have n102 := zNet103 hS
  have n100o := n100.2.2.2
  have n102o := n102.2.2.2
  obtain ⟨⟨g9, gs, gp⟩, zb, zo, zw, -⟩ := hZ
  have hZg := cZg.of hG zb zo
  obtain ⟨wc, C, w1, w2, w3, w5, w6, w7⟩ := zw
  have w5' : ∀ j, j < wc → ∃ k, k < uk Z ∧ C j = uw Z k := fun j hj => by
    obtain ⟨k, k1, k2⟩ := w5 j hj
    exact ⟨k, k1, by rw [k2]; exact hG.wMe (h2 k k1)⟩
  have w6' : ∀ k, k < uk Z → ∃ j, j < wc ∧ C j = uw Z k := fun k hk2 => by
    obtain ⟨j, j1, j2⟩ := w6 k hk2
    exact ⟨j, j1, by rw [j2]; exact hG.wMe (h2 k hk2)⟩
  have hCw : ∀ j, j < wc → uWk n Z (C j) := fun j hj => by
    obtain ⟨k, k1, k2⟩ := w5' j hj
    rw [k2]
    exact h2 k k1
  clear w5 w6
  apply r_Text_write hO
  unfold B_Text_write
  have f92_9 := zf_92_9 hS; have f92_10 := zf_92_10 hS; have f92_3 := zf_92_3 hS; have a97 := zCA (a := 97) (ty := .int) (n := 400) hS rfl; have f92_2 := zf_92_2 hS; have a95 := zCA (a := 95) (ty := .int) (n := 100) hS rfl; have f92_16 := zf_92_16 hS; have a96 := zCA (a := 96) (ty := .int) (n := 100) hS rfl; have f92_13 := zf_92_13 hS; have f92_7 := zf_92_7 hS; have f92_8 := zf_92_8 hS; have z92 := zo_92 hS
  ((with_reducible refine i_Seq (i_Seq (i_Set (i_FR (i_A1 ?_))))); (with_reducible refine i_fldR (by assumption) ?_); (with_reducible refine i_Seq (i_sCall (i_as1 ?_))); simp only [w_set0, w_set1, w_setn0, w_setn1]; (with_reducible refine i_A2 (i_as1 (i_F (i_A0 ?_)))); (with_reducible refine i_fld (by assumption) ?_); (with_reducible refine i_as0 ?_); (with_reducible refine i_recv0 (by assumption) ?_); (rw [g9]))
  refine c_setAlone hO hpr0 hn16 (fun M1 f1 g1 => ⟨rfl, ?_⟩)
  have q1 : M1 ((x + 1 : Nat) : Int) ((3 : Nat) : Int) = ((n : Nat) : Int) := g1.1
  ((with_reducible refine i_Seq (i_Blk (i_Seq (i_Set (i_I ?_))))); simp only [w_set0, w_set1, w_setn0, w_setn1])
  refine w_ForN n (fun c ρ M' => (∃ l, ρ = ((92 : Nat) : Int) :: ((x : Nat) : Int) :: ((x + 1 : Nat) : Int) :: ((c : Nat) : Int) :: l) ∧ (∀ b j, ¬ b = ((x + 2 : Nat) : Int) → M' b j = M1 b j) ∧ ∀ q : Nat, q < c → M' ((x + 2 : Nat) : Int) ((q : Nat) : Int) = ((uo Z q : Nat) : Int)) ⟨⟨_, rfl⟩, fun _ _ _ => rfl, fun q hq => absurd hq (by omega)⟩ ?_ ?_
  · rintro c ρ M2 X hc ⟨⟨l, rfl⟩, f2, b2⟩ hX
    have f02 : ∀ b j, ¬ (((x + 1 : Nat) : Int) ≤ b ∧ b ≤ ((x + 4 : Nat) : Int)) → M2 b j = M b j := fun b j q => by rw [f2 b j (by omega), f1 b j (by omega)]
    have n2 : M2 ((92 : Nat) : Int) ((9 : Nat) : Int) = ((n : Nat) : Int) := by rw [f02 _ _ (by omega)]; exact g9
    ((with_reducible refine i_turn (i_cI_lt (i_L3 (i_F (i_A0 ?_))))); (with_reducible refine i_fld (by assumption) ?_); (rw [n2]); (with_reducible refine i_t (by omega) ?_); (with_reducible refine i_sIA (i_FR (i_A2 ?_))); (with_reducible refine i_fldR (by assumption) ?_); (with_reducible refine i_L3 (i_Call (i_as1 (i_A0 (i_as1 (i_L3 (i_as0 ?_))))))); (with_reducible refine i_recv0 (by assumption) ?_))
    refine c_tboxOf hO hS hG (hZg.to (fun b j q => f02 b j (by omega))) hn16 hc ⟨_, rfl, ?_⟩
    ((with_reducible refine i_in (by assumption) (by omega) (by omega) ?_); (with_reducible refine i_up (i_Inc3 ?_)); rw [zx_inc (by omega)]; simp only [w_set0, w_set1, w_setn0, w_setn1])
    refine hX _ _ ⟨⟨_, rfl⟩, fun b j q => by rw [zg_n _ _ _ q]; exact f2 b j q, fun q hq => ?_⟩
    by_cases e : q = c
    · subst e; rw [zg_s]
    · rw [zg_m _ _ _ _ _ (by omega)]; exact b2 q (by omega)
  rintro ρ M2 X ⟨⟨l, rfl⟩, f2, b2⟩
  have f02 : ∀ b j, ¬ (((x + 1 : Nat) : Int) ≤ b ∧ b ≤ ((x + 4 : Nat) : Int)) → M2 b j = M b j := fun b j q => by rw [f2 b j (by omega), f1 b j (by omega)]
  have n2 : M2 ((92 : Nat) : Int) ((9 : Nat) : Int) = ((n : Nat) : Int) := by rw [f02 _ _ (by omega)]; exact g9
  have q2 : M2 ((x + 1 : Nat) : Int) ((3 : Nat) : Int) = ((n : Nat) : Int) := by rw [f2 _ _ (by omega)]; exact q1
  ((with_reducible refine i_turn (i_cI_lt (i_L3 (i_F (i_A0 ?_))))); (with_reducible refine i_fld (by assumption) ?_); (rw [n2]); (with_reducible refine i_f (by omega) ?_); (with_reducible refine i_Seq (i_sCall (i_as1 (i_A2 (i_as0 ?_))))); (with_reducible refine i_recv0 (by assumption) ?_))
  refine c_number hO hpr0 q2 hn16 (f := uo Z) (fun q hq => ⟨b2 q hq, by have := (h1.1 q (h6 q hq)).1; omega⟩) (fun M3 f3 g3 => ⟨rfl, ?_⟩)
  ((with_reducible refine i_Seq (i_sCall (i_as1 (i_A1 (i_as0 ?_))))); (with_reducible refine i_recv0 (by assumption) ?_))
  refine c_clearWords hO hx0 g3.1 (fun M4 f4 e4 s4 t4 u4 => ⟨rfl, ?_⟩)
  have f04 : ∀ b j, ¬ (((x : Nat) : Int) ≤ b ∧ b ≤ ((x + 12 : Nat) : Int)) → M4 b j = M b j := fun b j q => by rw [f4 b j (by omega), f3 b j (by omega), f02 b j (by omega)]
  have g4 : zPR M4 (x + 1) n (zNum (uo Z)) (zcnt (zNew (uo Z)) n) := g3.fr (fun b j a1 a2 => f4 b j (by omega))
  have hZ4 : cZg M4 Z := hZg.to (fun b j q => f04 b j (by omega))
  have hm16 := zcnt_le (zNew (uo Z)) n
  ((with_reducible refine i_Seq (i_Blk (i_Seq (i_Set (i_I ?_))))); simp only [w_set0, w_set1, w_setn0, w_setn1])
  refine w_ForN (ub Z) (fun c ρ M' => (∃ l, ρ = ((92 : Nat) : Int) :: ((x : Nat) : Int) :: ((x + 1 : Nat) : Int) :: ((c : Nat) : Int) :: l) ∧ (∀ b j, ¬ b = ((x + 5 : Nat) : Int) → M' b j = M4 b j) ∧ ∀ b k : Nat, b < c → k < zSz (uo Z) 16 b → M' ((x + 5 : Nat) : Int) ((zSt0 (zNum (uo Z)) n (unb n Z b) + k : Nat) : Int) = ((utr n Z (unb n Z b) k : Nat) : Int)) ⟨⟨_, rfl⟩, fun _ _ _ => rfl, fun b k hb => absurd hb (by omega)⟩ ?_ ?_
  · rintro c ρ M5 X2 hc ⟨⟨l2, rfl⟩, f5, b5⟩ hX
    have hZ5 : cZg M5 Z := hZ4.to (fun b j q => f5 b j (by omega))
    have g5 : zPR M5 (x + 1) n (zNum (uo Z)) (zcnt (zNew (uo Z)) n) := g4.fr (fun b j a1 a2 => f5 b j (by omega))
    obtain ⟨y10, y2, y3⟩ := id hZ5
    obtain ⟨y4, y5, y6⟩ := y2 c hc
    have hlt := hG.lt hc
    have hsz : zcnt (fun q => decide (uo Z q = c)) 16 = zSz (uo Z) 16 c := rfl
    have hu16 := upb_16 Z (b := c)
    have hst : zSt0 (zNum (uo Z)) n (unb n Z c) + zSz (zNum (uo Z)) n (unb n Z c) ≤ zSt0 (zNum (uo Z)) n (unb n Z c + 1) := zSt0_in _ _ (Nat.lt_succ_self _)
    have hst2 := zSt0_le (zNum (uo Z)) n (unb n Z c + 1)
    rw [hG.siz hn16 hc] at hst
    have hX2 : ∀ (l : zLoc) (M' : zMem), M' = zput M5 ((x + 5 : Nat) : Int) (zcpy (M5 ((97 : Nat) : Int)) (M5 ((x + 5 : Nat) : Int)) ((upb Z c : Nat) : Int) ((zSt0 (zNum (uo Z)) n (unb n Z c) : Nat) : Int) ((zSz (uo Z) 16 c : Nat) : Int)) → X2 (((92 : Nat) : Int) :: ((x : Nat) : Int) :: ((x + 1 : Nat) : Int) :: ((c + 1 : Nat) : Int) :: l) M' := fun l M' e => by
      subst e
      refine hX _ _ ⟨⟨l, rfl⟩, fun b j q => by rw [zput_ne _ _ q]; exact f5 b j q, fun b k hb hkk => ?_⟩
      rw [zput_self]
      unfold zcpy
      by_cases e : b = c
      · subst e
        rw [if_pos (by omega), show (((upb Z b : Nat) : Int) : Int) + (((zSt0 (zNum (uo Z)) n (unb n Z b) + k : Nat) : Int) - ((zSt0 (zNum (uo Z)) n (unb n Z b) : Nat) : Int)) = ((upb Z b + k : Nat) : Int) by omega]
        obtain ⟨v1, v2, v3, -⟩ := utr_ok hG hc hkk
        have v4 := y3 _ (show utr n Z (unb n Z b) k < 16 by omega) (by omega)
        rw [v2, v3] at v4
        exact v4
      · have hb2 : b < ub Z := by omega
        have hne : unb n Z b ≠ unb n Z c := fun z => e ((hG.inj hb2 hc).mp z)
        have d1 : unb n Z b < unb n Z c → zSt0 (zNum (uo Z)) n (unb n Z b) + zSz (zNum (uo Z)) n (unb n Z b) ≤ zSt0 (zNum (uo Z)) n (unb n Z c) := fun z => zSt0_in _ _ z
        have d2 : unb n Z c < unb n Z b → zSt0 (zNum (uo Z)) n (unb n Z c) + zSz (zNum (uo Z)) n (unb n Z c) ≤ zSt0 (zNum (uo Z)) n (unb n Z b) := fun z => zSt0_in _ _ z
        rw [hG.siz hn16 hb2] at d1
        rw [hG.siz hn16 hc] at d2
        rw [if_neg (by omega)]
        exact b5 b k (by omega) hkk
    clear hX
    ((with_reducible refine i_turn (i_cI_lt (i_L3 (i_F (i_A0 ?_))))); (with_reducible refine i_fld (by assumption) ?_); (rw [y10]); (with_reducible refine i_t (by omega) ?_); (with_reducible refine i_Blk (i_Seq (i_Set (i_Call (i_as1 (i_A2 (i_as1 (i_Call (i_as1 (i_A0 (i_as1 (i_A2 (i_as1 (i_L3 (i_as0 ?_))))))))))))))); (with_reducible refine i_recv0 (by assumption) ?_))
    refine c_tnumOf hO hS hpr0 hG hZ5 hn16 g5.2.2.1 hc ⟨_, rfl, ?_⟩
    ((with_reducible refine i_as0 ?_); (with_reducible refine i_recv0 (by assumption) ?_); simp only [w_set0, w_set1, w_setn0, w_setn1])
    refine c_startOf hO hpr0 g5 hn16 (by omega) (by omega) ⟨_, rfl, ?_⟩
    ((with_reducible refine i_Copy (i_FR (i_A0 ?_))); (with_reducible refine i_fldR (by assumption) ?_); (with_reducible refine i_IA (i_FR (i_A0 ?_))); (with_reducible refine i_fldR (by assumption) ?_); (with_reducible refine i_L3 ?_); (with_reducible refine i_in (by assumption) (by omega) (by omega) ?_); (with_reducible refine i_FR (i_A1 ?_)); (with_reducible refine i_fldR (by assumption) ?_); (rw [y5]); rw [w_setT]; (with_reducible refine i_L4 (i_IA (i_FR (i_A0 ?_)))); (with_reducible refine i_fldR (by assumption) ?_); (with_reducible refine i_L3 ?_); (with_reducible refine i_in (by assumption) (by omega) (by omega) ?_); (with_reducible refine i_copy (by assumption) (by assumption) (by omega) ?_); (with_reducible refine i_up (i_Inc3 ?_)); (rw [y6]); rw [zx_inc (by omega)]; simp only [w_set0, w_set1, w_setn0, w_setn1])
    exact hX2 _ _ rfl
  rintro ρ M5 X2 ⟨⟨l2, rfl⟩, f5, b5⟩
  have f05 : ∀ b j, ¬ (((x : Nat) : Int) ≤ b ∧ b ≤ ((x + 12 : Nat) : Int)) → M5 b j = M b j := fun b j q => by rw [f5 b j (by omega), f04 b j q]
  have y10 : M5 ((92 : Nat) : Int) ((10 : Nat) : Int) = ((ub Z : Nat) : Int) := by rw [f05 _ _ (by omega)]; exact hZg.1
  have hZ5 : cZg M5 Z := hZg.to (fun b j q => f05 b j (by omega))
  have g5 : zPR M5 (x + 1) n (zNum (uo Z)) (zcnt (zNew (uo Z)) n) := g4.fr (fun b j a1 a2 => f5 b j (by omega))
  have w15 : M5 ((92 : Nat) : Int) ((13 : Nat) : Int) = ((wc : Nat) : Int) := by rw [f05 _ _ (by omega)]; exact w1
  have e5 : zWd M5 x (fun d => zex (fun j => decide (ucd n Z (C j) = d)) 0) := (e4.to (fun j => f5 _ _ (by omega)) (fun j => f5 _ _ (by omega))).ext (fun _ _ => rfl)
  have c50 : zcnt (fun d => zex (fun j => decide (ucd n Z (C j) = d)) 0) 1024 = 0 := zcnt_z (fun _ _ => rfl)
  ((with_reducible refine i_turn (i_cI_lt (i_L3 (i_F (i_A0 ?_))))); (with_reducible refine i_fld (by assumption) ?_); (rw [y10]); (with_reducible refine i_f (by omega) ?_); (with_reducible refine i_Seq (i_Blk (i_Seq (i_Set (i_I ?_))))); simp only [w_set0, w_set1, w_setn0, w_setn1])
  refine w_ForN wc (fun c ρ M' => (∃ l, ρ = ((92 : Nat) : Int) :: ((x : Nat) : Int) :: ((x + 1 : Nat) : Int) :: ((c : Nat) : Int) :: l) ∧ (∀ b j, ¬ (b = ((x : Nat) : Int) ∧ j = 6 ∨ b = ((x + 6 : Nat) : Int)) → M' b j = M5 b j) ∧ zWd M' x (fun d => zex (fun j => decide (ucd n Z (C j) = d)) c) ∧ zcnt (fun d => zex (fun j => decide (ucd n Z (C j) = d)) c) 1024 = c) ⟨⟨_, rfl⟩, fun _ _ _ => rfl, e5, c50⟩ ?_ ?_
  · rintro c ρ M6 X3 hc ⟨⟨l3, rfl⟩, f6, e6, c6⟩ hX
    have f06 : ∀ b j, ¬ (((x : Nat) : Int) ≤ b ∧ b ≤ ((x + 12 : Nat) : Int)) → M6 b j = M b j := fun b j q => by rw [f6 b j (by omega), f05 b j q]
    have w16 : M6 ((92 : Nat) : Int) ((13 : Nat) : Int) = ((wc : Nat) : Int) := by rw [f6 _ _ (by omega)]; exact w15
    obtain ⟨v1, v2, v3⟩ := w3 c hc
    rw [← f06 _ _ (by omega)] at v1 v2 v3
    have hcl := ucd_lt hn16 hG (hCw c hc)
    have hnew : zex (fun j => decide (ucd n Z (C j) = ucd n Z (C c))) c = false := zex_f.mpr (fun j hj => decide_eq_false (fun z => w7 j c hj hc (ucd_inj hn16 hG (hCw j (by omega)) (hCw c hc) z)))
    have hsu : ∀ d, (zex (fun j => decide (ucd n Z (C j) = d)) c || decide (d = ucd n Z (C c))) = zex (fun j => decide (ucd n Z (C j) = d)) (c + 1) := fun d => by
      rw [zex_su]
      exact congrArg (fun z => zex (fun j => decide (ucd n Z (C j) = d)) c || z) (decide_eq_decide.mpr ⟨fun z => z.symm, fun z => z.symm⟩)
    have hcs : zcnt (fun d => zex (fun j => decide (ucd n Z (C j) = d)) (c + 1)) 1024 = c + 1 := by
      have hin := zcnt_ins (W := fun d => zex (fun j => decide (ucd n Z (C j) = d)) c) (c := ucd n Z (C c)) hnew 1024
      rw [if_pos hcl] at hin
      exact (zcnt_ext (fun d _ => (hsu d).symm)).trans (hin.trans (congrArg (fun z => z + 1) c6))
    have hZ6 : cZg M6 Z := hZg.to (fun b j q => f06 b j (by omega))
    have hM6 : ∀ q : Nat, q < n → M6 ((x + 2 : Nat) : Int) ((q : Nat) : Int) = ((zNum (uo Z) q : Nat) : Int) := fun q hq => by rw [f6 _ _ (by omega)]; exact g5.2.2.1 q hq
    ((with_reducible refine i_turn (i_cI_lt (i_L3 (i_F (i_A0 ?_))))); (with_reducible refine i_fld (by assumption) ?_); (rw [w16]); (with_reducible refine i_t (by omega) ?_); (with_reducible refine i_sCall (i_as1 (i_A1 (i_as1 (i_Call (i_as1 (i_A0 (i_as1 (i_A2 (i_as1 (i_L3 (i_as0 ?_)))))))))))); (with_reducible refine i_recv0 (by assumption) ?_))
    refine c_tnumbered hO hS hpr0 hG hZ6 hn16 hM6 (by omega) v1 v2 v3 (hCw c hc) ⟨_, rfl, ?_⟩
    (with_reducible refine i_as0 (i_recv1 ?_))
    refine c_insert hO hx0 e6 hcl hnew (by omega) (fun M7 f7 e7 => ⟨rfl, ?_⟩)
    ((with_reducible refine i_up (i_Inc3 ?_)); rw [zx_inc (by omega)]; simp only [w_set0, w_set1, w_setn0, w_setn1])
    exact hX _ _ ⟨⟨_, rfl⟩, fun b j q => by rw [f7 b j q, f6 b j q], e7.ext (fun d _ => hsu d), hcs⟩
  rintro ρ M6 X3 ⟨⟨l3, rfl⟩, f6, e6, c6⟩
  have f06 : ∀ b j, ¬ (((x : Nat) : Int) ≤ b ∧ b ≤ ((x + 12 : Nat) : Int)) → M6 b j = M b j := fun b j q => by rw [f6 b j (by omega), f05 b j q]
  have w16 : M6 ((92 : Nat) : Int) ((13 : Nat) : Int) = ((wc : Nat) : Int) := by rw [f6 _ _ (by omega)]; exact w15
  ((with_reducible refine i_turn (i_cI_lt (i_L3 (i_F (i_A0 ?_))))); (with_reducible refine i_fld (by assumption) ?_); (rw [w16]); (with_reducible refine i_f (by omega) ?_); (with_reducible refine i_Seq (i_sCall (i_as1 (i_FR (i_A1 ?_))))); (with_reducible refine i_fldR (by assumption) ?_); (with_reducible refine i_as1 (i_FR (i_A0 ?_))); (with_reducible refine i_fldR (by assumption) ?_); (with_reducible refine i_as0 ?_); (with_reducible refine i_recv0 (by assumption) ?_))
  refine s_Net_become hO n7 n100 (gs.to (fun b j a1 a2 => f06 b j (by omega))) (fun M7 f7 g7 => ⟨rfl, ?_⟩)
  ((with_reducible refine i_sCall (i_as1 (i_FR (i_A1 ?_)))); (with_reducible refine i_fldR (by assumption) ?_); (with_reducible refine i_as1 (i_FR (i_A0 ?_))); (with_reducible refine i_fldR (by assumption) ?_); (with_reducible refine i_as0 ?_); (with_reducible refine i_recv0 (by assumption) ?_))
  refine s_Net_become hO n9 n102 (gp.to (fun b j a1 a2 => by rw [f7 b (by simp <;> omega), f06 b j (by omega)])) (fun M8 f8 g8 => ⟨rfl, ?_⟩)
  have f68 : ∀ b j, ¬ (((x + 7 : Nat) : Int) ≤ b ∧ b ≤ ((x + 10 : Nat) : Int)) → M8 b j = M6 b j := fun b j q => by rw [f8 b (by simp <;> omega), f7 b (by simp <;> omega)]
  have hW : ∀ c, c < 1024 → zex (fun j => decide (ucd n Z (C j) = c)) wc = zWsn (uTl n Z) c := fun c hc => by
    rw [uTl_W hn16 hG hc, Bool.eq_iff_iff, zex_t, zex_t]
    constructor
    · rintro ⟨j, j1, j2⟩
      obtain ⟨k, k1, k2⟩ := w5' j j1
      exact ⟨k, k1, by rw [← k2]; exact j2⟩
    · rintro ⟨k, k1, k2⟩
      obtain ⟨j, j1, j2⟩ := w6' k k1
      exact ⟨j, j1, by rw [j2]; exact k2⟩
  (with_reducible refine i_RetV ?_)
  refine hk M8 (fun b j q => by rw [f68 b j (by omega), f06 b j q]) ⟨g5.fr (fun b j a1 a2 => by rw [f68 b j (by omega), f6 b j (by omega)]), fun b k hb hkk => ?_, ⟨(e6.to (fun j => f68 _ _ (by omega)) (fun j => f68 _ _ (by omega))).ext hW, ?_⟩, (g7.to (fun b j a1 a2 => by rw [f8 b (by simp <;> omega)])).ext (fun p q _ _ => (uTl_S hn16 hG p q).symm), g8.ext (fun p q _ _ => (uTl_v hG p q).symm), (u4.to (fun b j a1 a2 => by rw [f68 b j (by omega), f6 b j (by omega), f5 b j (by omega)])).ext (fun p q _ _ => (uTl_v2 p q).symm)⟩
  · have hb2 : b < zcnt (zNew (uo Z)) n := hb
    have hk2 : k < zSz (zNum (uo Z)) n b := hkk
    obtain ⟨b', b1, rfl⟩ := hG.on hb2
    rw [hG.siz hn16 b1] at hk2
    show M8 ((x + 5 : Nat) : Int) ((zSt0 (zNum (uo Z)) n (unb n Z b') + k : Nat) : Int) = ((utr n Z (unb n Z b') k : Nat) : Int)
    rw [f68 _ _ (by omega), f6 _ _ (by omega)]
    exact b5 b' k b1 hk2
  · rw [← zcnt_ext hW, c6]
    omega
