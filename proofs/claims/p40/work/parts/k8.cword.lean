/-! ===== words told: the class ===== -/
theorem uM_inj {n : Nat} {Z : zZt} {w v : Nat × Nat × Nat} (hw : uWk n Z w) (hv : uWk n Z v) (h : uM Z w = uM Z v) : w = v := by
  obtain ⟨s, a, b⟩ := w
  obtain ⟨s', a', b'⟩ := v
  have q1 : ∀ {s a b : Nat}, uWk n Z (s, a, b) → s ≠ 2 → zNew (un Z) a = true := fun hu e => by
    rcases hu with ⟨-, -, h1, -⟩ | ⟨-, -, -, h1, -⟩ | ⟨h1, -⟩
    · exact h1
    · exact h1
    · exact absurd h1 e
  have q2 : ∀ {s a b : Nat}, uWk n Z (s, a, b) → s = 2 → zNew (un Z) b = true := fun hu e => by
    rcases hu with ⟨h1, -⟩ | ⟨h1, -⟩ | ⟨-, -, -, h1⟩
    · (try dsimp only at h1); omega
    · (try dsimp only at h1); omega
    · exact h1
  have q3 : ∀ {s a b : Nat}, uWk n Z (s, a, b) → s = 1 → zNew (un Z) b = true := fun hu e => by
    rcases hu with ⟨h1, -⟩ | ⟨-, -, -, -, h1⟩ | ⟨h1, -⟩
    · (try dsimp only at h1); omega
    · exact h1
    · (try dsimp only at h1); omega
  have hw0 := hw
  have hv0 := hv
  unfold uWk at hw hv
  unfold uM at h
  (try dsimp only at hw hv h)
  have inj : ∀ x y, zNew (un Z) x = true → zNew (un Z) y = true → urk Z x = urk Z y → x = y := fun x y hx hy e => zcnt_inj _ hx hy e
  by_cases e : s = 2
  · rw [if_pos e] at h
    by_cases e' : s' = 2
    · rw [if_pos e'] at h
      have h1 : a = a' := by have := congrArg (fun x => x.2.1) h; exact this
      have h2 : urk Z b = urk Z b' := by have := congrArg (fun x => x.2.2) h; exact this
      have h3 := inj b b' (q2 hw0 e) (q2 hv0 e') h2
      rw [e, e', h1, h3]
    · rw [if_neg e'] at h
      have h1 : 2 = s' := by have := congrArg (fun x => x.1) h; exact this
      omega
  · rw [if_neg e] at h
    by_cases e' : s' = 2
    · rw [if_pos e'] at h
      have h1 : s = 2 := by have := congrArg (fun x => x.1) h; exact this
      omega
    · rw [if_neg e'] at h
      have h1 : s = s' := by have := congrArg (fun x => x.1) h; exact this
      have h2 : urk Z a = urk Z a' := by have := congrArg (fun x => x.2.1) h; exact this
      have h3 : (if s = 1 then urk Z b else 0) = (if s' = 1 then urk Z b' else 0) := by have := congrArg (fun x => x.2.2) h; exact this
      subst h1
      have h4 := inj a a' (q1 hw0 e) (q1 hv0 e') h2
      by_cases e1 : s = 1
      · rw [if_pos e1, if_pos e1] at h3
        have h5 := inj b b' (q3 hw0 e1) (q3 hv0 e1) h3
        rw [h4, h5]
      · have hb : b = 0 := by omega
        have hb' : b' = 0 := by omega
        rw [h4, hb, hb']
theorem c_takeWord {O : zOm} (hO : zWld O) (hS : zS O = zmS zC0) {n p F : Nat} {w : Nat × Nat × Nat} {ki fi si : Int} {Z : zZt} {M : zMem} {K : Option zV → zMem → Prop} (hki : ki = (((uM Z w).1 : Nat) : Int)) (hfi : fi = (((uM Z w).2.1 : Nat) : Int)) (hsi : si = (((uM Z w).2.2 : Nat) : Int)) (hZ : cZw M Z) (hFz : cZf M F) (hF : uFk F) (hk40 : uk Z < 40) (h4 : uO4 n Z) (hw : uWk n Z w) (hp2 : p ≤ 2000)
    (hk : ∀ M', (∀ b j, ¬ (b = ((92 : Nat) : Int) ∧ (j = 13 ∨ j = 14 ∨ j = 15) ∨ ((98 : Nat) : Int) ≤ b ∧ b ≤ ((100 : Nat) : Int)) → M' b j = M b j) → cZw M' (uaw Z w p) → cZf M' (if zex (fun k => decide (uw Z k = w)) (uk Z) = true then min F (8 * p + 3) else F) → K none M') : zR O F_Text_takeWord [(2, ((92 : Nat) : Int)), (0, ki), (0, fi), (0, si), (0, ((p : Nat) : Int))] M K := by
  subst hki hfi hsi
  obtain ⟨wc, C, h1, h2, h3, h5, h6, h7⟩ := hZ
  obtain ⟨z1, z2, z3⟩ := zfind_ok (fun j => decide (C j = uM Z w)) wc
  have hex : zex (fun k => decide (uw Z k = w)) (uk Z) = decide (zfind (fun j => decide (C j = uM Z w)) wc < wc) := by
    rw [Bool.eq_iff_iff, zex_t, decide_eq_true_eq]
    constructor
    · rintro ⟨k, k1, k2⟩
      obtain ⟨j, j1, j2⟩ := h6 k k1
      rw [of_decide_eq_true k2] at j2
      rcases Nat.lt_or_ge (zfind (fun j => decide (C j = uM Z w)) wc) wc with q | q
      · exact q
      · have := z3 j (by omega)
        rw [decide_eq_true j2] at this
        cases this
    · intro hlt
      obtain ⟨k, k1, k2⟩ := h5 _ hlt
      have e := of_decide_eq_true (z2 hlt)
      rw [e] at k2
      exact ⟨k, k1, decide_eq_true (uM_inj (h4 k k1) hw k2.symm)⟩
  rw [hex] at hk
  have huMe : ∀ v, uM (uaw Z w p) v = uM Z v := fun v => uM_e rfl v
  have huke : uk (uaw Z w p) = uk Z + 1 := rfl
  have huwo : ∀ k, k < uk Z → uw (uaw Z w p) k = uw Z k := fun k hk2 => uup_n _ _ (by omega)
  have huwn : uw (uaw Z w p) (uk Z) = w := uup_s _ _ _
  generalize uaw Z w p = Z' at *
  generalize hmw : uM Z w = m at *
  generalize zfind (fun j => decide (C j = m)) wc = N at *
  apply r_Text_takeWord hO
  unfold B_Text_takeWord
  have f92_13 := zf_92_13 hS; have f92_4 := zf_92_4 hS; have a98 := zCA (a := 98) (ty := .int) (n := 40) hS rfl; have f92_5 := zf_92_5 hS; have a99 := zCA (a := 99) (ty := .int) (n := 40) hS rfl; have f92_6 := zf_92_6 hS; have a100 := zCA (a := 100) (ty := .int) (n := 40) hS rfl; have z92 := zo_92 hS
  ((with_reducible refine i_Seq (i_Seq (i_Blk (i_Seq (i_Set (i_I ?_)))))); simp only [w_set0, w_set1, w_setn0, w_setn1])
  refine w_cut (zR.mon' O) (fun ρ M1 => (∃ l, ρ = ((92 : Nat) : Int) :: ((m.1 : Nat) : Int) :: ((m.2.1 : Nat) : Int) :: ((m.2.2 : Nat) : Int) :: ((p : Nat) : Int) :: l) ∧ M1 = M ∧ wc ≤ N) ?_ ?_
  · refine w_ForN N (fun c ρ M' => (∃ l, ρ = ((92 : Nat) : Int) :: ((m.1 : Nat) : Int) :: ((m.2.1 : Nat) : Int) :: ((m.2.2 : Nat) : Int) :: ((p : Nat) : Int) :: ((c : Nat) : Int) :: l) ∧ M' = M) ⟨⟨_, rfl⟩, rfl⟩ ?_ ?_
    · rintro c ρ M1 X hc ⟨⟨l, rfl⟩, rfl⟩ hX
      obtain ⟨y1, y2, y3⟩ := h3 c (by omega)
      have hne := of_decide_eq_false (z3 c hc)
      by_cases e1 : (C c).1 = m.1
      · by_cases e2 : (C c).2.1 = m.2.1
        · have e3 : ¬ (C c).2.2 = m.2.2 := fun z => hne (Prod.ext e1 (Prod.ext e2 z))
          ((with_reducible refine i_turn (i_cI_lt (i_L5 (i_F (i_A0 ?_))))); (with_reducible refine i_fld (by assumption) ?_); (rw [h1]); simp only [w_set0, w_set1, w_setn0, w_setn1]; (with_reducible refine i_t (by omega) ?_); (with_reducible refine i_If (i_cAnd (i_cAnd (i_cI_eq (i_IA (i_FR (i_A0 ?_))))))); (with_reducible refine i_fldR (by assumption) ?_); (with_reducible refine i_L5 ?_); (with_reducible refine i_in (by assumption) (by omega) (by omega) ?_); (with_reducible refine i_L1 ?_); (rw [y1]); (with_reducible refine i_t (by omega) ?_); (with_reducible refine i_cI_eq (i_IA (i_FR (i_A0 ?_)))); (with_reducible refine i_fldR (by assumption) ?_); (with_reducible refine i_L5 ?_); (with_reducible refine i_in (by assumption) (by omega) (by omega) ?_); (with_reducible refine i_L2 ?_); (rw [y2]); (with_reducible refine i_t (by omega) ?_); (with_reducible refine i_cI_eq (i_IA (i_FR (i_A0 ?_)))); (with_reducible refine i_fldR (by assumption) ?_); (with_reducible refine i_L5 ?_); (with_reducible refine i_in (by assumption) (by omega) (by omega) ?_); (with_reducible refine i_L3 ?_); (rw [y3]); (with_reducible refine i_f (by omega) ?_); (with_reducible refine i_up (i_Inc5 ?_)); rw [zx_inc (by omega)]; simp only [w_set0, w_set1, w_setn0, w_setn1])
          exact hX _ _ ⟨⟨_, rfl⟩, rfl⟩
        · ((with_reducible refine i_turn (i_cI_lt (i_L5 (i_F (i_A0 ?_))))); (with_reducible refine i_fld (by assumption) ?_); (rw [h1]); simp only [w_set0, w_set1, w_setn0, w_setn1]; (with_reducible refine i_t (by omega) ?_); (with_reducible refine i_If (i_cAnd (i_cAnd (i_cI_eq (i_IA (i_FR (i_A0 ?_))))))); (with_reducible refine i_fldR (by assumption) ?_); (with_reducible refine i_L5 ?_); (with_reducible refine i_in (by assumption) (by omega) (by omega) ?_); (with_reducible refine i_L1 ?_); (rw [y1]); (with_reducible refine i_t (by omega) ?_); (with_reducible refine i_cI_eq (i_IA (i_FR (i_A0 ?_)))); (with_reducible refine i_fldR (by assumption) ?_); (with_reducible refine i_L5 ?_); (with_reducible refine i_in (by assumption) (by omega) (by omega) ?_); (with_reducible refine i_L2 ?_); (rw [y2]); (with_reducible refine i_f (by omega) ?_); (with_reducible refine i_up (i_Inc5 ?_)); rw [zx_inc (by omega)]; simp only [w_set0, w_set1, w_setn0, w_setn1])
          exact hX _ _ ⟨⟨_, rfl⟩, rfl⟩
      · ((with_reducible refine i_turn (i_cI_lt (i_L5 (i_F (i_A0 ?_))))); (with_reducible refine i_fld (by assumption) ?_); (rw [h1]); simp only [w_set0, w_set1, w_setn0, w_setn1]; (with_reducible refine i_t (by omega) ?_); (with_reducible refine i_If (i_cAnd (i_cAnd (i_cI_eq (i_IA (i_FR (i_A0 ?_))))))); (with_reducible refine i_fldR (by assumption) ?_); (with_reducible refine i_L5 ?_); (with_reducible refine i_in (by assumption) (by omega) (by omega) ?_); (with_reducible refine i_L1 ?_); (rw [y1]); (with_reducible refine i_f (by omega) ?_); (with_reducible refine i_up (i_Inc5 ?_)); rw [zx_inc (by omega)]; simp only [w_set0, w_set1, w_setn0, w_setn1])
        exact hX _ _ ⟨⟨_, rfl⟩, rfl⟩
    · rintro ρ M1 X ⟨⟨l, rfl⟩, rfl⟩
      by_cases h : N < wc
      · obtain ⟨y1, y2, y3⟩ := h3 N h
        have e := of_decide_eq_true (z2 h)
        rw [e] at y1 y2 y3
        rw [decide_eq_true h, if_pos rfl] at hk
        ((with_reducible refine i_turn (i_cI_lt (i_L5 (i_F (i_A0 ?_))))); (with_reducible refine i_fld (by assumption) ?_); (rw [h1]); simp only [w_set0, w_set1, w_setn0, w_setn1]; (with_reducible refine i_t (by omega) ?_); (with_reducible refine i_If (i_cAnd (i_cAnd (i_cI_eq (i_IA (i_FR (i_A0 ?_))))))); (with_reducible refine i_fldR (by assumption) ?_); (with_reducible refine i_L5 ?_); (with_reducible refine i_in (by assumption) (by omega) (by omega) ?_); (with_reducible refine i_L1 ?_); (rw [y1]); simp only [w_set0, w_set1, w_setn0, w_setn1]; (with_reducible refine i_t trivial ?_); (with_reducible refine i_cI_eq (i_IA (i_FR (i_A0 ?_)))); (with_reducible refine i_fldR (by assumption) ?_); (with_reducible refine i_L5 ?_); (with_reducible refine i_in (by assumption) (by omega) (by omega) ?_); (with_reducible refine i_L2 ?_); (rw [y2]); simp only [w_set0, w_set1, w_setn0, w_setn1]; (with_reducible refine i_t trivial ?_); (with_reducible refine i_cI_eq (i_IA (i_FR (i_A0 ?_)))); (with_reducible refine i_fldR (by assumption) ?_); (with_reducible refine i_L5 ?_); (with_reducible refine i_in (by assumption) (by omega) (by omega) ?_); (with_reducible refine i_L3 ?_); (rw [y3]); simp only [w_set0, w_set1, w_setn0, w_setn1]; (with_reducible refine i_t trivial ?_); (with_reducible refine i_Seq (i_sCall (i_as1 (i_A0 (i_as1 (i_I (i_as1 (i_L4 (i_as0 ?_))))))))); (with_reducible refine i_recv0 (by assumption) ?_))
        refine c_xblame hO hS (f := 3) rfl hFz hF (by decide) (by decide) hp2 (fun M2 f2 z4 => ⟨rfl, ?_⟩)
        (with_reducible refine i_RetV ?_)
        refine hk M2 (fun b j q => f2 b j (by omega)) ⟨wc, C, by rw [f2 _ _ (by omega)]; exact h1, by omega, fun j hj => by rw [f2 _ _ (by omega), f2 _ _ (by omega), f2 _ _ (by omega)]; exact h3 j hj, fun j hj => ?_, fun k hk2 => ?_, h7⟩ z4
        · obtain ⟨k, k1, k2⟩ := h5 j hj
          exact ⟨k, by omega, by rw [huwo k k1, huMe]; exact k2⟩
        · by_cases e9 : k = uk Z
          · exact ⟨N, h, by rw [e9, huwn, huMe, hmw]; exact e⟩
          · obtain ⟨j, j1, j2⟩ := h6 k (by omega)
            exact ⟨j, j1, by rw [huwo k (by omega), huMe]; exact j2⟩
      · ((with_reducible refine i_turn (i_cI_lt (i_L5 (i_F (i_A0 ?_))))); (with_reducible refine i_fld (by assumption) ?_); (rw [h1]); simp only [w_set0, w_set1, w_setn0, w_setn1]; (with_reducible refine i_f (by omega) ?_))
        exact ⟨⟨_, rfl⟩, by trivial, by omega⟩
  rintro ρ M1 ⟨⟨l, rfl⟩, rfl, hNw⟩
  rw [decide_eq_false (by omega), if_neg (by decide)] at hk
  have hnone : ∀ j, j < wc → C j ≠ m := fun j hj => of_decide_eq_false (z3 j (by omega))
  ((with_reducible refine i_If (i_cI_lt (i_F (i_A0 ?_)))); (with_reducible refine i_fld (by assumption) ?_); (with_reducible refine i_I ?_); (rw [h1]); (with_reducible refine i_t (by omega) ?_); (with_reducible refine i_Seq (i_sIA (i_FR (i_A0 ?_)))); (with_reducible refine i_fldR (by assumption) ?_); (with_reducible refine i_F (i_A0 ?_)); (with_reducible refine i_fld (by assumption) ?_); (with_reducible refine i_L1 ?_); (with_reducible refine i_in (by assumption) (by omega) (by omega) ?_); (with_reducible refine i_Seq (i_sIA (i_FR (i_A0 ?_)))); (with_reducible refine i_fldR (by assumption) ?_); (with_reducible refine i_F (i_A0 ?_)); (with_reducible refine i_fld (by assumption) ?_); (with_reducible refine i_L2 ?_); rw [zg_n _ _ _ (by omega)]; (with_reducible refine i_in (by assumption) (by omega) (by omega) ?_); (with_reducible refine i_Seq (i_sIA (i_FR (i_A0 ?_)))); (with_reducible refine i_fldR (by assumption) ?_); (with_reducible refine i_F (i_A0 ?_)); (with_reducible refine i_fld (by assumption) ?_); (with_reducible refine i_L3 ?_); rw [zg_n _ _ _ (by omega)]; rw [zg_n _ _ _ (by omega)]; (with_reducible refine i_in (by assumption) (by omega) (by omega) ?_); (with_reducible refine i_FO (i_A0 ?_)); (with_reducible refine i_fld (by assumption) ?_); (with_reducible refine i_I ?_); (with_reducible refine i_fld (by assumption) ?_); (with_reducible refine i_RetV ?_); rw [zg_n _ _ _ (by omega)]; rw [zg_n _ _ _ (by omega)]; rw [zg_n _ _ _ (by omega)]; (rw [h1]); rw [zx_inc (by omega)])
  refine hk _ (fun b j q => by rw [zg_o _ _ (by omega), zg_o _ _ (by omega), zg_o _ _ (by omega), zg_o _ _ (by omega)]) ⟨wc + 1, uup C wc m, zg_s _ _ _ _ _, by omega, fun j hj => ?_, fun j hj => ?_, fun k hk2 => ?_, fun i j hij hj => ?_⟩ ⟨by rw [zg_o _ _ (by omega), zg_o _ _ (by omega), zg_o _ _ (by omega), zg_o _ _ (by omega)]; exact hFz.1, by rw [zg_o _ _ (by omega), zg_o _ _ (by omega), zg_o _ _ (by omega), zg_o _ _ (by omega)]; exact hFz.2⟩
  · by_cases e : j = wc
    · subst e
      rw [uup_s]
      exact ⟨by rw [zg_n _ _ _ (by omega), zg_n _ _ _ (by omega), zg_n _ _ _ (by omega), zg_s], by rw [zg_n _ _ _ (by omega), zg_n _ _ _ (by omega), zg_s], by rw [zg_n _ _ _ (by omega), zg_s]⟩
    · rw [uup_n _ _ e]
      obtain ⟨y1, y2, y3⟩ := h3 j (by omega)
      exact ⟨by rw [zg_o _ _ (by omega), zg_o _ _ (by omega), zg_o _ _ (by omega), zg_o _ _ (by omega)]; exact y1, by rw [zg_o _ _ (by omega), zg_o _ _ (by omega), zg_o _ _ (by omega), zg_o _ _ (by omega)]; exact y2, by rw [zg_o _ _ (by omega), zg_o _ _ (by omega), zg_o _ _ (by omega), zg_o _ _ (by omega)]; exact y3⟩
  · by_cases e : j = wc
    · exact ⟨uk Z, by omega, by rw [e, uup_s, huwn, huMe, hmw]⟩
    · obtain ⟨k, k1, k2⟩ := h5 j (by omega)
      exact ⟨k, by omega, by rw [uup_n _ _ e, huwo k k1, huMe]; exact k2⟩
  · by_cases e : k = uk Z
    · exact ⟨wc, by omega, by rw [e, uup_s, huwn, huMe, hmw]⟩
    · obtain ⟨j, j1, j2⟩ := h6 k (by omega)
      exact ⟨j, by omega, by rw [uup_n _ _ (by omega), huwo k (by omega), huMe]; exact j2⟩
  · by_cases e : j = wc
    · rw [e, uup_s, uup_n _ _ (by omega)]
      exact hnone i (by omega)
    · rw [uup_n _ _ e, uup_n _ _ (by omega)]
      exact h7 i j hij (by omega)
theorem usd_aw (Z : zZt) (w : Nat × Nat × Nat) (p a b : Nat) : usd (uaw Z w p) a b = (usd Z a b || usy (uo Z) (ul Z) w a b) := by
  show zex (fun k => usy (uo Z) (ul Z) (uup (uw Z) (uk Z) w k) a b) (uk Z + 1) = _
  rw [zex_su]
  congr 1
  · exact zex_ext fun k hk => by rw [uup_n _ _ (by omega)]
  · rw [uup_s]
/-- a word was told: what it says came in -/
theorem cZt.aw {M3 M4 M5 : zMem} {n p : Nat} {Z3 : zZt} {w : Nat × Nat × Nat} (h : cZt M3 n Z3) (f4 : ∀ b j, ¬ (b = ((92 : Nat) : Int) ∧ (j = 13 ∨ j = 14 ∨ j = 15) ∨ ((98 : Nat) : Int) ≤ b ∧ b ≤ ((100 : Nat) : Int)) → M4 b j = M3 b j) (hw : cZw M4 (uaw Z3 w p)) (hf : cZf M4 (if zex (fun k => decide (uw Z3 k = w)) (uk Z3) = true then min (uF Z3) (8 * p + 3) else uF Z3)) (f5 : ∀ b j, ¬ b = ((102 : Nat) : Int) → M5 b j = M4 b j) {T : Nat → Nat → Bool} (hs : zNR M5 101 n T) (e : ∀ a b, T a b = (decide (a ≠ b) && (usd Z3 a b || usy (uo Z3) (ul Z3) w a b))) : cZt M5 n (uaw Z3 w p) := by
  obtain ⟨⟨a1, a2, a3⟩, b, c, d, g⟩ := h
  refine ⟨⟨by rw [f5 _ _ (by omega), f4 _ _ (by omega)]; exact a1, hs.ext (fun x y _ _ => by rw [e, usd_aw]), ⟨by rw [f5 _ _ (by omega), f4 _ _ (by omega)]; exact a3.1, fun x hx => by rw [f5 _ _ (by omega), f4 _ _ (by omega)]; exact a3.2 x hx⟩⟩, b.to (fun b j q => by rw [f5 _ _ (by omega), f4 _ _ (by omega)]) rfl, c.to (fun b j q => by rw [f5 _ _ (by omega), f4 _ _ (by omega)]) rfl, hw.to (fun b j q => f5 b j (by omega)) rfl (fun _ _ => rfl), ⟨by rw [f5 _ _ (by omega)]; exact hf.1, by rw [f5 _ _ (by omega)]; exact hf.2⟩⟩
theorem zcrs_say {n : Nat} {T y : Bool} {s t : Nat → Bool} {p q : Nat} {u : Bool} (hT : T = (decide (p ≠ q) && u)) (hy : y = ((s p && t q) || (t p && s q))) (hp : y = true → p < n) : (T || (decide (p < n) && (!decide (q = p)) && ((s p && t q) || (t p && s q)))) = (decide (p ≠ q) && (u || y)) := by
  rw [hT, ← hy]
  by_cases e : p = q
  · subst e
    simp
  · have e1 : decide (p ≠ q) = true := decide_eq_true e
    have e2 : decide (q = p) = false := decide_eq_false (fun z => e z.symm)
    rw [e1, e2]
    cases y
    · simp
    · rw [show decide (p < n) = true from decide_eq_true (hp rfl)]
      simp
theorem zchn_iff {T : Nat → Nat → Bool} {w : Nat → Nat} {f k p q : Nat} : zchn T w f k p q = true ↔ T p q = true ∨ ∃ j, j < k ∧ (p = w (f + j) ∧ q = w (f + j + 1) ∨ p = w (f + j + 1) ∧ q = w (f + j)) := by
  induction k with
  | zero => exact ⟨Or.inl, fun h => h.elim id (fun ⟨j, h, _⟩ => absurd h (Nat.not_lt_zero _))⟩
  | succ k ih =>
    rw [zchn_su, Bool.or_eq_true, Bool.or_eq_true, Bool.and_eq_true, Bool.and_eq_true, decide_eq_true_eq, decide_eq_true_eq, decide_eq_true_eq, decide_eq_true_eq, ih]
    constructor
    · rintro (((h | ⟨j, h1, h2⟩) | h) | h)
      · exact Or.inl h
      · exact Or.inr ⟨j, by omega, h2⟩
      · exact Or.inr ⟨k, by omega, Or.inl h⟩
      · exact Or.inr ⟨k, by omega, Or.inr h⟩
    · rintro (h | ⟨j, h1, h2⟩)
      · exact Or.inl (Or.inl (Or.inl h))
      · by_cases e : j = k
        · subst e
          rcases h2 with h2 | h2
          · exact Or.inl (Or.inr h2)
          · exact Or.inr h2
        · exact Or.inl (Or.inl (Or.inr ⟨j, by omega, h2⟩))
def urw (Z : zZt) (b k : Nat) : Nat := zfind (fun q => decide (uo Z q = b ∧ ul Z q = k)) 16
theorem urw_ok {n : Nat} {Z : zZt} {b k : Nat} (h : uO2 n Z) (hb : b < ub Z) (hk : k < zSz (uo Z) 16 b) : urw Z b k < 16 ∧ uo Z (urw Z b k) = b ∧ ul Z (urw Z b k) = k := by
  obtain ⟨q, q1, q2, q3⟩ := h.2.2 b k hb hk
  obtain ⟨z1, z2, z3⟩ := zfind_ok (fun q => decide (uo Z q = b ∧ ul Z q = k)) 16
  have hlt : urw Z b k < 16 := by
    rcases Nat.lt_or_ge (urw Z b k) 16 with w | w
    · exact w
    · have := z3 q (by unfold urw at w; omega)
      rw [decide_eq_true ⟨q2, q3⟩] at this
      cases this
  exact ⟨hlt, of_decide_eq_true (z2 hlt)⟩
theorem usd_lt {n : Nat} {Z : zZt} {w : Nat × Nat × Nat} {p q : Nat} (h2 : uO2 n Z) (hub : ub Z < 999) (hw : uWk n Z w) (h : usy (uo Z) (ul Z) w p q = true) : p < n ∧ q < n := by
  have key : ∀ x, uo Z x < ub Z → x < n := fun x hx => (h2.1 x (by omega)).2.1
  unfold usy at h
  unfold uWk at hw
  split at h
  · have := of_decide_eq_true h
    exact ⟨key p (by omega), key q (by omega)⟩
  · split at h
    · have := of_decide_eq_true h
      exact ⟨key p (by omega), key q (by omega)⟩
    · split at h
      · have := of_decide_eq_true h
        rcases this with ⟨a, b⟩ | ⟨a, b⟩
        · exact ⟨by omega, key q (by omega)⟩
        · exact ⟨key p (by omega), by omega⟩
      · have := of_decide_eq_true h
        exact ⟨key p (by omega), key q (by omega)⟩
theorem upb_z (Z : zZt) (b : Nat) : upb Z (b + 1) = upb Z b + zSz (uo Z) 16 b := upb_su (uo Z) b
set_option maxHeartbeats 1600000 in
theorem c_takeOfBox {O : zOm} (hO : zWld O) (hS : zS O = zmS zC0) {i s n k : Nat} {ki : Int} {B : Nat → Nat} {Z : zZt} {M : zMem} {K : Option zV → zMem → Prop} (hki : ki = ((k : Nat) : Int)) (hs : s ≤ 2000) (hn16 : n ≤ 16) (hq0 : zqs B s (zhh B s) = 0) (hi : i < zhh B s) (hq : zqs B s i = 0) (hK : zKi B s i = 4 ∨ zKi B s i = 5) (hk03 : k = 0 ∨ k = 3) (hA : uAll B s n Z i) (hT : cTa M B s) (hZ : cZt M n Z)
    (hk : ∀ M', cXF M M' → cZt M' n (us1 B s k Z i) → K none M') : zR O F_Text_takeOfBox [(2, ((92 : Nat) : Int)), (2, ((86 : Nat) : Int)), (0, ((i : Nat) : Int)), (0, ki)] M K := by
  subst hki
  have h400 := (zhh_ok B s).1
  have n100 := zNet101 hS
  have n100o := n100.2.2.2
  have hp := fun j => Nat.le_trans (zps_le B s j) hs
  obtain ⟨g1, g2, g3, g4⟩ := zgr_45 hq0 hi hq hK
  obtain ⟨w40, u100⟩ := hA.w40 hi (by omega)
  have hFk : uFk (uF Z) := hA.1.2.2.1
  have v1 := hT.v0 (show i + 1 < zhh B s by omega) g1
  have p1 := (hT.2.2 (i + 1) (by omega)).2.1
  have p0 := (hT.2.2 i hi).2.1
  have hrk := urk_le Z (ub Z)
  unfold us1 at hk
  generalize zVi B s (i + 1) = v at hk v1
  apply r_Text_takeOfBox hO
  unfold B_Text_takeOfBox
  have f92_1 := zf_92_1 hS; have a94 := zCA (a := 94) (ty := .int) (n := 100) hS rfl; have f86_2 := zf_86_2 hS; have a89 := zCA (a := 89) (ty := .int) (n := 400) hS rfl; have f92_7 := zf_92_7 hS; have f92_3 := zf_92_3 hS; have a97 := zCA (a := 97) (ty := .int) (n := 400) hS rfl; have f92_2 := zf_92_2 hS; have a95 := zCA (a := 95) (ty := .int) (n := 100) hS rfl; have f92_16 := zf_92_16 hS; have a96 := zCA (a := 96) (ty := .int) (n := 100) hS rfl; have z86 := zo_86 hS; have z92 := zo_92 hS
  ((with_reducible refine i_Seq (i_Seq (i_Set (i_Call (i_as1 (i_A0 (i_as1 (i_A1 (i_as1 (i_Add (i_L2 (i_I (i_as0 ?_))))))))))))); (with_reducible refine i_recv0 (by assumption) ?_); rw [zx_inc (by omega)]; simp only [w_set0, w_set1, w_setn0, w_setn1])
  refine c_boxNamed hO hS hZ.2.1 hZ.2.2.2.2 u100 hFk (by omega) v1 p1 (hp _) (fun M1 f1 z1 => ⟨_, rfl, ?_⟩)
  by_cases e : ufn Z v < ub Z
  · rw [if_pos e] at hk z1
    rw [show uRI Z v = ((urk Z (ufn Z v) : Nat) : Int) from if_pos e]
    have hZ1 : cZt M1 n Z := hZ.bl f1 rfl rfl rfl z1
    have hnew := ufn_new e
    have hwk : uWk n Z (k, ufn Z v, 0) := Or.inl ⟨hk03, e, hnew, rfl⟩
    have hrl := zcnt_lt (zNew (un Z)) e hnew
    obtain ⟨b1, b2, b3, b4⟩ := hZ1.2.1.2 _ e hnew
    generalize ufn Z v = x at *
    have hrl2 : urk Z x < urk Z (ub Z) := hrl
    have p11 : M1 ((89 : Nat) : Int) ((i + 1 : Nat) : Int) = ((zps B s (i + 1) : Nat) : Int) := by rw [f1 _ _ (by omega)]; exact p1
    have p01 : M1 ((89 : Nat) : Int) ((i : Nat) : Int) = ((zps B s i : Nat) : Int) := by rw [f1 _ _ (by omega)]; exact p0
    have hsz : zcnt (fun q => decide (uo Z q = x)) 16 = zSz (uo Z) 16 x := rfl
    have hszl := zSz_le (uo Z) 16 x
    have hm1 : (uM Z (k, x, 0)).1 = k := by unfold uM; (try dsimp only); rw [if_neg (by omega)]
    have hm2 : (uM Z (k, x, 0)).2.1 = urk Z x := by unfold uM; (try dsimp only); rw [if_neg (by omega)]
    have hm3 : (uM Z (k, x, 0)).2.2 = 0 := by unfold uM; (try dsimp only); rw [if_neg (by omega)]; (try dsimp only); rw [if_neg (by omega)]
    -- behind the fault of a box that is too small
    have tail : ∀ (M2 : zMem) (Z2 : zZt), cXF M M2 → cZt M2 n Z2 → Z2.1 = Z.1 → Z2.2.1 = Z.2.1 → uFk (uF Z2) → (∀ M', cXF M M' → cZt M' n (uaw Z2 (k, x, 0) (zps B s i)) → K none M') → ∀ {K2 : Option zV → zMem → Prop}, (∀ M4, (cZt M2 n Z2 ∧ (∀ b j, ¬ (b = ((92 : Nat) : Int) ∧ (j = 13 ∨ j = 14 ∨ j = 15) ∨ ((98 : Nat) : Int) ≤ b ∧ b ≤ ((100 : Nat) : Int)) → M4 b j = M2 b j) ∧ cZw M4 (uaw Z2 (k, x, 0) (zps B s i)) ∧ cZf M4 (if zex (fun j => decide (uw Z2 j = (k, x, 0))) (uk Z2) = true then min (uF Z2) (8 * zps B s i + 3) else uF Z2)) → K2 none M4) → zR O F_Text_takeWord [(2, ((92 : Nat) : Int)), (0, ((k : Nat) : Int)), (0, ((urk Z x : Nat) : Int)), (0, 0), (0, ((zps B s i : Nat) : Int))] M2 K2 := fun M2 Z2 f2 z2 e1 e2 e3 _ K2 h => by
      have hu : ∀ w, uM Z2 w = uM Z w := uM_e e1
      refine c_takeWord hO hS (n := n) (Z := Z2) (w := (k, x, 0)) (by rw [hu, hm1]) (by rw [hu, hm2]) (by rw [hu, hm3]; rfl) z2.2.2.2.1 z2.2.2.2.2 e3 (by unfold uk; rw [e2]; exact w40) (fun c hc => ?_) ?_ (hp _) (fun M4 f4 w4 z4 => h M4 ⟨z2, f4, w4, z4⟩)
      · have := hA.1.2.1 c (by unfold uk at hc ⊢; rw [e2] at hc; exact hc)
        unfold uWk un ub uw at this ⊢
        rw [e1, e2]
        exact this
      · unfold uWk un ub at hwk ⊢
        rw [e1]
        exact hwk
    -- what the word says comes in
    have says : ∀ (M2 M4 : zMem) (Z2 : zZt), cXF M M2 → Z2.1 = Z.1 → (∀ M', cXF M M' → cZt M' n (uaw Z2 (k, x, 0) (zps B s i)) → K none M') → (cZt M2 n Z2 ∧ (∀ b j, ¬ (b = ((92 : Nat) : Int) ∧ (j = 13 ∨ j = 14 ∨ j = 15) ∨ ((98 : Nat) : Int) ≤ b ∧ b ≤ ((100 : Nat) : Int)) → M4 b j = M2 b j) ∧ cZw M4 (uaw Z2 (k, x, 0) (zps B s i)) ∧ cZf M4 (if zex (fun j => decide (uw Z2 j = (k, x, 0))) (uk Z2) = true then min (uF Z2) (8 * zps B s i + 3) else uF Z2)) →
        (k = 0 → zR O F_Net_cross [(2, ((101 : Nat) : Int)), (0, zmk (fun q => decide (uo Z q = x))), (0, zmk (fun q => decide (uo Z q = x)))] M4 (fun v M5 => v = none ∧ K none M5)) ∧ (k = 3 → zR O F_Net_chain [(2, ((101 : Nat) : Int)), (2, ((97 : Nat) : Int)), (0, ((upb Z x : Nat) : Int)), (0, ((zSz (uo Z) 16 x : Nat) : Int))] M4 (fun v M5 => v = none ∧ K none M5)) := fun M2 M4 Z2 f2 e1 hk2 ⟨z2, f4, w4, z4⟩ => by
      have eo : uo Z2 = uo Z := by unfold uo; rw [e1]
      have el : ul Z2 = ul Z := by unfold ul; rw [e1]
      have hN4 : zNR M4 101 n (fun p q => decide (p ≠ q) && usd Z2 p q) := ⟨by rw [f4 _ _ (by omega)]; exact z2.1.2.1.1, fun p hp2 => by rw [f4 _ _ (by omega)]; exact z2.1.2.1.2 p hp2⟩
      refine ⟨fun hk0 => s_Net_cross hO n100 hN4 hn16 (fun M5 f5 h5 => ⟨rfl, ?_⟩), fun hk3 => ?_⟩
      · have f5' : ∀ b j, ¬ b = ((102 : Nat) : Int) → M5 b j = M4 b j := fun b j q => by rw [f5 b (by simp <;> omega)]
        refine hk2 M5 (fun b j q => by rw [f5' b j (by omega), f4 b j (by omega)]; exact f2 b j q) (z2.aw f4 w4 z4 f5' h5 (fun p q => ?_))
        rw [eo, el]
        refine zcrs_say (n := n) (T := decide (p ≠ q) && usd Z2 p q) (s := fun q => decide (uo Z q = x)) (t := fun q => decide (uo Z q = x)) (u := usd Z2 p q) rfl ?_ (fun hy => ?_)
        · unfold usy
          rw [if_pos hk0]
          (try dsimp only)
          rw [Bool.eq_iff_iff]
          simp only [Bool.or_eq_true, Bool.and_eq_true, decide_eq_true_eq]
          omega
        · exact (usd_lt hA.1.1 (by omega) hwk hy).1
      · have hR4 : cZo M4 Z := by
          have := z2.2.2.1
          refine cZo.to (Z := Z2) this (fun b j q => f4 b j (by omega)) e1.symm
        have hup := upb_z Z x
        have hle := zcnt_le (fun q => decide (uo Z q < x + 1)) 16
        have hle2 : upb Z (x + 1) ≤ 16 := hle
        refine s_Net_chain hO n100 hN4 (zCA (a := 97) (ty := .int) (n := 400) hS rfl) (w := fun j => urw Z x (j - upb Z x)) (fun j j1 j2 => ?_) (fun j j1 j2 z => by
          (try dsimp only at z)
          have y1 := (urw_ok hA.1.1 e (show j - upb Z x < zSz (uo Z) 16 x by omega)).2.2
          have y2 := (urw_ok hA.1.1 e (show j + 1 - upb Z x < zSz (uo Z) 16 x by omega)).2.2
          rw [← z] at y2
          omega) (by omega) (by decide) (by decide) (fun M5 f5 h5 => ⟨rfl, ?_⟩)
        · obtain ⟨y1, y2, y3⟩ := urw_ok hA.1.1 e (show j - upb Z x < zSz (uo Z) 16 x by omega)
          have := hR4.2.2 _ y1 (by omega)
          rw [y2, y3, show upb Z x + (j - upb Z x) = j by omega] at this
          exact ⟨this, y1⟩
        · have f5' : ∀ b j, ¬ b = ((102 : Nat) : Int) → M5 b j = M4 b j := fun b j q => by rw [f5 b (by simp <;> omega)]
          refine hk2 M5 (fun b j q => by rw [f5' b j (by omega), f4 b j (by omega)]; exact f2 b j q) (z2.aw f4 w4 z4 f5' h5 (fun p q => ?_))
          rw [eo, el, Bool.eq_iff_iff, zchn_iff]
          have husy : usy (uo Z) (ul Z) (k, x, 0) p q = decide (uo Z p = x ∧ uo Z q = x ∧ (ul Z p = ul Z q + 1 ∨ ul Z q = ul Z p + 1)) := by
            unfold usy
            rw [if_neg (by (try dsimp only); omega), if_neg (by (try dsimp only); omega), if_neg (by (try dsimp only); omega)]
          rw [husy, Bool.and_eq_true, Bool.and_eq_true, Bool.or_eq_true, decide_eq_true_eq, decide_eq_true_eq]
          have hw : ∀ j, urw Z x (upb Z x + j - upb Z x) = urw Z x j := fun j => by rw [Nat.add_sub_cancel_left]
          constructor
          · rintro (⟨h1, h2⟩ | ⟨j, j1, j2⟩)
            · exact ⟨h1, Or.inl h2⟩
            · rw [hw, show upb Z x + j + 1 = upb Z x + (j + 1) by omega, hw] at j2
              obtain ⟨y1, y2, y3⟩ := urw_ok hA.1.1 e (show j < zSz (uo Z) 16 x by omega)
              obtain ⟨y4, y5, y6⟩ := urw_ok hA.1.1 e (show j + 1 < zSz (uo Z) 16 x by omega)
              rcases j2 with ⟨j3, j4⟩ | ⟨j3, j4⟩
              · rw [j3, j4]
                exact ⟨fun z => by rw [z] at y3; omega, Or.inr ⟨y2, y5, Or.inr (by rw [y3, y6])⟩⟩
              · rw [j3, j4]
                exact ⟨fun z => by rw [z] at y6; omega, Or.inr ⟨y5, y2, Or.inl (by rw [y3, y6])⟩⟩
          · rintro ⟨h1, h2 | ⟨h2, h3, h4⟩⟩
            · exact Or.inl ⟨h1, h2⟩
            · have lp := (hA.1.1.1 p (by omega)).2.2
              have lq := (hA.1.1.1 q (by omega)).2.2
              rw [h2] at lp
              rw [h3] at lq
              have inj := hA.1.1.2.1
              have eq1 : ∀ r, uo Z r = x → ul Z r < zSz (uo Z) 16 x → r = urw Z x (ul Z r) := fun r r1 r2 => by
                obtain ⟨y1, y2, y3⟩ := urw_ok hA.1.1 e r2
                exact inj r _ (by omega) (by rw [y2, r1]) y3.symm
              refine Or.inr ?_
              rcases h4 with h4 | h4
              · refine ⟨ul Z q, by omega, Or.inr ⟨?_, ?_⟩⟩
                · rw [show upb Z x + ul Z q + 1 = upb Z x + (ul Z q + 1) by omega, hw, ← h4]
                  exact eq1 p h2 lp
                · rw [hw]; exact eq1 q h3 lq
              · refine ⟨ul Z p, by omega, Or.inl ⟨?_, ?_⟩⟩
                · rw [hw]; exact eq1 p h2 lp
                · rw [show upb Z x + ul Z p + 1 = upb Z x + (ul Z p + 1) by omega, hw, ← h4]
                  exact eq1 q h3 lq
    have hpin := fun (M4 M2 : zMem) (Z2 : zZt) (z2 : cZt M2 n Z2) (e1 : Z2.1 = Z.1) (f4 : ∀ b j, ¬ (b = ((92 : Nat) : Int) ∧ (j = 13 ∨ j = 14 ∨ j = 15) ∨ ((98 : Nat) : Int) ≤ b ∧ b ≤ ((100 : Nat) : Int)) → M4 b j = M2 b j) => show M4 ((94 : Nat) : Int) ((urk Z x : Nat) : Int) = zmk (fun q => decide (uo Z q = x)) ∧ M4 ((95 : Nat) : Int) ((urk Z x : Nat) : Int) = ((upb Z x : Nat) : Int) ∧ M4 ((96 : Nat) : Int) ((urk Z x : Nat) : Int) = ((zSz (uo Z) 16 x : Nat) : Int) from by
      have hb := cZb.to (Z' := Z) z2.2.1 (fun b j q => rfl) e1.symm
      obtain ⟨y1, y2, y3, y4⟩ := hb.2 x e hnew
      exact ⟨by rw [f4 _ _ (by omega)]; exact y2, by rw [f4 _ _ (by omega)]; exact y3, by rw [f4 _ _ (by omega)]; exact y4⟩
    by_cases e2 : zSz (uo Z) 16 x < 2
    · rw [if_pos e2] at hk
      ((with_reducible refine i_Seq (i_If (i_cI_eq (i_L4 (i_I ?_))))); (with_reducible refine i_f (by omega) ?_); (with_reducible refine i_Seq (i_If (i_cI_lt (i_Call (i_as1 (i_IA (i_FR (i_A0 ?_)))))))); (with_reducible refine i_fldR (by assumption) ?_); (with_reducible refine i_L4 ?_); (with_reducible refine i_in (by assumption) (by omega) (by omega) ?_); (with_reducible refine i_as0 (i_recv1 ?_)); (rw [b2]); (refine s_bitCount hO ⟨_, rfl, ?_⟩); (with_reducible refine i_I ?_); (rw [hsz]); (with_reducible refine i_t (by omega) ?_); (with_reducible refine i_sCall (i_as1 (i_A0 (i_as1 (i_I (i_as1 (i_IA (i_FR (i_A1 ?_))))))))); (with_reducible refine i_fldR (by assumption) ?_); (with_reducible refine i_Add (i_L2 (i_I ?_))); rw [zx_inc (by omega)]; (with_reducible refine i_in (by assumption) (by omega) (by omega) ?_); (with_reducible refine i_as0 ?_); (with_reducible refine i_recv0 (by assumption) ?_); (rw [p11]))
      refine c_xblame hO hS (f := 5) rfl z1 hFk (by decide) (by decide) (hp _) (fun M2 f2 z2 => ⟨rfl, ?_⟩)
      have hZ2 : cZt M2 n (ubl Z (8 * zps B s (i + 1) + 5)) := hZ1.bl f2 rfl rfl rfl z2
      have p02 : M2 ((89 : Nat) : Int) ((i : Nat) : Int) = ((zps B s i : Nat) : Int) := by rw [f2 _ _ (by omega)]; exact p01
      have f02 : cXF M M2 := (cXF.bl f1).tr (cXF.bl f2)
      ((with_reducible refine i_Seq (i_sCall (i_as1 (i_A0 (i_as1 (i_L3 (i_as1 (i_L4 (i_as1 (i_I (i_as1 (i_IA (i_FR (i_A1 ?_)))))))))))))); (with_reducible refine i_fldR (by assumption) ?_); (with_reducible refine i_L2 ?_); (with_reducible refine i_in (by assumption) (by omega) (by omega) ?_); (with_reducible refine i_as0 ?_); (with_reducible refine i_recv0 (by assumption) ?_); (rw [p02]))
      refine tail M2 _ f02 hZ2 rfl rfl (uFk_min hFk (hp _) (by decide) (by decide)) hk (fun M4 h4 => ⟨rfl, ?_⟩)
      obtain ⟨s1, s2⟩ := says M2 M4 (ubl Z (8 * zps B s (i + 1) + 5)) f02 rfl hk h4
      obtain ⟨q1, q2, q3⟩ := hpin M4 M2 (ubl Z (8 * zps B s (i + 1) + 5)) hZ2 rfl h4.2.1
      rcases hk03 with e3 | e3
      · ((with_reducible refine i_Ite (i_cZ_eq (i_L3 ?_))); (with_reducible refine i_t (by omega) ?_); (with_reducible refine i_sCall (i_as1 (i_FR (i_A0 ?_)))); (with_reducible refine i_fldR (by assumption) ?_); (with_reducible refine i_as1 (i_IA (i_FR (i_A0 ?_)))); (with_reducible refine i_fldR (by assumption) ?_); (with_reducible refine i_L4 ?_); (with_reducible refine i_in (by assumption) (by omega) (by omega) ?_); (with_reducible refine i_as1 (i_IA (i_FR (i_A0 ?_)))); (with_reducible refine i_fldR (by assumption) ?_); (with_reducible refine i_L4 ?_); (with_reducible refine i_in (by assumption) (by omega) (by omega) ?_); (with_reducible refine i_as0 ?_); (with_reducible refine i_recv0 (by assumption) ?_); (rw [q1]))
        refine (s1 e3).mono (fun v M5 h5 => ⟨h5.1, ?_⟩)
        (with_reducible refine i_RetV ?_)
        exact h5.2
      · ((with_reducible refine i_Ite (i_cZ_eq (i_L3 ?_))); (with_reducible refine i_f (by omega) ?_); (with_reducible refine i_sCall (i_as1 (i_FR (i_A0 ?_)))); (with_reducible refine i_fldR (by assumption) ?_); (with_reducible refine i_as1 (i_FR (i_A0 ?_))); (with_reducible refine i_fldR (by assumption) ?_); (with_reducible refine i_as1 (i_IA (i_FR (i_A0 ?_)))); (with_reducible refine i_fldR (by assumption) ?_); (with_reducible refine i_L4 ?_); (with_reducible refine i_in (by assumption) (by omega) (by omega) ?_); (with_reducible refine i_as1 (i_IA (i_FR (i_A0 ?_)))); (with_reducible refine i_fldR (by assumption) ?_); (with_reducible refine i_L4 ?_); (with_reducible refine i_in (by assumption) (by omega) (by omega) ?_); (with_reducible refine i_as0 ?_); (with_reducible refine i_recv0 (by assumption) ?_); (rw [q2]); (rw [q3]))
        refine (s2 e3).mono (fun v M5 h5 => ⟨h5.1, ?_⟩)
        (with_reducible refine i_RetV ?_)
        exact h5.2
    · rw [if_neg e2] at hk
      have f02 : cXF M M1 := cXF.bl f1
      ((with_reducible refine i_Seq (i_If (i_cI_eq (i_L4 (i_I ?_))))); (with_reducible refine i_f (by omega) ?_); (with_reducible refine i_Seq (i_If (i_cI_lt (i_Call (i_as1 (i_IA (i_FR (i_A0 ?_)))))))); (with_reducible refine i_fldR (by assumption) ?_); (with_reducible refine i_L4 ?_); (with_reducible refine i_in (by assumption) (by omega) (by omega) ?_); (with_reducible refine i_as0 (i_recv1 ?_)); (rw [b2]); (refine s_bitCount hO ⟨_, rfl, ?_⟩); (with_reducible refine i_I ?_); (rw [hsz]); (with_reducible refine i_f (by omega) ?_); (with_reducible refine i_Seq (i_sCall (i_as1 (i_A0 (i_as1 (i_L3 (i_as1 (i_L4 (i_as1 (i_I (i_as1 (i_IA (i_FR (i_A1 ?_)))))))))))))); (with_reducible refine i_fldR (by assumption) ?_); (with_reducible refine i_L2 ?_); (with_reducible refine i_in (by assumption) (by omega) (by omega) ?_); (with_reducible refine i_as0 ?_); (with_reducible refine i_recv0 (by assumption) ?_); (rw [p01]))
      refine tail M1 Z f02 hZ1 rfl rfl hFk hk (fun M4 h4 => ⟨rfl, ?_⟩)
      obtain ⟨s1, s2⟩ := says M1 M4 Z f02 rfl hk h4
      obtain ⟨q1, q2, q3⟩ := hpin M4 M1 Z hZ1 rfl h4.2.1
      rcases hk03 with e3 | e3
      · ((with_reducible refine i_Ite (i_cZ_eq (i_L3 ?_))); (with_reducible refine i_t (by omega) ?_); (with_reducible refine i_sCall (i_as1 (i_FR (i_A0 ?_)))); (with_reducible refine i_fldR (by assumption) ?_); (with_reducible refine i_as1 (i_IA (i_FR (i_A0 ?_)))); (with_reducible refine i_fldR (by assumption) ?_); (with_reducible refine i_L4 ?_); (with_reducible refine i_in (by assumption) (by omega) (by omega) ?_); (with_reducible refine i_as1 (i_IA (i_FR (i_A0 ?_)))); (with_reducible refine i_fldR (by assumption) ?_); (with_reducible refine i_L4 ?_); (with_reducible refine i_in (by assumption) (by omega) (by omega) ?_); (with_reducible refine i_as0 ?_); (with_reducible refine i_recv0 (by assumption) ?_); (rw [q1]))
        refine (s1 e3).mono (fun v M5 h5 => ⟨h5.1, ?_⟩)
        (with_reducible refine i_RetV ?_)
        exact h5.2
      · ((with_reducible refine i_Ite (i_cZ_eq (i_L3 ?_))); (with_reducible refine i_f (by omega) ?_); (with_reducible refine i_sCall (i_as1 (i_FR (i_A0 ?_)))); (with_reducible refine i_fldR (by assumption) ?_); (with_reducible refine i_as1 (i_FR (i_A0 ?_))); (with_reducible refine i_fldR (by assumption) ?_); (with_reducible refine i_as1 (i_IA (i_FR (i_A0 ?_)))); (with_reducible refine i_fldR (by assumption) ?_); (with_reducible refine i_L4 ?_); (with_reducible refine i_in (by assumption) (by omega) (by omega) ?_); (with_reducible refine i_as1 (i_IA (i_FR (i_A0 ?_)))); (with_reducible refine i_fldR (by assumption) ?_); (with_reducible refine i_L4 ?_); (with_reducible refine i_in (by assumption) (by omega) (by omega) ?_); (with_reducible refine i_as0 ?_); (with_reducible refine i_recv0 (by assumption) ?_); (rw [q2]); (rw [q3]))
        refine (s2 e3).mono (fun v M5 h5 => ⟨h5.1, ?_⟩)
        (with_reducible refine i_RetV ?_)
        exact h5.2
  · rw [if_neg e] at hk z1
    rw [show uRI Z v = -1 from if_neg e]
    ((with_reducible refine i_Seq (i_If (i_cI_eq (i_L4 (i_I ?_))))); simp only [w_set0, w_set1, w_setn0, w_setn1]; (with_reducible refine i_t trivial ?_); (with_reducible refine i_RetV ?_))
    exact hk M1 (cXF.bl f1) (hZ.bl (Z' := ubl Z (8 * zps B s (i + 1) + 4)) f1 rfl rfl rfl z1)
