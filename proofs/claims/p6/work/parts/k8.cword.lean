section
-- part k8.cword.lean.txt
/-! ===== words told: the class ===== -/
theorem uM_inj {n : Nat} {Z : zZt} {w v : Nat × Nat × Nat} (hw : uWk n Z w) (hv : uWk n Z v) (h : uM Z w = uM Z v) : w = v := by
  obtain ⟨s, a, b⟩ := w
  obtain ⟨s', a', b'⟩ := v
  have q1 : ∀ {s a b : Nat}, uWk n Z (s, a, b) → s ≠ 2 → zNew (un Z) a = true := fun hu e => by
    rcases hu with ⟨-, -, h1, -⟩ | ⟨-, -, -, h1, -⟩ | ⟨h1, -⟩
    · exact h1
    · exact h1
    · exact absurd h1 e
  have q2 : ∀ {s a b : Nat}, uWk n Z (s, a, b) → s = 2 → zNew (un Z) b = true := fun hu e => by
    rcases hu with ⟨h1, -⟩ | ⟨h1, -⟩ | ⟨-, -, -, h1⟩
    · (try dsimp only at h1); omega
    · (try dsimp only at h1); omega
    · exact h1
  have q3 : ∀ {s a b : Nat}, uWk n Z (s, a, b) → s = 1 → zNew (un Z) b = true := fun hu e => by
    rcases hu with ⟨h1, -⟩ | ⟨-, -, -, -, h1⟩ | ⟨h1, -⟩
    · (try dsimp only at h1); omega
    · exact h1
    · (try dsimp only at h1); omega
  have hw0 := hw
  have hv0 := hv
  unfold uWk at hw hv
  unfold uM at h
  (try dsimp only at hw hv h)
  have inj : ∀ x y, zNew (un Z) x = true → zNew (un Z) y = true → urk Z x = urk Z y → x = y := fun x y hx hy e => zcnt_inj _ hx hy e
  by_cases e : s = 2
  · rw [if_pos e] at h
    by_cases e' : s' = 2
    · rw [if_pos e'] at h
      have h1 : a = a' := by have := congrArg (fun x => x.2.1) h; exact this
      have h2 : urk Z b = urk Z b' := by have := congrArg (fun x => x.2.2) h; exact this
      have h3 := inj b b' (q2 hw0 e) (q2 hv0 e') h2
      rw [e, e', h1, h3]
    · rw [if_neg e'] at h
      have h1 : 2 = s' := by have := congrArg (fun x => x.1) h; exact this
      omega
  · rw [if_neg e] at h
    by_cases e' : s' = 2
    · rw [if_pos e'] at h
      have h1 : s = 2 := by have := congrArg (fun x => x.1) h; exact this
      omega
    · rw [if_neg e'] at h
      have h1 : s = s' := by have := congrArg (fun x => x.1) h; exact this
      have h2 : urk Z a = urk Z a' := by have := congrArg (fun x => x.2.1) h; exact this
      have h3 : (if s = 1 then urk Z b else 0) = (if s' = 1 then urk Z b' else 0) := by have := congrArg (fun x => x.2.2) h; exact this
      subst h1
      have h4 := inj a a' (q1 hw0 e) (q1 hv0 e') h2
      by_cases e1 : s = 1
      · rw [if_pos e1, if_pos e1] at h3
        have h5 := inj b b' (q3 hw0 e1) (q3 hv0 e1) h3
        rw [h4, h5]
      · have hb : b = 0 := by omega
        have hb' : b' = 0 := by omega
        rw [h4, hb, hb']
theorem c_takeWord {O : zOm} (hO : zWld O) (hS : zS O = zmS zC0) {n p F : Nat} {w : Nat × Nat × Nat} {ki fi si : Int} {Z : zZt} {M : zMem} {K : Option zV → zMem → Prop} (hki : ki = (((uM Z w).1 : Nat) : Int)) (hfi : fi = (((uM Z w).2.1 : Nat) : Int)) (hsi : si = (((uM Z w).2.2 : Nat) : Int)) (hZ : cZw M Z) (hFz : cZf M F) (hF : uFk F) (hk40 : uk Z < 40) (h4 : uO4 n Z) (hw : uWk n Z w) (hp2 : p ≤ 2000)
    (hk : ∀ M', (∀ b j, ¬ (b = ((92 : Nat) : Int) ∧ (j = 13 ∨ j = 14 ∨ j = 15) ∨ ((98 : Nat) : Int) ≤ b ∧ b ≤ ((100 : Nat) : Int)) → M' b j = M b j) → cZw M' (uaw Z w p) → cZf M' (if zex (fun k => decide (uw Z k = w)) (uk Z) = true then min F (8 * p + 3) else F) → K none M') : zR O F_Text_takeWord [(2, ((92 : Nat) : Int)), (0, ki), (0, fi), (0, si), (0, ((p : Nat) : Int))] M K := by
  subst hki hfi hsi
  obtain ⟨wc, C, h1, h2, h3, h5, h6, h7⟩ := hZ
  obtain ⟨z1, z2, z3⟩ := zfind_ok (fun j => decide (C j = uM Z w)) wc
  have hex : zex (fun k => decide (uw Z k = w)) (uk Z) = decide (zfind (fun j => decide (C j = uM Z w)) wc < wc) := by
    rw [Bool.eq_iff_iff, zex_t, decide_eq_true_eq]
    constructor
    · rintro ⟨k, k1, k2⟩
      obtain ⟨j, j1, j2⟩ := h6 k k1
      rw [of_decide_eq_true k2] at j2
      rcases Nat.lt_or_ge (zfind (fun j => decide (C j = uM Z w)) wc) wc with q | q
      · exact q
      · have := z3 j (by omega)
        rw [decide_eq_true j2] at this
        cases this
    · intro hlt
      obtain ⟨k, k1, k2⟩ := h5 _ hlt
      have e := of_decide_eq_true (z2 hlt)
      rw [e] at k2
      exact ⟨k, k1, decide_eq_true (uM_inj (h4 k k1) hw k2.symm)⟩
  rw [hex] at hk
  have huMe : ∀ v, uM (uaw Z w p) v = uM Z v := fun v => uM_e rfl v
  have huke : uk (uaw Z w p) = uk Z + 1 := rfl
  have huwo : ∀ k, k < uk Z → uw (uaw Z w p) k = uw Z k := fun k hk2 => uup_n _ _ (by omega)
  have huwn : uw (uaw Z w p) (uk Z) = w := uup_s _ _ _
  generalize uaw Z w p = Z' at *
  generalize hmw : uM Z w = m at *
  generalize zfind (fun j => decide (C j = m)) wc = N at *
  apply r_Text_takeWord hO
  unfold B_Text_takeWord
  have f92_13 := zf_92_13 hS; have f92_4 := zf_92_4 hS; have a98 := zCA (a := 98) (ty := .int) (n := 40) hS rfl; have f92_5 := zf_92_5 hS; have a99 := zCA (a := 99) (ty := .int) (n := 40) hS rfl; have f92_6 := zf_92_6 hS; have a100 := zCA (a := 100) (ty := .int) (n := 40) hS rfl; have z92 := zo_92 hS
  ((with_reducible refine i_Seq (i_Seq (i_Blk (i_Seq (i_Set (i_I ?_)))))); simp only [w_set0, w_set1, w_setn0, w_setn1])
  refine w_cut (zR.mon' O) (fun ρ M1 => (∃ l, ρ = ((92 : Nat) : Int) :: ((m.1 : Nat) : Int) :: ((m.2.1 : Nat) : Int) :: ((m.2.2 : Nat) : Int) :: ((p : Nat) : Int) :: l) ∧ M1 = M ∧ wc ≤ N) ?_ ?_
  · refine w_ForN N (fun c ρ M' => (∃ l, ρ = ((92 : Nat) : Int) :: ((m.1 : Nat) : Int) :: ((m.2.1 : Nat) : Int) :: ((m.2.2 : Nat) : Int) :: ((p : Nat) : Int) :: ((c : Nat) : Int) :: l) ∧ M' = M) ⟨⟨_, rfl⟩, rfl⟩ ?_ ?_
    · rintro c ρ M1 X hc ⟨⟨l, rfl⟩, rfl⟩ hX
      obtain ⟨y1, y2, y3⟩ := h3 c (by omega)
      have hne := of_decide_eq_false (z3 c hc)
      by_cases e1 : (C c).1 = m.1
      · by_cases e2 : (C c).2.1 = m.2.1
        · have e3 : ¬ (C c).2.2 = m.2.2 := fun z => hne (Prod.ext e1 (Prod.ext e2 z))
          ((with_reducible refine i_turn (i_cI_lt (i_L5 (i_F (i_A0 ?_))))); (with_reducible refine i_fld (by assumption) ?_); (rw [h1]); simp only [w_set0, w_set1, w_setn0, w_setn1]; (with_reducible refine i_t (by omega) ?_); (with_reducible refine i_If (i_cAnd (i_cAnd (i_cI_eq (i_IA (i_FR (i_A0 ?_))))))); (with_reducible refine i_fldR (by assumption) ?_); (with_reducible refine i_L5 ?_); (with_reducible refine i_in (by assumption) (by omega) (by omega) ?_); (with_reducible refine i_L1 ?_); (rw [y1]); (with_reducible refine i_t (by omega) ?_); (with_reducible refine i_cI_eq (i_IA (i_FR (i_A0 ?_)))); (with_reducible refine i_fldR (by assumption) ?_); (with_reducible refine i_L5 ?_); (with_reducible refine i_in (by assumption) (by omega) (by omega) ?_); (with_reducible refine i_L2 ?_); (rw [y2]); (with_reducible refine i_t (by omega) ?_); (with_reducible refine i_cI_eq (i_IA (i_FR (i_A0 ?_)))); (with_reducible refine i_fldR (by assumption) ?_); (with_reducible refine i_L5 ?_); (with_reducible refine i_in (by assumption) (by omega) (by omega) ?_); (with_reducible refine i_L3 ?_); (rw [y3]); (with_reducible refine i_f (by omega) ?_); (with_reducible refine i_up (i_Inc5 ?_)); rw [zx_inc (by omega)]; simp only [w_set0, w_set1, w_setn0, w_setn1])
          exact hX _ _ ⟨⟨_, rfl⟩, rfl⟩
        · ((with_reducible refine i_turn (i_cI_lt (i_L5 (i_F (i_A0 ?_))))); (with_reducible refine i_fld (by assumption) ?_); (rw [h1]); simp only [w_set0, w_set1, w_setn0, w_setn1]; (with_reducible refine i_t (by omega) ?_); (with_reducible refine i_If (i_cAnd (i_cAnd (i_cI_eq (i_IA (i_FR (i_A0 ?_))))))); (with_reducible refine i_fldR (by assumption) ?_); (with_reducible refine i_L5 ?_); (with_reducible refine i_in (by assumption) (by omega) (by omega) ?_); (with_reducible refine i_L1 ?_); (rw [y1]); (with_reducible refine i_t (by omega) ?_); (with_reducible refine i_cI_eq (i_IA (i_FR (i_A0 ?_)))); (with_reducible refine i_fldR (by assumption) ?_); (with_reducible refine i_L5 ?_); (with_reducible refine i_in (by assumption) (by omega) (by omega) ?_); (with_reducible refine i_L2 ?_); (rw [y2]); (with_reducible refine i_f (by omega) ?_); (with_reducible refine i_up (i_Inc5 ?_)); rw [zx_inc (by omega)]; simp only [w_set0, w_set1, w_setn0, w_setn1])
          exact hX _ _ ⟨⟨_, rfl⟩, rfl⟩
      · ((with_reducible refine i_turn (i_cI_lt (i_L5 (i_F (i_A0 ?_))))); (with_reducible refine i_fld (by assumption) ?_); (rw [h1]); simp only [w_set0, w_set1, w_setn0, w_setn1]; (with_reducible refine i_t (by omega) ?_); (with_reducible refine i_If (i_cAnd (i_cAnd (i_cI_eq (i_IA (i_FR (i_A0 ?_))))))); (with_reducible refine i_fldR (by assumption) ?_); (with_reducible refine i_L5 ?_); (with_reducible refine i_in (by assumption) (by omega) (by omega) ?_); (with_reducible refine i_L1 ?_); (rw [y1]); (with_reducible refine i_f (by omega) ?_); (with_reducible refine i_up (i_Inc5 ?_)); rw [zx_inc (by omega)]; simp only [w_set0, w_set1, w_setn0, w_setn1])
        exact hX _ _ ⟨⟨_, rfl⟩, rfl⟩
    · rintro ρ M1 X ⟨⟨l, rfl⟩, rfl⟩
      by_cases h : N < wc
      · obtain ⟨y1, y2, y3⟩ := h3 N h
        have e := of_decide_eq_true (z2 h)
        rw [e] at y1 y2 y3
        rw [decide_eq_true h, if_pos rfl] at hk
        ((with_reducible refine i_turn (i_cI_lt (i_L5 (i_F (i_A0 ?_))))); (with_reducible refine i_fld (by assumption) ?_); (rw [h1]); simp only [w_set0, w_set1, w_setn0, w_setn1]; (with_reducible refine i_t (by omega) ?_); (with_reducible refine i_If (i_cAnd (i_cAnd (i_cI_eq (i_IA (i_FR (i_A0 ?_))))))); (with_reducible refine i_fldR (by assumption) ?_); (with_reducible refine i_L5 ?_); (with_reducible refine i_in (by assumption) (by omega) (by omega) ?_); (with_reducible refine i_L1 ?_); (rw [y1]); simp only [w_set0, w_set1, w_setn0, w_setn1]; (with_reducible refine i_t trivial ?_); (with_reducible refine i_cI_eq (i_IA (i_FR (i_A0 ?_)))); (with_reducible refine i_fldR (by assumption) ?_); (with_reducible refine i_L5 ?_); (with_reducible refine i_in (by assumption) (by omega) (by omega) ?_); (with_reducible refine i_L2 ?_); (rw [y2]); simp only [w_set0, w_set1, w_setn0, w_setn1]; (with_reducible refine i_t trivial ?_); (with_reducible refine i_cI_eq (i_IA (i_FR (i_A0 ?_)))); (with_reducible refine i_fldR (by assumption) ?_); (with_reducible refine i_L5 ?_); (with_reducible refine i_in (by assumption) (by omega) (by omega) ?_); (with_reducible refine i_L3 ?_); (rw [y3]); simp only [w_set0, w_set1, w_setn0, w_setn1]; (with_reducible refine i_t trivial ?_); (with_reducible refine i_Seq (i_sCall (i_as1 (i_A0 (i_as1 (i_I (i_as1 (i_L4 (i_as0 ?_))))))))); (with_reducible refine i_recv0 (by assumption) ?_))
        refine c_xblame hO hS (f := 3) rfl hFz hF (by decide) (by decide) hp2 (fun M2 f2 z4 => ⟨rfl, ?_⟩)
        (with_reducible refine i_RetV ?_)
        refine hk M2 (fun b j q => f2 b j (by omega)) ⟨wc, C, by rw [f2 _ _ (by omega)]; exact h1, by omega, fun j hj => by rw [f2 _ _ (by omega), f2 _ _ (by omega), f2 _ _ (by omega)]; exact h3 j hj, fun j hj => ?_, fun k hk2 => ?_, h7⟩ z4
        · obtain ⟨k, k1, k2⟩ := h5 j hj
          exact ⟨k, by omega, by rw [huwo k k1, huMe]; exact k2⟩
        · by_cases e9 : k = uk Z
          · exact ⟨N, h, by rw [e9, huwn, huMe, hmw]; exact e⟩
          · obtain ⟨j, j1, j2⟩ := h6 k (by omega)
            exact ⟨j, j1, by rw [huwo k (by omega), huMe]; exact j2⟩
      · ((with_reducible refine i_turn (i_cI_lt (i_L5 (i_F (i_A0 ?_))))); (with_reducible refine i_fld (by assumption) ?_); (rw [h1]); simp only [w_set0, w_set1, w_setn0, w_setn1]; (with_reducible refine i_f (by omega) ?_))
        exact ⟨⟨_, rfl⟩, by trivial, by omega⟩
  rintro ρ M1 ⟨⟨l, rfl⟩, rfl, hNw⟩
  rw [decide_eq_false (by omega), if_neg (by decide)] at hk
  have hnone : ∀ j, j < wc → C j ≠ m := fun j hj => of_decide_eq_false (z3 j (by omega))
  ((with_reducible refine i_If (i_cI_lt (i_F (i_A0 ?_)))); (with_reducible refine i_fld (by assumption) ?_); (with_reducible refine i_I ?_); (rw [h1]); (with_reducible refine i_t (by omega) ?_); (with_reducible refine i_Seq (i_sIA (i_FR (i_A0 ?_)))); (with_reducible refine i_fldR (by assumption) ?_); (with_reducible refine i_F (i_A0 ?_)); (with_reducible refine i_fld (by assumption) ?_); (with_reducible refine i_L1 ?_); (with_reducible refine i_in (by assumption) (by omega) (by omega) ?_); (with_reducible refine i_Seq (i_sIA (i_FR (i_A0 ?_)))); (with_reducible refine i_fldR (by assumption) ?_); (with_reducible refine i_F (i_A0 ?_)); (with_reducible refine i_fld (by assumption) ?_); (with_reducible refine i_L2 ?_); rw [zg_n _ _ _ (by omega)]; (with_reducible refine i_in (by assumption) (by omega) (by omega) ?_); (with_reducible refine i_Seq (i_sIA (i_FR (i_A0 ?_)))); (with_reducible refine i_fldR (by assumption) ?_); (with_reducible refine i_F (i_A0 ?_)); (with_reducible refine i_fld (by assumption) ?_); (with_reducible refine i_L3 ?_); rw [zg_n _ _ _ (by omega)]; rw [zg_n _ _ _ (by omega)]; (with_reducible refine i_in (by assumption) (by omega) (by omega) ?_); (with_reducible refine i_FO (i_A0 ?_)); (with_reducible refine i_fld (by assumption) ?_); (with_reducible refine i_I ?_); (with_reducible refine i_fld (by assumption) ?_); (with_reducible refine i_RetV ?_); rw [zg_n _ _ _ (by omega)]; rw [zg_n _ _ _ (by omega)]; rw [zg_n _ _ _ (by omega)]; (rw [h1]); rw [zx_inc (by omega)])
  refine hk _ (fun b j q => by rw [zg_o _ _ (by omega), zg_o _ _ (by omega), zg_o _ _ (by omega), zg_o _ _ (by omega)]) ⟨wc + 1, uup C wc m, zg_s _ _ _ _ _, by omega, fun j hj => ?_, fun j hj => ?_, fun k hk2 => ?_, fun i j hij hj => ?_⟩ ⟨by rw [zg_o _ _ (by omega), zg_o _ _ (by omega), zg_o _ _ (by omega), zg_o _ _ (by omega)]; exact hFz.1, by rw [zg_o _ _ (by omega), zg_o _ _ (by omega), zg_o _ _ (by omega), zg_o _ _ (by omega)]; exact hFz.2⟩
  · by_cases e : j = wc
    · subst e
      rw [uup_s]
      exact ⟨by rw [zg_n _ _ _ (by omega), zg_n _ _ _ (by omega), zg_n _ _ _ (by omega), zg_s], by rw [zg_n _ _ _ (by omega), zg_n _ _ _ (by omega), zg_s], by rw [zg_n _ _ _ (by omega), zg_s]⟩
    · rw [uup_n _ _ e]
      obtain ⟨y1, y2, y3⟩ := h3 j (by omega)
      exact ⟨by rw [zg_o _ _ (by omega), zg_o _ _ (by omega), zg_o _ _ (by omega), zg_o _ _ (by omega)]; exact y1, by rw [zg_o _ _ (by omega), zg_o _ _ (by omega), zg_o _ _ (by omega), zg_o _ _ (by omega)]; exact y2, by rw [zg_o _ _ (by omega), zg_o _ _ (by omega), zg_o _ _ (by omega), zg_o _ _ (by omega)]; exact y3⟩
  · by_cases e : j = wc
    · exact ⟨uk Z, by omega, by rw [e, uup_s, huwn, huMe, hmw]⟩
    · obtain ⟨k, k1, k2⟩ := h5 j (by omega)
      exact ⟨k, by omega, by rw [uup_n _ _ e, huwo k k1, huMe]; exact k2⟩
  · by_cases e : k = uk Z
    · exact ⟨wc, by omega, by rw [e, uup_s, huwn, huMe, hmw]⟩
    · obtain ⟨j, j1, j2⟩ := h6 k (by omega)
      exact ⟨j, by omega, by rw [uup_n _ _ (by omega), huwo k (by omega), huMe]; exact j2⟩
  · by_cases e : j = wc
    · rw [e, uup_s, uup_n _ _ (by omega)]
      exact hnone i (by omega)
    · rw [uup_n _ _ e, uup_n _ _ (by omega)]
      exact h7 i j hij (by omega)
theorem usd_aw (Z : zZt) (w : Nat × Nat × Nat) (p a b : Nat) : usd (uaw Z w p) a b = (usd Z a b || usy (uo Z) (ul Z) w a b) := by
  show zex (fun k => usy (uo Z) (ul Z) (uup (uw Z) (uk Z) w k) a b) (uk Z + 1) = _
  rw [zex_su]
  congr 1
  · exact zex_ext fun k hk => by rw [uup_n _ _ (by omega)]
  · rw [uup_s]
/-- a word was told: what it says came in -/
theorem cZt.aw {M3 M4 M5 : zMem} {n p : Nat} {Z3 : zZt} {w : Nat × Nat × Nat} (h : cZt M3 n Z3) (f4 : ∀ b j, ¬ (b = ((92 : Nat) : Int) ∧ (j = 13 ∨ j = 14 ∨ j = 15) ∨ ((98 : Nat) : Int) ≤ b ∧ b ≤ ((100 : Nat) : Int)) → M4 b j = M3 b j) (hw : cZw M4 (uaw Z3 w p)) (hf : cZf M4 (if zex (fun k => decide (uw Z3 k = w)) (uk Z3) = true then min (uF Z3) (8 * p + 3) else uF Z3)) (f5 : ∀ b j, ¬ b = ((102 : Nat) : Int) → M5 b j = M4 b j) {T : Nat → Nat → Bool} (hs : zNR M5 101 n T) (e : ∀ a b, T a b = (decide (a ≠ b) && (usd Z3 a b || usy (uo Z3) (ul Z3) w a b))) : cZt M5 n (uaw Z3 w p) := by
  obtain ⟨⟨a1, a2, a3⟩, b, c, d, g⟩ := h
  refine ⟨⟨by rw [f5 _ _ (by omega), f4 _ _ (by omega)]; exact a1, hs.ext (fun x y _ _ => by rw [e, usd_aw]), ⟨by rw [f5 _ _ (by omega), f4 _ _ (by omega)]; exact a3.1, fun x hx => by rw [f5 _ _ (by omega), f4 _ _ (by omega)]; exact a3.2 x hx⟩⟩, b.to (fun b j q => by rw [f5 _ _ (by omega), f4 _ _ (by omega)]) rfl, c.to (fun b j q => by rw [f5 _ _ (by omega), f4 _ _ (by omega)]) rfl, hw.to (fun b j q => f5 b j (by omega)) rfl (fun _ _ => rfl), ⟨by rw [f5 _ _ (by omega)]; exact hf.1, by rw [f5 _ _ (by omega)]; exact hf.2⟩⟩
theorem zcrs_say {n : Nat} {T y : Bool} {s t : Nat → Bool} {p q : Nat} {u : Bool} (hT : T = (decide (p ≠ q) && u)) (hy : y = ((s p && t q) || (t p && s q))) (hp : y = true → p < n) : (T || (decide (p < n) && (!decide (q = p)) && ((s p && t q) || (t p && s q)))) = (decide (p ≠ q) && (u || y)) := by
  rw [hT, ← hy]
  by_cases e : p = q
  · subst e
    simp
  · have e1 : decide (p ≠ q) = true := decide_eq_true e
    have e2 : decide (q = p) = false := decide_eq_false (fun z => e z.symm)
    rw [e1, e2]
    cases y
    · simp
    · rw [show decide (p < n) = true from decide_eq_true (hp rfl)]
      simp
theorem zchn_iff {T : Nat → Nat → Bool} {w : Nat → Nat} {f k p q : Nat} : zchn T w f k p q = true ↔ T p q = true ∨ ∃ j, j < k ∧ (p = w (f + j) ∧ q = w (f + j + 1) ∨ p = w (f + j + 1) ∧ q = w (f + j)) := by
  induction k with
  | zero => exact ⟨Or.inl, fun h => h.elim id (fun ⟨j, h, _⟩ => absurd h (Nat.not_lt_zero _))⟩
  | succ k ih =>
    rw [zchn_su, Bool.or_eq_true, Bool.or_eq_true, Bool.and_eq_true, Bool.and_eq_true, decide_eq_true_eq, decide_eq_true_eq, decide_eq_true_eq, decide_eq_true_eq, ih]
    constructor
    · rintro (((h | ⟨j, h1, h2⟩) | h) | h)
      · exact Or.inl h
      · exact Or.inr ⟨j, by omega, h2⟩
      · exact Or.inr ⟨k, by omega, Or.inl h⟩
      · exact Or.inr ⟨k, by omega, Or.inr h⟩
    · rintro (h | ⟨j, h1, h2⟩)
      · exact Or.inl (Or.inl (Or.inl h))
      · by_cases e : j = k
        · subst e
          rcases h2 with h2 | h2
          · exact Or.inl (Or.inr h2)
          · exact Or.inr h2
        · exact Or.inl (Or.inl (Or.inr ⟨j, by omega, h2⟩))
def urw (Z : zZt) (b k : Nat) : Nat := zfind (fun q => decide (uo Z q = b ∧ ul Z q = k)) 16
theorem urw_ok {n : Nat} {Z : zZt} {b k : Nat} (h : uO2 n Z) (hb : b < ub Z) (hk : k < zSz (uo Z) 16 b) : urw Z b k < 16 ∧ uo Z (urw Z b k) = b ∧ ul Z (urw Z b k) = k := by
  obtain ⟨q, q1, q2, q3⟩ := h.2.2 b k hb hk
  obtain ⟨z1, z2, z3⟩ := zfind_ok (fun q => decide (uo Z q = b ∧ ul Z q = k)) 16
  have hlt : urw Z b k < 16 := by
    rcases Nat.lt_or_ge (urw Z b k) 16 with w | w
    · exact w
    · have := z3 q (by unfold urw at w; omega)
      rw [decide_eq_true ⟨q2, q3⟩] at this
      cases this
  exact ⟨hlt, of_decide_eq_true (z2 hlt)⟩
theorem usd_lt {n : Nat} {Z : zZt} {w : Nat × Nat × Nat} {p q : Nat} (h2 : uO2 n Z) (hub : ub Z < 999) (hw : uWk n Z w) (h : usy (uo Z) (ul Z) w p q = true) : p < n ∧ q < n := by
  have key : ∀ x, uo Z x < ub Z → x < n := fun x hx => (h2.1 x (by omega)).2.1
  unfold usy at h
  unfold uWk at hw
  split at h
  · have := of_decide_eq_true h
    exact ⟨key p (by omega), key q (by omega)⟩
  · split at h
    · have := of_decide_eq_true h
      exact ⟨key p (by omega), key q (by omega)⟩
    · split at h
      · have := of_decide_eq_true h
        rcases this with ⟨a, b⟩ | ⟨a, b⟩
        · exact ⟨by omega, key q (by omega)⟩
        · exact ⟨key p (by omega), by omega⟩
      · have := of_decide_eq_true h
        exact ⟨key p (by omega), key q (by omega)⟩
theorem upb_z (Z : zZt) (b : Nat) : upb Z (b + 1) = upb Z b + zSz (uo Z) 16 b := upb_su (uo Z) b
set_option maxHeartbeats 1600000 in
theorem c_takeOfBox {O : zOm} (hO : zWld O) (hS : zS O = zmS zC0) {i s n k : Nat} {ki : Int} {B : Nat → Nat} {Z : zZt} {M : zMem} {K : Option zV → zMem → Prop} (hki : ki = ((k : Nat) : Int)) (hs : s ≤ 2000) (hn16 : n ≤ 16) (hq0 : zqs B s (zhh B s) = 0) (hi : i < zhh B s) (hq : zqs B s i = 0) (hK : zKi B s i = 4 ∨ zKi B s i = 5) (hk03 : k = 0 ∨ k = 3) (hA : uAll B s n Z i) (hT : cTa M B s) (hZ : cZt M n Z)
    (hk : ∀ M', cXF M M' → cZt M' n (us1 B s k Z i) → K none M') : zR O F_Text_takeOfBox [(2, ((92 : Nat) : Int)), (2, ((86 : Nat) : Int)), (0, ((i : Nat) : Int)), (0, ki)] M K := by
  subst hki
  have h400 := (zhh_ok B s).1
  have n100 := zNet101 hS
  have n100o := n100.2.2.2
  have hp := fun j => Nat.le_trans (zps_le B s j) hs
  obtain ⟨g1, g2, g3, g4⟩ := zgr_45 hq0 hi hq hK
  obtain ⟨w40, u100⟩ := hA.w40 hi (by omega)
  have hFk : uFk (uF Z) := hA.1.2.2.1
  have v1 := hT.v0 (show i + 1 < zhh B s by omega) g1
  have p1 := (hT.2.2 (i + 1) (by omega)).2.1
  have p0 := (hT.2.2 i hi).2.1
  have hrk := urk_le Z (ub Z)
  unfold us1 at hk
  generalize zVi B s (i + 1) = v at hk v1
  apply r_Text_takeOfBox hO
  unfold B_Text_takeOfBox
  have f92_1 := zf_92_1 hS; have a94 := zCA (a := 94) (ty := .int) (n := 100) hS rfl; have f86_2 := zf_86_2 hS; have a89 := zCA (a := 89) (ty := .int) (n := 400) hS rfl; have f92_7 := zf_92_7 hS; have f92_3 := zf_92_3 hS; have a97 := zCA (a := 97) (ty := .int) (n := 400) hS rfl; have f92_2 := zf_92_2 hS; have a95 := zCA (a := 95) (ty := .int) (n := 100) hS rfl; have f92_16 := zf_92_16 hS; have a96 := zCA (a := 96) (ty := .int) (n := 100) hS rfl; have z86 := zo_86 hS; have z92 := zo_92 hS
  ((with_reducible refine i_Seq (i_Seq (i_Set (i_Call (i_as1 (i_A0 (i_as1 (i_A1 (i_as1 (i_Add (i_L2 (i_I (i_as0 ?_))))))))))))); (with_reducible refine i_recv0 (by assumption) ?_); rw [zx_inc (by omega)]; simp only [w_set0, w_set1, w_setn0, w_setn1])
  refine c_boxNamed hO hS hZ.2.1 hZ.2.2.2.2 u100 hFk (by omega) v1 p1 (hp _) (fun M1 f1 z1 => ⟨_, rfl, ?_⟩)
  by_cases e : ufn Z v < ub Z
  · rw [if_pos e] at hk z1
    rw [show uRI Z v = ((urk Z (ufn Z v) : Nat) : Int) from if_pos e]
    have hZ1 : cZt M1 n Z := hZ.bl f1 rfl rfl rfl z1
    have hnew := ufn_new e
    have hwk : uWk n Z (k, ufn Z v, 0) := Or.inl ⟨hk03, e, hnew, rfl⟩
    have hrl := zcnt_lt (zNew (un Z)) e hnew
    obtain ⟨b1, b2, b3, b4⟩ := hZ1.2.1.2 _ e hnew
    generalize ufn Z v = x at *
    have hrl2 : urk Z x < urk Z (ub Z) := hrl
    have p11 : M1 ((89 : Nat) : Int) ((i + 1 : Nat) : Int) = ((zps B s (i + 1) : Nat) : Int) := by rw [f1 _ _ (by omega)]; exact p1
    have p01 : M1 ((89 : Nat) : Int) ((i : Nat) : Int) = ((zps B s i : Nat) : Int) := by rw [f1 _ _ (by omega)]; exact p0
    have hsz : zcnt (fun q => decide (uo Z q = x)) 16 = zSz (uo Z) 16 x := rfl
    have hszl := zSz_le (uo Z) 16 x
    have hm1 : (uM Z (k, x, 0)).1 = k := by unfold uM; (try dsimp only); rw [if_neg (by omega)]
    have hm2 : (uM Z (k, x, 0)).2.1 = urk Z x := by unfold uM; (try dsimp only); rw [if_neg (by omega)]
    have hm3 : (uM Z (k, x, 0)).2.2 = 0 := by unfold uM; (try dsimp only); rw [if_neg (by omega)]; (try dsimp only); rw [if_neg (by omega)]
    -- behind the fault of a box that is too small
    have tail : ∀ (M2 : zMem) (Z2 : zZt), cXF M M2 → cZt M2 n Z2 → Z2.1 = Z.1 → Z2.2.1 = Z.2.1 → uFk (uF Z2) → (∀ M', cXF M M' → cZt M' n (uaw Z2 (k, x, 0) (zps B s i)) → K none M') → ∀ {K2 : Option zV → zMem → Prop}, (∀ M4, (cZt M2 n Z2 ∧ (∀ b j, ¬ (b = ((92 : Nat) : Int) ∧ (j = 13 ∨ j = 14 ∨ j = 15) ∨ ((98 : Nat) : Int) ≤ b ∧ b ≤ ((100 : Nat) : Int)) → M4 b j = M2 b j) ∧ cZw M4 (uaw Z2 (k, x, 0) (zps B s i)) ∧ cZf M4 (if zex (fun j => decide (uw Z2 j = (k, x, 0))) (uk Z2) = true then min (uF Z2) (8 * zps B s i + 3) else uF Z2)) → K2 none M4) → zR O F_Text_takeWord [(2, ((92 : Nat) : Int)), (0, ((k : Nat) : Int)), (0, ((urk Z x : Nat) : Int)), (0, 0), (0, ((zps B s i : Nat) : Int))] M2 K2 := fun M2 Z2 f2 z2 e1 e2 e3 _ K2 h => by
      have hu : ∀ w, uM Z2 w = uM Z w := uM_e e1
      refine c_takeWord hO hS (n := n) (Z := Z2) (w := (k, x, 0)) (by rw [hu, hm1]) (by rw [hu, hm2]) (by rw [hu, hm3]; rfl) z2.2.2.2.1 z2.2.2.2.2 e3 (by unfold uk; rw [e2]; exact w40) (fun c hc => ?_) ?_ (hp _) (fun M4 f4 w4 z4 => h M4 ⟨z2, f4, w4, z4⟩)
      · have := hA.1.2.1 c (by unfold uk at hc ⊢; rw [e2] at hc; exact hc)
        unfold uWk un ub uw at this ⊢
        rw [e1, e2]
        exact this
      · unfold uWk un ub at hwk ⊢
        rw [e1]
        exact hwk
    -- what the word says comes in
    have says : ∀ (M2 M4 : zMem) (Z2 : zZt), cXF M M2 → Z2.1 = Z.1 → (∀ M', cXF M M' → cZt M' n (uaw Z2 (k, x, 0) (zps B s i)) → K none M') → (cZt M2 n Z2 ∧ (∀ b j, ¬ (b = ((92 : Nat) : Int) ∧ (j = 13 ∨ j = 14 ∨ j = 15) ∨ ((98 : Nat) : Int) ≤ b ∧ b ≤ ((100 : Nat) : Int)) → M4 b j = M2 b j) ∧ cZw M4 (uaw Z2 (k, x, 0) (zps B s i)) ∧ cZf M4 (if zex (fun j => decide (uw Z2 j = (k, x, 0))) (uk Z2) = true then min (uF Z2) (8 * zps B s i + 3) else uF Z2)) →
        (k = 0 → zR O F_Net_cross [(2, ((101 : Nat) : Int)), (0, zmk (fun q => decide (uo Z q = x))), (0, zmk (fun q => decide (uo Z q = x)))] M4 (fun v M5 => v = none ∧ K none M5)) ∧ (k = 3 → zR O F_Net_chain [(2, ((101 : Nat) : Int)), (2, ((97 : Nat) : Int)), (0, ((upb Z x : Nat) : Int)), (0, ((zSz (uo Z) 16 x : Nat) : Int))] M4 (fun v M5 => v = none ∧ K none M5)) := fun M2 M4 Z2 f2 e1 hk2 ⟨z2, f4, w4, z4⟩ => by
      have eo : uo Z2 = uo Z := by unfold uo; rw [e1]
      have el : ul Z2 = ul Z := by unfold ul; rw [e1]
      have hN4 : zNR M4 101 n (fun p q => decide (p ≠ q) && usd Z2 p q) := ⟨by rw [f4 _ _ (by omega)]; exact z2.1.2.1.1, fun p hp2 => by rw [f4 _ _ (by omega)]; exact z2.1.2.1.2 p hp2⟩
      refine ⟨fun hk0 => s_Net_cross hO n100 hN4 hn16 (fun M5 f5 h5 => ⟨rfl, ?_⟩), fun hk3 => ?_⟩
      · have f5' : ∀ b j, ¬ b = ((102 : Nat) : Int) → M5 b j = M4 b j := fun b j q => by rw [f5 b (by simp <;> omega)]
        refine hk2 M5 (fun b j q => by rw [f5' b j (by omega), f4 b j (by omega)]; exact f2 b j q) (z2.aw f4 w4 z4 f5' h5 (fun p q => ?_))
        rw [eo, el]
        refine zcrs_say (n := n) (T := decide (p ≠ q) && usd Z2 p q) (s := fun q => decide (uo Z q = x)) (t := fun q => decide (uo Z q = x)) (u := usd Z2 p q) rfl ?_ (fun hy => ?_)
        · unfold usy
          rw [if_pos hk0]
          (try dsimp only)
          rw [Bool.eq_iff_iff]
          simp only [Bool.or_eq_true, Bool.and_eq_true, decide_eq_true_eq]
          omega
        · exact (usd_lt hA.1.1 (by omega) hwk hy).1
      · have hR4 : cZo M4 Z := by
          have := z2.2.2.1
          refine cZo.to (Z := Z2) this (fun b j q => f4 b j (by omega)) e1.symm
        have hup := upb_z Z x
        have hle := zcnt_le (fun q => decide (uo Z q < x + 1)) 16
        have hle2 : upb Z (x + 1) ≤ 16 := hle
        refine s_Net_chain hO n100 hN4 (zCA (a := 97) (ty := .int) (n := 400) hS rfl) (w := fun j => urw Z x (j - upb Z x)) (fun j j1 j2 => ?_) (fun j j1 j2 z => by
          (try dsimp only at z)
          have y1 := (urw_ok hA.1.1 e (show j - upb Z x < zSz (uo Z) 16 x by omega)).2.2
          have y2 := (urw_ok hA.1.1 e (show j + 1 - upb Z x < zSz (uo Z) 16 x by omega)).2.2
          rw [← z] at y2
          omega) (by omega) (by decide) (by decide) (fun M5 f5 h5 => ⟨rfl, ?_⟩)
        · obtain ⟨y1, y2, y3⟩ := urw_ok hA.1.1 e (show j - upb Z x < zSz (uo Z) 16 x by omega)
          have := hR4.2.2 _ y1 (by omega)
          rw [y2, y3, show upb Z x + (j - upb Z x) = j by omega] at this
          exact ⟨this, y1⟩
        · have f5' : ∀ b j, ¬ b = ((102 : Nat) : Int) → M5 b j = M4 b j := fun b j q => by rw [f5 b (by simp <;> omega)]
          refine hk2 M5 (fun b j q => by rw [f5' b j (by omega), f4 b j (by omega)]; exact f2 b j q) (z2.aw f4 w4 z4 f5' h5 (fun p q => ?_))
          rw [eo, el, Bool.eq_iff_iff, zchn_iff]
          have husy : usy (uo Z) (ul Z) (k, x, 0) p q = decide (uo Z p = x ∧ uo Z q = x ∧ (ul Z p = ul Z q + 1 ∨ ul Z q = ul Z p + 1)) := by
            unfold usy
            rw [if_neg (by (try dsimp only); omega), if_neg (by (try dsimp only); omega), if_neg (by (try dsimp only); omega)]
          rw [husy, Bool.and_eq_true, Bool.and_eq_true, Bool.or_eq_true, decide_eq_true_eq, decide_eq_true_eq]
          have hw : ∀ j, urw Z x (upb Z x + j - upb Z x) = urw Z x j := fun j => by rw [Nat.add_sub_cancel_left]
          constructor
          · rintro (⟨h1, h2⟩ | ⟨j, j1, j2⟩)
            · exact ⟨h1, Or.inl h2⟩
            · rw [hw, show upb Z x + j + 1 = upb Z x + (j + 1) by omega, hw] at j2
              obtain ⟨y1, y2, y3⟩ := urw_ok hA.1.1 e (show j < zSz (uo Z) 16 x by omega)
              obtain ⟨y4, y5, y6⟩ := urw_ok hA.1.1 e (show j + 1 < zSz (uo Z) 16 x by omega)
              rcases j2 with ⟨j3, j4⟩ | ⟨j3, j4⟩
              · rw [j3, j4]
                exact ⟨fun z => by rw [z] at y3; omega, Or.inr ⟨y2, y5, Or.inr (by rw [y3, y6])⟩⟩
              · rw [j3, j4]
                exact ⟨fun z => by rw [z] at y6; omega, Or.inr ⟨y5, y2, Or.inl (by rw [y3, y6])⟩⟩
          · rintro ⟨h1, h2 | ⟨h2, h3, h4⟩⟩
            · exact Or.inl ⟨h1, h2⟩
            · have lp := (hA.1.1.1 p (by omega)).2.2
              have lq := (hA.1.1.1 q (by omega)).2.2
              rw [h2] at lp
              rw [h3] at lq
              have inj := hA.1.1.2.1
              have eq1 : ∀ r, uo Z r = x → ul Z r < zSz (uo Z) 16 x → r = urw Z x (ul Z r) := fun r r1 r2 => by
                obtain ⟨y1, y2, y3⟩ := urw_ok hA.1.1 e r2
                exact inj r _ (by omega) (by rw [y2, r1]) y3.symm
              refine Or.inr ?_
              rcases h4 with h4 | h4
              · refine ⟨ul Z q, by omega, Or.inr ⟨?_, ?_⟩⟩
                · rw [show upb Z x + ul Z q + 1 = upb Z x + (ul Z q + 1) by omega, hw, ← h4]
                  exact eq1 p h2 lp
                · rw [hw]; exact eq1 q h3 lq
              · refine ⟨ul Z p, by omega, Or.inl ⟨?_, ?_⟩⟩
                · rw [hw]; exact eq1 p h2 lp
                · rw [show upb Z x + ul Z p + 1 = upb Z x + (ul Z p + 1) by omega, hw, ← h4]
                  exact eq1 q h3 lq
    have hpin := fun (M4 M2 : zMem) (Z2 : zZt) (z2 : cZt M2 n Z2) (e1 : Z2.1 = Z.1) (f4 : ∀ b j, ¬ (b = ((92 : Nat) : Int) ∧ (j = 13 ∨ j = 14 ∨ j = 15) ∨ ((98 : Nat) : Int) ≤ b ∧ b ≤ ((100 : Nat) : Int)) → M4 b j = M2 b j) => show M4 ((94 : Nat) : Int) ((urk Z x : Nat) : Int) = zmk (fun q => decide (uo Z q = x)) ∧ M4 ((95 : Nat) : Int) ((urk Z x : Nat) : Int) = ((upb Z x : Nat) : Int) ∧ M4 ((96 : Nat) : Int) ((urk Z x : Nat) : Int) = ((zSz (uo Z) 16 x : Nat) : Int) from by
      have hb := cZb.to (Z' := Z) z2.2.1 (fun b j q => rfl) e1.symm
      obtain ⟨y1, y2, y3, y4⟩ := hb.2 x e hnew
      exact ⟨by rw [f4 _ _ (by omega)]; exact y2, by rw [f4 _ _ (by omega)]; exact y3, by rw [f4 _ _ (by omega)]; exact y4⟩
    by_cases e2 : zSz (uo Z) 16 x < 2
    · rw [if_pos e2] at hk
      ((with_reducible refine i_Seq (i_If (i_cI_eq (i_L4 (i_I ?_))))); (with_reducible refine i_f (by omega) ?_); (with_reducible refine i_Seq (i_If (i_cI_lt (i_Call (i_as1 (i_IA (i_FR (i_A0 ?_)))))))); (with_reducible refine i_fldR (by assumption) ?_); (with_reducible refine i_L4 ?_); (with_reducible refine i_in (by assumption) (by omega) (by omega) ?_); (with_reducible refine i_as0 (i_recv1 ?_)); (rw [b2]); (refine s_bitCount hO ⟨_, rfl, ?_⟩); (with_reducible refine i_I ?_); (rw [hsz]); (with_reducible refine i_t (by omega) ?_); (with_reducible refine i_sCall (i_as1 (i_A0 (i_as1 (i_I (i_as1 (i_IA (i_FR (i_A1 ?_))))))))); (with_reducible refine i_fldR (by assumption) ?_); (with_reducible refine i_Add (i_L2 (i_I ?_))); rw [zx_inc (by omega)]; (with_reducible refine i_in (by assumption) (by omega) (by omega) ?_); (with_reducible refine i_as0 ?_); (with_reducible refine i_recv0 (by assumption) ?_); (rw [p11]))
      refine c_xblame hO hS (f := 5) rfl z1 hFk (by decide) (by decide) (hp _) (fun M2 f2 z2 => ⟨rfl, ?_⟩)
      have hZ2 : cZt M2 n (ubl Z (8 * zps B s (i + 1) + 5)) := hZ1.bl f2 rfl rfl rfl z2
      have p02 : M2 ((89 : Nat) : Int) ((i : Nat) : Int) = ((zps B s i : Nat) : Int) := by rw [f2 _ _ (by omega)]; exact p01
      have f02 : cXF M M2 := (cXF.bl f1).tr (cXF.bl f2)
      ((with_reducible refine i_Seq (i_sCall (i_as1 (i_A0 (i_as1 (i_L3 (i_as1 (i_L4 (i_as1 (i_I (i_as1 (i_IA (i_FR (i_A1 ?_)))))))))))))); (with_reducible refine i_fldR (by assumption) ?_); (with_reducible refine i_L2 ?_); (with_reducible refine i_in (by assumption) (by omega) (by omega) ?_); (with_reducible refine i_as0 ?_); (with_reducible refine i_recv0 (by assumption) ?_); (rw [p02]))
      refine tail M2 _ f02 hZ2 rfl rfl (uFk_min hFk (hp _) (by decide) (by decide)) hk (fun M4 h4 => ⟨rfl, ?_⟩)
      obtain ⟨s1, s2⟩ := says M2 M4 (ubl Z (8 * zps B s (i + 1) + 5)) f02 rfl hk h4
      obtain ⟨q1, q2, q3⟩ := hpin M4 M2 (ubl Z (8 * zps B s (i + 1) + 5)) hZ2 rfl h4.2.1
      rcases hk03 with e3 | e3
      · ((with_reducible refine i_Ite (i_cZ_eq (i_L3 ?_))); (with_reducible refine i_t (by omega) ?_); (with_reducible refine i_sCall (i_as1 (i_FR (i_A0 ?_)))); (with_reducible refine i_fldR (by assumption) ?_); (with_reducible refine i_as1 (i_IA (i_FR (i_A0 ?_)))); (with_reducible refine i_fldR (by assumption) ?_); (with_reducible refine i_L4 ?_); (with_reducible refine i_in (by assumption) (by omega) (by omega) ?_); (with_reducible refine i_as1 (i_IA (i_FR (i_A0 ?_)))); (with_reducible refine i_fldR (by assumption) ?_); (with_reducible refine i_L4 ?_); (with_reducible refine i_in (by assumption) (by omega) (by omega) ?_); (with_reducible refine i_as0 ?_); (with_reducible refine i_recv0 (by assumption) ?_); (rw [q1]))
        refine (s1 e3).mono (fun v M5 h5 => ⟨h5.1, ?_⟩)
        (with_reducible refine i_RetV ?_)
        exact h5.2
      · ((with_reducible refine i_Ite (i_cZ_eq (i_L3 ?_))); (with_reducible refine i_f (by omega) ?_); (with_reducible refine i_sCall (i_as1 (i_FR (i_A0 ?_)))); (with_reducible refine i_fldR (by assumption) ?_); (with_reducible refine i_as1 (i_FR (i_A0 ?_))); (with_reducible refine i_fldR (by assumption) ?_); (with_reducible refine i_as1 (i_IA (i_FR (i_A0 ?_)))); (with_reducible refine i_fldR (by assumption) ?_); (with_reducible refine i_L4 ?_); (with_reducible refine i_in (by assumption) (by omega) (by omega) ?_); (with_reducible refine i_as1 (i_IA (i_FR (i_A0 ?_)))); (with_reducible refine i_fldR (by assumption) ?_); (with_reducible refine i_L4 ?_); (with_reducible refine i_in (by assumption) (by omega) (by omega) ?_); (with_reducible refine i_as0 ?_); (with_reducible refine i_recv0 (by assumption) ?_); (rw [q2]); (rw [q3]))
        refine (s2 e3).mono (fun v M5 h5 => ⟨h5.1, ?_⟩)
        (with_reducible refine i_RetV ?_)
        exact h5.2
    · rw [if_neg e2] at hk
      have f02 : cXF M M1 := cXF.bl f1
      ((with_reducible refine i_Seq (i_If (i_cI_eq (i_L4 (i_I ?_))))); (with_reducible refine i_f (by omega) ?_); (with_reducible refine i_Seq (i_If (i_cI_lt (i_Call (i_as1 (i_IA (i_FR (i_A0 ?_)))))))); (with_reducible refine i_fldR (by assumption) ?_); (with_reducible refine i_L4 ?_); (with_reducible refine i_in (by assumption) (by omega) (by omega) ?_); (with_reducible refine i_as0 (i_recv1 ?_)); (rw [b2]); (refine s_bitCount hO ⟨_, rfl, ?_⟩); (with_reducible refine i_I ?_); (rw [hsz]); (with_reducible refine i_f (by omega) ?_); (with_reducible refine i_Seq (i_sCall (i_as1 (i_A0 (i_as1 (i_L3 (i_as1 (i_L4 (i_as1 (i_I (i_as1 (i_IA (i_FR (i_A1 ?_)))))))))))))); (with_reducible refine i_fldR (by assumption) ?_); (with_reducible refine i_L2 ?_); (with_reducible refine i_in (by assumption) (by omega) (by omega) ?_); (with_reducible refine i_as0 ?_); (with_reducible refine i_recv0 (by assumption) ?_); (rw [p01]))
      refine tail M1 Z f02 hZ1 rfl rfl hFk hk (fun M4 h4 => ⟨rfl, ?_⟩)
      obtain ⟨s1, s2⟩ := says M1 M4 Z f02 rfl hk h4
      obtain ⟨q1, q2, q3⟩ := hpin M4 M1 Z hZ1 rfl h4.2.1
      rcases hk03 with e3 | e3
      · ((with_reducible refine i_Ite (i_cZ_eq (i_L3 ?_))); (with_reducible refine i_t (by omega) ?_); (with_reducible refine i_sCall (i_as1 (i_FR (i_A0 ?_)))); (with_reducible refine i_fldR (by assumption) ?_); (with_reducible refine i_as1 (i_IA (i_FR (i_A0 ?_)))); (with_reducible refine i_fldR (by assumption) ?_); (with_reducible refine i_L4 ?_); (with_reducible refine i_in (by assumption) (by omega) (by omega) ?_); (with_reducible refine i_as1 (i_IA (i_FR (i_A0 ?_)))); (with_reducible refine i_fldR (by assumption) ?_); (with_reducible refine i_L4 ?_); (with_reducible refine i_in (by assumption) (by omega) (by omega) ?_); (with_reducible refine i_as0 ?_); (with_reducible refine i_recv0 (by assumption) ?_); (rw [q1]))
        refine (s1 e3).mono (fun v M5 h5 => ⟨h5.1, ?_⟩)
        (with_reducible refine i_RetV ?_)
        exact h5.2
      · ((with_reducible refine i_Ite (i_cZ_eq (i_L3 ?_))); (with_reducible refine i_f (by omega) ?_); (with_reducible refine i_sCall (i_as1 (i_FR (i_A0 ?_)))); (with_reducible refine i_fldR (by assumption) ?_); (with_reducible refine i_as1 (i_FR (i_A0 ?_))); (with_reducible refine i_fldR (by assumption) ?_); (with_reducible refine i_as1 (i_IA (i_FR (i_A0 ?_)))); (with_reducible refine i_fldR (by assumption) ?_); (with_reducible refine i_L4 ?_); (with_reducible refine i_in (by assumption) (by omega) (by omega) ?_); (with_reducible refine i_as1 (i_IA (i_FR (i_A0 ?_)))); (with_reducible refine i_fldR (by assumption) ?_); (with_reducible refine i_L4 ?_); (with_reducible refine i_in (by assumption) (by omega) (by omega) ?_); (with_reducible refine i_as0 ?_); (with_reducible refine i_recv0 (by assumption) ?_); (rw [q2]); (rw [q3]))
        refine (s2 e3).mono (fun v M5 h5 => ⟨h5.1, ?_⟩)
        (with_reducible refine i_RetV ?_)
        exact h5.2
  · rw [if_neg e] at hk z1
    rw [show uRI Z v = -1 from if_neg e]
    ((with_reducible refine i_Seq (i_If (i_cI_eq (i_L4 (i_I ?_))))); simp only [w_set0, w_set1, w_setn0, w_setn1]; (with_reducible refine i_t trivial ?_); (with_reducible refine i_RetV ?_))
    exact hk M1 (cXF.bl f1) (hZ.bl (Z' := ubl Z (8 * zps B s (i + 1) + 4)) f1 rfl rfl rfl z1)
end
section
-- part k9.cpair.lean.txt
/-! ===== sides, stars, pairs told, all tells: the class ===== -/
/-- what a word of two sets of posts says comes in -/
theorem c_crossSay {O : zOm} (hO : zWld O) (hS : zS O = zmS zC0) {n p : Nat} {M2 M4 : zMem} {Z2 : zZt} {w : Nat × Nat × Nat} {s t : Nat → Bool} {K2 : Option zV → zMem → Prop} (hn16 : n ≤ 16) (z2 : cZt M2 n Z2) (f4 : ∀ b j, ¬ (b = ((92 : Nat) : Int) ∧ (j = 13 ∨ j = 14 ∨ j = 15) ∨ ((98 : Nat) : Int) ≤ b ∧ b ≤ ((100 : Nat) : Int)) → M4 b j = M2 b j) (w4 : cZw M4 (uaw Z2 w p)) (z4 : cZf M4 (if zex (fun k => decide (uw Z2 k = w)) (uk Z2) = true then min (uF Z2) (8 * p + 3) else uF Z2))
    (hu : ∀ x y, usy (uo Z2) (ul Z2) w x y = ((s x && t y) || (t x && s y))) (hlt : ∀ x y, usy (uo Z2) (ul Z2) w x y = true → x < n) (hk : ∀ M5, cXF M2 M5 → cZt M5 n (uaw Z2 w p) → K2 none M5) : zR O F_Net_cross [(2, ((101 : Nat) : Int)), (0, zmk s), (0, zmk t)] M4 K2 := by
  have n100 := zNet101 hS
  have hN4 : zNR M4 101 n (fun p q => decide (p ≠ q) && usd Z2 p q) := ⟨by rw [f4 _ _ (by omega)]; exact z2.1.2.1.1, fun p hp2 => by rw [f4 _ _ (by omega)]; exact z2.1.2.1.2 p hp2⟩
  refine s_Net_cross hO n100 hN4 hn16 (fun M5 f5 h5 => ?_)
  have f5' : ∀ b j, ¬ b = ((102 : Nat) : Int) → M5 b j = M4 b j := fun b j q => by rw [f5 b (by simp <;> omega)]
  exact hk M5 (fun b j q => by rw [f5' b j (by omega), f4 b j (by omega)]) (z2.aw f4 w4 z4 f5' h5 (fun x y => zcrs_say rfl (hu x y) (hlt x y)))
theorem urk_lt {Z : zZt} {a b : Nat} (ha : zNew (un Z) a = true) (h : a < b) : urk Z a < urk Z b := zcnt_lt _ h ha
set_option maxHeartbeats 1600000 in
theorem c_xtakeSides {O : zOm} (hO : zWld O) (hS : zS O = zmS zC0) {i s n : Nat} {B : Nat → Nat} {Z : zZt} {M : zMem} {K : Option zV → zMem → Prop} (hs : s ≤ 2000) (hn16 : n ≤ 16) (hq0 : zqs B s (zhh B s) = 0) (hi : i < zhh B s) (hq : zqs B s i = 0) (hK : zKi B s i = 6) (hA : uAll B s n Z i) (hT : cTa M B s) (hZ : cZt M n Z)
    (hk : ∀ M', cXF M M' → cZt M' n (us2 B s Z i) → K none M') : zR O F_Text_takeSides [(2, ((92 : Nat) : Int)), (2, ((86 : Nat) : Int)), (0, ((i : Nat) : Int))] M K := by
  have h400 := (zhh_ok B s).1
  have n100o := (zNet101 hS).2.2.2
  have hp := fun j => Nat.le_trans (zps_le B s j) hs
  obtain ⟨g1, g2, g3, g4, g5⟩ := zgr_6 hq0 hi hq hK
  obtain ⟨w40, u100⟩ := hA.w40 hi (by omega)
  have hFk : uFk (uF Z) := hA.1.2.2.1
  have v1 := hT.v0 (show i + 1 < zhh B s by omega) g1
  have v2 := hT.v0 (show i + 2 < zhh B s by omega) g2
  have p1 := (hT.2.2 (i + 1) (by omega)).2.1
  have p2 := (hT.2.2 (i + 2) (by omega)).2.1
  have p0 := (hT.2.2 i hi).2.1
  have hrk := urk_le Z (ub Z)
  unfold us2 at hk
  (try dsimp only at hk)
  have hk1 := ukb_e Z (zVi B s (i + 1)) (zps B s (i + 1))
  have hk2 := ukb_e (ukb Z (zVi B s (i + 1)) (zps B s (i + 1))) (zVi B s (i + 2)) (zps B s (i + 2))
  have hfn : ufn (ukb Z (zVi B s (i + 1)) (zps B s (i + 1))) (zVi B s (i + 2)) = ufn Z (zVi B s (i + 2)) := by unfold ufn un ub; rw [hk1.1]
  have hub2 : ub (ukb Z (zVi B s (i + 1)) (zps B s (i + 1))) = ub Z := by unfold ub; rw [hk1.1]
  have hri : uRI (ukb Z (zVi B s (i + 1)) (zps B s (i + 1))) (zVi B s (i + 2)) = uRI Z (zVi B s (i + 2)) := by
    unfold uRI
    rw [hfn, hub2]
    unfold urk un
    rw [hk1.1]
  rw [hfn, hub2] at hk2
  generalize hZ2e : ukb (ukb Z (zVi B s (i + 1)) (zps B s (i + 1))) (zVi B s (i + 2)) (zps B s (i + 2)) = Z2 at hk hk2
  generalize ukb Z (zVi B s (i + 1)) (zps B s (i + 1)) = Z1 at hk1 hk2 hfn hub2 hri
  obtain ⟨a1, a2, a3, a4⟩ := hk1
  obtain ⟨b1, b2, b3, b4⟩ := hk2
  rw [a1] at b1
  rw [a2] at b2
  rw [a3] at b3
  have hF1 : uFk (uF Z1) := by
    rw [a4]
    split
    · exact hFk
    · exact uFk_min hFk (hp _) (by decide) (by decide)
  have hF2 : uFk (uF Z2) := by
    rw [b4]
    split
    · exact hF1
    · exact uFk_min hF1 (hp _) (by decide) (by decide)
  clear hZ2e
  generalize zVi B s (i + 1) = va at *
  generalize zVi B s (i + 2) = vb at *
  apply r_Text_takeSides hO
  unfold B_Text_takeSides
  have f86_2 := zf_86_2 hS; have a89 := zCA (a := 89) (ty := .int) (n := 400) hS rfl; have f92_7 := zf_92_7 hS; have f92_1 := zf_92_1 hS; have a94 := zCA (a := 94) (ty := .int) (n := 100) hS rfl; have z86 := zo_86 hS; have z92 := zo_92 hS
  ((with_reducible refine i_Seq (i_Seq (i_Set (i_Call (i_as1 (i_A0 (i_as1 (i_A1 (i_as1 (i_Add (i_L2 (i_I (i_as0 ?_))))))))))))); (with_reducible refine i_recv0 (by assumption) ?_); rw [zx_inc (by omega)]; simp only [w_set0, w_set1, w_setn0, w_setn1])
  refine c_boxNamed hO hS hZ.2.1 hZ.2.2.2.2 u100 hFk (by omega) v1 p1 (hp _) (fun M1 f1 z1 => ⟨_, rfl, ?_⟩)
  rw [← a4] at z1
  have hZ1 : cZt M1 n Z1 := hZ.bl f1 a1 a2 a3 z1
  ((with_reducible refine i_Seq (i_Set (i_Call (i_as1 (i_A0 (i_as1 (i_A1 (i_as1 (i_Add (i_L2 (i_I (i_as0 ?_)))))))))))); (with_reducible refine i_recv0 (by assumption) ?_); rw [zx_addc (by omega)]; simp only [w_set0, w_set1, w_setn0, w_setn1])
  refine c_boxNamed hO hS hZ1.2.1 z1 (by omega) hF1 (by omega) (by rw [f1 _ _ (by omega)]; exact v2) (by rw [f1 _ _ (by omega)]; exact p2) (hp _) (fun M2 f2 z2 => ⟨_, rfl, ?_⟩)
  rw [hfn, hub2, ← b4] at z2
  rw [hri]
  have hZ2 : cZt M2 n Z2 := hZ1.bl f2 (b1.trans a1.symm) (b2.trans a2.symm) (b3.trans a3.symm) z2
  have f12 : cXF M M2 := (cXF.bl f1).tr (cXF.bl f2)
  have p22 : M2 ((89 : Nat) : Int) ((i + 2 : Nat) : Int) = ((zps B s (i + 2) : Nat) : Int) := by rw [f12 _ _ (by omega)]; exact p2
  have p02 : M2 ((89 : Nat) : Int) ((i : Nat) : Int) = ((zps B s i : Nat) : Int) := by rw [f12 _ _ (by omega)]; exact p0
  have huo : uo Z2 = uo Z := by unfold uo; rw [b1]
  have hul : ul Z2 = ul Z := by unfold ul; rw [b1]
  by_cases e : ufn Z va < ub Z ∧ ufn Z vb < ub Z
  · rw [if_pos e] at hk
    rw [show uRI Z va = ((urk Z (ufn Z va) : Nat) : Int) from if_pos e.1, show uRI Z vb = ((urk Z (ufn Z vb) : Nat) : Int) from if_pos e.2]
    obtain ⟨ex, ey⟩ := e
    have nx := ufn_new ex
    have ny := ufn_new ey
    generalize ufn Z va = x at *
    generalize ufn Z vb = y at *
    have hrx := urk_lt nx ex
    have hry := urk_lt ny ey
    have hmk : ∀ (M3 : zMem) (Z3 : zZt), cZb M3 Z3 → Z3.1 = Z.1 → ∀ b, b < ub Z → zNew (un Z) b = true → M3 ((94 : Nat) : Int) ((urk Z b : Nat) : Int) = zmk (fun q => decide (uo Z q = b)) := fun M3 Z3 h e1 b hb hn => (((cZb.to (Z' := Z) h (fun _ _ _ => rfl) e1.symm).2 b hb hn).2.1)
    have hmono : ∀ a b, zNew (un Z) a = true → zNew (un Z) b = true → (min (urk Z a) (urk Z b) = urk Z (min a b) ∧ max (urk Z a) (urk Z b) = urk Z (max a b)) := fun a b _ _ => by
      rcases Nat.le_total a b with w | w
      · have := zcnt_mono (zNew (un Z)) w
        have h2 : urk Z a ≤ urk Z b := this
        rw [Nat.min_eq_left w, Nat.max_eq_right w, Nat.min_eq_left h2, Nat.max_eq_right h2]
        exact ⟨rfl, rfl⟩
      · have := zcnt_mono (zNew (un Z)) w
        have h2 : urk Z b ≤ urk Z a := this
        rw [Nat.min_eq_right w, Nat.max_eq_left w, Nat.min_eq_right h2, Nat.max_eq_left h2]
        exact ⟨rfl, rfl⟩
    obtain ⟨hmn, hmx⟩ := hmono x y nx ny
    have hwk : uWk n Z (1, min x y, max x y) := by
      refine Or.inr (Or.inl ⟨rfl, by (try dsimp only); omega, by (try dsimp only); omega, ?_, ?_⟩)
      · (try dsimp only)
        rcases Nat.le_total x y with w | w
        · rw [Nat.min_eq_left w]; exact nx
        · rw [Nat.min_eq_right w]; exact ny
      · (try dsimp only)
        rcases Nat.le_total x y with w | w
        · rw [Nat.max_eq_right w]; exact ny
        · rw [Nat.max_eq_left w]; exact nx
    have done : ∀ (M3 : zMem) (Z3 : zZt), cXF M M3 → cZt M3 n Z3 → Z3.1 = Z.1 → Z3.2.1 = Z.2.1 → uFk (uF Z3) → (∀ M', cXF M M' → cZt M' n (uaw Z3 (1, min x y, max x y) (zps B s i)) → K none M') →
        zR O F_Text_takeWord [(2, ((92 : Nat) : Int)), (0, 1), (0, ((min (urk Z x) (urk Z y) : Nat) : Int)), (0, ((max (urk Z x) (urk Z y) : Nat) : Int)), (0, ((zps B s i : Nat) : Int))] M3 (fun v M4 => v = none ∧ M4 ((94 : Nat) : Int) ((urk Z x : Nat) : Int) = zmk (fun q => decide (uo Z q = x)) ∧ M4 ((94 : Nat) : Int) ((urk Z y : Nat) : Int) = zmk (fun q => decide (uo Z q = y)) ∧ zR O F_Net_cross [(2, ((101 : Nat) : Int)), (0, zmk (fun q => decide (uo Z q = x))), (0, zmk (fun q => decide (uo Z q = y)))] M4 (fun v M5 => v = none ∧ K none M5)) := fun M3 Z3 f3 z3 c1 c2 c3 hk => by
      have hu : ∀ w, uM Z3 w = uM Z w := uM_e c1
      have eo : uo Z3 = uo Z := by unfold uo; rw [c1]
      have el : ul Z3 = ul Z := by unfold ul; rw [c1]
      refine c_takeWord hO hS (n := n) (Z := Z3) (w := (1, min x y, max x y)) (by rw [hu]; rfl) (by rw [hu, hmn]; rfl) (by rw [hu, hmx]; rfl) z3.2.2.2.1 z3.2.2.2.2 c3 (by unfold uk; rw [c2]; exact w40) (fun c hc => ?_) ?_ (hp _) (fun M4 f4 w4 z4 => ⟨rfl, ?_, ?_, ?_⟩)
      · have := hA.1.2.1 c (by unfold uk at hc ⊢; rw [c2] at hc; exact hc)
        unfold uWk un ub uw at this ⊢
        rw [c1, c2]
        exact this
      · unfold uWk un ub at hwk ⊢
        rw [c1]
        exact hwk
      · rw [f4 _ _ (by omega)]; exact hmk M3 Z3 z3.2.1 c1 x ex nx
      · rw [f4 _ _ (by omega)]; exact hmk M3 Z3 z3.2.1 c1 y ey ny
      · refine c_crossSay hO hS hn16 z3 f4 w4 z4 (fun p q => ?_) (fun p q hy => ?_) (fun M5 f5 z5 => ⟨rfl, hk M5 (f3.tr f5) z5⟩)
        · rw [eo, el]
          unfold usy
          rw [if_neg (show ¬ (1 : Nat) = 0 by decide), if_pos (show (1 : Nat) = 1 from rfl), Bool.eq_iff_iff]
          simp only [Bool.or_eq_true, Bool.and_eq_true, decide_eq_true_eq]
          rcases Nat.le_total x y with w | w
          · rw [Nat.min_eq_left w, Nat.max_eq_right w]
          · rw [Nat.min_eq_right w, Nat.max_eq_left w]
            exact ⟨fun z => z.elim Or.inr Or.inl, fun z => z.elim Or.inr Or.inl⟩
        · rw [eo, el] at hy
          exact (usd_lt hA.1.1 (by omega) hwk hy).1
    have hxy : x = y ↔ urk Z x = urk Z y := ⟨fun z => by rw [z], fun z => zcnt_inj _ nx ny z⟩
    by_cases e2 : x = y
    · rw [if_pos e2] at hk
      have e2' := hxy.mp e2
      ((with_reducible refine i_Seq (i_If (i_cOr (i_cI_eq (i_L3 (i_I ?_)))))); (with_reducible refine i_f (by omega) ?_); (with_reducible refine i_cI_eq (i_L4 (i_I ?_))); (with_reducible refine i_f (by omega) ?_); (with_reducible refine i_Seq (i_If (i_cI_eq (i_L3 (i_L4 ?_))))); (with_reducible refine i_t (by omega) ?_); (with_reducible refine i_sCall (i_as1 (i_A0 (i_as1 (i_I (i_as1 (i_IA (i_FR (i_A1 ?_))))))))); (with_reducible refine i_fldR (by assumption) ?_); (with_reducible refine i_Add (i_L2 (i_I ?_))); rw [zx_addc (by omega)]; (with_reducible refine i_in (by assumption) (by omega) (by omega) ?_); (with_reducible refine i_as0 ?_); (with_reducible refine i_recv0 (by assumption) ?_); (rw [p22]))
      refine c_xblame hO hS (f := 5) rfl z2 hF2 (by decide) (by decide) (hp _) (fun M3 f3 z3 => ⟨rfl, ?_⟩)
      have p03 : M3 ((89 : Nat) : Int) ((i : Nat) : Int) = ((zps B s i : Nat) : Int) := by rw [f3 _ _ (by omega)]; exact p02
      ((with_reducible refine i_Seq (i_sCall (i_as1 (i_A0 (i_as1 (i_I (i_as1 (i_MM (i_L3 (i_L4 (i_as1 (i_MM (i_L3 (i_L4 (i_as1 (i_IA (i_FR (i_A1 ?_)))))))))))))))))); (with_reducible refine i_fldR (by assumption) ?_); (with_reducible refine i_L2 ?_); (with_reducible refine i_in (by assumption) (by omega) (by omega) ?_); (with_reducible refine i_as0 ?_); (with_reducible refine i_recv0 (by assumption) ?_); (rw [p03]); (rw [zmn4]); (rw [zmx3]))
      refine (done M3 (ubl Z2 (8 * zps B s (i + 2) + 5)) (f12.tr (cXF.bl f3)) (hZ2.bl f3 rfl rfl rfl z3) b1 b2 (uFk_min hF2 (hp _) (by decide) (by decide)) hk).mono (fun v M4 ⟨hv, q1, q2, hc⟩ => ⟨hv, ?_⟩)
      ((with_reducible refine i_sCall (i_as1 (i_FR (i_A0 ?_)))); (with_reducible refine i_fldR (by assumption) ?_); (with_reducible refine i_as1 (i_IA (i_FR (i_A0 ?_)))); (with_reducible refine i_fldR (by assumption) ?_); (with_reducible refine i_L3 ?_); (with_reducible refine i_in (by assumption) (by omega) (by omega) ?_); (with_reducible refine i_as1 (i_IA (i_FR (i_A0 ?_)))); (with_reducible refine i_fldR (by assumption) ?_); (with_reducible refine i_L4 ?_); (with_reducible refine i_in (by assumption) (by omega) (by omega) ?_); (with_reducible refine i_as0 ?_); (with_reducible refine i_recv0 (by assumption) ?_); (rw [q1]); (rw [q2]))
      refine hc.mono (fun v M5 h5 => ⟨h5.1, ?_⟩)
      (with_reducible refine i_RetV ?_)
      exact h5.2
    · rw [if_neg e2] at hk
      have e2' : ¬ urk Z x = urk Z y := fun z => e2 (hxy.mpr z)
      ((with_reducible refine i_Seq (i_If (i_cOr (i_cI_eq (i_L3 (i_I ?_)))))); (with_reducible refine i_f (by omega) ?_); (with_reducible refine i_cI_eq (i_L4 (i_I ?_))); (with_reducible refine i_f (by omega) ?_); (with_reducible refine i_Seq (i_If (i_cI_eq (i_L3 (i_L4 ?_))))); (with_reducible refine i_f (by omega) ?_); (with_reducible refine i_Seq (i_sCall (i_as1 (i_A0 (i_as1 (i_I (i_as1 (i_MM (i_L3 (i_L4 (i_as1 (i_MM (i_L3 (i_L4 (i_as1 (i_IA (i_FR (i_A1 ?_)))))))))))))))))); (with_reducible refine i_fldR (by assumption) ?_); (with_reducible refine i_L2 ?_); (with_reducible refine i_in (by assumption) (by omega) (by omega) ?_); (with_reducible refine i_as0 ?_); (with_reducible refine i_recv0 (by assumption) ?_); (rw [p02]); (rw [zmn4]); (rw [zmx3]))
      refine (done M2 Z2 f12 hZ2 b1 b2 hF2 hk).mono (fun v M4 ⟨hv, q1, q2, hc⟩ => ⟨hv, ?_⟩)
      ((with_reducible refine i_sCall (i_as1 (i_FR (i_A0 ?_)))); (with_reducible refine i_fldR (by assumption) ?_); (with_reducible refine i_as1 (i_IA (i_FR (i_A0 ?_)))); (with_reducible refine i_fldR (by assumption) ?_); (with_reducible refine i_L3 ?_); (with_reducible refine i_in (by assumption) (by omega) (by omega) ?_); (with_reducible refine i_as1 (i_IA (i_FR (i_A0 ?_)))); (with_reducible refine i_fldR (by assumption) ?_); (with_reducible refine i_L4 ?_); (with_reducible refine i_in (by assumption) (by omega) (by omega) ?_); (with_reducible refine i_as0 ?_); (with_reducible refine i_recv0 (by assumption) ?_); (rw [q1]); (rw [q2]))
      refine hc.mono (fun v M5 h5 => ⟨h5.1, ?_⟩)
      (with_reducible refine i_RetV ?_)
      exact h5.2
  · rw [if_neg e] at hk
    by_cases ea : ufn Z va < ub Z
    · have eb : ¬ ufn Z vb < ub Z := fun z => e ⟨ea, z⟩
      rw [show uRI Z va = ((urk Z (ufn Z va) : Nat) : Int) from if_pos ea, show uRI Z vb = -1 from if_neg eb]
      ((with_reducible refine i_Seq (i_If (i_cOr (i_cI_eq (i_L3 (i_I ?_)))))); (with_reducible refine i_f (by omega) ?_); (with_reducible refine i_cI_eq (i_L4 (i_I ?_))); simp only [w_set0, w_set1, w_setn0, w_setn1]; (with_reducible refine i_t trivial ?_); (with_reducible refine i_RetV ?_))
      exact hk M2 f12 hZ2
    · rw [show uRI Z va = -1 from if_neg ea]
      ((with_reducible refine i_Seq (i_If (i_cOr (i_cI_eq (i_L3 (i_I ?_)))))); simp only [w_set0, w_set1, w_setn0, w_setn1]; (with_reducible refine i_t trivial ?_); (with_reducible refine i_RetV ?_))
      exact hk M2 f12 hZ2
theorem zSz_none {o : Nat → Nat} {b x : Nat} (hx : x < 16) : zSz o 16 b = (if o x = b then 1 else 0) ↔ ∀ q, q < 16 → q ≠ x → o q ≠ b := by
  have key : ∀ N, (∀ q, q < N → q ≠ x → o q ≠ b) → zSz o N b = if x < N ∧ o x = b then 1 else 0 := by
    intro N
    induction N with
    | zero => exact fun _ => rfl
    | succ N ih =>
      intro h
      rw [zSz_su, ih (fun q h1 h2 => h q (by omega) h2)]
      by_cases e : N = x
      · subst e
        rw [if_neg (by omega)]
        by_cases e2 : o N = b
        · rw [if_pos e2, if_pos ⟨by omega, e2⟩]
        · rw [if_neg e2, if_neg (fun w => e2 w.2)]
      · rw [if_neg (h N (by omega) e)]
        by_cases e2 : x < N ∧ o x = b
        · rw [if_pos e2, if_pos ⟨by omega, e2.2⟩]
        · rw [if_neg e2, if_neg (fun w => e2 ⟨by omega, w.2⟩)]
  refine ⟨fun h q h1 h2 h3 => ?_, fun h => ?_⟩
  · by_cases e : o x = b
    · rw [if_pos e] at h
      have h4 : 2 ≤ zSz o 16 b := by
        rcases Nat.lt_or_ge q x with w | w
        · exact zcnt_two w hx (decide_eq_true h3) (decide_eq_true e)
        · exact zcnt_two (show x < q by omega) h1 (decide_eq_true e) (decide_eq_true h3)
      omega
    · rw [if_neg e] at h
      have h4 : 1 ≤ zSz o 16 b := zcnt_ex h1 (decide_eq_true h3)
      omega
  · rw [key 16 h]
    by_cases e : o x = b
    · rw [if_pos e, if_pos ⟨hx, e⟩]
    · rw [if_neg e, if_neg (fun w => e w.2)]
set_option maxHeartbeats 1600000 in
theorem c_takeStar {O : zOm} (hO : zWld O) (hS : zS O = zmS zC0) {i s n : Nat} {B : Nat → Nat} {Z : zZt} {M : zMem} {K : Option zV → zMem → Prop} (hs : s ≤ 2000) (hn16 : n ≤ 16) (hq0 : zqs B s (zhh B s) = 0) (hi : i < zhh B s) (hq : zqs B s i = 0) (hK : zKi B s i = 7) (hA : uAll B s n Z i) (hT : cTa M B s) (hZ : cZt M n Z)
    (hk : ∀ M', cXF M M' → cZt M' n (us3 B s n Z i) → K none M') : zR O F_Text_takeStar [(2, ((92 : Nat) : Int)), (2, ((86 : Nat) : Int)), (0, ((i : Nat) : Int))] M K := by
  have h400 := (zhh_ok B s).1
  have n100o := (zNet101 hS).2.2.2
  have hp := fun j => Nat.le_trans (zps_le B s j) hs
  obtain ⟨g1, g2, g3, g4, g5⟩ := zgr_7 hq0 hi hq hK
  obtain ⟨w40, u100⟩ := hA.w40 hi (by omega)
  have hFk : uFk (uF Z) := hA.1.2.2.1
  have v1 := hT.v1 (show i + 1 < zhh B s by omega) g1
  have v14 := zVi_1 (show i + 1 < zhh B s by omega) g1
  have v2 := hT.v0 (show i + 2 < zhh B s by omega) g2
  have p1 := (hT.2.2 (i + 1) (by omega)).2.1
  have p2 := (hT.2.2 (i + 2) (by omega)).2.1
  have p0 := (hT.2.2 i hi).2.1
  have hrk := urk_le Z (ub Z)
  unfold us3 at hk
  (try dsimp only at hk)
  have hk1 := ukp_e n Z (zVi B s (i + 1)) (zps B s (i + 1))
  have hk2 := ukb_e (ukp n Z (zVi B s (i + 1)) (zps B s (i + 1))) (zVi B s (i + 2)) (zps B s (i + 2))
  have hfn : ufn (ukp n Z (zVi B s (i + 1)) (zps B s (i + 1))) (zVi B s (i + 2)) = ufn Z (zVi B s (i + 2)) := by unfold ufn un ub; rw [hk1.1]
  have hub2 : ub (ukp n Z (zVi B s (i + 1)) (zps B s (i + 1))) = ub Z := by unfold ub; rw [hk1.1]
  have hri : uRI (ukp n Z (zVi B s (i + 1)) (zps B s (i + 1))) (zVi B s (i + 2)) = uRI Z (zVi B s (i + 2)) := by
    unfold uRI
    rw [hfn, hub2]
    unfold urk un
    rw [hk1.1]
  rw [hfn, hub2] at hk2
  generalize hZ2e : ukb (ukp n Z (zVi B s (i + 1)) (zps B s (i + 1))) (zVi B s (i + 2)) (zps B s (i + 2)) = Z2 at hk hk2
  generalize ukp n Z (zVi B s (i + 1)) (zps B s (i + 1)) = Z1 at hk1 hk2 hfn hub2 hri
  obtain ⟨a1, a2, a3, a4⟩ := hk1
  obtain ⟨b1, b2, b3, b4⟩ := hk2
  rw [a1] at b1
  rw [a2] at b2
  rw [a3] at b3
  have hF1 : uFk (uF Z1) := by
    rw [a4]
    split
    · exact hFk
    · exact uFk_min hFk (hp _) (by decide) (by decide)
  have hF2 : uFk (uF Z2) := by
    rw [b4]
    split
    · exact hF1
    · exact uFk_min hF1 (hp _) (by decide) (by decide)
  clear hZ2e
  generalize zVi B s (i + 1) = x at *
  generalize zVi B s (i + 2) = vb at *
  apply r_Text_takeStar hO
  unfold B_Text_takeStar
  have f92_1 := zf_92_1 hS; have a94 := zCA (a := 94) (ty := .int) (n := 100) hS rfl; have f86_2 := zf_86_2 hS; have a89 := zCA (a := 89) (ty := .int) (n := 400) hS rfl; have f92_7 := zf_92_7 hS; have z86 := zo_86 hS; have z92 := zo_92 hS
  ((with_reducible refine i_Seq (i_Seq (i_Set (i_Call (i_as1 (i_A0 (i_as1 (i_A1 (i_as1 (i_Add (i_L2 (i_I (i_as0 ?_))))))))))))); (with_reducible refine i_recv0 (by assumption) ?_); rw [zx_inc (by omega)]; simp only [w_set0, w_set1, w_setn0, w_setn1])
  refine c_postTold hO hS hZ.2.2.2.2 hZ.1.1 hn16 hFk (by omega) v1 v14 p1 (hp _) (fun M1 f1 z1 => ⟨_, rfl, ?_⟩)
  rw [← a4] at z1
  have hZ1 : cZt M1 n Z1 := hZ.bl f1 a1 a2 a3 z1
  ((with_reducible refine i_Seq (i_Set (i_Call (i_as1 (i_A0 (i_as1 (i_A1 (i_as1 (i_Add (i_L2 (i_I (i_as0 ?_)))))))))))); (with_reducible refine i_recv0 (by assumption) ?_); rw [zx_addc (by omega)]; simp only [w_set0, w_set1, w_setn0, w_setn1])
  refine c_boxNamed hO hS hZ1.2.1 z1 (by omega) hF1 (by omega) (by rw [f1 _ _ (by omega)]; exact v2) (by rw [f1 _ _ (by omega)]; exact p2) (hp _) (fun M2 f2 z2 => ⟨_, rfl, ?_⟩)
  rw [hfn, hub2, ← b4] at z2
  rw [hri]
  have hZ2 : cZt M2 n Z2 := hZ1.bl f2 (b1.trans a1.symm) (b2.trans a2.symm) (b3.trans a3.symm) z2
  have f12 : cXF M M2 := (cXF.bl f1).tr (cXF.bl f2)
  have p22 : M2 ((89 : Nat) : Int) ((i + 2 : Nat) : Int) = ((zps B s (i + 2) : Nat) : Int) := by rw [f12 _ _ (by omega)]; exact p2
  have p02 : M2 ((89 : Nat) : Int) ((i : Nat) : Int) = ((zps B s i : Nat) : Int) := by rw [f12 _ _ (by omega)]; exact p0
  by_cases e : x < n ∧ ufn Z vb < ub Z
  · rw [if_pos e] at hk
    rw [show uRI Z vb = ((urk Z (ufn Z vb) : Nat) : Int) from if_pos e.2, if_pos e.1]
    obtain ⟨ex, ey⟩ := e
    have ny := ufn_new ey
    generalize ufn Z vb = y at *
    have hry := urk_lt ny ey
    have hx16 : x < 16 := by omega
    have hmk : ∀ (M3 : zMem) (Z3 : zZt), cZb M3 Z3 → Z3.1 = Z.1 → M3 ((94 : Nat) : Int) ((urk Z y : Nat) : Int) = zmk (fun q => decide (uo Z q = y)) := fun M3 Z3 h e1 => (((cZb.to (Z' := Z) h (fun _ _ _ => rfl) e1.symm).2 y ey ny).2.1)
    have hwk : uWk n Z (2, x, y) := Or.inr (Or.inr ⟨rfl, ex, ey, ny⟩)
    have done : ∀ (M3 : zMem) (Z3 : zZt), cXF M M3 → cZt M3 n Z3 → Z3.1 = Z.1 → Z3.2.1 = Z.2.1 → uFk (uF Z3) → (∀ M', cXF M M' → cZt M' n (uaw Z3 (2, x, y) (zps B s i)) → K none M') →
        zR O F_Text_takeWord [(2, ((92 : Nat) : Int)), (0, 2), (0, ((x : Nat) : Int)), (0, ((urk Z y : Nat) : Int)), (0, ((zps B s i : Nat) : Int))] M3 (fun v M4 => v = none ∧ M4 ((94 : Nat) : Int) ((urk Z y : Nat) : Int) = zmk (fun q => decide (uo Z q = y)) ∧ zR O F_Net_cross [(2, ((101 : Nat) : Int)), (0, zmk (fun q => decide (q = x))), (0, zmk (fun q => decide (uo Z q = y)))] M4 (fun v M5 => v = none ∧ K none M5)) := fun M3 Z3 f3 z3 c1 c2 c3 hk => by
      have hu : ∀ w, uM Z3 w = uM Z w := uM_e c1
      have eo : uo Z3 = uo Z := by unfold uo; rw [c1]
      have el : ul Z3 = ul Z := by unfold ul; rw [c1]
      refine c_takeWord hO hS (n := n) (Z := Z3) (w := (2, x, y)) (by rw [hu]; rfl) (by rw [hu]; rfl) (by rw [hu]; rfl) z3.2.2.2.1 z3.2.2.2.2 c3 (by unfold uk; rw [c2]; exact w40) (fun c hc => ?_) ?_ (hp _) (fun M4 f4 w4 z4 => ⟨rfl, ?_, ?_⟩)
      · have := hA.1.2.1 c (by unfold uk at hc ⊢; rw [c2] at hc; exact hc)
        unfold uWk un ub uw at this ⊢
        rw [c1, c2]
        exact this
      · unfold uWk un ub at hwk ⊢
        rw [c1]
        exact hwk
      · rw [f4 _ _ (by omega)]; exact hmk M3 Z3 z3.2.1 c1
      · refine c_crossSay hO hS hn16 z3 f4 w4 z4 (fun p q => ?_) (fun p q hy => ?_) (fun M5 f5 z5 => ⟨rfl, hk M5 (f3.tr f5) z5⟩)
        · rw [eo, el]
          unfold usy
          rw [if_neg (show ¬ (2 : Nat) = 0 by decide), if_neg (show ¬ (2 : Nat) = 1 by decide), if_pos (show (2 : Nat) = 2 from rfl), Bool.eq_iff_iff]
          simp only [Bool.or_eq_true, Bool.and_eq_true, decide_eq_true_eq]
          exact ⟨fun z => z.elim Or.inl (fun w => Or.inr ⟨w.2, w.1⟩), fun z => z.elim Or.inl (fun w => Or.inr ⟨w.2, w.1⟩)⟩
        · rw [eo, el] at hy
          exact (usd_lt hA.1.1 (by omega) hwk hy).1
    have m2 := hmk M2 Z2 hZ2.2.1 b1
    have hnot : yand (zmk (fun q => decide (uo Z q = y))) (yxor (yshl 1 ((x : Nat) : Int)) (-1)) = zmk (fun q => decide (uo Z q = y) && !decide (q = x)) := by rw [yshl_mk hx16, ynot_mk]
    have h0 : zmk (fun q => decide (uo Z q = y) && !decide (q = x)) = 0 ↔ zSz (uo Z) 16 y = (if uo Z x = y then 1 else 0) := by
      rw [zmk_eq0, zSz_none hx16]
      constructor
      · intro h q h1 h2 h3
        have := h q h1
        rw [decide_eq_true h3, decide_eq_false h2] at this
        cases this
      · intro h q h1
        by_cases h2 : q = x
        · rw [decide_eq_true h2, Bool.not_true, Bool.and_false]
        · rw [decide_eq_false (h q h1 h2)]; rfl
    by_cases e2 : zSz (uo Z) 16 y = (if uo Z x = y then 1 else 0)
    · rw [if_pos e2] at hk
      have e2' := h0.mpr e2
      ((with_reducible refine i_Seq (i_If (i_cOr (i_cI_eq (i_L3 (i_I ?_)))))); (with_reducible refine i_f (by omega) ?_); (with_reducible refine i_cI_eq (i_L4 (i_I ?_))); (with_reducible refine i_f (by omega) ?_); (with_reducible refine i_Seq (i_If (i_cZ_eq (i_And (i_IA (i_FR (i_A0 ?_))))))); (with_reducible refine i_fldR (by assumption) ?_); (with_reducible refine i_L4 ?_); (with_reducible refine i_in (by assumption) (by omega) (by omega) ?_); (with_reducible refine i_Xor (i_Shl (i_I (i_L3 (i_I ?_))))); (rw [m2]); (rw [hnot]); (with_reducible refine i_t (by omega) ?_); (with_reducible refine i_sCall (i_as1 (i_A0 (i_as1 (i_I (i_as1 (i_IA (i_FR (i_A1 ?_))))))))); (with_reducible refine i_fldR (by assumption) ?_); (with_reducible refine i_Add (i_L2 (i_I ?_))); rw [zx_addc (by omega)]; (with_reducible refine i_in (by assumption) (by omega) (by omega) ?_); (with_reducible refine i_as0 ?_); (with_reducible refine i_recv0 (by assumption) ?_); (rw [p22]))
      refine c_xblame hO hS (f := 5) rfl z2 hF2 (by decide) (by decide) (hp _) (fun M3 f3 z3 => ⟨rfl, ?_⟩)
      have p03 : M3 ((89 : Nat) : Int) ((i : Nat) : Int) = ((zps B s i : Nat) : Int) := by rw [f3 _ _ (by omega)]; exact p02
      ((with_reducible refine i_Seq (i_sCall (i_as1 (i_A0 (i_as1 (i_I (i_as1 (i_L3 (i_as1 (i_L4 (i_as1 (i_IA (i_FR (i_A1 ?_)))))))))))))); (with_reducible refine i_fldR (by assumption) ?_); (with_reducible refine i_L2 ?_); (with_reducible refine i_in (by assumption) (by omega) (by omega) ?_); (with_reducible refine i_as0 ?_); (with_reducible refine i_recv0 (by assumption) ?_); (rw [p03]))
      refine (done M3 (ubl Z2 (8 * zps B s (i + 2) + 5)) (f12.tr (cXF.bl f3)) (hZ2.bl f3 rfl rfl rfl z3) b1 b2 (uFk_min hF2 (hp _) (by decide) (by decide)) hk).mono (fun v M4 ⟨hv, q1, hc⟩ => ⟨hv, ?_⟩)
      ((with_reducible refine i_sCall (i_as1 (i_FR (i_A0 ?_)))); (with_reducible refine i_fldR (by assumption) ?_); (with_reducible refine i_as1 (i_Shl (i_I (i_L3 (i_as1 (i_IA (i_FR (i_A0 ?_)))))))); (with_reducible refine i_fldR (by assumption) ?_); (with_reducible refine i_L4 ?_); (with_reducible refine i_in (by assumption) (by omega) (by omega) ?_); (with_reducible refine i_as0 ?_); (with_reducible refine i_recv0 (by assumption) ?_); (rw [q1]); (rw [yshl_mk hx16]))
      refine hc.mono (fun v M5 h5 => ⟨h5.1, ?_⟩)
      (with_reducible refine i_RetV ?_)
      exact h5.2
    · rw [if_neg e2] at hk
      have e2' : ¬ zmk (fun q => decide (uo Z q = y) && !decide (q = x)) = 0 := fun z => e2 (h0.mp z)
      ((with_reducible refine i_Seq (i_If (i_cOr (i_cI_eq (i_L3 (i_I ?_)))))); (with_reducible refine i_f (by omega) ?_); (with_reducible refine i_cI_eq (i_L4 (i_I ?_))); (with_reducible refine i_f (by omega) ?_); (with_reducible refine i_Seq (i_If (i_cZ_eq (i_And (i_IA (i_FR (i_A0 ?_))))))); (with_reducible refine i_fldR (by assumption) ?_); (with_reducible refine i_L4 ?_); (with_reducible refine i_in (by assumption) (by omega) (by omega) ?_); (with_reducible refine i_Xor (i_Shl (i_I (i_L3 (i_I ?_))))); (rw [m2]); (rw [hnot]); (with_reducible refine i_f (by omega) ?_); (with_reducible refine i_Seq (i_sCall (i_as1 (i_A0 (i_as1 (i_I (i_as1 (i_L3 (i_as1 (i_L4 (i_as1 (i_IA (i_FR (i_A1 ?_)))))))))))))); (with_reducible refine i_fldR (by assumption) ?_); (with_reducible refine i_L2 ?_); (with_reducible refine i_in (by assumption) (by omega) (by omega) ?_); (with_reducible refine i_as0 ?_); (with_reducible refine i_recv0 (by assumption) ?_); (rw [p02]))
      refine (done M2 Z2 f12 hZ2 b1 b2 hF2 hk).mono (fun v M4 ⟨hv, q1, hc⟩ => ⟨hv, ?_⟩)
      ((with_reducible refine i_sCall (i_as1 (i_FR (i_A0 ?_)))); (with_reducible refine i_fldR (by assumption) ?_); (with_reducible refine i_as1 (i_Shl (i_I (i_L3 (i_as1 (i_IA (i_FR (i_A0 ?_)))))))); (with_reducible refine i_fldR (by assumption) ?_); (with_reducible refine i_L4 ?_); (with_reducible refine i_in (by assumption) (by omega) (by omega) ?_); (with_reducible refine i_as0 ?_); (with_reducible refine i_recv0 (by assumption) ?_); (rw [q1]); (rw [yshl_mk hx16]))
      refine hc.mono (fun v M5 h5 => ⟨h5.1, ?_⟩)
      (with_reducible refine i_RetV ?_)
      exact h5.2
  · rw [if_neg e] at hk
    by_cases ea : x < n
    · have eb : ¬ ufn Z vb < ub Z := fun z => e ⟨ea, z⟩
      rw [show uRI Z vb = -1 from if_neg eb, if_pos ea]
      ((with_reducible refine i_Seq (i_If (i_cOr (i_cI_eq (i_L3 (i_I ?_)))))); (with_reducible refine i_f (by omega) ?_); (with_reducible refine i_cI_eq (i_L4 (i_I ?_))); simp only [w_set0, w_set1, w_setn0, w_setn1]; (with_reducible refine i_t trivial ?_); (with_reducible refine i_RetV ?_))
      exact hk M2 f12 hZ2
    · rw [if_neg ea]
      ((with_reducible refine i_Seq (i_If (i_cOr (i_cI_eq (i_L3 (i_I ?_)))))); simp only [w_set0, w_set1, w_setn0, w_setn1]; (with_reducible refine i_t trivial ?_); (with_reducible refine i_RetV ?_))
      exact hk M2 f12 hZ2
theorem upr_s (Z : zZt) (p q : Nat) : upr Z p q = upr Z q p := zex_ext fun k _ => decide_eq_decide.mpr ⟨fun h => h.elim Or.inr Or.inl, fun h => h.elim Or.inr Or.inl⟩
theorem upr_ap (Z : zZt) (x : Nat × Nat × Bool × Nat) (p q : Nat) : upr (uap Z x) p q = (upr Z p q || upq x p q) := by
  show zex (fun k => upq (uup (up Z) (ut Z) x k) p q) (ut Z + 1) = _
  rw [zex_su]
  congr 1
  · exact zex_ext fun k hk => by rw [uup_n _ _ (by omega)]
  · rw [uup_s]
theorem cZt.F {M : zMem} {n : Nat} {Z Z' : zZt} (h : cZt M n Z) (e1 : Z'.1 = Z.1) (e2 : Z'.2.1 = Z.2.1) (e3 : ∀ p q, (decide (p ≠ q) && upr Z' p q) = (decide (p ≠ q) && upr Z p q)) (hf : cZf M (uF Z')) : cZt M n Z' :=
  ⟨⟨h.1.1, h.1.2.1.ext (fun p q _ _ => by rw [usd_e e1 e2]), h.1.2.2.ext (fun p q _ _ => (e3 p q).symm)⟩, h.2.1.to (fun _ _ _ => rfl) e1, h.2.2.1.to (fun _ _ _ => rfl) e1, h.2.2.2.1.to (fun _ _ _ => rfl) e2 (fun _ _ => uM_e e1 _), hf⟩
set_option maxHeartbeats 1600000 in
theorem c_takePair {O : zOm} (hO : zWld O) (hS : zS O = zmS zC0) {i s n : Nat} {B : Nat → Nat} {Z : zZt} {M : zMem} {K : Option zV → zMem → Prop} (hs : s ≤ 2000) (hn16 : n ≤ 16) (hq0 : zqs B s (zhh B s) = 0) (hi : i < zhh B s) (hq : zqs B s i = 0) (hK : zKi B s i = 8 ∨ zKi B s i = 9) (hA : uAll B s n Z i) (hT : cTa M B s) (hZ : cZt M n Z)
    (hk : ∀ M', cXF M M' → cZt M' n (us4 B s n (decide (zKi B s i = 9)) Z i) → K none M') : zR O F_Text_takePair [(2, ((92 : Nat) : Int)), (2, ((86 : Nat) : Int)), (0, ((i : Nat) : Int))] M K := by
  have h400 := (zhh_ok B s).1
  have n100 := zNet101 hS
  have n102 := zNet103 hS
  have n100o := n100.2.2.2
  have n102o := n102.2.2.2
  have hp := fun j => Nat.le_trans (zps_le B s j) hs
  obtain ⟨g1, g2, g3, g4, g5⟩ := zgr_89 hq0 hi hq hK
  have hFk : uFk (uF Z) := hA.1.2.2.1
  have v1 := hT.v1 (show i + 1 < zhh B s by omega) g1
  have v14 := zVi_1 (show i + 1 < zhh B s by omega) g1
  have v2 := hT.v1 (show i + 2 < zhh B s by omega) g2
  have v24 := zVi_1 (show i + 2 < zhh B s by omega) g2
  have p1 := (hT.2.2 (i + 1) (by omega)).2.1
  have p2 := (hT.2.2 (i + 2) (by omega)).2.1
  have t0 := (hT.2.2 i hi).1
  have h5 := hA.2.1
  have hpm : ∀ k, k < ut Z → (up Z k).2.2.2 < zps B s (i + 2) := fun k hk2 => by
    obtain ⟨-, -, -, j, j1, j2, -⟩ := h5 k hk2
    rw [j2]
    exact zps_mono (by omega) ((zhh_ok B s).2.1 (j + 2) (by omega)).1
  unfold us4 at hk
  (try dsimp only at hk)
  have hk1 := ukp_e n Z (zVi B s (i + 1)) (zps B s (i + 1))
  have hk2 := ukp_e n (ukp n Z (zVi B s (i + 1)) (zps B s (i + 1))) (zVi B s (i + 2)) (zps B s (i + 2))
  have hZZ : zVi B s (i + 1) < n ∧ zVi B s (i + 2) < n → ukp n (ukp n Z (zVi B s (i + 1)) (zps B s (i + 1))) (zVi B s (i + 2)) (zps B s (i + 2)) = Z := fun e => by
    unfold ukp
    rw [if_pos e.2, if_pos e.1]
  generalize ukp n (ukp n Z (zVi B s (i + 1)) (zps B s (i + 1))) (zVi B s (i + 2)) (zps B s (i + 2)) = Z2 at hk hk2 hZZ
  generalize ukp n Z (zVi B s (i + 1)) (zps B s (i + 1)) = Z1 at hk1 hk2
  obtain ⟨a1, a2, a3, a4⟩ := hk1
  obtain ⟨b1, b2, b3, b4⟩ := hk2
  rw [a1] at b1
  rw [a2] at b2
  rw [a3] at b3
  have hF1 : uFk (uF Z1) := by
    rw [a4]
    split
    · exact hFk
    · exact uFk_min hFk (hp _) (by decide) (by decide)
  have hpp := hp (i + 2)
  have hpp1 := hp (i + 1)
  generalize zVi B s (i + 1) = a at *
  generalize zVi B s (i + 2) = b at *
  generalize zps B s (i + 2) = pp at *
  generalize zps B s (i + 1) = pp1 at *
  apply r_Text_takePair hO
  unfold B_Text_takePair
  have f86_2 := zf_86_2 hS; have a89 := zCA (a := 89) (ty := .int) (n := 400) hS rfl; have f86_1 := zf_86_1 hS; have a88 := zCA (a := 88) (ty := .int) (n := 400) hS rfl; have f92_7 := zf_92_7 hS; have f92_8 := zf_92_8 hS; have z86 := zo_86 hS; have z92 := zo_92 hS
  ((with_reducible refine i_Seq (i_Seq (i_Set (i_Call (i_as1 (i_A0 (i_as1 (i_A1 (i_as1 (i_Add (i_L2 (i_I (i_as0 ?_))))))))))))); (with_reducible refine i_recv0 (by assumption) ?_); rw [zx_inc (by omega)]; simp only [w_set0, w_set1, w_setn0, w_setn1])
  refine c_postTold hO hS hZ.2.2.2.2 hZ.1.1 hn16 hFk (by omega) v1 v14 p1 hpp1 (fun M1 f1 z1 => ⟨_, rfl, ?_⟩)
  rw [← a4] at z1
  have hZ1 : cZt M1 n Z1 := hZ.bl f1 a1 a2 a3 z1
  ((with_reducible refine i_Seq (i_Set (i_Call (i_as1 (i_A0 (i_as1 (i_A1 (i_as1 (i_Add (i_L2 (i_I (i_as0 ?_)))))))))))); (with_reducible refine i_recv0 (by assumption) ?_); rw [zx_addc (by omega)]; simp only [w_set0, w_set1, w_setn0, w_setn1])
  refine c_postTold hO hS z1 hZ1.1.1 hn16 hF1 (by omega) (by rw [f1 _ _ (by omega)]; exact v2) v24 (by rw [f1 _ _ (by omega)]; exact p2) hpp (fun M2 f2 z2 => ⟨_, rfl, ?_⟩)
  rw [← b4] at z2
  have f12 : cXF M M2 := (cXF.bl f1).tr (cXF.bl f2)
  have hZ2 : cZt M2 n Z2 := hZ.bl (fun b j q => by rw [f2 b j q, f1 b j q]) b1 b2 b3 z2
  by_cases e : a < n ∧ b < n
  · rw [if_pos e] at hk
    have ez := hZZ e
    subst ez
    obtain ⟨ea, eb⟩ := e
    have p22 : M2 ((89 : Nat) : Int) ((i + 2 : Nat) : Int) = ((pp : Nat) : Int) := by rw [f12 _ _ (by omega)]; exact p2
    have t02 : M2 ((88 : Nat) : Int) ((i : Nat) : Int) = ((zKi B s i : Nat) : Int) := by rw [f12 _ _ (by omega)]; exact t0
    rw [if_pos ea, if_pos eb]
    -- the state behind, and its fault
    have hst : ∀ (c5 : Prop) [Decidable c5], (∀ M', cXF M M' → cZt M' n (uap (if c5 then ubl (if upr Z2 a b = true then ubl Z2 (8 * pp + 3) else Z2) (8 * pp + 5) else (if upr Z2 a b = true then ubl Z2 (8 * pp + 3) else Z2)) (a, b, decide (zKi B s i = 9), pp)) → K none M') →
        ∀ M' : zMem, cXF M M' → cZt M' n (Z2.1, Z2.2.1, (uap Z2 (a, b, decide (zKi B s i = 9), pp)).2.2.1, if c5 then min (if upr Z2 a b = true then min (uF Z2) (8 * pp + 3) else uF Z2) (8 * pp + 5) else (if upr Z2 a b = true then min (uF Z2) (8 * pp + 3) else uF Z2)) → K none M' := fun c5 _ h M' f z => h M' f (by
      by_cases w : c5
      · rw [if_pos w] at z ⊢
        by_cases w2 : upr Z2 a b = true
        · rw [if_pos w2] at z ⊢; exact z
        · rw [if_neg w2] at z ⊢; exact z
      · rw [if_neg w] at z ⊢
        by_cases w2 : upr Z2 a b = true
        · rw [if_pos w2] at z ⊢; exact z
        · rw [if_neg w2] at z ⊢; exact z)
    have hk3 := hst _ hk
    clear hst hk
    have hup : ∀ p q, upr (Z2.1, Z2.2.1, (uap Z2 (a, b, decide (zKi B s i = 9), pp)).2.2.1, if a = b ∨ decide (zKi B s i = 9) = false ∧ usd Z2 a b = false then min (if upr Z2 a b = true then min (uF Z2) (8 * pp + 3) else uF Z2) (8 * pp + 5) else (if upr Z2 a b = true then min (uF Z2) (8 * pp + 3) else uF Z2)) p q = (upr Z2 p q || upq (a, b, decide (zKi B s i = 9), pp) p q) := fun p q => (upr_e (Z := uap Z2 (a, b, decide (zKi B s i = 9), pp)) rfl p q).trans (upr_ap Z2 _ p q)
    have hFe : uF (Z2.1, Z2.2.1, (uap Z2 (a, b, decide (zKi B s i = 9), pp)).2.2.1, if a = b ∨ decide (zKi B s i = 9) = false ∧ usd Z2 a b = false then min (if upr Z2 a b = true then min (uF Z2) (8 * pp + 3) else uF Z2) (8 * pp + 5) else (if upr Z2 a b = true then min (uF Z2) (8 * pp + 3) else uF Z2)) = if a = b ∨ decide (zKi B s i = 9) = false ∧ usd Z2 a b = false then min (if upr Z2 a b = true then min (uF Z2) (8 * pp + 3) else uF Z2) (8 * pp + 5) else (if upr Z2 a b = true then min (uF Z2) (8 * pp + 3) else uF Z2) := rfl
    generalize hZn : ((Z2.1, Z2.2.1, (uap Z2 (a, b, decide (zKi B s i = 9), pp)).2.2.1, if a = b ∨ decide (zKi B s i = 9) = false ∧ usd Z2 a b = false then min (if upr Z2 a b = true then min (uF Z2) (8 * pp + 3) else uF Z2) (8 * pp + 5) else (if upr Z2 a b = true then min (uF Z2) (8 * pp + 3) else uF Z2)) : zZt) = Zn at hk3 hup hFe
    have hn1 : Zn.1 = Z2.1 := by rw [← hZn]
    have hn2 : Zn.2.1 = Z2.2.1 := by rw [← hZn]
    clear hZn
    by_cases u1 : a = b
    · subst u1
      rw [if_pos (Or.inl rfl)] at hFe
      have hsame : ∀ p q, (decide (p ≠ q) && upr Zn p q) = (decide (p ≠ q) && upr Z2 p q) := fun p q => by
        rw [hup]
        by_cases w : p = q
        · rw [decide_eq_false (fun z => z w), Bool.false_and, Bool.false_and]
        · rw [show upq (a, a, decide (zKi B s i = 9), pp) p q = false from decide_eq_false (fun z => by
            have z2 : a = p ∧ a = q ∨ a = q ∧ a = p := z
            omega), Bool.or_false]
      have hF9 : uF Zn = min (uF Z2) (8 * pp + 5) := by
        rw [hFe]
        by_cases w2 : upr Z2 a a = true
        · rw [if_pos w2]
          obtain ⟨k, k1, k2⟩ := zex_t.mp w2
          have k3 : (up Z2 k).1 = a ∧ (up Z2 k).2.1 = a ∨ (up Z2 k).1 = a ∧ (up Z2 k).2.1 = a := of_decide_eq_true k2
          have k4 := (h5 k k1).2.2.1 (by omega)
          have k5 := hpm k k1
          omega
        · rw [if_neg w2]
      ((with_reducible refine i_Seq (i_If (i_cOr (i_cI_eq (i_L3 (i_I ?_)))))); (with_reducible refine i_f (by omega) ?_); (with_reducible refine i_cI_eq (i_L4 (i_I ?_))); (with_reducible refine i_f (by omega) ?_); (with_reducible refine i_Seq (i_Set (i_IA (i_FR (i_A1 ?_))))); (with_reducible refine i_fldR (by assumption) ?_); (with_reducible refine i_Add (i_L2 (i_I ?_))); rw [zx_addc (by omega)]; (with_reducible refine i_in (by assumption) (by omega) (by omega) ?_); (with_reducible refine i_Seq (i_If (i_cI_eq ?_))); (rw [p22]); simp only [w_set0, w_set1, w_setn0, w_setn1]; (with_reducible refine i_L3 (i_L4 ?_)); simp only [w_set0, w_set1, w_setn0, w_setn1]; (with_reducible refine i_t trivial ?_); (with_reducible refine i_Seq (i_sCall (i_as1 (i_A0 (i_as1 (i_I (i_as1 (i_L5 (i_as0 ?_))))))))); (with_reducible refine i_recv0 (by assumption) ?_))
      refine c_xblame hO hS (f := 5) rfl z2 hFk (by decide) (by decide) hpp (fun M3 f3 z3 => ⟨rfl, ?_⟩)
      (with_reducible refine i_RetV ?_)
      exact hk3 M3 (f12.tr (cXF.bl f3)) ((hZ2.bl (Z' := ubl Z2 (8 * pp + 5)) f3 rfl rfl rfl z3).F hn1 hn2 hsame (by rw [hF9]; exact z3))
    · have hba : ¬ ((a : Nat) : Int) = ((b : Nat) : Int) := by omega
      have hjs := hZ2.1.2.1
      have hT1 : (decide (a ≠ b) && usd Z2 a b) = usd Z2 a b := by rw [decide_eq_true u1, Bool.true_and]
      have hT2 : (decide (a ≠ b) && upr Z2 a b) = upr Z2 a b := by rw [decide_eq_true u1, Bool.true_and]
      -- the second half: is the pair told already
      have tail : ∀ (M3 : zMem) (F3 : Nat), (∀ b j, ¬ (b = ((92 : Nat) : Int) ∧ (j = 14 ∨ j = 15)) → M3 b j = M2 b j) → cZf M3 F3 → uFk F3 → uF Zn = (if upr Z2 a b = true then min F3 (8 * pp + 3) else F3) →
          zR O F_Net_joins [(2, ((103 : Nat) : Int)), (0, ((a : Nat) : Int)), (0, ((b : Nat) : Int))] M3 (fun v M4 => v = some (0, zbI (upr Z2 a b)) ∧ M4 = M3) ∧ (upr Z2 a b = true → zR O F_Text_blame [(2, ((92 : Nat) : Int)), (0, 3), (0, ((pp : Nat) : Int))] M3 (fun v M4 => v = none ∧ K none M4)) ∧ (upr Z2 a b = false → zR O F_Net_flip [(2, ((103 : Nat) : Int)), (0, ((a : Nat) : Int)), (0, ((b : Nat) : Int))] M3 (fun v M4 => v = none ∧ K none M4)) := fun M3 F3 f3 z3 hF3 hFn => by
        have hN3 : zNR M3 103 n (fun p q => decide (p ≠ q) && upr Z2 p q) := ⟨by rw [f3 _ _ (by omega)]; exact hZ2.1.2.2.1, fun p hp2 => by rw [f3 _ _ (by omega)]; exact hZ2.1.2.2.2 p hp2⟩
        refine ⟨s_joins hO n102 hN3 (by omega) (by omega) ⟨by rw [hT2], rfl⟩, fun w => ?_, fun w => ?_⟩
        · rw [if_pos w] at hFn
          refine c_xblame hO hS (f := 3) rfl z3 hF3 (by decide) (by decide) hpp (fun M4 f4 z4 => ⟨rfl, ?_⟩)
          refine hk3 M4 (f12.tr ((cXF.bl f3).tr (cXF.bl f4))) ((hZ2.bl (Z' := (Z2.1, Z2.2.1, Z2.2.2.1, uF Zn)) (fun b j q => by rw [f4 b j q, f3 b j q]) rfl rfl rfl (by rw [show uF (Z2.1, Z2.2.1, Z2.2.2.1, uF Zn) = uF Zn from rfl, hFn]; exact z4)).F hn1 hn2 (fun p q => ?_) (by rw [hFn]; exact z4))
          rw [hup]
          show (_ && _) = (decide (p ≠ q) && upr Z2 p q)
          cases w3 : upq (a, b, decide (zKi B s i = 9), pp) p q
          · rw [Bool.or_false]
          · have w4 : a = p ∧ b = q ∨ a = q ∧ b = p := of_decide_eq_true w3
            have w5 : upr Z2 p q = true := by
              rcases w4 with ⟨h1, h2⟩ | ⟨h1, h2⟩
              · rw [← h1, ← h2]; exact w
              · rw [← h1, ← h2, upr_s]; exact w
            rw [w5]; rfl
        · rw [if_neg (by rw [w]; decide)] at hFn
          refine s_Net_flip hO n102 hN3 (by omega) (by omega) u1 (fun M4 f4 h4 => ⟨rfl, ?_⟩)
          have f4' : ∀ b j, ¬ b = ((104 : Nat) : Int) → M4 b j = M3 b j := fun b j q => by rw [f4 b (by simp <;> omega)]
          have hb0 := hZ2.2.1
          refine hk3 M4 (fun b j q => by rw [f4' b j (by omega), f3 b j (by omega)]; exact f12 b j q) ⟨⟨by rw [f4' _ _ (by omega), f3 _ _ (by omega)]; exact hZ2.1.1, zNR.ext (T := fun p q => decide (p ≠ q) && usd Z2 p q) ⟨by rw [f4' _ _ (by omega), f3 _ _ (by omega)]; exact hjs.1, fun p hp2 => by rw [f4' _ _ (by omega), f3 _ _ (by omega)]; exact hjs.2 p hp2⟩ (fun p q _ _ => by rw [usd_e hn1 hn2]), h4.ext (fun p q _ _ => ?_)⟩, hZ2.2.1.to (fun b j q => by rw [f4' _ _ (by omega), f3 _ _ (by omega)]) hn1, hZ2.2.2.1.to (fun b j q => by rw [f4' _ _ (by omega), f3 _ _ (by omega)]) hn1, hZ2.2.2.2.1.to (fun b j q => by rw [f4' _ _ (by omega), f3 _ _ (by omega)]) hn2 (fun _ _ => uM_e hn1 _), by rw [hFn]; exact ⟨by rw [f4' _ _ (by omega)]; exact z3.1, by rw [f4' _ _ (by omega)]; exact z3.2⟩⟩
          rw [hup]
          unfold zflip
          (try dsimp only)
          by_cases w4 : p = a ∧ q = b ∨ p = b ∧ q = a
          · have w5 : upr Z2 p q = false := by
              rcases w4 with ⟨h1, h2⟩ | ⟨h1, h2⟩
              · rw [h1, h2]; exact w
              · rw [h1, h2, upr_s]; exact w
            have w6 : upq (a, b, decide (zKi B s i = 9), pp) p q = true := decide_eq_true (show a = p ∧ b = q ∨ a = q ∧ b = p by omega)
            rw [w5, w6, decide_eq_true (show p ≠ q by omega)]
            rcases w4 with w4 | w4
            · rw [decide_eq_true w4]; rfl
            · rw [decide_eq_true w4, Bool.or_true]; rfl
          · have w6 : upq (a, b, decide (zKi B s i = 9), pp) p q = false := decide_eq_false (fun z => by
              have z2 : a = p ∧ b = q ∨ a = q ∧ b = p := z
              omega)
            rw [w6, decide_eq_false (fun z => w4 (Or.inl z)), decide_eq_false (fun z => w4 (Or.inr z)), Bool.or_false, Bool.or_false, Bool.xor_false]
      by_cases u2 : decide (zKi B s i = 9) = false ∧ usd Z2 a b = false
      · rw [if_pos (Or.inr u2)] at hFe
        have k8 : zKi B s i = 8 := by have := of_decide_eq_false u2.1; omega
        ((with_reducible refine i_Seq (i_If (i_cOr (i_cI_eq (i_L3 (i_I ?_)))))); (with_reducible refine i_f (by omega) ?_); (with_reducible refine i_cI_eq (i_L4 (i_I ?_))); (with_reducible refine i_f (by omega) ?_); (with_reducible refine i_Seq (i_Set (i_IA (i_FR (i_A1 ?_))))); (with_reducible refine i_fldR (by assumption) ?_); (with_reducible refine i_Add (i_L2 (i_I ?_))); rw [zx_addc (by omega)]; (with_reducible refine i_in (by assumption) (by omega) (by omega) ?_); (with_reducible refine i_Seq (i_If (i_cI_eq ?_))); (rw [p22]); simp only [w_set0, w_set1, w_setn0, w_setn1]; (with_reducible refine i_L3 (i_L4 ?_)); (with_reducible refine i_f (by omega) ?_); (with_reducible refine i_Seq (i_If (i_cAnd (i_cI_eq (i_IA (i_FR (i_A1 ?_))))))); (with_reducible refine i_fldR (by assumption) ?_); (with_reducible refine i_L2 ?_); (with_reducible refine i_in (by assumption) (by omega) (by omega) ?_); (with_reducible refine i_I ?_); (rw [t02]); (with_reducible refine i_t (by omega) ?_); (with_reducible refine i_cNot (i_cZ_ne (i_Call (i_as1 (i_FR (i_A0 ?_)))))); (with_reducible refine i_fldR (by assumption) ?_); (with_reducible refine i_as1 (i_L3 (i_as1 (i_L4 (i_as0 ?_))))); (with_reducible refine i_recv0 (by assumption) ?_); (refine s_joins hO n100 hjs (show a < 16 by omega) (show b < 16 by omega) ⟨_, rfl, ?_⟩); (rw [hT1]); (rw [u2.2]); rw [zbI_f]; (with_reducible refine i_f (by omega) ?_); (with_reducible refine i_sCall (i_as1 (i_A0 (i_as1 (i_I (i_as1 (i_L5 (i_as0 ?_)))))))); (with_reducible refine i_recv0 (by assumption) ?_))
        refine c_xblame hO hS (f := 5) rfl z2 hFk (by decide) (by decide) hpp (fun M3 f3 z3 => ⟨rfl, ?_⟩)
        obtain ⟨s1, s2, s3⟩ := tail M3 _ f3 z3 (uFk_min hFk hpp (by decide) (by decide)) (by rw [hFe]; split <;> omega)
        ((with_reducible refine i_Ite (i_cZ_ne (i_Call (i_as1 (i_FR (i_A0 ?_)))))); (with_reducible refine i_fldR (by assumption) ?_); (with_reducible refine i_as1 (i_L3 (i_as1 (i_L4 (i_as0 ?_))))); (with_reducible refine i_recv0 (by assumption) ?_))
        refine s1.mono (fun v M4 h4 => ⟨_, h4.1, ?_⟩)
        obtain ⟨-, rfl⟩ := h4
        cases w : upr Z2 a b
        · (rw [zbI_f]; (with_reducible refine i_f (by omega) ?_); (with_reducible refine i_sCall (i_as1 (i_FR (i_A0 ?_)))); (with_reducible refine i_fldR (by assumption) ?_); (with_reducible refine i_as1 (i_L3 (i_as1 (i_L4 (i_as0 ?_))))); (with_reducible refine i_recv0 (by assumption) ?_))
          refine (s3 w).mono (fun v M5 h5 => ⟨h5.1, ?_⟩)
          (with_reducible refine i_RetV ?_)
          exact h5.2
        · (rw [zbI_t]; (with_reducible refine i_t (by omega) ?_); (with_reducible refine i_sCall (i_as1 (i_A0 (i_as1 (i_I (i_as1 (i_L5 (i_as0 ?_)))))))); (with_reducible refine i_recv0 (by assumption) ?_))
          refine (s2 w).mono (fun v M5 h5 => ⟨h5.1, ?_⟩)
          (with_reducible refine i_RetV ?_)
          exact h5.2
      · rw [if_neg (fun z => z.elim u1 u2)] at hFe
        obtain ⟨s1, s2, s3⟩ := tail M2 _ (fun _ _ _ => rfl) z2 hFk hFe
        have fin : ∀ {Q : zMem → Prop}, (∀ v M4, v = some (0, zbI (upr Z2 a b)) ∧ M4 = M2 → True) → True := fun _ => trivial
        clear fin
        by_cases k9 : zKi B s i = 9
        · ((with_reducible refine i_Seq (i_If (i_cOr (i_cI_eq (i_L3 (i_I ?_)))))); (with_reducible refine i_f (by omega) ?_); (with_reducible refine i_cI_eq (i_L4 (i_I ?_))); (with_reducible refine i_f (by omega) ?_); (with_reducible refine i_Seq (i_Set (i_IA (i_FR (i_A1 ?_))))); (with_reducible refine i_fldR (by assumption) ?_); (with_reducible refine i_Add (i_L2 (i_I ?_))); rw [zx_addc (by omega)]; (with_reducible refine i_in (by assumption) (by omega) (by omega) ?_); (with_reducible refine i_Seq (i_If (i_cI_eq ?_))); (rw [p22]); simp only [w_set0, w_set1, w_setn0, w_setn1]; (with_reducible refine i_L3 (i_L4 ?_)); (with_reducible refine i_f (by omega) ?_); (with_reducible refine i_Seq (i_If (i_cAnd (i_cI_eq (i_IA (i_FR (i_A1 ?_))))))); (with_reducible refine i_fldR (by assumption) ?_); (with_reducible refine i_L2 ?_); (with_reducible refine i_in (by assumption) (by omega) (by omega) ?_); (with_reducible refine i_I ?_); (rw [t02]); (with_reducible refine i_f (by omega) ?_); (with_reducible refine i_Ite (i_cZ_ne (i_Call (i_as1 (i_FR (i_A0 ?_)))))); (with_reducible refine i_fldR (by assumption) ?_); (with_reducible refine i_as1 (i_L3 (i_as1 (i_L4 (i_as0 ?_))))); (with_reducible refine i_recv0 (by assumption) ?_))
          refine s1.mono (fun v M4 h4 => ⟨_, h4.1, ?_⟩)
          obtain ⟨-, rfl⟩ := h4
          cases w : upr Z2 a b
          · (rw [zbI_f]; (with_reducible refine i_f (by omega) ?_); (with_reducible refine i_sCall (i_as1 (i_FR (i_A0 ?_)))); (with_reducible refine i_fldR (by assumption) ?_); (with_reducible refine i_as1 (i_L3 (i_as1 (i_L4 (i_as0 ?_))))); (with_reducible refine i_recv0 (by assumption) ?_))
            refine (s3 w).mono (fun v M5 h5 => ⟨h5.1, ?_⟩)
            (with_reducible refine i_RetV ?_)
            exact h5.2
          · (rw [zbI_t]; (with_reducible refine i_t (by omega) ?_); (with_reducible refine i_sCall (i_as1 (i_A0 (i_as1 (i_I (i_as1 (i_L5 (i_as0 ?_)))))))); (with_reducible refine i_recv0 (by assumption) ?_))
            refine (s2 w).mono (fun v M5 h5 => ⟨h5.1, ?_⟩)
            (with_reducible refine i_RetV ?_)
            exact h5.2
        · have k8 : zKi B s i = 8 := by omega
          have u3 : usd Z2 a b = true := by
            cases h : usd Z2 a b
            · exact absurd ⟨decide_eq_false k9, h⟩ u2
            · rfl
          ((with_reducible refine i_Seq (i_If (i_cOr (i_cI_eq (i_L3 (i_I ?_)))))); (with_reducible refine i_f (by omega) ?_); (with_reducible refine i_cI_eq (i_L4 (i_I ?_))); (with_reducible refine i_f (by omega) ?_); (with_reducible refine i_Seq (i_Set (i_IA (i_FR (i_A1 ?_))))); (with_reducible refine i_fldR (by assumption) ?_); (with_reducible refine i_Add (i_L2 (i_I ?_))); rw [zx_addc (by omega)]; (with_reducible refine i_in (by assumption) (by omega) (by omega) ?_); (with_reducible refine i_Seq (i_If (i_cI_eq ?_))); (rw [p22]); simp only [w_set0, w_set1, w_setn0, w_setn1]; (with_reducible refine i_L3 (i_L4 ?_)); (with_reducible refine i_f (by omega) ?_); (with_reducible refine i_Seq (i_If (i_cAnd (i_cI_eq (i_IA (i_FR (i_A1 ?_))))))); (with_reducible refine i_fldR (by assumption) ?_); (with_reducible refine i_L2 ?_); (with_reducible refine i_in (by assumption) (by omega) (by omega) ?_); (with_reducible refine i_I ?_); (rw [t02]); (with_reducible refine i_t (by omega) ?_); (with_reducible refine i_cNot (i_cZ_ne (i_Call (i_as1 (i_FR (i_A0 ?_)))))); (with_reducible refine i_fldR (by assumption) ?_); (with_reducible refine i_as1 (i_L3 (i_as1 (i_L4 (i_as0 ?_))))); (with_reducible refine i_recv0 (by assumption) ?_); (refine s_joins hO n100 hjs (show a < 16 by omega) (show b < 16 by omega) ⟨_, rfl, ?_⟩); (rw [hT1]); (rw [u3]); rw [zbI_t]; (with_reducible refine i_t (by omega) ?_); (with_reducible refine i_Ite (i_cZ_ne (i_Call (i_as1 (i_FR (i_A0 ?_)))))); (with_reducible refine i_fldR (by assumption) ?_); (with_reducible refine i_as1 (i_L3 (i_as1 (i_L4 (i_as0 ?_))))); (with_reducible refine i_recv0 (by assumption) ?_))
          refine s1.mono (fun v M4 h4 => ⟨_, h4.1, ?_⟩)
          obtain ⟨-, rfl⟩ := h4
          cases w : upr Z2 a b
          · (rw [zbI_f]; (with_reducible refine i_f (by omega) ?_); (with_reducible refine i_sCall (i_as1 (i_FR (i_A0 ?_)))); (with_reducible refine i_fldR (by assumption) ?_); (with_reducible refine i_as1 (i_L3 (i_as1 (i_L4 (i_as0 ?_))))); (with_reducible refine i_recv0 (by assumption) ?_))
            refine (s3 w).mono (fun v M5 h5 => ⟨h5.1, ?_⟩)
            (with_reducible refine i_RetV ?_)
            exact h5.2
          · (rw [zbI_t]; (with_reducible refine i_t (by omega) ?_); (with_reducible refine i_sCall (i_as1 (i_A0 (i_as1 (i_I (i_as1 (i_L5 (i_as0 ?_)))))))); (with_reducible refine i_recv0 (by assumption) ?_))
            refine (s2 w).mono (fun v M5 h5 => ⟨h5.1, ?_⟩)
            (with_reducible refine i_RetV ?_)
            exact h5.2
  · rw [if_neg e] at hk
    by_cases ea : a < n
    · have eb : ¬ b < n := fun z => e ⟨ea, z⟩
      rw [if_pos ea, if_neg eb]
      ((with_reducible refine i_Seq (i_If (i_cOr (i_cI_eq (i_L3 (i_I ?_)))))); (with_reducible refine i_f (by omega) ?_); (with_reducible refine i_cI_eq (i_L4 (i_I ?_))); simp only [w_set0, w_set1, w_setn0, w_setn1]; (with_reducible refine i_t trivial ?_); (with_reducible refine i_RetV ?_))
      exact hk M2 f12 hZ2
    · rw [if_neg ea]
      ((with_reducible refine i_Seq (i_If (i_cOr (i_cI_eq (i_L3 (i_I ?_)))))); simp only [w_set0, w_set1, w_setn0, w_setn1]; (with_reducible refine i_t trivial ?_); (with_reducible refine i_RetV ?_))
      exact hk M2 f12 hZ2
end
