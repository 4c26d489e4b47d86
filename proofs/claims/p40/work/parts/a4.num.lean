/-! ===== boxes numbered by their least posts ===== -/
theorem zfind_eq {s : Nat → Bool} {i n : Nat} (hi : i < n) (hs : s i = true) (h : ∀ j, j < i → s j = false) : zfind s n = i := by
  obtain ⟨h1, h2, h3⟩ := zfind_ok s n
  rcases Nat.lt_trichotomy (zfind s n) i with q | q | q
  · have := h _ q; rw [h2 (by omega)] at this; cases this
  · exact q
  · have := h3 _ q; rw [hs] at this; cases this
theorem zfind_no {s : Nat → Bool} {n : Nat} (h : ∀ j, j < n → s j = false) : zfind s n = n := by
  obtain ⟨h1, h2, h3⟩ := zfind_ok s n
  rcases Nat.lt_or_ge (zfind s n) n with q | q
  · have := h _ q; rw [h2 q] at this; cases this
  · omega
theorem zfind_ext {s t : Nat → Bool} {n : Nat} (h : ∀ i, i < n → s i = t i) : zfind s n = zfind t n := by
  induction n with
  | zero => rfl
  | succ n ih => unfold zfind; rw [ih (fun i hi => h i (by omega)), h n (by omega)]
theorem zfind_le (s : Nat → Bool) (n : Nat) : zfind s n ≤ n := (zfind_ok s n).1
/-- the first place below k that f puts to l, or k -/
def zfl (f : Nat → Nat) (l k : Nat) : Nat := zfind (fun q => decide (f q = l)) k
theorem zfl_le (f : Nat → Nat) (l k : Nat) : zfl f l k ≤ k := zfind_le _ _
theorem zfl_at {f : Nat → Nat} {l k : Nat} (h : zfl f l k < k) : f (zfl f l k) = l := of_decide_eq_true ((zfind_ok (fun q => decide (f q = l)) k).2.1 h)
theorem zfl_no {f : Nat → Nat} {l k j : Nat} (h : j < zfl f l k) : f j ≠ l := of_decide_eq_false ((zfind_ok (fun q => decide (f q = l)) k).2.2 j h)
theorem zfl_eq {f : Nat → Nat} {l k i : Nat} (hi : i < k) (h : f i = l) (hn : ∀ j, j < i → f j ≠ l) : zfl f l k = i := zfind_eq hi (decide_eq_true h) (fun j hj => decide_eq_false (hn j hj))
theorem zfl_st {f : Nat → Nat} {l k k' : Nat} (h : zfl f l k < k) (hk : k ≤ k') : zfl f l k' = zfl f l k := zfl_eq (by omega) (zfl_at h) (fun _ hj => zfl_no hj)
theorem zfl_su (f : Nat → Nat) (l k : Nat) : zfl f l (k + 1) = if zfl f l k < k then zfl f l k else if f k = l then k else k + 1 := by
  unfold zfl
  rw [zfind]
  simp only [decide_eq_true_eq]
def zNew (f : Nat → Nat) (p : Nat) : Bool := decide (zfl f (f p) p = p)
def zNum (f : Nat → Nat) (p : Nat) : Nat := zcnt (zNew f) (zfl f (f p) p)
theorem zfl_in {f : Nat → Nat} {p k : Nat} (h : p < k) : zfl f (f p) k = zfl f (f p) p := by
  rcases Nat.lt_or_ge (zfl f (f p) p) p with q | q
  · exact zfl_st q (by omega)
  · have e : zfl f (f p) p = p := by have := zfl_le f (f p) p; omega
    rw [e]
    exact zfl_eq h rfl (fun j hj => zfl_no (k := p) (by omega))
theorem zNew_at {f : Nat → Nat} {l k : Nat} (h : zfl f l k < k) : zNew f (zfl f l k) = true := by
  have e := zfl_at h
  unfold zNew
  refine decide_eq_true ?_
  rw [e]
  have := zfl_le f l (zfl f l k)
  rcases Nat.lt_or_ge (zfl f l (zfl f l k)) (zfl f l k) with q | q
  · exact absurd (zfl_at q) (zfl_no q)
  · omega
theorem zNum_lt {f : Nat → Nat} {p k : Nat} (h : p < k) : zNum f p < zcnt (zNew f) k := by
  have h1 := zfl_le f (f p) p
  have h2 := zNew_at (f := f) (l := f p) (k := p + 1) (by rw [zfl_in (by omega)]; omega)
  rw [zfl_in (by omega)] at h2
  exact zcnt_lt _ (by omega) h2
theorem zNum_inj {f : Nat → Nat} {p q : Nat} : zNum f p = zNum f q ↔ f p = f q := by
  have a1 := zfl_le f (f p) p
  have a2 := zfl_le f (f q) q
  have h1 := zNew_at (f := f) (l := f p) (k := p + 1) (by rw [zfl_in (by omega)]; omega)
  have h2 := zNew_at (f := f) (l := f q) (k := q + 1) (by rw [zfl_in (by omega)]; omega)
  have e1 := zfl_at (f := f) (l := f p) (k := p + 1) (by rw [zfl_in (by omega)]; omega)
  have e2 := zfl_at (f := f) (l := f q) (k := q + 1) (by rw [zfl_in (by omega)]; omega)
  rw [zfl_in (by omega)] at h1 h2 e1 e2
  constructor
  · intro h
    have := zcnt_inj _ h1 h2 h
    rw [← e1, this, e2]
  · intro h
    unfold zNum
    rw [← zfl_in (f := f) (p := p) (k := p + q + 1) (by omega), ← zfl_in (f := f) (p := q) (k := p + q + 1) (by omega), h]
theorem zNum_on {f : Nat → Nat} {n b : Nat} (h : b < zcnt (zNew f) n) : ∃ p, p < n ∧ zNew f p = true ∧ zNum f p = b := by
  obtain ⟨y, h1, h2, h3⟩ := zcnt_has _ _ _ h
  exact ⟨y, h1, h2, by unfold zNum; rw [of_decide_eq_true h2, h3]⟩
theorem zNew_n {f : Nat → Nat} {k : Nat} (h : zfl f (f k) k < k) : zNew f k = false := decide_eq_false (by omega)
theorem zNew_y {f : Nat → Nat} {k : Nat} (h : ¬ zfl f (f k) k < k) : zNew f k = true := decide_eq_true (by have := zfl_le f (f k) k; omega)
theorem zNum_y {f : Nat → Nat} {k : Nat} (h : ¬ zfl f (f k) k < k) : zNum f k = zcnt (zNew f) k := by unfold zNum; rw [show zfl f (f k) k = k by have := zfl_le f (f k) k; omega]
/-- the table of labels behind k posts -/
def zFre (f : Nat → Nat) (k l : Nat) : Int := if zfl f l k < k then ((zcnt (zNew f) (zfl f l k) : Nat) : Int) else -1
theorem zFre_n {f : Nat → Nat} {k : Nat} (h : zfl f (f k) k < k) (l : Nat) : zFre f (k + 1) l = zFre f k l := by
  unfold zFre
  rw [zfl_su]
  by_cases q : zfl f l k < k
  · rw [if_pos q, if_pos (by omega), if_pos q]
  · rw [if_neg q, if_neg q]
    by_cases e : f k = l
    · subst e; exact absurd h q
    · rw [if_neg e, if_neg (by omega)]
theorem zFre_y {f : Nat → Nat} {k : Nat} (h : ¬ zfl f (f k) k < k) (l : Nat) : zFre f (k + 1) l = if l = f k then ((zcnt (zNew f) k : Nat) : Int) else zFre f k l := by
  unfold zFre
  rw [zfl_su]
  by_cases e : l = f k
  · subst e; rw [if_neg h, if_pos rfl, if_pos rfl, if_pos (by omega)]
  · rw [if_neg e]
    by_cases q : zfl f l k < k
    · rw [if_pos q, if_pos (by omega), if_pos q]
    · rw [if_neg q, if_neg (show ¬ f k = l from fun w => e w.symm), if_neg q, if_neg (Nat.lt_irrefl _)]
theorem zNum_f {f : Nat → Nat} {k : Nat} (h : zfl f (f k) k < k) : zFre f k (f k) = ((zNum f k : Nat) : Int) := by unfold zFre; rw [if_pos h]; rfl
/-- a parting of the class: posts, boxes -/
def zPR (M : zMem) (p n : Nat) (f : Nat → Nat) (m : Nat) : Prop := M ((p : Nat) : Int) ((3 : Nat) : Int) = ((n : Nat) : Int) ∧ M ((p : Nat) : Int) ((4 : Nat) : Int) = ((m : Nat) : Int) ∧ (∀ q : Nat, q < n → M ((p + 1 : Nat) : Int) ((q : Nat) : Int) = ((f q : Nat) : Int)) ∧ ∀ b : Nat, b < m → M ((p + 2 : Nat) : Int) ((b : Nat) : Int) = zmk (fun q => decide (q < n) && decide (f q = b))
theorem zPR.fr {M M' : zMem} {p n m : Nat} {f : Nat → Nat} (h : zPR M p n f m) (hf : ∀ (b : Int) (j : Int), ((p : Nat) : Int) ≤ b → b ≤ ((p + 2 : Nat) : Int) → M' b j = M b j) : zPR M' p n f m :=
  ⟨by rw [hf _ _ (by omega) (by omega)]; exact h.1, by rw [hf _ _ (by omega) (by omega)]; exact h.2.1, fun q hq => by rw [hf _ _ (by omega) (by omega)]; exact h.2.2.1 q hq, fun b hb => by rw [hf _ _ (by omega) (by omega)]; exact h.2.2.2 b hb⟩
theorem c_number {O : zOm} (hO : zWld O) {p n : Nat} {f : Nat → Nat} {M : zMem} {K : Option zV → zMem → Prop} (hp : zPar (zS O) p) (hn : M ((p : Nat) : Int) ((3 : Nat) : Int) = ((n : Nat) : Int)) (hn2 : n ≤ 16) (hb : ∀ q : Nat, q < n → M ((p + 1 : Nat) : Int) ((q : Nat) : Int) = ((f q : Nat) : Int) ∧ f q ≤ 16)
    (hk : ∀ M', (∀ b j, ¬ (b = ((p : Nat) : Int) ∧ j = 4 ∨ ((p + 1 : Nat) : Int) ≤ b ∧ b ≤ ((p + 3 : Nat) : Int)) → M' b j = M b j) → zPR M' p n (zNum f) (zcnt (zNew f) n) → K none M') : zR O F_Parting_number [(2, ((p : Nat) : Int))] M K := by
  obtain ⟨p0, p1, p2, p3, p4, p5, p6, p7, p8⟩ := hp
  apply r_Parting_number hO
  unfold B_Parting_number
  ((with_reducible refine i_Seq (i_Seq (i_sCall (i_as1 (i_FR (i_A0 ?_)))))); (with_reducible refine i_fldR (by assumption) ?_); (with_reducible refine i_as1 (i_I (i_as0 (i_recv1 ?_)))))
  refine s_fill hO p8 (by decide) (fun M1 h1 h2 h3 => ⟨rfl, ?_⟩)
  have hf : ∀ b j, ¬ (b = ((p : Nat) : Int) ∧ j = 4 ∨ ((p + 1 : Nat) : Int) ≤ b ∧ b ≤ ((p + 3 : Nat) : Int)) → M1 b j = M b j := fun b j q => by rw [h1 b (by simp <;> omega)]
  have hb1 : ∀ q : Nat, q < n → M1 ((p + 1 : Nat) : Int) ((q : Nat) : Int) = ((f q : Nat) : Int) := fun q hq => by rw [h1 _ (by simp <;> omega)]; exact (hb q hq).1
  ((with_reducible refine i_Seq (i_sF (i_A0 (i_I ?_)))); (with_reducible refine i_fld (by assumption) ?_); (with_reducible refine i_Blk (i_Seq (i_Set (i_I ?_)))); simp only [w_set0, w_set1, w_setn0, w_setn1])
  refine w_ForN n (fun k ρ M' => (∃ l, ρ = ((p : Nat) : Int) :: ((k : Nat) : Int) :: l) ∧ (∀ b j, ¬ (b = ((p : Nat) : Int) ∧ j = 4 ∨ ((p + 1 : Nat) : Int) ≤ b ∧ b ≤ ((p + 3 : Nat) : Int)) → M' b j = M b j) ∧ M' ((p : Nat) : Int) ((4 : Nat) : Int) = ((zcnt (zNew f) k : Nat) : Int) ∧ (∀ q : Nat, q < k → M' ((p + 1 : Nat) : Int) ((q : Nat) : Int) = ((zNum f q : Nat) : Int)) ∧ (∀ q : Nat, k ≤ q → q < n → M' ((p + 1 : Nat) : Int) ((q : Nat) : Int) = ((f q : Nat) : Int)) ∧ (∀ l : Nat, l ≤ 16 → M' ((p + 3 : Nat) : Int) ((l : Nat) : Int) = zFre f k l) ∧ ∀ b : Nat, b < zcnt (zNew f) k → M' ((p + 2 : Nat) : Int) ((b : Nat) : Int) = zmk (fun q => decide (q < k) && decide (zNum f q = b))) ⟨⟨_, rfl⟩, (by intro b j q; ((rw [zg_o _ _ (by omega)])); first | done | rfl | exact hf b j (by omega)), zg_s _ _ _ _ _, fun q hq => absurd hq (by omega), fun q _ hq => by rw [zg_n _ _ _ (by omega)]; exact hb1 q hq, fun l hl => ?_, fun b hb => absurd hb (by simp [zcnt])⟩ ?_ ?_
  · rw [zg_n _ _ _ (by omega), h2 l (by omega)]; unfold zFre; rw [if_neg (by omega)]
  · rintro k ρ M2 X hk1 ⟨⟨l, rfl⟩, hf, g4, gl, gh, gf, gm⟩ hX
    have gn : M2 ((p : Nat) : Int) ((3 : Nat) : Int) = ((n : Nat) : Int) := (hf _ _ (by omega)).trans hn
    have gk := gh k (by omega) hk1
    have hfk := (hb k hk1).2
    have ge := gf (f k) hfk
    have hc := zcnt_le (zNew f) k
    by_cases hd : zfl f (f k) k < k
    · rw [zNum_f hd] at ge
      have hlt := zNum_lt (f := f) (p := zfl f (f k) k) hd
      have hnk : zNum f k < zcnt (zNew f) k := by
        have := zNum_inj (f := f) (p := zfl f (f k) k) (q := k)
        rw [zfl_at hd] at this
        rw [← this.mpr rfl]; exact hlt
      ((with_reducible refine i_turn (i_cI_lt (i_L1 (i_F (i_A0 ?_))))); (with_reducible refine i_fld (by assumption) ?_); (rw [gn]); (with_reducible refine i_t (by omega) ?_); (with_reducible refine i_Blk (i_Seq (i_Set (i_IA (i_FR (i_A0 ?_)))))); (with_reducible refine i_fldR (by assumption) ?_); (with_reducible refine i_L1 ?_); (with_reducible refine i_in (by assumption) (by omega) (by omega) ?_); (with_reducible refine i_Seq (i_If (i_cI_eq (i_IA (i_FR ?_))))); (rw [gk]); simp only [w_set0, w_set1, w_setn0, w_setn1]; (with_reducible refine i_A0 ?_); (with_reducible refine i_fldR (by assumption) ?_); rw [w_setT]; (with_reducible refine i_L2 ?_); (with_reducible refine i_in (by assumption) (by omega) (by omega) ?_); (with_reducible refine i_I ?_); (rw [ge]); (with_reducible refine i_f (by omega) ?_); (with_reducible refine i_Seq (i_sIA (i_FR (i_A0 ?_)))); (with_reducible refine i_fldR (by assumption) ?_); (with_reducible refine i_L1 (i_IA (i_FR (i_A0 ?_)))); (with_reducible refine i_fldR (by assumption) ?_); (with_reducible refine i_L2 ?_); (with_reducible refine i_in (by assumption) (by omega) (by omega) ?_); (with_reducible refine i_in (by assumption) (by omega) (by omega) ?_); (with_reducible refine i_IO (i_FR (i_A0 ?_))); (with_reducible refine i_fldR (by assumption) ?_); (with_reducible refine i_IA (i_FR (i_A0 ?_))); (with_reducible refine i_fldR (by assumption) ?_); (with_reducible refine i_L1 ?_); (with_reducible refine i_in (by assumption) (by omega) (by omega) ?_); rw [zg_s]; (with_reducible refine i_in (by assumption) (by omega) (by omega) ?_); (with_reducible refine i_Shl (i_I (i_L1 (i_up (i_Inc1 ?_))))); rw [zg_n _ _ _ (by omega)]; (rw [ge]); rw [zx_inc (by omega)]; simp only [w_set0, w_set1, w_setn0, w_setn1])
      refine hX _ _ ⟨⟨_, rfl⟩, (by intro b j q; ((rw [zg_n _ _ _ (by omega)]; rw [zg_n _ _ _ (by omega)])); first | done | rfl | exact hf b j (by omega)), ?_, fun q hq => ?_, fun q h1 h2 => ?_, fun l hl => ?_, fun b hb => ?_⟩
      · rw [zg_n _ _ _ (by omega), zg_n _ _ _ (by omega), zcnt, zNew_n hd]; exact g4
      · rw [zg_n _ _ _ (by omega)]
        by_cases e : q = k
        · subst e; rw [zg_s]
        · rw [zg_m _ _ _ _ _ (by omega)]; exact gl q (by omega)
      · rw [zg_n _ _ _ (by omega), zg_m _ _ _ _ _ (by omega)]; exact gh q (by omega) h2
      · rw [zg_n _ _ _ (by omega), zg_n _ _ _ (by omega), zFre_n hd]; exact gf l hl
      · rw [zcnt, zNew_n hd] at hb
        have hb2 : b < zcnt (zNew f) k := hb
        by_cases e : b = zNum f k
        · subst e
          rw [zg_s, gm _ hb2, yshl_mk (by omega), zmk_or]
          refine zmk_ext fun q _ => ?_
          by_cases w : q = k
          · subst w; simp
          · simp [w]; by_cases w2 : q < k
            · simp [w2, show q < k + 1 by omega]
            · simp [w2, show ¬ q < k + 1 by omega]
        · rw [zg_m _ _ _ _ _ (by omega), zg_n _ _ _ (by omega), gm _ hb2]
          refine zmk_ext fun q _ => ?_
          by_cases w : q = k
          · subst w; simp [Ne.symm e]
          · by_cases w2 : q < k
            · simp [w2, show q < k + 1 by omega]
            · simp [w2, show ¬ q < k + 1 by omega]
    · have ge1 : M2 ((p + 3 : Nat) : Int) ((f k : Nat) : Int) = -1 := by rw [ge]; unfold zFre; rw [if_neg hd]
      ((with_reducible refine i_turn (i_cI_lt (i_L1 (i_F (i_A0 ?_))))); (with_reducible refine i_fld (by assumption) ?_); (rw [gn]); (with_reducible refine i_t (by omega) ?_); (with_reducible refine i_Blk (i_Seq (i_Set (i_IA (i_FR (i_A0 ?_)))))); (with_reducible refine i_fldR (by assumption) ?_); (with_reducible refine i_L1 ?_); (with_reducible refine i_in (by assumption) (by omega) (by omega) ?_); (with_reducible refine i_Seq (i_If (i_cI_eq (i_IA (i_FR ?_))))); (rw [gk]); simp only [w_set0, w_set1, w_setn0, w_setn1]; (with_reducible refine i_A0 ?_); (with_reducible refine i_fldR (by assumption) ?_); rw [w_setT]; (with_reducible refine i_L2 ?_); (with_reducible refine i_in (by assumption) (by omega) (by omega) ?_); (with_reducible refine i_I ?_); (rw [ge1]); simp only [w_set0, w_set1, w_setn0, w_setn1]; (with_reducible refine i_t trivial ?_); (with_reducible refine i_Seq (i_sIA (i_FR (i_A0 ?_)))); (with_reducible refine i_fldR (by assumption) ?_); (with_reducible refine i_L2 (i_F (i_A0 ?_))); (with_reducible refine i_fld (by assumption) ?_); (with_reducible refine i_in (by assumption) (by omega) (by omega) ?_); (with_reducible refine i_Seq (i_sIA (i_FR (i_A0 ?_)))); (with_reducible refine i_fldR (by assumption) ?_); (with_reducible refine i_F (i_A0 ?_)); (with_reducible refine i_fld (by assumption) ?_); (with_reducible refine i_I ?_); rw [zg_n _ _ _ (by omega)]; (with_reducible refine i_in (by assumption) (by omega) (by omega) ?_); (with_reducible refine i_FO (i_A0 ?_)); (with_reducible refine i_fld (by assumption) ?_); (with_reducible refine i_I ?_); (with_reducible refine i_fld (by assumption) ?_); (with_reducible refine i_Seq (i_sIA (i_FR (i_A0 ?_)))); (with_reducible refine i_fldR (by assumption) ?_); (with_reducible refine i_L1 (i_IA (i_FR (i_A0 ?_)))); (with_reducible refine i_fldR (by assumption) ?_); (with_reducible refine i_L2 ?_); (with_reducible refine i_in (by assumption) (by omega) (by omega) ?_); (with_reducible refine i_in (by assumption) (by omega) (by omega) ?_); (with_reducible refine i_IO (i_FR (i_A0 ?_))); (with_reducible refine i_fldR (by assumption) ?_); (with_reducible refine i_IA (i_FR (i_A0 ?_))); (with_reducible refine i_fldR (by assumption) ?_); (with_reducible refine i_L1 ?_); (with_reducible refine i_in (by assumption) (by omega) (by omega) ?_); rw [zg_s]; rw [zg_n _ _ _ (by omega)]; rw [zg_n _ _ _ (by omega)]; rw [zg_s]; (with_reducible refine i_in (by assumption) (by omega) (by omega) ?_); (with_reducible refine i_Shl (i_I (i_L1 (i_up (i_Inc1 ?_))))); rw [zg_n _ _ _ (by omega)]; rw [zg_n _ _ _ (by omega)]; rw [zg_n _ _ _ (by omega)]; rw [zg_n _ _ _ (by omega)]; rw [zg_s]; (rw [g4]); rw [zx_inc (by omega)]; rw [zx_inc (by omega)]; simp only [w_set0, w_set1, w_setn0, w_setn1])
      refine hX _ _ ⟨⟨_, rfl⟩, (by intro b j q; ((rw [zg_n _ _ _ (by omega)]; rw [zg_n _ _ _ (by omega)]; rw [zg_o _ _ (by omega)]; rw [zg_n _ _ _ (by omega)]; rw [zg_n _ _ _ (by omega)])); first | done | rfl | exact hf b j (by omega)), ?_, fun q hq => ?_, fun q h1 h2 => ?_, fun l hl => ?_, fun b hb => ?_⟩
      · (rw [zg_n _ _ _ (by omega)]; rw [zg_n _ _ _ (by omega)]; rw [zg_s])
        rw [zcnt, zNew_y hd]; rfl
      · rw [zg_n _ _ _ (by omega)]
        by_cases e : q = k
        · subst e; rw [zg_s, zNum_y hd]
        · (rw [zg_m _ _ _ _ _ (by omega)]; rw [zg_n _ _ _ (by omega)]; rw [zg_n _ _ _ (by omega)]; rw [zg_n _ _ _ (by omega)])
          exact gl q (by omega)
      · (rw [zg_n _ _ _ (by omega)]; rw [zg_m _ _ _ _ _ (by omega)]; rw [zg_n _ _ _ (by omega)]; rw [zg_n _ _ _ (by omega)]; rw [zg_n _ _ _ (by omega)])
        exact gh q (by omega) h2
      · rw [zFre_y hd]
        by_cases e : l = f k
        · subst e
          rw [if_pos rfl]
          (rw [zg_n _ _ _ (by omega)]; rw [zg_n _ _ _ (by omega)]; rw [zg_n _ _ _ (by omega)]; rw [zg_n _ _ _ (by omega)]; rw [zg_s])
        · rw [if_neg e]
          (rw [zg_n _ _ _ (by omega)]; rw [zg_n _ _ _ (by omega)]; rw [zg_n _ _ _ (by omega)]; rw [zg_n _ _ _ (by omega)]; rw [zg_m _ _ _ _ _ (by omega)])
          exact gf l hl
      · rw [zcnt, zNew_y hd] at hb
        simp only [if_true] at hb
        by_cases e : b = zcnt (zNew f) k
        · subst e
          rw [zg_s]
          (skip)
          rw [yshl_mk (by omega), zmk_0, zmk_or]
          refine zmk_ext fun q _ => ?_
          by_cases w : q = k
          · subst w; simp [zNum_y hd]
          · by_cases w2 : q < k
            · have := zNum_lt (f := f) w2
              simp [w, w2, show q < k + 1 by omega]; omega
            · simp [w, w2, show ¬ q < k + 1 by omega]
        · have hb2 : b < zcnt (zNew f) k := by omega
          (rw [zg_m _ _ _ _ _ (by omega)]; rw [zg_n _ _ _ (by omega)]; rw [zg_n _ _ _ (by omega)]; rw [zg_m _ _ _ _ _ (by omega)]; rw [zg_n _ _ _ (by omega)])
          rw [gm _ hb2]
          refine zmk_ext fun q _ => ?_
          by_cases w : q = k
          · subst w; simp [zNum_y hd]; omega
          · by_cases w2 : q < k
            · simp [w2, show q < k + 1 by omega]
            · simp [w2, show ¬ q < k + 1 by omega]
  · rintro ρ M2 X ⟨⟨l, rfl⟩, hf, g4, gl, gh, gf, gm⟩
    have gn : M2 ((p : Nat) : Int) ((3 : Nat) : Int) = ((n : Nat) : Int) := (hf _ _ (by omega)).trans hn
    ((with_reducible refine i_turn (i_cI_lt (i_L1 (i_F (i_A0 ?_))))); (with_reducible refine i_fld (by assumption) ?_); (rw [gn]); (with_reducible refine i_f (by omega) ?_); (with_reducible refine i_RetV ?_))
    exact hk _ hf ⟨gn, g4, gl, gm⟩
/-! the reference's -/
def rBox (M : zMem) (t n : Nat) (f : Nat → Nat) : Prop := ∀ q : Nat, q < n → M ((259 : Nat) : Int) ((16 * t + q : Nat) : Int) = ((f q : Nat) : Int)
def rSiz (M : zMem) (t : Nat) (s : Nat → Nat) : Prop := ∀ b : Nat, b < 16 → M ((260 : Nat) : Int) ((16 * t + b : Nat) : Int) = ((s b : Nat) : Int)
/-- how many posts a box has -/
def zSz (f : Nat → Nat) (n b : Nat) : Nat := zcnt (fun q => decide (f q = b)) n
theorem zSz_su (f : Nat → Nat) (n b : Nat) : zSz f (n + 1) b = zSz f n b + (if f n = b then 1 else 0) := by
  unfold zSz
  rw [zcnt]
  simp only [decide_eq_true_eq]
theorem zSz_le (f : Nat → Nat) (n b : Nat) : zSz f n b ≤ n := zcnt_le _ _
theorem zNum_lab {f : Nat → Nat} {k : Nat} (hd : zfl f (f k) k < k) : zNum f k < zcnt (zNew f) k := by
  have hlt := zNum_lt (f := f) (p := zfl f (f k) k) hd
  have := zNum_inj (f := f) (p := zfl f (f k) k) (q := k)
  rw [zfl_at hd] at this
  rw [← this.mpr rfl]; exact hlt
theorem zNum_le (f : Nat → Nat) (k : Nat) : zNum f k ≤ k := by
  have := zNum_lt (f := f) (p := k) (k := k + 1) (by omega)
  have := zcnt_le (zNew f) (k + 1)
  omega
theorem m_number {O : zOm} (hO : zWld O) (hS : zS O = zmS zC0) {t n : Nat} {f : Nat → Nat} {M : zMem} {K : Option zV → zMem → Prop} (ht : t < 7) (hn : M 250 ((1 : Nat) : Int) = ((n : Nat) : Int)) (hn2 : n ≤ 16) (hb : rBox M t n f) (hb2 : ∀ q : Nat, q < n → f q ≤ 16)
    (hk : ∀ M', (∀ b j, ¬ (b = 258 ∧ j = ((t : Nat) : Int) ∨ (b = 259 ∨ b = 260) ∧ ((16 * t : Nat) : Int) ≤ j ∧ j < ((16 * t + 16 : Nat) : Int) ∨ b = 271) → M' b j = M b j) → M' ((258 : Nat) : Int) ((t : Nat) : Int) = ((zcnt (zNew f) n : Nat) : Int) → rBox M' t n (zNum f) → rSiz M' t (zSz (zNum f) n) → (∀ l : Nat, l ≤ 16 → M' ((271 : Nat) : Int) ((l : Nat) : Int) = zFre f n l) → K none M') : zR O F_Model_number [(2, 250), (0, ((t : Nat) : Int))] M K := by
  apply r_Model_number hO
  unfold B_Model_number
  have f25 := zMF (k := 25) hS rfl; have a271 := zMA (a := 271) (ty := .int) (n := 17) hS rfl; have f14 := zMF (k := 14) hS rfl; have a260 := zMA (a := 260) (ty := .int) (n := 112) hS rfl; have f1 := zMF (k := 1) hS rfl; have f13 := zMF (k := 13) hS rfl; have a259 := zMA (a := 259) (ty := .int) (n := 112) hS rfl; have f12 := zMF (k := 12) hS rfl; have a258 := zMA (a := 258) (ty := .int) (n := 7) hS rfl; have zo := zMO hS
  ((with_reducible refine i_Seq (i_Seq (i_Blk (i_Seq (i_Set (i_I ?_)))))); simp only [w_set0, w_set1, w_setn0, w_setn1])
  refine w_ForN 17 (fun k ρ M' => ρ = [250, ((t : Nat) : Int), ((k : Nat) : Int)] ∧ (∀ b j, ¬ b = 271 → M' b j = M b j) ∧ ∀ j : Nat, j < k → M' ((271 : Nat) : Int) j = -1) ⟨rfl, fun _ _ _ => rfl, fun j hj => absurd hj (by omega)⟩ ?_ ?_
  · rintro k ρ M1 X hk1 ⟨rfl, hf, h⟩ hX
    ((with_reducible refine i_turn (i_cI_lt (i_L2 (i_I ?_)))); (with_reducible refine i_t (by omega) ?_); (with_reducible refine i_sIA (i_FR (i_A0 ?_))); (with_reducible refine i_fldR (by assumption) ?_); (with_reducible refine i_L2 (i_I ?_)); (with_reducible refine i_in (by assumption) (by omega) (by omega) ?_); (with_reducible refine i_up (i_Inc2 ?_)); rw [zx_inc (by omega)]; simp only [w_set0, w_set1, w_setn0, w_setn1])
    refine hX _ _ ⟨rfl, (by intro b j q; ((rw [zg_n _ _ _ (by omega)])); first | done | rfl | exact hf b j (by omega)), fun j hj => ?_⟩
    by_cases e : j = k
    · subst e; rw [zg_s]
    · rw [zg_m _ _ _ _ _ (by omega)]; exact h j (by omega)
  rintro ρ M1 X ⟨rfl, hf0, h0⟩
  ((with_reducible refine i_turn (i_cI_lt (i_L2 (i_I ?_)))); (with_reducible refine i_f (by omega) ?_); (with_reducible refine i_Seq (i_Blk (i_Seq (i_Set (i_I ?_))))); simp only [w_set0, w_set1, w_setn0, w_setn1])
  refine w_ForN 16 (fun k ρ M' => ρ = [250, ((t : Nat) : Int), ((k : Nat) : Int)] ∧ (∀ b j, ¬ (b = 260 ∧ ((16 * t : Nat) : Int) ≤ j ∧ j < ((16 * t + 16 : Nat) : Int)) → M' b j = M1 b j) ∧ ∀ j : Nat, j < k → M' ((260 : Nat) : Int) ((16 * t + j : Nat) : Int) = 0) ⟨rfl, fun _ _ _ => rfl, fun j hj => absurd hj (by omega)⟩ ?_ ?_
  · rintro k ρ M2 X hk1 ⟨rfl, hf, h⟩ hX
    ((with_reducible refine i_turn (i_cI_lt (i_L2 (i_I ?_)))); (with_reducible refine i_t (by omega) ?_); (with_reducible refine i_sIA (i_FR (i_A0 ?_))); (with_reducible refine i_fldR (by assumption) ?_); (with_reducible refine i_Add (i_Mul (i_I (i_L1 (i_L2 (i_I ?_)))))); rw [zx_cmul (by omega)]; rw [zx_add (by omega)]; (with_reducible refine i_in (by assumption) (by omega) (by omega) ?_); (with_reducible refine i_up (i_Inc2 ?_)); rw [zx_inc (by omega)]; simp only [w_set0, w_set1, w_setn0, w_setn1])
    refine hX _ _ ⟨rfl, (by intro b j q; ((rw [zg_o _ _ (by omega)])); first | done | rfl | exact hf b j (by omega)), fun j hj => ?_⟩
    by_cases e : j = k
    · subst e; rw [zg_s]
    · rw [zg_m _ _ _ _ _ (by omega)]; exact h j (by omega)
  rintro ρ M2 X ⟨rfl, hf1, h1⟩
  ((with_reducible refine i_turn (i_cI_lt (i_L2 (i_I ?_)))); (with_reducible refine i_f (by omega) ?_); (with_reducible refine i_Seq (i_Set (i_I (i_Seq (i_Blk (i_Seq (i_Set (i_I ?_)))))))); simp only [w_set0, w_set1, w_setn0, w_setn1])
  refine w_ForN n (fun k ρ M' => (∃ l, ρ = 250 :: ((t : Nat) : Int) :: ((zcnt (zNew f) k : Nat) : Int) :: ((k : Nat) : Int) :: l) ∧ (∀ b j, ¬ ((b = 259 ∨ b = 260) ∧ ((16 * t : Nat) : Int) ≤ j ∧ j < ((16 * t + 16 : Nat) : Int) ∨ b = 271) → M' b j = M b j) ∧ (∀ q : Nat, q < k → M' ((259 : Nat) : Int) ((16 * t + q : Nat) : Int) = ((zNum f q : Nat) : Int)) ∧ (∀ q : Nat, k ≤ q → q < n → M' ((259 : Nat) : Int) ((16 * t + q : Nat) : Int) = ((f q : Nat) : Int)) ∧ (∀ l : Nat, l ≤ 16 → M' ((271 : Nat) : Int) ((l : Nat) : Int) = zFre f k l) ∧ rSiz M' t (zSz (zNum f) k)) ⟨⟨_, rfl⟩, fun b j q => by rw [hf1 b j (by omega), hf0 b j (by omega)], fun q hq => absurd hq (by omega), fun q _ hq => by rw [hf1 _ _ (by omega), hf0 _ _ (by omega)]; exact hb q hq, fun l hl => by rw [hf1 _ _ (by omega), h0 l (by omega)]; unfold zFre; rw [if_neg (by omega)], fun b hb => h1 b hb⟩ ?_ ?_
  · rintro k ρ M3 X hk1 ⟨⟨l, rfl⟩, hf, gl, gh, gf, gs⟩ hX
    have gn : M3 250 ((1 : Nat) : Int) = ((n : Nat) : Int) := (hf _ _ (by omega)).trans hn
    have gk := gh k (by omega) hk1
    have hfk := hb2 k hk1
    have ge := gf (f k) hfk
    have hc := zcnt_le (zNew f) k
    have hle := zNum_le f k
    have gs1 := gs (zNum f k) (by omega)
    have hsz := zSz_le (zNum f) k (zNum f k)
    by_cases hd : zfl f (f k) k < k
    · rw [zNum_f hd] at ge
      ((with_reducible refine i_turn (i_cI_lt (i_L3 (i_F (i_A0 ?_))))); (with_reducible refine i_fld (by assumption) ?_); (rw [gn]); (with_reducible refine i_t (by omega) ?_); (with_reducible refine i_Blk (i_Seq (i_Set (i_IA (i_FR (i_A0 ?_)))))); (with_reducible refine i_fldR (by assumption) ?_); (with_reducible refine i_Add (i_Mul (i_I (i_L1 (i_L3 ?_))))); rw [zx_cmul (by omega)]; rw [zx_add (by omega)]; (with_reducible refine i_in (by assumption) (by omega) (by omega) ?_); (with_reducible refine i_Seq (i_If (i_cZ_lt (i_IA (i_FR ?_))))); (rw [gk]); simp only [w_set0, w_set1, w_setn0, w_setn1]; (with_reducible refine i_A0 ?_); (with_reducible refine i_fldR (by assumption) ?_); rw [w_setT]; (with_reducible refine i_L4 ?_); (with_reducible refine i_in (by assumption) (by omega) (by omega) ?_); (rw [ge]); (with_reducible refine i_f (by omega) ?_); (with_reducible refine i_Seq (i_sIA (i_FR (i_A0 ?_)))); (with_reducible refine i_fldR (by assumption) ?_); (with_reducible refine i_Add (i_Mul (i_I (i_L1 (i_L3 (i_IA (i_FR (i_A0 ?_)))))))); (with_reducible refine i_fldR (by assumption) ?_); (with_reducible refine i_L4 ?_); (with_reducible refine i_in (by assumption) (by omega) (by omega) ?_); (rw [ge]); rw [zx_cmul (by omega)]; rw [zx_add (by omega)]; (with_reducible refine i_in (by assumption) (by omega) (by omega) ?_); (with_reducible refine i_IO (i_FR (i_A0 ?_))); (with_reducible refine i_fldR (by assumption) ?_); (with_reducible refine i_Add (i_Mul (i_I (i_L1 (i_IA (i_FR (i_A0 ?_))))))); (with_reducible refine i_fldR (by assumption) ?_); (with_reducible refine i_L4 ?_); (with_reducible refine i_in (by assumption) (by omega) (by omega) ?_); rw [zg_n _ _ _ (by omega)]; rw [zg_n _ _ _ (by omega)]; (rw [ge]); rw [zx_cmul (by omega)]; rw [zx_add (by omega)]; (with_reducible refine i_in (by assumption) (by omega) (by omega) ?_); (with_reducible refine i_I (i_up (i_Inc3 ?_))); (rw [gs1]); rw [zx_inc (by omega)]; rw [zx_inc (by omega)]; simp only [w_set0, w_set1, w_setn0, w_setn1])
      refine hX _ _ ⟨⟨_, by rw [show zcnt (zNew f) (k + 1) = zcnt (zNew f) k by rw [zcnt, zNew_n hd]; rfl]⟩, (by intro b j q; ((rw [zg_o _ _ (by omega)]; rw [zg_o _ _ (by omega)])); first | done | rfl | exact hf b j (by omega)), fun q hq => ?_, fun q h1 h2 => ?_, fun l hl => ?_, fun b hb => ?_⟩
      · by_cases e : q = k
        · subst e
          (rw [zg_n _ _ _ (by omega)]; rw [zg_s])
        · (rw [zg_n _ _ _ (by omega)]; rw [zg_m _ _ _ _ _ (by omega)])
          exact gl q (by omega)
      · (rw [zg_n _ _ _ (by omega)]; rw [zg_m _ _ _ _ _ (by omega)])
        exact gh q (by omega) h2
      · rw [zFre_n hd]
        (rw [zg_n _ _ _ (by omega)]; rw [zg_n _ _ _ (by omega)])
        exact gf l hl
      · rw [zSz_su]
        by_cases e : b = zNum f k
        · subst e; rw [zg_s, if_pos rfl]
        · rw [if_neg (Ne.symm e)]
          (rw [zg_m _ _ _ _ _ (by omega)]; rw [zg_n _ _ _ (by omega)])
          exact gs b hb
    · have ge1 : M3 ((271 : Nat) : Int) ((f k : Nat) : Int) = -1 := by rw [ge]; unfold zFre; rw [if_neg hd]
      have hy := zNum_y hd
      ((with_reducible refine i_turn (i_cI_lt (i_L3 (i_F (i_A0 ?_))))); (with_reducible refine i_fld (by assumption) ?_); (rw [gn]); (rw [← hy]); (with_reducible refine i_t (by omega) ?_); (with_reducible refine i_Blk (i_Seq (i_Set (i_IA (i_FR (i_A0 ?_)))))); (with_reducible refine i_fldR (by assumption) ?_); (with_reducible refine i_Add (i_Mul (i_I (i_L1 (i_L3 ?_))))); rw [zx_cmul (by omega)]; rw [zx_add (by omega)]; (with_reducible refine i_in (by assumption) (by omega) (by omega) ?_); (with_reducible refine i_Seq (i_If (i_cZ_lt (i_IA (i_FR ?_))))); (rw [gk]); simp only [w_set0, w_set1, w_setn0, w_setn1]; (with_reducible refine i_A0 ?_); (with_reducible refine i_fldR (by assumption) ?_); rw [w_setT]; (with_reducible refine i_L4 ?_); (with_reducible refine i_in (by assumption) (by omega) (by omega) ?_); (rw [ge1]); (with_reducible refine i_t (by omega) ?_); (with_reducible refine i_Seq (i_sIA (i_FR (i_A0 ?_)))); (with_reducible refine i_fldR (by assumption) ?_); (with_reducible refine i_L4 (i_L2 ?_)); (with_reducible refine i_in (by assumption) (by omega) (by omega) ?_); (with_reducible refine i_Inc2 (i_Seq (i_sIA (i_FR ?_)))); rw [zx_inc (by omega)]; simp only [w_set0, w_set1, w_setn0, w_setn1]; (with_reducible refine i_A0 ?_); (with_reducible refine i_fldR (by assumption) ?_); (with_reducible refine i_Add (i_Mul (i_I (i_L1 (i_L3 (i_IA (i_FR (i_A0 ?_)))))))); (with_reducible refine i_fldR (by assumption) ?_); (with_reducible refine i_L4 ?_); (with_reducible refine i_in (by assumption) (by omega) (by omega) ?_); rw [zg_s]; rw [zx_cmul (by omega)]; rw [zx_add (by omega)]; (with_reducible refine i_in (by assumption) (by omega) (by omega) ?_); (with_reducible refine i_IO (i_FR (i_A0 ?_))); (with_reducible refine i_fldR (by assumption) ?_); (with_reducible refine i_Add (i_Mul (i_I (i_L1 (i_IA (i_FR (i_A0 ?_))))))); (with_reducible refine i_fldR (by assumption) ?_); (with_reducible refine i_L4 ?_); (with_reducible refine i_in (by assumption) (by omega) (by omega) ?_); rw [zg_n _ _ _ (by omega)]; rw [zg_s]; rw [zg_n _ _ _ (by omega)]; rw [zg_n _ _ _ (by omega)]; rw [zx_cmul (by omega)]; rw [zx_add (by omega)]; (with_reducible refine i_in (by assumption) (by omega) (by omega) ?_); (with_reducible refine i_I (i_up (i_Inc3 ?_))); (rw [gs1]); rw [zx_inc (by omega)]; rw [zx_inc (by omega)]; simp only [w_set0, w_set1, w_setn0, w_setn1])
      refine hX _ _ ⟨⟨_, by rw [show zcnt (zNew f) (k + 1) = zNum f k + 1 by rw [zcnt, zNew_y hd, hy]; rfl]⟩, (by intro b j q; ((rw [zg_o _ _ (by omega)]; rw [zg_o _ _ (by omega)]; rw [zg_n _ _ _ (by omega)])); first | done | rfl | exact hf b j (by omega)), fun q hq => ?_, fun q h1 h2 => ?_, fun l hl => ?_, fun b hb => ?_⟩
      · by_cases e : q = k
        · subst e
          (rw [zg_n _ _ _ (by omega)]; rw [zg_s])
        · (rw [zg_n _ _ _ (by omega)]; rw [zg_m _ _ _ _ _ (by omega)]; rw [zg_n _ _ _ (by omega)])
          exact gl q (by omega)
      · (rw [zg_n _ _ _ (by omega)]; rw [zg_m _ _ _ _ _ (by omega)]; rw [zg_n _ _ _ (by omega)])
        exact gh q (by omega) h2
      · rw [zFre_y hd]
        by_cases e : l = f k
        · subst e
          rw [if_pos rfl]
          (rw [zg_n _ _ _ (by omega)]; rw [zg_n _ _ _ (by omega)]; rw [zg_s]; (rw [← hy]))
        · rw [if_neg e]
          (rw [zg_n _ _ _ (by omega)]; rw [zg_n _ _ _ (by omega)]; rw [zg_m _ _ _ _ _ (by omega)])
          exact gf l hl
      · rw [zSz_su]
        by_cases e : b = zNum f k
        · subst e; rw [zg_s, if_pos rfl]
        · rw [if_neg (Ne.symm e)]
          (rw [zg_m _ _ _ _ _ (by omega)]; rw [zg_n _ _ _ (by omega)]; rw [zg_n _ _ _ (by omega)])
          exact gs b hb
  · rintro ρ M3 X ⟨⟨l, rfl⟩, hf, gl, gh, gf, gs⟩
    have gn : M3 250 ((1 : Nat) : Int) = ((n : Nat) : Int) := (hf _ _ (by omega)).trans hn
    ((with_reducible refine i_turn (i_cI_lt (i_L3 (i_F (i_A0 ?_))))); (with_reducible refine i_fld (by assumption) ?_); (rw [gn]); (with_reducible refine i_f (by omega) ?_); (with_reducible refine i_sIA (i_FR (i_A0 ?_))); (with_reducible refine i_fldR (by assumption) ?_); (with_reducible refine i_L1 (i_L2 ?_)); (with_reducible refine i_in (by assumption) (by omega) (by omega) ?_); (with_reducible refine i_RetV ?_))
    refine hk _ (by intro b j q; ((rw [zg_o _ _ (by omega)])); first | done | rfl | exact hf b j (by omega)) (zg_s _ _ _ _ _) (fun q hq => ?_) (fun b hb => ?_) (fun l hl => ?_)
    · (rw [zg_n _ _ _ (by omega)])
      exact gl q hq
    · (rw [zg_n _ _ _ (by omega)])
      exact gs b hb
    · (rw [zg_n _ _ _ (by omega)])
      exact gf l hl
