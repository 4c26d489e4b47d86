/-! ===== the class: words cleared; ties between boxes; crowds and sides by the rule ===== -/
theorem c_clearWords {O : zOm} (hO : zWld O) {x n : Nat} {M : zMem} {K : Option zV → zMem → Prop} (hx : zTeC (zS O) x) (hn : M ((x + 1 : Nat) : Int) ((3 : Nat) : Int) = ((n : Nat) : Int))
    (hk : ∀ M', (∀ b j, ¬ (b = ((x : Nat) : Int) ∧ j = 6 ∨ ((x + 7 : Nat) : Int) ≤ b ∧ b ≤ ((x + 12 : Nat) : Int)) → M' b j = M b j) → zWd M' x (fun _ => false) → zNR M' (x + 7) n (fun _ _ => false) → zNR M' (x + 9) n (fun _ _ => false) → zNR M' (x + 11) n (fun _ _ => false) → K none M') : zR O F_Telling_clearWords [(2, ((x : Nat) : Int))] M K := by
  obtain ⟨⟨o, x0, x1, x2, x3, x4, x5, x6⟩, ⟨y1, y2⟩, ⟨p0, p1, p2, p3, p4, p5, p6, p7, p8⟩, n1, n2, n3⟩ := hx
  have o1 := n1.2.2.2
  have o2 := n2.2.2.2
  have o3 := n3.2.2.2
  apply r_Telling_clearWords hO
  unfold B_Telling_clearWords
  ((with_reducible refine i_Seq (i_Seq (i_sF (i_A0 (i_I ?_))))); (with_reducible refine i_fld (by assumption) ?_); (with_reducible refine i_Seq (i_sCall (i_as1 (i_FR (i_A0 ?_))))); (with_reducible refine i_fldR (by assumption) ?_); (with_reducible refine i_as1 (i_F (i_FR (i_A0 ?_)))); (with_reducible refine i_fldR (by assumption) ?_); (with_reducible refine i_fld (by assumption) ?_); (with_reducible refine i_as0 ?_); (with_reducible refine i_recv0 (by assumption) ?_); rw [zg_n _ _ _ (by omega)]; (rw [hn]); (refine s_Net_clear hO n1 (fun M1 f1 h1 => ⟨rfl, ?_⟩)); (with_reducible refine i_Seq (i_sCall (i_as1 (i_FR (i_A0 ?_))))); (with_reducible refine i_fldR (by assumption) ?_); (with_reducible refine i_as1 (i_F (i_FR (i_A0 ?_)))); (with_reducible refine i_fldR (by assumption) ?_); (with_reducible refine i_fld (by assumption) ?_); (with_reducible refine i_as0 ?_); (with_reducible refine i_recv0 (by assumption) ?_))
  have g1 : M1 ((x + 1 : Nat) : Int) ((3 : Nat) : Int) = ((n : Nat) : Int) := by
    rw [f1 _ (by simp <;> omega)]
    (rw [zg_n _ _ _ (by omega)])
    exact hn
  have e1 : M1 ((x : Nat) : Int) ((6 : Nat) : Int) = 0 := by
    rw [f1 _ (by simp <;> omega)]
    (rw [zg_s])
  have k1 : ∀ b j, ¬ (b = ((x : Nat) : Int) ∧ j = 6 ∨ ((x + 7 : Nat) : Int) ≤ b ∧ b ≤ ((x + 12 : Nat) : Int)) → M1 b j = M b j := fun b j q => by
    rw [f1 b (by simp <;> omega), zg_o _ _ (by omega)]
  ((rw [g1]); (refine s_Net_clear hO n2 (fun M2 f2 h2 => ⟨rfl, ?_⟩)); (with_reducible refine i_sCall (i_as1 (i_FR (i_A0 ?_)))); (with_reducible refine i_fldR (by assumption) ?_); (with_reducible refine i_as1 (i_F (i_FR (i_A0 ?_)))); (with_reducible refine i_fldR (by assumption) ?_); (with_reducible refine i_fld (by assumption) ?_); (with_reducible refine i_as0 ?_); (with_reducible refine i_recv0 (by assumption) ?_))
  have g2 : M2 ((x + 1 : Nat) : Int) ((3 : Nat) : Int) = ((n : Nat) : Int) := by rw [f2 _ (by simp <;> omega)]; exact g1
  ((rw [g2]); (refine s_Net_clear hO n3 (fun M3 f3 h3 => ⟨rfl, ?_⟩)); (with_reducible refine i_RetV ?_))
  refine hk _ (fun b j q => ?_) ⟨?_, fun c _ h => by cases h⟩ ((h1.fr f2 (by simp <;> omega) (by simp <;> omega)).fr f3 (by simp <;> omega) (by simp <;> omega)) (h2.fr f3 (by simp <;> omega) (by simp <;> omega)) h3
  · rw [f3 b (by simp <;> omega), f2 b (by simp <;> omega)]; exact k1 b j q
  · rw [f3 _ (by simp <;> omega), f2 _ (by simp <;> omega), e1, zcnt_z (fun _ _ => rfl)]; rfl
theorem zcnt_nb {n : Nat} (hn : n ≤ 16) (t : Nat → Bool) (g : Nat → Nat) (b : Nat) : zcnt (fun i => t i && (decide (i < n) && decide (g i = b))) 16 = zcnt (fun q => t q && decide (g q = b)) n := by
  rw [zcnt_top (c := n) (fun d hd => by rw [decide_eq_false (show ¬ d < n by omega)]; simp) hn]
  exact zcnt_ext fun i hi => by rw [decide_eq_true hi, Bool.true_and]
theorem c_countBetween {O : zOm} (hO : zWld O) {r p y n m : Nat} {g : Nat → Nat} {T : Nat → Nat → Bool} {M : zMem} {K : Option zV → zMem → Prop} (hr : zRl (zS O) r) (hp : zPar (zS O) p) (hy : zNet (zS O) y) (hM : zPR M p n g m) (hn : n ≤ 16) (hm : m ≤ 16) (hN : zNR M y n T) (hg : ∀ q, q < n → g q < m) (hrp : r + 1 < p) (hyr : y + 1 < r ∨ r + 1 < y)
    (hk : ∀ M', (∀ b j, ¬ b = ((r + 1 : Nat) : Int) → M' b j = M b j) → (∀ a b : Nat, a < 16 → b < 16 → M' ((r + 1 : Nat) : Int) ((16 * a + b : Nat) : Int) = ((zbw T g n a b n : Nat) : Int)) → K none M') : zR O F_Rule_countBetween [(2, ((r : Nat) : Int)), (2, ((y : Nat) : Int)), (2, ((p : Nat) : Int))] M K := by
  obtain ⟨r0, r1, r2, r3, r4, r5⟩ := hr
  obtain ⟨p0, p1, p2, p3, p4, p5, p6, p7, p8⟩ := hp
  obtain ⟨n1, n2, n3, n4⟩ := hy
  obtain ⟨hM1, hM2, hM3, hM4⟩ := hM
  apply r_Rule_countBetween hO
  unfold B_Rule_countBetween
  ((with_reducible refine i_Seq (i_Seq (i_sCall (i_as1 (i_FR (i_A0 ?_)))))); (with_reducible refine i_fldR (by assumption) ?_); (with_reducible refine i_as1 (i_I (i_as0 (i_recv1 ?_)))))
  refine s_fill hO r5 (by decide) (fun M1 f1 h1 _ => ⟨rfl, ?_⟩)
  ((with_reducible refine i_Blk (i_Seq (i_Set (i_I ?_)))); simp only [w_set0, w_set1, w_setn0, w_setn1])
  refine w_ForN n (fun k ρ M' => (∃ l, ρ = ((r : Nat) : Int) :: ((y : Nat) : Int) :: ((p : Nat) : Int) :: ((k : Nat) : Int) :: l) ∧ (∀ b j, ¬ b = ((r + 1 : Nat) : Int) → M' b j = M b j) ∧ ∀ a b : Nat, a < 16 → b < 16 → M' ((r + 1 : Nat) : Int) ((16 * a + b : Nat) : Int) = ((zbw T g n a b k : Nat) : Int)) ⟨⟨_, rfl⟩, fun b j q => by rw [f1 b (by simp <;> omega)], fun a b ha hb => h1 (16 * a + b) (by omega)⟩ ?_ ?_
  · rintro k ρ M2 X hk1 ⟨⟨l, rfl⟩, hf, h⟩ hX
    have gn : M2 ((p : Nat) : Int) ((3 : Nat) : Int) = ((n : Nat) : Int) := (hf _ _ (by omega)).trans hM1
    have gb : M2 ((p + 1 : Nat) : Int) ((k : Nat) : Int) = ((g k : Nat) : Int) := (hf _ _ (by omega)).trans (hM3 k hk1)
    have hgk := hg k hk1
    ((with_reducible refine i_turn (i_cI_lt (i_L3 (i_F (i_A2 ?_))))); (with_reducible refine i_fld (by assumption) ?_); (rw [gn]); (with_reducible refine i_t (by omega) ?_); (with_reducible refine i_Blk (i_Seq (i_Set (i_Mul (i_IA (i_FR (i_A2 ?_))))))); (with_reducible refine i_fldR (by assumption) ?_); (with_reducible refine i_L3 ?_); (with_reducible refine i_in (by assumption) (by omega) (by omega) ?_); (with_reducible refine i_I (i_Blk (i_Seq (i_Set (i_I ?_))))); (rw [gb]); rw [zx_mulc (by omega)]; simp only [w_set0, w_set1, w_setn0, w_setn1]; rw [w_setT]; simp only [w_set0, w_set1, w_setn0, w_setn1]; rw [w_setT])
    refine w_ForN m (fun b ρ M' => (∃ l, ρ = ((r : Nat) : Int) :: ((y : Nat) : Int) :: ((p : Nat) : Int) :: ((k : Nat) : Int) :: ((g k * 16 : Nat) : Int) :: ((b : Nat) : Int) :: l) ∧ (∀ b j, ¬ b = ((r + 1 : Nat) : Int) → M' b j = M b j) ∧ ∀ a' b' : Nat, a' < 16 → b' < 16 → M' ((r + 1 : Nat) : Int) ((16 * a' + b' : Nat) : Int) = ((if b' < b then zbw T g n a' b' (k + 1) else zbw T g n a' b' k : Nat) : Int)) ⟨⟨_, rfl⟩, hf, fun a b ha hb => by rw [if_neg (by omega)]; exact h a b ha hb⟩ ?_ ?_
    · rintro b ρ M3 X1 hb ⟨⟨l, rfl⟩, hf, h⟩ hX1
      have gm : M3 ((p : Nat) : Int) ((4 : Nat) : Int) = ((m : Nat) : Int) := (hf _ _ (by omega)).trans hM2
      have gr : M3 ((y + 1 : Nat) : Int) ((k : Nat) : Int) = zmk (T k) := (hf _ _ (by omega)).trans (hN.2 k (by omega))
      have gk : M3 ((p + 2 : Nat) : Int) ((b : Nat) : Int) = zmk (fun q => decide (q < n) && decide (g q = b)) := (hf _ _ (by omega)).trans (hM4 b hb)
      have ge : M3 ((r + 1 : Nat) : Int) ((g k * 16 + b : Nat) : Int) = ((zbw T g n (g k) b k : Nat) : Int) := by
        have := h (g k) b (by omega) (by omega)
        rw [if_neg (Nat.lt_irrefl _)] at this
        rw [show g k * 16 + b = 16 * g k + b by omega]; exact this
      have hle := zbw_le T g n (g k) b k
      have hle2 : k * n ≤ 16 * 16 := Nat.mul_le_mul (by omega) hn
      have hc := zcnt_le (fun i => T k i && (decide (i < n) && decide (g i = b))) 16
      ((with_reducible refine i_turn (i_cI_lt (i_L5 (i_F (i_A2 ?_))))); (with_reducible refine i_fld (by assumption) ?_); (rw [gm]); (with_reducible refine i_t (by omega) ?_); (with_reducible refine i_IO (i_FR (i_A0 ?_))); (with_reducible refine i_fldR (by assumption) ?_); (with_reducible refine i_Add (i_L4 (i_L5 ?_))); rw [zx_add (by omega)]; (with_reducible refine i_in (by assumption) (by omega) (by omega) ?_); (with_reducible refine i_Call (i_as1 (i_And (i_IA (i_FR (i_A1 ?_)))))); (with_reducible refine i_fldR (by assumption) ?_); (with_reducible refine i_L3 ?_); (with_reducible refine i_in (by assumption) (by omega) (by omega) ?_); (with_reducible refine i_IA (i_FR (i_A2 ?_))); (with_reducible refine i_fldR (by assumption) ?_); (with_reducible refine i_L5 ?_); (with_reducible refine i_in (by assumption) (by omega) (by omega) ?_); (with_reducible refine i_as0 (i_recv1 ?_)); (rw [gr]); (rw [gk]); (rw [ge]); (rw [yand_mk]); (refine s_bitCount hO ⟨_, rfl, ?_⟩); (with_reducible refine i_up (i_Inc5 ?_)); rw [zx_inc (by omega)]; rw [zx_add (by omega)]; simp only [w_set0, w_set1, w_setn0, w_setn1])
      refine hX1 _ _ ⟨⟨_, rfl⟩, (by intro b j q; ((rw [zg_n _ _ _ (by omega)])); first | done | rfl | exact hf b j (by omega)), fun a' b' ha' hb' => ?_⟩
      rw [zcnt_nb hn]
      by_cases e : b' = b
      · subst e
        rw [if_pos (by omega), zbw_su]
        have h0 := h a' b' ha' hb'
        rw [if_neg (Nat.lt_irrefl _)] at h0
        by_cases e2 : a' = g k
        · subst e2
          rw [if_pos rfl, show 16 * g k + b' = g k * 16 + b' by omega, zg_s]
        · rw [if_neg (fun q => e2 q.symm), zg_m _ _ _ _ _ (by omega), h0, Nat.add_zero]
      · rw [zg_m _ _ _ _ _ (by omega), h a' b' ha' hb']
        by_cases e3 : b' < b
        · rw [if_pos e3, if_pos (by omega)]
        · rw [if_neg e3, if_neg (by omega)]
    · rintro ρ M3 X1 ⟨⟨l, rfl⟩, hf, h⟩
      have gm : M3 ((p : Nat) : Int) ((4 : Nat) : Int) = ((m : Nat) : Int) := (hf _ _ (by omega)).trans hM2
      ((with_reducible refine i_turn (i_cI_lt (i_L5 (i_F (i_A2 ?_))))); (with_reducible refine i_fld (by assumption) ?_); (rw [gm]); (with_reducible refine i_f (by omega) ?_); (with_reducible refine i_up (i_Inc3 ?_)); rw [zx_inc (by omega)]; simp only [w_set0, w_set1, w_setn0, w_setn1])
      refine hX _ _ ⟨⟨_, rfl⟩, hf, fun a b ha hb => ?_⟩
      rw [h a b ha hb]
      by_cases e : b < m
      · rw [if_pos e]
      · rw [if_neg e, zbw_su, zcnt_z (fun q hq => by have := hg q hq; rw [decide_eq_false (by omega), Bool.and_false])]
        simp
  · rintro ρ M2 X ⟨⟨l, rfl⟩, hf, h⟩
    have gn : M2 ((p : Nat) : Int) ((3 : Nat) : Int) = ((n : Nat) : Int) := (hf _ _ (by omega)).trans hM1
    ((with_reducible refine i_turn (i_cI_lt (i_L3 (i_F (i_A2 ?_))))); (with_reducible refine i_fld (by assumption) ?_); (rw [gn]); (with_reducible refine i_f (by omega) ?_); (with_reducible refine i_RetV ?_))
    exact hk _ hf h
theorem zSz_two {g : Nat → Nat} {n b : Nat} (h : 1 < zSz g n b) : ∃ p q, p < q ∧ q < n ∧ g p = b ∧ g q = b := by
  obtain ⟨p, h1, h2, h3⟩ := zcnt_has _ _ 0 (show 0 < zSz g n b by omega)
  obtain ⟨q, h4, h5, h6⟩ := zcnt_has _ _ 1 (show 1 < zSz g n b from h)
  have e1 : g p = b := of_decide_eq_true h2
  have e2 : g q = b := of_decide_eq_true h5
  rcases Nat.lt_trichotomy p q with w | w | w
  · exact ⟨p, q, w, h4, e1, e2⟩
  · subst w; omega
  · exact ⟨q, p, w, h1, e2, e1⟩
/-- said and words as far as they were taken -/
def zTk (M : zMem) (x n m : Nat) (T : Nat → Nat → Bool) (g : Nat → Nat) (L : Nat) (S : Nat → Nat → Bool) : Prop := zNR M (x + 7) n S ∧ zWd M x (zrV n m T g L) ∧ zcnt (zrV n m T g L) 1024 ≤ zp2 S n
theorem zTk.ext {M : zMem} {x n m L : Nat} {T : Nat → Nat → Bool} {g : Nat → Nat} {S U : Nat → Nat → Bool} (h : zTk M x n m T g L S) (hn : n ≤ 16) (e : ∀ p q, p < 16 → q < 16 → S p q = U p q) : zTk M x n m T g L U :=
  ⟨h.1.ext e, h.2.1, by rw [← zp2_ext (g := S) (fun p q h1 h2 => e p q (by omega) (by omega))]; exact h.2.2⟩
theorem zTk.lim {M : zMem} {x n m L L' : Nat} {T : Nat → Nat → Bool} {g : Nat → Nat} {S : Nat → Nat → Bool} (h : zTk M x n m T g L S) (e : ∀ c, c < 1024 → zrW n m T g c = true → (c < L ↔ c < L')) : zTk M x n m T g L' S :=
  ⟨h.1, h.2.1.ext (zrV_lim e), by rw [← zcnt_ext (zrV_lim e)]; exact h.2.2⟩
theorem zTk.add {M' : zMem} {x n m L : Nat} {T : Nat → Nat → Bool} {g : Nat → Nat} {S U : Nat → Nat → Bool} (h : zcnt (zrV n m T g L) 1024 ≤ zp2 S n) (hL : L < 1024) (hw : zrW n m T g L = true) (h1 : zNR M' (x + 7) n U) (h2 : zWd M' x (fun d => zrV n m T g L d || decide (d = L))) (hs : ∀ a b, S a b = true → U a b = true) {p q : Nat} (hpq : p < q) (hq : q < n) (hn1 : S p q = false) (hn2 : U p q = true) : zTk M' x n m T g (L + 1) U := by
  have h3 := zp2_lt hs hpq hq hn1 hn2
  refine ⟨h1, h2.ext (fun c _ => zrV_in hw c), ?_⟩
  rw [← zcnt_ext (s := fun d => zrV n m T g L d || decide (d = L)) (fun c _ => zrV_in hw c), zcnt_ins (zrV_top L (Nat.le_refl _)), if_pos hL]
  omega
theorem zTk.no {M : zMem} {x n m L : Nat} {T : Nat → Nat → Bool} {g : Nat → Nat} {S : Nat → Nat → Bool} (h : zTk M x n m T g L S) (e : zrW n m T g L = false) : zTk M x n m T g (L + 1) S :=
  ⟨h.1, h.2.1.ext (fun c _ => zrV_no e c), by rw [← zcnt_ext (fun c _ => zrV_no e c)]; exact h.2.2⟩
theorem zTk.to {M M' : zMem} {x n m L : Nat} {T : Nat → Nat → Bool} {g : Nat → Nat} {S : Nat → Nat → Bool} (h : zTk M x n m T g L S) (e : ∀ j, M' ((x : Nat) : Int) j = M ((x : Nat) : Int) j) (e6 : ∀ j, M' ((x + 6 : Nat) : Int) j = M ((x + 6 : Nat) : Int) j) (e7 : ∀ j, M' ((x + 7 : Nat) : Int) j = M ((x + 7 : Nat) : Int) j) (e8 : ∀ j, M' ((x + 8 : Nat) : Int) j = M ((x + 8 : Nat) : Int) j) : zTk M' x n m T g L S :=
  ⟨⟨by rw [e7]; exact h.1.1, fun p hp => by rw [show x + 7 + 1 = x + 8 by omega, e8]; exact h.1.2 p hp⟩, h.2.1.to e e6, h.2.2⟩
/-- a word is added and what it says comes in -/
theorem zrV_few {n m L : Nat} {T : Nat → Nat → Bool} {g : Nat → Nat} {S U : Nat → Nat → Bool} (h : zcnt (zrV n m T g L) 1024 ≤ zp2 S n) (hn : n ≤ 16) (hs : ∀ a b, S a b = true → U a b = true) {p q : Nat} (hpq : p < q) (hq : q < n) (hn1 : S p q = false) (hn2 : U p q = true) : zcnt (zrV n m T g L) 1024 < 120 := by
  have h3 := zp2_lt hs hpq hq hn1 hn2
  have := zp2_le U hn
  omega
theorem c_takeCrowds {O : zOm} (hO : zWld O) {r x n m : Nat} {g : Nat → Nat} {T : Nat → Nat → Bool} {M : zMem} {K : Option zV → zMem → Prop} (hr : zRl (zS O) r) (hx : zTeC (zS O) x) (hrx : r + 1 < x) (hE : M ((r : Nat) : Int) ((1 : Nat) : Int) = ((2 + 2 * zBits n : Nat) : Int)) (hB : M ((r : Nat) : Int) ((2 : Nat) : Int) = ((zBits m : Nat) : Int)) (hM : zPR M (x + 1) n g m) (hn : n ≤ 16) (hm : m ≤ 16) (hg : ∀ q, q < n → g q < m) (hT : zReg n T) (hb : ∀ a b : Nat, a < 16 → b < 16 → M ((r + 1 : Nat) : Int) ((16 * a + b : Nat) : Int) = ((zbw T g n a b n : Nat) : Int)) (hS : zTk M x n m T g 0 (fun _ _ => false))
    (hk : ∀ M', (∀ b j, ¬ (b = ((x : Nat) : Int) ∧ j = 6 ∨ b = ((x + 6 : Nat) : Int) ∨ b = ((x + 8 : Nat) : Int)) → M' b j = M b j) → zTk M' x n m T g 256 (zkU n m T g 256) → K none M') : zR O F_Rule_takeCrowds [(2, ((r : Nat) : Int)), (2, ((x : Nat) : Int))] M K := by
  have hr0 := hr
  have hx0 := hx
  obtain ⟨r0, r1, r2, r3, r4, r5⟩ := hr
  obtain ⟨⟨o, x0, x1, x2, x3, x4, x5, x6⟩, ⟨y1, y2⟩, hp, n1, n2, n3⟩ := hx
  have hp0 := hp
  obtain ⟨p0, p1, p2, p3, p4, p5, p6, p7, p8⟩ := hp
  have o1 := n1.2.2.2
  have hg16 : ∀ q, q < n → g q < 16 := fun q hq => by have := hg q hq; omega
  have hb4 := zBits_4 hm
  have hbn4 := zBits_4 hn
  apply r_Rule_takeCrowds hO
  unfold B_Rule_takeCrowds
  ((with_reducible refine i_Seq (i_Seq (i_Set (i_FR (i_A1 ?_))))); (with_reducible refine i_fldR (by assumption) ?_); (with_reducible refine i_Blk (i_Seq (i_Set (i_I ?_)))); simp only [w_set0, w_set1, w_setn0, w_setn1])
  refine w_ForN m (fun b ρ M' => (∃ l, ρ = ((r : Nat) : Int) :: ((x : Nat) : Int) :: ((x + 1 : Nat) : Int) :: ((b : Nat) : Int) :: l) ∧ (∀ b j, ¬ (b = ((x : Nat) : Int) ∧ j = 6 ∨ b = ((x + 6 : Nat) : Int) ∨ b = ((x + 8 : Nat) : Int)) → M' b j = M b j) ∧ zTk M' x n m T g (16 * b) (zkU n m T g (16 * b))) ⟨⟨_, rfl⟩, fun _ _ _ => rfl, hS.ext hn (fun p q _ _ => ?_)⟩ ?_ ?_
  · unfold zkU; rw [decide_eq_false (show ¬ 16 * g p < 16 * 0 by omega), decide_eq_false (show ¬ 256 + 16 * g p + g q < 16 * 0 by omega), decide_eq_false (show ¬ 256 + 16 * g q + g p < 16 * 0 by omega)]; simp
  · rintro b ρ M1 X hb1 ⟨⟨l, rfl⟩, hf, hK⟩ hX
    have gm : M1 ((x + 1 : Nat) : Int) ((4 : Nat) : Int) = ((m : Nat) : Int) := (hf _ _ (by omega)).trans hM.2.1
    have gP : zPR M1 (x + 1) n g m := hM.fr (fun b j h1 h2 => hf b j (by omega))
    have gk : M1 ((x + 1 + 2 : Nat) : Int) ((b : Nat) : Int) = zmk (fun q => decide (q < n) && decide (g q = b)) := gP.2.2.2 b hb1
    have gE : M1 ((r : Nat) : Int) ((1 : Nat) : Int) = ((2 + 2 * zBits n : Nat) : Int) := (hf _ _ (by omega)).trans hE
    have gB : M1 ((r : Nat) : Int) ((2 : Nat) : Int) = ((zBits m : Nat) : Int) := (hf _ _ (by omega)).trans hB
    have ge : M1 ((r + 1 : Nat) : Int) ((b * 16 + b : Nat) : Int) = ((zbw T g n b b n : Nat) : Int) := by
      rw [show b * 16 + b = 16 * b + b by omega]; exact (hf _ _ (by omega)).trans (hb b b (by omega) (by omega))
    have hle := zbw_le T g n b b n
    have hle2 : n * n ≤ 16 * 16 := Nat.mul_le_mul hn hn
    have hsz := zSz_le g n b
    have hov := zov_crowd (n := n) (g := g) (i := b) hT.1 hT.2.1
    have hCv : zrC n m T g b = decide (1 < zSz g n b ∧ ((3 + zBits m : Nat) : Int) < ((2 + 2 * zBits n : Nat) : Int) * (2 * ((zbw T g n b b n / 2 : Nat) : Int) - ((zSz g n b * (zSz g n b - 1) / 2 : Nat) : Int))) := by
      unfold zrC
      rw [hov]
      apply decide_eq_decide.mpr
      generalize ((2 + 2 * zBits n : Nat) : Int) * (2 * ((zbw T g n b b n / 2 : Nat) : Int) - ((zSz g n b * (zSz g n b - 1) / 2 : Nat) : Int)) = w
      constructor <;> intro h <;> refine ⟨?_, ?_⟩ <;> omega
    have hmul : zSz g n b * (zSz g n b - 1) ≤ 16 * 16 := Nat.mul_le_mul (by omega) (by omega)
    have hWb := zrW_c (n := n) (m := m) (T := T) (g := g) (b := b) (by omega)
    have hlm : ∀ c, c < 1024 → zrW n m T g c = true → (c < 16 * b + 1 ↔ c < 16 * (b + 1)) := fun c _ hc => by
      unfold zrW at hc
      by_cases e : c < 256
      · rw [if_pos e, Bool.and_eq_true] at hc
        have := of_decide_eq_true hc.1
        omega
      · omega
    by_cases hc : 1 < zSz g n b ∧ ((3 + zBits m : Nat) : Int) < ((2 + 2 * zBits n : Nat) : Int) * (2 * ((zbw T g n b b n / 2 : Nat) : Int) - ((zSz g n b * (zSz g n b - 1) / 2 : Nat) : Int))
    · rw [decide_eq_true hc] at hCv
      obtain ⟨p, q, w1, w2, w3, w4⟩ := zSz_two hc.1
      have hs : ∀ p q, zkU n m T g (16 * b) p q = true → zkU n m T g (16 * (b + 1)) p q = true := fun p q h => by rw [zkU_c (by omega) hg16, h]; rfl
      have hf1 : zkU n m T g (16 * b) p q = false := by
        unfold zkU; rw [w3, w4, if_pos rfl, decide_eq_false (show ¬ 16 * b < 16 * b by omega)]; simp
      have hf2 : zkU n m T g (16 * (b + 1)) p q = true := by
        rw [zkU_c (by omega) hg16, hCv, decide_eq_true (show p < n ∧ q < n ∧ p ≠ q ∧ g p = b ∧ g q = b from ⟨by omega, w2, by omega, w3, w4⟩)]; simp
      have hfew := zrV_few hK.2.2 hn hs w1 w2 hf1 hf2
      ((with_reducible refine i_turn (i_cI_lt (i_L3 (i_F (i_A2 ?_))))); (with_reducible refine i_fld (by assumption) ?_); (rw [gm]); (with_reducible refine i_t (by omega) ?_); (with_reducible refine i_Blk (i_Seq (i_Set (i_Call (i_as1 (i_A2 (i_as1 (i_L3 (i_as0 ?_))))))))); (with_reducible refine i_recv0 (by assumption) ?_); (refine c_sizeOf hO hp0 gP hn hm hb1 ⟨_, rfl, ?_⟩); (with_reducible refine i_Seq (i_Set (i_Div (i_IA (i_FR ?_))))); simp only [w_set0, w_set1, w_setn0, w_setn1]; (with_reducible refine i_A0 ?_); (with_reducible refine i_fldR (by assumption) ?_); (with_reducible refine i_Add (i_Mul (i_L3 (i_I (i_L3 ?_))))); rw [zx_mulc (by omega)]; rw [zx_add (by omega)]; (with_reducible refine i_in (by assumption) (by omega) (by omega) ?_); (with_reducible refine i_I ?_); (rw [ge]); rw [zx_divc (by omega)]; simp only [w_set0, w_set1, w_setn0, w_setn1]; rw [w_setT]; simp only [w_set0, w_set1, w_setn0, w_setn1]; rw [w_setT]; (with_reducible refine i_nn (by decide) ?_); (with_reducible refine i_If (i_cAnd (i_cI_gt (i_L4 (i_I ?_))))); (with_reducible refine i_t (by omega) ?_); (with_reducible refine i_cZ_ne (i_Call (i_as1 (i_A0 (i_as1 (i_L5 (i_as1 (i_Div (i_Mul (i_L4 (i_Sub (i_L4 (i_I (i_I ?_)))))))))))))); rw [zx_subc (by omega) (by omega)]; (rw [zx_mul (by omega)]); rw [zx_divc (by omega)]; (with_reducible refine i_nn (by decide) ?_); (with_reducible refine i_as1 (i_Add (i_I (i_F (i_A0 ?_))))); (with_reducible refine i_fld (by assumption) ?_); (with_reducible refine i_as0 ?_); (with_reducible refine i_recv0 (by assumption) ?_); (rw [gB]); rw [zx_cadd (by omega)])
      refine c_isSparing hO hr0 gE (by omega) (by omega) (by omega) (by omega) ⟨_, rfl, ?_⟩
      ((rw [decide_eq_true hc.2]); rw [zbI_t]; (with_reducible refine i_t (by omega) ?_); (with_reducible refine i_Seq (i_sCall (i_as1 (i_A1 (i_as1 (i_Call (i_as1 (i_I (i_as1 (i_L3 (i_as1 (i_I (i_as0 (i_recv1 ?_)))))))))))))); (refine c_wordOf hO (k := 0) (by omega) (by omega) (b := 0) (by omega) ⟨_, rfl, ?_⟩); (with_reducible refine i_as0 ?_); (with_reducible refine i_recv0 (by assumption) ?_))
      rw [show 256 * 0 + 16 * b + 0 = 16 * b by omega]
      refine c_addWord hO hx0 hK.2.1 (by omega) (fun d hd => zrV_top d hd) hfew (fun M2 f2 h2 => ⟨rfl, ?_⟩)
      have gk2 : M2 ((x + 1 + 2 : Nat) : Int) ((b : Nat) : Int) = zmk (fun q => decide (q < n) && decide (g q = b)) := (f2 _ _ (by omega)).trans gk
      have gN2 : zNR M2 (x + 7) n (zkU n m T g (16 * b)) := ⟨by rw [f2 _ _ (by omega)]; exact hK.1.1, fun p hp => by rw [f2 _ _ (by omega)]; exact hK.1.2 p hp⟩
      ((with_reducible refine i_sCall (i_as1 (i_FR (i_A1 ?_)))); (with_reducible refine i_fldR (by assumption) ?_); (with_reducible refine i_as1 (i_IA (i_FR (i_A2 ?_)))); (with_reducible refine i_fldR (by assumption) ?_); (with_reducible refine i_L3 ?_); (with_reducible refine i_in (by assumption) (by omega) (by omega) ?_); (with_reducible refine i_as1 (i_IA (i_FR (i_A2 ?_)))); (with_reducible refine i_fldR (by assumption) ?_); (with_reducible refine i_L3 ?_); (with_reducible refine i_in (by assumption) (by omega) (by omega) ?_); (with_reducible refine i_as0 ?_); (with_reducible refine i_recv0 (by assumption) ?_); (rw [gk2]); (refine s_Net_cross hO n1 gN2 hn (fun M3 f3 h3 => ⟨rfl, ?_⟩)); (with_reducible refine i_up (i_Inc3 ?_)); rw [zx_inc (by omega)]; simp only [w_set0, w_set1, w_setn0, w_setn1])
      have h4 : zNR M3 (x + 7) n (zkU n m T g (16 * (b + 1))) := h3.ext fun p q hp hq => by
        rw [zkU_c (by omega) hg16, hCv]
        unfold zcrs
        rw [Bool.and_true]
        congr 1
        rw [Bool.eq_iff_iff]
        simp only [Bool.and_eq_true, Bool.or_eq_true, decide_eq_true_eq, Bool.not_eq_true', decide_eq_false_iff_not]
        constructor
        · intro h
          obtain ⟨⟨a1, a2⟩, a3⟩ := h
          have a4 : (p < n ∧ g p = b) ∧ (q < n ∧ g q = b) := by rcases a3 with a3 | a3 <;> exact a3
          exact ⟨a1, a4.2.1, fun z => a2 z.symm, a4.1.2, a4.2.2⟩
        · rintro ⟨a1, a2, a3, a4, a5⟩
          exact ⟨⟨a1, fun z => a3 z.symm⟩, Or.inl ⟨⟨a1, a4⟩, a2, a5⟩⟩
      refine hX _ _ ⟨⟨_, rfl⟩, fun b' j q => ?_, (zTk.add (L := 16 * b) hK.2.2 (by omega) (by rw [hWb, hCv]) h4 (h2.to (fun j => by rw [f3 _ (by simp <;> omega)]) (fun j => by rw [f3 _ (by simp <;> omega)])) hs w1 w2 hf1 hf2).lim hlm⟩
      rw [f3 b' (by simp <;> omega), f2 b' j (by omega)]
      exact hf b' j q
    · rw [decide_eq_false hc] at hCv
      have hfin : ∀ l, X (((r : Nat) : Int) :: ((x : Nat) : Int) :: ((x + 1 : Nat) : Int) :: ((b + 1 : Nat) : Int) :: l) M1 := fun l => hX _ _ ⟨⟨l, rfl⟩, hf, ((hK.no (by rw [hWb, hCv])).lim hlm).ext hn (fun p q _ _ => by rw [zkU_c (by omega) hg16, hCv, Bool.and_false, Bool.or_false])⟩
      by_cases h1 : 1 < zSz g n b
      · have hc2 : ¬ ((3 + zBits m : Nat) : Int) < ((2 + 2 * zBits n : Nat) : Int) * (2 * ((zbw T g n b b n / 2 : Nat) : Int) - ((zSz g n b * (zSz g n b - 1) / 2 : Nat) : Int)) := fun z => hc ⟨h1, z⟩
        ((with_reducible refine i_turn (i_cI_lt (i_L3 (i_F (i_A2 ?_))))); (with_reducible refine i_fld (by assumption) ?_); (rw [gm]); (with_reducible refine i_t (by omega) ?_); (with_reducible refine i_Blk (i_Seq (i_Set (i_Call (i_as1 (i_A2 (i_as1 (i_L3 (i_as0 ?_))))))))); (with_reducible refine i_recv0 (by assumption) ?_); (refine c_sizeOf hO hp0 gP hn hm hb1 ⟨_, rfl, ?_⟩); (with_reducible refine i_Seq (i_Set (i_Div (i_IA (i_FR ?_))))); simp only [w_set0, w_set1, w_setn0, w_setn1]; (with_reducible refine i_A0 ?_); (with_reducible refine i_fldR (by assumption) ?_); (with_reducible refine i_Add (i_Mul (i_L3 (i_I (i_L3 ?_))))); rw [zx_mulc (by omega)]; rw [zx_add (by omega)]; (with_reducible refine i_in (by assumption) (by omega) (by omega) ?_); (with_reducible refine i_I ?_); (rw [ge]); rw [zx_divc (by omega)]; simp only [w_set0, w_set1, w_setn0, w_setn1]; rw [w_setT]; simp only [w_set0, w_set1, w_setn0, w_setn1]; rw [w_setT]; (with_reducible refine i_nn (by decide) ?_); (with_reducible refine i_If (i_cAnd (i_cI_gt (i_L4 (i_I ?_))))); (with_reducible refine i_t (by omega) ?_); (with_reducible refine i_cZ_ne (i_Call (i_as1 (i_A0 (i_as1 (i_L5 (i_as1 (i_Div (i_Mul (i_L4 (i_Sub (i_L4 (i_I (i_I ?_)))))))))))))); rw [zx_subc (by omega) (by omega)]; (rw [zx_mul (by omega)]); rw [zx_divc (by omega)]; (with_reducible refine i_nn (by decide) ?_); (with_reducible refine i_as1 (i_Add (i_I (i_F (i_A0 ?_))))); (with_reducible refine i_fld (by assumption) ?_); (with_reducible refine i_as0 ?_); (with_reducible refine i_recv0 (by assumption) ?_); (rw [gB]); rw [zx_cadd (by omega)])
        refine c_isSparing hO hr0 gE (by omega) (by omega) (by omega) (by omega) ⟨_, rfl, ?_⟩
        ((rw [decide_eq_false hc2]); rw [zbI_f]; (with_reducible refine i_f (by omega) ?_); (with_reducible refine i_up (i_Inc3 ?_)); rw [zx_inc (by omega)]; simp only [w_set0, w_set1, w_setn0, w_setn1])
        exact hfin _
      · ((with_reducible refine i_turn (i_cI_lt (i_L3 (i_F (i_A2 ?_))))); (with_reducible refine i_fld (by assumption) ?_); (rw [gm]); (with_reducible refine i_t (by omega) ?_); (with_reducible refine i_Blk (i_Seq (i_Set (i_Call (i_as1 (i_A2 (i_as1 (i_L3 (i_as0 ?_))))))))); (with_reducible refine i_recv0 (by assumption) ?_); (refine c_sizeOf hO hp0 gP hn hm hb1 ⟨_, rfl, ?_⟩); (with_reducible refine i_Seq (i_Set (i_Div (i_IA (i_FR ?_))))); simp only [w_set0, w_set1, w_setn0, w_setn1]; (with_reducible refine i_A0 ?_); (with_reducible refine i_fldR (by assumption) ?_); (with_reducible refine i_Add (i_Mul (i_L3 (i_I (i_L3 ?_))))); rw [zx_mulc (by omega)]; rw [zx_add (by omega)]; (with_reducible refine i_in (by assumption) (by omega) (by omega) ?_); (with_reducible refine i_I ?_); (rw [ge]); rw [zx_divc (by omega)]; simp only [w_set0, w_set1, w_setn0, w_setn1]; rw [w_setT]; simp only [w_set0, w_set1, w_setn0, w_setn1]; rw [w_setT]; (with_reducible refine i_nn (by decide) ?_); (with_reducible refine i_If (i_cAnd (i_cI_gt (i_L4 (i_I ?_))))); (with_reducible refine i_f (by omega) ?_); (with_reducible refine i_up (i_Inc3 ?_)); rw [zx_inc (by omega)]; simp only [w_set0, w_set1, w_setn0, w_setn1])
        exact hfin _
  · rintro ρ M1 X ⟨⟨l, rfl⟩, hf, hK⟩
    have gm : M1 ((x + 1 : Nat) : Int) ((4 : Nat) : Int) = ((m : Nat) : Int) := (hf _ _ (by omega)).trans hM.2.1
    ((with_reducible refine i_turn (i_cI_lt (i_L3 (i_F (i_A2 ?_))))); (with_reducible refine i_fld (by assumption) ?_); (rw [gm]); (with_reducible refine i_f (by omega) ?_); (with_reducible refine i_RetV ?_))
    refine hk _ hf ((hK.lim (L' := 256) (fun c h1 hc => ?_)).ext hn (fun p q _ _ => zkU_lim (fun p q hp hq => ?_) p q))
    · unfold zrW at hc
      by_cases e : c < 256
      · rw [if_pos e, Bool.and_eq_true] at hc
        have := of_decide_eq_true hc.1
        have h2 : c / 16 < m := by
          have := hc.2
          unfold zrC at this
          exact (of_decide_eq_true this).1
        omega
      · omega
    · have := hg p hp
      have := hg q hq
      constructor <;> intro _ <;> omega
theorem c_takeSides {O : zOm} (hO : zWld O) {r x n m : Nat} {g : Nat → Nat} {T : Nat → Nat → Bool} {M : zMem} {K : Option zV → zMem → Prop} (hr : zRl (zS O) r) (hx : zTeC (zS O) x) (hrx : r + 1 < x) (hE : M ((r : Nat) : Int) ((1 : Nat) : Int) = ((2 + 2 * zBits n : Nat) : Int)) (hB : M ((r : Nat) : Int) ((2 : Nat) : Int) = ((zBits m : Nat) : Int)) (hM : zPR M (x + 1) n g m) (hn : n ≤ 16) (hm : m ≤ 16) (hg : ∀ q, q < n → g q < m) (hon : ∀ i, i < m → ∃ p, p < n ∧ g p = i) (hT : zReg n T) (hb : ∀ a b : Nat, a < 16 → b < 16 → M ((r + 1 : Nat) : Int) ((16 * a + b : Nat) : Int) = ((zbw T g n a b n : Nat) : Int)) (hS : zTk M x n m T g 256 (zkU n m T g 256))
    (hk : ∀ M', (∀ b j, ¬ (b = ((x : Nat) : Int) ∧ j = 6 ∨ b = ((x + 6 : Nat) : Int) ∨ b = ((x + 8 : Nat) : Int)) → M' b j = M b j) → zTk M' x n m T g 512 (zrS0 n m T g) → K none M') : zR O F_Rule_takeSides [(2, ((r : Nat) : Int)), (2, ((x : Nat) : Int))] M K := by
  have hr0 := hr
  have hx0 := hx
  obtain ⟨r0, r1, r2, r3, r4, r5⟩ := hr
  obtain ⟨⟨o, x0, x1, x2, x3, x4, x5, x6⟩, ⟨y1, y2⟩, hp, n1, n2, n3⟩ := hx
  have hp0 := hp
  obtain ⟨p0, p1, p2, p3, p4, p5, p6, p7, p8⟩ := hp
  have o1 := n1.2.2.2
  have hg16 : ∀ q, q < n → g q < 16 := fun q hq => by have := hg q hq; omega
  have hb4 := zBits_4 hm
  have hbn4 := zBits_4 hn
  have hWd : ∀ c, 256 ≤ c → c < 512 → zrW n m T g c = true → c / 16 % 16 < c % 16 ∧ c % 16 < m := fun c h1 h2 h3 => by
    unfold zrW at h3
    rw [if_neg (by omega), if_pos h2] at h3
    unfold zrD at h3
    have := of_decide_eq_true h3
    exact ⟨this.1, this.2.1⟩
  apply r_Rule_takeSides hO
  unfold B_Rule_takeSides
  ((with_reducible refine i_Seq (i_Seq (i_Set (i_FR (i_A1 ?_))))); (with_reducible refine i_fldR (by assumption) ?_); (with_reducible refine i_Blk (i_Seq (i_Set (i_I ?_)))); simp only [w_set0, w_set1, w_setn0, w_setn1])
  refine w_ForN m (fun a ρ M' => (∃ l, ρ = ((r : Nat) : Int) :: ((x : Nat) : Int) :: ((x + 1 : Nat) : Int) :: ((a : Nat) : Int) :: l) ∧ (∀ b j, ¬ (b = ((x : Nat) : Int) ∧ j = 6 ∨ b = ((x + 6 : Nat) : Int) ∨ b = ((x + 8 : Nat) : Int)) → M' b j = M b j) ∧ zTk M' x n m T g (256 + 16 * a) (zkU n m T g (256 + 16 * a))) ⟨⟨_, rfl⟩, fun _ _ _ => rfl, hS⟩ ?_ ?_
  · rintro a ρ M1 X ha ⟨⟨l, rfl⟩, hf, hK⟩ hX
    have gm : M1 ((x + 1 : Nat) : Int) ((4 : Nat) : Int) = ((m : Nat) : Int) := (hf _ _ (by omega)).trans hM.2.1
    have gP : zPR M1 (x + 1) n g m := hM.fr (fun b j h1 h2 => hf b j (by omega))
    ((with_reducible refine i_turn (i_cI_lt (i_L3 (i_F (i_A2 ?_))))); (with_reducible refine i_fld (by assumption) ?_); (rw [gm]); (with_reducible refine i_t (by omega) ?_); (with_reducible refine i_Blk (i_Seq (i_Set (i_Call (i_as1 (i_A2 (i_as1 (i_L3 (i_as0 ?_))))))))); (with_reducible refine i_recv0 (by assumption) ?_); (refine c_sizeOf hO hp0 gP hn hm ha ⟨_, rfl, ?_⟩); (with_reducible refine i_Blk (i_Seq (i_Set (i_Add ?_)))); simp only [w_set0, w_set1, w_setn0, w_setn1]; (with_reducible refine i_L3 (i_I ?_)); rw [zx_inc (by omega)]; simp only [w_set0, w_set1, w_setn0, w_setn1]; rw [w_setT]; simp only [w_set0, w_set1, w_setn0, w_setn1]; rw [w_setT])
    refine w_ForN (m - (a + 1)) (fun k ρ M' => (∃ l, ρ = ((r : Nat) : Int) :: ((x : Nat) : Int) :: ((x + 1 : Nat) : Int) :: ((a : Nat) : Int) :: ((zSz g n a : Nat) : Int) :: ((a + 1 + k : Nat) : Int) :: l) ∧ (∀ b j, ¬ (b = ((x : Nat) : Int) ∧ j = 6 ∨ b = ((x + 6 : Nat) : Int) ∨ b = ((x + 8 : Nat) : Int)) → M' b j = M b j) ∧ zTk M' x n m T g (256 + 16 * a + (a + 1 + k)) (zkU n m T g (256 + 16 * a + (a + 1 + k)))) ⟨⟨_, rfl⟩, hf, (hK.lim (fun c h1 h2 => ?_)).ext hn (fun p q _ _ => zkU_lim (fun p q hp hq => ?_) p q)⟩ ?_ ?_
    · by_cases e : 256 ≤ c ∧ c < 512
      · have := hWd c e.1 e.2 h2
        omega
      · omega
    · have := hg16 p hp
      have := hg16 q hq
      constructor <;> intro _ <;> omega
    · rintro k ρ M2 X1 hk1 ⟨⟨l, rfl⟩, hf, hK⟩ hX1
      have hb1 : a + 1 + k < m := by omega
      rw [show a + 1 + (k + 1) = a + 1 + k + 1 by omega] at hX1
      have hab : a < a + 1 + k := by omega
      generalize a + 1 + k = b at hb1 hab hK hX1 ⊢
      have gm : M2 ((x + 1 : Nat) : Int) ((4 : Nat) : Int) = ((m : Nat) : Int) := (hf _ _ (by omega)).trans hM.2.1
      have gP : zPR M2 (x + 1) n g m := hM.fr (fun b j h1 h2 => hf b j (by omega))
      have gka : M2 ((x + 1 + 2 : Nat) : Int) ((a : Nat) : Int) = zmk (fun q => decide (q < n) && decide (g q = a)) := gP.2.2.2 a ha
      have gkb : M2 ((x + 1 + 2 : Nat) : Int) ((b : Nat) : Int) = zmk (fun q => decide (q < n) && decide (g q = b)) := gP.2.2.2 b hb1
      have gE : M2 ((r : Nat) : Int) ((1 : Nat) : Int) = ((2 + 2 * zBits n : Nat) : Int) := (hf _ _ (by omega)).trans hE
      have gB : M2 ((r : Nat) : Int) ((2 : Nat) : Int) = ((zBits m : Nat) : Int) := (hf _ _ (by omega)).trans hB
      have ge : M2 ((r + 1 : Nat) : Int) ((a * 16 + b : Nat) : Int) = ((zbw T g n a b n : Nat) : Int) := by
        rw [show a * 16 + b = 16 * a + b by omega]; exact (hf _ _ (by omega)).trans (hb a b (by omega) (by omega))
      have hle := zbw_le T g n a b n
      have hle2 : n * n ≤ 16 * 16 := Nat.mul_le_mul hn hn
      have hsa := zSz_le g n a
      have hsb := zSz_le g n b
      have hov := zov_side (n := n) (g := g) (i := a) (j := b) hT.1 (by omega)
      have hmul : zSz g n a * zSz g n b ≤ 16 * 16 := Nat.mul_le_mul (by omega) (by omega)
      rw [← Int.natCast_mul] at hov
      have hDv : zrD n m T g a b = decide (((3 + 2 * zBits m : Nat) : Int) < ((2 + 2 * zBits n : Nat) : Int) * (2 * ((zbw T g n a b n : Nat) : Int) - ((zSz g n a * zSz g n b : Nat) : Int))) := by
        unfold zrD
        rw [hov]
        apply decide_eq_decide.mpr
        generalize ((2 + 2 * zBits n : Nat) : Int) * (2 * ((zbw T g n a b n : Nat) : Int) - ((zSz g n a * zSz g n b : Nat) : Int)) = w
        constructor
        · intro h; omega
        · intro h; exact ⟨hab, hb1, by omega⟩
      have hWb := zrW_d (n := n) (m := m) (T := T) (g := g) (a := a) (b := b) (by omega) (by omega)
      by_cases hc : ((3 + 2 * zBits m : Nat) : Int) < ((2 + 2 * zBits n : Nat) : Int) * (2 * ((zbw T g n a b n : Nat) : Int) - ((zSz g n a * zSz g n b : Nat) : Int))
      · rw [decide_eq_true hc] at hDv
        have hpos : 0 < zbw T g n a b n := Classical.byContradiction fun z => by
          have z0 : zbw T g n a b n = 0 := by omega
          rw [z0] at hc
          have : ((2 + 2 * zBits n : Nat) : Int) * (2 * ((0 : Nat) : Int) - ((zSz g n a * zSz g n b : Nat) : Int)) ≤ 0 := Int.mul_nonpos_of_nonneg_of_nonpos (by omega) (by omega)
          omega
        obtain ⟨p0', v1, v2⟩ := hon a ha
        obtain ⟨q0', v3, v4⟩ := hon b hb1
        have hne : p0' ≠ q0' := fun z => by rw [z] at v2; omega
        have hex : ∃ p q, p < q ∧ q < n ∧ (g p = a ∧ g q = b ∨ g p = b ∧ g q = a) := by
          rcases Nat.lt_or_ge p0' q0' with w | w
          · exact ⟨p0', q0', w, v3, Or.inl ⟨v2, v4⟩⟩
          · exact ⟨q0', p0', by omega, v1, Or.inr ⟨v4, v2⟩⟩
        obtain ⟨p, q, w1, w2, w3⟩ := hex
        have hs : ∀ p q, zkU n m T g (256 + 16 * a + b) p q = true → zkU n m T g (256 + 16 * a + (b + 1)) p q = true := fun p q h => by rw [zkU_d hab (by omega) hg16, h]; rfl
        have hf1 : zkU n m T g (256 + 16 * a + b) p q = false := by
          unfold zkU
          rcases w3 with ⟨w3, w4⟩ | ⟨w3, w4⟩
          · rw [w3, w4, if_neg (by omega), if_pos hab, decide_eq_false (Nat.lt_irrefl _)]; simp
          · rw [w3, w4, if_neg (by omega), if_neg (by omega), decide_eq_false (Nat.lt_irrefl _)]; simp
        have hf2 : zkU n m T g (256 + 16 * a + (b + 1)) p q = true := by
          rw [zkU_d hab (by omega) hg16, hDv, decide_eq_true (show p < n ∧ q < n ∧ p ≠ q ∧ (g p = a ∧ g q = b ∨ g p = b ∧ g q = a) from ⟨by omega, w2, by omega, w3⟩)]; simp
        have hfew := zrV_few hK.2.2 hn hs w1 w2 hf1 hf2
        ((with_reducible refine i_turn (i_cI_lt (i_L5 (i_F (i_A2 ?_))))); (with_reducible refine i_fld (by assumption) ?_); (rw [gm]); (with_reducible refine i_t (by omega) ?_); (with_reducible refine i_Blk (i_Seq (i_Set (i_IA (i_FR (i_A0 ?_)))))); (with_reducible refine i_fldR (by assumption) ?_); (with_reducible refine i_Add (i_Mul (i_L3 (i_I (i_L5 ?_))))); rw [zx_mulc (by omega)]; rw [zx_add (by omega)]; (with_reducible refine i_in (by assumption) (by omega) (by omega) ?_); (with_reducible refine i_If (i_cAnd (i_cZ_gt ?_))); (rw [ge]); simp only [w_set0, w_set1, w_setn0, w_setn1]; rw [w_setT]; (with_reducible refine i_L6 ?_); (with_reducible refine i_t (by omega) ?_); (with_reducible refine i_cZ_ne (i_Call (i_as1 (i_A0 (i_as1 (i_L6 (i_as1 (i_Mul (i_L4 (i_Call (i_as1 (i_A2 (i_as1 (i_L5 (i_as0 ?_))))))))))))))); (with_reducible refine i_recv0 (by assumption) ?_); (refine c_sizeOf hO hp0 gP hn hm hb1 ⟨_, rfl, ?_⟩); (with_reducible refine i_as1 (i_Add (i_I (i_Mul (i_I (i_F (i_A0 ?_))))))); (with_reducible refine i_fld (by assumption) ?_); (with_reducible refine i_as0 ?_); (with_reducible refine i_recv0 (by assumption) ?_); (rw [zx_mul (by omega)]); (rw [gB]); rw [zx_cmul (by omega)]; rw [zx_cadd (by omega)])
        refine c_isSparing hO hr0 gE (by omega) (by omega) (by omega) (by omega) ⟨_, rfl, ?_⟩
        ((rw [decide_eq_true hc]); rw [zbI_t]; (with_reducible refine i_t (by omega) ?_); (with_reducible refine i_Seq (i_sCall (i_as1 (i_A1 (i_as1 (i_Call (i_as1 (i_I (i_as1 (i_L3 (i_as1 (i_L5 (i_as0 (i_recv1 ?_)))))))))))))); (refine c_wordOf hO (k := 1) (by omega) (by omega) (by omega) ⟨_, rfl, ?_⟩); (with_reducible refine i_as0 ?_); (with_reducible refine i_recv0 (by assumption) ?_))
        rw [show 256 * 1 + 16 * a + b = 256 + 16 * a + b by omega]
        refine c_addWord hO hx0 hK.2.1 (by omega) (fun d hd => zrV_top d hd) hfew (fun M3 f3 h3 => ⟨rfl, ?_⟩)
        have gka2 : M3 ((x + 1 + 2 : Nat) : Int) ((a : Nat) : Int) = zmk (fun q => decide (q < n) && decide (g q = a)) := (f3 _ _ (by omega)).trans gka
        have gkb2 : M3 ((x + 1 + 2 : Nat) : Int) ((b : Nat) : Int) = zmk (fun q => decide (q < n) && decide (g q = b)) := (f3 _ _ (by omega)).trans gkb
        have gN2 : zNR M3 (x + 7) n (zkU n m T g (256 + 16 * a + b)) := ⟨by rw [f3 _ _ (by omega)]; exact hK.1.1, fun p hp => by rw [f3 _ _ (by omega)]; exact hK.1.2 p hp⟩
        ((with_reducible refine i_sCall (i_as1 (i_FR (i_A1 ?_)))); (with_reducible refine i_fldR (by assumption) ?_); (with_reducible refine i_as1 (i_IA (i_FR (i_A2 ?_)))); (with_reducible refine i_fldR (by assumption) ?_); (with_reducible refine i_L3 ?_); (with_reducible refine i_in (by assumption) (by omega) (by omega) ?_); (with_reducible refine i_as1 (i_IA (i_FR (i_A2 ?_)))); (with_reducible refine i_fldR (by assumption) ?_); (with_reducible refine i_L5 ?_); (with_reducible refine i_in (by assumption) (by omega) (by omega) ?_); (with_reducible refine i_as0 ?_); (with_reducible refine i_recv0 (by assumption) ?_); (rw [gka2]); (rw [gkb2]); (refine s_Net_cross hO n1 gN2 hn (fun M4 f4 h4 => ⟨rfl, ?_⟩)); (with_reducible refine i_up (i_Inc5 ?_)); rw [zx_inc (by omega)]; simp only [w_set0, w_set1, w_setn0, w_setn1])
        have h5 : zNR M4 (x + 7) n (zkU n m T g (256 + 16 * a + (b + 1))) := h4.ext fun p q hp hq => by
          rw [zkU_d hab (by omega) hg16, hDv]
          unfold zcrs
          rw [Bool.and_true]
          congr 1
          rw [Bool.eq_iff_iff]
          simp only [Bool.and_eq_true, Bool.or_eq_true, decide_eq_true_eq, Bool.not_eq_true', decide_eq_false_iff_not]
          constructor
          · intro h
            obtain ⟨⟨a1, a2⟩, a3⟩ := h
            rcases a3 with ⟨⟨_, a4⟩, a5, a6⟩ | ⟨⟨_, a4⟩, a5, a6⟩
            · exact ⟨a1, a5, fun z => a2 z.symm, Or.inl ⟨a4, a6⟩⟩
            · exact ⟨a1, a5, fun z => a2 z.symm, Or.inr ⟨a4, a6⟩⟩
          · rintro ⟨a1, a2, a3, ⟨a4, a5⟩ | ⟨a4, a5⟩⟩
            · exact ⟨⟨a1, fun z => a3 z.symm⟩, Or.inl ⟨⟨a1, a4⟩, a2, a5⟩⟩
            · exact ⟨⟨a1, fun z => a3 z.symm⟩, Or.inr ⟨⟨a1, a4⟩, a2, a5⟩⟩
        refine hX1 _ _ ⟨⟨_, rfl⟩, fun b' j q => ?_, zTk.add (L := 256 + 16 * a + b) hK.2.2 (by omega) (by rw [hWb, hDv]) h5 (h3.to (fun j => by rw [f4 _ (by simp <;> omega)]) (fun j => by rw [f4 _ (by simp <;> omega)])) hs w1 w2 hf1 hf2⟩
        rw [f4 b' (by simp <;> omega), f3 b' j (by omega)]
        exact hf b' j q
      · rw [decide_eq_false hc] at hDv
        have hfin : ∀ l, X1 (((r : Nat) : Int) :: ((x : Nat) : Int) :: ((x + 1 : Nat) : Int) :: ((a : Nat) : Int) :: ((zSz g n a : Nat) : Int) :: ((b + 1 : Nat) : Int) :: l) M2 := fun l => hX1 _ _ ⟨⟨l, rfl⟩, hf, (hK.no (by rw [hWb, hDv])).ext hn (fun p q _ _ => by rw [zkU_d hab (by omega) hg16, hDv, Bool.and_false, Bool.or_false])⟩
        by_cases h1 : 0 < zbw T g n a b n
        · ((with_reducible refine i_turn (i_cI_lt (i_L5 (i_F (i_A2 ?_))))); (with_reducible refine i_fld (by assumption) ?_); (rw [gm]); (with_reducible refine i_t (by omega) ?_); (with_reducible refine i_Blk (i_Seq (i_Set (i_IA (i_FR (i_A0 ?_)))))); (with_reducible refine i_fldR (by assumption) ?_); (with_reducible refine i_Add (i_Mul (i_L3 (i_I (i_L5 ?_))))); rw [zx_mulc (by omega)]; rw [zx_add (by omega)]; (with_reducible refine i_in (by assumption) (by omega) (by omega) ?_); (with_reducible refine i_If (i_cAnd (i_cZ_gt ?_))); (rw [ge]); simp only [w_set0, w_set1, w_setn0, w_setn1]; rw [w_setT]; (with_reducible refine i_L6 ?_); (with_reducible refine i_t (by omega) ?_); (with_reducible refine i_cZ_ne (i_Call (i_as1 (i_A0 (i_as1 (i_L6 (i_as1 (i_Mul (i_L4 (i_Call (i_as1 (i_A2 (i_as1 (i_L5 (i_as0 ?_))))))))))))))); (with_reducible refine i_recv0 (by assumption) ?_); (refine c_sizeOf hO hp0 gP hn hm hb1 ⟨_, rfl, ?_⟩); (with_reducible refine i_as1 (i_Add (i_I (i_Mul (i_I (i_F (i_A0 ?_))))))); (with_reducible refine i_fld (by assumption) ?_); (with_reducible refine i_as0 ?_); (with_reducible refine i_recv0 (by assumption) ?_); (rw [zx_mul (by omega)]); (rw [gB]); rw [zx_cmul (by omega)]; rw [zx_cadd (by omega)])
          refine c_isSparing hO hr0 gE (by omega) (by omega) (by omega) (by omega) ⟨_, rfl, ?_⟩
          ((rw [decide_eq_false hc]); rw [zbI_f]; (with_reducible refine i_f (by omega) ?_); (with_reducible refine i_up (i_Inc5 ?_)); rw [zx_inc (by omega)]; simp only [w_set0, w_set1, w_setn0, w_setn1])
          exact hfin _
        · ((with_reducible refine i_turn (i_cI_lt (i_L5 (i_F (i_A2 ?_))))); (with_reducible refine i_fld (by assumption) ?_); (rw [gm]); (with_reducible refine i_t (by omega) ?_); (with_reducible refine i_Blk (i_Seq (i_Set (i_IA (i_FR (i_A0 ?_)))))); (with_reducible refine i_fldR (by assumption) ?_); (with_reducible refine i_Add (i_Mul (i_L3 (i_I (i_L5 ?_))))); rw [zx_mulc (by omega)]; rw [zx_add (by omega)]; (with_reducible refine i_in (by assumption) (by omega) (by omega) ?_); (with_reducible refine i_If (i_cAnd (i_cZ_gt ?_))); (rw [ge]); simp only [w_set0, w_set1, w_setn0, w_setn1]; rw [w_setT]; (with_reducible refine i_L6 ?_); (with_reducible refine i_f (by omega) ?_); (with_reducible refine i_up (i_Inc5 ?_)); rw [zx_inc (by omega)]; simp only [w_set0, w_set1, w_setn0, w_setn1])
          exact hfin _
    · rintro ρ M2 X1 ⟨⟨l, rfl⟩, hf, hK⟩
      have gm : M2 ((x + 1 : Nat) : Int) ((4 : Nat) : Int) = ((m : Nat) : Int) := (hf _ _ (by omega)).trans hM.2.1
      rw [show a + 1 + (m - (a + 1)) = m by omega] at hK ⊢
      ((with_reducible refine i_turn (i_cI_lt (i_L5 (i_F (i_A2 ?_))))); (with_reducible refine i_fld (by assumption) ?_); (rw [gm]); (with_reducible refine i_f (by omega) ?_); (with_reducible refine i_up (i_Inc3 ?_)); rw [zx_inc (by omega)]; simp only [w_set0, w_set1, w_setn0, w_setn1])
      refine hX _ _ ⟨⟨_, rfl⟩, hf, (hK.lim (fun c h1 h2 => ?_)).ext hn (fun p q _ _ => zkU_lim (fun p q hp hq => ?_) p q)⟩
      · by_cases e : 256 ≤ c ∧ c < 512
        · have := hWd c e.1 e.2 h2
          omega
        · omega
      · have := hg p hp
        have := hg q hq
        constructor <;> intro _ <;> omega
  · rintro ρ M1 X ⟨⟨l, rfl⟩, hf, hK⟩
    have gm : M1 ((x + 1 : Nat) : Int) ((4 : Nat) : Int) = ((m : Nat) : Int) := (hf _ _ (by omega)).trans hM.2.1
    ((with_reducible refine i_turn (i_cI_lt (i_L3 (i_F (i_A2 ?_))))); (with_reducible refine i_fld (by assumption) ?_); (rw [gm]); (with_reducible refine i_f (by omega) ?_); (with_reducible refine i_RetV ?_))
    refine hk _ hf ((hK.lim (L' := 512) (fun c h1 h2 => ?_)).ext hn (fun p q _ _ => ?_))
    · by_cases e : 256 ≤ c ∧ c < 512
      · have := hWd c e.1 e.2 h2
        omega
      · omega
    · rw [← zkU_s0 hg16]
      refine zkU_lim (fun p q hp hq => ?_) p q
      have := hg p hp
      have := hg q hq
      constructor <;> intro _ <;> omega
