section
-- part c2.ctake.lean.txt
/-! ===== the class: words cleared; ties between boxes; crowds and sides by the rule ===== -/
theorem c_clearWords {O : zOm} (hO : zWld O) {x n : Nat} {M : zMem} {K : Option zV → zMem → Prop} (hx : zTeC (zS O) x) (hn : M ((x + 1 : Nat) : Int) ((3 : Nat) : Int) = ((n : Nat) : Int))
    (hk : ∀ M', (∀ b j, ¬ (b = ((x : Nat) : Int) ∧ j = 6 ∨ ((x + 7 : Nat) : Int) ≤ b ∧ b ≤ ((x + 12 : Nat) : Int)) → M' b j = M b j) → zWd M' x (fun _ => false) → zNR M' (x + 7) n (fun _ _ => false) → zNR M' (x + 9) n (fun _ _ => false) → zNR M' (x + 11) n (fun _ _ => false) → K none M') : zR O F_Telling_clearWords [(2, ((x : Nat) : Int))] M K := by
  obtain ⟨⟨o, x0, x1, x2, x3, x4, x5, x6⟩, ⟨y1, y2⟩, ⟨p0, p1, p2, p3, p4, p5, p6, p7, p8⟩, n1, n2, n3⟩ := hx
  have o1 := n1.2.2.2
  have o2 := n2.2.2.2
  have o3 := n3.2.2.2
  apply r_Telling_clearWords hO
  unfold B_Telling_clearWords
  ((with_reducible refine i_Seq (i_Seq (i_sF (i_A0 (i_I ?_))))); (with_reducible refine i_fld (by assumption) ?_); (with_reducible refine i_Seq (i_sCall (i_as1 (i_FR (i_A0 ?_))))); (with_reducible refine i_fldR (by assumption) ?_); (with_reducible refine i_as1 (i_F (i_FR (i_A0 ?_)))); (with_reducible refine i_fldR (by assumption) ?_); (with_reducible refine i_fld (by assumption) ?_); (with_reducible refine i_as0 ?_); (with_reducible refine i_recv0 (by assumption) ?_); rw [zg_n _ _ _ (by omega)]; (rw [hn]); (refine s_Net_clear hO n1 (fun M1 f1 h1 => ⟨rfl, ?_⟩)); (with_reducible refine i_Seq (i_sCall (i_as1 (i_FR (i_A0 ?_))))); (with_reducible refine i_fldR (by assumption) ?_); (with_reducible refine i_as1 (i_F (i_FR (i_A0 ?_)))); (with_reducible refine i_fldR (by assumption) ?_); (with_reducible refine i_fld (by assumption) ?_); (with_reducible refine i_as0 ?_); (with_reducible refine i_recv0 (by assumption) ?_))
  have g1 : M1 ((x + 1 : Nat) : Int) ((3 : Nat) : Int) = ((n : Nat) : Int) := by
    rw [f1 _ (by simp <;> omega)]
    (rw [zg_n _ _ _ (by omega)])
    exact hn
  have e1 : M1 ((x : Nat) : Int) ((6 : Nat) : Int) = 0 := by
    rw [f1 _ (by simp <;> omega)]
    (rw [zg_s])
  have k1 : ∀ b j, ¬ (b = ((x : Nat) : Int) ∧ j = 6 ∨ ((x + 7 : Nat) : Int) ≤ b ∧ b ≤ ((x + 12 : Nat) : Int)) → M1 b j = M b j := fun b j q => by
    rw [f1 b (by simp <;> omega), zg_o _ _ (by omega)]
  ((rw [g1]); (refine s_Net_clear hO n2 (fun M2 f2 h2 => ⟨rfl, ?_⟩)); (with_reducible refine i_sCall (i_as1 (i_FR (i_A0 ?_)))); (with_reducible refine i_fldR (by assumption) ?_); (with_reducible refine i_as1 (i_F (i_FR (i_A0 ?_)))); (with_reducible refine i_fldR (by assumption) ?_); (with_reducible refine i_fld (by assumption) ?_); (with_reducible refine i_as0 ?_); (with_reducible refine i_recv0 (by assumption) ?_))
  have g2 : M2 ((x + 1 : Nat) : Int) ((3 : Nat) : Int) = ((n : Nat) : Int) := by rw [f2 _ (by simp <;> omega)]; exact g1
  ((rw [g2]); (refine s_Net_clear hO n3 (fun M3 f3 h3 => ⟨rfl, ?_⟩)); (with_reducible refine i_RetV ?_))
  refine hk _ (fun b j q => ?_) ⟨?_, fun c _ h => by cases h⟩ ((h1.fr f2 (by simp <;> omega) (by simp <;> omega)).fr f3 (by simp <;> omega) (by simp <;> omega)) (h2.fr f3 (by simp <;> omega) (by simp <;> omega)) h3
  · rw [f3 b (by simp <;> omega), f2 b (by simp <;> omega)]; exact k1 b j q
  · rw [f3 _ (by simp <;> omega), f2 _ (by simp <;> omega), e1, zcnt_z (fun _ _ => rfl)]; rfl
theorem zcnt_nb {n : Nat} (hn : n ≤ 16) (t : Nat → Bool) (g : Nat → Nat) (b : Nat) : zcnt (fun i => t i && (decide (i < n) && decide (g i = b))) 16 = zcnt (fun q => t q && decide (g q = b)) n := by
  rw [zcnt_top (c := n) (fun d hd => by rw [decide_eq_false (show ¬ d < n by omega)]; simp) hn]
  exact zcnt_ext fun i hi => by rw [decide_eq_true hi, Bool.true_and]
theorem c_countBetween {O : zOm} (hO : zWld O) {r p y n m : Nat} {g : Nat → Nat} {T : Nat → Nat → Bool} {M : zMem} {K : Option zV → zMem → Prop} (hr : zRl (zS O) r) (hp : zPar (zS O) p) (hy : zNet (zS O) y) (hM : zPR M p n g m) (hn : n ≤ 16) (hm : m ≤ 16) (hN : zNR M y n T) (hg : ∀ q, q < n → g q < m) (hrp : r + 1 < p) (hyr : y + 1 < r ∨ r + 1 < y)
    (hk : ∀ M', (∀ b j, ¬ b = ((r + 1 : Nat) : Int) → M' b j = M b j) → (∀ a b : Nat, a < 16 → b < 16 → M' ((r + 1 : Nat) : Int) ((16 * a + b : Nat) : Int) = ((zbw T g n a b n : Nat) : Int)) → K none M') : zR O F_Rule_countBetween [(2, ((r : Nat) : Int)), (2, ((y : Nat) : Int)), (2, ((p : Nat) : Int))] M K := by
  obtain ⟨r0, r1, r2, r3, r4, r5⟩ := hr
  obtain ⟨p0, p1, p2, p3, p4, p5, p6, p7, p8⟩ := hp
  obtain ⟨n1, n2, n3, n4⟩ := hy
  obtain ⟨hM1, hM2, hM3, hM4⟩ := hM
  apply r_Rule_countBetween hO
  unfold B_Rule_countBetween
  ((with_reducible refine i_Seq (i_Seq (i_sCall (i_as1 (i_FR (i_A0 ?_)))))); (with_reducible refine i_fldR (by assumption) ?_); (with_reducible refine i_as1 (i_I (i_as0 (i_recv1 ?_)))))
  refine s_fill hO r5 (by decide) (fun M1 f1 h1 _ => ⟨rfl, ?_⟩)
  ((with_reducible refine i_Blk (i_Seq (i_Set (i_I ?_)))); simp only [w_set0, w_set1, w_setn0, w_setn1])
  refine w_ForN n (fun k ρ M' => (∃ l, ρ = ((r : Nat) : Int) :: ((y : Nat) : Int) :: ((p : Nat) : Int) :: ((k : Nat) : Int) :: l) ∧ (∀ b j, ¬ b = ((r + 1 : Nat) : Int) → M' b j = M b j) ∧ ∀ a b : Nat, a < 16 → b < 16 → M' ((r + 1 : Nat) : Int) ((16 * a + b : Nat) : Int) = ((zbw T g n a b k : Nat) : Int)) ⟨⟨_, rfl⟩, fun b j q => by rw [f1 b (by simp <;> omega)], fun a b ha hb => h1 (16 * a + b) (by omega)⟩ ?_ ?_
  · rintro k ρ M2 X hk1 ⟨⟨l, rfl⟩, hf, h⟩ hX
    have gn : M2 ((p : Nat) : Int) ((3 : Nat) : Int) = ((n : Nat) : Int) := (hf _ _ (by omega)).trans hM1
    have gb : M2 ((p + 1 : Nat) : Int) ((k : Nat) : Int) = ((g k : Nat) : Int) := (hf _ _ (by omega)).trans (hM3 k hk1)
    have hgk := hg k hk1
    ((with_reducible refine i_turn (i_cI_lt (i_L3 (i_F (i_A2 ?_))))); (with_reducible refine i_fld (by assumption) ?_); (rw [gn]); (with_reducible refine i_t (by omega) ?_); (with_reducible refine i_Blk (i_Seq (i_Set (i_Mul (i_IA (i_FR (i_A2 ?_))))))); (with_reducible refine i_fldR (by assumption) ?_); (with_reducible refine i_L3 ?_); (with_reducible refine i_in (by assumption) (by omega) (by omega) ?_); (with_reducible refine i_I (i_Blk (i_Seq (i_Set (i_I ?_))))); (rw [gb]); rw [zx_mulc (by omega)]; simp only [w_set0, w_set1, w_setn0, w_setn1]; rw [w_setT]; simp only [w_set0, w_set1, w_setn0, w_setn1]; rw [w_setT])
    refine w_ForN m (fun b ρ M' => (∃ l, ρ = ((r : Nat) : Int) :: ((y : Nat) : Int) :: ((p : Nat) : Int) :: ((k : Nat) : Int) :: ((g k * 16 : Nat) : Int) :: ((b : Nat) : Int) :: l) ∧ (∀ b j, ¬ b = ((r + 1 : Nat) : Int) → M' b j = M b j) ∧ ∀ a' b' : Nat, a' < 16 → b' < 16 → M' ((r + 1 : Nat) : Int) ((16 * a' + b' : Nat) : Int) = ((if b' < b then zbw T g n a' b' (k + 1) else zbw T g n a' b' k : Nat) : Int)) ⟨⟨_, rfl⟩, hf, fun a b ha hb => by rw [if_neg (by omega)]; exact h a b ha hb⟩ ?_ ?_
    · rintro b ρ M3 X1 hb ⟨⟨l, rfl⟩, hf, h⟩ hX1
      have gm : M3 ((p : Nat) : Int) ((4 : Nat) : Int) = ((m : Nat) : Int) := (hf _ _ (by omega)).trans hM2
      have gr : M3 ((y + 1 : Nat) : Int) ((k : Nat) : Int) = zmk (T k) := (hf _ _ (by omega)).trans (hN.2 k (by omega))
      have gk : M3 ((p + 2 : Nat) : Int) ((b : Nat) : Int) = zmk (fun q => decide (q < n) && decide (g q = b)) := (hf _ _ (by omega)).trans (hM4 b hb)
      have ge : M3 ((r + 1 : Nat) : Int) ((g k * 16 + b : Nat) : Int) = ((zbw T g n (g k) b k : Nat) : Int) := by
        have := h (g k) b (by omega) (by omega)
        rw [if_neg (Nat.lt_irrefl _)] at this
        rw [show g k * 16 + b = 16 * g k + b by omega]; exact this
      have hle := zbw_le T g n (g k) b k
      have hle2 : k * n ≤ 16 * 16 := Nat.mul_le_mul (by omega) hn
      have hc := zcnt_le (fun i => T k i && (decide (i < n) && decide (g i = b))) 16
      ((with_reducible refine i_turn (i_cI_lt (i_L5 (i_F (i_A2 ?_))))); (with_reducible refine i_fld (by assumption) ?_); (rw [gm]); (with_reducible refine i_t (by omega) ?_); (with_reducible refine i_IO (i_FR (i_A0 ?_))); (with_reducible refine i_fldR (by assumption) ?_); (with_reducible refine i_Add (i_L4 (i_L5 ?_))); rw [zx_add (by omega)]; (with_reducible refine i_in (by assumption) (by omega) (by omega) ?_); (with_reducible refine i_Call (i_as1 (i_And (i_IA (i_FR (i_A1 ?_)))))); (with_reducible refine i_fldR (by assumption) ?_); (with_reducible refine i_L3 ?_); (with_reducible refine i_in (by assumption) (by omega) (by omega) ?_); (with_reducible refine i_IA (i_FR (i_A2 ?_))); (with_reducible refine i_fldR (by assumption) ?_); (with_reducible refine i_L5 ?_); (with_reducible refine i_in (by assumption) (by omega) (by omega) ?_); (with_reducible refine i_as0 (i_recv1 ?_)); (rw [gr]); (rw [gk]); (rw [ge]); (rw [yand_mk]); (refine s_bitCount hO ⟨_, rfl, ?_⟩); (with_reducible refine i_up (i_Inc5 ?_)); rw [zx_inc (by omega)]; rw [zx_add (by omega)]; simp only [w_set0, w_set1, w_setn0, w_setn1])
      refine hX1 _ _ ⟨⟨_, rfl⟩, (by intro b j q; ((rw [zg_n _ _ _ (by omega)])); first | done | rfl | exact hf b j (by omega)), fun a' b' ha' hb' => ?_⟩
      rw [zcnt_nb hn]
      by_cases e : b' = b
      · subst e
        rw [if_pos (by omega), zbw_su]
        have h0 := h a' b' ha' hb'
        rw [if_neg (Nat.lt_irrefl _)] at h0
        by_cases e2 : a' = g k
        · subst e2
          rw [if_pos rfl, show 16 * g k + b' = g k * 16 + b' by omega, zg_s]
        · rw [if_neg (fun q => e2 q.symm), zg_m _ _ _ _ _ (by omega), h0, Nat.add_zero]
      · rw [zg_m _ _ _ _ _ (by omega), h a' b' ha' hb']
        by_cases e3 : b' < b
        · rw [if_pos e3, if_pos (by omega)]
        · rw [if_neg e3, if_neg (by omega)]
    · rintro ρ M3 X1 ⟨⟨l, rfl⟩, hf, h⟩
      have gm : M3 ((p : Nat) : Int) ((4 : Nat) : Int) = ((m : Nat) : Int) := (hf _ _ (by omega)).trans hM2
      ((with_reducible refine i_turn (i_cI_lt (i_L5 (i_F (i_A2 ?_))))); (with_reducible refine i_fld (by assumption) ?_); (rw [gm]); (with_reducible refine i_f (by omega) ?_); (with_reducible refine i_up (i_Inc3 ?_)); rw [zx_inc (by omega)]; simp only [w_set0, w_set1, w_setn0, w_setn1])
      refine hX _ _ ⟨⟨_, rfl⟩, hf, fun a b ha hb => ?_⟩
      rw [h a b ha hb]
      by_cases e : b < m
      · rw [if_pos e]
      · rw [if_neg e, zbw_su, zcnt_z (fun q hq => by have := hg q hq; rw [decide_eq_false (by omega), Bool.and_false])]
        simp
  · rintro ρ M2 X ⟨⟨l, rfl⟩, hf, h⟩
    have gn : M2 ((p : Nat) : Int) ((3 : Nat) : Int) = ((n : Nat) : Int) := (hf _ _ (by omega)).trans hM1
    ((with_reducible refine i_turn (i_cI_lt (i_L3 (i_F (i_A2 ?_))))); (with_reducible refine i_fld (by assumption) ?_); (rw [gn]); (with_reducible refine i_f (by omega) ?_); (with_reducible refine i_RetV ?_))
    exact hk _ hf h
theorem zSz_two {g : Nat → Nat} {n b : Nat} (h : 1 < zSz g n b) : ∃ p q, p < q ∧ q < n ∧ g p = b ∧ g q = b := by
  obtain ⟨p, h1, h2, h3⟩ := zcnt_has _ _ 0 (show 0 < zSz g n b by omega)
  obtain ⟨q, h4, h5, h6⟩ := zcnt_has _ _ 1 (show 1 < zSz g n b from h)
  have e1 : g p = b := of_decide_eq_true h2
  have e2 : g q = b := of_decide_eq_true h5
  rcases Nat.lt_trichotomy p q with w | w | w
  · exact ⟨p, q, w, h4, e1, e2⟩
  · subst w; omega
  · exact ⟨q, p, w, h1, e2, e1⟩
/-- said and words as far as they were taken -/
def zTk (M : zMem) (x n m : Nat) (T : Nat → Nat → Bool) (g : Nat → Nat) (L : Nat) (S : Nat → Nat → Bool) : Prop := zNR M (x + 7) n S ∧ zWd M x (zrV n m T g L) ∧ zcnt (zrV n m T g L) 1024 ≤ zp2 S n
theorem zTk.ext {M : zMem} {x n m L : Nat} {T : Nat → Nat → Bool} {g : Nat → Nat} {S U : Nat → Nat → Bool} (h : zTk M x n m T g L S) (hn : n ≤ 16) (e : ∀ p q, p < 16 → q < 16 → S p q = U p q) : zTk M x n m T g L U :=
  ⟨h.1.ext e, h.2.1, by rw [← zp2_ext (g := S) (fun p q h1 h2 => e p q (by omega) (by omega))]; exact h.2.2⟩
theorem zTk.lim {M : zMem} {x n m L L' : Nat} {T : Nat → Nat → Bool} {g : Nat → Nat} {S : Nat → Nat → Bool} (h : zTk M x n m T g L S) (e : ∀ c, c < 1024 → zrW n m T g c = true → (c < L ↔ c < L')) : zTk M x n m T g L' S :=
  ⟨h.1, h.2.1.ext (zrV_lim e), by rw [← zcnt_ext (zrV_lim e)]; exact h.2.2⟩
theorem zTk.add {M' : zMem} {x n m L : Nat} {T : Nat → Nat → Bool} {g : Nat → Nat} {S U : Nat → Nat → Bool} (h : zcnt (zrV n m T g L) 1024 ≤ zp2 S n) (hL : L < 1024) (hw : zrW n m T g L = true) (h1 : zNR M' (x + 7) n U) (h2 : zWd M' x (fun d => zrV n m T g L d || decide (d = L))) (hs : ∀ a b, S a b = true → U a b = true) {p q : Nat} (hpq : p < q) (hq : q < n) (hn1 : S p q = false) (hn2 : U p q = true) : zTk M' x n m T g (L + 1) U := by
  have h3 := zp2_lt hs hpq hq hn1 hn2
  refine ⟨h1, h2.ext (fun c _ => zrV_in hw c), ?_⟩
  rw [← zcnt_ext (s := fun d => zrV n m T g L d || decide (d = L)) (fun c _ => zrV_in hw c), zcnt_ins (zrV_top L (Nat.le_refl _)), if_pos hL]
  omega
theorem zTk.no {M : zMem} {x n m L : Nat} {T : Nat → Nat → Bool} {g : Nat → Nat} {S : Nat → Nat → Bool} (h : zTk M x n m T g L S) (e : zrW n m T g L = false) : zTk M x n m T g (L + 1) S :=
  ⟨h.1, h.2.1.ext (fun c _ => zrV_no e c), by rw [← zcnt_ext (fun c _ => zrV_no e c)]; exact h.2.2⟩
theorem zTk.to {M M' : zMem} {x n m L : Nat} {T : Nat → Nat → Bool} {g : Nat → Nat} {S : Nat → Nat → Bool} (h : zTk M x n m T g L S) (e : ∀ j, M' ((x : Nat) : Int) j = M ((x : Nat) : Int) j) (e6 : ∀ j, M' ((x + 6 : Nat) : Int) j = M ((x + 6 : Nat) : Int) j) (e7 : ∀ j, M' ((x + 7 : Nat) : Int) j = M ((x + 7 : Nat) : Int) j) (e8 : ∀ j, M' ((x + 8 : Nat) : Int) j = M ((x + 8 : Nat) : Int) j) : zTk M' x n m T g L S :=
  ⟨⟨by rw [e7]; exact h.1.1, fun p hp => by rw [show x + 7 + 1 = x + 8 by omega, e8]; exact h.1.2 p hp⟩, h.2.1.to e e6, h.2.2⟩
/-- a word is added and what it says comes in -/
theorem zrV_few {n m L : Nat} {T : Nat → Nat → Bool} {g : Nat → Nat} {S U : Nat → Nat → Bool} (h : zcnt (zrV n m T g L) 1024 ≤ zp2 S n) (hn : n ≤ 16) (hs : ∀ a b, S a b = true → U a b = true) {p q : Nat} (hpq : p < q) (hq : q < n) (hn1 : S p q = false) (hn2 : U p q = true) : zcnt (zrV n m T g L) 1024 < 120 := by
  have h3 := zp2_lt hs hpq hq hn1 hn2
  have := zp2_le U hn
  omega
theorem c_takeCrowds {O : zOm} (hO : zWld O) {r x n m : Nat} {g : Nat → Nat} {T : Nat → Nat → Bool} {M : zMem} {K : Option zV → zMem → Prop} (hr : zRl (zS O) r) (hx : zTeC (zS O) x) (hrx : r + 1 < x) (hE : M ((r : Nat) : Int) ((1 : Nat) : Int) = ((2 + 2 * zBits n : Nat) : Int)) (hB : M ((r : Nat) : Int) ((2 : Nat) : Int) = ((zBits m : Nat) : Int)) (hM : zPR M (x + 1) n g m) (hn : n ≤ 16) (hm : m ≤ 16) (hg : ∀ q, q < n → g q < m) (hT : zReg n T) (hb : ∀ a b : Nat, a < 16 → b < 16 → M ((r + 1 : Nat) : Int) ((16 * a + b : Nat) : Int) = ((zbw T g n a b n : Nat) : Int)) (hS : zTk M x n m T g 0 (fun _ _ => false))
    (hk : ∀ M', (∀ b j, ¬ (b = ((x : Nat) : Int) ∧ j = 6 ∨ b = ((x + 6 : Nat) : Int) ∨ b = ((x + 8 : Nat) : Int)) → M' b j = M b j) → zTk M' x n m T g 256 (zkU n m T g 256) → K none M') : zR O F_Rule_takeCrowds [(2, ((r : Nat) : Int)), (2, ((x : Nat) : Int))] M K := by
  have hr0 := hr
  have hx0 := hx
  obtain ⟨r0, r1, r2, r3, r4, r5⟩ := hr
  obtain ⟨⟨o, x0, x1, x2, x3, x4, x5, x6⟩, ⟨y1, y2⟩, hp, n1, n2, n3⟩ := hx
  have hp0 := hp
  obtain ⟨p0, p1, p2, p3, p4, p5, p6, p7, p8⟩ := hp
  have o1 := n1.2.2.2
  have hg16 : ∀ q, q < n → g q < 16 := fun q hq => by have := hg q hq; omega
  have hb4 := zBits_4 hm
  have hbn4 := zBits_4 hn
  apply r_Rule_takeCrowds hO
  unfold B_Rule_takeCrowds
  ((with_reducible refine i_Seq (i_Seq (i_Set (i_FR (i_A1 ?_))))); (with_reducible refine i_fldR (by assumption) ?_); (with_reducible refine i_Blk (i_Seq (i_Set (i_I ?_)))); simp only [w_set0, w_set1, w_setn0, w_setn1])
  refine w_ForN m (fun b ρ M' => (∃ l, ρ = ((r : Nat) : Int) :: ((x : Nat) : Int) :: ((x + 1 : Nat) : Int) :: ((b : Nat) : Int) :: l) ∧ (∀ b j, ¬ (b = ((x : Nat) : Int) ∧ j = 6 ∨ b = ((x + 6 : Nat) : Int) ∨ b = ((x + 8 : Nat) : Int)) → M' b j = M b j) ∧ zTk M' x n m T g (16 * b) (zkU n m T g (16 * b))) ⟨⟨_, rfl⟩, fun _ _ _ => rfl, hS.ext hn (fun p q _ _ => ?_)⟩ ?_ ?_
  · unfold zkU; rw [decide_eq_false (show ¬ 16 * g p < 16 * 0 by omega), decide_eq_false (show ¬ 256 + 16 * g p + g q < 16 * 0 by omega), decide_eq_false (show ¬ 256 + 16 * g q + g p < 16 * 0 by omega)]; simp
  · rintro b ρ M1 X hb1 ⟨⟨l, rfl⟩, hf, hK⟩ hX
    have gm : M1 ((x + 1 : Nat) : Int) ((4 : Nat) : Int) = ((m : Nat) : Int) := (hf _ _ (by omega)).trans hM.2.1
    have gP : zPR M1 (x + 1) n g m := hM.fr (fun b j h1 h2 => hf b j (by omega))
    have gk : M1 ((x + 1 + 2 : Nat) : Int) ((b : Nat) : Int) = zmk (fun q => decide (q < n) && decide (g q = b)) := gP.2.2.2 b hb1
    have gE : M1 ((r : Nat) : Int) ((1 : Nat) : Int) = ((2 + 2 * zBits n : Nat) : Int) := (hf _ _ (by omega)).trans hE
    have gB : M1 ((r : Nat) : Int) ((2 : Nat) : Int) = ((zBits m : Nat) : Int) := (hf _ _ (by omega)).trans hB
    have ge : M1 ((r + 1 : Nat) : Int) ((b * 16 + b : Nat) : Int) = ((zbw T g n b b n : Nat) : Int) := by
      rw [show b * 16 + b = 16 * b + b by omega]; exact (hf _ _ (by omega)).trans (hb b b (by omega) (by omega))
    have hle := zbw_le T g n b b n
    have hle2 : n * n ≤ 16 * 16 := Nat.mul_le_mul hn hn
    have hsz := zSz_le g n b
    have hov := zov_crowd (n := n) (g := g) (i := b) hT.1 hT.2.1
    have hCv : zrC n m T g b = decide (1 < zSz g n b ∧ ((3 + zBits m : Nat) : Int) < ((2 + 2 * zBits n : Nat) : Int) * (2 * ((zbw T g n b b n / 2 : Nat) : Int) - ((zSz g n b * (zSz g n b - 1) / 2 : Nat) : Int))) := by
      unfold zrC
      rw [hov]
      apply decide_eq_decide.mpr
      generalize ((2 + 2 * zBits n : Nat) : Int) * (2 * ((zbw T g n b b n / 2 : Nat) : Int) - ((zSz g n b * (zSz g n b - 1) / 2 : Nat) : Int)) = w
      constructor <;> intro h <;> refine ⟨?_, ?_⟩ <;> omega
    have hmul : zSz g n b * (zSz g n b - 1) ≤ 16 * 16 := Nat.mul_le_mul (by omega) (by omega)
    have hWb := zrW_c (n := n) (m := m) (T := T) (g := g) (b := b) (by omega)
    have hlm : ∀ c, c < 1024 → zrW n m T g c = true → (c < 16 * b + 1 ↔ c < 16 * (b + 1)) := fun c _ hc => by
      unfold zrW at hc
      by_cases e : c < 256
      · rw [if_pos e, Bool.and_eq_true] at hc
        have := of_decide_eq_true hc.1
        omega
      · omega
    by_cases hc : 1 < zSz g n b ∧ ((3 + zBits m : Nat) : Int) < ((2 + 2 * zBits n : Nat) : Int) * (2 * ((zbw T g n b b n / 2 : Nat) : Int) - ((zSz g n b * (zSz g n b - 1) / 2 : Nat) : Int))
    · rw [decide_eq_true hc] at hCv
      obtain ⟨p, q, w1, w2, w3, w4⟩ := zSz_two hc.1
      have hs : ∀ p q, zkU n m T g (16 * b) p q = true → zkU n m T g (16 * (b + 1)) p q = true := fun p q h => by rw [zkU_c (by omega) hg16, h]; rfl
      have hf1 : zkU n m T g (16 * b) p q = false := by
        unfold zkU; rw [w3, w4, if_pos rfl, decide_eq_false (show ¬ 16 * b < 16 * b by omega)]; simp
      have hf2 : zkU n m T g (16 * (b + 1)) p q = true := by
        rw [zkU_c (by omega) hg16, hCv, decide_eq_true (show p < n ∧ q < n ∧ p ≠ q ∧ g p = b ∧ g q = b from ⟨by omega, w2, by omega, w3, w4⟩)]; simp
      have hfew := zrV_few hK.2.2 hn hs w1 w2 hf1 hf2
      ((with_reducible refine i_turn (i_cI_lt (i_L3 (i_F (i_A2 ?_))))); (with_reducible refine i_fld (by assumption) ?_); (rw [gm]); (with_reducible refine i_t (by omega) ?_); (with_reducible refine i_Blk (i_Seq (i_Set (i_Call (i_as1 (i_A2 (i_as1 (i_L3 (i_as0 ?_))))))))); (with_reducible refine i_recv0 (by assumption) ?_); (refine c_sizeOf hO hp0 gP hn hm hb1 ⟨_, rfl, ?_⟩); (with_reducible refine i_Seq (i_Set (i_Div (i_IA (i_FR ?_))))); simp only [w_set0, w_set1, w_setn0, w_setn1]; (with_reducible refine i_A0 ?_); (with_reducible refine i_fldR (by assumption) ?_); (with_reducible refine i_Add (i_Mul (i_L3 (i_I (i_L3 ?_))))); rw [zx_mulc (by omega)]; rw [zx_add (by omega)]; (with_reducible refine i_in (by assumption) (by omega) (by omega) ?_); (with_reducible refine i_I ?_); (rw [ge]); rw [zx_divc (by omega)]; simp only [w_set0, w_set1, w_setn0, w_setn1]; rw [w_setT]; simp only [w_set0, w_set1, w_setn0, w_setn1]; rw [w_setT]; (with_reducible refine i_nn (by decide) ?_); (with_reducible refine i_If (i_cAnd (i_cI_gt (i_L4 (i_I ?_))))); (with_reducible refine i_t (by omega) ?_); (with_reducible refine i_cZ_ne (i_Call (i_as1 (i_A0 (i_as1 (i_L5 (i_as1 (i_Div (i_Mul (i_L4 (i_Sub (i_L4 (i_I (i_I ?_)))))))))))))); rw [zx_subc (by omega) (by omega)]; (rw [zx_mul (by omega)]); rw [zx_divc (by omega)]; (with_reducible refine i_nn (by decide) ?_); (with_reducible refine i_as1 (i_Add (i_I (i_F (i_A0 ?_))))); (with_reducible refine i_fld (by assumption) ?_); (with_reducible refine i_as0 ?_); (with_reducible refine i_recv0 (by assumption) ?_); (rw [gB]); rw [zx_cadd (by omega)])
      refine c_isSparing hO hr0 gE (by omega) (by omega) (by omega) (by omega) ⟨_, rfl, ?_⟩
      ((rw [decide_eq_true hc.2]); rw [zbI_t]; (with_reducible refine i_t (by omega) ?_); (with_reducible refine i_Seq (i_sCall (i_as1 (i_A1 (i_as1 (i_Call (i_as1 (i_I (i_as1 (i_L3 (i_as1 (i_I (i_as0 (i_recv1 ?_)))))))))))))); (refine c_wordOf hO (k := 0) (by omega) (by omega) (b := 0) (by omega) ⟨_, rfl, ?_⟩); (with_reducible refine i_as0 ?_); (with_reducible refine i_recv0 (by assumption) ?_))
      rw [show 256 * 0 + 16 * b + 0 = 16 * b by omega]
      refine c_addWord hO hx0 hK.2.1 (by omega) (fun d hd => zrV_top d hd) hfew (fun M2 f2 h2 => ⟨rfl, ?_⟩)
      have gk2 : M2 ((x + 1 + 2 : Nat) : Int) ((b : Nat) : Int) = zmk (fun q => decide (q < n) && decide (g q = b)) := (f2 _ _ (by omega)).trans gk
      have gN2 : zNR M2 (x + 7) n (zkU n m T g (16 * b)) := ⟨by rw [f2 _ _ (by omega)]; exact hK.1.1, fun p hp => by rw [f2 _ _ (by omega)]; exact hK.1.2 p hp⟩
      ((with_reducible refine i_sCall (i_as1 (i_FR (i_A1 ?_)))); (with_reducible refine i_fldR (by assumption) ?_); (with_reducible refine i_as1 (i_IA (i_FR (i_A2 ?_)))); (with_reducible refine i_fldR (by assumption) ?_); (with_reducible refine i_L3 ?_); (with_reducible refine i_in (by assumption) (by omega) (by omega) ?_); (with_reducible refine i_as1 (i_IA (i_FR (i_A2 ?_)))); (with_reducible refine i_fldR (by assumption) ?_); (with_reducible refine i_L3 ?_); (with_reducible refine i_in (by assumption) (by omega) (by omega) ?_); (with_reducible refine i_as0 ?_); (with_reducible refine i_recv0 (by assumption) ?_); (rw [gk2]); (refine s_Net_cross hO n1 gN2 hn (fun M3 f3 h3 => ⟨rfl, ?_⟩)); (with_reducible refine i_up (i_Inc3 ?_)); rw [zx_inc (by omega)]; simp only [w_set0, w_set1, w_setn0, w_setn1])
      have h4 : zNR M3 (x + 7) n (zkU n m T g (16 * (b + 1))) := h3.ext fun p q hp hq => by
        rw [zkU_c (by omega) hg16, hCv]
        unfold zcrs
        rw [Bool.and_true]
        congr 1
        rw [Bool.eq_iff_iff]
        simp only [Bool.and_eq_true, Bool.or_eq_true, decide_eq_true_eq, Bool.not_eq_true', decide_eq_false_iff_not]
        constructor
        · intro h
          obtain ⟨⟨a1, a2⟩, a3⟩ := h
          have a4 : (p < n ∧ g p = b) ∧ (q < n ∧ g q = b) := by rcases a3 with a3 | a3 <;> exact a3
          exact ⟨a1, a4.2.1, fun z => a2 z.symm, a4.1.2, a4.2.2⟩
        · rintro ⟨a1, a2, a3, a4, a5⟩
          exact ⟨⟨a1, fun z => a3 z.symm⟩, Or.inl ⟨⟨a1, a4⟩, a2, a5⟩⟩
      refine hX _ _ ⟨⟨_, rfl⟩, fun b' j q => ?_, (zTk.add (L := 16 * b) hK.2.2 (by omega) (by rw [hWb, hCv]) h4 (h2.to (fun j => by rw [f3 _ (by simp <;> omega)]) (fun j => by rw [f3 _ (by simp <;> omega)])) hs w1 w2 hf1 hf2).lim hlm⟩
      rw [f3 b' (by simp <;> omega), f2 b' j (by omega)]
      exact hf b' j q
    · rw [decide_eq_false hc] at hCv
      have hfin : ∀ l, X (((r : Nat) : Int) :: ((x : Nat) : Int) :: ((x + 1 : Nat) : Int) :: ((b + 1 : Nat) : Int) :: l) M1 := fun l => hX _ _ ⟨⟨l, rfl⟩, hf, ((hK.no (by rw [hWb, hCv])).lim hlm).ext hn (fun p q _ _ => by rw [zkU_c (by omega) hg16, hCv, Bool.and_false, Bool.or_false])⟩
      by_cases h1 : 1 < zSz g n b
      · have hc2 : ¬ ((3 + zBits m : Nat) : Int) < ((2 + 2 * zBits n : Nat) : Int) * (2 * ((zbw T g n b b n / 2 : Nat) : Int) - ((zSz g n b * (zSz g n b - 1) / 2 : Nat) : Int)) := fun z => hc ⟨h1, z⟩
        ((with_reducible refine i_turn (i_cI_lt (i_L3 (i_F (i_A2 ?_))))); (with_reducible refine i_fld (by assumption) ?_); (rw [gm]); (with_reducible refine i_t (by omega) ?_); (with_reducible refine i_Blk (i_Seq (i_Set (i_Call (i_as1 (i_A2 (i_as1 (i_L3 (i_as0 ?_))))))))); (with_reducible refine i_recv0 (by assumption) ?_); (refine c_sizeOf hO hp0 gP hn hm hb1 ⟨_, rfl, ?_⟩); (with_reducible refine i_Seq (i_Set (i_Div (i_IA (i_FR ?_))))); simp only [w_set0, w_set1, w_setn0, w_setn1]; (with_reducible refine i_A0 ?_); (with_reducible refine i_fldR (by assumption) ?_); (with_reducible refine i_Add (i_Mul (i_L3 (i_I (i_L3 ?_))))); rw [zx_mulc (by omega)]; rw [zx_add (by omega)]; (with_reducible refine i_in (by assumption) (by omega) (by omega) ?_); (with_reducible refine i_I ?_); (rw [ge]); rw [zx_divc (by omega)]; simp only [w_set0, w_set1, w_setn0, w_setn1]; rw [w_setT]; simp only [w_set0, w_set1, w_setn0, w_setn1]; rw [w_setT]; (with_reducible refine i_nn (by decide) ?_); (with_reducible refine i_If (i_cAnd (i_cI_gt (i_L4 (i_I ?_))))); (with_reducible refine i_t (by omega) ?_); (with_reducible refine i_cZ_ne (i_Call (i_as1 (i_A0 (i_as1 (i_L5 (i_as1 (i_Div (i_Mul (i_L4 (i_Sub (i_L4 (i_I (i_I ?_)))))))))))))); rw [zx_subc (by omega) (by omega)]; (rw [zx_mul (by omega)]); rw [zx_divc (by omega)]; (with_reducible refine i_nn (by decide) ?_); (with_reducible refine i_as1 (i_Add (i_I (i_F (i_A0 ?_))))); (with_reducible refine i_fld (by assumption) ?_); (with_reducible refine i_as0 ?_); (with_reducible refine i_recv0 (by assumption) ?_); (rw [gB]); rw [zx_cadd (by omega)])
        refine c_isSparing hO hr0 gE (by omega) (by omega) (by omega) (by omega) ⟨_, rfl, ?_⟩
        ((rw [decide_eq_false hc2]); rw [zbI_f]; (with_reducible refine i_f (by omega) ?_); (with_reducible refine i_up (i_Inc3 ?_)); rw [zx_inc (by omega)]; simp only [w_set0, w_set1, w_setn0, w_setn1])
        exact hfin _
      · ((with_reducible refine i_turn (i_cI_lt (i_L3 (i_F (i_A2 ?_))))); (with_reducible refine i_fld (by assumption) ?_); (rw [gm]); (with_reducible refine i_t (by omega) ?_); (with_reducible refine i_Blk (i_Seq (i_Set (i_Call (i_as1 (i_A2 (i_as1 (i_L3 (i_as0 ?_))))))))); (with_reducible refine i_recv0 (by assumption) ?_); (refine c_sizeOf hO hp0 gP hn hm hb1 ⟨_, rfl, ?_⟩); (with_reducible refine i_Seq (i_Set (i_Div (i_IA (i_FR ?_))))); simp only [w_set0, w_set1, w_setn0, w_setn1]; (with_reducible refine i_A0 ?_); (with_reducible refine i_fldR (by assumption) ?_); (with_reducible refine i_Add (i_Mul (i_L3 (i_I (i_L3 ?_))))); rw [zx_mulc (by omega)]; rw [zx_add (by omega)]; (with_reducible refine i_in (by assumption) (by omega) (by omega) ?_); (with_reducible refine i_I ?_); (rw [ge]); rw [zx_divc (by omega)]; simp only [w_set0, w_set1, w_setn0, w_setn1]; rw [w_setT]; simp only [w_set0, w_set1, w_setn0, w_setn1]; rw [w_setT]; (with_reducible refine i_nn (by decide) ?_); (with_reducible refine i_If (i_cAnd (i_cI_gt (i_L4 (i_I ?_))))); (with_reducible refine i_f (by omega) ?_); (with_reducible refine i_up (i_Inc3 ?_)); rw [zx_inc (by omega)]; simp only [w_set0, w_set1, w_setn0, w_setn1])
        exact hfin _
  · rintro ρ M1 X ⟨⟨l, rfl⟩, hf, hK⟩
    have gm : M1 ((x + 1 : Nat) : Int) ((4 : Nat) : Int) = ((m : Nat) : Int) := (hf _ _ (by omega)).trans hM.2.1
    ((with_reducible refine i_turn (i_cI_lt (i_L3 (i_F (i_A2 ?_))))); (with_reducible refine i_fld (by assumption) ?_); (rw [gm]); (with_reducible refine i_f (by omega) ?_); (with_reducible refine i_RetV ?_))
    refine hk _ hf ((hK.lim (L' := 256) (fun c h1 hc => ?_)).ext hn (fun p q _ _ => zkU_lim (fun p q hp hq => ?_) p q))
    · unfold zrW at hc
      by_cases e : c < 256
      · rw [if_pos e, Bool.and_eq_true] at hc
        have := of_decide_eq_true hc.1
        have h2 : c / 16 < m := by
          have := hc.2
          unfold zrC at this
          exact (of_decide_eq_true this).1
        omega
      · omega
    · have := hg p hp
      have := hg q hq
      constructor <;> intro _ <;> omega
theorem c_takeSides {O : zOm} (hO : zWld O) {r x n m : Nat} {g : Nat → Nat} {T : Nat → Nat → Bool} {M : zMem} {K : Option zV → zMem → Prop} (hr : zRl (zS O) r) (hx : zTeC (zS O) x) (hrx : r + 1 < x) (hE : M ((r : Nat) : Int) ((1 : Nat) : Int) = ((2 + 2 * zBits n : Nat) : Int)) (hB : M ((r : Nat) : Int) ((2 : Nat) : Int) = ((zBits m : Nat) : Int)) (hM : zPR M (x + 1) n g m) (hn : n ≤ 16) (hm : m ≤ 16) (hg : ∀ q, q < n → g q < m) (hon : ∀ i, i < m → ∃ p, p < n ∧ g p = i) (hT : zReg n T) (hb : ∀ a b : Nat, a < 16 → b < 16 → M ((r + 1 : Nat) : Int) ((16 * a + b : Nat) : Int) = ((zbw T g n a b n : Nat) : Int)) (hS : zTk M x n m T g 256 (zkU n m T g 256))
    (hk : ∀ M', (∀ b j, ¬ (b = ((x : Nat) : Int) ∧ j = 6 ∨ b = ((x + 6 : Nat) : Int) ∨ b = ((x + 8 : Nat) : Int)) → M' b j = M b j) → zTk M' x n m T g 512 (zrS0 n m T g) → K none M') : zR O F_Rule_takeSides [(2, ((r : Nat) : Int)), (2, ((x : Nat) : Int))] M K := by
  have hr0 := hr
  have hx0 := hx
  obtain ⟨r0, r1, r2, r3, r4, r5⟩ := hr
  obtain ⟨⟨o, x0, x1, x2, x3, x4, x5, x6⟩, ⟨y1, y2⟩, hp, n1, n2, n3⟩ := hx
  have hp0 := hp
  obtain ⟨p0, p1, p2, p3, p4, p5, p6, p7, p8⟩ := hp
  have o1 := n1.2.2.2
  have hg16 : ∀ q, q < n → g q < 16 := fun q hq => by have := hg q hq; omega
  have hb4 := zBits_4 hm
  have hbn4 := zBits_4 hn
  have hWd : ∀ c, 256 ≤ c → c < 512 → zrW n m T g c = true → c / 16 % 16 < c % 16 ∧ c % 16 < m := fun c h1 h2 h3 => by
    unfold zrW at h3
    rw [if_neg (by omega), if_pos h2] at h3
    unfold zrD at h3
    have := of_decide_eq_true h3
    exact ⟨this.1, this.2.1⟩
  apply r_Rule_takeSides hO
  unfold B_Rule_takeSides
  ((with_reducible refine i_Seq (i_Seq (i_Set (i_FR (i_A1 ?_))))); (with_reducible refine i_fldR (by assumption) ?_); (with_reducible refine i_Blk (i_Seq (i_Set (i_I ?_)))); simp only [w_set0, w_set1, w_setn0, w_setn1])
  refine w_ForN m (fun a ρ M' => (∃ l, ρ = ((r : Nat) : Int) :: ((x : Nat) : Int) :: ((x + 1 : Nat) : Int) :: ((a : Nat) : Int) :: l) ∧ (∀ b j, ¬ (b = ((x : Nat) : Int) ∧ j = 6 ∨ b = ((x + 6 : Nat) : Int) ∨ b = ((x + 8 : Nat) : Int)) → M' b j = M b j) ∧ zTk M' x n m T g (256 + 16 * a) (zkU n m T g (256 + 16 * a))) ⟨⟨_, rfl⟩, fun _ _ _ => rfl, hS⟩ ?_ ?_
  · rintro a ρ M1 X ha ⟨⟨l, rfl⟩, hf, hK⟩ hX
    have gm : M1 ((x + 1 : Nat) : Int) ((4 : Nat) : Int) = ((m : Nat) : Int) := (hf _ _ (by omega)).trans hM.2.1
    have gP : zPR M1 (x + 1) n g m := hM.fr (fun b j h1 h2 => hf b j (by omega))
    ((with_reducible refine i_turn (i_cI_lt (i_L3 (i_F (i_A2 ?_))))); (with_reducible refine i_fld (by assumption) ?_); (rw [gm]); (with_reducible refine i_t (by omega) ?_); (with_reducible refine i_Blk (i_Seq (i_Set (i_Call (i_as1 (i_A2 (i_as1 (i_L3 (i_as0 ?_))))))))); (with_reducible refine i_recv0 (by assumption) ?_); (refine c_sizeOf hO hp0 gP hn hm ha ⟨_, rfl, ?_⟩); (with_reducible refine i_Blk (i_Seq (i_Set (i_Add ?_)))); simp only [w_set0, w_set1, w_setn0, w_setn1]; (with_reducible refine i_L3 (i_I ?_)); rw [zx_inc (by omega)]; simp only [w_set0, w_set1, w_setn0, w_setn1]; rw [w_setT]; simp only [w_set0, w_set1, w_setn0, w_setn1]; rw [w_setT])
    refine w_ForN (m - (a + 1)) (fun k ρ M' => (∃ l, ρ = ((r : Nat) : Int) :: ((x : Nat) : Int) :: ((x + 1 : Nat) : Int) :: ((a : Nat) : Int) :: ((zSz g n a : Nat) : Int) :: ((a + 1 + k : Nat) : Int) :: l) ∧ (∀ b j, ¬ (b = ((x : Nat) : Int) ∧ j = 6 ∨ b = ((x + 6 : Nat) : Int) ∨ b = ((x + 8 : Nat) : Int)) → M' b j = M b j) ∧ zTk M' x n m T g (256 + 16 * a + (a + 1 + k)) (zkU n m T g (256 + 16 * a + (a + 1 + k)))) ⟨⟨_, rfl⟩, hf, (hK.lim (fun c h1 h2 => ?_)).ext hn (fun p q _ _ => zkU_lim (fun p q hp hq => ?_) p q)⟩ ?_ ?_
    · by_cases e : 256 ≤ c ∧ c < 512
      · have := hWd c e.1 e.2 h2
        omega
      · omega
    · have := hg16 p hp
      have := hg16 q hq
      constructor <;> intro _ <;> omega
    · rintro k ρ M2 X1 hk1 ⟨⟨l, rfl⟩, hf, hK⟩ hX1
      have hb1 : a + 1 + k < m := by omega
      rw [show a + 1 + (k + 1) = a + 1 + k + 1 by omega] at hX1
      have hab : a < a + 1 + k := by omega
      generalize a + 1 + k = b at hb1 hab hK hX1 ⊢
      have gm : M2 ((x + 1 : Nat) : Int) ((4 : Nat) : Int) = ((m : Nat) : Int) := (hf _ _ (by omega)).trans hM.2.1
      have gP : zPR M2 (x + 1) n g m := hM.fr (fun b j h1 h2 => hf b j (by omega))
      have gka : M2 ((x + 1 + 2 : Nat) : Int) ((a : Nat) : Int) = zmk (fun q => decide (q < n) && decide (g q = a)) := gP.2.2.2 a ha
      have gkb : M2 ((x + 1 + 2 : Nat) : Int) ((b : Nat) : Int) = zmk (fun q => decide (q < n) && decide (g q = b)) := gP.2.2.2 b hb1
      have gE : M2 ((r : Nat) : Int) ((1 : Nat) : Int) = ((2 + 2 * zBits n : Nat) : Int) := (hf _ _ (by omega)).trans hE
      have gB : M2 ((r : Nat) : Int) ((2 : Nat) : Int) = ((zBits m : Nat) : Int) := (hf _ _ (by omega)).trans hB
      have ge : M2 ((r + 1 : Nat) : Int) ((a * 16 + b : Nat) : Int) = ((zbw T g n a b n : Nat) : Int) := by
        rw [show a * 16 + b = 16 * a + b by omega]; exact (hf _ _ (by omega)).trans (hb a b (by omega) (by omega))
      have hle := zbw_le T g n a b n
      have hle2 : n * n ≤ 16 * 16 := Nat.mul_le_mul hn hn
      have hsa := zSz_le g n a
      have hsb := zSz_le g n b
      have hov := zov_side (n := n) (g := g) (i := a) (j := b) hT.1 (by omega)
      have hmul : zSz g n a * zSz g n b ≤ 16 * 16 := Nat.mul_le_mul (by omega) (by omega)
      rw [← Int.natCast_mul] at hov
      have hDv : zrD n m T g a b = decide (((3 + 2 * zBits m : Nat) : Int) < ((2 + 2 * zBits n : Nat) : Int) * (2 * ((zbw T g n a b n : Nat) : Int) - ((zSz g n a * zSz g n b : Nat) : Int))) := by
        unfold zrD
        rw [hov]
        apply decide_eq_decide.mpr
        generalize ((2 + 2 * zBits n : Nat) : Int) * (2 * ((zbw T g n a b n : Nat) : Int) - ((zSz g n a * zSz g n b : Nat) : Int)) = w
        constructor
        · intro h; omega
        · intro h; exact ⟨hab, hb1, by omega⟩
      have hWb := zrW_d (n := n) (m := m) (T := T) (g := g) (a := a) (b := b) (by omega) (by omega)
      by_cases hc : ((3 + 2 * zBits m : Nat) : Int) < ((2 + 2 * zBits n : Nat) : Int) * (2 * ((zbw T g n a b n : Nat) : Int) - ((zSz g n a * zSz g n b : Nat) : Int))
      · rw [decide_eq_true hc] at hDv
        have hpos : 0 < zbw T g n a b n := Classical.byContradiction fun z => by
          have z0 : zbw T g n a b n = 0 := by omega
          rw [z0] at hc
          have : ((2 + 2 * zBits n : Nat) : Int) * (2 * ((0 : Nat) : Int) - ((zSz g n a * zSz g n b : Nat) : Int)) ≤ 0 := Int.mul_nonpos_of_nonneg_of_nonpos (by omega) (by omega)
          omega
        obtain ⟨p0', v1, v2⟩ := hon a ha
        obtain ⟨q0', v3, v4⟩ := hon b hb1
        have hne : p0' ≠ q0' := fun z => by rw [z] at v2; omega
        have hex : ∃ p q, p < q ∧ q < n ∧ (g p = a ∧ g q = b ∨ g p = b ∧ g q = a) := by
          rcases Nat.lt_or_ge p0' q0' with w | w
          · exact ⟨p0', q0', w, v3, Or.inl ⟨v2, v4⟩⟩
          · exact ⟨q0', p0', by omega, v1, Or.inr ⟨v4, v2⟩⟩
        obtain ⟨p, q, w1, w2, w3⟩ := hex
        have hs : ∀ p q, zkU n m T g (256 + 16 * a + b) p q = true → zkU n m T g (256 + 16 * a + (b + 1)) p q = true := fun p q h => by rw [zkU_d hab (by omega) hg16, h]; rfl
        have hf1 : zkU n m T g (256 + 16 * a + b) p q = false := by
          unfold zkU
          rcases w3 with ⟨w3, w4⟩ | ⟨w3, w4⟩
          · rw [w3, w4, if_neg (by omega), if_pos hab, decide_eq_false (Nat.lt_irrefl _)]; simp
          · rw [w3, w4, if_neg (by omega), if_neg (by omega), decide_eq_false (Nat.lt_irrefl _)]; simp
        have hf2 : zkU n m T g (256 + 16 * a + (b + 1)) p q = true := by
          rw [zkU_d hab (by omega) hg16, hDv, decide_eq_true (show p < n ∧ q < n ∧ p ≠ q ∧ (g p = a ∧ g q = b ∨ g p = b ∧ g q = a) from ⟨by omega, w2, by omega, w3⟩)]; simp
        have hfew := zrV_few hK.2.2 hn hs w1 w2 hf1 hf2
        ((with_reducible refine i_turn (i_cI_lt (i_L5 (i_F (i_A2 ?_))))); (with_reducible refine i_fld (by assumption) ?_); (rw [gm]); (with_reducible refine i_t (by omega) ?_); (with_reducible refine i_Blk (i_Seq (i_Set (i_IA (i_FR (i_A0 ?_)))))); (with_reducible refine i_fldR (by assumption) ?_); (with_reducible refine i_Add (i_Mul (i_L3 (i_I (i_L5 ?_))))); rw [zx_mulc (by omega)]; rw [zx_add (by omega)]; (with_reducible refine i_in (by assumption) (by omega) (by omega) ?_); (with_reducible refine i_If (i_cAnd (i_cZ_gt ?_))); (rw [ge]); simp only [w_set0, w_set1, w_setn0, w_setn1]; rw [w_setT]; (with_reducible refine i_L6 ?_); (with_reducible refine i_t (by omega) ?_); (with_reducible refine i_cZ_ne (i_Call (i_as1 (i_A0 (i_as1 (i_L6 (i_as1 (i_Mul (i_L4 (i_Call (i_as1 (i_A2 (i_as1 (i_L5 (i_as0 ?_))))))))))))))); (with_reducible refine i_recv0 (by assumption) ?_); (refine c_sizeOf hO hp0 gP hn hm hb1 ⟨_, rfl, ?_⟩); (with_reducible refine i_as1 (i_Add (i_I (i_Mul (i_I (i_F (i_A0 ?_))))))); (with_reducible refine i_fld (by assumption) ?_); (with_reducible refine i_as0 ?_); (with_reducible refine i_recv0 (by assumption) ?_); (rw [zx_mul (by omega)]); (rw [gB]); rw [zx_cmul (by omega)]; rw [zx_cadd (by omega)])
        refine c_isSparing hO hr0 gE (by omega) (by omega) (by omega) (by omega) ⟨_, rfl, ?_⟩
        ((rw [decide_eq_true hc]); rw [zbI_t]; (with_reducible refine i_t (by omega) ?_); (with_reducible refine i_Seq (i_sCall (i_as1 (i_A1 (i_as1 (i_Call (i_as1 (i_I (i_as1 (i_L3 (i_as1 (i_L5 (i_as0 (i_recv1 ?_)))))))))))))); (refine c_wordOf hO (k := 1) (by omega) (by omega) (by omega) ⟨_, rfl, ?_⟩); (with_reducible refine i_as0 ?_); (with_reducible refine i_recv0 (by assumption) ?_))
        rw [show 256 * 1 + 16 * a + b = 256 + 16 * a + b by omega]
        refine c_addWord hO hx0 hK.2.1 (by omega) (fun d hd => zrV_top d hd) hfew (fun M3 f3 h3 => ⟨rfl, ?_⟩)
        have gka2 : M3 ((x + 1 + 2 : Nat) : Int) ((a : Nat) : Int) = zmk (fun q => decide (q < n) && decide (g q = a)) := (f3 _ _ (by omega)).trans gka
        have gkb2 : M3 ((x + 1 + 2 : Nat) : Int) ((b : Nat) : Int) = zmk (fun q => decide (q < n) && decide (g q = b)) := (f3 _ _ (by omega)).trans gkb
        have gN2 : zNR M3 (x + 7) n (zkU n m T g (256 + 16 * a + b)) := ⟨by rw [f3 _ _ (by omega)]; exact hK.1.1, fun p hp => by rw [f3 _ _ (by omega)]; exact hK.1.2 p hp⟩
        ((with_reducible refine i_sCall (i_as1 (i_FR (i_A1 ?_)))); (with_reducible refine i_fldR (by assumption) ?_); (with_reducible refine i_as1 (i_IA (i_FR (i_A2 ?_)))); (with_reducible refine i_fldR (by assumption) ?_); (with_reducible refine i_L3 ?_); (with_reducible refine i_in (by assumption) (by omega) (by omega) ?_); (with_reducible refine i_as1 (i_IA (i_FR (i_A2 ?_)))); (with_reducible refine i_fldR (by assumption) ?_); (with_reducible refine i_L5 ?_); (with_reducible refine i_in (by assumption) (by omega) (by omega) ?_); (with_reducible refine i_as0 ?_); (with_reducible refine i_recv0 (by assumption) ?_); (rw [gka2]); (rw [gkb2]); (refine s_Net_cross hO n1 gN2 hn (fun M4 f4 h4 => ⟨rfl, ?_⟩)); (with_reducible refine i_up (i_Inc5 ?_)); rw [zx_inc (by omega)]; simp only [w_set0, w_set1, w_setn0, w_setn1])
        have h5 : zNR M4 (x + 7) n (zkU n m T g (256 + 16 * a + (b + 1))) := h4.ext fun p q hp hq => by
          rw [zkU_d hab (by omega) hg16, hDv]
          unfold zcrs
          rw [Bool.and_true]
          congr 1
          rw [Bool.eq_iff_iff]
          simp only [Bool.and_eq_true, Bool.or_eq_true, decide_eq_true_eq, Bool.not_eq_true', decide_eq_false_iff_not]
          constructor
          · intro h
            obtain ⟨⟨a1, a2⟩, a3⟩ := h
            rcases a3 with ⟨⟨_, a4⟩, a5, a6⟩ | ⟨⟨_, a4⟩, a5, a6⟩
            · exact ⟨a1, a5, fun z => a2 z.symm, Or.inl ⟨a4, a6⟩⟩
            · exact ⟨a1, a5, fun z => a2 z.symm, Or.inr ⟨a4, a6⟩⟩
          · rintro ⟨a1, a2, a3, ⟨a4, a5⟩ | ⟨a4, a5⟩⟩
            · exact ⟨⟨a1, fun z => a3 z.symm⟩, Or.inl ⟨⟨a1, a4⟩, a2, a5⟩⟩
            · exact ⟨⟨a1, fun z => a3 z.symm⟩, Or.inr ⟨⟨a1, a4⟩, a2, a5⟩⟩
        refine hX1 _ _ ⟨⟨_, rfl⟩, fun b' j q => ?_, zTk.add (L := 256 + 16 * a + b) hK.2.2 (by omega) (by rw [hWb, hDv]) h5 (h3.to (fun j => by rw [f4 _ (by simp <;> omega)]) (fun j => by rw [f4 _ (by simp <;> omega)])) hs w1 w2 hf1 hf2⟩
        rw [f4 b' (by simp <;> omega), f3 b' j (by omega)]
        exact hf b' j q
      · rw [decide_eq_false hc] at hDv
        have hfin : ∀ l, X1 (((r : Nat) : Int) :: ((x : Nat) : Int) :: ((x + 1 : Nat) : Int) :: ((a : Nat) : Int) :: ((zSz g n a : Nat) : Int) :: ((b + 1 : Nat) : Int) :: l) M2 := fun l => hX1 _ _ ⟨⟨l, rfl⟩, hf, (hK.no (by rw [hWb, hDv])).ext hn (fun p q _ _ => by rw [zkU_d hab (by omega) hg16, hDv, Bool.and_false, Bool.or_false])⟩
        by_cases h1 : 0 < zbw T g n a b n
        · ((with_reducible refine i_turn (i_cI_lt (i_L5 (i_F (i_A2 ?_))))); (with_reducible refine i_fld (by assumption) ?_); (rw [gm]); (with_reducible refine i_t (by omega) ?_); (with_reducible refine i_Blk (i_Seq (i_Set (i_IA (i_FR (i_A0 ?_)))))); (with_reducible refine i_fldR (by assumption) ?_); (with_reducible refine i_Add (i_Mul (i_L3 (i_I (i_L5 ?_))))); rw [zx_mulc (by omega)]; rw [zx_add (by omega)]; (with_reducible refine i_in (by assumption) (by omega) (by omega) ?_); (with_reducible refine i_If (i_cAnd (i_cZ_gt ?_))); (rw [ge]); simp only [w_set0, w_set1, w_setn0, w_setn1]; rw [w_setT]; (with_reducible refine i_L6 ?_); (with_reducible refine i_t (by omega) ?_); (with_reducible refine i_cZ_ne (i_Call (i_as1 (i_A0 (i_as1 (i_L6 (i_as1 (i_Mul (i_L4 (i_Call (i_as1 (i_A2 (i_as1 (i_L5 (i_as0 ?_))))))))))))))); (with_reducible refine i_recv0 (by assumption) ?_); (refine c_sizeOf hO hp0 gP hn hm hb1 ⟨_, rfl, ?_⟩); (with_reducible refine i_as1 (i_Add (i_I (i_Mul (i_I (i_F (i_A0 ?_))))))); (with_reducible refine i_fld (by assumption) ?_); (with_reducible refine i_as0 ?_); (with_reducible refine i_recv0 (by assumption) ?_); (rw [zx_mul (by omega)]); (rw [gB]); rw [zx_cmul (by omega)]; rw [zx_cadd (by omega)])
          refine c_isSparing hO hr0 gE (by omega) (by omega) (by omega) (by omega) ⟨_, rfl, ?_⟩
          ((rw [decide_eq_false hc]); rw [zbI_f]; (with_reducible refine i_f (by omega) ?_); (with_reducible refine i_up (i_Inc5 ?_)); rw [zx_inc (by omega)]; simp only [w_set0, w_set1, w_setn0, w_setn1])
          exact hfin _
        · ((with_reducible refine i_turn (i_cI_lt (i_L5 (i_F (i_A2 ?_))))); (with_reducible refine i_fld (by assumption) ?_); (rw [gm]); (with_reducible refine i_t (by omega) ?_); (with_reducible refine i_Blk (i_Seq (i_Set (i_IA (i_FR (i_A0 ?_)))))); (with_reducible refine i_fldR (by assumption) ?_); (with_reducible refine i_Add (i_Mul (i_L3 (i_I (i_L5 ?_))))); rw [zx_mulc (by omega)]; rw [zx_add (by omega)]; (with_reducible refine i_in (by assumption) (by omega) (by omega) ?_); (with_reducible refine i_If (i_cAnd (i_cZ_gt ?_))); (rw [ge]); simp only [w_set0, w_set1, w_setn0, w_setn1]; rw [w_setT]; (with_reducible refine i_L6 ?_); (with_reducible refine i_f (by omega) ?_); (with_reducible refine i_up (i_Inc5 ?_)); rw [zx_inc (by omega)]; simp only [w_set0, w_set1, w_setn0, w_setn1])
          exact hfin _
    · rintro ρ M2 X1 ⟨⟨l, rfl⟩, hf, hK⟩
      have gm : M2 ((x + 1 : Nat) : Int) ((4 : Nat) : Int) = ((m : Nat) : Int) := (hf _ _ (by omega)).trans hM.2.1
      rw [show a + 1 + (m - (a + 1)) = m by omega] at hK ⊢
      ((with_reducible refine i_turn (i_cI_lt (i_L5 (i_F (i_A2 ?_))))); (with_reducible refine i_fld (by assumption) ?_); (rw [gm]); (with_reducible refine i_f (by omega) ?_); (with_reducible refine i_up (i_Inc3 ?_)); rw [zx_inc (by omega)]; simp only [w_set0, w_set1, w_setn0, w_setn1])
      refine hX _ _ ⟨⟨_, rfl⟩, hf, (hK.lim (fun c h1 h2 => ?_)).ext hn (fun p q _ _ => zkU_lim (fun p q hp hq => ?_) p q)⟩
      · by_cases e : 256 ≤ c ∧ c < 512
        · have := hWd c e.1 e.2 h2
          omega
        · omega
      · have := hg p hp
        have := hg q hq
        constructor <;> intro _ <;> omega
  · rintro ρ M1 X ⟨⟨l, rfl⟩, hf, hK⟩
    have gm : M1 ((x + 1 : Nat) : Int) ((4 : Nat) : Int) = ((m : Nat) : Int) := (hf _ _ (by omega)).trans hM.2.1
    ((with_reducible refine i_turn (i_cI_lt (i_L3 (i_F (i_A2 ?_))))); (with_reducible refine i_fld (by assumption) ?_); (rw [gm]); (with_reducible refine i_f (by omega) ?_); (with_reducible refine i_RetV ?_))
    refine hk _ hf ((hK.lim (L' := 512) (fun c h1 h2 => ?_)).ext hn (fun p q _ _ => ?_))
    · by_cases e : 256 ≤ c ∧ c < 512
      · have := hWd c e.1 e.2 h2
        omega
      · omega
    · rw [← zkU_s0 hg16]
      refine zkU_lim (fun p q hp hq => ?_) p q
      have := hg p hp
      have := hg q hq
      constructor <;> intro _ <;> omega
end
section
-- part c3.cstar.lean.txt
/-! ===== the class: stars, rows, chains by the rule ===== -/
theorem zcnt_n16 {n : Nat} (hn : n ≤ 16) (t f : Nat → Bool) : zcnt (fun i => t i && (decide (i < n) && f i)) 16 = zcnt (fun i => t i && f i) n := by
  rw [zcnt_top (c := n) (fun d hd => by rw [decide_eq_false (show ¬ d < n by omega)]; simp) hn]
  exact zcnt_ext fun i hi => by rw [decide_eq_true hi, Bool.true_and]
theorem zcnt_m16 {n : Nat} (hn : n ≤ 16) (f : Nat → Bool) : zcnt (fun i => decide (i < n) && f i) 16 = zcnt f n := by
  rw [zcnt_top (c := n) (fun d hd => by rw [decide_eq_false (show ¬ d < n by omega)]; rfl) hn]
  exact zcnt_ext fun i hi => by rw [decide_eq_true hi, Bool.true_and]
/-- tables that are symmetric -/
theorem zrS0_sym (n m : Nat) (T : Nat → Nat → Bool) (g : Nat → Nat) (p q : Nat) : zrS0 n m T g p q = zrS0 n m T g q p := by
  unfold zrS0
  rw [zWq_sym]
  exact zdb ⟨fun h => ⟨h.2.1, h.1, fun w => h.2.2 w.symm⟩, fun h => ⟨h.2.1, h.1, fun w => h.2.2 w.symm⟩⟩
theorem zrA_sym {n : Nat} {g : Nat → Nat} {p i : Nat} {S : Nat → Nat → Bool} (h : ∀ a b, S a b = S b a) (a b : Nat) : zrA n g p i S a b = zrA n g p i S b a := by
  unfold zrA
  rw [h a b, Bool.or_comm (decide (a = p ∧ b ≠ p ∧ b < n ∧ g b = i))]
theorem zrI_sym {n m : Nat} {T : Nat → Nat → Bool} {g : Nat → Nat} {S : Nat → Nat → Bool} {p : Nat} (h : ∀ a b, S a b = S b a) (i a b : Nat) : zrI n m T g S p i a b = zrI n m T g S p i b a := by
  induction i generalizing a b with
  | zero => exact h a b
  | succ i ih =>
    rw [zrI_su]
    split
    · exact zrA_sym ih a b
    · exact ih a b
theorem zrP_sym (n m : Nat) (T : Nat → Nat → Bool) (g : Nat → Nat) (p a b : Nat) : zrP n m T g p a b = zrP n m T g p b a := by
  induction p generalizing a b with
  | zero => exact zrS0_sym n m T g a b
  | succ p ih => exact zrI_sym ih m a b
theorem zchn_sym {S : Nat → Nat → Bool} {w : Nat → Nat} {f : Nat} (h : ∀ a b, S a b = S b a) (k a b : Nat) : zchn S w f k a b = zchn S w f k b a := by
  induction k generalizing a b with
  | zero => exact h a b
  | succ k ih =>
    rw [zchn_su, zchn_su, ih a b]
    generalize zchn S w f k b a = z
    rw [Bool.and_comm (decide (b = w (f + k))), Bool.and_comm (decide (b = w (f + k + 1))), Bool.or_assoc, Bool.or_assoc, Bool.or_comm (decide (a = w (f + k)) && decide (b = w (f + k + 1)))]
theorem zrQ_sym (n m : Nat) (T : Nat → Nat → Bool) (g : Nat → Nat) (i a b : Nat) : zrQ n m T g i a b = zrQ n m T g i b a := by
  induction i generalizing a b with
  | zero => exact zrP_sym n m T g n a b
  | succ i ih =>
    rw [zrQ_su]
    split
    · exact zchn_sym ih _ a b
    · exact ih a b
theorem zrG_in {n m : Nat} {T : Nat → Nat → Bool} {g : Nat → Nat} {p i : Nat} (hp : p < n) (hi : i < m) : zrG n m T g p i = zrc n m T g (zrI n m T g (zrP n m T g p) p i) p i := by unfold zrG; rw [decide_eq_true ⟨hp, hi⟩]; rfl
theorem zrW_big {n m : Nat} {T : Nat → Nat → Bool} {g : Nat → Nat} {c : Nat} (h : zrW n m T g c = true) : (c < 256 → c / 16 < m ∧ c % 16 = 0) ∧ (512 ≤ c → c < 768 → c / 16 % 16 < n ∧ c % 16 < m) ∧ (768 ≤ c → c / 16 % 16 < m ∧ c % 16 = 0 ∧ c < 1024) := by
  unfold zrW at h
  refine ⟨fun q => ?_, fun q w => ?_, fun q => ?_⟩
  · rw [if_pos q, Bool.and_eq_true] at h
    have h2 := h.2
    unfold zrC at h2
    exact ⟨(of_decide_eq_true h2).1, of_decide_eq_true h.1⟩
  · rw [if_neg (by omega), if_neg (by omega), if_pos w] at h
    unfold zrG at h
    rw [Bool.and_eq_true] at h
    exact of_decide_eq_true h.1
  · rw [if_neg (by omega), if_neg (by omega), if_neg (by omega), Bool.and_eq_true, Bool.and_eq_true] at h
    have h2 := h.2.2
    unfold zrH at h2
    rw [Bool.and_eq_true] at h2
    exact ⟨of_decide_eq_true h2.1, of_decide_eq_true h.1, of_decide_eq_true h.2.1⟩
theorem c_takeStars {O : zOm} (hO : zWld O) {r x y n m : Nat} {g : Nat → Nat} {T : Nat → Nat → Bool} {M : zMem} {K : Option zV → zMem → Prop} (hr : zRl (zS O) r) (hx : zTeC (zS O) x) (hy : zNet (zS O) y) (hrx : r + 1 < x) (hyx : y + 1 < x ∨ x + 12 < y) (hN : zNR M y n T) (hE : M ((r : Nat) : Int) ((1 : Nat) : Int) = ((2 + 2 * zBits n : Nat) : Int)) (hB : M ((r : Nat) : Int) ((2 : Nat) : Int) = ((zBits m : Nat) : Int)) (hB3 : M ((r : Nat) : Int) ((3 : Nat) : Int) = ((zBits n : Nat) : Int)) (hM : zPR M (x + 1) n g m) (hn : n ≤ 16) (hm : m ≤ 16) (hg : ∀ q, q < n → g q < m) (hS : zTk M x n m T g 512 (zrS0 n m T g))
    (hk : ∀ M', (∀ b j, ¬ (b = ((x : Nat) : Int) ∧ j = 6 ∨ b = ((x + 6 : Nat) : Int) ∨ b = ((x + 8 : Nat) : Int)) → M' b j = M b j) → zTk M' x n m T g 768 (zrP n m T g n) → K none M') : zR O F_Rule_takeStars [(2, ((r : Nat) : Int)), (2, ((y : Nat) : Int)), (2, ((x : Nat) : Int))] M K := by
  have hr0 := hr
  have hx0 := hx
  obtain ⟨r0, r1, r2, r3, r4, r5⟩ := hr
  obtain ⟨⟨o, x0, x1, x2, x3, x4, x5, x6⟩, ⟨y1, y2⟩, hp, n1, n2, n3⟩ := hx
  have n10 := n1
  obtain ⟨v1, v2, v3, v4⟩ := n1
  obtain ⟨u1, u2, u3, u4⟩ := hy
  have hp0 := hp
  obtain ⟨p0, p1, p2, p3, p4, p5, p6, p7, p8⟩ := hp
  have hb4 := zBits_4 hm
  have hbn4 := zBits_4 hn
  apply r_Rule_takeStars hO
  unfold B_Rule_takeStars
  ((with_reducible refine i_Seq (i_Seq (i_Set (i_FR (i_A2 ?_))))); (with_reducible refine i_fldR (by assumption) ?_); (with_reducible refine i_Blk (i_Seq (i_Set (i_I ?_)))); simp only [w_set0, w_set1, w_setn0, w_setn1])
  refine w_ForN n (fun p ρ M' => (∃ l, ρ = ((r : Nat) : Int) :: ((y : Nat) : Int) :: ((x : Nat) : Int) :: ((x + 1 : Nat) : Int) :: ((p : Nat) : Int) :: l) ∧ (∀ b j, ¬ (b = ((x : Nat) : Int) ∧ j = 6 ∨ b = ((x + 6 : Nat) : Int) ∨ b = ((x + 8 : Nat) : Int)) → M' b j = M b j) ∧ zTk M' x n m T g (512 + 16 * p) (zrP n m T g p)) ⟨⟨_, rfl⟩, fun _ _ _ => rfl, hS⟩ ?_ ?_
  · rintro p ρ M1 X hp1 ⟨⟨l, rfl⟩, hf, hK⟩ hX
    have gn : M1 ((x + 1 : Nat) : Int) ((3 : Nat) : Int) = ((n : Nat) : Int) := (hf _ _ (by omega)).trans hM.1
    ((with_reducible refine i_turn (i_cI_lt (i_L4 (i_F (i_A3 ?_))))); (with_reducible refine i_fld (by assumption) ?_); (rw [gn]); (with_reducible refine i_t (by omega) ?_); (with_reducible refine i_Blk (i_Seq (i_Set (i_I ?_)))); simp only [w_set0, w_set1, w_setn0, w_setn1]; rw [w_setT])
    refine w_ForN m (fun b ρ M' => (∃ l, ρ = ((r : Nat) : Int) :: ((y : Nat) : Int) :: ((x : Nat) : Int) :: ((x + 1 : Nat) : Int) :: ((p : Nat) : Int) :: ((b : Nat) : Int) :: l) ∧ (∀ b j, ¬ (b = ((x : Nat) : Int) ∧ j = 6 ∨ b = ((x + 6 : Nat) : Int) ∨ b = ((x + 8 : Nat) : Int)) → M' b j = M b j) ∧ zTk M' x n m T g (512 + 16 * p + b) (zrI n m T g (zrP n m T g p) p b)) ⟨⟨_, rfl⟩, hf, hK⟩ ?_ ?_
    · rintro b ρ M2 X1 hb1 ⟨⟨l, rfl⟩, hf, hK⟩ hX1
      have gm : M2 ((x + 1 : Nat) : Int) ((4 : Nat) : Int) = ((m : Nat) : Int) := (hf _ _ (by omega)).trans hM.2.1
      have gP : zPR M2 (x + 1) n g m := hM.fr (fun b j h1 h2 => hf b j (by omega))
      have gk : M2 ((x + 1 + 2 : Nat) : Int) ((b : Nat) : Int) = zmk (fun q => decide (q < n) && decide (g q = b)) := gP.2.2.2 b hb1
      have gE : M2 ((r : Nat) : Int) ((1 : Nat) : Int) = ((2 + 2 * zBits n : Nat) : Int) := (hf _ _ (by omega)).trans hE
      have gB : M2 ((r : Nat) : Int) ((2 : Nat) : Int) = ((zBits m : Nat) : Int) := (hf _ _ (by omega)).trans hB
      have gB3 : M2 ((r : Nat) : Int) ((3 : Nat) : Int) = ((zBits n : Nat) : Int) := (hf _ _ (by omega)).trans hB3
      have gT : M2 ((y + 1 : Nat) : Int) ((p : Nat) : Int) = zmk (T p) := (hf _ _ (by omega)).trans (hN.2 p (by omega))
      have hGv := zrG_in (T := T) (g := g) hp1 hb1
      have hsym := zrI_sym (n := n) (m := m) (T := T) (g := g) (p := p) (zrP_sym n m T g p) b
      rw [zrI_su] at hX1
      generalize zrI n m T g (zrP n m T g p) p b = S at hK hX1 hGv hsym
      have gS : M2 ((x + 7 + 1 : Nat) : Int) ((p : Nat) : Int) = zmk (S p) := hK.1.2 p (by omega)
      have hWb := zrW_g (n := n) (m := m) (T := T) (g := g) (a := p) (b := b) (by omega) (by omega)
      rw [hGv] at hWb
      have hfm : zmk (fun i => ((decide (i < n) && decide (g i = b)) && !decide (i = p)) && !S p i) = zmk (fun i => decide (i < n) && zfr g S p b i) := zmk_ext fun i _ => by
        unfold zfr
        rw [Bool.eq_iff_iff]
        simp only [Bool.and_eq_true, decide_eq_true_eq, Bool.not_eq_true', decide_eq_false_iff_not]
        constructor
        · rintro ⟨⟨⟨a1, a2⟩, a3⟩, a4⟩; exact ⟨a1, a3, a2, a4⟩
        · rintro ⟨a1, a3, a2, a4⟩; exact ⟨⟨⟨a1, a2⟩, a3⟩, a4⟩
      have hcv : zrc n m T g S p b = decide (((3 + zBits n + zBits m : Nat) : Int) < ((2 + 2 * zBits n : Nat) : Int) * (2 * ((zcnt (fun q => T p q && zfr g S p b q) n : Nat) : Int) - ((zcnt (zfr g S p b) n : Nat) : Int))) := by
        unfold zrc
        rw [zrO_cnt]
        apply decide_eq_decide.mpr
        generalize ((2 + 2 * zBits n : Nat) : Int) * (2 * ((zcnt (fun q => T p q && zfr g S p b q) n : Nat) : Int) - ((zcnt (zfr g S p b) n : Nat) : Int)) = w
        constructor <;> intro h <;> omega
      have hc1 := zcnt_le (fun q => T p q && zfr g S p b q) n
      have hc2 := zcnt_le (zfr g S p b) n
      by_cases hc : ((3 + zBits n + zBits m : Nat) : Int) < ((2 + 2 * zBits n : Nat) : Int) * (2 * ((zcnt (fun q => T p q && zfr g S p b q) n : Nat) : Int) - ((zcnt (zfr g S p b) n : Nat) : Int))
      · rw [decide_eq_true hc] at hcv
        rw [hcv] at hX1 hWb
        simp only [if_true] at hX1
        have hpos : 0 < zcnt (fun q => T p q && zfr g S p b q) n := Classical.byContradiction fun z => by
          have z0 : zcnt (fun q => T p q && zfr g S p b q) n = 0 := by omega
          rw [z0] at hc
          have : ((2 + 2 * zBits n : Nat) : Int) * (2 * ((0 : Nat) : Int) - ((zcnt (zfr g S p b) n : Nat) : Int)) ≤ 0 := Int.mul_nonpos_of_nonneg_of_nonpos (by omega) (by omega)
          omega
        obtain ⟨q, q1, q2, -⟩ := zcnt_has _ _ 0 hpos
        rw [Bool.and_eq_true] at q2
        have q3 : q ≠ p ∧ g q = b ∧ S p q = false := of_decide_eq_true q2.2
        have hs : ∀ a c, S a c = true → zrA n g p b S a c = true := fun a c h => by unfold zrA; rw [h]; rfl
        have hup : zrA n g p b S p q = true := by unfold zrA; rw [decide_eq_true (show p = p ∧ q ≠ p ∧ q < n ∧ g q = b from ⟨rfl, q3.1, q1, q3.2.1⟩)]; simp
        have hex : ∃ a c, a < c ∧ c < n ∧ S a c = false ∧ zrA n g p b S a c = true := by
          rcases Nat.lt_or_ge p q with w | w
          · exact ⟨p, q, w, q1, q3.2.2, hup⟩
          · exact ⟨q, p, by omega, hp1, by rw [hsym]; exact q3.2.2, by rw [zrA_sym hsym]; exact hup⟩
        obtain ⟨a, c, w1, w2, hf1, hf2⟩ := hex
        have hfew := zrV_few hK.2.2 hn hs w1 w2 hf1 hf2
        ((with_reducible refine i_turn (i_cI_lt (i_L5 (i_F (i_A3 ?_))))); (with_reducible refine i_fld (by assumption) ?_); (rw [gm]); (with_reducible refine i_t (by omega) ?_); (with_reducible refine i_Blk (i_Seq (i_Set (i_And (i_And (i_IA (i_FR (i_A3 ?_)))))))); (with_reducible refine i_fldR (by assumption) ?_); (with_reducible refine i_L5 ?_); (with_reducible refine i_in (by assumption) (by omega) (by omega) ?_); (with_reducible refine i_Xor (i_Shl (i_I (i_L4 (i_I (i_Xor (i_IA (i_FR (i_FR (i_A2 ?_)))))))))); (with_reducible refine i_fldR (by assumption) ?_); (with_reducible refine i_fldR (by assumption) ?_); (with_reducible refine i_L4 ?_); (with_reducible refine i_in (by assumption) (by omega) (by omega) ?_); (with_reducible refine i_I (i_Seq (i_Set (i_Call (i_as1 (i_And (i_IA (i_FR ?_)))))))); (rw [gk]); (rw [gS]); (rw [yshl_mk (by omega)]); (rw [ynot_mk]); (rw [ynot_mk]); (rw [hfm]); simp only [w_set0, w_set1, w_setn0, w_setn1]; (with_reducible refine i_A1 ?_); (with_reducible refine i_fldR (by assumption) ?_); (with_reducible refine i_L4 ?_); (with_reducible refine i_in (by assumption) (by omega) (by omega) ?_); (rw [gT]); rw [w_setT]; (with_reducible refine i_L6 (i_as0 (i_recv1 ?_))); (rw [yand_mk]); (refine s_bitCount hO ⟨_, rfl, ?_⟩); (with_reducible refine i_If (i_cAnd (i_cZ_gt ?_))); (rw [zcnt_n16 hn]); simp only [w_set0, w_set1, w_setn0, w_setn1]; rw [w_setT]; (with_reducible refine i_L7 ?_); (with_reducible refine i_t (by omega) ?_); (with_reducible refine i_cZ_ne (i_Call (i_as1 (i_A0 (i_as1 (i_L7 (i_as1 (i_Call (i_as1 (i_L6 (i_as0 (i_recv1 ?_)))))))))))); (refine s_bitCount hO ⟨_, rfl, ?_⟩); (with_reducible refine i_as1 (i_Add (i_Add (i_I (i_F (i_A0 ?_)))))); (with_reducible refine i_fld (by assumption) ?_); (with_reducible refine i_F (i_A0 ?_)); (with_reducible refine i_fld (by assumption) ?_); (with_reducible refine i_as0 ?_); (with_reducible refine i_recv0 (by assumption) ?_); (rw [gB]); (rw [gB3]); (rw [zcnt_m16 hn]); rw [zx_cadd (by omega)]; rw [zx_add (by omega)])
        refine c_isSparing hO hr0 gE (by omega) (by omega) (by omega) (by omega) ⟨_, rfl, ?_⟩
        ((rw [decide_eq_true hc]); rw [zbI_t]; (with_reducible refine i_t (by omega) ?_); (with_reducible refine i_Seq (i_sCall (i_as1 (i_A2 (i_as1 (i_Call (i_as1 (i_I (i_as1 (i_L4 (i_as1 (i_L5 (i_as0 (i_recv1 ?_)))))))))))))); (refine c_wordOf hO (k := 2) (by omega) (by omega) (by omega) ⟨_, rfl, ?_⟩); (with_reducible refine i_as0 ?_); (with_reducible refine i_recv0 (by assumption) ?_))
        rw [show 256 * 2 + 16 * p + b = 512 + 16 * p + b by omega]
        refine c_addWord hO hx0 hK.2.1 (by omega) (fun d hd => zrV_top d hd) hfew (fun M3 f3 h3 => ⟨rfl, ?_⟩)
        have gk2 : M3 ((x + 1 + 2 : Nat) : Int) ((b : Nat) : Int) = zmk (fun q => decide (q < n) && decide (g q = b)) := (f3 _ _ (by omega)).trans gk
        have gN2 : zNR M3 (x + 7) n S := ⟨by rw [f3 _ _ (by omega)]; exact hK.1.1, fun p hp => by rw [f3 _ _ (by omega)]; exact hK.1.2 p hp⟩
        ((with_reducible refine i_sCall (i_as1 (i_FR (i_A2 ?_)))); (with_reducible refine i_fldR (by assumption) ?_); (with_reducible refine i_as1 (i_Shl (i_I (i_L4 (i_as1 (i_IA (i_FR (i_A3 ?_)))))))); (with_reducible refine i_fldR (by assumption) ?_); (with_reducible refine i_L5 ?_); (with_reducible refine i_in (by assumption) (by omega) (by omega) ?_); (with_reducible refine i_as0 ?_); (with_reducible refine i_recv0 (by assumption) ?_); (rw [gk2]); (rw [yshl_mk (by omega)]); (refine s_Net_cross hO n10 gN2 hn (fun M4 f4 h4 => ⟨rfl, ?_⟩)); (with_reducible refine i_up (i_Inc5 ?_)); rw [zx_inc (by omega)]; simp only [w_set0, w_set1, w_setn0, w_setn1])
        have h5 : zNR M4 (x + 7) n (zrA n g p b S) := h4.ext fun a c ha hc => by
          unfold zcrs zrA
          congr 1
          rw [Bool.eq_iff_iff]
          simp only [Bool.and_eq_true, Bool.or_eq_true, decide_eq_true_eq, Bool.not_eq_true', decide_eq_false_iff_not]
          constructor
          · rintro ⟨⟨a1, a2⟩, ⟨a3, a4, a5⟩ | ⟨⟨a4, a5⟩, a3⟩⟩
            · exact Or.inl ⟨a3, fun z => a2 (z.trans a3.symm), a4, a5⟩
            · exact Or.inr ⟨a3, fun z => a2 (a3.trans z.symm), a4, a5⟩
          · rintro (⟨a3, a2, a4, a5⟩ | ⟨a3, a2, a4, a5⟩)
            · exact ⟨⟨by omega, fun z => a2 (z.trans a3)⟩, Or.inl ⟨a3, a4, a5⟩⟩
            · exact ⟨⟨a4, fun z => a2 (z.symm.trans a3)⟩, Or.inr ⟨⟨a4, a5⟩, a3⟩⟩
        refine hX1 _ _ ⟨⟨_, rfl⟩, fun b' j q => ?_, zTk.add (L := 512 + 16 * p + b) hK.2.2 (by omega) hWb h5 (h3.to (fun j => by rw [f4 _ (by simp <;> omega)]) (fun j => by rw [f4 _ (by simp <;> omega)])) hs w1 w2 hf1 hf2⟩
        rw [f4 b' (by simp <;> omega), f3 b' j (by omega)]
        exact hf b' j q
      · rw [decide_eq_false hc] at hcv
        rw [hcv] at hX1 hWb
        simp only [Bool.false_eq_true, if_false] at hX1
        have hfin : ∀ l, X1 (((r : Nat) : Int) :: ((y : Nat) : Int) :: ((x : Nat) : Int) :: ((x + 1 : Nat) : Int) :: ((p : Nat) : Int) :: ((b + 1 : Nat) : Int) :: l) M2 := fun l => hX1 _ _ ⟨⟨l, rfl⟩, hf, hK.no hWb⟩
        by_cases h1 : 0 < zcnt (fun q => T p q && zfr g S p b q) n
        · ((with_reducible refine i_turn (i_cI_lt (i_L5 (i_F (i_A3 ?_))))); (with_reducible refine i_fld (by assumption) ?_); (rw [gm]); (with_reducible refine i_t (by omega) ?_); (with_reducible refine i_Blk (i_Seq (i_Set (i_And (i_And (i_IA (i_FR (i_A3 ?_)))))))); (with_reducible refine i_fldR (by assumption) ?_); (with_reducible refine i_L5 ?_); (with_reducible refine i_in (by assumption) (by omega) (by omega) ?_); (with_reducible refine i_Xor (i_Shl (i_I (i_L4 (i_I (i_Xor (i_IA (i_FR (i_FR (i_A2 ?_)))))))))); (with_reducible refine i_fldR (by assumption) ?_); (with_reducible refine i_fldR (by assumption) ?_); (with_reducible refine i_L4 ?_); (with_reducible refine i_in (by assumption) (by omega) (by omega) ?_); (with_reducible refine i_I (i_Seq (i_Set (i_Call (i_as1 (i_And (i_IA (i_FR ?_)))))))); (rw [gk]); (rw [gS]); (rw [yshl_mk (by omega)]); (rw [ynot_mk]); (rw [ynot_mk]); (rw [hfm]); simp only [w_set0, w_set1, w_setn0, w_setn1]; (with_reducible refine i_A1 ?_); (with_reducible refine i_fldR (by assumption) ?_); (with_reducible refine i_L4 ?_); (with_reducible refine i_in (by assumption) (by omega) (by omega) ?_); (rw [gT]); rw [w_setT]; (with_reducible refine i_L6 (i_as0 (i_recv1 ?_))); (rw [yand_mk]); (refine s_bitCount hO ⟨_, rfl, ?_⟩); (with_reducible refine i_If (i_cAnd (i_cZ_gt ?_))); (rw [zcnt_n16 hn]); simp only [w_set0, w_set1, w_setn0, w_setn1]; rw [w_setT]; (with_reducible refine i_L7 ?_); (with_reducible refine i_t (by omega) ?_); (with_reducible refine i_cZ_ne (i_Call (i_as1 (i_A0 (i_as1 (i_L7 (i_as1 (i_Call (i_as1 (i_L6 (i_as0 (i_recv1 ?_)))))))))))); (refine s_bitCount hO ⟨_, rfl, ?_⟩); (with_reducible refine i_as1 (i_Add (i_Add (i_I (i_F (i_A0 ?_)))))); (with_reducible refine i_fld (by assumption) ?_); (with_reducible refine i_F (i_A0 ?_)); (with_reducible refine i_fld (by assumption) ?_); (with_reducible refine i_as0 ?_); (with_reducible refine i_recv0 (by assumption) ?_); (rw [gB]); (rw [gB3]); (rw [zcnt_m16 hn]); rw [zx_cadd (by omega)]; rw [zx_add (by omega)])
          refine c_isSparing hO hr0 gE (by omega) (by omega) (by omega) (by omega) ⟨_, rfl, ?_⟩
          ((rw [decide_eq_false hc]); rw [zbI_f]; (with_reducible refine i_f (by omega) ?_); (with_reducible refine i_up (i_Inc5 ?_)); rw [zx_inc (by omega)]; simp only [w_set0, w_set1, w_setn0, w_setn1])
          exact hfin _
        · ((with_reducible refine i_turn (i_cI_lt (i_L5 (i_F (i_A3 ?_))))); (with_reducible refine i_fld (by assumption) ?_); (rw [gm]); (with_reducible refine i_t (by omega) ?_); (with_reducible refine i_Blk (i_Seq (i_Set (i_And (i_And (i_IA (i_FR (i_A3 ?_)))))))); (with_reducible refine i_fldR (by assumption) ?_); (with_reducible refine i_L5 ?_); (with_reducible refine i_in (by assumption) (by omega) (by omega) ?_); (with_reducible refine i_Xor (i_Shl (i_I (i_L4 (i_I (i_Xor (i_IA (i_FR (i_FR (i_A2 ?_)))))))))); (with_reducible refine i_fldR (by assumption) ?_); (with_reducible refine i_fldR (by assumption) ?_); (with_reducible refine i_L4 ?_); (with_reducible refine i_in (by assumption) (by omega) (by omega) ?_); (with_reducible refine i_I (i_Seq (i_Set (i_Call (i_as1 (i_And (i_IA (i_FR ?_)))))))); (rw [gk]); (rw [gS]); (rw [yshl_mk (by omega)]); (rw [ynot_mk]); (rw [ynot_mk]); (rw [hfm]); simp only [w_set0, w_set1, w_setn0, w_setn1]; (with_reducible refine i_A1 ?_); (with_reducible refine i_fldR (by assumption) ?_); (with_reducible refine i_L4 ?_); (with_reducible refine i_in (by assumption) (by omega) (by omega) ?_); (rw [gT]); rw [w_setT]; (with_reducible refine i_L6 (i_as0 (i_recv1 ?_))); (rw [yand_mk]); (refine s_bitCount hO ⟨_, rfl, ?_⟩); (with_reducible refine i_If (i_cAnd (i_cZ_gt ?_))); (rw [zcnt_n16 hn]); simp only [w_set0, w_set1, w_setn0, w_setn1]; rw [w_setT]; (with_reducible refine i_L7 ?_); (with_reducible refine i_f (by omega) ?_); (with_reducible refine i_up (i_Inc5 ?_)); rw [zx_inc (by omega)]; simp only [w_set0, w_set1, w_setn0, w_setn1])
          exact hfin _
    · rintro ρ M2 X1 ⟨⟨l, rfl⟩, hf, hK⟩
      have gm : M2 ((x + 1 : Nat) : Int) ((4 : Nat) : Int) = ((m : Nat) : Int) := (hf _ _ (by omega)).trans hM.2.1
      ((with_reducible refine i_turn (i_cI_lt (i_L5 (i_F (i_A3 ?_))))); (with_reducible refine i_fld (by assumption) ?_); (rw [gm]); (with_reducible refine i_f (by omega) ?_); (with_reducible refine i_up (i_Inc4 ?_)); rw [zx_inc (by omega)]; simp only [w_set0, w_set1, w_setn0, w_setn1])
      refine hX _ _ ⟨⟨_, rfl⟩, hf, hK.lim (fun c h1 h2 => ?_)⟩
      by_cases e : 512 ≤ c ∧ c < 768
      · have := (zrW_big h2).2.1 e.1 e.2
        omega
      · omega
  · rintro ρ M1 X ⟨⟨l, rfl⟩, hf, hK⟩
    have gn : M1 ((x + 1 : Nat) : Int) ((3 : Nat) : Int) = ((n : Nat) : Int) := (hf _ _ (by omega)).trans hM.1
    ((with_reducible refine i_turn (i_cI_lt (i_L4 (i_F (i_A3 ?_))))); (with_reducible refine i_fld (by assumption) ?_); (rw [gn]); (with_reducible refine i_f (by omega) ?_); (with_reducible refine i_RetV ?_))
    refine hk _ hf (hK.lim (fun c h1 h2 => ?_))
    by_cases e : 512 ≤ c ∧ c < 768
    · have := (zrW_big h2).2.1 e.1 e.2
      omega
    · omega
/-! rows -/
theorem zSt0_cnt (g : Nat → Nat) (n b : Nat) : zSt0 g n b = zcnt (fun q => decide (g q < b)) n := by
  unfold zSt0
  induction b with
  | zero => exact (zcnt_z (fun i _ => decide_eq_false (Nat.not_lt_zero _))).symm
  | succ b ih =>
    rw [zsum_su, ih]
    unfold zSz
    clear ih
    induction n with
    | zero => rfl
    | succ n ih =>
      rw [zcnt_su, zcnt_su, zcnt_su, ← ih]
      by_cases e : g n < b
      · rw [decide_eq_true e, decide_eq_false (show ¬ g n = b by omega), decide_eq_true (show g n < b + 1 by omega)]; simp only [if_true, Bool.false_eq_true, if_false]; omega
      · by_cases e2 : g n = b
        · rw [decide_eq_false e, decide_eq_true e2, decide_eq_true (show g n < b + 1 by omega)]; simp only [if_true, Bool.false_eq_true, if_false]; omega
        · rw [decide_eq_false e, decide_eq_false e2, decide_eq_false (show ¬ g n < b + 1 by omega)]; simp only [Bool.false_eq_true, if_false]; omega
theorem zSt0_le (g : Nat → Nat) (n b : Nat) : zSt0 g n b ≤ n := by rw [zSt0_cnt]; exact zcnt_le _ _
theorem zSt0_su (g : Nat → Nat) (n b : Nat) : zSt0 g n (b + 1) = zSt0 g n b + zSz g n b := rfl
theorem zSt0_mono (g : Nat → Nat) (n : Nat) {b c : Nat} (h : b ≤ c) : zSt0 g n b ≤ zSt0 g n c := by
  induction c with
  | zero => rw [show b = 0 by omega]; exact Nat.le_refl _
  | succ c ih =>
    rcases Nat.lt_or_ge b (c + 1) with q | q
    · have := ih (by omega)
      have := zSt0_su g n c
      omega
    · rw [show b = c + 1 by omega]; exact Nat.le_refl _
theorem zSt0_in (g : Nat → Nat) (n : Nat) {b c : Nat} (h : b < c) : zSt0 g n b + zSz g n b ≤ zSt0 g n c := by
  rw [← zSt0_su]; exact zSt0_mono g n h
theorem c_firstInRow {O : zOm} (hO : zWld O) {y n i : Nat} {g : Nat → Nat} {T : Nat → Nat → Bool} {M : zMem} {K : Option zV → zMem → Prop} (hy : zNet (zS O) y) (hN : zNR M y n T) (hn : n ≤ 16) (hT : zReg n T) (hon : ∃ p, p < n ∧ g p = i)
    (hk : ∀ p : Nat, (zmnF (fun p => decide (g p = i)) (zdeg n (fun p => decide (g p = i)) T) n).1 = ((p : Nat) : Int) → p < n → g p = i → K (some (0, ((p : Nat) : Int))) M) : zR O F_Rule_firstInRow [(2, ((y : Nat) : Int)), (0, zmk (fun q => decide (q < n) && decide (g q = i)))] M K := by
  obtain ⟨u1, u2, u3, u4⟩ := hy
  have hN1 := hN.1
  have hdeg : ∀ p, zcnt (fun q => T p q && (decide (q < n) && decide (g q = i))) 16 = zdeg n (fun p => decide (g p = i)) T p := fun p => by
    rw [zcnt_nb hn]
    unfold zdeg
    refine zcnt_ext fun q _ => ?_
    by_cases e : q = p
    · subst e; rw [hT.2.1]; simp
    · rw [decide_eq_true e, Bool.true_and, Bool.and_comm]
  have hd15 : ∀ p, p < n → zdeg n (fun p => decide (g p = i)) T p < 16 := fun p hp => by
    have h1 := zcnt_sub1 (s := fun q => decide (q ≠ p) && (decide (g q = i) && T p q)) (t := fun _ => true) (n := n) (i := p) (fun _ _ _ => rfl) hp (by simp) rfl
    have h2 := zcnt_le (fun _ => true) n
    show zcnt (fun q => decide (q ≠ p) && (decide (g q = i) && T p q)) n < 16
    omega
  apply r_Rule_firstInRow hO
  unfold B_Rule_firstInRow
  ((with_reducible refine i_Seq (i_Set (i_I (i_Seq (i_Set (i_I (i_Seq (i_Blk (i_Seq (i_Set (i_I ?_))))))))))); simp only [w_set0, w_set1, w_setn0, w_setn1])
  refine w_ForN n (fun k ρ M' => (∃ a b l, ρ = ((y : Nat) : Int) :: zmk (fun q => decide (q < n) && decide (g q = i)) :: ((a : Nat) : Int) :: ((b : Nat) : Int) :: ((k : Nat) : Int) :: l ∧ a < 16 ∧ b ≤ 16 ∧ ((zmnF (fun p => decide (g p = i)) (zdeg n (fun p => decide (g p = i)) T) k).1 < 0 → a = 0 ∧ b = 16) ∧ (¬ (zmnF (fun p => decide (g p = i)) (zdeg n (fun p => decide (g p = i)) T) k).1 < 0 → (zmnF (fun p => decide (g p = i)) (zdeg n (fun p => decide (g p = i)) T) k).1 = ((a : Nat) : Int) ∧ (zmnF (fun p => decide (g p = i)) (zdeg n (fun p => decide (g p = i)) T) k).2 = ((b : Nat) : Int))) ∧ M' = M) ⟨⟨0, 16, _, rfl, by omega, by omega, fun _ => ⟨rfl, rfl⟩, fun q => absurd (show (-1 : Int) < 0 by omega) q⟩, rfl⟩ ?_ ?_
  · rintro k ρ M1 X hk1 ⟨⟨a, b, l, rfl, ha, hb, h1, h2⟩, rfl⟩ hX
    have gr := hN.2 k (by omega)
    have hd := hd15 k hk1
    have e0 := zmnF_su (fun p => decide (g p = i)) (zdeg n (fun p => decide (g p = i)) T) k
    have hX2 : ∀ (l : zLoc) (a b : Nat), a < 16 → b ≤ 16 → ((zmnF (fun p => decide (g p = i)) (zdeg n (fun p => decide (g p = i)) T) (k + 1)).1 < 0 → a = 0 ∧ b = 16) → (¬ (zmnF (fun p => decide (g p = i)) (zdeg n (fun p => decide (g p = i)) T) (k + 1)).1 < 0 → (zmnF (fun p => decide (g p = i)) (zdeg n (fun p => decide (g p = i)) T) (k + 1)).1 = ((a : Nat) : Int) ∧ (zmnF (fun p => decide (g p = i)) (zdeg n (fun p => decide (g p = i)) T) (k + 1)).2 = ((b : Nat) : Int)) → X (((y : Nat) : Int) :: zmk (fun q => decide (q < n) && decide (g q = i)) :: ((a : Nat) : Int) :: ((b : Nat) : Int) :: ((k + 1 : Nat) : Int) :: l) M1 := fun l a b h1 h2 h3 h4 => hX _ _ ⟨⟨a, b, l, rfl, h1, h2, h3, h4⟩, rfl⟩
    generalize zmnF (fun p => decide (g p = i)) (zdeg n (fun p => decide (g p = i)) T) (k + 1) = z1 at e0 hX2
    generalize zmnF (fun p => decide (g p = i)) (zdeg n (fun p => decide (g p = i)) T) k = z0 at e0 h1 h2
    by_cases hB : g k = i
    · have hbit : yand (yshr (zmk (fun q => decide (q < n) && decide (g q = i))) ((k : Nat) : Int)) 1 = 1 := by rw [yand_1 _ (by omega), decide_eq_true hk1, decide_eq_true hB]; rfl
      have hde := hdeg k
      by_cases hl : zdeg n (fun p => decide (g p = i)) T k < b
      · ((with_reducible refine i_turn (i_cI_lt (i_L4 (i_F (i_A0 ?_))))); (with_reducible refine i_fld (by assumption) ?_); (rw [hN1]); (with_reducible refine i_t (by omega) ?_); (with_reducible refine i_If (i_cI_eq (i_And (i_Shr (i_L1 (i_L4 (i_I (i_I ?_)))))))); (rw [hbit]); simp only [w_set0, w_set1, w_setn0, w_setn1]; (with_reducible refine i_t trivial ?_); (with_reducible refine i_Blk (i_Seq (i_Set (i_Call (i_as1 (i_And (i_IA (i_FR (i_A0 ?_))))))))); (with_reducible refine i_fldR (by assumption) ?_); (with_reducible refine i_L4 ?_); (with_reducible refine i_in (by assumption) (by omega) (by omega) ?_); (with_reducible refine i_L1 (i_as0 (i_recv1 ?_))); (rw [gr]); (rw [yand_mk]); (refine s_bitCount hO ⟨_, rfl, ?_⟩); (with_reducible refine i_If (i_cI_lt ?_)); (rw [hde]); simp only [w_set0, w_set1, w_setn0, w_setn1]; rw [w_setT]; (with_reducible refine i_L5 (i_L3 ?_)); (with_reducible refine i_t (by omega) ?_); (with_reducible refine i_Seq (i_Set (i_L4 (i_Set ?_)))); simp only [w_set0, w_set1, w_setn0, w_setn1]; (with_reducible refine i_L5 (i_up ?_)); simp only [w_set0, w_set1, w_setn0, w_setn1]; (with_reducible refine i_Inc4 ?_); rw [zx_inc (by omega)]; simp only [w_set0, w_set1, w_setn0, w_setn1])
        have hcond : (decide (g k = i) = true) ∧ (z0.1 < 0 ∨ ((zdeg n (fun p => decide (g p = i)) T k : Nat) : Int) < z0.2) := ⟨decide_eq_true hB, by
          by_cases w : z0.1 < 0
          · exact Or.inl w
          · have := (h2 w).2; exact Or.inr (by omega)⟩
        rw [if_pos hcond] at e0
        subst e0
        exact hX2 _ _ _ (by omega) (by omega) (fun q => absurd q (by show ¬ ((k : Nat) : Int) < 0; omega)) (fun _ => ⟨rfl, rfl⟩)
      · ((with_reducible refine i_turn (i_cI_lt (i_L4 (i_F (i_A0 ?_))))); (with_reducible refine i_fld (by assumption) ?_); (rw [hN1]); (with_reducible refine i_t (by omega) ?_); (with_reducible refine i_If (i_cI_eq (i_And (i_Shr (i_L1 (i_L4 (i_I (i_I ?_)))))))); (rw [hbit]); simp only [w_set0, w_set1, w_setn0, w_setn1]; (with_reducible refine i_t trivial ?_); (with_reducible refine i_Blk (i_Seq (i_Set (i_Call (i_as1 (i_And (i_IA (i_FR (i_A0 ?_))))))))); (with_reducible refine i_fldR (by assumption) ?_); (with_reducible refine i_L4 ?_); (with_reducible refine i_in (by assumption) (by omega) (by omega) ?_); (with_reducible refine i_L1 (i_as0 (i_recv1 ?_))); (rw [gr]); (rw [yand_mk]); (refine s_bitCount hO ⟨_, rfl, ?_⟩); (with_reducible refine i_If (i_cI_lt ?_)); (rw [hde]); simp only [w_set0, w_set1, w_setn0, w_setn1]; rw [w_setT]; (with_reducible refine i_L5 (i_L3 ?_)); (with_reducible refine i_f (by omega) ?_); (with_reducible refine i_up (i_Inc4 ?_)); rw [zx_inc (by omega)]; simp only [w_set0, w_set1, w_setn0, w_setn1])
        have hcond : ¬ ((decide (g k = i) = true) ∧ (z0.1 < 0 ∨ ((zdeg n (fun p => decide (g p = i)) T k : Nat) : Int) < z0.2)) := fun q => by
          rcases q.2 with w | w
          · have := (h1 w).2; omega
          · by_cases w2 : z0.1 < 0
            · have := (h1 w2).2; omega
            · have := (h2 w2).2; omega
        rw [if_neg hcond] at e0
        subst e0
        exact hX2 _ _ _ ha hb h1 h2
    · have hbit : yand (yshr (zmk (fun q => decide (q < n) && decide (g q = i))) ((k : Nat) : Int)) 1 = 0 := by rw [yand_1 _ (by omega), decide_eq_false hB, Bool.and_false]; rfl
      ((with_reducible refine i_turn (i_cI_lt (i_L4 (i_F (i_A0 ?_))))); (with_reducible refine i_fld (by assumption) ?_); (rw [hN1]); (with_reducible refine i_t (by omega) ?_); (with_reducible refine i_If (i_cI_eq (i_And (i_Shr (i_L1 (i_L4 (i_I (i_I ?_)))))))); (rw [hbit]); (with_reducible refine i_f (by omega) ?_); (with_reducible refine i_up (i_Inc4 ?_)); rw [zx_inc (by omega)]; simp only [w_set0, w_set1, w_setn0, w_setn1])
      rw [if_neg (fun q => hB (of_decide_eq_true q.1))] at e0
      subst e0
      exact hX2 _ _ _ ha hb h1 h2
  · rintro ρ M1 X ⟨⟨a, b, l, rfl, ha, hb, h1, h2⟩, rfl⟩
    ((with_reducible refine i_turn (i_cI_lt (i_L4 (i_F (i_A0 ?_))))); (with_reducible refine i_fld (by assumption) ?_); (rw [hN1]); (with_reducible refine i_f (by omega) ?_); (with_reducible refine i_RetI (i_L2 ?_)))
    rcases zmnF_ok (fun p => decide (g p = i)) (zdeg n (fun p => decide (g p = i)) T) n with ⟨q1, q2, q3⟩ | ⟨p, q1, q2, q3, q4, q5⟩
    · obtain ⟨p, w1, w2⟩ := hon
      exact absurd (q3 p w1) (by simp [w2])
    · have h3 := (h2 (by rw [q1]; omega)).1
      have : a = p := by omega
      subst this
      exact hk a q1 q3 (of_decide_eq_true q4)
end
section
-- part c3b.row.lean.txt
/-! rows hold each post of their box once -/
theorem zly_ok {n : Nat} {B : Nat → Bool} {T : Nat → Nat → Bool} {first : Nat} (h1 : first < n) (h2 : B first = true) : ∀ k, k < zcnt B n → ((zlyS n B T first k).1 < n ∧ B (zlyS n B T first k).1 = true) ∧ (zlyS n B T first k).2 (zlyS n B T first k).1 = false ∧ (∀ q, (zlyS n B T first k).2 q = true → q < n ∧ B q = true) ∧ zcnt (zlyS n B T first k).2 n = k ∧ ∀ j, j < k → (zlyS n B T first k).2 (zlyS n B T first j).1 = true := by
  intro k
  induction k with
  | zero => intro _; exact ⟨⟨h1, h2⟩, rfl, (fun q h => by cases h), zcnt_z (fun _ _ => rfl), fun j hj => absurd hj (Nat.not_lt_zero _)⟩
  | succ k ih =>
    intro hk
    obtain ⟨⟨a1, a2⟩, a3, a4, a5, a6⟩ := ih (by omega)
    have e : zlyS n B T first (k + 1) = (znxt n B T (fun q => (zlyS n B T first k).2 q || decide (q = (zlyS n B T first k).1)) (zlyS n B T first k).1, fun q => (zlyS n B T first k).2 q || decide (q = (zlyS n B T first k).1)) := rfl
    rw [e]
    generalize (zlyS n B T first k).2 = L at a3 a4 a5 a6 ⊢
    have hc : zcnt (fun q => L q || decide (q = (zlyS n B T first k).1)) n = k + 1 := by rw [zcnt_ins a3, a5, if_pos a1]
    have hL : ∀ q, (L q || decide (q = (zlyS n B T first k).1)) = true → q < n ∧ B q = true := fun q hq => by
      rw [Bool.or_eq_true] at hq
      rcases hq with w | w
      · exact a4 q w
      · rw [of_decide_eq_true w]; exact ⟨a1, a2⟩
    have hex : zfind (fun q => B q && !(L q || decide (q = (zlyS n B T first k).1))) n < n := Classical.byContradiction fun z => by
      obtain ⟨w1, w2, w3⟩ := zfind_ok (fun q => B q && !(L q || decide (q = (zlyS n B T first k).1))) n
      have := zcnt_sub (s := B) (t := fun q => L q || decide (q = (zlyS n B T first k).1)) (n := n) (fun q hq hb => by
        have h3 := w3 q (by omega)
        have h4 : (B q && !(L q || decide (q = (zlyS n B T first k).1))) = false := h3
        rw [hb, Bool.true_and] at h4
        revert h4
        cases (L q || decide (q = (zlyS n B T first k).1)) <;> simp)
      omega
    have hin : ∀ v, v < n → (B v && !(L v || decide (v = (zlyS n B T first k).1))) = true → ((v < n ∧ B v = true) ∧ (L v || decide (v = (zlyS n B T first k).1)) = false) := fun v h3 h4 => by
      rw [Bool.and_eq_true] at h4
      exact ⟨⟨h3, h4.1⟩, by have := h4.2; revert this; cases (L v || decide (v = (zlyS n B T first k).1)) <;> simp⟩
    have hnx : ((znxt n B T (fun q => L q || decide (q = (zlyS n B T first k).1)) (zlyS n B T first k).1 < n ∧ B (znxt n B T (fun q => L q || decide (q = (zlyS n B T first k).1)) (zlyS n B T first k).1) = true) ∧ (L (znxt n B T (fun q => L q || decide (q = (zlyS n B T first k).1)) (zlyS n B T first k).1) || decide ((znxt n B T (fun q => L q || decide (q = (zlyS n B T first k).1)) (zlyS n B T first k).1) = (zlyS n B T first k).1)) = false) := by
      unfold znxt
      by_cases c1 : zfind (fun q => (B q && !(L q || decide (q = (zlyS n B T first k).1))) && T (zlyS n B T first k).1 q) n < n
      · rw [if_pos c1]
        have w := (zfind_ok (fun q => (B q && !(L q || decide (q = (zlyS n B T first k).1))) && T (zlyS n B T first k).1 q) n).2.1 c1
        rw [Bool.and_eq_true] at w
        exact hin _ c1 w.1
      · rw [if_neg c1, if_pos hex]
        exact hin _ hex ((zfind_ok (fun q => B q && !(L q || decide (q = (zlyS n B T first k).1))) n).2.1 hex)
    refine ⟨hnx.1, hnx.2, hL, hc, fun j hj => ?_⟩
    show (L (zlyS n B T first j).1 || decide ((zlyS n B T first j).1 = (zlyS n B T first k).1)) = true
    by_cases w : j = k
    · subst w; simp
    · rw [a6 j (by omega)]; rfl
theorem zrow_ok {n i : Nat} {g : Nat → Nat} {T : Nat → Nat → Bool} {k : Nat} (hk : k < zSz g n i) : zrow n g T i k < n ∧ g (zrow n g T i k) = i ∧ ∀ l, l < zSz g n i → zrow n g T i l = zrow n g T i k → l = k := by
  rcases zmnF_ok (fun p => decide (g p = i)) (zdeg n (fun p => decide (g p = i)) T) n with ⟨q1, q2, q3⟩ | ⟨p, q1, q2, q3, q4, q5⟩
  · have : zSz g n i = 0 := zcnt_z q3
    omega
  · have er : ∀ k, zrow n g T i k = (zlyS n (fun p => decide (g p = i)) T p k).1 := fun k => by unfold zrow; rw [q1]; rfl
    have hk2 := zly_ok (T := T) q3 q4 k hk
    rw [er]
    refine ⟨hk2.1.1, of_decide_eq_true hk2.1.2, fun l hl he => ?_⟩
    rw [er] at he
    have hl2 := zly_ok (T := T) q3 q4 l hl
    rcases Nat.lt_trichotomy l k with w | w | w
    · have h1 := hk2.2.2.2.2 l w
      rw [he, hk2.2.1] at h1; cases h1
    · exact w
    · have h1 := hl2.2.2.2.2 k w
      rw [← he, hl2.2.1] at h1; cases h1
end
