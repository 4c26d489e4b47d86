/-! ===== the class: partings ===== -/
/-- parting p has n posts, parted as f says -/
def zPC (M : zMem) (p n : Nat) (f : Nat → Nat) : Prop := zPR M p n (zcg n f) (zcmx n f)
theorem zPR.ext {M : zMem} {p n m : Nat} {f g : Nat → Nat} (h : zPR M p n f m) (e : ∀ q, q < n → f q = g q) : zPR M p n g m := by
  refine ⟨h.1, h.2.1, fun q hq => ?_, fun b hb => ?_⟩
  · rw [← e q hq]; exact h.2.2.1 q hq
  · rw [h.2.2.2 b hb]
    refine zmk_ext fun q _ => ?_
    by_cases w : q < n
    · rw [e q w]
    · rw [decide_eq_false w]; rfl
theorem zPC.fr {M M' : zMem} {p n : Nat} {f : Nat → Nat} (h : zPC M p n f) (hf : ∀ (b : Int) (j : Int), ((p : Nat) : Int) ≤ b → b ≤ ((p + 2 : Nat) : Int) → M' b j = M b j) : zPC M' p n f := zPR.fr h hf
theorem zPC.ext {M : zMem} {p n : Nat} (hn : 0 < n) {f g : Nat → Nat} (h : zPC M p n f) (e : ∀ a b, a < n → b < n → (f a = f b ↔ g a = g b)) : zPC M p n g := by
  unfold zPC
  rw [← (zcg_ext hn e).1, ← (zcg_ext hn e).2]
  exact h
theorem zPC.cg {M : zMem} {p n : Nat} (hn : 0 < n) {f : Nat → Nat} (h : zPC M p n f) : zPC M p n (zcg n f) := by
  unfold zPC
  rw [(zcg_id hn f).1, (zcg_id hn f).2]
  exact h
theorem c_numberA {O : zOm} (hO : zWld O) {p n : Nat} {f : Nat → Nat} {M : zMem} {K : Option zV → zMem → Prop} (hp : zPar (zS O) p) (hn : M ((p : Nat) : Int) ((3 : Nat) : Int) = ((n : Nat) : Int)) (hn2 : n ≤ 16) (hb : ∀ q : Nat, q < n → M ((p + 1 : Nat) : Int) ((q : Nat) : Int) = ((f q : Nat) : Int) ∧ f q ≤ 16)
    (hk : ∀ M', (∀ b j, ¬ (b = ((p : Nat) : Int) ∧ j = 4 ∨ ((p + 1 : Nat) : Int) ≤ b ∧ b ≤ ((p + 3 : Nat) : Int)) → M' b j = M b j) → zPC M' p n f → K none M') : zR O F_Parting_number [(2, ((p : Nat) : Int))] M K := by
  refine c_number hO hp hn hn2 hb (fun M' h1 h2 => hk M' h1 ?_)
  unfold zPC
  rw [zcm_in]
  exact h2.ext (fun q hq => (zcg_in hq).symm)
theorem c_setAlone {O : zOm} (hO : zWld O) {p n : Nat} {M : zMem} {K : Option zV → zMem → Prop} (hp : zPar (zS O) p) (hn2 : n ≤ 16)
    (hk : ∀ M', (∀ b j, ¬ (((p : Nat) : Int) ≤ b ∧ b ≤ ((p + 3 : Nat) : Int)) → M' b j = M b j) → zPC M' p n (fun q => q) → K none M') : zR O F_Parting_setAlone [(2, ((p : Nat) : Int)), (0, ((n : Nat) : Int))] M K := by
  have hp0 := hp
  obtain ⟨p0, p1, p2, p3, p4, p5, p6, p7, p8⟩ := hp
  apply r_Parting_setAlone hO
  unfold B_Parting_setAlone
  ((with_reducible refine i_Seq (i_Seq (i_sF (i_A0 (i_L1 ?_))))); (with_reducible refine i_fld (by assumption) ?_); (with_reducible refine i_Seq (i_Blk (i_Seq (i_Set (i_I ?_))))); simp only [w_set0, w_set1, w_setn0, w_setn1])
  refine w_ForN n (fun k ρ M' => ρ = [((p : Nat) : Int), ((n : Nat) : Int), ((k : Nat) : Int)] ∧ (∀ b j, ¬ (((p : Nat) : Int) ≤ b ∧ b ≤ ((p + 3 : Nat) : Int)) → M' b j = M b j) ∧ M' ((p : Nat) : Int) ((3 : Nat) : Int) = ((n : Nat) : Int) ∧ ∀ q : Nat, q < k → M' ((p + 1 : Nat) : Int) ((q : Nat) : Int) = ((q : Nat) : Int)) ⟨rfl, fun b j q => by rw [zg_n _ _ _ (by omega)], zg_s _ _ _ _ _, fun q h => absurd h (Nat.not_lt_zero _)⟩ ?_ ?_
  · rintro k ρ M1 X hk1 ⟨rfl, hf, h3, h⟩ hX
    ((with_reducible refine i_turn (i_cI_lt (i_L2 (i_L1 ?_)))); (with_reducible refine i_t (by omega) ?_); (with_reducible refine i_sIA (i_FR (i_A0 ?_))); (with_reducible refine i_fldR (by assumption) ?_); (with_reducible refine i_L2 (i_L2 ?_)); (with_reducible refine i_in (by assumption) (by omega) (by omega) ?_); (with_reducible refine i_up (i_Inc2 ?_)); rw [zx_inc (by omega)]; simp only [w_set0, w_set1, w_setn0, w_setn1])
    refine hX _ _ ⟨rfl, fun b j q => by rw [zg_n _ _ _ (by omega)]; exact hf b j q, by rw [zg_n _ _ _ (by omega)]; exact h3, fun q hq => ?_⟩
    by_cases e : q = k
    · subst e; rw [zg_s]
    · rw [zg_m _ _ _ _ _ (by omega)]; exact h q (by omega)
  · rintro ρ M1 X ⟨rfl, hf, h3, h⟩
    ((with_reducible refine i_turn (i_cI_lt (i_L2 (i_L1 ?_)))); (with_reducible refine i_f (by omega) ?_); (with_reducible refine i_sCall (i_as1 (i_A0 (i_as0 ?_)))); (with_reducible refine i_recv0 (by assumption) ?_))
    refine c_numberA hO hp0 h3 hn2 (f := fun q => q) (fun q hq => ⟨h q hq, by show q ≤ 16; omega⟩) (fun M2 f2 h2 => ⟨rfl, ?_⟩)
    (with_reducible refine i_RetV ?_)
    exact hk M2 (fun b j q => by rw [f2 b j (by omega), hf b j q]) h2
theorem c_setWhole {O : zOm} (hO : zWld O) {p n : Nat} {M : zMem} {K : Option zV → zMem → Prop} (hp : zPar (zS O) p) (hn2 : n ≤ 16)
    (hk : ∀ M', (∀ b j, ¬ (((p : Nat) : Int) ≤ b ∧ b ≤ ((p + 3 : Nat) : Int)) → M' b j = M b j) → zPC M' p n (fun _ => 0) → K none M') : zR O F_Parting_setWhole [(2, ((p : Nat) : Int)), (0, ((n : Nat) : Int))] M K := by
  have hp0 := hp
  obtain ⟨p0, p1, p2, p3, p4, p5, p6, p7, p8⟩ := hp
  apply r_Parting_setWhole hO
  unfold B_Parting_setWhole
  ((with_reducible refine i_Seq (i_Seq (i_sF (i_A0 (i_L1 ?_))))); (with_reducible refine i_fld (by assumption) ?_); (with_reducible refine i_Seq (i_sCall (i_as1 (i_FR (i_A0 ?_))))); (with_reducible refine i_fldR (by assumption) ?_); (with_reducible refine i_as1 (i_I (i_as0 (i_recv1 ?_)))))
  refine s_fill hO p6 (by decide) (fun M1 f1 h1 _ => ⟨rfl, ?_⟩)
  have g3 : M1 ((p : Nat) : Int) ((3 : Nat) : Int) = ((n : Nat) : Int) := by
    rw [f1 _ (by simp <;> omega)]
    exact zg_s _ _ _ _ _
  ((with_reducible refine i_sCall (i_as1 (i_A0 (i_as0 ?_)))); (with_reducible refine i_recv0 (by assumption) ?_))
  refine c_numberA hO hp0 g3 hn2 (f := fun _ => 0) (fun q hq => ⟨h1 q (by omega), Nat.zero_le _⟩) (fun M2 f2 h2 => ⟨rfl, ?_⟩)
  (with_reducible refine i_RetV ?_)
  exact hk M2 (fun b j q => by rw [f2 b j (by omega), f1 b (by simp <;> omega), zg_n _ _ _ (by omega)]) h2
theorem c_pbecome {O : zOm} (hO : zWld O) {p q n : Nat} {f : Nat → Nat} {M : zMem} {K : Option zV → zMem → Prop} (hp : zPar (zS O) p) (hq : zPar (zS O) q) (hpq : p + 3 < q ∨ q + 3 < p) (hn2 : n ≤ 16) (hM : zPC M q n f)
    (hk : ∀ M', (∀ b j, ¬ (((p : Nat) : Int) ≤ b ∧ b ≤ ((p + 2 : Nat) : Int)) → M' b j = M b j) → zPC M' p n f → K none M') : zR O F_Parting_become [(2, ((p : Nat) : Int)), (2, ((q : Nat) : Int))] M K := by
  obtain ⟨p0, p1, p2, p3, p4, p5, p6, p7, p8⟩ := hp
  obtain ⟨q0, q1, q2, q3, q4, q5, q6, q7, q8⟩ := hq
  obtain ⟨m1, m2, m3, m4⟩ := hM
  have hm := zcm_le n f
  apply r_Parting_become hO
  unfold B_Parting_become
  ((with_reducible refine i_Seq (i_Seq (i_sF (i_A0 (i_F (i_A1 ?_)))))); (with_reducible refine i_fld (by assumption) ?_); (with_reducible refine i_fld (by assumption) ?_); (with_reducible refine i_Seq (i_sF (i_A0 (i_F (i_A1 ?_))))); (with_reducible refine i_fld (by assumption) ?_); (with_reducible refine i_fld (by assumption) ?_); (with_reducible refine i_Seq (i_Copy (i_FR (i_A1 ?_)))); (with_reducible refine i_fldR (by assumption) ?_); (with_reducible refine i_I (i_FR (i_A0 ?_))); (with_reducible refine i_fldR (by assumption) ?_); (with_reducible refine i_I (i_I ?_)); (with_reducible refine i_copy (by assumption) (by assumption) (by omega) ?_); (with_reducible refine i_Copy (i_FR (i_A1 ?_))); (with_reducible refine i_fldR (by assumption) ?_); (with_reducible refine i_I (i_FR (i_A0 ?_))); (with_reducible refine i_fldR (by assumption) ?_); (with_reducible refine i_I (i_I ?_)); (with_reducible refine i_copy (by assumption) (by assumption) (by omega) ?_); (with_reducible refine i_RetV ?_); rw [zg_n _ _ _ (by omega)]; (rw [m1]); (rw [m2]))
  refine hk _ (fun b j z => ?_) ⟨?_, ?_, fun r hr => ?_, fun b hb => ?_⟩
  · rw [zput_ne _ _ (by omega), zput_ne _ _ (by omega), zg_n _ _ _ (by omega), zg_n _ _ _ (by omega)]
  · rw [zput_ne _ _ (by omega), zput_ne _ _ (by omega)]
    (rw [zg_m _ _ _ _ _ (by omega)]; rw [zg_s])
  · rw [zput_ne _ _ (by omega), zput_ne _ _ (by omega)]
    (rw [zg_s])
  · rw [zput_ne _ _ (by omega), zput_self]
    unfold zcpy
    rw [if_pos (by omega), zg_n _ _ _ (by omega), zg_n _ _ _ (by omega), show (0 : Int) + (((r : Nat) : Int) - 0) = ((r : Nat) : Int) by omega]
    exact m3 r hr
  · rw [zput_self]
    unfold zcpy
    rw [if_pos (by omega), zput_ne _ _ (by omega), zg_n _ _ _ (by omega), zg_n _ _ _ (by omega), show (0 : Int) + (((b : Nat) : Int) - 0) = ((b : Nat) : Int) by omega]
    exact m4 b hb
theorem c_pjoin {O : zOm} (hO : zWld O) {p n a b : Nat} {f : Nat → Nat} {M : zMem} {K : Option zV → zMem → Prop} (hp : zPar (zS O) p) (hn1 : 0 < n) (hn2 : n ≤ 16) (hM : zPC M p n f) (ha : a ≤ 16) (hb : b ≤ 16)
    (hk : ∀ M', (∀ b j, ¬ (((p : Nat) : Int) ≤ b ∧ b ≤ ((p + 3 : Nat) : Int)) → M' b j = M b j) → zPC M' p n (zjc (zcg n f) a b) → K none M') : zR O F_Parting_join [(2, ((p : Nat) : Int)), (0, ((a : Nat) : Int)), (0, ((b : Nat) : Int))] M K := by
  have hp0 := hp
  obtain ⟨p0, p1, p2, p3, p4, p5, p6, p7, p8⟩ := hp
  obtain ⟨m1, m2, m3, m4⟩ := hM
  have hg16 : ∀ q, q < n → zcg n f q < 16 := fun q hq => by
    have h1 := zcg_lt (f := f) hq
    have h2 := zcm_le n f
    omega
  apply r_Parting_join hO
  unfold B_Parting_join
  ((with_reducible refine i_Seq (i_Seq (i_Blk (i_Seq (i_Set (i_I ?_)))))); simp only [w_set0, w_set1, w_setn0, w_setn1])
  refine w_ForN n (fun r ρ M' => ρ = [((p : Nat) : Int), ((a : Nat) : Int), ((b : Nat) : Int), ((r : Nat) : Int)] ∧ (∀ b j, ¬ b = ((p + 1 : Nat) : Int) → M' b j = M b j) ∧ ∀ x : Nat, x < n → M' ((p + 1 : Nat) : Int) ((x : Nat) : Int) = ((if x < r then zjc (zcg n f) a b x else zcg n f x : Nat) : Int)) ⟨rfl, fun _ _ _ => rfl, fun x hx => by rw [if_neg (Nat.not_lt_zero _)]; exact m3 x hx⟩ ?_ ?_
  · rintro r ρ M8 X8 hr ⟨rfl, hf8, h8⟩ hX8
    have gn8 : M8 ((p : Nat) : Int) ((3 : Nat) : Int) = ((n : Nat) : Int) := (hf8 _ _ (by omega)).trans m1
    have gr := h8 r hr
    rw [if_neg (Nat.lt_irrefl _)] at gr
    have hgr := hg16 r hr
    by_cases e : zcg n f r = b
    · ((with_reducible refine i_turn (i_cI_lt (i_L3 (i_F (i_A0 ?_))))); (with_reducible refine i_fld (by assumption) ?_); (rw [gn8]); (with_reducible refine i_t (by omega) ?_); (with_reducible refine i_If (i_cI_eq (i_IA (i_FR (i_A0 ?_))))); (with_reducible refine i_fldR (by assumption) ?_); (with_reducible refine i_L3 ?_); (with_reducible refine i_in (by assumption) (by omega) (by omega) ?_); (with_reducible refine i_L2 ?_); (rw [gr]); (with_reducible refine i_t (by omega) ?_); (with_reducible refine i_sIA (i_FR (i_A0 ?_))); (with_reducible refine i_fldR (by assumption) ?_); (with_reducible refine i_L3 (i_L1 ?_)); (with_reducible refine i_in (by assumption) (by omega) (by omega) ?_); (with_reducible refine i_up (i_Inc3 ?_)); rw [zx_inc (by omega)]; simp only [w_set0, w_set1, w_setn0, w_setn1])
      refine hX8 _ _ ⟨rfl, fun b j q => by rw [zg_n _ _ _ q]; exact hf8 b j q, fun x hx => ?_⟩
      by_cases w : x = r
      · subst w; rw [zg_s, if_pos (by omega)]; unfold zjc; rw [if_pos e]
      · rw [zg_m _ _ _ _ _ (by omega), h8 x hx]
        by_cases w2 : x < r
        · rw [if_pos w2, if_pos (by omega)]
        · rw [if_neg w2, if_neg (by omega)]
    · ((with_reducible refine i_turn (i_cI_lt (i_L3 (i_F (i_A0 ?_))))); (with_reducible refine i_fld (by assumption) ?_); (rw [gn8]); (with_reducible refine i_t (by omega) ?_); (with_reducible refine i_If (i_cI_eq (i_IA (i_FR (i_A0 ?_))))); (with_reducible refine i_fldR (by assumption) ?_); (with_reducible refine i_L3 ?_); (with_reducible refine i_in (by assumption) (by omega) (by omega) ?_); (with_reducible refine i_L2 ?_); (rw [gr]); (with_reducible refine i_f (by omega) ?_); (with_reducible refine i_up (i_Inc3 ?_)); rw [zx_inc (by omega)]; simp only [w_set0, w_set1, w_setn0, w_setn1])
      refine hX8 _ _ ⟨rfl, hf8, fun x hx => ?_⟩
      rw [h8 x hx]
      by_cases w : x = r
      · subst w; rw [if_neg (Nat.lt_irrefl _), if_pos (by omega)]; unfold zjc; rw [if_neg e]
      · by_cases w2 : x < r
        · rw [if_pos w2, if_pos (by omega)]
        · rw [if_neg w2, if_neg (by omega)]
  · rintro ρ M8 X8 ⟨rfl, hf8, h8⟩
    have gn8 : M8 ((p : Nat) : Int) ((3 : Nat) : Int) = ((n : Nat) : Int) := (hf8 _ _ (by omega)).trans m1
    ((with_reducible refine i_turn (i_cI_lt (i_L3 (i_F (i_A0 ?_))))); (with_reducible refine i_fld (by assumption) ?_); (rw [gn8]); (with_reducible refine i_f (by omega) ?_); (with_reducible refine i_sCall (i_as1 (i_A0 (i_as0 ?_)))); (with_reducible refine i_recv0 (by assumption) ?_))
    refine c_numberA hO hp0 gn8 hn2 (f := zjc (zcg n f) a b) (fun q hq => ⟨by rw [h8 q hq, if_pos hq], zjc_16 ha hg16 q hq⟩) (fun M2 f2 h2 => ⟨rfl, ?_⟩)
    (with_reducible refine i_RetV ?_)
    exact hk M2 (fun b j q => by rw [f2 b j (by omega), hf8 b j (by omega)]) h2
theorem c_put {O : zOm} (hO : zWld O) {p n r b : Nat} {f : Nat → Nat} {M : zMem} {K : Option zV → zMem → Prop} (hp : zPar (zS O) p) (hn2 : n ≤ 16) (hM : zPC M p n f) (hr : r < n) (hb : b ≤ 16)
    (hk : ∀ M', (∀ b j, ¬ (((p : Nat) : Int) ≤ b ∧ b ≤ ((p + 3 : Nat) : Int)) → M' b j = M b j) → zPC M' p n (fun q => if q = r then b else zcg n f q) → K none M') : zR O F_Parting_put [(2, ((p : Nat) : Int)), (0, ((r : Nat) : Int)), (0, ((b : Nat) : Int))] M K := by
  have hp0 := hp
  obtain ⟨p0, p1, p2, p3, p4, p5, p6, p7, p8⟩ := hp
  obtain ⟨m1, m2, m3, m4⟩ := hM
  apply r_Parting_put hO
  unfold B_Parting_put
  ((with_reducible refine i_Seq (i_Seq (i_sIA (i_FR (i_A0 ?_))))); (with_reducible refine i_fldR (by assumption) ?_); (with_reducible refine i_L1 (i_L2 ?_)); (with_reducible refine i_in (by assumption) (by omega) (by omega) ?_); (with_reducible refine i_sCall (i_as1 (i_A0 (i_as0 ?_)))); (with_reducible refine i_recv0 (by assumption) ?_))
  refine c_numberA hO hp0 (n := n) (f := fun q => if q = r then b else zcg n f q) ?_ hn2 (fun q hq => ⟨?_, ?_⟩) (fun M2 f2 h2 => ⟨rfl, ?_⟩)
  · (rw [zg_n _ _ _ (by omega)])
    exact m1
  · by_cases e : q = r
    · subst e
      rw [zg_s]
      show ((b : Nat) : Int) = ((if q = q then b else zcg n f q : Nat) : Int)
      rw [if_pos rfl]
    · (rw [zg_m _ _ _ _ _ (by omega)])
      show _ = ((if q = r then b else zcg n f q : Nat) : Int)
      rw [if_neg e]; exact m3 q hq
  · show (if q = r then b else zcg n f q) ≤ 16
    have h1 := zcg_lt (f := f) hq
    have h2 := zcm_le n f
    split <;> omega
  · (with_reducible refine i_RetV ?_)
    exact hk M2 (fun b j q => by rw [f2 b j (by omega), zg_n _ _ _ (by omega)]) h2
theorem c_lift {O : zOm} (hO : zWld O) {p n r : Nat} {f : Nat → Nat} {M : zMem} {K : Option zV → zMem → Prop} (hp : zPar (zS O) p) (hn2 : n ≤ 16) (hM : zPC M p n f) (hr : r < n)
    (hk : ∀ M', (∀ b j, ¬ (((p : Nat) : Int) ≤ b ∧ b ≤ ((p + 3 : Nat) : Int)) → M' b j = M b j) → zPC M' p n (fun q => if q = r then 16 else zcg n f q) → K none M') : zR O F_Parting_lift [(2, ((p : Nat) : Int)), (0, ((r : Nat) : Int))] M K := by
  have hp0 := hp
  obtain ⟨p0, p1, p2, p3, p4, p5, p6, p7, p8⟩ := hp
  obtain ⟨m1, m2, m3, m4⟩ := hM
  apply r_Parting_lift hO
  unfold B_Parting_lift
  ((with_reducible refine i_Seq (i_Seq (i_sIA (i_FR (i_A0 ?_))))); (with_reducible refine i_fldR (by assumption) ?_); (with_reducible refine i_L1 (i_I ?_)); (with_reducible refine i_in (by assumption) (by omega) (by omega) ?_); (with_reducible refine i_sCall (i_as1 (i_A0 (i_as0 ?_)))); (with_reducible refine i_recv0 (by assumption) ?_))
  refine c_numberA hO hp0 (n := n) (f := fun q => if q = r then 16 else zcg n f q) ?_ hn2 (fun q hq => ⟨?_, ?_⟩) (fun M2 f2 h2 => ⟨rfl, ?_⟩)
  · (rw [zg_n _ _ _ (by omega)])
    exact m1
  · by_cases e : q = r
    · subst e
      rw [zg_s]
      show (16 : Int) = ((if q = q then 16 else zcg n f q : Nat) : Int)
      rw [if_pos rfl]; rfl
    · (rw [zg_m _ _ _ _ _ (by omega)])
      show _ = ((if q = r then 16 else zcg n f q : Nat) : Int)
      rw [if_neg e]; exact m3 q hq
  · show (if q = r then 16 else zcg n f q) ≤ 16
    have h1 := zcg_lt (f := f) hq
    have h2 := zcm_le n f
    split <;> omega
  · (with_reducible refine i_RetV ?_)
    exact hk M2 (fun b j q => by rw [f2 b j (by omega), zg_n _ _ _ (by omega)]) h2
theorem c_isAlone {O : zOm} (hO : zWld O) {p n r : Nat} {f : Nat → Nat} {M : zMem} {K : Option zV → zMem → Prop} (hp : zPar (zS O) p) (hn2 : n ≤ 16) (hM : zPC M p n f) (hr : r < n)
    (hk : K (some (0, zbI (decide (zSz (zcg n f) n (zcg n f r) = 1)))) M) : zR O F_Parting_isAlone [(2, ((p : Nat) : Int)), (0, ((r : Nat) : Int))] M K := by
  obtain ⟨p0, p1, p2, p3, p4, p5, p6, p7, p8⟩ := hp
  obtain ⟨m1, m2, m3, m4⟩ := hM
  have h1 := zcg_lt (f := f) hr
  have h2 := zcm_le n f
  have e1 := m3 r hr
  have e2 := m4 _ h1
  have hiff : (zmk (fun q => decide (q < n) && decide (zcg n f q = zcg n f r)) = zmk (fun i => decide (i = r))) ↔ zSz (zcg n f) n (zcg n f r) = 1 := by
    constructor
    · intro h
      have h3 := zmk_inj h
      have h4 : zSz (zcg n f) n (zcg n f r) = zcnt (fun i => decide (i = r)) n := zcnt_ext fun i hi => by
        have := h3 i (by omega)
        rw [decide_eq_true hi, Bool.true_and] at this
        exact this
      have h5 := zcnt_ins (W := fun _ => false) (c := r) rfl n
      rw [h4]
      rw [zcnt_z (fun _ _ => rfl), if_pos hr] at h5
      have h6 : zcnt (fun i => decide (i = r)) n = 0 + 1 := by
        rw [← h5]
        exact zcnt_ext fun i _ => by simp
      omega
    · intro h
      refine zmk_ext fun i _ => ?_
      by_cases w : i = r
      · subst w; rw [decide_eq_true hr]; simp
      · rw [decide_eq_false w]
        by_cases v : i < n
        · rw [decide_eq_true v, Bool.true_and]
          refine decide_eq_false (fun z => ?_)
          unfold zSz at h
          rcases Nat.lt_or_ge i r with u | u
          · have := zcnt_two (s := fun q => decide (zcg n f q = zcg n f r)) u hr (decide_eq_true z) (decide_eq_true rfl)
            omega
          · have := zcnt_two (s := fun q => decide (zcg n f q = zcg n f r)) (show r < i by omega) v (decide_eq_true rfl) (decide_eq_true z)
            omega
        · rw [decide_eq_false v]; rfl
  apply r_Parting_isAlone hO
  unfold B_Parting_isAlone
  by_cases c : zSz (zcg n f) n (zcg n f r) = 1
  · rw [decide_eq_true c] at hk
    have c2 := hiff.mpr c
    ((with_reducible refine i_RetZ (i_eIf (i_cI_eq (i_IA (i_FR (i_A0 ?_)))))); (with_reducible refine i_fldR (by assumption) ?_); (with_reducible refine i_IA (i_FR (i_A0 ?_))); (with_reducible refine i_fldR (by assumption) ?_); (with_reducible refine i_L1 ?_); (with_reducible refine i_in (by assumption) (by omega) (by omega) ?_); (with_reducible refine i_in (by assumption) (by omega) (by omega) ?_); (with_reducible refine i_Shl (i_I (i_L1 ?_))); (rw [e1]); (rw [e2]); (rw [yshl_mk (by omega)]); (refine i_t c2 ?_); (with_reducible refine i_I ?_); (with_reducible refine i_z (Or.inr rfl) ?_))
    exact hk
  · rw [decide_eq_false c] at hk
    have c2 : ¬ _ = _ := fun z => c (hiff.mp z)
    ((with_reducible refine i_RetZ (i_eIf (i_cI_eq (i_IA (i_FR (i_A0 ?_)))))); (with_reducible refine i_fldR (by assumption) ?_); (with_reducible refine i_IA (i_FR (i_A0 ?_))); (with_reducible refine i_fldR (by assumption) ?_); (with_reducible refine i_L1 ?_); (with_reducible refine i_in (by assumption) (by omega) (by omega) ?_); (with_reducible refine i_in (by assumption) (by omega) (by omega) ?_); (with_reducible refine i_Shl (i_I (i_L1 ?_))); (rw [e1]); (rw [e2]); (rw [yshl_mk (by omega)]); (refine i_f c2 ?_); (with_reducible refine i_I ?_); (with_reducible refine i_z (Or.inl rfl) ?_))
    exact hk
