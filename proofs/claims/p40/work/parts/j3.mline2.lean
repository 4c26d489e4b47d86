/-! ===== boxes in a line: the reference's next order, its line ===== -/
theorem zrev2_lo {m i j k : Nat} {o : Nat → Nat} (h : k ≤ i) : zrev2 m o i j k = zsx2 o i j k := if_pos h
theorem zrev2_hi {m i j k : Nat} {o : Nat → Nat} (h : i < k) : zrev2 m o i j k = zsx2 o i j (m + i - k) := if_neg (by omega)
theorem m_reorders {O : zOm} (hO : zWld O) (hS : zS O = zmS zC0) {m : Nat} {o : Nat → Nat} {M : zMem} {K : Option zV → zMem → Prop} (hm0 : 0 < m) (hm8 : m ≤ 8) (ho : ∀ i : Nat, i < m → M ((295 : Nat) : Int) ((i : Nat) : Int) = ((o i : Nat) : Int)) (hp : zPm m o)
    (h0 : (∀ k, k + 1 < m → o (k + 1) < o k) → K (some (0, 0)) M) (h1 : ∀ i j, znx m o i j → ∀ M', (∀ b j, ¬ b = ((295 : Nat) : Int) → M' b j = M b j) → (∀ k : Nat, k < m → M' ((295 : Nat) : Int) ((k : Nat) : Int) = ((zrev2 m o i j k : Nat) : Int)) → K (some (0, 1)) M') : zR O F_Model_reorders [(2, 250), (0, ((m : Nat) : Int))] M K := by
  have ho8 : ∀ i, i < m → o i < 8 := fun i hi => by have := hp.1 i hi; omega
  apply r_Model_reorders hO
  unfold B_Model_reorders
  have f60 := zMF (k := 60) hS rfl; have a295 := zMA (a := 295) (ty := .int) (n := 8) hS rfl; have zo := zMO hS
  ((with_reducible refine i_Seq (i_Set (i_Sub (i_L1 (i_I (i_Seq ?_)))))); (rw [zx_s (x := ((m : Nat) : Int) - 2) (by omega) (by omega)]); simp only [w_set0, w_set1, w_setn0, w_setn1])
  rw [show (((m : Nat) : Int) - 2 : Int) = ((m - 1 : Nat) : Int) - 1 by omega]
  refine w_While (α := Nat) (fun x => ([250, ((m : Nat) : Int), ((x : Nat) : Int) - 1], M)) (fun x => x < m ∧ ∀ k, x ≤ k → k + 1 < m → o (k + 1) < o k) (fun x => x) (fun x X hx hy => ?_) (m - 1) ⟨by omega, fun k k1 k2 => absurd k2 (by omega)⟩
  obtain ⟨hx1, hx2⟩ := hx
  by_cases hx0 : x = 0
  · subst hx0
    ((with_reducible refine i_turn (i_cAnd (i_cZ_ge (i_L2 ?_)))); simp only [w_set0, w_set1, w_setn0, w_setn1]; (with_reducible refine i_f (by omega) ?_); (with_reducible refine i_Seq (i_If (i_cZ_lt (i_L2 ?_)))); (with_reducible refine i_t (by omega) ?_); (with_reducible refine i_RetZ (i_I ?_)); (with_reducible refine i_z (Or.inl rfl) ?_))
    exact h0 (fun k hk => hx2 k (Nat.zero_le _) hk)
  obtain ⟨i, rfl⟩ : ∃ i, x = i + 1 := ⟨x - 1, by omega⟩
  have v1 := ho i (by omega)
  have v2 := ho (i + 1) hx1
  have b1 := ho8 i (by omega)
  have b2 := ho8 (i + 1) hx1
  show zTurn _ _ _ _ _ _ _ _ [250, ((m : Nat) : Int), ((i + 1 : Nat) : Int) - 1] M
  rw [show (((i + 1 : Nat) : Int) - 1 : Int) = ((i : Nat) : Int) by omega]
  by_cases hd : o (i + 1) < o i
  · have hy2 := hy i ⟨by omega, fun k k1 k2 => by
      by_cases e : k = i
      · subst e; exact hd
      · exact hx2 k (by omega) k2⟩ (by show i < i + 1; omega)
    ((with_reducible refine i_turn (i_cAnd (i_cZ_ge (i_L2 ?_)))); (with_reducible refine i_t (by omega) ?_); (with_reducible refine i_cI_gt (i_IA (i_FR (i_A0 ?_)))); (with_reducible refine i_fldR (by assumption) ?_); (with_reducible refine i_L2 ?_); (with_reducible refine i_in (by assumption) (by omega) (by omega) ?_); (with_reducible refine i_IA (i_FR (i_A0 ?_))); (with_reducible refine i_fldR (by assumption) ?_); (with_reducible refine i_Add (i_L2 (i_I ?_))); (rw [v1]); rw [zx_inc (by omega)]; (with_reducible refine i_in (by assumption) (by omega) (by omega) ?_); (rw [v2]); (with_reducible refine i_t (by omega) ?_); (with_reducible refine i_Inc2 ?_); (rw [zx_s (x := ((i : Nat) : Int) + -1) (by omega) (by omega)]); simp only [w_set0, w_set1, w_setn0, w_setn1])
    exact hy2
  have hup : o i < o (i + 1) := by
    rcases Nat.lt_trichotomy (o i) (o (i + 1)) with q | q | q
    · exact q
    · have := hp.2 i (i + 1) (by omega) hx1 q; omega
    · exact absurd q hd
  clear hy
  ((with_reducible refine i_turn (i_cAnd (i_cZ_ge (i_L2 ?_)))); (with_reducible refine i_t (by omega) ?_); (with_reducible refine i_cI_gt (i_IA (i_FR (i_A0 ?_)))); (with_reducible refine i_fldR (by assumption) ?_); (with_reducible refine i_L2 ?_); (with_reducible refine i_in (by assumption) (by omega) (by omega) ?_); (with_reducible refine i_IA (i_FR (i_A0 ?_))); (with_reducible refine i_fldR (by assumption) ?_); (with_reducible refine i_Add (i_L2 (i_I ?_))); (rw [v1]); rw [zx_inc (by omega)]; (with_reducible refine i_in (by assumption) (by omega) (by omega) ?_); (rw [v2]); (with_reducible refine i_f (by omega) ?_); (with_reducible refine i_Seq (i_If (i_cZ_lt (i_L2 ?_)))); (with_reducible refine i_f (by omega) ?_); (with_reducible refine i_Seq (i_Set (i_Sub (i_L1 (i_I (i_Seq ?_)))))); rw [zx_subc (by omega) (by omega)]; simp only [w_set0, w_set1, w_setn0, w_setn1])
  refine w_While (α := Nat) (fun j => ([250, ((m : Nat) : Int), ((i : Nat) : Int), ((j : Nat) : Int)], M)) (fun j => i < j ∧ j < m ∧ ∀ k, j < k → k < m → o k < o i) (fun j => j) (fun j X hj hy => ?_) (m - 1) ⟨by omega, by omega, fun k k1 k2 => absurd k2 (by omega)⟩
  obtain ⟨hj1, hj2, hj3⟩ := hj
  have v3 := ho j hj2
  have b3 := ho8 j hj2
  show zTurn _ _ _ _ _ _ _ _ [250, ((m : Nat) : Int), ((i : Nat) : Int), ((j : Nat) : Int)] M
  by_cases hlt : o j < o i
  · have hne : j ≠ i + 1 := fun e => by rw [e] at hlt; omega
    have hy2 := hy (j - 1) ⟨by omega, by omega, fun k k1 k2 => by
      by_cases e : k = j
      · subst e; exact hlt
      · exact hj3 k (by omega) k2⟩ (by show j - 1 < j; omega)
    have e1 : (((j : Nat) : Int) + -1 : Int) = ((j - 1 : Nat) : Int) := by omega
    ((with_reducible refine i_turn (i_cI_lt (i_IA (i_FR (i_A0 ?_))))); (with_reducible refine i_fldR (by assumption) ?_); (with_reducible refine i_L3 ?_); (with_reducible refine i_in (by assumption) (by omega) (by omega) ?_); (with_reducible refine i_IA (i_FR (i_A0 ?_))); (with_reducible refine i_fldR (by assumption) ?_); (with_reducible refine i_L2 ?_); (with_reducible refine i_in (by assumption) (by omega) (by omega) ?_); (rw [v1]); (rw [v3]); (with_reducible refine i_t (by omega) ?_); (with_reducible refine i_Inc3 ?_); (rw [zx_s (x := ((j : Nat) : Int) + -1) (by omega) (by omega)]); (rw [e1]); simp only [w_set0, w_set1, w_setn0, w_setn1])
    exact hy2
  have hji : o i < o j := by
    rcases Nat.lt_trichotomy (o i) (o j) with q | q | q
    · exact q
    · have := hp.2 i j (by omega) hj2 q; omega
    · exact absurd q hlt
  have hz : znx m o i j := ⟨hj1, hj2, hji, fun k k1 k2 => hx2 k (by omega) k2, hj3⟩
  clear hy
  ((with_reducible refine i_turn (i_cI_lt (i_IA (i_FR (i_A0 ?_))))); (with_reducible refine i_fldR (by assumption) ?_); (with_reducible refine i_L3 ?_); (with_reducible refine i_in (by assumption) (by omega) (by omega) ?_); (with_reducible refine i_IA (i_FR (i_A0 ?_))); (with_reducible refine i_fldR (by assumption) ?_); (with_reducible refine i_L2 ?_); (with_reducible refine i_in (by assumption) (by omega) (by omega) ?_); (rw [v1]); (rw [v3]); (with_reducible refine i_f (by omega) ?_); (with_reducible refine i_Seq (i_Set (i_IA (i_FR (i_A0 ?_))))); (with_reducible refine i_fldR (by assumption) ?_); (with_reducible refine i_L2 ?_); (with_reducible refine i_in (by assumption) (by omega) (by omega) ?_); (with_reducible refine i_Seq (i_sIA (i_FR ?_))); (rw [v1]); simp only [w_set0, w_set1, w_setn0, w_setn1]; (with_reducible refine i_A0 ?_); (with_reducible refine i_fldR (by assumption) ?_); (with_reducible refine i_L2 (i_IA (i_FR (i_A0 ?_)))); (with_reducible refine i_fldR (by assumption) ?_); (with_reducible refine i_L3 ?_); (with_reducible refine i_in (by assumption) (by omega) (by omega) ?_); (with_reducible refine i_in (by assumption) (by omega) (by omega) ?_); (with_reducible refine i_Seq (i_sIA (i_FR (i_A0 ?_)))); (with_reducible refine i_fldR (by assumption) ?_); (with_reducible refine i_L3 (i_L4 ?_)); (with_reducible refine i_in (by assumption) (by omega) (by omega) ?_); (with_reducible refine i_Seq (i_Set (i_Add (i_L2 (i_I (i_Seq (i_Set (i_Sub ?_)))))))); (rw [v3]); rw [zx_inc (by omega)]; simp only [w_set0, w_set1, w_setn0, w_setn1]; (with_reducible refine i_L1 (i_I (i_Seq ?_))); rw [zx_subc (by omega) (by omega)]; simp only [w_set0, w_set1, w_setn0, w_setn1])
  have fA : ∀ b k, ¬ b = ((295 : Nat) : Int) → zput (zput M ((295 : Nat) : Int) (zup (M ((295 : Nat) : Int)) ((i : Nat) : Int) ((o j : Nat) : Int))) ((295 : Nat) : Int) (zup (zput M ((295 : Nat) : Int) (zup (M ((295 : Nat) : Int)) ((i : Nat) : Int) ((o j : Nat) : Int)) ((295 : Nat) : Int)) ((j : Nat) : Int) ((o i : Nat) : Int)) b k = M b k := fun b k q => by rw [zg_n _ _ _ (by omega), zg_n _ _ _ (by omega)]
  have gA : ∀ k : Nat, k < m → zput (zput M ((295 : Nat) : Int) (zup (M ((295 : Nat) : Int)) ((i : Nat) : Int) ((o j : Nat) : Int))) ((295 : Nat) : Int) (zup (zput M ((295 : Nat) : Int) (zup (M ((295 : Nat) : Int)) ((i : Nat) : Int) ((o j : Nat) : Int)) ((295 : Nat) : Int)) ((j : Nat) : Int) ((o i : Nat) : Int)) ((295 : Nat) : Int) ((k : Nat) : Int) = ((zsx2 o i j k : Nat) : Int) := fun k hk => by
    unfold zsx2
    by_cases e1 : k = j
    · subst e1
      rw [zg_s, if_neg (by omega), if_pos rfl]
    · rw [zg_m _ _ _ _ _ (by omega)]
      by_cases e2 : k = i
      · subst e2
        rw [zg_s, if_pos rfl]
      · rw [zg_m _ _ _ _ _ (by omega), if_neg e2, if_neg e1]
        exact ho k hk
  generalize zput (zput M ((295 : Nat) : Int) (zup (M ((295 : Nat) : Int)) ((i : Nat) : Int) ((o j : Nat) : Int))) ((295 : Nat) : Int) (zup (zput M ((295 : Nat) : Int) (zup (M ((295 : Nat) : Int)) ((i : Nat) : Int) ((o j : Nat) : Int)) ((295 : Nat) : Int)) ((j : Nat) : Int) ((o i : Nat) : Int)) = M1 at fA gA ⊢
  have hq := zsx2_in hp (show i < m by omega) hj2
  have hq8 : ∀ k, k < m → zsx2 o i j k < 8 := fun k hk => by have := hq.1 k hk; omega
  generalize hqq : zsx2 o i j = q at gA hq hq8
  have h2 := h1 i j hz
  simp only [zrev2] at h2
  rw [hqq] at h2
  clear h1 h0 hx2 hj3 hz hup hd hlt hji
  refine w_WhileN ((m - 1 - i) / 2) (fun s ρ M' => (∃ l, ρ = 250 :: ((m : Nat) : Int) :: ((i : Nat) : Int) :: ((j : Nat) : Int) :: l ∧ ∃ y, l = y :: ((i + 1 + s : Nat) : Int) :: ((m - 1 - s : Nat) : Int) :: []) ∧ (∀ b k, ¬ b = ((295 : Nat) : Int) → M' b k = M1 b k) ∧ ∀ k : Nat, k < m → M' ((295 : Nat) : Int) ((k : Nat) : Int) = ((if i < k ∧ (k < i + 1 + s ∨ m - 1 - s < k) then q (m + i - k) else q k : Nat) : Int)) ⟨⟨_, rfl, _, rfl⟩, fun _ _ _ => rfl, fun k hk => by rw [gA k hk, if_neg (by omega)]⟩ ?_ ?_
  · rintro s ρ M2 X2 hs ⟨⟨_, rfl, y, rfl⟩, f2, g2⟩ hX2
    have v4 := g2 (i + 1 + s) (by omega)
    have v5 := g2 (m - 1 - s) (by omega)
    rw [if_neg (by omega)] at v4 v5
    have b4 := hq8 (i + 1 + s) (by omega)
    have b5 := hq8 (m - 1 - s) (by omega)
    have e1 : (((m - 1 - s : Nat) : Int) + -1 : Int) = ((m - 1 - (s + 1) : Nat) : Int) := by omega
    ((with_reducible refine i_turn (i_cI_lt (i_L5 (i_L6 ?_)))); (with_reducible refine i_t (by omega) ?_); (with_reducible refine i_Seq (i_Set (i_IA (i_FR (i_A0 ?_))))); (with_reducible refine i_fldR (by assumption) ?_); (with_reducible refine i_L5 ?_); (with_reducible refine i_in (by assumption) (by omega) (by omega) ?_); (with_reducible refine i_Seq (i_sIA (i_FR ?_))); (rw [v4]); simp only [w_set0, w_set1, w_setn0, w_setn1]; (with_reducible refine i_A0 ?_); (with_reducible refine i_fldR (by assumption) ?_); (with_reducible refine i_L5 (i_IA (i_FR (i_A0 ?_)))); (with_reducible refine i_fldR (by assumption) ?_); (with_reducible refine i_L6 ?_); (with_reducible refine i_in (by assumption) (by omega) (by omega) ?_); (with_reducible refine i_in (by assumption) (by omega) (by omega) ?_); (with_reducible refine i_Seq (i_sIA (i_FR (i_A0 ?_)))); (with_reducible refine i_fldR (by assumption) ?_); (with_reducible refine i_L6 (i_L4 ?_)); (with_reducible refine i_in (by assumption) (by omega) (by omega) ?_); (with_reducible refine i_Seq (i_Inc5 ?_)); (rw [v5]); rw [zx_inc (by omega)]; simp only [w_set0, w_set1, w_setn0, w_setn1]; (with_reducible refine i_Inc6 ?_); (rw [zx_s (x := ((m - 1 - s : Nat) : Int) + -1) (by omega) (by omega)]); (rw [e1]); simp only [w_set0, w_set1, w_setn0, w_setn1])
    refine hX2 _ _ ⟨⟨_, by rw [show i + 1 + (s + 1) = i + 1 + s + 1 by omega], _, rfl⟩, fun b k z => by rw [zg_n _ _ _ (by omega), zg_n _ _ _ (by omega)]; exact f2 b k z, fun k hk => ?_⟩
    by_cases k1 : k = m - 1 - s
    · subst k1
      rw [zg_s, if_pos (by omega), show m + i - (m - 1 - s) = i + 1 + s by omega]
    · rw [zg_m _ _ _ _ _ (by omega)]
      by_cases k2 : k = i + 1 + s
      · subst k2
        rw [zg_s, if_pos (by omega), show m + i - (i + 1 + s) = m - 1 - s by omega]
      · rw [zg_m _ _ _ _ _ (by omega), g2 k hk]
        by_cases k3 : i < k ∧ (k < i + 1 + s ∨ m - 1 - s < k)
        · rw [if_pos k3, if_pos (by omega)]
        · rw [if_neg k3, if_neg (by omega)]
  · rintro ρ M2 X2 ⟨⟨_, rfl, y, rfl⟩, f2, g2⟩
    ((with_reducible refine i_turn (i_cI_lt (i_L5 (i_L6 ?_)))); (with_reducible refine i_f (by omega) ?_); (with_reducible refine i_RetZ (i_I ?_)); (with_reducible refine i_z (Or.inr rfl) ?_))
    refine h2 M2 (fun b k z => by rw [f2 b k z, fA b k z]) (fun k hk => ?_)
    rw [g2 k hk]
    by_cases k1 : k ≤ i
    · rw [if_pos k1, if_neg (by omega)]
    · rw [if_neg k1]
      by_cases k2 : k < i + 1 + (m - 1 - i) / 2 ∨ m - 1 - (m - 1 - i) / 2 < k
      · rw [if_pos (by omega)]
      · rw [if_neg (by omega), show m + i - k = k by omega]
/-- what is known of the best so far -/
def zBst (m : Nat) (w : Nat → Nat → Nat) (o : Nat → Nat) (b : Option (Nat → Nat)) : Prop := match b with
  | none => ∀ p, zPm m p → ¬ zlx m p o
  | some g => zPm m g ∧ (zlx m g o) ∧ ∀ p, zPm m p → zlx m p o → zst2 m w g ≤ zst2 m w p ∧ (zst2 m w p = zst2 m w g → ¬ zlx m p g)
def zbsI (m : Nat) (w : Nat → Nat → Nat) (b : Option (Nat → Nat)) : Int := match b with
  | none => -1
  | some g => ((zst2 m w g : Nat) : Int)
/-- the best when an order was looked at too -/
theorem zBst_st {m : Nat} {w : Nat → Nat → Nat} {o : Nat → Nat} {b : Option (Nat → Nat)} (hb : zBst m w o b) (ho : zPm m o) : ((zbsI m w b < 0 ∨ ((zst2 m w o : Nat) : Int) < zbsI m w b) → ∀ p, zPm m p → (zlx m p o ∨ ∀ i, i < m → p i = o i) → zst2 m w o ≤ zst2 m w p ∧ (zst2 m w p = zst2 m w o → ¬ zlx m p o)) ∧
    (¬ (zbsI m w b < 0 ∨ ((zst2 m w o : Nat) : Int) < zbsI m w b) → ∃ g, b = some g ∧ zPm m g ∧ zlx m g o ∧ ∀ p, zPm m p → (zlx m p o ∨ ∀ i, i < m → p i = o i) → zst2 m w g ≤ zst2 m w p ∧ (zst2 m w p = zst2 m w g → ¬ zlx m p g)) := by
  have hst : ∀ p q : Nat → Nat, zPm m p → (∀ i, i < m → p i = q i) → zst2 m w p = zst2 m w q := fun p q _ e => zsum_ext fun i hi => zsum_ext fun j hj => by rw [e i hi, e j hj]
  cases b with
  | none =>
    refine ⟨fun _ p hp h => ?_, fun h => absurd (Or.inl (by show (-1 : Int) < 0; omega)) h⟩
    rcases h with h | h
    · exact absurd h (hb p hp)
    · rw [hst p o hp h]
      exact ⟨Nat.le_refl _, fun _ z => zlx_ir z h⟩
  | some g =>
    obtain ⟨hg, hgo, hall⟩ := hb
    have hI : zbsI m w (some g) = ((zst2 m w g : Nat) : Int) := rfl
    rw [hI]
    refine ⟨fun h p hp h2 => ?_, fun h => ⟨g, rfl, hg, hgo, fun p hp h2 => ?_⟩⟩
    · rcases h2 with h2 | h2
      · have := (hall p hp h2).1
        exact ⟨by omega, fun z => by omega⟩
      · rw [hst p o hp h2]
        exact ⟨Nat.le_refl _, fun _ z => zlx_ir z h2⟩
    · rcases h2 with h2 | h2
      · exact hall p hp h2
      · rw [hst p o hp h2]
        exact ⟨by omega, fun _ z => zlx_no hgo (zlx_ext h2 (fun _ _ => rfl) z)⟩
theorem m_lineOf {O : zOm} (hO : zWld O) (hS : zS O = zmS zC0) {t n : Nat} {A : zTl} {M : zMem} {K : Option zV → zMem → Prop} (ht : t < 7) (hn : M 250 ((1 : Nat) : Int) = ((n : Nat) : Int)) (hn1 : 0 < n) (hn2 : n ≤ 16) (hA : rTe M t n A) (hw : zTw n A) (hm8 : tm A ≤ 8)
    (hk : ∀ M', (∀ b j, ¬ (b = 268 ∨ ((294 : Nat) : Int) ≤ b ∧ b ≤ ((296 : Nat) : Int)) → M' b j = M b j) → (∀ k : Nat, k < tm A → M' ((296 : Nat) : Int) ((k : Nat) : Int) = ((zLin (tm A) (zlw n A) k : Nat) : Int)) → K (some (0, ((zst2 (tm A) (zlw n A) (zLin (tm A) (zlw n A)) : Nat) : Int))) M') : zR O F_Model_lineOf [(2, 250), (0, ((t : Nat) : Int))] M K := by
  have hm0 : 0 < tm A := by have := (hw.1.2.2 0 hn1).1; omega
  have gm := hA.1.1
  have hlw : ∀ x y, zlw n A x y ≤ 256 := fun x y => by
    have h1 := zbw_le (zBd n A) (tf A) n x y n
    have h2 : n * n ≤ 16 * 16 := Nat.mul_le_mul hn2 hn2
    unfold zlw
    omega
  generalize hmm : tm A = m at hm8 hm0 gm hk
  generalize hww : zlw n A = w at hk hlw
  apply r_Model_lineOf hO
  unfold B_Model_lineOf
  have f12 := zMF (k := 12) hS rfl; have a258 := zMA (a := 258) (ty := .int) (n := 7) hS rfl; have f60 := zMF (k := 60) hS rfl; have a295 := zMA (a := 295) (ty := .int) (n := 8) hS rfl; have f61 := zMF (k := 61) hS rfl; have a296 := zMA (a := 296) (ty := .int) (n := 8) hS rfl; have zo := zMO hS
  ((with_reducible refine i_Seq (i_sCall (i_as1 (i_A0 (i_as1 (i_L1 (i_as0 ?_))))))); (with_reducible refine i_recv0 (by assumption) ?_))
  refine m_tiesOfBoxes hO hS ht hn hn2 hA hw (by omega) (fun M1 f1 g1 => ⟨rfl, ?_⟩)
  rw [hww] at g1
  have gm1 : M1 ((258 : Nat) : Int) ((t : Nat) : Int) = ((m : Nat) : Int) := by rw [f1 _ _ (by omega)]; exact gm
  ((with_reducible refine i_Seq (i_Set (i_IA (i_FR (i_A0 ?_))))); (with_reducible refine i_fldR (by assumption) ?_); (with_reducible refine i_L1 ?_); (with_reducible refine i_in (by assumption) (by omega) (by omega) ?_); (with_reducible refine i_Seq (i_Blk (i_Seq (i_Set (i_I ?_))))); (rw [gm1]); simp only [w_set0, w_set1, w_setn0, w_setn1])
  refine w_ForN m (fun k ρ M' => (∃ l, ρ = 250 :: ((t : Nat) : Int) :: ((m : Nat) : Int) :: ((k : Nat) : Int) :: l) ∧ (∀ b j, ¬ b = ((295 : Nat) : Int) → M' b j = M1 b j) ∧ ∀ j : Nat, j < k → M' ((295 : Nat) : Int) ((j : Nat) : Int) = ((j : Nat) : Int)) ⟨⟨_, rfl⟩, fun _ _ _ => rfl, fun j hj => absurd hj (by omega)⟩ ?_ ?_
  · rintro k ρ M9 X hk1 ⟨⟨l, rfl⟩, hf, h⟩ hX
    ((with_reducible refine i_turn (i_cI_lt (i_L3 (i_L2 ?_)))); (with_reducible refine i_t (by omega) ?_); (with_reducible refine i_sIA (i_FR (i_A0 ?_))); (with_reducible refine i_fldR (by assumption) ?_); (with_reducible refine i_L3 (i_L3 ?_)); (with_reducible refine i_in (by assumption) (by omega) (by omega) ?_); (with_reducible refine i_up (i_Inc3 ?_)); rw [zx_inc (by omega)]; simp only [w_set0, w_set1, w_setn0, w_setn1])
    refine hX _ _ ⟨⟨_, rfl⟩, fun b j q => by rw [zg_n _ _ _ (by omega)]; exact hf b j q, fun j hj => ?_⟩
    by_cases e : j = k
    · subst e; rw [zg_s]
    · rw [zg_m _ _ _ _ _ (by omega)]; exact h j (by omega)
  rintro ρ M2 X2 ⟨⟨l2, rfl⟩, f2, g2⟩
  ((with_reducible refine i_turn (i_cI_lt (i_L3 (i_L2 ?_)))); (with_reducible refine i_f (by omega) ?_); (with_reducible refine i_Seq (i_Set (i_I (i_Seq (i_Set (i_I (i_Seq ?_))))))); simp only [w_set0, w_set1, w_setn0, w_setn1]; rw [w_setT])
  have k2 : ∀ b j, ¬ (b = 268 ∨ ((294 : Nat) : Int) ≤ b ∧ b ≤ ((296 : Nat) : Int)) → M2 b j = M b j := fun b j q => by rw [f2 b j (by omega), f1 b j (by omega)]
  have W2 : ∀ x y : Nat, x < 8 → y < 8 → M2 ((294 : Nat) : Int) ((8 * x + y : Nat) : Int) = ((w x y : Nat) : Int) := fun x y hx hy => by rw [f2 _ _ (by omega)]; exact g1 x y hx hy
  have hid : zPm m (fun i => i) := ⟨fun i hi => hi, fun i j _ _ e => e⟩
  refine w_While (α := zLoc × zMem × Bool × (Nat → Nat) × Option (Nat → Nat)) (fun x => (x.1, x.2.1)) (fun x => (∃ l, x.1 = 250 :: ((t : Nat) : Int) :: ((m : Nat) : Int) :: zbsI m w x.2.2.2.2 :: zbI x.2.2.1 :: l) ∧ (∀ b j, ¬ (b = 268 ∨ ((294 : Nat) : Int) ≤ b ∧ b ≤ ((296 : Nat) : Int)) → x.2.1 b j = M b j) ∧ (∀ p q : Nat, p < 8 → q < 8 → x.2.1 ((294 : Nat) : Int) ((8 * p + q : Nat) : Int) = ((w p q : Nat) : Int)) ∧ (x.2.2.1 = true → zPm m x.2.2.2.1 ∧ (∀ k : Nat, k < m → x.2.1 ((295 : Nat) : Int) ((k : Nat) : Int) = ((x.2.2.2.1 k : Nat) : Int)) ∧ zBst m w x.2.2.2.1 x.2.2.2.2 ∧ ∀ g, x.2.2.2.2 = some g → ∀ k : Nat, k < m → x.2.1 ((296 : Nat) : Int) ((k : Nat) : Int) = ((g k : Nat) : Int)) ∧ (x.2.2.1 = false → ∃ g, x.2.2.2.2 = some g ∧ zFst m w g ∧ ∀ k : Nat, k < m → x.2.1 ((296 : Nat) : Int) ((k : Nat) : Int) = ((g k : Nat) : Int))) (fun x => if x.2.2.1 = true then 8 ^ m - zcd x.2.2.2.1 m else 0) (fun x X hx hy => ?_) (_, M2, true, (fun i => i), none) ⟨⟨_, rfl⟩, k2, W2, fun _ => ⟨hid, g2, fun p hp => zlx_id hp, fun g z => by cases z⟩, fun z => by cases z⟩
  obtain ⟨ρ, M3, more, o, bs⟩ := x
  dsimp only at hx
  obtain ⟨⟨l, rfl⟩, k3, W3, T3, F3⟩ := hx
  dsimp only at k3 W3 T3 F3 ⊢
  cases more
  · obtain ⟨g, rfl, hF, hg⟩ := F3 rfl
    obtain ⟨e1, e2⟩ := zLin_ok hF
    ((with_reducible refine i_turn (i_cZ_ne (i_L4 ?_))); rw [zbI_f]; (with_reducible refine i_f (by omega) ?_); (with_reducible refine i_RetI (i_L3 ?_)))
    show K (some (0, ((zst2 m w g : Nat) : Int))) M3
    rw [e1]
    exact hk M3 k3 (fun k hk1 => by rw [hg k hk1, e2 k hk1])
  obtain ⟨ho, hO3, hbst, hbo⟩ := T3 rfl
  have ho8 : ∀ i, i < m → o i < 8 := fun i hi => by have := ho.1 i hi; omega
  obtain ⟨s1, s2⟩ := zBst_st hbst ho
  have hcode := zcd_lt m ho8
  have hpos : 0 < 8 ^ m := Nat.pos_of_ne_zero (by intro z; rw [z] at hcode; omega)
  have hy2 : ∀ (l : zLoc) (M' : zMem) (mo : Bool) (o' : Nat → Nat) (g : Nat → Nat), (∀ b j, ¬ (b = 268 ∨ ((294 : Nat) : Int) ≤ b ∧ b ≤ ((296 : Nat) : Int)) → M' b j = M b j) → (∀ p q : Nat, p < 8 → q < 8 → M' ((294 : Nat) : Int) ((8 * p + q : Nat) : Int) = ((w p q : Nat) : Int)) → (∀ k : Nat, k < m → M' ((296 : Nat) : Int) ((k : Nat) : Int) = ((g k : Nat) : Int)) → (mo = true → zPm m o' ∧ (∀ k : Nat, k < m → M' ((295 : Nat) : Int) ((k : Nat) : Int) = ((o' k : Nat) : Int)) ∧ zBst m w o' (some g) ∧ zlx m o o') → (mo = false → zFst m w g) → X (250 :: ((t : Nat) : Int) :: ((m : Nat) : Int) :: ((zst2 m w g : Nat) : Int) :: zbI mo :: l) M' := fun l M' mo o' g a1 a2 a3 a4 a5 => by
    refine hy (250 :: ((t : Nat) : Int) :: ((m : Nat) : Int) :: ((zst2 m w g : Nat) : Int) :: zbI mo :: l, M', mo, o', some g) ⟨⟨l, rfl⟩, a1, a2, fun z => ?_, fun z => ⟨g, rfl, a5 z, a3⟩⟩ ?_
    · obtain ⟨b1, b2, b3, _⟩ := a4 z
      exact ⟨b1, b2, b3, fun g' e => by cases e; exact a3⟩
    · dsimp only
      rw [if_pos rfl]
      cases mo
      · rw [if_neg (by decide)]; omega
      · rw [if_pos rfl]
        obtain ⟨b1, _, _, b4⟩ := a4 rfl
        have := zcd_lx ho8 (fun i hi => by have := b1.1 i hi; omega) b4
        omega
  clear hy hk
  ((with_reducible refine i_turn (i_cZ_ne (i_L4 ?_))); rw [zbI_t]; (with_reducible refine i_t (by omega) ?_); (with_reducible refine i_Blk (i_Seq (i_Set (i_Call (i_as1 (i_A0 (i_as1 (i_L2 (i_as0 ?_))))))))); (with_reducible refine i_recv0 (by assumption) ?_); simp only [w_set0, w_set1, w_setn0, w_setn1])
  refine m_stretch hO hS hm8 (fun x y hx hy => ⟨W3 x y hx hy, hlw x y⟩) (fun i hi => ⟨hO3 i hi, ho8 i hi⟩) ⟨_, rfl, ?_⟩
  by_cases hc1 : zbsI m w bs < 0
  · ((with_reducible refine i_Seq (i_If (i_cOr (i_cZ_lt (i_L3 ?_))))); rw [w_setT]; (with_reducible refine i_t (by omega) ?_); (with_reducible refine i_Seq (i_Set (i_L5 (i_Blk (i_Seq (i_Set (i_I ?_))))))); simp only [w_set0, w_set1, w_setn0, w_setn1]; rw [w_setT])
    refine w_ForN m (fun k ρ M' => (∃ l, ρ = 250 :: ((t : Nat) : Int) :: ((m : Nat) : Int) :: ((zst2 m w o : Nat) : Int) :: 1 :: ((zst2 m w o : Nat) : Int) :: ((k : Nat) : Int) :: l) ∧ (∀ b j, ¬ b = ((296 : Nat) : Int) → M' b j = M3 b j) ∧ ∀ j : Nat, j < k → M' ((296 : Nat) : Int) ((j : Nat) : Int) = ((o j : Nat) : Int)) ⟨⟨_, rfl⟩, fun _ _ _ => rfl, fun j hj => absurd hj (by omega)⟩ ?_ ?_
    · rintro k ρ M9 X9 hk1 ⟨⟨l9, rfl⟩, hf, h⟩ hX
      have v9 : M9 ((295 : Nat) : Int) ((k : Nat) : Int) = ((o k : Nat) : Int) := by rw [hf _ _ (by omega)]; exact hO3 k hk1
      ((with_reducible refine i_turn (i_cI_lt (i_L6 (i_L2 ?_)))); (with_reducible refine i_t (by omega) ?_); (with_reducible refine i_sIA (i_FR (i_A0 ?_))); (with_reducible refine i_fldR (by assumption) ?_); (with_reducible refine i_L6 (i_IA (i_FR (i_A0 ?_)))); (with_reducible refine i_fldR (by assumption) ?_); (with_reducible refine i_L6 ?_); (with_reducible refine i_in (by assumption) (by omega) (by omega) ?_); (with_reducible refine i_in (by assumption) (by omega) (by omega) ?_); (with_reducible refine i_up (i_Inc6 ?_)); (rw [v9]); rw [zx_inc (by omega)]; simp only [w_set0, w_set1, w_setn0, w_setn1])
      refine hX _ _ ⟨⟨_, rfl⟩, fun b j q => by rw [zg_n _ _ _ (by omega)]; exact hf b j q, fun j hj => ?_⟩
      by_cases e : j = k
      · subst e; rw [zg_s]
      · rw [zg_m _ _ _ _ _ (by omega)]; exact h j (by omega)
    rintro ρ M4 X4 ⟨⟨l4, rfl⟩, f4, g4⟩
    have a3 : ∀ k : Nat, k < m → M4 ((296 : Nat) : Int) ((k : Nat) : Int) = ((o k : Nat) : Int) := g4
    have kk : ∀ b j, ¬ (b = 268 ∨ ((294 : Nat) : Int) ≤ b ∧ b ≤ ((296 : Nat) : Int)) → M4 b j = M b j := fun b j q => by rw [f4 b j (by omega)]; exact k3 b j q
    have WW : ∀ p q : Nat, p < 8 → q < 8 → M4 ((294 : Nat) : Int) ((8 * p + q : Nat) : Int) = ((w p q : Nat) : Int) := fun p q hp hq => by rw [f4 _ _ (by omega)]; exact W3 p q hp hq
    have hO4 : ∀ k : Nat, k < m → M4 ((295 : Nat) : Int) ((k : Nat) : Int) = ((o k : Nat) : Int) := fun k hk1 => by rw [f4 _ _ (by omega)]; exact hO3 k hk1
    ((with_reducible refine i_turn (i_cI_lt (i_L6 (i_L2 ?_)))); (with_reducible refine i_f (by omega) ?_); (with_reducible refine i_Set (i_Call (i_as1 (i_A0 (i_as1 (i_L2 (i_as0 ?_))))))); (with_reducible refine i_recv0 (by assumption) ?_); simp only [w_set0, w_set1, w_setn0, w_setn1])
    refine m_reorders hO hS hm0 hm8 hO4 ho (fun hlast => ⟨_, rfl, ?_⟩) (fun i j hz M5 f5 g5 => ⟨_, rfl, ?_⟩)
    · (skip)
      exact hy2 _ _ false o o kk WW a3 (fun z => by cases z) (fun _ => ⟨ho, fun p hp => s1 (Or.inl hc1) p hp (by
        rcases zlx_tri m p o with q | q | q
        · exact Or.inl q
        · exact Or.inr q
        · exact absurd q (zlx_last ho hp hlast))⟩)
    · (skip)
      have hp' := zrev2_in ho (show i < m by have := hz.1; have := hz.2.1; omega) hz.2.1
      exact hy2 _ _ true (zrev2 m o i j) o (fun b j q => by rw [f5 b j (by omega)]; exact kk b j q) (fun p q hp hq => by rw [f5 _ _ (by omega)]; exact WW p q hp hq) (fun k hk1 => by rw [f5 _ _ (by omega)]; exact a3 k hk1) (fun _ => ⟨hp', g5, ⟨ho, zrev2_lx hz, fun p hp hlt => s1 (Or.inl hc1) p hp (by
        rcases zlx_tri m p o with q | q | q
        · exact Or.inl q
        · exact Or.inr q
        · rcases zrev2_nx ho hp hz q with r | r
          · exact absurd hlt (fun z => zlx_ir z r)
          · exact absurd hlt (zlx_no r))⟩, zrev2_lx hz⟩) (fun z => by cases z)
  by_cases hc2 : ((zst2 m w o : Nat) : Int) < zbsI m w bs
  · ((with_reducible refine i_Seq (i_If (i_cOr (i_cZ_lt (i_L3 ?_))))); rw [w_setT]; (with_reducible refine i_f (by omega) ?_); (with_reducible refine i_cI_lt (i_L5 (i_L3 ?_))); (with_reducible refine i_t (by omega) ?_); (with_reducible refine i_Seq (i_Set (i_L5 (i_Blk (i_Seq (i_Set (i_I ?_))))))); simp only [w_set0, w_set1, w_setn0, w_setn1]; rw [w_setT])
    refine w_ForN m (fun k ρ M' => (∃ l, ρ = 250 :: ((t : Nat) : Int) :: ((m : Nat) : Int) :: ((zst2 m w o : Nat) : Int) :: 1 :: ((zst2 m w o : Nat) : Int) :: ((k : Nat) : Int) :: l) ∧ (∀ b j, ¬ b = ((296 : Nat) : Int) → M' b j = M3 b j) ∧ ∀ j : Nat, j < k → M' ((296 : Nat) : Int) ((j : Nat) : Int) = ((o j : Nat) : Int)) ⟨⟨_, rfl⟩, fun _ _ _ => rfl, fun j hj => absurd hj (by omega)⟩ ?_ ?_
    · rintro k ρ M9 X9 hk1 ⟨⟨l9, rfl⟩, hf, h⟩ hX
      have v9 : M9 ((295 : Nat) : Int) ((k : Nat) : Int) = ((o k : Nat) : Int) := by rw [hf _ _ (by omega)]; exact hO3 k hk1
      ((with_reducible refine i_turn (i_cI_lt (i_L6 (i_L2 ?_)))); (with_reducible refine i_t (by omega) ?_); (with_reducible refine i_sIA (i_FR (i_A0 ?_))); (with_reducible refine i_fldR (by assumption) ?_); (with_reducible refine i_L6 (i_IA (i_FR (i_A0 ?_)))); (with_reducible refine i_fldR (by assumption) ?_); (with_reducible refine i_L6 ?_); (with_reducible refine i_in (by assumption) (by omega) (by omega) ?_); (with_reducible refine i_in (by assumption) (by omega) (by omega) ?_); (with_reducible refine i_up (i_Inc6 ?_)); (rw [v9]); rw [zx_inc (by omega)]; simp only [w_set0, w_set1, w_setn0, w_setn1])
      refine hX _ _ ⟨⟨_, rfl⟩, fun b j q => by rw [zg_n _ _ _ (by omega)]; exact hf b j q, fun j hj => ?_⟩
      by_cases e : j = k
      · subst e; rw [zg_s]
      · rw [zg_m _ _ _ _ _ (by omega)]; exact h j (by omega)
    rintro ρ M4 X4 ⟨⟨l4, rfl⟩, f4, g4⟩
    have a3 : ∀ k : Nat, k < m → M4 ((296 : Nat) : Int) ((k : Nat) : Int) = ((o k : Nat) : Int) := g4
    have kk : ∀ b j, ¬ (b = 268 ∨ ((294 : Nat) : Int) ≤ b ∧ b ≤ ((296 : Nat) : Int)) → M4 b j = M b j := fun b j q => by rw [f4 b j (by omega)]; exact k3 b j q
    have WW : ∀ p q : Nat, p < 8 → q < 8 → M4 ((294 : Nat) : Int) ((8 * p + q : Nat) : Int) = ((w p q : Nat) : Int) := fun p q hp hq => by rw [f4 _ _ (by omega)]; exact W3 p q hp hq
    have hO4 : ∀ k : Nat, k < m → M4 ((295 : Nat) : Int) ((k : Nat) : Int) = ((o k : Nat) : Int) := fun k hk1 => by rw [f4 _ _ (by omega)]; exact hO3 k hk1
    ((with_reducible refine i_turn (i_cI_lt (i_L6 (i_L2 ?_)))); (with_reducible refine i_f (by omega) ?_); (with_reducible refine i_Set (i_Call (i_as1 (i_A0 (i_as1 (i_L2 (i_as0 ?_))))))); (with_reducible refine i_recv0 (by assumption) ?_); simp only [w_set0, w_set1, w_setn0, w_setn1])
    refine m_reorders hO hS hm0 hm8 hO4 ho (fun hlast => ⟨_, rfl, ?_⟩) (fun i j hz M5 f5 g5 => ⟨_, rfl, ?_⟩)
    · (skip)
      exact hy2 _ _ false o o kk WW a3 (fun z => by cases z) (fun _ => ⟨ho, fun p hp => s1 (Or.inr hc2) p hp (by
        rcases zlx_tri m p o with q | q | q
        · exact Or.inl q
        · exact Or.inr q
        · exact absurd q (zlx_last ho hp hlast))⟩)
    · (skip)
      have hp' := zrev2_in ho (show i < m by have := hz.1; have := hz.2.1; omega) hz.2.1
      exact hy2 _ _ true (zrev2 m o i j) o (fun b j q => by rw [f5 b j (by omega)]; exact kk b j q) (fun p q hp hq => by rw [f5 _ _ (by omega)]; exact WW p q hp hq) (fun k hk1 => by rw [f5 _ _ (by omega)]; exact a3 k hk1) (fun _ => ⟨hp', g5, ⟨ho, zrev2_lx hz, fun p hp hlt => s1 (Or.inr hc2) p hp (by
        rcases zlx_tri m p o with q | q | q
        · exact Or.inl q
        · exact Or.inr q
        · rcases zrev2_nx ho hp hz q with r | r
          · exact absurd hlt (fun z => zlx_ir z r)
          · exact absurd hlt (zlx_no r))⟩, zrev2_lx hz⟩) (fun z => by cases z)
  obtain ⟨g, rfl, hg, hgo, hall⟩ := s2 (fun z => z.elim hc1 hc2)
  have hI : zbsI m w (some g) = ((zst2 m w g : Nat) : Int) := rfl
  rw [hI] at hc1 hc2 ⊢
  have a3 : ∀ k : Nat, k < m → M3 ((296 : Nat) : Int) ((k : Nat) : Int) = ((g k : Nat) : Int) := hbo g rfl
  have kk : ∀ b j, ¬ (b = 268 ∨ ((294 : Nat) : Int) ≤ b ∧ b ≤ ((296 : Nat) : Int)) → M3 b j = M b j := k3
  have WW : ∀ p q : Nat, p < 8 → q < 8 → M3 ((294 : Nat) : Int) ((8 * p + q : Nat) : Int) = ((w p q : Nat) : Int) := W3
  have hO4 : ∀ k : Nat, k < m → M3 ((295 : Nat) : Int) ((k : Nat) : Int) = ((o k : Nat) : Int) := hO3
  ((with_reducible refine i_Seq (i_If (i_cOr (i_cZ_lt (i_L3 ?_))))); rw [w_setT]; (with_reducible refine i_f (by omega) ?_); (with_reducible refine i_cI_lt (i_L5 (i_L3 ?_))); (with_reducible refine i_f (by omega) ?_); (with_reducible refine i_Set (i_Call (i_as1 (i_A0 (i_as1 (i_L2 (i_as0 ?_))))))); (with_reducible refine i_recv0 (by assumption) ?_); simp only [w_set0, w_set1, w_setn0, w_setn1])
  refine m_reorders hO hS hm0 hm8 hO4 ho (fun hlast => ⟨_, rfl, ?_⟩) (fun i j hz M5 f5 g5 => ⟨_, rfl, ?_⟩)
  · (skip)
    exact hy2 _ _ false o g kk WW a3 (fun z => by cases z) (fun _ => ⟨hg, fun p hp => hall p hp (by
      rcases zlx_tri m p o with q | q | q
      · exact Or.inl q
      · exact Or.inr q
      · exact absurd q (zlx_last ho hp hlast))⟩)
  · (skip)
    have hp' := zrev2_in ho (show i < m by have := hz.1; have := hz.2.1; omega) hz.2.1
    exact hy2 _ _ true (zrev2 m o i j) g (fun b j q => by rw [f5 b j (by omega)]; exact kk b j q) (fun p q hp hq => by rw [f5 _ _ (by omega)]; exact WW p q hp hq) (fun k hk1 => by rw [f5 _ _ (by omega)]; exact a3 k hk1) (fun _ => ⟨hp', g5, ⟨hg, zlx_tr hgo (zrev2_lx hz), fun p hp hlt => hall p hp (by
      rcases zlx_tri m p o with q | q | q
      · exact Or.inl q
      · exact Or.inr q
      · rcases zrev2_nx ho hp hz q with r | r
        · exact absurd hlt (fun z => zlx_ir z r)
        · exact absurd hlt (zlx_no r))⟩, zrev2_lx hz⟩) (fun z => by cases z)
theorem m_line_bad {O : zOm} (hO : zWld O) (hS : zS O = zmS zC0) {t : Int} {T : Nat} {M : zMem} {K : Option zV → zMem → Prop} (hT : M 250 ((11 : Nat) : Int) = ((T : Nat) : Int)) (ht : ¬ (0 ≤ t ∧ t < ((T : Nat) : Int))) (hk : K (some (0, -1)) M) : zR O F_Model_line [(2, 250), (0, t)] M K := by
  apply r_Model_line hO
  unfold B_Model_line
  have f12 := zMF (k := 12) hS rfl; have a258 := zMA (a := 258) (ty := .int) (n := 7) hS rfl; have zo := zMO hS
  ((with_reducible refine i_Seq (i_If (i_cNot (i_cZ_ne (i_Call (i_as1 (i_A0 (i_as1 (i_L1 (i_as0 ?_)))))))))); (with_reducible refine i_recv0 (by assumption) ?_); (refine m_isTelling hO hS hT ⟨_, rfl, ?_⟩); (rw [decide_eq_false ht]); rw [zbI_f]; (with_reducible refine i_f (by omega) ?_); (with_reducible refine i_RetI (i_I ?_)))
  exact hk
theorem m_line_big {O : zOm} (hO : zWld O) (hS : zS O = zmS zC0) {t T n : Nat} {A : zTl} {M : zMem} {K : Option zV → zMem → Prop} (hT : M 250 ((11 : Nat) : Int) = ((T : Nat) : Int)) (hT5 : T ≤ 5) (ht : t < T) (hA : rTe M t n A) (hm : 8 < tm A) (hk : K (some (0, -2)) M) : zR O F_Model_line [(2, 250), (0, ((t : Nat) : Int))] M K := by
  have g := hA.1.1
  apply r_Model_line hO
  unfold B_Model_line
  have f12 := zMF (k := 12) hS rfl; have a258 := zMA (a := 258) (ty := .int) (n := 7) hS rfl; have zo := zMO hS
  ((with_reducible refine i_Seq (i_If (i_cNot (i_cZ_ne (i_Call (i_as1 (i_A0 (i_as1 (i_L1 (i_as0 ?_)))))))))); (with_reducible refine i_recv0 (by assumption) ?_); (refine m_isTelling hO hS hT ⟨_, rfl, ?_⟩); (rw [decide_eq_true (show 0 ≤ ((t : Nat) : Int) ∧ ((t : Nat) : Int) < ((T : Nat) : Int) by omega)]); rw [zbI_t]; (with_reducible refine i_t (by omega) ?_); (with_reducible refine i_RetI (i_eIf (i_cI_gt (i_IA (i_FR (i_A0 ?_)))))); (with_reducible refine i_fldR (by assumption) ?_); (with_reducible refine i_L1 ?_); (with_reducible refine i_in (by assumption) (by omega) (by omega) ?_); (with_reducible refine i_I ?_); (rw [g]); (with_reducible refine i_t (by omega) ?_); (with_reducible refine i_I ?_))
  exact hk
theorem m_line {O : zOm} (hO : zWld O) (hS : zS O = zmS zC0) {t T n : Nat} {A : zTl} {M : zMem} {K : Option zV → zMem → Prop} (hT : M 250 ((11 : Nat) : Int) = ((T : Nat) : Int)) (hT5 : T ≤ 5) (ht : t < T) (hn : M 250 ((1 : Nat) : Int) = ((n : Nat) : Int)) (hn1 : 0 < n) (hn2 : n ≤ 16) (hA : rTe M t n A) (hw : zTw n A) (hm8 : tm A ≤ 8)
    (hk : ∀ M', (∀ b j, ¬ (b = 268 ∨ ((294 : Nat) : Int) ≤ b ∧ b ≤ ((296 : Nat) : Int)) → M' b j = M b j) → K (some (0, ((zst2 (tm A) (zlw n A) (zLin (tm A) (zlw n A)) : Nat) : Int))) M') : zR O F_Model_line [(2, 250), (0, ((t : Nat) : Int))] M K := by
  have g := hA.1.1
  apply r_Model_line hO
  unfold B_Model_line
  have f12 := zMF (k := 12) hS rfl; have a258 := zMA (a := 258) (ty := .int) (n := 7) hS rfl; have zo := zMO hS
  ((with_reducible refine i_Seq (i_If (i_cNot (i_cZ_ne (i_Call (i_as1 (i_A0 (i_as1 (i_L1 (i_as0 ?_)))))))))); (with_reducible refine i_recv0 (by assumption) ?_); (refine m_isTelling hO hS hT ⟨_, rfl, ?_⟩); (rw [decide_eq_true (show 0 ≤ ((t : Nat) : Int) ∧ ((t : Nat) : Int) < ((T : Nat) : Int) by omega)]); rw [zbI_t]; (with_reducible refine i_t (by omega) ?_); (with_reducible refine i_RetI (i_eIf (i_cI_gt (i_IA (i_FR (i_A0 ?_)))))); (with_reducible refine i_fldR (by assumption) ?_); (with_reducible refine i_L1 ?_); (with_reducible refine i_in (by assumption) (by omega) (by omega) ?_); (with_reducible refine i_I ?_); (rw [g]); (with_reducible refine i_f (by omega) ?_); (with_reducible refine i_Call (i_as1 (i_A0 (i_as1 (i_L1 (i_as0 ?_)))))); (with_reducible refine i_recv0 (by assumption) ?_))
  refine m_lineOf hO hS (by omega) hn hn1 hn2 hA hw hm8 (fun M1 f1 _ => ⟨_, rfl, ?_⟩)
  exact hk M1 f1
theorem m_at_bad {O : zOm} (hO : zWld O) (hS : zS O = zmS zC0) {t i : Int} {T n : Nat} {A : Nat → zTl} {M : zMem} {K : Option zV → zMem → Prop} (hT : M 250 ((11 : Nat) : Int) = ((T : Nat) : Int)) (hT5 : T ≤ 5) (hA : ∀ t : Nat, t < T → M ((258 : Nat) : Int) ((t : Nat) : Int) = ((tm (A t) : Nat) : Int)) (hb : ∀ t' : Nat, t = ((t' : Nat) : Int) → t' < T → ¬ (tm (A t') ≤ 8 ∧ 0 ≤ i ∧ i < ((tm (A t') : Nat) : Int))) (hk : K (some (0, -1)) M) : zR O F_Model_at [(2, 250), (0, t), (0, i)] M K := by
  apply r_Model_at hO
  unfold B_Model_at
  have f12 := zMF (k := 12) hS rfl; have a258 := zMA (a := 258) (ty := .int) (n := 7) hS rfl; have f61 := zMF (k := 61) hS rfl; have a296 := zMA (a := 296) (ty := .int) (n := 8) hS rfl; have zo := zMO hS
  by_cases ht : 0 ≤ t ∧ t < ((T : Nat) : Int)
  · obtain ⟨t, rfl⟩ : ∃ t' : Nat, t = ((t' : Nat) : Int) := ⟨t.toNat, by omega⟩
    have g := hA t (by omega)
    have h2 := hb t rfl (by omega)
    by_cases e1 : 8 < tm (A t)
    · ((with_reducible refine i_Seq (i_If (i_cOr (i_cOr (i_cOr (i_cNot (i_cZ_ne (i_Call (i_as1 (i_A0 (i_as1 (i_L1 (i_as0 ?_))))))))))))); (with_reducible refine i_recv0 (by assumption) ?_); (refine m_isTelling hO hS hT ⟨_, rfl, ?_⟩); (rw [decide_eq_true ht]); rw [zbI_t]; (with_reducible refine i_t (by omega) ?_); (with_reducible refine i_cI_gt (i_IA (i_FR (i_A0 ?_)))); (with_reducible refine i_fldR (by assumption) ?_); (with_reducible refine i_L1 ?_); (with_reducible refine i_in (by assumption) (by omega) (by omega) ?_); (with_reducible refine i_I ?_); (rw [g]); (with_reducible refine i_t (by omega) ?_); (with_reducible refine i_RetI (i_I ?_)))
      exact hk
    · by_cases e2 : i < 0
      · ((with_reducible refine i_Seq (i_If (i_cOr (i_cOr (i_cOr (i_cNot (i_cZ_ne (i_Call (i_as1 (i_A0 (i_as1 (i_L1 (i_as0 ?_))))))))))))); (with_reducible refine i_recv0 (by assumption) ?_); (refine m_isTelling hO hS hT ⟨_, rfl, ?_⟩); (rw [decide_eq_true ht]); rw [zbI_t]; (with_reducible refine i_t (by omega) ?_); (with_reducible refine i_cI_gt (i_IA (i_FR (i_A0 ?_)))); (with_reducible refine i_fldR (by assumption) ?_); (with_reducible refine i_L1 ?_); (with_reducible refine i_in (by assumption) (by omega) (by omega) ?_); (with_reducible refine i_I ?_); (rw [g]); (with_reducible refine i_f (by omega) ?_); (with_reducible refine i_cZ_lt (i_L2 ?_)); (with_reducible refine i_t (by omega) ?_); (with_reducible refine i_RetI (i_I ?_)))
        exact hk
      · ((with_reducible refine i_Seq (i_If (i_cOr (i_cOr (i_cOr (i_cNot (i_cZ_ne (i_Call (i_as1 (i_A0 (i_as1 (i_L1 (i_as0 ?_))))))))))))); (with_reducible refine i_recv0 (by assumption) ?_); (refine m_isTelling hO hS hT ⟨_, rfl, ?_⟩); (rw [decide_eq_true ht]); rw [zbI_t]; (with_reducible refine i_t (by omega) ?_); (with_reducible refine i_cI_gt (i_IA (i_FR (i_A0 ?_)))); (with_reducible refine i_fldR (by assumption) ?_); (with_reducible refine i_L1 ?_); (with_reducible refine i_in (by assumption) (by omega) (by omega) ?_); (with_reducible refine i_I ?_); (rw [g]); (with_reducible refine i_f (by omega) ?_); (with_reducible refine i_cZ_lt (i_L2 ?_)); (with_reducible refine i_f (by omega) ?_); (with_reducible refine i_cI_ge (i_L2 (i_IA (i_FR (i_A0 ?_))))); (with_reducible refine i_fldR (by assumption) ?_); (with_reducible refine i_L1 ?_); (with_reducible refine i_in (by assumption) (by omega) (by omega) ?_); (rw [g]); (with_reducible refine i_t (by omega) ?_); (with_reducible refine i_RetI (i_I ?_)))
        exact hk
  · ((with_reducible refine i_Seq (i_If (i_cOr (i_cOr (i_cOr (i_cNot (i_cZ_ne (i_Call (i_as1 (i_A0 (i_as1 (i_L1 (i_as0 ?_))))))))))))); (with_reducible refine i_recv0 (by assumption) ?_); (refine m_isTelling hO hS hT ⟨_, rfl, ?_⟩); (rw [decide_eq_false ht]); rw [zbI_f]; (with_reducible refine i_f (by omega) ?_); (with_reducible refine i_RetI (i_I ?_)))
    exact hk
theorem m_at {O : zOm} (hO : zWld O) (hS : zS O = zmS zC0) {t T n i : Nat} {A : zTl} {M : zMem} {K : Option zV → zMem → Prop} (hT : M 250 ((11 : Nat) : Int) = ((T : Nat) : Int)) (hT5 : T ≤ 5) (ht : t < T) (hn : M 250 ((1 : Nat) : Int) = ((n : Nat) : Int)) (hn1 : 0 < n) (hn2 : n ≤ 16) (hA : rTe M t n A) (hw : zTw n A) (hm8 : tm A ≤ 8) (hi : i < tm A)
    (hk : ∀ M', (∀ b j, ¬ (b = 268 ∨ ((294 : Nat) : Int) ≤ b ∧ b ≤ ((296 : Nat) : Int)) → M' b j = M b j) → K (some (0, ((zLin (tm A) (zlw n A) i : Nat) : Int))) M') : zR O F_Model_at [(2, 250), (0, ((t : Nat) : Int)), (0, ((i : Nat) : Int))] M K := by
  have g := hA.1.1
  apply r_Model_at hO
  unfold B_Model_at
  have f12 := zMF (k := 12) hS rfl; have a258 := zMA (a := 258) (ty := .int) (n := 7) hS rfl; have f61 := zMF (k := 61) hS rfl; have a296 := zMA (a := 296) (ty := .int) (n := 8) hS rfl; have zo := zMO hS
  ((with_reducible refine i_Seq (i_If (i_cOr (i_cOr (i_cOr (i_cNot (i_cZ_ne (i_Call (i_as1 (i_A0 (i_as1 (i_L1 (i_as0 ?_))))))))))))); (with_reducible refine i_recv0 (by assumption) ?_); (refine m_isTelling hO hS hT ⟨_, rfl, ?_⟩); (rw [decide_eq_true (show 0 ≤ ((t : Nat) : Int) ∧ ((t : Nat) : Int) < ((T : Nat) : Int) by omega)]); rw [zbI_t]; (with_reducible refine i_t (by omega) ?_); (with_reducible refine i_cI_gt (i_IA (i_FR (i_A0 ?_)))); (with_reducible refine i_fldR (by assumption) ?_); (with_reducible refine i_L1 ?_); (with_reducible refine i_in (by assumption) (by omega) (by omega) ?_); (with_reducible refine i_I ?_); (rw [g]); (with_reducible refine i_f (by omega) ?_); (with_reducible refine i_cZ_lt (i_L2 ?_)); (with_reducible refine i_f (by omega) ?_); (with_reducible refine i_cI_ge (i_L2 (i_IA (i_FR (i_A0 ?_))))); (with_reducible refine i_fldR (by assumption) ?_); (with_reducible refine i_L1 ?_); (with_reducible refine i_in (by assumption) (by omega) (by omega) ?_); (rw [g]); (with_reducible refine i_f (by omega) ?_); (with_reducible refine i_Seq (i_Set (i_Call (i_as1 (i_A0 (i_as1 (i_L1 (i_as0 ?_)))))))); (with_reducible refine i_recv0 (by assumption) ?_); simp only [w_set0, w_set1, w_setn0, w_setn1])
  refine m_lineOf hO hS (by omega) hn hn1 hn2 hA hw hm8 (fun M1 f1 g1 => ⟨_, rfl, ?_⟩)
  have g2 := g1 i hi
  ((with_reducible refine i_RetI (i_IA (i_FR (i_A0 ?_)))); (with_reducible refine i_fldR (by assumption) ?_); (with_reducible refine i_L2 ?_); (with_reducible refine i_in (by assumption) (by omega) (by omega) ?_); (rw [g2]))
  exact hk M1 f1
