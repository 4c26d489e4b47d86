/-! ===== rows by the rule ===== -/
/-- the first of the least: (place, value), (-1, 0) if there is none -/
def zmnF (B : Nat → Bool) (d : Nat → Nat) : Nat → Int × Int
  | 0 => (-1, 0)
  | k + 1 => if B k = true ∧ ((zmnF B d k).1 < 0 ∨ ((d k : Nat) : Int) < (zmnF B d k).2) then (((k : Nat) : Int), ((d k : Nat) : Int)) else zmnF B d k
theorem zmnF_su (B : Nat → Bool) (d : Nat → Nat) (k : Nat) : zmnF B d (k + 1) = if B k = true ∧ ((zmnF B d k).1 < 0 ∨ ((d k : Nat) : Int) < (zmnF B d k).2) then (((k : Nat) : Int), ((d k : Nat) : Int)) else zmnF B d k := rfl
theorem zmnF_ok (B : Nat → Bool) (d : Nat → Nat) (n : Nat) : ((zmnF B d n).1 = -1 ∧ (zmnF B d n).2 = 0 ∧ ∀ p, p < n → B p = false) ∨ ∃ p : Nat, (zmnF B d n).1 = p ∧ (zmnF B d n).2 = d p ∧ p < n ∧ B p = true ∧ ∀ q, q < n → B q = true → (d p < d q ∨ d p = d q ∧ p ≤ q) := by
  induction n with
  | zero => exact Or.inl ⟨rfl, rfl, fun p hp => absurd hp (Nat.not_lt_zero _)⟩
  | succ n ih =>
    unfold zmnF
    cases hB : B n
    · rw [if_neg (fun q => by simp at q)]
      rcases ih with ⟨h1, h2, h3⟩ | ⟨p, h1, h2, h3, h4, h5⟩
      · exact Or.inl ⟨h1, h2, fun p hp => by rcases Nat.lt_or_ge p n with q | q; exact h3 p q; rw [show p = n by omega]; exact hB⟩
      · exact Or.inr ⟨p, h1, h2, by omega, h4, fun q hq hb => by rcases Nat.lt_or_ge q n with w | w; exact h5 q w hb; rw [show q = n by omega, hB] at hb; cases hb⟩
    · rcases ih with ⟨h1, h2, h3⟩ | ⟨p, h1, h2, h3, h4, h5⟩
      · rw [if_pos ⟨rfl, Or.inl (by omega)⟩]
        exact Or.inr ⟨n, rfl, rfl, by omega, hB, fun q hq hb => by rcases Nat.lt_or_ge q n with w | w; rw [h3 q w] at hb; cases hb; rw [show q = n by omega]; exact Or.inr ⟨rfl, Nat.le_refl _⟩⟩
      · by_cases e : d n < d p
        · rw [if_pos ⟨rfl, Or.inr (by omega)⟩]
          exact Or.inr ⟨n, rfl, rfl, by omega, hB, fun q hq hb => by
            rcases Nat.lt_or_ge q n with w | w
            · have := h5 q w hb; omega
            · rw [show q = n by omega]; exact Or.inr ⟨rfl, Nat.le_refl _⟩⟩
        · rw [if_neg (fun q => by rcases q.2 with w | w <;> omega)]
          exact Or.inr ⟨p, h1, h2, by omega, h4, fun q hq hb => by
            rcases Nat.lt_or_ge q n with w | w
            · exact h5 q w hb
            · have : q = n := by omega
              subst this; omega⟩
/-- the least place of n - k .. n - 1 with s, or -1 -/
def zlst (s : Nat → Bool) (n : Nat) : Nat → Int
  | 0 => -1
  | k + 1 => if s (n - 1 - k) = true then ((n - 1 - k : Nat) : Int) else zlst s n k
theorem zlst_su (s : Nat → Bool) (n k : Nat) : zlst s n (k + 1) = if s (n - 1 - k) = true then ((n - 1 - k : Nat) : Int) else zlst s n k := rfl
theorem zlst_ok (s : Nat → Bool) (n k : Nat) (hk : k ≤ n) : (zlst s n k = -1 ∧ ∀ q, n - k ≤ q → q < n → s q = false) ∨ ∃ q : Nat, zlst s n k = q ∧ n - k ≤ q ∧ q < n ∧ s q = true ∧ ∀ j, n - k ≤ j → j < q → s j = false := by
  induction k with
  | zero => exact Or.inl ⟨rfl, fun q h1 h2 => absurd h2 (by omega)⟩
  | succ k ih =>
    unfold zlst
    cases hs : s (n - 1 - k)
    · simp only [Bool.false_eq_true, if_false]
      rcases ih (by omega) with ⟨h1, h2⟩ | ⟨q, h1, h2, h3, h4, h5⟩
      · exact Or.inl ⟨h1, fun q a b => by rcases Nat.lt_or_ge q (n - k) with w | w; rw [show q = n - 1 - k by omega]; exact hs; exact h2 q w b⟩
      · exact Or.inr ⟨q, h1, by omega, h3, h4, fun j a b => by rcases Nat.lt_or_ge j (n - k) with w | w; rw [show j = n - 1 - k by omega]; exact hs; exact h5 j w b⟩
    · simp only [if_true]
      exact Or.inr ⟨n - 1 - k, rfl, by omega, by omega, hs, fun j a b => absurd b (by omega)⟩
theorem zlst_n (s : Nat → Bool) (n : Nat) : zlst s n n = if zfind s n < n then ((zfind s n : Nat) : Int) else -1 := by
  rcases zlst_ok s n n (Nat.le_refl _) with ⟨h1, h2⟩ | ⟨q, h1, h2, h3, h4, h5⟩
  · rw [h1, zfind_no (fun j hj => h2 j (by omega) hj), if_neg (Nat.lt_irrefl _)]
  · rw [h1, zfind_eq h3 h4 (fun j hj => h5 j (by omega) hj), if_pos h3]
/-- ties of a post within its box -/
def zdeg (n : Nat) (B : Nat → Bool) (T : Nat → Nat → Bool) (p : Nat) : Nat := zcnt (fun q => decide (q ≠ p) && (B q && T p q)) n
/-- the one that follows in a row -/
def znxt (n : Nat) (B : Nat → Bool) (T : Nat → Nat → Bool) (L : Nat → Bool) (last : Nat) : Nat :=
  if zfind (fun q => (B q && !L q) && T last q) n < n then zfind (fun q => (B q && !L q) && T last q) n else if zfind (fun q => B q && !L q) n < n then zfind (fun q => B q && !L q) n else last
/-- the k-th of a row, and those ahead of it -/
def zlyS (n : Nat) (B : Nat → Bool) (T : Nat → Nat → Bool) (first : Nat) : Nat → Nat × (Nat → Bool)
  | 0 => (first, fun _ => false)
  | k + 1 => (znxt n B T (fun q => (zlyS n B T first k).2 q || decide (q = (zlyS n B T first k).1)) (zlyS n B T first k).1, fun q => (zlyS n B T first k).2 q || decide (q = (zlyS n B T first k).1))
def zrow (n : Nat) (f : Nat → Nat) (T : Nat → Nat → Bool) (i k : Nat) : Nat := (zlyS n (fun p => decide (f p = i)) T (zmnF (fun p => decide (f p = i)) (zdeg n (fun p => decide (f p = i)) T) n).1.toNat k).1
theorem m_isIn {O : zOm} (hO : zWld O) (hS : zS O = zmS zC0) {t p b n : Nat} {f : Nat → Nat} {M : zMem} {K : Option zV → zMem → Prop} (ht : t < 7) (hb : rBox M t n f) (hp : p < n) (hn : n ≤ 16) (hk : K (some (0, zbI (decide (f p = b)))) M) : zR O F_Model_isIn [(2, 250), (0, ((t : Nat) : Int)), (0, ((p : Nat) : Int)), (0, ((b : Nat) : Int))] M K := by
  have hb1 := hb p hp
  apply r_Model_isIn hO
  unfold B_Model_isIn
  have f13 := zMF (k := 13) hS rfl; have a259 := zMA (a := 259) (ty := .int) (n := 112) hS rfl; have zo := zMO hS
  (focus ((with_reducible refine i_RetZ (i_eIf (i_cI_eq (i_IA (i_FR (i_A0 ?_)))))); (with_reducible refine i_fldR (by assumption) ?_); (with_reducible refine i_Add (i_Mul (i_I (i_L1 (i_L2 ?_))))); rw [zx_cmul (by omega)]; rw [zx_add (by omega)]; (with_reducible refine i_in (by assumption) (by omega) (by omega) ?_); (with_reducible refine i_L3 ?_); (rw [hb1]); (with_reducible refine i_br ?_ ?_ <;> intro hc); (focus ((with_reducible refine i_I ?_); (with_reducible refine i_z (Or.inr rfl) ?_))); rotate_left; (focus ((with_reducible refine i_I ?_); (with_reducible refine i_z (Or.inl rfl) ?_))); rotate_right))
  · rw [decide_eq_true (by omega)] at hk; exact hk
  · rw [decide_eq_false (by omega)] at hk; exact hk
theorem znxt_lt {n : Nat} {B : Nat → Bool} {T : Nat → Nat → Bool} {L : Nat → Bool} {last : Nat} (h : last < n) : znxt n B T L last < n := by
  unfold znxt
  split
  · assumption
  · split
    · assumption
    · exact h
theorem zlyS_lt {n : Nat} {B : Nat → Bool} {T : Nat → Nat → Bool} {first : Nat} (h : first < n) (k : Nat) : (zlyS n B T first k).1 < n := by
  cases k with
  | zero => exact h
  | succ k => exact znxt_lt (zlyS_lt h k)
theorem m_lay {O : zOm} (hO : zWld O) (hS : zS O = zmS zC0) {t n i sz : Nat} {f : Nat → Nat} {T : Nat → Nat → Bool} {M : zMem} {K : Option zV → zMem → Prop} (ht : t < 7) (hn : M 250 ((1 : Nat) : Int) = ((n : Nat) : Int)) (hn2 : n ≤ 16) (hi : i < 16) (hb : rBox M t n f) (hT : rMx M 267 T) (hs : M ((260 : Nat) : Int) ((16 * t + i : Nat) : Int) = ((sz : Nat) : Int)) (hs2 : sz ≤ 16) (hne : ∃ p, p < n ∧ f p = i)
    (hk : ∀ M', (∀ b j, ¬ (b = ((261 : Nat) : Int) ∧ ((256 * t + 16 * i : Nat) : Int) ≤ j ∧ j < ((256 * t + 16 * i + 16 : Nat) : Int) ∨ b = ((284 : Nat) : Int)) → M' b j = M b j) → (∀ k : Nat, k < sz → M' ((261 : Nat) : Int) ((256 * t + 16 * i + k : Nat) : Int) = ((zrow n f T i k : Nat) : Int)) → K none M') : zR O F_Model_lay [(2, 250), (0, ((t : Nat) : Int)), (0, ((i : Nat) : Int))] M K := by
  apply r_Model_lay hO
  unfold B_Model_lay
  have f1 := zMF (k := 1) hS rfl; have f42 := zMF (k := 42) hS rfl; have a284 := zMA (a := 284) (ty := .boolean) (n := 16) hS rfl; have f21 := zMF (k := 21) hS rfl; have a267 := zMA (a := 267) (ty := .boolean) (n := 256) hS rfl; have f14 := zMF (k := 14) hS rfl; have a260 := zMA (a := 260) (ty := .int) (n := 112) hS rfl; have f15 := zMF (k := 15) hS rfl; have a261 := zMA (a := 261) (ty := .int) (n := 1792) hS rfl; have zo := zMO hS
  ((with_reducible refine i_Seq (i_Seq (i_Set (i_I (i_Seq (i_Set (i_I (i_Seq (i_Blk (i_Seq (i_Set (i_I ?_)))))))))))); simp only [w_set0, w_set1, w_setn0, w_setn1])
  refine w_ForN n (fun p ρ M' => (∃ l, ρ = 250 :: ((t : Nat) : Int) :: ((i : Nat) : Int) :: (zmnF (fun p => decide (f p = i)) (zdeg n (fun p => decide (f p = i)) T) p).1 :: (zmnF (fun p => decide (f p = i)) (zdeg n (fun p => decide (f p = i)) T) p).2 :: ((p : Nat) : Int) :: l) ∧ (∀ b j, ¬ b = ((284 : Nat) : Int) → M' b j = M b j) ∧ ∀ q : Nat, q < p → M' ((284 : Nat) : Int) ((q : Nat) : Int) = 0) ⟨⟨_, rfl⟩, fun _ _ _ => rfl, fun q hq => absurd hq (by omega)⟩ ?_ ?_
  · rintro p ρ M1 X hp ⟨⟨l, rfl⟩, hf, h⟩ hX
    have gn : M1 250 ((1 : Nat) : Int) = ((n : Nat) : Int) := (hf _ _ (by omega)).trans hn
    have hv : ∀ q : Nat, q < p + 1 → zput M1 ((284 : Nat) : Int) (zup (M1 ((284 : Nat) : Int)) ((p : Nat) : Int) 0) ((284 : Nat) : Int) ((q : Nat) : Int) = 0 := fun q hq => by
      by_cases e : q = p
      · subst e; rw [zg_s]
      · rw [zg_m _ _ _ _ _ (by omega)]; exact h q (by omega)
    have hfr : ∀ b j, ¬ b = ((284 : Nat) : Int) → zput M1 ((284 : Nat) : Int) (zup (M1 ((284 : Nat) : Int)) ((p : Nat) : Int) 0) b j = M b j := (by intro b j q; ((rw [zg_n _ _ _ (by omega)])); first | done | rfl | exact hf b j (by omega))
    have hb1 : rBox (zput M1 ((284 : Nat) : Int) (zup (M1 ((284 : Nat) : Int)) ((p : Nat) : Int) 0)) t n f := fun q hq => by rw [hfr _ _ (by omega)]; exact hb q hq
    have hT1 : rMx (zput M1 ((284 : Nat) : Int) (zup (M1 ((284 : Nat) : Int)) ((p : Nat) : Int) 0)) 267 T := hT.to (fun j => hfr _ _ (by omega))
    have gn1 : (zput M1 ((284 : Nat) : Int) (zup (M1 ((284 : Nat) : Int)) ((p : Nat) : Int) 0)) 250 ((1 : Nat) : Int) = ((n : Nat) : Int) := (hfr _ _ (by omega)).trans hn
    ((with_reducible refine i_turn (i_cI_lt (i_L5 (i_F (i_A0 ?_))))); (with_reducible refine i_fld (by assumption) ?_); (rw [gn]); (with_reducible refine i_t (by omega) ?_); (with_reducible refine i_Blk (i_Seq (i_sZA (i_FR (i_A0 ?_))))); (with_reducible refine i_fldR (by assumption) ?_); (with_reducible refine i_L5 (i_I ?_)); (with_reducible refine i_zin (Or.inl rfl) (by assumption) (by omega) (by omega) ?_); (with_reducible refine i_Seq (i_IfBrk (i_cNot (i_cZ_ne (i_Call (i_as1 (i_A0 (i_as1 (i_L1 (i_as1 (i_L5 (i_as1 (i_L2 (i_as0 ?_)))))))))))))); (with_reducible refine i_recv0 (by assumption) ?_))
    generalize zput M1 ((284 : Nat) : Int) (zup (M1 ((284 : Nat) : Int)) ((p : Nat) : Int) 0) = M2 at hv hfr hb1 hT1 gn1 ⊢
    refine m_isIn hO hS ht hb1 hp hn2 ⟨_, rfl, ?_⟩
    have hX4 : ∀ (l : zLoc) (x y : Int), (x, y) = zmnF (fun p => decide (f p = i)) (zdeg n (fun p => decide (f p = i)) T) (p + 1) → X (250 :: ((t : Nat) : Int) :: ((i : Nat) : Int) :: x :: y :: ((p + 1 : Nat) : Int) :: l) M2 := fun l x y hxy => by
      have h1 : x = (zmnF (fun p => decide (f p = i)) (zdeg n (fun p => decide (f p = i)) T) (p + 1)).1 := by rw [← hxy]
      have h2 : y = (zmnF (fun p => decide (f p = i)) (zdeg n (fun p => decide (f p = i)) T) (p + 1)).2 := by rw [← hxy]
      subst h1; subst h2
      exact hX _ _ ⟨⟨l, rfl⟩, hfr, hv⟩
    by_cases e : f p = i
    · ((rw [decide_eq_true e]); rw [zbI_t]; (with_reducible refine i_t (by omega) ?_); (with_reducible refine i_Seq (i_Set (i_I (i_Seq (i_Blk (i_Seq (i_Set (i_I ?_)))))))); simp only [w_set0, w_set1, w_setn0, w_setn1]; rw [w_setT]; simp only [w_set0, w_set1, w_setn0, w_setn1]; rw [w_setT])
      refine w_ForN n (fun q ρ M' => (∃ l, ρ = 250 :: ((t : Nat) : Int) :: ((i : Nat) : Int) :: (zmnF (fun p => decide (f p = i)) (zdeg n (fun p => decide (f p = i)) T) p).1 :: (zmnF (fun p => decide (f p = i)) (zdeg n (fun p => decide (f p = i)) T) p).2 :: ((p : Nat) : Int) :: ((zcnt (fun q => decide (q ≠ p) && (decide (f q = i) && T p q)) q : Nat) : Int) :: ((q : Nat) : Int) :: l) ∧ M' = M2) ⟨⟨_, rfl⟩, rfl⟩ ?_ ?_
      · rintro q ρ M3 X1 hq ⟨⟨l, rfl⟩, rfl⟩ hX1
        have gT := hT1 p q (by omega) (by omega)
        have hc := zcnt_le (fun q => decide (q ≠ p) && (decide (f q = i) && T p q)) q
        have hX3 : ∀ (l : zLoc) (c : Nat), c = zcnt (fun q => decide (q ≠ p) && (decide (f q = i) && T p q)) (q + 1) → X1 (250 :: ((t : Nat) : Int) :: ((i : Nat) : Int) :: (zmnF (fun p => decide (f p = i)) (zdeg n (fun p => decide (f p = i)) T) p).1 :: (zmnF (fun p => decide (f p = i)) (zdeg n (fun p => decide (f p = i)) T) p).2 :: ((p : Nat) : Int) :: ((c : Nat) : Int) :: ((q + 1 : Nat) : Int) :: l) M3 := fun l c hc => by subst hc; exact hX1 _ _ ⟨⟨l, rfl⟩, rfl⟩
        (focus ((with_reducible refine i_turn (i_cI_lt (i_L7 (i_F (i_A0 ?_))))); (with_reducible refine i_fld (by assumption) ?_); (rw [gn1]); (with_reducible refine i_t (by omega) ?_); (with_reducible refine i_If (i_cAnd (i_cAnd (i_cI_ne (i_L7 (i_L5 ?_)))))); (with_reducible refine i_br ?_ ?_ <;> intro hc); (focus ((with_reducible refine i_cZ_ne (i_Call (i_as1 (i_A0 (i_as1 (i_L1 (i_as1 (i_L7 (i_as1 (i_L2 (i_as0 ?_))))))))))); (with_reducible refine i_recv0 (by assumption) ?_); (refine m_isIn hO hS ht hb1 hq hn2 ⟨_, rfl, ?_⟩); (with_reducible refine i_dne ?_ ?_ <;> intro hc); (focus ((with_reducible refine i_cZ_ne (i_ZA (i_FR (i_A0 ?_)))); (with_reducible refine i_fldR (by assumption) ?_); (with_reducible refine i_Add (i_Mul (i_I (i_L5 (i_L7 ?_))))); rw [zx_cmul (by omega)]; rw [zx_add (by omega)]; (with_reducible refine i_in (by assumption) (by omega) (by omega) ?_); (rw [gT]); (with_reducible refine i_bne ?_ ?_ <;> intro hc); (focus ((with_reducible refine i_Inc6 (i_up ?_)); rw [zx_inc (by omega)]; simp only [w_set0, w_set1, w_setn0, w_setn1]; (with_reducible refine i_Inc7 ?_); rw [zx_inc (by omega)]; simp only [w_set0, w_set1, w_setn0, w_setn1])); rotate_left; (focus ((with_reducible refine i_up (i_Inc7 ?_)); rw [zx_inc (by omega)]; simp only [w_set0, w_set1, w_setn0, w_setn1])); rotate_right)); rotate_left 2; (focus ((with_reducible refine i_up (i_Inc7 ?_)); rw [zx_inc (by omega)]; simp only [w_set0, w_set1, w_setn0, w_setn1])); rotate_right 2)); rotate_left 3; (focus ((with_reducible refine i_up (i_Inc7 ?_)); rw [zx_inc (by omega)]; simp only [w_set0, w_set1, w_setn0, w_setn1])); rotate_right 3))
        all_goals first
          | exact hX3 _ _ (by rw [zcnt, if_pos (by simp; exact ⟨by omega, by assumption, by assumption⟩)])
          | exact hX3 _ _ (by rw [zcnt, if_neg (by simp; intros; first | omega | (simp [*]) | contradiction)]; rfl)
      · rintro ρ M3 X1 ⟨⟨l, rfl⟩, rfl⟩
        (focus ((with_reducible refine i_turn (i_cI_lt (i_L7 (i_F (i_A0 ?_))))); (with_reducible refine i_fld (by assumption) ?_); (rw [gn1]); (with_reducible refine i_f (by omega) ?_); (with_reducible refine i_If (i_cOr (i_cZ_lt (i_L3 ?_)))); (with_reducible refine i_br ?_ ?_ <;> intro hc); (focus ((with_reducible refine i_Seq (i_Set (i_L5 (i_Set ?_)))); simp only [w_set0, w_set1, w_setn0, w_setn1]; (with_reducible refine i_L6 (i_up ?_)); simp only [w_set0, w_set1, w_setn0, w_setn1]; (with_reducible refine i_Inc5 ?_); rw [zx_inc (by omega)]; simp only [w_set0, w_set1, w_setn0, w_setn1])); rotate_left; (focus ((with_reducible refine i_cI_lt (i_L6 (i_L4 ?_))); (with_reducible refine i_br ?_ ?_ <;> intro hc); (focus ((with_reducible refine i_Seq (i_Set (i_L5 (i_Set ?_)))); simp only [w_set0, w_set1, w_setn0, w_setn1]; (with_reducible refine i_L6 (i_up ?_)); simp only [w_set0, w_set1, w_setn0, w_setn1]; (with_reducible refine i_Inc5 ?_); rw [zx_inc (by omega)]; simp only [w_set0, w_set1, w_setn0, w_setn1])); rotate_left; (focus ((with_reducible refine i_up (i_Inc5 ?_)); rw [zx_inc (by omega)]; simp only [w_set0, w_set1, w_setn0, w_setn1])); rotate_right)); rotate_right))
        all_goals first
          | exact hX4 _ _ _ (by rw [zmnF_su, if_pos ⟨decide_eq_true e, Or.inl (by assumption)⟩]; rfl)
          | exact hX4 _ _ _ (by rw [zmnF_su, if_pos ⟨decide_eq_true e, Or.inr (by assumption)⟩]; rfl)
          | exact hX4 _ _ _ (by rw [zmnF_su, if_neg (fun q => by rcases q.2 with w | w <;> contradiction)])
    · ((rw [decide_eq_false e]); rw [zbI_f]; (with_reducible refine i_f (by omega) ?_); (with_reducible refine i_lab1 (i_up (i_Inc5 ?_))); rw [zx_inc (by omega)]; simp only [w_set0, w_set1, w_setn0, w_setn1])
      exact hX4 _ _ _ (by rw [zmnF_su, if_neg (fun q => e (of_decide_eq_true q.1))])
  rintro ρ M1 X ⟨⟨l, rfl⟩, hf1, h1⟩
  have gn : M1 250 ((1 : Nat) : Int) = ((n : Nat) : Int) := (hf1 _ _ (by omega)).trans hn
  obtain ⟨fst, e1, e2, e3, e4⟩ : ∃ p : Nat, (zmnF (fun p => decide (f p = i)) (zdeg n (fun p => decide (f p = i)) T) n).1 = ((p : Nat) : Int) ∧ p < n ∧ f p = i ∧ True := by
    rcases zmnF_ok (fun p => decide (f p = i)) (zdeg n (fun p => decide (f p = i)) T) n with ⟨h1, h2, h3⟩ | ⟨p, h1, h2, h3, h4, h5⟩
    · obtain ⟨p, hp, hp2⟩ := hne
      exact absurd (h3 p hp) (by simp [hp2])
    · exact ⟨p, h1, h3, of_decide_eq_true h4, trivial⟩
  have er : ∀ k, zrow n f T i k = (zlyS n (fun p => decide (f p = i)) T fst k).1 := fun k => by unfold zrow; rw [e1]; rfl
  rw [e1]
  ((with_reducible refine i_turn (i_cI_lt (i_L5 (i_F (i_A0 ?_))))); (with_reducible refine i_fld (by assumption) ?_); (rw [gn]); (with_reducible refine i_f (by omega) ?_); (with_reducible refine i_Seq (i_Set (i_L3 (i_Blk (i_Seq (i_Set (i_I ?_))))))); simp only [w_set0, w_set1, w_setn0, w_setn1]; rw [w_setT])
  refine w_ForN sz (fun k ρ M' => (∃ l x, ρ = 250 :: ((t : Nat) : Int) :: ((i : Nat) : Int) :: ((fst : Nat) : Int) :: x :: (((zlyS n (fun p => decide (f p = i)) T fst k).1 : Nat) : Int) :: ((k : Nat) : Int) :: l) ∧ (∀ b j, ¬ (b = ((261 : Nat) : Int) ∧ ((256 * t + 16 * i : Nat) : Int) ≤ j ∧ j < ((256 * t + 16 * i + 16 : Nat) : Int) ∨ b = ((284 : Nat) : Int)) → M' b j = M b j) ∧ (∀ q : Nat, q < n → M' ((284 : Nat) : Int) ((q : Nat) : Int) = zbI ((zlyS n (fun p => decide (f p = i)) T fst k).2 q)) ∧ (∀ j : Nat, j < k → M' ((261 : Nat) : Int) ((256 * t + 16 * i + j : Nat) : Int) = ((zrow n f T i j : Nat) : Int))) ⟨⟨_, _, rfl⟩, fun b j q => hf1 b j (by omega), fun q hq => h1 q hq, fun j hj => absurd hj (by omega)⟩ ?_ ?_
  · rintro k ρ M2 X1 hk1 ⟨⟨l, x, rfl⟩, hf, hl, hr⟩ hX1
    have gs : M2 ((260 : Nat) : Int) ((16 * t + i : Nat) : Int) = ((sz : Nat) : Int) := (hf _ _ (by omega)).trans hs
    have gn2 : M2 250 ((1 : Nat) : Int) = ((n : Nat) : Int) := (hf _ _ (by omega)).trans hn
    have hlt := zlyS_lt (n := n) (B := fun p => decide (f p = i)) (T := T) (first := fst) e2 k
    have e5 : zlyS n (fun p => decide (f p = i)) T fst (k + 1) = (znxt n (fun p => decide (f p = i)) T (fun q => (zlyS n (fun p => decide (f p = i)) T fst k).2 q || decide (q = (zlyS n (fun p => decide (f p = i)) T fst k).1)) (zlyS n (fun p => decide (f p = i)) T fst k).1, fun q => (zlyS n (fun p => decide (f p = i)) T fst k).2 q || decide (q = (zlyS n (fun p => decide (f p = i)) T fst k).1)) := rfl
    have e6 := er k
    generalize (zlyS n (fun p => decide (f p = i)) T fst k).1 = last at hlt e5 e6 ⊢
    generalize (zlyS n (fun p => decide (f p = i)) T fst k).2 = L at hl e5 ⊢
    ((with_reducible refine i_turn (i_cI_lt (i_L6 (i_IA (i_FR (i_A0 ?_)))))); (with_reducible refine i_fldR (by assumption) ?_); (with_reducible refine i_Add (i_Mul (i_I (i_L1 (i_L2 ?_))))); rw [zx_cmul (by omega)]; rw [zx_add (by omega)]; (with_reducible refine i_in (by assumption) (by omega) (by omega) ?_); (rw [gs]); (with_reducible refine i_t (by omega) ?_); (with_reducible refine i_Blk (i_Seq (i_sIA (i_FR (i_A0 ?_))))); (with_reducible refine i_fldR (by assumption) ?_); (with_reducible refine i_Add (i_Add (i_Mul (i_I (i_L1 (i_Mul (i_I (i_L2 (i_L6 (i_L5 ?_)))))))))); rw [zx_cmul (by omega)]; rw [zx_cmul (by omega)]; rw [zx_add (by omega)]; rw [zx_add (by omega)]; (with_reducible refine i_in (by assumption) (by omega) (by omega) ?_); (with_reducible refine i_Seq (i_sZA (i_FR (i_A0 ?_)))); (with_reducible refine i_fldR (by assumption) ?_); (with_reducible refine i_L5 (i_I ?_)); (with_reducible refine i_zin (Or.inr rfl) (by assumption) (by omega) (by omega) ?_); (with_reducible refine i_Seq (i_Set (i_I (i_Seq (i_Set (i_I (i_Seq (i_Blk (i_Seq (i_Set (i_Sub (i_F ?_)))))))))))); simp only [w_set0, w_set1, w_setn0, w_setn1]; (with_reducible refine i_A0 ?_); (with_reducible refine i_fld (by assumption) ?_); (with_reducible refine i_I ?_); rw [zg_n _ _ _ (by omega)]; rw [zg_n _ _ _ (by omega)]; (rw [gn2]); rw [zx_subc (by omega) (by omega)]; simp only [w_set0, w_set1, w_setn0, w_setn1]; rw [w_setT]; simp only [w_set0, w_set1, w_setn0, w_setn1]; rw [w_setT]; simp only [w_set0, w_set1, w_setn0, w_setn1]; rw [w_setT])
    have hfr : ∀ b j, ¬ (b = ((261 : Nat) : Int) ∧ ((256 * t + 16 * i : Nat) : Int) ≤ j ∧ j < ((256 * t + 16 * i + 16 : Nat) : Int) ∨ b = ((284 : Nat) : Int)) → zput (zput M2 ((261 : Nat) : Int) (zup (M2 ((261 : Nat) : Int)) ((256 * t + 16 * i + k : Nat) : Int) ((last : Nat) : Int))) ((284 : Nat) : Int) (zup ((zput M2 ((261 : Nat) : Int) (zup (M2 ((261 : Nat) : Int)) ((256 * t + 16 * i + k : Nat) : Int) ((last : Nat) : Int))) ((284 : Nat) : Int)) ((last : Nat) : Int) 1) b j = M b j := (by intro b j q; ((rw [zg_n _ _ _ (by omega)]; rw [zg_o _ _ (by omega)])); first | done | rfl | exact hf b j (by omega))
    have hrr : ∀ j : Nat, j < k + 1 → zput (zput M2 ((261 : Nat) : Int) (zup (M2 ((261 : Nat) : Int)) ((256 * t + 16 * i + k : Nat) : Int) ((last : Nat) : Int))) ((284 : Nat) : Int) (zup ((zput M2 ((261 : Nat) : Int) (zup (M2 ((261 : Nat) : Int)) ((256 * t + 16 * i + k : Nat) : Int) ((last : Nat) : Int))) ((284 : Nat) : Int)) ((last : Nat) : Int) 1) ((261 : Nat) : Int) ((256 * t + 16 * i + j : Nat) : Int) = ((zrow n f T i j : Nat) : Int) := fun j hj => by
      by_cases e : j = k
      · subst e
        (rw [zg_n _ _ _ (by omega)]; rw [zg_s])
        rw [e6]
      · (rw [zg_n _ _ _ (by omega)]; rw [zg_m _ _ _ _ _ (by omega)])
        exact hr j (by omega)
    have hll : ∀ q : Nat, q < n → zput (zput M2 ((261 : Nat) : Int) (zup (M2 ((261 : Nat) : Int)) ((256 * t + 16 * i + k : Nat) : Int) ((last : Nat) : Int))) ((284 : Nat) : Int) (zup ((zput M2 ((261 : Nat) : Int) (zup (M2 ((261 : Nat) : Int)) ((256 * t + 16 * i + k : Nat) : Int) ((last : Nat) : Int))) ((284 : Nat) : Int)) ((last : Nat) : Int) 1) ((284 : Nat) : Int) ((q : Nat) : Int) = zbI (L q || decide (q = last)) := fun q hq => by
      by_cases e : q = last
      · subst e
        (rw [zg_s]; simp only [w_set0, w_set1, w_setn0, w_setn1])
        simp [zbI]
      · (rw [zg_m _ _ _ _ _ (by omega)]; rw [zg_n _ _ _ (by omega)])
        rw [hl q hq]; simp [e]
    generalize zput (zput M2 ((261 : Nat) : Int) (zup (M2 ((261 : Nat) : Int)) ((256 * t + 16 * i + k : Nat) : Int) ((last : Nat) : Int))) ((284 : Nat) : Int) (zup ((zput M2 ((261 : Nat) : Int) (zup (M2 ((261 : Nat) : Int)) ((256 * t + 16 * i + k : Nat) : Int) ((last : Nat) : Int))) ((284 : Nat) : Int)) ((last : Nat) : Int) 1) = M3 at hfr hrr hll ⊢
    have gn3 : M3 250 ((1 : Nat) : Int) = ((n : Nat) : Int) := (hfr _ _ (by omega)).trans hn
    have hb3 : rBox M3 t n f := fun q hq => by rw [hfr _ _ (by omega)]; exact hb q hq
    have hT3 : rMx M3 267 T := hT.to (fun j => hfr _ _ (by omega))
    (skip)
    rw [show ((n - 1 : Nat) : Int) = ((n : Nat) : Int) - 1 - ((0 : Nat) : Int) by omega]
    refine w_ForN n (fun j ρ M' => (∃ l, ρ = 250 :: ((t : Nat) : Int) :: ((i : Nat) : Int) :: ((fst : Nat) : Int) :: x :: ((last : Nat) : Int) :: ((k : Nat) : Int) :: zlst (fun q => (decide (f q = i) && !(L q || decide (q = last))) && T last q) n j :: zlst (fun q => decide (f q = i) && !(L q || decide (q = last))) n j :: (((n : Nat) : Int) - 1 - ((j : Nat) : Int)) :: l) ∧ M' = M3) ⟨⟨_, rfl⟩, rfl⟩ ?_ ?_
    · rintro j ρ M4 X2 hj ⟨⟨l, rfl⟩, rfl⟩ hX2
      have hX3 : ∀ (l : zLoc) (x1 x2 x3 : Int), x1 = zlst (fun q => (decide (f q = i) && !(L q || decide (q = last))) && T last q) n (j + 1) → x2 = zlst (fun q => decide (f q = i) && !(L q || decide (q = last))) n (j + 1) → x3 = ((n : Nat) : Int) - 1 - ((j + 1 : Nat) : Int) → X2 (250 :: ((t : Nat) : Int) :: ((i : Nat) : Int) :: ((fst : Nat) : Int) :: x :: ((last : Nat) : Int) :: ((k : Nat) : Int) :: x1 :: x2 :: x3 :: l) M4 := fun l x1 x2 x3 e1 e2 e3 => by subst e1; subst e2; subst e3; exact hX2 _ _ ⟨⟨l, rfl⟩, rfl⟩
      rw [zlst_su, zlst_su] at hX3
      have hq : n - 1 - j < n := by omega
      have e7 := hll _ hq
      have e8 := hT3 last (n - 1 - j) (by omega) (by omega)
      rw [show (((n : Nat) : Int) : Int) - 1 - ((j : Nat) : Int) = ((n - 1 - j : Nat) : Int) by omega]
      generalize hqe : n - 1 - j = q at hq e7 e8 hX3 ⊢
      cases hc1 : decide (f q = i) <;> cases hc2 : (L q || decide (q = last)) <;> cases hc3 : T last q <;> simp only [hc1, hc2, hc3, Bool.not_true, Bool.not_false, Bool.and_true, Bool.and_false, Bool.true_and, Bool.false_and, Bool.false_eq_true, if_true, if_false] at hX3 e7 e8
      all_goals (first | (((with_reducible refine i_turn (i_cZ_ge (i_L9 ?_))); (with_reducible refine i_t (by omega) ?_); (with_reducible refine i_Seq (i_IfBrk (i_cOr (i_cNot (i_cZ_ne (i_Call (i_as1 (i_A0 (i_as1 (i_L1 (i_as1 (i_L9 (i_as1 (i_L2 (i_as0 ?_))))))))))))))); (with_reducible refine i_recv0 (by assumption) ?_); (refine m_isIn hO hS ht hb3 hq hn2 ⟨_, rfl, ?_⟩); (rw [hc1]); rw [zbI_t]; (with_reducible refine i_t (by omega) ?_); (with_reducible refine i_cZ_ne (i_ZA (i_FR (i_A0 ?_)))); (with_reducible refine i_fldR (by assumption) ?_); (with_reducible refine i_L9 ?_); (with_reducible refine i_in (by assumption) (by omega) (by omega) ?_); (rw [e7]); rw [zbI_f]; (with_reducible refine i_f (by omega) ?_); (with_reducible refine i_Seq (i_Set (i_L9 (i_If (i_cZ_ne (i_ZA (i_FR ?_))))))); simp only [w_set0, w_set1, w_setn0, w_setn1]; (with_reducible refine i_A0 ?_); (with_reducible refine i_fldR (by assumption) ?_); (with_reducible refine i_Add (i_Mul (i_I (i_L5 (i_L9 ?_))))); rw [zx_cmul (by omega)]; rw [zx_add (by omega)]; (with_reducible refine i_in (by assumption) (by omega) (by omega) ?_); (rw [e8]); rw [zbI_t]; (with_reducible refine i_t (by omega) ?_); (with_reducible refine i_Set (i_L9 (i_up ?_))); simp only [w_set0, w_set1, w_setn0, w_setn1]; (with_reducible refine i_Inc9 ?_); rw [zx_s (by omega) (by omega)]; simp only [w_set0, w_set1, w_setn0, w_setn1])) | (((with_reducible refine i_turn (i_cZ_ge (i_L9 ?_))); (with_reducible refine i_t (by omega) ?_); (with_reducible refine i_Seq (i_IfBrk (i_cOr (i_cNot (i_cZ_ne (i_Call (i_as1 (i_A0 (i_as1 (i_L1 (i_as1 (i_L9 (i_as1 (i_L2 (i_as0 ?_))))))))))))))); (with_reducible refine i_recv0 (by assumption) ?_); (refine m_isIn hO hS ht hb3 hq hn2 ⟨_, rfl, ?_⟩); (rw [hc1]); rw [zbI_t]; (with_reducible refine i_t (by omega) ?_); (with_reducible refine i_cZ_ne (i_ZA (i_FR (i_A0 ?_)))); (with_reducible refine i_fldR (by assumption) ?_); (with_reducible refine i_L9 ?_); (with_reducible refine i_in (by assumption) (by omega) (by omega) ?_); (rw [e7]); rw [zbI_f]; (with_reducible refine i_f (by omega) ?_); (with_reducible refine i_Seq (i_Set (i_L9 (i_If (i_cZ_ne (i_ZA (i_FR ?_))))))); simp only [w_set0, w_set1, w_setn0, w_setn1]; (with_reducible refine i_A0 ?_); (with_reducible refine i_fldR (by assumption) ?_); (with_reducible refine i_Add (i_Mul (i_I (i_L5 (i_L9 ?_))))); rw [zx_cmul (by omega)]; rw [zx_add (by omega)]; (with_reducible refine i_in (by assumption) (by omega) (by omega) ?_); (rw [e8]); rw [zbI_f]; (with_reducible refine i_f (by omega) ?_); (with_reducible refine i_up (i_Inc9 ?_)); rw [zx_s (by omega) (by omega)]; simp only [w_set0, w_set1, w_setn0, w_setn1])) | (((with_reducible refine i_turn (i_cZ_ge (i_L9 ?_))); (with_reducible refine i_t (by omega) ?_); (with_reducible refine i_Seq (i_IfBrk (i_cOr (i_cNot (i_cZ_ne (i_Call (i_as1 (i_A0 (i_as1 (i_L1 (i_as1 (i_L9 (i_as1 (i_L2 (i_as0 ?_))))))))))))))); (with_reducible refine i_recv0 (by assumption) ?_); (refine m_isIn hO hS ht hb3 hq hn2 ⟨_, rfl, ?_⟩); (rw [hc1]); rw [zbI_t]; (with_reducible refine i_t (by omega) ?_); (with_reducible refine i_cZ_ne (i_ZA (i_FR (i_A0 ?_)))); (with_reducible refine i_fldR (by assumption) ?_); (with_reducible refine i_L9 ?_); (with_reducible refine i_in (by assumption) (by omega) (by omega) ?_); (rw [e7]); rw [zbI_t]; (with_reducible refine i_t (by omega) ?_); (with_reducible refine i_lab1 (i_up (i_Inc9 ?_))); rw [zx_s (by omega) (by omega)]; simp only [w_set0, w_set1, w_setn0, w_setn1])) | (((with_reducible refine i_turn (i_cZ_ge (i_L9 ?_))); (with_reducible refine i_t (by omega) ?_); (with_reducible refine i_Seq (i_IfBrk (i_cOr (i_cNot (i_cZ_ne (i_Call (i_as1 (i_A0 (i_as1 (i_L1 (i_as1 (i_L9 (i_as1 (i_L2 (i_as0 ?_))))))))))))))); (with_reducible refine i_recv0 (by assumption) ?_); (refine m_isIn hO hS ht hb3 hq hn2 ⟨_, rfl, ?_⟩); (rw [hc1]); rw [zbI_f]; (with_reducible refine i_f (by omega) ?_); (with_reducible refine i_lab1 (i_up (i_Inc9 ?_))); rw [zx_s (by omega) (by omega)]; simp only [w_set0, w_set1, w_setn0, w_setn1])))
      all_goals exact hX3 _ _ _ _ rfl rfl (by omega)
    · rintro ρ M4 X2 ⟨⟨l, rfl⟩, rfl⟩
      have hX3 : ∀ (l : zLoc) (y : Int), y = (((zlyS n (fun p => decide (f p = i)) T fst (k + 1)).1 : Nat) : Int) → X1 (250 :: ((t : Nat) : Int) :: ((i : Nat) : Int) :: ((fst : Nat) : Int) :: x :: y :: ((k + 1 : Nat) : Int) :: l) M4 := fun l y e => by
        subst e
        exact hX1 _ _ ⟨⟨l, x, rfl⟩, hfr, fun q hq => by rw [e5]; exact hll q hq, hrr⟩
      rw [e5] at hX3
      unfold znxt at hX3
      rw [show (((n : Nat) : Int) : Int) - 1 - ((n : Nat) : Int) = -1 by omega, zlst_n, zlst_n]
      by_cases c1 : zfind (fun q => (decide (f q = i) && !(L q || decide (q = last))) && T last q) n < n
      · rw [if_pos c1]
        ((with_reducible refine i_turn (i_cZ_ge (i_L9 ?_))); (with_reducible refine i_f (by omega) ?_); (with_reducible refine i_Set (i_eIf (i_cZ_ge (i_L7 ?_)))); (with_reducible refine i_t (by omega) ?_); (with_reducible refine i_L7 (i_up ?_)); simp only [w_set0, w_set1, w_setn0, w_setn1]; (with_reducible refine i_Inc6 ?_); rw [zx_inc (by omega)]; simp only [w_set0, w_set1, w_setn0, w_setn1])
        exact hX3 _ _ (by rw [if_pos c1])
      · rw [if_neg c1]
        by_cases c2 : zfind (fun q => decide (f q = i) && !(L q || decide (q = last))) n < n
        · rw [if_pos c2]
          ((with_reducible refine i_turn (i_cZ_ge (i_L9 ?_))); (with_reducible refine i_f (by omega) ?_); (with_reducible refine i_Set (i_eIf (i_cZ_ge (i_L7 ?_)))); (with_reducible refine i_f (by omega) ?_); (with_reducible refine i_eIf (i_cZ_ge (i_L8 ?_))); (with_reducible refine i_t (by omega) ?_); (with_reducible refine i_L8 (i_up ?_)); simp only [w_set0, w_set1, w_setn0, w_setn1]; (with_reducible refine i_Inc6 ?_); rw [zx_inc (by omega)]; simp only [w_set0, w_set1, w_setn0, w_setn1])
          exact hX3 _ _ (by rw [if_neg c1, if_pos c2])
        · rw [if_neg c2]
          ((with_reducible refine i_turn (i_cZ_ge (i_L9 ?_))); (with_reducible refine i_f (by omega) ?_); (with_reducible refine i_Set (i_eIf (i_cZ_ge (i_L7 ?_)))); (with_reducible refine i_f (by omega) ?_); (with_reducible refine i_eIf (i_cZ_ge (i_L8 ?_))); (with_reducible refine i_f (by omega) ?_); (with_reducible refine i_L5 (i_up ?_)); simp only [w_set0, w_set1, w_setn0, w_setn1]; (with_reducible refine i_Inc6 ?_); rw [zx_inc (by omega)]; simp only [w_set0, w_set1, w_setn0, w_setn1])
          exact hX3 _ _ (by rw [if_neg c1, if_neg c2])
  · rintro ρ M2 X1 ⟨⟨l, x, rfl⟩, hf, hl, hr⟩
    have gs : M2 ((260 : Nat) : Int) ((16 * t + i : Nat) : Int) = ((sz : Nat) : Int) := (hf _ _ (by omega)).trans hs
    ((with_reducible refine i_turn (i_cI_lt (i_L6 (i_IA (i_FR (i_A0 ?_)))))); (with_reducible refine i_fldR (by assumption) ?_); (with_reducible refine i_Add (i_Mul (i_I (i_L1 (i_L2 ?_))))); rw [zx_cmul (by omega)]; rw [zx_add (by omega)]; (with_reducible refine i_in (by assumption) (by omega) (by omega) ?_); (rw [gs]); (with_reducible refine i_f (by omega) ?_); (with_reducible refine i_RetV ?_))
    exact hk _ hf hr
