/-! ===== excepts told and left out ===== -/
/-- which cells are excepts -/
def tX (A : zTl) (c : Nat) : Bool := decide (tv A (c / 16) (c % 16) ≠ 0)
/-- a telling with other excepts -/
def zTv (A : zTl) (v : Nat → Nat → Nat) : zTl := (A.1, A.2.1, A.2.2.1, v)
theorem zTv_S (n : Nat) (A : zTl) (v : Nat → Nat → Nat) : tS n (zTv A v) = tS n A := rfl
theorem zTv_w {n : Nat} {A : zTl} {v : Nat → Nat → Nat} (hw : zTw n A) (h1 : ∀ a b, v a b ≠ 0 → tv A a b ≠ 0) (h2 : ∀ a b, v a b ≤ 2) : zTw n (zTv A v) := ⟨hw.1, hw.2.1, hw.2.2.1, fun a b h => hw.2.2.2.1 a b (h1 a b h), h2⟩
theorem tX_in {n : Nat} {A : zTl} (hn : n ≤ 16) (hw : zTw n A) {c : Nat} (h : tX A c = true) : c / 16 < c % 16 ∧ c % 16 < n ∧ c < 256 := by
  have := hw.2.2.2.1 _ _ (of_decide_eq_true h)
  omega
theorem tX_ut {n : Nat} {A : zTl} (hw : zTw n A) : zut (fun p q => decide (tvs A p q ≠ 0)) = tX A := funext fun c => by
  show (decide (tvs A (c / 16) (c % 16) ≠ 0) && decide (c / 16 < c % 16)) = decide (tv A (c / 16) (c % 16) ≠ 0)
  by_cases h : c / 16 < c % 16
  · rw [tvs_lt h, decide_eq_true h, Bool.and_true]
  · rw [decide_eq_false h, Bool.and_false]
    exact (decide_eq_false (fun z => h (hw.2.2.2.1 _ _ z).1)).symm
theorem tX_reg {n : Nat} {A : zTl} (hw : zTw n A) : zReg n (fun p q => decide (tvs A p q ≠ 0)) := tvs_reg hw.2.2.2.1 (fun k => decide (k ≠ 0)) rfl
theorem tX_cnt {n : Nat} {A : zTl} (hn : n ≤ 16) (hw : zTw n A) : zcnt (tX A) 256 = zpairs n (fun p q => decide (tvs A p q ≠ 0)) := by
  rw [zpairs_p2 (tX_reg hw) hn]
  have h := zcnt_rows (fun p q => decide (tvs A p q ≠ 0)) 16 0 (by omega)
  rw [tX_ut hw] at h
  rw [show 16 * 16 + 0 = 256 from rfl] at h
  rw [h]
  show zsum _ 16 + 0 = _
  unfold zp2
  have h2 : zsum (fun a => zcnt (zutr (fun p q => decide (tvs A p q ≠ 0)) a) 16) 16 = zsum (fun a => zcnt (zutr (fun p q => decide (tvs A p q ≠ 0)) a) 16) n := zsum_top (fun a ha => zcnt_z fun q _ => by
    unfold zutr
    cases e : decide (tvs A a q ≠ 0)
    · show (decide (tvs A a q ≠ 0) && decide (a < q)) = false
      rw [e]; rfl
    · have := ((tX_reg hw).lt e).1; omega) hn
  rw [Nat.add_zero, h2]
  refine zsum_ext fun a _ => ?_
  rw [zcnt_top (c := n) (fun q hq => ?_) hn]
  · exact zcnt_ext fun q _ => Bool.and_comm _ _
  · unfold zutr
    cases e : decide (tvs A a q ≠ 0)
    · show (decide (tvs A a q ≠ 0) && decide (a < q)) = false
      rw [e]; rfl
    · have := ((tX_reg hw).lt e).2; omega
/-- the k-th of a set of cells -/
theorem zkth {s : Nat → Bool} {k n : Nat} (h : k < zcnt s n) : ∃ c, c < n ∧ s c = true ∧ zcnt s c = k := by
  induction n with
  | zero => exact absurd h (Nat.not_lt_zero _)
  | succ n ih =>
    rw [zcnt_su] at h
    by_cases e : k < zcnt s n
    · obtain ⟨c, h1, h2⟩ := ih e
      exact ⟨c, by omega, h2⟩
    · by_cases w : s n = true
      · rw [if_pos w] at h
        exact ⟨n, by omega, w, by omega⟩
      · rw [if_neg w] at h; omega
theorem zpk_cases (s : Nat → Bool) (k : Int) (n : Nat) : (∃ c : Nat, zpk s k n = ((c : Nat) : Int) ∧ c < n ∧ s c = true ∧ k = ((zcnt s c : Nat) : Int)) ∨ (zpk s k n = -1 ∧ (k < 0 ∨ ((zcnt s n : Nat) : Int) ≤ k)) := by
  by_cases h : k < 0 ∨ ((zcnt s n : Nat) : Int) ≤ k
  · exact Or.inr ⟨zpk_none h, h⟩
  · obtain ⟨c, h1, h2, h3⟩ := zkth (s := s) (k := k.toNat) (n := n) (by omega)
    exact Or.inl ⟨c, zpk_some h1 h2 (by omega), h1, h2, by omega⟩
/-! the reference -/
theorem m_exceptAt {O : zOm} (hO : zWld O) (hS : zS O = zmS zC0) {t n : Nat} {k : Int} {A : zTl} {M : zMem} {K : Option zV → zMem → Prop} (ht : t < 7) (hA : rTe M t n A) (hw : zTw n A) (hk0 : 0 ≤ k)
    (hk : K (some (0, zpk (tX A) k 256)) M) : zR O F_Model_exceptAt [(2, 250), (0, ((t : Nat) : Int)), (0, k)] M K := by
  obtain ⟨-, -, -, h9⟩ := hA
  have gv : ∀ c : Nat, c < 256 → M ((266 : Nat) : Int) ((256 * t + c : Nat) : Int) = ((tv A (c / 16) (c % 16) : Nat) : Int) := fun c hc => by
    have := h9 (c / 16) (c % 16) (by omega) (by omega)
    rwa [show 256 * t + 16 * (c / 16) + c % 16 = 256 * t + c by omega] at this
  apply r_Model_exceptAt hO
  unfold B_Model_exceptAt
  have f20 := zMF (k := 20) hS rfl; have a266 := zMA (a := 266) (ty := .int) (n := 1792) hS rfl; have zo := zMO hS
  ((with_reducible refine i_Seq (i_Set (i_I (i_Seq (i_Blk (i_Seq (i_Set (i_I ?_)))))))); simp only [w_set0, w_set1, w_setn0, w_setn1])
  refine w_ForN 256 (fun c ρ M' => (∃ l, ρ = 250 :: ((t : Nat) : Int) :: k :: ((zcnt (tX A) c : Nat) : Int) :: ((c : Nat) : Int) :: l) ∧ M' = M ∧ ((zcnt (tX A) c : Nat) : Int) ≤ k) ⟨⟨_, rfl⟩, rfl, hk0⟩ ?_ ?_
  · rintro c ρ M1 X hc ⟨⟨l, rfl⟩, rfl, hle⟩ hX
    have g := gv c hc
    have hcl := zcnt_le (tX A) c
    have hv := hw.2.2.2.2 (c / 16) (c % 16)
    have hsu := zcnt_su (tX A) c
    by_cases e : tv A (c / 16) (c % 16) = 0
    · have hx : tX A c = false := decide_eq_false (fun z => z e)
      rw [e] at g
      rw [hx] at hsu
      ((with_reducible refine i_turn (i_cI_lt (i_L4 (i_I ?_)))); (with_reducible refine i_t (by omega) ?_); (with_reducible refine i_Seq (i_IfBrk (i_cZ_eq (i_IA (i_FR (i_A0 ?_)))))); (with_reducible refine i_fldR (by assumption) ?_); (with_reducible refine i_Add (i_Mul (i_I (i_L1 (i_L4 ?_))))); rw [zx_cmul (by omega)]; rw [zx_add (by omega)]; (with_reducible refine i_in (by assumption) (by omega) (by omega) ?_); (rw [g]); (with_reducible refine i_t (by omega) ?_); (with_reducible refine i_lab1 (i_up (i_Inc4 ?_))); rw [zx_inc (by omega)]; simp only [w_set0, w_set1, w_setn0, w_setn1])
      exact hX _ _ ⟨⟨_, by rw [hsu]; rfl⟩, rfl, by rw [hsu]; exact hle⟩
    · have hx : tX A c = true := decide_eq_true e
      rw [hx, if_pos rfl] at hsu
      by_cases z : ((zcnt (tX A) c : Nat) : Int) = k
      · have hp := zpk_some (n := 256) hc hx z
        rw [hp] at hk
        ((with_reducible refine i_turn (i_cI_lt (i_L4 (i_I ?_)))); (with_reducible refine i_t (by omega) ?_); (with_reducible refine i_Seq (i_IfBrk (i_cZ_eq (i_IA (i_FR (i_A0 ?_)))))); (with_reducible refine i_fldR (by assumption) ?_); (with_reducible refine i_Add (i_Mul (i_I (i_L1 (i_L4 ?_))))); rw [zx_cmul (by omega)]; rw [zx_add (by omega)]; (with_reducible refine i_in (by assumption) (by omega) (by omega) ?_); (rw [g]); ((with_reducible refine i_f (show ¬ (((tv A (c / 16) (c % 16) : Nat) : Int) : Int) = 0 by omega) ?_)); (with_reducible refine i_Seq (i_If (i_cI_eq (i_L3 (i_L2 ?_))))); ((with_reducible refine i_t z ?_)); (with_reducible refine i_RetI (i_L4 ?_)))
        exact hk
      · ((with_reducible refine i_turn (i_cI_lt (i_L4 (i_I ?_)))); (with_reducible refine i_t (by omega) ?_); (with_reducible refine i_Seq (i_IfBrk (i_cZ_eq (i_IA (i_FR (i_A0 ?_)))))); (with_reducible refine i_fldR (by assumption) ?_); (with_reducible refine i_Add (i_Mul (i_I (i_L1 (i_L4 ?_))))); rw [zx_cmul (by omega)]; rw [zx_add (by omega)]; (with_reducible refine i_in (by assumption) (by omega) (by omega) ?_); (rw [g]); ((with_reducible refine i_f (show ¬ (((tv A (c / 16) (c % 16) : Nat) : Int) : Int) = 0 by omega) ?_)); (with_reducible refine i_Seq (i_If (i_cI_eq (i_L3 (i_L2 ?_))))); ((with_reducible refine i_f z ?_)); (with_reducible refine i_Inc3 (i_up ?_)); rw [zx_inc (by omega)]; simp only [w_set0, w_set1, w_setn0, w_setn1]; (with_reducible refine i_Inc4 ?_); rw [zx_inc (by omega)]; simp only [w_set0, w_set1, w_setn0, w_setn1])
        exact hX _ _ ⟨⟨_, by rw [hsu]⟩, rfl, by rw [hsu]; omega⟩
  · rintro ρ M1 X ⟨⟨l, rfl⟩, rfl, hle⟩
    rw [zpk_none (Or.inr hle)] at hk
    ((with_reducible refine i_turn (i_cI_lt (i_L4 (i_I ?_)))); (with_reducible refine i_f (by omega) ?_); (with_reducible refine i_RetI (i_I ?_)))
    exact hk
theorem m_exceptsOf {O : zOm} (hO : zWld O) (hS : zS O = zmS zC0) {t n : Nat} {A : zTl} {M : zMem} {K : Option zV → zMem → Prop} (ht : t < 7) (hA : rTe M t n A) (hw : zTw n A) (hk : K (some (0, ((zcnt (tX A) 256 : Nat) : Int))) M) : zR O F_Model_exceptsOf [(2, 250), (0, ((t : Nat) : Int))] M K := by
  obtain ⟨-, -, -, h9⟩ := hA
  have gv : ∀ c : Nat, c < 256 → M ((266 : Nat) : Int) ((256 * t + c : Nat) : Int) = ((tv A (c / 16) (c % 16) : Nat) : Int) := fun c hc => by
    have := h9 (c / 16) (c % 16) (by omega) (by omega)
    rwa [show 256 * t + 16 * (c / 16) + c % 16 = 256 * t + c by omega] at this
  apply r_Model_exceptsOf hO
  unfold B_Model_exceptsOf
  have f20 := zMF (k := 20) hS rfl; have a266 := zMA (a := 266) (ty := .int) (n := 1792) hS rfl; have zo := zMO hS
  ((with_reducible refine i_Seq (i_Set (i_I (i_Seq (i_Blk (i_Seq (i_Set (i_I ?_)))))))); simp only [w_set0, w_set1, w_setn0, w_setn1])
  refine w_ForN 256 (fun c ρ M' => (∃ l, ρ = 250 :: ((t : Nat) : Int) :: ((zcnt (tX A) c : Nat) : Int) :: ((c : Nat) : Int) :: l) ∧ M' = M) ⟨⟨_, rfl⟩, rfl⟩ ?_ ?_
  · rintro c ρ M1 X hc ⟨⟨l, rfl⟩, rfl⟩ hX
    have g := gv c hc
    have hcl := zcnt_le (tX A) c
    have hsu := zcnt_su (tX A) c
    by_cases e : tv A (c / 16) (c % 16) = 0
    · have hx : tX A c = false := decide_eq_false (fun z => z e)
      rw [e] at g
      rw [hx] at hsu
      ((with_reducible refine i_turn (i_cI_lt (i_L3 (i_I ?_)))); (with_reducible refine i_t (by omega) ?_); (with_reducible refine i_Set (i_Add (i_L2 (i_eIf (i_cZ_ne (i_IA (i_FR (i_A0 ?_)))))))); (with_reducible refine i_fldR (by assumption) ?_); (with_reducible refine i_Add (i_Mul (i_I (i_L1 (i_L3 ?_))))); rw [zx_cmul (by omega)]; rw [zx_add (by omega)]; (with_reducible refine i_in (by assumption) (by omega) (by omega) ?_); (rw [g]); (with_reducible refine i_f (by omega) ?_); (with_reducible refine i_I (i_up ?_)); rw [zx_addc (by omega)]; simp only [w_set0, w_set1, w_setn0, w_setn1]; (with_reducible refine i_Inc3 ?_); rw [zx_inc (by omega)]; simp only [w_set0, w_set1, w_setn0, w_setn1])
      exact hX _ _ ⟨⟨_, by rw [hsu]; rfl⟩, rfl⟩
    · have hx : tX A c = true := decide_eq_true e
      rw [hx, if_pos rfl] at hsu
      ((with_reducible refine i_turn (i_cI_lt (i_L3 (i_I ?_)))); (with_reducible refine i_t (by omega) ?_); (with_reducible refine i_Set (i_Add (i_L2 (i_eIf (i_cZ_ne (i_IA (i_FR (i_A0 ?_)))))))); (with_reducible refine i_fldR (by assumption) ?_); (with_reducible refine i_Add (i_Mul (i_I (i_L1 (i_L3 ?_))))); rw [zx_cmul (by omega)]; rw [zx_add (by omega)]; (with_reducible refine i_in (by assumption) (by omega) (by omega) ?_); (rw [g]); ((with_reducible refine i_t (show (((tv A (c / 16) (c % 16) : Nat) : Int) : Int) ≠ 0 by omega) ?_)); (with_reducible refine i_I (i_up ?_)); rw [zx_inc (by omega)]; simp only [w_set0, w_set1, w_setn0, w_setn1]; (with_reducible refine i_Inc3 ?_); rw [zx_inc (by omega)]; simp only [w_set0, w_set1, w_setn0, w_setn1])
      exact hX _ _ ⟨⟨_, by rw [hsu]⟩, rfl⟩
  · rintro ρ M1 X ⟨⟨l, rfl⟩, rfl⟩
    ((with_reducible refine i_turn (i_cI_lt (i_L3 (i_I ?_)))); (with_reducible refine i_f (by omega) ?_); (with_reducible refine i_RetI (i_L2 ?_)))
    exact hk
/-- a cell of the excepts changed -/
def zv1 (A : zTl) (c x : Nat) : Nat → Nat → Nat := fun a b => if 16 * a + b = c ∧ b < 16 then x else tv A a b
theorem rTe.up {M : zMem} {t n c x : Nat} {A : zTl} (ht : t < 7) (hc : c < 256) (h : rTe M t n A) : rTe (zput M ((266 : Nat) : Int) (zup (M ((266 : Nat) : Int)) ((256 * t + c : Nat) : Int) ((x : Nat) : Int))) t n (zTv A (zv1 A c x)) := by
  obtain ⟨⟨h1, h2, h3⟩, ⟨h4, h5, h6, h7⟩, h8, h9⟩ := h
  refine ⟨⟨by rw [zg_n _ _ _ (by omega)]; exact h1, fun q hq => by rw [zg_n _ _ _ (by omega)]; exact h2 q hq, fun b hb => by rw [zg_n _ _ _ (by omega)]; exact h3 b hb⟩, ⟨fun b hb => by rw [zg_n _ _ _ (by omega)]; exact h4 b hb, fun a b ha hb => by rw [zg_n _ _ _ (by omega)]; exact h5 a b ha hb, fun a b ha hb => by rw [zg_n _ _ _ (by omega)]; exact h6 a b ha hb, fun b hb => by rw [zg_n _ _ _ (by omega)]; exact h7 b hb⟩, fun i k hi hk => by rw [zg_n _ _ _ (by omega)]; exact h8 i k hi hk, fun a b ha hb => ?_⟩
  show _ = ((zv1 A c x a b : Nat) : Int)
  unfold zv1
  by_cases e : 16 * a + b = c
  · rw [if_pos ⟨e, hb⟩, show 256 * t + 16 * a + b = 256 * t + c by omega, zg_s]
  · rw [if_neg (fun z => e z.1), zg_m _ _ _ _ _ (by omega)]
    exact h9 a b ha hb
theorem zv1_w {n c x : Nat} {A : zTl} (hw : zTw n A) (hX : tX A c = true) (hx : x ≤ 2) : zTw n (zTv A (zv1 A c x)) := by
  refine zTv_w hw (fun a b h => ?_) (fun a b => ?_)
  · unfold zv1 at h
    by_cases e : 16 * a + b = c ∧ b < 16
    · have h2 := of_decide_eq_true hX
      rw [← e.1, show (16 * a + b) / 16 = a by omega, show (16 * a + b) % 16 = b by omega] at h2
      exact h2
    · rw [if_neg e] at h; exact h
  · unfold zv1
    have := hw.2.2.2.2 a b
    split <;> omega
theorem tX_zv1 {c x : Nat} {A : zTl} (hX : tX A c = true) (hx : x ≠ 0) : tX (zTv A (zv1 A c x)) = tX A := funext fun d => by
  show decide (zv1 A c x (d / 16) (d % 16) ≠ 0) = decide (tv A (d / 16) (d % 16) ≠ 0)
  unfold zv1
  by_cases e : 16 * (d / 16) + d % 16 = c ∧ d % 16 < 16
  · have : d = c := by omega
    subst this
    rw [if_pos e]
    exact decide_eq_decide.mpr ⟨fun _ => of_decide_eq_true hX, fun _ => hx⟩
  · rw [if_neg e]
theorem m_leave_bad {O : zOm} (hO : zWld O) (hS : zS O = zmS zC0) {t : Int} {k v : Int} {T n : Nat} {A : Nat → zTl} {M : zMem} {K : Option zV → zMem → Prop} (hn : M 250 ((11 : Nat) : Int) = ((T : Nat) : Int)) (hT : T ≤ 5) (hA : ∀ t : Nat, t < T → rTe M t n (A t) ∧ zTw n (A t)) (hb : ¬ (0 ≤ t ∧ t < ((T : Nat) : Int)) ∨ k < 0 ∨ ∀ t' : Nat, t = ((t' : Nat) : Int) → ((zcnt (tX (A t')) 256 : Nat) : Int) ≤ k) (hk : K (some (0, 0)) M) : zR O F_Model_leave [(2, 250), (0, t), (0, k), (0, v)] M K := by
  apply r_Model_leave hO
  unfold B_Model_leave
  have f20 := zMF (k := 20) hS rfl; have a266 := zMA (a := 266) (ty := .int) (n := 1792) hS rfl; have zo := zMO hS
  by_cases h : 0 ≤ t ∧ t < ((T : Nat) : Int)
  · obtain ⟨t', rfl⟩ : ∃ t' : Nat, t = ((t' : Nat) : Int) := ⟨t.toNat, by omega⟩
    obtain ⟨h1, h2⟩ := hA t' (by omega)
    by_cases h0 : 0 ≤ k
    · have hx : zpk (tX (A t')) k 256 = -1 := zpk_none (Or.inr (by
        rcases hb with z | z | z
        · exact absurd h z
        · omega
        · exact z t' rfl))
      ((with_reducible refine i_Seq (i_Set (i_eIf (i_cAnd (i_cZ_ne (i_Call (i_as1 (i_A0 (i_as1 (i_L1 (i_as0 ?_))))))))))); (with_reducible refine i_recv0 (by assumption) ?_); (refine m_isTelling hO hS hn ⟨_, rfl, ?_⟩); (rw [decide_eq_true h]); rw [zbI_t]; (with_reducible refine i_t (by omega) ?_); (with_reducible refine i_cZ_ge (i_L2 ?_)); (with_reducible refine i_t (by omega) ?_); (with_reducible refine i_Call (i_as1 (i_A0 (i_as1 (i_L1 (i_as1 (i_L2 (i_as0 ?_)))))))); (with_reducible refine i_recv0 (by assumption) ?_); (refine m_exceptAt hO hS (by omega) h1 h2 h0 ⟨_, rfl, ?_⟩); (with_reducible refine i_Seq (i_If (i_cZ_lt ?_))); (rw [hx]); simp only [w_set0, w_set1, w_setn0, w_setn1]; (with_reducible refine i_L4 ?_); (with_reducible refine i_t (by omega) ?_); (with_reducible refine i_RetZ (i_I ?_)); (with_reducible refine i_z (Or.inl rfl) ?_))
      exact hk
    · ((with_reducible refine i_Seq (i_Set (i_eIf (i_cAnd (i_cZ_ne (i_Call (i_as1 (i_A0 (i_as1 (i_L1 (i_as0 ?_))))))))))); (with_reducible refine i_recv0 (by assumption) ?_); (refine m_isTelling hO hS hn ⟨_, rfl, ?_⟩); (rw [decide_eq_true h]); rw [zbI_t]; (with_reducible refine i_t (by omega) ?_); (with_reducible refine i_cZ_ge (i_L2 ?_)); (with_reducible refine i_f (by omega) ?_); (with_reducible refine i_I (i_Seq (i_If (i_cZ_lt ?_)))); simp only [w_set0, w_set1, w_setn0, w_setn1]; (with_reducible refine i_L4 ?_); (with_reducible refine i_t (by omega) ?_); (with_reducible refine i_RetZ (i_I ?_)); (with_reducible refine i_z (Or.inl rfl) ?_))
      exact hk
  · ((with_reducible refine i_Seq (i_Set (i_eIf (i_cAnd (i_cZ_ne (i_Call (i_as1 (i_A0 (i_as1 (i_L1 (i_as0 ?_))))))))))); (with_reducible refine i_recv0 (by assumption) ?_); (refine m_isTelling hO hS hn ⟨_, rfl, ?_⟩); (rw [decide_eq_false h]); rw [zbI_f]; (with_reducible refine i_f (by omega) ?_); (with_reducible refine i_I (i_Seq (i_If (i_cZ_lt ?_)))); simp only [w_set0, w_set1, w_setn0, w_setn1]; (with_reducible refine i_L4 ?_); (with_reducible refine i_t (by omega) ?_); (with_reducible refine i_RetZ (i_I ?_)); (with_reducible refine i_z (Or.inl rfl) ?_))
    exact hk
theorem m_leave {O : zOm} (hO : zWld O) (hS : zS O = zmS zC0) {t k c T n : Nat} {out : Bool} {A : zTl} {M : zMem} {K : Option zV → zMem → Prop} (hn : M 250 ((11 : Nat) : Int) = ((T : Nat) : Int)) (hT : T ≤ 5) (ht : t < T) (hA : rTe M t n A) (hw : zTw n A) (hc : c < 256) (hX : tX A c = true) (hck : zcnt (tX A) c = k)
    (hk : ∀ M', (∀ b j, ¬ (b = 266 ∧ j = ((256 * t + c : Nat) : Int)) → M' b j = M b j) → rTe M' t n (zTv A (zv1 A c (if out = true then 2 else 1))) → K (some (0, 1)) M') : zR O F_Model_leave [(2, 250), (0, ((t : Nat) : Int)), (0, ((k : Nat) : Int)), (0, zbI out)] M K := by
  have hp : zpk (tX A) ((k : Nat) : Int) 256 = ((c : Nat) : Int) := zpk_some hc hX (by omega)
  apply r_Model_leave hO
  unfold B_Model_leave
  have f20 := zMF (k := 20) hS rfl; have a266 := zMA (a := 266) (ty := .int) (n := 1792) hS rfl; have zo := zMO hS
  cases out
  · have hu := rTe.up (x := 1) (show t < 7 by omega) hc hA
    ((with_reducible refine i_Seq (i_Set (i_eIf (i_cAnd (i_cZ_ne (i_Call (i_as1 (i_A0 (i_as1 (i_L1 (i_as0 ?_))))))))))); (with_reducible refine i_recv0 (by assumption) ?_); rw [zbI_f]; (refine m_isTelling hO hS hn ⟨_, rfl, ?_⟩); (rw [decide_eq_true (show 0 ≤ ((t : Nat) : Int) ∧ ((t : Nat) : Int) < ((T : Nat) : Int) by omega)]); rw [zbI_t]; (with_reducible refine i_t (by omega) ?_); (with_reducible refine i_cZ_ge (i_L2 ?_)); (with_reducible refine i_t (by omega) ?_); (with_reducible refine i_Call (i_as1 (i_A0 (i_as1 (i_L1 (i_as1 (i_L2 (i_as0 ?_)))))))); (with_reducible refine i_recv0 (by assumption) ?_); (refine m_exceptAt hO hS (by omega) hA hw (by omega) ⟨_, rfl, ?_⟩); (with_reducible refine i_Seq (i_If (i_cZ_lt ?_))); (rw [hp]); simp only [w_set0, w_set1, w_setn0, w_setn1]; (with_reducible refine i_L4 ?_); (with_reducible refine i_f (by omega) ?_); (with_reducible refine i_Seq (i_sIA (i_FR (i_A0 ?_)))); (with_reducible refine i_fldR (by assumption) ?_); (with_reducible refine i_Add (i_Mul (i_I (i_L1 (i_L4 (i_eIf (i_cZ_ne (i_L3 ?_)))))))); rw [zx_cmul (by omega)]; rw [zx_add (by omega)]; (with_reducible refine i_f (by omega) ?_); (with_reducible refine i_I ?_); (with_reducible refine i_in (by assumption) (by omega) (by omega) ?_); (with_reducible refine i_RetZ (i_I ?_)); (with_reducible refine i_z (Or.inr rfl) ?_))
    exact hk _ (fun b j q => by rw [zg_o _ _ (by omega)]) hu
  · have hu := rTe.up (x := 2) (show t < 7 by omega) hc hA
    ((with_reducible refine i_Seq (i_Set (i_eIf (i_cAnd (i_cZ_ne (i_Call (i_as1 (i_A0 (i_as1 (i_L1 (i_as0 ?_))))))))))); (with_reducible refine i_recv0 (by assumption) ?_); rw [zbI_t]; (refine m_isTelling hO hS hn ⟨_, rfl, ?_⟩); (rw [decide_eq_true (show 0 ≤ ((t : Nat) : Int) ∧ ((t : Nat) : Int) < ((T : Nat) : Int) by omega)]); rw [zbI_t]; (with_reducible refine i_t (by omega) ?_); (with_reducible refine i_cZ_ge (i_L2 ?_)); (with_reducible refine i_t (by omega) ?_); (with_reducible refine i_Call (i_as1 (i_A0 (i_as1 (i_L1 (i_as1 (i_L2 (i_as0 ?_)))))))); (with_reducible refine i_recv0 (by assumption) ?_); (refine m_exceptAt hO hS (by omega) hA hw (by omega) ⟨_, rfl, ?_⟩); (with_reducible refine i_Seq (i_If (i_cZ_lt ?_))); (rw [hp]); simp only [w_set0, w_set1, w_setn0, w_setn1]; (with_reducible refine i_L4 ?_); (with_reducible refine i_f (by omega) ?_); (with_reducible refine i_Seq (i_sIA (i_FR (i_A0 ?_)))); (with_reducible refine i_fldR (by assumption) ?_); (with_reducible refine i_Add (i_Mul (i_I (i_L1 (i_L4 (i_eIf (i_cZ_ne (i_L3 ?_)))))))); rw [zx_cmul (by omega)]; rw [zx_add (by omega)]; (with_reducible refine i_t (by omega) ?_); (with_reducible refine i_I ?_); (with_reducible refine i_in (by assumption) (by omega) (by omega) ?_); (with_reducible refine i_RetZ (i_I ?_)); (with_reducible refine i_z (Or.inr rfl) ?_))
    exact hk _ (fun b j q => by rw [zg_o _ _ (by omega)]) hu
