section
-- part g0.exc.lean.txt
/-! ===== excepts told and left out ===== -/
/-- which cells are excepts -/
def tX (A : zTl) (c : Nat) : Bool := decide (tv A (c / 16) (c % 16) ≠ 0)
/-- a telling with other excepts -/
def zTv (A : zTl) (v : Nat → Nat → Nat) : zTl := (A.1, A.2.1, A.2.2.1, v)
theorem zTv_S (n : Nat) (A : zTl) (v : Nat → Nat → Nat) : tS n (zTv A v) = tS n A := rfl
theorem zTv_w {n : Nat} {A : zTl} {v : Nat → Nat → Nat} (hw : zTw n A) (h1 : ∀ a b, v a b ≠ 0 → tv A a b ≠ 0) (h2 : ∀ a b, v a b ≤ 2) : zTw n (zTv A v) := ⟨hw.1, hw.2.1, hw.2.2.1, fun a b h => hw.2.2.2.1 a b (h1 a b h), h2⟩
theorem tX_in {n : Nat} {A : zTl} (hn : n ≤ 16) (hw : zTw n A) {c : Nat} (h : tX A c = true) : c / 16 < c % 16 ∧ c % 16 < n ∧ c < 256 := by
  have := hw.2.2.2.1 _ _ (of_decide_eq_true h)
  omega
theorem tX_ut {n : Nat} {A : zTl} (hw : zTw n A) : zut (fun p q => decide (tvs A p q ≠ 0)) = tX A := funext fun c => by
  show (decide (tvs A (c / 16) (c % 16) ≠ 0) && decide (c / 16 < c % 16)) = decide (tv A (c / 16) (c % 16) ≠ 0)
  by_cases h : c / 16 < c % 16
  · rw [tvs_lt h, decide_eq_true h, Bool.and_true]
  · rw [decide_eq_false h, Bool.and_false]
    exact (decide_eq_false (fun z => h (hw.2.2.2.1 _ _ z).1)).symm
theorem tX_reg {n : Nat} {A : zTl} (hw : zTw n A) : zReg n (fun p q => decide (tvs A p q ≠ 0)) := tvs_reg hw.2.2.2.1 (fun k => decide (k ≠ 0)) rfl
theorem tX_cnt {n : Nat} {A : zTl} (hn : n ≤ 16) (hw : zTw n A) : zcnt (tX A) 256 = zpairs n (fun p q => decide (tvs A p q ≠ 0)) := by
  rw [zpairs_p2 (tX_reg hw) hn]
  have h := zcnt_rows (fun p q => decide (tvs A p q ≠ 0)) 16 0 (by omega)
  rw [tX_ut hw] at h
  rw [show 16 * 16 + 0 = 256 from rfl] at h
  rw [h]
  show zsum _ 16 + 0 = _
  unfold zp2
  have h2 : zsum (fun a => zcnt (zutr (fun p q => decide (tvs A p q ≠ 0)) a) 16) 16 = zsum (fun a => zcnt (zutr (fun p q => decide (tvs A p q ≠ 0)) a) 16) n := zsum_top (fun a ha => zcnt_z fun q _ => by
    unfold zutr
    cases e : decide (tvs A a q ≠ 0)
    · show (decide (tvs A a q ≠ 0) && decide (a < q)) = false
      rw [e]; rfl
    · have := ((tX_reg hw).lt e).1; omega) hn
  rw [Nat.add_zero, h2]
  refine zsum_ext fun a _ => ?_
  rw [zcnt_top (c := n) (fun q hq => ?_) hn]
  · exact zcnt_ext fun q _ => Bool.and_comm _ _
  · unfold zutr
    cases e : decide (tvs A a q ≠ 0)
    · show (decide (tvs A a q ≠ 0) && decide (a < q)) = false
      rw [e]; rfl
    · have := ((tX_reg hw).lt e).2; omega
/-- the k-th of a set of cells -/
theorem zkth {s : Nat → Bool} {k n : Nat} (h : k < zcnt s n) : ∃ c, c < n ∧ s c = true ∧ zcnt s c = k := by
  induction n with
  | zero => exact absurd h (Nat.not_lt_zero _)
  | succ n ih =>
    rw [zcnt_su] at h
    by_cases e : k < zcnt s n
    · obtain ⟨c, h1, h2⟩ := ih e
      exact ⟨c, by omega, h2⟩
    · by_cases w : s n = true
      · rw [if_pos w] at h
        exact ⟨n, by omega, w, by omega⟩
      · rw [if_neg w] at h; omega
theorem zpk_cases (s : Nat → Bool) (k : Int) (n : Nat) : (∃ c : Nat, zpk s k n = ((c : Nat) : Int) ∧ c < n ∧ s c = true ∧ k = ((zcnt s c : Nat) : Int)) ∨ (zpk s k n = -1 ∧ (k < 0 ∨ ((zcnt s n : Nat) : Int) ≤ k)) := by
  by_cases h : k < 0 ∨ ((zcnt s n : Nat) : Int) ≤ k
  · exact Or.inr ⟨zpk_none h, h⟩
  · obtain ⟨c, h1, h2, h3⟩ := zkth (s := s) (k := k.toNat) (n := n) (by omega)
    exact Or.inl ⟨c, zpk_some h1 h2 (by omega), h1, h2, by omega⟩
/-! the reference -/
theorem m_exceptAt {O : zOm} (hO : zWld O) (hS : zS O = zmS zC0) {t n : Nat} {k : Int} {A : zTl} {M : zMem} {K : Option zV → zMem → Prop} (ht : t < 7) (hA : rTe M t n A) (hw : zTw n A) (hk0 : 0 ≤ k)
    (hk : K (some (0, zpk (tX A) k 256)) M) : zR O F_Model_exceptAt [(2, 250), (0, ((t : Nat) : Int)), (0, k)] M K := by
  obtain ⟨-, -, -, h9⟩ := hA
  have gv : ∀ c : Nat, c < 256 → M ((266 : Nat) : Int) ((256 * t + c : Nat) : Int) = ((tv A (c / 16) (c % 16) : Nat) : Int) := fun c hc => by
    have := h9 (c / 16) (c % 16) (by omega) (by omega)
    rwa [show 256 * t + 16 * (c / 16) + c % 16 = 256 * t + c by omega] at this
  apply r_Model_exceptAt hO
  unfold B_Model_exceptAt
  have f20 := zMF (k := 20) hS rfl; have a266 := zMA (a := 266) (ty := .int) (n := 1792) hS rfl; have zo := zMO hS
  ((with_reducible refine i_Seq (i_Set (i_I (i_Seq (i_Blk (i_Seq (i_Set (i_I ?_)))))))); simp only [w_set0, w_set1, w_setn0, w_setn1])
  refine w_ForN 256 (fun c ρ M' => (∃ l, ρ = 250 :: ((t : Nat) : Int) :: k :: ((zcnt (tX A) c : Nat) : Int) :: ((c : Nat) : Int) :: l) ∧ M' = M ∧ ((zcnt (tX A) c : Nat) : Int) ≤ k) ⟨⟨_, rfl⟩, rfl, hk0⟩ ?_ ?_
  · rintro c ρ M1 X hc ⟨⟨l, rfl⟩, rfl, hle⟩ hX
    have g := gv c hc
    have hcl := zcnt_le (tX A) c
    have hv := hw.2.2.2.2 (c / 16) (c % 16)
    have hsu := zcnt_su (tX A) c
    by_cases e : tv A (c / 16) (c % 16) = 0
    · have hx : tX A c = false := decide_eq_false (fun z => z e)
      rw [e] at g
      rw [hx] at hsu
      ((with_reducible refine i_turn (i_cI_lt (i_L4 (i_I ?_)))); (with_reducible refine i_t (by omega) ?_); (with_reducible refine i_Seq (i_IfBrk (i_cZ_eq (i_IA (i_FR (i_A0 ?_)))))); (with_reducible refine i_fldR (by assumption) ?_); (with_reducible refine i_Add (i_Mul (i_I (i_L1 (i_L4 ?_))))); rw [zx_cmul (by omega)]; rw [zx_add (by omega)]; (with_reducible refine i_in (by assumption) (by omega) (by omega) ?_); (rw [g]); (with_reducible refine i_t (by omega) ?_); (with_reducible refine i_lab1 (i_up (i_Inc4 ?_))); rw [zx_inc (by omega)]; simp only [w_set0, w_set1, w_setn0, w_setn1])
      exact hX _ _ ⟨⟨_, by rw [hsu]; rfl⟩, rfl, by rw [hsu]; exact hle⟩
    · have hx : tX A c = true := decide_eq_true e
      rw [hx, if_pos rfl] at hsu
      by_cases z : ((zcnt (tX A) c : Nat) : Int) = k
      · have hp := zpk_some (n := 256) hc hx z
        rw [hp] at hk
        ((with_reducible refine i_turn (i_cI_lt (i_L4 (i_I ?_)))); (with_reducible refine i_t (by omega) ?_); (with_reducible refine i_Seq (i_IfBrk (i_cZ_eq (i_IA (i_FR (i_A0 ?_)))))); (with_reducible refine i_fldR (by assumption) ?_); (with_reducible refine i_Add (i_Mul (i_I (i_L1 (i_L4 ?_))))); rw [zx_cmul (by omega)]; rw [zx_add (by omega)]; (with_reducible refine i_in (by assumption) (by omega) (by omega) ?_); (rw [g]); ((with_reducible refine i_f (show ¬ (((tv A (c / 16) (c % 16) : Nat) : Int) : Int) = 0 by omega) ?_)); (with_reducible refine i_Seq (i_If (i_cI_eq (i_L3 (i_L2 ?_))))); ((with_reducible refine i_t z ?_)); (with_reducible refine i_RetI (i_L4 ?_)))
        exact hk
      · ((with_reducible refine i_turn (i_cI_lt (i_L4 (i_I ?_)))); (with_reducible refine i_t (by omega) ?_); (with_reducible refine i_Seq (i_IfBrk (i_cZ_eq (i_IA (i_FR (i_A0 ?_)))))); (with_reducible refine i_fldR (by assumption) ?_); (with_reducible refine i_Add (i_Mul (i_I (i_L1 (i_L4 ?_))))); rw [zx_cmul (by omega)]; rw [zx_add (by omega)]; (with_reducible refine i_in (by assumption) (by omega) (by omega) ?_); (rw [g]); ((with_reducible refine i_f (show ¬ (((tv A (c / 16) (c % 16) : Nat) : Int) : Int) = 0 by omega) ?_)); (with_reducible refine i_Seq (i_If (i_cI_eq (i_L3 (i_L2 ?_))))); ((with_reducible refine i_f z ?_)); (with_reducible refine i_Inc3 (i_up ?_)); rw [zx_inc (by omega)]; simp only [w_set0, w_set1, w_setn0, w_setn1]; (with_reducible refine i_Inc4 ?_); rw [zx_inc (by omega)]; simp only [w_set0, w_set1, w_setn0, w_setn1])
        exact hX _ _ ⟨⟨_, by rw [hsu]⟩, rfl, by rw [hsu]; omega⟩
  · rintro ρ M1 X ⟨⟨l, rfl⟩, rfl, hle⟩
    rw [zpk_none (Or.inr hle)] at hk
    ((with_reducible refine i_turn (i_cI_lt (i_L4 (i_I ?_)))); (with_reducible refine i_f (by omega) ?_); (with_reducible refine i_RetI (i_I ?_)))
    exact hk
theorem m_exceptsOf {O : zOm} (hO : zWld O) (hS : zS O = zmS zC0) {t n : Nat} {A : zTl} {M : zMem} {K : Option zV → zMem → Prop} (ht : t < 7) (hA : rTe M t n A) (hw : zTw n A) (hk : K (some (0, ((zcnt (tX A) 256 : Nat) : Int))) M) : zR O F_Model_exceptsOf [(2, 250), (0, ((t : Nat) : Int))] M K := by
  obtain ⟨-, -, -, h9⟩ := hA
  have gv : ∀ c : Nat, c < 256 → M ((266 : Nat) : Int) ((256 * t + c : Nat) : Int) = ((tv A (c / 16) (c % 16) : Nat) : Int) := fun c hc => by
    have := h9 (c / 16) (c % 16) (by omega) (by omega)
    rwa [show 256 * t + 16 * (c / 16) + c % 16 = 256 * t + c by omega] at this
  apply r_Model_exceptsOf hO
  unfold B_Model_exceptsOf
  have f20 := zMF (k := 20) hS rfl; have a266 := zMA (a := 266) (ty := .int) (n := 1792) hS rfl; have zo := zMO hS
  ((with_reducible refine i_Seq (i_Set (i_I (i_Seq (i_Blk (i_Seq (i_Set (i_I ?_)))))))); simp only [w_set0, w_set1, w_setn0, w_setn1])
  refine w_ForN 256 (fun c ρ M' => (∃ l, ρ = 250 :: ((t : Nat) : Int) :: ((zcnt (tX A) c : Nat) : Int) :: ((c : Nat) : Int) :: l) ∧ M' = M) ⟨⟨_, rfl⟩, rfl⟩ ?_ ?_
  · rintro c ρ M1 X hc ⟨⟨l, rfl⟩, rfl⟩ hX
    have g := gv c hc
    have hcl := zcnt_le (tX A) c
    have hsu := zcnt_su (tX A) c
    by_cases e : tv A (c / 16) (c % 16) = 0
    · have hx : tX A c = false := decide_eq_false (fun z => z e)
      rw [e] at g
      rw [hx] at hsu
      ((with_reducible refine i_turn (i_cI_lt (i_L3 (i_I ?_)))); (with_reducible refine i_t (by omega) ?_); (with_reducible refine i_Set (i_Add (i_L2 (i_eIf (i_cZ_ne (i_IA (i_FR (i_A0 ?_)))))))); (with_reducible refine i_fldR (by assumption) ?_); (with_reducible refine i_Add (i_Mul (i_I (i_L1 (i_L3 ?_))))); rw [zx_cmul (by omega)]; rw [zx_add (by omega)]; (with_reducible refine i_in (by assumption) (by omega) (by omega) ?_); (rw [g]); (with_reducible refine i_f (by omega) ?_); (with_reducible refine i_I (i_up ?_)); rw [zx_addc (by omega)]; simp only [w_set0, w_set1, w_setn0, w_setn1]; (with_reducible refine i_Inc3 ?_); rw [zx_inc (by omega)]; simp only [w_set0, w_set1, w_setn0, w_setn1])
      exact hX _ _ ⟨⟨_, by rw [hsu]; rfl⟩, rfl⟩
    · have hx : tX A c = true := decide_eq_true e
      rw [hx, if_pos rfl] at hsu
      ((with_reducible refine i_turn (i_cI_lt (i_L3 (i_I ?_)))); (with_reducible refine i_t (by omega) ?_); (with_reducible refine i_Set (i_Add (i_L2 (i_eIf (i_cZ_ne (i_IA (i_FR (i_A0 ?_)))))))); (with_reducible refine i_fldR (by assumption) ?_); (with_reducible refine i_Add (i_Mul (i_I (i_L1 (i_L3 ?_))))); rw [zx_cmul (by omega)]; rw [zx_add (by omega)]; (with_reducible refine i_in (by assumption) (by omega) (by omega) ?_); (rw [g]); ((with_reducible refine i_t (show (((tv A (c / 16) (c % 16) : Nat) : Int) : Int) ≠ 0 by omega) ?_)); (with_reducible refine i_I (i_up ?_)); rw [zx_inc (by omega)]; simp only [w_set0, w_set1, w_setn0, w_setn1]; (with_reducible refine i_Inc3 ?_); rw [zx_inc (by omega)]; simp only [w_set0, w_set1, w_setn0, w_setn1])
      exact hX _ _ ⟨⟨_, by rw [hsu]⟩, rfl⟩
  · rintro ρ M1 X ⟨⟨l, rfl⟩, rfl⟩
    ((with_reducible refine i_turn (i_cI_lt (i_L3 (i_I ?_)))); (with_reducible refine i_f (by omega) ?_); (with_reducible refine i_RetI (i_L2 ?_)))
    exact hk
/-- a cell of the excepts changed -/
def zv1 (A : zTl) (c x : Nat) : Nat → Nat → Nat := fun a b => if 16 * a + b = c ∧ b < 16 then x else tv A a b
theorem rTe.up {M : zMem} {t n c x : Nat} {A : zTl} (ht : t < 7) (hc : c < 256) (h : rTe M t n A) : rTe (zput M ((266 : Nat) : Int) (zup (M ((266 : Nat) : Int)) ((256 * t + c : Nat) : Int) ((x : Nat) : Int))) t n (zTv A (zv1 A c x)) := by
  obtain ⟨⟨h1, h2, h3⟩, ⟨h4, h5, h6, h7⟩, h8, h9⟩ := h
  refine ⟨⟨by rw [zg_n _ _ _ (by omega)]; exact h1, fun q hq => by rw [zg_n _ _ _ (by omega)]; exact h2 q hq, fun b hb => by rw [zg_n _ _ _ (by omega)]; exact h3 b hb⟩, ⟨fun b hb => by rw [zg_n _ _ _ (by omega)]; exact h4 b hb, fun a b ha hb => by rw [zg_n _ _ _ (by omega)]; exact h5 a b ha hb, fun a b ha hb => by rw [zg_n _ _ _ (by omega)]; exact h6 a b ha hb, fun b hb => by rw [zg_n _ _ _ (by omega)]; exact h7 b hb⟩, fun i k hi hk => by rw [zg_n _ _ _ (by omega)]; exact h8 i k hi hk, fun a b ha hb => ?_⟩
  show _ = ((zv1 A c x a b : Nat) : Int)
  unfold zv1
  by_cases e : 16 * a + b = c
  · rw [if_pos ⟨e, hb⟩, show 256 * t + 16 * a + b = 256 * t + c by omega, zg_s]
  · rw [if_neg (fun z => e z.1), zg_m _ _ _ _ _ (by omega)]
    exact h9 a b ha hb
theorem zv1_w {n c x : Nat} {A : zTl} (hw : zTw n A) (hX : tX A c = true) (hx : x ≤ 2) : zTw n (zTv A (zv1 A c x)) := by
  refine zTv_w hw (fun a b h => ?_) (fun a b => ?_)
  · unfold zv1 at h
    by_cases e : 16 * a + b = c ∧ b < 16
    · have h2 := of_decide_eq_true hX
      rw [← e.1, show (16 * a + b) / 16 = a by omega, show (16 * a + b) % 16 = b by omega] at h2
      exact h2
    · rw [if_neg e] at h; exact h
  · unfold zv1
    have := hw.2.2.2.2 a b
    split <;> omega
theorem tX_zv1 {c x : Nat} {A : zTl} (hX : tX A c = true) (hx : x ≠ 0) : tX (zTv A (zv1 A c x)) = tX A := funext fun d => by
  show decide (zv1 A c x (d / 16) (d % 16) ≠ 0) = decide (tv A (d / 16) (d % 16) ≠ 0)
  unfold zv1
  by_cases e : 16 * (d / 16) + d % 16 = c ∧ d % 16 < 16
  · have : d = c := by omega
    subst this
    rw [if_pos e]
    exact decide_eq_decide.mpr ⟨fun _ => of_decide_eq_true hX, fun _ => hx⟩
  · rw [if_neg e]
theorem m_leave_bad {O : zOm} (hO : zWld O) (hS : zS O = zmS zC0) {t : Int} {k v : Int} {T n : Nat} {A : Nat → zTl} {M : zMem} {K : Option zV → zMem → Prop} (hn : M 250 ((11 : Nat) : Int) = ((T : Nat) : Int)) (hT : T ≤ 5) (hA : ∀ t : Nat, t < T → rTe M t n (A t) ∧ zTw n (A t)) (hb : ¬ (0 ≤ t ∧ t < ((T : Nat) : Int)) ∨ k < 0 ∨ ∀ t' : Nat, t = ((t' : Nat) : Int) → ((zcnt (tX (A t')) 256 : Nat) : Int) ≤ k) (hk : K (some (0, 0)) M) : zR O F_Model_leave [(2, 250), (0, t), (0, k), (0, v)] M K := by
  apply r_Model_leave hO
  unfold B_Model_leave
  have f20 := zMF (k := 20) hS rfl; have a266 := zMA (a := 266) (ty := .int) (n := 1792) hS rfl; have zo := zMO hS
  by_cases h : 0 ≤ t ∧ t < ((T : Nat) : Int)
  · obtain ⟨t', rfl⟩ : ∃ t' : Nat, t = ((t' : Nat) : Int) := ⟨t.toNat, by omega⟩
    obtain ⟨h1, h2⟩ := hA t' (by omega)
    by_cases h0 : 0 ≤ k
    · have hx : zpk (tX (A t')) k 256 = -1 := zpk_none (Or.inr (by
        rcases hb with z | z | z
        · exact absurd h z
        · omega
        · exact z t' rfl))
      ((with_reducible refine i_Seq (i_Set (i_eIf (i_cAnd (i_cZ_ne (i_Call (i_as1 (i_A0 (i_as1 (i_L1 (i_as0 ?_))))))))))); (with_reducible refine i_recv0 (by assumption) ?_); (refine m_isTelling hO hS hn ⟨_, rfl, ?_⟩); (rw [decide_eq_true h]); rw [zbI_t]; (with_reducible refine i_t (by omega) ?_); (with_reducible refine i_cZ_ge (i_L2 ?_)); (with_reducible refine i_t (by omega) ?_); (with_reducible refine i_Call (i_as1 (i_A0 (i_as1 (i_L1 (i_as1 (i_L2 (i_as0 ?_)))))))); (with_reducible refine i_recv0 (by assumption) ?_); (refine m_exceptAt hO hS (by omega) h1 h2 h0 ⟨_, rfl, ?_⟩); (with_reducible refine i_Seq (i_If (i_cZ_lt ?_))); (rw [hx]); simp only [w_set0, w_set1, w_setn0, w_setn1]; (with_reducible refine i_L4 ?_); (with_reducible refine i_t (by omega) ?_); (with_reducible refine i_RetZ (i_I ?_)); (with_reducible refine i_z (Or.inl rfl) ?_))
      exact hk
    · ((with_reducible refine i_Seq (i_Set (i_eIf (i_cAnd (i_cZ_ne (i_Call (i_as1 (i_A0 (i_as1 (i_L1 (i_as0 ?_))))))))))); (with_reducible refine i_recv0 (by assumption) ?_); (refine m_isTelling hO hS hn ⟨_, rfl, ?_⟩); (rw [decide_eq_true h]); rw [zbI_t]; (with_reducible refine i_t (by omega) ?_); (with_reducible refine i_cZ_ge (i_L2 ?_)); (with_reducible refine i_f (by omega) ?_); (with_reducible refine i_I (i_Seq (i_If (i_cZ_lt ?_)))); simp only [w_set0, w_set1, w_setn0, w_setn1]; (with_reducible refine i_L4 ?_); (with_reducible refine i_t (by omega) ?_); (with_reducible refine i_RetZ (i_I ?_)); (with_reducible refine i_z (Or.inl rfl) ?_))
      exact hk
  · ((with_reducible refine i_Seq (i_Set (i_eIf (i_cAnd (i_cZ_ne (i_Call (i_as1 (i_A0 (i_as1 (i_L1 (i_as0 ?_))))))))))); (with_reducible refine i_recv0 (by assumption) ?_); (refine m_isTelling hO hS hn ⟨_, rfl, ?_⟩); (rw [decide_eq_false h]); rw [zbI_f]; (with_reducible refine i_f (by omega) ?_); (with_reducible refine i_I (i_Seq (i_If (i_cZ_lt ?_)))); simp only [w_set0, w_set1, w_setn0, w_setn1]; (with_reducible refine i_L4 ?_); (with_reducible refine i_t (by omega) ?_); (with_reducible refine i_RetZ (i_I ?_)); (with_reducible refine i_z (Or.inl rfl) ?_))
    exact hk
theorem m_leave {O : zOm} (hO : zWld O) (hS : zS O = zmS zC0) {t k c T n : Nat} {out : Bool} {A : zTl} {M : zMem} {K : Option zV → zMem → Prop} (hn : M 250 ((11 : Nat) : Int) = ((T : Nat) : Int)) (hT : T ≤ 5) (ht : t < T) (hA : rTe M t n A) (hw : zTw n A) (hc : c < 256) (hX : tX A c = true) (hck : zcnt (tX A) c = k)
    (hk : ∀ M', (∀ b j, ¬ (b = 266 ∧ j = ((256 * t + c : Nat) : Int)) → M' b j = M b j) → rTe M' t n (zTv A (zv1 A c (if out = true then 2 else 1))) → K (some (0, 1)) M') : zR O F_Model_leave [(2, 250), (0, ((t : Nat) : Int)), (0, ((k : Nat) : Int)), (0, zbI out)] M K := by
  have hp : zpk (tX A) ((k : Nat) : Int) 256 = ((c : Nat) : Int) := zpk_some hc hX (by omega)
  apply r_Model_leave hO
  unfold B_Model_leave
  have f20 := zMF (k := 20) hS rfl; have a266 := zMA (a := 266) (ty := .int) (n := 1792) hS rfl; have zo := zMO hS
  cases out
  · have hu := rTe.up (x := 1) (show t < 7 by omega) hc hA
    ((with_reducible refine i_Seq (i_Set (i_eIf (i_cAnd (i_cZ_ne (i_Call (i_as1 (i_A0 (i_as1 (i_L1 (i_as0 ?_))))))))))); (with_reducible refine i_recv0 (by assumption) ?_); rw [zbI_f]; (refine m_isTelling hO hS hn ⟨_, rfl, ?_⟩); (rw [decide_eq_true (show 0 ≤ ((t : Nat) : Int) ∧ ((t : Nat) : Int) < ((T : Nat) : Int) by omega)]); rw [zbI_t]; (with_reducible refine i_t (by omega) ?_); (with_reducible refine i_cZ_ge (i_L2 ?_)); (with_reducible refine i_t (by omega) ?_); (with_reducible refine i_Call (i_as1 (i_A0 (i_as1 (i_L1 (i_as1 (i_L2 (i_as0 ?_)))))))); (with_reducible refine i_recv0 (by assumption) ?_); (refine m_exceptAt hO hS (by omega) hA hw (by omega) ⟨_, rfl, ?_⟩); (with_reducible refine i_Seq (i_If (i_cZ_lt ?_))); (rw [hp]); simp only [w_set0, w_set1, w_setn0, w_setn1]; (with_reducible refine i_L4 ?_); (with_reducible refine i_f (by omega) ?_); (with_reducible refine i_Seq (i_sIA (i_FR (i_A0 ?_)))); (with_reducible refine i_fldR (by assumption) ?_); (with_reducible refine i_Add (i_Mul (i_I (i_L1 (i_L4 (i_eIf (i_cZ_ne (i_L3 ?_)))))))); rw [zx_cmul (by omega)]; rw [zx_add (by omega)]; (with_reducible refine i_f (by omega) ?_); (with_reducible refine i_I ?_); (with_reducible refine i_in (by assumption) (by omega) (by omega) ?_); (with_reducible refine i_RetZ (i_I ?_)); (with_reducible refine i_z (Or.inr rfl) ?_))
    exact hk _ (fun b j q => by rw [zg_o _ _ (by omega)]) hu
  · have hu := rTe.up (x := 2) (show t < 7 by omega) hc hA
    ((with_reducible refine i_Seq (i_Set (i_eIf (i_cAnd (i_cZ_ne (i_Call (i_as1 (i_A0 (i_as1 (i_L1 (i_as0 ?_))))))))))); (with_reducible refine i_recv0 (by assumption) ?_); rw [zbI_t]; (refine m_isTelling hO hS hn ⟨_, rfl, ?_⟩); (rw [decide_eq_true (show 0 ≤ ((t : Nat) : Int) ∧ ((t : Nat) : Int) < ((T : Nat) : Int) by omega)]); rw [zbI_t]; (with_reducible refine i_t (by omega) ?_); (with_reducible refine i_cZ_ge (i_L2 ?_)); (with_reducible refine i_t (by omega) ?_); (with_reducible refine i_Call (i_as1 (i_A0 (i_as1 (i_L1 (i_as1 (i_L2 (i_as0 ?_)))))))); (with_reducible refine i_recv0 (by assumption) ?_); (refine m_exceptAt hO hS (by omega) hA hw (by omega) ⟨_, rfl, ?_⟩); (with_reducible refine i_Seq (i_If (i_cZ_lt ?_))); (rw [hp]); simp only [w_set0, w_set1, w_setn0, w_setn1]; (with_reducible refine i_L4 ?_); (with_reducible refine i_f (by omega) ?_); (with_reducible refine i_Seq (i_sIA (i_FR (i_A0 ?_)))); (with_reducible refine i_fldR (by assumption) ?_); (with_reducible refine i_Add (i_Mul (i_I (i_L1 (i_L4 (i_eIf (i_cZ_ne (i_L3 ?_)))))))); rw [zx_cmul (by omega)]; rw [zx_add (by omega)]; (with_reducible refine i_t (by omega) ?_); (with_reducible refine i_I ?_); (with_reducible refine i_in (by assumption) (by omega) (by omega) ?_); (with_reducible refine i_RetZ (i_I ?_)); (with_reducible refine i_z (Or.inr rfl) ?_))
    exact hk _ (fun b j q => by rw [zg_o _ _ (by omega)]) hu
end
section
-- part g1.mharm.lean.txt
/-! ===== harm and leads: the reference ===== -/
/-- the reader's questions: how many; of each its kind, a, b, b as a number, weight -/
abbrev zQl : Type := Nat × (Nat → Nat × Nat × Int × Nat × Nat)
def qk (Q : zQl) (i : Nat) : Nat := (Q.2 i).1
def qa (Q : zQl) (i : Nat) : Nat := (Q.2 i).2.1
def qb (Q : zQl) (i : Nat) : Int := (Q.2 i).2.2.1
def qc (Q : zQl) (i : Nat) : Nat := (Q.2 i).2.2.2.1
def qw (Q : zQl) (i : Nat) : Nat := (Q.2 i).2.2.2.2
def zQs (n : Nat) (Q : zQl) : Prop := Q.1 ≤ 10 ∧ ∀ i, i < Q.1 → zQok n (qk Q i) (qa Q i) (qb Q i) (qc Q i) ∧ qw Q i ≤ 9
def rQs (M : zMem) (Q : zQl) : Prop := M 250 ((28 : Nat) : Int) = ((Q.1 : Nat) : Int) ∧ ∀ i : Nat, i < Q.1 → M ((274 : Nat) : Int) ((i : Nat) : Int) = ((qk Q i : Nat) : Int) ∧ M ((275 : Nat) : Int) ((i : Nat) : Int) = ((qa Q i : Nat) : Int) ∧ M ((276 : Nat) : Int) ((i : Nat) : Int) = qb Q i ∧ M ((277 : Nat) : Int) ((i : Nat) : Int) = ((qw Q i : Nat) : Int)
theorem rQs.to {M M' : zMem} {Q : zQl} (h : rQs M Q) (e : ∀ b j, (b = 250 ∧ j = 28 ∨ ((274 : Nat) : Int) ≤ b ∧ b ≤ ((277 : Nat) : Int)) → M' b j = M b j) : rQs M' Q := ⟨by rw [e _ _ (by omega)]; exact h.1, fun i hi => by
  obtain ⟨h1, h2, h3, h4⟩ := h.2 i hi
  exact ⟨by rw [e _ _ (by omega)]; exact h1, by rw [e _ _ (by omega)]; exact h2, by rw [e _ _ (by omega)]; exact h3, by rw [e _ _ (by omega)]; exact h4⟩⟩
def zhm (n : Nat) (A : zTl) (Q : zQl) : Nat := zsum (fun i => qw Q i * zoF n A (qk Q i) (qa Q i) (qc Q i)) Q.1
theorem zoF_b {n kind a b' : Nat} {A : zTl} (hn : n ≤ 16) : zoF n A kind a b' ≤ 62000 := Nat.le_trans (Nat.sub_le _ _) (zan_b hn (Nat.le_refl _))
theorem zhm_b {n : Nat} {A : zTl} {Q : zQl} (hn : n ≤ 16) (hQ : zQs n Q) (k : Nat) (hk : k ≤ Q.1) : zsum (fun i => qw Q i * zoF n A (qk Q i) (qa Q i) (qc Q i)) k ≤ k * 600000 := by
  induction k with
  | zero => exact Nat.zero_le _
  | succ k ih =>
    have h1 := ih (by omega)
    have h2 : qw Q k * zoF n A (qk Q k) (qa Q k) (qc Q k) ≤ 9 * 62000 := Nat.mul_le_mul (hQ.2 k (by omega)).2 (zoF_b hn)
    rw [zsum_su]; omega
theorem m_harmOf {O : zOm} (hO : zWld O) (hS : zS O = zmS zC0) {t n : Nat} {A : zTl} {Q : zQl} {M : zMem} {K : Option zV → zMem → Prop} (ht : t < 7) (hn : M 250 ((1 : Nat) : Int) = ((n : Nat) : Int)) (hn2 : n ≤ 16) (hA : rTe M t n A) (hw : zTw n A) (hq : rQs M Q) (hQ : zQs n Q)
    (hk : ∀ M', (∀ b j, ¬ (b = 250 ∧ j = 52 ∨ ((268 : Nat) : Int) ≤ b ∧ b ≤ ((270 : Nat) : Int) ∨ ((288 : Nat) : Int) ≤ b ∧ b ≤ ((290 : Nat) : Int)) → M' b j = M b j) → K (some (0, ((zhm n A Q : Nat) : Int))) M') : zR O F_Model_harmOf [(2, 250), (0, ((t : Nat) : Int))] M K := by
  have hq10 := hQ.1
  apply r_Model_harmOf hO
  unfold B_Model_harmOf
  have f28 := zMF (k := 28) hS rfl; have f32 := zMF (k := 32) hS rfl; have a277 := zMA (a := 277) (ty := .int) (n := 10) hS rfl; have f29 := zMF (k := 29) hS rfl; have a274 := zMA (a := 274) (ty := .int) (n := 10) hS rfl; have f30 := zMF (k := 30) hS rfl; have a275 := zMA (a := 275) (ty := .int) (n := 10) hS rfl; have f31 := zMF (k := 31) hS rfl; have a276 := zMA (a := 276) (ty := .int) (n := 10) hS rfl; have zo := zMO hS
  ((with_reducible refine i_Seq (i_sCall (i_as1 (i_A0 (i_as1 (i_L1 (i_as0 ?_))))))); (with_reducible refine i_recv0 (by assumption) ?_))
  refine m_sorts hO hS ht hn hn2 hA hw (fun M1 f1' S1 R1 => ⟨rfl, ?_⟩)
  ((with_reducible refine i_Seq (i_Set (i_I (i_Seq (i_Blk (i_Seq (i_Set (i_I ?_)))))))); simp only [w_set0, w_set1, w_setn0, w_setn1])
  refine w_ForN Q.1 (fun i ρ M' => (∃ l, ρ = 250 :: ((t : Nat) : Int) :: ((zsum (fun i => qw Q i * zoF n A (qk Q i) (qa Q i) (qc Q i)) i : Nat) : Int) :: ((i : Nat) : Int) :: l) ∧ (∀ b j, ¬ (b = 250 ∧ j = 52 ∨ ((288 : Nat) : Int) ≤ b ∧ b ≤ ((290 : Nat) : Int)) → M' b j = M1 b j)) ⟨⟨_, rfl⟩, fun _ _ _ => rfl⟩ ?_ ?_
  · rintro i ρ M2 X hi ⟨⟨l, rfl⟩, f2'⟩ hX
    obtain ⟨g1, g2, g3, g4⟩ := hq.2 i hi
    have f21 : ∀ b j, ¬ (b = 250 ∧ j = 52 ∨ ((268 : Nat) : Int) ≤ b ∧ b ≤ ((270 : Nat) : Int) ∨ ((288 : Nat) : Int) ≤ b ∧ b ≤ ((290 : Nat) : Int)) → M2 b j = M b j := fun b j q => by rw [f2' b j (by omega), f1' b j (by omega)]
    have e0 : M2 250 ((28 : Nat) : Int) = ((Q.1 : Nat) : Int) := (f21 _ _ (by omega)).trans hq.1
    have e1 := (f21 ((274 : Nat) : Int) ((i : Nat) : Int) (by omega)).trans g1
    have e2 := (f21 ((275 : Nat) : Int) ((i : Nat) : Int) (by omega)).trans g2
    have e3 := (f21 ((276 : Nat) : Int) ((i : Nat) : Int) (by omega)).trans g3
    have e4 := (f21 ((277 : Nat) : Int) ((i : Nat) : Int) (by omega)).trans g4
    obtain ⟨hq1, hq2⟩ := hQ.2 i hi
    have hb1 := zhm_b (A := A) hn2 hQ i (by omega)
    have hmul : qw Q i * zoF n A (qk Q i) (qa Q i) (qc Q i) ≤ 9 * 62000 := Nat.mul_le_mul hq2 (zoF_b hn2)
    have hX2 : ∀ (l : zLoc) (M' : zMem) (v : Nat), v = zsum (fun i => qw Q i * zoF n A (qk Q i) (qa Q i) (qc Q i)) i + qw Q i * zoF n A (qk Q i) (qa Q i) (qc Q i) → (∀ b j, ¬ (b = 250 ∧ j = 52 ∨ ((288 : Nat) : Int) ≤ b ∧ b ≤ ((290 : Nat) : Int)) → M' b j = M1 b j) → X (250 :: ((t : Nat) : Int) :: ((v : Nat) : Int) :: ((i + 1 : Nat) : Int) :: l) M' := fun l M' v hv hf => by subst hv; exact hX _ _ ⟨⟨l, rfl⟩, hf⟩
    clear hX
    generalize zsum (fun i => qw Q i * zoF n A (qk Q i) (qa Q i) (qc Q i)) i = u at hb1 hX2 ⊢
    ((with_reducible refine i_turn (i_cI_lt (i_L3 (i_F (i_A0 ?_))))); (with_reducible refine i_fld (by assumption) ?_); (rw [e0]); (with_reducible refine i_t (by omega) ?_); (with_reducible refine i_Set (i_Add (i_L2 (i_Mul (i_IA (i_FR (i_A0 ?_))))))); (with_reducible refine i_fldR (by assumption) ?_); (with_reducible refine i_L3 ?_); (with_reducible refine i_in (by assumption) (by omega) (by omega) ?_); (with_reducible refine i_Call (i_as1 (i_A0 (i_as1 (i_L1 (i_as1 (i_IA (i_FR (i_A0 ?_))))))))); (with_reducible refine i_fldR (by assumption) ?_); (with_reducible refine i_L3 ?_); (with_reducible refine i_in (by assumption) (by omega) (by omega) ?_); (with_reducible refine i_as1 (i_IA (i_FR (i_A0 ?_)))); (with_reducible refine i_fldR (by assumption) ?_); (with_reducible refine i_L3 ?_); (with_reducible refine i_in (by assumption) (by omega) (by omega) ?_); (with_reducible refine i_as1 (i_IA (i_FR (i_A0 ?_)))); (with_reducible refine i_fldR (by assumption) ?_); (with_reducible refine i_L3 ?_); (with_reducible refine i_in (by assumption) (by omega) (by omega) ?_); (with_reducible refine i_as0 ?_); (with_reducible refine i_recv0 (by assumption) ?_); (rw [e1]); (rw [e2]); (rw [e3]); (rw [e4]); simp only [w_set0, w_set1, w_setn0, w_setn1])
    refine m_offOf hO hS ht (show M2 250 ((1 : Nat) : Int) = ((n : Nat) : Int) from (f21 _ _ (by omega)).trans hn) hn2 (hA.to hn2 hw (fun b j q => f21 b j (by omega))) hw (S1.to (fun j => f2' _ _ (by omega))) (fun k hk1 => by rw [f2' _ _ (by omega), f2' _ _ (by omega)]; exact R1 k hk1) hq1 (fun M3 f3 => ⟨_, rfl, ?_⟩)
    generalize zoF n A (qk Q i) (qa Q i) (qc Q i) = v at hmul hX2 ⊢
    ((with_reducible refine i_up (i_Inc3 ?_)); (rw [zx_mul (by omega)]); rw [zx_inc (by omega)]; rw [zx_add (by omega)]; simp only [w_set0, w_set1, w_setn0, w_setn1])
    exact hX2 _ _ _ rfl (fun b j q => by rw [f3 b j (by omega), f2' b j q])
  · rintro ρ M2 X ⟨⟨l, rfl⟩, f2'⟩
    have e0 : M2 250 ((28 : Nat) : Int) = ((Q.1 : Nat) : Int) := by rw [f2' _ _ (by omega), f1' _ _ (by omega)]; exact hq.1
    ((with_reducible refine i_turn (i_cI_lt (i_L3 (i_F (i_A0 ?_))))); (with_reducible refine i_fld (by assumption) ?_); (rw [e0]); (with_reducible refine i_f (by omega) ?_); (with_reducible refine i_RetI (i_L2 ?_)))
    exact hk M2 (fun b j q => by rw [f2' b j (by omega), f1' b j (by omega)])
/-- does it lead: with the k-th except told besides it is less far off -/
def zld (n : Nat) (A : zTl) (kind a b : Nat) (c : Nat) : Bool := tX A c && (decide (tv A (c / 16) (c % 16) = 2) && decide (zoF n (zTv A (zv1 A c 1)) kind a b < zoF n A kind a b))
/-- those led to ahead of the k-th -/
def zldC (n : Nat) (A : zTl) (kind a b k : Nat) : Nat := zcnt (fun c => zld n A kind a b c && decide (zcnt (tX A) c < k)) 256
theorem zldC_su {n : Nat} {A : zTl} {kind a b c k : Nat} (hc : c < 256) (hX : tX A c = true) (hk : zcnt (tX A) c = k) : zldC n A kind a b (k + 1) = zldC n A kind a b k + (if zld n A kind a b c = true then 1 else 0) := by
  have hin : ∀ d, zld n A kind a b d = true → zcnt (tX A) d = k → d = c := fun d h1 h2 => by
    unfold zld at h1
    rw [Bool.and_eq_true] at h1
    exact zcnt_inj (tX A) h1.1 hX (by rw [h2, hk])
  unfold zldC
  by_cases e : zld n A kind a b c = true
  · have h := zcnt_ins (W := fun d => zld n A kind a b d && decide (zcnt (tX A) d < k)) (c := c) (by rw [decide_eq_false (show ¬ zcnt (tX A) c < k by omega), Bool.and_false]) 256
    rw [if_pos hc] at h
    rw [if_pos e, ← h]
    refine zcnt_ext fun d _ => ?_
    by_cases z : d = c
    · subst z
      rw [e, decide_eq_true (show zcnt (tX A) d < k + 1 by omega), decide_eq_true (show d = d from rfl), Bool.or_true]; rfl
    · rw [decide_eq_false z, Bool.or_false]
      cases w : zld n A kind a b d
      · rfl
      · have : zcnt (tX A) d ≠ k := fun y => z (hin d w y)
        rw [decide_eq_decide.mpr (show zcnt (tX A) d < k + 1 ↔ zcnt (tX A) d < k by omega)]
  · rw [if_neg e]
    refine Eq.trans ?_ (Nat.add_zero _).symm
    exact zcnt_ext (s := fun c => zld n A kind a b c && decide (zcnt (tX A) c < k + 1)) (t := fun c => zld n A kind a b c && decide (zcnt (tX A) c < k)) (n := 256) fun d _ => by
      cases w : zld n A kind a b d
      · rw [Bool.false_and, Bool.false_and]
      · have : zcnt (tX A) d ≠ k := fun y => e (by rw [← hin d w y]; exact w)
        rw [decide_eq_decide.mpr (show zcnt (tX A) d < k + 1 ↔ zcnt (tX A) d < k by omega)]
theorem zldC_0 (n : Nat) (A : zTl) (kind a b : Nat) : zldC n A kind a b 0 = 0 := zcnt_z fun c _ => by rw [decide_eq_false (Nat.not_lt_zero _), Bool.and_false]
theorem zldC_le (n : Nat) (A : zTl) (kind a b k : Nat) (hk : k ≤ zcnt (tX A) 256) : zldC n A kind a b k ≤ k := by
  induction k with
  | zero => rw [zldC_0]; exact Nat.le_refl _
  | succ k ih =>
    obtain ⟨c, c1, c2, c3⟩ := zkth (s := tX A) (show k < zcnt (tX A) 256 by omega)
    have := ih (by omega)
    rw [zldC_su c1 c2 c3]
    split <;> omega
theorem m_leadOf {O : zOm} (hO : zWld O) (hS : zS O = zmS zC0) {t n kind a b' : Nat} {b i : Int} {A : zTl} {M : zMem} {K : Option zV → zMem → Prop} (ht : t < 7) (hn : M 250 ((1 : Nat) : Int) = ((n : Nat) : Int)) (hn2 : n ≤ 16) (hA : rTe M t n A) (hw : zTw n A) (hQ : zQok n kind a b b')
    (hk : ∀ M' x, (∀ b j, ¬ (b = 250 ∧ j = 52 ∨ b = 250 ∧ j = 55 ∨ ((268 : Nat) : Int) ≤ b ∧ b ≤ ((270 : Nat) : Int) ∨ ((288 : Nat) : Int) ≤ b ∧ b ≤ ((290 : Nat) : Int)) → M' b j = M b j) → M' 250 ((55 : Nat) : Int) = ((zldC n A kind a b' (zcnt (tX A) 256) : Nat) : Int) → ((x = -1 ∧ ∀ k, k < zcnt (tX A) 256 → zldC n A kind a b' (k + 1) ≠ zldC n A kind a b' k → ((zldC n A kind a b' k : Nat) : Int) ≠ i) ∨ ∃ k : Nat, x = ((k : Nat) : Int) ∧ k < zcnt (tX A) 256 ∧ zldC n A kind a b' (k + 1) = zldC n A kind a b' k + 1 ∧ ((zldC n A kind a b' k : Nat) : Int) = i) → K (some (0, x)) M') : zR O F_Model_leadOf [(2, 250), (0, ((t : Nat) : Int)), (0, ((kind : Nat) : Int)), (0, ((a : Nat) : Int)), (0, b), (0, i)] M K := by
  have hoff := zoF_b (n := n) (A := A) (kind := kind) (a := a) (b' := b') hn2
  apply r_Model_leadOf hO
  unfold B_Model_leadOf
  have f55 := zMF (k := 55) hS rfl; have f20 := zMF (k := 20) hS rfl; have a266 := zMA (a := 266) (ty := .int) (n := 1792) hS rfl; have zo := zMO hS
  ((with_reducible refine i_Seq (i_sCall (i_as1 (i_A0 (i_as1 (i_L1 (i_as0 ?_))))))); (with_reducible refine i_recv0 (by assumption) ?_))
  refine m_sorts hO hS ht hn hn2 hA hw (fun M1 f1' S1 R1 => ⟨rfl, ?_⟩)
  have hA1 : rTe M1 t n A := hA.to hn2 hw (fun b j q => f1' b j (by omega))
  ((with_reducible refine i_Seq (i_Set (i_Call (i_as1 (i_A0 (i_as1 (i_L1 (i_as1 (i_L2 (i_as1 (i_L3 (i_as1 (i_L4 (i_as0 ?_)))))))))))))); (with_reducible refine i_recv0 (by assumption) ?_); simp only [w_set0, w_set1, w_setn0, w_setn1])
  refine m_offOf hO hS ht (show M1 250 ((1 : Nat) : Int) = ((n : Nat) : Int) from (f1' _ _ (by omega)).trans hn) hn2 hA1 hw S1 R1 hQ (fun M2 f2' => ⟨_, rfl, ?_⟩)
  have hA2 : rTe M2 t n A := hA1.to hn2 hw (fun b j q => f2' b j (by omega))
  ((with_reducible refine i_Seq (i_Set (i_I (i_Seq (i_Set (i_Call (i_as1 ?_))))))); simp only [w_set0, w_set1, w_setn0, w_setn1]; (with_reducible refine i_A0 (i_as1 (i_L1 (i_as0 ?_)))); (with_reducible refine i_recv0 (by assumption) ?_); simp only [w_set0, w_set1, w_setn0, w_setn1])
  refine m_exceptsOf hO hS ht hA2 hw ⟨_, rfl, ?_⟩
  have fr2 : ∀ b j, ¬ (b = 250 ∧ j = 52 ∨ b = 250 ∧ j = 55 ∨ ((268 : Nat) : Int) ≤ b ∧ b ≤ ((270 : Nat) : Int) ∨ ((288 : Nat) : Int) ≤ b ∧ b ≤ ((290 : Nat) : Int)) → M2 b j = M b j := fun b j q => by rw [f2' b j (by omega), f1' b j (by omega)]
  clear f1' f2' S1 R1 hA1 hA2
  have hE := zcnt_le (tX A) 256
  have hldle := fun k hk => zldC_le n A kind a b' k hk
  generalize hEE : zcnt (tX A) 256 = E at hk hE hldle ⊢
  ((with_reducible refine i_Seq (i_sF (i_A0 (i_I ?_)))); (with_reducible refine i_fld (by assumption) ?_); (with_reducible refine i_Seq (i_Blk (i_Seq (i_Set (i_I ?_))))); simp only [w_set0, w_set1, w_setn0, w_setn1])
  refine w_ForN E (fun k ρ M' => (∃ x l, ρ = 250 :: ((t : Nat) : Int) :: ((kind : Nat) : Int) :: ((a : Nat) : Int) :: b :: i :: ((zoF n A kind a b' : Nat) : Int) :: x :: ((E : Nat) : Int) :: ((k : Nat) : Int) :: l ∧ ((x = -1 ∧ ∀ j, j < k → zldC n A kind a b' (j + 1) ≠ zldC n A kind a b' j → ((zldC n A kind a b' j : Nat) : Int) ≠ i) ∨ ∃ j : Nat, x = ((j : Nat) : Int) ∧ j < k ∧ zldC n A kind a b' (j + 1) = zldC n A kind a b' j + 1 ∧ ((zldC n A kind a b' j : Nat) : Int) = i)) ∧ (∀ b j, ¬ (b = 250 ∧ j = 52 ∨ b = 250 ∧ j = 55 ∨ ((268 : Nat) : Int) ≤ b ∧ b ≤ ((270 : Nat) : Int) ∨ ((288 : Nat) : Int) ≤ b ∧ b ≤ ((290 : Nat) : Int)) → M' b j = M b j) ∧ M' 250 ((55 : Nat) : Int) = ((zldC n A kind a b' k : Nat) : Int)) ⟨⟨_, _, rfl, Or.inl ⟨rfl, fun j h => absurd h (Nat.not_lt_zero _)⟩⟩, fun b j q => by rw [zg_o _ _ (by omega)]; exact fr2 b j q, by rw [zldC_0]; exact zg_s _ _ _ _ _⟩ ?_ ?_
  · clear fr2
    rintro k ρ M3 X hk1 ⟨⟨x, l, rfl, hx⟩, f3, w3⟩ hX
    obtain ⟨c, c1, c2, c3⟩ := zkth (s := tX A) (n := 256) (show k < zcnt (tX A) 256 by rw [hEE]; exact hk1)
    have hA3 : rTe M3 t n A := hA.to hn2 hw (fun b j q => f3 b j (by omega))
    have hp : zpk (tX A) ((k : Nat) : Int) 256 = ((c : Nat) : Int) := zpk_some c1 c2 (by omega)
    have gv : M3 ((266 : Nat) : Int) ((256 * t + c : Nat) : Int) = ((tv A (c / 16) (c % 16) : Nat) : Int) := by
      have := hA3.2.2.2 (c / 16) (c % 16) (by omega) (by omega)
      rwa [show 256 * t + 16 * (c / 16) + c % 16 = 256 * t + c by omega] at this
    have hsu_ := zldC_su (n := n) (kind := kind) (a := a) (b := b') c1 c2 c3
    have hsu := hsu_
    clear hsu_
    have hcl : zldC n A kind a b' k ≤ k := hldle k (by omega)
    have same : zldC n A kind a b' (k + 1) = zldC n A kind a b' k → ∀ (l : zLoc) (M' : zMem), (∀ b j, ¬ (b = 250 ∧ j = 52 ∨ b = 250 ∧ j = 55 ∨ ((268 : Nat) : Int) ≤ b ∧ b ≤ ((270 : Nat) : Int) ∨ ((288 : Nat) : Int) ≤ b ∧ b ≤ ((290 : Nat) : Int)) → M' b j = M b j) → M' 250 ((55 : Nat) : Int) = ((zldC n A kind a b' k : Nat) : Int) → X (250 :: ((t : Nat) : Int) :: ((kind : Nat) : Int) :: ((a : Nat) : Int) :: b :: i :: ((zoF n A kind a b' : Nat) : Int) :: x :: ((E : Nat) : Int) :: ((k + 1 : Nat) : Int) :: l) M' := fun e l M' hf h55 => by
      refine hX _ _ ⟨⟨x, l, rfl, ?_⟩, hf, by rw [e]; exact h55⟩
      rcases hx with ⟨h1, h2⟩ | ⟨j, h1, h2, h3⟩
      · refine Or.inl ⟨h1, fun j hj hne => ?_⟩
        by_cases z : j = k
        · subst z; exact absurd e hne
        · exact h2 j (by omega) hne
      · exact Or.inr ⟨j, h1, by omega, h3⟩
    by_cases e2 : tv A (c / 16) (c % 16) = 2
    · have hu := rTe.up (x := 1) ht c1 hA3
      have hw2 := zv1_w hw c2 (show 1 ≤ 2 by omega)
      rw [e2] at gv
      ((with_reducible refine i_turn (i_cI_lt (i_L9 (i_L8 ?_)))); (with_reducible refine i_t (by omega) ?_); (with_reducible refine i_Blk (i_Seq (i_Set (i_Add (i_Mul (i_I (i_L1 (i_Call (i_as1 (i_A0 (i_as1 (i_L1 (i_as1 (i_L9 (i_as0 ?_))))))))))))))); (with_reducible refine i_recv0 (by assumption) ?_); (refine m_exceptAt hO hS ht hA3 hw (by omega) ⟨_, rfl, ?_⟩); (with_reducible refine i_Seq (i_IfBrk (i_cI_ne (i_IA (i_FR ?_))))); (rw [hp]); rw [zx_cmul (by omega)]; rw [zx_add (by omega)]; simp only [w_set0, w_set1, w_setn0, w_setn1]; (with_reducible refine i_A0 ?_); (with_reducible refine i_fldR (by assumption) ?_); rw [w_setT]; (with_reducible refine i_L10 ?_); (with_reducible refine i_in (by assumption) (by omega) (by omega) ?_); (with_reducible refine i_I ?_); (rw [gv]); (with_reducible refine i_f (by omega) ?_); (with_reducible refine i_Seq (i_sIA (i_FR (i_A0 ?_)))); (with_reducible refine i_fldR (by assumption) ?_); (with_reducible refine i_L10 (i_I ?_)); (with_reducible refine i_in (by assumption) (by omega) (by omega) ?_); (with_reducible refine i_Seq (i_sCall (i_as1 (i_A0 (i_as1 (i_L1 (i_as0 ?_))))))); (with_reducible refine i_recv0 (by assumption) ?_))
      refine m_sorts hO hS ht (show (zput M3 ((266 : Nat) : Int) (zup (M3 ((266 : Nat) : Int)) ((256 * t + c : Nat) : Int) 1)) 250 ((1 : Nat) : Int) = ((n : Nat) : Int) by rw [zg_n _ _ _ (by omega), f3 _ _ (by omega)]; exact hn) hn2 hu hw2 (fun M4 f4 S4 R4 => ⟨rfl, ?_⟩)
      have hA4 : rTe M4 t n (zTv A (zv1 A c 1)) := hu.to hn2 hw2 (fun b j q => f4 b j (by omega))
      have gn4 : M4 250 ((1 : Nat) : Int) = ((n : Nat) : Int) := by rw [f4 _ _ (by omega), zg_n _ _ _ (by omega), f3 _ _ (by omega)]; exact hn
      ((with_reducible refine i_Seq (i_Set (i_eIf (i_cI_lt (i_Call (i_as1 (i_A0 (i_as1 (i_L1 (i_as1 (i_L2 (i_as1 (i_L3 (i_as1 (i_L4 (i_as0 ?_)))))))))))))))); (with_reducible refine i_recv0 (by assumption) ?_))
      refine m_offOf hO hS ht gn4 hn2 hA4 hw2 S4 R4 hQ (fun M5 f5 => ⟨_, rfl, ?_⟩)
      have hoff2 := zoF_b (n := n) (A := zTv A (zv1 A c 1)) (kind := kind) (a := a) (b' := b') hn2
      have w5 : M5 250 ((55 : Nat) : Int) = ((zldC n A kind a b' k : Nat) : Int) := by rw [f5 _ _ (by omega), f4 _ _ (by omega), zg_n _ _ _ (by omega)]; exact w3
      have f53 : ∀ b j, ¬ (b = 250 ∧ j = 52 ∨ b = 250 ∧ j = 55 ∨ ((268 : Nat) : Int) ≤ b ∧ b ≤ ((270 : Nat) : Int) ∨ ((288 : Nat) : Int) ≤ b ∧ b ≤ ((290 : Nat) : Int)) → zput M5 ((266 : Nat) : Int) (zup (M5 ((266 : Nat) : Int)) ((256 * t + c : Nat) : Int) 2) b j = M b j := fun b j q => by
        by_cases z : b = ((266 : Nat) : Int) ∧ j = ((256 * t + c : Nat) : Int)
        · rw [z.1, z.2, zg_s, ← f3 _ _ (by omega), gv]; rfl
        · rw [zg_o _ _ z, f5 b j (by omega), f4 b j (by omega), zg_o _ _ z]; exact f3 b j q
      by_cases e3 : zoF n (zTv A (zv1 A c 1)) kind a b' < zoF n A kind a b'
      · have hl : zld n A kind a b' c = true := by unfold zld; rw [c2, decide_eq_true e2, decide_eq_true e3]; rfl
        rw [hl, if_pos rfl] at hsu
        have w55 : zput M5 ((266 : Nat) : Int) (zup (M5 ((266 : Nat) : Int)) ((256 * t + c : Nat) : Int) 2) 250 ((55 : Nat) : Int) = ((zldC n A kind a b' k : Nat) : Int) := by rw [zg_n _ _ _ (by omega)]; exact w5
        have fin : ∀ (l : zLoc) (y : Int) (M' : zMem), (∀ b j, ¬ (b = 250 ∧ j = 55) → M' b j = zput M5 ((266 : Nat) : Int) (zup (M5 ((266 : Nat) : Int)) ((256 * t + c : Nat) : Int) 2) b j) → M' 250 ((55 : Nat) : Int) = ((zldC n A kind a b' k + 1 : Nat) : Int) → (((zldC n A kind a b' k : Nat) : Int) = i ∧ y = ((k : Nat) : Int) ∨ ¬ ((zldC n A kind a b' k : Nat) : Int) = i ∧ y = x) → X (250 :: ((t : Nat) : Int) :: ((kind : Nat) : Int) :: ((a : Nat) : Int) :: b :: i :: ((zoF n A kind a b' : Nat) : Int) :: y :: ((E : Nat) : Int) :: ((k + 1 : Nat) : Int) :: l) M' := fun l y M' hf h55 hy => by
          refine hX _ _ ⟨⟨y, l, rfl, ?_⟩, fun b j q => by rw [hf b j (by omega)]; exact f53 b j q, by rw [hsu]; exact h55⟩
          rcases hy with ⟨y1, y2⟩ | ⟨y1, y2⟩
          · exact Or.inr ⟨k, y2, by omega, hsu, y1⟩
          · rw [y2]
            rcases hx with ⟨h1, h2⟩ | ⟨j, h1, h2, h3⟩
            · refine Or.inl ⟨h1, fun j hj hne => ?_⟩
              by_cases z : j = k
              · subst z; exact y1
              · exact h2 j (by omega) hne
            · exact Or.inr ⟨j, h1, by omega, h3⟩
        clear hX same
        ((with_reducible refine i_L6 ?_); (with_reducible refine i_t (by omega) ?_); (with_reducible refine i_I (i_Seq (i_sIA (i_FR ?_)))); simp only [w_set0, w_set1, w_setn0, w_setn1]; (with_reducible refine i_A0 ?_); (with_reducible refine i_fldR (by assumption) ?_); (with_reducible refine i_L10 (i_I ?_)); (with_reducible refine i_in (by assumption) (by omega) (by omega) ?_); (with_reducible refine i_Seq (i_IfBrk (i_cNot (i_cZ_ne ?_)))); rw [w_setT]; (with_reducible refine i_L11 ?_); (with_reducible refine i_t (by omega) ?_); (with_reducible refine i_Seq (i_If (i_cI_eq (i_F (i_A0 ?_))))); (with_reducible refine i_fld (by assumption) ?_); (with_reducible refine i_L5 ?_); rw [zg_n _ _ _ (by omega)])
        generalize zput M5 ((266 : Nat) : Int) (zup (M5 ((266 : Nat) : Int)) ((256 * t + c : Nat) : Int) 2) = M6 at w55 fin f53 ⊢
        by_cases e4 : ((zldC n A kind a b' k : Nat) : Int) = i
        · ((with_reducible refine i_t (by omega) ?_); (with_reducible refine i_Set (i_L9 (i_FO ?_))); simp only [w_set0, w_set1, w_setn0, w_setn1]; (with_reducible refine i_A0 ?_); (with_reducible refine i_fld (by assumption) ?_); (with_reducible refine i_I ?_); (with_reducible refine i_fld (by assumption) ?_); (with_reducible refine i_up (i_Inc9 ?_)); (rw [w55]); rw [zx_inc (by omega)]; rw [zx_inc (by omega)]; simp only [w_set0, w_set1, w_setn0, w_setn1])
          exact fin _ _ _ (fun b j q => by rw [zg_o _ _ (by omega)]) (zg_s _ _ _ _ _) (Or.inl ⟨e4, rfl⟩)
        · ((with_reducible refine i_f (by omega) ?_); (with_reducible refine i_FO (i_A0 ?_)); (with_reducible refine i_fld (by assumption) ?_); (with_reducible refine i_I ?_); (with_reducible refine i_fld (by assumption) ?_); (with_reducible refine i_up (i_Inc9 ?_)); (rw [w55]); rw [zx_inc (by omega)]; rw [zx_inc (by omega)]; simp only [w_set0, w_set1, w_setn0, w_setn1])
          exact fin _ _ _ (fun b j q => by rw [zg_o _ _ (by omega)]) (zg_s _ _ _ _ _) (Or.inr ⟨e4, rfl⟩)
      · have hl : zld n A kind a b' c = false := by unfold zld; rw [decide_eq_false e3, Bool.and_false, Bool.and_false]
        rw [hl, if_neg (by decide)] at hsu
        replace hsu := hsu.trans (Nat.add_zero _)
        ((with_reducible refine i_L6 ?_); (with_reducible refine i_f (by omega) ?_); (with_reducible refine i_I (i_Seq (i_sIA (i_FR ?_)))); simp only [w_set0, w_set1, w_setn0, w_setn1]; (with_reducible refine i_A0 ?_); (with_reducible refine i_fldR (by assumption) ?_); (with_reducible refine i_L10 (i_I ?_)); (with_reducible refine i_in (by assumption) (by omega) (by omega) ?_); (with_reducible refine i_Seq (i_IfBrk (i_cNot (i_cZ_ne ?_)))); rw [w_setT]; (with_reducible refine i_L11 ?_); (with_reducible refine i_f (by omega) ?_); (with_reducible refine i_lab1 (i_up (i_Inc9 ?_))); rw [zx_inc (by omega)]; simp only [w_set0, w_set1, w_setn0, w_setn1])
        exact same hsu _ _ f53 (by rw [zg_n _ _ _ (by omega)]; exact w5)
    · have hl : zld n A kind a b' c = false := by unfold zld; rw [decide_eq_false e2]; simp
      rw [hl, if_neg (by decide)] at hsu
      replace hsu := hsu.trans (Nat.add_zero _)
      ((with_reducible refine i_turn (i_cI_lt (i_L9 (i_L8 ?_)))); (with_reducible refine i_t (by omega) ?_); (with_reducible refine i_Blk (i_Seq (i_Set (i_Add (i_Mul (i_I (i_L1 (i_Call (i_as1 (i_A0 (i_as1 (i_L1 (i_as1 (i_L9 (i_as0 ?_))))))))))))))); (with_reducible refine i_recv0 (by assumption) ?_); (refine m_exceptAt hO hS ht hA3 hw (by omega) ⟨_, rfl, ?_⟩); (with_reducible refine i_Seq (i_IfBrk (i_cI_ne (i_IA (i_FR ?_))))); (rw [hp]); rw [zx_cmul (by omega)]; rw [zx_add (by omega)]; simp only [w_set0, w_set1, w_setn0, w_setn1]; (with_reducible refine i_A0 ?_); (with_reducible refine i_fldR (by assumption) ?_); rw [w_setT]; (with_reducible refine i_L10 ?_); (with_reducible refine i_in (by assumption) (by omega) (by omega) ?_); (with_reducible refine i_I ?_); (rw [gv]); ((with_reducible refine i_t (show (((tv A (c / 16) (c % 16) : Nat) : Int) : Int) ≠ 2 by omega) ?_)); (with_reducible refine i_lab1 (i_up (i_Inc9 ?_))); rw [zx_inc (by omega)]; simp only [w_set0, w_set1, w_setn0, w_setn1])
      exact same hsu _ _ f3 w3
  · rintro ρ M3 X ⟨⟨x, l, rfl, hx⟩, f3, w3⟩
    ((with_reducible refine i_turn (i_cI_lt (i_L9 (i_L8 ?_)))); (with_reducible refine i_f (by omega) ?_); (with_reducible refine i_RetI (i_L7 ?_)))
    exact hk M3 x f3 w3 hx
end
section
-- part g2.charm.lean.txt
/-! ===== excepts left out, harm, leads: the class ===== -/
def zO148 (S : List zSh) : Prop := (zObj S ((148 : Nat) : Int) 10 ∧ zFld S ((148 : Nat) : Int) 10 0 = some (some (some 149)) ∧ zFld S ((148 : Nat) : Int) 10 1 = some (some (some 150)) ∧ zFld S ((148 : Nat) : Int) 10 2 = some (some (some 151)) ∧ zFld S ((148 : Nat) : Int) 10 3 = some (some (some 152)) ∧ zFld S ((148 : Nat) : Int) 10 4 = some (some (some 153)) ∧ zFld S ((148 : Nat) : Int) 10 5 = some (some (some 154)) ∧ zFld S ((148 : Nat) : Int) 10 6 = some none ∧ zFld S ((148 : Nat) : Int) 10 7 = some none) ∧ (zArr S ((149 : Nat) : Int) .int 10 ∧ zArr S ((150 : Nat) : Int) .int 10 ∧ zArr S ((151 : Nat) : Int) .int 10 ∧ zArr S ((152 : Nat) : Int) .int 10 ∧ zArr S ((153 : Nat) : Int) .int 120)
theorem zO148_ok {S : List zSh} (hS : S = zmS zC0) : zO148 S := ⟨⟨zo_148 hS, zf_148_0 hS, zf_148_1 hS, zf_148_2 hS, zf_148_3 hS, zf_148_4 hS, zf_148_5 hS, zf_148_6 hS, zf_148_7 hS⟩, ⟨zCA (a := 149) (ty := .int) (n := 10) hS rfl, zCA (a := 150) (ty := .int) (n := 10) hS rfl, zCA (a := 151) (ty := .int) (n := 10) hS rfl, zCA (a := 152) (ty := .int) (n := 10) hS rfl, zCA (a := 153) (ty := .int) (n := 120) hS rfl⟩⟩
theorem tvs_zv1 {A : zTl} {c v p q : Nat} (hc : c / 16 < c % 16) (hp : p < 16) (hq : q < 16) : tvs (zTv A (zv1 A c v)) p q = if (p = c / 16 ∧ q = c % 16) ∨ (p = c % 16 ∧ q = c / 16) then v else tvs A p q := by
  show (if p < q then zv1 A c v p q else zv1 A c v q p) = _
  unfold zv1 tvs
  by_cases h : p < q
  · rw [if_pos h, if_pos h]
    by_cases e : 16 * p + q = c ∧ q < 16
    · rw [if_pos e, if_pos (Or.inl (by omega))]
    · rw [if_neg e, if_neg (by omega)]
  · rw [if_neg h, if_neg h]
    by_cases e : 16 * q + p = c ∧ p < 16
    · rw [if_pos e, if_pos (Or.inr (by omega))]
    · rw [if_neg e, if_neg (by omega)]
theorem c_isLeft {O : zOm} (hO : zWld O) {x n c : Nat} {A : zTl} {M : zMem} {K : Option zV → zMem → Prop} (hx : zTeC (zS O) x) (hA : zTR M x n A) (hc : c / 16 < c % 16) (hc2 : c < 256)
    (hk : K (some (0, zbI (decide (tv A (c / 16) (c % 16) = 2)))) M) : zR O F_Telling_isLeft [(2, ((x : Nat) : Int)), (0, ((c : Nat) : Int))] M K := by
  obtain ⟨⟨x0, x1, x2, x3, x4, x5, x6, x7⟩, ⟨xa, xb⟩, hQ0, ⟨n7, n9, n11⟩⟩ := hx
  have n11' := n11
  obtain ⟨-, -, -, o11⟩ := n11'
  obtain ⟨-, -, -, -, -, hl⟩ := hA
  rw [← tvs_lt hc] at hk
  have hj := fun (K' : Option zV → zMem → Prop) (z : K' (some (0, zbI (decide (tvs A (c / 16) (c % 16) = 2)))) M) => s_joins hO n11 hl (show c / 16 < 16 by omega) (show c % 16 < 16 by omega) (K := K') z
  apply r_Telling_isLeft hO
  unfold B_Telling_isLeft
  ((with_reducible refine i_RetZ (i_Call (i_as1 (i_FR (i_A0 ?_))))); (with_reducible refine i_fldR (by assumption) ?_); (with_reducible refine i_as1 (i_Call (i_as1 (i_L1 (i_as0 (i_recv1 ?_)))))); (refine s_Net_lesserOf hO (by omega) ⟨_, rfl, ?_⟩); (with_reducible refine i_as1 (i_Call (i_as1 (i_L1 (i_as0 (i_recv1 ?_)))))); (refine s_Net_otherOf hO ⟨_, rfl, ?_⟩); (with_reducible refine i_as0 ?_); (with_reducible refine i_recv0 (by assumption) ?_); (refine hj _ ⟨_, rfl, ?_⟩); (with_reducible refine i_z (zbI_01 _) ?_))
  exact hk
theorem c_setLeft {O : zOm} (hO : zWld O) {x n c : Nat} {out : Bool} {A : zTl} {M : zMem} {K : Option zV → zMem → Prop} (hx : zTeC (zS O) x) (hA : zTR M x n A) (hc : c / 16 < c % 16) (hc2 : c < 256) (hX : tX A c = true)
    (hk : ∀ M', (∀ b j, ¬ b = ((x + 12 : Nat) : Int) → M' b j = M b j) → zTR M' x n (zTv A (zv1 A c (if out = true then 2 else 1))) → K none M') : zR O F_Telling_setLeft [(2, ((x : Nat) : Int)), (0, ((c : Nat) : Int)), (0, zbI out)] M K := by
  have hx0 := hx
  obtain ⟨⟨x0, x1, x2, x3, x4, x5, x6, x7⟩, ⟨xa, xb⟩, hQ0, ⟨n7, n9, n11⟩⟩ := hx
  have n11' := n11
  obtain ⟨-, -, -, o11⟩ := n11'
  have hil := fun (K' : Option zV → zMem → Prop) (z : K' (some (0, zbI (decide (tv A (c / 16) (c % 16) = 2)))) M) => c_isLeft hO hx0 hA hc hc2 (K := K') z
  obtain ⟨h1, h2, h3, h4, h5, h6⟩ := hA
  have hv0 : tv A (c / 16) (c % 16) ≠ 0 := of_decide_eq_true hX
  -- what the new one is, if the cells of those left out are so
  have fin : ∀ M', (∀ b j, ¬ b = ((x + 12 : Nat) : Int) → M' b j = M b j) → zNR M' (x + 11) n (fun p q => decide (tvs (zTv A (zv1 A c (if out = true then 2 else 1))) p q = 2)) → K none M' := fun M' hf hl => hk M' hf ⟨zPR.fr h1 (fun b j a1 a2 => hf b j (by omega)), fun b k hb hk2 => by rw [hf _ _ (by omega)]; exact h2 b k hb hk2, ⟨h3.1.to (fun j => hf _ _ (by omega)) (fun j => hf _ _ (by omega)), h3.2⟩, h4.to (fun b j a1 a2 => hf b j (by omega)), (h5.to (fun b j a1 a2 => hf b j (by omega))).ext (fun p q hp hq => by
    rw [tvs_zv1 hc hp hq]
    split
    · rename_i z
      refine decide_eq_decide.mpr ⟨fun _ => by split <;> omega, fun _ => ?_⟩
      rcases z with z | z
      · rw [z.1, z.2, tvs_lt hc]; exact hv0
      · rw [z.1, z.2, tvs_s, tvs_lt hc]; exact hv0
    · rfl), hl⟩
  clear hk
  apply r_Telling_setLeft hO
  unfold B_Telling_setLeft
  by_cases e : decide (tv A (c / 16) (c % 16) = 2) = out
  · ((with_reducible refine i_Seq (i_If (i_cI_ne (i_Call (i_as1 (i_A0 (i_as1 (i_L1 (i_as0 ?_))))))))); (with_reducible refine i_recv0 (by assumption) ?_); (refine hil _ ⟨_, rfl, ?_⟩); (with_reducible refine i_L2 ?_); (rw [e]); (with_reducible refine i_f (by omega) ?_); (with_reducible refine i_RetV ?_))
    refine fin M (fun _ _ _ => rfl) (h6.ext (fun p q hp hq => ?_))
    rw [tvs_zv1 hc hp hq]
    split
    · rename_i z
      have hh : tvs A p q = tv A (c / 16) (c % 16) := by
        rcases z with z | z
        · rw [z.1, z.2, tvs_lt hc]
        · rw [z.1, z.2, tvs_s, tvs_lt hc]
      rw [hh, e]
      cases out <;> rfl
    · rfl
  · have hne : zbI (decide (tv A (c / 16) (c % 16) = 2)) ≠ zbI out := fun z => e (zbI_in.mp z)
    ((with_reducible refine i_Seq (i_If (i_cI_ne (i_Call (i_as1 (i_A0 (i_as1 (i_L1 (i_as0 ?_))))))))); (with_reducible refine i_recv0 (by assumption) ?_); (refine hil _ ⟨_, rfl, ?_⟩); (with_reducible refine i_L2 ?_); ((with_reducible refine i_t hne ?_)); (with_reducible refine i_sCall (i_as1 (i_FR (i_A0 ?_)))); (with_reducible refine i_fldR (by assumption) ?_); (with_reducible refine i_as1 (i_Call (i_as1 (i_L1 (i_as0 (i_recv1 ?_)))))); (refine s_Net_lesserOf hO (by omega) ⟨_, rfl, ?_⟩); (with_reducible refine i_as1 (i_Call (i_as1 (i_L1 (i_as0 (i_recv1 ?_)))))); (refine s_Net_otherOf hO ⟨_, rfl, ?_⟩); (with_reducible refine i_as0 ?_); (with_reducible refine i_recv0 (by assumption) ?_))
    refine s_Net_flip hO n11 h6 (show c / 16 < 16 by omega) (show c % 16 < 16 by omega) (by omega) (fun M1 f1 l1 => ⟨rfl, ?_⟩)
    (with_reducible refine i_RetV ?_)
    refine fin M1 (fun b j q => by rw [f1 b (by simp; omega)]) (l1.ext (fun p q hp hq => ?_))
    rw [zflip_in, tvs_zv1 hc hp hq]
    by_cases z : (p = c / 16 ∧ q = c % 16) ∨ (p = c % 16 ∧ q = c / 16)
    · have hh : tvs A p q = tv A (c / 16) (c % 16) := by
        rcases z with z | z
        · rw [z.1, z.2, tvs_lt hc]
        · rw [z.1, z.2, tvs_s, tvs_lt hc]
      have hor : (decide (p = c / 16 ∧ q = c % 16) || decide (p = c % 16 ∧ q = c / 16)) = true := by
        rcases z with z | z
        · rw [decide_eq_true z]; rfl
        · rw [decide_eq_true z, Bool.or_true]
      rw [if_pos z, hh, hor]
      have e' : decide (tv A (c / 16) (c % 16) = 2) = !out := by cases h : decide (tv A (c / 16) (c % 16) = 2) <;> cases out <;> first | rfl | exact absurd h e
      rw [e']
      cases out <;> rfl
    · rw [if_neg z, decide_eq_false (fun y => z (Or.inl y)), decide_eq_false (fun y => z (Or.inr y))]
      simp
def cQs (M : zMem) (Q : zQl) : Prop := M ((148 : Nat) : Int) ((7 : Nat) : Int) = ((Q.1 : Nat) : Int) ∧ ∀ i : Nat, i < Q.1 → M ((149 : Nat) : Int) ((i : Nat) : Int) = ((qk Q i : Nat) : Int) ∧ M ((150 : Nat) : Int) ((i : Nat) : Int) = ((qa Q i : Nat) : Int) ∧ M ((151 : Nat) : Int) ((i : Nat) : Int) = qb Q i ∧ M ((152 : Nat) : Int) ((i : Nat) : Int) = ((qw Q i : Nat) : Int)
theorem cQs.to {M M' : zMem} {Q : zQl} (h : cQs M Q) (e : ∀ b j, (b = ((148 : Nat) : Int) ∧ j = 7 ∨ ((149 : Nat) : Int) ≤ b ∧ b ≤ ((152 : Nat) : Int)) → M' b j = M b j) : cQs M' Q := ⟨by rw [e _ _ (by omega)]; exact h.1, fun i hi => by
  obtain ⟨h1, h2, h3, h4⟩ := h.2 i hi
  exact ⟨by rw [e _ _ (by omega)]; exact h1, by rw [e _ _ (by omega)]; exact h2, by rw [e _ _ (by omega)]; exact h3, by rw [e _ _ (by omega)]; exact h4⟩⟩
theorem c_harmBy {O : zOm} (hO : zWld O) (hS : zS O = zmS zC0) {x n : Nat} {A : zTl} {Q : zQl} {M : zMem} {K : Option zV → zMem → Prop} (hx : zTeC (zS O) x) (hx7 : 165 < x) (hpx : M ((x + 1 : Nat) : Int) ((3 : Nat) : Int) = ((n : Nat) : Int)) (hn1 : 0 < n) (hn2 : n ≤ 16) (hw : zTw n A) (hq : cQs M Q) (hQ : zQs n Q) (hT : cTk M n A)
    (hk : ∀ M', (∀ b j, ¬ (b = ((134 : Nat) : Int) ∧ j = 7 ∨ b = ((138 : Nat) : Int) ∨ b = ((140 : Nat) : Int) ∨ ((145 : Nat) : Int) ≤ b ∧ b ≤ ((146 : Nat) : Int)) → M' b j = M b j) → cTk M' n A → K (some (0, ((zhm n A Q : Nat) : Int))) M') : zR O F_Reader_harmBy [(2, ((148 : Nat) : Int)), (2, ((x : Nat) : Int)), (2, ((134 : Nat) : Int))] M K := by
  obtain ⟨⟨s0, s1, s2, s3, s4, s5, s6, s7, s8⟩, ⟨t1, t2, t3, t4, t5⟩⟩ := zO148_ok hS
  obtain ⟨⟨u0, -⟩, -⟩ := zO134_ok hS
  have hq10 := hQ.1
  apply r_Reader_harmBy hO
  unfold B_Reader_harmBy
  ((with_reducible refine i_Seq (i_Set (i_I (i_Seq (i_Blk (i_Seq (i_Set (i_I ?_)))))))); simp only [w_set0, w_set1, w_setn0, w_setn1])
  refine w_ForN Q.1 (fun i ρ M' => (∃ l, ρ = ((148 : Nat) : Int) :: ((x : Nat) : Int) :: ((134 : Nat) : Int) :: ((zsum (fun i => qw Q i * zoF n A (qk Q i) (qa Q i) (qc Q i)) i : Nat) : Int) :: ((i : Nat) : Int) :: l) ∧ (∀ b j, ¬ (b = ((134 : Nat) : Int) ∧ j = 7 ∨ b = ((138 : Nat) : Int) ∨ b = ((140 : Nat) : Int) ∨ ((145 : Nat) : Int) ≤ b ∧ b ≤ ((146 : Nat) : Int)) → M' b j = M b j) ∧ cTk M' n A) ⟨⟨_, rfl⟩, fun _ _ _ => rfl, hT⟩ ?_ ?_
  · rintro i ρ M2 X hi ⟨⟨l, rfl⟩, f2, h2⟩ hX
    obtain ⟨g1, g2, g3, g4⟩ := hq.2 i hi
    have e0 : M2 ((148 : Nat) : Int) ((7 : Nat) : Int) = ((Q.1 : Nat) : Int) := (f2 _ _ (by omega)).trans hq.1
    have e1 := (f2 ((149 : Nat) : Int) ((i : Nat) : Int) (by omega)).trans g1
    have e2 := (f2 ((150 : Nat) : Int) ((i : Nat) : Int) (by omega)).trans g2
    have e3 := (f2 ((151 : Nat) : Int) ((i : Nat) : Int) (by omega)).trans g3
    have e4 := (f2 ((152 : Nat) : Int) ((i : Nat) : Int) (by omega)).trans g4
    obtain ⟨hq1, hq2⟩ := hQ.2 i hi
    have hb1 := zhm_b (A := A) hn2 hQ i (by omega)
    have hmul : qw Q i * zoF n A (qk Q i) (qa Q i) (qc Q i) ≤ 9 * 62000 := Nat.mul_le_mul hq2 (zoF_b hn2)
    have hX2 : ∀ (l : zLoc) (M' : zMem) (v : Nat), v = zsum (fun i => qw Q i * zoF n A (qk Q i) (qa Q i) (qc Q i)) i + qw Q i * zoF n A (qk Q i) (qa Q i) (qc Q i) → (∀ b j, ¬ (b = ((134 : Nat) : Int) ∧ j = 7 ∨ b = ((138 : Nat) : Int) ∨ b = ((140 : Nat) : Int) ∨ ((145 : Nat) : Int) ≤ b ∧ b ≤ ((146 : Nat) : Int)) → M' b j = M b j) → cTk M' n A → X (((148 : Nat) : Int) :: ((x : Nat) : Int) :: ((134 : Nat) : Int) :: ((v : Nat) : Int) :: ((i + 1 : Nat) : Int) :: l) M' := fun l M' v hv hf ht => by subst hv; exact hX _ _ ⟨⟨l, rfl⟩, hf, ht⟩
    clear hX
    generalize zsum (fun i => qw Q i * zoF n A (qk Q i) (qa Q i) (qc Q i)) i = u at hb1 hX2 ⊢
    ((with_reducible refine i_turn (i_cI_lt (i_L4 (i_F (i_A0 ?_))))); (with_reducible refine i_fld (by assumption) ?_); (rw [e0]); (with_reducible refine i_t (by omega) ?_); (with_reducible refine i_Set (i_Add (i_L3 (i_Mul (i_IA (i_FR (i_A0 ?_))))))); (with_reducible refine i_fldR (by assumption) ?_); (with_reducible refine i_L4 ?_); (with_reducible refine i_in (by assumption) (by omega) (by omega) ?_); (with_reducible refine i_Call (i_as1 (i_A2 (i_as1 (i_A1 (i_as1 (i_IA (i_FR (i_A0 ?_))))))))); (with_reducible refine i_fldR (by assumption) ?_); (with_reducible refine i_L4 ?_); (with_reducible refine i_in (by assumption) (by omega) (by omega) ?_); (with_reducible refine i_as1 (i_IA (i_FR (i_A0 ?_)))); (with_reducible refine i_fldR (by assumption) ?_); (with_reducible refine i_L4 ?_); (with_reducible refine i_in (by assumption) (by omega) (by omega) ?_); (with_reducible refine i_as1 (i_IA (i_FR (i_A0 ?_)))); (with_reducible refine i_fldR (by assumption) ?_); (with_reducible refine i_L4 ?_); (with_reducible refine i_in (by assumption) (by omega) (by omega) ?_); (with_reducible refine i_as0 ?_); (with_reducible refine i_recv0 (by assumption) ?_); (rw [e1]); (rw [e2]); (rw [e3]); (rw [e4]); simp only [w_set0, w_set1, w_setn0, w_setn1])
    refine c_off hO hS hx (by omega) (show M2 ((x + 1 : Nat) : Int) ((3 : Nat) : Int) = ((n : Nat) : Int) from (f2 _ _ (by omega)).trans hpx) hn1 hn2 hw hq1 h2 (fun M3 f3 h3 => ⟨_, rfl, ?_⟩)
    generalize zoF n A (qk Q i) (qa Q i) (qc Q i) = v at hmul hX2 ⊢
    ((with_reducible refine i_up (i_Inc4 ?_)); (rw [zx_mul (by omega)]); rw [zx_inc (by omega)]; rw [zx_add (by omega)]; simp only [w_set0, w_set1, w_setn0, w_setn1])
    exact hX2 _ _ _ rfl (fun b j q => by rw [f3 b j q, f2 b j q]) h3
  · rintro ρ M2 X ⟨⟨l, rfl⟩, f2, h2⟩
    have e0 : M2 ((148 : Nat) : Int) ((7 : Nat) : Int) = ((Q.1 : Nat) : Int) := (f2 _ _ (by omega)).trans hq.1
    ((with_reducible refine i_turn (i_cI_lt (i_L4 (i_F (i_A0 ?_))))); (with_reducible refine i_fld (by assumption) ?_); (rw [e0]); (with_reducible refine i_f (by omega) ?_); (with_reducible refine i_RetI (i_L3 ?_)))
    exact hk M2 f2 h2
theorem zTR.pairs {O : zOm} (hO : zWld O) {x n : Nat} {A : zTl} {M : zMem} {K : Option zV → zMem → Prop} (hx : zTeC (zS O) x) (hA : zTR M x n A) (hn2 : n ≤ 16) (hw : zTw n A) (hk : K (some (0, ((zcnt (tX A) 256 : Nat) : Int))) M) : zR O F_Net_pairs [(2, ((x + 9 : Nat) : Int))] M K := by
  obtain ⟨-, -, hQ0, ⟨n7, n9, n11⟩⟩ := hx
  obtain ⟨-, -, -, -, h5, -⟩ := hA
  rw [tX_cnt hn2 hw] at hk
  exact s_Net_pairs hO n9 h5 hn2 hk
theorem zTR.pairAt {O : zOm} (hO : zWld O) {x n : Nat} {k : Int} {A : zTl} {M : zMem} {K : Option zV → zMem → Prop} (hx : zTeC (zS O) x) (hA : zTR M x n A) (hn2 : n ≤ 16) (hw : zTw n A) (hk0 : zin32 k) (hk : K (some (0, zpk (tX A) k 256)) M) : zR O F_Net_pairAt [(2, ((x + 9 : Nat) : Int)), (0, k)] M K := by
  obtain ⟨-, -, hQ0, ⟨n7, n9, n11⟩⟩ := hx
  obtain ⟨-, -, -, -, h5, -⟩ := hA
  rw [← tX_ut hw] at hk
  exact s_Net_pairAt hO n9 h5 hn2 (tX_reg hw) hk0 hk
theorem tX_120 {n : Nat} {A : zTl} (hn : n ≤ 16) (hw : zTw n A) : zcnt (tX A) 256 ≤ 120 := by
  rw [tX_cnt hn hw, zpairs_p2 (tX_reg hw) hn]
  exact zp2_le _ hn
theorem zv1_bk {A : zTl} {c : Nat} (hc : c < 256) (h : tv A (c / 16) (c % 16) = 2) : zTv (zTv A (zv1 A c 1)) (zv1 (zTv A (zv1 A c 1)) c 2) = A := by
  obtain ⟨a1, a2, a3, a4⟩ := A
  show (a1, a2, a3, _) = _
  congr 3
  funext p q
  show (if 16 * p + q = c ∧ q < 16 then 2 else if 16 * p + q = c ∧ q < 16 then 1 else a4 p q) = a4 p q
  by_cases e : 16 * p + q = c ∧ q < 16
  · rw [if_pos e]
    have h2 : a4 (c / 16) (c % 16) = 2 := h
    rw [← e.1, show (16 * p + q) / 16 = p by omega, show (16 * p + q) % 16 = q by omega] at h2
    exact h2.symm
  · rw [if_neg e, if_neg e]
theorem c_followLeads {O : zOm} (hO : zWld O) (hS : zS O = zmS zC0) {x n kind a b' : Nat} {b : Int} {A : zTl} {M : zMem} {K : Option zV → zMem → Prop} (hx : zTeC (zS O) x) (hx7 : 165 < x) (hA : zTR M x n A) (hn1 : 0 < n) (hn2 : n ≤ 16) (hw : zTw n A) (hQ : zQok n kind a b b') (hC : cSo M)
    (hk : ∀ M', (∀ b j, ¬ (b = ((134 : Nat) : Int) ∧ (j = 6 ∨ j = 7 ∨ j = 12) ∨ ((135 : Nat) : Int) ≤ b ∧ b ≤ ((147 : Nat) : Int) ∨ b = ((x + 12 : Nat) : Int)) → M' b j = M b j) → zTR M' x n A → cSo M' → M' ((134 : Nat) : Int) ((12 : Nat) : Int) = ((zldC n A kind a b' (zcnt (tX A) 256) : Nat) : Int) → (∀ i : Nat, i < zldC n A kind a b' (zcnt (tX A) 256) → ∃ k : Nat, M' ((147 : Nat) : Int) ((i : Nat) : Int) = ((k : Nat) : Int) ∧ k < zcnt (tX A) 256 ∧ zldC n A kind a b' (k + 1) = zldC n A kind a b' k + 1 ∧ zldC n A kind a b' k = i) → K none M') : zR O F_Sorts_followLeads [(2, ((134 : Nat) : Int)), (2, ((x : Nat) : Int)), (0, ((kind : Nat) : Int)), (0, ((a : Nat) : Int)), (0, b)] M K := by
  obtain ⟨⟨s0, s1, s2, s3, s4, s5, s6, s7, s8⟩, ⟨s9, s10, s11, s12, s13⟩, ⟨t1, t2, t3, t4, t5, t6, t7⟩⟩ := zO134_ok hS
  have hx0 := hx
  obtain ⟨⟨x0, x1, x2, x3, x4, x5, x6, x7⟩, ⟨xa, xb⟩, hQ0, ⟨n7, n9, n11⟩⟩ := hx
  have n9' := n9
  obtain ⟨-, -, -, o9⟩ := n9'
  have hE := tX_120 hn2 hw
  have hldle := fun k hk => zldC_le n A kind a b' k hk
  have hoff := zoF_b (n := n) (A := A) (kind := kind) (a := a) (b' := b') hn2
  apply r_Sorts_followLeads hO
  unfold B_Sorts_followLeads
  ((with_reducible refine i_Seq (i_Seq (i_sCall (i_as1 (i_A0 (i_as1 (i_A1 (i_as0 ?_)))))))); (with_reducible refine i_recv0 (by assumption) ?_))
  refine c_take hO hS hx0 (by omega) hA hn2 hw hC (fun M1 f1 h1 => ⟨rfl, ?_⟩)
  have hA1 : zTR M1 x n A := hA.to (fun b j a1 a2 => f1 b j (by omega))
  ((with_reducible refine i_Seq (i_Set (i_Call (i_as1 (i_A0 (i_as1 (i_A1 (i_as1 (i_L2 (i_as1 (i_L3 (i_as1 (i_L4 (i_as0 ?_)))))))))))))); (with_reducible refine i_recv0 (by assumption) ?_); simp only [w_set0, w_set1, w_setn0, w_setn1])
  refine c_off hO hS hx0 (by omega) hA1.1.1 hn1 hn2 hw hQ h1 (fun M2 f2 h2 => ⟨_, rfl, ?_⟩)
  have hA2 : zTR M2 x n A := hA1.to (fun b j a1 a2 => f2 b j (by omega))
  have fr2 : ∀ b j, ¬ (b = ((134 : Nat) : Int) ∧ (j = 6 ∨ j = 7 ∨ j = 12) ∨ ((135 : Nat) : Int) ≤ b ∧ b ≤ ((147 : Nat) : Int) ∨ b = ((x + 12 : Nat) : Int)) → M2 b j = M b j := fun b j q => by rw [f2 b j (by omega), f1 b j (by omega)]
  ((with_reducible refine i_Seq (i_Set (i_Call (i_as1 (i_FR (i_A1 ?_)))))); (with_reducible refine i_fldR (by assumption) ?_); (with_reducible refine i_as0 ?_); (with_reducible refine i_recv0 (by assumption) ?_); simp only [w_set0, w_set1, w_setn0, w_setn1])
  refine zTR.pairs hO hx0 hA2 hn2 hw ⟨_, rfl, ?_⟩
  generalize hEE : zcnt (tX A) 256 = E at hk hE hldle ⊢
  ((with_reducible refine i_Seq (i_sF (i_A0 (i_I ?_)))); (with_reducible refine i_fld (by assumption) ?_); (with_reducible refine i_Blk (i_Seq (i_Set (i_I ?_)))); simp only [w_set0, w_set1, w_setn0, w_setn1])
  refine w_ForN E (fun k ρ M' => (∃ l, ρ = ((134 : Nat) : Int) :: ((x : Nat) : Int) :: ((kind : Nat) : Int) :: ((a : Nat) : Int) :: b :: ((zoF n A kind a b' : Nat) : Int) :: ((E : Nat) : Int) :: ((k : Nat) : Int) :: l) ∧ (∀ b j, ¬ (b = ((134 : Nat) : Int) ∧ (j = 6 ∨ j = 7 ∨ j = 12) ∨ ((135 : Nat) : Int) ≤ b ∧ b ≤ ((147 : Nat) : Int) ∨ b = ((x + 12 : Nat) : Int)) → M' b j = M b j) ∧ (zTR M' x n A ∧ cSo M') ∧ M' ((134 : Nat) : Int) ((12 : Nat) : Int) = ((zldC n A kind a b' k : Nat) : Int) ∧ ∀ i : Nat, i < zldC n A kind a b' k → ∃ j : Nat, M' ((147 : Nat) : Int) ((i : Nat) : Int) = ((j : Nat) : Int) ∧ j < k ∧ zldC n A kind a b' (j + 1) = zldC n A kind a b' j + 1 ∧ zldC n A kind a b' j = i) ⟨⟨_, rfl⟩, fun b j q => by rw [zg_o _ _ (by omega)]; exact fr2 b j q, ⟨hA2.to (fun b j a1 a2 => by rw [zg_n _ _ _ (by omega)]), h2.so.to (fun b j q => by rw [zg_o _ _ (by omega)])⟩, by rw [zldC_0]; exact zg_s _ _ _ _ _, fun i h => absurd h (by rw [zldC_0]; omega)⟩ ?_ ?_
  · clear fr2 h1 h2 hA1 hA2 f1 f2
    rintro k ρ M3 X hk1 ⟨⟨l, rfl⟩, f3, ⟨hA3, hC3⟩, w3, l3⟩ hX
    obtain ⟨c, c1, c2, c3⟩ := zkth (s := tX A) (n := 256) (show k < zcnt (tX A) 256 by rw [hEE]; exact hk1)
    obtain ⟨c4, c5, -⟩ := tX_in hn2 hw c2
    have hp : zpk (tX A) ((k : Nat) : Int) 256 = ((c : Nat) : Int) := zpk_some c1 c2 (by omega)
    have hsu_ := zldC_su (n := n) (kind := kind) (a := a) (b := b') c1 c2 c3
    have hsu := hsu_
    clear hsu_
    have hcl : zldC n A kind a b' k ≤ k := hldle k (by omega)
    have same : zldC n A kind a b' (k + 1) = zldC n A kind a b' k → ∀ (l : zLoc) (M' : zMem), (∀ b j, ¬ (b = ((134 : Nat) : Int) ∧ (j = 6 ∨ j = 7 ∨ j = 12) ∨ ((135 : Nat) : Int) ≤ b ∧ b ≤ ((147 : Nat) : Int) ∨ b = ((x + 12 : Nat) : Int)) → M' b j = M b j) → zTR M' x n A → cSo M' → M' ((134 : Nat) : Int) ((12 : Nat) : Int) = ((zldC n A kind a b' k : Nat) : Int) → (∀ j, M' ((147 : Nat) : Int) j = M3 ((147 : Nat) : Int) j) → X (((134 : Nat) : Int) :: ((x : Nat) : Int) :: ((kind : Nat) : Int) :: ((a : Nat) : Int) :: b :: ((zoF n A kind a b' : Nat) : Int) :: ((E : Nat) : Int) :: ((k + 1 : Nat) : Int) :: l) M' := fun e l M' hf h1 h2 h12 h146 => by
      refine hX _ _ ⟨⟨l, rfl⟩, hf, ⟨h1, h2⟩, by rw [e]; exact h12, fun i hi => ?_⟩
      rw [e] at hi
      obtain ⟨j, j1, j2, j3⟩ := l3 i hi
      exact ⟨j, by rw [h146]; exact j1, by omega, j3⟩
    have hpa := fun (K' : Option zV → zMem → Prop) (z : K' (some (0, zpk (tX A) ((k : Nat) : Int) 256)) M3) => zTR.pairAt hO hx0 hA3 hn2 hw (k := ((k : Nat) : Int)) ⟨by omega, by omega⟩ (K := K') z
    rw [hp] at hpa
    by_cases e2 : tv A (c / 16) (c % 16) = 2
    · have hw2 := zv1_w hw c2 (show 1 ≤ 2 by omega)
      have hX2 := tX_zv1 c2 (show 1 ≠ 0 by omega)
      ((with_reducible refine i_turn (i_cI_lt (i_L7 (i_L6 ?_)))); (with_reducible refine i_t (by omega) ?_); (with_reducible refine i_Blk (i_Seq (i_Set (i_Call (i_as1 (i_FR (i_A1 ?_))))))); (with_reducible refine i_fldR (by assumption) ?_); (with_reducible refine i_as1 (i_L7 (i_as0 ?_))); (with_reducible refine i_recv0 (by assumption) ?_); (refine hpa _ ⟨_, rfl, ?_⟩); (with_reducible refine i_If (i_cAnd (i_cI_ne ?_))); simp only [w_set0, w_set1, w_setn0, w_setn1]; rw [w_setT]; (with_reducible refine i_L8 (i_I ?_)); ((with_reducible refine i_t (show (((c : Nat) : Int) : Int) ≠ -1 by omega) ?_)); (with_reducible refine i_cZ_ne (i_Call (i_as1 (i_A1 (i_as1 (i_L8 (i_as0 ?_))))))); (with_reducible refine i_recv0 (by assumption) ?_); (refine c_isLeft hO hx0 hA3 c4 c1 ⟨_, rfl, ?_⟩); (rw [decide_eq_true e2]); rw [zbI_t]; (with_reducible refine i_t (by omega) ?_); (with_reducible refine i_Seq (i_sCall (i_as1 (i_A1 (i_as1 (i_L8 (i_as1 (i_I (i_as0 ?_))))))))); (with_reducible refine i_recv0 (by assumption) ?_))
      refine c_setLeft hO (out := false) hx0 hA3 c4 c1 c2 (fun M4 f4 h4 => ⟨rfl, ?_⟩)
      rw [if_neg (by decide)] at h4
      ((with_reducible refine i_Seq (i_sCall (i_as1 (i_A0 (i_as1 (i_A1 (i_as0 ?_))))))); (with_reducible refine i_recv0 (by assumption) ?_))
      refine c_take hO hS hx0 (by omega) h4 hn2 hw2 (hC3.to (fun b j q => f4 b j (by omega))) (fun M5 f5 h5 => ⟨rfl, ?_⟩)
      have hA5 : zTR M5 x n (zTv A (zv1 A c 1)) := h4.to (fun b j a1 a2 => f5 b j (by omega))
      ((with_reducible refine i_Seq (i_If (i_cAnd (i_cI_lt (i_Call (i_as1 (i_A0 (i_as1 (i_A1 (i_as1 (i_L2 (i_as1 (i_L3 (i_as1 (i_L4 (i_as0 ?_)))))))))))))))); (with_reducible refine i_recv0 (by assumption) ?_))
      refine c_off hO hS hx0 (by omega) hA5.1.1 hn1 hn2 hw2 hQ h5 (fun M6 f6 h6 => ⟨_, rfl, ?_⟩)
      have hA6 : zTR M6 x n (zTv A (zv1 A c 1)) := hA5.to (fun b j a1 a2 => f6 b j (by omega))
      have hoff2 := zoF_b (n := n) (A := zTv A (zv1 A c 1)) (kind := kind) (a := a) (b' := b') hn2
      have w6 : M6 ((134 : Nat) : Int) ((12 : Nat) : Int) = ((zldC n A kind a b' k : Nat) : Int) := by rw [f6 _ _ (by omega), f5 _ _ (by omega), f4 _ _ (by omega)]; exact w3
      have l6 : ∀ j, M6 ((147 : Nat) : Int) j = M3 ((147 : Nat) : Int) j := fun j => by rw [f6 _ _ (by omega), f5 _ _ (by omega), f4 _ _ (by omega)]
      have f63 : ∀ b j, ¬ (b = ((134 : Nat) : Int) ∧ (j = 6 ∨ j = 7 ∨ j = 12) ∨ ((135 : Nat) : Int) ≤ b ∧ b ≤ ((147 : Nat) : Int) ∨ b = ((x + 12 : Nat) : Int)) → M6 b j = M b j := fun b j q => by rw [f6 b j (by omega), f5 b j (by omega), f4 b j (by omega), f3 b j q]
      have c2' : tX (zTv A (zv1 A c 1)) c = true := by rw [hX2]; exact c2
      have hback := zv1_bk c1 e2
      by_cases e3 : zoF n (zTv A (zv1 A c 1)) kind a b' < zoF n A kind a b'
      · have hl : zld n A kind a b' c = true := by unfold zld; rw [c2, decide_eq_true e2, decide_eq_true e3]; rfl
        rw [hl, if_pos rfl] at hsu
        clear same
        ((with_reducible refine i_L5 ?_); (with_reducible refine i_t (by omega) ?_); (with_reducible refine i_cI_lt (i_F (i_A0 ?_))); (with_reducible refine i_fld (by assumption) ?_); (with_reducible refine i_I ?_); (rw [w6]); (with_reducible refine i_t (by omega) ?_); (with_reducible refine i_Seq (i_sIA (i_FR (i_A0 ?_)))); (with_reducible refine i_fldR (by assumption) ?_); (with_reducible refine i_F (i_A0 ?_)); (with_reducible refine i_fld (by assumption) ?_); (with_reducible refine i_L7 ?_); (with_reducible refine i_in (by assumption) (by omega) (by omega) ?_); (with_reducible refine i_FO (i_A0 ?_)); (with_reducible refine i_fld (by assumption) ?_); (with_reducible refine i_I ?_); (with_reducible refine i_fld (by assumption) ?_); (with_reducible refine i_sCall (i_as1 (i_A1 (i_as1 (i_L8 (i_as1 (i_I (i_as0 ?_)))))))); (with_reducible refine i_recv0 (by assumption) ?_); rw [zg_n _ _ _ (by omega)]; (rw [w6]); rw [zx_inc (by omega)])
        refine c_setLeft hO (out := true) hx0 (hA6.to (fun b j a1 a2 => by rw [zg_n _ _ _ (by omega), zg_n _ _ _ (by omega)])) c4 c1 c2' (fun M7 f7 h7 => ⟨rfl, ?_⟩)
        rw [if_pos rfl, hback] at h7
        ((with_reducible refine i_up (i_Inc7 ?_)); rw [zx_inc (by omega)]; simp only [w_set0, w_set1, w_setn0, w_setn1])
        refine hX _ _ ⟨⟨_, rfl⟩, fun b j q => by rw [f7 b j (by omega), zg_o _ _ (by omega), zg_o _ _ (by omega)]; exact f63 b j q, ⟨h7, h6.so.to (fun b j q => by rw [f7 b j (by omega), zg_o _ _ (by omega), zg_o _ _ (by omega)])⟩, by rw [hsu, f7 _ _ (by omega)]; exact zg_s _ _ _ _ _, fun i hi => ?_⟩
        rw [hsu] at hi
        by_cases z : i = zldC n A kind a b' k
        · exact ⟨k, by rw [z, f7 _ _ (by omega), zg_n _ _ _ (by omega)]; exact zg_s _ _ _ _ _, by omega, hsu, z.symm⟩
        · obtain ⟨j, j1, j2, j3⟩ := l3 i (by omega)
          exact ⟨j, by rw [f7 _ _ (by omega), zg_n _ _ _ (by omega), zg_m _ _ _ _ _ (by omega), l6]; exact j1, by omega, j3⟩
      · have hl : zld n A kind a b' c = false := by unfold zld; rw [decide_eq_false e3, Bool.and_false, Bool.and_false]
        rw [hl, if_neg (by decide)] at hsu
        replace hsu := hsu.trans (Nat.add_zero _)
        clear hX
        ((with_reducible refine i_L5 ?_); (with_reducible refine i_f (by omega) ?_); (with_reducible refine i_sCall (i_as1 (i_A1 (i_as1 (i_L8 (i_as1 (i_I (i_as0 ?_)))))))); (with_reducible refine i_recv0 (by assumption) ?_))
        refine c_setLeft hO (out := true) hx0 hA6 c4 c1 c2' (fun M7 f7 h7 => ⟨rfl, ?_⟩)
        rw [if_pos rfl, hback] at h7
        ((with_reducible refine i_up (i_Inc7 ?_)); rw [zx_inc (by omega)]; simp only [w_set0, w_set1, w_setn0, w_setn1])
        exact same hsu _ _ (fun b j q => by rw [f7 b j (by omega)]; exact f63 b j q) h7 (h6.so.to (fun b j q => f7 b j (by omega))) (by rw [f7 _ _ (by omega)]; exact w6) (fun j => by rw [f7 _ _ (by omega)]; exact l6 j)
    · have hl : zld n A kind a b' c = false := by unfold zld; rw [decide_eq_false e2]; simp
      rw [hl, if_neg (by decide)] at hsu
      replace hsu := hsu.trans (Nat.add_zero _)
      clear hX
      ((with_reducible refine i_turn (i_cI_lt (i_L7 (i_L6 ?_)))); (with_reducible refine i_t (by omega) ?_); (with_reducible refine i_Blk (i_Seq (i_Set (i_Call (i_as1 (i_FR (i_A1 ?_))))))); (with_reducible refine i_fldR (by assumption) ?_); (with_reducible refine i_as1 (i_L7 (i_as0 ?_))); (with_reducible refine i_recv0 (by assumption) ?_); (refine hpa _ ⟨_, rfl, ?_⟩); (with_reducible refine i_If (i_cAnd (i_cI_ne ?_))); simp only [w_set0, w_set1, w_setn0, w_setn1]; rw [w_setT]; (with_reducible refine i_L8 (i_I ?_)); ((with_reducible refine i_t (show (((c : Nat) : Int) : Int) ≠ -1 by omega) ?_)); (with_reducible refine i_cZ_ne (i_Call (i_as1 (i_A1 (i_as1 (i_L8 (i_as0 ?_))))))); (with_reducible refine i_recv0 (by assumption) ?_); (refine c_isLeft hO hx0 hA3 c4 c1 ⟨_, rfl, ?_⟩); (rw [decide_eq_false e2]); rw [zbI_f]; (with_reducible refine i_f (by omega) ?_); (with_reducible refine i_up (i_Inc7 ?_)); rw [zx_inc (by omega)]; simp only [w_set0, w_set1, w_setn0, w_setn1])
      exact same hsu _ _ f3 hA3 hC3 w3 (fun _ => rfl)
  · rintro ρ M3 X ⟨⟨l, rfl⟩, f3, ⟨hA3, hC3⟩, w3, l3⟩
    ((with_reducible refine i_turn (i_cI_lt (i_L7 (i_L6 ?_)))); (with_reducible refine i_f (by omega) ?_); (with_reducible refine i_RetV ?_))
    exact hk M3 f3 hA3 hC3 w3 l3
end
