/-! ===== sums over pairs of posts; the reference's counts ===== -/
def zsI (w : Nat → Int) : Nat → Int
  | 0 => 0
  | k + 1 => zsI w k + w k
/-- the sum over pairs ahead of (a, b) -/
def zov (w : Nat → Nat → Int) (n a b : Nat) : Int := zsI (fun p => zsI (fun q => if p < q then w p q else 0) n) a + zsI (fun q => if a < q then w a q else 0) b
def zP2 (w : Nat → Nat → Int) (n : Nat) : Int := zsI (fun p => zsI (fun q => if p < q then w p q else 0) n) n
theorem zsI_ext {v w : Nat → Int} {n : Nat} (h : ∀ i, i < n → v i = w i) : zsI v n = zsI w n := by
  induction n with
  | zero => rfl
  | succ n ih => unfold zsI; rw [ih (fun i hi => h i (by omega)), h n (by omega)]
theorem zsI_0 {w : Nat → Int} {n : Nat} (h : ∀ i, i < n → w i = 0) : zsI w n = 0 := by
  induction n with
  | zero => rfl
  | succ n ih => unfold zsI; rw [ih (fun i hi => h i (by omega)), h n (by omega)]; rfl
theorem zsI_add (v w : Nat → Int) (n : Nat) : zsI (fun i => v i + w i) n = zsI v n + zsI w n := by
  induction n with
  | zero => rfl
  | succ n ih => unfold zsI; rw [ih]; omega
theorem zsI_mul (c : Int) (w : Nat → Int) (n : Nat) : zsI (fun i => c * w i) n = c * zsI w n := by
  induction n with
  | zero => simp [zsI]
  | succ n ih => unfold zsI; rw [ih, Int.mul_add]
theorem zsI_b {w : Nat → Int} {c : Int} (h : ∀ i, -c ≤ w i ∧ w i ≤ c) (n : Nat) : -(n * c) ≤ zsI w n ∧ zsI w n ≤ n * c := by
  induction n with
  | zero => simp [zsI]
  | succ n ih =>
    have := h n
    have e : ((n + 1 : Nat) : Int) * c = n * c + c := by rw [Int.natCast_add, Int.add_mul]; simp
    unfold zsI
    rw [e]
    omega
theorem zov_00 (w : Nat → Nat → Int) (n : Nat) : zov w n 0 0 = 0 := rfl
theorem zov_row (w : Nat → Nat → Int) (n a : Nat) : zov w n a 0 = zov w n a (a + 1) := by
  unfold zov
  rw [zsI_0 (n := a + 1) (fun i hi => if_neg (by omega))]
  rfl
theorem zov_nx (w : Nat → Nat → Int) (n a : Nat) : zov w n a n = zov w n (a + 1) 0 := by
  unfold zov
  show _ = (zsI _ a + zsI _ n) + 0
  omega
theorem zov_su (w : Nat → Nat → Int) {n a b : Nat} (h : a < b) : zov w n a (b + 1) = zov w n a b + w a b := by
  unfold zov
  rw [show zsI (fun q => if a < q then w a q else 0) (b + 1) = zsI (fun q => if a < q then w a q else 0) b + (if a < b then w a b else 0) from rfl, if_pos h]
  omega
theorem zov_end (w : Nat → Nat → Int) (n : Nat) : zov w n n 0 = zP2 w n := by unfold zov zP2; show _ + 0 = _; omega
theorem zov_b {w : Nat → Nat → Int} (h : ∀ p q, -1 ≤ w p q ∧ w p q ≤ 1) {n a b : Nat} (hn : n ≤ 16) (ha : a ≤ 16) (hb : b ≤ 16) : -272 ≤ zov w n a b ∧ zov w n a b ≤ 272 := by
  have h1 := zsI_b (w := fun p => zsI (fun q => if p < q then w p q else 0) n) (c := 16) (fun p => by
    have h2 := zsI_b (w := fun q => if p < q then w p q else 0) (c := 1) (fun q => by have := h p q; show _ ≤ (if _ then _ else _) ∧ (if _ then _ else _) ≤ _; split <;> omega) n
    omega) a
  have h2 := zsI_b (w := fun q => if a < q then w a q else 0) (c := 1) (fun q => by have := h a q; show _ ≤ (if _ then _ else _) ∧ (if _ then _ else _) ≤ _; split <;> omega) b
  unfold zov
  omega
theorem zP2_ext {v w : Nat → Nat → Int} {n : Nat} (h : ∀ p q, p < q → q < n → v p q = w p q) : zP2 v n = zP2 w n := by
  unfold zP2
  refine zsI_ext fun p _ => zsI_ext fun q hq => ?_
  by_cases e : p < q
  · rw [if_pos e, if_pos e, h p q e hq]
  · rw [if_neg e, if_neg e]
def zsg (b : Bool) : Int := if b = true then 1 else -1
theorem zsg_b (b : Bool) : -1 ≤ zsg b ∧ zsg b ≤ 1 := by cases b <;> simp [zsg]
theorem zbI_b (b : Bool) : -1 ≤ zbI b ∧ zbI b ≤ 1 := by cases b <;> simp [zbI]
theorem m_tiesOfGoal {O : zOm} (hO : zWld O) (hS : zS O = zmS zC0) {n : Nat} {T : Nat → Nat → Bool} {M : zMem} {K : Option zV → zMem → Prop} (hn : M 250 ((1 : Nat) : Int) = ((n : Nat) : Int)) (hn2 : n ≤ 16) (hT : rMx M 267 T) (hk : K (some (0, zP2 (fun p q => zbI (T p q)) n)) M) : zR O F_Model_tiesOfGoal [(2, 250)] M K := by
  apply r_Model_tiesOfGoal hO
  unfold B_Model_tiesOfGoal
  have f1 := zMF (k := 1) hS rfl; have f21 := zMF (k := 21) hS rfl; have a267 := zMA (a := 267) (ty := .boolean) (n := 256) hS rfl; have zo := zMO hS
  ((with_reducible refine i_Seq (i_Set (i_I (i_Seq (i_Blk (i_Seq (i_Set (i_I ?_)))))))); simp only [w_set0, w_set1, w_setn0, w_setn1])
  refine w_Pairs (n := n) (fun a b => [250, zov (fun p q => zbI (T p q)) n a b]) (fun a b M' => M' = M ∧ a ≤ 16) (fun _ _ => ⟨_, rfl, rfl⟩) f1 (fun a b M' h => by rw [h.1]; exact hn) hn2 ⟨_, rfl⟩ ⟨rfl, by omega⟩ (fun a M' _ h => ⟨h, by rw [zov_row]⟩) (fun a M' _ h => ⟨⟨h.1, by omega⟩, by rw [zov_nx]⟩) ?_ ?_
  · rintro a b l M2 Y Z hab hbn ⟨rfl, _⟩ hY
    simp only [List.cons_append, List.nil_append] at hY ⊢
    have hbd := zov_b (w := fun p q => zbI (T p q)) (fun p q => zbI_b _) hn2 (a := a) (b := b) (by omega) (by omega)
    have hT1 := hT a b (by omega) (by omega)
    rw [zov_su _ hab] at hY
    cases e : T a b <;> rw [e] at hT1 hY
    · ((with_reducible refine i_Set (i_Add (i_L1 (i_eIf (i_cZ_ne (i_ZA (i_FR (i_A0 ?_)))))))); (with_reducible refine i_fldR (by assumption) ?_); (with_reducible refine i_Add (i_Mul (i_I (i_L2 (i_L3 ?_))))); rw [zx_cmul (by omega)]; rw [zx_add (by omega)]; (with_reducible refine i_in (by assumption) (by omega) (by omega) ?_); (rw [hT1, zbI_f]); (with_reducible refine i_f (by omega) ?_); (with_reducible refine i_I ?_); rw [zx_s (by omega) (by omega)]; simp only [w_set0, w_set1, w_setn0, w_setn1])
      exact hY _ _ ⟨rfl, by omega⟩
    · ((with_reducible refine i_Set (i_Add (i_L1 (i_eIf (i_cZ_ne (i_ZA (i_FR (i_A0 ?_)))))))); (with_reducible refine i_fldR (by assumption) ?_); (with_reducible refine i_Add (i_Mul (i_I (i_L2 (i_L3 ?_))))); rw [zx_cmul (by omega)]; rw [zx_add (by omega)]; (with_reducible refine i_in (by assumption) (by omega) (by omega) ?_); (rw [hT1, zbI_t]); (with_reducible refine i_t (by omega) ?_); (with_reducible refine i_I ?_); rw [zx_s (by omega) (by omega)]; simp only [w_set0, w_set1, w_setn0, w_setn1])
      exact hY _ _ ⟨rfl, by omega⟩
  · rintro l M2 ⟨rfl, _⟩
    simp only [List.cons_append, List.nil_append]
    rw [zov_end]
    (with_reducible refine i_RetI (i_L1 ?_))
    exact hk
/-- the sums of the two boxes i, j -/
def zky (f : Nat → Nat) (i j p q : Nat) : Bool := decide (f p = i ∧ f q = j ∨ f p = j ∧ f q = i)
def zwo (f : Nat → Nat) (T : Nat → Nat → Bool) (i j p q : Nat) : Int := if zky f i j p q = true then zsg (T p q) else 0
theorem zwo_b (f : Nat → Nat) (T : Nat → Nat → Bool) (i j p q : Nat) : -1 ≤ zwo f T i j p q ∧ zwo f T i j p q ≤ 1 := by
  unfold zwo
  have := zsg_b (T p q)
  split <;> omega
theorem m_weigh {O : zOm} (hO : zWld O) (hS : zS O = zmS zC0) {t n : Nat} {f : Nat → Nat} {T : Nat → Nat → Bool} {M : zMem} {K : Option zV → zMem → Prop} (ht : t < 7) (hn : M 250 ((1 : Nat) : Int) = ((n : Nat) : Int)) (hn2 : n ≤ 16) (hb : rBox M t n f) (hb2 : ∀ q : Nat, q < n → f q < 16) (hT : rMx M 267 T)
    (hk : ∀ M', (∀ b j, ¬ b = ((283 : Nat) : Int) → M' b j = M b j) → (∀ i j : Nat, i ≤ j → j < 16 → M' ((283 : Nat) : Int) ((16 * i + j : Nat) : Int) = zP2 (zwo f T i j) n) → K none M') : zR O F_Model_weigh [(2, 250), (0, ((t : Nat) : Int))] M K := by
  apply r_Model_weigh hO
  unfold B_Model_weigh
  have f41 := zMF (k := 41) hS rfl; have a283 := zMA (a := 283) (ty := .int) (n := 256) hS rfl; have f1 := zMF (k := 1) hS rfl; have f13 := zMF (k := 13) hS rfl; have a259 := zMA (a := 259) (ty := .int) (n := 112) hS rfl; have f21 := zMF (k := 21) hS rfl; have a267 := zMA (a := 267) (ty := .boolean) (n := 256) hS rfl; have zo := zMO hS
  ((with_reducible refine i_Seq (i_Seq (i_Blk (i_Seq (i_Set (i_I ?_)))))); simp only [w_set0, w_set1, w_setn0, w_setn1])
  refine w_ForN 256 (fun k ρ M' => ρ = [250, ((t : Nat) : Int), ((k : Nat) : Int)] ∧ (∀ b j, ¬ b = ((283 : Nat) : Int) → M' b j = M b j) ∧ ∀ j : Nat, j < k → M' ((283 : Nat) : Int) ((j : Nat) : Int) = 0) ⟨rfl, fun _ _ _ => rfl, fun j hj => absurd hj (by omega)⟩ ?_ ?_
  · rintro k ρ M9 X hk1 ⟨rfl, hf, h⟩ hX
    ((with_reducible refine i_turn (i_cI_lt (i_L2 (i_I ?_)))); (with_reducible refine i_t (by omega) ?_); (with_reducible refine i_sIA (i_FR (i_A0 ?_))); (with_reducible refine i_fldR (by assumption) ?_); (with_reducible refine i_L2 (i_I ?_)); (with_reducible refine i_in (by assumption) (by omega) (by omega) ?_); (with_reducible refine i_up (i_Inc2 ?_)); rw [zx_inc (by omega)]; simp only [w_set0, w_set1, w_setn0, w_setn1])
    refine hX _ _ ⟨rfl, (by intro b j q; ((rw [zg_n _ _ _ (by omega)])); first | done | rfl | exact hf b j (by omega)), fun j hj => ?_⟩
    by_cases e : j = k
    · subst e; rw [zg_s]
    · rw [zg_m _ _ _ _ _ (by omega)]; exact h j (by omega)
  rintro ρ M1 X ⟨rfl, hf1, h1⟩
  ((with_reducible refine i_turn (i_cI_lt (i_L2 (i_I ?_)))); (with_reducible refine i_f (by omega) ?_); (with_reducible refine i_Blk (i_Seq (i_Set (i_I ?_)))); simp only [w_set0, w_set1, w_setn0, w_setn1])
  refine w_Pairs (n := n) (fun _ _ => [250, ((t : Nat) : Int)]) (fun a b M' => (∀ b j, ¬ b = ((283 : Nat) : Int) → M' b j = M b j) ∧ (∀ i j : Nat, i ≤ j → j < 16 → M' ((283 : Nat) : Int) ((16 * i + j : Nat) : Int) = zov (zwo f T i j) n a b)) (fun _ _ => ⟨[((t : Nat) : Int)], rfl, rfl⟩) f1 (fun a b M' h => (h.1 _ _ (by omega)).trans hn) hn2 ⟨_, rfl⟩ ⟨hf1, fun i j hi hj => by rw [h1 _ (by omega)]; rfl⟩ (fun a M' _ h => ⟨⟨h.1, fun i j hi hj => by rw [h.2 i j hi hj, zov_row]⟩, rfl⟩) (fun a M' _ h => ⟨⟨h.1, fun i j hi hj => by rw [h.2 i j hi hj, zov_nx]⟩, rfl⟩) ?_ ?_
  · rintro a b l M2 Y Z hab hbn ⟨hf, h⟩ hY
    simp only [List.cons_append, List.nil_append] at hY ⊢
    have ga : M2 ((259 : Nat) : Int) ((16 * t + a : Nat) : Int) = ((f a : Nat) : Int) := (hf _ _ (by omega)).trans (hb a (by omega))
    have gb : M2 ((259 : Nat) : Int) ((16 * t + b : Nat) : Int) = ((f b : Nat) : Int) := (hf _ _ (by omega)).trans (hb b hbn)
    have gT : M2 ((267 : Nat) : Int) ((16 * a + b : Nat) : Int) = zbI (T a b) := (hf _ _ (by omega)).trans (hT a b (by omega) (by omega))
    have la := hb2 a (by omega)
    have lb := hb2 b hbn
    have hbd := fun i j => zov_b (w := zwo f T i j) (zwo_b f T i j) hn2 (a := a) (b := b) (by omega) (by omega)
    have fin : ∀ (i j : Nat) (x : Int), i ≤ j → j < 16 → (f a = i ∧ f b = j ∨ f a = j ∧ f b = i) → x = zov (zwo f T i j) n a b + zsg (T a b) → (∀ c k, ¬ c = ((283 : Nat) : Int) → (zput M2 ((283 : Nat) : Int) (zup (M2 ((283 : Nat) : Int)) ((16 * i + j : Nat) : Int) x)) c k = M c k) ∧ (∀ i' j' : Nat, i' ≤ j' → j' < 16 → (zput M2 ((283 : Nat) : Int) (zup (M2 ((283 : Nat) : Int)) ((16 * i + j : Nat) : Int) x)) ((283 : Nat) : Int) ((16 * i' + j' : Nat) : Int) = zov (zwo f T i' j') n a (b + 1)) := fun i j x hij hj hk1 hx => by
      refine ⟨(by intro b j q; ((rw [zg_n _ _ _ (by omega)])); first | done | rfl | exact hf b j (by omega)), fun i' j' h1 h2 => ?_⟩
      rw [zov_su _ hab]
      by_cases e : i' = i ∧ j' = j
      · obtain ⟨rfl, rfl⟩ := e
        rw [zg_s, hx]; congr 1; unfold zwo zky; rw [decide_eq_true hk1]; rfl
      · rw [zg_m _ _ _ _ _ (by omega), h i' j' h1 h2]
        unfold zwo zky
        rw [decide_eq_false (by omega)]
        simp
    rcases Nat.lt_or_ge (f a) (f b) with e | e
    · have h2 := h (f a) (f b) (by omega) lb
      have h3 := hbd (f a) (f b)
      cases eT : T a b <;> rw [eT] at gT fin
      · ((with_reducible refine i_Blk (i_Seq (i_Set (i_IA (i_FR (i_A0 ?_)))))); (with_reducible refine i_fldR (by assumption) ?_); (with_reducible refine i_Add (i_Mul (i_I (i_L1 (i_L2 ?_))))); rw [zx_cmul (by omega)]; rw [zx_add (by omega)]; (with_reducible refine i_in (by assumption) (by omega) (by omega) ?_); (with_reducible refine i_Seq (i_Set (i_IA (i_FR ?_)))); (rw [ga]); simp only [w_set0, w_set1, w_setn0, w_setn1]; (with_reducible refine i_A0 ?_); (with_reducible refine i_fldR (by assumption) ?_); (with_reducible refine i_Add (i_Mul (i_I (i_L1 (i_L3 ?_))))); rw [zx_cmul (by omega)]; rw [zx_add (by omega)]; (with_reducible refine i_in (by assumption) (by omega) (by omega) ?_); (with_reducible refine i_IO (i_FR ?_)); (rw [gb]); simp only [w_set0, w_set1, w_setn0, w_setn1]; (with_reducible refine i_A0 ?_); (with_reducible refine i_fldR (by assumption) ?_); (with_reducible refine i_eIf (i_cI_lt ?_)); rw [w_setT]; simp only [w_set0, w_set1, w_setn0, w_setn1]; (with_reducible refine i_L4 ?_); rw [w_setT]; (with_reducible refine i_L5 ?_); (with_reducible refine i_t (by omega) ?_); (with_reducible refine i_Add (i_Mul (i_I (i_L4 (i_L5 ?_))))); rw [zx_cmul (by omega)]; rw [zx_add (by omega)]; (with_reducible refine i_in (by assumption) (by omega) (by omega) ?_); (with_reducible refine i_eIf (i_cZ_ne (i_ZA (i_FR (i_A0 ?_))))); (with_reducible refine i_fldR (by assumption) ?_); (with_reducible refine i_Add (i_Mul (i_I (i_L2 (i_L3 ?_))))); (rw [h2]); rw [zx_cmul (by omega)]; rw [zx_add (by omega)]; (with_reducible refine i_in (by assumption) (by omega) (by omega) ?_); (rw [gT, zbI_f]); (with_reducible refine i_f (by omega) ?_); (with_reducible refine i_I ?_); rw [zx_s (by omega) (by omega)])
        exact hY _ _ (fin (f a) (f b) _ (by omega) lb (by omega) rfl)
      · ((with_reducible refine i_Blk (i_Seq (i_Set (i_IA (i_FR (i_A0 ?_)))))); (with_reducible refine i_fldR (by assumption) ?_); (with_reducible refine i_Add (i_Mul (i_I (i_L1 (i_L2 ?_))))); rw [zx_cmul (by omega)]; rw [zx_add (by omega)]; (with_reducible refine i_in (by assumption) (by omega) (by omega) ?_); (with_reducible refine i_Seq (i_Set (i_IA (i_FR ?_)))); (rw [ga]); simp only [w_set0, w_set1, w_setn0, w_setn1]; (with_reducible refine i_A0 ?_); (with_reducible refine i_fldR (by assumption) ?_); (with_reducible refine i_Add (i_Mul (i_I (i_L1 (i_L3 ?_))))); rw [zx_cmul (by omega)]; rw [zx_add (by omega)]; (with_reducible refine i_in (by assumption) (by omega) (by omega) ?_); (with_reducible refine i_IO (i_FR ?_)); (rw [gb]); simp only [w_set0, w_set1, w_setn0, w_setn1]; (with_reducible refine i_A0 ?_); (with_reducible refine i_fldR (by assumption) ?_); (with_reducible refine i_eIf (i_cI_lt ?_)); rw [w_setT]; simp only [w_set0, w_set1, w_setn0, w_setn1]; (with_reducible refine i_L4 ?_); rw [w_setT]; (with_reducible refine i_L5 ?_); (with_reducible refine i_t (by omega) ?_); (with_reducible refine i_Add (i_Mul (i_I (i_L4 (i_L5 ?_))))); rw [zx_cmul (by omega)]; rw [zx_add (by omega)]; (with_reducible refine i_in (by assumption) (by omega) (by omega) ?_); (with_reducible refine i_eIf (i_cZ_ne (i_ZA (i_FR (i_A0 ?_))))); (with_reducible refine i_fldR (by assumption) ?_); (with_reducible refine i_Add (i_Mul (i_I (i_L2 (i_L3 ?_))))); (rw [h2]); rw [zx_cmul (by omega)]; rw [zx_add (by omega)]; (with_reducible refine i_in (by assumption) (by omega) (by omega) ?_); (rw [gT, zbI_t]); (with_reducible refine i_t (by omega) ?_); (with_reducible refine i_I ?_); rw [zx_s (by omega) (by omega)])
        exact hY _ _ (fin (f a) (f b) _ (by omega) lb (by omega) rfl)
    · have h2 := h (f b) (f a) (by omega) la
      have h3 := hbd (f b) (f a)
      cases eT : T a b <;> rw [eT] at gT fin
      · ((with_reducible refine i_Blk (i_Seq (i_Set (i_IA (i_FR (i_A0 ?_)))))); (with_reducible refine i_fldR (by assumption) ?_); (with_reducible refine i_Add (i_Mul (i_I (i_L1 (i_L2 ?_))))); rw [zx_cmul (by omega)]; rw [zx_add (by omega)]; (with_reducible refine i_in (by assumption) (by omega) (by omega) ?_); (with_reducible refine i_Seq (i_Set (i_IA (i_FR ?_)))); (rw [ga]); simp only [w_set0, w_set1, w_setn0, w_setn1]; (with_reducible refine i_A0 ?_); (with_reducible refine i_fldR (by assumption) ?_); (with_reducible refine i_Add (i_Mul (i_I (i_L1 (i_L3 ?_))))); rw [zx_cmul (by omega)]; rw [zx_add (by omega)]; (with_reducible refine i_in (by assumption) (by omega) (by omega) ?_); (with_reducible refine i_IO (i_FR ?_)); (rw [gb]); simp only [w_set0, w_set1, w_setn0, w_setn1]; (with_reducible refine i_A0 ?_); (with_reducible refine i_fldR (by assumption) ?_); (with_reducible refine i_eIf (i_cI_lt ?_)); rw [w_setT]; simp only [w_set0, w_set1, w_setn0, w_setn1]; (with_reducible refine i_L4 ?_); rw [w_setT]; (with_reducible refine i_L5 ?_); (with_reducible refine i_f (by omega) ?_); (with_reducible refine i_Add (i_Mul (i_I (i_L5 (i_L4 ?_))))); rw [zx_cmul (by omega)]; rw [zx_add (by omega)]; (with_reducible refine i_in (by assumption) (by omega) (by omega) ?_); (with_reducible refine i_eIf (i_cZ_ne (i_ZA (i_FR (i_A0 ?_))))); (with_reducible refine i_fldR (by assumption) ?_); (with_reducible refine i_Add (i_Mul (i_I (i_L2 (i_L3 ?_))))); (rw [h2]); rw [zx_cmul (by omega)]; rw [zx_add (by omega)]; (with_reducible refine i_in (by assumption) (by omega) (by omega) ?_); (rw [gT, zbI_f]); (with_reducible refine i_f (by omega) ?_); (with_reducible refine i_I ?_); rw [zx_s (by omega) (by omega)])
        exact hY _ _ (fin (f b) (f a) _ (by omega) la (by omega) rfl)
      · ((with_reducible refine i_Blk (i_Seq (i_Set (i_IA (i_FR (i_A0 ?_)))))); (with_reducible refine i_fldR (by assumption) ?_); (with_reducible refine i_Add (i_Mul (i_I (i_L1 (i_L2 ?_))))); rw [zx_cmul (by omega)]; rw [zx_add (by omega)]; (with_reducible refine i_in (by assumption) (by omega) (by omega) ?_); (with_reducible refine i_Seq (i_Set (i_IA (i_FR ?_)))); (rw [ga]); simp only [w_set0, w_set1, w_setn0, w_setn1]; (with_reducible refine i_A0 ?_); (with_reducible refine i_fldR (by assumption) ?_); (with_reducible refine i_Add (i_Mul (i_I (i_L1 (i_L3 ?_))))); rw [zx_cmul (by omega)]; rw [zx_add (by omega)]; (with_reducible refine i_in (by assumption) (by omega) (by omega) ?_); (with_reducible refine i_IO (i_FR ?_)); (rw [gb]); simp only [w_set0, w_set1, w_setn0, w_setn1]; (with_reducible refine i_A0 ?_); (with_reducible refine i_fldR (by assumption) ?_); (with_reducible refine i_eIf (i_cI_lt ?_)); rw [w_setT]; simp only [w_set0, w_set1, w_setn0, w_setn1]; (with_reducible refine i_L4 ?_); rw [w_setT]; (with_reducible refine i_L5 ?_); (with_reducible refine i_f (by omega) ?_); (with_reducible refine i_Add (i_Mul (i_I (i_L5 (i_L4 ?_))))); rw [zx_cmul (by omega)]; rw [zx_add (by omega)]; (with_reducible refine i_in (by assumption) (by omega) (by omega) ?_); (with_reducible refine i_eIf (i_cZ_ne (i_ZA (i_FR (i_A0 ?_))))); (with_reducible refine i_fldR (by assumption) ?_); (with_reducible refine i_Add (i_Mul (i_I (i_L2 (i_L3 ?_))))); (rw [h2]); rw [zx_cmul (by omega)]; rw [zx_add (by omega)]; (with_reducible refine i_in (by assumption) (by omega) (by omega) ?_); (rw [gT, zbI_t]); (with_reducible refine i_t (by omega) ?_); (with_reducible refine i_I ?_); rw [zx_s (by omega) (by omega)])
        exact hY _ _ (fin (f b) (f a) _ (by omega) la (by omega) rfl)
  · rintro l M2 ⟨hf, h⟩
    simp only [List.cons_append, List.nil_append]
    (with_reducible refine i_RetV ?_)
    exact hk _ hf (fun i j hi hj => by rw [h i j hi hj, zov_end])
