/-! ===== words alike: what both compute; the reference ===== -/
/-- a box of one telling has the posts of a box of another one -/
def zba (n : Nat) (A : zTl) (b : Nat) (B : zTl) (i : Nat) : Bool := decide (∀ p, p < n → (tf A p = b ↔ tf B p = i))
theorem zba_mk {n b i : Nat} {A B : zTl} (hn : n ≤ 16) : zmk (fun q => decide (q < n) && decide (tf A q = b)) = zmk (fun q => decide (q < n) && decide (tf B q = i)) ↔ zba n A b B i = true := by
  unfold zba
  rw [decide_eq_true_eq]
  constructor
  · intro h p hp
    have h1 := zmk_inj h p (by omega)
    try dsimp only at h1
    rw [decide_eq_true hp, Bool.true_and, Bool.true_and] at h1
    exact decide_eq_decide.mp h1
  · intro h
    refine zmk_ext fun p _ => ?_
    by_cases hp : p < n
    · rw [decide_eq_true hp, Bool.true_and, Bool.true_and]; exact decide_eq_decide.mpr (h p hp)
    · rw [decide_eq_false hp]; rfl
theorem zba_in {n b i p : Nat} {A B : zTl} (h : zba n A b B i = true) (hp : p < n) : tf A p = b ↔ tf B p = i := (of_decide_eq_true h) p hp
theorem zTw.on {n : Nat} {A : zTl} (hw : zTw n A) {b : Nat} (hb : b < tm A) : ∃ p, p < n ∧ tf A p = b := by
  rw [hw.1.2.1] at hb
  obtain ⟨p, h1, h2, h3⟩ := zNum_on hb
  exact ⟨p, h1, by rw [← (hw.1.2.2 p h1).2]; exact h3⟩
theorem zba_uq {n b i j : Nat} {A B : zTl} (hw : zTw n A) (hb : b < tm A) (h1 : zba n A b B i = true) (h2 : zba n A b B j = true) : i = j := by
  obtain ⟨p, p1, p2⟩ := hw.on hb
  rw [← (zba_in h1 p1).mp p2, ← (zba_in h2 p1).mp p2]
theorem zba_sz {n b i : Nat} {A B : zTl} (h : zba n A b B i = true) : zSz (tf A) n b = zSz (tf B) n i := zcnt_ext fun q hq => decide_eq_decide.mpr (zba_in h hq)
/-- where a box begins -/
theorem zTw.first {n : Nat} {A : zTl} (hw : zTw n A) {b : Nat} (hb : b < tm A) : ∃ q, q < n ∧ tf A q = b ∧ (∀ j, j < q → tf A j ≠ b) ∧ zNew (tf A) q = true ∧ zcnt (zNew (tf A)) q = b := by
  obtain ⟨p, p1, p2⟩ := hw.on hb
  have h1 : zfl (tf A) b n < n := by
    have h3 := zfl_le (tf A) b n
    rcases Nat.lt_or_ge (zfl (tf A) b n) n with h | h
    · exact h
    · exact absurd p2 (zfl_no (k := n) (show p < zfl (tf A) b n by omega))
  have h2 := zfl_at h1
  refine ⟨zfl (tf A) b n, h1, h2, fun j hj => zfl_no hj, zNew_at h1, ?_⟩
  have h3 := (hw.1.2.2 _ h1).2
  unfold zNum at h3
  rw [h2, show zfl (tf A) b (zfl (tf A) b n) = zfl (tf A) b n from zfind_no (fun j hj => decide_eq_false (zfl_no hj))] at h3
  exact h3
theorem zba_lt {n b b' i i' : Nat} {A B : zTl} (hA : zTw n A) (hB : zTw n B) (hb' : b' < tm A) (hbb : b < b') (h1 : zba n A b B i = true) (h2 : zba n A b' B i' = true) : i < i' := by
  obtain ⟨q, q1, q2, q3, q4, q5⟩ := hA.first (b := b) (by omega)
  obtain ⟨r, r1, r2, r3, r4, r5⟩ := hA.first hb'
  have hqr : q < r := by
    rcases Nat.lt_or_ge q r with h | h
    · exact h
    · have := zcnt_mono (zNew (tf A)) h; omega
  have key : ∀ {c i q : Nat}, zba n A c B i = true → q < n → tf A q = c → (∀ j, j < q → tf A j ≠ c) → zNew (tf B) q = true ∧ zcnt (zNew (tf B)) q = i := fun {c i q} h z1 z2 z3 => by
    have e1 := (zba_in h z1).mp z2
    have e2 : zfl (tf B) (tf B q) q = q := zfind_no (fun j hj => decide_eq_false (fun z => z3 j hj ((zba_in h (by omega)).mpr (z.trans e1))))
    have e3 := (hB.1.2.2 q z1).2
    unfold zNum at e3
    rw [e2, e1] at e3
    exact ⟨decide_eq_true e2, e3⟩
  obtain ⟨k1, k2⟩ := key h1 q1 q2 q3
  obtain ⟨k3, k4⟩ := key h2 r1 r2 r3
  have := zcnt_lt (zNew (tf B)) hqr k1
  omega
/-- rows alike, from either end -/
def zrwA (n : Nat) (A : zTl) (x : Nat) (B : zTl) (y : Nat) : Bool := decide (∀ k, k < zSz (tf A) n x → tr B y k = tr A x k) || decide (∀ k, k < zSz (tf A) n x → tr B y (zSz (tf A) n x - 1 - k) = tr A x k)
/-- the word d of B is alike the word c of A -/
def zLk (n : Nat) (A : zTl) (c : Nat) (B : zTl) (d : Nat) : Bool := decide (c / 256 = d / 256) &&
  (if c / 256 = 0 then zba n A (c / 16 % 16) B (d / 16 % 16) else if c / 256 = 1 then zba n A (c / 16 % 16) B (d / 16 % 16) && zba n A (c % 16) B (d % 16) else if c / 256 = 2 then decide (c / 16 % 16 = d / 16 % 16) && zba n A (c % 16) B (d % 16) else zba n A (c / 16 % 16) B (d / 16 % 16) && zrwA n A (c / 16 % 16) B (d / 16 % 16))
def zHas (n : Nat) (A B : zTl) (c : Nat) : Bool := decide (0 < zcnt (fun d => zWsn B d && zLk n A c B d) 1024)
theorem zHas_t {n c d : Nat} {A B : zTl} (hd : d < 1024) (h1 : zWsn B d = true) (h2 : zLk n A c B d = true) : zHas n A B c = true := decide_eq_true (by
  have := zcnt_ex (s := fun d => zWsn B d && zLk n A c B d) hd (by rw [h1, h2]; rfl)
  omega)
theorem zHas_f {n c : Nat} {A B : zTl} (h : ∀ d, d < 1024 → zWsn B d = true → zLk n A c B d = false) : zHas n A B c = false := decide_eq_false (by
  rw [zcnt_z fun d hd => by
    cases e : zWsn B d
    · rfl
    · rw [h d hd e]; rfl]
  omega)
theorem m_maskOf {O : zOm} (hO : zWld O) (hS : zS O = zmS zC0) {t n b : Nat} {A : zTl} {M : zMem} {K : Option zV → zMem → Prop} (ht : t < 7) (hn : M 250 ((1 : Nat) : Int) = ((n : Nat) : Int)) (hn2 : n ≤ 16) (hA : rTe M t n A) (hk : K (some (0, zmk (fun q => decide (q < n) && decide (tf A q = b)))) M) : zR O F_Model_maskOf [(2, 250), (0, ((t : Nat) : Int)), (0, ((b : Nat) : Int))] M K := by
  have hz0 : zmk (fun q => decide (q < 0) && decide (tf A q = b)) = 0 := (zmk_eq0 _).mpr (fun i _ => by rw [decide_eq_false (Nat.not_lt_zero i)]; rfl)
  apply r_Model_maskOf hO
  unfold B_Model_maskOf
  have f1 := zMF (k := 1) hS rfl; have zo := zMO hS
  ((with_reducible refine i_Seq (i_Set (i_I (i_Seq (i_Blk (i_Seq (i_Set (i_I ?_)))))))); simp only [w_set0, w_set1, w_setn0, w_setn1])
  refine w_ForN n (fun p ρ M' => (∃ l, ρ = 250 :: ((t : Nat) : Int) :: ((b : Nat) : Int) :: zmk (fun q => decide (q < p) && decide (tf A q = b)) :: ((p : Nat) : Int) :: l) ∧ M' = M) ⟨⟨_, by rw [hz0]; rfl⟩, rfl⟩ ?_ ?_
  · rintro p ρ M1 X hp ⟨⟨l, rfl⟩, rfl⟩ hX
    have hX2 : ∀ (l : zLoc) (s : Nat → Bool), (∀ i, i < 16 → s i = (decide (i < p + 1) && decide (tf A i = b))) → X (250 :: ((t : Nat) : Int) :: ((b : Nat) : Int) :: zmk s :: ((p + 1 : Nat) : Int) :: l) M1 := fun l s hs => by rw [zmk_ext hs]; exact hX _ _ ⟨⟨l, rfl⟩, rfl⟩
    ((with_reducible refine i_turn (i_cI_lt (i_L4 (i_F (i_A0 ?_))))); (with_reducible refine i_fld (by assumption) ?_); (rw [hn]); (with_reducible refine i_t (by omega) ?_); (with_reducible refine i_If (i_cZ_ne (i_Call (i_as1 (i_A0 (i_as1 (i_L1 (i_as1 (i_L4 (i_as1 (i_L2 (i_as0 ?_)))))))))))); (with_reducible refine i_recv0 (by assumption) ?_); (refine m_isIn hO hS ht hA.1.2.1 hp hn2 ⟨_, rfl, ?_⟩))
    by_cases e : tf A p = b
    · rw [decide_eq_true e]
      (rw [zbI_t]; (with_reducible refine i_t (by omega) ?_); (with_reducible refine i_Set (i_Or (i_L3 (i_Shl (i_I (i_L4 (i_up ?_))))))); (rw [yshl_mk (by omega)]); (rw [yor_mk]); simp only [w_set0, w_set1, w_setn0, w_setn1]; (with_reducible refine i_Inc4 ?_); rw [zx_inc (by omega)]; simp only [w_set0, w_set1, w_setn0, w_setn1])
      refine hX2 _ _ (fun i _ => ?_)
      by_cases w : i = p
      · subst w
        rw [decide_eq_true rfl, Bool.or_true, decide_eq_true (Nat.lt_succ_self i), decide_eq_true e]; rfl
      · rw [decide_eq_false w, Bool.or_false, zdb (show i < p ↔ i < p + 1 by omega)]
    · rw [decide_eq_false e]
      (rw [zbI_f]; (with_reducible refine i_f (by omega) ?_); (with_reducible refine i_up (i_Inc4 ?_)); rw [zx_inc (by omega)]; simp only [w_set0, w_set1, w_setn0, w_setn1])
      refine hX2 _ _ (fun i _ => ?_)
      by_cases w : i = p
      · subst w
        rw [decide_eq_false e, Bool.and_false, Bool.and_false]
      · rw [zdb (show i < p ↔ i < p + 1 by omega)]
  · rintro p M1 X ⟨⟨l, rfl⟩, rfl⟩
    ((with_reducible refine i_turn (i_cI_lt (i_L4 (i_F (i_A0 ?_))))); (with_reducible refine i_fld (by assumption) ?_); (rw [hn]); (with_reducible refine i_f (by omega) ?_); (with_reducible refine i_RetI (i_L3 ?_)))
    exact hk
theorem m_boxAlike {O : zOm} (hO : zWld O) (hS : zS O = zmS zC0) {t u n b : Nat} {A B : zTl} {M : zMem} {K : Option zV → zMem → Prop} (ht : t < 7) (hu : u < 7) (hn : M 250 ((1 : Nat) : Int) = ((n : Nat) : Int)) (hn2 : n ≤ 16) (hA : rTe M t n A) (hB : rTe M u n B) (hwB : zTw n B)
    (h0 : (∀ i, i < tm B → zba n A b B i = false) → K (some (0, -1)) M) (h1 : ∀ i, i < tm B → zba n A b B i = true → K (some (0, ((i : Nat) : Int))) M) : zR O F_Model_boxAlike [(2, 250), (0, ((t : Nat) : Int)), (0, ((b : Nat) : Int)), (0, ((u : Nat) : Int))] M K := by
  have hm := hB.1.1
  have hm16 := hwB.1.1
  apply r_Model_boxAlike hO
  unfold B_Model_boxAlike
  have f12 := zMF (k := 12) hS rfl; have a258 := zMA (a := 258) (ty := .int) (n := 7) hS rfl; have zo := zMO hS
  ((with_reducible refine i_Seq (i_Blk (i_Seq (i_Set (i_I ?_))))); simp only [w_set0, w_set1, w_setn0, w_setn1])
  refine w_ForN (tm B) (fun i ρ M' => (∃ l, ρ = 250 :: ((t : Nat) : Int) :: ((b : Nat) : Int) :: ((u : Nat) : Int) :: ((i : Nat) : Int) :: l) ∧ M' = M ∧ ∀ j, j < i → zba n A b B j = false) ⟨⟨_, rfl⟩, rfl, fun j hj => absurd hj (by omega)⟩ ?_ ?_
  · rintro i ρ M1 X hi ⟨⟨l, rfl⟩, rfl, hno⟩ hX
    ((with_reducible refine i_turn (i_cI_lt (i_L4 (i_IA (i_FR (i_A0 ?_)))))); (with_reducible refine i_fldR (by assumption) ?_); (with_reducible refine i_L3 ?_); (with_reducible refine i_in (by assumption) (by omega) (by omega) ?_); (rw [hm]); (with_reducible refine i_t (by omega) ?_); (with_reducible refine i_If (i_cI_eq (i_Call (i_as1 (i_A0 (i_as1 (i_L3 (i_as1 (i_L4 (i_as0 ?_)))))))))); (with_reducible refine i_recv0 (by assumption) ?_); (refine m_maskOf hO hS hu hn hn2 hB ⟨_, rfl, ?_⟩); (with_reducible refine i_Call (i_as1 (i_A0 (i_as1 (i_L1 (i_as1 (i_L2 (i_as0 ?_)))))))); (with_reducible refine i_recv0 (by assumption) ?_); (refine m_maskOf hO hS ht hn hn2 hA ⟨_, rfl, ?_⟩))
    cases e : zba n A b B i
    · ((refine i_f (fun z => by have := (zba_mk hn2).mp z.symm; rw [e] at this; cases this) ?_); (with_reducible refine i_up (i_Inc4 ?_)); rw [zx_inc (by omega)]; simp only [w_set0, w_set1, w_setn0, w_setn1])
      exact hX _ _ ⟨⟨_, rfl⟩, rfl, fun j hj => by
        by_cases w : j = i
        · subst w; exact e
        · exact hno j (by omega)⟩
    · ((refine i_t ((zba_mk hn2).mpr e).symm ?_); (with_reducible refine i_RetI (i_L4 ?_)))
      exact h1 i hi e
  · rintro ρ M1 X ⟨⟨l, rfl⟩, rfl, hno⟩
    ((with_reducible refine i_turn (i_cI_lt (i_L4 (i_IA (i_FR (i_A0 ?_)))))); (with_reducible refine i_fldR (by assumption) ?_); (with_reducible refine i_L3 ?_); (with_reducible refine i_in (by assumption) (by omega) (by omega) ?_); (rw [hm]); (with_reducible refine i_f (by omega) ?_); (with_reducible refine i_RetI (i_I ?_)))
    exact h0 hno
theorem m_isRowAlike {O : zOm} (hO : zWld O) (hS : zS O = zmS zC0) {t u n b c : Nat} {A B : zTl} {M : zMem} {K : Option zV → zMem → Prop} (ht : t < 7) (hu : u < 7) (hn2 : n ≤ 16) (hA : rTe M t n A) (hB : rTe M u n B) (hwA : zTw n A) (hwB : zTw n B) (hb : b < tm A) (hc : c < tm B) (hs : zSz (tf A) n b = zSz (tf B) n c) (hk : K (some (0, zbI (zrwA n A b B c))) M) : zR O F_Model_isRowAlike [(2, 250), (0, ((t : Nat) : Int)), (0, ((b : Nat) : Int)), (0, ((u : Nat) : Int)), (0, ((c : Nat) : Int))] M K := by
  have hmA := hwA.1.1
  have hmB := hwB.1.1
  have gs := hA.1.2.2 b (by omega)
  have hra := fun k h => hA.2.2.1 b k hb h
  have hrb := fun k h => hB.2.2.1 c k hc h
  rw [← hs] at hrb
  have hsl := zSz_le (tf A) n b
  unfold zrwA at hk
  generalize zSz (tf A) n b = s at gs hra hrb hsl hk
  apply r_Model_isRowAlike hO
  unfold B_Model_isRowAlike
  have f14 := zMF (k := 14) hS rfl; have a260 := zMA (a := 260) (ty := .int) (n := 112) hS rfl; have f15 := zMF (k := 15) hS rfl; have a261 := zMA (a := 261) (ty := .int) (n := 1792) hS rfl; have zo := zMO hS
  ((with_reducible refine i_Seq (i_Set (i_IA (i_FR (i_A0 ?_))))); (with_reducible refine i_fldR (by assumption) ?_); (with_reducible refine i_Add (i_Mul (i_I (i_L1 (i_L2 ?_))))); rw [zx_cmul (by omega)]; rw [zx_add (by omega)]; (with_reducible refine i_in (by assumption) (by omega) (by omega) ?_); (with_reducible refine i_Seq (i_Set (i_I (i_Seq (i_Set (i_I (i_Seq (i_Blk (i_Seq (i_Set (i_I ?_))))))))))); (rw [gs]); simp only [w_set0, w_set1, w_setn0, w_setn1])
  refine w_ForN s (fun k ρ M' => (∃ l, ρ = 250 :: ((t : Nat) : Int) :: ((b : Nat) : Int) :: ((u : Nat) : Int) :: ((c : Nat) : Int) :: ((s : Nat) : Int) :: zbI (decide (∀ j, j < k → tr B c j = tr A b j)) :: zbI (decide (∀ j, j < k → tr B c (s - 1 - j) = tr A b j)) :: ((k : Nat) : Int) :: l) ∧ M' = M) ⟨⟨_, by rw [decide_eq_true (fun j hj => absurd hj (Nat.not_lt_zero j)), decide_eq_true (fun j hj => absurd hj (Nat.not_lt_zero j))]; rfl⟩, rfl⟩ ?_ ?_
  · rintro k ρ M1 X hk1 ⟨⟨l, rfl⟩, rfl⟩ hX
    have v1 := hra k hk1
    have v2 := hrb k hk1
    have v3 := hrb (s - 1 - k) (by omega)
    have e1 : decide (∀ j, j < k + 1 → tr B c j = tr A b j) = (decide (∀ j, j < k → tr B c j = tr A b j) && decide (tr B c k = tr A b k)) := by
      rw [Bool.eq_iff_iff]
      simp only [Bool.and_eq_true, decide_eq_true_eq]
      exact ⟨fun h => ⟨fun j hj => h j (by omega), h k (by omega)⟩, fun h j hj => by
        by_cases w : j = k
        · subst w; exact h.2
        · exact h.1 j (by omega)⟩
    have e2 : decide (∀ j, j < k + 1 → tr B c (s - 1 - j) = tr A b j) = (decide (∀ j, j < k → tr B c (s - 1 - j) = tr A b j) && decide (tr B c (s - 1 - k) = tr A b k)) := by
      rw [Bool.eq_iff_iff]
      simp only [Bool.and_eq_true, decide_eq_true_eq]
      exact ⟨fun h => ⟨fun j hj => h j (by omega), h k (by omega)⟩, fun h j hj => by
        by_cases w : j = k
        · subst w; exact h.2
        · exact h.1 j (by omega)⟩
    have hX2 := fun l => hX _ M1 ⟨⟨l, rfl⟩, rfl⟩
    rw [e1, e2] at hX2
    clear hX e1 e2
    generalize decide (∀ j, j < k → tr B c j = tr A b j) = F at hX2 ⊢
    generalize decide (∀ j, j < k → tr B c (s - 1 - j) = tr A b j) = G at hX2 ⊢
    generalize tr B c (s - 1 - k) = y3 at v3 hX2
    generalize tr B c k = y2 at v2 hX2
    generalize tr A b k = y1 at v1 hX2
    have i3 : ((256 * u + 16 * c + s - 1 - k : Nat) : Int) = ((256 * u + 16 * c + (s - 1 - k) : Nat) : Int) := by omega
    by_cases w2 : y2 = y1
    · rw [decide_eq_true w2, Bool.and_true] at hX2
      by_cases w3 : y3 = y1
      · rw [decide_eq_true w3, Bool.and_true] at hX2
        ((with_reducible refine i_turn (i_cI_lt (i_L8 (i_L5 ?_)))); (with_reducible refine i_t (by omega) ?_); (with_reducible refine i_Blk (i_Seq (i_Set (i_IA (i_FR (i_A0 ?_)))))); (with_reducible refine i_fldR (by assumption) ?_); (with_reducible refine i_Add (i_Add (i_Mul (i_I (i_L1 (i_Mul (i_I (i_L2 (i_L8 ?_))))))))); rw [zx_cmul (by omega)]; rw [zx_cmul (by omega)]; rw [zx_add (by omega)]; rw [zx_add (by omega)]; (with_reducible refine i_in (by assumption) (by omega) (by omega) ?_); (with_reducible refine i_Seq (i_If (i_cI_ne (i_IA (i_FR ?_))))); (rw [v1]); simp only [w_set0, w_set1, w_setn0, w_setn1]; (with_reducible refine i_A0 ?_); (with_reducible refine i_fldR (by assumption) ?_); (with_reducible refine i_Add (i_Add (i_Mul (i_I (i_L3 (i_Mul (i_I (i_L4 (i_L8 ?_))))))))); rw [zx_cmul (by omega)]; rw [zx_cmul (by omega)]; rw [zx_add (by omega)]; rw [zx_add (by omega)]; (with_reducible refine i_in (by assumption) (by omega) (by omega) ?_); (rw [v2]); rw [w_setT]; (with_reducible refine i_L9 ?_); (with_reducible refine i_f (by omega) ?_); (with_reducible refine i_If (i_cI_ne (i_IA (i_FR (i_A0 ?_))))); (with_reducible refine i_fldR (by assumption) ?_); (with_reducible refine i_Sub (i_Sub (i_Add (i_Add (i_Mul (i_I (i_L3 (i_Mul (i_I (i_L4 (i_L5 (i_I (i_L8 ?_))))))))))))); rw [zx_cmul (by omega)]; rw [zx_cmul (by omega)]; rw [zx_add (by omega)]; rw [zx_add (by omega)]; rw [zx_subc (by omega) (by omega)]; rw [zx_sub (by omega) (by omega)]; (with_reducible refine i_in (by assumption) (by omega) (by omega) ?_); (with_reducible refine i_L9 ?_); (rw [i3]); (rw [v3]); (with_reducible refine i_f (by omega) ?_); (with_reducible refine i_up (i_Inc8 ?_)); rw [zx_inc (by omega)]; simp only [w_set0, w_set1, w_setn0, w_setn1])
        exact hX2 _
      · rw [decide_eq_false w3, Bool.and_false] at hX2
        ((with_reducible refine i_turn (i_cI_lt (i_L8 (i_L5 ?_)))); (with_reducible refine i_t (by omega) ?_); (with_reducible refine i_Blk (i_Seq (i_Set (i_IA (i_FR (i_A0 ?_)))))); (with_reducible refine i_fldR (by assumption) ?_); (with_reducible refine i_Add (i_Add (i_Mul (i_I (i_L1 (i_Mul (i_I (i_L2 (i_L8 ?_))))))))); rw [zx_cmul (by omega)]; rw [zx_cmul (by omega)]; rw [zx_add (by omega)]; rw [zx_add (by omega)]; (with_reducible refine i_in (by assumption) (by omega) (by omega) ?_); (with_reducible refine i_Seq (i_If (i_cI_ne (i_IA (i_FR ?_))))); (rw [v1]); simp only [w_set0, w_set1, w_setn0, w_setn1]; (with_reducible refine i_A0 ?_); (with_reducible refine i_fldR (by assumption) ?_); (with_reducible refine i_Add (i_Add (i_Mul (i_I (i_L3 (i_Mul (i_I (i_L4 (i_L8 ?_))))))))); rw [zx_cmul (by omega)]; rw [zx_cmul (by omega)]; rw [zx_add (by omega)]; rw [zx_add (by omega)]; (with_reducible refine i_in (by assumption) (by omega) (by omega) ?_); (rw [v2]); rw [w_setT]; (with_reducible refine i_L9 ?_); (with_reducible refine i_f (by omega) ?_); (with_reducible refine i_If (i_cI_ne (i_IA (i_FR (i_A0 ?_))))); (with_reducible refine i_fldR (by assumption) ?_); (with_reducible refine i_Sub (i_Sub (i_Add (i_Add (i_Mul (i_I (i_L3 (i_Mul (i_I (i_L4 (i_L5 (i_I (i_L8 ?_))))))))))))); rw [zx_cmul (by omega)]; rw [zx_cmul (by omega)]; rw [zx_add (by omega)]; rw [zx_add (by omega)]; rw [zx_subc (by omega) (by omega)]; rw [zx_sub (by omega) (by omega)]; (with_reducible refine i_in (by assumption) (by omega) (by omega) ?_); (with_reducible refine i_L9 ?_); (rw [i3]); (rw [v3]); (with_reducible refine i_t (by omega) ?_); (with_reducible refine i_Set (i_I (i_up ?_))); simp only [w_set0, w_set1, w_setn0, w_setn1]; (with_reducible refine i_Inc8 ?_); rw [zx_inc (by omega)]; simp only [w_set0, w_set1, w_setn0, w_setn1])
        exact hX2 _
    · rw [decide_eq_false w2, Bool.and_false] at hX2
      by_cases w3 : y3 = y1
      · rw [decide_eq_true w3, Bool.and_true] at hX2
        ((with_reducible refine i_turn (i_cI_lt (i_L8 (i_L5 ?_)))); (with_reducible refine i_t (by omega) ?_); (with_reducible refine i_Blk (i_Seq (i_Set (i_IA (i_FR (i_A0 ?_)))))); (with_reducible refine i_fldR (by assumption) ?_); (with_reducible refine i_Add (i_Add (i_Mul (i_I (i_L1 (i_Mul (i_I (i_L2 (i_L8 ?_))))))))); rw [zx_cmul (by omega)]; rw [zx_cmul (by omega)]; rw [zx_add (by omega)]; rw [zx_add (by omega)]; (with_reducible refine i_in (by assumption) (by omega) (by omega) ?_); (with_reducible refine i_Seq (i_If (i_cI_ne (i_IA (i_FR ?_))))); (rw [v1]); simp only [w_set0, w_set1, w_setn0, w_setn1]; (with_reducible refine i_A0 ?_); (with_reducible refine i_fldR (by assumption) ?_); (with_reducible refine i_Add (i_Add (i_Mul (i_I (i_L3 (i_Mul (i_I (i_L4 (i_L8 ?_))))))))); rw [zx_cmul (by omega)]; rw [zx_cmul (by omega)]; rw [zx_add (by omega)]; rw [zx_add (by omega)]; (with_reducible refine i_in (by assumption) (by omega) (by omega) ?_); (rw [v2]); rw [w_setT]; (with_reducible refine i_L9 ?_); (with_reducible refine i_t (by omega) ?_); (with_reducible refine i_Set (i_I (i_If (i_cI_ne (i_IA (i_FR ?_)))))); simp only [w_set0, w_set1, w_setn0, w_setn1]; (with_reducible refine i_A0 ?_); (with_reducible refine i_fldR (by assumption) ?_); (with_reducible refine i_Sub (i_Sub (i_Add (i_Add (i_Mul (i_I (i_L3 (i_Mul (i_I (i_L4 (i_L5 (i_I (i_L8 ?_))))))))))))); rw [zx_cmul (by omega)]; rw [zx_cmul (by omega)]; rw [zx_add (by omega)]; rw [zx_add (by omega)]; rw [zx_subc (by omega) (by omega)]; rw [zx_sub (by omega) (by omega)]; (with_reducible refine i_in (by assumption) (by omega) (by omega) ?_); (with_reducible refine i_L9 ?_); (rw [i3]); (rw [v3]); (with_reducible refine i_f (by omega) ?_); (with_reducible refine i_up (i_Inc8 ?_)); rw [zx_inc (by omega)]; simp only [w_set0, w_set1, w_setn0, w_setn1])
        exact hX2 _
      · rw [decide_eq_false w3, Bool.and_false] at hX2
        ((with_reducible refine i_turn (i_cI_lt (i_L8 (i_L5 ?_)))); (with_reducible refine i_t (by omega) ?_); (with_reducible refine i_Blk (i_Seq (i_Set (i_IA (i_FR (i_A0 ?_)))))); (with_reducible refine i_fldR (by assumption) ?_); (with_reducible refine i_Add (i_Add (i_Mul (i_I (i_L1 (i_Mul (i_I (i_L2 (i_L8 ?_))))))))); rw [zx_cmul (by omega)]; rw [zx_cmul (by omega)]; rw [zx_add (by omega)]; rw [zx_add (by omega)]; (with_reducible refine i_in (by assumption) (by omega) (by omega) ?_); (with_reducible refine i_Seq (i_If (i_cI_ne (i_IA (i_FR ?_))))); (rw [v1]); simp only [w_set0, w_set1, w_setn0, w_setn1]; (with_reducible refine i_A0 ?_); (with_reducible refine i_fldR (by assumption) ?_); (with_reducible refine i_Add (i_Add (i_Mul (i_I (i_L3 (i_Mul (i_I (i_L4 (i_L8 ?_))))))))); rw [zx_cmul (by omega)]; rw [zx_cmul (by omega)]; rw [zx_add (by omega)]; rw [zx_add (by omega)]; (with_reducible refine i_in (by assumption) (by omega) (by omega) ?_); (rw [v2]); rw [w_setT]; (with_reducible refine i_L9 ?_); (with_reducible refine i_t (by omega) ?_); (with_reducible refine i_Set (i_I (i_If (i_cI_ne (i_IA (i_FR ?_)))))); simp only [w_set0, w_set1, w_setn0, w_setn1]; (with_reducible refine i_A0 ?_); (with_reducible refine i_fldR (by assumption) ?_); (with_reducible refine i_Sub (i_Sub (i_Add (i_Add (i_Mul (i_I (i_L3 (i_Mul (i_I (i_L4 (i_L5 (i_I (i_L8 ?_))))))))))))); rw [zx_cmul (by omega)]; rw [zx_cmul (by omega)]; rw [zx_add (by omega)]; rw [zx_add (by omega)]; rw [zx_subc (by omega) (by omega)]; rw [zx_sub (by omega) (by omega)]; (with_reducible refine i_in (by assumption) (by omega) (by omega) ?_); (with_reducible refine i_L9 ?_); (rw [i3]); (rw [v3]); (with_reducible refine i_t (by omega) ?_); (with_reducible refine i_Set (i_I (i_up ?_))); simp only [w_set0, w_set1, w_setn0, w_setn1]; (with_reducible refine i_Inc8 ?_); rw [zx_inc (by omega)]; simp only [w_set0, w_set1, w_setn0, w_setn1])
        exact hX2 _
  · rintro ρ M1 X ⟨⟨l, rfl⟩, rfl⟩
    generalize decide (∀ j, j < s → tr B c j = tr A b j) = F at hk ⊢
    generalize decide (∀ j, j < s → tr B c (s - 1 - j) = tr A b j) = G at hk ⊢
    cases F <;> cases G
    all_goals
      (first | (((with_reducible refine i_turn (i_cI_lt (i_L8 (i_L5 ?_)))); rw [zbI_t]; rw [zbI_f]; (with_reducible refine i_f (by omega) ?_); (with_reducible refine i_RetZ (i_eIf (i_cOr (i_cZ_ne (i_L6 ?_))))); (with_reducible refine i_f (by omega) ?_); (with_reducible refine i_cZ_ne (i_L7 ?_)); (with_reducible refine i_t (by omega) ?_); (with_reducible refine i_I ?_); (with_reducible refine i_z (Or.inr rfl) ?_))) | (((with_reducible refine i_turn (i_cI_lt (i_L8 (i_L5 ?_)))); rw [zbI_f]; (with_reducible refine i_f (by omega) ?_); (with_reducible refine i_RetZ (i_eIf (i_cOr (i_cZ_ne (i_L6 ?_))))); (with_reducible refine i_f (by omega) ?_); (with_reducible refine i_cZ_ne (i_L7 ?_)); (with_reducible refine i_f (by omega) ?_); (with_reducible refine i_I ?_); (with_reducible refine i_z (Or.inl rfl) ?_))) | (((with_reducible refine i_turn (i_cI_lt (i_L8 (i_L5 ?_)))); rw [zbI_t]; rw [zbI_f]; (with_reducible refine i_f (by omega) ?_); (with_reducible refine i_RetZ (i_eIf (i_cOr (i_cZ_ne (i_L6 ?_))))); (with_reducible refine i_t (by omega) ?_); (with_reducible refine i_I ?_); (with_reducible refine i_z (Or.inr rfl) ?_))) | (((with_reducible refine i_turn (i_cI_lt (i_L8 (i_L5 ?_)))); rw [zbI_t]; (with_reducible refine i_f (by omega) ?_); (with_reducible refine i_RetZ (i_eIf (i_cOr (i_cZ_ne (i_L6 ?_))))); (with_reducible refine i_t (by omega) ?_); (with_reducible refine i_I ?_); (with_reducible refine i_z (Or.inr rfl) ?_))))
      exact hk
theorem m_hasWord {O : zOm} (hO : zWld O) (hS : zS O = zmS zC0) {t u n c : Nat} {A B : zTl} {M : zMem} {K : Option zV → zMem → Prop} (ht : t < 7) (hu : u < 7) (hn : M 250 ((1 : Nat) : Int) = ((n : Nat) : Int)) (hn2 : n ≤ 16) (hA : rTe M t n A) (hB : rTe M u n B) (hwA : zTw n A) (hwB : zTw n B) (hc : zWsn A c = true) (h47 : M 250 ((47 : Nat) : Int) = ((c / 256 : Nat) : Int)) (h48 : M 250 ((48 : Nat) : Int) = ((c / 16 % 16 : Nat) : Int)) (h49 : M 250 ((49 : Nat) : Int) = zw2 c)
    (hk : K (some (0, zbI (zHas n A B c))) M) : zR O F_Model_hasWord [(2, 250), (0, ((t : Nat) : Int)), (0, ((u : Nat) : Int))] M K := by
  obtain ⟨i1, i2, i3, i4⟩ := zWs_in hn2 hwA hc
  have hmA := hwA.1.1
  have hmB := hwB.1.1
  have hc4 : c < 1024 := by
    rcases Nat.lt_or_ge c 768 with h | h
    · omega
    · exact (i4 h).1
  unfold zw2 at h49
  apply r_Model_hasWord hO
  unfold B_Model_hasWord
  have f47 := zMF (k := 47) hS rfl; have f49 := zMF (k := 49) hS rfl; have f48 := zMF (k := 48) hS rfl; have f16 := zMF (k := 16) hS rfl; have a262 := zMA (a := 262) (ty := .boolean) (n := 112) hS rfl; have f19 := zMF (k := 19) hS rfl; have a265 := zMA (a := 265) (ty := .boolean) (n := 1792) hS rfl; have f17 := zMF (k := 17) hS rfl; have a263 := zMA (a := 263) (ty := .boolean) (n := 112) hS rfl; have f18 := zMF (k := 18) hS rfl; have a264 := zMA (a := 264) (ty := .boolean) (n := 1792) hS rfl; have zo := zMO hS
  rcases (show c / 256 = 0 ∨ c / 256 = 1 ∨ c / 256 = 2 ∨ c / 256 = 3 by omega) with e | e | e | e
  · have i1' := i1 (by omega)
    have hxA : c / 16 % 16 < tm A := by omega
    rw [e] at h47
    ((with_reducible refine i_Seq (i_Set (i_Call (i_as1 (i_A0 (i_as1 (i_L1 (i_as1 (i_eIf (i_cI_eq (i_F (i_A0 ?_)))))))))))); (with_reducible refine i_fld (by assumption) ?_); (with_reducible refine i_I ?_); (rw [h47]); (with_reducible refine i_f (by omega) ?_); (with_reducible refine i_F (i_A0 ?_)); (with_reducible refine i_fld (by assumption) ?_); (with_reducible refine i_as1 (i_L2 (i_as0 ?_))); (with_reducible refine i_recv0 (by assumption) ?_); (rw [h48]); simp only [w_set0, w_set1, w_setn0, w_setn1])
    refine m_boxAlike hO hS ht hu hn hn2 hA hB hwB (fun hno => ⟨_, rfl, ?_⟩) (fun X hX hba => ⟨_, rfl, ?_⟩)
    · rw [zHas_f (fun d hd h1 => by
        unfold zLk
        by_cases w : c / 256 = d / 256
        · have := (zWs_in hn2 hwB h1).1 (by omega)
          rw [if_pos e, hno (d / 16 % 16) (by omega), Bool.and_false]
        · rw [decide_eq_false w, Bool.false_and])] at hk
      ((with_reducible refine i_Seq (i_If (i_cZ_lt (i_L3 ?_)))); (with_reducible refine i_t (by omega) ?_); (with_reducible refine i_RetZ (i_I ?_)); (with_reducible refine i_z (Or.inl rfl) ?_))
      exact hk
    · have hcr := hB.2.1.1 X (by omega)
      have hv : zHas n A B c = tC B X := by
        cases e2 : tC B X
        · refine zHas_f (fun d hd h1 => ?_)
          cases e3 : zLk n A c B d
          · rfl
          · unfold zLk at e3
            rw [if_pos e, Bool.and_eq_true, decide_eq_true_eq] at e3
            obtain ⟨e4, e5⟩ := e3
            have h2 := (zWs_in hn2 hwB h1).1 (by omega)
            have h3 := zba_uq hwA hxA hba e5
            rw [show d = 16 * X by omega, zWs_c (by omega), e2] at h1
            cases h1
        · refine zHas_t (d := 16 * X) (by omega) (by rw [zWs_c (by omega)]; exact e2) ?_
          unfold zLk
          rw [if_pos e, decide_eq_true (by omega), show 16 * X / 16 % 16 = X by omega, hba]; rfl
      rw [hv] at hk
      cases e2 : tC B X <;> rw [e2] at hk hcr
      all_goals
        (first | (((with_reducible refine i_Seq (i_If (i_cZ_lt (i_L3 ?_)))); (with_reducible refine i_f (by omega) ?_); (with_reducible refine i_Seq (i_If (i_cZ_eq (i_F (i_A0 ?_))))); (with_reducible refine i_fld (by assumption) ?_); (rw [h47]); (with_reducible refine i_t (by omega) ?_); (with_reducible refine i_RetZ (i_ZA (i_FR (i_A0 ?_)))); (with_reducible refine i_fldR (by assumption) ?_); (with_reducible refine i_Add (i_Mul (i_I (i_L2 (i_L3 ?_))))); rw [zx_cmul (by omega)]; rw [zx_add (by omega)]; (with_reducible refine i_in (by assumption) (by omega) (by omega) ?_); (rw [hcr]); (with_reducible refine i_z (Or.inl rfl) ?_); rw [zbI_f])) | (((with_reducible refine i_Seq (i_If (i_cZ_lt (i_L3 ?_)))); (with_reducible refine i_f (by omega) ?_); (with_reducible refine i_Seq (i_If (i_cZ_eq (i_F (i_A0 ?_))))); (with_reducible refine i_fld (by assumption) ?_); (rw [h47]); (with_reducible refine i_t (by omega) ?_); (with_reducible refine i_RetZ (i_ZA (i_FR (i_A0 ?_)))); (with_reducible refine i_fldR (by assumption) ?_); (with_reducible refine i_Add (i_Mul (i_I (i_L2 (i_L3 ?_))))); rw [zx_cmul (by omega)]; rw [zx_add (by omega)]; (with_reducible refine i_in (by assumption) (by omega) (by omega) ?_); (rw [hcr]); (with_reducible refine i_z (Or.inr rfl) ?_); rw [zbI_t])))
        exact hk
  · have i2' := i2 (by omega) (by omega)
    have hxA : c / 16 % 16 < tm A := by omega
    rw [e] at h47
    rw [if_pos (by omega)] at h49
    ((with_reducible refine i_Seq (i_Set (i_Call (i_as1 (i_A0 (i_as1 (i_L1 (i_as1 (i_eIf (i_cI_eq (i_F (i_A0 ?_)))))))))))); (with_reducible refine i_fld (by assumption) ?_); (with_reducible refine i_I ?_); (rw [h47]); (with_reducible refine i_f (by omega) ?_); (with_reducible refine i_F (i_A0 ?_)); (with_reducible refine i_fld (by assumption) ?_); (with_reducible refine i_as1 (i_L2 (i_as0 ?_))); (with_reducible refine i_recv0 (by assumption) ?_); (rw [h48]); simp only [w_set0, w_set1, w_setn0, w_setn1])
    refine m_boxAlike hO hS ht hu hn hn2 hA hB hwB (fun hno => ⟨_, rfl, ?_⟩) (fun X hX hba => ⟨_, rfl, ?_⟩)
    · rw [zHas_f (fun d hd h1 => by
        unfold zLk
        by_cases w : c / 256 = d / 256
        · have := (zWs_in hn2 hwB h1).2.1 (by omega) (by omega)
          rw [if_neg (by omega), if_pos e, hno (d / 16 % 16) (by omega), Bool.false_and, Bool.and_false]
        · rw [decide_eq_false w, Bool.false_and])] at hk
      ((with_reducible refine i_Seq (i_If (i_cZ_lt (i_L3 ?_)))); (with_reducible refine i_t (by omega) ?_); (with_reducible refine i_RetZ (i_I ?_)); (with_reducible refine i_z (Or.inl rfl) ?_))
      exact hk
    · ((with_reducible refine i_Seq (i_If (i_cZ_lt (i_L3 ?_)))); (with_reducible refine i_f (by omega) ?_); (with_reducible refine i_Seq (i_If (i_cZ_eq (i_F (i_A0 ?_))))); (with_reducible refine i_fld (by assumption) ?_); (rw [h47]); (with_reducible refine i_f (by omega) ?_); (with_reducible refine i_Seq (i_If (i_cI_eq (i_F (i_A0 ?_))))); (with_reducible refine i_fld (by assumption) ?_); (with_reducible refine i_I ?_); (rw [h47]); (with_reducible refine i_f (by omega) ?_); (with_reducible refine i_Seq (i_If (i_cI_eq (i_F (i_A0 ?_))))); (with_reducible refine i_fld (by assumption) ?_); (with_reducible refine i_I ?_); (rw [h47]); (with_reducible refine i_f (by omega) ?_); (with_reducible refine i_Seq (i_Set (i_Call (i_as1 (i_A0 (i_as1 (i_L1 (i_as1 (i_F (i_A0 ?_)))))))))); (with_reducible refine i_fld (by assumption) ?_); (with_reducible refine i_as1 (i_L2 (i_as0 ?_))); (with_reducible refine i_recv0 (by assumption) ?_); (rw [h49]); simp only [w_set0, w_set1, w_setn0, w_setn1])
      refine m_boxAlike hO hS ht hu hn hn2 hA hB hwB (fun hno => ⟨_, rfl, ?_⟩) (fun Y hY hbb => ⟨_, rfl, ?_⟩)
      · rw [zHas_f (fun d hd h1 => by
          unfold zLk
          by_cases w : c / 256 = d / 256
          · have := (zWs_in hn2 hwB h1).2.1 (by omega) (by omega)
            rw [if_neg (by omega), if_pos e, hno (d % 16) (by omega), Bool.and_false, Bool.and_false]
          · rw [decide_eq_false w, Bool.false_and])] at hk
        ((with_reducible refine i_RetZ (i_eIf (i_cAnd (i_cZ_ge (i_L4 ?_))))); (with_reducible refine i_f (by omega) ?_); (with_reducible refine i_I ?_); (with_reducible refine i_z (Or.inl rfl) ?_))
        exact hk
      · have hXY := zba_lt hwA hwB (by omega) (show c / 16 % 16 < c % 16 by omega) hba hbb
        have hcr := hB.2.1.2.1 X Y (by omega) (by omega)
        have hv : zHas n A B c = tD B X Y := by
          cases e2 : tD B X Y
          · refine zHas_f (fun d hd h1 => ?_)
            cases e3 : zLk n A c B d
            · rfl
            · unfold zLk at e3
              rw [if_neg (by omega), if_pos e, Bool.and_eq_true, decide_eq_true_eq, Bool.and_eq_true] at e3
              obtain ⟨e4, e5, e6⟩ := e3
              have h2 := (zWs_in hn2 hwB h1).2.1 (by omega) (by omega)
              have h3 := zba_uq hwA hxA hba e5
              have h4 := zba_uq hwA i2'.2 hbb e6
              rw [show d = 256 + 16 * X + Y by omega, zWs_d (by omega) (by omega), e2] at h1
              cases h1
          · refine zHas_t (d := 256 + 16 * X + Y) (by omega) (by rw [zWs_d (by omega) (by omega)]; exact e2) ?_
            unfold zLk
            rw [if_neg (by omega), if_pos e, decide_eq_true (by omega), show (256 + 16 * X + Y) / 16 % 16 = X by omega, show (256 + 16 * X + Y) % 16 = Y by omega, hba, hbb]; rfl
        rw [hv] at hk
        rw [Nat.add_assoc] at hcr
        cases e2 : tD B X Y <;> rw [e2] at hk hcr
        all_goals
          (first | (((with_reducible refine i_RetZ (i_eIf (i_cAnd (i_cZ_ge (i_L4 ?_))))); (with_reducible refine i_t (by omega) ?_); (with_reducible refine i_cZ_ne (i_ZA (i_FR (i_A0 ?_)))); (with_reducible refine i_fldR (by assumption) ?_); (with_reducible refine i_Add (i_Mul (i_I (i_L2 (i_Call (i_as1 (i_L3 (i_as1 (i_L4 (i_as0 (i_recv1 ?_))))))))))); (refine m_cellOf hO hS (show X < 16 by omega) (show Y < 16 by omega) ⟨_, rfl, ?_⟩); (rw [if_pos hXY]); rw [zx_cmul (by omega)]; rw [zx_add (by omega)]; (with_reducible refine i_in (by assumption) (by omega) (by omega) ?_); (rw [hcr]); rw [zbI_f]; (with_reducible refine i_f (by omega) ?_); (with_reducible refine i_I ?_); (with_reducible refine i_z (Or.inl rfl) ?_))) | (((with_reducible refine i_RetZ (i_eIf (i_cAnd (i_cZ_ge (i_L4 ?_))))); (with_reducible refine i_t (by omega) ?_); (with_reducible refine i_cZ_ne (i_ZA (i_FR (i_A0 ?_)))); (with_reducible refine i_fldR (by assumption) ?_); (with_reducible refine i_Add (i_Mul (i_I (i_L2 (i_Call (i_as1 (i_L3 (i_as1 (i_L4 (i_as0 (i_recv1 ?_))))))))))); (refine m_cellOf hO hS (show X < 16 by omega) (show Y < 16 by omega) ⟨_, rfl, ?_⟩); (rw [if_pos hXY]); rw [zx_cmul (by omega)]; rw [zx_add (by omega)]; (with_reducible refine i_in (by assumption) (by omega) (by omega) ?_); (rw [hcr]); rw [zbI_t]; (with_reducible refine i_t (by omega) ?_); (with_reducible refine i_I ?_); (with_reducible refine i_z (Or.inr rfl) ?_))))
          exact hk
  · have i3' := i3 (by omega) (by omega)
    have hxA : c % 16 < tm A := by omega
    rw [e] at h47
    rw [if_pos (by omega)] at h49
    ((with_reducible refine i_Seq (i_Set (i_Call (i_as1 (i_A0 (i_as1 (i_L1 (i_as1 (i_eIf (i_cI_eq (i_F (i_A0 ?_)))))))))))); (with_reducible refine i_fld (by assumption) ?_); (with_reducible refine i_I ?_); (rw [h47]); (with_reducible refine i_t (by omega) ?_); (with_reducible refine i_F (i_A0 ?_)); (with_reducible refine i_fld (by assumption) ?_); (with_reducible refine i_as1 (i_L2 (i_as0 ?_))); (with_reducible refine i_recv0 (by assumption) ?_); (rw [h49]); simp only [w_set0, w_set1, w_setn0, w_setn1])
    refine m_boxAlike hO hS ht hu hn hn2 hA hB hwB (fun hno => ⟨_, rfl, ?_⟩) (fun X hX hba => ⟨_, rfl, ?_⟩)
    · rw [zHas_f (fun d hd h1 => by
        unfold zLk
        by_cases w : c / 256 = d / 256
        · have := (zWs_in hn2 hwB h1).2.2.1 (by omega) (by omega)
          rw [if_neg (by omega), if_neg (by omega), if_pos e, hno (d % 16) (by omega), Bool.and_false, Bool.and_false]
        · rw [decide_eq_false w, Bool.false_and])] at hk
      ((with_reducible refine i_Seq (i_If (i_cZ_lt (i_L3 ?_)))); (with_reducible refine i_t (by omega) ?_); (with_reducible refine i_RetZ (i_I ?_)); (with_reducible refine i_z (Or.inl rfl) ?_))
      exact hk
    · have hcr := hB.2.1.2.2.1 (c / 16 % 16) X (by omega) (by omega)
      have hv : zHas n A B c = tG B (c / 16 % 16) X := by
        cases e2 : tG B (c / 16 % 16) X
        · refine zHas_f (fun d hd h1 => ?_)
          cases e3 : zLk n A c B d
          · rfl
          · unfold zLk at e3
            rw [if_neg (by omega), if_neg (by omega), if_pos e, Bool.and_eq_true, decide_eq_true_eq, Bool.and_eq_true, decide_eq_true_eq] at e3
            obtain ⟨e4, e5, e6⟩ := e3
            have h2 := (zWs_in hn2 hwB h1).2.2.1 (by omega) (by omega)
            have h4 := zba_uq hwA hxA hba e6
            rw [show d = 512 + 16 * (c / 16 % 16) + X by omega, zWs_g (by omega) (by omega), e2] at h1
            cases h1
        · refine zHas_t (d := 512 + 16 * (c / 16 % 16) + X) (by omega) (by rw [zWs_g (by omega) (by omega)]; exact e2) ?_
          unfold zLk
          rw [if_neg (by omega), if_neg (by omega), if_pos e, decide_eq_true (by omega), decide_eq_true (by omega), show (512 + 16 * (c / 16 % 16) + X) % 16 = X by omega, hba]; rfl
      rw [hv] at hk
      cases e2 : tG B (c / 16 % 16) X <;> rw [e2] at hk hcr
      all_goals
        (first | (((with_reducible refine i_Seq (i_If (i_cZ_lt (i_L3 ?_)))); (with_reducible refine i_f (by omega) ?_); (with_reducible refine i_Seq (i_If (i_cZ_eq (i_F (i_A0 ?_))))); (with_reducible refine i_fld (by assumption) ?_); (rw [h47]); (with_reducible refine i_f (by omega) ?_); (with_reducible refine i_Seq (i_If (i_cI_eq (i_F (i_A0 ?_))))); (with_reducible refine i_fld (by assumption) ?_); (with_reducible refine i_I ?_); (rw [h47]); (with_reducible refine i_t (by omega) ?_); (with_reducible refine i_RetZ (i_ZA (i_FR (i_A0 ?_)))); (with_reducible refine i_fldR (by assumption) ?_); (with_reducible refine i_Add (i_Add (i_Mul (i_I (i_L2 (i_Mul (i_I (i_F (i_A0 ?_))))))))); (with_reducible refine i_fld (by assumption) ?_); (with_reducible refine i_L3 ?_); (rw [h48]); rw [zx_cmul (by omega)]; rw [zx_cmul (by omega)]; rw [zx_add (by omega)]; rw [zx_add (by omega)]; (with_reducible refine i_in (by assumption) (by omega) (by omega) ?_); (rw [hcr]); (with_reducible refine i_z (Or.inl rfl) ?_); rw [zbI_f])) | (((with_reducible refine i_Seq (i_If (i_cZ_lt (i_L3 ?_)))); (with_reducible refine i_f (by omega) ?_); (with_reducible refine i_Seq (i_If (i_cZ_eq (i_F (i_A0 ?_))))); (with_reducible refine i_fld (by assumption) ?_); (rw [h47]); (with_reducible refine i_f (by omega) ?_); (with_reducible refine i_Seq (i_If (i_cI_eq (i_F (i_A0 ?_))))); (with_reducible refine i_fld (by assumption) ?_); (with_reducible refine i_I ?_); (rw [h47]); (with_reducible refine i_t (by omega) ?_); (with_reducible refine i_RetZ (i_ZA (i_FR (i_A0 ?_)))); (with_reducible refine i_fldR (by assumption) ?_); (with_reducible refine i_Add (i_Add (i_Mul (i_I (i_L2 (i_Mul (i_I (i_F (i_A0 ?_))))))))); (with_reducible refine i_fld (by assumption) ?_); (with_reducible refine i_L3 ?_); (rw [h48]); rw [zx_cmul (by omega)]; rw [zx_cmul (by omega)]; rw [zx_add (by omega)]; rw [zx_add (by omega)]; (with_reducible refine i_in (by assumption) (by omega) (by omega) ?_); (rw [hcr]); (with_reducible refine i_z (Or.inr rfl) ?_); rw [zbI_t])))
        exact hk
  · have i4' := i4 (by omega)
    have hxA : c / 16 % 16 < tm A := by omega
    rw [e] at h47
    ((with_reducible refine i_Seq (i_Set (i_Call (i_as1 (i_A0 (i_as1 (i_L1 (i_as1 (i_eIf (i_cI_eq (i_F (i_A0 ?_)))))))))))); (with_reducible refine i_fld (by assumption) ?_); (with_reducible refine i_I ?_); (rw [h47]); (with_reducible refine i_f (by omega) ?_); (with_reducible refine i_F (i_A0 ?_)); (with_reducible refine i_fld (by assumption) ?_); (with_reducible refine i_as1 (i_L2 (i_as0 ?_))); (with_reducible refine i_recv0 (by assumption) ?_); (rw [h48]); simp only [w_set0, w_set1, w_setn0, w_setn1])
    refine m_boxAlike hO hS ht hu hn hn2 hA hB hwB (fun hno => ⟨_, rfl, ?_⟩) (fun X hX hba => ⟨_, rfl, ?_⟩)
    · rw [zHas_f (fun d hd h1 => by
        unfold zLk
        by_cases w : c / 256 = d / 256
        · have := (zWs_in hn2 hwB h1).2.2.2 (by omega)
          rw [if_neg (by omega), if_neg (by omega), if_neg (by omega), hno (d / 16 % 16) (by omega), Bool.false_and, Bool.and_false]
        · rw [decide_eq_false w, Bool.false_and])] at hk
      ((with_reducible refine i_Seq (i_If (i_cZ_lt (i_L3 ?_)))); (with_reducible refine i_t (by omega) ?_); (with_reducible refine i_RetZ (i_I ?_)); (with_reducible refine i_z (Or.inl rfl) ?_))
      exact hk
    · have hcr := hB.2.1.2.2.2 X (by omega)
      have hv : zHas n A B c = (tH B X && zrwA n A (c / 16 % 16) B X) := by
        cases e2 : (tH B X && zrwA n A (c / 16 % 16) B X)
        · refine zHas_f (fun d hd h1 => ?_)
          cases e3 : zLk n A c B d
          · rfl
          · unfold zLk at e3
            rw [if_neg (by omega), if_neg (by omega), if_neg (by omega), Bool.and_eq_true, decide_eq_true_eq, Bool.and_eq_true] at e3
            obtain ⟨e4, e5, e6⟩ := e3
            have h2 := (zWs_in hn2 hwB h1).2.2.2 (by omega)
            have h3 := zba_uq hwA hxA hba e5
            rw [← h3] at e6
            rw [show d = 768 + 16 * X by omega, zWs_h (by omega)] at h1
            rw [h1, e6] at e2
            cases e2
        · rw [Bool.and_eq_true] at e2
          refine zHas_t (d := 768 + 16 * X) (by omega) (by rw [zWs_h (by omega)]; exact e2.1) ?_
          unfold zLk
          rw [if_neg (by omega), if_neg (by omega), if_neg (by omega), decide_eq_true (by omega), show (768 + 16 * X) / 16 % 16 = X by omega, hba, e2.2]; rfl
      rw [hv] at hk
      cases e2 : tH B X <;> rw [e2] at hk hcr
      · ((with_reducible refine i_Seq (i_If (i_cZ_lt (i_L3 ?_)))); (with_reducible refine i_f (by omega) ?_); (with_reducible refine i_Seq (i_If (i_cZ_eq (i_F (i_A0 ?_))))); (with_reducible refine i_fld (by assumption) ?_); (rw [h47]); (with_reducible refine i_f (by omega) ?_); (with_reducible refine i_Seq (i_If (i_cI_eq (i_F (i_A0 ?_))))); (with_reducible refine i_fld (by assumption) ?_); (with_reducible refine i_I ?_); (rw [h47]); (with_reducible refine i_f (by omega) ?_); (with_reducible refine i_Seq (i_If (i_cI_eq (i_F (i_A0 ?_))))); (with_reducible refine i_fld (by assumption) ?_); (with_reducible refine i_I ?_); (rw [h47]); (with_reducible refine i_t (by omega) ?_); (with_reducible refine i_RetZ (i_eIf (i_cAnd (i_cZ_ne (i_ZA (i_FR (i_A0 ?_))))))); (with_reducible refine i_fldR (by assumption) ?_); (with_reducible refine i_Add (i_Mul (i_I (i_L2 (i_L3 ?_))))); rw [zx_cmul (by omega)]; rw [zx_add (by omega)]; (with_reducible refine i_in (by assumption) (by omega) (by omega) ?_); (rw [hcr]); rw [zbI_f]; (with_reducible refine i_f (by omega) ?_); (with_reducible refine i_I ?_); (with_reducible refine i_z (Or.inl rfl) ?_))
        exact hk
      · rw [Bool.true_and] at hk
        ((with_reducible refine i_Seq (i_If (i_cZ_lt (i_L3 ?_)))); (with_reducible refine i_f (by omega) ?_); (with_reducible refine i_Seq (i_If (i_cZ_eq (i_F (i_A0 ?_))))); (with_reducible refine i_fld (by assumption) ?_); (rw [h47]); (with_reducible refine i_f (by omega) ?_); (with_reducible refine i_Seq (i_If (i_cI_eq (i_F (i_A0 ?_))))); (with_reducible refine i_fld (by assumption) ?_); (with_reducible refine i_I ?_); (rw [h47]); (with_reducible refine i_f (by omega) ?_); (with_reducible refine i_Seq (i_If (i_cI_eq (i_F (i_A0 ?_))))); (with_reducible refine i_fld (by assumption) ?_); (with_reducible refine i_I ?_); (rw [h47]); (with_reducible refine i_t (by omega) ?_); (with_reducible refine i_RetZ (i_eIf (i_cAnd (i_cZ_ne (i_ZA (i_FR (i_A0 ?_))))))); (with_reducible refine i_fldR (by assumption) ?_); (with_reducible refine i_Add (i_Mul (i_I (i_L2 (i_L3 ?_))))); rw [zx_cmul (by omega)]; rw [zx_add (by omega)]; (with_reducible refine i_in (by assumption) (by omega) (by omega) ?_); (rw [hcr]); rw [zbI_t]; (with_reducible refine i_t (by omega) ?_); (with_reducible refine i_cZ_ne (i_Call (i_as1 (i_A0 (i_as1 (i_L1 (i_as1 (i_F (i_A0 ?_))))))))); (with_reducible refine i_fld (by assumption) ?_); (with_reducible refine i_as1 (i_L2 (i_as1 (i_L3 (i_as0 ?_))))); (with_reducible refine i_recv0 (by assumption) ?_); (rw [h48]); (refine m_isRowAlike hO hS ht hu hn2 hA hB hwA hwB hxA hX (zba_sz hba) ⟨_, rfl, ?_⟩))
        generalize zrwA n A (c / 16 % 16) B X = v at hk ⊢
        cases v
        all_goals
          (first | ((rw [zbI_f]; (with_reducible refine i_f (by omega) ?_); (with_reducible refine i_I ?_); (with_reducible refine i_z (Or.inl rfl) ?_))) | ((rw [zbI_t]; (with_reducible refine i_t (by omega) ?_); (with_reducible refine i_I ?_); (with_reducible refine i_z (Or.inr rfl) ?_))))
          exact hk
/-- how many of the first k words are broken -/
def zBrk (n : Nat) (A B : zTl) (k : Nat) : Bool := !zHas n A B (zwc A k)
theorem m_broken_bad {O : zOm} (hO : zWld O) (hS : zS O = zmS zC0) {t u : Int} {T : Nat} {M : zMem} {K : Option zV → zMem → Prop} (hT : M 250 ((11 : Nat) : Int) = ((T : Nat) : Int)) (hb : ¬ ((0 ≤ t ∧ t < ((T : Nat) : Int)) ∧ 0 ≤ u ∧ u < ((T : Nat) : Int))) (hk : K (some (0, -1)) M) : zR O F_Model_broken [(2, 250), (0, t), (0, u)] M K := by
  apply r_Model_broken hO
  unfold B_Model_broken
  have zo := zMO hS
  by_cases ht : 0 ≤ t ∧ t < ((T : Nat) : Int)
  · ((with_reducible refine i_Seq (i_If (i_cOr (i_cNot (i_cZ_ne (i_Call (i_as1 (i_A0 (i_as1 (i_L1 (i_as0 ?_))))))))))); (with_reducible refine i_recv0 (by assumption) ?_); (refine m_isTelling hO hS hT ⟨_, rfl, ?_⟩); (rw [decide_eq_true ht]); rw [zbI_t]; (with_reducible refine i_t (by omega) ?_); (with_reducible refine i_cNot (i_cZ_ne (i_Call (i_as1 (i_A0 (i_as1 (i_L2 (i_as0 ?_)))))))); (with_reducible refine i_recv0 (by assumption) ?_); (refine m_isTelling hO hS hT ⟨_, rfl, ?_⟩); (rw [decide_eq_false (fun z => hb ⟨ht, z⟩)]); rw [zbI_f]; (with_reducible refine i_f (by omega) ?_); (with_reducible refine i_RetI (i_I ?_)))
    exact hk
  · ((with_reducible refine i_Seq (i_If (i_cOr (i_cNot (i_cZ_ne (i_Call (i_as1 (i_A0 (i_as1 (i_L1 (i_as0 ?_))))))))))); (with_reducible refine i_recv0 (by assumption) ?_); (refine m_isTelling hO hS hT ⟨_, rfl, ?_⟩); (rw [decide_eq_false ht]); rw [zbI_f]; (with_reducible refine i_f (by omega) ?_); (with_reducible refine i_RetI (i_I ?_)))
    exact hk
theorem m_broken {O : zOm} (hO : zWld O) (hS : zS O = zmS zC0) {t u T n : Nat} {A B : zTl} {M : zMem} {K : Option zV → zMem → Prop} (hT : M 250 ((11 : Nat) : Int) = ((T : Nat) : Int)) (hT5 : T ≤ 5) (ht : t < T) (hu : u < T) (hn : M 250 ((1 : Nat) : Int) = ((n : Nat) : Int)) (hn2 : n ≤ 16) (hA : rTe M t n A) (hB : rTe M u n B) (hwA : zTw n A) (hwB : zTw n B) (h120 : zcnt (zWsn A) 1024 ≤ 500)
    (hk : ∀ M', (∀ b j, ¬ (b = 250 ∧ (j = 47 ∨ j = 48 ∨ j = 49 ∨ j = 50)) → M' b j = M b j) → K (some (0, ((zcnt (zBrk n A B) (zcnt (zWsn A) 1024) : Nat) : Int))) M') : zR O F_Model_broken [(2, 250), (0, ((t : Nat) : Int)), (0, ((u : Nat) : Int))] M K := by
  apply r_Model_broken hO
  unfold B_Model_broken
  have zo := zMO hS
  ((with_reducible refine i_Seq (i_If (i_cOr (i_cNot (i_cZ_ne (i_Call (i_as1 (i_A0 (i_as1 (i_L1 (i_as0 ?_))))))))))); (with_reducible refine i_recv0 (by assumption) ?_); (refine m_isTelling hO hS hT ⟨_, rfl, ?_⟩); (rw [decide_eq_true (show 0 ≤ ((t : Nat) : Int) ∧ ((t : Nat) : Int) < ((T : Nat) : Int) by omega)]); rw [zbI_t]; (with_reducible refine i_t (by omega) ?_); (with_reducible refine i_cNot (i_cZ_ne (i_Call (i_as1 (i_A0 (i_as1 (i_L2 (i_as0 ?_)))))))); (with_reducible refine i_recv0 (by assumption) ?_); (refine m_isTelling hO hS hT ⟨_, rfl, ?_⟩); (rw [decide_eq_true (show 0 ≤ ((u : Nat) : Int) ∧ ((u : Nat) : Int) < ((T : Nat) : Int) by omega)]); rw [zbI_t]; (with_reducible refine i_t (by omega) ?_); (with_reducible refine i_Seq (i_Set (i_I (i_Seq (i_Set (i_Call (i_as1 ?_))))))); simp only [w_set0, w_set1, w_setn0, w_setn1]; (with_reducible refine i_A0 (i_as1 (i_L1 (i_as0 ?_)))); (with_reducible refine i_recv0 (by assumption) ?_); simp only [w_set0, w_set1, w_setn0, w_setn1])
  refine m_wordsOf hO hS (by omega) hn hn2 hA hwA (fun M1 f1' => ⟨_, rfl, ?_⟩)
  ((with_reducible refine i_Seq (i_Blk (i_Seq (i_Set (i_I ?_))))); simp only [w_set0, w_set1, w_setn0, w_setn1])
  refine w_ForN (zcnt (zWsn A) 1024) (fun k ρ M' => (∃ l, ρ = 250 :: ((t : Nat) : Int) :: ((u : Nat) : Int) :: ((zcnt (zBrk n A B) k : Nat) : Int) :: ((zcnt (zWsn A) 1024 : Nat) : Int) :: ((k : Nat) : Int) :: l) ∧ (∀ b j, ¬ (b = 250 ∧ (j = 47 ∨ j = 48 ∨ j = 49 ∨ j = 50)) → M' b j = M b j)) ⟨⟨_, rfl⟩, fun b j q => f1' b j (by omega)⟩ ?_ ?_
  · rintro k ρ M2 X hk1 ⟨⟨l, rfl⟩, f2⟩ hX
    have hzc := zcnt_le (zBrk n A B) k
    obtain ⟨w1, w2, w3⟩ := zwc_ok hk1
    have n2 : M2 250 ((1 : Nat) : Int) = ((n : Nat) : Int) := by rw [f2 _ _ (by omega)]; exact hn
    have hX2 : ∀ l M' (c : Nat), (∀ b j, ¬ (b = 250 ∧ (j = 47 ∨ j = 48 ∨ j = 49 ∨ j = 50)) → M' b j = M b j) → c = zcnt (zBrk n A B) k + (if zBrk n A B k = true then 1 else 0) → X (250 :: ((t : Nat) : Int) :: ((u : Nat) : Int) :: ((c : Nat) : Int) :: ((zcnt (zWsn A) 1024 : Nat) : Int) :: ((k + 1 : Nat) : Int) :: l) M' := fun l M' c a1 hc => by subst hc; exact hX _ _ ⟨⟨l, rfl⟩, a1⟩
    clear hX
    ((with_reducible refine i_turn (i_cI_lt (i_L5 (i_L4 ?_)))); (with_reducible refine i_t (by omega) ?_); (with_reducible refine i_Blk (i_Seq (i_Set (i_Call (i_as1 (i_A0 (i_as1 (i_L1 (i_as1 (i_L5 (i_as0 ?_))))))))))); (with_reducible refine i_recv0 (by assumption) ?_); simp only [w_set0, w_set1, w_setn0, w_setn1])
    refine m_seeks hO hS (by omega) n2 hn2 (hA.to hn2 hwA (fun b j q => f2 b j (by omega))) hwA ⟨by omega, by omega⟩ (by omega) (fun z => absurd z (by omega)) (fun c hc1 hc2 hc3 M3 f3 a3 b3 d3 => ⟨_, rfl, ?_⟩)
    have hcc : c = zwc A k := zcnt_inj _ hc2 w2 (by omega)
    have k3 : ∀ b j, ¬ (b = 250 ∧ (j = 47 ∨ j = 48 ∨ j = 49 ∨ j = 50)) → M3 b j = M b j := fun b j q => by rw [f3 b j q, f2 b j q]
    ((with_reducible refine i_If (i_cNot (i_cZ_ne (i_Call (i_as1 (i_A0 (i_as1 (i_L1 (i_as1 (i_L2 (i_as0 ?_))))))))))); (with_reducible refine i_recv0 (by assumption) ?_); rw [w_setT])
    refine m_hasWord hO hS (by omega) (by omega) (show M3 250 ((1 : Nat) : Int) = ((n : Nat) : Int) by rw [k3 _ _ (by omega)]; exact hn) hn2 (hA.to hn2 hwA (fun b j q => k3 b j (by omega))) (hB.to hn2 hwB (fun b j q => k3 b j (by omega))) hwA hwB hc2 a3 b3 d3 ⟨_, rfl, ?_⟩
    have hX3 := fun l c => hX2 l M3 c k3
    clear hX2
    have hz : zBrk n A B k = !zHas n A B c := by rw [hcc]; rfl
    rw [hz] at hX3
    clear hz
    generalize zcnt (zBrk n A B) k = z at hX3 hzc ⊢
    cases e : zHas n A B c
    · rw [e] at hX3
      (rw [zbI_f]; (with_reducible refine i_f (by omega) ?_); (with_reducible refine i_Inc3 (i_up ?_)); rw [zx_inc (by omega)]; simp only [w_set0, w_set1, w_setn0, w_setn1]; (with_reducible refine i_Inc5 ?_); rw [zx_inc (by omega)]; simp only [w_set0, w_set1, w_setn0, w_setn1])
      exact hX3 _ _ rfl
    · rw [e] at hX3
      (rw [zbI_t]; (with_reducible refine i_t (by omega) ?_); (with_reducible refine i_up (i_Inc5 ?_)); rw [zx_inc (by omega)]; simp only [w_set0, w_set1, w_setn0, w_setn1])
      exact hX3 _ _ rfl
  · rintro ρ M2 X ⟨⟨l, rfl⟩, f2⟩
    ((with_reducible refine i_turn (i_cI_lt (i_L5 (i_L4 ?_)))); (with_reducible refine i_f (by omega) ?_); (with_reducible refine i_RetI (i_L3 ?_)))
    exact hk M2 f2
