/-! ===== the class: a telling's small methods; words as a set of numbers ===== -/
theorem zcnt_top {W : Nat → Bool} {c : Nat} (h : ∀ d, c ≤ d → W d = false) {n : Nat} (hn : c ≤ n) : zcnt W n = zcnt W c := by
  induction n with
  | zero => rw [show c = 0 by omega]
  | succ n ih =>
    rcases Nat.lt_or_ge n c with q | q
    · rw [show c = n + 1 by omega]
    · rw [zcnt_su, h n q, ih q]; rfl
theorem zcnt_ins {W : Nat → Bool} {c : Nat} (h : W c = false) (n : Nat) : zcnt (fun d => W d || decide (d = c)) n = zcnt W n + (if c < n then 1 else 0) := by
  induction n with
  | zero => rfl
  | succ n ih =>
    rw [zcnt_su, zcnt_su, ih]
    by_cases e : n = c
    · subst e; simp [h]
    · by_cases q : c < n
      · simp [e, q, show c < n + 1 by omega]; omega
      · simp [e, q, show ¬ c < n + 1 by omega]
/-- the words of a telling of the class: their numbers, as they grow -/
def zWd (M : zMem) (x : Nat) (W : Nat → Bool) : Prop := M ((x : Nat) : Int) ((6 : Nat) : Int) = ((zcnt W 1024 : Nat) : Int) ∧ ∀ c : Nat, c < 1024 → W c = true → M ((x + 6 : Nat) : Int) ((zcnt W c : Nat) : Int) = ((c : Nat) : Int)
theorem zWd.ext {M : zMem} {x : Nat} {W V : Nat → Bool} (h : zWd M x W) (e : ∀ c, c < 1024 → W c = V c) : zWd M x V :=
  ⟨by rw [← zcnt_ext e]; exact h.1, fun c hc hv => by rw [← zcnt_ext (s := W) (t := V) (fun i hi => e i (by omega))]; exact h.2 c hc (by rw [e c hc]; exact hv)⟩
theorem zWd.to {M M' : zMem} {x : Nat} {W : Nat → Bool} (h : zWd M x W) (h1 : ∀ j, M' ((x : Nat) : Int) j = M ((x : Nat) : Int) j) (h2 : ∀ j, M' ((x + 6 : Nat) : Int) j = M ((x + 6 : Nat) : Int) j) : zWd M' x W := ⟨by rw [h1]; exact h.1, fun c hc hw => by rw [h2]; exact h.2 c hc hw⟩
theorem c_addWord {O : zOm} (hO : zWld O) {x c : Nat} {W : Nat → Bool} {M : zMem} {K : Option zV → zMem → Prop} (hx : zTeC (zS O) x) (hW : zWd M x W) (hc : c < 1024) (ht : ∀ d, c ≤ d → W d = false) (hn : zcnt W 1024 < 120)
    (hk : ∀ M', (∀ b j, ¬ (b = ((x : Nat) : Int) ∧ j = 6 ∨ b = ((x + 6 : Nat) : Int)) → M' b j = M b j) → zWd M' x (fun d => W d || decide (d = c)) → K none M') : zR O F_Telling_addWord [(2, ((x : Nat) : Int)), (0, ((c : Nat) : Int))] M K := by
  obtain ⟨⟨o, x0, x1, x2, x3, x4, x5, x6⟩, ⟨y1, y2⟩, -⟩ := hx
  obtain ⟨h1, h2⟩ := hW
  have et := zcnt_top ht (n := 1024) (by omega)
  apply r_Telling_addWord hO
  unfold B_Telling_addWord
  ((with_reducible refine i_Seq (i_If (i_cI_lt (i_F (i_A0 ?_))))); (with_reducible refine i_fld (by assumption) ?_); (with_reducible refine i_I ?_); (rw [h1]); (with_reducible refine i_t (by omega) ?_); (with_reducible refine i_Seq (i_sIA (i_FR (i_A0 ?_)))); (with_reducible refine i_fldR (by assumption) ?_); (with_reducible refine i_F (i_A0 ?_)); (with_reducible refine i_fld (by assumption) ?_); (with_reducible refine i_L1 ?_); (with_reducible refine i_in (by assumption) (by omega) (by omega) ?_); (with_reducible refine i_FO (i_A0 ?_)); (with_reducible refine i_fld (by assumption) ?_); (with_reducible refine i_I ?_); (with_reducible refine i_fld (by assumption) ?_); (with_reducible refine i_RetV ?_); rw [zg_n _ _ _ (by omega)]; (rw [h1]); rw [zx_inc (by omega)])
  have hf : ∀ b j, ¬ (b = ((x : Nat) : Int) ∧ j = 6 ∨ b = ((x + 6 : Nat) : Int)) → M b j = M b j := fun _ _ _ => rfl
  refine hk _ (by intro b j q; ((rw [zg_o _ _ (by omega)]; rw [zg_n _ _ _ (by omega)])); first | done | rfl | exact hf b j (by omega)) ⟨?_, fun d hd hv => ?_⟩
  · rw [zg_s, zcnt_ins (ht c (Nat.le_refl _)), if_pos hc]
  · rw [zcnt_ins (ht c (Nat.le_refl _))]
    by_cases e : d = c
    · subst e
      rw [if_neg (Nat.lt_irrefl _), ← et, Nat.add_zero (zcnt W 1024), zg_n _ _ _ (by omega), zg_s]
    · have hv2 : W d = true := by simpa [e] using hv
      have hdc : d < c := by
        rcases Nat.lt_or_ge d c with q | q
        · exact q
        · rw [ht d q] at hv2; cases hv2
      have := zcnt_lt W (show d < c from hdc) hv2
      rw [if_neg (by omega), Nat.add_zero]
      (rw [zg_n _ _ _ (by omega)]; rw [zg_m _ _ _ _ _ (by omega)])
      exact h2 d hd hv2
theorem c_wordOf {O : zOm} (hO : zWld O) {k a b : Nat} {M : zMem} {K : Option zV → zMem → Prop} (hk4 : k < 4) (ha : a < 16) (hb : b < 16) (hk : K (some (0, ((256 * k + 16 * a + b : Nat) : Int))) M) : zR O F_Telling_wordOf [(0, ((k : Nat) : Int)), (0, ((a : Nat) : Int)), (0, ((b : Nat) : Int))] M K := by
  apply r_Telling_wordOf hO
  unfold B_Telling_wordOf
  ((with_reducible refine i_RetI (i_Add (i_Mul (i_Add (i_Mul (i_L0 (i_I (i_L1 (i_I (i_L2 ?_)))))))))); rw [zx_mulc (by omega)]; rw [zx_add (by omega)]; rw [zx_mulc (by omega)]; rw [zx_add (by omega)])
  rw [show (k * 16 + a) * 16 + b = 256 * k + 16 * a + b by omega]
  exact hk
theorem c_kindOf {O : zOm} (hO : zWld O) {c : Nat} {M : zMem} {K : Option zV → zMem → Prop} (hc : c < 1024) (hk : K (some (0, ((c / 256 : Nat) : Int))) M) : zR O F_Telling_kindOf [(0, ((c : Nat) : Int))] M K := by
  apply r_Telling_kindOf hO
  unfold B_Telling_kindOf
  ((with_reducible refine i_RetI (i_Div (i_L0 (i_I ?_)))); rw [zx_divc (by omega)]; (with_reducible refine i_nn (by decide) ?_))
  exact hk
theorem c_firstOf {O : zOm} (hO : zWld O) {c : Nat} {M : zMem} {K : Option zV → zMem → Prop} (hc : c < 1024) (hk : K (some (0, ((c / 16 % 16 : Nat) : Int))) M) : zR O F_Telling_firstOf [(0, ((c : Nat) : Int))] M K := by
  apply r_Telling_firstOf hO
  unfold B_Telling_firstOf
  ((with_reducible refine i_RetI (i_Rem (i_Div (i_L0 (i_I ?_))))); rw [zx_divc (by omega)]; (with_reducible refine i_nn (by decide) ?_); (with_reducible refine i_I ?_); rw [zx_modc]; (with_reducible refine i_nn (by decide) ?_))
  exact hk
theorem c_secondOf {O : zOm} (hO : zWld O) {c : Nat} {M : zMem} {K : Option zV → zMem → Prop} (hc : c < 1024) (hk : K (some (0, ((c % 16 : Nat) : Int))) M) : zR O F_Telling_secondOf [(0, ((c : Nat) : Int))] M K := by
  apply r_Telling_secondOf hO
  unfold B_Telling_secondOf
  ((with_reducible refine i_RetI (i_Rem (i_L0 (i_I ?_)))); rw [zx_modc]; (with_reducible refine i_nn (by decide) ?_))
  exact hk
theorem zcnt_box (f : Nat → Nat) {n : Nat} (hn : n ≤ 16) (b : Nat) : zcnt (fun q => decide (q < n) && decide (f q = b)) 16 = zSz f n b := by
  rw [zcnt_top (c := n) (fun d hd => by rw [decide_eq_false (by omega)]; rfl) hn]
  unfold zSz
  exact zcnt_ext fun i hi => by rw [decide_eq_true hi, Bool.true_and]
theorem c_sizeOf {O : zOm} (hO : zWld O) {p n m b : Nat} {f : Nat → Nat} {M : zMem} {K : Option zV → zMem → Prop} (hp : zPar (zS O) p) (hM : zPR M p n f m) (hn : n ≤ 16) (hm : m ≤ 16) (hb : b < m) (hk : K (some (0, ((zSz f n b : Nat) : Int))) M) : zR O F_Parting_sizeOf [(2, ((p : Nat) : Int)), (0, ((b : Nat) : Int))] M K := by
  obtain ⟨p0, p1, p2, p3, p4, p5, p6, p7, p8⟩ := hp
  rw [← zcnt_box f hn] at hk
  apply r_Parting_sizeOf hO
  unfold B_Parting_sizeOf
  ((with_reducible refine i_RetI (i_Call (i_as1 (i_IA (i_FR (i_A0 ?_)))))); (with_reducible refine i_fldR (by assumption) ?_); (with_reducible refine i_L1 ?_); (with_reducible refine i_in (by assumption) (by omega) (by omega) ?_); (with_reducible refine i_as0 (i_recv1 ?_)); (rw [hM.2.2.2 b hb]); (refine s_bitCount hO ⟨_, rfl, ?_⟩))
  exact hk
/-- where the row of a box begins -/
def zSt0 (f : Nat → Nat) (n b : Nat) : Nat := zsum (zSz f n) b
theorem c_startOf {O : zOm} (hO : zWld O) {p n m b : Nat} {f : Nat → Nat} {M : zMem} {K : Option zV → zMem → Prop} (hp : zPar (zS O) p) (hM : zPR M p n f m) (hn : n ≤ 16) (hm : m ≤ 16) (hb : b ≤ m) (hk : K (some (0, ((zSt0 f n b : Nat) : Int))) M) : zR O F_Parting_startOf [(2, ((p : Nat) : Int)), (0, ((b : Nat) : Int))] M K := by
  obtain ⟨p0, p1, p2, p3, p4, p5, p6, p7, p8⟩ := hp
  have hs := zsum_le (f := zSz f n) (c := 16) (fun i => by have := zSz_le f n i; omega)
  apply r_Parting_startOf hO
  unfold B_Parting_startOf
  ((with_reducible refine i_Seq (i_Set (i_I (i_Seq (i_Blk (i_Seq (i_Set (i_I ?_)))))))); simp only [w_set0, w_set1, w_setn0, w_setn1])
  refine w_ForN b (fun k ρ M' => ρ = [((p : Nat) : Int), ((b : Nat) : Int), ((zSt0 f n k : Nat) : Int), ((k : Nat) : Int)] ∧ M' = M) ⟨rfl, rfl⟩ ?_ ?_
  · rintro k ρ M1 X hk1 ⟨rfl, rfl⟩ hX
    have h1 := hs k
    have h2 := zSz_le f n k
    unfold zSt0 at hX ⊢
    rw [zsum_su] at hX
    ((with_reducible refine i_turn (i_cI_lt (i_L3 (i_L1 ?_)))); (with_reducible refine i_t (by omega) ?_); (with_reducible refine i_Set (i_Add (i_L2 (i_Call (i_as1 (i_IA (i_FR (i_A0 ?_)))))))); (with_reducible refine i_fldR (by assumption) ?_); (with_reducible refine i_L3 ?_); (with_reducible refine i_in (by assumption) (by omega) (by omega) ?_); (with_reducible refine i_as0 (i_recv1 ?_)); (rw [hM.2.2.2 k (by omega)]); (refine s_bitCount hO ⟨_, rfl, ?_⟩); (with_reducible refine i_up ?_); (rw [zcnt_box f hn]); rw [zx_add (by omega)]; simp only [w_set0, w_set1, w_setn0, w_setn1]; (with_reducible refine i_Inc3 ?_); rw [zx_inc (by omega)]; simp only [w_set0, w_set1, w_setn0, w_setn1])
    exact hX _ _ ⟨rfl, rfl⟩
  · rintro ρ M1 X ⟨rfl, rfl⟩
    ((with_reducible refine i_turn (i_cI_lt (i_L3 (i_L1 ?_)))); (with_reducible refine i_f (by omega) ?_); (with_reducible refine i_RetI (i_L2 ?_)))
    exact hk
theorem c_isBox {O : zOm} (hO : zWld O) {p m : Nat} {b : Int} {M : zMem} {K : Option zV → zMem → Prop} (hp : zPar (zS O) p) (hM : M ((p : Nat) : Int) ((4 : Nat) : Int) = ((m : Nat) : Int)) (hk : K (some (0, zbI (decide (0 ≤ b ∧ b < ((m : Nat) : Int))))) M) : zR O F_Parting_isBox [(2, ((p : Nat) : Int)), (0, b)] M K := by
  obtain ⟨p0, p1, p2, p3, p4, p5, p6, p7, p8⟩ := hp
  apply r_Parting_isBox hO
  unfold B_Parting_isBox
  (focus ((with_reducible refine i_RetZ (i_eIf (i_cAnd (i_cZ_ge (i_L1 ?_))))); (with_reducible refine i_br ?_ ?_ <;> intro hc); (focus ((with_reducible refine i_cI_lt (i_L1 (i_F (i_A0 ?_)))); (with_reducible refine i_fld (by assumption) ?_); (rw [hM]); (with_reducible refine i_br ?_ ?_ <;> intro hc); (focus ((with_reducible refine i_I ?_); (with_reducible refine i_z (Or.inr rfl) ?_))); rotate_left; (focus ((with_reducible refine i_I ?_); (with_reducible refine i_z (Or.inl rfl) ?_))); rotate_right)); rotate_left 2; (focus ((with_reducible refine i_I ?_); (with_reducible refine i_z (Or.inl rfl) ?_))); rotate_right 2))
  all_goals first | (rw [decide_eq_true (by omega)] at hk; exact hk) | (rw [decide_eq_false (by omega)] at hk; exact hk)
/-- a rule's cells -/
def zRl (S : List zSh) (r : Nat) : Prop := zObj S ((r : Nat) : Int) 7 ∧ zFld S ((r : Nat) : Int) 7 0 = some (some (some (r + 1))) ∧ zFld S ((r : Nat) : Int) 7 1 = some none ∧ zFld S ((r : Nat) : Int) 7 2 = some none ∧ zFld S ((r : Nat) : Int) 7 3 = some none ∧ zArr S ((r + 1 : Nat) : Int) .int 256
theorem c_isSparing {O : zOm} (hO : zWld O) {r E ties pairs own : Nat} {M : zMem} {K : Option zV → zMem → Prop} (hr : zRl (zS O) r) (hE : M ((r : Nat) : Int) ((1 : Nat) : Int) = ((E : Nat) : Int)) (hE2 : E ≤ 10) (h1 : ties ≤ 1000) (h2 : pairs ≤ 1000) (h3 : own ≤ 1000) (hk : K (some (0, zbI (decide (((own : Nat) : Int) < ((E : Nat) : Int) * (2 * ((ties : Nat) : Int) - ((pairs : Nat) : Int)))))) M) : zR O F_Rule_isSparing [(2, ((r : Nat) : Int)), (0, ((ties : Nat) : Int)), (0, ((pairs : Nat) : Int)), (0, ((own : Nat) : Int))] M K := by
  obtain ⟨r0, r1, r2, r3, r4, r5⟩ := hr
  have hml := zmulb (e := ((E : Nat) : Int)) (x := 2 * ((ties : Nat) : Int) - ((pairs : Nat) : Int)) (B := 3000) (by omega) (by omega) (by omega) (by omega)
  apply r_Rule_isSparing hO
  unfold B_Rule_isSparing
  have e1 : zw32 (((2 * ties : Nat) : Int) - ((pairs : Nat) : Int)) = 2 * ((ties : Nat) : Int) - ((pairs : Nat) : Int) := by rw [zx_s (by omega) (by omega)]; omega
  (focus ((with_reducible refine i_RetZ (i_eIf (i_cI_gt (i_Mul (i_F (i_A0 ?_)))))); (with_reducible refine i_fld (by assumption) ?_); (with_reducible refine i_Sub (i_Mul (i_I (i_L1 (i_L2 (i_L3 ?_)))))); (rw [hE]); rw [zx_cmul (by omega)]; (rw [e1]); rw [zx_s (by omega) (by omega)]; (with_reducible refine i_br ?_ ?_ <;> intro hc); (focus ((with_reducible refine i_I ?_); (with_reducible refine i_z (Or.inr rfl) ?_))); rotate_left; (focus ((with_reducible refine i_I ?_); (with_reducible refine i_z (Or.inl rfl) ?_))); rotate_right))
  · rw [decide_eq_true (by assumption)] at hk; exact hk
  · rw [decide_eq_false (by assumption)] at hk; exact hk
