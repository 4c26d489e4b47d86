/-! ===== served by the best set: the class ===== -/
/-- the reader's list of excepts -/
def cLs (M : zMem) (W : Nat → Bool) (E : Nat) : Prop := M ((148 : Nat) : Int) ((6 : Nat) : Int) = ((E : Nat) : Int) ∧ ∀ k : Nat, k < E → M ((153 : Nat) : Int) ((k : Nat) : Int) = zpk W ((k : Nat) : Int) 256
theorem cLs.to {M M' : zMem} {W : Nat → Bool} {E : Nat} (h : cLs M W E) (e : ∀ b j, (b = ((148 : Nat) : Int) ∧ j = 6 ∨ b = ((153 : Nat) : Int)) → M' b j = M b j) : cLs M' W E := ⟨by rw [e _ _ (by omega)]; exact h.1, fun k hk => by rw [e _ _ (by omega)]; exact h.2 k hk⟩
theorem zTv_X {A : zTl} {v : Nat → Nat → Nat} (h : ∀ a b, v a b = 0 ↔ tv A a b = 0) : tX (zTv A v) = tX A := funext fun c => by
  show decide (v (c / 16) (c % 16) ≠ 0) = decide (tv A (c / 16) (c % 16) ≠ 0)
  exact decide_eq_decide.mpr (not_congr (h _ _))
theorem zTv_s {A : zTl} {v : Nat → Nat → Nat} (h : ∀ a b, v a b = 0 ↔ tv A a b = 0) (s : Nat) : zTs (zTv A v) s = zTs A s := by
  have e : (fun a b => if tv (zTv A v) a b = 0 then 0 else if s.testBit (zcnt (tX (zTv A v)) (16 * a + b)) = true then 1 else 2) = (fun a b => if tv A a b = 0 then 0 else if s.testBit (zcnt (tX A) (16 * a + b)) = true then 1 else 2) := funext fun a => funext fun b => by
    rw [zTv_X h]
    show (if v a b = 0 then 0 else _) = _
    by_cases w : tv A a b = 0
    · rw [if_pos w, if_pos ((h a b).mpr w)]
    · rw [if_neg w, if_neg (fun z => w ((h a b).mp z))]
  show (A.1, A.2.1, A.2.2.1, _) = (A.1, A.2.1, A.2.2.1, _)
  rw [e]
theorem zTs_0 (A : zTl) (s a b : Nat) : tv (zTs A s) a b = 0 ↔ tv A a b = 0 := by
  rw [zTs_v]
  by_cases w : tv A a b = 0
  · rw [if_pos w]; exact ⟨fun _ => w, fun _ => rfl⟩
  · rw [if_neg w]
    refine ⟨fun z => ?_, fun z => absurd z w⟩
    split at z <;> omega
/-- the first of the excepts told or left by a set -/
def zTp (A : zTl) (s k : Nat) : zTl := zTv A (fun a b => if tv A a b = 0 then 0 else if zcnt (tX A) (16 * a + b) < k then (if s.testBit (zcnt (tX A) (16 * a + b)) = true then 1 else 2) else tv A a b)
theorem zTp_z (A : zTl) (s k a b : Nat) : (if tv A a b = 0 then 0 else if zcnt (tX A) (16 * a + b) < k then (if s.testBit (zcnt (tX A) (16 * a + b)) = true then 1 else 2) else tv A a b) = 0 ↔ tv A a b = 0 := by
  by_cases w : tv A a b = 0
  · rw [if_pos w]; exact ⟨fun _ => w, fun _ => rfl⟩
  · rw [if_neg w]
    refine ⟨fun z => ?_, fun z => absurd z w⟩
    split at z
    · split at z <;> omega
    · exact z
theorem zTp_X (A : zTl) (s k : Nat) : tX (zTp A s k) = tX A := zTv_X (fun a b => zTp_z A s k a b)
theorem zTp_0 (A : zTl) (s : Nat) : zTp A s 0 = A := by
  have e : (fun a b => if tv A a b = 0 then 0 else if zcnt (tX A) (16 * a + b) < 0 then (if s.testBit (zcnt (tX A) (16 * a + b)) = true then 1 else 2) else tv A a b) = tv A := funext fun a => funext fun b => by
    by_cases w : tv A a b = 0
    · rw [if_pos w, w]
    · rw [if_neg w, if_neg (Nat.not_lt_zero _)]
  show zTv A _ = A
  rw [e]
  rfl
theorem zTp_su {n : Nat} {A : zTl} (hn : n ≤ 16) (hw : zTw n A) (s : Nat) {k c : Nat} (h1 : c < 256) (h2 : tX A c = true) (h3 : zcnt (tX A) c = k) : zTv (zTp A s k) (zv1 (zTp A s k) c (if s.testBit k = true then 1 else 2)) = zTp A s (k + 1) := by
  have e : (fun a b => if 16 * a + b = c ∧ b < 16 then (if s.testBit k = true then 1 else 2) else if tv A a b = 0 then 0 else if zcnt (tX A) (16 * a + b) < k then (if s.testBit (zcnt (tX A) (16 * a + b)) = true then 1 else 2) else tv A a b) = (fun a b => if tv A a b = 0 then 0 else if zcnt (tX A) (16 * a + b) < k + 1 then (if s.testBit (zcnt (tX A) (16 * a + b)) = true then 1 else 2) else tv A a b) := funext fun a => funext fun b => by
    by_cases w : tv A a b = 0
    · have hne : ¬ (16 * a + b = c ∧ b < 16) := fun z => by
        have h2' : tv A (c / 16) (c % 16) ≠ 0 := of_decide_eq_true h2
        rw [← z.1, show (16 * a + b) / 16 = a by omega, show (16 * a + b) % 16 = b by omega] at h2'
        exact h2' w
      rw [if_neg hne, if_pos w, if_pos w]
    · obtain ⟨q1, q2⟩ := hw.2.2.2.1 a b w
      have hd : tX A (16 * a + b) = true := by
        show decide (tv A ((16 * a + b) / 16) ((16 * a + b) % 16) ≠ 0) = true
        rw [show (16 * a + b) / 16 = a by omega, show (16 * a + b) % 16 = b by omega]
        exact decide_eq_true w
      by_cases z : 16 * a + b = c
      · rw [if_pos ⟨z, by omega⟩, if_neg w, z, h3, if_pos (Nat.lt_succ_self k)]
      · have hk : zcnt (tX A) (16 * a + b) ≠ k := fun y => z (zcnt_inj (tX A) hd h2 (y.trans h3.symm))
        rw [if_neg (fun y => z y.1), if_neg w, if_neg w]
        by_cases y : zcnt (tX A) (16 * a + b) < k
        · rw [if_pos y, if_pos (Nat.lt_succ_of_lt y)]
        · rw [if_neg y, if_neg (by omega)]
  show (A.1, A.2.1, A.2.2.1, _) = (A.1, A.2.1, A.2.2.1, _)
  rw [← e]
  rfl
theorem zTp_E {n E : Nat} {A : zTl} (hn : n ≤ 16) (hw : zTw n A) (s : Nat) (hE : zcnt (tX A) 256 = E) : zTp A s E = zTs A s := by
  have e : (fun a b => if tv A a b = 0 then 0 else if zcnt (tX A) (16 * a + b) < E then (if s.testBit (zcnt (tX A) (16 * a + b)) = true then 1 else 2) else tv A a b) = (fun a b => if tv A a b = 0 then 0 else if s.testBit (zcnt (tX A) (16 * a + b)) = true then 1 else 2) := funext fun a => funext fun b => by
    by_cases w : tv A a b = 0
    · rw [if_pos w, if_pos w]
    · obtain ⟨q1, q2⟩ := hw.2.2.2.1 a b w
      have hd : tX A (16 * a + b) = true := by
        show decide (tv A ((16 * a + b) / 16) ((16 * a + b) % 16) ≠ 0) = true
        rw [show (16 * a + b) / 16 = a by omega, show (16 * a + b) % 16 = b by omega]
        exact decide_eq_true w
      have h1 := zcnt_su (tX A) (16 * a + b)
      rw [if_pos hd] at h1
      have h2 := zcnt_mono (tX A) (show 16 * a + b + 1 ≤ 256 by omega)
      rw [hE, h1] at h2
      rw [if_neg w, if_neg w, if_pos (show zcnt (tX A) (16 * a + b) < E from h2)]
  show zTv A _ = zTv A _
  rw [e]
theorem zTR.back {M M' : zMem} {x n : Nat} {A : zTl} {v : Nat → Nat → Nat} (h : zTR M x n (zTv A v)) (hv : ∀ a b, v a b = 0 ↔ tv A a b = 0) (hf : ∀ b j, ¬ (((x + 11 : Nat) : Int) ≤ b ∧ b ≤ ((x + 12 : Nat) : Int)) → M' b j = M b j) (hl : zNR M' (x + 11) n (fun p q => decide (tvs A p q = 2))) : zTR M' x n A := by
  obtain ⟨h1, h2, h3, h4, h5, h6⟩ := h
  refine ⟨zPR.fr h1 (fun b j a1 a2 => hf b j (by omega)), fun b k hb hk2 => by rw [hf _ _ (by omega)]; exact h2 b k hb hk2, ⟨h3.1.to (fun j => hf _ _ (by omega)) (fun j => hf _ _ (by omega)), h3.2⟩, h4.to (fun b j a1 a2 => hf b j (by omega)), (h5.to (fun b j a1 a2 => hf b j (by omega))).ext (fun p q hp hq => ?_), hl⟩
  show decide ((if p < q then v p q else v q p) ≠ 0) = decide ((if p < q then tv A p q else tv A q p) ≠ 0)
  refine decide_eq_decide.mpr (not_congr ?_)
  split
  · exact hv _ _
  · exact hv _ _
theorem c_begin {O : zOm} (hO : zWld O) (hS : zS O = zmS zC0) {x n E : Nat} {A : zTl} {M : zMem} {K : Option zV → zMem → Prop} (hx : zTeC (zS O) x) (hx7 : 165 < x) (hA : zTR M x n A) (hn2 : n ≤ 16) (hw : zTw n A) (hE : zcnt (tX A) 256 = E)
    (hk : ∀ M', (∀ b j, ¬ (b = ((148 : Nat) : Int) ∧ j = 6 ∨ ((153 : Nat) : Int) ≤ b ∧ b ≤ ((155 : Nat) : Int)) → M' b j = M b j) → zNR M' 154 n (fun p q => decide (tvs A p q = 2)) → cLs M' (tX A) E → K (some (0, zbI (decide (E ≤ 9)))) M') : zR O F_Reader_begin [(2, ((148 : Nat) : Int)), (2, ((x : Nat) : Int))] M K := by
  obtain ⟨⟨s0, s1, s2, s3, s4, s5, s6, s7, s8⟩, ⟨t1, t2, t3, t4, t5⟩⟩ := zO148_ok hS
  have hx0 := hx
  obtain ⟨⟨x0, x1, x2, x3, x4, x5, x6, x7⟩, ⟨xa, xb⟩, hQ0, ⟨n7, n9, n11⟩⟩ := hx
  have n9' := n9
  obtain ⟨-, -, -, o9⟩ := n9'
  have y3 := zNetB.to hS zNt_154
  have y3' := y3
  obtain ⟨-, -, -, o3⟩ := y3'
  have hE2 : E ≤ 120 := by rw [← hE]; exact tX_120 hn2 hw
  have hA' := hA
  obtain ⟨-, -, -, -, -, hl⟩ := hA'
  apply r_Reader_begin hO
  unfold B_Reader_begin
  ((with_reducible refine i_Seq (i_sCall (i_as1 (i_FR (i_A0 ?_))))); (with_reducible refine i_fldR (by assumption) ?_); (with_reducible refine i_as1 (i_FR (i_A1 ?_))); (with_reducible refine i_fldR (by assumption) ?_); (with_reducible refine i_as0 ?_); (with_reducible refine i_recv0 (by assumption) ?_))
  refine s_Net_become hO y3 n11 hl (fun M1 f1 h1 => ⟨rfl, ?_⟩)
  have fr1 : ∀ b j, ¬ (((154 : Nat) : Int) ≤ b ∧ b ≤ ((155 : Nat) : Int)) → M1 b j = M b j := fun b j q => by rw [f1 b (by simp <;> omega)]
  have hA1 : zTR M1 x n A := hA.to (fun b j a1 a2 => fr1 b j (by omega))
  clear f1 hl hA
  ((with_reducible refine i_Seq (i_sF (i_A0 (i_MM (i_I (i_Call (i_as1 (i_FR (i_A1 ?_))))))))); (with_reducible refine i_fldR (by assumption) ?_); (with_reducible refine i_as0 ?_); (with_reducible refine i_recv0 (by assumption) ?_))
  refine zTR.pairs hO hx0 hA1 hn2 hw ⟨_, rfl, ?_⟩
  rw [hE]
  ((with_reducible refine i_fld (by assumption) ?_); (with_reducible refine i_Seq (i_Blk (i_Seq (i_Set (i_I ?_))))); (rw [zmn4c, show min 120 E = E by omega]); simp only [w_set0, w_set1, w_setn0, w_setn1])
  refine w_ForN E (fun k ρ M' => (∃ l, ρ = ((148 : Nat) : Int) :: ((x : Nat) : Int) :: ((k : Nat) : Int) :: l) ∧ (∀ b j, ¬ (b = ((148 : Nat) : Int) ∧ j = 6 ∨ b = ((153 : Nat) : Int)) → M' b j = M1 b j) ∧ M' ((148 : Nat) : Int) ((6 : Nat) : Int) = ((E : Nat) : Int) ∧ ∀ j : Nat, j < k → M' ((153 : Nat) : Int) ((j : Nat) : Int) = zpk (tX A) ((j : Nat) : Int) 256) ⟨⟨_, rfl⟩, fun b j q => by rw [zg_o _ _ (by omega)], zg_s _ _ _ _ _, fun j h => absurd h (Nat.not_lt_zero _)⟩ ?_ ?_
  · rintro k ρ M2 X hk1 ⟨⟨l, rfl⟩, f2, w2, l2⟩ hX
    have hA2 : zTR M2 x n A := hA1.to (fun b j a1 a2 => f2 b j (by omega))
    ((with_reducible refine i_turn (i_cI_lt (i_L2 (i_F (i_A0 ?_))))); (with_reducible refine i_fld (by assumption) ?_); (rw [w2]); (with_reducible refine i_t (by omega) ?_); (with_reducible refine i_sIA (i_FR (i_A0 ?_))); (with_reducible refine i_fldR (by assumption) ?_); (with_reducible refine i_L2 (i_Call (i_as1 (i_FR (i_A1 ?_))))); (with_reducible refine i_fldR (by assumption) ?_); (with_reducible refine i_as1 (i_L2 (i_as0 ?_))); (with_reducible refine i_recv0 (by assumption) ?_); (refine zTR.pairAt hO hx0 hA2 hn2 hw (by unfold zin32; omega) ⟨_, rfl, ?_⟩); (with_reducible refine i_in (by assumption) (by omega) (by omega) ?_); (with_reducible refine i_up (i_Inc2 ?_)); rw [zx_inc (by omega)]; simp only [w_set0, w_set1, w_setn0, w_setn1])
    refine hX _ _ ⟨⟨l, rfl⟩, fun b j q => by rw [zg_o _ _ (by omega)]; exact f2 b j q, by rw [zg_n _ _ _ (by omega)]; exact w2, fun j hj => ?_⟩
    by_cases e : j = k
    · subst e; exact zg_s _ _ _ _ _
    · rw [zg_m _ _ _ _ _ (by omega)]; exact l2 j (by omega)
  · rintro ρ M2 X ⟨⟨l, rfl⟩, f2, w2, l2⟩
    have hk2 := hk M2 (fun b j q => by rw [f2 b j (by omega)]; exact fr1 b j (by omega)) (h1.to (fun b j a1 a2 => f2 b j (by omega))) ⟨w2, l2⟩
    by_cases e : E ≤ 9
    · rw [decide_eq_true e] at hk2
      ((with_reducible refine i_turn (i_cI_lt (i_L2 (i_F (i_A0 ?_))))); (with_reducible refine i_fld (by assumption) ?_); (rw [w2]); (with_reducible refine i_f (by omega) ?_); (with_reducible refine i_RetZ (i_eIf (i_cI_le (i_F (i_A0 ?_))))); (with_reducible refine i_fld (by assumption) ?_); (with_reducible refine i_I ?_); (rw [w2]); (with_reducible refine i_t (by omega) ?_); (with_reducible refine i_I ?_); (with_reducible refine i_z (Or.inr rfl) ?_))
      exact hk2
    · rw [decide_eq_false e] at hk2
      ((with_reducible refine i_turn (i_cI_lt (i_L2 (i_F (i_A0 ?_))))); (with_reducible refine i_fld (by assumption) ?_); (rw [w2]); (with_reducible refine i_f (by omega) ?_); (with_reducible refine i_RetZ (i_eIf (i_cI_le (i_F (i_A0 ?_))))); (with_reducible refine i_fld (by assumption) ?_); (with_reducible refine i_I ?_); (rw [w2]); (with_reducible refine i_f (by omega) ?_); (with_reducible refine i_I ?_); (with_reducible refine i_z (Or.inl rfl) ?_))
      exact hk2
theorem c_tellOnly {O : zOm} (hO : zWld O) (hS : zS O = zmS zC0) {x n s E : Nat} {A : zTl} {M : zMem} {K : Option zV → zMem → Prop} (hx : zTeC (zS O) x) (hx7 : 165 < x) (hA : zTR M x n A) (hn2 : n ≤ 16) (hw : zTw n A) (hs : s < 65536) (hL : cLs M (tX A) E) (hE : zcnt (tX A) 256 = E) (hE9 : E ≤ 9)
    (hk : ∀ M', (∀ b j, ¬ b = ((x + 12 : Nat) : Int) → M' b j = M b j) → zTR M' x n (zTs A s) → K none M') : zR O F_Reader_tellOnly [(2, ((148 : Nat) : Int)), (2, ((x : Nat) : Int)), (0, ((s : Nat) : Int))] M K := by
  obtain ⟨⟨s0, s1, s2, s3, s4, s5, s6, s7, s8⟩, ⟨t1, t2, t3, t4, t5⟩⟩ := zO148_ok hS
  have hx0 := hx
  obtain ⟨⟨x0, x1, x2, x3, x4, x5, x6, x7⟩, ⟨xa, xb⟩, hQ0, ⟨n7, n9, n11⟩⟩ := hx
  obtain ⟨hL0, hL1⟩ := hL
  have hsm := za_mk hs
  rw [← zTp_E hn2 hw s hE] at hk
  apply r_Reader_tellOnly hO
  unfold B_Reader_tellOnly
  ((with_reducible refine i_Seq (i_Blk (i_Seq (i_Set (i_I ?_))))); simp only [w_set0, w_set1, w_setn0, w_setn1])
  refine w_ForN E (fun k ρ M' => (∃ l, ρ = ((148 : Nat) : Int) :: ((x : Nat) : Int) :: ((s : Nat) : Int) :: ((k : Nat) : Int) :: l) ∧ (∀ b j, ¬ b = ((x + 12 : Nat) : Int) → M' b j = M b j) ∧ zTR M' x n (zTp A s k)) ⟨⟨_, rfl⟩, fun _ _ _ => rfl, by rw [zTp_0]; exact hA⟩ ?_ ?_
  · rintro k ρ M1 X hk1 ⟨⟨l, rfl⟩, f1, h1⟩ hX
    have e0 : M1 ((148 : Nat) : Int) ((6 : Nat) : Int) = ((E : Nat) : Int) := (f1 _ _ (by omega)).trans hL0
    obtain ⟨c, c1, c2, c3⟩ := zkth (s := tX A) (n := 256) (k := k) (by rw [hE]; exact hk1)
    obtain ⟨c4, c5, -⟩ := tX_in hn2 hw c2
    have e1 : M1 ((153 : Nat) : Int) ((k : Nat) : Int) = ((c : Nat) : Int) := (f1 _ _ (by omega)).trans ((hL1 k hk1).trans (zpk_some c1 c2 (by rw [c3])))
    have hyd := yand_1 (fun i => s.testBit i) (k := k) (by omega)
    rw [← hsm] at hyd
    have hsu := zTp_su hn2 hw s c1 c2 c3
    have hx2 : tX (zTp A s k) c = true := by rw [zTp_X]; exact c2
    clear hE hk
    by_cases w : s.testBit k = true
    · rw [if_pos w] at hyd hsu
      ((with_reducible refine i_turn (i_cI_lt (i_L3 (i_F (i_A0 ?_))))); (with_reducible refine i_fld (by assumption) ?_); (rw [e0]); (with_reducible refine i_t (by omega) ?_); (with_reducible refine i_sCall (i_as1 (i_A1 (i_as1 (i_IA (i_FR (i_A0 ?_))))))); (with_reducible refine i_fldR (by assumption) ?_); (with_reducible refine i_L3 ?_); (with_reducible refine i_in (by assumption) (by omega) (by omega) ?_); (with_reducible refine i_as1 (i_eIf (i_cZ_eq (i_And (i_Shr (i_L2 (i_L3 (i_I ?_)))))))); (rw [e1]); (rw [hyd]); (with_reducible refine i_f (by omega) ?_); (with_reducible refine i_I (i_as0 ?_)); (with_reducible refine i_recv0 (by assumption) ?_))
      refine c_setLeft hO (out := false) hx0 h1 c4 c1 hx2 (fun M2 f2 h2 => ⟨rfl, ?_⟩)
      rw [if_neg (by decide), hsu] at h2
      ((with_reducible refine i_up (i_Inc3 ?_)); rw [zx_inc (by omega)]; simp only [w_set0, w_set1, w_setn0, w_setn1])
      exact hX _ _ ⟨⟨l, rfl⟩, fun b j q => by rw [f2 b j q, f1 b j q], h2⟩
    · rw [if_neg w] at hyd hsu
      ((with_reducible refine i_turn (i_cI_lt (i_L3 (i_F (i_A0 ?_))))); (with_reducible refine i_fld (by assumption) ?_); (rw [e0]); (with_reducible refine i_t (by omega) ?_); (with_reducible refine i_sCall (i_as1 (i_A1 (i_as1 (i_IA (i_FR (i_A0 ?_))))))); (with_reducible refine i_fldR (by assumption) ?_); (with_reducible refine i_L3 ?_); (with_reducible refine i_in (by assumption) (by omega) (by omega) ?_); (with_reducible refine i_as1 (i_eIf (i_cZ_eq (i_And (i_Shr (i_L2 (i_L3 (i_I ?_)))))))); (rw [e1]); (rw [hyd]); simp only [w_set0, w_set1, w_setn0, w_setn1]; (with_reducible refine i_t trivial ?_); (with_reducible refine i_I (i_as0 ?_)); (with_reducible refine i_recv0 (by assumption) ?_))
      refine c_setLeft hO (out := true) hx0 h1 c4 c1 hx2 (fun M2 f2 h2 => ⟨rfl, ?_⟩)
      rw [if_pos rfl, hsu] at h2
      ((with_reducible refine i_up (i_Inc3 ?_)); rw [zx_inc (by omega)]; simp only [w_set0, w_set1, w_setn0, w_setn1])
      exact hX _ _ ⟨⟨l, rfl⟩, fun b j q => by rw [f2 b j q, f1 b j q], h2⟩
  · rintro ρ M1 X ⟨⟨l, rfl⟩, f1, h1⟩
    have e0 : M1 ((148 : Nat) : Int) ((6 : Nat) : Int) = ((E : Nat) : Int) := (f1 _ _ (by omega)).trans hL0
    ((with_reducible refine i_turn (i_cI_lt (i_L3 (i_F (i_A0 ?_))))); (with_reducible refine i_fld (by assumption) ?_); (rw [e0]); (with_reducible refine i_f (by omega) ?_); (with_reducible refine i_RetV ?_))
    exact hk M1 f1 h1
theorem c_serveBest {O : zOm} (hO : zWld O) (hS : zS O = zmS zC0) {x n E : Nat} {len : Int} {A : zTl} {Q : zQl} {M : zMem} {K : Option zV → zMem → Prop} (hx : zTeC (zS O) x) (hx7 : 165 < x) (hA : zTR M x n A) (hn1 : 0 < n) (hn2 : n ≤ 16) (hw : zTw n A) (hq : cQs M Q) (hQ : zQs n Q) (hC : cSo M) (hL : cLs M (tX A) E) (hE : zcnt (tX A) 256 = E) (hE9 : E ≤ 9) (hB : zNR M 154 n (fun p q => decide (tvs A p q = 2)))
    (hk : ∀ M', (∀ b j, ¬ (b = ((134 : Nat) : Int) ∧ (j = 6 ∨ j = 7) ∨ ((135 : Nat) : Int) ≤ b ∧ b ≤ ((146 : Nat) : Int) ∨ ((x + 11 : Nat) : Int) ≤ b ∧ b ≤ ((x + 12 : Nat) : Int)) → M' b j = M b j) → cSo M' → zTR M' x n (if (zsv n A Q len (2 ^ E)).1 = 0 then A else zTs A ((zsv n A Q len (2 ^ E)).1 - 1)) → K (some (0, if (zsv n A Q len (2 ^ E)).1 = 0 then -2 else (((zsv n A Q len (2 ^ E)).2.1 : Nat) : Int))) M') : zR O F_Reader_serveBest [(2, ((148 : Nat) : Int)), (2, ((x : Nat) : Int)), (2, ((134 : Nat) : Int)), (0, len)] M K := by
  obtain ⟨⟨s0, s1, s2, s3, s4, s5, s6, s7, s8⟩, ⟨t1, t2, t3, t4, t5⟩⟩ := zO148_ok hS
  have hx0 := hx
  obtain ⟨⟨x0, x1, x2, x3, x4, x5, x6, x7⟩, ⟨xa, xb⟩, hQ0, ⟨n7, n9, n11⟩⟩ := hx
  have y3 := zNetB.to hS zNt_154
  obtain ⟨⟨o134, -⟩, -⟩ := zO134_ok hS
  have n11' := n11
  obtain ⟨-, -, -, o11⟩ := n11'
  have hpw : 2 ^ E ≤ 2 ^ 9 := Nat.pow_le_pow_right (n := 2) (by decide) hE9
  have hpw2 : (2 : Nat) ^ 9 = 512 := rfl
  have hb := fun s => zsv_b hn2 hw hQ len s
  have hL0 := hL.1
  apply r_Reader_serveBest hO
  unfold B_Reader_serveBest
  ((with_reducible refine i_Seq (i_Set (i_I (i_Seq (i_Set (i_I (i_Seq (i_Set (i_I (i_Seq (i_Blk (i_Seq (i_Set (i_I ?_)))))))))))))); simp only [w_set0, w_set1, w_setn0, w_setn1])
  refine w_ForN (2 ^ E) (fun s ρ M' => (∃ l, ρ = ((148 : Nat) : Int) :: ((x : Nat) : Int) :: ((134 : Nat) : Int) :: len :: ((((zsv n A Q len s).1 : Nat) : Int) - 1) :: (((zsv n A Q len s).2.1 : Nat) : Int) :: (((zsv n A Q len s).2.2 : Nat) : Int) :: ((s : Nat) : Int) :: l) ∧ (∀ b j, ¬ (b = ((134 : Nat) : Int) ∧ (j = 6 ∨ j = 7) ∨ ((135 : Nat) : Int) ≤ b ∧ b ≤ ((146 : Nat) : Int) ∨ ((x + 11 : Nat) : Int) ≤ b ∧ b ≤ ((x + 12 : Nat) : Int)) → M' b j = M b j) ∧ cSo M' ∧ ∃ v, zTR M' x n (zTv A v) ∧ zTw n (zTv A v) ∧ ∀ a b, v a b = 0 ↔ tv A a b = 0) ⟨⟨_, rfl⟩, fun _ _ _ => rfl, hC, tv A, hA, hw, fun _ _ => Iff.rfl⟩ ?_ ?_
  · rintro s ρ M1 X hs ⟨⟨l, rfl⟩, f1', hC1, v, hAv, hwv, hv⟩ hX
    have hbs := hb s
    have hln := tLen_b hn2 (zTs_w hw s)
    have hhm := zhm_B (A := zTs A s) hn2 hQ
    have e0 : M1 ((148 : Nat) : Int) ((6 : Nat) : Int) = ((E : Nat) : Int) := (f1' _ _ (by omega)).trans hL0
    have hL1 : cLs M1 (tX (zTv A v)) E := by rw [zTv_X hv]; exact hL.to (fun b j q => f1' b j (by omega))
    have hEv : zcnt (tX (zTv A v)) 256 = E := by rw [zTv_X hv]; exact hE
    have hto := fun (K' : Option zV → zMem → Prop) (z : ∀ M', (∀ b j, ¬ b = ((x + 12 : Nat) : Int) → M' b j = M1 b j) → zTR M' x n (zTs (zTv A v) s) → K' none M') => c_tellOnly hO hS hx0 hx7 hAv hn2 hwv (s := s) (by omega) hL1 hEv hE9 (K := K') z
    rw [zTv_s hv] at hto
    rw [zsv_su] at hX
    clear hE hEv hk
    ((with_reducible refine i_turn (i_cI_lt (i_L7 (i_Shl (i_I (i_F (i_A0 ?_))))))); (with_reducible refine i_fld (by assumption) ?_); (rw [e0]); (rw [yshl_1 (show E < 31 by omega)]); (with_reducible refine i_t (by omega) ?_); (with_reducible refine i_Blk (i_Seq (i_sCall (i_as1 (i_A0 (i_as1 (i_A1 (i_as1 (i_L7 (i_as0 ?_)))))))))); (with_reducible refine i_recv0 (by assumption) ?_))
    refine hto _ (fun M2 f2 h2 => ⟨rfl, ?_⟩)
    clear hto
    ((with_reducible refine i_Seq (i_Set (i_Call (i_as1 (i_A2 (i_as1 (i_A1 (i_as0 ?_)))))))); (with_reducible refine i_recv0 (by assumption) ?_); simp only [w_set0, w_set1, w_setn0, w_setn1])
    refine c_measure hO hS hx0 (by omega) h2 hn2 (zTs_w hw s) (hC1.to (fun b j q => f2 b j (by omega))) (fun M3 f3 hT3 => ⟨_, rfl, ?_⟩)
    have h3 : zTR M3 x n (zTs A s) := h2.to (fun b j a1 a2 => f3 b j (by omega))
    have f31 : ∀ b j, ¬ (b = ((134 : Nat) : Int) ∧ (j = 6 ∨ j = 7) ∨ ((135 : Nat) : Int) ≤ b ∧ b ≤ ((146 : Nat) : Int) ∨ ((x + 11 : Nat) : Int) ≤ b ∧ b ≤ ((x + 12 : Nat) : Int)) → M3 b j = M b j := fun b j q => by rw [f3 b j (by omega), f2 b j (by omega), f1' b j q]
    have hnext : ∀ (l : zLoc) (M' : zMem) (x' : Int) (y z : Nat), (∃ u, x' = ((u : Nat) : Int) - 1 ∧ (u, y, z) = (if ((tLen n (zTs A s) : Nat) : Int) ≤ len ∧ ((zsv n A Q len s).1 = 0 ∨ zhm n (zTs A s) Q < (zsv n A Q len s).2.1 ∨ zhm n (zTs A s) Q = (zsv n A Q len s).2.1 ∧ tLen n (zTs A s) < (zsv n A Q len s).2.2) then (s + 1, zhm n (zTs A s) Q, tLen n (zTs A s)) else zsv n A Q len s)) → (∀ b j, ¬ (b = ((134 : Nat) : Int) ∧ (j = 6 ∨ j = 7) ∨ ((135 : Nat) : Int) ≤ b ∧ b ≤ ((146 : Nat) : Int) ∨ ((x + 11 : Nat) : Int) ≤ b ∧ b ≤ ((x + 12 : Nat) : Int)) → M' b j = M b j) → cSo M' → zTR M' x n (zTs A s) → X (((148 : Nat) : Int) :: ((x : Nat) : Int) :: ((134 : Nat) : Int) :: len :: x' :: ((y : Nat) : Int) :: ((z : Nat) : Int) :: ((s + 1 : Nat) : Int) :: l) M' := fun l M' x' y z ⟨u, hu, he⟩ hf hc hr => by
      subst hu
      refine hX _ _ ⟨⟨l, by rw [← he]⟩, hf, hc, fun a b => tv (zTs A s) a b, hr, zTs_w hw s, fun a b => zTs_0 A s a b⟩
    clear hX
    generalize tLen n (zTs A s) = w at hln hnext ⊢
    by_cases w1 : ((w : Nat) : Int) ≤ len
    · ((with_reducible refine i_If (i_cI_le ?_)); rw [w_setT]; (with_reducible refine i_L8 (i_L3 ?_)); (with_reducible refine i_t (by omega) ?_); (with_reducible refine i_Blk (i_Seq (i_Set (i_Call (i_as1 (i_A0 (i_as1 (i_A1 (i_as1 (i_A2 (i_as0 ?_))))))))))); (with_reducible refine i_recv0 (by assumption) ?_); simp only [w_set0, w_set1, w_setn0, w_setn1])
      refine c_harmBy hO hS hx0 hx7 h3.1.1 hn1 hn2 (zTs_w hw s) (hq.to (fun b j q => f31 b j (by omega))) hQ hT3 (fun M4 f4 hT4 => ⟨_, rfl, ?_⟩)
      have h4 : zTR M4 x n (zTs A s) := h3.to (fun b j a1 a2 => f4 b j (by omega))
      have f41 : ∀ b j, ¬ (b = ((134 : Nat) : Int) ∧ (j = 6 ∨ j = 7) ∨ ((135 : Nat) : Int) ≤ b ∧ b ≤ ((146 : Nat) : Int) ∨ ((x + 11 : Nat) : Int) ≤ b ∧ b ≤ ((x + 12 : Nat) : Int)) → M4 b j = M b j := fun b j q => by rw [f4 b j (by omega), f31 b j q]
      have hC4 := hT4.so
      generalize zhm n (zTs A s) Q = h at hhm hnext ⊢
      generalize zsv n A Q len s = st at hbs hnext ⊢
      obtain ⟨u, bh, bl⟩ := st
      dsimp only at hbs hnext ⊢
      by_cases e0 : u = 0
      · subst e0
        have e : ((w : Nat) : Int) ≤ len ∧ ((0 : Nat) = 0 ∨ h < bh ∨ h = bh ∧ w < bl) := ⟨w1, Or.inl rfl⟩
        ((with_reducible refine i_If (i_cOr (i_cOr (i_cI_eq (i_L4 (i_I ?_)))))); rw [w_setT]; (with_reducible refine i_t (by omega) ?_); (with_reducible refine i_Seq (i_Set (i_L7 (i_Seq (i_Set ?_))))); simp only [w_set0, w_set1, w_setn0, w_setn1]; (with_reducible refine i_L9 (i_Set ?_)); simp only [w_set0, w_set1, w_setn0, w_setn1]; (with_reducible refine i_L8 (i_up ?_)); simp only [w_set0, w_set1, w_setn0, w_setn1]; (with_reducible refine i_Inc7 ?_); rw [zx_inc (by omega)]; simp only [w_set0, w_set1, w_setn0, w_setn1])
        exact hnext _ _ _ _ _ ⟨s + 1, by omega, by rw [if_pos e]⟩ f41 hC4 h4
      · by_cases e1 : h < bh
        · have e : ((w : Nat) : Int) ≤ len ∧ (u = 0 ∨ h < bh ∨ h = bh ∧ w < bl) := ⟨w1, Or.inr (Or.inl e1)⟩
          ((with_reducible refine i_If (i_cOr (i_cOr (i_cI_eq (i_L4 (i_I ?_)))))); rw [w_setT]; (with_reducible refine i_f (by omega) ?_); (with_reducible refine i_cI_lt (i_L9 (i_L5 ?_))); (with_reducible refine i_t (by omega) ?_); (with_reducible refine i_Seq (i_Set (i_L7 (i_Seq (i_Set ?_))))); simp only [w_set0, w_set1, w_setn0, w_setn1]; (with_reducible refine i_L9 (i_Set ?_)); simp only [w_set0, w_set1, w_setn0, w_setn1]; (with_reducible refine i_L8 (i_up ?_)); simp only [w_set0, w_set1, w_setn0, w_setn1]; (with_reducible refine i_Inc7 ?_); rw [zx_inc (by omega)]; simp only [w_set0, w_set1, w_setn0, w_setn1])
          exact hnext _ _ _ _ _ ⟨s + 1, by omega, by rw [if_pos e]⟩ f41 hC4 h4
        · by_cases e2 : h = bh
          · by_cases e3 : w < bl
            · have e : ((w : Nat) : Int) ≤ len ∧ (u = 0 ∨ h < bh ∨ h = bh ∧ w < bl) := ⟨w1, Or.inr (Or.inr ⟨e2, e3⟩)⟩
              ((with_reducible refine i_If (i_cOr (i_cOr (i_cI_eq (i_L4 (i_I ?_)))))); rw [w_setT]; (with_reducible refine i_f (by omega) ?_); (with_reducible refine i_cI_lt (i_L9 (i_L5 ?_))); (with_reducible refine i_f (by omega) ?_); (with_reducible refine i_cAnd (i_cI_eq (i_L9 (i_L5 ?_)))); (with_reducible refine i_t (by omega) ?_); (with_reducible refine i_cI_lt (i_L8 (i_L6 ?_))); (with_reducible refine i_t (by omega) ?_); (with_reducible refine i_Seq (i_Set (i_L7 (i_Seq (i_Set ?_))))); simp only [w_set0, w_set1, w_setn0, w_setn1]; (with_reducible refine i_L9 (i_Set ?_)); simp only [w_set0, w_set1, w_setn0, w_setn1]; (with_reducible refine i_L8 (i_up ?_)); simp only [w_set0, w_set1, w_setn0, w_setn1]; (with_reducible refine i_Inc7 ?_); rw [zx_inc (by omega)]; simp only [w_set0, w_set1, w_setn0, w_setn1])
              exact hnext _ _ _ _ _ ⟨s + 1, by omega, by rw [if_pos e]⟩ f41 hC4 h4
            · have e : ¬ (((w : Nat) : Int) ≤ len ∧ (u = 0 ∨ h < bh ∨ h = bh ∧ w < bl)) := by omega
              ((with_reducible refine i_If (i_cOr (i_cOr (i_cI_eq (i_L4 (i_I ?_)))))); rw [w_setT]; (with_reducible refine i_f (by omega) ?_); (with_reducible refine i_cI_lt (i_L9 (i_L5 ?_))); (with_reducible refine i_f (by omega) ?_); (with_reducible refine i_cAnd (i_cI_eq (i_L9 (i_L5 ?_)))); (with_reducible refine i_t (by omega) ?_); (with_reducible refine i_cI_lt (i_L8 (i_L6 ?_))); (with_reducible refine i_f (by omega) ?_); (with_reducible refine i_up (i_Inc7 ?_)); rw [zx_inc (by omega)]; simp only [w_set0, w_set1, w_setn0, w_setn1])
              exact hnext _ _ _ _ _ ⟨u, rfl, by rw [if_neg e]⟩ f41 hC4 h4
          · have e : ¬ (((w : Nat) : Int) ≤ len ∧ (u = 0 ∨ h < bh ∨ h = bh ∧ w < bl)) := by omega
            ((with_reducible refine i_If (i_cOr (i_cOr (i_cI_eq (i_L4 (i_I ?_)))))); rw [w_setT]; (with_reducible refine i_f (by omega) ?_); (with_reducible refine i_cI_lt (i_L9 (i_L5 ?_))); (with_reducible refine i_f (by omega) ?_); (with_reducible refine i_cAnd (i_cI_eq (i_L9 (i_L5 ?_)))); (with_reducible refine i_f (by omega) ?_); (with_reducible refine i_up (i_Inc7 ?_)); rw [zx_inc (by omega)]; simp only [w_set0, w_set1, w_setn0, w_setn1])
            exact hnext _ _ _ _ _ ⟨u, rfl, by rw [if_neg e]⟩ f41 hC4 h4
    · have e : ¬ (((w : Nat) : Int) ≤ len ∧ ((zsv n A Q len s).1 = 0 ∨ zhm n (zTs A s) Q < (zsv n A Q len s).2.1 ∨ zhm n (zTs A s) Q = (zsv n A Q len s).2.1 ∧ w < (zsv n A Q len s).2.2)) := fun z => w1 z.1
      ((with_reducible refine i_If (i_cI_le ?_)); rw [w_setT]; (with_reducible refine i_L8 (i_L3 ?_)); (with_reducible refine i_f (by omega) ?_); (with_reducible refine i_up (i_Inc7 ?_)); rw [zx_inc (by omega)]; simp only [w_set0, w_set1, w_setn0, w_setn1])
      exact hnext _ _ _ _ _ ⟨_, rfl, by rw [if_neg e]⟩ f31 hT3.so h3
  · rintro ρ M1 X ⟨⟨l, rfl⟩, f1', hC1, v, hAv, hwv, hv⟩
    have hbs := hb (2 ^ E)
    have e0 : M1 ((148 : Nat) : Int) ((6 : Nat) : Int) = ((E : Nat) : Int) := (f1' _ _ (by omega)).trans hL0
    have hL1 : cLs M1 (tX (zTv A v)) E := by rw [zTv_X hv]; exact hL.to (fun b j q => f1' b j (by omega))
    have hEv : zcnt (tX (zTv A v)) 256 = E := by rw [zTv_X hv]; exact hE
    have hto := fun (s : Nat) (hs : s < 65536) (K' : Option zV → zMem → Prop) (z : ∀ M', (∀ b j, ¬ b = ((x + 12 : Nat) : Int) → M' b j = M1 b j) → zTR M' x n (zTs (zTv A v) s) → K' none M') => c_tellOnly hO hS hx0 hx7 hAv hn2 hwv (s := s) hs hL1 hEv hE9 (K := K') z
    clear hE hEv
    generalize zsv n A Q len (2 ^ E) = st at hbs hk ⊢
    obtain ⟨u, bh, bl⟩ := st
    dsimp only at hbs hk ⊢
    by_cases e1 : u = 0
    · subst e1
      rw [if_pos rfl, if_pos rfl] at hk
      ((with_reducible refine i_turn (i_cI_lt (i_L7 (i_Shl (i_I (i_F (i_A0 ?_))))))); (with_reducible refine i_fld (by assumption) ?_); (rw [e0]); (rw [yshl_1 (show E < 31 by omega)]); (with_reducible refine i_f (by omega) ?_); (with_reducible refine i_Seq (i_If (i_cI_eq (i_L4 (i_I ?_))))); (with_reducible refine i_t (by omega) ?_); (with_reducible refine i_Seq (i_sCall (i_as1 (i_FR (i_A1 ?_))))); (with_reducible refine i_fldR (by assumption) ?_); (with_reducible refine i_as1 (i_FR (i_A0 ?_))); (with_reducible refine i_fldR (by assumption) ?_); (with_reducible refine i_as0 ?_); (with_reducible refine i_recv0 (by assumption) ?_))
      refine s_Net_become hO n11 y3 (hB.to (fun b j a1 a2 => f1' b j (by omega))) (fun M2 f2 h2 => ⟨rfl, ?_⟩)
      have fr2 : ∀ b j, ¬ (((x + 11 : Nat) : Int) ≤ b ∧ b ≤ ((x + 12 : Nat) : Int)) → M2 b j = M1 b j := fun b j q => by rw [f2 b (by simp <;> omega)]
      (with_reducible refine i_RetI (i_I ?_))
      exact hk M2 (fun b j q => by rw [fr2 b j (by omega), f1' b j q]) (hC1.to (fun b j q => fr2 b j (by omega))) (zTR.back hAv hv fr2 h2)
    · rw [if_neg e1, if_neg e1] at hk
      rw [show (((u : Nat) : Int) - 1 : Int) = ((u - 1 : Nat) : Int) by omega]
      ((with_reducible refine i_turn (i_cI_lt (i_L7 (i_Shl (i_I (i_F (i_A0 ?_))))))); (with_reducible refine i_fld (by assumption) ?_); (rw [e0]); (rw [yshl_1 (show E < 31 by omega)]); (with_reducible refine i_f (by omega) ?_); (with_reducible refine i_Seq (i_If (i_cI_eq (i_L4 (i_I ?_))))); (with_reducible refine i_f (by omega) ?_); (with_reducible refine i_Seq (i_sCall (i_as1 (i_A0 (i_as1 (i_A1 (i_as1 (i_L4 (i_as0 ?_))))))))); (with_reducible refine i_recv0 (by assumption) ?_))
      refine hto (u - 1) (by omega) _ (fun M2 f2 h2 => ⟨rfl, ?_⟩)
      rw [zTv_s hv] at h2
      (with_reducible refine i_RetI (i_L5 ?_))
      exact hk M2 (fun b j q => by rw [f2 b j (by omega), f1' b j q]) (hC1.to (fun b j q => f2 b j (by omega))) h2
