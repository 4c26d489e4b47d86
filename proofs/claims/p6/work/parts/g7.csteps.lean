section
-- part g7.csteps.lean.txt
/-! ===== served step by step: the class ===== -/
theorem zTR.fore {M M' : zMem} {x n : Nat} {A : zTl} {v : Nat → Nat → Nat} (h : zTR M x n A) (hv : ∀ a b, v a b = 0 ↔ tv A a b = 0) (hf : ∀ b j, ¬ (((x + 11 : Nat) : Int) ≤ b ∧ b ≤ ((x + 12 : Nat) : Int)) → M' b j = M b j) (hl : zNR M' (x + 11) n (fun p q => decide (tvs (zTv A v) p q = 2))) : zTR M' x n (zTv A v) := by
  obtain ⟨h1, h2, h3, h4, h5, h6⟩ := h
  refine ⟨zPR.fr h1 (fun b j a1 a2 => hf b j (by omega)), fun b k hb hk2 => by rw [hf _ _ (by omega)]; exact h2 b k hb hk2, ⟨h3.1.to (fun j => hf _ _ (by omega)) (fun j => hf _ _ (by omega)), h3.2⟩, h4.to (fun b j a1 a2 => hf b j (by omega)), (h5.to (fun b j a1 a2 => hf b j (by omega))).ext (fun p q hp hq => ?_), hl⟩
  show decide ((if p < q then tv A p q else tv A q p) ≠ 0) = decide ((if p < q then v p q else v q p) ≠ 0)
  refine decide_eq_decide.mpr (not_congr ?_)
  split
  · exact (hv _ _).symm
  · exact (hv _ _).symm
theorem tvs_0 (A : zTl) (p q : Nat) : decide (tvs A p q ≠ 0) = decide (tvs (zTs A 0) p q = 2) := by
  show decide ((if p < q then tv A p q else tv A q p) ≠ 0) = decide ((if p < q then tv (zTs A 0) p q else tv (zTs A 0) q p) = 2)
  have key : ∀ a b, decide (tv A a b ≠ 0) = decide (tv (zTs A 0) a b = 2) := fun a b => by
    rw [zTs_z]
    by_cases e : tv A a b = 0
    · rw [if_pos e, e]; rfl
    · rw [if_neg e, decide_eq_true e]; rfl
  split
  · exact key _ _
  · exact key _ _
theorem zst_eq (n : Nat) (B : zTl) (Q : zQl) (len : Int) (h : Nat) {a b : Nat} (hab : a ≤ b) (hz : zcnt (tX B) a = zcnt (tX B) b) : zst n B Q len h a = zst n B Q len h b := by
  induction b with
  | zero =>
    have : a = 0 := by omega
    rw [this]
  | succ b ih =>
    by_cases e : a = b + 1
    · rw [e]
    · have ha : a ≤ b := by omega
      have h1 := zcnt_mono (tX B) ha
      have h2 := zcnt_su (tX B) b
      by_cases z : tX B b = true
      · rw [if_pos z] at h2; omega
      · rw [if_neg z] at h2
        rw [ih ha (by omega), zst_su, if_neg (fun y => z (show decide (tv B (b / 16) (b % 16) ≠ 0) = true from decide_eq_true (by rw [y.1]; decide)))]
theorem zst_eq' (n : Nat) (B : zTl) (Q : zQl) (len : Int) (h : Nat) {a b : Nat} (hz : zcnt (tX B) a = zcnt (tX B) b) : zst n B Q len h a = zst n B Q len h b := (Nat.le_total a b).elim (fun y => zst_eq n B Q len h y hz) (fun y => (zst_eq n B Q len h y hz.symm).symm)
theorem zcnt_lt3 {W : Nat → Bool} {c N : Nat} (h : W c = true) (hc : c < N) : zcnt W c < zcnt W N := by
  have h1 := zcnt_su W c
  rw [if_pos h] at h1
  have h2 := zcnt_mono W (show c + 1 ≤ N by omega)
  omega
theorem c_serveSteps {O : zOm} (hO : zWld O) (hS : zS O = zmS zC0) {x n E : Nat} {len : Int} {A : zTl} {Q : zQl} {M : zMem} {K : Option zV → zMem → Prop} (hx : zTeC (zS O) x) (hx7 : 165 < x) (hA : zTR M x n A) (hn1 : 0 < n) (hn2 : n ≤ 16) (hw : zTw n A) (hq : cQs M Q) (hQ : zQs n Q) (hC : cSo M) (hL : cLs M (tX A) E) (hE : zcnt (tX A) 256 = E) (hB : zNR M 154 n (fun p q => decide (tvs A p q = 2)))
    (hk : ∀ M', (∀ b j, ¬ (b = ((134 : Nat) : Int) ∧ (j = 6 ∨ j = 7) ∨ ((135 : Nat) : Int) ≤ b ∧ b ≤ ((146 : Nat) : Int) ∨ ((x + 11 : Nat) : Int) ≤ b ∧ b ≤ ((x + 12 : Nat) : Int)) → M' b j = M b j) → cSo M' → zTR M' x n (if len < ((tLen n (zTs A 0) : Nat) : Int) then A else (zsw2 n A Q len).1) → K (some (0, if len < ((tLen n (zTs A 0) : Nat) : Int) then -2 else (((zsw2 n A Q len).2 : Nat) : Int))) M') : zR O F_Reader_serveSteps [(2, ((148 : Nat) : Int)), (2, ((x : Nat) : Int)), (2, ((134 : Nat) : Int)), (0, len)] M K := by
  obtain ⟨⟨s0, s1, s2, s3, s4, s5, s6, s7, s8⟩, ⟨t1, t2, t3, t4, t5⟩⟩ := zO148_ok hS
  have hx0 := hx
  obtain ⟨⟨x0, x1, x2, x3, x4, x5, x6, x7⟩, ⟨xa, xb⟩, hQ0, ⟨n7, n9, n11⟩⟩ := hx
  have y3 := zNetB.to hS zNt_154
  obtain ⟨⟨o134, -⟩, -⟩ := zO134_ok hS
  have n11' := n11
  obtain ⟨-, -, -, o11⟩ := n11'
  have hE120 : E ≤ 120 := by rw [← hE]; exact tX_120 hn2 hw
  have hw0 := zTs_w hw 0
  have hln0 := tLen_b hn2 hw0
  have hhm0 := zhm_B (A := zTs A 0) hn2 hQ
  obtain ⟨-, -, -, -, hex, -⟩ := id hA
  apply r_Reader_serveSteps hO
  unfold B_Reader_serveSteps
  ((with_reducible refine i_Seq (i_sCall (i_as1 (i_FR (i_A1 ?_))))); (with_reducible refine i_fldR (by assumption) ?_); (with_reducible refine i_as1 (i_FR (i_A1 ?_))); (with_reducible refine i_fldR (by assumption) ?_); (with_reducible refine i_as0 ?_); (with_reducible refine i_recv0 (by assumption) ?_))
  refine s_Net_become hO n11 n9 hex (fun M1 f1 h1 => ⟨rfl, ?_⟩)
  have fr1 : ∀ b j, ¬ (((x + 11 : Nat) : Int) ≤ b ∧ b ≤ ((x + 12 : Nat) : Int)) → M1 b j = M b j := fun b j q => by rw [f1 b (by simp <;> omega)]
  have hA1 : zTR M1 x n (zTs A 0) := zTR.fore hA (fun a b => zTs_0 A 0 a b) fr1 (h1.ext (fun p q _ _ => tvs_0 A p q))
  clear f1 h1 hex
  ((with_reducible refine i_Seq (i_If (i_cI_gt (i_Call (i_as1 (i_A2 (i_as1 (i_A1 (i_as0 ?_))))))))); (with_reducible refine i_recv0 (by assumption) ?_))
  refine c_measure hO hS hx0 (by omega) hA1 hn2 hw0 (hC.to (fun b j q => fr1 b j (by omega))) (fun M2 f2 hT2 => ⟨_, rfl, ?_⟩)
  have hA2 : zTR M2 x n (zTs A 0) := hA1.to (fun b j a1 a2 => f2 b j (by omega))
  have f21 : ∀ b j, ¬ (b = ((134 : Nat) : Int) ∧ (j = 6 ∨ j = 7) ∨ ((135 : Nat) : Int) ≤ b ∧ b ≤ ((146 : Nat) : Int) ∨ ((x + 11 : Nat) : Int) ≤ b ∧ b ≤ ((x + 12 : Nat) : Int)) → M2 b j = M b j := fun b j q => by rw [f2 b j (by omega), fr1 b j (by omega)]
  clear f2 fr1 hA1 hA
  by_cases w0 : len < ((tLen n (zTs A 0) : Nat) : Int)
  · rw [if_pos w0, if_pos w0] at hk
    generalize tLen n (zTs A 0) = v at hln0 w0 ⊢
    ((with_reducible refine i_L3 ?_); (with_reducible refine i_t (by omega) ?_); (with_reducible refine i_Seq (i_sCall (i_as1 (i_FR (i_A1 ?_))))); (with_reducible refine i_fldR (by assumption) ?_); (with_reducible refine i_as1 (i_FR (i_A0 ?_))); (with_reducible refine i_fldR (by assumption) ?_); (with_reducible refine i_as0 ?_); (with_reducible refine i_recv0 (by assumption) ?_))
    refine s_Net_become hO n11 y3 (hB.to (fun b j a1 a2 => f21 b j (by omega))) (fun M3 f3 h3 => ⟨rfl, ?_⟩)
    have fr3 : ∀ b j, ¬ (((x + 11 : Nat) : Int) ≤ b ∧ b ≤ ((x + 12 : Nat) : Int)) → M3 b j = M2 b j := fun b j q => by rw [f3 b (by simp <;> omega)]
    (with_reducible refine i_RetI (i_I ?_))
    exact hk M3 (fun b j q => by rw [fr3 b j (by omega), f21 b j q]) (hT2.so.to (fun b j q => fr3 b j (by omega))) (zTR.back hA2 (fun a b => zTs_0 A 0 a b) fr3 h3)
  · rw [if_neg w0, if_neg w0] at hk
    clear hB
    generalize tLen n (zTs A 0) = v at hln0 w0 ⊢
    ((with_reducible refine i_L3 ?_); (with_reducible refine i_f (by omega) ?_); (with_reducible refine i_Seq (i_Set (i_Call (i_as1 (i_A0 (i_as1 (i_A1 (i_as1 (i_A2 (i_as0 ?_)))))))))); (with_reducible refine i_recv0 (by assumption) ?_); simp only [w_set0, w_set1, w_setn0, w_setn1])
    refine c_harmBy hO hS hx0 hx7 hA2.1.1 hn1 hn2 hw0 (hq.to (fun b j q => f21 b j (by omega))) hQ hT2 (fun M3 f3 hT3 => ⟨_, rfl, ?_⟩)
    have hA3 : zTR M3 x n (zTs A 0) := hA2.to (fun b j a1 a2 => f3 b j (by omega))
    have f31 : ∀ b j, ¬ (b = ((134 : Nat) : Int) ∧ (j = 6 ∨ j = 7) ∨ ((135 : Nat) : Int) ≤ b ∧ b ≤ ((146 : Nat) : Int) ∨ ((x + 11 : Nat) : Int) ≤ b ∧ b ≤ ((x + 12 : Nat) : Int)) → M3 b j = M b j := fun b j q => by rw [f3 b j (by omega), f21 b j q]
    have hC3 := hT3.so
    clear f3 f21 hA2 hT2 hT3 hC
    obtain ⟨m, m1, m2, m3, m4⟩ := zsw2_stop n A Q len
    rw [m4] at hk
    rw [hE] at m1
    clear m4
    have hkth : ∀ k, k < E → ∃ c, c < 256 ∧ tX A c = true ∧ zcnt (tX A) c = k := fun k hk1 => zkth (s := tX A) (n := 256) (by rw [hE]; exact hk1)
    have hall := fun k => zsi_w (n := n) (Q := Q) (len := len) (s := (zTs A 0, zhm n (zTs A 0) Q)) hw0 k
    have ha3 : zTR M3 x n (zsi n Q len (zTs A 0, zhm n (zTs A 0) Q) 0).1 := hA3
    have hd0 : (((zhm n (zTs A 0) Q : Nat) : Int) : Int) = (((zsi n Q len (zTs A 0, zhm n (zTs A 0) Q) 0).2 : Nat) : Int) := rfl
    rw [hd0]
    have hbd : ∀ k, (zsi n Q len (zTs A 0, zhm n (zTs A 0) Q) k).2 ≤ 6000000 := fun k => Nat.le_trans (hall k).2.2 hhm0
    have hwk : ∀ k, zTw n (zsi n Q len (zTs A 0, zhm n (zTs A 0) Q) k).1 := fun k => (hall k).1
    have hXk : ∀ k, tX (zsi n Q len (zTs A 0, zhm n (zTs A 0) Q) k).1 = tX A := fun k => (hall k).2.1.trans (zTs_X A 0)
    clear hd0 hall hA3 hhm0 hln0 w0 v hw0
    generalize (zTs A 0, zhm n (zTs A 0) Q) = s0 at hk m2 m3 ha3 hbd hwk hXk ⊢
    have hN : ∃ N, N = min (m + 1) E := ⟨_, rfl⟩
    obtain ⟨N, hN⟩ := hN
    ((with_reducible refine i_Seq (i_Set (i_I (i_Seq (i_Blk (i_Seq (i_Set (i_I ?_)))))))); simp only [w_set0, w_set1, w_setn0, w_setn1])
    refine w_ForN N (fun k ρ M' => (∃ l, ρ = ((148 : Nat) : Int) :: ((x : Nat) : Int) :: ((134 : Nat) : Int) :: len :: (((zsi n Q len s0 k).2 : Nat) : Int) :: zbI (decide (k ≤ m)) :: ((k : Nat) : Int) :: l) ∧ (∀ b j, ¬ (b = ((134 : Nat) : Int) ∧ (j = 6 ∨ j = 7) ∨ ((135 : Nat) : Int) ≤ b ∧ b ≤ ((146 : Nat) : Int) ∨ ((x + 11 : Nat) : Int) ≤ b ∧ b ≤ ((x + 12 : Nat) : Int)) → M' b j = M b j) ∧ cSo M' ∧ zTR M' x n (zsi n Q len s0 k).1) ⟨⟨_, by rw [decide_eq_true (Nat.zero_le m)]; rfl⟩, f31, hC3, ha3⟩ ?_ ?_
    · clear ha3 f31 hC3
      rintro k ρ M4 X hkm ⟨⟨l, rfl⟩, f4, hC4, h4⟩ hX
      rw [decide_eq_true (show k ≤ m by omega)]
      have hkE : k < E := by omega
      have hwB := hwk k
      have hhB := hbd k
      have hXB := hXk k
      have hnext : decide (k + 1 ≤ m) = decide ((zst n (zsi n Q len s0 k).1 Q len (zsi n Q len s0 k).2 256).2 ≠ 0) := by
        by_cases z : k = m
        · rw [z, decide_eq_false (Nat.not_succ_le_self m), decide_eq_false (fun y : (zst n (zsi n Q len s0 m).1 Q len (zsi n Q len s0 m).2 256).2 ≠ 0 => y m2)]
        · rw [decide_eq_true (show k + 1 ≤ m by omega), decide_eq_true (show (zst n (zsi n Q len s0 k).1 Q len (zsi n Q len s0 k).2 256).2 ≠ 0 from m3 k (by omega))]
      rw [zsi_su, hnext] at hX
      clear hnext m1 m2 m3 hk hwk hbd hXk hkm hN
      generalize zsi n Q len s0 k = s at h4 hX hwB hhB hXB ⊢
      obtain ⟨B, h⟩ := s
      dsimp only at h4 hwB hhB hXB ⊢
      clear s0 m N
      have hzi := fun c => zst_in n B Q len h c
      have e0 : M4 ((148 : Nat) : Int) ((6 : Nat) : Int) = ((E : Nat) : Int) := (f4 _ _ (by omega)).trans hL.1
      -- the best's number in the list
      have hnum : ∀ u : Nat, u ≠ 0 → u ≤ 256 → tv B ((u - 1) / 16) ((u - 1) % 16) = 2 → tX A (u - 1) = true := fun u _ _ h2 => by
        rw [← hXB]
        exact (show decide (tv B ((u - 1) / 16) ((u - 1) % 16) ≠ 0) = true from decide_eq_true (by rw [h2]; decide))
      ((with_reducible refine i_turn (i_cAnd (i_cZ_ne (i_L5 ?_)))); rw [zbI_t]; (with_reducible refine i_t (by omega) ?_); (with_reducible refine i_cI_lt (i_L6 (i_F (i_A0 ?_)))); (with_reducible refine i_fld (by assumption) ?_); (rw [e0]); (with_reducible refine i_t (by omega) ?_); (with_reducible refine i_Blk (i_Seq (i_Set (i_I (i_Seq (i_Blk (i_Seq (i_Set (i_I ?_))))))))); simp only [w_set0, w_set1, w_setn0, w_setn1]; rw [w_setT]; simp only [w_set0, w_set1, w_setn0, w_setn1]; rw [w_setT])
      refine w_ForN E (fun i ρ M' => (∃ c l, c ≤ 256 ∧ zcnt (tX A) c = i ∧ ρ = ((148 : Nat) : Int) :: ((x : Nat) : Int) :: ((134 : Nat) : Int) :: len :: (((zst n B Q len h c).1 : Nat) : Int) :: 1 :: ((k : Nat) : Int) :: (if (zst n B Q len h c).2 = 0 then -1 else ((zcnt (tX A) ((zst n B Q len h c).2 - 1) : Nat) : Int)) :: ((i : Nat) : Int) :: l) ∧ (∀ b j, ¬ (b = ((134 : Nat) : Int) ∧ (j = 6 ∨ j = 7) ∨ ((135 : Nat) : Int) ≤ b ∧ b ≤ ((146 : Nat) : Int) ∨ ((x + 11 : Nat) : Int) ≤ b ∧ b ≤ ((x + 12 : Nat) : Int)) → M' b j = M b j) ∧ cSo M' ∧ zTR M' x n B) ⟨⟨0, _, Nat.zero_le _, rfl, rfl⟩, f4, hC4, h4⟩ ?_ ?_
      · clear hX f4 h4 hC4 e0
        rintro i ρ M5 X2 hi ⟨⟨c0, l2, c01, c02, rfl⟩, f5, hC5, h5⟩ hX2
        obtain ⟨c, c1, c2, c3⟩ := hkth i hi
        obtain ⟨c4, c5, -⟩ := tX_in hn2 hw c2
        have hc0 : zst n B Q len h c0 = zst n B Q len h c := zst_eq' n B Q len h (by rw [hXB, c02, c3])
        rw [hc0]
        have c6 : zcnt (tX A) (c + 1) = i + 1 := by rw [zcnt_su, if_pos c2, c3]
        have e0 : M5 ((148 : Nat) : Int) ((6 : Nat) : Int) = ((E : Nat) : Int) := (f5 _ _ (by omega)).trans hL.1
        have e1 : M5 ((153 : Nat) : Int) ((i : Nat) : Int) = ((c : Nat) : Int) := (f5 _ _ (by omega)).trans ((hL.2 i hi).trans (zpk_some c1 c2 (by rw [c3])))
        have hXc : tX B c = true := by rw [hXB]; exact c2
        have hX3 : ∀ (l : zLoc) (M' : zMem), (∀ b j, ¬ (b = ((134 : Nat) : Int) ∧ (j = 6 ∨ j = 7) ∨ ((135 : Nat) : Int) ≤ b ∧ b ≤ ((146 : Nat) : Int) ∨ ((x + 11 : Nat) : Int) ≤ b ∧ b ≤ ((x + 12 : Nat) : Int)) → M' b j = M b j) → cSo M' → zTR M' x n B → ∀ (y u : Nat) (b : Int), (y, u) = zst n B Q len h (c + 1) → b = (if u = 0 then -1 else ((zcnt (tX A) (u - 1) : Nat) : Int)) → X2 (((148 : Nat) : Int) :: ((x : Nat) : Int) :: ((134 : Nat) : Int) :: len :: ((y : Nat) : Int) :: 1 :: ((k : Nat) : Int) :: b :: ((i + 1 : Nat) : Int) :: l) M' := fun l M' hf hc hr y u b he hb => by
          subst hb
          refine hX2 _ _ ⟨⟨c + 1, l, c1, c6, by rw [← he]⟩, hf, hc, hr⟩
        rw [zst_su] at hX3
        obtain ⟨i1, i2, -, i4⟩ := hzi c
        clear hX2 hzi hkth c6 hc0 c01 c02
        have hil := fun (K' : Option zV → zMem → Prop) (z : K' (some (0, zbI (decide (tv B (c / 16) (c % 16) = 2)))) M5) => c_isLeft hO hx0 h5 c4 c1 (K := K') z
        by_cases e : tv B (c / 16) (c % 16) = 2
        · have hw1 := zv1_w hwB hXc (show 1 ≤ 2 by decide)
          have hln := tLen_b hn2 hw1
          have hhm := zhm_B (A := zTv B (zv1 B c 1)) hn2 hQ
          have hbk := zv1_bk c1 e
          have hX1 : tX (zTv B (zv1 B c 1)) c = true := by rw [tX_zv1 hXc (by decide)]; exact hXc
          rw [decide_eq_true e] at hil
          ((with_reducible refine i_turn (i_cI_lt (i_L8 (i_F (i_A0 ?_))))); (with_reducible refine i_fld (by assumption) ?_); (rw [e0]); (with_reducible refine i_t (by omega) ?_); (with_reducible refine i_If (i_cZ_ne (i_Call (i_as1 (i_A1 (i_as1 (i_IA (i_FR (i_A0 ?_))))))))); (with_reducible refine i_fldR (by assumption) ?_); (with_reducible refine i_L8 ?_); (with_reducible refine i_in (by assumption) (by omega) (by omega) ?_); (with_reducible refine i_as0 ?_); (with_reducible refine i_recv0 (by assumption) ?_); (rw [e1]); (refine hil _ ⟨_, rfl, ?_⟩); rw [zbI_t]; (with_reducible refine i_t (by omega) ?_); (with_reducible refine i_Blk (i_Seq (i_sCall (i_as1 (i_A1 (i_as1 (i_IA (i_FR (i_A0 ?_))))))))); (with_reducible refine i_fldR (by assumption) ?_); (with_reducible refine i_L8 ?_); (with_reducible refine i_in (by assumption) (by omega) (by omega) ?_); (with_reducible refine i_as1 (i_I (i_as0 ?_))); (with_reducible refine i_recv0 (by assumption) ?_); (rw [e1]))
          refine c_setLeft hO (out := false) hx0 h5 c4 c1 hXc (fun M6 f6 h6 => ⟨rfl, ?_⟩)
          rw [if_neg (by decide)] at h6
          clear hil
          ((with_reducible refine i_Seq (i_Set (i_eIf (i_cI_gt (i_Call (i_as1 (i_A2 (i_as1 (i_A1 (i_as0 ?_)))))))))); (with_reducible refine i_recv0 (by assumption) ?_))
          refine c_measure hO hS hx0 (by omega) h6 hn2 hw1 (hC5.to (fun b j q => f6 b j (by omega))) (fun M7 f7 hT7 => ⟨_, rfl, ?_⟩)
          have h7 : zTR M7 x n (zTv B (zv1 B c 1)) := h6.to (fun b j a1 a2 => f7 b j (by omega))
          have f71 : ∀ b j, ¬ (b = ((134 : Nat) : Int) ∧ (j = 6 ∨ j = 7) ∨ ((135 : Nat) : Int) ≤ b ∧ b ≤ ((146 : Nat) : Int) ∨ ((x + 11 : Nat) : Int) ≤ b ∧ b ≤ ((x + 12 : Nat) : Int)) → M7 b j = M b j := fun b j q => by rw [f7 b j (by omega), f6 b j (by omega), f5 b j q]
          clear f7 f6 h6 f5 h5 hC5 e0 e1
          have e1 : M7 ((153 : Nat) : Int) ((i : Nat) : Int) = ((c : Nat) : Int) := (f71 _ _ (by omega)).trans ((hL.2 i hi).trans (zpk_some c1 c2 (by rw [c3])))
          generalize tLen n (zTv B (zv1 B c 1)) = v at hln hX3 ⊢
          by_cases w1 : ((v : Nat) : Int) ≤ len
          · have w2 : ¬ len < ((v : Nat) : Int) := by omega
            ((with_reducible refine i_L3 ?_); (with_reducible refine i_f (by omega) ?_); (with_reducible refine i_Call (i_as1 (i_A0 (i_as1 (i_A1 (i_as1 (i_A2 (i_as0 ?_)))))))); (with_reducible refine i_recv0 (by assumption) ?_); simp only [w_set0, w_set1, w_setn0, w_setn1])
            refine c_harmBy hO hS hx0 hx7 h7.1.1 hn1 hn2 hw1 (hq.to (fun b j q => f71 b j (by omega))) hQ hT7 (fun M8 f8 hT8 => ⟨_, rfl, ?_⟩)
            have h8 : zTR M8 x n (zTv B (zv1 B c 1)) := h7.to (fun b j a1 a2 => f8 b j (by omega))
            have f81 : ∀ b j, ¬ (b = ((134 : Nat) : Int) ∧ (j = 6 ∨ j = 7) ∨ ((135 : Nat) : Int) ≤ b ∧ b ≤ ((146 : Nat) : Int) ∨ ((x + 11 : Nat) : Int) ≤ b ∧ b ≤ ((x + 12 : Nat) : Int)) → M8 b j = M b j := fun b j q => by rw [f8 b j (by omega), f71 b j q]
            have e8 : M8 ((153 : Nat) : Int) ((i : Nat) : Int) = ((c : Nat) : Int) := (f8 _ _ (by omega)).trans e1
            have hC8 := hT8.so
            generalize zhm n (zTv B (zv1 B c 1)) Q = hh at hhm hX3 ⊢
            ((with_reducible refine i_Seq (i_sCall (i_as1 (i_A1 (i_as1 (i_IA (i_FR (i_A0 ?_)))))))); (with_reducible refine i_fldR (by assumption) ?_); (with_reducible refine i_L8 ?_); (with_reducible refine i_in (by assumption) (by omega) (by omega) ?_); (with_reducible refine i_as1 (i_I (i_as0 ?_))); (with_reducible refine i_recv0 (by assumption) ?_); (rw [e8]); rw [w_setT])
            refine c_setLeft hO (out := true) hx0 h8 c4 c1 hX1 (fun M9 f9 h9 => ⟨rfl, ?_⟩)
            rw [if_pos rfl, hbk] at h9
            have hX4 := fun l => hX3 l M9 (fun b j q => by rw [f9 b j (by omega), f81 b j q]) (hC8.to (fun b j q => f9 b j (by omega))) h9
            clear hX3 h8 h7 hbk hT7 hT8
            generalize zst n B Q len h c = st at i1 i2 i4 hX4 ⊢
            obtain ⟨y, u⟩ := st
            dsimp only at i1 i2 i4 hX4 ⊢
            by_cases w3 : hh < y
            · rw [if_pos ⟨e, w1, w3⟩] at hX4
              ((with_reducible refine i_If (i_cI_lt (i_L9 (i_L4 ?_)))); (with_reducible refine i_t (by omega) ?_); (with_reducible refine i_Seq (i_Set (i_L9 (i_Set ?_)))); simp only [w_set0, w_set1, w_setn0, w_setn1]; (with_reducible refine i_L8 (i_up ?_)); simp only [w_set0, w_set1, w_setn0, w_setn1]; (with_reducible refine i_Inc8 ?_); rw [zx_inc (by omega)]; simp only [w_set0, w_set1, w_setn0, w_setn1])
              exact hX4 _ hh (c + 1) _ rfl (by rw [if_neg (Nat.succ_ne_zero c), Nat.add_sub_cancel, c3])
            · rw [if_neg (fun z => w3 z.2.2)] at hX4
              ((with_reducible refine i_If (i_cI_lt (i_L9 (i_L4 ?_)))); (with_reducible refine i_f (by omega) ?_); (with_reducible refine i_up (i_Inc8 ?_)); rw [zx_inc (by omega)]; simp only [w_set0, w_set1, w_setn0, w_setn1])
              exact hX4 _ y u _ rfl rfl
          · have w2 : len < ((v : Nat) : Int) := by omega
            have hC7 := hT7.so
            rw [if_neg (fun z => w1 z.2.1)] at hX3
            ((with_reducible refine i_L3 ?_); (with_reducible refine i_t (by omega) ?_); (with_reducible refine i_L4 (i_Seq (i_sCall (i_as1 ?_)))); simp only [w_set0, w_set1, w_setn0, w_setn1]; (with_reducible refine i_A1 (i_as1 (i_IA (i_FR (i_A0 ?_))))); (with_reducible refine i_fldR (by assumption) ?_); (with_reducible refine i_L8 ?_); (with_reducible refine i_in (by assumption) (by omega) (by omega) ?_); (with_reducible refine i_as1 (i_I (i_as0 ?_))); (with_reducible refine i_recv0 (by assumption) ?_); (rw [e1]); rw [w_setT])
            refine c_setLeft hO (out := true) hx0 h7 c4 c1 hX1 (fun M9 f9 h9 => ⟨rfl, ?_⟩)
            rw [if_pos rfl, hbk] at h9
            have hX4 := fun l => hX3 l M9 (fun b j q => by rw [f9 b j (by omega), f71 b j q]) (hC7.to (fun b j q => f9 b j (by omega))) h9
            clear hX3 h7 hbk hT7
            generalize zst n B Q len h c = st at i1 i2 i4 hX4 ⊢
            obtain ⟨y, u⟩ := st
            dsimp only at i1 i2 i4 hX4 ⊢
            ((with_reducible refine i_If (i_cI_lt (i_L9 (i_L4 ?_)))); (with_reducible refine i_f (by omega) ?_); (with_reducible refine i_up (i_Inc8 ?_)); rw [zx_inc (by omega)]; simp only [w_set0, w_set1, w_setn0, w_setn1])
            exact hX4 _ y u _ rfl rfl
        · rw [decide_eq_false e] at hil
          rw [if_neg (fun z => e z.1)] at hX3
          generalize zst n B Q len h c = st at i1 i2 i4 hX3 ⊢
          obtain ⟨y, u⟩ := st
          dsimp only at i1 i2 i4 hX3 ⊢
          ((with_reducible refine i_turn (i_cI_lt (i_L8 (i_F (i_A0 ?_))))); (with_reducible refine i_fld (by assumption) ?_); (rw [e0]); (with_reducible refine i_t (by omega) ?_); (with_reducible refine i_If (i_cZ_ne (i_Call (i_as1 (i_A1 (i_as1 (i_IA (i_FR (i_A0 ?_))))))))); (with_reducible refine i_fldR (by assumption) ?_); (with_reducible refine i_L8 ?_); (with_reducible refine i_in (by assumption) (by omega) (by omega) ?_); (with_reducible refine i_as0 ?_); (with_reducible refine i_recv0 (by assumption) ?_); (rw [e1]); (refine hil _ ⟨_, rfl, ?_⟩); rw [zbI_f]; (with_reducible refine i_f (by omega) ?_); (with_reducible refine i_up (i_Inc8 ?_)); rw [zx_inc (by omega)]; simp only [w_set0, w_set1, w_setn0, w_setn1])
          exact hX3 _ M5 f5 hC5 h5 y u _ rfl rfl
      · clear f4 h4 hC4 e0
        rintro ρ M5 X2 ⟨⟨c0, l2, c01, c02, rfl⟩, f5, hC5, h5⟩
        have e0 : M5 ((148 : Nat) : Int) ((6 : Nat) : Int) = ((E : Nat) : Int) := (f5 _ _ (by omega)).trans hL.1
        have hc0 : zst n B Q len h c0 = zst n B Q len h 256 := zst_eq' n B Q len h (by rw [hXB, c02, hE])
        rw [hc0]
        obtain ⟨i1, i2, i3, i4⟩ := hzi 256
        clear hzi hc0 c02 c01 hkth
        unfold zse at hX
        dsimp only at hX
        generalize hst : zst n B Q len h 256 = st at i1 i2 i3 i4 hX ⊢
        clear hst
        obtain ⟨y, u⟩ := st
        dsimp only at i1 i2 i3 i4 hX ⊢
        by_cases e : u = 0
        · have hy := i3 e
          subst e
          rw [if_pos rfl, decide_eq_false (fun z => z rfl)] at hX
          rw [if_pos rfl, hy]
          clear hE
          ((with_reducible refine i_turn (i_cI_lt (i_L8 (i_F (i_A0 ?_))))); (with_reducible refine i_fld (by assumption) ?_); (rw [e0]); (with_reducible refine i_f (by omega) ?_); (with_reducible refine i_Seq (i_Set (i_eIf (i_cI_ne (i_L7 (i_I ?_)))))); (with_reducible refine i_f (by omega) ?_); (with_reducible refine i_I (i_If (i_cZ_ne ?_))); simp only [w_set0, w_set1, w_setn0, w_setn1]; (with_reducible refine i_L5 ?_); (with_reducible refine i_f (by omega) ?_); (with_reducible refine i_up (i_Inc6 ?_)); rw [zx_inc (by omega)]; simp only [w_set0, w_set1, w_setn0, w_setn1])
          exact hX _ _ ⟨⟨_, rfl⟩, f5, hC5, h5⟩
        · have h2 := i4 e
          have hXu := hnum u e i2 h2
          have hlt := zcnt_lt3 hXu (show u - 1 < 256 by omega)
          rw [hE] at hlt
          have e1 : M5 ((153 : Nat) : Int) ((zcnt (tX A) (u - 1) : Nat) : Int) = ((u - 1 : Nat) : Int) := (f5 _ _ (by omega)).trans ((hL.2 _ hlt).trans (zpk_some (by omega) hXu rfl))
          obtain ⟨c4, c5, -⟩ := tX_in hn2 hw hXu
          rw [if_neg e, decide_eq_true e] at hX
          rw [if_neg e]
          clear hE
          generalize zcnt (tX A) (u - 1) = r at hlt e1 ⊢
          ((with_reducible refine i_turn (i_cI_lt (i_L8 (i_F (i_A0 ?_))))); (with_reducible refine i_fld (by assumption) ?_); (rw [e0]); (with_reducible refine i_f (by omega) ?_); (with_reducible refine i_Seq (i_Set (i_eIf (i_cI_ne (i_L7 (i_I ?_)))))); (with_reducible refine i_t (by omega) ?_); (with_reducible refine i_I (i_If (i_cZ_ne ?_))); simp only [w_set0, w_set1, w_setn0, w_setn1]; (with_reducible refine i_L5 ?_); (with_reducible refine i_t (by omega) ?_); (with_reducible refine i_sCall (i_as1 (i_A1 (i_as1 (i_IA (i_FR (i_A0 ?_))))))); (with_reducible refine i_fldR (by assumption) ?_); (with_reducible refine i_L7 ?_); (with_reducible refine i_in (by assumption) (by omega) (by omega) ?_); (with_reducible refine i_as1 (i_I (i_as0 ?_))); (with_reducible refine i_recv0 (by assumption) ?_); (rw [e1]))
          refine c_setLeft hO (out := false) hx0 h5 c4 (by omega) (by rw [hXB]; exact hXu) (fun M6 f6 h6 => ⟨rfl, ?_⟩)
          rw [if_neg (by decide)] at h6
          ((with_reducible refine i_up (i_Inc6 ?_)); rw [zx_inc (by omega)]; simp only [w_set0, w_set1, w_setn0, w_setn1])
          exact hX _ _ ⟨⟨_, rfl⟩, fun b j q => by rw [f6 b j (by omega), f5 b j q], hC5.to (fun b j q => f6 b j (by omega)), h6⟩
    · clear ha3 f31 hC3
      rintro ρ M4 X ⟨⟨l, rfl⟩, f4, hC4, h4⟩
      have e0 : M4 ((148 : Nat) : Int) ((6 : Nat) : Int) = ((E : Nat) : Int) := (f4 _ _ (by omega)).trans hL.1
      have hb := hbd N
      have hfin : zsi n Q len s0 N = zsi n Q len s0 m := by
        by_cases z : m + 1 ≤ E
        · rw [show N = m + 1 by omega]; exact zsi_fx m2 1
        · rw [show N = m by omega]
      rw [hfin] at h4 hb ⊢
      clear hE
      by_cases z : m + 1 ≤ E
      · rw [decide_eq_false (show ¬ N ≤ m by omega)]
        ((with_reducible refine i_turn (i_cAnd (i_cZ_ne (i_L5 ?_)))); rw [zbI_f]; (with_reducible refine i_f (by omega) ?_); (with_reducible refine i_RetI (i_L4 ?_)))
        exact hk M4 f4 hC4 h4
      · rw [decide_eq_true (show N ≤ m by omega)]
        ((with_reducible refine i_turn (i_cAnd (i_cZ_ne (i_L5 ?_)))); rw [zbI_t]; (with_reducible refine i_t (by omega) ?_); (with_reducible refine i_cI_lt (i_L6 (i_F (i_A0 ?_)))); (with_reducible refine i_fld (by assumption) ?_); (rw [e0]); (with_reducible refine i_f (by omega) ?_); (with_reducible refine i_RetI (i_L4 ?_)))
        exact hk M4 f4 hC4 h4
end
section
-- part g8.mtop.lean.txt
/-! ===== the reference: questions, length, harm, served ===== -/
def zIsQ (n : Nat) (kd a b : Int) : Bool := decide (((kd = 0 ∨ kd = 3 ∨ kd = 4) ∧ (0 ≤ a ∧ a < ((n : Nat) : Int)) ∧ (0 ≤ b ∧ b < ((n : Nat) : Int)) ∧ a ≠ b) ∨ (kd = 2 ∧ 0 ≤ a ∧ a < ((2 ^ n : Nat) : Int)) ∨ ((kd = 1 ∨ kd = 5) ∧ 0 ≤ a ∧ a < ((n : Nat) : Int)))
theorem m_isQuestion {O : zOm} (hO : zWld O) (hS : zS O = zmS zC0) {n : Nat} {kd a b : Int} {M : zMem} {K : Option zV → zMem → Prop} (hn : M 250 ((1 : Nat) : Int) = ((n : Nat) : Int)) (hn2 : n ≤ 16) (hk : K (some (0, zbI (zIsQ n kd a b))) M) : zR O F_Model_isQuestion [(2, 250), (0, kd), (0, a), (0, b)] M K := by
  have hp := Nat.pow_le_pow_right (n := 2) (by decide) hn2
  have hp2 : (2 : Nat) ^ 16 = 65536 := rfl
  rw [hp2] at hp
  unfold zIsQ at hk
  apply r_Model_isQuestion hO
  unfold B_Model_isQuestion
  have f1 := zMF (k := 1) hS rfl; have zo := zMO hS
  repeat' (first | (with_reducible first | (show zew _ _ _ _ _ _; first | (show zew (zeL _) _ _ _ _ _; first | refine i_L0 ?_ | refine i_L1 ?_ | refine i_L2 ?_ | refine i_L3 ?_ | refine i_L4 ?_ | refine i_L5 ?_ | refine i_L6 ?_ | refine i_L7 ?_ | refine i_L8 ?_ | refine i_L9 ?_ | refine i_L10 ?_ | refine i_L11 ?_ | refine i_L12 ?_ | refine i_L13 ?_ | refine i_L14 ?_) | (show zew (zeA _) _ _ _ _ _; first | refine i_A0 ?_ | refine i_A1 ?_ | refine i_A2 ?_ | refine i_A3 ?_ | refine i_A4 ?_ | refine i_A5 ?_ | refine i_A6 ?_ | refine i_A7 ?_ | refine i_A8 ?_ | refine i_A9 ?_ | refine i_A10 ?_ | refine i_A11 ?_ | refine i_A12 ?_ | refine i_A13 ?_ | refine i_A14 ?_) | refine i_I ?_ | refine i_F ?_ | refine i_FR ?_ | refine i_IA ?_ | refine i_Add ?_ | refine i_Sub ?_ | refine i_And ?_ | refine i_Len ?_ | refine i_Call ?_ | refine i_RA ?_ | refine i_Ldc ?_ | refine i_LdcL ?_ | refine i_IL ?_ | refine i_Null ?_ | refine i_Mul ?_ | refine i_Div ?_ | refine i_Rem ?_ | refine i_Or ?_ | refine i_Xor ?_ | refine i_Shl ?_ | refine i_Shr ?_ | refine i_Ushr ?_ | refine i_AddL ?_ | refine i_SubL ?_ | refine i_MulL ?_ | refine i_CmpL ?_ | refine i_Neg ?_ | refine i_I2L ?_ | refine i_L2I ?_ | refine i_I2B ?_ | refine i_ZA ?_ | refine i_BA ?_ | refine i_LA ?_ | refine i_MM ?_ | refine i_eIf ?_ | refine i_Ll0 ?_ | refine i_Ll1 ?_ | refine i_Ll2 ?_ | refine i_Ll3 ?_ | refine i_Ll4 ?_ | refine i_Ll5 ?_ | refine i_Ll6 ?_ | refine i_Ll7 ?_ | refine i_Ll8 ?_ | refine i_Ll9 ?_ | refine i_Ll10 ?_ | refine i_Ll11 ?_ | refine i_Ll12 ?_ | refine i_Ll13 ?_ | refine i_Ll14 ?_) | (show zsw _ _ _ _ _ _ _ _; first | refine i_Seq ?_ | refine i_Blk ?_ | refine i_Set ?_ | refine i_If ?_ | refine i_sCall ?_ | refine i_RetV ?_ | refine i_RetI ?_ | refine i_sIA ?_ | refine i_sF ?_ | refine i_Skip ?_ | refine i_FO ?_ | refine i_sLA ?_ | refine i_sZA ?_ | refine i_sBA ?_ | refine i_IO ?_ | refine i_Pop ?_ | refine i_Copy ?_ | refine i_RetZ ?_ | refine i_RetL ?_ | refine i_RetR ?_ | refine i_Ite ?_ | refine i_IteD ?_ | refine i_IfR ?_ | refine i_Brk ?_ | refine i_IfBrk ?_ | refine i_Sw ?_ | refine i_Inc0 ?_ | refine i_Inc1 ?_ | refine i_Inc2 ?_ | refine i_Inc3 ?_ | refine i_Inc4 ?_ | refine i_Inc5 ?_ | refine i_Inc6 ?_ | refine i_Inc7 ?_ | refine i_Inc8 ?_ | refine i_Inc9 ?_ | refine i_Inc10 ?_ | refine i_Inc11 ?_ | refine i_Inc12 ?_ | refine i_Inc13 ?_ | refine i_Inc14 ?_) | (show zcw _ _ _ _ _ _ _; first | refine i_cN ?_ | refine i_cNot ?_ | refine i_cAnd ?_ | refine i_cOr ?_ | refine i_cIf ?_ | refine i_cI_eq ?_ | refine i_cI_ne ?_ | refine i_cI_lt ?_ | refine i_cI_ge ?_ | refine i_cI_gt ?_ | refine i_cI_le ?_ | refine i_cZ_eq ?_ | refine i_cZ_ne ?_ | refine i_cZ_lt ?_ | refine i_cZ_ge ?_ | refine i_cZ_gt ?_ | refine i_cZ_le ?_) | refine i_as0 ?_ | refine i_as1 ?_ | refine i_sw0 ?_ | refine i_sw1 ?_ | refine i_lab0 ?_ | refine i_lab1 ?_ | refine i_lab2 ?_ | refine i_lb0 ?_ | refine i_lb1 ?_ | refine i_recv1 ?_ | refine i_recv2 ?_ | refine i_turn ?_ | refine i_up ?_) | (with_reducible refine i_z (Or.inl rfl) ?_) | (with_reducible refine i_z (Or.inr rfl) ?_) | (with_reducible refine i_z (zbI_01 _) ?_) | (with_reducible refine i_zin (Or.inl rfl) (by assumption) (by omega) (by omega) ?_) | (with_reducible refine i_zin (Or.inr rfl) (by assumption) (by omega) (by omega) ?_) | (with_reducible refine i_zin (zbI_01 _) (by assumption) (by omega) (by omega) ?_) | (with_reducible refine i_zin (by assumption) (by assumption) (by omega) (by omega) ?_) | (with_reducible refine i_recv0 (by assumption) ?_) | (with_reducible refine i_fld (by assumption) ?_) | (with_reducible refine i_fldR (by assumption) ?_) | (with_reducible refine i_in (by assumption) (by omega) (by omega) ?_) | (with_reducible refine i_copy (by assumption) (by assumption) (by omega) ?_) | (with_reducible refine i_len (by assumption) (by omega) ?_) | rw [zbI_t] | rw [zbI_f] | rw [zg_s] | rw [zg_n _ _ _ (by omega)] | rw [zg_m _ _ _ _ _ (by omega)] | rw [zg_o _ _ (by omega)] | (rw [hn]) | (refine m_isPair hO hS hn ⟨_, rfl, ?_⟩) | (refine m_isPost hO hS hn ⟨_, rfl, ?_⟩) | (rw [yshl_1 (show n < 31 by omega)]) | rw [zx_inc (by omega)] | rw [zx_addc (by omega)] | rw [zx_cadd (by omega)] | rw [zx_add (by omega)] | rw [zx_subc (by omega) (by omega)] | rw [zx_sub (by omega) (by omega)] | rw [zx_mulc (by omega)] | rw [zx_cmul (by omega)] | rw [zx_divc (by omega)] | rw [zx_modc] | rw [zx_s (by omega) (by omega)] | simp only [w_set0, w_set1, w_setn0, w_setn1] | rw [w_setT] | (with_reducible refine i_t trivial ?_) | (with_reducible refine i_f not_false ?_) | (with_reducible refine i_t (by omega) ?_) | (with_reducible refine i_f (by omega) ?_) | (with_reducible refine i_z (Or.inl rfl) ?_) | (with_reducible refine i_z (Or.inr rfl) ?_) | (with_reducible refine i_nn (by decide) ?_) | (with_reducible refine i_bb ?_ <;> intro hc) | (with_reducible refine i_dne ?_ ?_ <;> intro hc) | (with_reducible refine i_deq ?_ ?_ <;> intro hc) | (with_reducible refine i_bne ?_ ?_ <;> intro hc) | (with_reducible refine i_beq ?_ ?_ <;> intro hc) | (with_reducible refine i_br ?_ ?_ <;> intro hc))
  all_goals first | (rw [decide_eq_true (by omega)] at hk; exact hk) | (rw [decide_eq_false (by omega)] at hk; exact hk) | (rw [show decide (((kd = 0 ∨ kd = 3 ∨ kd = 4) ∧ (0 ≤ a ∧ a < ((n : Nat) : Int)) ∧ (0 ≤ b ∧ b < ((n : Nat) : Int)) ∧ a ≠ b) ∨ (kd = 2 ∧ 0 ≤ a ∧ a < ((2 ^ n : Nat) : Int)) ∨ ((kd = 1 ∨ kd = 5) ∧ 0 ≤ a ∧ a < ((n : Nat) : Int))) = decide ((0 ≤ a ∧ a < ((n : Nat) : Int)) ∧ (0 ≤ b ∧ b < ((n : Nat) : Int)) ∧ a ≠ b) from decide_eq_decide.mpr (by omega)] at hk; exact hk)
theorem m_length {O : zOm} (hO : zWld O) (hS : zS O = zmS zC0) {t T n : Nat} {A : zTl} {M : zMem} {K : Option zV → zMem → Prop} (hT : M 250 ((11 : Nat) : Int) = ((T : Nat) : Int)) (hT5 : T ≤ 5) (ht : t < T) (hn : M 250 ((1 : Nat) : Int) = ((n : Nat) : Int)) (hn2 : n ≤ 16) (hA : rTe M t n A) (hw : zTw n A)
    (hk : ∀ M', (∀ b j, ¬ (b = 268 ∨ b = 269 ∨ b = 270) → M' b j = M b j) → K (some (0, ((tLen n A : Nat) : Int))) M') : zR O F_Model_length [(2, 250), (0, ((t : Nat) : Int))] M K := by
  have hln := tLen_b hn2 hw
  apply r_Model_length hO
  unfold B_Model_length
  have zo := zMO hS
  ((with_reducible refine i_RetI (i_eIf (i_cZ_ne (i_Call (i_as1 (i_A0 (i_as1 (i_L1 (i_as0 ?_))))))))); (with_reducible refine i_recv0 (by assumption) ?_); (refine m_isTelling hO hS hT ⟨_, rfl, ?_⟩); (rw [decide_eq_true (show 0 ≤ ((t : Nat) : Int) ∧ ((t : Nat) : Int) < ((T : Nat) : Int) by omega)]); rw [zbI_t]; (with_reducible refine i_t (by omega) ?_); (with_reducible refine i_Call (i_as1 (i_A0 (i_as1 (i_L1 (i_as0 ?_)))))); (with_reducible refine i_recv0 (by assumption) ?_))
  refine m_lengthOf hO hS (by omega) hn hn2 hA hw (fun M1 f1 _ _ => ⟨_, rfl, ?_⟩)
  (skip)
  exact hk M1 f1
theorem m_length_bad {O : zOm} (hO : zWld O) (hS : zS O = zmS zC0) {t : Int} {T : Nat} {M : zMem} {K : Option zV → zMem → Prop} (hT : M 250 ((11 : Nat) : Int) = ((T : Nat) : Int)) (ht : ¬ (0 ≤ t ∧ t < ((T : Nat) : Int))) (hk : K (some (0, -1)) M) : zR O F_Model_length [(2, 250), (0, t)] M K := by
  apply r_Model_length hO
  unfold B_Model_length
  have zo := zMO hS
  ((with_reducible refine i_RetI (i_eIf (i_cZ_ne (i_Call (i_as1 (i_A0 (i_as1 (i_L1 (i_as0 ?_))))))))); (with_reducible refine i_recv0 (by assumption) ?_); (refine m_isTelling hO hS hT ⟨_, rfl, ?_⟩); (rw [decide_eq_false ht]); rw [zbI_f]; (with_reducible refine i_f (by omega) ?_); (with_reducible refine i_I ?_))
  exact hk
theorem m_harm {O : zOm} (hO : zWld O) (hS : zS O = zmS zC0) {t T n : Nat} {A : zTl} {Q : zQl} {M : zMem} {K : Option zV → zMem → Prop} (hT : M 250 ((11 : Nat) : Int) = ((T : Nat) : Int)) (hT5 : T ≤ 5) (ht : t < T) (hn : M 250 ((1 : Nat) : Int) = ((n : Nat) : Int)) (hn2 : n ≤ 16) (hA : rTe M t n A) (hw : zTw n A) (hq : rQs M Q) (hQ : zQs n Q)
    (hk : ∀ M', (∀ b j, ¬ (b = 250 ∧ j = 52 ∨ ((268 : Nat) : Int) ≤ b ∧ b ≤ ((270 : Nat) : Int) ∨ ((288 : Nat) : Int) ≤ b ∧ b ≤ ((290 : Nat) : Int)) → M' b j = M b j) → K (some (0, ((zhm n A Q : Nat) : Int))) M') : zR O F_Model_harm [(2, 250), (0, ((t : Nat) : Int))] M K := by
  have hhm := zhm_B (A := A) hn2 hQ
  apply r_Model_harm hO
  unfold B_Model_harm
  have zo := zMO hS
  ((with_reducible refine i_RetI (i_eIf (i_cZ_ne (i_Call (i_as1 (i_A0 (i_as1 (i_L1 (i_as0 ?_))))))))); (with_reducible refine i_recv0 (by assumption) ?_); (refine m_isTelling hO hS hT ⟨_, rfl, ?_⟩); (rw [decide_eq_true (show 0 ≤ ((t : Nat) : Int) ∧ ((t : Nat) : Int) < ((T : Nat) : Int) by omega)]); rw [zbI_t]; (with_reducible refine i_t (by omega) ?_); (with_reducible refine i_Call (i_as1 (i_A0 (i_as1 (i_L1 (i_as0 ?_)))))); (with_reducible refine i_recv0 (by assumption) ?_))
  refine m_harmOf hO hS (by omega) hn hn2 hA hw hq hQ (fun M1 f1 => ⟨_, rfl, ?_⟩)
  (skip)
  exact hk M1 f1
theorem m_harm_bad {O : zOm} (hO : zWld O) (hS : zS O = zmS zC0) {t : Int} {T : Nat} {M : zMem} {K : Option zV → zMem → Prop} (hT : M 250 ((11 : Nat) : Int) = ((T : Nat) : Int)) (ht : ¬ (0 ≤ t ∧ t < ((T : Nat) : Int))) (hk : K (some (0, -1)) M) : zR O F_Model_harm [(2, 250), (0, t)] M K := by
  apply r_Model_harm hO
  unfold B_Model_harm
  have zo := zMO hS
  ((with_reducible refine i_RetI (i_eIf (i_cZ_ne (i_Call (i_as1 (i_A0 (i_as1 (i_L1 (i_as0 ?_))))))))); (with_reducible refine i_recv0 (by assumption) ?_); (refine m_isTelling hO hS hT ⟨_, rfl, ?_⟩); (rw [decide_eq_false ht]); rw [zbI_f]; (with_reducible refine i_f (by omega) ?_); (with_reducible refine i_I ?_))
  exact hk
/-- served: the answer and the telling behind -/
def zsR (n : Nat) (A : zTl) (Q : zQl) (len : Int) (E : Nat) : Int := if E ≤ 9 then (if (zsv n A Q len (2 ^ E)).1 = 0 then -2 else (((zsv n A Q len (2 ^ E)).2.1 : Nat) : Int)) else (if len < ((tLen n (zTs A 0) : Nat) : Int) then -2 else (((zsw2 n A Q len).2 : Nat) : Int))
def zsA (n : Nat) (A : zTl) (Q : zQl) (len : Int) (E : Nat) : zTl := if E ≤ 9 then (if (zsv n A Q len (2 ^ E)).1 = 0 then A else zTs A ((zsv n A Q len (2 ^ E)).1 - 1)) else (if len < ((tLen n (zTs A 0) : Nat) : Int) then A else (zsw2 n A Q len).1)
theorem m_serve_bad {O : zOm} (hO : zWld O) (hS : zS O = zmS zC0) {t len : Int} {T : Nat} {M : zMem} {K : Option zV → zMem → Prop} (hT : M 250 ((11 : Nat) : Int) = ((T : Nat) : Int)) (ht : ¬ (0 ≤ t ∧ t < ((T : Nat) : Int))) (hk : K (some (0, -1)) M) : zR O F_Model_serve [(2, 250), (0, t), (0, len)] M K := by
  apply r_Model_serve hO
  unfold B_Model_serve
  have f56 := zMF (k := 56) hS rfl; have a291 := zMA (a := 291) (ty := .int) (n := 256) hS rfl; have f20 := zMF (k := 20) hS rfl; have a266 := zMA (a := 266) (ty := .int) (n := 1792) hS rfl; have zo := zMO hS
  ((with_reducible refine i_Seq (i_If (i_cNot (i_cZ_ne (i_Call (i_as1 (i_A0 (i_as1 (i_L1 (i_as0 ?_)))))))))); (with_reducible refine i_recv0 (by assumption) ?_); (refine m_isTelling hO hS hT ⟨_, rfl, ?_⟩); (rw [decide_eq_false ht]); rw [zbI_f]; (with_reducible refine i_f (by omega) ?_); (with_reducible refine i_RetI (i_I ?_)))
  exact hk
theorem m_serve {O : zOm} (hO : zWld O) (hS : zS O = zmS zC0) {t T n : Nat} {len : Int} {A : zTl} {Q : zQl} {M : zMem} {K : Option zV → zMem → Prop} (hT : M 250 ((11 : Nat) : Int) = ((T : Nat) : Int)) (hT5 : T ≤ 5) (ht : t < T) (hn : M 250 ((1 : Nat) : Int) = ((n : Nat) : Int)) (hn2 : n ≤ 16) (hA : rTe M t n A) (hw : zTw n A) (hq : rQs M Q) (hQ : zQs n Q)
    (hk : ∀ M', (∀ b j, ¬ (b = 250 ∧ j = 52 ∨ b = ((266 : Nat) : Int) ∧ ((256 * t : Nat) : Int) ≤ j ∧ j < ((256 * t + 256 : Nat) : Int) ∨ ((268 : Nat) : Int) ≤ b ∧ b ≤ ((270 : Nat) : Int) ∨ ((288 : Nat) : Int) ≤ b ∧ b ≤ ((291 : Nat) : Int)) → M' b j = M b j) → rTe M' t n (zsA n A Q len (zcnt (tX A) 256)) → K (some (0, zsR n A Q len (zcnt (tX A) 256))) M') : zR O F_Model_serve [(2, 250), (0, ((t : Nat) : Int)), (0, len)] M K := by
  have gv : ∀ c : Nat, c < 256 → M ((266 : Nat) : Int) ((256 * t + c : Nat) : Int) = ((tv A (c / 16) (c % 16) : Nat) : Int) := fun c hc => by
    have := hA.2.2.2 (c / 16) (c % 16) (by omega) (by omega)
    rwa [show 256 * t + 16 * (c / 16) + c % 16 = 256 * t + c by omega] at this
  apply r_Model_serve hO
  unfold B_Model_serve
  have f56 := zMF (k := 56) hS rfl; have a291 := zMA (a := 291) (ty := .int) (n := 256) hS rfl; have f20 := zMF (k := 20) hS rfl; have a266 := zMA (a := 266) (ty := .int) (n := 1792) hS rfl; have zo := zMO hS
  ((with_reducible refine i_Seq (i_If (i_cNot (i_cZ_ne (i_Call (i_as1 (i_A0 (i_as1 (i_L1 (i_as0 ?_)))))))))); (with_reducible refine i_recv0 (by assumption) ?_); (refine m_isTelling hO hS hT ⟨_, rfl, ?_⟩); (rw [decide_eq_true (show 0 ≤ ((t : Nat) : Int) ∧ ((t : Nat) : Int) < ((T : Nat) : Int) by omega)]); rw [zbI_t]; (with_reducible refine i_t (by omega) ?_); (with_reducible refine i_Seq (i_Blk (i_Seq (i_Set (i_I ?_))))); simp only [w_set0, w_set1, w_setn0, w_setn1])
  refine w_ForN 256 (fun c ρ M' => (∃ l, ρ = 250 :: ((t : Nat) : Int) :: len :: ((c : Nat) : Int) :: l) ∧ (∀ b j, ¬ b = ((291 : Nat) : Int) → M' b j = M b j) ∧ ∀ d : Nat, d < c → M' ((291 : Nat) : Int) ((d : Nat) : Int) = ((tv A (d / 16) (d % 16) : Nat) : Int)) ⟨⟨_, rfl⟩, fun _ _ _ => rfl, fun d h => absurd h (Nat.not_lt_zero _)⟩ ?_ ?_
  · rintro c ρ M1 X hc ⟨⟨l, rfl⟩, f1', h1⟩ hX
    have g : M1 ((266 : Nat) : Int) ((256 * t + c : Nat) : Int) = ((tv A (c / 16) (c % 16) : Nat) : Int) := (f1' _ _ (by omega)).trans (gv c hc)
    have hv2 := hw.2.2.2.2 (c / 16) (c % 16)
    clear gv hk
    ((with_reducible refine i_turn (i_cI_lt (i_L3 (i_I ?_)))); (with_reducible refine i_t (by omega) ?_); (with_reducible refine i_sIA (i_FR (i_A0 ?_))); (with_reducible refine i_fldR (by assumption) ?_); (with_reducible refine i_L3 (i_IA (i_FR (i_A0 ?_)))); (with_reducible refine i_fldR (by assumption) ?_); (with_reducible refine i_Add (i_Mul (i_I (i_L1 (i_L3 ?_))))); rw [zx_cmul (by omega)]; rw [zx_add (by omega)]; (with_reducible refine i_in (by assumption) (by omega) (by omega) ?_); (with_reducible refine i_in (by assumption) (by omega) (by omega) ?_); (with_reducible refine i_up (i_Inc3 ?_)); (rw [g]); rw [zx_inc (by omega)]; simp only [w_set0, w_set1, w_setn0, w_setn1])
    refine hX _ _ ⟨⟨_, rfl⟩, fun b j q => by rw [zg_o _ _ (by omega)]; exact f1' b j q, fun d hd => ?_⟩
    by_cases z : d = c
    · rw [z, zg_s]
    · rw [zg_m _ _ _ _ _ (by omega)]; exact h1 d (by omega)
  · rintro ρ M1 X ⟨⟨l, rfl⟩, f1', h1⟩
    have hA1 : rTe M1 t n A := hA.to hn2 hw (fun b j q => f1' b j (by omega))
    have hE := tX_120 hn2 hw
    ((with_reducible refine i_turn (i_cI_lt (i_L3 (i_I ?_)))); (with_reducible refine i_f (by omega) ?_); (with_reducible refine i_Seq (i_Set (i_Call (i_as1 (i_A0 (i_as1 (i_L1 (i_as0 ?_)))))))); (with_reducible refine i_recv0 (by assumption) ?_); simp only [w_set0, w_set1, w_setn0, w_setn1])
    refine m_exceptsOf hO hS (by omega) hA1 hw ⟨_, rfl, ?_⟩
    unfold zsR zsA at hk
    have hn1 : M1 250 ((1 : Nat) : Int) = ((n : Nat) : Int) := (f1' _ _ (by omega)).trans hn
    have hq1 : rQs M1 Q := hq.to (fun b j q => f1' b j (by omega))
    generalize hEE : zcnt (tX A) 256 = E at hk hE ⊢
    by_cases e9 : E ≤ 9
    · rw [if_pos e9, if_pos e9] at hk
      have hb := zsv_b hn2 hw hQ len (2 ^ E)
      have hgo := fun (K' : Option zV → zMem → Prop) z => m_serveFew hO hS (M := M1) (len := len) (show t < 7 by omega) hn1 hn2 hA1 hw hq1 hQ hEE e9 (K := K') z
      clear hEE
      ((with_reducible refine i_Seq (i_Set (i_eIf (i_cI_le (i_L3 (i_I ?_)))))); (with_reducible refine i_t (by omega) ?_); (with_reducible refine i_Call (i_as1 (i_A0 (i_as1 (i_L1 (i_as1 (i_L2 (i_as1 (i_L3 (i_as0 ?_)))))))))); (with_reducible refine i_recv0 (by assumption) ?_); simp only [w_set0, w_set1, w_setn0, w_setn1])
      refine hgo _ (fun M2 f2 h2 => ⟨_, rfl, ?_⟩)
      clear hgo
      generalize zsv n A Q len (2 ^ E) = st at hb hk h2 ⊢
      obtain ⟨u, bh, bl⟩ := st
      dsimp only at hb hk h2 ⊢
      by_cases r : u = 0
      · rw [if_pos r, if_pos r] at hk
        rw [if_pos r]
        have rest : ∀ M3, (∀ b j, ¬ (b = ((266 : Nat) : Int) ∧ ((256 * t : Nat) : Int) ≤ j ∧ j < ((256 * t + 256 : Nat) : Int)) → M3 b j = M2 b j) → (∀ d : Nat, d < 256 → M3 ((266 : Nat) : Int) ((256 * t + d : Nat) : Int) = ((tv A (d / 16) (d % 16) : Nat) : Int)) → K (some (0, -2)) M3 := fun M3 f3 h3 => hk M3 (fun b j q => by rw [f3 b j (by omega), f2 b j (by omega), f1' b j (by omega)]) (by
          refine hA.to hn2 hw (fun b j q => ?_)
          by_cases z : b = ((266 : Nat) : Int) ∧ ((256 * t : Nat) : Int) ≤ j ∧ j < ((256 * t + 256 : Nat) : Int)
          · obtain ⟨d, rfl⟩ : ∃ d : Nat, j = ((256 * t + d : Nat) : Int) := ⟨(j - 256 * t).toNat, by omega⟩
            rw [z.1, h3 d (by omega), gv d (by omega)]
          · rw [f3 b j z, f2 b j (by omega), f1' b j (by omega)])
        clear hk h2 r
        ((with_reducible refine i_Seq (i_If (i_cZ_lt ?_))); rw [w_setT]; (with_reducible refine i_L4 ?_); (with_reducible refine i_t (by omega) ?_); (with_reducible refine i_Blk (i_Seq (i_Set (i_I ?_)))); simp only [w_set0, w_set1, w_setn0, w_setn1]; rw [w_setT])
        refine w_ForN 256 (fun c ρ M' => (∃ l, ρ = 250 :: ((t : Nat) : Int) :: len :: ((E : Nat) : Int) :: -2 :: ((c : Nat) : Int) :: l) ∧ (∀ b j, ¬ (b = ((266 : Nat) : Int) ∧ ((256 * t : Nat) : Int) ≤ j ∧ j < ((256 * t + 256 : Nat) : Int)) → M' b j = M2 b j) ∧ ∀ d : Nat, d < c → M' ((266 : Nat) : Int) ((256 * t + d : Nat) : Int) = ((tv A (d / 16) (d % 16) : Nat) : Int)) ⟨⟨_, rfl⟩, fun _ _ _ => rfl, fun d h => absurd h (Nat.not_lt_zero _)⟩ ?_ ?_
        · rintro c ρ M3 X2 hc ⟨⟨l2, rfl⟩, f3, h3⟩ hX2
          have g : M3 ((291 : Nat) : Int) ((c : Nat) : Int) = ((tv A (c / 16) (c % 16) : Nat) : Int) := by rw [f3 _ _ (by omega), f2 _ _ (by omega)]; exact h1 c hc
          have hv2 := hw.2.2.2.2 (c / 16) (c % 16)
          clear rest
          ((with_reducible refine i_turn (i_cI_lt (i_L5 (i_I ?_)))); (with_reducible refine i_t (by omega) ?_); (with_reducible refine i_sIA (i_FR (i_A0 ?_))); (with_reducible refine i_fldR (by assumption) ?_); (with_reducible refine i_Add (i_Mul (i_I (i_L1 (i_L5 (i_IA (i_FR (i_A0 ?_)))))))); (with_reducible refine i_fldR (by assumption) ?_); (with_reducible refine i_L5 ?_); (with_reducible refine i_in (by assumption) (by omega) (by omega) ?_); (rw [g]); rw [zx_cmul (by omega)]; rw [zx_add (by omega)]; (with_reducible refine i_in (by assumption) (by omega) (by omega) ?_); (with_reducible refine i_up (i_Inc5 ?_)); rw [zx_inc (by omega)]; simp only [w_set0, w_set1, w_setn0, w_setn1])
          refine hX2 _ _ ⟨⟨_, rfl⟩, fun b j q => by rw [zg_o _ _ (by omega)]; exact f3 b j q, fun d hd => ?_⟩
          by_cases z : d = c
          · rw [z, zg_s]
          · rw [zg_m _ _ _ _ _ (by omega)]; exact h3 d (by omega)
        · rintro ρ M3 X2 ⟨⟨l2, rfl⟩, f3, h3⟩
          ((with_reducible refine i_turn (i_cI_lt (i_L5 (i_I ?_)))); (with_reducible refine i_f (by omega) ?_); (with_reducible refine i_RetI (i_L4 ?_)))
          exact rest M3 f3 h3
      · rw [if_neg r, if_neg r] at hk
        rw [if_neg r]
        have h2' := h2 r
        ((with_reducible refine i_Seq (i_If (i_cZ_lt ?_))); rw [w_setT]; (with_reducible refine i_L4 ?_); (with_reducible refine i_f (by omega) ?_); (with_reducible refine i_RetI (i_L4 ?_)))
        exact hk M2 (fun b j q => by rw [f2 b j (by omega), f1' b j (by omega)]) h2'
    · rw [if_neg e9, if_neg e9] at hk
      have hgo := fun (K' : Option zV → zMem → Prop) z => m_serveMany hO hS (M := M1) (len := len) (E := E) (show t < 7 by omega) hn1 hn2 hA1 hw hq1 hQ (K := K') z
      have hb : (zsw2 n A Q len).2 ≤ 6000000 := Nat.le_trans (zsi_w (zTs_w hw 0) _).2.2 (zhm_B hn2 hQ)
      clear hEE
      ((with_reducible refine i_Seq (i_Set (i_eIf (i_cI_le (i_L3 (i_I ?_)))))); (with_reducible refine i_f (by omega) ?_); (with_reducible refine i_Call (i_as1 (i_A0 (i_as1 (i_L1 (i_as1 (i_L2 (i_as1 (i_L3 (i_as0 ?_)))))))))); (with_reducible refine i_recv0 (by assumption) ?_); simp only [w_set0, w_set1, w_setn0, w_setn1])
      refine hgo _ (fun M2 f2 h2 => ⟨_, rfl, ?_⟩)
      clear hgo
      generalize zsw2 n A Q len = st at hb hk h2 ⊢
      generalize tLen n (zTs A 0) = v at hk h2 ⊢
      obtain ⟨B, bh⟩ := st
      dsimp only at hb hk h2 ⊢
      by_cases r : len < ((v : Nat) : Int)
      · rw [if_pos r, if_pos r] at hk
        rw [if_pos r]
        have rest : ∀ M3, (∀ b j, ¬ (b = ((266 : Nat) : Int) ∧ ((256 * t : Nat) : Int) ≤ j ∧ j < ((256 * t + 256 : Nat) : Int)) → M3 b j = M2 b j) → (∀ d : Nat, d < 256 → M3 ((266 : Nat) : Int) ((256 * t + d : Nat) : Int) = ((tv A (d / 16) (d % 16) : Nat) : Int)) → K (some (0, -2)) M3 := fun M3 f3 h3 => hk M3 (fun b j q => by rw [f3 b j (by omega), f2 b j (by omega), f1' b j (by omega)]) (by
          refine hA.to hn2 hw (fun b j q => ?_)
          by_cases z : b = ((266 : Nat) : Int) ∧ ((256 * t : Nat) : Int) ≤ j ∧ j < ((256 * t + 256 : Nat) : Int)
          · obtain ⟨d, rfl⟩ : ∃ d : Nat, j = ((256 * t + d : Nat) : Int) := ⟨(j - 256 * t).toNat, by omega⟩
            rw [z.1, h3 d (by omega), gv d (by omega)]
          · rw [f3 b j z, f2 b j (by omega), f1' b j (by omega)])
        clear hk h2 r
        ((with_reducible refine i_Seq (i_If (i_cZ_lt ?_))); rw [w_setT]; (with_reducible refine i_L4 ?_); (with_reducible refine i_t (by omega) ?_); (with_reducible refine i_Blk (i_Seq (i_Set (i_I ?_)))); simp only [w_set0, w_set1, w_setn0, w_setn1]; rw [w_setT])
        refine w_ForN 256 (fun c ρ M' => (∃ l, ρ = 250 :: ((t : Nat) : Int) :: len :: ((E : Nat) : Int) :: -2 :: ((c : Nat) : Int) :: l) ∧ (∀ b j, ¬ (b = ((266 : Nat) : Int) ∧ ((256 * t : Nat) : Int) ≤ j ∧ j < ((256 * t + 256 : Nat) : Int)) → M' b j = M2 b j) ∧ ∀ d : Nat, d < c → M' ((266 : Nat) : Int) ((256 * t + d : Nat) : Int) = ((tv A (d / 16) (d % 16) : Nat) : Int)) ⟨⟨_, rfl⟩, fun _ _ _ => rfl, fun d h => absurd h (Nat.not_lt_zero _)⟩ ?_ ?_
        · rintro c ρ M3 X2 hc ⟨⟨l2, rfl⟩, f3, h3⟩ hX2
          have g : M3 ((291 : Nat) : Int) ((c : Nat) : Int) = ((tv A (c / 16) (c % 16) : Nat) : Int) := by rw [f3 _ _ (by omega), f2 _ _ (by omega)]; exact h1 c hc
          have hv2 := hw.2.2.2.2 (c / 16) (c % 16)
          clear rest
          ((with_reducible refine i_turn (i_cI_lt (i_L5 (i_I ?_)))); (with_reducible refine i_t (by omega) ?_); (with_reducible refine i_sIA (i_FR (i_A0 ?_))); (with_reducible refine i_fldR (by assumption) ?_); (with_reducible refine i_Add (i_Mul (i_I (i_L1 (i_L5 (i_IA (i_FR (i_A0 ?_)))))))); (with_reducible refine i_fldR (by assumption) ?_); (with_reducible refine i_L5 ?_); (with_reducible refine i_in (by assumption) (by omega) (by omega) ?_); (rw [g]); rw [zx_cmul (by omega)]; rw [zx_add (by omega)]; (with_reducible refine i_in (by assumption) (by omega) (by omega) ?_); (with_reducible refine i_up (i_Inc5 ?_)); rw [zx_inc (by omega)]; simp only [w_set0, w_set1, w_setn0, w_setn1])
          refine hX2 _ _ ⟨⟨_, rfl⟩, fun b j q => by rw [zg_o _ _ (by omega)]; exact f3 b j q, fun d hd => ?_⟩
          by_cases z : d = c
          · rw [z, zg_s]
          · rw [zg_m _ _ _ _ _ (by omega)]; exact h3 d (by omega)
        · rintro ρ M3 X2 ⟨⟨l2, rfl⟩, f3, h3⟩
          ((with_reducible refine i_turn (i_cI_lt (i_L5 (i_I ?_)))); (with_reducible refine i_f (by omega) ?_); (with_reducible refine i_RetI (i_L4 ?_)))
          exact rest M3 f3 h3
      · rw [if_neg r, if_neg r] at hk
        rw [if_neg r]
        have h2' := h2 r
        ((with_reducible refine i_Seq (i_If (i_cZ_lt ?_))); rw [w_setT]; (with_reducible refine i_L4 ?_); (with_reducible refine i_f (by omega) ?_); (with_reducible refine i_RetI (i_L4 ?_)))
        exact hk M2 (fun b j q => by rw [f2 b j (by omega), f1' b j (by omega)]) h2'
end
section
-- part g9.ctop.lean.txt
/-! ===== the class: length, harm, served ===== -/
theorem c_find {O : zOm} (hO : zWld O) (hS : zS O = zmS zC0) {t : Int} {T : Nat} {M : zMem} {K : Option zV → zMem → Prop} (hT : M ((0 : Nat) : Int) ((4 : Nat) : Int) = ((T : Nat) : Int)) (hT5 : T ≤ 5) (h0 : ¬ (0 ≤ t ∧ t < ((T : Nat) : Int)) → K (some (2, -1)) M) (h1 : ∀ k : Nat, t = k → k < T → K (some (2, ((185 + 13 * k : Nat) : Int))) M) : zR O F_ToldNet_find [(2, ((0 : Nat) : Int)), (0, t)] M K := by
  apply r_ToldNet_find hO
  unfold B_ToldNet_find
  have f0_4 := zf_0_4 hS; have f0_3 := zf_0_3 hS; have z0 := zo_0 hS
  by_cases hx : 0 ≤ t ∧ t < ((T : Nat) : Int)
  · obtain ⟨k, rfl⟩ : ∃ k : Nat, t = k := ⟨t.toNat, by omega⟩
    have h2 := h1 k rfl (by omega)
    ((with_reducible refine i_RetR (i_eIf (i_cOr (i_cZ_lt (i_L1 ?_))))); (with_reducible refine i_f (by omega) ?_); (with_reducible refine i_cI_ge (i_L1 (i_F (i_A0 ?_)))); (with_reducible refine i_fld (by assumption) ?_); (rw [hT]); (with_reducible refine i_f (by omega) ?_); (with_reducible refine i_RA (i_FR (i_A0 ?_))); (with_reducible refine i_fldR (by assumption) ?_); (with_reducible refine i_L1 ?_); (refine i_ra (zPr_tel hS (show k < 5 by omega)) ?_))
    exact h2
  · have h2 := h0 hx
    repeat' (first | (with_reducible first | (show zew _ _ _ _ _ _; first | (show zew (zeL _) _ _ _ _ _; first | refine i_L0 ?_ | refine i_L1 ?_ | refine i_L2 ?_ | refine i_L3 ?_ | refine i_L4 ?_ | refine i_L5 ?_ | refine i_L6 ?_ | refine i_L7 ?_ | refine i_L8 ?_ | refine i_L9 ?_ | refine i_L10 ?_ | refine i_L11 ?_ | refine i_L12 ?_ | refine i_L13 ?_ | refine i_L14 ?_) | (show zew (zeA _) _ _ _ _ _; first | refine i_A0 ?_ | refine i_A1 ?_ | refine i_A2 ?_ | refine i_A3 ?_ | refine i_A4 ?_ | refine i_A5 ?_ | refine i_A6 ?_ | refine i_A7 ?_ | refine i_A8 ?_ | refine i_A9 ?_ | refine i_A10 ?_ | refine i_A11 ?_ | refine i_A12 ?_ | refine i_A13 ?_ | refine i_A14 ?_) | refine i_I ?_ | refine i_F ?_ | refine i_FR ?_ | refine i_IA ?_ | refine i_Add ?_ | refine i_Sub ?_ | refine i_And ?_ | refine i_Len ?_ | refine i_Call ?_ | refine i_RA ?_ | refine i_Ldc ?_ | refine i_LdcL ?_ | refine i_IL ?_ | refine i_Null ?_ | refine i_Mul ?_ | refine i_Div ?_ | refine i_Rem ?_ | refine i_Or ?_ | refine i_Xor ?_ | refine i_Shl ?_ | refine i_Shr ?_ | refine i_Ushr ?_ | refine i_AddL ?_ | refine i_SubL ?_ | refine i_MulL ?_ | refine i_CmpL ?_ | refine i_Neg ?_ | refine i_I2L ?_ | refine i_L2I ?_ | refine i_I2B ?_ | refine i_ZA ?_ | refine i_BA ?_ | refine i_LA ?_ | refine i_MM ?_ | refine i_eIf ?_ | refine i_Ll0 ?_ | refine i_Ll1 ?_ | refine i_Ll2 ?_ | refine i_Ll3 ?_ | refine i_Ll4 ?_ | refine i_Ll5 ?_ | refine i_Ll6 ?_ | refine i_Ll7 ?_ | refine i_Ll8 ?_ | refine i_Ll9 ?_ | refine i_Ll10 ?_ | refine i_Ll11 ?_ | refine i_Ll12 ?_ | refine i_Ll13 ?_ | refine i_Ll14 ?_) | (show zsw _ _ _ _ _ _ _ _; first | refine i_Seq ?_ | refine i_Blk ?_ | refine i_Set ?_ | refine i_If ?_ | refine i_sCall ?_ | refine i_RetV ?_ | refine i_RetI ?_ | refine i_sIA ?_ | refine i_sF ?_ | refine i_Skip ?_ | refine i_FO ?_ | refine i_sLA ?_ | refine i_sZA ?_ | refine i_sBA ?_ | refine i_IO ?_ | refine i_Pop ?_ | refine i_Copy ?_ | refine i_RetZ ?_ | refine i_RetL ?_ | refine i_RetR ?_ | refine i_Ite ?_ | refine i_IteD ?_ | refine i_IfR ?_ | refine i_Brk ?_ | refine i_IfBrk ?_ | refine i_Sw ?_ | refine i_Inc0 ?_ | refine i_Inc1 ?_ | refine i_Inc2 ?_ | refine i_Inc3 ?_ | refine i_Inc4 ?_ | refine i_Inc5 ?_ | refine i_Inc6 ?_ | refine i_Inc7 ?_ | refine i_Inc8 ?_ | refine i_Inc9 ?_ | refine i_Inc10 ?_ | refine i_Inc11 ?_ | refine i_Inc12 ?_ | refine i_Inc13 ?_ | refine i_Inc14 ?_) | (show zcw _ _ _ _ _ _ _; first | refine i_cN ?_ | refine i_cNot ?_ | refine i_cAnd ?_ | refine i_cOr ?_ | refine i_cIf ?_ | refine i_cI_eq ?_ | refine i_cI_ne ?_ | refine i_cI_lt ?_ | refine i_cI_ge ?_ | refine i_cI_gt ?_ | refine i_cI_le ?_ | refine i_cZ_eq ?_ | refine i_cZ_ne ?_ | refine i_cZ_lt ?_ | refine i_cZ_ge ?_ | refine i_cZ_gt ?_ | refine i_cZ_le ?_) | refine i_as0 ?_ | refine i_as1 ?_ | refine i_sw0 ?_ | refine i_sw1 ?_ | refine i_lab0 ?_ | refine i_lab1 ?_ | refine i_lab2 ?_ | refine i_lb0 ?_ | refine i_lb1 ?_ | refine i_recv1 ?_ | refine i_recv2 ?_ | refine i_turn ?_ | refine i_up ?_) | (with_reducible refine i_z (Or.inl rfl) ?_) | (with_reducible refine i_z (Or.inr rfl) ?_) | (with_reducible refine i_z (zbI_01 _) ?_) | (with_reducible refine i_zin (Or.inl rfl) (by assumption) (by omega) (by omega) ?_) | (with_reducible refine i_zin (Or.inr rfl) (by assumption) (by omega) (by omega) ?_) | (with_reducible refine i_zin (zbI_01 _) (by assumption) (by omega) (by omega) ?_) | (with_reducible refine i_zin (by assumption) (by assumption) (by omega) (by omega) ?_) | (with_reducible refine i_recv0 (by assumption) ?_) | (with_reducible refine i_fld (by assumption) ?_) | (with_reducible refine i_fldR (by assumption) ?_) | (with_reducible refine i_in (by assumption) (by omega) (by omega) ?_) | (with_reducible refine i_copy (by assumption) (by assumption) (by omega) ?_) | (with_reducible refine i_len (by assumption) (by omega) ?_) | rw [zbI_t] | rw [zbI_f] | rw [zg_s] | rw [zg_n _ _ _ (by omega)] | rw [zg_m _ _ _ _ _ (by omega)] | rw [zg_o _ _ (by omega)] | (rw [hT]) | rw [zx_inc (by omega)] | rw [zx_addc (by omega)] | rw [zx_cadd (by omega)] | rw [zx_add (by omega)] | rw [zx_subc (by omega) (by omega)] | rw [zx_sub (by omega) (by omega)] | rw [zx_mulc (by omega)] | rw [zx_cmul (by omega)] | rw [zx_divc (by omega)] | rw [zx_modc] | rw [zx_s (by omega) (by omega)] | simp only [w_set0, w_set1, w_setn0, w_setn1] | rw [w_setT] | (with_reducible refine i_t trivial ?_) | (with_reducible refine i_f not_false ?_) | (with_reducible refine i_t (by omega) ?_) | (with_reducible refine i_f (by omega) ?_) | (with_reducible refine i_z (Or.inl rfl) ?_) | (with_reducible refine i_z (Or.inr rfl) ?_) | (with_reducible refine i_nn (by decide) ?_) | (with_reducible refine i_bb ?_ <;> intro hc) | (with_reducible refine i_dne ?_ ?_ <;> intro hc) | (with_reducible refine i_deq ?_ ?_ <;> intro hc) | (with_reducible refine i_bne ?_ ?_ <;> intro hc) | (with_reducible refine i_beq ?_ ?_ <;> intro hc) | (with_reducible refine i_br ?_ ?_ <;> intro hc))
    all_goals first | exact h2 | (exfalso; omega)
theorem c_length_bad {O : zOm} (hO : zWld O) (hS : zS O = zmS zC0) {t : Int} {T : Nat} {M : zMem} {K : Option zV → zMem → Prop} (hT : M ((0 : Nat) : Int) ((4 : Nat) : Int) = ((T : Nat) : Int)) (hT5 : T ≤ 5) (ht : ¬ (0 ≤ t ∧ t < ((T : Nat) : Int))) (hk : K (some (0, -1)) M) : zR O F_ToldNet_length [(2, ((0 : Nat) : Int)), (0, t)] M K := by
  apply r_ToldNet_length hO
  unfold B_ToldNet_length
  have f0_8 := zf_0_8 hS; have z0 := zo_0 hS; have z134 := zo_134 hS
  ((with_reducible refine i_Seq (i_Set (i_Call (i_as1 (i_A0 (i_as1 (i_L1 (i_as0 ?_)))))))); (with_reducible refine i_recv0 (by assumption) ?_); simp only [w_set0, w_set1, w_setn0, w_setn1])
  refine c_find hO hS hT hT5 (fun hx => ⟨_, rfl, ?_⟩) (fun k e hk1 => absurd (show 0 ≤ t ∧ t < ((T : Nat) : Int) by omega) ht)
  ((with_reducible refine i_RetI (i_eIf (i_cN (i_A2 ?_)))); simp only [w_set0, w_set1, w_setn0, w_setn1]; (with_reducible refine i_t trivial ?_); (with_reducible refine i_I ?_))
  exact hk
theorem c_length {O : zOm} (hO : zWld O) (hS : zS O = zmS zC0) {t T n : Nat} {A : zTl} {M : zMem} {K : Option zV → zMem → Prop} (hT : M ((0 : Nat) : Int) ((4 : Nat) : Int) = ((T : Nat) : Int)) (hT5 : T ≤ 5) (ht : t < T) (hn2 : n ≤ 16) (hA : zTR M (185 + 13 * t) n A) (hw : zTw n A) (hC : cSo M)
    (hk : ∀ M', (∀ b j, ¬ (b = ((134 : Nat) : Int) ∧ j = 6 ∨ ((135 : Nat) : Int) ≤ b ∧ b ≤ ((146 : Nat) : Int)) → M' b j = M b j) → cSo M' → K (some (0, ((tLen n A : Nat) : Int))) M') : zR O F_ToldNet_length [(2, ((0 : Nat) : Int)), (0, ((t : Nat) : Int))] M K := by
  have hx := zTelT hS (show t < 5 by omega)
  have hx0 := hx.1.1
  have hln := tLen_b hn2 hw
  obtain ⟨⟨o134, -⟩, -⟩ := zO134_ok hS
  apply r_ToldNet_length hO
  unfold B_ToldNet_length
  have f0_8 := zf_0_8 hS; have z0 := zo_0 hS; have z134 := zo_134 hS
  ((with_reducible refine i_Seq (i_Set (i_Call (i_as1 (i_A0 (i_as1 (i_L1 (i_as0 ?_)))))))); (with_reducible refine i_recv0 (by assumption) ?_); simp only [w_set0, w_set1, w_setn0, w_setn1])
  refine c_find hO hS hT hT5 (fun hx => absurd (show 0 ≤ ((t : Nat) : Int) ∧ ((t : Nat) : Int) < ((T : Nat) : Int) by omega) hx) (fun k e hk1 => ⟨_, rfl, ?_⟩)
  rw [show k = t by omega]
  ((with_reducible refine i_RetI (i_eIf (i_cN (i_A2 ?_)))); (with_reducible refine i_f (by omega) ?_); (with_reducible refine i_Call (i_as1 (i_FR (i_A0 ?_)))); (with_reducible refine i_fldR (by assumption) ?_); (with_reducible refine i_as1 (i_A2 (i_as0 ?_))); (with_reducible refine i_recv0 (by assumption) ?_))
  refine c_measure hO hS hx (by omega) hA hn2 hw hC (fun M1 f1 h1 => ⟨_, rfl, ?_⟩)
  (skip)
  exact hk M1 (fun b j q => f1 b j (by omega)) h1.so
theorem c_harm_bad {O : zOm} (hO : zWld O) (hS : zS O = zmS zC0) {t : Int} {T : Nat} {M : zMem} {K : Option zV → zMem → Prop} (hT : M ((0 : Nat) : Int) ((4 : Nat) : Int) = ((T : Nat) : Int)) (hT5 : T ≤ 5) (ht : ¬ (0 ≤ t ∧ t < ((T : Nat) : Int))) (hk : K (some (0, -1)) M) : zR O F_ToldNet_harm [(2, ((0 : Nat) : Int)), (0, t)] M K := by
  apply r_ToldNet_harm hO
  unfold B_ToldNet_harm
  have f0_8 := zf_0_8 hS; have f0_9 := zf_0_9 hS; have z0 := zo_0 hS; have z134 := zo_134 hS; have z148 := zo_148 hS
  ((with_reducible refine i_Seq (i_Set (i_Call (i_as1 (i_A0 (i_as1 (i_L1 (i_as0 ?_)))))))); (with_reducible refine i_recv0 (by assumption) ?_); simp only [w_set0, w_set1, w_setn0, w_setn1])
  refine c_find hO hS hT hT5 (fun hx => ⟨_, rfl, ?_⟩) (fun k e hk1 => absurd (show 0 ≤ t ∧ t < ((T : Nat) : Int) by omega) ht)
  ((with_reducible refine i_Seq (i_If (i_cN (i_A2 ?_)))); simp only [w_set0, w_set1, w_setn0, w_setn1]; (with_reducible refine i_t trivial ?_); (with_reducible refine i_RetI (i_I ?_)))
  exact hk
theorem c_harm {O : zOm} (hO : zWld O) (hS : zS O = zmS zC0) {t T n : Nat} {A : zTl} {Q : zQl} {M : zMem} {K : Option zV → zMem → Prop} (hT : M ((0 : Nat) : Int) ((4 : Nat) : Int) = ((T : Nat) : Int)) (hT5 : T ≤ 5) (ht : t < T) (hn1 : 0 < n) (hn2 : n ≤ 16) (hA : zTR M (185 + 13 * t) n A) (hw : zTw n A) (hC : cSo M) (hq : cQs M Q) (hQ : zQs n Q)
    (hk : ∀ M', (∀ b j, ¬ (b = ((134 : Nat) : Int) ∧ (j = 6 ∨ j = 7) ∨ ((135 : Nat) : Int) ≤ b ∧ b ≤ ((146 : Nat) : Int)) → M' b j = M b j) → cSo M' → K (some (0, ((zhm n A Q : Nat) : Int))) M') : zR O F_ToldNet_harm [(2, ((0 : Nat) : Int)), (0, ((t : Nat) : Int))] M K := by
  have hx := zTelT hS (show t < 5 by omega)
  have hx0 := hx.1.1
  obtain ⟨⟨o134, -⟩, -⟩ := zO134_ok hS
  obtain ⟨⟨o148, -⟩, -⟩ := zO148_ok hS
  have hhm := zhm_B (A := A) hn2 hQ
  apply r_ToldNet_harm hO
  unfold B_ToldNet_harm
  have f0_8 := zf_0_8 hS; have f0_9 := zf_0_9 hS; have z0 := zo_0 hS; have z134 := zo_134 hS; have z148 := zo_148 hS
  ((with_reducible refine i_Seq (i_Set (i_Call (i_as1 (i_A0 (i_as1 (i_L1 (i_as0 ?_)))))))); (with_reducible refine i_recv0 (by assumption) ?_); simp only [w_set0, w_set1, w_setn0, w_setn1])
  refine c_find hO hS hT hT5 (fun hx => absurd (show 0 ≤ ((t : Nat) : Int) ∧ ((t : Nat) : Int) < ((T : Nat) : Int) by omega) hx) (fun k e hk1 => ⟨_, rfl, ?_⟩)
  rw [show k = t by omega]
  ((with_reducible refine i_Seq (i_If (i_cN (i_A2 ?_)))); (with_reducible refine i_f (by omega) ?_); (with_reducible refine i_Seq (i_sCall (i_as1 (i_FR (i_A0 ?_))))); (with_reducible refine i_fldR (by assumption) ?_); (with_reducible refine i_as1 (i_A2 (i_as0 ?_))); (with_reducible refine i_recv0 (by assumption) ?_))
  refine c_take hO hS hx (by omega) hA hn2 hw hC (fun M1 f1 h1 => ⟨rfl, ?_⟩)
  have hA1 : zTR M1 (185 + 13 * t) n A := hA.to (fun b j a1 a2 => f1 b j (by omega))
  ((with_reducible refine i_RetI (i_Call (i_as1 (i_FR (i_A0 ?_))))); (with_reducible refine i_fldR (by assumption) ?_); (with_reducible refine i_as1 (i_A2 (i_as1 (i_FR (i_A0 ?_))))); (with_reducible refine i_fldR (by assumption) ?_); (with_reducible refine i_as0 ?_); (with_reducible refine i_recv0 (by assumption) ?_))
  refine c_harmBy hO hS hx (by omega) hA1.1.1 hn1 hn2 hw (hq.to (fun b j q => f1 b j (by omega))) hQ h1 (fun M2 f2 h2 => ⟨_, rfl, ?_⟩)
  (skip)
  exact hk M2 (fun b j q => by rw [f2 b j (by omega), f1 b j (by omega)]) h2.so
theorem c_serve_bad {O : zOm} (hO : zWld O) (hS : zS O = zmS zC0) {t len : Int} {T : Nat} {M : zMem} {K : Option zV → zMem → Prop} (hT : M ((0 : Nat) : Int) ((4 : Nat) : Int) = ((T : Nat) : Int)) (hT5 : T ≤ 5) (ht : ¬ (0 ≤ t ∧ t < ((T : Nat) : Int))) (hk : K (some (0, -1)) M) : zR O F_ToldNet_serve [(2, ((0 : Nat) : Int)), (0, t), (0, len)] M K := by
  apply r_ToldNet_serve hO
  unfold B_ToldNet_serve
  have f0_9 := zf_0_9 hS; have f0_8 := zf_0_8 hS; have z0 := zo_0 hS; have z148 := zo_148 hS
  ((with_reducible refine i_Seq (i_Set (i_Call (i_as1 (i_A0 (i_as1 (i_L1 (i_as0 ?_)))))))); (with_reducible refine i_recv0 (by assumption) ?_); simp only [w_set0, w_set1, w_setn0, w_setn1])
  refine c_find hO hS hT hT5 (fun hx => ⟨_, rfl, ?_⟩) (fun k e hk1 => absurd (show 0 ≤ t ∧ t < ((T : Nat) : Int) by omega) ht)
  ((with_reducible refine i_Seq (i_If (i_cN (i_A3 ?_)))); simp only [w_set0, w_set1, w_setn0, w_setn1]; (with_reducible refine i_t trivial ?_); (with_reducible refine i_RetI (i_I ?_)))
  exact hk
theorem c_serve {O : zOm} (hO : zWld O) (hS : zS O = zmS zC0) {t T n : Nat} {len : Int} {A : zTl} {Q : zQl} {M : zMem} {K : Option zV → zMem → Prop} (hT : M ((0 : Nat) : Int) ((4 : Nat) : Int) = ((T : Nat) : Int)) (hT5 : T ≤ 5) (ht : t < T) (hn1 : 0 < n) (hn2 : n ≤ 16) (hA : zTR M (185 + 13 * t) n A) (hw : zTw n A) (hC : cSo M) (hq : cQs M Q) (hQ : zQs n Q)
    (hk : ∀ M', (∀ b j, ¬ (b = ((148 : Nat) : Int) ∧ j = 6 ∨ ((153 : Nat) : Int) ≤ b ∧ b ≤ ((155 : Nat) : Int) ∨ b = ((134 : Nat) : Int) ∧ (j = 6 ∨ j = 7) ∨ ((135 : Nat) : Int) ≤ b ∧ b ≤ ((146 : Nat) : Int) ∨ ((185 + 13 * t + 11 : Nat) : Int) ≤ b ∧ b ≤ ((185 + 13 * t + 12 : Nat) : Int)) → M' b j = M b j) → cSo M' → zTR M' (185 + 13 * t) n (zsA n A Q len (zcnt (tX A) 256)) → K (some (0, zsR n A Q len (zcnt (tX A) 256))) M') : zR O F_ToldNet_serve [(2, ((0 : Nat) : Int)), (0, ((t : Nat) : Int)), (0, len)] M K := by
  have hx := zTelT hS (show t < 5 by omega)
  have hx0 := hx.1.1
  obtain ⟨⟨o134, -⟩, -⟩ := zO134_ok hS
  obtain ⟨⟨o148, -⟩, -⟩ := zO148_ok hS
  unfold zsR zsA at hk
  have hE2 := tX_120 hn2 hw
  apply r_ToldNet_serve hO
  unfold B_ToldNet_serve
  have f0_9 := zf_0_9 hS; have f0_8 := zf_0_8 hS; have z0 := zo_0 hS; have z148 := zo_148 hS
  ((with_reducible refine i_Seq (i_Set (i_Call (i_as1 (i_A0 (i_as1 (i_L1 (i_as0 ?_)))))))); (with_reducible refine i_recv0 (by assumption) ?_); simp only [w_set0, w_set1, w_setn0, w_setn1])
  refine c_find hO hS hT hT5 (fun hx => absurd (show 0 ≤ ((t : Nat) : Int) ∧ ((t : Nat) : Int) < ((T : Nat) : Int) by omega) hx) (fun k e hk1 => ⟨_, rfl, ?_⟩)
  rw [show k = t by omega]
  have hbe := fun (K' : Option zV → zMem → Prop) (E : Nat) (hE : zcnt (tX A) 256 = E) z => c_begin hO hS hx (show 165 < 185 + 13 * t by omega) hA hn2 hw hE (K := K') z
  generalize hEE : zcnt (tX A) 256 = E at hk hE2
  have hbe2 := fun K' => hbe K' E hEE
  clear hbe
  ((with_reducible refine i_Seq (i_If (i_cN (i_A3 ?_)))); (with_reducible refine i_f (by omega) ?_); (with_reducible refine i_RetI (i_eIf (i_cZ_ne (i_Call (i_as1 (i_FR (i_A0 ?_))))))); (with_reducible refine i_fldR (by assumption) ?_); (with_reducible refine i_as1 (i_A3 (i_as0 ?_))); (with_reducible refine i_recv0 (by assumption) ?_))
  refine hbe2 _ (fun M1 f1 hB1 hL1 => ⟨_, rfl, ?_⟩)
  clear hbe2
  have hA1 : zTR M1 (185 + 13 * t) n A := hA.to (fun b j a1 a2 => f1 b j (by omega))
  have hC1 : cSo M1 := hC.to (fun b j q => f1 b j (by omega))
  have hq1 : cQs M1 Q := hq.to (fun b j q => f1 b j (by omega))
  by_cases e9 : E ≤ 9
  · rw [if_pos e9, if_pos e9] at hk
    rw [decide_eq_true e9]
    have hb := zsv_b hn2 hw hQ len (2 ^ E)
    have hgo := fun (K' : Option zV → zMem → Prop) z => c_serveBest hO hS (len := len) hx (show 165 < 185 + 13 * t by omega) hA1 hn1 hn2 hw hq1 hQ hC1 hL1 hEE e9 hB1 (K := K') z
    clear hEE
    (rw [zbI_t]; (with_reducible refine i_t (by omega) ?_); (with_reducible refine i_Call (i_as1 (i_FR (i_A0 ?_)))); (with_reducible refine i_fldR (by assumption) ?_); (with_reducible refine i_as1 (i_A3 (i_as1 (i_FR (i_A0 ?_))))); (with_reducible refine i_fldR (by assumption) ?_); (with_reducible refine i_as1 (i_L2 (i_as0 ?_))); (with_reducible refine i_recv0 (by assumption) ?_))
    refine hgo _ (fun M2 f2 h2 hA2 => ⟨_, rfl, ?_⟩)
    have hk2 := hk M2 (fun b j q => by rw [f2 b j (by omega), f1 b j (by omega)]) h2 hA2
    clear hgo hk hA2
    generalize zsv n A Q len (2 ^ E) = st at hb hk2 ⊢
    obtain ⟨u, bh, bl⟩ := st
    dsimp only at hb hk2 ⊢
    by_cases r : u = 0
    · rw [if_pos r] at hk2 ⊢
      (skip)
      exact hk2
    · rw [if_neg r] at hk2 ⊢
      (skip)
      exact hk2
  · rw [if_neg e9, if_neg e9] at hk
    rw [decide_eq_false e9]
    have hb : (zsw2 n A Q len).2 ≤ 6000000 := Nat.le_trans (zsi_w (zTs_w hw 0) _).2.2 (zhm_B hn2 hQ)
    have hgo := fun (K' : Option zV → zMem → Prop) z => c_serveSteps hO hS (len := len) hx (show 165 < 185 + 13 * t by omega) hA1 hn1 hn2 hw hq1 hQ hC1 hL1 hEE hB1 (K := K') z
    clear hEE
    (rw [zbI_f]; (with_reducible refine i_f (by omega) ?_); (with_reducible refine i_Call (i_as1 (i_FR (i_A0 ?_)))); (with_reducible refine i_fldR (by assumption) ?_); (with_reducible refine i_as1 (i_A3 (i_as1 (i_FR (i_A0 ?_))))); (with_reducible refine i_fldR (by assumption) ?_); (with_reducible refine i_as1 (i_L2 (i_as0 ?_))); (with_reducible refine i_recv0 (by assumption) ?_))
    refine hgo _ (fun M2 f2 h2 hA2 => ⟨_, rfl, ?_⟩)
    have hk2 := hk M2 (fun b j q => by rw [f2 b j (by omega), f1 b j (by omega)]) h2 hA2
    clear hgo hk hA2
    generalize zsw2 n A Q len = st at hb hk2 ⊢
    generalize tLen n (zTs A 0) = v at hk2 ⊢
    obtain ⟨B, bh⟩ := st
    dsimp only at hb hk2 ⊢
    by_cases r : len < ((v : Nat) : Int)
    · rw [if_pos r] at hk2 ⊢
      (skip)
      exact hk2
    · rw [if_neg r] at hk2 ⊢
      (skip)
      exact hk2
end
