/-! ===== served step by step: the class ===== -/
theorem zTR.fore {M M' : zMem} {x n : Nat} {A : zTl} {v : Nat → Nat → Nat} (h : zTR M x n A) (hv : ∀ a b, v a b = 0 ↔ tv A a b = 0) (hf : ∀ b j, ¬ (((x + 11 : Nat) : Int) ≤ b ∧ b ≤ ((x + 12 : Nat) : Int)) → M' b j = M b j) (hl : zNR M' (x + 11) n (fun p q => decide (tvs (zTv A v) p q = 2))) : zTR M' x n (zTv A v) := by
  obtain ⟨h1, h2, h3, h4, h5, h6⟩ := h
  refine ⟨zPR.fr h1 (fun b j a1 a2 => hf b j (by omega)), fun b k hb hk2 => by rw [hf _ _ (by omega)]; exact h2 b k hb hk2, ⟨h3.1.to (fun j => hf _ _ (by omega)) (fun j => hf _ _ (by omega)), h3.2⟩, h4.to (fun b j a1 a2 => hf b j (by omega)), (h5.to (fun b j a1 a2 => hf b j (by omega))).ext (fun p q hp hq => ?_), hl⟩
  show decide ((if p < q then tv A p q else tv A q p) ≠ 0) = decide ((if p < q then v p q else v q p) ≠ 0)
  refine decide_eq_decide.mpr (not_congr ?_)
  split
  · exact (hv _ _).symm
  · exact (hv _ _).symm
theorem tvs_0 (A : zTl) (p q : Nat) : decide (tvs A p q ≠ 0) = decide (tvs (zTs A 0) p q = 2) := by
  show decide ((if p < q then tv A p q else tv A q p) ≠ 0) = decide ((if p < q then tv (zTs A 0) p q else tv (zTs A 0) q p) = 2)
  have key : ∀ a b, decide (tv A a b ≠ 0) = decide (tv (zTs A 0) a b = 2) := fun a b => by
    rw [zTs_z]
    by_cases e : tv A a b = 0
    · rw [if_pos e, e]; rfl
    · rw [if_neg e, decide_eq_true e]; rfl
  split
  · exact key _ _
  · exact key _ _
theorem zst_eq (n : Nat) (B : zTl) (Q : zQl) (len : Int) (h : Nat) {a b : Nat} (hab : a ≤ b) (hz : zcnt (tX B) a = zcnt (tX B) b) : zst n B Q len h a = zst n B Q len h b := by
  induction b with
  | zero =>
    have : a = 0 := by omega
    rw [this]
  | succ b ih =>
    by_cases e : a = b + 1
    · rw [e]
    · have ha : a ≤ b := by omega
      have h1 := zcnt_mono (tX B) ha
      have h2 := zcnt_su (tX B) b
      by_cases z : tX B b = true
      · rw [if_pos z] at h2; omega
      · rw [if_neg z] at h2
        rw [ih ha (by omega), zst_su, if_neg (fun y => z (show decide (tv B (b / 16) (b % 16) ≠ 0) = true from decide_eq_true (by rw [y.1]; decide)))]
theorem zst_eq' (n : Nat) (B : zTl) (Q : zQl) (len : Int) (h : Nat) {a b : Nat} (hz : zcnt (tX B) a = zcnt (tX B) b) : zst n B Q len h a = zst n B Q len h b := (Nat.le_total a b).elim (fun y => zst_eq n B Q len h y hz) (fun y => (zst_eq n B Q len h y hz.symm).symm)
theorem zcnt_lt3 {W : Nat → Bool} {c N : Nat} (h : W c = true) (hc : c < N) : zcnt W c < zcnt W N := by
  have h1 := zcnt_su W c
  rw [if_pos h] at h1
  have h2 := zcnt_mono W (show c + 1 ≤ N by omega)
  omega
theorem c_serveSteps {O : zOm} (hO : zWld O) (hS : zS O = zmS zC0) {x n E : Nat} {len : Int} {A : zTl} {Q : zQl} {M : zMem} {K : Option zV → zMem → Prop} (hx : zTeC (zS O) x) (hx7 : 165 < x) (hA : zTR M x n A) (hn1 : 0 < n) (hn2 : n ≤ 16) (hw : zTw n A) (hq : cQs M Q) (hQ : zQs n Q) (hC : cSo M) (hL : cLs M (tX A) E) (hE : zcnt (tX A) 256 = E) (hB : zNR M 154 n (fun p q => decide (tvs A p q = 2)))
    (hk : ∀ M', (∀ b j, ¬ (b = ((134 : Nat) : Int) ∧ (j = 6 ∨ j = 7) ∨ ((135 : Nat) : Int) ≤ b ∧ b ≤ ((146 : Nat) : Int) ∨ ((x + 11 : Nat) : Int) ≤ b ∧ b ≤ ((x + 12 : Nat) : Int)) → M' b j = M b j) → cSo M' → zTR M' x n (if len < ((tLen n (zTs A 0) : Nat) : Int) then A else (zsw2 n A Q len).1) → K (some (0, if len < ((tLen n (zTs A 0) : Nat) : Int) then -2 else (((zsw2 n A Q len).2 : Nat) : Int))) M') : zR O F_Reader_serveSteps [(2, ((148 : Nat) : Int)), (2, ((x : Nat) : Int)), (2, ((134 : Nat) : Int)), (0, len)] M K := by
  obtain ⟨⟨s0, s1, s2, s3, s4, s5, s6, s7, s8⟩, ⟨t1, t2, t3, t4, t5⟩⟩ := zO148_ok hS
  have hx0 := hx
  obtain ⟨⟨x0, x1, x2, x3, x4, x5, x6, x7⟩, ⟨xa, xb⟩, hQ0, ⟨n7, n9, n11⟩⟩ := hx
  have y3 := zNetB.to hS zNt_154
  obtain ⟨⟨o134, -⟩, -⟩ := zO134_ok hS
  have n11' := n11
  obtain ⟨-, -, -, o11⟩ := n11'
  have hE120 : E ≤ 120 := by rw [← hE]; exact tX_120 hn2 hw
  have hw0 := zTs_w hw 0
  have hln0 := tLen_b hn2 hw0
  have hhm0 := zhm_B (A := zTs A 0) hn2 hQ
  obtain ⟨-, -, -, -, hex, -⟩ := id hA
  apply r_Reader_serveSteps hO
  unfold B_Reader_serveSteps
  ((with_reducible refine i_Seq (i_sCall (i_as1 (i_FR (i_A1 ?_))))); (with_reducible refine i_fldR (by assumption) ?_); (with_reducible refine i_as1 (i_FR (i_A1 ?_))); (with_reducible refine i_fldR (by assumption) ?_); (with_reducible refine i_as0 ?_); (with_reducible refine i_recv0 (by assumption) ?_))
  refine s_Net_become hO n11 n9 hex (fun M1 f1 h1 => ⟨rfl, ?_⟩)
  have fr1 : ∀ b j, ¬ (((x + 11 : Nat) : Int) ≤ b ∧ b ≤ ((x + 12 : Nat) : Int)) → M1 b j = M b j := fun b j q => by rw [f1 b (by simp <;> omega)]
  have hA1 : zTR M1 x n (zTs A 0) := zTR.fore hA (fun a b => zTs_0 A 0 a b) fr1 (h1.ext (fun p q _ _ => tvs_0 A p q))
  clear f1 h1 hex
  ((with_reducible refine i_Seq (i_If (i_cI_gt (i_Call (i_as1 (i_A2 (i_as1 (i_A1 (i_as0 ?_))))))))); (with_reducible refine i_recv0 (by assumption) ?_))
  refine c_measure hO hS hx0 (by omega) hA1 hn2 hw0 (hC.to (fun b j q => fr1 b j (by omega))) (fun M2 f2 hT2 => ⟨_, rfl, ?_⟩)
  have hA2 : zTR M2 x n (zTs A 0) := hA1.to (fun b j a1 a2 => f2 b j (by omega))
  have f21 : ∀ b j, ¬ (b = ((134 : Nat) : Int) ∧ (j = 6 ∨ j = 7) ∨ ((135 : Nat) : Int) ≤ b ∧ b ≤ ((146 : Nat) : Int) ∨ ((x + 11 : Nat) : Int) ≤ b ∧ b ≤ ((x + 12 : Nat) : Int)) → M2 b j = M b j := fun b j q => by rw [f2 b j (by omega), fr1 b j (by omega)]
  clear f2 fr1 hA1 hA
  by_cases w0 : len < ((tLen n (zTs A 0) : Nat) : Int)
  · rw [if_pos w0, if_pos w0] at hk
    generalize tLen n (zTs A 0) = v at hln0 w0 ⊢
    ((with_reducible refine i_L3 ?_); (with_reducible refine i_t (by omega) ?_); (with_reducible refine i_Seq (i_sCall (i_as1 (i_FR (i_A1 ?_))))); (with_reducible refine i_fldR (by assumption) ?_); (with_reducible refine i_as1 (i_FR (i_A0 ?_))); (with_reducible refine i_fldR (by assumption) ?_); (with_reducible refine i_as0 ?_); (with_reducible refine i_recv0 (by assumption) ?_))
    refine s_Net_become hO n11 y3 (hB.to (fun b j a1 a2 => f21 b j (by omega))) (fun M3 f3 h3 => ⟨rfl, ?_⟩)
    have fr3 : ∀ b j, ¬ (((x + 11 : Nat) : Int) ≤ b ∧ b ≤ ((x + 12 : Nat) : Int)) → M3 b j = M2 b j := fun b j q => by rw [f3 b (by simp <;> omega)]
    (with_reducible refine i_RetI (i_I ?_))
    exact hk M3 (fun b j q => by rw [fr3 b j (by omega), f21 b j q]) (hT2.so.to (fun b j q => fr3 b j (by omega))) (zTR.back hA2 (fun a b => zTs_0 A 0 a b) fr3 h3)
  · rw [if_neg w0, if_neg w0] at hk
    clear hB
    generalize tLen n (zTs A 0) = v at hln0 w0 ⊢
    ((with_reducible refine i_L3 ?_); (with_reducible refine i_f (by omega) ?_); (with_reducible refine i_Seq (i_Set (i_Call (i_as1 (i_A0 (i_as1 (i_A1 (i_as1 (i_A2 (i_as0 ?_)))))))))); (with_reducible refine i_recv0 (by assumption) ?_); simp only [w_set0, w_set1, w_setn0, w_setn1])
    refine c_harmBy hO hS hx0 hx7 hA2.1.1 hn1 hn2 hw0 (hq.to (fun b j q => f21 b j (by omega))) hQ hT2 (fun M3 f3 hT3 => ⟨_, rfl, ?_⟩)
    have hA3 : zTR M3 x n (zTs A 0) := hA2.to (fun b j a1 a2 => f3 b j (by omega))
    have f31 : ∀ b j, ¬ (b = ((134 : Nat) : Int) ∧ (j = 6 ∨ j = 7) ∨ ((135 : Nat) : Int) ≤ b ∧ b ≤ ((146 : Nat) : Int) ∨ ((x + 11 : Nat) : Int) ≤ b ∧ b ≤ ((x + 12 : Nat) : Int)) → M3 b j = M b j := fun b j q => by rw [f3 b j (by omega), f21 b j q]
    have hC3 := hT3.so
    clear f3 f21 hA2 hT2 hT3 hC
    obtain ⟨m, m1, m2, m3, m4⟩ := zsw2_stop n A Q len
    rw [m4] at hk
    rw [hE] at m1
    clear m4
    have hkth : ∀ k, k < E → ∃ c, c < 256 ∧ tX A c = true ∧ zcnt (tX A) c = k := fun k hk1 => zkth (s := tX A) (n := 256) (by rw [hE]; exact hk1)
    have hall := fun k => zsi_w (n := n) (Q := Q) (len := len) (s := (zTs A 0, zhm n (zTs A 0) Q)) hw0 k
    have ha3 : zTR M3 x n (zsi n Q len (zTs A 0, zhm n (zTs A 0) Q) 0).1 := hA3
    have hd0 : (((zhm n (zTs A 0) Q : Nat) : Int) : Int) = (((zsi n Q len (zTs A 0, zhm n (zTs A 0) Q) 0).2 : Nat) : Int) := rfl
    rw [hd0]
    have hbd : ∀ k, (zsi n Q len (zTs A 0, zhm n (zTs A 0) Q) k).2 ≤ 6000000 := fun k => Nat.le_trans (hall k).2.2 hhm0
    have hwk : ∀ k, zTw n (zsi n Q len (zTs A 0, zhm n (zTs A 0) Q) k).1 := fun k => (hall k).1
    have hXk : ∀ k, tX (zsi n Q len (zTs A 0, zhm n (zTs A 0) Q) k).1 = tX A := fun k => (hall k).2.1.trans (zTs_X A 0)
    clear hd0 hall hA3 hhm0 hln0 w0 v hw0
    generalize (zTs A 0, zhm n (zTs A 0) Q) = s0 at hk m2 m3 ha3 hbd hwk hXk ⊢
    have hN : ∃ N, N = min (m + 1) E := ⟨_, rfl⟩
    obtain ⟨N, hN⟩ := hN
    ((with_reducible refine i_Seq (i_Set (i_I (i_Seq (i_Blk (i_Seq (i_Set (i_I ?_)))))))); simp only [w_set0, w_set1, w_setn0, w_setn1])
    refine w_ForN N (fun k ρ M' => (∃ l, ρ = ((148 : Nat) : Int) :: ((x : Nat) : Int) :: ((134 : Nat) : Int) :: len :: (((zsi n Q len s0 k).2 : Nat) : Int) :: zbI (decide (k ≤ m)) :: ((k : Nat) : Int) :: l) ∧ (∀ b j, ¬ (b = ((134 : Nat) : Int) ∧ (j = 6 ∨ j = 7) ∨ ((135 : Nat) : Int) ≤ b ∧ b ≤ ((146 : Nat) : Int) ∨ ((x + 11 : Nat) : Int) ≤ b ∧ b ≤ ((x + 12 : Nat) : Int)) → M' b j = M b j) ∧ cSo M' ∧ zTR M' x n (zsi n Q len s0 k).1) ⟨⟨_, by rw [decide_eq_true (Nat.zero_le m)]; rfl⟩, f31, hC3, ha3⟩ ?_ ?_
    · clear ha3 f31 hC3
      rintro k ρ M4 X hkm ⟨⟨l, rfl⟩, f4, hC4, h4⟩ hX
      rw [decide_eq_true (show k ≤ m by omega)]
      have hkE : k < E := by omega
      have hwB := hwk k
      have hhB := hbd k
      have hXB := hXk k
      have hnext : decide (k + 1 ≤ m) = decide ((zst n (zsi n Q len s0 k).1 Q len (zsi n Q len s0 k).2 256).2 ≠ 0) := by
        by_cases z : k = m
        · rw [z, decide_eq_false (Nat.not_succ_le_self m), decide_eq_false (fun y : (zst n (zsi n Q len s0 m).1 Q len (zsi n Q len s0 m).2 256).2 ≠ 0 => y m2)]
        · rw [decide_eq_true (show k + 1 ≤ m by omega), decide_eq_true (show (zst n (zsi n Q len s0 k).1 Q len (zsi n Q len s0 k).2 256).2 ≠ 0 from m3 k (by omega))]
      rw [zsi_su, hnext] at hX
      clear hnext m1 m2 m3 hk hwk hbd hXk hkm hN
      generalize zsi n Q len s0 k = s at h4 hX hwB hhB hXB ⊢
      obtain ⟨B, h⟩ := s
      dsimp only at h4 hwB hhB hXB ⊢
      clear s0 m N
      have hzi := fun c => zst_in n B Q len h c
      have e0 : M4 ((148 : Nat) : Int) ((6 : Nat) : Int) = ((E : Nat) : Int) := (f4 _ _ (by omega)).trans hL.1
      -- the best's number in the list
      have hnum : ∀ u : Nat, u ≠ 0 → u ≤ 256 → tv B ((u - 1) / 16) ((u - 1) % 16) = 2 → tX A (u - 1) = true := fun u _ _ h2 => by
        rw [← hXB]
        exact (show decide (tv B ((u - 1) / 16) ((u - 1) % 16) ≠ 0) = true from decide_eq_true (by rw [h2]; decide))
      ((with_reducible refine i_turn (i_cAnd (i_cZ_ne (i_L5 ?_)))); rw [zbI_t]; (with_reducible refine i_t (by omega) ?_); (with_reducible refine i_cI_lt (i_L6 (i_F (i_A0 ?_)))); (with_reducible refine i_fld (by assumption) ?_); (rw [e0]); (with_reducible refine i_t (by omega) ?_); (with_reducible refine i_Blk (i_Seq (i_Set (i_I (i_Seq (i_Blk (i_Seq (i_Set (i_I ?_))))))))); simp only [w_set0, w_set1, w_setn0, w_setn1]; rw [w_setT]; simp only [w_set0, w_set1, w_setn0, w_setn1]; rw [w_setT])
      refine w_ForN E (fun i ρ M' => (∃ c l, c ≤ 256 ∧ zcnt (tX A) c = i ∧ ρ = ((148 : Nat) : Int) :: ((x : Nat) : Int) :: ((134 : Nat) : Int) :: len :: (((zst n B Q len h c).1 : Nat) : Int) :: 1 :: ((k : Nat) : Int) :: (if (zst n B Q len h c).2 = 0 then -1 else ((zcnt (tX A) ((zst n B Q len h c).2 - 1) : Nat) : Int)) :: ((i : Nat) : Int) :: l) ∧ (∀ b j, ¬ (b = ((134 : Nat) : Int) ∧ (j = 6 ∨ j = 7) ∨ ((135 : Nat) : Int) ≤ b ∧ b ≤ ((146 : Nat) : Int) ∨ ((x + 11 : Nat) : Int) ≤ b ∧ b ≤ ((x + 12 : Nat) : Int)) → M' b j = M b j) ∧ cSo M' ∧ zTR M' x n B) ⟨⟨0, _, Nat.zero_le _, rfl, rfl⟩, f4, hC4, h4⟩ ?_ ?_
      · clear hX f4 h4 hC4 e0
        rintro i ρ M5 X2 hi ⟨⟨c0, l2, c01, c02, rfl⟩, f5, hC5, h5⟩ hX2
        obtain ⟨c, c1, c2, c3⟩ := hkth i hi
        obtain ⟨c4, c5, -⟩ := tX_in hn2 hw c2
        have hc0 : zst n B Q len h c0 = zst n B Q len h c := zst_eq' n B Q len h (by rw [hXB, c02, c3])
        rw [hc0]
        have c6 : zcnt (tX A) (c + 1) = i + 1 := by rw [zcnt_su, if_pos c2, c3]
        have e0 : M5 ((148 : Nat) : Int) ((6 : Nat) : Int) = ((E : Nat) : Int) := (f5 _ _ (by omega)).trans hL.1
        have e1 : M5 ((153 : Nat) : Int) ((i : Nat) : Int) = ((c : Nat) : Int) := (f5 _ _ (by omega)).trans ((hL.2 i hi).trans (zpk_some c1 c2 (by rw [c3])))
        have hXc : tX B c = true := by rw [hXB]; exact c2
        have hX3 : ∀ (l : zLoc) (M' : zMem), (∀ b j, ¬ (b = ((134 : Nat) : Int) ∧ (j = 6 ∨ j = 7) ∨ ((135 : Nat) : Int) ≤ b ∧ b ≤ ((146 : Nat) : Int) ∨ ((x + 11 : Nat) : Int) ≤ b ∧ b ≤ ((x + 12 : Nat) : Int)) → M' b j = M b j) → cSo M' → zTR M' x n B → ∀ (y u : Nat) (b : Int), (y, u) = zst n B Q len h (c + 1) → b = (if u = 0 then -1 else ((zcnt (tX A) (u - 1) : Nat) : Int)) → X2 (((148 : Nat) : Int) :: ((x : Nat) : Int) :: ((134 : Nat) : Int) :: len :: ((y : Nat) : Int) :: 1 :: ((k : Nat) : Int) :: b :: ((i + 1 : Nat) : Int) :: l) M' := fun l M' hf hc hr y u b he hb => by
          subst hb
          refine hX2 _ _ ⟨⟨c + 1, l, c1, c6, by rw [← he]⟩, hf, hc, hr⟩
        rw [zst_su] at hX3
        obtain ⟨i1, i2, -, i4⟩ := hzi c
        clear hX2 hzi hkth c6 hc0 c01 c02
        have hil := fun (K' : Option zV → zMem → Prop) (z : K' (some (0, zbI (decide (tv B (c / 16) (c % 16) = 2)))) M5) => c_isLeft hO hx0 h5 c4 c1 (K := K') z
        by_cases e : tv B (c / 16) (c % 16) = 2
        · have hw1 := zv1_w hwB hXc (show 1 ≤ 2 by decide)
          have hln := tLen_b hn2 hw1
          have hhm := zhm_B (A := zTv B (zv1 B c 1)) hn2 hQ
          have hbk := zv1_bk c1 e
          have hX1 : tX (zTv B (zv1 B c 1)) c = true := by rw [tX_zv1 hXc (by decide)]; exact hXc
          rw [decide_eq_true e] at hil
          ((with_reducible refine i_turn (i_cI_lt (i_L8 (i_F (i_A0 ?_))))); (with_reducible refine i_fld (by assumption) ?_); (rw [e0]); (with_reducible refine i_t (by omega) ?_); (with_reducible refine i_If (i_cZ_ne (i_Call (i_as1 (i_A1 (i_as1 (i_IA (i_FR (i_A0 ?_))))))))); (with_reducible refine i_fldR (by assumption) ?_); (with_reducible refine i_L8 ?_); (with_reducible refine i_in (by assumption) (by omega) (by omega) ?_); (with_reducible refine i_as0 ?_); (with_reducible refine i_recv0 (by assumption) ?_); (rw [e1]); (refine hil _ ⟨_, rfl, ?_⟩); rw [zbI_t]; (with_reducible refine i_t (by omega) ?_); (with_reducible refine i_Blk (i_Seq (i_sCall (i_as1 (i_A1 (i_as1 (i_IA (i_FR (i_A0 ?_))))))))); (with_reducible refine i_fldR (by assumption) ?_); (with_reducible refine i_L8 ?_); (with_reducible refine i_in (by assumption) (by omega) (by omega) ?_); (with_reducible refine i_as1 (i_I (i_as0 ?_))); (with_reducible refine i_recv0 (by assumption) ?_); (rw [e1]))
          refine c_setLeft hO (out := false) hx0 h5 c4 c1 hXc (fun M6 f6 h6 => ⟨rfl, ?_⟩)
          rw [if_neg (by decide)] at h6
          clear hil
          ((with_reducible refine i_Seq (i_Set (i_eIf (i_cI_gt (i_Call (i_as1 (i_A2 (i_as1 (i_A1 (i_as0 ?_)))))))))); (with_reducible refine i_recv0 (by assumption) ?_))
          refine c_measure hO hS hx0 (by omega) h6 hn2 hw1 (hC5.to (fun b j q => f6 b j (by omega))) (fun M7 f7 hT7 => ⟨_, rfl, ?_⟩)
          have h7 : zTR M7 x n (zTv B (zv1 B c 1)) := h6.to (fun b j a1 a2 => f7 b j (by omega))
          have f71 : ∀ b j, ¬ (b = ((134 : Nat) : Int) ∧ (j = 6 ∨ j = 7) ∨ ((135 : Nat) : Int) ≤ b ∧ b ≤ ((146 : Nat) : Int) ∨ ((x + 11 : Nat) : Int) ≤ b ∧ b ≤ ((x + 12 : Nat) : Int)) → M7 b j = M b j := fun b j q => by rw [f7 b j (by omega), f6 b j (by omega), f5 b j q]
          clear f7 f6 h6 f5 h5 hC5 e0 e1
          have e1 : M7 ((153 : Nat) : Int) ((i : Nat) : Int) = ((c : Nat) : Int) := (f71 _ _ (by omega)).trans ((hL.2 i hi).trans (zpk_some c1 c2 (by rw [c3])))
          generalize tLen n (zTv B (zv1 B c 1)) = v at hln hX3 ⊢
          by_cases w1 : ((v : Nat) : Int) ≤ len
          · have w2 : ¬ len < ((v : Nat) : Int) := by omega
            ((with_reducible refine i_L3 ?_); (with_reducible refine i_f (by omega) ?_); (with_reducible refine i_Call (i_as1 (i_A0 (i_as1 (i_A1 (i_as1 (i_A2 (i_as0 ?_)))))))); (with_reducible refine i_recv0 (by assumption) ?_); simp only [w_set0, w_set1, w_setn0, w_setn1])
            refine c_harmBy hO hS hx0 hx7 h7.1.1 hn1 hn2 hw1 (hq.to (fun b j q => f71 b j (by omega))) hQ hT7 (fun M8 f8 hT8 => ⟨_, rfl, ?_⟩)
            have h8 : zTR M8 x n (zTv B (zv1 B c 1)) := h7.to (fun b j a1 a2 => f8 b j (by omega))
            have f81 : ∀ b j, ¬ (b = ((134 : Nat) : Int) ∧ (j = 6 ∨ j = 7) ∨ ((135 : Nat) : Int) ≤ b ∧ b ≤ ((146 : Nat) : Int) ∨ ((x + 11 : Nat) : Int) ≤ b ∧ b ≤ ((x + 12 : Nat) : Int)) → M8 b j = M b j := fun b j q => by rw [f8 b j (by omega), f71 b j q]
            have e8 : M8 ((153 : Nat) : Int) ((i : Nat) : Int) = ((c : Nat) : Int) := (f8 _ _ (by omega)).trans e1
            have hC8 := hT8.so
            generalize zhm n (zTv B (zv1 B c 1)) Q = hh at hhm hX3 ⊢
            ((with_reducible refine i_Seq (i_sCall (i_as1 (i_A1 (i_as1 (i_IA (i_FR (i_A0 ?_)))))))); (with_reducible refine i_fldR (by assumption) ?_); (with_reducible refine i_L8 ?_); (with_reducible refine i_in (by assumption) (by omega) (by omega) ?_); (with_reducible refine i_as1 (i_I (i_as0 ?_))); (with_reducible refine i_recv0 (by assumption) ?_); (rw [e8]); rw [w_setT])
            refine c_setLeft hO (out := true) hx0 h8 c4 c1 hX1 (fun M9 f9 h9 => ⟨rfl, ?_⟩)
            rw [if_pos rfl, hbk] at h9
            have hX4 := fun l => hX3 l M9 (fun b j q => by rw [f9 b j (by omega), f81 b j q]) (hC8.to (fun b j q => f9 b j (by omega))) h9
            clear hX3 h8 h7 hbk hT7 hT8
            generalize zst n B Q len h c = st at i1 i2 i4 hX4 ⊢
            obtain ⟨y, u⟩ := st
            dsimp only at i1 i2 i4 hX4 ⊢
            by_cases w3 : hh < y
            · rw [if_pos ⟨e, w1, w3⟩] at hX4
              ((with_reducible refine i_If (i_cI_lt (i_L9 (i_L4 ?_)))); (with_reducible refine i_t (by omega) ?_); (with_reducible refine i_Seq (i_Set (i_L9 (i_Set ?_)))); simp only [w_set0, w_set1, w_setn0, w_setn1]; (with_reducible refine i_L8 (i_up ?_)); simp only [w_set0, w_set1, w_setn0, w_setn1]; (with_reducible refine i_Inc8 ?_); rw [zx_inc (by omega)]; simp only [w_set0, w_set1, w_setn0, w_setn1])
              exact hX4 _ hh (c + 1) _ rfl (by rw [if_neg (Nat.succ_ne_zero c), Nat.add_sub_cancel, c3])
            · rw [if_neg (fun z => w3 z.2.2)] at hX4
              ((with_reducible refine i_If (i_cI_lt (i_L9 (i_L4 ?_)))); (with_reducible refine i_f (by omega) ?_); (with_reducible refine i_up (i_Inc8 ?_)); rw [zx_inc (by omega)]; simp only [w_set0, w_set1, w_setn0, w_setn1])
              exact hX4 _ y u _ rfl rfl
          · have w2 : len < ((v : Nat) : Int) := by omega
            have hC7 := hT7.so
            rw [if_neg (fun z => w1 z.2.1)] at hX3
            ((with_reducible refine i_L3 ?_); (with_reducible refine i_t (by omega) ?_); (with_reducible refine i_L4 (i_Seq (i_sCall (i_as1 ?_)))); simp only [w_set0, w_set1, w_setn0, w_setn1]; (with_reducible refine i_A1 (i_as1 (i_IA (i_FR (i_A0 ?_))))); (with_reducible refine i_fldR (by assumption) ?_); (with_reducible refine i_L8 ?_); (with_reducible refine i_in (by assumption) (by omega) (by omega) ?_); (with_reducible refine i_as1 (i_I (i_as0 ?_))); (with_reducible refine i_recv0 (by assumption) ?_); (rw [e1]); rw [w_setT])
            refine c_setLeft hO (out := true) hx0 h7 c4 c1 hX1 (fun M9 f9 h9 => ⟨rfl, ?_⟩)
            rw [if_pos rfl, hbk] at h9
            have hX4 := fun l => hX3 l M9 (fun b j q => by rw [f9 b j (by omega), f71 b j q]) (hC7.to (fun b j q => f9 b j (by omega))) h9
            clear hX3 h7 hbk hT7
            generalize zst n B Q len h c = st at i1 i2 i4 hX4 ⊢
            obtain ⟨y, u⟩ := st
            dsimp only at i1 i2 i4 hX4 ⊢
            ((with_reducible refine i_If (i_cI_lt (i_L9 (i_L4 ?_)))); (with_reducible refine i_f (by omega) ?_); (with_reducible refine i_up (i_Inc8 ?_)); rw [zx_inc (by omega)]; simp only [w_set0, w_set1, w_setn0, w_setn1])
            exact hX4 _ y u _ rfl rfl
        · rw [decide_eq_false e] at hil
          rw [if_neg (fun z => e z.1)] at hX3
          generalize zst n B Q len h c = st at i1 i2 i4 hX3 ⊢
          obtain ⟨y, u⟩ := st
          dsimp only at i1 i2 i4 hX3 ⊢
          ((with_reducible refine i_turn (i_cI_lt (i_L8 (i_F (i_A0 ?_))))); (with_reducible refine i_fld (by assumption) ?_); (rw [e0]); (with_reducible refine i_t (by omega) ?_); (with_reducible refine i_If (i_cZ_ne (i_Call (i_as1 (i_A1 (i_as1 (i_IA (i_FR (i_A0 ?_))))))))); (with_reducible refine i_fldR (by assumption) ?_); (with_reducible refine i_L8 ?_); (with_reducible refine i_in (by assumption) (by omega) (by omega) ?_); (with_reducible refine i_as0 ?_); (with_reducible refine i_recv0 (by assumption) ?_); (rw [e1]); (refine hil _ ⟨_, rfl, ?_⟩); rw [zbI_f]; (with_reducible refine i_f (by omega) ?_); (with_reducible refine i_up (i_Inc8 ?_)); rw [zx_inc (by omega)]; simp only [w_set0, w_set1, w_setn0, w_setn1])
          exact hX3 _ M5 f5 hC5 h5 y u _ rfl rfl
      · clear f4 h4 hC4 e0
        rintro ρ M5 X2 ⟨⟨c0, l2, c01, c02, rfl⟩, f5, hC5, h5⟩
        have e0 : M5 ((148 : Nat) : Int) ((6 : Nat) : Int) = ((E : Nat) : Int) := (f5 _ _ (by omega)).trans hL.1
        have hc0 : zst n B Q len h c0 = zst n B Q len h 256 := zst_eq' n B Q len h (by rw [hXB, c02, hE])
        rw [hc0]
        obtain ⟨i1, i2, i3, i4⟩ := hzi 256
        clear hzi hc0 c02 c01 hkth
        unfold zse at hX
        dsimp only at hX
        generalize hst : zst n B Q len h 256 = st at i1 i2 i3 i4 hX ⊢
        clear hst
        obtain ⟨y, u⟩ := st
        dsimp only at i1 i2 i3 i4 hX ⊢
        by_cases e : u = 0
        · have hy := i3 e
          subst e
          rw [if_pos rfl, decide_eq_false (fun z => z rfl)] at hX
          rw [if_pos rfl, hy]
          clear hE
          ((with_reducible refine i_turn (i_cI_lt (i_L8 (i_F (i_A0 ?_))))); (with_reducible refine i_fld (by assumption) ?_); (rw [e0]); (with_reducible refine i_f (by omega) ?_); (with_reducible refine i_Seq (i_Set (i_eIf (i_cI_ne (i_L7 (i_I ?_)))))); (with_reducible refine i_f (by omega) ?_); (with_reducible refine i_I (i_If (i_cZ_ne ?_))); simp only [w_set0, w_set1, w_setn0, w_setn1]; (with_reducible refine i_L5 ?_); (with_reducible refine i_f (by omega) ?_); (with_reducible refine i_up (i_Inc6 ?_)); rw [zx_inc (by omega)]; simp only [w_set0, w_set1, w_setn0, w_setn1])
          exact hX _ _ ⟨⟨_, rfl⟩, f5, hC5, h5⟩
        · have h2 := i4 e
          have hXu := hnum u e i2 h2
          have hlt := zcnt_lt3 hXu (show u - 1 < 256 by omega)
          rw [hE] at hlt
          have e1 : M5 ((153 : Nat) : Int) ((zcnt (tX A) (u - 1) : Nat) : Int) = ((u - 1 : Nat) : Int) := (f5 _ _ (by omega)).trans ((hL.2 _ hlt).trans (zpk_some (by omega) hXu rfl))
          obtain ⟨c4, c5, -⟩ := tX_in hn2 hw hXu
          rw [if_neg e, decide_eq_true e] at hX
          rw [if_neg e]
          clear hE
          generalize zcnt (tX A) (u - 1) = r at hlt e1 ⊢
          ((with_reducible refine i_turn (i_cI_lt (i_L8 (i_F (i_A0 ?_))))); (with_reducible refine i_fld (by assumption) ?_); (rw [e0]); (with_reducible refine i_f (by omega) ?_); (with_reducible refine i_Seq (i_Set (i_eIf (i_cI_ne (i_L7 (i_I ?_)))))); (with_reducible refine i_t (by omega) ?_); (with_reducible refine i_I (i_If (i_cZ_ne ?_))); simp only [w_set0, w_set1, w_setn0, w_setn1]; (with_reducible refine i_L5 ?_); (with_reducible refine i_t (by omega) ?_); (with_reducible refine i_sCall (i_as1 (i_A1 (i_as1 (i_IA (i_FR (i_A0 ?_))))))); (with_reducible refine i_fldR (by assumption) ?_); (with_reducible refine i_L7 ?_); (with_reducible refine i_in (by assumption) (by omega) (by omega) ?_); (with_reducible refine i_as1 (i_I (i_as0 ?_))); (with_reducible refine i_recv0 (by assumption) ?_); (rw [e1]))
          refine c_setLeft hO (out := false) hx0 h5 c4 (by omega) (by rw [hXB]; exact hXu) (fun M6 f6 h6 => ⟨rfl, ?_⟩)
          rw [if_neg (by decide)] at h6
          ((with_reducible refine i_up (i_Inc6 ?_)); rw [zx_inc (by omega)]; simp only [w_set0, w_set1, w_setn0, w_setn1])
          exact hX _ _ ⟨⟨_, rfl⟩, fun b j q => by rw [f6 b j (by omega), f5 b j q], hC5.to (fun b j q => f6 b j (by omega)), h6⟩
    · clear ha3 f31 hC3
      rintro ρ M4 X ⟨⟨l, rfl⟩, f4, hC4, h4⟩
      have e0 : M4 ((148 : Nat) : Int) ((6 : Nat) : Int) = ((E : Nat) : Int) := (f4 _ _ (by omega)).trans hL.1
      have hb := hbd N
      have hfin : zsi n Q len s0 N = zsi n Q len s0 m := by
        by_cases z : m + 1 ≤ E
        · rw [show N = m + 1 by omega]; exact zsi_fx m2 1
        · rw [show N = m by omega]
      rw [hfin] at h4 hb ⊢
      clear hE
      by_cases z : m + 1 ≤ E
      · rw [decide_eq_false (show ¬ N ≤ m by omega)]
        ((with_reducible refine i_turn (i_cAnd (i_cZ_ne (i_L5 ?_)))); rw [zbI_f]; (with_reducible refine i_f (by omega) ?_); (with_reducible refine i_RetI (i_L4 ?_)))
        exact hk M4 f4 hC4 h4
      · rw [decide_eq_true (show N ≤ m by omega)]
        ((with_reducible refine i_turn (i_cAnd (i_cZ_ne (i_L5 ?_)))); rw [zbI_t]; (with_reducible refine i_t (by omega) ?_); (with_reducible refine i_cI_lt (i_L6 (i_F (i_A0 ?_)))); (with_reducible refine i_fld (by assumption) ?_); (rw [e0]); (with_reducible refine i_f (by omega) ?_); (with_reducible refine i_RetI (i_L4 ?_)))
        exact hk M4 f4 hC4 h4
