/-! ===== excepts left out, harm, leads: the class ===== -/
def zO148 (S : List zSh) : Prop := (zObj S ((148 : Nat) : Int) 10 ∧ zFld S ((148 : Nat) : Int) 10 0 = some (some (some 149)) ∧ zFld S ((148 : Nat) : Int) 10 1 = some (some (some 150)) ∧ zFld S ((148 : Nat) : Int) 10 2 = some (some (some 151)) ∧ zFld S ((148 : Nat) : Int) 10 3 = some (some (some 152)) ∧ zFld S ((148 : Nat) : Int) 10 4 = some (some (some 153)) ∧ zFld S ((148 : Nat) : Int) 10 5 = some (some (some 154)) ∧ zFld S ((148 : Nat) : Int) 10 6 = some none ∧ zFld S ((148 : Nat) : Int) 10 7 = some none) ∧ (zArr S ((149 : Nat) : Int) .int 10 ∧ zArr S ((150 : Nat) : Int) .int 10 ∧ zArr S ((151 : Nat) : Int) .int 10 ∧ zArr S ((152 : Nat) : Int) .int 10 ∧ zArr S ((153 : Nat) : Int) .int 120)
theorem zO148_ok {S : List zSh} (hS : S = zmS zC0) : zO148 S := ⟨⟨zo_148 hS, zf_148_0 hS, zf_148_1 hS, zf_148_2 hS, zf_148_3 hS, zf_148_4 hS, zf_148_5 hS, zf_148_6 hS, zf_148_7 hS⟩, ⟨zCA (a := 149) (ty := .int) (n := 10) hS rfl, zCA (a := 150) (ty := .int) (n := 10) hS rfl, zCA (a := 151) (ty := .int) (n := 10) hS rfl, zCA (a := 152) (ty := .int) (n := 10) hS rfl, zCA (a := 153) (ty := .int) (n := 120) hS rfl⟩⟩
theorem tvs_zv1 {A : zTl} {c v p q : Nat} (hc : c / 16 < c % 16) (hp : p < 16) (hq : q < 16) : tvs (zTv A (zv1 A c v)) p q = if (p = c / 16 ∧ q = c % 16) ∨ (p = c % 16 ∧ q = c / 16) then v else tvs A p q := by
  show (if p < q then zv1 A c v p q else zv1 A c v q p) = _
  unfold zv1 tvs
  by_cases h : p < q
  · rw [if_pos h, if_pos h]
    by_cases e : 16 * p + q = c ∧ q < 16
    · rw [if_pos e, if_pos (Or.inl (by omega))]
    · rw [if_neg e, if_neg (by omega)]
  · rw [if_neg h, if_neg h]
    by_cases e : 16 * q + p = c ∧ p < 16
    · rw [if_pos e, if_pos (Or.inr (by omega))]
    · rw [if_neg e, if_neg (by omega)]
theorem c_isLeft {O : zOm} (hO : zWld O) {x n c : Nat} {A : zTl} {M : zMem} {K : Option zV → zMem → Prop} (hx : zTeC (zS O) x) (hA : zTR M x n A) (hc : c / 16 < c % 16) (hc2 : c < 256)
    (hk : K (some (0, zbI (decide (tv A (c / 16) (c % 16) = 2)))) M) : zR O F_Telling_isLeft [(2, ((x : Nat) : Int)), (0, ((c : Nat) : Int))] M K := by
  obtain ⟨⟨x0, x1, x2, x3, x4, x5, x6, x7⟩, ⟨xa, xb⟩, hQ0, ⟨n7, n9, n11⟩⟩ := hx
  have n11' := n11
  obtain ⟨-, -, -, o11⟩ := n11'
  obtain ⟨-, -, -, -, -, hl⟩ := hA
  rw [← tvs_lt hc] at hk
  have hj := fun (K' : Option zV → zMem → Prop) (z : K' (some (0, zbI (decide (tvs A (c / 16) (c % 16) = 2)))) M) => s_joins hO n11 hl (show c / 16 < 16 by omega) (show c % 16 < 16 by omega) (K := K') z
  apply r_Telling_isLeft hO
  unfold B_Telling_isLeft
  ((with_reducible refine i_RetZ (i_Call (i_as1 (i_FR (i_A0 ?_))))); (with_reducible refine i_fldR (by assumption) ?_); (with_reducible refine i_as1 (i_Call (i_as1 (i_L1 (i_as0 (i_recv1 ?_)))))); (refine s_Net_lesserOf hO (by omega) ⟨_, rfl, ?_⟩); (with_reducible refine i_as1 (i_Call (i_as1 (i_L1 (i_as0 (i_recv1 ?_)))))); (refine s_Net_otherOf hO ⟨_, rfl, ?_⟩); (with_reducible refine i_as0 ?_); (with_reducible refine i_recv0 (by assumption) ?_); (refine hj _ ⟨_, rfl, ?_⟩); (with_reducible refine i_z (zbI_01 _) ?_))
  exact hk
theorem c_setLeft {O : zOm} (hO : zWld O) {x n c : Nat} {out : Bool} {A : zTl} {M : zMem} {K : Option zV → zMem → Prop} (hx : zTeC (zS O) x) (hA : zTR M x n A) (hc : c / 16 < c % 16) (hc2 : c < 256) (hX : tX A c = true)
    (hk : ∀ M', (∀ b j, ¬ b = ((x + 12 : Nat) : Int) → M' b j = M b j) → zTR M' x n (zTv A (zv1 A c (if out = true then 2 else 1))) → K none M') : zR O F_Telling_setLeft [(2, ((x : Nat) : Int)), (0, ((c : Nat) : Int)), (0, zbI out)] M K := by
  have hx0 := hx
  obtain ⟨⟨x0, x1, x2, x3, x4, x5, x6, x7⟩, ⟨xa, xb⟩, hQ0, ⟨n7, n9, n11⟩⟩ := hx
  have n11' := n11
  obtain ⟨-, -, -, o11⟩ := n11'
  have hil := fun (K' : Option zV → zMem → Prop) (z : K' (some (0, zbI (decide (tv A (c / 16) (c % 16) = 2)))) M) => c_isLeft hO hx0 hA hc hc2 (K := K') z
  obtain ⟨h1, h2, h3, h4, h5, h6⟩ := hA
  have hv0 : tv A (c / 16) (c % 16) ≠ 0 := of_decide_eq_true hX
  -- what the new one is, if the cells of those left out are so
  have fin : ∀ M', (∀ b j, ¬ b = ((x + 12 : Nat) : Int) → M' b j = M b j) → zNR M' (x + 11) n (fun p q => decide (tvs (zTv A (zv1 A c (if out = true then 2 else 1))) p q = 2)) → K none M' := fun M' hf hl => hk M' hf ⟨zPR.fr h1 (fun b j a1 a2 => hf b j (by omega)), fun b k hb hk2 => by rw [hf _ _ (by omega)]; exact h2 b k hb hk2, ⟨h3.1.to (fun j => hf _ _ (by omega)) (fun j => hf _ _ (by omega)), h3.2⟩, h4.to (fun b j a1 a2 => hf b j (by omega)), (h5.to (fun b j a1 a2 => hf b j (by omega))).ext (fun p q hp hq => by
    rw [tvs_zv1 hc hp hq]
    split
    · rename_i z
      refine decide_eq_decide.mpr ⟨fun _ => by split <;> omega, fun _ => ?_⟩
      rcases z with z | z
      · rw [z.1, z.2, tvs_lt hc]; exact hv0
      · rw [z.1, z.2, tvs_s, tvs_lt hc]; exact hv0
    · rfl), hl⟩
  clear hk
  apply r_Telling_setLeft hO
  unfold B_Telling_setLeft
  by_cases e : decide (tv A (c / 16) (c % 16) = 2) = out
  · ((with_reducible refine i_Seq (i_If (i_cI_ne (i_Call (i_as1 (i_A0 (i_as1 (i_L1 (i_as0 ?_))))))))); (with_reducible refine i_recv0 (by assumption) ?_); (refine hil _ ⟨_, rfl, ?_⟩); (with_reducible refine i_L2 ?_); (rw [e]); (with_reducible refine i_f (by omega) ?_); (with_reducible refine i_RetV ?_))
    refine fin M (fun _ _ _ => rfl) (h6.ext (fun p q hp hq => ?_))
    rw [tvs_zv1 hc hp hq]
    split
    · rename_i z
      have hh : tvs A p q = tv A (c / 16) (c % 16) := by
        rcases z with z | z
        · rw [z.1, z.2, tvs_lt hc]
        · rw [z.1, z.2, tvs_s, tvs_lt hc]
      rw [hh, e]
      cases out <;> rfl
    · rfl
  · have hne : zbI (decide (tv A (c / 16) (c % 16) = 2)) ≠ zbI out := fun z => e (zbI_in.mp z)
    ((with_reducible refine i_Seq (i_If (i_cI_ne (i_Call (i_as1 (i_A0 (i_as1 (i_L1 (i_as0 ?_))))))))); (with_reducible refine i_recv0 (by assumption) ?_); (refine hil _ ⟨_, rfl, ?_⟩); (with_reducible refine i_L2 ?_); ((with_reducible refine i_t hne ?_)); (with_reducible refine i_sCall (i_as1 (i_FR (i_A0 ?_)))); (with_reducible refine i_fldR (by assumption) ?_); (with_reducible refine i_as1 (i_Call (i_as1 (i_L1 (i_as0 (i_recv1 ?_)))))); (refine s_Net_lesserOf hO (by omega) ⟨_, rfl, ?_⟩); (with_reducible refine i_as1 (i_Call (i_as1 (i_L1 (i_as0 (i_recv1 ?_)))))); (refine s_Net_otherOf hO ⟨_, rfl, ?_⟩); (with_reducible refine i_as0 ?_); (with_reducible refine i_recv0 (by assumption) ?_))
    refine s_Net_flip hO n11 h6 (show c / 16 < 16 by omega) (show c % 16 < 16 by omega) (by omega) (fun M1 f1 l1 => ⟨rfl, ?_⟩)
    (with_reducible refine i_RetV ?_)
    refine fin M1 (fun b j q => by rw [f1 b (by simp; omega)]) (l1.ext (fun p q hp hq => ?_))
    rw [zflip_in, tvs_zv1 hc hp hq]
    by_cases z : (p = c / 16 ∧ q = c % 16) ∨ (p = c % 16 ∧ q = c / 16)
    · have hh : tvs A p q = tv A (c / 16) (c % 16) := by
        rcases z with z | z
        · rw [z.1, z.2, tvs_lt hc]
        · rw [z.1, z.2, tvs_s, tvs_lt hc]
      have hor : (decide (p = c / 16 ∧ q = c % 16) || decide (p = c % 16 ∧ q = c / 16)) = true := by
        rcases z with z | z
        · rw [decide_eq_true z]; rfl
        · rw [decide_eq_true z, Bool.or_true]
      rw [if_pos z, hh, hor]
      have e' : decide (tv A (c / 16) (c % 16) = 2) = !out := by cases h : decide (tv A (c / 16) (c % 16) = 2) <;> cases out <;> first | rfl | exact absurd h e
      rw [e']
      cases out <;> rfl
    · rw [if_neg z, decide_eq_false (fun y => z (Or.inl y)), decide_eq_false (fun y => z (Or.inr y))]
      simp
def cQs (M : zMem) (Q : zQl) : Prop := M ((148 : Nat) : Int) ((7 : Nat) : Int) = ((Q.1 : Nat) : Int) ∧ ∀ i : Nat, i < Q.1 → M ((149 : Nat) : Int) ((i : Nat) : Int) = ((qk Q i : Nat) : Int) ∧ M ((150 : Nat) : Int) ((i : Nat) : Int) = ((qa Q i : Nat) : Int) ∧ M ((151 : Nat) : Int) ((i : Nat) : Int) = qb Q i ∧ M ((152 : Nat) : Int) ((i : Nat) : Int) = ((qw Q i : Nat) : Int)
theorem cQs.to {M M' : zMem} {Q : zQl} (h : cQs M Q) (e : ∀ b j, (b = ((148 : Nat) : Int) ∧ j = 7 ∨ ((149 : Nat) : Int) ≤ b ∧ b ≤ ((152 : Nat) : Int)) → M' b j = M b j) : cQs M' Q := ⟨by rw [e _ _ (by omega)]; exact h.1, fun i hi => by
  obtain ⟨h1, h2, h3, h4⟩ := h.2 i hi
  exact ⟨by rw [e _ _ (by omega)]; exact h1, by rw [e _ _ (by omega)]; exact h2, by rw [e _ _ (by omega)]; exact h3, by rw [e _ _ (by omega)]; exact h4⟩⟩
theorem c_harmBy {O : zOm} (hO : zWld O) (hS : zS O = zmS zC0) {x n : Nat} {A : zTl} {Q : zQl} {M : zMem} {K : Option zV → zMem → Prop} (hx : zTeC (zS O) x) (hx7 : 165 < x) (hpx : M ((x + 1 : Nat) : Int) ((3 : Nat) : Int) = ((n : Nat) : Int)) (hn1 : 0 < n) (hn2 : n ≤ 16) (hw : zTw n A) (hq : cQs M Q) (hQ : zQs n Q) (hT : cTk M n A)
    (hk : ∀ M', (∀ b j, ¬ (b = ((134 : Nat) : Int) ∧ j = 7 ∨ b = ((138 : Nat) : Int) ∨ b = ((140 : Nat) : Int) ∨ ((145 : Nat) : Int) ≤ b ∧ b ≤ ((146 : Nat) : Int)) → M' b j = M b j) → cTk M' n A → K (some (0, ((zhm n A Q : Nat) : Int))) M') : zR O F_Reader_harmBy [(2, ((148 : Nat) : Int)), (2, ((x : Nat) : Int)), (2, ((134 : Nat) : Int))] M K := by
  obtain ⟨⟨s0, s1, s2, s3, s4, s5, s6, s7, s8⟩, ⟨t1, t2, t3, t4, t5⟩⟩ := zO148_ok hS
  obtain ⟨⟨u0, -⟩, -⟩ := zO134_ok hS
  have hq10 := hQ.1
  apply r_Reader_harmBy hO
  unfold B_Reader_harmBy
  ((with_reducible refine i_Seq (i_Set (i_I (i_Seq (i_Blk (i_Seq (i_Set (i_I ?_)))))))); simp only [w_set0, w_set1, w_setn0, w_setn1])
  refine w_ForN Q.1 (fun i ρ M' => (∃ l, ρ = ((148 : Nat) : Int) :: ((x : Nat) : Int) :: ((134 : Nat) : Int) :: ((zsum (fun i => qw Q i * zoF n A (qk Q i) (qa Q i) (qc Q i)) i : Nat) : Int) :: ((i : Nat) : Int) :: l) ∧ (∀ b j, ¬ (b = ((134 : Nat) : Int) ∧ j = 7 ∨ b = ((138 : Nat) : Int) ∨ b = ((140 : Nat) : Int) ∨ ((145 : Nat) : Int) ≤ b ∧ b ≤ ((146 : Nat) : Int)) → M' b j = M b j) ∧ cTk M' n A) ⟨⟨_, rfl⟩, fun _ _ _ => rfl, hT⟩ ?_ ?_
  · rintro i ρ M2 X hi ⟨⟨l, rfl⟩, f2, h2⟩ hX
    obtain ⟨g1, g2, g3, g4⟩ := hq.2 i hi
    have e0 : M2 ((148 : Nat) : Int) ((7 : Nat) : Int) = ((Q.1 : Nat) : Int) := (f2 _ _ (by omega)).trans hq.1
    have e1 := (f2 ((149 : Nat) : Int) ((i : Nat) : Int) (by omega)).trans g1
    have e2 := (f2 ((150 : Nat) : Int) ((i : Nat) : Int) (by omega)).trans g2
    have e3 := (f2 ((151 : Nat) : Int) ((i : Nat) : Int) (by omega)).trans g3
    have e4 := (f2 ((152 : Nat) : Int) ((i : Nat) : Int) (by omega)).trans g4
    obtain ⟨hq1, hq2⟩ := hQ.2 i hi
    have hb1 := zhm_b (A := A) hn2 hQ i (by omega)
    have hmul : qw Q i * zoF n A (qk Q i) (qa Q i) (qc Q i) ≤ 9 * 62000 := Nat.mul_le_mul hq2 (zoF_b hn2)
    have hX2 : ∀ (l : zLoc) (M' : zMem) (v : Nat), v = zsum (fun i => qw Q i * zoF n A (qk Q i) (qa Q i) (qc Q i)) i + qw Q i * zoF n A (qk Q i) (qa Q i) (qc Q i) → (∀ b j, ¬ (b = ((134 : Nat) : Int) ∧ j = 7 ∨ b = ((138 : Nat) : Int) ∨ b = ((140 : Nat) : Int) ∨ ((145 : Nat) : Int) ≤ b ∧ b ≤ ((146 : Nat) : Int)) → M' b j = M b j) → cTk M' n A → X (((148 : Nat) : Int) :: ((x : Nat) : Int) :: ((134 : Nat) : Int) :: ((v : Nat) : Int) :: ((i + 1 : Nat) : Int) :: l) M' := fun l M' v hv hf ht => by subst hv; exact hX _ _ ⟨⟨l, rfl⟩, hf, ht⟩
    clear hX
    generalize zsum (fun i => qw Q i * zoF n A (qk Q i) (qa Q i) (qc Q i)) i = u at hb1 hX2 ⊢
    ((with_reducible refine i_turn (i_cI_lt (i_L4 (i_F (i_A0 ?_))))); (with_reducible refine i_fld (by assumption) ?_); (rw [e0]); (with_reducible refine i_t (by omega) ?_); (with_reducible refine i_Set (i_Add (i_L3 (i_Mul (i_IA (i_FR (i_A0 ?_))))))); (with_reducible refine i_fldR (by assumption) ?_); (with_reducible refine i_L4 ?_); (with_reducible refine i_in (by assumption) (by omega) (by omega) ?_); (with_reducible refine i_Call (i_as1 (i_A2 (i_as1 (i_A1 (i_as1 (i_IA (i_FR (i_A0 ?_))))))))); (with_reducible refine i_fldR (by assumption) ?_); (with_reducible refine i_L4 ?_); (with_reducible refine i_in (by assumption) (by omega) (by omega) ?_); (with_reducible refine i_as1 (i_IA (i_FR (i_A0 ?_)))); (with_reducible refine i_fldR (by assumption) ?_); (with_reducible refine i_L4 ?_); (with_reducible refine i_in (by assumption) (by omega) (by omega) ?_); (with_reducible refine i_as1 (i_IA (i_FR (i_A0 ?_)))); (with_reducible refine i_fldR (by assumption) ?_); (with_reducible refine i_L4 ?_); (with_reducible refine i_in (by assumption) (by omega) (by omega) ?_); (with_reducible refine i_as0 ?_); (with_reducible refine i_recv0 (by assumption) ?_); (rw [e1]); (rw [e2]); (rw [e3]); (rw [e4]); simp only [w_set0, w_set1, w_setn0, w_setn1])
    refine c_off hO hS hx (by omega) (show M2 ((x + 1 : Nat) : Int) ((3 : Nat) : Int) = ((n : Nat) : Int) from (f2 _ _ (by omega)).trans hpx) hn1 hn2 hw hq1 h2 (fun M3 f3 h3 => ⟨_, rfl, ?_⟩)
    generalize zoF n A (qk Q i) (qa Q i) (qc Q i) = v at hmul hX2 ⊢
    ((with_reducible refine i_up (i_Inc4 ?_)); (rw [zx_mul (by omega)]); rw [zx_inc (by omega)]; rw [zx_add (by omega)]; simp only [w_set0, w_set1, w_setn0, w_setn1])
    exact hX2 _ _ _ rfl (fun b j q => by rw [f3 b j q, f2 b j q]) h3
  · rintro ρ M2 X ⟨⟨l, rfl⟩, f2, h2⟩
    have e0 : M2 ((148 : Nat) : Int) ((7 : Nat) : Int) = ((Q.1 : Nat) : Int) := (f2 _ _ (by omega)).trans hq.1
    ((with_reducible refine i_turn (i_cI_lt (i_L4 (i_F (i_A0 ?_))))); (with_reducible refine i_fld (by assumption) ?_); (rw [e0]); (with_reducible refine i_f (by omega) ?_); (with_reducible refine i_RetI (i_L3 ?_)))
    exact hk M2 f2 h2
theorem zTR.pairs {O : zOm} (hO : zWld O) {x n : Nat} {A : zTl} {M : zMem} {K : Option zV → zMem → Prop} (hx : zTeC (zS O) x) (hA : zTR M x n A) (hn2 : n ≤ 16) (hw : zTw n A) (hk : K (some (0, ((zcnt (tX A) 256 : Nat) : Int))) M) : zR O F_Net_pairs [(2, ((x + 9 : Nat) : Int))] M K := by
  obtain ⟨-, -, hQ0, ⟨n7, n9, n11⟩⟩ := hx
  obtain ⟨-, -, -, -, h5, -⟩ := hA
  rw [tX_cnt hn2 hw] at hk
  exact s_Net_pairs hO n9 h5 hn2 hk
theorem zTR.pairAt {O : zOm} (hO : zWld O) {x n : Nat} {k : Int} {A : zTl} {M : zMem} {K : Option zV → zMem → Prop} (hx : zTeC (zS O) x) (hA : zTR M x n A) (hn2 : n ≤ 16) (hw : zTw n A) (hk0 : zin32 k) (hk : K (some (0, zpk (tX A) k 256)) M) : zR O F_Net_pairAt [(2, ((x + 9 : Nat) : Int)), (0, k)] M K := by
  obtain ⟨-, -, hQ0, ⟨n7, n9, n11⟩⟩ := hx
  obtain ⟨-, -, -, -, h5, -⟩ := hA
  rw [← tX_ut hw] at hk
  exact s_Net_pairAt hO n9 h5 hn2 (tX_reg hw) hk0 hk
theorem tX_120 {n : Nat} {A : zTl} (hn : n ≤ 16) (hw : zTw n A) : zcnt (tX A) 256 ≤ 120 := by
  rw [tX_cnt hn hw, zpairs_p2 (tX_reg hw) hn]
  exact zp2_le _ hn
theorem zv1_bk {A : zTl} {c : Nat} (hc : c < 256) (h : tv A (c / 16) (c % 16) = 2) : zTv (zTv A (zv1 A c 1)) (zv1 (zTv A (zv1 A c 1)) c 2) = A := by
  obtain ⟨a1, a2, a3, a4⟩ := A
  show (a1, a2, a3, _) = _
  congr 3
  funext p q
  show (if 16 * p + q = c ∧ q < 16 then 2 else if 16 * p + q = c ∧ q < 16 then 1 else a4 p q) = a4 p q
  by_cases e : 16 * p + q = c ∧ q < 16
  · rw [if_pos e]
    have h2 : a4 (c / 16) (c % 16) = 2 := h
    rw [← e.1, show (16 * p + q) / 16 = p by omega, show (16 * p + q) % 16 = q by omega] at h2
    exact h2.symm
  · rw [if_neg e, if_neg e]
theorem c_followLeads {O : zOm} (hO : zWld O) (hS : zS O = zmS zC0) {x n kind a b' : Nat} {b : Int} {A : zTl} {M : zMem} {K : Option zV → zMem → Prop} (hx : zTeC (zS O) x) (hx7 : 165 < x) (hA : zTR M x n A) (hn1 : 0 < n) (hn2 : n ≤ 16) (hw : zTw n A) (hQ : zQok n kind a b b') (hC : cSo M)
    (hk : ∀ M', (∀ b j, ¬ (b = ((134 : Nat) : Int) ∧ (j = 6 ∨ j = 7 ∨ j = 12) ∨ ((135 : Nat) : Int) ≤ b ∧ b ≤ ((147 : Nat) : Int) ∨ b = ((x + 12 : Nat) : Int)) → M' b j = M b j) → zTR M' x n A → cSo M' → M' ((134 : Nat) : Int) ((12 : Nat) : Int) = ((zldC n A kind a b' (zcnt (tX A) 256) : Nat) : Int) → (∀ i : Nat, i < zldC n A kind a b' (zcnt (tX A) 256) → ∃ k : Nat, M' ((147 : Nat) : Int) ((i : Nat) : Int) = ((k : Nat) : Int) ∧ k < zcnt (tX A) 256 ∧ zldC n A kind a b' (k + 1) = zldC n A kind a b' k + 1 ∧ zldC n A kind a b' k = i) → K none M') : zR O F_Sorts_followLeads [(2, ((134 : Nat) : Int)), (2, ((x : Nat) : Int)), (0, ((kind : Nat) : Int)), (0, ((a : Nat) : Int)), (0, b)] M K := by
  obtain ⟨⟨s0, s1, s2, s3, s4, s5, s6, s7, s8⟩, ⟨s9, s10, s11, s12, s13⟩, ⟨t1, t2, t3, t4, t5, t6, t7⟩⟩ := zO134_ok hS
  have hx0 := hx
  obtain ⟨⟨x0, x1, x2, x3, x4, x5, x6, x7⟩, ⟨xa, xb⟩, hQ0, ⟨n7, n9, n11⟩⟩ := hx
  have n9' := n9
  obtain ⟨-, -, -, o9⟩ := n9'
  have hE := tX_120 hn2 hw
  have hldle := fun k hk => zldC_le n A kind a b' k hk
  have hoff := zoF_b (n := n) (A := A) (kind := kind) (a := a) (b' := b') hn2
  apply r_Sorts_followLeads hO
  unfold B_Sorts_followLeads
  ((with_reducible refine i_Seq (i_Seq (i_sCall (i_as1 (i_A0 (i_as1 (i_A1 (i_as0 ?_)))))))); (with_reducible refine i_recv0 (by assumption) ?_))
  refine c_take hO hS hx0 (by omega) hA hn2 hw hC (fun M1 f1 h1 => ⟨rfl, ?_⟩)
  have hA1 : zTR M1 x n A := hA.to (fun b j a1 a2 => f1 b j (by omega))
  ((with_reducible refine i_Seq (i_Set (i_Call (i_as1 (i_A0 (i_as1 (i_A1 (i_as1 (i_L2 (i_as1 (i_L3 (i_as1 (i_L4 (i_as0 ?_)))))))))))))); (with_reducible refine i_recv0 (by assumption) ?_); simp only [w_set0, w_set1, w_setn0, w_setn1])
  refine c_off hO hS hx0 (by omega) hA1.1.1 hn1 hn2 hw hQ h1 (fun M2 f2 h2 => ⟨_, rfl, ?_⟩)
  have hA2 : zTR M2 x n A := hA1.to (fun b j a1 a2 => f2 b j (by omega))
  have fr2 : ∀ b j, ¬ (b = ((134 : Nat) : Int) ∧ (j = 6 ∨ j = 7 ∨ j = 12) ∨ ((135 : Nat) : Int) ≤ b ∧ b ≤ ((147 : Nat) : Int) ∨ b = ((x + 12 : Nat) : Int)) → M2 b j = M b j := fun b j q => by rw [f2 b j (by omega), f1 b j (by omega)]
  ((with_reducible refine i_Seq (i_Set (i_Call (i_as1 (i_FR (i_A1 ?_)))))); (with_reducible refine i_fldR (by assumption) ?_); (with_reducible refine i_as0 ?_); (with_reducible refine i_recv0 (by assumption) ?_); simp only [w_set0, w_set1, w_setn0, w_setn1])
  refine zTR.pairs hO hx0 hA2 hn2 hw ⟨_, rfl, ?_⟩
  generalize hEE : zcnt (tX A) 256 = E at hk hE hldle ⊢
  ((with_reducible refine i_Seq (i_sF (i_A0 (i_I ?_)))); (with_reducible refine i_fld (by assumption) ?_); (with_reducible refine i_Blk (i_Seq (i_Set (i_I ?_)))); simp only [w_set0, w_set1, w_setn0, w_setn1])
  refine w_ForN E (fun k ρ M' => (∃ l, ρ = ((134 : Nat) : Int) :: ((x : Nat) : Int) :: ((kind : Nat) : Int) :: ((a : Nat) : Int) :: b :: ((zoF n A kind a b' : Nat) : Int) :: ((E : Nat) : Int) :: ((k : Nat) : Int) :: l) ∧ (∀ b j, ¬ (b = ((134 : Nat) : Int) ∧ (j = 6 ∨ j = 7 ∨ j = 12) ∨ ((135 : Nat) : Int) ≤ b ∧ b ≤ ((147 : Nat) : Int) ∨ b = ((x + 12 : Nat) : Int)) → M' b j = M b j) ∧ (zTR M' x n A ∧ cSo M') ∧ M' ((134 : Nat) : Int) ((12 : Nat) : Int) = ((zldC n A kind a b' k : Nat) : Int) ∧ ∀ i : Nat, i < zldC n A kind a b' k → ∃ j : Nat, M' ((147 : Nat) : Int) ((i : Nat) : Int) = ((j : Nat) : Int) ∧ j < k ∧ zldC n A kind a b' (j + 1) = zldC n A kind a b' j + 1 ∧ zldC n A kind a b' j = i) ⟨⟨_, rfl⟩, fun b j q => by rw [zg_o _ _ (by omega)]; exact fr2 b j q, ⟨hA2.to (fun b j a1 a2 => by rw [zg_n _ _ _ (by omega)]), h2.so.to (fun b j q => by rw [zg_o _ _ (by omega)])⟩, by rw [zldC_0]; exact zg_s _ _ _ _ _, fun i h => absurd h (by rw [zldC_0]; omega)⟩ ?_ ?_
  · clear fr2 h1 h2 hA1 hA2 f1 f2
    rintro k ρ M3 X hk1 ⟨⟨l, rfl⟩, f3, ⟨hA3, hC3⟩, w3, l3⟩ hX
    obtain ⟨c, c1, c2, c3⟩ := zkth (s := tX A) (n := 256) (show k < zcnt (tX A) 256 by rw [hEE]; exact hk1)
    obtain ⟨c4, c5, -⟩ := tX_in hn2 hw c2
    have hp : zpk (tX A) ((k : Nat) : Int) 256 = ((c : Nat) : Int) := zpk_some c1 c2 (by omega)
    have hsu_ := zldC_su (n := n) (kind := kind) (a := a) (b := b') c1 c2 c3
    have hsu := hsu_
    clear hsu_
    have hcl : zldC n A kind a b' k ≤ k := hldle k (by omega)
    have same : zldC n A kind a b' (k + 1) = zldC n A kind a b' k → ∀ (l : zLoc) (M' : zMem), (∀ b j, ¬ (b = ((134 : Nat) : Int) ∧ (j = 6 ∨ j = 7 ∨ j = 12) ∨ ((135 : Nat) : Int) ≤ b ∧ b ≤ ((147 : Nat) : Int) ∨ b = ((x + 12 : Nat) : Int)) → M' b j = M b j) → zTR M' x n A → cSo M' → M' ((134 : Nat) : Int) ((12 : Nat) : Int) = ((zldC n A kind a b' k : Nat) : Int) → (∀ j, M' ((147 : Nat) : Int) j = M3 ((147 : Nat) : Int) j) → X (((134 : Nat) : Int) :: ((x : Nat) : Int) :: ((kind : Nat) : Int) :: ((a : Nat) : Int) :: b :: ((zoF n A kind a b' : Nat) : Int) :: ((E : Nat) : Int) :: ((k + 1 : Nat) : Int) :: l) M' := fun e l M' hf h1 h2 h12 h146 => by
      refine hX _ _ ⟨⟨l, rfl⟩, hf, ⟨h1, h2⟩, by rw [e]; exact h12, fun i hi => ?_⟩
      rw [e] at hi
      obtain ⟨j, j1, j2, j3⟩ := l3 i hi
      exact ⟨j, by rw [h146]; exact j1, by omega, j3⟩
    have hpa := fun (K' : Option zV → zMem → Prop) (z : K' (some (0, zpk (tX A) ((k : Nat) : Int) 256)) M3) => zTR.pairAt hO hx0 hA3 hn2 hw (k := ((k : Nat) : Int)) ⟨by omega, by omega⟩ (K := K') z
    rw [hp] at hpa
    by_cases e2 : tv A (c / 16) (c % 16) = 2
    · have hw2 := zv1_w hw c2 (show 1 ≤ 2 by omega)
      have hX2 := tX_zv1 c2 (show 1 ≠ 0 by omega)
      ((with_reducible refine i_turn (i_cI_lt (i_L7 (i_L6 ?_)))); (with_reducible refine i_t (by omega) ?_); (with_reducible refine i_Blk (i_Seq (i_Set (i_Call (i_as1 (i_FR (i_A1 ?_))))))); (with_reducible refine i_fldR (by assumption) ?_); (with_reducible refine i_as1 (i_L7 (i_as0 ?_))); (with_reducible refine i_recv0 (by assumption) ?_); (refine hpa _ ⟨_, rfl, ?_⟩); (with_reducible refine i_If (i_cAnd (i_cI_ne ?_))); simp only [w_set0, w_set1, w_setn0, w_setn1]; rw [w_setT]; (with_reducible refine i_L8 (i_I ?_)); ((with_reducible refine i_t (show (((c : Nat) : Int) : Int) ≠ -1 by omega) ?_)); (with_reducible refine i_cZ_ne (i_Call (i_as1 (i_A1 (i_as1 (i_L8 (i_as0 ?_))))))); (with_reducible refine i_recv0 (by assumption) ?_); (refine c_isLeft hO hx0 hA3 c4 c1 ⟨_, rfl, ?_⟩); (rw [decide_eq_true e2]); rw [zbI_t]; (with_reducible refine i_t (by omega) ?_); (with_reducible refine i_Seq (i_sCall (i_as1 (i_A1 (i_as1 (i_L8 (i_as1 (i_I (i_as0 ?_))))))))); (with_reducible refine i_recv0 (by assumption) ?_))
      refine c_setLeft hO (out := false) hx0 hA3 c4 c1 c2 (fun M4 f4 h4 => ⟨rfl, ?_⟩)
      rw [if_neg (by decide)] at h4
      ((with_reducible refine i_Seq (i_sCall (i_as1 (i_A0 (i_as1 (i_A1 (i_as0 ?_))))))); (with_reducible refine i_recv0 (by assumption) ?_))
      refine c_take hO hS hx0 (by omega) h4 hn2 hw2 (hC3.to (fun b j q => f4 b j (by omega))) (fun M5 f5 h5 => ⟨rfl, ?_⟩)
      have hA5 : zTR M5 x n (zTv A (zv1 A c 1)) := h4.to (fun b j a1 a2 => f5 b j (by omega))
      ((with_reducible refine i_Seq (i_If (i_cAnd (i_cI_lt (i_Call (i_as1 (i_A0 (i_as1 (i_A1 (i_as1 (i_L2 (i_as1 (i_L3 (i_as1 (i_L4 (i_as0 ?_)))))))))))))))); (with_reducible refine i_recv0 (by assumption) ?_))
      refine c_off hO hS hx0 (by omega) hA5.1.1 hn1 hn2 hw2 hQ h5 (fun M6 f6 h6 => ⟨_, rfl, ?_⟩)
      have hA6 : zTR M6 x n (zTv A (zv1 A c 1)) := hA5.to (fun b j a1 a2 => f6 b j (by omega))
      have hoff2 := zoF_b (n := n) (A := zTv A (zv1 A c 1)) (kind := kind) (a := a) (b' := b') hn2
      have w6 : M6 ((134 : Nat) : Int) ((12 : Nat) : Int) = ((zldC n A kind a b' k : Nat) : Int) := by rw [f6 _ _ (by omega), f5 _ _ (by omega), f4 _ _ (by omega)]; exact w3
      have l6 : ∀ j, M6 ((147 : Nat) : Int) j = M3 ((147 : Nat) : Int) j := fun j => by rw [f6 _ _ (by omega), f5 _ _ (by omega), f4 _ _ (by omega)]
      have f63 : ∀ b j, ¬ (b = ((134 : Nat) : Int) ∧ (j = 6 ∨ j = 7 ∨ j = 12) ∨ ((135 : Nat) : Int) ≤ b ∧ b ≤ ((147 : Nat) : Int) ∨ b = ((x + 12 : Nat) : Int)) → M6 b j = M b j := fun b j q => by rw [f6 b j (by omega), f5 b j (by omega), f4 b j (by omega), f3 b j q]
      have c2' : tX (zTv A (zv1 A c 1)) c = true := by rw [hX2]; exact c2
      have hback := zv1_bk c1 e2
      by_cases e3 : zoF n (zTv A (zv1 A c 1)) kind a b' < zoF n A kind a b'
      · have hl : zld n A kind a b' c = true := by unfold zld; rw [c2, decide_eq_true e2, decide_eq_true e3]; rfl
        rw [hl, if_pos rfl] at hsu
        clear same
        ((with_reducible refine i_L5 ?_); (with_reducible refine i_t (by omega) ?_); (with_reducible refine i_cI_lt (i_F (i_A0 ?_))); (with_reducible refine i_fld (by assumption) ?_); (with_reducible refine i_I ?_); (rw [w6]); (with_reducible refine i_t (by omega) ?_); (with_reducible refine i_Seq (i_sIA (i_FR (i_A0 ?_)))); (with_reducible refine i_fldR (by assumption) ?_); (with_reducible refine i_F (i_A0 ?_)); (with_reducible refine i_fld (by assumption) ?_); (with_reducible refine i_L7 ?_); (with_reducible refine i_in (by assumption) (by omega) (by omega) ?_); (with_reducible refine i_FO (i_A0 ?_)); (with_reducible refine i_fld (by assumption) ?_); (with_reducible refine i_I ?_); (with_reducible refine i_fld (by assumption) ?_); (with_reducible refine i_sCall (i_as1 (i_A1 (i_as1 (i_L8 (i_as1 (i_I (i_as0 ?_)))))))); (with_reducible refine i_recv0 (by assumption) ?_); rw [zg_n _ _ _ (by omega)]; (rw [w6]); rw [zx_inc (by omega)])
        refine c_setLeft hO (out := true) hx0 (hA6.to (fun b j a1 a2 => by rw [zg_n _ _ _ (by omega), zg_n _ _ _ (by omega)])) c4 c1 c2' (fun M7 f7 h7 => ⟨rfl, ?_⟩)
        rw [if_pos rfl, hback] at h7
        ((with_reducible refine i_up (i_Inc7 ?_)); rw [zx_inc (by omega)]; simp only [w_set0, w_set1, w_setn0, w_setn1])
        refine hX _ _ ⟨⟨_, rfl⟩, fun b j q => by rw [f7 b j (by omega), zg_o _ _ (by omega), zg_o _ _ (by omega)]; exact f63 b j q, ⟨h7, h6.so.to (fun b j q => by rw [f7 b j (by omega), zg_o _ _ (by omega), zg_o _ _ (by omega)])⟩, by rw [hsu, f7 _ _ (by omega)]; exact zg_s _ _ _ _ _, fun i hi => ?_⟩
        rw [hsu] at hi
        by_cases z : i = zldC n A kind a b' k
        · exact ⟨k, by rw [z, f7 _ _ (by omega), zg_n _ _ _ (by omega)]; exact zg_s _ _ _ _ _, by omega, hsu, z.symm⟩
        · obtain ⟨j, j1, j2, j3⟩ := l3 i (by omega)
          exact ⟨j, by rw [f7 _ _ (by omega), zg_n _ _ _ (by omega), zg_m _ _ _ _ _ (by omega), l6]; exact j1, by omega, j3⟩
      · have hl : zld n A kind a b' c = false := by unfold zld; rw [decide_eq_false e3, Bool.and_false, Bool.and_false]
        rw [hl, if_neg (by decide)] at hsu
        replace hsu := hsu.trans (Nat.add_zero _)
        clear hX
        ((with_reducible refine i_L5 ?_); (with_reducible refine i_f (by omega) ?_); (with_reducible refine i_sCall (i_as1 (i_A1 (i_as1 (i_L8 (i_as1 (i_I (i_as0 ?_)))))))); (with_reducible refine i_recv0 (by assumption) ?_))
        refine c_setLeft hO (out := true) hx0 hA6 c4 c1 c2' (fun M7 f7 h7 => ⟨rfl, ?_⟩)
        rw [if_pos rfl, hback] at h7
        ((with_reducible refine i_up (i_Inc7 ?_)); rw [zx_inc (by omega)]; simp only [w_set0, w_set1, w_setn0, w_setn1])
        exact same hsu _ _ (fun b j q => by rw [f7 b j (by omega)]; exact f63 b j q) h7 (h6.so.to (fun b j q => f7 b j (by omega))) (by rw [f7 _ _ (by omega)]; exact w6) (fun j => by rw [f7 _ _ (by omega)]; exact l6 j)
    · have hl : zld n A kind a b' c = false := by unfold zld; rw [decide_eq_false e2]; simp
      rw [hl, if_neg (by decide)] at hsu
      replace hsu := hsu.trans (Nat.add_zero _)
      clear hX
      ((with_reducible refine i_turn (i_cI_lt (i_L7 (i_L6 ?_)))); (with_reducible refine i_t (by omega) ?_); (with_reducible refine i_Blk (i_Seq (i_Set (i_Call (i_as1 (i_FR (i_A1 ?_))))))); (with_reducible refine i_fldR (by assumption) ?_); (with_reducible refine i_as1 (i_L7 (i_as0 ?_))); (with_reducible refine i_recv0 (by assumption) ?_); (refine hpa _ ⟨_, rfl, ?_⟩); (with_reducible refine i_If (i_cAnd (i_cI_ne ?_))); simp only [w_set0, w_set1, w_setn0, w_setn1]; rw [w_setT]; (with_reducible refine i_L8 (i_I ?_)); ((with_reducible refine i_t (show (((c : Nat) : Int) : Int) ≠ -1 by omega) ?_)); (with_reducible refine i_cZ_ne (i_Call (i_as1 (i_A1 (i_as1 (i_L8 (i_as0 ?_))))))); (with_reducible refine i_recv0 (by assumption) ?_); (refine c_isLeft hO hx0 hA3 c4 c1 ⟨_, rfl, ?_⟩); (rw [decide_eq_false e2]); rw [zbI_f]; (with_reducible refine i_f (by omega) ?_); (with_reducible refine i_up (i_Inc7 ?_)); rw [zx_inc (by omega)]; simp only [w_set0, w_set1, w_setn0, w_setn1])
      exact same hsu _ _ f3 hA3 hC3 w3 (fun _ => rfl)
  · rintro ρ M3 X ⟨⟨l, rfl⟩, f3, ⟨hA3, hC3⟩, w3, l3⟩
    ((with_reducible refine i_turn (i_cI_lt (i_L7 (i_L6 ?_)))); (with_reducible refine i_f (by omega) ?_); (with_reducible refine i_RetV ?_))
    exact hk M3 f3 hA3 hC3 w3 l3
