/-! ===== partings by the rule: the class moves posts ===== -/
/-- a post's place among the others -/
def zsk (p q : Nat) : Nat := if q < p then q else q - 1
/-- a post taken out into a box of its own -/
def zlif (g : Nat → Nat) (p : Nat) : Nat → Nat := fun q => if q = p then 16 else g q
theorem zot_sk {g : Nat → Nat} {p q : Nat} (h : q ≠ p) : zot g p (zsk p q) = g q := by
  unfold zot zsk
  by_cases w : q < p
  · rw [if_pos w, if_pos w]
  · rw [if_neg w, if_neg (by omega), show q - 1 + 1 = q by omega]
theorem zlif_ne {g : Nat → Nat} {p q : Nat} (h : q ≠ p) : zlif g p q = g q := if_neg h
theorem zlif_eq (g : Nat → Nat) (p : Nat) : zlif g p p = 16 := if_pos rfl
theorem zlf1 {g : Nat → Nat} {p q : Nat} (h16 : ∀ r, g r < 16) (h : q ≠ p) : zfl (zot g p) (g q) (zsk p q) = zsk p (zfl (zlif g p) (zlif g p q) q) ∧ zfl (zlif g p) (zlif g p q) q ≠ p := by
  have h0 : zlif g p q = g q := zlif_ne h
  have hle := zfl_le (zlif g p) (zlif g p q) q
  have hat : zlif g p (zfl (zlif g p) (zlif g p q) q) = zlif g p q := by
    by_cases w : zfl (zlif g p) (zlif g p q) q < q
    · exact zfl_at w
    · rw [show zfl (zlif g p) (zlif g p q) q = q by omega]
  have hno : ∀ i, i < zfl (zlif g p) (zlif g p q) q → zlif g p i ≠ zlif g p q := fun i hi => zfl_no hi
  generalize zfl (zlif g p) (zlif g p q) q = j at hle hat hno ⊢
  have hjp : j ≠ p := fun e => by
    subst e
    rw [zlif_eq, h0] at hat
    have := h16 q
    omega
  refine ⟨?_, hjp⟩
  rw [h0, zlif_ne hjp] at hat
  rw [h0] at hno
  have hin : zfl (zot g p) (g q) (zsk p q + 1) = zfl (zot g p) (g q) (zsk p q) := by
    have := zfl_in (f := zot g p) (p := zsk p q) (k := zsk p q + 1) (by omega)
    rwa [zot_sk h] at this
  rw [← hin]
  refine zfl_eq ?_ ?_ ?_
  · unfold zsk; split <;> split <;> omega
  · rw [zot_sk hjp]; exact hat
  · intro i hi
    by_cases w : i < p
    · have e : zot g p i = g i := by unfold zot; rw [if_pos w]
      rw [e]
      have := hno i (by unfold zsk at hi; split at hi <;> omega)
      rwa [zlif_ne (by omega)] at this
    · have e : zot g p i = g (i + 1) := by unfold zot; rw [if_neg w]
      rw [e]
      have := hno (i + 1) (by unfold zsk at hi; split at hi <;> omega)
      rwa [zlif_ne (by omega)] at this
theorem zlN_p {g : Nat → Nat} {p : Nat} (h16 : ∀ r, g r < 16) : zNew (zlif g p) p = true := by
  refine decide_eq_true ?_
  have hle := zfl_le (zlif g p) (zlif g p p) p
  by_cases w : zfl (zlif g p) (zlif g p p) p < p
  · have e := zfl_at w
    rw [zlif_eq, zlif_ne (show zfl (zlif g p) 16 p ≠ p by rw [zlif_eq] at w; omega)] at e
    have := h16 (zfl (zlif g p) 16 p)
    omega
  · omega
theorem zlN_q {g : Nat → Nat} {p q : Nat} (h16 : ∀ r, g r < 16) (h : q ≠ p) : zNew (zlif g p) q = zNew (zot g p) (zsk p q) := by
  obtain ⟨h1, h2⟩ := zlf1 h16 h
  unfold zNew
  rw [zot_sk h, h1]
  refine decide_eq_decide.mpr ⟨fun e => by rw [e], fun e => ?_⟩
  have hle := zfl_le (zlif g p) (zlif g p q) q
  generalize zfl (zlif g p) (zlif g p q) q = j at h2 e hle
  unfold zsk at e
  split at e <;> split at e <;> omega
theorem zlC_lo {g : Nat → Nat} {p k : Nat} (h16 : ∀ r, g r < 16) (hk : k ≤ p) : zcnt (zNew (zlif g p)) k = zcnt (zNew (zot g p)) k :=
  zcnt_ext fun i hi => by rw [zlN_q h16 (by omega)]; unfold zsk; rw [if_pos (by omega)]
theorem zlC_hi {g : Nat → Nat} {p : Nat} (h16 : ∀ r, g r < 16) (d : Nat) : zcnt (zNew (zlif g p)) (p + d + 1) = zcnt (zNew (zot g p)) (p + d) + 1 := by
  induction d with
  | zero =>
    show zcnt (zNew (zlif g p)) (p + 1) = zcnt (zNew (zot g p)) p + 1
    rw [zcnt_su, zlN_p h16, zlC_lo h16 (Nat.le_refl _), if_pos rfl]
  | succ d ih =>
    have e : zsk p (p + d + 1) = p + d := by unfold zsk; rw [if_neg (by omega)]; omega
    rw [show p + (d + 1) + 1 = (p + d + 1) + 1 by omega, zcnt_su, ih, zlN_q h16 (by omega), e, show p + (d + 1) = (p + d) + 1 by omega, zcnt_su]
    omega
/-- the numbers with the post alone, by those without it -/
theorem zlif_nums {n p : Nat} {g : Nat → Nat} (h16 : ∀ r, g r < 16) (hp : p < n) : zcmx n (zlif g p) = znb n g p + 1 ∧ zcg n (zlif g p) p ≤ znb n g p ∧ ∀ q, q < n → q ≠ p → zcg n (zlif g p) q = if zwi g p q < zcg n (zlif g p) p then zwi g p q else zwi g p q + 1 := by
  have ho : zcg n (zlif g p) p = zcnt (zNew (zot g p)) p := by
    rw [zcg_in hp]
    unfold zNum
    have h := of_decide_eq_true (zlN_p (p := p) h16)
    rw [h]
    exact zlC_lo h16 (Nat.le_refl _)
  have hm : zcmx n (zlif g p) = znb n g p + 1 := by
    rw [zcm_in]
    have := zlC_hi (p := p) h16 (n - 1 - p)
    rw [show p + (n - 1 - p) + 1 = n by omega, show p + (n - 1 - p) = n - 1 by omega] at this
    exact this
  have h1 := zcg_lt (f := zlif g p) hp
  refine ⟨hm, by omega, fun q hq hqp => ?_⟩
  obtain ⟨e1, e2⟩ := zlf1 h16 hqp
  have hle := zfl_le (zlif g p) (zlif g p q) q
  have hnw : zNew (zlif g p) (zfl (zlif g p) (zlif g p q) q) = true := by
    have := zNew_at (f := zlif g p) (l := zlif g p q) (k := q + 1) (by rw [zfl_in (by omega)]; omega)
    rwa [zfl_in (by omega)] at this
  have hw : zwi g p q = zcnt (zNew (zot g p)) (zsk p (zfl (zlif g p) (zlif g p q) q)) := by
    unfold zwi zNum
    show zcnt (zNew (zot g p)) (zfl (zot g p) (zot g p (zsk p q)) (zsk p q)) = _
    rw [zot_sk hqp, e1]
  rw [ho, zcg_in hq]
  unfold zNum
  generalize zfl (zlif g p) (zlif g p q) q = j at e1 e2 hle hnw hw ⊢
  rw [zlN_q h16 e2] at hnw
  rw [hw]
  by_cases w : j < p
  · have es : zsk p j = j := if_pos w
    rw [es] at hnw ⊢
    rw [zlC_lo h16 (by omega)]
    have := zcnt_sub1 (s := fun i => decide (i < j) && zNew (zot g p) i) (t := zNew (zot g p)) (n := p) (i := j) (fun i _ h => by rw [Bool.and_eq_true] at h; exact h.2) w (by rw [decide_eq_false (Nat.lt_irrefl _)]; rfl) hnw
    have e : zcnt (fun i => decide (i < j) && zNew (zot g p) i) p = zcnt (zNew (zot g p)) j := by
      rw [zcnt_top (c := j) (fun d hd => by rw [decide_eq_false (by omega)]; rfl) (by omega)]
      exact zcnt_ext fun i hi => by rw [decide_eq_true hi]; rfl
    rw [if_pos (by omega)]
  · have es : zsk p j = j - 1 := if_neg w
    rw [es]
    have h2 := zlC_hi (p := p) h16 (j - 1 - p)
    rw [show p + (j - 1 - p) + 1 = j by omega, show p + (j - 1 - p) = j - 1 by omega] at h2
    rw [h2]
    have h3 : zcnt (zNew (zot g p)) p ≤ zcnt (zNew (zot g p)) (j - 1) := by
      rw [show j - 1 = p + (j - 1 - p) by omega]
      generalize j - 1 - p = d
      induction d with
      | zero => exact Nat.le_refl _
      | succ d ih => rw [show p + (d + 1) = (p + d) + 1 by omega, zcnt_su]; omega
    rw [if_neg (by omega)]
/-- the labels that the class tries are the reference's -/
theorem zmv_alike {n p i : Nat} {g : Nat → Nat} (h16 : ∀ r, g r < 16) (hp : p < n) (hi : i ≤ znb n g p + 1) (hio : i ≠ zcg n (zlif g p) p) (a b : Nat) (ha : a < n) (hb : b < n) :
    ((fun q => if q = p then (if i = znb n g p + 1 then zcg n (zlif g p) p else i) else zcg n (zlif g p) q) a = (fun q => if q = p then (if i = znb n g p + 1 then zcg n (zlif g p) p else i) else zcg n (zlif g p) q) b ↔ zmc g p (if i ≤ zcg n (zlif g p) p then i else i - 1) a = zmc g p (if i ≤ zcg n (zlif g p) p then i else i - 1) b) := by
  obtain ⟨-, h2, h3⟩ := zlif_nums h16 hp
  have key : ∀ b, b < n → b ≠ p → ((if i = znb n g p + 1 then zcg n (zlif g p) p else i) = zcg n (zlif g p) b ↔ (if i ≤ zcg n (zlif g p) p then i else i - 1) = zwi g p b) := fun b hb hbp => by
    have hw := zwi_lt (g := g) hp hb hbp
    rw [h3 b hb hbp]
    generalize zcg n (zlif g p) p = own at h2 hio ⊢
    generalize zwi g p b = w at hw ⊢
    generalize znb n g p = B at hi h2 hw ⊢
    constructor
    · intro e
      split at e <;> split at e <;> split <;> omega
    · intro e
      split at e <;> split <;> split <;> omega
  dsimp only
  unfold zmc
  by_cases ea : a = p
  · by_cases eb : b = p
    · rw [if_pos ea, if_pos eb, if_pos ea, if_pos eb]; exact ⟨fun _ => rfl, fun _ => rfl⟩
    · rw [if_pos ea, if_neg eb, if_pos ea, if_neg eb]
      exact key b hb eb
  · by_cases eb : b = p
    · rw [if_neg ea, if_pos eb, if_neg ea, if_pos eb]
      have := key a ha ea
      exact ⟨fun e => (this.mp e.symm).symm, fun e => (this.mpr e.symm).symm⟩
    · rw [if_neg ea, if_neg eb, if_neg ea, if_neg eb, zcg_inj ha hb, zlif_ne ea, zlif_ne eb, zwi_eq ea eb]
theorem c_movePost {O : zOm} (hO : zWld O) (hS : zS O = zmS zC0) {y n p cur : Nat} {g : Nat → Nat} {T : Nat → Nat → Bool} {M : zMem} {K : Option zV → zMem → Prop} (hy : zNet (zS O) y) (hy7 : y + 1 < 108 ∨ 131 < y) (hN : zNR M y n T) (hT : zReg n T) (hn1 : 0 < n) (hn2 : n ≤ 16) (hp : p < n) (hg : zcg n g = g) (hB : zPC M 124 n g) (hs : M ((108 : Nat) : Int) ((6 : Nat) : Int) = ((cur : Nat) : Int)) (hc : cur ≤ 20000)
    (hk : ∀ M', (∀ b j, ¬ (((108 : Nat) : Int) ≤ b ∧ b ≤ ((131 : Nat) : Int)) → M' b j = M b j) → zPC M' 124 n (zM1 n T p (g, cur)).1 → M' ((108 : Nat) : Int) ((6 : Nat) : Int) = (((zM1 n T p (g, cur)).2 : Nat) : Int) → K (some (0, zbI (decide ((zM1 n T p (g, cur)).2 < cur)))) M') : zR O F_Search_movePost [(2, ((108 : Nat) : Int)), (2, ((y : Nat) : Int)), (0, ((p : Nat) : Int))] M K := by
  have t0 := zo_108 hS
  have t1 := zf_108_0 hS
  have t2 := zf_108_1 hS
  have t3 := zf_108_2 hS
  have t4 := zf_108_3 hS
  have t5 := zf_108_6 hS
  have hR := zRl_109 hS
  have hX := zTeB.to hS zTe_111
  have hP := zParB.to hS zPa_124
  have hL := zParB.to hS zPa_128
  have hR0 := hR
  have hX0 := hX
  have hP0 := hP
  have hL0 := hL
  obtain ⟨r0, r1, r2, r3, r4, r5⟩ := hR
  obtain ⟨⟨x0, x1, x2, x3, x4, x5, x6, x7⟩, ⟨xa, xb⟩, hQ0, -⟩ := hX
  have hQ := hQ0
  obtain ⟨q0, q1, q2, q3, q4, q5, q6, q7, q8⟩ := hQ
  obtain ⟨p0, p1, p2, p3, p4, p5, p6, p7, p8⟩ := hP
  obtain ⟨l0, l1, l2, l3, l4, l5, l6, l7, l8⟩ := hL
  have h16 : ∀ r, g r < 16 := fun r => by rw [← hg]; exact zcg_16 hn2 g r
  obtain ⟨hn_1, hn_2, -⟩ := zlif_nums h16 hp
  have hnb : znb n g p ≤ n - 1 := zcnt_le _ _
  have hmb := zMb_ok n T g p cur
  apply r_Search_movePost hO
  unfold B_Search_movePost
  ((with_reducible refine i_Seq (i_sCall (i_as1 (i_FR (i_A0 ?_))))); (with_reducible refine i_fldR (by assumption) ?_); (with_reducible refine i_as1 (i_FR (i_A0 ?_))); (with_reducible refine i_fldR (by assumption) ?_); (with_reducible refine i_as0 ?_); (with_reducible refine i_recv0 (by assumption) ?_))
  refine c_pbecome hO (p := 128) (q := 124) hL0 hP0 (by omega) hn2 hB (fun M1 f1 h1 => ⟨rfl, ?_⟩)
  ((with_reducible refine i_Seq (i_sCall (i_as1 (i_FR (i_A0 ?_))))); (with_reducible refine i_fldR (by assumption) ?_); (with_reducible refine i_as1 (i_L2 (i_as0 ?_))); (with_reducible refine i_recv0 (by assumption) ?_))
  refine c_lift hO (p := 128) hL0 hn2 h1 hp (fun M2 f2 h2 => ⟨rfl, ?_⟩)
  rw [hg] at h2
  change zPC M2 128 n (zlif g p) at h2
  have hfr2 : ∀ b j, ¬ (((128 : Nat) : Int) ≤ b ∧ b ≤ ((131 : Nat) : Int)) → M2 b j = M b j := fun b j q => by rw [f2 b j (by omega), f1 b j (by omega)]
  have hB2 : zPC M2 124 n g := hB.fr (fun b j a1 a2 => hfr2 b j (by omega))
  have hN2 : zNR M2 y n T := hN.to (fun b j a1 a2 => hfr2 b j (by omega))
  have hs2 : M2 ((108 : Nat) : Int) ((6 : Nat) : Int) = ((cur : Nat) : Int) := by rw [hfr2 _ _ (by omega)]; exact hs
  have go : M2 ((129 : Nat) : Int) ((p : Nat) : Int) = ((zcg n (zlif g p) p : Nat) : Int) := h2.2.2.1 p hp
  have gm : M2 ((128 : Nat) : Int) ((4 : Nat) : Int) = ((znb n g p + 1 : Nat) : Int) := by rw [← hn_1]; exact h2.2.1
  unfold zM1 at hk
  dsimp only at hk
  have hal := fun i hi hio => zmv_alike (i := i) h16 hp hi hio
  ((with_reducible refine i_Seq (i_Set (i_IA (i_FR (i_FR (i_A0 ?_)))))); (with_reducible refine i_fldR (by assumption) ?_); (with_reducible refine i_fldR (by assumption) ?_); (with_reducible refine i_L2 ?_); (with_reducible refine i_in (by assumption) (by omega) (by omega) ?_); (with_reducible refine i_Seq (i_Set (i_I (i_Seq (i_Blk (i_Seq (i_Set (i_I ?_)))))))); (rw [go]); simp only [w_set0, w_set1, w_setn0, w_setn1])
  generalize zcg n (zlif g p) p = own at hn_2 go hal ⊢
  generalize znb n g p = B at hnb gm hal hk hn_2 ⊢
  refine w_ForN (B + 2) (fun i ρ M' => (∃ l, ρ = ((108 : Nat) : Int) :: ((y : Nat) : Int) :: ((p : Nat) : Int) :: ((own : Nat) : Int) :: zbI (decide ((zMb n T g p cur (if i ≤ own then i else i - 1)).2 ≠ 0)) :: ((i : Nat) : Int) :: l) ∧ (∀ b j, ¬ (b = ((108 : Nat) : Int) ∧ j = 6 ∨ ((109 : Nat) : Int) ≤ b ∧ b ≤ ((127 : Nat) : Int)) → M' b j = M2 b j) ∧ M' ((108 : Nat) : Int) ((6 : Nat) : Int) = (((zMb n T g p cur (if i ≤ own then i else i - 1)).1 : Nat) : Int) ∧ zPC M' 124 n (if (zMb n T g p cur (if i ≤ own then i else i - 1)).2 = 0 then g else zcg n (zmc g p ((zMb n T g p cur (if i ≤ own then i else i - 1)).2 - 1)))) ⟨⟨_, by rw [if_pos (Nat.zero_le _)]; rfl⟩, fun _ _ _ => rfl, by rw [if_pos (Nat.zero_le _)]; exact hs2, by rw [if_pos (Nat.zero_le _)]; exact hB2⟩ ?_ ?_
  · rintro i ρ M3 X hi ⟨⟨l, rfl⟩, hf3, hs3, hB3⟩ hX3
    have gm3 : M3 ((128 : Nat) : Int) ((4 : Nat) : Int) = ((B + 1 : Nat) : Int) := (hf3 _ _ (by omega)).trans gm
    have hL3 : zPC M3 128 n (zlif g p) := h2.fr (fun b j a1 a2 => hf3 b j (by omega))
    have hN3 : zNR M3 y n T := hN2.to (fun b j a1 a2 => hf3 b j (by omega))
    by_cases e : i = own
    · rw [show (if i + 1 ≤ own then i + 1 else i + 1 - 1) = (if i ≤ own then i else i - 1) by split <;> split <;> omega] at hX3
      ((with_reducible refine i_turn (i_cI_le (i_L5 (i_F (i_FR (i_A0 ?_)))))); (with_reducible refine i_fldR (by assumption) ?_); (with_reducible refine i_fld (by assumption) ?_); (rw [gm3]); (with_reducible refine i_t (by omega) ?_); (with_reducible refine i_If (i_cI_ne (i_L5 (i_L3 ?_)))); (with_reducible refine i_f (by omega) ?_); (with_reducible refine i_up (i_Inc5 ?_)); rw [zx_inc (by omega)]; simp only [w_set0, w_set1, w_setn0, w_setn1])
      exact hX3 _ _ ⟨⟨_, rfl⟩, hf3, hs3, hB3⟩
    · have hA := hal i (by omega) e
      rw [show (if i + 1 ≤ own then i + 1 else i + 1 - 1) = (if i ≤ own then i else i - 1) + 1 by split <;> split <;> omega, zMb_su] at hX3
      have hc1 := (hmb (if i ≤ own then i else i - 1)).1
      generalize (if i ≤ own then i else i - 1) = c at hA hX3 hs3 hB3 hc1 ⊢
      generalize zMb n T g p cur c = s at hX3 hs3 hB3 hc1 ⊢
      have hln := zLn_le (T := T) (f := zmc g p c) hn2
      by_cases ei : i = B + 1
      all_goals
        first | rw [if_pos ei] at hA | rw [if_neg ei] at hA
        ((with_reducible refine i_turn (i_cI_le (i_L5 (i_F (i_FR (i_A0 ?_)))))); (with_reducible refine i_fldR (by assumption) ?_); (with_reducible refine i_fld (by assumption) ?_); (rw [gm3]); (with_reducible refine i_t (by omega) ?_); (with_reducible refine i_If (i_cI_ne (i_L5 (i_L3 ?_)))); (with_reducible refine i_t (by omega) ?_); (with_reducible refine i_Blk (i_Seq (i_sCall (i_as1 (i_FR (i_FR (i_A0 ?_))))))); (with_reducible refine i_fldR (by assumption) ?_); (with_reducible refine i_fldR (by assumption) ?_); (with_reducible refine i_as1 (i_FR (i_A0 ?_))); (with_reducible refine i_fldR (by assumption) ?_); (with_reducible refine i_as0 ?_); (with_reducible refine i_recv0 (by assumption) ?_))
        refine c_pbecome hO (p := 112) (q := 128) hQ0 hL0 (by omega) hn2 hL3 (fun M4 f4 h4 => ⟨rfl, ?_⟩)
        have gm4 : M4 ((128 : Nat) : Int) ((4 : Nat) : Int) = ((B + 1 : Nat) : Int) := (f4 _ _ (by omega)).trans gm3
        (first | (((with_reducible refine i_Seq (i_sCall (i_as1 (i_FR (i_FR (i_A0 ?_)))))); (with_reducible refine i_fldR (by assumption) ?_); (with_reducible refine i_fldR (by assumption) ?_); (with_reducible refine i_as1 (i_L2 (i_as1 (i_eIf (i_cI_eq (i_L5 (i_F (i_FR (i_A0 ?_))))))))); (with_reducible refine i_fldR (by assumption) ?_); (with_reducible refine i_fld (by assumption) ?_); (rw [gm4]); (with_reducible refine i_t (by omega) ?_); (with_reducible refine i_L3 (i_as0 ?_)); (with_reducible refine i_recv0 (by assumption) ?_))) | (((with_reducible refine i_Seq (i_sCall (i_as1 (i_FR (i_FR (i_A0 ?_)))))); (with_reducible refine i_fldR (by assumption) ?_); (with_reducible refine i_fldR (by assumption) ?_); (with_reducible refine i_as1 (i_L2 (i_as1 (i_eIf (i_cI_eq (i_L5 (i_F (i_FR (i_A0 ?_))))))))); (with_reducible refine i_fldR (by assumption) ?_); (with_reducible refine i_fld (by assumption) ?_); (rw [gm4]); (with_reducible refine i_f (by omega) ?_); (with_reducible refine i_L5 (i_as0 ?_)); (with_reducible refine i_recv0 (by assumption) ?_))))
        refine c_put hO (p := 112) hQ0 hn2 h4 hp (by omega) (fun M5 f5 h5 => ⟨rfl, ?_⟩)
        have hs5 : M5 ((108 : Nat) : Int) ((6 : Nat) : Int) = ((s.1 : Nat) : Int) := by rw [f5 _ _ (by omega), f4 _ _ (by omega)]; exact hs3
        have hf5 : ∀ b j, ¬ (b = ((108 : Nat) : Int) ∧ j = 6 ∨ ((109 : Nat) : Int) ≤ b ∧ b ≤ ((127 : Nat) : Int)) → M5 b j = M2 b j := fun b j q => by rw [f5 b j (by omega), f4 b j (by omega), hf3 b j q]
        have hB5 : zPC M5 124 n (if s.2 = 0 then g else zcg n (zmc g p (s.2 - 1))) := hB3.fr (fun b j a1 a2 => by rw [f5 b j (by omega), f4 b j (by omega)])
        ((with_reducible refine i_Seq (i_Set (i_Call (i_as1 (i_FR (i_A0 ?_)))))); (with_reducible refine i_fldR (by assumption) ?_); (with_reducible refine i_as1 (i_A1 (i_as1 (i_FR (i_A0 ?_))))); (with_reducible refine i_fldR (by assumption) ?_); (with_reducible refine i_as0 ?_); (with_reducible refine i_recv0 (by assumption) ?_); simp only [w_set0, w_set1, w_setn0, w_setn1])
        refine c_tellA hO (r := 109) (x := 111) hR0 hX0 hy (by omega) (by omega) (by omega) (hN3.to (fun b j a1 a2 => by rw [f5 b j (by omega), f4 b j (by omega)])) hT h5 hn2 (fun M6 f6 h6 => ⟨_, rfl, ?_⟩)
        have hs6 : M6 ((108 : Nat) : Int) ((6 : Nat) : Int) = ((s.1 : Nat) : Int) := by rw [f6 _ _ (by omega)]; exact hs5
        have hf6 : ∀ b j, ¬ (b = ((108 : Nat) : Int) ∧ j = 6 ∨ ((109 : Nat) : Int) ≤ b ∧ b ≤ ((127 : Nat) : Int)) → M6 b j = M2 b j := fun b j q => by rw [f6 b j (by omega), hf5 b j q]
        have h6p := zPC.fr (M' := M6) h5 (fun b j a1 a2 => f6 b j (by omega))
        have hB6 : zPC M6 124 n (if s.2 = 0 then g else zcg n (zmc g p (s.2 - 1))) := hB5.fr (fun b j a1 a2 => f6 b j (by omega))
        rw [zLn_ext hn1 hA]
        by_cases z : zLgt n T (zmc g p c) < s.1
        · rw [if_pos z] at hX3
          ((with_reducible refine i_If (i_cI_lt ?_)); rw [w_setT]; (with_reducible refine i_L6 (i_F (i_A0 ?_))); (with_reducible refine i_fld (by assumption) ?_); (rw [hs6]); (with_reducible refine i_t (by omega) ?_); (with_reducible refine i_Seq (i_sF (i_A0 (i_L6 ?_)))); (with_reducible refine i_fld (by assumption) ?_); (with_reducible refine i_Seq (i_sCall (i_as1 (i_FR (i_A0 ?_))))); (with_reducible refine i_fldR (by assumption) ?_); (with_reducible refine i_as1 (i_FR (i_FR (i_A0 ?_)))); (with_reducible refine i_fldR (by assumption) ?_); (with_reducible refine i_fldR (by assumption) ?_); (with_reducible refine i_as0 ?_); (with_reducible refine i_recv0 (by assumption) ?_))
          refine c_pbecome hO (p := 124) (q := 112) hP0 hQ0 (by omega) hn2 (h6p.fr (fun b j a1 a2 => by rw [zg_n _ _ _ (by omega)])) (fun M7 f7 h7 => ⟨rfl, ?_⟩)
          ((with_reducible refine i_Set (i_I (i_up ?_))); simp only [w_set0, w_set1, w_setn0, w_setn1]; (with_reducible refine i_Inc5 ?_); rw [zx_inc (by omega)]; simp only [w_set0, w_set1, w_setn0, w_setn1])
          refine hX3 _ _ ⟨⟨_, by rw [decide_eq_true (show c + 1 ≠ 0 by omega)]; rfl⟩, fun b j q => ?_, ?_, ?_⟩
          · rw [f7 b j (by omega), zg_o _ _ (by omega)]; exact hf6 b j q
          · rw [f7 _ _ (by omega)]; exact zg_s _ _ _ _ _
          · show zPC M7 124 n (if c + 1 = 0 then g else zcg n (zmc g p (c + 1 - 1)))
            rw [if_neg (by omega), show c + 1 - 1 = c by omega]
            exact (h7.ext hn1 hA).cg hn1
        · rw [if_neg z] at hX3
          ((with_reducible refine i_If (i_cI_lt ?_)); rw [w_setT]; (with_reducible refine i_L6 (i_F (i_A0 ?_))); (with_reducible refine i_fld (by assumption) ?_); (rw [hs6]); (with_reducible refine i_f (by omega) ?_); (with_reducible refine i_up (i_Inc5 ?_)); rw [zx_inc (by omega)]; simp only [w_set0, w_set1, w_setn0, w_setn1])
          exact hX3 _ _ ⟨⟨_, rfl⟩, hf6, hs6, hB6⟩
  · rintro ρ M3 X ⟨⟨l, rfl⟩, hf3, hs3, hB3⟩
    have gm3 : M3 ((128 : Nat) : Int) ((4 : Nat) : Int) = ((B + 1 : Nat) : Int) := (hf3 _ _ (by omega)).trans gm
    rw [show (if B + 2 ≤ own then B + 2 else B + 2 - 1) = B + 1 by split <;> omega] at hs3 hB3 ⊢
    have hm := hmb (B + 1)
    generalize zMb n T g p cur (B + 1) = s at hs3 hB3 hm hk ⊢
    have fr : ∀ b j, ¬ (((108 : Nat) : Int) ≤ b ∧ b ≤ ((131 : Nat) : Int)) → M3 b j = M b j := fun b j q => by rw [hf3 b j (by omega), hfr2 b j (by omega)]
    by_cases z : s.2 = 0
    · have e := hm.2.1 z
      subst e
      rw [if_pos rfl, decide_eq_false (Nat.lt_irrefl _)] at hk
      rw [if_pos rfl] at hB3
      rw [show decide ((cur, 0).2 ≠ 0) = false from rfl]
      ((with_reducible refine i_turn (i_cI_le (i_L5 (i_F (i_FR (i_A0 ?_)))))); (with_reducible refine i_fldR (by assumption) ?_); (with_reducible refine i_fld (by assumption) ?_); rw [zbI_f]; (rw [gm3]); (with_reducible refine i_f (by omega) ?_); (with_reducible refine i_RetZ (i_L4 ?_)); (with_reducible refine i_z (Or.inl rfl) ?_))
      exact hk M3 fr hB3 hs3
    · have e := (hm.2.2 z).1
      rw [if_neg z] at hk hB3
      rw [decide_eq_true (show s.1 < cur from e)] at hk
      rw [decide_eq_true z]
      ((with_reducible refine i_turn (i_cI_le (i_L5 (i_F (i_FR (i_A0 ?_)))))); (with_reducible refine i_fldR (by assumption) ?_); (with_reducible refine i_fld (by assumption) ?_); rw [zbI_t]; (rw [gm3]); (with_reducible refine i_f (by omega) ?_); (with_reducible refine i_RetZ (i_L4 ?_)); (with_reducible refine i_z (Or.inr rfl) ?_))
      exact hk M3 fr hB3 hs3
