section
-- part d6.cmove.lean.txt
/-! ===== partings by the rule: the class moves posts ===== -/
/-- a post's place among the others -/
def zsk (p q : Nat) : Nat := if q < p then q else q - 1
/-- a post taken out into a box of its own -/
def zlif (g : Nat → Nat) (p : Nat) : Nat → Nat := fun q => if q = p then 16 else g q
theorem zot_sk {g : Nat → Nat} {p q : Nat} (h : q ≠ p) : zot g p (zsk p q) = g q := by
  unfold zot zsk
  by_cases w : q < p
  · rw [if_pos w, if_pos w]
  · rw [if_neg w, if_neg (by omega), show q - 1 + 1 = q by omega]
theorem zlif_ne {g : Nat → Nat} {p q : Nat} (h : q ≠ p) : zlif g p q = g q := if_neg h
theorem zlif_eq (g : Nat → Nat) (p : Nat) : zlif g p p = 16 := if_pos rfl
theorem zlf1 {g : Nat → Nat} {p q : Nat} (h16 : ∀ r, g r < 16) (h : q ≠ p) : zfl (zot g p) (g q) (zsk p q) = zsk p (zfl (zlif g p) (zlif g p q) q) ∧ zfl (zlif g p) (zlif g p q) q ≠ p := by
  have h0 : zlif g p q = g q := zlif_ne h
  have hle := zfl_le (zlif g p) (zlif g p q) q
  have hat : zlif g p (zfl (zlif g p) (zlif g p q) q) = zlif g p q := by
    by_cases w : zfl (zlif g p) (zlif g p q) q < q
    · exact zfl_at w
    · rw [show zfl (zlif g p) (zlif g p q) q = q by omega]
  have hno : ∀ i, i < zfl (zlif g p) (zlif g p q) q → zlif g p i ≠ zlif g p q := fun i hi => zfl_no hi
  generalize zfl (zlif g p) (zlif g p q) q = j at hle hat hno ⊢
  have hjp : j ≠ p := fun e => by
    subst e
    rw [zlif_eq, h0] at hat
    have := h16 q
    omega
  refine ⟨?_, hjp⟩
  rw [h0, zlif_ne hjp] at hat
  rw [h0] at hno
  have hin : zfl (zot g p) (g q) (zsk p q + 1) = zfl (zot g p) (g q) (zsk p q) := by
    have := zfl_in (f := zot g p) (p := zsk p q) (k := zsk p q + 1) (by omega)
    rwa [zot_sk h] at this
  rw [← hin]
  refine zfl_eq ?_ ?_ ?_
  · unfold zsk; split <;> split <;> omega
  · rw [zot_sk hjp]; exact hat
  · intro i hi
    by_cases w : i < p
    · have e : zot g p i = g i := by unfold zot; rw [if_pos w]
      rw [e]
      have := hno i (by unfold zsk at hi; split at hi <;> omega)
      rwa [zlif_ne (by omega)] at this
    · have e : zot g p i = g (i + 1) := by unfold zot; rw [if_neg w]
      rw [e]
      have := hno (i + 1) (by unfold zsk at hi; split at hi <;> omega)
      rwa [zlif_ne (by omega)] at this
theorem zlN_p {g : Nat → Nat} {p : Nat} (h16 : ∀ r, g r < 16) : zNew (zlif g p) p = true := by
  refine decide_eq_true ?_
  have hle := zfl_le (zlif g p) (zlif g p p) p
  by_cases w : zfl (zlif g p) (zlif g p p) p < p
  · have e := zfl_at w
    rw [zlif_eq, zlif_ne (show zfl (zlif g p) 16 p ≠ p by rw [zlif_eq] at w; omega)] at e
    have := h16 (zfl (zlif g p) 16 p)
    omega
  · omega
theorem zlN_q {g : Nat → Nat} {p q : Nat} (h16 : ∀ r, g r < 16) (h : q ≠ p) : zNew (zlif g p) q = zNew (zot g p) (zsk p q) := by
  obtain ⟨h1, h2⟩ := zlf1 h16 h
  unfold zNew
  rw [zot_sk h, h1]
  refine decide_eq_decide.mpr ⟨fun e => by rw [e], fun e => ?_⟩
  have hle := zfl_le (zlif g p) (zlif g p q) q
  generalize zfl (zlif g p) (zlif g p q) q = j at h2 e hle
  unfold zsk at e
  split at e <;> split at e <;> omega
theorem zlC_lo {g : Nat → Nat} {p k : Nat} (h16 : ∀ r, g r < 16) (hk : k ≤ p) : zcnt (zNew (zlif g p)) k = zcnt (zNew (zot g p)) k :=
  zcnt_ext fun i hi => by rw [zlN_q h16 (by omega)]; unfold zsk; rw [if_pos (by omega)]
theorem zlC_hi {g : Nat → Nat} {p : Nat} (h16 : ∀ r, g r < 16) (d : Nat) : zcnt (zNew (zlif g p)) (p + d + 1) = zcnt (zNew (zot g p)) (p + d) + 1 := by
  induction d with
  | zero =>
    show zcnt (zNew (zlif g p)) (p + 1) = zcnt (zNew (zot g p)) p + 1
    rw [zcnt_su, zlN_p h16, zlC_lo h16 (Nat.le_refl _), if_pos rfl]
  | succ d ih =>
    have e : zsk p (p + d + 1) = p + d := by unfold zsk; rw [if_neg (by omega)]; omega
    rw [show p + (d + 1) + 1 = (p + d + 1) + 1 by omega, zcnt_su, ih, zlN_q h16 (by omega), e, show p + (d + 1) = (p + d) + 1 by omega, zcnt_su]
    omega
/-- the numbers with the post alone, by those without it -/
theorem zlif_nums {n p : Nat} {g : Nat → Nat} (h16 : ∀ r, g r < 16) (hp : p < n) : zcmx n (zlif g p) = znb n g p + 1 ∧ zcg n (zlif g p) p ≤ znb n g p ∧ ∀ q, q < n → q ≠ p → zcg n (zlif g p) q = if zwi g p q < zcg n (zlif g p) p then zwi g p q else zwi g p q + 1 := by
  have ho : zcg n (zlif g p) p = zcnt (zNew (zot g p)) p := by
    rw [zcg_in hp]
    unfold zNum
    have h := of_decide_eq_true (zlN_p (p := p) h16)
    rw [h]
    exact zlC_lo h16 (Nat.le_refl _)
  have hm : zcmx n (zlif g p) = znb n g p + 1 := by
    rw [zcm_in]
    have := zlC_hi (p := p) h16 (n - 1 - p)
    rw [show p + (n - 1 - p) + 1 = n by omega, show p + (n - 1 - p) = n - 1 by omega] at this
    exact this
  have h1 := zcg_lt (f := zlif g p) hp
  refine ⟨hm, by omega, fun q hq hqp => ?_⟩
  obtain ⟨e1, e2⟩ := zlf1 h16 hqp
  have hle := zfl_le (zlif g p) (zlif g p q) q
  have hnw : zNew (zlif g p) (zfl (zlif g p) (zlif g p q) q) = true := by
    have := zNew_at (f := zlif g p) (l := zlif g p q) (k := q + 1) (by rw [zfl_in (by omega)]; omega)
    rwa [zfl_in (by omega)] at this
  have hw : zwi g p q = zcnt (zNew (zot g p)) (zsk p (zfl (zlif g p) (zlif g p q) q)) := by
    unfold zwi zNum
    show zcnt (zNew (zot g p)) (zfl (zot g p) (zot g p (zsk p q)) (zsk p q)) = _
    rw [zot_sk hqp, e1]
  rw [ho, zcg_in hq]
  unfold zNum
  generalize zfl (zlif g p) (zlif g p q) q = j at e1 e2 hle hnw hw ⊢
  rw [zlN_q h16 e2] at hnw
  rw [hw]
  by_cases w : j < p
  · have es : zsk p j = j := if_pos w
    rw [es] at hnw ⊢
    rw [zlC_lo h16 (by omega)]
    have := zcnt_sub1 (s := fun i => decide (i < j) && zNew (zot g p) i) (t := zNew (zot g p)) (n := p) (i := j) (fun i _ h => by rw [Bool.and_eq_true] at h; exact h.2) w (by rw [decide_eq_false (Nat.lt_irrefl _)]; rfl) hnw
    have e : zcnt (fun i => decide (i < j) && zNew (zot g p) i) p = zcnt (zNew (zot g p)) j := by
      rw [zcnt_top (c := j) (fun d hd => by rw [decide_eq_false (by omega)]; rfl) (by omega)]
      exact zcnt_ext fun i hi => by rw [decide_eq_true hi]; rfl
    rw [if_pos (by omega)]
  · have es : zsk p j = j - 1 := if_neg w
    rw [es]
    have h2 := zlC_hi (p := p) h16 (j - 1 - p)
    rw [show p + (j - 1 - p) + 1 = j by omega, show p + (j - 1 - p) = j - 1 by omega] at h2
    rw [h2]
    have h3 : zcnt (zNew (zot g p)) p ≤ zcnt (zNew (zot g p)) (j - 1) := by
      rw [show j - 1 = p + (j - 1 - p) by omega]
      generalize j - 1 - p = d
      induction d with
      | zero => exact Nat.le_refl _
      | succ d ih => rw [show p + (d + 1) = (p + d) + 1 by omega, zcnt_su]; omega
    rw [if_neg (by omega)]
/-- the labels that the class tries are the reference's -/
theorem zmv_alike {n p i : Nat} {g : Nat → Nat} (h16 : ∀ r, g r < 16) (hp : p < n) (hi : i ≤ znb n g p + 1) (hio : i ≠ zcg n (zlif g p) p) (a b : Nat) (ha : a < n) (hb : b < n) :
    ((fun q => if q = p then (if i = znb n g p + 1 then zcg n (zlif g p) p else i) else zcg n (zlif g p) q) a = (fun q => if q = p then (if i = znb n g p + 1 then zcg n (zlif g p) p else i) else zcg n (zlif g p) q) b ↔ zmc g p (if i ≤ zcg n (zlif g p) p then i else i - 1) a = zmc g p (if i ≤ zcg n (zlif g p) p then i else i - 1) b) := by
  obtain ⟨-, h2, h3⟩ := zlif_nums h16 hp
  have key : ∀ b, b < n → b ≠ p → ((if i = znb n g p + 1 then zcg n (zlif g p) p else i) = zcg n (zlif g p) b ↔ (if i ≤ zcg n (zlif g p) p then i else i - 1) = zwi g p b) := fun b hb hbp => by
    have hw := zwi_lt (g := g) hp hb hbp
    rw [h3 b hb hbp]
    generalize zcg n (zlif g p) p = own at h2 hio ⊢
    generalize zwi g p b = w at hw ⊢
    generalize znb n g p = B at hi h2 hw ⊢
    constructor
    · intro e
      split at e <;> split at e <;> split <;> omega
    · intro e
      split at e <;> split <;> split <;> omega
  dsimp only
  unfold zmc
  by_cases ea : a = p
  · by_cases eb : b = p
    · rw [if_pos ea, if_pos eb, if_pos ea, if_pos eb]; exact ⟨fun _ => rfl, fun _ => rfl⟩
    · rw [if_pos ea, if_neg eb, if_pos ea, if_neg eb]
      exact key b hb eb
  · by_cases eb : b = p
    · rw [if_neg ea, if_pos eb, if_neg ea, if_pos eb]
      have := key a ha ea
      exact ⟨fun e => (this.mp e.symm).symm, fun e => (this.mpr e.symm).symm⟩
    · rw [if_neg ea, if_neg eb, if_neg ea, if_neg eb, zcg_inj ha hb, zlif_ne ea, zlif_ne eb, zwi_eq ea eb]
theorem c_movePost {O : zOm} (hO : zWld O) (hS : zS O = zmS zC0) {y n p cur : Nat} {g : Nat → Nat} {T : Nat → Nat → Bool} {M : zMem} {K : Option zV → zMem → Prop} (hy : zNet (zS O) y) (hy7 : y + 1 < 108 ∨ 131 < y) (hN : zNR M y n T) (hT : zReg n T) (hn1 : 0 < n) (hn2 : n ≤ 16) (hp : p < n) (hg : zcg n g = g) (hB : zPC M 124 n g) (hs : M ((108 : Nat) : Int) ((6 : Nat) : Int) = ((cur : Nat) : Int)) (hc : cur ≤ 20000)
    (hk : ∀ M', (∀ b j, ¬ (((108 : Nat) : Int) ≤ b ∧ b ≤ ((131 : Nat) : Int)) → M' b j = M b j) → zPC M' 124 n (zM1 n T p (g, cur)).1 → M' ((108 : Nat) : Int) ((6 : Nat) : Int) = (((zM1 n T p (g, cur)).2 : Nat) : Int) → K (some (0, zbI (decide ((zM1 n T p (g, cur)).2 < cur)))) M') : zR O F_Search_movePost [(2, ((108 : Nat) : Int)), (2, ((y : Nat) : Int)), (0, ((p : Nat) : Int))] M K := by
  have t0 := zo_108 hS
  have t1 := zf_108_0 hS
  have t2 := zf_108_1 hS
  have t3 := zf_108_2 hS
  have t4 := zf_108_3 hS
  have t5 := zf_108_6 hS
  have hR := zRl_109 hS
  have hX := zTeB.to hS zTe_111
  have hP := zParB.to hS zPa_124
  have hL := zParB.to hS zPa_128
  have hR0 := hR
  have hX0 := hX
  have hP0 := hP
  have hL0 := hL
  obtain ⟨r0, r1, r2, r3, r4, r5⟩ := hR
  obtain ⟨⟨x0, x1, x2, x3, x4, x5, x6, x7⟩, ⟨xa, xb⟩, hQ0, -⟩ := hX
  have hQ := hQ0
  obtain ⟨q0, q1, q2, q3, q4, q5, q6, q7, q8⟩ := hQ
  obtain ⟨p0, p1, p2, p3, p4, p5, p6, p7, p8⟩ := hP
  obtain ⟨l0, l1, l2, l3, l4, l5, l6, l7, l8⟩ := hL
  have h16 : ∀ r, g r < 16 := fun r => by rw [← hg]; exact zcg_16 hn2 g r
  obtain ⟨hn_1, hn_2, -⟩ := zlif_nums h16 hp
  have hnb : znb n g p ≤ n - 1 := zcnt_le _ _
  have hmb := zMb_ok n T g p cur
  apply r_Search_movePost hO
  unfold B_Search_movePost
  ((with_reducible refine i_Seq (i_sCall (i_as1 (i_FR (i_A0 ?_))))); (with_reducible refine i_fldR (by assumption) ?_); (with_reducible refine i_as1 (i_FR (i_A0 ?_))); (with_reducible refine i_fldR (by assumption) ?_); (with_reducible refine i_as0 ?_); (with_reducible refine i_recv0 (by assumption) ?_))
  refine c_pbecome hO (p := 128) (q := 124) hL0 hP0 (by omega) hn2 hB (fun M1 f1 h1 => ⟨rfl, ?_⟩)
  ((with_reducible refine i_Seq (i_sCall (i_as1 (i_FR (i_A0 ?_))))); (with_reducible refine i_fldR (by assumption) ?_); (with_reducible refine i_as1 (i_L2 (i_as0 ?_))); (with_reducible refine i_recv0 (by assumption) ?_))
  refine c_lift hO (p := 128) hL0 hn2 h1 hp (fun M2 f2 h2 => ⟨rfl, ?_⟩)
  rw [hg] at h2
  change zPC M2 128 n (zlif g p) at h2
  have hfr2 : ∀ b j, ¬ (((128 : Nat) : Int) ≤ b ∧ b ≤ ((131 : Nat) : Int)) → M2 b j = M b j := fun b j q => by rw [f2 b j (by omega), f1 b j (by omega)]
  have hB2 : zPC M2 124 n g := hB.fr (fun b j a1 a2 => hfr2 b j (by omega))
  have hN2 : zNR M2 y n T := hN.to (fun b j a1 a2 => hfr2 b j (by omega))
  have hs2 : M2 ((108 : Nat) : Int) ((6 : Nat) : Int) = ((cur : Nat) : Int) := by rw [hfr2 _ _ (by omega)]; exact hs
  have go : M2 ((129 : Nat) : Int) ((p : Nat) : Int) = ((zcg n (zlif g p) p : Nat) : Int) := h2.2.2.1 p hp
  have gm : M2 ((128 : Nat) : Int) ((4 : Nat) : Int) = ((znb n g p + 1 : Nat) : Int) := by rw [← hn_1]; exact h2.2.1
  unfold zM1 at hk
  dsimp only at hk
  have hal := fun i hi hio => zmv_alike (i := i) h16 hp hi hio
  ((with_reducible refine i_Seq (i_Set (i_IA (i_FR (i_FR (i_A0 ?_)))))); (with_reducible refine i_fldR (by assumption) ?_); (with_reducible refine i_fldR (by assumption) ?_); (with_reducible refine i_L2 ?_); (with_reducible refine i_in (by assumption) (by omega) (by omega) ?_); (with_reducible refine i_Seq (i_Set (i_I (i_Seq (i_Blk (i_Seq (i_Set (i_I ?_)))))))); (rw [go]); simp only [w_set0, w_set1, w_setn0, w_setn1])
  generalize zcg n (zlif g p) p = own at hn_2 go hal ⊢
  generalize znb n g p = B at hnb gm hal hk hn_2 ⊢
  refine w_ForN (B + 2) (fun i ρ M' => (∃ l, ρ = ((108 : Nat) : Int) :: ((y : Nat) : Int) :: ((p : Nat) : Int) :: ((own : Nat) : Int) :: zbI (decide ((zMb n T g p cur (if i ≤ own then i else i - 1)).2 ≠ 0)) :: ((i : Nat) : Int) :: l) ∧ (∀ b j, ¬ (b = ((108 : Nat) : Int) ∧ j = 6 ∨ ((109 : Nat) : Int) ≤ b ∧ b ≤ ((127 : Nat) : Int)) → M' b j = M2 b j) ∧ M' ((108 : Nat) : Int) ((6 : Nat) : Int) = (((zMb n T g p cur (if i ≤ own then i else i - 1)).1 : Nat) : Int) ∧ zPC M' 124 n (if (zMb n T g p cur (if i ≤ own then i else i - 1)).2 = 0 then g else zcg n (zmc g p ((zMb n T g p cur (if i ≤ own then i else i - 1)).2 - 1)))) ⟨⟨_, by rw [if_pos (Nat.zero_le _)]; rfl⟩, fun _ _ _ => rfl, by rw [if_pos (Nat.zero_le _)]; exact hs2, by rw [if_pos (Nat.zero_le _)]; exact hB2⟩ ?_ ?_
  · rintro i ρ M3 X hi ⟨⟨l, rfl⟩, hf3, hs3, hB3⟩ hX3
    have gm3 : M3 ((128 : Nat) : Int) ((4 : Nat) : Int) = ((B + 1 : Nat) : Int) := (hf3 _ _ (by omega)).trans gm
    have hL3 : zPC M3 128 n (zlif g p) := h2.fr (fun b j a1 a2 => hf3 b j (by omega))
    have hN3 : zNR M3 y n T := hN2.to (fun b j a1 a2 => hf3 b j (by omega))
    by_cases e : i = own
    · rw [show (if i + 1 ≤ own then i + 1 else i + 1 - 1) = (if i ≤ own then i else i - 1) by split <;> split <;> omega] at hX3
      ((with_reducible refine i_turn (i_cI_le (i_L5 (i_F (i_FR (i_A0 ?_)))))); (with_reducible refine i_fldR (by assumption) ?_); (with_reducible refine i_fld (by assumption) ?_); (rw [gm3]); (with_reducible refine i_t (by omega) ?_); (with_reducible refine i_If (i_cI_ne (i_L5 (i_L3 ?_)))); (with_reducible refine i_f (by omega) ?_); (with_reducible refine i_up (i_Inc5 ?_)); rw [zx_inc (by omega)]; simp only [w_set0, w_set1, w_setn0, w_setn1])
      exact hX3 _ _ ⟨⟨_, rfl⟩, hf3, hs3, hB3⟩
    · have hA := hal i (by omega) e
      rw [show (if i + 1 ≤ own then i + 1 else i + 1 - 1) = (if i ≤ own then i else i - 1) + 1 by split <;> split <;> omega, zMb_su] at hX3
      have hc1 := (hmb (if i ≤ own then i else i - 1)).1
      generalize (if i ≤ own then i else i - 1) = c at hA hX3 hs3 hB3 hc1 ⊢
      generalize zMb n T g p cur c = s at hX3 hs3 hB3 hc1 ⊢
      have hln := zLn_le (T := T) (f := zmc g p c) hn2
      by_cases ei : i = B + 1
      all_goals
        first | rw [if_pos ei] at hA | rw [if_neg ei] at hA
        ((with_reducible refine i_turn (i_cI_le (i_L5 (i_F (i_FR (i_A0 ?_)))))); (with_reducible refine i_fldR (by assumption) ?_); (with_reducible refine i_fld (by assumption) ?_); (rw [gm3]); (with_reducible refine i_t (by omega) ?_); (with_reducible refine i_If (i_cI_ne (i_L5 (i_L3 ?_)))); (with_reducible refine i_t (by omega) ?_); (with_reducible refine i_Blk (i_Seq (i_sCall (i_as1 (i_FR (i_FR (i_A0 ?_))))))); (with_reducible refine i_fldR (by assumption) ?_); (with_reducible refine i_fldR (by assumption) ?_); (with_reducible refine i_as1 (i_FR (i_A0 ?_))); (with_reducible refine i_fldR (by assumption) ?_); (with_reducible refine i_as0 ?_); (with_reducible refine i_recv0 (by assumption) ?_))
        refine c_pbecome hO (p := 112) (q := 128) hQ0 hL0 (by omega) hn2 hL3 (fun M4 f4 h4 => ⟨rfl, ?_⟩)
        have gm4 : M4 ((128 : Nat) : Int) ((4 : Nat) : Int) = ((B + 1 : Nat) : Int) := (f4 _ _ (by omega)).trans gm3
        (first | (((with_reducible refine i_Seq (i_sCall (i_as1 (i_FR (i_FR (i_A0 ?_)))))); (with_reducible refine i_fldR (by assumption) ?_); (with_reducible refine i_fldR (by assumption) ?_); (with_reducible refine i_as1 (i_L2 (i_as1 (i_eIf (i_cI_eq (i_L5 (i_F (i_FR (i_A0 ?_))))))))); (with_reducible refine i_fldR (by assumption) ?_); (with_reducible refine i_fld (by assumption) ?_); (rw [gm4]); (with_reducible refine i_t (by omega) ?_); (with_reducible refine i_L3 (i_as0 ?_)); (with_reducible refine i_recv0 (by assumption) ?_))) | (((with_reducible refine i_Seq (i_sCall (i_as1 (i_FR (i_FR (i_A0 ?_)))))); (with_reducible refine i_fldR (by assumption) ?_); (with_reducible refine i_fldR (by assumption) ?_); (with_reducible refine i_as1 (i_L2 (i_as1 (i_eIf (i_cI_eq (i_L5 (i_F (i_FR (i_A0 ?_))))))))); (with_reducible refine i_fldR (by assumption) ?_); (with_reducible refine i_fld (by assumption) ?_); (rw [gm4]); (with_reducible refine i_f (by omega) ?_); (with_reducible refine i_L5 (i_as0 ?_)); (with_reducible refine i_recv0 (by assumption) ?_))))
        refine c_put hO (p := 112) hQ0 hn2 h4 hp (by omega) (fun M5 f5 h5 => ⟨rfl, ?_⟩)
        have hs5 : M5 ((108 : Nat) : Int) ((6 : Nat) : Int) = ((s.1 : Nat) : Int) := by rw [f5 _ _ (by omega), f4 _ _ (by omega)]; exact hs3
        have hf5 : ∀ b j, ¬ (b = ((108 : Nat) : Int) ∧ j = 6 ∨ ((109 : Nat) : Int) ≤ b ∧ b ≤ ((127 : Nat) : Int)) → M5 b j = M2 b j := fun b j q => by rw [f5 b j (by omega), f4 b j (by omega), hf3 b j q]
        have hB5 : zPC M5 124 n (if s.2 = 0 then g else zcg n (zmc g p (s.2 - 1))) := hB3.fr (fun b j a1 a2 => by rw [f5 b j (by omega), f4 b j (by omega)])
        ((with_reducible refine i_Seq (i_Set (i_Call (i_as1 (i_FR (i_A0 ?_)))))); (with_reducible refine i_fldR (by assumption) ?_); (with_reducible refine i_as1 (i_A1 (i_as1 (i_FR (i_A0 ?_))))); (with_reducible refine i_fldR (by assumption) ?_); (with_reducible refine i_as0 ?_); (with_reducible refine i_recv0 (by assumption) ?_); simp only [w_set0, w_set1, w_setn0, w_setn1])
        refine c_tellA hO (r := 109) (x := 111) hR0 hX0 hy (by omega) (by omega) (by omega) (hN3.to (fun b j a1 a2 => by rw [f5 b j (by omega), f4 b j (by omega)])) hT h5 hn2 (fun M6 f6 h6 => ⟨_, rfl, ?_⟩)
        have hs6 : M6 ((108 : Nat) : Int) ((6 : Nat) : Int) = ((s.1 : Nat) : Int) := by rw [f6 _ _ (by omega)]; exact hs5
        have hf6 : ∀ b j, ¬ (b = ((108 : Nat) : Int) ∧ j = 6 ∨ ((109 : Nat) : Int) ≤ b ∧ b ≤ ((127 : Nat) : Int)) → M6 b j = M2 b j := fun b j q => by rw [f6 b j (by omega), hf5 b j q]
        have h6p := zPC.fr (M' := M6) h5 (fun b j a1 a2 => f6 b j (by omega))
        have hB6 : zPC M6 124 n (if s.2 = 0 then g else zcg n (zmc g p (s.2 - 1))) := hB5.fr (fun b j a1 a2 => f6 b j (by omega))
        rw [zLn_ext hn1 hA]
        by_cases z : zLgt n T (zmc g p c) < s.1
        · rw [if_pos z] at hX3
          ((with_reducible refine i_If (i_cI_lt ?_)); rw [w_setT]; (with_reducible refine i_L6 (i_F (i_A0 ?_))); (with_reducible refine i_fld (by assumption) ?_); (rw [hs6]); (with_reducible refine i_t (by omega) ?_); (with_reducible refine i_Seq (i_sF (i_A0 (i_L6 ?_)))); (with_reducible refine i_fld (by assumption) ?_); (with_reducible refine i_Seq (i_sCall (i_as1 (i_FR (i_A0 ?_))))); (with_reducible refine i_fldR (by assumption) ?_); (with_reducible refine i_as1 (i_FR (i_FR (i_A0 ?_)))); (with_reducible refine i_fldR (by assumption) ?_); (with_reducible refine i_fldR (by assumption) ?_); (with_reducible refine i_as0 ?_); (with_reducible refine i_recv0 (by assumption) ?_))
          refine c_pbecome hO (p := 124) (q := 112) hP0 hQ0 (by omega) hn2 (h6p.fr (fun b j a1 a2 => by rw [zg_n _ _ _ (by omega)])) (fun M7 f7 h7 => ⟨rfl, ?_⟩)
          ((with_reducible refine i_Set (i_I (i_up ?_))); simp only [w_set0, w_set1, w_setn0, w_setn1]; (with_reducible refine i_Inc5 ?_); rw [zx_inc (by omega)]; simp only [w_set0, w_set1, w_setn0, w_setn1])
          refine hX3 _ _ ⟨⟨_, by rw [decide_eq_true (show c + 1 ≠ 0 by omega)]; rfl⟩, fun b j q => ?_, ?_, ?_⟩
          · rw [f7 b j (by omega), zg_o _ _ (by omega)]; exact hf6 b j q
          · rw [f7 _ _ (by omega)]; exact zg_s _ _ _ _ _
          · show zPC M7 124 n (if c + 1 = 0 then g else zcg n (zmc g p (c + 1 - 1)))
            rw [if_neg (by omega), show c + 1 - 1 = c by omega]
            exact (h7.ext hn1 hA).cg hn1
        · rw [if_neg z] at hX3
          ((with_reducible refine i_If (i_cI_lt ?_)); rw [w_setT]; (with_reducible refine i_L6 (i_F (i_A0 ?_))); (with_reducible refine i_fld (by assumption) ?_); (rw [hs6]); (with_reducible refine i_f (by omega) ?_); (with_reducible refine i_up (i_Inc5 ?_)); rw [zx_inc (by omega)]; simp only [w_set0, w_set1, w_setn0, w_setn1])
          exact hX3 _ _ ⟨⟨_, rfl⟩, hf6, hs6, hB6⟩
  · rintro ρ M3 X ⟨⟨l, rfl⟩, hf3, hs3, hB3⟩
    have gm3 : M3 ((128 : Nat) : Int) ((4 : Nat) : Int) = ((B + 1 : Nat) : Int) := (hf3 _ _ (by omega)).trans gm
    rw [show (if B + 2 ≤ own then B + 2 else B + 2 - 1) = B + 1 by split <;> omega] at hs3 hB3 ⊢
    have hm := hmb (B + 1)
    generalize zMb n T g p cur (B + 1) = s at hs3 hB3 hm hk ⊢
    have fr : ∀ b j, ¬ (((108 : Nat) : Int) ≤ b ∧ b ≤ ((131 : Nat) : Int)) → M3 b j = M b j := fun b j q => by rw [hf3 b j (by omega), hfr2 b j (by omega)]
    by_cases z : s.2 = 0
    · have e := hm.2.1 z
      subst e
      rw [if_pos rfl, decide_eq_false (Nat.lt_irrefl _)] at hk
      rw [if_pos rfl] at hB3
      rw [show decide ((cur, 0).2 ≠ 0) = false from rfl]
      ((with_reducible refine i_turn (i_cI_le (i_L5 (i_F (i_FR (i_A0 ?_)))))); (with_reducible refine i_fldR (by assumption) ?_); (with_reducible refine i_fld (by assumption) ?_); rw [zbI_f]; (rw [gm3]); (with_reducible refine i_f (by omega) ?_); (with_reducible refine i_RetZ (i_L4 ?_)); (with_reducible refine i_z (Or.inl rfl) ?_))
      exact hk M3 fr hB3 hs3
    · have e := (hm.2.2 z).1
      rw [if_neg z] at hk hB3
      rw [decide_eq_true (show s.1 < cur from e)] at hk
      rw [decide_eq_true z]
      ((with_reducible refine i_turn (i_cI_le (i_L5 (i_F (i_FR (i_A0 ?_)))))); (with_reducible refine i_fldR (by assumption) ?_); (with_reducible refine i_fld (by assumption) ?_); rw [zbI_t]; (rw [gm3]); (with_reducible refine i_f (by omega) ?_); (with_reducible refine i_RetZ (i_L4 ?_)); (with_reducible refine i_z (Or.inr rfl) ?_))
      exact hk M3 fr hB3 hs3
end
section
-- part d7.cpart.lean.txt
/-! ===== the parting by the rule: the class ===== -/
theorem zMs_cg {n : Nat} (hn : 0 < n) {T : Nat → Nat → Bool} {x : (Nat → Nat) × Nat} (hx : zcg n x.1 = x.1) (k p : Nat) : zcg n (zMs n T x k).1 = (zMs n T x k).1 ∧ zcg n (zMr n T (zMs n T x k) p).1 = (zMr n T (zMs n T x k) p).1 := by
  have hMr : ∀ x : (Nat → Nat) × Nat, zcg n x.1 = x.1 → ∀ p, zcg n (zMr n T x p).1 = (zMr n T x p).1 := fun x hx p => by
    induction p with
    | zero => exact hx
    | succ p ih =>
      rw [zMr_su]
      unfold zM1
      split
      · exact ih
      · exact (zcg_id hn _).1
  have hk : ∀ k, zcg n (zMs n T x k).1 = (zMs n T x k).1 := fun k => by
    induction k with
    | zero => exact hx
    | succ k ih => rw [zMs_su]; exact hMr _ ih n
  exact ⟨hk k, hMr _ (hk k) p⟩
theorem c_partByRule {O : zOm} (hO : zWld O) (hS : zS O = zmS zC0) {y o n : Nat} {T : Nat → Nat → Bool} {M : zMem} {K : Option zV → zMem → Prop} (hy : zNet (zS O) y) (hy7 : y + 1 < 108) (ho : zPar (zS O) o) (ho7 : 131 < o) (hN : zNR M y n T) (hT : zReg n T) (hn1 : 0 < n) (hn2 : n ≤ 16)
    (hk : ∀ M', (∀ b j, ¬ (((108 : Nat) : Int) ≤ b ∧ b ≤ ((131 : Nat) : Int) ∨ ((o : Nat) : Int) ≤ b ∧ b ≤ ((o + 2 : Nat) : Int)) → M' b j = M b j) → zPC M' o n (zPt n T).1 → K none M') : zR O F_Search_partByRule [(2, ((108 : Nat) : Int)), (2, ((y : Nat) : Int)), (2, ((o : Nat) : Int))] M K := by
  have t0 := zo_108 hS
  have t1 := zf_108_0 hS
  have t2 := zf_108_1 hS
  have t3 := zf_108_2 hS
  have t4 := zf_108_3 hS
  have t5 := zf_108_6 hS
  have hR := zRl_109 hS
  have hX := zTeB.to hS zTe_111
  have hP := zParB.to hS zPa_124
  have hR0 := hR
  have hX0 := hX
  have hP0 := hP
  have ho0 := ho
  have hy0 := hy
  obtain ⟨y0, y1, y2, y3⟩ := hy
  obtain ⟨r0, r1, r2, r3, r4, r5⟩ := hR
  obtain ⟨⟨x0, x1, x2, x3, x4, x5, x6, x7⟩, ⟨xa, xb⟩, hQ0, -⟩ := hX
  have hQ := hQ0
  obtain ⟨q0, q1, q2, q3, q4, q5, q6, q7, q8⟩ := hQ
  obtain ⟨p0, p1, p2, p3, p4, p5, p6, p7, p8⟩ := hP
  obtain ⟨o0, o1, o2, o3, o4, o5, o6, o7, o8⟩ := ho
  have gy : M ((y : Nat) : Int) ((1 : Nat) : Int) = ((n : Nat) : Int) := hN.1
  apply r_Search_partByRule hO
  unfold B_Search_partByRule
  ((with_reducible refine i_Seq (i_Seq (i_sCall (i_as1 (i_FR (i_FR (i_A0 ?_))))))); (with_reducible refine i_fldR (by assumption) ?_); (with_reducible refine i_fldR (by assumption) ?_); (with_reducible refine i_as1 (i_F (i_A1 ?_))); (with_reducible refine i_fld (by assumption) ?_); (with_reducible refine i_as0 ?_); (with_reducible refine i_recv0 (by assumption) ?_); (rw [gy]))
  refine c_setAlone hO (p := 112) hQ0 hn2 (fun M1 f1 h1 => ⟨rfl, ?_⟩)
  ((with_reducible refine i_Seq (i_sCall (i_as1 (i_FR (i_A0 ?_))))); (with_reducible refine i_fldR (by assumption) ?_); (with_reducible refine i_as1 (i_FR (i_FR (i_A0 ?_)))); (with_reducible refine i_fldR (by assumption) ?_); (with_reducible refine i_fldR (by assumption) ?_); (with_reducible refine i_as0 ?_); (with_reducible refine i_recv0 (by assumption) ?_))
  refine c_pbecome hO (p := 124) (q := 112) hP0 hQ0 (by omega) hn2 h1 (fun M2 f2 h2 => ⟨rfl, ?_⟩)
  have h21 : zPC M2 112 n (fun q => q) := h1.fr (fun b j a1 a2 => f2 b j (by omega))
  ((with_reducible refine i_Seq (i_sF (i_A0 (i_Call (i_as1 (i_FR (i_A0 ?_))))))); (with_reducible refine i_fldR (by assumption) ?_); (with_reducible refine i_as1 (i_A1 (i_as1 (i_FR (i_A0 ?_))))); (with_reducible refine i_fldR (by assumption) ?_); (with_reducible refine i_as0 ?_); (with_reducible refine i_recv0 (by assumption) ?_))
  refine c_tellA hO (r := 109) (x := 111) hR0 hX0 hy0 (by omega) (by omega) (by omega) (hN.to (fun b j a1 a2 => by rw [f2 b j (by omega), f1 b j (by omega)])) hT h21 hn2 (fun M3 f3 _ => ⟨_, rfl, ?_⟩)
  have hs0 : zPC M3 124 n (zJs n T 0).1 := (h2.fr (fun b j a1 a2 => f3 b j (by omega))).cg hn1
  have fr0 : ∀ b j, ¬ (((108 : Nat) : Int) ≤ b ∧ b ≤ ((131 : Nat) : Int)) → M3 b j = M b j := fun b j q => by rw [f3 b j (by omega), f2 b j (by omega), f1 b j (by omega)]
  clear f1 f2 f3 h1 h2 h21
  ((with_reducible refine i_fld (by assumption) ?_); (with_reducible refine i_Seq (i_Set (i_I (i_Seq (i_Blk (i_Seq (i_Set (i_I ?_)))))))); simp only [w_set0, w_set1, w_setn0, w_setn1])
  refine w_ForM (fun μ ρ M' => ∃ k b l, ρ = ((108 : Nat) : Int) :: ((y : Nat) : Int) :: ((o : Nat) : Int) :: zbI b :: ((k : Nat) : Int) :: l ∧ k ≤ 16 ∧ (∀ b j, ¬ (((108 : Nat) : Int) ≤ b ∧ b ≤ ((131 : Nat) : Int)) → M' b j = M b j) ∧ M' ((108 : Nat) : Int) ((6 : Nat) : Int) = (((zJs n T (if b = true then k else 16)).2 : Nat) : Int) ∧ zPC M' 124 n (zJs n T (if b = true then k else 16)).1 ∧ μ = 16 - k) _ ⟨0, true, _, rfl, by omega, fun b j q => by rw [zg_n _ _ _ (by omega)]; exact fr0 b j q, zg_s _ _ _ _ _, hs0.fr (fun b j a1 a2 => by rw [zg_n _ _ _ (by omega)]), rfl⟩ ?_
  clear hs0 fr0
  rintro μ ρ M4 X ⟨k, b, l, rfl, hk16, f4, hs4, hB4, rfl⟩ hX4
  have gN4 : zNR M4 y n T := hN.to (fun b j a1 a2 => f4 b j (by omega))
  have hJc : ∀ k, zcg n (zJs n T k).1 = (zJs n T k).1 ∧ (zJs n T k).2 ≤ 20000 := fun k => by
    obtain ⟨f, e1, e2⟩ := zJs_g hn1 T k
    rw [e1, e2]
    exact ⟨(zcg_id hn1 f).1, zLn_le hn2⟩
  by_cases w : b = true ∧ k < 16
  · obtain ⟨w1, w2⟩ := w
    subst w1
    rw [if_pos rfl] at hs4 hB4
    obtain ⟨hc1, hc2⟩ := hJc k
    ((with_reducible refine i_turn (i_cAnd (i_cZ_ne (i_L3 ?_)))); rw [zbI_t]; (with_reducible refine i_t (by omega) ?_); (with_reducible refine i_cI_lt (i_L4 (i_I ?_))); (with_reducible refine i_t (by omega) ?_); (with_reducible refine i_Set (i_Call (i_as1 (i_A0 (i_as1 (i_A1 (i_as0 ?_))))))); (with_reducible refine i_recv0 (by assumption) ?_); simp only [w_set0, w_set1, w_setn0, w_setn1])
    refine c_joinTwo hO hS (y := y) hy0 (by omega) gN4 hT hn1 hn2 hc1 hB4 hs4 hc2 (fun M5 f5 h5 hs5 => ⟨_, rfl, ?_⟩)
    ((with_reducible refine i_up (i_Inc4 ?_)); rw [zx_inc (by omega)]; simp only [w_set0, w_set1, w_setn0, w_setn1])
    refine hX4 _ _ _ (by omega) ⟨k + 1, decide ((zJb n T (zJs n T k).1 (zJs n T k).2).1 < (zJs n T k).2), _, rfl, by omega, fun b j q => by rw [f5 b j q, f4 b j q], ?_, ?_, rfl⟩
    all_goals
      by_cases z : (zJb n T (zJs n T k).1 (zJs n T k).2).1 < (zJs n T k).2
      · rw [decide_eq_true z, if_pos rfl]
        first | exact hs5 | exact h5
      · rw [decide_eq_false z, if_neg (by decide), ← zJs_end hn1 hn2 z]
        have e := zJs_fx z 1
        rw [← e]
        first | exact hs5 | exact h5
  · have e : (if b = true then k else 16) = 16 := by
      by_cases z : b = true
      · rw [if_pos z]
        have : ¬ k < 16 := fun q => w ⟨z, q⟩
        omega
      · rw [if_neg z]
    rw [e] at hs4 hB4
    clear hX4
    have hb : b = false ∨ b = true ∧ k = 16 := by
      cases b
      · exact Or.inl rfl
      · exact Or.inr ⟨rfl, by have : ¬ k < 16 := fun q => w ⟨rfl, q⟩; omega⟩
    clear e w
    obtain ⟨hxc, hx20⟩ := hJc 16
    unfold zPt at hk
    generalize zJs n T 16 = x0 at hs4 hB4 hxc hx20 hk
    have hMc := fun k p => zMs_cg hn1 (T := T) hxc k p
    rcases hb with rfl | ⟨rfl, rfl⟩
    all_goals
      (first | (((with_reducible refine i_turn (i_cAnd (i_cZ_ne (i_L3 ?_)))); rw [zbI_t]; (with_reducible refine i_t (by omega) ?_); (with_reducible refine i_cI_lt (i_L4 (i_I ?_))); (with_reducible refine i_f (by omega) ?_); (with_reducible refine i_Seq (i_Set (i_I (i_Seq (i_Blk (i_Seq (i_Set (i_I ?_)))))))); simp only [w_set0, w_set1, w_setn0, w_setn1]; rw [w_setT])) | (((with_reducible refine i_turn (i_cAnd (i_cZ_ne (i_L3 ?_)))); rw [zbI_f]; (with_reducible refine i_f (by omega) ?_); (with_reducible refine i_Seq (i_Set (i_I (i_Seq (i_Blk (i_Seq (i_Set (i_I ?_)))))))); simp only [w_set0, w_set1, w_setn0, w_setn1]; rw [w_setT])))
      refine w_ForM (fun μ ρ M' => ∃ k b c l, ρ = ((108 : Nat) : Int) :: ((y : Nat) : Int) :: ((o : Nat) : Int) :: c :: zbI b :: ((k : Nat) : Int) :: l ∧ (∀ b j, ¬ (((108 : Nat) : Int) ≤ b ∧ b ≤ ((131 : Nat) : Int)) → M' b j = M b j) ∧ M' ((108 : Nat) : Int) ((6 : Nat) : Int) = (((zMs n T x0 k).2 : Nat) : Int) ∧ zPC M' 124 n (zMs n T x0 k).1 ∧ (b = false → zMs n T x0 20001 = zMs n T x0 k) ∧ k + (zMs n T x0 k).2 ≤ 20000 + (if b = true then 0 else 1) ∧ μ = 20002 - k) _ ⟨0, true, _, _, rfl, f4, hs4, hB4, (fun z => by cases z), by show 0 + x0.2 ≤ 20000; omega, rfl⟩ ?_
      clear hs4 hB4 gN4
      rintro μ ρ M5 X5 ⟨k5, b5, c3, l5, rfl, f5, hs5, hB5, hfx5, hle5, rfl⟩ hX5
      have gy5 : M5 ((y : Nat) : Int) ((1 : Nat) : Int) = ((n : Nat) : Int) := by rw [f5 _ _ (by omega)]; exact gy
      cases b5
      · clear hX5
        rw [← hfx5 rfl] at hs5 hB5
        have hle6 : k5 + (zMs n T x0 k5).2 ≤ 20001 := by simpa using hle5
        ((with_reducible refine i_turn (i_cAnd (i_cZ_ne (i_L4 ?_)))); rw [zbI_f]; (with_reducible refine i_f (by omega) ?_); (with_reducible refine i_sCall (i_as1 (i_A2 (i_as1 (i_FR (i_A0 ?_)))))); (with_reducible refine i_fldR (by assumption) ?_); (with_reducible refine i_as0 ?_); (with_reducible refine i_recv0 (by assumption) ?_))
        refine c_pbecome hO (p := o) (q := 124) ho0 hP0 (by omega) hn2 hB5 (fun M6 f6 h6 => ⟨rfl, ?_⟩)
        (with_reducible refine i_RetV ?_)
        exact hk M6 (fun b j q => by rw [f6 b j (by omega), f5 b j (by omega)]) h6
      · have hle6 : k5 + (zMs n T x0 k5).2 ≤ 20000 := by simpa using hle5
        have hmrok := fun p => zMr_ok (n := n) (T := T) (x := zMs n T x0 k5) p
        ((with_reducible refine i_turn (i_cAnd (i_cZ_ne (i_L4 ?_)))); rw [zbI_t]; (with_reducible refine i_t (by omega) ?_); (with_reducible refine i_cI_lt (i_L5 (i_Ldc ?_))); (with_reducible refine i_t (by omega) ?_); (with_reducible refine i_Seq (i_Set (i_I (i_Blk (i_Seq (i_Set (i_I ?_))))))); simp only [w_set0, w_set1, w_setn0, w_setn1]; rw [w_setT])
        refine w_ForN n (fun p ρ M' => (∃ l, ρ = ((108 : Nat) : Int) :: ((y : Nat) : Int) :: ((o : Nat) : Int) :: c3 :: zbI (decide ((zMr n T (zMs n T x0 k5) p).2 < (zMs n T x0 k5).2)) :: ((k5 : Nat) : Int) :: ((p : Nat) : Int) :: l) ∧ (∀ b j, ¬ (((108 : Nat) : Int) ≤ b ∧ b ≤ ((131 : Nat) : Int)) → M' b j = M b j) ∧ M' ((108 : Nat) : Int) ((6 : Nat) : Int) = (((zMr n T (zMs n T x0 k5) p).2 : Nat) : Int) ∧ zPC M' 124 n (zMr n T (zMs n T x0 k5) p).1) ⟨⟨_, by rw [show (decide ((zMr n T (zMs n T x0 k5) 0).2 < (zMs n T x0 k5).2)) = false from decide_eq_false (Nat.lt_irrefl _)]; rfl⟩, f5, hs5, hB5⟩ ?_ ?_
        · rintro p ρ M6 X6 hp ⟨⟨l6, rfl⟩, f6, hs6, hB6⟩ hX6
          have gy6 : M6 ((y : Nat) : Int) ((1 : Nat) : Int) = ((n : Nat) : Int) := by rw [f6 _ _ (by omega)]; exact gy
          have gN6 : zNR M6 y n T := hN.to (fun b j a1 a2 => f6 b j (by omega))
          have hgr := (hMc k5 p).2
          have hr1 := (hmrok p).1
          have hr2 := (zM1_ok (n := n) (T := T) (p := p) (x := zMr n T (zMs n T x0 k5) p)).1
          rw [zMr_su] at hX6
          generalize zMr n T (zMs n T x0 k5) p = y6 at hs6 hB6 hgr hr1 hr2 hX6 ⊢
          obtain ⟨g6, c6⟩ := y6
          ((with_reducible refine i_turn (i_cI_lt (i_L6 (i_F (i_A1 ?_))))); (with_reducible refine i_fld (by assumption) ?_); (rw [gy6]); simp only [w_set0, w_set1, w_setn0, w_setn1]; (with_reducible refine i_t (by omega) ?_); (with_reducible refine i_If (i_cZ_ne (i_Call (i_as1 (i_A0 (i_as1 (i_A1 (i_as1 (i_L6 (i_as0 ?_)))))))))); (with_reducible refine i_recv0 (by assumption) ?_))
          refine c_movePost hO hS (y := y) hy0 (by omega) gN6 hT hn1 hn2 hp hgr hB6 hs6 (by dsimp only at hr1; omega) (fun M7 f7 h7 hs7 => ⟨_, rfl, ?_⟩)
          have f76 : ∀ b j, ¬ (((108 : Nat) : Int) ≤ b ∧ b ≤ ((131 : Nat) : Int)) → M7 b j = M b j := fun b j q => by rw [f7 b j q, f6 b j q]
          have hX7 : ∀ (l : zLoc) (b : Bool), b = decide ((zM1 n T p (g6, c6)).2 < (zMs n T x0 k5).2) → X6 (((108 : Nat) : Int) :: ((y : Nat) : Int) :: ((o : Nat) : Int) :: c3 :: zbI b :: ((k5 : Nat) : Int) :: ((p + 1 : Nat) : Int) :: l) M7 := fun l b hb => by
            subst hb
            exact hX6 _ _ ⟨⟨l, rfl⟩, f76, hs7, h7⟩
          dsimp only at hr1 hr2 ⊢
          generalize (zM1 n T p (g6, c6)).2 = v at hr2 hX7 ⊢
          by_cases w : v < c6
          · rw [decide_eq_true w]
            (rw [zbI_t]; (with_reducible refine i_t (by omega) ?_); (with_reducible refine i_Set (i_I (i_up ?_))); simp only [w_set0, w_set1, w_setn0, w_setn1]; (with_reducible refine i_Inc6 ?_); rw [zx_inc (by omega)]; simp only [w_set0, w_set1, w_setn0, w_setn1])
            exact hX7 _ true (decide_eq_true (by omega)).symm
          · have : v = c6 := by omega
            subst this
            rw [decide_eq_false w]
            (rw [zbI_f]; (with_reducible refine i_f (by omega) ?_); (with_reducible refine i_up (i_Inc6 ?_)); rw [zx_inc (by omega)]; simp only [w_set0, w_set1, w_setn0, w_setn1])
            exact hX7 _ _ rfl
        · rintro ρ M6 X6 ⟨⟨l6, rfl⟩, f6, hs6, hB6⟩
          have gy6 : M6 ((y : Nat) : Int) ((1 : Nat) : Int) = ((n : Nat) : Int) := by rw [f6 _ _ (by omega)]; exact gy
          ((with_reducible refine i_turn (i_cI_lt (i_L6 (i_F (i_A1 ?_))))); (with_reducible refine i_fld (by assumption) ?_); (rw [gy6]); (with_reducible refine i_f (by omega) ?_); (with_reducible refine i_up (i_Inc5 ?_)); rw [zx_inc (by omega)]; simp only [w_set0, w_set1, w_setn0, w_setn1])
          have hsu := zMs_su n T x0 k5
          rw [← hsu] at hs6 hB6 ⊢
          have hr1 := (hmrok n).1
          rw [← hsu] at hr1
          by_cases w : (zMs n T x0 (k5 + 1)).2 < (zMs n T x0 k5).2
          · rw [decide_eq_true w]
            exact hX5 _ _ _ (by omega) ⟨k5 + 1, true, _, _, rfl, f6, hs6, hB6, (fun z => by cases z), by simp only [if_true]; omega, rfl⟩
          · rw [decide_eq_false w]
            have e := zMs_fx w 1
            exact hX5 _ _ _ (by omega) ⟨k5 + 1, false, _, _, rfl, f6, hs6, hB6, fun _ => by rw [zMs_end w (by omega), e], by simp only [Bool.false_eq_true, if_false]; omega, rfl⟩
end
section
-- part e0.rgs.lean.txt
/-! ===== partings one after the other, as both go through them ===== -/
/-- how many labels the first k posts use -/
def zmU (f : Nat → Nat) : Nat → Nat
  | 0 => 0
  | k + 1 => max (zmU f k) (f k + 1)
theorem zmU_su (f : Nat → Nat) (k : Nat) : zmU f (k + 1) = max (zmU f k) (f k + 1) := rfl
theorem zmU_ext {f h : Nat → Nat} {k : Nat} (e : ∀ i, i < k → f i = h i) : zmU f k = zmU h k := by
  induction k with
  | zero => rfl
  | succ k ih => rw [zmU_su, zmU_su, ih (fun i hi => e i (by omega)), e k (by omega)]
theorem zmU_lt {f : Nat → Nat} {i k : Nat} (h : i < k) : f i < zmU f k := by
  induction k with
  | zero => omega
  | succ k ih =>
    rw [zmU_su]
    by_cases e : i = k
    · subst e; omega
    · have := ih (by omega); omega
theorem zmU_pos {f : Nat → Nat} {k : Nat} (h : 0 < k) : 0 < zmU f k := by have := zmU_lt (f := f) h; omega
theorem zmU_at {f : Nat → Nat} {k : Nat} (h : 0 < k) : ∃ i, i < k ∧ f i + 1 = zmU f k := by
  induction k with
  | zero => omega
  | succ k ih =>
    rw [zmU_su]
    by_cases w : k = 0
    · subst w; exact ⟨0, by omega, by show f 0 + 1 = max 0 (f 0 + 1); omega⟩
    · obtain ⟨i, h1, h2⟩ := ih (by omega)
      by_cases z : zmU f k < f k + 1
      · exact ⟨k, by omega, by omega⟩
      · exact ⟨i, by omega, by omega⟩
/-- labels in the order of their first posts -/
def zRG (n : Nat) (f : Nat → Nat) : Prop := ∀ q, q < n → f q ≤ zmU f q
theorem zRG_mU {n : Nat} {f : Nat → Nat} (h : zRG n f) {k : Nat} (hk : k ≤ n) : zmU f k ≤ k := by
  induction k with
  | zero => exact Nat.le_refl _
  | succ k ih =>
    have h1 := ih (by omega)
    have h2 := h k (by omega)
    rw [zmU_su]; omega
theorem zRG_le {n : Nat} {f : Nat → Nat} (h : zRG n f) {q : Nat} (hq : q < n) : f q ≤ q := Nat.le_trans (h q hq) (zRG_mU h (by omega))
theorem zRG_sur {n : Nat} {f : Nat → Nat} (h : zRG n f) {k : Nat} (hk : k ≤ n) {v : Nat} (hv : v < zmU f k) : ∃ i, i < k ∧ f i = v := by
  induction k with
  | zero => exact absurd hv (Nat.not_lt_zero _)
  | succ k ih =>
    rw [zmU_su] at hv
    have h2 := h k (by omega)
    by_cases w : v < zmU f k
    · obtain ⟨i, h3, h4⟩ := ih (by omega) w
      exact ⟨i, by omega, h4⟩
    · exact ⟨k, by omega, by omega⟩
theorem zRG_cnt {n : Nat} {f : Nat → Nat} (h : zRG n f) {k : Nat} (hk : k ≤ n) : zcnt (zNew f) k = zmU f k := by
  induction k with
  | zero => rfl
  | succ k ih =>
    have h2 := h k (by omega)
    rw [zcnt_su, zmU_su, ih (by omega)]
    by_cases w : f k < zmU f k
    · obtain ⟨i, h3, h4⟩ := zRG_sur h (k := k) (by omega) w
      have hd : zfl f (f k) k < k := by
        have := zfind_ok (fun q => decide (f q = f k)) k
        refine Classical.byContradiction fun z => ?_
        have h5 := zfl_no (f := f) (l := f k) (k := k) (j := i) (by omega)
        exact h5 h4
      rw [zNew_n hd, if_neg (by decide)]; omega
    · have hd : ¬ zfl f (f k) k < k := fun z => by
        have h5 := zfl_at z
        have h6 := zmU_lt (f := f) z
        omega
      rw [zNew_y hd, if_pos rfl]; omega
theorem zRG_num {n : Nat} {f : Nat → Nat} (h : zRG n f) {q : Nat} (hq : q < n) : zNum f q = f q := by
  unfold zNum
  have hle := zfl_le f (f q) q
  have hat : f (zfl f (f q) q) = f q := by
    by_cases w : zfl f (f q) q < q
    · exact zfl_at w
    · rw [show zfl f (f q) q = q by omega]
  have hnw := zNew_at (f := f) (l := f q) (k := q + 1) (by rw [zfl_in (by omega)]; omega)
  rw [zfl_in (by omega)] at hnw
  generalize zfl f (f q) q = j at hle hat hnw ⊢
  rw [zRG_cnt h (by omega)]
  have h2 := h j (by omega)
  refine Classical.byContradiction fun z => ?_
  obtain ⟨i, h3, h4⟩ := zRG_sur h (k := j) (by omega) (v := f j) (by omega)
  have h5 := of_decide_eq_true hnw
  have := zfl_no (f := f) (l := f j) (k := j) (j := i) (by omega)
  exact this h4
theorem zRG_cg {n : Nat} {f : Nat → Nat} (h : zRG n f) : (∀ q, q < n → zcg n f q = f q) ∧ zcmx n f = zmU f n :=
  ⟨fun q hq => by rw [zcg_in hq]; exact zRG_num h hq, by rw [zcm_in]; exact zRG_cnt h (Nat.le_refl _)⟩
/-- the last place below k that can grow; 0: none -/
def zgq (f : Nat → Nat) : Nat → Nat
  | 0 => 0
  | k + 1 => if 0 < k ∧ f k < zmU f k then k else zgq f k
theorem zgq_su (f : Nat → Nat) (k : Nat) : zgq f (k + 1) = if 0 < k ∧ f k < zmU f k then k else zgq f k := rfl
theorem zgq_le (f : Nat → Nat) (k : Nat) : zgq f k ≤ k - 1 := by
  induction k with
  | zero => exact Nat.le_refl _
  | succ k ih => rw [zgq_su]; split <;> omega
theorem zgq_ok {f : Nat → Nat} {k : Nat} (h : zgq f k ≠ 0) : zgq f k < k ∧ f (zgq f k) < zmU f (zgq f k) := by
  induction k with
  | zero => exact absurd rfl h
  | succ k ih =>
    rw [zgq_su] at h ⊢
    by_cases w : 0 < k ∧ f k < zmU f k
    · rw [if_pos w]; exact ⟨by omega, w.2⟩
    · rw [if_neg w] at h ⊢
      have := ih h
      exact ⟨by omega, this.2⟩
/-- the next labels -/
def zgo (f : Nat → Nat) (i : Nat) : Nat → Nat := fun q => if q < i then f q else if q = i then f i + 1 else 0
theorem zgo_mU {f : Nat → Nat} {i k : Nat} (h : k ≤ i) : zmU (zgo f i) k = zmU f k := zmU_ext fun j hj => if_pos (by omega)
theorem zRG_go {n : Nat} {f : Nat → Nat} (h : zRG n f) {i : Nat} (hi : f i < zmU f i) : zRG n (zgo f i) := fun q hq => by
  by_cases w : q < i
  · rw [zgo_mU (by omega)]; unfold zgo; rw [if_pos w]; exact h q hq
  · by_cases e : q = i
    · subst e
      rw [zgo_mU (Nat.le_refl _)]; unfold zgo; rw [if_neg w, if_pos rfl]; omega
    · unfold zgo; rw [if_neg w, if_neg e]; exact Nat.zero_le _
/-- the labels as one number that grows -/
def zvl (f : Nat → Nat) : Nat → Nat
  | 0 => 0
  | k + 1 => zvl f k * (k + 1) + f k
def zfa : Nat → Nat
  | 0 => 1
  | k + 1 => zfa k * (k + 1)
theorem zvl_su (f : Nat → Nat) (k : Nat) : zvl f (k + 1) = zvl f k * (k + 1) + f k := rfl
theorem zvl_ext {f h : Nat → Nat} {k : Nat} (e : ∀ i, i < k → f i = h i) : zvl f k = zvl h k := by
  induction k with
  | zero => rfl
  | succ k ih => rw [zvl_su, zvl_su, ih (fun i hi => e i (by omega)), e k (by omega)]
theorem zvl_lt {n : Nat} {f : Nat → Nat} (h : ∀ q, q < n → f q ≤ q) {k : Nat} (hk : k ≤ n) : zvl f k < zfa k := by
  induction k with
  | zero => exact Nat.zero_lt_one
  | succ k ih =>
    have h1 := ih (by omega)
    have h2 := h k (by omega)
    rw [zvl_su]
    show _ < zfa k * (k + 1)
    have h3 : (zvl f k + 1) * (k + 1) ≤ zfa k * (k + 1) := Nat.mul_le_mul_right _ h1
    rw [Nat.add_mul] at h3
    omega
theorem zvl_go {n : Nat} {f : Nat → Nat} (h : ∀ q, q < n → f q ≤ q) {i : Nat} (d : Nat) (hk : i + 1 + d ≤ n) : zvl f (i + 1 + d) + 1 ≤ zvl (zgo f i) (i + 1 + d) := by
  induction d with
  | zero =>
    rw [Nat.add_zero, zvl_su, zvl_su, zvl_ext (f := zgo f i) (h := f) (fun j hj => if_pos hj)]
    unfold zgo
    rw [if_neg (Nat.lt_irrefl _), if_pos rfl]
    omega
  | succ d ih =>
    have h1 := ih (by omega)
    have h2 := h (i + 1 + d) (by omega)
    rw [show i + 1 + (d + 1) = (i + 1 + d) + 1 by omega, zvl_su, zvl_su]
    have h3 := Nat.mul_le_mul_right (i + 1 + d + 1) h1
    rw [Nat.add_mul] at h3
    omega
/-- the k-th of all partings of n posts -/
def zgs (n : Nat) : Nat → Nat → Nat
  | 0 => fun _ => 0
  | k + 1 => if zgq (zgs n k) n = 0 then zgs n k else zgo (zgs n k) (zgq (zgs n k) n)
theorem zgs_su {n k : Nat} (h : zgq (zgs n k) n ≠ 0) : zgs n (k + 1) = zgo (zgs n k) (zgq (zgs n k) n) := if_neg h
theorem zgs_RG (n k : Nat) : zRG n (zgs n k) := by
  induction k with
  | zero => exact fun q _ => Nat.zero_le _
  | succ k ih =>
    show zRG n (if zgq (zgs n k) n = 0 then zgs n k else zgo (zgs n k) (zgq (zgs n k) n))
    by_cases w : zgq (zgs n k) n = 0
    · rw [if_pos w]; exact ih
    · rw [if_neg w]; exact zRG_go ih (zgq_ok w).2
/-- which of them is the last -/
def zgE (n K : Nat) : Prop := zgq (zgs n K) n = 0 ∧ ∀ j, j < K → zgq (zgs n j) n ≠ 0
theorem zgs_vl (n k : Nat) : (∃ j, j < k ∧ zgE n j) ∨ ((∀ j, j < k → zgq (zgs n j) n ≠ 0) ∧ k ≤ zvl (zgs n k) n) := by
  induction k with
  | zero => exact Or.inr ⟨fun j hj => absurd hj (Nat.not_lt_zero _), Nat.zero_le _⟩
  | succ k ih =>
    rcases ih with ⟨j, h1, h2⟩ | ⟨h1, h2⟩
    · exact Or.inl ⟨j, by omega, h2⟩
    · by_cases w : zgq (zgs n k) n = 0
      · exact Or.inl ⟨k, by omega, w, h1⟩
      · refine Or.inr ⟨fun j hj => ?_, ?_⟩
        · by_cases e : j = k
          · subst e; exact w
          · exact h1 j (by omega)
        · have h3 := (zgq_ok w).1
          rw [zgs_su w]
          have h4 := zvl_go (n := n) (f := zgs n k) (fun q hq => zRG_le (zgs_RG n k) hq) (i := zgq (zgs n k) n) (n - (zgq (zgs n k) n + 1)) (by omega)
          rw [show zgq (zgs n k) n + 1 + (n - (zgq (zgs n k) n + 1)) = n by omega] at h4
          omega
theorem zgE_ex {n : Nat} (hn : n ≤ 8) : ∃ K, K < 40320 ∧ zgE n K := by
  have hb : zfa n ≤ 40320 := by
    rcases (show n = 0 ∨ n = 1 ∨ n = 2 ∨ n = 3 ∨ n = 4 ∨ n = 5 ∨ n = 6 ∨ n = 7 ∨ n = 8 by omega) with e | e | e | e | e | e | e | e | e <;> subst e <;> decide
  rcases zgs_vl n 40320 with ⟨j, h1, h2⟩ | ⟨h1, h2⟩
  · exact ⟨j, h1, h2⟩
  · have := zvl_lt (n := n) (f := zgs n 40320) (fun q hq => zRG_le (zgs_RG n 40320) hq) (Nat.le_refl _)
    omega
/-- the least length so far, how many have it, the first of them -/
def zLs (n : Nat) (T : Nat → Nat → Bool) : Nat → Nat × Nat × (Nat → Nat)
  | 0 => (zLgt n T (zgs n 0), 1, zgs n 0)
  | k + 1 => if zLgt n T (zgs n (k + 1)) < (zLs n T k).1 then (zLgt n T (zgs n (k + 1)), 1, zgs n (k + 1)) else if zLgt n T (zgs n (k + 1)) = (zLs n T k).1 then ((zLs n T k).1, (zLs n T k).2.1 + 1, (zLs n T k).2.2) else zLs n T k
theorem zLs_su (n : Nat) (T : Nat → Nat → Bool) (k : Nat) : zLs n T (k + 1) = if zLgt n T (zgs n (k + 1)) < (zLs n T k).1 then (zLgt n T (zgs n (k + 1)), 1, zgs n (k + 1)) else if zLgt n T (zgs n (k + 1)) = (zLs n T k).1 then ((zLs n T k).1, (zLs n T k).2.1 + 1, (zLs n T k).2.2) else zLs n T k := rfl
theorem zLs_b {n : Nat} (hn : n ≤ 16) (T : Nat → Nat → Bool) (k : Nat) : (zLs n T k).1 ≤ 20000 ∧ (zLs n T k).2.1 ≤ k + 1 ∧ zRG n (zLs n T k).2.2 := by
  induction k with
  | zero => exact ⟨zLn_le hn, Nat.le_refl _, zgs_RG n 0⟩
  | succ k ih =>
    rw [zLs_su]
    split
    · exact ⟨zLn_le hn, by show 1 ≤ _; omega, zgs_RG n _⟩
    · split
      · exact ⟨ih.1, by show _ + 1 ≤ _; omega, ih.2.2⟩
      · exact ⟨ih.1, by omega, ih.2.2⟩
end
