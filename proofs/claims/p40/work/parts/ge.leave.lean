/-! ===== leave: the class ===== -/
theorem c_leave_bad {O : zOm} (hO : zWld O) (hS : zS O = zmS zC0) {t k : Int} {out : Bool} {T n : Nat} {A : Nat → zTl} {M : zMem} {K : Option zV → zMem → Prop} (hT : M ((0 : Nat) : Int) ((4 : Nat) : Int) = ((T : Nat) : Int)) (hT5 : T ≤ 5) (hn2 : n ≤ 16) (hA : ∀ t : Nat, t < T → zTR M (185 + 13 * t) n (A t) ∧ zTw n (A t)) (hk3 : zin32 k) (hb : ¬ (0 ≤ t ∧ t < ((T : Nat) : Int)) ∨ ∀ t' : Nat, t = ((t' : Nat) : Int) → zpk (tX (A t')) k 256 = -1) (hk : K (some (0, 0)) M) : zR O F_ToldNet_leave [(2, ((0 : Nat) : Int)), (0, t), (0, k), (0, zbI out)] M K := by
  apply r_ToldNet_leave hO
  unfold B_ToldNet_leave
  have z0 := zo_0 hS
  ((with_reducible refine i_Seq (i_Set (i_Call (i_as1 (i_A0 (i_as1 (i_L1 (i_as0 ?_)))))))); (with_reducible refine i_recv0 (by assumption) ?_); simp only [w_set0, w_set1, w_setn0, w_setn1])
  refine c_find hO hS hT hT5 (fun hx => ⟨_, rfl, ?_⟩) (fun i e hk1 => ⟨_, rfl, ?_⟩)
  · ((with_reducible refine i_Seq (i_Set (i_eIf (i_cN (i_A4 ?_))))); simp only [w_set0, w_set1, w_setn0, w_setn1]; (with_reducible refine i_t trivial ?_); (with_reducible refine i_I (i_Seq (i_If (i_cOr (i_cN ?_))))); simp only [w_set0, w_set1, w_setn0, w_setn1]; (with_reducible refine i_A4 ?_); simp only [w_set0, w_set1, w_setn0, w_setn1]; (with_reducible refine i_t trivial ?_); (with_reducible refine i_RetZ (i_I ?_)); (with_reducible refine i_z (Or.inl rfl) ?_))
    exact hk
  · obtain ⟨hA1, hw⟩ := hA i hk1
    have hx0 := zTelT hS (show i < 5 by omega)
    obtain ⟨⟨x0, x1, x2, x3, x4, x5, x6, x7⟩, ⟨xa, xb⟩, hQ0, ⟨n7, n9, n11⟩⟩ := id hx0
    have n9' := n9
    obtain ⟨-, -, -, o9⟩ := n9'
    have hz : zpk (tX (A i)) k 256 = -1 := by
      rcases hb with hb | hb
      · exact absurd (show 0 ≤ t ∧ t < ((T : Nat) : Int) by omega) hb
      · exact hb i e
    ((with_reducible refine i_Seq (i_Set (i_eIf (i_cN (i_A4 ?_))))); (with_reducible refine i_f (by omega) ?_); (with_reducible refine i_Call (i_as1 (i_FR (i_A4 ?_)))); (with_reducible refine i_fldR (by assumption) ?_); (with_reducible refine i_as1 (i_L2 (i_as0 ?_))); (with_reducible refine i_recv0 (by assumption) ?_); simp only [w_set0, w_set1, w_setn0, w_setn1])
    refine zTR.pairAt hO hx0 hA1 hn2 hw hk3 ⟨_, rfl, ?_⟩
    rw [hz]
    ((with_reducible refine i_Seq (i_If (i_cOr (i_cN (i_A4 ?_))))); (with_reducible refine i_f (by omega) ?_); (with_reducible refine i_cI_eq (i_L5 (i_I ?_))); simp only [w_set0, w_set1, w_setn0, w_setn1]; (with_reducible refine i_t trivial ?_); (with_reducible refine i_RetZ (i_I ?_)); (with_reducible refine i_z (Or.inl rfl) ?_))
    exact hk
theorem c_leave {O : zOm} (hO : zWld O) (hS : zS O = zmS zC0) {t k c T n : Nat} {out : Bool} {A : zTl} {M : zMem} {K : Option zV → zMem → Prop} (hT : M ((0 : Nat) : Int) ((4 : Nat) : Int) = ((T : Nat) : Int)) (hT5 : T ≤ 5) (ht : t < T) (hn2 : n ≤ 16) (hA : zTR M (185 + 13 * t) n A) (hw : zTw n A) (hc : c < 256) (hX : tX A c = true) (hck : zcnt (tX A) c = k)
    (hk : ∀ M', (∀ b j, ¬ b = ((185 + 13 * t + 12 : Nat) : Int) → M' b j = M b j) → zTR M' (185 + 13 * t) n (zTv A (zv1 A c (if out = true then 2 else 1))) → K (some (0, 1)) M') : zR O F_ToldNet_leave [(2, ((0 : Nat) : Int)), (0, ((t : Nat) : Int)), (0, ((k : Nat) : Int)), (0, zbI out)] M K := by
  have hx0 := zTelT hS (show t < 5 by omega)
  obtain ⟨⟨x0, x1, x2, x3, x4, x5, x6, x7⟩, ⟨xa, xb⟩, hQ0, ⟨n7, n9, n11⟩⟩ := id hx0
  have n9' := n9
  obtain ⟨-, -, -, o9⟩ := n9'
  have hp : zpk (tX A) ((k : Nat) : Int) 256 = ((c : Nat) : Int) := zpk_some hc hX (by omega)
  obtain ⟨c4, c5, -⟩ := tX_in hn2 hw hX
  have hkb : k < 256 := by have := zcnt_le (tX A) c; omega
  apply r_ToldNet_leave hO
  unfold B_ToldNet_leave
  have z0 := zo_0 hS
  ((with_reducible refine i_Seq (i_Set (i_Call (i_as1 (i_A0 (i_as1 (i_L1 (i_as0 ?_)))))))); (with_reducible refine i_recv0 (by assumption) ?_); simp only [w_set0, w_set1, w_setn0, w_setn1])
  refine c_find hO hS hT hT5 (fun hx => absurd (show 0 ≤ ((t : Nat) : Int) ∧ ((t : Nat) : Int) < ((T : Nat) : Int) by omega) hx) (fun i e hk1 => ⟨_, rfl, ?_⟩)
  rw [show i = t by omega]
  ((with_reducible refine i_Seq (i_Set (i_eIf (i_cN (i_A4 ?_))))); (with_reducible refine i_f (by omega) ?_); (with_reducible refine i_Call (i_as1 (i_FR (i_A4 ?_)))); (with_reducible refine i_fldR (by assumption) ?_); (with_reducible refine i_as1 (i_L2 (i_as0 ?_))); (with_reducible refine i_recv0 (by assumption) ?_); simp only [w_set0, w_set1, w_setn0, w_setn1])
  refine zTR.pairAt hO hx0 hA hn2 hw (by unfold zin32; omega) ⟨_, rfl, ?_⟩
  rw [hp]
  clear hck
  ((with_reducible refine i_Seq (i_If (i_cOr (i_cN (i_A4 ?_))))); (with_reducible refine i_f (by omega) ?_); (with_reducible refine i_cI_eq (i_L5 (i_I ?_))); (with_reducible refine i_f (by omega) ?_); (with_reducible refine i_Seq (i_sCall (i_as1 (i_A4 (i_as1 (i_L5 (i_as1 (i_L3 (i_as0 ?_))))))))); (with_reducible refine i_recv0 (by assumption) ?_))
  refine c_setLeft hO hx0 hA c4 hc hX (fun M1 f1 h1 => ⟨rfl, ?_⟩)
  ((with_reducible refine i_RetZ (i_I ?_)); (with_reducible refine i_z (Or.inr rfl) ?_))
  exact hk M1 f1 h1
