/-! ===== except of the class: all its roads ===== -/
set_option maxHeartbeats 1600000 in
/-- except, of a telling -/
theorem zx_except2 {O : zOm} (hO : zWld O) (hl : (zLn O).stackTraces = false) {x t k w : Int} {y n : Nat} {A : zTl} {M : zMem} {K : Option zV → zMem → Prop} {KX : String → zMem → Prop} (hob : zxObj (zS O) x 0 = true) (hfind : zR O F_ToldNet_find [(2, x), (0, t)] M (fun v M' => v = some (2, ((y : Nat) : Int)) ∧ M' = M)) (hy : zTeC (zS O) y) (hA : zTR M y n A) (hw : zTw n A) (hn2 : n ≤ 16) (hk32 : zin32 k)
    (h1 : zpk (tX A) k 256 = -1 → KX "java/util/NoSuchElementException" M) (h2 : zpk (tX A) k 256 ≠ -1 → ¬ (0 ≤ w ∧ w ≤ 3) → KX "java/lang/IllegalArgumentException" M)
    (h3 : ∀ d : Nat, zpk (tX A) k 256 = ((d : Nat) : Int) → d < 256 → tX A d = true → 0 ≤ w → w ≤ 3 → K (some (0, if w = 0 then ((d / 16 : Nat) : Int) else if w = 1 then ((d % 16 : Nat) : Int) else if w = 2 then zbI (tS n A (d / 16) (d % 16)) else zbI (decide (tv A (d / 16) (d % 16) = 2)))) M) : zRX O F_ToldNet_except [(2, x), (0, t), (0, k), (0, w)] M K KX := by
  have hy0 := hy
  obtain ⟨⟨o, x0, x1, x2, x3, x4, x5, x6⟩, ⟨xa, xb⟩, hpr, ⟨n7, n9, n11⟩⟩ := hy
  have n7o := n7.2.2.2
  have n9o := n9.2.2.2
  refine zRX.of hO.ok (pf := zpfF zpf_ToldNet) (pm := zpmF zpm_ToldNet) (pk := zpkF zpk_ToldNet) (by rw [hO.1]; exact zEvOk_ToldNet _) rfl rfl (Nat.le_of_ble_eq_true rfl) (fun p e s m below meth c X hT hlocks hno => ?_)
  have nr : ∀ {i : Instr} {P : Prop}, (i ≠ .ireturn ∧ i ≠ .lreturn ∧ i ≠ .areturn ∧ i ≠ .return_) → (i = .ireturn ∨ i = .lreturn ∨ i = .areturn ∨ i = .return_ → P) := fun h q => (q.elim h.1 (fun q => q.elim h.2.1 (fun q => q.elim h.2.2.1 h.2.2.2))).elim
  refine zGo_step (rt := K) (i := .aload_n 0) (n := 1) X (by decide +kernel) ⟨rfl, x, rfl, ?_⟩ (nr (by decide))
  refine zGo_step (rt := K) (i := .iload_n 1) (n := 1) X (by decide +kernel) ⟨rfl, t, rfl, ?_⟩ (nr (by decide))
  refine zGo_step (rt := K) (i := .invokevirtual 202) (n := 3) X (by decide +kernel) ⟨rfl, x, [(0, t)], [], 50, 0, 1, rfl, by decide +kernel, rfl, zxObj_ok hob, by decide, by decide +kernel, by decide +kernel, ?_⟩ (nr (by decide))
  refine hfind.mono (fun v M' hv => ?_)
  obtain ⟨rfl, rfl⟩ := hv
  refine zGo_step (rt := K) (i := .astore 4) (n := 2) X (by decide +kernel) ⟨rfl, by decide, ((y : Nat) : Int), [], rfl, ?_⟩ (nr (by decide))
  refine zGo_step (rt := K) (i := .aload 4) (n := 2) X (by decide +kernel) ⟨rfl, ((y : Nat) : Int), rfl, ?_⟩ (nr (by decide))
  refine zGo_step (rt := K) (i := .ifnonnull 7) (n := 3) X (by decide +kernel) ⟨rfl, ((y : Nat) : Int), [], 16, rfl, rfl, fun _ => ?_, fun q => absurd q (by omega)⟩ (nr (by decide))
  refine zGo_step (rt := K) (i := .aload 4) (n := 2) X (by decide +kernel) ⟨rfl, ((y : Nat) : Int), rfl, ?_⟩ (nr (by decide))
  refine zGo_step (rt := K) (i := .getfield 255) (n := 3) X (by decide +kernel) ⟨rfl, ((y : Nat) : Int), [], 4, 4, rfl, by decide +kernel, Or.inr ⟨some (y + 9), x4, ?_⟩⟩ (nr (by decide))
  refine zGo_step (rt := K) (i := .iload_n 2) (n := 1) X (by decide +kernel) ⟨rfl, k, rfl, ?_⟩ (nr (by decide))
  refine zGo_step (rt := K) (i := .invokevirtual 258) (n := 3) X (by decide +kernel) ⟨rfl, ((y + 9 : Nat) : Int), [(0, k)], [], 72, 2, 1, rfl, by decide +kernel, rfl, n9o, by decide, by decide +kernel, by decide +kernel, ?_⟩ (nr (by decide))
  refine zTR.pairAt hO hy0 hA hn2 hw hk32 ?_
  obtain ⟨z, hz⟩ : ∃ z, z = zpk (tX A) k 256 := ⟨_, rfl⟩
  have hzc := zpk_cases (tX A) k 256
  rw [← hz] at h1 h2 h3 hzc ⊢
  refine zGo_step (rt := K) (i := .istore 5) (n := 2) X (by decide +kernel) ⟨rfl, by decide, z, [], rfl, ?_⟩ (nr (by decide))
  refine zGo_step (rt := K) (i := .aload 4) (n := 2) X (by decide +kernel) ⟨rfl, ((y : Nat) : Int), rfl, ?_⟩ (nr (by decide))
  refine zGo_step (rt := K) (i := .ifnull 9) (n := 3) X (by decide +kernel) ⟨rfl, ((y : Nat) : Int), [], 38, rfl, rfl, fun q => absurd q (by omega), fun _ => ?_⟩ (nr (by decide))
  refine zGo_step (rt := K) (i := .iload 5) (n := 2) X (by decide +kernel) ⟨rfl, z, rfl, ?_⟩ (nr (by decide))
  refine zGo_step (rt := K) (i := .iconst (-1)) (n := 1) X (by decide +kernel) ⟨rfl, by decide, ?_⟩ (nr (by decide))
  refine zGo_step (rt := K) (i := .if_icmp .ne 14) (n := 3) X (by decide +kernel) ⟨rfl, z, -1, [], 49, rfl, rfl, fun q => ?_, fun q => ?_⟩ (nr (by decide))
  rotate_left 1
  · have q' : ¬ z ≠ -1 := q
    exact zx_go1 X hl hT hlocks hno (by decide) (by decide) (h1 (Classical.not_not.mp q')) (by decide +kernel) (by decide +kernel) (Or.inr ⟨by decide +kernel, by decide +kernel, by decide +kernel⟩)
  have q1 : z ≠ -1 := q
  clear q
  have t2 : ¬ (0 ≤ w ∧ w ≤ 3) → ∀ lv, zGo p e (zRmX F_ToldNet_except) s m (([(2, x), (0, t), (0, k), (0, w)] : List zV).map (zWv O)).toArray below meth c (zXQ O K KX below (([(2, x), (0, t), (0, k), (0, w)] : List zV).map (zWv O)).toArray s) O F_ToldNet_except.2.2.1 58 [] lv M' := fun h lv => zx_go2 X hl hT hlocks hno (by decide) (by decide) (h2 q1 h) (by decide +kernel) (by decide +kernel) (by decide +kernel) (by decide +kernel) (by decide +kernel)
  refine zGo_step (rt := K) (i := .iload_n 3) (n := 1) X (by decide +kernel) ⟨rfl, w, rfl, ?_⟩ (nr (by decide))
  refine zGo_step (rt := K) (i := .ifCond .lt 8) (n := 3) X (by decide +kernel) ⟨rfl, w, [], 58, rfl, rfl, fun q => ?_, fun q => ?_⟩ (nr (by decide))
  · have q' : w < 0 := q
    exact t2 (by omega) _
  have q3 : ¬ w < 0 := q
  clear q
  refine zGo_step (rt := K) (i := .iload_n 3) (n := 1) X (by decide +kernel) ⟨rfl, w, rfl, ?_⟩ (nr (by decide))
  refine zGo_step (rt := K) (i := .iconst 3) (n := 1) X (by decide +kernel) ⟨rfl, by decide, ?_⟩ (nr (by decide))
  refine zGo_step (rt := K) (i := .if_icmp .le 13) (n := 3) X (by decide +kernel) ⟨rfl, w, 3, [], 68, rfl, rfl, fun q => ?_, fun q => ?_⟩ (nr (by decide))
  rotate_left 1
  · have q' : ¬ w ≤ 3 := q
    exact t2 (by omega) _
  have q4 : w ≤ 3 := q
  clear q t2 h1 h2
  obtain ⟨d, d1, d2, d3⟩ : ∃ d : Nat, z = ((d : Nat) : Int) ∧ d < 256 ∧ tX A d = true := by
    rcases hzc with ⟨d, e1, e2, e3, -⟩ | ⟨e1, -⟩
    · exact ⟨d, e1, e2, e3⟩
    · exact absurd e1 q1
  have hK := h3 d d1 d2 d3 (by omega) q4
  clear h3 hzc
  obtain ⟨c4, c5, -⟩ := tX_in hn2 hw d3
  rw [d1]
  refine zGo_step (rt := K) (i := .iload 5) (n := 2) X (by decide +kernel) ⟨rfl, ((d : Nat) : Int), rfl, ?_⟩ (nr (by decide))
  refine zGo_step (rt := K) (i := .invokestatic 263) (n := 3) X (by decide +kernel) ⟨rfl, Or.inl ⟨[(0, ((d : Nat) : Int))], [], 1, 74, 0, 1, Or.inl rfl, rfl, by decide +kernel, rfl, by decide, by decide +kernel, by decide +kernel, ?_⟩⟩ (nr (by decide))
  refine s_Net_lesserOf hO (by omega) ?_
  refine zGo_step (rt := K) (i := .istore 6) (n := 2) X (by decide +kernel) ⟨rfl, by decide, ((d / 16 : Nat) : Int), [], rfl, ?_⟩ (nr (by decide))
  refine zGo_step (rt := K) (i := .iload 5) (n := 2) X (by decide +kernel) ⟨rfl, ((d : Nat) : Int), rfl, ?_⟩ (nr (by decide))
  refine zGo_step (rt := K) (i := .invokestatic 266) (n := 3) X (by decide +kernel) ⟨rfl, Or.inl ⟨[(0, ((d : Nat) : Int))], [], 1, 75, 0, 1, Or.inl rfl, rfl, by decide +kernel, rfl, by decide, by decide +kernel, by decide +kernel, ?_⟩⟩ (nr (by decide))
  refine s_Net_otherOf hO ?_
  refine zGo_step (rt := K) (i := .istore 7) (n := 2) X (by decide +kernel) ⟨rfl, by decide, ((d % 16 : Nat) : Int), [], rfl, ?_⟩ (nr (by decide))
  refine zGo_step (rt := K) (i := .iload_n 3) (n := 1) X (by decide +kernel) ⟨rfl, w, rfl, ?_⟩ (nr (by decide))
  refine zGo_step (rt := K) (i := .ifCond .ne 6) (n := 3) X (by decide +kernel) ⟨rfl, w, [], 89, rfl, rfl, fun q => ?_, fun q => ?_⟩ (nr (by decide))
  rotate_left 1
  · have q' : ¬ w ≠ 0 := q
    rw [if_pos (Classical.not_not.mp q')] at hK
    refine zGo_step (rt := K) (i := .iload 6) (n := 2) X (by decide +kernel) ⟨rfl, ((d / 16 : Nat) : Int), rfl, ?_⟩ (nr (by decide))
    exact zx_goret X hlocks rfl (by decide +kernel) hK
  have q5 : w ≠ 0 := q
  clear q
  rw [if_neg q5] at hK
  refine zGo_step (rt := K) (i := .iload_n 3) (n := 1) X (by decide +kernel) ⟨rfl, w, rfl, ?_⟩ (nr (by decide))
  refine zGo_step (rt := K) (i := .iconst 1) (n := 1) X (by decide +kernel) ⟨rfl, by decide, ?_⟩ (nr (by decide))
  refine zGo_step (rt := K) (i := .if_icmp .ne 6) (n := 3) X (by decide +kernel) ⟨rfl, w, 1, [], 97, rfl, rfl, fun q => ?_, fun q => ?_⟩ (nr (by decide))
  rotate_left 1
  · have q' : ¬ w ≠ 1 := q
    rw [if_pos (Classical.not_not.mp q')] at hK
    refine zGo_step (rt := K) (i := .iload 7) (n := 2) X (by decide +kernel) ⟨rfl, ((d % 16 : Nat) : Int), rfl, ?_⟩ (nr (by decide))
    exact zx_goret X hlocks rfl (by decide +kernel) hK
  have q6 : w ≠ 1 := q
  clear q
  rw [if_neg q6] at hK
  refine zGo_step (rt := K) (i := .iload_n 3) (n := 1) X (by decide +kernel) ⟨rfl, w, rfl, ?_⟩ (nr (by decide))
  refine zGo_step (rt := K) (i := .iconst 2) (n := 1) X (by decide +kernel) ⟨rfl, by decide, ?_⟩ (nr (by decide))
  refine zGo_step (rt := K) (i := .if_icmp .ne 24) (n := 3) X (by decide +kernel) ⟨rfl, w, 2, [], 123, rfl, rfl, fun q => ?_, fun q => ?_⟩ (nr (by decide))
  · have q' : w ≠ 2 := q
    rw [if_neg q'] at hK
    refine zGo_step (rt := K) (i := .aload 4) (n := 2) X (by decide +kernel) ⟨rfl, ((y : Nat) : Int), rfl, ?_⟩ (nr (by decide))
    refine zGo_step (rt := K) (i := .iload 5) (n := 2) X (by decide +kernel) ⟨rfl, ((d : Nat) : Int), rfl, ?_⟩ (nr (by decide))
    refine zGo_step (rt := K) (i := .invokevirtual 272) (n := 3) X (by decide +kernel) ⟨rfl, ((y : Nat) : Int), [(0, ((d : Nat) : Int))], [], 110, 4, 1, rfl, by decide +kernel, rfl, o, by decide, by decide +kernel, by decide +kernel, ?_⟩ (nr (by decide))
    refine c_isLeft hO hy0 hA c4 d2 ?_
    generalize decide (tv A (d / 16) (d % 16) = 2) = b at hK ⊢
    refine zGo_step (rt := K) (i := .ifCond .eq 7) (n := 3) X (by decide +kernel) ⟨rfl, zbI b, [], 137, rfl, rfl, fun q => ?_, fun q => ?_⟩ (nr (by decide))
    · have q9 : zbI b = 0 := q
      rw [q9] at hK
      refine zGo_step (rt := K) (i := .iconst 0) (n := 1) X (by decide +kernel) ⟨rfl, by decide, ?_⟩ (nr (by decide))
      exact zx_goret X hlocks rfl (by decide +kernel) hK
    · have q9 : ¬ zbI b = 0 := q
      rw [(zbI_01 b).resolve_left q9] at hK
      refine zGo_step (rt := K) (i := .iconst 1) (n := 1) X (by decide +kernel) ⟨rfl, by decide, ?_⟩ (nr (by decide))
      refine zGo_step (rt := K) (i := .goto 4) (n := 3) X (by decide +kernel) ⟨rfl, 138, rfl, ?_⟩ (nr (by decide))
      exact zx_goret X hlocks rfl (by decide +kernel) hK
  · have q' : ¬ w ≠ 2 := q
    rw [if_pos (Classical.not_not.mp q')] at hK
    refine zGo_step (rt := K) (i := .aload 4) (n := 2) X (by decide +kernel) ⟨rfl, ((y : Nat) : Int), rfl, ?_⟩ (nr (by decide))
    refine zGo_step (rt := K) (i := .getfield 269) (n := 3) X (by decide +kernel) ⟨rfl, ((y : Nat) : Int), [], 4, 3, rfl, by decide +kernel, Or.inr ⟨some (y + 7), x3, ?_⟩⟩ (nr (by decide))
    refine zGo_step (rt := K) (i := .iload 6) (n := 2) X (by decide +kernel) ⟨rfl, ((d / 16 : Nat) : Int), rfl, ?_⟩ (nr (by decide))
    refine zGo_step (rt := K) (i := .iload 7) (n := 2) X (by decide +kernel) ⟨rfl, ((d % 16 : Nat) : Int), rfl, ?_⟩ (nr (by decide))
    refine zGo_step (rt := K) (i := .invokevirtual 121) (n := 3) X (by decide +kernel) ⟨rfl, ((y + 7 : Nat) : Int), [(0, ((d / 16 : Nat) : Int)), (0, ((d % 16 : Nat) : Int))], [], 66, 2, 2, rfl, by decide +kernel, rfl, n7o, by decide, by decide +kernel, by decide +kernel, ?_⟩ (nr (by decide))
    refine s_joins hO n7 hA.2.2.2.1 (show d / 16 < 16 by omega) (show d % 16 < 16 by omega) ?_
    generalize tS n A (d / 16) (d % 16) = b at hK ⊢
    refine zGo_step (rt := K) (i := .ifCond .eq 7) (n := 3) X (by decide +kernel) ⟨rfl, zbI b, [], 121, rfl, rfl, fun q => ?_, fun q => ?_⟩ (nr (by decide))
    · have q9 : zbI b = 0 := q
      rw [q9] at hK
      refine zGo_step (rt := K) (i := .iconst 0) (n := 1) X (by decide +kernel) ⟨rfl, by decide, ?_⟩ (nr (by decide))
      exact zx_goret X hlocks rfl (by decide +kernel) hK
    · have q9 : ¬ zbI b = 0 := q
      rw [(zbI_01 b).resolve_left q9] at hK
      refine zGo_step (rt := K) (i := .iconst 1) (n := 1) X (by decide +kernel) ⟨rfl, by decide, ?_⟩ (nr (by decide))
      refine zGo_step (rt := K) (i := .goto 4) (n := 3) X (by decide +kernel) ⟨rfl, 122, rfl, ?_⟩ (nr (by decide))
      exact zx_goret X hlocks rfl (by decide +kernel) hK
