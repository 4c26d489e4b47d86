section
-- part l0.wret.lean.txt
/-! ===== word and except of the class: all their roads ===== -/
section ZU
variable {p : Program} {e : Env} {f : zMR} {s : State} {m : MethodId} {args : Array Value} {below : List Frame} {meth : Method} {c : Code} {O : zOm} {K : Option zV → zMem → Prop} {KX : String → zMem → Prop} {pf : Nat → Option (Nat × Nat)} {pm : Nat → Option zMI} {pk : Nat → Option zV}
theorem zx_goret (X : zCx p (zRmX f) s m args meth c O (zEvOf "ToldNet" f pf pm pk)) (hlocks : meth.locks = false) {pc : Nat} {x : Int} {lv : zLv} {M : zMem} (hr : f.2.2.2.1 = some .int) (hd : decode f.2.1 pc = .ok (.ireturn, 1)) (hk : K (some (0, x)) M) :
    zGo p e (zRmX f) s m args below meth c (zXQ O K KX below args s) O f.2.2.1 pc [(0, x)] lv M := by
  obtain ⟨hx, hb, hml, hret, hown, hts, hK, hN, hfr', hlo', hszB, hSo, hCl, hF⟩ := X
  intro hst hlv hM H locs ls hP hS hl2
  exact W.widen (Nat.zero_le _) (Nat.zero_le _) (vx_ret (W.iret (v := zi x) hx hb (hret.trans hr) (fun t ht hW => ⟨⟨some (0, x), M, rfl, fun v hv => by cases hv; exact zok_hd hst, hM, hk, by rw [ht]; exact hP⟩, hS.F ht⟩) hS.2.2 hd))
theorem zx_go2 (X : zCx p (zRmX f) s m args meth c O (zEvOf "ToldNet" f pf pm pk)) (hl : (zLn O).stackTraces = false) (hT : zThr (zA O s.heap.size) s s.heap) (hlocks : meth.locks = false) (hno : ∀ x ∈ c.exceptionTable.toList, False) (hfr : 5 < f.2.2.2.2.1) (hlo : 82 ≤ f.2.2.2.2.2) {pc : Nat} {lv : zLv} {M : zMem} (hKX : KX "java/lang/IllegalArgumentException" M)
    (d0 : decode f.2.1 pc = .ok (.new 238, 3)) (d3 : decode f.2.1 (pc + 3) = .ok (.dup, 1)) (d4 : decode f.2.1 (pc + 4) = .ok (.ldc 240, 2)) (d6 : decode f.2.1 (pc + 6) = .ok (.invokespecial 242, 3)) (d9 : decode f.2.1 (pc + 9) = .ok (.athrow, 1)) :
    zGo p e (zRmX f) s m args below meth c (zXQ O K KX below args s) O f.2.2.1 pc [] lv M := by
  obtain ⟨hx, hb, hml, hret, hown, hts, hK, hN, hfr', hlo', hszB, hSo, hCl, hF⟩ := X
  have hW := hT.words hts
  intro hst hlv hM H locs ls hP hS hl2
  obtain ⟨-, ⟨a2, h2⟩, -, h4, h5, -⟩ := id hT
  exact zx_throw (A := zA O s.heap.size) (by0 := prog_19_method_2_code) (ix := 7) (Yn := "java/lang/RuntimeException") (names := ["java/lang/Exception"]) hx hb hl (by decide +kernel) (by decide +kernel) (by decide +kernel) (by decide +kernel) hown (by decide +kernel) (by decide +kernel) (by decide +kernel) (hts _ zw2_cl) (hts _ zw2_in) h2 hW.2 zw2_gd h4 h5 hS (by rw [hml]; exact hl2.1) d0 d3 d4 d6 d9 (fun x hx => (hno x hx).elim) hfr hlo (Nat.le_refl _) (Nat.le_refl _) hlocks (zx_hx hM hKX hP hS) hS.2.2 (Nat.le_refl _) (Nat.le_refl _)
end ZU
set_option maxHeartbeats 1600000 in
/-- word, of a telling -/
theorem zx_word2 {O : zOm} (hO : zWld O) (hl : (zLn O).stackTraces = false) {x t k w : Int} {y wc : Nat} {M : zMem} {K : Option zV → zMem → Prop} {KX : String → zMem → Prop} (hob : zxObj (zS O) x 0 = true) (hfind : zR O F_ToldNet_find [(2, x), (0, t)] M (fun v M' => v = some (2, ((y : Nat) : Int)) ∧ M' = M)) (hy : zTeC (zS O) y) (hwc : M ((y : Nat) : Int) ((6 : Nat) : Int) = ((wc : Nat) : Int)) (hwc2 : wc ≤ 120)
    (h1 : ¬ (0 ≤ k ∧ k < ((wc : Nat) : Int)) → KX "java/util/NoSuchElementException" M) (h2 : 0 ≤ k → k < ((wc : Nat) : Int) → ¬ (0 ≤ w ∧ w ≤ 2) → KX "java/lang/IllegalArgumentException" M)
    (h3 : ∀ j : Nat, k = ((j : Nat) : Int) → j < wc → 0 ≤ w → w ≤ 2 → ∃ c : Nat, c < 1024 ∧ M ((y + 6 : Nat) : Int) ((j : Nat) : Int) = ((c : Nat) : Int) ∧ K (some (0, if w = 0 then ((c / 256 : Nat) : Int) else if w = 1 then ((c / 16 % 16 : Nat) : Int) else zw2 c)) M) : zRX O F_ToldNet_word [(2, x), (0, t), (0, k), (0, w)] M K KX := by
  obtain ⟨⟨o, x0, x1, x2, x3, x4, x5, x6⟩, ⟨xa, xb⟩, -⟩ := hy
  refine zRX.of hO.ok (pf := zpfF zpf_ToldNet) (pm := zpmF zpm_ToldNet) (pk := zpkF zpk_ToldNet) (by rw [hO.1]; exact zEvOk_ToldNet _) rfl rfl (Nat.le_of_ble_eq_true rfl) (fun p e s m below meth c X hT hlocks hno => ?_)
  have nr : ∀ {i : Instr} {P : Prop}, (i ≠ .ireturn ∧ i ≠ .lreturn ∧ i ≠ .areturn ∧ i ≠ .return_) → (i = .ireturn ∨ i = .lreturn ∨ i = .areturn ∨ i = .return_ → P) := fun h q => (q.elim h.1 (fun q => q.elim h.2.1 (fun q => q.elim h.2.2.1 h.2.2.2))).elim
  have t1 : ¬ (0 ≤ k ∧ k < ((wc : Nat) : Int)) → ∀ lv, zGo p e (zRmX F_ToldNet_word) s m (([(2, x), (0, t), (0, k), (0, w)] : List zV).map (zWv O)).toArray below meth c (zXQ O K KX below (([(2, x), (0, t), (0, k), (0, w)] : List zV).map (zWv O)).toArray s) O F_ToldNet_word.2.2.1 25 [] lv M := fun h lv => zx_go1 X hl hT hlocks hno (by decide) (by decide) (h1 h) (by decide +kernel) (by decide +kernel) (Or.inl ⟨by decide +kernel, by decide +kernel, by decide +kernel⟩)
  have t2 : 0 ≤ k → k < ((wc : Nat) : Int) → ¬ (0 ≤ w ∧ w ≤ 2) → ∀ lv, zGo p e (zRmX F_ToldNet_word) s m (([(2, x), (0, t), (0, k), (0, w)] : List zV).map (zWv O)).toArray below meth c (zXQ O K KX below (([(2, x), (0, t), (0, k), (0, w)] : List zV).map (zWv O)).toArray s) O F_ToldNet_word.2.2.1 44 [] lv M := fun a b h lv => zx_go2 X hl hT hlocks hno (by decide) (by decide) (h2 a b h) (by decide +kernel) (by decide +kernel) (by decide +kernel) (by decide +kernel) (by decide +kernel)
  refine zGo_step (rt := K) (i := .aload_n 0) (n := 1) X (by decide +kernel) ⟨rfl, x, rfl, ?_⟩ (nr (by decide))
  refine zGo_step (rt := K) (i := .iload_n 1) (n := 1) X (by decide +kernel) ⟨rfl, t, rfl, ?_⟩ (nr (by decide))
  refine zGo_step (rt := K) (i := .invokevirtual 202) (n := 3) X (by decide +kernel) ⟨rfl, x, [(0, t)], [], 50, 0, 1, rfl, by decide +kernel, rfl, zxObj_ok hob, by decide, by decide +kernel, by decide +kernel, ?_⟩ (nr (by decide))
  refine hfind.mono (fun v M' hv => ?_)
  obtain ⟨rfl, rfl⟩ := hv
  refine zGo_step (rt := K) (i := .astore 4) (n := 2) X (by decide +kernel) ⟨rfl, by decide, ((y : Nat) : Int), [], rfl, ?_⟩ (nr (by decide))
  refine zGo_step (rt := K) (i := .aload 4) (n := 2) X (by decide +kernel) ⟨rfl, ((y : Nat) : Int), rfl, ?_⟩ (nr (by decide))
  refine zGo_step (rt := K) (i := .ifnull 16) (n := 3) X (by decide +kernel) ⟨rfl, ((y : Nat) : Int), [], 25, rfl, rfl, fun q => absurd q (by omega), fun _ => ?_⟩ (nr (by decide))
  refine zGo_step (rt := K) (i := .iload_n 2) (n := 1) X (by decide +kernel) ⟨rfl, k, rfl, ?_⟩ (nr (by decide))
  refine zGo_step (rt := K) (i := .ifCond .lt 12) (n := 3) X (by decide +kernel) ⟨rfl, k, [], 25, rfl, rfl, fun q => ?_, fun q => ?_⟩ (nr (by decide))
  · have q' : k < 0 := q
    exact t1 (by omega) _
  have q1 : ¬ k < 0 := q
  clear q
  refine zGo_step (rt := K) (i := .iload_n 2) (n := 1) X (by decide +kernel) ⟨rfl, k, rfl, ?_⟩ (nr (by decide))
  refine zGo_step (rt := K) (i := .aload 4) (n := 2) X (by decide +kernel) ⟨rfl, ((y : Nat) : Int), rfl, ?_⟩ (nr (by decide))
  refine zGo_step (rt := K) (i := .getfield 228) (n := 3) X (by decide +kernel) ⟨rfl, ((y : Nat) : Int), [(0, k)], 4, 6, rfl, by decide +kernel, Or.inl ⟨x6, ?_⟩⟩ (nr (by decide))
  rw [hwc]
  refine zGo_step (rt := K) (i := .if_icmp .lt 13) (n := 3) X (by decide +kernel) ⟨rfl, k, ((wc : Nat) : Int), [], 35, rfl, rfl, fun q => ?_, fun q => ?_⟩ (nr (by decide))
  rotate_left 1
  · have q' : ¬ k < ((wc : Nat) : Int) := q
    exact t1 (by omega) _
  have q2 : k < ((wc : Nat) : Int) := q
  clear q
  refine zGo_step (rt := K) (i := .iload_n 3) (n := 1) X (by decide +kernel) ⟨rfl, w, rfl, ?_⟩ (nr (by decide))
  refine zGo_step (rt := K) (i := .ifCond .lt 8) (n := 3) X (by decide +kernel) ⟨rfl, w, [], 44, rfl, rfl, fun q => ?_, fun q => ?_⟩ (nr (by decide))
  · have q' : w < 0 := q
    exact t2 (by omega) q2 (by omega) _
  have q3 : ¬ w < 0 := q
  clear q
  refine zGo_step (rt := K) (i := .iload_n 3) (n := 1) X (by decide +kernel) ⟨rfl, w, rfl, ?_⟩ (nr (by decide))
  refine zGo_step (rt := K) (i := .iconst 2) (n := 1) X (by decide +kernel) ⟨rfl, by decide, ?_⟩ (nr (by decide))
  refine zGo_step (rt := K) (i := .if_icmp .le 13) (n := 3) X (by decide +kernel) ⟨rfl, w, 2, [], 54, rfl, rfl, fun q => ?_, fun q => ?_⟩ (nr (by decide))
  rotate_left 1
  · have q' : ¬ w ≤ 2 := q
    exact t2 (by omega) q2 (by omega) _
  have q4 : w ≤ 2 := q
  clear q t1 t2 h1 h2
  obtain ⟨j, rfl⟩ : ∃ j : Nat, k = ((j : Nat) : Int) := ⟨k.toNat, by omega⟩
  obtain ⟨d, d1, d2, hK⟩ := h3 j rfl (by omega) (by omega) q4
  clear h3
  refine zGo_step (rt := K) (i := .aload 4) (n := 2) X (by decide +kernel) ⟨rfl, ((y : Nat) : Int), rfl, ?_⟩ (nr (by decide))
  refine zGo_step (rt := K) (i := .getfield 243) (n := 3) X (by decide +kernel) ⟨rfl, ((y : Nat) : Int), [], 4, 2, rfl, by decide +kernel, Or.inr ⟨some (y + 6), x2, ?_⟩⟩ (nr (by decide))
  refine zGo_step (rt := K) (i := .iload_n 2) (n := 1) X (by decide +kernel) ⟨rfl, ((j : Nat) : Int), rfl, ?_⟩ (nr (by decide))
  refine zGo_step (rt := K) (i := .iaload) (n := 1) X (by decide +kernel) ⟨rfl, ((j : Nat) : Int), ((y + 6 : Nat) : Int), [], 120, rfl, xb, by omega, by omega, ?_⟩ (nr (by decide))
  rw [d2]
  refine zGo_step (rt := K) (i := .istore 5) (n := 2) X (by decide +kernel) ⟨rfl, by decide, ((d : Nat) : Int), [], rfl, ?_⟩ (nr (by decide))
  refine zGo_step (rt := K) (i := .iload 5) (n := 2) X (by decide +kernel) ⟨rfl, ((d : Nat) : Int), rfl, ?_⟩ (nr (by decide))
  refine zGo_step (rt := K) (i := .invokestatic 246) (n := 3) X (by decide +kernel) ⟨rfl, Or.inl ⟨[(0, ((d : Nat) : Int))], [], 1, 100, 0, 1, Or.inl rfl, rfl, by decide +kernel, rfl, by decide, by decide +kernel, by decide +kernel, ?_⟩⟩ (nr (by decide))
  refine c_kindOf hO d1 ?_
  refine zGo_step (rt := K) (i := .istore 6) (n := 2) X (by decide +kernel) ⟨rfl, by decide, ((d / 256 : Nat) : Int), [], rfl, ?_⟩ (nr (by decide))
  refine zGo_step (rt := K) (i := .iload_n 3) (n := 1) X (by decide +kernel) ⟨rfl, w, rfl, ?_⟩ (nr (by decide))
  refine zGo_step (rt := K) (i := .ifCond .ne 6) (n := 3) X (by decide +kernel) ⟨rfl, w, [], 77, rfl, rfl, fun q => ?_, fun q => ?_⟩ (nr (by decide))
  rotate_left 1
  · have q' : ¬ w ≠ 0 := q
    rw [if_pos (Classical.not_not.mp q')] at hK
    refine zGo_step (rt := K) (i := .iload 6) (n := 2) X (by decide +kernel) ⟨rfl, ((d / 256 : Nat) : Int), rfl, ?_⟩ (nr (by decide))
    exact zx_goret X hlocks rfl (by decide +kernel) hK
  have q5 : w ≠ 0 := q
  clear q
  rw [if_neg q5] at hK
  refine zGo_step (rt := K) (i := .iload_n 3) (n := 1) X (by decide +kernel) ⟨rfl, w, rfl, ?_⟩ (nr (by decide))
  refine zGo_step (rt := K) (i := .iconst 1) (n := 1) X (by decide +kernel) ⟨rfl, by decide, ?_⟩ (nr (by decide))
  refine zGo_step (rt := K) (i := .if_icmp .ne 9) (n := 3) X (by decide +kernel) ⟨rfl, w, 1, [], 88, rfl, rfl, fun q => ?_, fun q => ?_⟩ (nr (by decide))
  rotate_left 1
  · have q' : ¬ w ≠ 1 := q
    rw [if_pos (Classical.not_not.mp q')] at hK
    refine zGo_step (rt := K) (i := .iload 5) (n := 2) X (by decide +kernel) ⟨rfl, ((d : Nat) : Int), rfl, ?_⟩ (nr (by decide))
    refine zGo_step (rt := K) (i := .invokestatic 249) (n := 3) X (by decide +kernel) ⟨rfl, Or.inl ⟨[(0, ((d : Nat) : Int))], [], 1, 101, 0, 1, Or.inl rfl, rfl, by decide +kernel, rfl, by decide, by decide +kernel, by decide +kernel, ?_⟩⟩ (nr (by decide))
    refine c_firstOf hO d1 ?_
    exact zx_goret X hlocks rfl (by decide +kernel) hK
  have q6 : w ≠ 1 := q
  clear q
  rw [if_neg q6] at hK
  unfold zw2 at hK
  refine zGo_step (rt := K) (i := .iload 6) (n := 2) X (by decide +kernel) ⟨rfl, ((d / 256 : Nat) : Int), rfl, ?_⟩ (nr (by decide))
  refine zGo_step (rt := K) (i := .iconst 1) (n := 1) X (by decide +kernel) ⟨rfl, by decide, ?_⟩ (nr (by decide))
  have t3 : 256 ≤ d → d < 768 → zGo p e (zRmX F_ToldNet_word) s m (([(2, x), (0, t), (0, ((j : Nat) : Int)), (0, w)] : List zV).map (zWv O)).toArray below meth c (zXQ O K KX below (([(2, x), (0, t), (0, ((j : Nat) : Int)), (0, w)] : List zV).map (zWv O)).toArray s) O F_ToldNet_word.2.2.1 100 [] (zSt1 (zSt1 (zSt1 (zArgs 0 [(2, x), (0, t), (0, ((j : Nat) : Int)), (0, w)]) 4 (2, ((y : Nat) : Int))) 5 (0, ((d : Nat) : Int))) 6 (0, ((d / 256 : Nat) : Int))) M' := fun a b => by
    rw [if_pos ⟨a, b⟩] at hK
    refine zGo_step (rt := K) (i := .iload 5) (n := 2) X (by decide +kernel) ⟨rfl, ((d : Nat) : Int), rfl, ?_⟩ (nr (by decide))
    refine zGo_step (rt := K) (i := .invokestatic 252) (n := 3) X (by decide +kernel) ⟨rfl, Or.inl ⟨[(0, ((d : Nat) : Int))], [], 1, 102, 0, 1, Or.inl rfl, rfl, by decide +kernel, rfl, by decide, by decide +kernel, by decide +kernel, ?_⟩⟩ (nr (by decide))
    refine c_secondOf hO d1 ?_
    refine zGo_step (rt := K) (i := .goto 4) (n := 3) X (by decide +kernel) ⟨rfl, 109, rfl, ?_⟩ (nr (by decide))
    exact zx_goret X hlocks rfl (by decide +kernel) hK
  refine zGo_step (rt := K) (i := .if_icmp .eq 9) (n := 3) X (by decide +kernel) ⟨rfl, ((d / 256 : Nat) : Int), 1, [], 100, rfl, rfl, fun q => ?_, fun q => ?_⟩ (nr (by decide))
  · have q' : ((d / 256 : Nat) : Int) = 1 := q
    exact t3 (by omega) (by omega)
  have q7 : ¬ ((d / 256 : Nat) : Int) = 1 := q
  clear q
  refine zGo_step (rt := K) (i := .iload 6) (n := 2) X (by decide +kernel) ⟨rfl, ((d / 256 : Nat) : Int), rfl, ?_⟩ (nr (by decide))
  refine zGo_step (rt := K) (i := .iconst 2) (n := 1) X (by decide +kernel) ⟨rfl, by decide, ?_⟩ (nr (by decide))
  refine zGo_step (rt := K) (i := .if_icmp .ne 11) (n := 3) X (by decide +kernel) ⟨rfl, ((d / 256 : Nat) : Int), 2, [], 108, rfl, rfl, fun q => ?_, fun q => ?_⟩ (nr (by decide))
  · have q' : ((d / 256 : Nat) : Int) ≠ 2 := q
    rw [if_neg (show ¬ (256 ≤ d ∧ d < 768) by omega)] at hK
    refine zGo_step (rt := K) (i := .iconst (-1)) (n := 1) X (by decide +kernel) ⟨rfl, by decide, ?_⟩ (nr (by decide))
    exact zx_goret X hlocks rfl (by decide +kernel) hK
  · have q' : ¬ ((d / 256 : Nat) : Int) ≠ 2 := q
    exact t3 (by omega) (by omega)
end
section
-- part l1.xret.lean.txt
/-! ===== except of the class: all its roads ===== -/
set_option maxHeartbeats 1600000 in
/-- except, of a telling -/
theorem zx_except2 {O : zOm} (hO : zWld O) (hl : (zLn O).stackTraces = false) {x t k w : Int} {y n : Nat} {A : zTl} {M : zMem} {K : Option zV → zMem → Prop} {KX : String → zMem → Prop} (hob : zxObj (zS O) x 0 = true) (hfind : zR O F_ToldNet_find [(2, x), (0, t)] M (fun v M' => v = some (2, ((y : Nat) : Int)) ∧ M' = M)) (hy : zTeC (zS O) y) (hA : zTR M y n A) (hw : zTw n A) (hn2 : n ≤ 16) (hk32 : zin32 k)
    (h1 : zpk (tX A) k 256 = -1 → KX "java/util/NoSuchElementException" M) (h2 : zpk (tX A) k 256 ≠ -1 → ¬ (0 ≤ w ∧ w ≤ 3) → KX "java/lang/IllegalArgumentException" M)
    (h3 : ∀ d : Nat, zpk (tX A) k 256 = ((d : Nat) : Int) → d < 256 → tX A d = true → 0 ≤ w → w ≤ 3 → K (some (0, if w = 0 then ((d / 16 : Nat) : Int) else if w = 1 then ((d % 16 : Nat) : Int) else if w = 2 then zbI (tS n A (d / 16) (d % 16)) else zbI (decide (tv A (d / 16) (d % 16) = 2)))) M) : zRX O F_ToldNet_except [(2, x), (0, t), (0, k), (0, w)] M K KX := by
  have hy0 := hy
  obtain ⟨⟨o, x0, x1, x2, x3, x4, x5, x6⟩, ⟨xa, xb⟩, hpr, ⟨n7, n9, n11⟩⟩ := hy
  have n7o := n7.2.2.2
  have n9o := n9.2.2.2
  refine zRX.of hO.ok (pf := zpfF zpf_ToldNet) (pm := zpmF zpm_ToldNet) (pk := zpkF zpk_ToldNet) (by rw [hO.1]; exact zEvOk_ToldNet _) rfl rfl (Nat.le_of_ble_eq_true rfl) (fun p e s m below meth c X hT hlocks hno => ?_)
  have nr : ∀ {i : Instr} {P : Prop}, (i ≠ .ireturn ∧ i ≠ .lreturn ∧ i ≠ .areturn ∧ i ≠ .return_) → (i = .ireturn ∨ i = .lreturn ∨ i = .areturn ∨ i = .return_ → P) := fun h q => (q.elim h.1 (fun q => q.elim h.2.1 (fun q => q.elim h.2.2.1 h.2.2.2))).elim
  refine zGo_step (rt := K) (i := .aload_n 0) (n := 1) X (by decide +kernel) ⟨rfl, x, rfl, ?_⟩ (nr (by decide))
  refine zGo_step (rt := K) (i := .iload_n 1) (n := 1) X (by decide +kernel) ⟨rfl, t, rfl, ?_⟩ (nr (by decide))
  refine zGo_step (rt := K) (i := .invokevirtual 202) (n := 3) X (by decide +kernel) ⟨rfl, x, [(0, t)], [], 50, 0, 1, rfl, by decide +kernel, rfl, zxObj_ok hob, by decide, by decide +kernel, by decide +kernel, ?_⟩ (nr (by decide))
  refine hfind.mono (fun v M' hv => ?_)
  obtain ⟨rfl, rfl⟩ := hv
  refine zGo_step (rt := K) (i := .astore 4) (n := 2) X (by decide +kernel) ⟨rfl, by decide, ((y : Nat) : Int), [], rfl, ?_⟩ (nr (by decide))
  refine zGo_step (rt := K) (i := .aload 4) (n := 2) X (by decide +kernel) ⟨rfl, ((y : Nat) : Int), rfl, ?_⟩ (nr (by decide))
  refine zGo_step (rt := K) (i := .ifnonnull 7) (n := 3) X (by decide +kernel) ⟨rfl, ((y : Nat) : Int), [], 16, rfl, rfl, fun _ => ?_, fun q => absurd q (by omega)⟩ (nr (by decide))
  refine zGo_step (rt := K) (i := .aload 4) (n := 2) X (by decide +kernel) ⟨rfl, ((y : Nat) : Int), rfl, ?_⟩ (nr (by decide))
  refine zGo_step (rt := K) (i := .getfield 255) (n := 3) X (by decide +kernel) ⟨rfl, ((y : Nat) : Int), [], 4, 4, rfl, by decide +kernel, Or.inr ⟨some (y + 9), x4, ?_⟩⟩ (nr (by decide))
  refine zGo_step (rt := K) (i := .iload_n 2) (n := 1) X (by decide +kernel) ⟨rfl, k, rfl, ?_⟩ (nr (by decide))
  refine zGo_step (rt := K) (i := .invokevirtual 258) (n := 3) X (by decide +kernel) ⟨rfl, ((y + 9 : Nat) : Int), [(0, k)], [], 72, 2, 1, rfl, by decide +kernel, rfl, n9o, by decide, by decide +kernel, by decide +kernel, ?_⟩ (nr (by decide))
  refine zTR.pairAt hO hy0 hA hn2 hw hk32 ?_
  obtain ⟨z, hz⟩ : ∃ z, z = zpk (tX A) k 256 := ⟨_, rfl⟩
  have hzc := zpk_cases (tX A) k 256
  rw [← hz] at h1 h2 h3 hzc ⊢
  refine zGo_step (rt := K) (i := .istore 5) (n := 2) X (by decide +kernel) ⟨rfl, by decide, z, [], rfl, ?_⟩ (nr (by decide))
  refine zGo_step (rt := K) (i := .aload 4) (n := 2) X (by decide +kernel) ⟨rfl, ((y : Nat) : Int), rfl, ?_⟩ (nr (by decide))
  refine zGo_step (rt := K) (i := .ifnull 9) (n := 3) X (by decide +kernel) ⟨rfl, ((y : Nat) : Int), [], 38, rfl, rfl, fun q => absurd q (by omega), fun _ => ?_⟩ (nr (by decide))
  refine zGo_step (rt := K) (i := .iload 5) (n := 2) X (by decide +kernel) ⟨rfl, z, rfl, ?_⟩ (nr (by decide))
  refine zGo_step (rt := K) (i := .iconst (-1)) (n := 1) X (by decide +kernel) ⟨rfl, by decide, ?_⟩ (nr (by decide))
  refine zGo_step (rt := K) (i := .if_icmp .ne 14) (n := 3) X (by decide +kernel) ⟨rfl, z, -1, [], 49, rfl, rfl, fun q => ?_, fun q => ?_⟩ (nr (by decide))
  rotate_left 1
  · have q' : ¬ z ≠ -1 := q
    exact zx_go1 X hl hT hlocks hno (by decide) (by decide) (h1 (Classical.not_not.mp q')) (by decide +kernel) (by decide +kernel) (Or.inr ⟨by decide +kernel, by decide +kernel, by decide +kernel⟩)
  have q1 : z ≠ -1 := q
  clear q
  have t2 : ¬ (0 ≤ w ∧ w ≤ 3) → ∀ lv, zGo p e (zRmX F_ToldNet_except) s m (([(2, x), (0, t), (0, k), (0, w)] : List zV).map (zWv O)).toArray below meth c (zXQ O K KX below (([(2, x), (0, t), (0, k), (0, w)] : List zV).map (zWv O)).toArray s) O F_ToldNet_except.2.2.1 58 [] lv M' := fun h lv => zx_go2 X hl hT hlocks hno (by decide) (by decide) (h2 q1 h) (by decide +kernel) (by decide +kernel) (by decide +kernel) (by decide +kernel) (by decide +kernel)
  refine zGo_step (rt := K) (i := .iload_n 3) (n := 1) X (by decide +kernel) ⟨rfl, w, rfl, ?_⟩ (nr (by decide))
  refine zGo_step (rt := K) (i := .ifCond .lt 8) (n := 3) X (by decide +kernel) ⟨rfl, w, [], 58, rfl, rfl, fun q => ?_, fun q => ?_⟩ (nr (by decide))
  · have q' : w < 0 := q
    exact t2 (by omega) _
  have q3 : ¬ w < 0 := q
  clear q
  refine zGo_step (rt := K) (i := .iload_n 3) (n := 1) X (by decide +kernel) ⟨rfl, w, rfl, ?_⟩ (nr (by decide))
  refine zGo_step (rt := K) (i := .iconst 3) (n := 1) X (by decide +kernel) ⟨rfl, by decide, ?_⟩ (nr (by decide))
  refine zGo_step (rt := K) (i := .if_icmp .le 13) (n := 3) X (by decide +kernel) ⟨rfl, w, 3, [], 68, rfl, rfl, fun q => ?_, fun q => ?_⟩ (nr (by decide))
  rotate_left 1
  · have q' : ¬ w ≤ 3 := q
    exact t2 (by omega) _
  have q4 : w ≤ 3 := q
  clear q t2 h1 h2
  obtain ⟨d, d1, d2, d3⟩ : ∃ d : Nat, z = ((d : Nat) : Int) ∧ d < 256 ∧ tX A d = true := by
    rcases hzc with ⟨d, e1, e2, e3, -⟩ | ⟨e1, -⟩
    · exact ⟨d, e1, e2, e3⟩
    · exact absurd e1 q1
  have hK := h3 d d1 d2 d3 (by omega) q4
  clear h3 hzc
  obtain ⟨c4, c5, -⟩ := tX_in hn2 hw d3
  rw [d1]
  refine zGo_step (rt := K) (i := .iload 5) (n := 2) X (by decide +kernel) ⟨rfl, ((d : Nat) : Int), rfl, ?_⟩ (nr (by decide))
  refine zGo_step (rt := K) (i := .invokestatic 263) (n := 3) X (by decide +kernel) ⟨rfl, Or.inl ⟨[(0, ((d : Nat) : Int))], [], 1, 74, 0, 1, Or.inl rfl, rfl, by decide +kernel, rfl, by decide, by decide +kernel, by decide +kernel, ?_⟩⟩ (nr (by decide))
  refine s_Net_lesserOf hO (by omega) ?_
  refine zGo_step (rt := K) (i := .istore 6) (n := 2) X (by decide +kernel) ⟨rfl, by decide, ((d / 16 : Nat) : Int), [], rfl, ?_⟩ (nr (by decide))
  refine zGo_step (rt := K) (i := .iload 5) (n := 2) X (by decide +kernel) ⟨rfl, ((d : Nat) : Int), rfl, ?_⟩ (nr (by decide))
  refine zGo_step (rt := K) (i := .invokestatic 266) (n := 3) X (by decide +kernel) ⟨rfl, Or.inl ⟨[(0, ((d : Nat) : Int))], [], 1, 75, 0, 1, Or.inl rfl, rfl, by decide +kernel, rfl, by decide, by decide +kernel, by decide +kernel, ?_⟩⟩ (nr (by decide))
  refine s_Net_otherOf hO ?_
  refine zGo_step (rt := K) (i := .istore 7) (n := 2) X (by decide +kernel) ⟨rfl, by decide, ((d % 16 : Nat) : Int), [], rfl, ?_⟩ (nr (by decide))
  refine zGo_step (rt := K) (i := .iload_n 3) (n := 1) X (by decide +kernel) ⟨rfl, w, rfl, ?_⟩ (nr (by decide))
  refine zGo_step (rt := K) (i := .ifCond .ne 6) (n := 3) X (by decide +kernel) ⟨rfl, w, [], 89, rfl, rfl, fun q => ?_, fun q => ?_⟩ (nr (by decide))
  rotate_left 1
  · have q' : ¬ w ≠ 0 := q
    rw [if_pos (Classical.not_not.mp q')] at hK
    refine zGo_step (rt := K) (i := .iload 6) (n := 2) X (by decide +kernel) ⟨rfl, ((d / 16 : Nat) : Int), rfl, ?_⟩ (nr (by decide))
    exact zx_goret X hlocks rfl (by decide +kernel) hK
  have q5 : w ≠ 0 := q
  clear q
  rw [if_neg q5] at hK
  refine zGo_step (rt := K) (i := .iload_n 3) (n := 1) X (by decide +kernel) ⟨rfl, w, rfl, ?_⟩ (nr (by decide))
  refine zGo_step (rt := K) (i := .iconst 1) (n := 1) X (by decide +kernel) ⟨rfl, by decide, ?_⟩ (nr (by decide))
  refine zGo_step (rt := K) (i := .if_icmp .ne 6) (n := 3) X (by decide +kernel) ⟨rfl, w, 1, [], 97, rfl, rfl, fun q => ?_, fun q => ?_⟩ (nr (by decide))
  rotate_left 1
  · have q' : ¬ w ≠ 1 := q
    rw [if_pos (Classical.not_not.mp q')] at hK
    refine zGo_step (rt := K) (i := .iload 7) (n := 2) X (by decide +kernel) ⟨rfl, ((d % 16 : Nat) : Int), rfl, ?_⟩ (nr (by decide))
    exact zx_goret X hlocks rfl (by decide +kernel) hK
  have q6 : w ≠ 1 := q
  clear q
  rw [if_neg q6] at hK
  refine zGo_step (rt := K) (i := .iload_n 3) (n := 1) X (by decide +kernel) ⟨rfl, w, rfl, ?_⟩ (nr (by decide))
  refine zGo_step (rt := K) (i := .iconst 2) (n := 1) X (by decide +kernel) ⟨rfl, by decide, ?_⟩ (nr (by decide))
  refine zGo_step (rt := K) (i := .if_icmp .ne 24) (n := 3) X (by decide +kernel) ⟨rfl, w, 2, [], 123, rfl, rfl, fun q => ?_, fun q => ?_⟩ (nr (by decide))
  · have q' : w ≠ 2 := q
    rw [if_neg q'] at hK
    refine zGo_step (rt := K) (i := .aload 4) (n := 2) X (by decide +kernel) ⟨rfl, ((y : Nat) : Int), rfl, ?_⟩ (nr (by decide))
    refine zGo_step (rt := K) (i := .iload 5) (n := 2) X (by decide +kernel) ⟨rfl, ((d : Nat) : Int), rfl, ?_⟩ (nr (by decide))
    refine zGo_step (rt := K) (i := .invokevirtual 272) (n := 3) X (by decide +kernel) ⟨rfl, ((y : Nat) : Int), [(0, ((d : Nat) : Int))], [], 110, 4, 1, rfl, by decide +kernel, rfl, o, by decide, by decide +kernel, by decide +kernel, ?_⟩ (nr (by decide))
    refine c_isLeft hO hy0 hA c4 d2 ?_
    generalize decide (tv A (d / 16) (d % 16) = 2) = b at hK ⊢
    refine zGo_step (rt := K) (i := .ifCond .eq 7) (n := 3) X (by decide +kernel) ⟨rfl, zbI b, [], 137, rfl, rfl, fun q => ?_, fun q => ?_⟩ (nr (by decide))
    · have q9 : zbI b = 0 := q
      rw [q9] at hK
      refine zGo_step (rt := K) (i := .iconst 0) (n := 1) X (by decide +kernel) ⟨rfl, by decide, ?_⟩ (nr (by decide))
      exact zx_goret X hlocks rfl (by decide +kernel) hK
    · have q9 : ¬ zbI b = 0 := q
      rw [(zbI_01 b).resolve_left q9] at hK
      refine zGo_step (rt := K) (i := .iconst 1) (n := 1) X (by decide +kernel) ⟨rfl, by decide, ?_⟩ (nr (by decide))
      refine zGo_step (rt := K) (i := .goto 4) (n := 3) X (by decide +kernel) ⟨rfl, 138, rfl, ?_⟩ (nr (by decide))
      exact zx_goret X hlocks rfl (by decide +kernel) hK
  · have q' : ¬ w ≠ 2 := q
    rw [if_pos (Classical.not_not.mp q')] at hK
    refine zGo_step (rt := K) (i := .aload 4) (n := 2) X (by decide +kernel) ⟨rfl, ((y : Nat) : Int), rfl, ?_⟩ (nr (by decide))
    refine zGo_step (rt := K) (i := .getfield 269) (n := 3) X (by decide +kernel) ⟨rfl, ((y : Nat) : Int), [], 4, 3, rfl, by decide +kernel, Or.inr ⟨some (y + 7), x3, ?_⟩⟩ (nr (by decide))
    refine zGo_step (rt := K) (i := .iload 6) (n := 2) X (by decide +kernel) ⟨rfl, ((d / 16 : Nat) : Int), rfl, ?_⟩ (nr (by decide))
    refine zGo_step (rt := K) (i := .iload 7) (n := 2) X (by decide +kernel) ⟨rfl, ((d % 16 : Nat) : Int), rfl, ?_⟩ (nr (by decide))
    refine zGo_step (rt := K) (i := .invokevirtual 121) (n := 3) X (by decide +kernel) ⟨rfl, ((y + 7 : Nat) : Int), [(0, ((d / 16 : Nat) : Int)), (0, ((d % 16 : Nat) : Int))], [], 66, 2, 2, rfl, by decide +kernel, rfl, n7o, by decide, by decide +kernel, by decide +kernel, ?_⟩ (nr (by decide))
    refine s_joins hO n7 hA.2.2.2.1 (show d / 16 < 16 by omega) (show d % 16 < 16 by omega) ?_
    generalize tS n A (d / 16) (d % 16) = b at hK ⊢
    refine zGo_step (rt := K) (i := .ifCond .eq 7) (n := 3) X (by decide +kernel) ⟨rfl, zbI b, [], 121, rfl, rfl, fun q => ?_, fun q => ?_⟩ (nr (by decide))
    · have q9 : zbI b = 0 := q
      rw [q9] at hK
      refine zGo_step (rt := K) (i := .iconst 0) (n := 1) X (by decide +kernel) ⟨rfl, by decide, ?_⟩ (nr (by decide))
      exact zx_goret X hlocks rfl (by decide +kernel) hK
    · have q9 : ¬ zbI b = 0 := q
      rw [(zbI_01 b).resolve_left q9] at hK
      refine zGo_step (rt := K) (i := .iconst 1) (n := 1) X (by decide +kernel) ⟨rfl, by decide, ?_⟩ (nr (by decide))
      refine zGo_step (rt := K) (i := .goto 4) (n := 3) X (by decide +kernel) ⟨rfl, 122, rfl, ?_⟩ (nr (by decide))
      exact zx_goret X hlocks rfl (by decide +kernel) hK
end
section
-- part l2.lword.lean.txt
/-! ===== the law's word and except: all their roads ===== -/
def zNc (U : State) : Prop := va_Nc "java/lang/IllegalArgumentException" "java/util/NoSuchElementException" U
def zPcM (O : zOm) (M : zMem) (sz : Nat) (as : List zV) : Array Value → State → Prop := va_Pc (as.map (zWv O)) (fun U => U.heap.size = sz ∧ va_P (zD O) (zcl O) (zWorld O M) U.heap ∧ va_K (zD O) (zcl O) (zTys O) U ∧ zNw U ∧ zThr (zA O sz) U U.heap ∧ zCat U ∧ zNc U)
theorem zPcM_blind (O : zOm) (M : zMem) (sz : Nat) (as : List zV) : FrameBlind (zPcM O M sz as) := by
  intro a U g mk h
  obtain ⟨h1, h2, h3, h4, h5, h6, h7, h8⟩ := h
  exact ⟨h1, h2, h3, va_K.moved (Vm.Alike.refl _) h4, fun q hq => va_Nw.same rfl rfl (h5 q hq), h6.same (U := U) rfl, h7.same (s := U) rfl, va_Nc.moved (Vm.Alike.refl _) h8⟩
def zLM2 (O : zOm) (f : zLf) (as : List zV) (M : zMem) (K : Option zV → zMem → Prop) : Prop := (∀ v ∈ as, zok v) → zMok (zS O) M → ∀ sz, zB O + (zS O).length ≤ sz → vx_Met (zLn O) f.1 (zLWs f) zLRm (zPcM O M sz as) (zQ O K sz) (fun _ _ _ => False) 1 6 (zA O sz)
theorem zl_c15 : Jvm.Cond.classLink "ToldNetLaw" 15 "java/lang/IllegalArgumentException" ∈ zWS := zInW_mem (pl := 1576) (by decide +kernel)
def zLfOk2 (f : zLf) : Bool := decide (decode f.2.1 10 = .ok (.i2l, 1)) && (decide (decode f.2.1 11 = .ok (.lastore, 1)) && (decide (decode f.2.1 12 = .ok (.goto 11, 3)) && (decide (decode f.2.1 19 = .ok (.astore 5, 2)) && (decide (decode f.2.1 21 = .ok (.iconst 2, 1)) && (decide (decode f.2.1 22 = .ok (.ireturn, 1)) && (decide (decode f.2.1 23 = .ok (.iconst 0, 1)) && decide (decode f.2.1 24 = .ok (.ireturn, 1))))))))
theorem zLw_ok2 : zLfOk2 zLw = true := by decide +kernel
theorem zLe_ok2 : zLfOk2 zLe = true := by decide +kernel
set_option maxHeartbeats 1000000 in
theorem zlW2 {O : zOm} (hO : zWld O) {f : zLf} (hlk : zLkOk f) (hlk2 : zLfOk2 f = true) {x p0 p1 p2 out : Int} {M : zMem} {K : Option zV → zMem → Prop} (hx0 : 0 ≤ x) (ho0 : 0 ≤ out) (hoa : zArr (zS O) out .long 1) (hob : zxObj (zS O) x 0 = true)
    (hw : zRX O (zFn f.2.2.2) [(2, x), (0, p0), (0, p1), (0, p2)] M (fun v M1 => ∃ r, v = some (0, r) ∧ K (some (0, 0)) (zput M1 out (zup (M1 out) 0 r))) (fun E M1 => E = "java/util/NoSuchElementException" ∧ K (some (0, 1)) M1 ∨ E = "java/lang/IllegalArgumentException" ∧ K (some (0, 2)) M1)) : zLM2 O f [(2, x), (0, p0), (0, p1), (0, p2), (2, out)] M K := by
  obtain ⟨k1, k2, k3, k4, k5, k6, k7, k8, k9, k10, k11, k12, k13⟩ := hlk
  unfold zLfOk2 at hlk2
  simp only [Bool.and_eq_true, decide_eq_true_eq] at hlk2
  obtain ⟨d10, d11, d12, d19, d21, d22, d23, d24⟩ := hlk2
  intro has hM sz hsz
  unfold zLfOk at k2
  simp only [Bool.and_eq_true, decide_eq_true_eq] at k2
  obtain ⟨d0, d2, d3, d4, d5, d6, d7, d15, d17, d18⟩ := k2
  refine vx_ofWH (cc := f.2.1) (maxL := 6) (ret := some .int) (hh := zlHh) k3 rfl ?_
  intro p e s m args below meth c s₁ B hml hv
  obtain ⟨rfl, rfl, hP, hK, hN, hT, hC, hD⟩ := hv
  have hx := B.exec
  have hb := B.bytes
  have hlocks := B.notSynchronized
  have htsA : ∀ w ∈ zLWs f, w.before (([(2, x), (0, p0), (0, p1), (0, p2), (2, out)] : List zV).map (zWv O)).toArray s = true := atoms_spec (ws := zLWs f) B.pre
  have hts : ∀ w ∈ zWS, w.before (([(2, x), (0, p0), (0, p1), (0, p2), (2, out)] : List zV).map (zWv O)).toArray s = true := fun w hw => htsA w (List.mem_cons_of_mem _ hw)
  have htab := vx_table (x := f.1) B (htsA _ List.mem_cons_self)
  have hown : s.vm.findClass "ToldNetLaw" = some m.cls := by rw [← k4]; exact findClass_of_methodNamed B.named
  have hl := lv_entry (([(2, x), (0, p0), (0, p1), (0, p2), (2, out)] : List zV).map (zWv O)) (n := 6) (by rw [zlg]; exact Nat.le_of_ble_eq_true rfl)
  rw [zlvargs] at hl
  rw [lg_entry_eq]
  generalize (lg_sl (([(2, x), (0, p0), (0, p1), (0, p2), (2, out)] : List zV).map (zWv O)) ++ List.replicate (6 - (lg_sl (([(2, x), (0, p0), (0, p1), (0, p2), (2, out)] : List zV).map (zWv O))).length) Slot.unset).toArray = ls at hl ⊢
  have hl : lv_has ls 6 [(0, .ref (zB O + x.toNat)), (1, .int (zi p0)), (2, .int (zi p1)), (3, .int (zi p2)), (4, .ref (zB O + out.toNat))] := by
    have e1 := zWv_nn O hx0
    have e2 := zWv_nn O ho0
    have : (zArgs 0 ([(2, x), (0, p0), (0, p1), (0, p2), (2, out)] : List zV)).map (fun q => (q.1, zWv O q.2)) = [(0, .ref (zB O + x.toNat)), (1, .int (zi p0)), (2, .int (zi p1)), (3, .int (zi p2)), (4, .ref (zB O + out.toNat))] := by
      show [(0, zWv O (2, x)), (1, zWv O (0, p0)), (2, zWv O (0, p1)), (3, zWv O (0, p2)), (4, zWv O (2, out))] = _
      rw [e1, e2]
      rfl
    rw [← this]
    exact hl
  refine lv_aload hx hb d0 (lv_at hl 4 rfl) ?_
  refine lv_iconst (v := 0) hx hb d2 rfl ?_
  refine lv_aload_n (k := 0) (i := 0) hx hb d3 rfl (lv_at hl 0 rfl) ?_
  refine lv_iload_n (k := 1) (i := 1) hx hb d4 rfl (lv_at hl 1 rfl) ?_
  refine lv_iload_n (k := 2) (i := 2) hx hb d5 rfl (lv_at hl 2 rfl) ?_
  refine lv_iload_n (k := 3) (i := 3) hx hb d6 rfl (lv_at hl 3 rfl) ?_
  have has2 : ∀ v ∈ ([(2, x), (0, p0), (0, p1), (0, p2)] : List zV), zok v := fun v hv => has v (by
    simp only [List.mem_cons, List.not_mem_nil, or_false] at hv ⊢
    rcases hv with h | h | h | h
    · exact Or.inl h
    · exact Or.inr (Or.inl h)
    · exact Or.inr (Or.inr (Or.inl h))
    · exact Or.inr (Or.inr (Or.inr (Or.inl h))))
  have hMet := hw has2 hM s.heap.size hsz
  have hcode : Jvm.Cond.code (zFn f.2.2.2).1 (zFn f.2.2.2).2.1 (zFn f.2.2.2).2.2.1 (zFn f.2.2.2).2.2.2.1 ∈ zWS := by
    refine zFnL_ok _ ?_
    unfold zFn
    rw [List.getD_eq_getElem?_getD, List.getElem?_eq_getElem k5]
    exact List.getElem_mem k5
  generalize zFn f.2.2.2 = g at k6 k7 k8 k9 k10 k11 k12 k13 hMet hcode
  have hG : GoodIn zWS (wsV "ToldNetLaw" f.2.2.1 g.1.cls g.1 (zWs g)) := by
    intro w hw
    have hw' : w ∈ zWS := by
      rcases List.mem_append.mp hw with h1 | h1
      · simp only [List.mem_cons, List.not_mem_nil, or_false] at h1
        rcases h1 with rfl | rfl | rfl | rfl
        · exact k8
        · exact k9
        · exact k10
        · exact k11
      · exact (zGood g hcode w h1).1
    exact ⟨hw', good_of_word (List.mem_filter.mp hw').2⟩
  have cw := cwV (R := zLRm) (rm := zRmX g) (mc := 1) (ms := 6) (ws' := zWS) 3 hts hG rfl rfl rfl ⟨rfl, by rw [k6]; decide, by rw [k6]; decide, k7⟩ ⟨k12, k13⟩
  obtain ⟨-, fks, hs⟩ := zxObj_ok hob
  obtain ⟨rC, hrC, cell, q1, q2, q3, q4⟩ := hP _ _ (zWorld_at (M := M) hs)
  have hrC : (zcl O)[0]? = some rC := hrC
  rw [hO.1] at hrC
  cases hrC
  have hcls : s.vm.findClass g.1.cls = some cell.cls := by rw [q2, k6]; exact (hK.1 0 _ (by rw [hO.1]; rfl)).2.1
  have hPV : PreV s s.heap g.1.cls (zB O + x.toNat) (zPcX O M s.heap.size [(2, x), (0, p0), (0, p1), (0, p2)]) [.int (zi p0), .int (zi p1), .int (zi p2)] := by
    refine ⟨zPcX_blind _ _ _ _, ⟨cell, q1, by rw [q3]; rfl, hcls⟩, fun U hU hW => ⟨?_, by rw [hU], by rw [hU]; exact hP, va_K.moved hW.alike hK, fun q hq => va_Nw.warmM hW (hN q hq), by rw [hU]; exact hT.to hW (fun _ _ _ => rfl) (fun _ z => z)⟩⟩
    show _ = (([(2, x), (0, p0), (0, p1), (0, p2)] : List zV).map (zWv O)).toArray
    rw [List.map_cons, zWv_nn O hx0]
    rfl
  have hr := vx_runV (As := [.int (zi p0), .int (zi p1), .int (zi p2)]) (rest := [.int 0, .ref (zB O + out.toNat)]) (locs := []) (cells := 0) (slots := 0) (nL := 6) (g := F0 m 7 ls [.int (zi p2), .int (zi p1), .int (zi p0), .ref (zB O + x.toNat), .int 0, .ref (zB O + out.toNat)]) (p := p) (e := e) (below := below) (meth := meth) ⟨hx, hb, hml, hown, hts⟩ hMet cw hPV rfl rfl hl.1 rfl (lv_room (Nat.le_of_ble_eq_true rfl)) d7 ⟨Nat.le_refl _, Nat.le_refl _⟩
  have goal3 : ∀ (T' : State) (L : List Loc) (x' : Int) (u : zMem), zin32 x' → zMok (zS O) u → K (some (0, 0)) (zput u out (zup (u out) 0 x')) → va_P (zD O) (zcl O) (zWorld O u) T'.heap → va_S (zA O s.heap.size) s.heap T'.heap L →
      W p (zLn O) e zLRm s m (([(2, x), (0, p0), (0, p1), (0, p2), (2, out)] : List zV).map (zWv O)).toArray below meth c T'.heap L (0 + 1) (0 + 6) (vx_MQ below (zQ O K s.heap.size) (fun _ _ _ => False) (([(2, x), (0, p0), (0, p1), (0, p2), (2, out)] : List zV).map (zWv O)).toArray s 1 6 (zA O s.heap.size)) (F0 m 10 ls [.int (zi x'), .int 0, .ref (zB O + out.toNat)]) := by
    intro T' L x' u hx' hMu hKK hPu hS'
    obtain ⟨-, rs, hs⟩ := hoa
    obtain ⟨t0, ht0⟩ := zTy_at O (ty := .long) (by decide)
    have ha : ((out.toNat : Nat) : Int) = out := by omega
    have hj1 : zin32 0 := by unfold zin32; omega
    refine lv_i2l (v := zl x') hx hb d10 (zi_64 hx') ?_
    refine va_last (i := zi 0) hx hb hK hPu (zWorld_D O u _) hS' out.toNat t0 (zWorld_at (M := u) hs) ht0 (zi_vin (Int.le_refl 0) (by decide) hj1) d11 (fun H1 locs1 hP1 hD1 hS1 => ?_)
    have hw2 := zWorld_set (O := O) (M := u) hs (zup (u out) 0 x') (e := .inl (zcA O .long, 1, .inr (.inl (vp_updL (fun i : Nat => zl (u (out.toNat : Nat) i)) (zi 0).toNatClampNeg (zl x'))))) (by rw [zi_cl hj1, ha, ← zupd_l (Int.le_refl 0)]; rfl)
    rw [ha] at hw2 hP1
    rw [hw2] at hP1
    have hM1 : zMok (zS O) (zput u out (zup (u out) 0 x')) := by
      have h3 := hMu _ _ hs
      rw [ha] at h3
      have := zMok_put (f := zup (u out) 0 x') hMu hs (zShOk_up h3 (zin32_64 hx'))
      rw [ha] at this
      exact this
    refine lv_goto (tgt := 23) hx hb d12 (by omega) ?_
    refine lv_iconst (v := 0) hx hb d23 rfl ?_
    refine vx_ret ?_
    exact W.iret (v := 0) hx hb B.returns (fun t2 ht2 hW2 => ⟨⟨some (0, 0), _, rfl, fun v hv => by cases hv; exact ⟨by decide, by decide⟩, hM1, hKK, by rw [ht2]; exact hP1⟩, by exact hS1.F ht2⟩) hS1.2.2 d24
  intro T hTh XT
  rcases hr T hTh XT with ⟨v, st₀, t, T', L, h0, X', hL, e1, e2, ⟨⟨r, u, hv, hok, hMu, hKu, hPu⟩, hz⟩, st⟩ | ⟨q, st₀, t, T', L, E, ce, h0, X', hL, e1, e2, ⟨u, hMu, hEK, hPu, hF⟩, hce, hcv, hcl, st⟩
  · obtain ⟨x', rfl, hKK⟩ := hKu
    cases hv
    obtain ⟨hz1, hk1⟩ := hz
    rw [h0] at hz1 hk1
    have hS' : va_S (zA O s.heap.size) s.heap T'.heap ([] ++ L) := ⟨by rw [e1]; exact hz1, fun q h1 h2 => by rw [e1]; exact hk1 q h1 h2, hL⟩
    obtain ⟨t2, a1, b1⟩ := goal3 T' ([] ++ L) x' u (hok _ rfl) hMu hKK (by rw [e1]; exact hPu) hS' T' rfl X'
    exact ⟨t2, st t2 a1, b1⟩
  · rcases hEK with ⟨rfl, hKu⟩ | ⟨rfl, hKu⟩
    · have hS' : va_S (zA O s.heap.size) s.heap T'.heap L := by
        obtain ⟨f1, f2⟩ := hF
        rw [h0] at f1 f2
        exact ⟨by rw [e1]; exact f1, fun q h1 h2 => by rw [e1]; exact f2 q h1 h2, hL⟩
      have hcatch : vx_W p (zLn O) e zLRm s m (([(2, x), (0, p0), (0, p1), (0, p2), (2, out)] : List zV).map (zWv O)).toArray below meth c T'.heap ([] ++ L) (0 + 1) (0 + 6) (vx_MQ below (zQ O K s.heap.size) (fun _ _ _ => False) (([(2, x), (0, p0), (0, p1), (0, p2), (2, out)] : List zV).map (zWv O)).toArray s 1 6 (zA O s.heap.size)) (F0 m 7 ls [.int 0, .ref (zB O + out.toNat)]) q := by
        refine vx_catch (E := "java/util/NoSuchElementException") (name := "java/util/NoSuchElementException") hown [] _ _ (by rw [htab]; rfl) (fun z hz => by cases hz) (by decide) (by decide) (hts _ zl_c13) (va_Nw.use rfl hC.1) (by rw [e1]; exact hce) hcv hcl ?_
        refine lv_astore (lv' := [(5, .ref q), (0, .ref (zB O + x.toNat)), (1, .int (zi p0)), (2, .int (zi p1)), (3, .int (zi p2)), (4, .ref (zB O + out.toNat))]) hx hb d15 hl (by decide) rfl (fun ls2 hl2 => ?_)
        refine lv_iconst (v := 1) hx hb d17 rfl ?_
        refine vx_ret ?_
        exact W.iret (v := 1) hx hb B.returns (fun t2 ht2 hW2 => ⟨⟨some (0, 1), u, rfl, fun v hv => by cases hv; exact ⟨by decide, by decide⟩, hMu, hKu, by rw [ht2, e1]; exact hPu⟩, by exact hS'.F ht2⟩) hS'.2.2 d18
      obtain ⟨t2, a1, b1⟩ := hcatch T' rfl X'
      exact ⟨t2, st.trans a1, b1⟩
    · have hS' : va_S (zA O s.heap.size) s.heap T'.heap L := by
        obtain ⟨f1, f2⟩ := hF
        rw [h0] at f1 f2
        exact ⟨by rw [e1]; exact f1, fun q h1 h2 => by rw [e1]; exact f2 q h1 h2, hL⟩
      have hcatch : vx_W p (zLn O) e zLRm s m (([(2, x), (0, p0), (0, p1), (0, p2), (2, out)] : List zV).map (zWv O)).toArray below meth c T'.heap ([] ++ L) (0 + 1) (0 + 6) (vx_MQ below (zQ O K s.heap.size) (fun _ _ _ => False) (([(2, x), (0, p0), (0, p1), (0, p2), (2, out)] : List zV).map (zWv O)).toArray s 1 6 (zA O s.heap.size)) (F0 m 7 ls [.int 0, .ref (zB O + out.toNat)]) q := by
        refine vx_catch (E := "java/lang/IllegalArgumentException") (name := "java/lang/IllegalArgumentException") hown [_] _ _ (by rw [htab]; rfl) (fun z hz => by cases List.mem_singleton.mp hz; exact Or.inr ⟨by decide, "java/util/NoSuchElementException", hts _ zl_c13, hD⟩) (by decide) (by decide) (hts _ zl_c15) (va_Nw.use rfl hC.2) (by rw [e1]; exact hce) hcv hcl ?_
        refine lv_astore (lv' := [(5, .ref q), (0, .ref (zB O + x.toNat)), (1, .int (zi p0)), (2, .int (zi p1)), (3, .int (zi p2)), (4, .ref (zB O + out.toNat))]) hx hb d19 hl (by decide) rfl (fun ls2 hl2 => ?_)
        refine lv_iconst (v := 2) hx hb d21 rfl ?_
        refine vx_ret ?_
        exact W.iret (v := 2) hx hb B.returns (fun t2 ht2 hW2 => ⟨⟨some (0, 2), u, rfl, fun v hv => by cases hv; exact ⟨by decide, by decide⟩, hMu, hKu, by rw [ht2, e1]; exact hPu⟩, by exact hS'.F ht2⟩) hS'.2.2 d22
      obtain ⟨t2, a1, b1⟩ := hcatch T' rfl X'
      exact ⟨t2, st.trans a1, b1⟩
end
