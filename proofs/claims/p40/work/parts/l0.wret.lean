/-! ===== word and except of the class: all their roads ===== -/
section ZU
variable {p : Program} {e : Env} {f : zMR} {s : State} {m : MethodId} {args : Array Value} {below : List Frame} {meth : Method} {c : Code} {O : zOm} {K : Option zV → zMem → Prop} {KX : String → zMem → Prop} {pf : Nat → Option (Nat × Nat)} {pm : Nat → Option zMI} {pk : Nat → Option zV}
theorem zx_goret (X : zCx p (zRmX f) s m args meth c O (zEvOf "ToldNet" f pf pm pk)) (hlocks : meth.locks = false) {pc : Nat} {x : Int} {lv : zLv} {M : zMem} (hr : f.2.2.2.1 = some .int) (hd : decode f.2.1 pc = .ok (.ireturn, 1)) (hk : K (some (0, x)) M) :
    zGo p e (zRmX f) s m args below meth c (zXQ O K KX below args s) O f.2.2.1 pc [(0, x)] lv M := by
  obtain ⟨hx, hb, hml, hret, hown, hts, hK, hN, hfr', hlo', hszB, hSo, hCl, hF⟩ := X
  intro hst hlv hM H locs ls hP hS hl2
  exact W.widen (Nat.zero_le _) (Nat.zero_le _) (vx_ret (W.iret (v := zi x) hx hb (hret.trans hr) (fun t ht hW => ⟨⟨some (0, x), M, rfl, fun v hv => by cases hv; exact zok_hd hst, hM, hk, by rw [ht]; exact hP⟩, hS.F ht⟩) hS.2.2 hd))
theorem zx_go2 (X : zCx p (zRmX f) s m args meth c O (zEvOf "ToldNet" f pf pm pk)) (hl : (zLn O).stackTraces = false) (hT : zThr (zA O s.heap.size) s s.heap) (hlocks : meth.locks = false) (hno : ∀ x ∈ c.exceptionTable.toList, False) (hfr : 5 < f.2.2.2.2.1) (hlo : 82 ≤ f.2.2.2.2.2) {pc : Nat} {lv : zLv} {M : zMem} (hKX : KX "java/lang/IllegalArgumentException" M)
    (d0 : decode f.2.1 pc = .ok (.new 238, 3)) (d3 : decode f.2.1 (pc + 3) = .ok (.dup, 1)) (d4 : decode f.2.1 (pc + 4) = .ok (.ldc 240, 2)) (d6 : decode f.2.1 (pc + 6) = .ok (.invokespecial 242, 3)) (d9 : decode f.2.1 (pc + 9) = .ok (.athrow, 1)) :
    zGo p e (zRmX f) s m args below meth c (zXQ O K KX below args s) O f.2.2.1 pc [] lv M := by
  obtain ⟨hx, hb, hml, hret, hown, hts, hK, hN, hfr', hlo', hszB, hSo, hCl, hF⟩ := X
  have hW := hT.words hts
  intro hst hlv hM H locs ls hP hS hl2
  obtain ⟨-, ⟨a2, h2⟩, -, h4, h5, -⟩ := id hT
  exact zx_throw (A := zA O s.heap.size) (by0 := prog_19_method_2_code) (ix := 7) (Yn := "java/lang/RuntimeException") (names := ["java/lang/Exception"]) hx hb hl (by decide +kernel) (by decide +kernel) (by decide +kernel) (by decide +kernel) hown (by decide +kernel) (by decide +kernel) (by decide +kernel) (hts _ zw2_cl) (hts _ zw2_in) h2 hW.2 zw2_gd h4 h5 hS (by rw [hml]; exact hl2.1) d0 d3 d4 d6 d9 (fun x hx => (hno x hx).elim) hfr hlo (Nat.le_refl _) (Nat.le_refl _) hlocks (zx_hx hM hKX hP hS) hS.2.2 (Nat.le_refl _) (Nat.le_refl _)
end ZU
set_option maxHeartbeats 1600000 in
/-- word, of a telling -/
theorem zx_word2 {O : zOm} (hO : zWld O) (hl : (zLn O).stackTraces = false) {x t k w : Int} {y wc : Nat} {M : zMem} {K : Option zV → zMem → Prop} {KX : String → zMem → Prop} (hob : zxObj (zS O) x 0 = true) (hfind : zR O F_ToldNet_find [(2, x), (0, t)] M (fun v M' => v = some (2, ((y : Nat) : Int)) ∧ M' = M)) (hy : zTeC (zS O) y) (hwc : M ((y : Nat) : Int) ((6 : Nat) : Int) = ((wc : Nat) : Int)) (hwc2 : wc ≤ 120)
    (h1 : ¬ (0 ≤ k ∧ k < ((wc : Nat) : Int)) → KX "java/util/NoSuchElementException" M) (h2 : 0 ≤ k → k < ((wc : Nat) : Int) → ¬ (0 ≤ w ∧ w ≤ 2) → KX "java/lang/IllegalArgumentException" M)
    (h3 : ∀ j : Nat, k = ((j : Nat) : Int) → j < wc → 0 ≤ w → w ≤ 2 → ∃ c : Nat, c < 1024 ∧ M ((y + 6 : Nat) : Int) ((j : Nat) : Int) = ((c : Nat) : Int) ∧ K (some (0, if w = 0 then ((c / 256 : Nat) : Int) else if w = 1 then ((c / 16 % 16 : Nat) : Int) else zw2 c)) M) : zRX O F_ToldNet_word [(2, x), (0, t), (0, k), (0, w)] M K KX := by
  obtain ⟨⟨o, x0, x1, x2, x3, x4, x5, x6⟩, ⟨xa, xb⟩, -⟩ := hy
  refine zRX.of hO.ok (pf := zpfF zpf_ToldNet) (pm := zpmF zpm_ToldNet) (pk := zpkF zpk_ToldNet) (by rw [hO.1]; exact zEvOk_ToldNet _) rfl rfl (Nat.le_of_ble_eq_true rfl) (fun p e s m below meth c X hT hlocks hno => ?_)
  have nr : ∀ {i : Instr} {P : Prop}, (i ≠ .ireturn ∧ i ≠ .lreturn ∧ i ≠ .areturn ∧ i ≠ .return_) → (i = .ireturn ∨ i = .lreturn ∨ i = .areturn ∨ i = .return_ → P) := fun h q => (q.elim h.1 (fun q => q.elim h.2.1 (fun q => q.elim h.2.2.1 h.2.2.2))).elim
  have t1 : ¬ (0 ≤ k ∧ k < ((wc : Nat) : Int)) → ∀ lv, zGo p e (zRmX F_ToldNet_word) s m (([(2, x), (0, t), (0, k), (0, w)] : List zV).map (zWv O)).toArray below meth c (zXQ O K KX below (([(2, x), (0, t), (0, k), (0, w)] : List zV).map (zWv O)).toArray s) O F_ToldNet_word.2.2.1 25 [] lv M := fun h lv => zx_go1 X hl hT hlocks hno (by decide) (by decide) (h1 h) (by decide +kernel) (by decide +kernel) (Or.inl ⟨by decide +kernel, by decide +kernel, by decide +kernel⟩)
  have t2 : 0 ≤ k → k < ((wc : Nat) : Int) → ¬ (0 ≤ w ∧ w ≤ 2) → ∀ lv, zGo p e (zRmX F_ToldNet_word) s m (([(2, x), (0, t), (0, k), (0, w)] : List zV).map (zWv O)).toArray below meth c (zXQ O K KX below (([(2, x), (0, t), (0, k), (0, w)] : List zV).map (zWv O)).toArray s) O F_ToldNet_word.2.2.1 44 [] lv M := fun a b h lv => zx_go2 X hl hT hlocks hno (by decide) (by decide) (h2 a b h) (by decide +kernel) (by decide +kernel) (by decide +kernel) (by decide +kernel) (by decide +kernel)
  refine zGo_step (rt := K) (i := .aload_n 0) (n := 1) X (by decide +kernel) ⟨rfl, x, rfl, ?_⟩ (nr (by decide))
  refine zGo_step (rt := K) (i := .iload_n 1) (n := 1) X (by decide +kernel) ⟨rfl, t, rfl, ?_⟩ (nr (by decide))
  refine zGo_step (rt := K) (i := .invokevirtual 202) (n := 3) X (by decide +kernel) ⟨rfl, x, [(0, t)], [], 50, 0, 1, rfl, by decide +kernel, rfl, zxObj_ok hob, by decide, by decide +kernel, by decide +kernel, ?_⟩ (nr (by decide))
  refine hfind.mono (fun v M' hv => ?_)
  obtain ⟨rfl, rfl⟩ := hv
  refine zGo_step (rt := K) (i := .astore 4) (n := 2) X (by decide +kernel) ⟨rfl, by decide, ((y : Nat) : Int), [], rfl, ?_⟩ (nr (by decide))
  refine zGo_step (rt := K) (i := .aload 4) (n := 2) X (by decide +kernel) ⟨rfl, ((y : Nat) : Int), rfl, ?_⟩ (nr (by decide))
  refine zGo_step (rt := K) (i := .ifnull 16) (n := 3) X (by decide +kernel) ⟨rfl, ((y : Nat) : Int), [], 25, rfl, rfl, fun q => absurd q (by omega), fun _ => ?_⟩ (nr (by decide))
  refine zGo_step (rt := K) (i := .iload_n 2) (n := 1) X (by decide +kernel) ⟨rfl, k, rfl, ?_⟩ (nr (by decide))
  refine zGo_step (rt := K) (i := .ifCond .lt 12) (n := 3) X (by decide +kernel) ⟨rfl, k, [], 25, rfl, rfl, fun q => ?_, fun q => ?_⟩ (nr (by decide))
  · have q' : k < 0 := q
    exact t1 (by omega) _
  have q1 : ¬ k < 0 := q
  clear q
  refine zGo_step (rt := K) (i := .iload_n 2) (n := 1) X (by decide +kernel) ⟨rfl, k, rfl, ?_⟩ (nr (by decide))
  refine zGo_step (rt := K) (i := .aload 4) (n := 2) X (by decide +kernel) ⟨rfl, ((y : Nat) : Int), rfl, ?_⟩ (nr (by decide))
  refine zGo_step (rt := K) (i := .getfield 228) (n := 3) X (by decide +kernel) ⟨rfl, ((y : Nat) : Int), [(0, k)], 4, 6, rfl, by decide +kernel, Or.inl ⟨x6, ?_⟩⟩ (nr (by decide))
  rw [hwc]
  refine zGo_step (rt := K) (i := .if_icmp .lt 13) (n := 3) X (by decide +kernel) ⟨rfl, k, ((wc : Nat) : Int), [], 35, rfl, rfl, fun q => ?_, fun q => ?_⟩ (nr (by decide))
  rotate_left 1
  · have q' : ¬ k < ((wc : Nat) : Int) := q
    exact t1 (by omega) _
  have q2 : k < ((wc : Nat) : Int) := q
  clear q
  refine zGo_step (rt := K) (i := .iload_n 3) (n := 1) X (by decide +kernel) ⟨rfl, w, rfl, ?_⟩ (nr (by decide))
  refine zGo_step (rt := K) (i := .ifCond .lt 8) (n := 3) X (by decide +kernel) ⟨rfl, w, [], 44, rfl, rfl, fun q => ?_, fun q => ?_⟩ (nr (by decide))
  · have q' : w < 0 := q
    exact t2 (by omega) q2 (by omega) _
  have q3 : ¬ w < 0 := q
  clear q
  refine zGo_step (rt := K) (i := .iload_n 3) (n := 1) X (by decide +kernel) ⟨rfl, w, rfl, ?_⟩ (nr (by decide))
  refine zGo_step (rt := K) (i := .iconst 2) (n := 1) X (by decide +kernel) ⟨rfl, by decide, ?_⟩ (nr (by decide))
  refine zGo_step (rt := K) (i := .if_icmp .le 13) (n := 3) X (by decide +kernel) ⟨rfl, w, 2, [], 54, rfl, rfl, fun q => ?_, fun q => ?_⟩ (nr (by decide))
  rotate_left 1
  · have q' : ¬ w ≤ 2 := q
    exact t2 (by omega) q2 (by omega) _
  have q4 : w ≤ 2 := q
  clear q t1 t2 h1 h2
  obtain ⟨j, rfl⟩ : ∃ j : Nat, k = ((j : Nat) : Int) := ⟨k.toNat, by omega⟩
  obtain ⟨d, d1, d2, hK⟩ := h3 j rfl (by omega) (by omega) q4
  clear h3
  refine zGo_step (rt := K) (i := .aload 4) (n := 2) X (by decide +kernel) ⟨rfl, ((y : Nat) : Int), rfl, ?_⟩ (nr (by decide))
  refine zGo_step (rt := K) (i := .getfield 243) (n := 3) X (by decide +kernel) ⟨rfl, ((y : Nat) : Int), [], 4, 2, rfl, by decide +kernel, Or.inr ⟨some (y + 6), x2, ?_⟩⟩ (nr (by decide))
  refine zGo_step (rt := K) (i := .iload_n 2) (n := 1) X (by decide +kernel) ⟨rfl, ((j : Nat) : Int), rfl, ?_⟩ (nr (by decide))
  refine zGo_step (rt := K) (i := .iaload) (n := 1) X (by decide +kernel) ⟨rfl, ((j : Nat) : Int), ((y + 6 : Nat) : Int), [], 120, rfl, xb, by omega, by omega, ?_⟩ (nr (by decide))
  rw [d2]
  refine zGo_step (rt := K) (i := .istore 5) (n := 2) X (by decide +kernel) ⟨rfl, by decide, ((d : Nat) : Int), [], rfl, ?_⟩ (nr (by decide))
  refine zGo_step (rt := K) (i := .iload 5) (n := 2) X (by decide +kernel) ⟨rfl, ((d : Nat) : Int), rfl, ?_⟩ (nr (by decide))
  refine zGo_step (rt := K) (i := .invokestatic 246) (n := 3) X (by decide +kernel) ⟨rfl, Or.inl ⟨[(0, ((d : Nat) : Int))], [], 1, 100, 0, 1, Or.inl rfl, rfl, by decide +kernel, rfl, by decide, by decide +kernel, by decide +kernel, ?_⟩⟩ (nr (by decide))
  refine c_kindOf hO d1 ?_
  refine zGo_step (rt := K) (i := .istore 6) (n := 2) X (by decide +kernel) ⟨rfl, by decide, ((d / 256 : Nat) : Int), [], rfl, ?_⟩ (nr (by decide))
  refine zGo_step (rt := K) (i := .iload_n 3) (n := 1) X (by decide +kernel) ⟨rfl, w, rfl, ?_⟩ (nr (by decide))
  refine zGo_step (rt := K) (i := .ifCond .ne 6) (n := 3) X (by decide +kernel) ⟨rfl, w, [], 77, rfl, rfl, fun q => ?_, fun q => ?_⟩ (nr (by decide))
  rotate_left 1
  · have q' : ¬ w ≠ 0 := q
    rw [if_pos (Classical.not_not.mp q')] at hK
    refine zGo_step (rt := K) (i := .iload 6) (n := 2) X (by decide +kernel) ⟨rfl, ((d / 256 : Nat) : Int), rfl, ?_⟩ (nr (by decide))
    exact zx_goret X hlocks rfl (by decide +kernel) hK
  have q5 : w ≠ 0 := q
  clear q
  rw [if_neg q5] at hK
  refine zGo_step (rt := K) (i := .iload_n 3) (n := 1) X (by decide +kernel) ⟨rfl, w, rfl, ?_⟩ (nr (by decide))
  refine zGo_step (rt := K) (i := .iconst 1) (n := 1) X (by decide +kernel) ⟨rfl, by decide, ?_⟩ (nr (by decide))
  refine zGo_step (rt := K) (i := .if_icmp .ne 9) (n := 3) X (by decide +kernel) ⟨rfl, w, 1, [], 88, rfl, rfl, fun q => ?_, fun q => ?_⟩ (nr (by decide))
  rotate_left 1
  · have q' : ¬ w ≠ 1 := q
    rw [if_pos (Classical.not_not.mp q')] at hK
    refine zGo_step (rt := K) (i := .iload 5) (n := 2) X (by decide +kernel) ⟨rfl, ((d : Nat) : Int), rfl, ?_⟩ (nr (by decide))
    refine zGo_step (rt := K) (i := .invokestatic 249) (n := 3) X (by decide +kernel) ⟨rfl, Or.inl ⟨[(0, ((d : Nat) : Int))], [], 1, 101, 0, 1, Or.inl rfl, rfl, by decide +kernel, rfl, by decide, by decide +kernel, by decide +kernel, ?_⟩⟩ (nr (by decide))
    refine c_firstOf hO d1 ?_
    exact zx_goret X hlocks rfl (by decide +kernel) hK
  have q6 : w ≠ 1 := q
  clear q
  rw [if_neg q6] at hK
  unfold zw2 at hK
  refine zGo_step (rt := K) (i := .iload 6) (n := 2) X (by decide +kernel) ⟨rfl, ((d / 256 : Nat) : Int), rfl, ?_⟩ (nr (by decide))
  refine zGo_step (rt := K) (i := .iconst 1) (n := 1) X (by decide +kernel) ⟨rfl, by decide, ?_⟩ (nr (by decide))
  have t3 : 256 ≤ d → d < 768 → zGo p e (zRmX F_ToldNet_word) s m (([(2, x), (0, t), (0, ((j : Nat) : Int)), (0, w)] : List zV).map (zWv O)).toArray below meth c (zXQ O K KX below (([(2, x), (0, t), (0, ((j : Nat) : Int)), (0, w)] : List zV).map (zWv O)).toArray s) O F_ToldNet_word.2.2.1 100 [] (zSt1 (zSt1 (zSt1 (zArgs 0 [(2, x), (0, t), (0, ((j : Nat) : Int)), (0, w)]) 4 (2, ((y : Nat) : Int))) 5 (0, ((d : Nat) : Int))) 6 (0, ((d / 256 : Nat) : Int))) M' := fun a b => by
    rw [if_pos ⟨a, b⟩] at hK
    refine zGo_step (rt := K) (i := .iload 5) (n := 2) X (by decide +kernel) ⟨rfl, ((d : Nat) : Int), rfl, ?_⟩ (nr (by decide))
    refine zGo_step (rt := K) (i := .invokestatic 252) (n := 3) X (by decide +kernel) ⟨rfl, Or.inl ⟨[(0, ((d : Nat) : Int))], [], 1, 102, 0, 1, Or.inl rfl, rfl, by decide +kernel, rfl, by decide, by decide +kernel, by decide +kernel, ?_⟩⟩ (nr (by decide))
    refine c_secondOf hO d1 ?_
    refine zGo_step (rt := K) (i := .goto 4) (n := 3) X (by decide +kernel) ⟨rfl, 109, rfl, ?_⟩ (nr (by decide))
    exact zx_goret X hlocks rfl (by decide +kernel) hK
  refine zGo_step (rt := K) (i := .if_icmp .eq 9) (n := 3) X (by decide +kernel) ⟨rfl, ((d / 256 : Nat) : Int), 1, [], 100, rfl, rfl, fun q => ?_, fun q => ?_⟩ (nr (by decide))
  · have q' : ((d / 256 : Nat) : Int) = 1 := q
    exact t3 (by omega) (by omega)
  have q7 : ¬ ((d / 256 : Nat) : Int) = 1 := q
  clear q
  refine zGo_step (rt := K) (i := .iload 6) (n := 2) X (by decide +kernel) ⟨rfl, ((d / 256 : Nat) : Int), rfl, ?_⟩ (nr (by decide))
  refine zGo_step (rt := K) (i := .iconst 2) (n := 1) X (by decide +kernel) ⟨rfl, by decide, ?_⟩ (nr (by decide))
  refine zGo_step (rt := K) (i := .if_icmp .ne 11) (n := 3) X (by decide +kernel) ⟨rfl, ((d / 256 : Nat) : Int), 2, [], 108, rfl, rfl, fun q => ?_, fun q => ?_⟩ (nr (by decide))
  · have q' : ((d / 256 : Nat) : Int) ≠ 2 := q
    rw [if_neg (show ¬ (256 ≤ d ∧ d < 768) by omega)] at hK
    refine zGo_step (rt := K) (i := .iconst (-1)) (n := 1) X (by decide +kernel) ⟨rfl, by decide, ?_⟩ (nr (by decide))
    exact zx_goret X hlocks rfl (by decide +kernel) hK
  · have q' : ¬ ((d / 256 : Nat) : Int) ≠ 2 := q
    exact t3 (by omega) (by omega)
