/-! ===== word and except: both sides ===== -/
def zWqB (O : zOm) (f : zMR) (x y z : Int) : Option zV → zMem → Prop := fun v u => ∃ kc : Int, (kc = 0 ∨ kc = 1 ∨ kc = 2) ∧ v = some (0, kc) ∧ zR O f [(2, ((250 : Nat) : Int)), (0, x), (0, y), (0, z)] u (fun v2 u2 => ∃ r2, v2 = some (0, r2) ∧ u2 250 ((0 : Nat) : Int) = kc ∧ (kc = 0 → u2 ((311 : Nat) : Int) 0 = r2) ∧ zInv u2)
theorem ob_word {O : zOm} (hO : zWld O) (hS : zS O = zmS zC0) (hl : (zLn O).stackTraces = false) {M : zMem} (hI : zInv M) {x y z : Int} (hy : zin32 y) {K : Option zV → zMem → Prop} (hk : ∀ v u, zWqB O F_Model_word x y z v u → K v u) : zLM2 O zLw [(2, ((0 : Nat) : Int)), (0, x), (0, y), (0, z), (2, ((311 : Nat) : Int))] M K := by
  obtain ⟨n, td, c, T, s, N, CA, CB, CI, CD, μ, A, Q, B, pl, hP, hC, hM⟩ := id hI
  obtain ⟨n2, n16, td41, c300, T5, hR, hZ, hCD, hμ, hW, hQs, hB⟩ := id hP
  obtain ⟨c1, c2, c3, c4, c5, c6, c7, c8, c9⟩ := id hC
  obtain ⟨m1, m2, m3, m4, m5, m6, m7, m8, m9, m10⟩ := id hM
  have hob : zxObj (zS O) ((0 : Nat) : Int) 0 = true := by rw [hS]; exact zC0_x
  refine zlW2 hO zLw_lk zLw_ok2 (by omega) (by omega) (zMA (a := 311) (ty := .long) (n := 1) hS rfl) hob ?_
  have no : (∀ t' : Nat, x = ((t' : Nat) : Int) → t' < T → ¬ (0 ≤ y ∧ y < ((zcnt (zWsn (A t')) 1024 : Nat) : Int))) → zWqB O F_Model_word x y z (some (0, 1)) M := fun h => ⟨1, Or.inr (Or.inl rfl), rfl, m_word_no hO hS m6 T5 m1 n16 (fun t ht => ⟨m7 t ht, hW t ht⟩) hy h (fun M1 f1 e1 => ⟨_, rfl, e1, fun q => absurd q (by decide), zInv.ro hP hC hM (fun _ _ _ => rfl) c5 (fun b j q => f1 b j (by omega))⟩)⟩
  by_cases h : 0 ≤ x ∧ x < ((T : Nat) : Int)
  · obtain ⟨t, rfl⟩ : ∃ k : Nat, x = ((k : Nat) : Int) := ⟨x.toNat, by omega⟩
    have ht : t < T := by omega
    obtain ⟨wd1, wd2⟩ := (c4 t ht).2.2.1.1
    have wd3 := (c4 t ht).2.2.1.2
    refine zx_word2 hO hl hob (c_find hO hS c3 T5 (fun q => absurd h q) (fun k e1 e2 => ?_)) (zTelT hS (show t < 5 by omega)) wd1 wd3 (fun q => ?_) (fun a b q => ?_) (fun j e1 e2 a b => ?_)
    · obtain rfl : t = k := by omega
      exact ⟨rfl, rfl⟩
    · exact Or.inl ⟨rfl, hk _ _ (no (fun t' e _ => by rw [show t' = t by omega]; exact q))⟩
    · obtain ⟨j, rfl⟩ : ∃ j : Nat, y = ((j : Nat) : Int) := ⟨y.toNat, by omega⟩
      obtain ⟨c', w1, w2, w3⟩ := zkth (s := zWsn (A t)) (k := j) (n := 1024) (Int.ofNat_lt.mp b)
      exact Or.inr ⟨rfl, hk _ _ ⟨2, Or.inr (Or.inr rfl), rfl, m_word_ill hO hS m6 T5 ht m1 n16 (m7 t ht) (hW t ht) hy w1 w2 (by rw [w3]) q (fun M1 f1 e1 => ⟨_, rfl, e1, fun q => absurd q (by decide), zInv.ro hP hC hM (fun _ _ _ => rfl) c5 (fun b j q => f1 b j (by omega))⟩)⟩⟩
    · obtain ⟨c', w1, w2, w3⟩ := zkth (s := zWsn (A t)) (k := j) (n := 1024) e2
      subst e1
      refine ⟨c', w1, by rw [← w3]; exact wd2 c' w1 w2, _, rfl, hk _ _ ⟨0, Or.inl rfl, rfl, ?_⟩⟩
      generalize hr : (if z = 0 then ((c' / 256 : Nat) : Int) else if z = 1 then ((c' / 16 % 16 : Nat) : Int) else zw2 c' : Int) = r
      generalize hG : zput M ((311 : Nat) : Int) (zup (M ((311 : Nat) : Int)) 0 r) = M1
      have f0 : ∀ b j, ¬ b = 311 → M1 b j = M b j := fun b j q => by rw [← hG, zg_n _ _ _ (by omega)]
      have e0 : M1 ((311 : Nat) : Int) 0 = r := by rw [← hG]; exact zg_s _ _ _ _ _
      have hC1 := hC.up T5 td41 (fun b j q => f0 b j (by omega))
      have hM1 := hM.sc T5 n16 c7.2.1 hW (fun b j q => f0 b j (by omega))
      have s1 : cSo M1 := c5.to (fun b j q => f0 b j (by omega))
      obtain ⟨p1, p2, p3, p4, p5, p6, p7, p8, p9, p10⟩ := id hM1
      refine m_word hO hS p6 T5 ht p1 n16 (p7 t ht) (hW t ht) hy w1 w2 (by rw [w3]) a b (fun M2 f2 e3 => ⟨_, rfl, e3, fun _ => ?_, zInv.ro hP hC1 hM1 (fun _ _ _ => rfl) s1 (fun b j q => f2 b j (by omega))⟩)
      rw [f2 _ _ (by omega), e0, hr]
  · exact zx_word1 hO hl hob (c_find hO hS c3 T5 (fun _ => ⟨rfl, Or.inl ⟨rfl, hk _ _ (no (fun t' e1 e2 => absurd ⟨by omega, by omega⟩ h))⟩⟩) (fun k e1 e2 => absurd ⟨by omega, by omega⟩ h))
theorem ob_except {O : zOm} (hO : zWld O) (hS : zS O = zmS zC0) (hl : (zLn O).stackTraces = false) {M : zMem} (hI : zInv M) {x y z : Int} (hy : zin32 y) {K : Option zV → zMem → Prop} (hk : ∀ v u, zWqB O F_Model_except x y z v u → K v u) : zLM2 O zLe [(2, ((0 : Nat) : Int)), (0, x), (0, y), (0, z), (2, ((311 : Nat) : Int))] M K := by
  obtain ⟨n, td, c, T, s, N, CA, CB, CI, CD, μ, A, Q, B, pl, hP, hC, hM⟩ := id hI
  obtain ⟨n2, n16, td41, c300, T5, hR, hZ, hCD, hμ, hW, hQs, hB⟩ := id hP
  obtain ⟨c1, c2, c3, c4, c5, c6, c7, c8, c9⟩ := id hC
  obtain ⟨m1, m2, m3, m4, m5, m6, m7, m8, m9, m10⟩ := id hM
  have hob : zxObj (zS O) ((0 : Nat) : Int) 0 = true := by rw [hS]; exact zC0_x
  refine zlW2 hO zLe_lk zLe_ok2 (by omega) (by omega) (zMA (a := 311) (ty := .long) (n := 1) hS rfl) hob ?_
  have no : (∀ t' : Nat, x = ((t' : Nat) : Int) → t' < T → zpk (tX (A t')) y 256 = -1) → zWqB O F_Model_except x y z (some (0, 1)) M := fun h => ⟨1, Or.inr (Or.inl rfl), rfl, m_except_no hO hS m6 T5 (fun t ht => ⟨m7 t ht, hW t ht⟩) h (fun M1 f1 e1 => ⟨_, rfl, e1, fun q => absurd q (by decide), zInv.ro hP hC hM (fun _ _ _ => rfl) c5 (fun b j q => f1 b j (by omega))⟩)⟩
  by_cases h : 0 ≤ x ∧ x < ((T : Nat) : Int)
  · obtain ⟨t, rfl⟩ : ∃ k : Nat, x = ((k : Nat) : Int) := ⟨x.toNat, by omega⟩
    have ht : t < T := by omega
    refine zx_except2 hO hl hob (c_find hO hS c3 T5 (fun q => absurd h q) (fun k e1 e2 => ?_)) (zTelT hS (show t < 5 by omega)) (c4 t ht) (hW t ht) n16 hy (fun q => ?_) (fun q1 q => ?_) (fun d q1 q2 q3 a b => ?_)
    · obtain rfl : t = k := by omega
      exact ⟨rfl, rfl⟩
    · exact Or.inl ⟨rfl, hk _ _ (no (fun t' e _ => by rw [show t' = t by omega]; exact q))⟩
    · rcases zpk_cases (tX (A t)) y 256 with ⟨d, g1, g2, g3, g4⟩ | ⟨g1, g2⟩
      · exact Or.inr ⟨rfl, hk _ _ ⟨2, Or.inr (Or.inr rfl), rfl, m_except_ill hO hS m6 T5 ht (m7 t ht) (hW t ht) g1 (by omega) q (fun M1 f1 e1 => ⟨_, rfl, e1, fun q => absurd q (by decide), zInv.ro hP hC hM (fun _ _ _ => rfl) c5 (fun b j q => f1 b j (by omega))⟩)⟩⟩
      · exact absurd g1 q1
    · have hy0 : 0 ≤ y := by
        rcases zpk_cases (tX (A t)) y 256 with ⟨d', g1, g2, g3, g4⟩ | ⟨g1, g2⟩
        · omega
        · rw [g1] at q1; omega
      refine ⟨_, rfl, hk _ _ ⟨0, Or.inl rfl, rfl, ?_⟩⟩
      generalize hr : (if z = 0 then ((d / 16 : Nat) : Int) else if z = 1 then ((d % 16 : Nat) : Int) else if z = 2 then zbI (tS n (A t) (d / 16) (d % 16)) else zbI (decide (tv (A t) (d / 16) (d % 16) = 2)) : Int) = r
      generalize hG : zput M ((311 : Nat) : Int) (zup (M ((311 : Nat) : Int)) 0 r) = M1
      have f0 : ∀ b j, ¬ b = 311 → M1 b j = M b j := fun b j q => by rw [← hG, zg_n _ _ _ (by omega)]
      have e0 : M1 ((311 : Nat) : Int) 0 = r := by rw [← hG]; exact zg_s _ _ _ _ _
      have hC1 := hC.up T5 td41 (fun b j q => f0 b j (by omega))
      have hM1 := hM.sc T5 n16 c7.2.1 hW (fun b j q => f0 b j (by omega))
      have s1 : cSo M1 := c5.to (fun b j q => f0 b j (by omega))
      obtain ⟨p1, p2, p3, p4, p5, p6, p7, p8, p9, p10⟩ := id hM1
      refine m_except hO hS p6 T5 ht p1 n16 (p7 t ht) (hW t ht) q1 q2 hy0 a b (fun M2 f2 e3 => ⟨_, rfl, e3, fun _ => ?_, zInv.ro hP hC1 hM1 (fun _ _ _ => rfl) s1 (fun b j q => f2 b j (by omega))⟩)
      rw [f2 _ _ (by omega), e0, hr]
  · exact zx_except1 hO hl hob (c_find hO hS c3 T5 (fun _ => ⟨rfl, Or.inl ⟨rfl, hk _ _ (no (fun t' e1 e2 => absurd ⟨by omega, by omega⟩ h))⟩⟩) (fun k e1 e2 => absurd ⟨by omega, by omega⟩ h))
