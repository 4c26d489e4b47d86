/-! ===== the calls one by one: what only looks ===== -/
theorem ob_length {O : zOm} (hO : zWld O) (hS : zS O = zmS zC0) {M : zMem} (hI : zInv M) {x : Int} : zR O F_ToldNet_length [(2, ((0 : Nat) : Int)), (0, x)] M (zAns O F_Model_length [(2, 250), (0, x)]) := by
  obtain ⟨n, td, c, T, s, N, CA, CB, CI, CD, μ, A, Q, B, pl, hP, hC, hM⟩ := id hI
  obtain ⟨n2, n16, td41, c300, T5, hR, hZ, hCD, hμ, hW, hQs, hB⟩ := id hP
  obtain ⟨c1, c2, c3, c4, c5, c6, c7, c8, c9⟩ := id hC
  obtain ⟨m1, m2, m3, m4, m5, m6, m7, m8, m9, m10⟩ := id hM
  by_cases h : 0 ≤ x ∧ x < ((T : Nat) : Int)
  · obtain ⟨t, rfl⟩ : ∃ k : Nat, x = ((k : Nat) : Int) := ⟨x.toNat, by omega⟩
    have ht : t < T := by omega
    refine c_length hO hS c3 T5 ht n16 (c4 t ht) (hW t ht) c5 (fun M1 f1 s1 => ?_)
    have hM1 := hM.dn T5 n16 c7.2.1 hW (fun b j q => f1 b j (by omega))
    obtain ⟨p1, p2, p3, p4, p5, p6, p7, p8, p9, p10⟩ := id hM1
    refine m_length hO hS p6 T5 ht p1 n16 (p7 t ht) (hW t ht) (fun M2 f2 => ⟨_, rfl, rfl, ?_⟩)
    exact zInv.ro hP hC hM (fun b j q => f1 b j (by omega)) s1 (fun b j q => f2 b j (by omega))
  · refine c_length_bad hO hS c3 T5 h ?_
    exact m_length_bad hO hS m6 h ⟨_, rfl, rfl, hI⟩
theorem ob_box {O : zOm} (hO : zWld O) (hS : zS O = zmS zC0) {M : zMem} (hI : zInv M) {x y : Int} : zR O F_ToldNet_box [(2, ((0 : Nat) : Int)), (0, x), (0, y)] M (zAns O F_Model_box [(2, 250), (0, x), (0, y)]) := by
  obtain ⟨n, td, c, T, s, N, CA, CB, CI, CD, μ, A, Q, B, pl, hP, hC, hM⟩ := id hI
  obtain ⟨n2, n16, td41, c300, T5, hR, hZ, hCD, hμ, hW, hQs, hB⟩ := id hP
  obtain ⟨c1, c2, c3, c4, c5, c6, c7, c8, c9⟩ := id hC
  obtain ⟨m1, m2, m3, m4, m5, m6, m7, m8, m9, m10⟩ := id hM
  by_cases h : (0 ≤ x ∧ x < ((T : Nat) : Int)) ∧ (0 ≤ y ∧ y < ((n : Nat) : Int))
  · obtain ⟨t, rfl⟩ : ∃ k : Nat, x = ((k : Nat) : Int) := ⟨x.toNat, by omega⟩
    obtain ⟨p, rfl⟩ : ∃ k : Nat, y = ((k : Nat) : Int) := ⟨y.toNat, by omega⟩
    have ht : t < T := by omega
    have hp : p < n := by omega
    refine c_box hO hS c3 T5 ht c1.1 n16 (c4 t ht) hp ?_
    exact m_box hO hS m6 T5 ht m1 n16 (m7 t ht) (hW t ht) hp ⟨_, rfl, rfl, hI⟩
  · refine c_box_bad hO hS c3 T5 c1.1 h ?_
    exact m_box_bad hO hS m6 m1 h ⟨_, rfl, rfl, hI⟩
theorem ob_row {O : zOm} (hO : zWld O) (hS : zS O = zmS zC0) {M : zMem} (hI : zInv M) {x y z : Int} : zR O F_ToldNet_row [(2, ((0 : Nat) : Int)), (0, x), (0, y), (0, z)] M (zAns O F_Model_row [(2, 250), (0, x), (0, y), (0, z)]) := by
  obtain ⟨n, td, c, T, s, N, CA, CB, CI, CD, μ, A, Q, B, pl, hP, hC, hM⟩ := id hI
  obtain ⟨n2, n16, td41, c300, T5, hR, hZ, hCD, hμ, hW, hQs, hB⟩ := id hP
  obtain ⟨c1, c2, c3, c4, c5, c6, c7, c8, c9⟩ := id hC
  obtain ⟨m1, m2, m3, m4, m5, m6, m7, m8, m9, m10⟩ := id hM
  by_cases h : 0 ≤ x ∧ x < ((T : Nat) : Int)
  · obtain ⟨t, rfl⟩ : ∃ k : Nat, x = ((k : Nat) : Int) := ⟨x.toNat, by omega⟩
    have ht : t < T := by omega
    by_cases h2 : (0 ≤ y ∧ y < ((tm (A t) : Nat) : Int)) ∧ 0 ≤ z ∧ z < ((zSz (tf (A t)) n y.toNat : Nat) : Int)
    · obtain ⟨b, rfl⟩ : ∃ k : Nat, y = ((k : Nat) : Int) := ⟨y.toNat, by omega⟩
      obtain ⟨k, rfl⟩ : ∃ k : Nat, z = ((k : Nat) : Int) := ⟨z.toNat, by omega⟩
      have hb : b < tm (A t) := by omega
      have hkk : k < zSz (tf (A t)) n b := Int.ofNat_lt.mp h2.2.2
      refine c_row hO hS c3 T5 ht n16 (c4 t ht) (hW t ht) hb hkk ?_
      exact m_row hO hS m6 T5 ht (m7 t ht) (hW t ht) hb hkk (Nat.le_trans (zSz_le _ _ _) n16) ⟨_, rfl, rfl, hI⟩
    · refine c_row_out hO hS c3 T5 ht n16 (c4 t ht) (hW t ht) h2 ?_
      exact m_row_out hO hS m6 T5 ht (m7 t ht) (hW t ht) h2 ⟨_, rfl, rfl, hI⟩
  · refine c_row_bad hO hS c3 T5 h ?_
    exact m_row_bad hO hS m6 h ⟨_, rfl, rfl, hI⟩
theorem ob_built {O : zOm} (hO : zWld O) (hS : zS O = zmS zC0) {M : zMem} (hI : zInv M) {x y z : Int} : zR O F_ToldNet_built [(2, ((0 : Nat) : Int)), (0, x), (0, y), (0, z)] M (zAns O F_Model_built [(2, 250), (0, x), (0, y), (0, z)]) := by
  obtain ⟨n, td, c, T, s, N, CA, CB, CI, CD, μ, A, Q, B, pl, hP, hC, hM⟩ := id hI
  obtain ⟨n2, n16, td41, c300, T5, hR, hZ, hCD, hμ, hW, hQs, hB⟩ := id hP
  obtain ⟨c1, c2, c3, c4, c5, c6, c7, c8, c9⟩ := id hC
  obtain ⟨m1, m2, m3, m4, m5, m6, m7, m8, m9, m10⟩ := id hM
  by_cases h : (0 ≤ x ∧ x < ((T : Nat) : Int)) ∧ (0 ≤ y ∧ y < ((n : Nat) : Int)) ∧ (0 ≤ z ∧ z < ((n : Nat) : Int)) ∧ y ≠ z
  · obtain ⟨t, rfl⟩ : ∃ k : Nat, x = ((k : Nat) : Int) := ⟨x.toNat, by omega⟩
    obtain ⟨a, rfl⟩ : ∃ k : Nat, y = ((k : Nat) : Int) := ⟨y.toNat, by omega⟩
    obtain ⟨b, rfl⟩ : ∃ k : Nat, z = ((k : Nat) : Int) := ⟨z.toNat, by omega⟩
    have ht : t < T := by omega
    have ha : a < n := by omega
    have hb : b < n := by omega
    have hab : a ≠ b := by omega
    refine c_built hO hS c3 T5 ht c1.1 n16 (c4 t ht) ha hb hab ?_
    refine m_built hO hS m6 T5 ht m1 n16 (m7 t ht) (hW t ht) ha hb hab (fun M2 f2 => ⟨_, rfl, rfl, ?_⟩)
    exact zInv.ro hP hC hM (fun _ _ _ => rfl) c5 (fun b j q => f2 b j (by omega))
  · refine c_built_bad hO hS c3 T5 c1.1 h ?_
    exact m_built_bad hO hS m6 m1 h ⟨_, rfl, rfl, hI⟩
theorem ob_unlike {O : zOm} (hO : zWld O) (hS : zS O = zmS zC0) {M : zMem} (hI : zInv M) {x y : Int} : zR O F_ToldNet_unlike [(2, ((0 : Nat) : Int)), (0, x), (0, y)] M (zAns O F_Model_unlike [(2, 250), (0, x), (0, y)]) := by
  obtain ⟨n, td, c, T, s, N, CA, CB, CI, CD, μ, A, Q, B, pl, hP, hC, hM⟩ := id hI
  obtain ⟨n2, n16, td41, c300, T5, hR, hZ, hCD, hμ, hW, hQs, hB⟩ := id hP
  obtain ⟨c1, c2, c3, c4, c5, c6, c7, c8, c9⟩ := id hC
  obtain ⟨m1, m2, m3, m4, m5, m6, m7, m8, m9, m10⟩ := id hM
  by_cases h : (0 ≤ x ∧ x < ((T : Nat) : Int)) ∧ 0 ≤ y ∧ y ≤ ((td : Nat) : Int)
  · obtain ⟨t, rfl⟩ : ∃ k : Nat, x = ((k : Nat) : Int) := ⟨x.toNat, by omega⟩
    obtain ⟨d, rfl⟩ : ∃ k : Nat, y = ((k : Nat) : Int) := ⟨y.toNat, by omega⟩
    have ht : t < T := by omega
    have hd : d ≤ td := by omega
    refine c_unlike hO hS c3 T5 ht c1 td41 hd (hR d hd) n16 (c4 t ht) (hW t ht) (fun M1 f1 => ?_)
    have hM1 := hM.dn T5 n16 c7.2.1 hW (fun b j q => f1 b j (by omega))
    obtain ⟨p1, p2, p3, p4, p5, p6, p7, p8, p9, p10⟩ := id hM1
    refine m_unlike hO hS p6 T5 ht p1 n16 p2 hd p3 (p7 t ht) (hW t ht) (fun M2 f2 => ⟨_, rfl, by rw [hZ d hd], ?_⟩)
    exact zInv.ro hP hC hM (fun b j q => f1 b j (by omega)) (c5.to (fun b j q => f1 b j (by omega))) (fun b j q => f2 b j (by omega))
  · refine c_unlike_bad hO hS c3 T5 c1.2.1 td41 h ?_
    exact m_unlike_bad hO hS m6 m2 h ⟨_, rfl, rfl, hI⟩
theorem ob_bound {O : zOm} (hO : zWld O) (hS : zS O = zmS zC0) {M : zMem} (hI : zInv M) : zR O F_ToldNet_bound [(2, ((0 : Nat) : Int))] M (zAns O F_Model_bound [(2, 250)]) := by
  obtain ⟨n, td, c, T, s, N, CA, CB, CI, CD, μ, A, Q, B, pl, hP, hC, hM⟩ := id hI
  obtain ⟨n2, n16, td41, c300, T5, hR, hZ, hCD, hμ, hW, hQs, hB⟩ := id hP
  obtain ⟨c1, c2, c3, c4, c5, c6, c7, c8, c9⟩ := id hC
  obtain ⟨m1, m2, m3, m4, m5, m6, m7, m8, m9, m10⟩ := id hM
  refine c_bound hO hS c1 td41 (hR td (Nat.le_refl _)) (by omega) n16 (fun M1 f1 => ?_)
  have hM1 := hM.dn T5 n16 c7.2.1 hW (fun b j q => f1 b j (by omega))
  obtain ⟨p1, p2, p3, p4, p5, p6, p7, p8, p9, p10⟩ := id hM1
  refine m_bound hO hS p1 (by omega) n16 p4 (fun M2 f2 => ⟨_, rfl, rfl, ?_⟩)
  exact zInv.ro hP hC hM (fun b j q => f1 b j (by omega)) (c5.to (fun b j q => f1 b j (by omega))) (fun b j q => f2 b j (by omega))
theorem ob_bests {O : zOm} (hO : zWld O) (hS : zS O = zmS zC0) {M : zMem} (hI : zInv M) : zR O F_ToldNet_bests [(2, ((0 : Nat) : Int))] M (zAns O F_Model_bests [(2, 250)]) := by
  obtain ⟨n, td, c, T, s, N, CA, CB, CI, CD, μ, A, Q, B, pl, hP, hC, hM⟩ := id hI
  obtain ⟨n2, n16, td41, c300, T5, hR, hZ, hCD, hμ, hW, hQs, hB⟩ := id hP
  obtain ⟨c1, c2, c3, c4, c5, c6, c7, c8, c9⟩ := id hC
  obtain ⟨m1, m2, m3, m4, m5, m6, m7, m8, m9, m10⟩ := id hM
  by_cases h : n ≤ 8
  · obtain ⟨k1, k2⟩ := zgK_ok h
    refine c_bests hO hS c1 td41 (hR td (Nat.le_refl _)) (by omega) h k2 (by omega) (fun M1 f1 => ?_)
    have hM1 := hM.dn T5 n16 c7.2.1 hW (fun b j q => f1 b j (by omega))
    obtain ⟨p1, p2, p3, p4, p5, p6, p7, p8, p9, p10⟩ := id hM1
    refine m_bests hO hS p1 (by omega) h p4 k2 (by omega) (fun M2 f2 => ⟨_, rfl, rfl, ?_⟩)
    exact zInv.ro hP hC hM (fun b j q => f1 b j (by omega)) (c5.to (fun b j q => f1 b j (by omega))) (fun b j q => f2 b j (by omega))
  · refine c_bests_bad hO hS c1.1 (by omega) ?_
    exact m_bests_bad hO hS m1 (by omega) ⟨_, rfl, rfl, hI⟩
theorem ob_rounds {O : zOm} (hO : zWld O) (hS : zS O = zmS zC0) {M : zMem} (hI : zInv M) : zR O F_ToldNet_rounds [(2, ((0 : Nat) : Int))] M (zAns O F_Model_rounds [(2, 250)]) := by
  obtain ⟨n, td, c, T, s, N, CA, CB, CI, CD, μ, A, Q, B, pl, hP, hC, hM⟩ := id hI
  obtain ⟨n2, n16, td41, c300, T5, hR, hZ, hCD, hμ, hW, hQs, hB⟩ := id hP
  obtain ⟨c1, c2, c3, c4, c5, c6, c7, c8, c9⟩ := id hC
  obtain ⟨m1, m2, m3, m4, m5, m6, m7, m8, m9, m10⟩ := id hM
  refine c_rounds hO hS c1 td41 (by omega) n16 (fun r hr => ⟨c2 r (by omega), by have := hμ r (by omega); omega⟩) (fun M1 f1 => ?_)
  have hM1 := hM.dn T5 n16 c7.2.1 hW (fun b j q => f1 b j (by omega))
  obtain ⟨p1, p2, p3, p4, p5, p6, p7, p8, p9, p10⟩ := id hM1
  refine m_rounds hO hS p1 (by omega) n16 p4 (fun a => (hR td (Nat.le_refl _)).2.1 a) (fun r hr => ⟨p5 r (by omega), by have := hμ r (by omega); omega⟩) (fun M2 f2 => ⟨_, rfl, rfl, ?_⟩)
  exact zInv.ro hP hC hM (fun b j q => f1 b j (by omega)) (c5.to (fun b j q => f1 b j (by omega))) (fun b j q => f2 b j (by omega))
theorem ob_coarsest {O : zOm} (hO : zWld O) (hS : zS O = zmS zC0) {M : zMem} (hI : zInv M) {x : Int} : zR O F_ToldNet_coarsest [(2, ((0 : Nat) : Int)), (0, x)] M (zAns O F_Model_coarsest [(2, 250), (0, x)]) := by
  obtain ⟨n, td, c, T, s, N, CA, CB, CI, CD, μ, A, Q, B, pl, hP, hC, hM⟩ := id hI
  obtain ⟨n2, n16, td41, c300, T5, hR, hZ, hCD, hμ, hW, hQs, hB⟩ := id hP
  obtain ⟨c1, c2, c3, c4, c5, c6, c7, c8, c9⟩ := id hC
  obtain ⟨m1, m2, m3, m4, m5, m6, m7, m8, m9, m10⟩ := id hM
  by_cases h : 0 ≤ x ∧ x < ((n : Nat) : Int)
  · obtain ⟨a, rfl⟩ : ∃ k : Nat, x = ((k : Nat) : Int) := ⟨x.toNat, by omega⟩
    have ha : a < n := by omega
    refine c_coarsest hO hS c1 td41 (by omega) n16 (fun r hr => ⟨c2 r (by omega), by have := hμ r (by omega); omega⟩) ha (fun M1 f1 => ?_)
    have hM1 := hM.dn T5 n16 c7.2.1 hW (fun b j q => f1 b j (by omega))
    obtain ⟨p1, p2, p3, p4, p5, p6, p7, p8, p9, p10⟩ := id hM1
    refine m_coarsest hO hS p1 (by omega) n16 p4 (fun a => (hR td (Nat.le_refl _)).2.1 a) (fun r hr => ⟨p5 r (by omega), by have := hμ r (by omega); omega⟩) ha (fun M2 f2 => ⟨_, rfl, rfl, ?_⟩)
    exact zInv.ro hP hC hM (fun b j q => f1 b j (by omega)) (c5.to (fun b j q => f1 b j (by omega))) (fun b j q => f2 b j (by omega))
  · refine c_coarsest_bad hO hS c1.1 h ?_
    exact m_coarsest_bad hO hS m1 h ⟨_, rfl, rfl, hI⟩
theorem ob_nearly {O : zOm} (hO : zWld O) (hS : zS O = zmS zC0) {M : zMem} (hI : zInv M) {x y : Int} : zR O F_ToldNet_nearly [(2, ((0 : Nat) : Int)), (0, x), (0, y)] M (zAns O F_Model_nearly [(2, 250), (0, x), (0, y)]) := by
  obtain ⟨n, td, c, T, s, N, CA, CB, CI, CD, μ, A, Q, B, pl, hP, hC, hM⟩ := id hI
  obtain ⟨n2, n16, td41, c300, T5, hR, hZ, hCD, hμ, hW, hQs, hB⟩ := id hP
  obtain ⟨c1, c2, c3, c4, c5, c6, c7, c8, c9⟩ := id hC
  obtain ⟨m1, m2, m3, m4, m5, m6, m7, m8, m9, m10⟩ := id hM
  by_cases h : (0 ≤ y ∧ y < ((n : Nat) : Int)) ∧ 0 ≤ x ∧ x ≤ 14
  · obtain ⟨k, rfl⟩ : ∃ k : Nat, x = ((k : Nat) : Int) := ⟨x.toNat, by omega⟩
    obtain ⟨a, rfl⟩ : ∃ k : Nat, y = ((k : Nat) : Int) := ⟨y.toNat, by omega⟩
    have ha : a < n := by omega
    have hk14 : k ≤ 14 := by omega
    refine c_nearly hO hS c1 td41 (hR td (Nat.le_refl _)) n16 (fun r hr => c2 r (by omega)) ha hk14 (fun M1 f1 => ?_)
    have hM1 := hM.dn T5 n16 c7.2.1 hW (fun b j q => f1 b j (by omega))
    obtain ⟨p1, p2, p3, p4, p5, p6, p7, p8, p9, p10⟩ := id hM1
    refine m_nearly hO hS p1 n16 p4 (fun r hr => p5 r (by omega)) ha hk14 (fun M2 f2 => ⟨_, rfl, rfl, ?_⟩)
    exact zInv.ro hP hC hM (fun b j q => f1 b j (by omega)) (c5.to (fun b j q => f1 b j (by omega))) (fun b j q => f2 b j (by omega))
  · refine c_nearly_bad hO hS c1.1 h ?_
    exact m_nearly_bad hO hS m1 h ⟨_, rfl, rfl, hI⟩
theorem ob_broken {O : zOm} (hO : zWld O) (hS : zS O = zmS zC0) {M : zMem} (hI : zInv M) {x y : Int} : zR O F_ToldNet_broken [(2, ((0 : Nat) : Int)), (0, x), (0, y)] M (zAns O F_Model_broken [(2, 250), (0, x), (0, y)]) := by
  obtain ⟨n, td, c, T, s, N, CA, CB, CI, CD, μ, A, Q, B, pl, hP, hC, hM⟩ := id hI
  obtain ⟨n2, n16, td41, c300, T5, hR, hZ, hCD, hμ, hW, hQs, hB⟩ := id hP
  obtain ⟨c1, c2, c3, c4, c5, c6, c7, c8, c9⟩ := id hC
  obtain ⟨m1, m2, m3, m4, m5, m6, m7, m8, m9, m10⟩ := id hM
  by_cases h : (0 ≤ x ∧ x < ((T : Nat) : Int)) ∧ 0 ≤ y ∧ y < ((T : Nat) : Int)
  · obtain ⟨t, rfl⟩ : ∃ k : Nat, x = ((k : Nat) : Int) := ⟨x.toNat, by omega⟩
    obtain ⟨u, rfl⟩ : ∃ k : Nat, y = ((k : Nat) : Int) := ⟨y.toNat, by omega⟩
    have ht : t < T := by omega
    have hu : u < T := by omega
    refine c_broken hO hS c3 T5 ht hu n16 (c4 t ht) (c4 u hu) (hW t ht) (hW u hu) ?_
    refine m_broken hO hS m6 T5 ht hu m1 n16 (m7 t ht) (m7 u hu) (hW t ht) (hW u hu) (Nat.le_trans (c4 t ht).2.2.1.2 (by omega)) (fun M2 f2 => ⟨_, rfl, rfl, ?_⟩)
    exact zInv.ro hP hC hM (fun _ _ _ => rfl) c5 (fun b j q => f2 b j (by omega))
  · refine c_broken_bad hO hS c3 T5 h ?_
    exact m_broken_bad hO hS m6 h ⟨_, rfl, rfl, hI⟩
theorem ob_line {O : zOm} (hO : zWld O) (hS : zS O = zmS zC0) {M : zMem} (hI : zInv M) {x : Int} : zR O F_ToldNet_line [(2, ((0 : Nat) : Int)), (0, x)] M (zAns O F_Model_line [(2, 250), (0, x)]) := by
  obtain ⟨n, td, c, T, s, N, CA, CB, CI, CD, μ, A, Q, B, pl, hP, hC, hM⟩ := id hI
  obtain ⟨n2, n16, td41, c300, T5, hR, hZ, hCD, hμ, hW, hQs, hB⟩ := id hP
  obtain ⟨c1, c2, c3, c4, c5, c6, c7, c8, c9⟩ := id hC
  obtain ⟨m1, m2, m3, m4, m5, m6, m7, m8, m9, m10⟩ := id hM
  by_cases h : 0 ≤ x ∧ x < ((T : Nat) : Int)
  · obtain ⟨t, rfl⟩ : ∃ k : Nat, x = ((k : Nat) : Int) := ⟨x.toNat, by omega⟩
    have ht : t < T := by omega
    by_cases h2 : tm (A t) ≤ 8
    · refine c_line hO hS c3 T5 ht (by omega) n16 (c4 t ht) (hW t ht) h2 (fun M1 f1 => ?_)
      have hM1 := hM.dn T5 n16 c7.2.1 hW (fun b j q => f1 b j (by omega))
      obtain ⟨p1, p2, p3, p4, p5, p6, p7, p8, p9, p10⟩ := id hM1
      refine m_line hO hS p6 T5 ht p1 (by omega) n16 (p7 t ht) (hW t ht) h2 (fun M2 f2 => ⟨_, rfl, rfl, ?_⟩)
      exact zInv.ro hP hC hM (fun b j q => f1 b j (by omega)) (c5.to (fun b j q => f1 b j (by omega))) (fun b j q => f2 b j (by omega))
    · refine c_line_big hO hS c3 T5 ht (c4 t ht) (by omega) ?_
      exact m_line_big hO hS m6 T5 ht (m7 t ht) (by omega) ⟨_, rfl, rfl, hI⟩
  · refine c_line_bad hO hS c3 T5 h ?_
    exact m_line_bad hO hS m6 h ⟨_, rfl, rfl, hI⟩
theorem ob_at {O : zOm} (hO : zWld O) (hS : zS O = zmS zC0) {M : zMem} (hI : zInv M) {x y : Int} : zR O F_ToldNet_at [(2, ((0 : Nat) : Int)), (0, x), (0, y)] M (zAns O F_Model_at [(2, 250), (0, x), (0, y)]) := by
  obtain ⟨n, td, c, T, s, N, CA, CB, CI, CD, μ, A, Q, B, pl, hP, hC, hM⟩ := id hI
  obtain ⟨n2, n16, td41, c300, T5, hR, hZ, hCD, hμ, hW, hQs, hB⟩ := id hP
  obtain ⟨c1, c2, c3, c4, c5, c6, c7, c8, c9⟩ := id hC
  obtain ⟨m1, m2, m3, m4, m5, m6, m7, m8, m9, m10⟩ := id hM
  have bad : (∀ t' : Nat, x = ((t' : Nat) : Int) → t' < T → ¬ (tm (A t') ≤ 8 ∧ 0 ≤ y ∧ y < ((tm (A t') : Nat) : Int))) → zR O F_ToldNet_at [(2, ((0 : Nat) : Int)), (0, x), (0, y)] M (zAns O F_Model_at [(2, 250), (0, x), (0, y)]) := fun h => by
    refine c_at_bad hO hS c3 T5 c4 h ?_
    exact m_at_bad (n := n) hO hS m6 T5 (fun t ht => (m7 t ht).1.1) h ⟨_, rfl, rfl, hI⟩
  by_cases h : 0 ≤ x ∧ x < ((T : Nat) : Int)
  · obtain ⟨t, rfl⟩ : ∃ k : Nat, x = ((k : Nat) : Int) := ⟨x.toNat, by omega⟩
    have ht : t < T := by omega
    by_cases h2 : tm (A t) ≤ 8 ∧ 0 ≤ y ∧ y < ((tm (A t) : Nat) : Int)
    · obtain ⟨i, rfl⟩ : ∃ k : Nat, y = ((k : Nat) : Int) := ⟨y.toNat, by omega⟩
      have hi : i < tm (A t) := by omega
      refine c_at hO hS c3 T5 ht (by omega) n16 (c4 t ht) (hW t ht) h2.1 hi (fun M1 f1 => ?_)
      have hM1 := hM.dn T5 n16 c7.2.1 hW (fun b j q => f1 b j (by omega))
      obtain ⟨p1, p2, p3, p4, p5, p6, p7, p8, p9, p10⟩ := id hM1
      refine m_at hO hS p6 T5 ht p1 (by omega) n16 (p7 t ht) (hW t ht) h2.1 hi (fun M2 f2 => ⟨_, rfl, rfl, ?_⟩)
      exact zInv.ro hP hC hM (fun b j q => f1 b j (by omega)) (c5.to (fun b j q => f1 b j (by omega))) (fun b j q => f2 b j (by omega))
    · exact bad (fun t' e1 _ => by
        rw [show t' = t by omega]
        exact h2)
  · exact bad (fun t' e1 e2 => absurd ⟨by omega, by omega⟩ h)
theorem ob_sentence {O : zOm} (hO : zWld O) (hS : zS O = zmS zC0) {M : zMem} (hI : zInv M) {x y : Int} : zR O F_ToldNet_sentence [(2, ((0 : Nat) : Int)), (0, x), (0, y)] M (zAns O F_Model_sentence [(2, 250), (0, x), (0, y)]) := by
  obtain ⟨n, td, c, T, s, N, CA, CB, CI, CD, μ, A, Q, B, pl, hP, hC, hM⟩ := id hI
  obtain ⟨n2, n16, td41, c300, T5, hR, hZ, hCD, hμ, hW, hQs, hB⟩ := id hP
  obtain ⟨c1, c2, c3, c4, c5, c6, c7, c8, c9⟩ := id hC
  obtain ⟨m1, m2, m3, m4, m5, m6, m7, m8, m9, m10⟩ := id hM
  have bad : (∀ t' : Nat, x = ((t' : Nat) : Int) → t' < T → ¬ (0 ≤ y ∧ y < ((zcnt (zWsn (A t')) 1024 : Nat) : Int))) → zR O F_ToldNet_sentence [(2, ((0 : Nat) : Int)), (0, x), (0, y)] M (zAns O F_Model_sentence [(2, 250), (0, x), (0, y)]) := fun h => by
    refine c_sent_bad hO hS c3 T5 c4 h ?_
    refine m_sentence_bad hO hS m6 T5 m1 n16 (fun t ht => ⟨m7 t ht, hW t ht⟩) h (fun M2 f2 => ⟨_, rfl, rfl, ?_⟩)
    exact zInv.ro hP hC hM (fun _ _ _ => rfl) c5 (fun b j q => f2 b j (by omega))
  by_cases h : 0 ≤ x ∧ x < ((T : Nat) : Int)
  · obtain ⟨t, rfl⟩ : ∃ k : Nat, x = ((k : Nat) : Int) := ⟨x.toNat, by omega⟩
    have ht : t < T := by omega
    by_cases h2 : 0 ≤ y ∧ y < ((zcnt (zWsn (A t)) 1024 : Nat) : Int)
    · obtain ⟨i, rfl⟩ : ∃ k : Nat, y = ((k : Nat) : Int) := ⟨y.toNat, by omega⟩
      have hi : i < zcnt (zWsn (A t)) 1024 := Int.ofNat_lt.mp h2.2
      refine c_sentence hO hS c3 T5 ht (by omega) n16 (c4 t ht) (hW t ht) hi (fun M1 f1 => ?_)
      have hM1 := hM.dn T5 n16 c7.2.1 hW (fun b j q => f1 b j (by omega))
      obtain ⟨p1, p2, p3, p4, p5, p6, p7, p8, p9, p10⟩ := id hM1
      refine m_sentence hO hS p6 T5 ht p1 n16 (p7 t ht) (hW t ht) hi (Nat.le_trans (c4 t ht).2.2.1.2 (by omega)) (fun M2 f2 => ⟨_, rfl, rfl, ?_⟩)
      exact zInv.ro hP hC hM (fun b j q => f1 b j (by omega)) (c5.to (fun b j q => f1 b j (by omega))) (fun b j q => f2 b j (by omega))
    · exact bad (fun t' e1 _ => by
        rw [show t' = t by omega]
        exact h2)
  · exact bad (fun t' e1 e2 => absurd ⟨by omega, by omega⟩ h)
theorem ob_spares {O : zOm} (hO : zWld O) (hS : zS O = zmS zC0) {M : zMem} (hI : zInv M) {x y : Int} : zR O F_ToldNet_spares [(2, ((0 : Nat) : Int)), (0, x), (0, y)] M (zAns O F_Model_spares [(2, 250), (0, x), (0, y)]) := by
  obtain ⟨n, td, c, T, s, N, CA, CB, CI, CD, μ, A, Q, B, pl, hP, hC, hM⟩ := id hI
  obtain ⟨n2, n16, td41, c300, T5, hR, hZ, hCD, hμ, hW, hQs, hB⟩ := id hP
  obtain ⟨c1, c2, c3, c4, c5, c6, c7, c8, c9⟩ := id hC
  obtain ⟨m1, m2, m3, m4, m5, m6, m7, m8, m9, m10⟩ := id hM
  have bad : (∀ t' : Nat, x = ((t' : Nat) : Int) → t' < T → ¬ (0 ≤ y ∧ y < ((zcnt (zWsn (A t')) 1024 : Nat) : Int))) → zR O F_ToldNet_spares [(2, ((0 : Nat) : Int)), (0, x), (0, y)] M (zAns O F_Model_spares [(2, 250), (0, x), (0, y)]) := fun h => by
    refine c_spar_bad hO hS c3 T5 c4 h ?_
    refine m_spares_bad hO hS m6 T5 m1 n16 (fun t ht => ⟨m7 t ht, hW t ht⟩) h (fun M2 f2 => ⟨_, rfl, rfl, ?_⟩)
    exact zInv.ro hP hC hM (fun _ _ _ => rfl) c5 (fun b j q => f2 b j (by omega))
  by_cases h : 0 ≤ x ∧ x < ((T : Nat) : Int)
  · obtain ⟨t, rfl⟩ : ∃ k : Nat, x = ((k : Nat) : Int) := ⟨x.toNat, by omega⟩
    have ht : t < T := by omega
    by_cases h2 : 0 ≤ y ∧ y < ((zcnt (zWsn (A t)) 1024 : Nat) : Int)
    · obtain ⟨i, rfl⟩ : ∃ k : Nat, y = ((k : Nat) : Int) := ⟨y.toNat, by omega⟩
      have hi : i < zcnt (zWsn (A t)) 1024 := Int.ofNat_lt.mp h2.2
      refine c_spares hO hS c3 T5 ht (by omega) n16 (c4 t ht) (hW t ht) hi (fun M1 f1 => ?_)
      have hM1 := hM.dn T5 n16 c7.2.1 hW (fun b j q => f1 b j (by omega))
      obtain ⟨p1, p2, p3, p4, p5, p6, p7, p8, p9, p10⟩ := id hM1
      refine m_spares hO hS p6 T5 ht p1 n16 (p7 t ht) (hW t ht) hi (Nat.le_trans (c4 t ht).2.2.1.2 (by omega)) (fun M2 f2 => ⟨_, rfl, rfl, ?_⟩)
      exact zInv.ro hP hC hM (fun b j q => f1 b j (by omega)) (c5.to (fun b j q => f1 b j (by omega))) (fun b j q => f2 b j (by omega))
    · exact bad (fun t' e1 _ => by
        rw [show t' = t by omega]
        exact h2)
  · exact bad (fun t' e1 e2 => absurd ⟨by omega, by omega⟩ h)
theorem ob_odds {O : zOm} (hO : zWld O) (hS : zS O = zmS zC0) {M : zMem} (hI : zInv M) {x y z : Int} : zR O F_ToldNet_odds [(2, ((0 : Nat) : Int)), (0, x), (0, y), (0, z)] M (zAns O F_Model_odds [(2, 250), (0, x), (0, y), (0, z)]) := by
  obtain ⟨n, td, c, T, s, N, CA, CB, CI, CD, μ, A, Q, B, pl, hP, hC, hM⟩ := id hI
  obtain ⟨n2, n16, td41, c300, T5, hR, hZ, hCD, hμ, hW, hQs, hB⟩ := id hP
  obtain ⟨c1, c2, c3, c4, c5, c6, c7, c8, c9⟩ := id hC
  obtain ⟨m1, m2, m3, m4, m5, m6, m7, m8, m9, m10⟩ := id hM
  by_cases h : (0 ≤ x ∧ x < ((T : Nat) : Int)) ∧ 1 ≤ z ∧ z ≤ 40
  · obtain ⟨t, rfl⟩ : ∃ k : Nat, x = ((k : Nat) : Int) := ⟨x.toNat, by omega⟩
    obtain ⟨k, rfl⟩ : ∃ k : Nat, z = ((k : Nat) : Int) := ⟨z.toNat, by omega⟩
    have ht : t < T := by omega
    refine c_odds hO hS c3 T5 ht c1 td41 (hR td (Nat.le_refl _)) n16 (c4 t ht) (hW t ht) (show 1 ≤ k by omega) (by omega) (fun M1 f1 => ?_)
    have hM1 := hM.dn T5 n16 c7.2.1 hW (fun b j q => f1 b j (by omega))
    obtain ⟨p1, p2, p3, p4, p5, p6, p7, p8, p9, p10⟩ := id hM1
    refine m_odds hO hS p6 T5 ht p1 n16 p4 (hR td (Nat.le_refl _)) (p7 t ht) (hW t ht) (by omega) (by omega) (fun M2 f2 => ⟨_, rfl, rfl, ?_⟩)
    exact zInv.ro hP hC hM (fun b j q => f1 b j (by omega)) (c5.to (fun b j q => f1 b j (by omega))) (fun b j q => f2 b j (by omega))
  · refine c_odds_bad hO hS c3 T5 h ?_
    exact m_odds_bad hO hS m6 h ⟨_, rfl, rfl, hI⟩
theorem ob_chance {O : zOm} (hO : zWld O) (hS : zS O = zmS zC0) {M : zMem} (hI : zInv M) {x y z : Int} : zR O F_ToldNet_chance [(2, ((0 : Nat) : Int)), (0, x), (0, y), (0, z)] M (zAns O F_Model_chance [(2, 250), (0, x), (0, y), (0, z)]) := by
  obtain ⟨n, td, c, T, s, N, CA, CB, CI, CD, μ, A, Q, B, pl, hP, hC, hM⟩ := id hI
  obtain ⟨n2, n16, td41, c300, T5, hR, hZ, hCD, hμ, hW, hQs, hB⟩ := id hP
  obtain ⟨c1, c2, c3, c4, c5, c6, c7, c8, c9⟩ := id hC
  obtain ⟨m1, m2, m3, m4, m5, m6, m7, m8, m9, m10⟩ := id hM
  by_cases h : (0 ≤ y ∧ y < ((n : Nat) : Int)) ∧ (0 ≤ z ∧ z < ((n : Nat) : Int)) ∧ y ≠ z
  · obtain ⟨a, rfl⟩ : ∃ k : Nat, y = ((k : Nat) : Int) := ⟨y.toNat, by omega⟩
    obtain ⟨b, rfl⟩ : ∃ k : Nat, z = ((k : Nat) : Int) := ⟨z.toNat, by omega⟩
    have ha : a < n := by omega
    have hb : b < n := by omega
    have hab : a ≠ b := by omega
    refine c_chance hO hS c1 td41 (hR td (Nat.le_refl _)) n16 ha hb hab (fun M1 f1 => ?_)
    have hM1 := hM.dn T5 n16 c7.2.1 hW (fun b j q => f1 b j (by omega))
    obtain ⟨p1, p2, p3, p4, p5, p6, p7, p8, p9, p10⟩ := id hM1
    refine m_chance hO hS p1 n16 p4 (hR td (Nat.le_refl _)) ha hb hab (fun M2 f2 => ⟨_, rfl, rfl, ?_⟩)
    exact zInv.ro hP hC hM (fun b j q => f1 b j (by omega)) (c5.to (fun b j q => f1 b j (by omega))) (fun b j q => f2 b j (by omega))
  · refine c_chance_bad hO hS c1.1 h ?_
    exact m_chance_bad hO hS m1 h ⟨_, rfl, rfl, hI⟩
theorem ob_count {O : zOm} (hO : zWld O) (hS : zS O = zmS zC0) {M : zMem} (hI : zInv M) {x : Int} : zR O F_ToldNet_count [(2, ((0 : Nat) : Int)), (0, x)] M (zAns O F_Model_count [(2, 250), (0, x)]) := by
  obtain ⟨n, td, c, T, s, N, CA, CB, CI, CD, μ, A, Q, B, pl, hP, hC, hM⟩ := id hI
  obtain ⟨n2, n16, td41, c300, T5, hR, hZ, hCD, hμ, hW, hQs, hB⟩ := id hP
  obtain ⟨c1, c2, c3, c4, c5, c6, c7, c8, c9⟩ := id hC
  obtain ⟨m1, m2, m3, m4, m5, m6, m7, m8, m9, m10⟩ := id hM
  refine c_count hO hS c3 T5 n16 c1 td41 (hR td (Nat.le_refl _)) c6.1 c7.1 (fun t ht => ⟨c4 t ht, hW t ht⟩) ?_
  refine m_count hO hS m6 T5 m1 n16 m2 m3.1 m8.1 m9.1 m4 (fun t ht => ⟨m7 t ht, hW t ht⟩) (fun M2 f2 => ⟨_, rfl, rfl, ?_⟩)
  exact zInv.ro hP hC hM (fun _ _ _ => rfl) c5 (fun b j q => f2 b j (by omega))
