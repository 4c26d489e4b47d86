/-! ===== the calls one by one: what asks; what changes a telling ===== -/
theorem ob_sort {O : zOm} (hO : zWld O) (hS : zS O = zmS zC0) {M : zMem} (hI : zInv M) {x y z w : Int} {v : Bool} : zR O F_ToldNet_sort [(2, ((0 : Nat) : Int)), (0, x), (0, y), (0, z), (0, zbI v), (0, w)] M (zAns O F_Model_sort [(2, 250), (0, x), (0, y), (0, z), (0, zbI v), (0, w)]) := by
  obtain ⟨n, td, c, T, s, N, CA, CB, CI, CD, μ, A, Q, B, pl, hP, hC, hM⟩ := id hI
  obtain ⟨n2, n16, td41, c300, T5, hR, hZ, hCD, hμ, hW, hQs, hB⟩ := id hP
  obtain ⟨c1, c2, c3, c4, c5, c6, c7, c8, c9⟩ := id hC
  obtain ⟨m1, m2, m3, m4, m5, m6, m7, m8, m9, m10⟩ := id hM
  by_cases h : (0 ≤ x ∧ x < ((T : Nat) : Int)) ∧ ((0 ≤ y ∧ y < ((n : Nat) : Int)) ∧ (0 ≤ z ∧ z < ((n : Nat) : Int)) ∧ y ≠ z) ∧ 0 ≤ w ∧ w ≤ 1
  · obtain ⟨t, rfl⟩ : ∃ k : Nat, x = ((k : Nat) : Int) := ⟨x.toNat, by omega⟩
    obtain ⟨a, rfl⟩ : ∃ k : Nat, y = ((k : Nat) : Int) := ⟨y.toNat, by omega⟩
    obtain ⟨b, rfl⟩ : ∃ k : Nat, z = ((k : Nat) : Int) := ⟨z.toNat, by omega⟩
    obtain ⟨u, rfl⟩ : ∃ k : Nat, w = ((k : Nat) : Int) := ⟨w.toNat, by omega⟩
    have ht : t < T := by omega
    have ha : a < n := by omega
    have hb : b < n := by omega
    have hab : a ≠ b := by omega
    have hu : u ≤ 1 := by omega
    refine c_sort hO hS c3 T5 ht c1.1 n16 (c4 t ht) (hW t ht) c5 ha hb hab hu (fun M1 f1 s1 => ?_)
    have hM1 := hM.dn T5 n16 c7.2.1 hW (fun b j q => f1 b j (by omega))
    obtain ⟨p1, p2, p3, p4, p5, p6, p7, p8, p9, p10⟩ := id hM1
    refine m_sort hO hS p6 T5 ht p1 n16 (p7 t ht) (hW t ht) ha hb hab hu (fun M2 f2 => ⟨_, rfl, rfl, ?_⟩)
    exact zInv.ro hP hC hM (fun b j q => f1 b j (by omega)) s1 (fun b j q => f2 b j (by omega))
  · refine c_sort_bad hO hS c3 T5 c1.1 h ?_
    exact m_sort_bad hO hS m6 m1 h ⟨_, rfl, rfl, hI⟩
theorem ob_ask {O : zOm} (hO : zWld O) (hS : zS O = zmS zC0) {M : zMem} (hI : zInv M) {x y z w : Int} {v : Bool} : zR O F_ToldNet_ask [(2, ((0 : Nat) : Int)), (0, x), (0, y), (0, z), (0, w), (0, zbI v)] M (zAns O F_Model_ask [(2, 250), (0, x), (0, y), (0, z), (0, w), (0, zbI v)]) := by
  obtain ⟨n, td, c, T, s, N, CA, CB, CI, CD, μ, A, Q, B, pl, hP, hC, hM⟩ := id hI
  obtain ⟨n2, n16, td41, c300, T5, hR, hZ, hCD, hμ, hW, hQs, hB⟩ := id hP
  obtain ⟨c1, c2, c3, c4, c5, c6, c7, c8, c9⟩ := id hC
  obtain ⟨m1, m2, m3, m4, m5, m6, m7, m8, m9, m10⟩ := id hM
  obtain ⟨u, hu, e⟩ : ∃ u : Nat, u ≤ 1 ∧ zbI v = ((u : Nat) : Int) := by
    cases v
    · exact ⟨0, by omega, rfl⟩
    · exact ⟨1, by omega, rfl⟩
  rw [e]
  by_cases h : (0 ≤ x ∧ x < ((T : Nat) : Int)) ∧ zIsQ n y z w = true
  · have ht0 := h.1
    obtain ⟨kd, a, b', rfl, rfl, hQ⟩ := zIsQ_ok h.2
    obtain ⟨t, rfl⟩ : ∃ k : Nat, x = ((k : Nat) : Int) := ⟨x.toNat, by omega⟩
    have ht : t < T := by omega
    refine c_ask hO hS c3 T5 ht c1.1 (by omega) n16 (c4 t ht) (hW t ht) c5 hQ hu (fun M1 f1 s1 => ?_)
    have hM1 := hM.dn T5 n16 c7.2.1 hW (fun b j q => f1 b j (by omega))
    obtain ⟨p1, p2, p3, p4, p5, p6, p7, p8, p9, p10⟩ := id hM1
    refine m_ask hO hS p6 T5 ht p1 n16 (p7 t ht) (hW t ht) hQ hu (fun M2 f2 => ⟨_, rfl, rfl, ?_⟩)
    exact zInv.ro hP hC hM (fun b j q => f1 b j (by omega)) s1 (fun b j q => f2 b j (by omega))
  · refine c_ask_bad hO hS c3 T5 c1.1 n16 h ?_
    exact m_ask_bad hO hS m6 m1 n16 h ⟨_, rfl, rfl, hI⟩
theorem ob_mean {O : zOm} (hO : zWld O) (hS : zS O = zmS zC0) {M : zMem} (hI : zInv M) {x y z w : Int} : zR O F_ToldNet_mean [(2, ((0 : Nat) : Int)), (0, x), (0, y), (0, z), (0, w)] M (zAns O F_Model_mean [(2, 250), (0, x), (0, y), (0, z), (0, w)]) := by
  obtain ⟨n, td, c, T, s, N, CA, CB, CI, CD, μ, A, Q, B, pl, hP, hC, hM⟩ := id hI
  obtain ⟨n2, n16, td41, c300, T5, hR, hZ, hCD, hμ, hW, hQs, hB⟩ := id hP
  obtain ⟨c1, c2, c3, c4, c5, c6, c7, c8, c9⟩ := id hC
  obtain ⟨m1, m2, m3, m4, m5, m6, m7, m8, m9, m10⟩ := id hM
  by_cases h : (0 ≤ x ∧ x < ((T : Nat) : Int)) ∧ zIsQ n y z w = true ∧ 0 ≤ y ∧ y ≤ 2
  · have hy := h.2.2
    have ht0 := h.1
    obtain ⟨kd, a, b', rfl, rfl, hQ⟩ := zIsQ_ok h.2.1
    obtain ⟨t, rfl⟩ : ∃ k : Nat, x = ((k : Nat) : Int) := ⟨x.toNat, by omega⟩
    have ht : t < T := by omega
    have hkd : kd ≤ 2 := by omega
    refine c_mean hO hS c3 T5 ht c1.1 (by omega) n16 (c4 t ht) (hW t ht) c5 hQ hkd (fun M1 f1 s1 => ?_)
    have hM1 := hM.dn T5 n16 c7.2.1 hW (fun b j q => f1 b j (by omega))
    obtain ⟨p1, p2, p3, p4, p5, p6, p7, p8, p9, p10⟩ := id hM1
    refine m_mean hO hS p6 T5 ht p1 n16 (p7 t ht) (hW t ht) hQ hkd (fun M2 f2 => ⟨_, rfl, rfl, ?_⟩)
    exact zInv.ro hP hC hM (fun b j q => f1 b j (by omega)) s1 (fun b j q => f2 b j (by omega))
  · refine c_mean_bad hO hS c3 T5 c1.1 n16 h ?_
    exact m_mean_bad hO hS m6 m1 n16 h ⟨_, rfl, rfl, hI⟩
theorem uup_id {α : Type} {A : Nat → α} {t : Nat} : uup A t (A t) = A := by
  funext u
  by_cases e : u = t
  · rw [e, uup_s]
  · rw [uup_n _ _ e]
theorem ob_leads {O : zOm} (hO : zWld O) (hS : zS O = zmS zC0) {M : zMem} (hI : zInv M) {x y z w : Int} : zR O F_ToldNet_leads [(2, ((0 : Nat) : Int)), (0, x), (0, y), (0, z), (0, w)] M (zAns O F_Model_leads [(2, 250), (0, x), (0, y), (0, z), (0, w)]) := by
  obtain ⟨n, td, c, T, s, N, CA, CB, CI, CD, μ, A, Q, B, pl, hP, hC, hM⟩ := id hI
  obtain ⟨n2, n16, td41, c300, T5, hR, hZ, hCD, hμ, hW, hQs, hB⟩ := id hP
  obtain ⟨c1, c2, c3, c4, c5, c6, c7, c8, c9⟩ := id hC
  obtain ⟨m1, m2, m3, m4, m5, m6, m7, m8, m9, m10⟩ := id hM
  by_cases h : (0 ≤ x ∧ x < ((T : Nat) : Int)) ∧ zIsQ n y z w = true
  · have ht0 := h.1
    obtain ⟨kd, a, b', rfl, rfl, hQ⟩ := zIsQ_ok h.2
    obtain ⟨t, rfl⟩ : ∃ k : Nat, x = ((k : Nat) : Int) := ⟨x.toNat, by omega⟩
    have ht : t < T := by omega
    refine c_leads hO hS c3 T5 ht c1.1 (by omega) n16 (c4 t ht) (hW t ht) c5 hQ (fun M1 f1 z1 s1 => ?_)
    have hM1 := hM.dn T5 n16 c7.2.1 hW (fun b j q => f1 b j (by omega))
    obtain ⟨p1, p2, p3, p4, p5, p6, p7, p8, p9, p10⟩ := id hM1
    refine m_leads hO hS p6 T5 ht p1 n16 (p7 t ht) (hW t ht) hQ (fun M2 f2 => ⟨_, rfl, rfl, n, td, c, T, s, N, CA, CB, CI, CD, μ, uup A t (A t), Q, B, pl, hP.tl (hW t ht), ?_, ?_⟩)
    · exact (hC.tl T5 td41 ht (fun b j q q2 => f1 b j (by omega)) s1 z1).up T5 td41 (fun b j q => f2 b j (by omega))
    · rw [uup_id]
      exact hM1.sc T5 n16 c7.2.1 hW (fun b j q => f2 b j (by omega))
  · refine c_leads_bad hO hS c3 T5 c1.1 n16 h ?_
    exact m_leads_bad hO hS m6 m1 n16 h ⟨_, rfl, rfl, hI⟩
theorem ob_led {O : zOm} (hO : zWld O) (hS : zS O = zmS zC0) {M : zMem} (hI : zInv M) {x y z w i : Int} : zR O F_ToldNet_led [(2, ((0 : Nat) : Int)), (0, x), (0, y), (0, z), (0, w), (0, i)] M (zAns O F_Model_led [(2, 250), (0, x), (0, y), (0, z), (0, w), (0, i)]) := by
  obtain ⟨n, td, c, T, s, N, CA, CB, CI, CD, μ, A, Q, B, pl, hP, hC, hM⟩ := id hI
  obtain ⟨n2, n16, td41, c300, T5, hR, hZ, hCD, hμ, hW, hQs, hB⟩ := id hP
  obtain ⟨c1, c2, c3, c4, c5, c6, c7, c8, c9⟩ := id hC
  obtain ⟨m1, m2, m3, m4, m5, m6, m7, m8, m9, m10⟩ := id hM
  by_cases h : (0 ≤ x ∧ x < ((T : Nat) : Int)) ∧ zIsQ n y z w = true
  · have ht0 := h.1
    obtain ⟨kd, a, b', rfl, rfl, hQ⟩ := zIsQ_ok h.2
    obtain ⟨t, rfl⟩ : ∃ k : Nat, x = ((k : Nat) : Int) := ⟨x.toNat, by omega⟩
    have ht : t < T := by omega
    refine c_led hO hS c3 T5 ht c1.1 (by omega) n16 (c4 t ht) (hW t ht) c5 hQ (fun M1 f1 z1 s1 => ?_)
    have hM1 := hM.dn T5 n16 c7.2.1 hW (fun b j q => f1 b j (by omega))
    obtain ⟨p1, p2, p3, p4, p5, p6, p7, p8, p9, p10⟩ := id hM1
    refine m_led hO hS p6 T5 ht p1 n16 (p7 t ht) (hW t ht) hQ (fun M2 f2 => ⟨_, rfl, rfl, n, td, c, T, s, N, CA, CB, CI, CD, μ, uup A t (A t), Q, B, pl, hP.tl (hW t ht), ?_, ?_⟩)
    · exact (hC.tl T5 td41 ht (fun b j q q2 => f1 b j (by omega)) s1 z1).up T5 td41 (fun b j q => f2 b j (by omega))
    · rw [uup_id]
      exact hM1.sc T5 n16 c7.2.1 hW (fun b j q => f2 b j (by omega))
  · refine c_led_bad hO hS c3 T5 c1.1 n16 h ?_
    exact m_led_bad hO hS m6 m1 n16 h ⟨_, rfl, rfl, hI⟩
theorem ob_harm {O : zOm} (hO : zWld O) (hS : zS O = zmS zC0) {M : zMem} (hI : zInv M) {x : Int} : zR O F_ToldNet_harm [(2, ((0 : Nat) : Int)), (0, x)] M (zAns O F_Model_harm [(2, 250), (0, x)]) := by
  obtain ⟨n, td, c, T, s, N, CA, CB, CI, CD, μ, A, Q, B, pl, hP, hC, hM⟩ := id hI
  obtain ⟨n2, n16, td41, c300, T5, hR, hZ, hCD, hμ, hW, hQs, hB⟩ := id hP
  obtain ⟨c1, c2, c3, c4, c5, c6, c7, c8, c9⟩ := id hC
  obtain ⟨m1, m2, m3, m4, m5, m6, m7, m8, m9, m10⟩ := id hM
  by_cases h : 0 ≤ x ∧ x < ((T : Nat) : Int)
  · obtain ⟨t, rfl⟩ : ∃ k : Nat, x = ((k : Nat) : Int) := ⟨x.toNat, by omega⟩
    have ht : t < T := by omega
    refine c_harm hO hS c3 T5 ht (by omega) n16 (c4 t ht) (hW t ht) c5 c6 hQs (fun M1 f1 s1 => ?_)
    have hM1 := hM.dn T5 n16 c7.2.1 hW (fun b j q => f1 b j (by omega))
    obtain ⟨p1, p2, p3, p4, p5, p6, p7, p8, p9, p10⟩ := id hM1
    refine m_harm hO hS p6 T5 ht p1 n16 (p7 t ht) (hW t ht) p8 hQs (fun M2 f2 => ⟨_, rfl, rfl, ?_⟩)
    exact zInv.ro hP hC hM (fun b j q => f1 b j (by omega)) s1 (fun b j q => f2 b j (by omega))
  · refine c_harm_bad hO hS c3 T5 h ?_
    exact m_harm_bad hO hS m6 h ⟨_, rfl, rfl, hI⟩
theorem zsA_w {n E : Nat} {A : zTl} {Q : zQl} {len : Int} (hw : zTw n A) : zTw n (zsA n A Q len E) := by
  unfold zsA
  split
  · split
    · exact hw
    · exact zTs_w hw _
  · split
    · exact hw
    · exact (zsi_w (s := (zTs A 0, zhm n (zTs A 0) Q)) (zTs_w hw 0) _).1
theorem ob_serve {O : zOm} (hO : zWld O) (hS : zS O = zmS zC0) {M : zMem} (hI : zInv M) {x y : Int} : zR O F_ToldNet_serve [(2, ((0 : Nat) : Int)), (0, x), (0, y)] M (zAns O F_Model_serve [(2, 250), (0, x), (0, y)]) := by
  obtain ⟨n, td, c, T, s, N, CA, CB, CI, CD, μ, A, Q, B, pl, hP, hC, hM⟩ := id hI
  obtain ⟨n2, n16, td41, c300, T5, hR, hZ, hCD, hμ, hW, hQs, hB⟩ := id hP
  obtain ⟨c1, c2, c3, c4, c5, c6, c7, c8, c9⟩ := id hC
  obtain ⟨m1, m2, m3, m4, m5, m6, m7, m8, m9, m10⟩ := id hM
  by_cases h : 0 ≤ x ∧ x < ((T : Nat) : Int)
  · obtain ⟨t, rfl⟩ : ∃ k : Nat, x = ((k : Nat) : Int) := ⟨x.toNat, by omega⟩
    have ht : t < T := by omega
    refine c_serve hO hS c3 T5 ht (by omega) n16 (c4 t ht) (hW t ht) c5 c6 hQs (fun M1 f1 s1 z1 => ?_)
    have hM1 := hM.dn T5 n16 c7.2.1 hW (fun b j q => f1 b j (by omega))
    obtain ⟨p1, p2, p3, p4, p5, p6, p7, p8, p9, p10⟩ := id hM1
    refine m_serve hO hS p6 T5 ht p1 n16 (p7 t ht) (hW t ht) p8 hQs (fun M2 f2 z2 => ⟨_, rfl, rfl, n, td, c, T, s, N, CA, CB, CI, CD, μ, uup A t (zsA n (A t) Q y (zcnt (tX (A t)) 256)), Q, B, pl, hP.tl (zsA_w (hW t ht)), ?_, ?_⟩)
    · exact (hC.tl T5 td41 ht (fun b j q q2 => f1 b j (by omega)) s1 z1).up T5 td41 (fun b j q => f2 b j (by omega))
    · exact hM1.tl T5 n16 hW ht (fun b j q q2 => f2 b j (by omega)) z2
  · refine c_serve_bad hO hS c3 T5 h ?_
    exact m_serve_bad hO hS m6 h ⟨_, rfl, rfl, hI⟩
theorem ob_mend {O : zOm} (hO : zWld O) (hS : zS O = zmS zC0) {M : zMem} (hI : zInv M) {x : Int} : zR O F_ToldNet_mend [(2, ((0 : Nat) : Int)), (0, x)] M (zAns O F_Model_mend [(2, 250), (0, x)]) := by
  obtain ⟨n, td, c, T, s, N, CA, CB, CI, CD, μ, A, Q, B, pl, hP, hC, hM⟩ := id hI
  obtain ⟨n2, n16, td41, c300, T5, hR, hZ, hCD, hμ, hW, hQs, hB⟩ := id hP
  obtain ⟨c1, c2, c3, c4, c5, c6, c7, c8, c9⟩ := id hC
  obtain ⟨m1, m2, m3, m4, m5, m6, m7, m8, m9, m10⟩ := id hM
  by_cases h : 0 ≤ x ∧ x < ((T : Nat) : Int)
  · obtain ⟨t, rfl⟩ : ∃ k : Nat, x = ((k : Nat) : Int) := ⟨x.toNat, by omega⟩
    have ht : t < T := by omega
    refine c_mend hO hS c3 T5 ht c1 td41 (hR td (Nat.le_refl _)) (by omega) n16 (c4 t ht) (hW t ht) (fun M1 f1 z1 => ?_)
    have hM1 := hM.dn T5 n16 c7.2.1 hW (fun b j q => f1 b j (by omega))
    obtain ⟨p1, p2, p3, p4, p5, p6, p7, p8, p9, p10⟩ := id hM1
    refine m_mend hO hS p6 T5 ht p1 (by omega) n16 p4 (p7 t ht) (hW t ht) (fun M2 f2 z2 => ⟨_, rfl, rfl, n, td, c, T, s, N, CA, CB, CI, CD, μ, uup A t (zmd n (A t) (N td)), Q, B, pl, hP.tl (zmd_w n16 (hW t ht)), ?_, ?_⟩)
    · exact (hC.tl T5 td41 ht (fun b j q q2 => f1 b j (by omega)) (c5.to (fun b j q => f1 b j (by omega))) z1).up T5 td41 (fun b j q => f2 b j (by omega))
    · exact hM1.tl T5 n16 hW ht (fun b j q q2 => f2 b j (by omega)) z2
  · refine c_mend_bad hO hS c3 T5 h ?_
    exact m_mend_bad hO hS m6 h ⟨_, rfl, rfl, hI⟩
theorem z267 {O : zOm} (hS : zS O = zmS zC0) {M : zMem} (hm : zMok (zS O) M) (j : Nat) (hj : j < 256) : M ((267 : Nat) : Int) ((j : Nat) : Int) = 0 ∨ M ((267 : Nat) : Int) ((j : Nat) : Int) = 1 := by
  obtain ⟨-, rs, h⟩ := zMA (a := 267) (ty := .boolean) (n := 256) hS rfl
  have h2 : ∀ j : Nat, j < 256 → zfit .boolean (M ((267 : Nat) : Int) ((j : Nat) : Int)) := hm 267 _ h
  exact h2 j hj
theorem ob_together {O : zOm} (hO : zWld O) (hS : zS O = zmS zC0) {M : zMem} (hI : zInv M) {x y z : Int} (hm : zMok (zS O) M) : zR O F_ToldNet_together [(2, ((0 : Nat) : Int)), (0, x), (0, y), (0, z)] M (zAns O F_Model_together [(2, 250), (0, x), (0, y), (0, z)]) := by
  obtain ⟨n, td, c, T, s, N, CA, CB, CI, CD, μ, A, Q, B, pl, hP, hC, hM⟩ := id hI
  obtain ⟨n2, n16, td41, c300, T5, hR, hZ, hCD, hμ, hW, hQs, hB⟩ := id hP
  obtain ⟨c1, c2, c3, c4, c5, c6, c7, c8, c9⟩ := id hC
  obtain ⟨m1, m2, m3, m4, m5, m6, m7, m8, m9, m10⟩ := id hM
  have bad : (∀ t' : Nat, x = ((t' : Nat) : Int) → t' < T → ¬ ((0 ≤ y ∧ y < ((tm (A t') : Nat) : Int)) ∧ (0 ≤ z ∧ z < ((tm (A t') : Nat) : Int)) ∧ y ≠ z)) → zR O F_ToldNet_together [(2, ((0 : Nat) : Int)), (0, x), (0, y), (0, z)] M (zAns O F_Model_together [(2, 250), (0, x), (0, y), (0, z)]) := fun h => by
    refine c_together_bad hO hS c3 T5 c4 h ?_
    exact m_together_bad hO hS m6 T5 (fun t ht => (m7 t ht).1.1) h ⟨_, rfl, rfl, hI⟩
  by_cases h : 0 ≤ x ∧ x < ((T : Nat) : Int)
  · obtain ⟨t, rfl⟩ : ∃ k : Nat, x = ((k : Nat) : Int) := ⟨x.toNat, by omega⟩
    have ht : t < T := by omega
    by_cases h2 : (0 ≤ y ∧ y < ((tm (A t) : Nat) : Int)) ∧ (0 ≤ z ∧ z < ((tm (A t) : Nat) : Int)) ∧ y ≠ z
    · obtain ⟨a, rfl⟩ : ∃ k : Nat, y = ((k : Nat) : Int) := ⟨y.toNat, by omega⟩
      obtain ⟨b, rfl⟩ : ∃ k : Nat, z = ((k : Nat) : Int) := ⟨z.toNat, by omega⟩
      have ha : a < tm (A t) := by omega
      have hb : b < tm (A t) := by omega
      have hab : a ≠ b := by omega
      refine c_together hO hS c3 T5 ht (by omega) n16 (c4 t ht) (hW t ht) ha hb hab (fun M1 f1 z1 => ?_)
      have hM1 := hM.dn T5 n16 c7.2.1 hW (fun b j q => f1 b j (by omega))
      obtain ⟨p1, p2, p3, p4, p5, p6, p7, p8, p9, p10⟩ := id hM1
      have h01 : ∀ j : Nat, j < 256 → M1 ((267 : Nat) : Int) ((j : Nat) : Int) = 0 ∨ M1 ((267 : Nat) : Int) ((j : Nat) : Int) = 1 := fun j hj => by
        rw [f1 _ _ (by omega)]
        exact z267 hS hm j hj
      refine m_together hO hS p6 T5 ht p1 (by omega) n16 (p7 t ht) (hW t ht) h01 ha hb hab (fun M2 f2 z2 => ⟨_, rfl, rfl, n, td, c, T, s, N, CA, CB, CI, CD, μ, uup A t (zRq n (zBd n (A t)) (zjc (tf (A t)) a b)), Q, B, pl, hP.tl (zRq_w n16), ?_, ?_⟩)
      · exact (hC.tl T5 td41 ht (fun b j q q2 => f1 b j (by omega)) (c5.to (fun b j q => f1 b j (by omega))) z1).up T5 td41 (fun b j q => f2 b j (by omega))
      · exact hM1.tl T5 n16 hW ht (fun b j q q2 => f2 b j (by omega)) z2
    · exact bad (fun t' e1 _ => by
        rw [show t' = t by omega]
        exact h2)
  · exact bad (fun t' e1 e2 => absurd ⟨by omega, by omega⟩ h)
theorem ob_apart {O : zOm} (hO : zWld O) (hS : zS O = zmS zC0) {M : zMem} (hI : zInv M) {x y : Int} (hm : zMok (zS O) M) : zR O F_ToldNet_apart [(2, ((0 : Nat) : Int)), (0, x), (0, y)] M (zAns O F_Model_apart [(2, 250), (0, x), (0, y)]) := by
  obtain ⟨n, td, c, T, s, N, CA, CB, CI, CD, μ, A, Q, B, pl, hP, hC, hM⟩ := id hI
  obtain ⟨n2, n16, td41, c300, T5, hR, hZ, hCD, hμ, hW, hQs, hB⟩ := id hP
  obtain ⟨c1, c2, c3, c4, c5, c6, c7, c8, c9⟩ := id hC
  obtain ⟨m1, m2, m3, m4, m5, m6, m7, m8, m9, m10⟩ := id hM
  by_cases h : (0 ≤ x ∧ x < ((T : Nat) : Int)) ∧ 0 ≤ y ∧ y < ((n : Nat) : Int)
  · obtain ⟨t, rfl⟩ : ∃ k : Nat, x = ((k : Nat) : Int) := ⟨x.toNat, by omega⟩
    have ht : t < T := by omega
    obtain ⟨p, rfl⟩ : ∃ k : Nat, y = ((k : Nat) : Int) := ⟨y.toNat, by omega⟩
    have hp : p < n := by omega
    by_cases h2 : zSz (tf (A t)) n (tf (A t) p) = 1
    · refine c_apart_al hO hS c3 T5 ht c1.1 n16 (c4 t ht) (hW t ht) hp h2 ?_
      exact m_apart_al hO hS m6 T5 ht m1 n16 (m7 t ht) (hW t ht) hp h2 ⟨_, rfl, rfl, hI⟩
    · refine c_apart hO hS c3 T5 ht c1.1 (by omega) n16 (c4 t ht) (hW t ht) hp h2 (fun M1 f1 z1 => ?_)
      have hM1 := hM.dn T5 n16 c7.2.1 hW (fun b j q => f1 b j (by omega))
      obtain ⟨p1, p2, p3, p4, p5, p6, p7, p8, p9, p10⟩ := id hM1
      have h01 : ∀ j : Nat, j < 256 → M1 ((267 : Nat) : Int) ((j : Nat) : Int) = 0 ∨ M1 ((267 : Nat) : Int) ((j : Nat) : Int) = 1 := fun j hj => by
        rw [f1 _ _ (by omega)]
        exact z267 hS hm j hj
      refine m_apart hO hS p6 T5 ht p1 (by omega) n16 (p7 t ht) (hW t ht) h01 hp h2 (fun M2 f2 z2 => ⟨_, rfl, rfl, n, td, c, T, s, N, CA, CB, CI, CD, μ, uup A t (zRq n (zBd n (A t)) (zap (A t) p)), Q, B, pl, hP.tl (zRq_w n16), ?_, ?_⟩)
      · exact (hC.tl T5 td41 ht (fun b j q q2 => f1 b j (by omega)) (c5.to (fun b j q => f1 b j (by omega))) z1).up T5 td41 (fun b j q => f2 b j (by omega))
      · exact hM1.tl T5 n16 hW ht (fun b j q q2 => f2 b j (by omega)) z2
  · refine c_apart_bad hO hS c3 T5 c1.1 h ?_
    exact m_apart_bad hO hS m6 m1 h ⟨_, rfl, rfl, hI⟩
theorem ob_leave {O : zOm} (hO : zWld O) (hS : zS O = zmS zC0) {M : zMem} (hI : zInv M) {x y : Int} {v : Bool} (hy : zin32 y) : zR O F_ToldNet_leave [(2, ((0 : Nat) : Int)), (0, x), (0, y), (0, zbI v)] M (zAns O F_Model_leave [(2, 250), (0, x), (0, y), (0, zbI v)]) := by
  obtain ⟨n, td, c, T, s, N, CA, CB, CI, CD, μ, A, Q, B, pl, hP, hC, hM⟩ := id hI
  obtain ⟨n2, n16, td41, c300, T5, hR, hZ, hCD, hμ, hW, hQs, hB⟩ := id hP
  obtain ⟨c1, c2, c3, c4, c5, c6, c7, c8, c9⟩ := id hC
  obtain ⟨m1, m2, m3, m4, m5, m6, m7, m8, m9, m10⟩ := id hM
  have bad : (¬ (0 ≤ x ∧ x < ((T : Nat) : Int)) ∨ ∀ t' : Nat, x = ((t' : Nat) : Int) → zpk (tX (A t')) y 256 = -1) → (¬ (0 ≤ x ∧ x < ((T : Nat) : Int)) ∨ y < 0 ∨ ∀ t' : Nat, x = ((t' : Nat) : Int) → ((zcnt (tX (A t')) 256 : Nat) : Int) ≤ y) → zR O F_ToldNet_leave [(2, ((0 : Nat) : Int)), (0, x), (0, y), (0, zbI v)] M (zAns O F_Model_leave [(2, 250), (0, x), (0, y), (0, zbI v)]) := fun h g => by
    refine c_leave_bad hO hS c3 T5 n16 (fun t ht => ⟨c4 t ht, hW t ht⟩) hy h ?_
    exact m_leave_bad hO hS m6 T5 (fun t ht => ⟨m7 t ht, hW t ht⟩) g ⟨_, rfl, rfl, hI⟩
  by_cases h : 0 ≤ x ∧ x < ((T : Nat) : Int)
  · obtain ⟨t, rfl⟩ : ∃ k : Nat, x = ((k : Nat) : Int) := ⟨x.toNat, by omega⟩
    have ht : t < T := by omega
    rcases zpk_cases (tX (A t)) y 256 with ⟨k, g1, g2, g3, rfl⟩ | ⟨g1, g2⟩
    · refine c_leave hO hS c3 T5 ht n16 (c4 t ht) (hW t ht) g2 g3 rfl (fun M1 f1 z1 => ?_)
      have hM1 := hM.dn T5 n16 c7.2.1 hW (fun b j q => f1 b j (by omega))
      obtain ⟨p1, p2, p3, p4, p5, p6, p7, p8, p9, p10⟩ := id hM1
      refine m_leave hO hS p6 T5 ht (p7 t ht) (hW t ht) g2 g3 rfl (fun M2 f2 z2 => ⟨_, rfl, rfl, n, td, c, T, s, N, CA, CB, CI, CD, μ, uup A t (zTv (A t) (zv1 (A t) k (if v = true then 2 else 1))), Q, B, pl, hP.tl (zv1_w (hW t ht) g3 (by split <;> omega)), ?_, ?_⟩)
      · exact (hC.tl T5 td41 ht (fun b j q q2 => f1 b j (by omega)) (c5.to (fun b j q => f1 b j (by omega))) z1).up T5 td41 (fun b j q => f2 b j (by omega))
      · exact hM1.tl T5 n16 hW ht (fun b j q q2 => f2 b j (by omega)) z2
    · refine bad (Or.inr (fun t' e => by rw [show t' = t by omega]; exact g1)) ?_
      rcases g2 with g2 | g2
      · exact Or.inr (Or.inl g2)
      · exact Or.inr (Or.inr (fun t' e => by rw [show t' = t by omega]; exact g2))
  · exact bad (Or.inl h) (Or.inl h)
theorem ob_reader {O : zOm} (hO : zWld O) (hS : zS O = zmS zC0) {M : zMem} (hI : zInv M) {x y z w : Int} : zR O F_ToldNet_reader [(2, ((0 : Nat) : Int)), (0, x), (0, y), (0, z), (0, w)] M (zAns O F_Model_reader [(2, 250), (0, x), (0, y), (0, z), (0, w)]) := by
  obtain ⟨n, td, c, T, s, N, CA, CB, CI, CD, μ, A, Q, B, pl, hP, hC, hM⟩ := id hI
  obtain ⟨n2, n16, td41, c300, T5, hR, hZ, hCD, hμ, hW, hQs, hB⟩ := id hP
  obtain ⟨c1, c2, c3, c4, c5, c6, c7, c8, c9⟩ := id hC
  obtain ⟨m1, m2, m3, m4, m5, m6, m7, m8, m9, m10⟩ := id hM
  by_cases h : Q.1 < 10 ∧ zIsQ n x y z = true ∧ 1 ≤ w ∧ w ≤ 9
  · have hw0 := h.2.2
    obtain ⟨kd, a, b', rfl, rfl, hQ⟩ := zIsQ_ok h.2.1
    obtain ⟨u, rfl⟩ : ∃ k : Nat, w = ((k : Nat) : Int) := ⟨w.toNat, by omega⟩
    have h10 := h.1
    have hu : 1 ≤ u := by omega
    have hu9 : u ≤ 9 := by omega
    refine c_reader hO hS c1.1 n16 c6 hQs h10 hQ hu hu9 (fun M1 f1 z1 => ?_)
    have hM1 := hM.dn T5 n16 c7.2.1 hW (fun b j q => f1 b j (by omega))
    obtain ⟨p1, p2, p3, p4, p5, p6, p7, p8, p9, p10⟩ := id hM1
    refine m_reader hO hS p1 n16 p8 hQs h10 hQ hu hu9 (fun M2 f2 z2 => ⟨_, rfl, rfl, n, td, c, T, s, N, CA, CB, CI, CD, μ, A, zQad Q kd a z b' u, B, pl, ⟨n2, n16, td41, c300, T5, hR, hZ, hCD, hμ, hW, zQad_s hQs h10 hQ hu9, hB⟩, ?_, ?_⟩)
    · have hC1 : iC M1 n td c T s N μ A (zQad Q kd a z b' u) B pl := ⟨c1.to td41 (fun b j q => f1 b j (by omega)), fun r hr => by rw [f1 _ _ (by omega)]; exact c2 r hr, by rw [f1 _ _ (by omega)]; exact c3, fun t ht => (c4 t ht).to (fun b j a1 a2 => f1 b j (by omega)), c5.to (fun b j q => f1 b j (by omega)), z1, c7.to (fun b j q => f1 b j (by omega)), c8.to (fun j => f1 _ _ (by omega)), by rw [f1 _ _ (by omega)]; exact c9⟩
      exact hC1.up T5 td41 (fun b j q => f2 b j (by omega))
    · exact ⟨by rw [f2 _ _ (by omega)]; exact p1, by rw [f2 _ _ (by omega)]; exact p2, p3.to (fun b j q => f2 b j (by omega)), p4.to (fun j => f2 _ _ (by omega)), fun r hr => by rw [f2 _ _ (by omega)]; exact p5 r hr, by rw [f2 _ _ (by omega)]; exact p6, fun t ht => (p7 t ht).to n16 (hW t ht) (fun b j q => f2 b j (by omega)), z2, p9.to (fun b j q => f2 b j (by omega)), by rw [f2 _ _ (by omega)]; exact p10⟩
  · refine c_reader_bad hO hS c1.1 n16 c6 hQs h ?_
    exact m_reader_bad hO hS m1 n16 m8 hQs h ⟨_, rfl, rfl, hI⟩
theorem ob_make {O : zOm} (hO : zWld O) (hS : zS O = zmS zC0) {M : zMem} (hI : zInv M) {x : Int} : zR O F_ToldNet_make [(2, ((0 : Nat) : Int)), (0, x)] M (zAns O F_Model_make [(2, 250), (0, x)]) := by
  obtain ⟨n, td, c, T, s, N, CA, CB, CI, CD, μ, A, Q, B, pl, hP, hC, hM⟩ := id hI
  obtain ⟨n2, n16, td41, c300, T5, hR, hZ, hCD, hμ, hW, hQs, hB⟩ := id hP
  obtain ⟨c1, c2, c3, c4, c5, c6, c7, c8, c9⟩ := id hC
  obtain ⟨m1, m2, m3, m4, m5, m6, m7, m8, m9, m10⟩ := id hM
  by_cases h : ((T : Nat) : Int) = 5 ∨ ¬ (0 ≤ x ∧ x ≤ 4) ∨ x = 3 ∧ 8 < n
  · refine c_make_bad hO hS c3 T5 c1.1 h ?_
    exact m_make_bad hO hS m6 m1 h ⟨_, rfl, rfl, hI⟩
  · obtain ⟨w, rfl⟩ : ∃ k : Nat, x = ((k : Nat) : Int) := ⟨x.toNat, by omega⟩
    have hT5 : T < 5 := by omega
    have hw : w ≤ 4 := by omega
    have h8 : w = 3 → n ≤ 8 := by omega
    refine c_make hO hS c3 hT5 c1 td41 (hR td (Nat.le_refl _)) (by omega) n16 (fun r hr => ⟨c2 r (by omega), by have := hμ r (by omega); omega⟩) hw h8 (fun M1 f1 t1 z1 => ?_)
    have hM1 := hM.dn T5 n16 c7.2.1 hW (fun b j q => f1 b j (by omega))
    obtain ⟨p1, p2, p3, p4, p5, p6, p7, p8, p9, p10⟩ := id hM1
    refine m_make hO hS p6 hT5 p1 (by omega) n16 p4 (fun a => (hR td (Nat.le_refl _)).2.1 a) (fun r hr => ⟨p5 r (by omega), by have := hμ r (by omega); omega⟩) hw h8 (fun M2 f2 t2 z2 => ⟨_, rfl, rfl, n, td, c, T + 1, s, N, CA, CB, CI, CD, μ, uup A T (zRq n (N td) (zMkL n (N td) μ w)), Q, B, pl, hP.nw hT5 (zRq_w n16), ?_, ?_⟩)
    · exact (hC.nw hT5 td41 (fun b j q q2 => f1 b j (by omega)) (c5.to (fun b j q => f1 b j (by omega))) t1 z1).up (by omega) td41 (fun b j q => f2 b j (by omega))
    · exact hM1.nw hT5 n16 hW (fun b j q q2 => f2 b j (fun z => by
        clear h8
        rcases z with z | z | z | z | z
        · clear f1 f2; omega
        · exact q2 (Or.inr z)
        · clear q2; omega
        · clear q2; omega
        · clear q2; omega)) t2 z2
theorem ob_copy {O : zOm} (hO : zWld O) (hS : zS O = zmS zC0) {M : zMem} (hI : zInv M) {x : Int} : zR O F_ToldNet_copy [(2, ((0 : Nat) : Int)), (0, x)] M (zAns O F_Model_copy [(2, 250), (0, x)]) := by
  obtain ⟨n, td, c, T, s, N, CA, CB, CI, CD, μ, A, Q, B, pl, hP, hC, hM⟩ := id hI
  obtain ⟨n2, n16, td41, c300, T5, hR, hZ, hCD, hμ, hW, hQs, hB⟩ := id hP
  obtain ⟨c1, c2, c3, c4, c5, c6, c7, c8, c9⟩ := id hC
  obtain ⟨m1, m2, m3, m4, m5, m6, m7, m8, m9, m10⟩ := id hM
  by_cases h : T < 5 ∧ 0 ≤ x ∧ x < ((T : Nat) : Int)
  · obtain ⟨t, rfl⟩ : ∃ k : Nat, x = ((k : Nat) : Int) := ⟨x.toNat, by omega⟩
    have ht : t < T := by omega
    have hT5 := h.1
    refine c_copy hO hS c3 hT5 ht n16 (c4 t ht) (hW t ht) (fun M1 f1 t1 z1 => ?_)
    have hM1 := hM.dn T5 n16 c7.2.1 hW (fun b j q => f1 b j (by omega))
    obtain ⟨p1, p2, p3, p4, p5, p6, p7, p8, p9, p10⟩ := id hM1
    refine m_copy hO hS p6 hT5 ht n16 (p7 t ht) (hW t ht) (fun M2 f2 t2 z2 => ⟨_, rfl, rfl, n, td, c, T + 1, s, N, CA, CB, CI, CD, μ, uup A T (A t), Q, B, pl, hP.nw hT5 (hW t ht), ?_, ?_⟩)
    · exact (hC.nw hT5 td41 (fun b j q q2 => f1 b j (by omega)) (c5.to (fun b j q => f1 b j (by omega))) t1 z1).up (by omega) td41 (fun b j q => f2 b j (by omega))
    · exact hM1.nw hT5 n16 hW (fun b j q q2 => f2 b j (by omega)) t2 z2
  · refine c_copy_bad hO hS c3 T5 h ?_
    exact m_copy_bad hO hS m6 h T5 ⟨_, rfl, rfl, hI⟩
theorem ob_drop {O : zOm} (hO : zWld O) (hS : zS O = zmS zC0) {M : zMem} (hI : zInv M) : zR O F_ToldNet_drop [(2, ((0 : Nat) : Int))] M (zAns O F_Model_drop [(2, 250)]) := by
  obtain ⟨n, td, c, T, s, N, CA, CB, CI, CD, μ, A, Q, B, pl, hP, hC, hM⟩ := id hI
  obtain ⟨n2, n16, td41, c300, T5, hR, hZ, hCD, hμ, hW, hQs, hB⟩ := id hP
  obtain ⟨c1, c2, c3, c4, c5, c6, c7, c8, c9⟩ := id hC
  obtain ⟨m1, m2, m3, m4, m5, m6, m7, m8, m9, m10⟩ := id hM
  cases T with
  | zero =>
    refine c_drop_bad hO hS c3 ?_
    exact m_drop_bad hO hS m6 ⟨_, rfl, rfl, hI⟩
  | succ u =>
    refine c_drop hO hS c3 (by omega) (fun M1 f1 x1 => ?_)
    have hM1 := hM.dn T5 n16 c7.2.1 hW (fun b j q => f1 b j (by omega))
    obtain ⟨p1, p2, p3, p4, p5, p6, p7, p8, p9, p10⟩ := id hM1
    refine m_drop hO hS p6 (by omega) T5 (fun M2 f2 y1 => ⟨_, rfl, rfl, n, td, c, u, s, N, CA, CB, CI, CD, μ, A, Q, B, pl, ⟨n2, n16, td41, c300, by omega, hR, hZ, hCD, hμ, fun t ht => hW t (by omega), hQs, hB⟩, ?_, ?_⟩)
    · have hC1 : iC M1 n td c u s N μ A Q B pl := ⟨c1.to td41 (fun b j q => f1 b j (by omega)), fun r hr => by rw [f1 _ _ (by omega)]; exact c2 r hr, x1, fun t ht => (c4 t (by omega)).to (fun b j a1 a2 => f1 b j (by omega)), c5.to (fun b j q => f1 b j (by omega)), c6.to (fun b j q => f1 b j (by omega)), c7.to (fun b j q => f1 b j (by omega)), c8.to (fun j => f1 _ _ (by omega)), by rw [f1 _ _ (by omega)]; exact c9⟩
      exact hC1.up (by omega) td41 (fun b j q => f2 b j (by omega))
    · exact ⟨by rw [f2 _ _ (by omega)]; exact p1, by rw [f2 _ _ (by omega)]; exact p2, p3.to (fun b j q => f2 b j (by omega)), p4.to (fun j => f2 _ _ (by omega)), fun r hr => by rw [f2 _ _ (by omega)]; exact p5 r hr, y1, fun t ht => (p7 t (by omega)).to n16 (hW t (by omega)) (fun b j q => f2 b j (by omega)), p8.to (fun b j q => f2 b j (by omega)), p9.to (fun b j q => f2 b j (by omega)), by rw [f2 _ _ (by omega)]; exact p10⟩
