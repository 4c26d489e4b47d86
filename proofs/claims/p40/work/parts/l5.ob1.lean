/-! ===== the calls one by one: the tape, the days, the marks ===== -/
section OB1
variable {M M' : zMem} {n td c T s s' : Nat} {N : Nat → Nat → Nat → Bool} {N0 : Nat → Nat → Bool} {CA CB : Nat → Nat} {CI : Nat → Bool} {CD : Nat → Nat} {μ : Nat → Nat} {A : Nat → zTl} {Q : zQl} {B B' : Nat → Nat} {pl pl' : Int}
theorem iC.tp (hT : T ≤ 5) (htd : td < 41) (h : iC M n td c T s N μ A Q B pl) (e : ∀ b j, (b = ((0 : Nat) : Int) ∧ (j = 4 ∨ j = 5) ∨ ((1 : Nat) : Int) ≤ b ∧ b ≤ ((85 : Nat) : Int) ∨ b = ((86 : Nat) : Int) ∧ j = 5 ∨ b = ((87 : Nat) : Int) ∨ b = ((91 : Nat) : Int) ∨ b = ((148 : Nat) : Int) ∧ j = 7 ∨ ((149 : Nat) : Int) ≤ b ∧ b ≤ ((152 : Nat) : Int) ∨ ((185 : Nat) : Int) ≤ b ∧ b ≤ ((249 : Nat) : Int)) → ¬ (b = ((0 : Nat) : Int) ∧ j = 5 ∨ b = ((86 : Nat) : Int) ∧ j = 5 ∨ b = ((87 : Nat) : Int)) → M' b j = M b j) (hs : cSo M') (ht : cTp M' s' B') (hp : M' ((0 : Nat) : Int) ((5 : Nat) : Int) = pl') : iC M' n td c T s' N μ A Q B' pl' := by
  obtain ⟨h1, h2, h3, h4, h5, h6, h7, h8, h9⟩ := h
  exact ⟨h1.to htd (fun b j q => e b j (by omega) (by omega)), fun r hr => by rw [e _ _ (by omega) (by omega)]; exact h2 r hr, by rw [e _ _ (by omega) (by omega)]; exact h3, fun t ht => (h4 t ht).to (fun b j a1 a2 => e b j (by omega) (by omega)), hs, h6.to (fun b j q => e b j (by omega) (by omega)), ht, h8.to (fun j => e _ _ (by omega) (by omega)), hp⟩
theorem iM.tp (hT : T ≤ 5) (hn : n ≤ 16) (hA : ∀ t, t < T → zTw n (A t)) (h : iM M n td c T s N0 CA CB CI CD μ A Q B pl) (e : ∀ b j, (b = 250 ∧ (j = 1 ∨ j = 4 ∨ j = 5 ∨ j = 11 ∨ j = 28 ∨ j = 33 ∨ j = 40) ∨ ((251 : Nat) : Int) ≤ b ∧ b ≤ ((256 : Nat) : Int) ∨ b = 258 ∧ j < 5 ∨ (b = 259 ∨ b = 260 ∨ b = 262 ∨ b = 263) ∧ j < 80 ∨ (b = 261 ∨ b = 264 ∨ b = 265 ∨ b = 266) ∧ j < 1280 ∨ ((274 : Nat) : Int) ≤ b ∧ b ≤ ((278 : Nat) : Int)) → ¬ (b = 250 ∧ (j = 33 ∨ j = 40) ∨ b = 278) → M' b j = M b j) (ht : rTp M' s' B') (hp : ∃ pw : Int, M' 250 ((40 : Nat) : Int) = pw) : iM M' n td c T s' N0 CA CB CI CD μ A Q B' pl' := by
  obtain ⟨h1, h2, h3, h4, h5, h6, h7, h8, h9, h10⟩ := h
  exact ⟨by rw [e _ _ (by omega) (by omega)]; exact h1, by rw [e _ _ (by omega) (by omega)]; exact h2, h3.to (fun b j q => e b j (by omega) (by omega)), h4.to (fun j => e _ _ (by omega) (by omega)), fun r hr => by rw [e _ _ (by omega) (by omega)]; exact h5 r hr, by rw [e _ _ (by omega) (by omega)]; exact h6, fun t ht => (h7 t ht).to hn (hA t ht) (fun b j q => e b j (by omega) (by omega)), h8.to (fun b j q => e b j (by omega) (by omega)), ht, hp⟩
end OB1
/-- behind the class's answer: the reference answers alike, and both keep what they keep -/
def zAns (O : zOm) (f : zMR) (as : List zV) : Option zV → zMem → Prop := fun v M1 => match v with
  | some (0, x) => zR O f as M1 (fun v' M2 => ∃ r, some (0, x) = some (0, r) ∧ v' = some (0, r) ∧ zInv M2)
  | _ => False
theorem zAns.use {O : zOm} {f : zMR} {as : List zV} {v : Option zV} {M1 : zMem} (h : zAns O f as v M1) : (∃ r, v = some (0, r)) ∧ zR O f as M1 (fun v' M2 => ∃ r, v = some (0, r) ∧ v' = some (0, r) ∧ zInv M2) := by
  unfold zAns at h
  split at h
  next x => exact ⟨⟨x, rfl⟩, h⟩
  next => exact h.elim
/-- it answers, whatever the class answered -/
def zAnsV (O : zOm) (f : zMR) (as : List zV) : Option zV → zMem → Prop := fun v M1 => (∃ r, v = some (0, r)) ∧ zR O f as M1 (fun v' M2 => (∃ r, v' = some (0, r)) ∧ zInv M2)
theorem ob_feed {O : zOm} (hO : zWld O) (hS : zS O = zmS zC0) {M : zMem} (hI : zInv M) {x1 x2 x3 x4 x5 : Int} : zR O F_ToldNet_feed [(2, ((0 : Nat) : Int)), (0, x1), (0, x2), (0, x3), (0, x4), (0, x5)] M (zAns O F_Model_feed [(2, 250), (0, x1), (0, x2), (0, x3), (0, x4), (0, x5)]) := by
  obtain ⟨n, td, c, T, s, N, CA, CB, CI, CD, μ, A, Q, B, pl, hP, hC, hM⟩ := id hI
  obtain ⟨n2, n16, td41, c300, T5, hR, hZ, hCD, hμ, hW, hQs, hB⟩ := id hP
  obtain ⟨c1, c2, c3, c4, c5, c6, c7, c8, c9⟩ := id hC
  obtain ⟨m1, m2, m3, m4, m5, m6, m7, m8, m9, m10⟩ := id hM
  by_cases h : s + 20 ≤ 2000
  · refine c_feed hO hS c7.1 h (fun i hi => (c7.2.2 i hi).1) (fun M1 f1 s1 b1 => ?_)
    have hM1 := hM.dn T5 n16 c7.2.1 hW (fun b j q => f1 b j (by omega))
    obtain ⟨-, -, -, -, -, -, -, -, p9, p10⟩ := id hM1
    refine m_feed hO hS p9.1 h p9.2.2 (fun M2 f2 s2 b2 => ⟨_, rfl, rfl, n, td, c, T, s + 20, N, CA, CB, CI, CD, μ, A, Q, zfd B s x1 x2 x3 x4 x5, pl, ⟨n2, n16, td41, c300, T5, hR, hZ, hCD, hμ, hW, hQs, zfd_lt hB⟩, ?_, ?_⟩)
    · exact (hC.tp (M' := M1) (s' := s + 20) (B' := zfd B s x1 x2 x3 x4 x5) (pl' := pl) T5 td41 (fun b j _ q => f1 b j (by omega)) (c5.to (fun b j q => f1 b j (by omega))) ⟨s1, h, fun i hi => ⟨b1 i hi, zfd_lt hB i⟩⟩ (by rw [f1 _ _ (by omega)]; exact c9)).up T5 td41 (fun b j q => f2 b j (by omega))
    · exact hM1.tp T5 n16 hW (fun b j _ q => f2 b j (by omega)) ⟨s2, h, b2⟩ (by rw [f2 _ _ (by omega)]; exact p10)
  · refine c_feed_bad hO hS c7.1 c7.2.1 (by omega) ?_
    exact m_feed_bad hO hS m9.1 c7.2.1 (by omega) ⟨_, rfl, rfl, hI⟩
theorem ob_back {O : zOm} (hO : zWld O) (hS : zS O = zmS zC0) {M : zMem} (hI : zInv M) {x : Int} : zR O F_ToldNet_back [(2, ((0 : Nat) : Int)), (0, x)] M (zAns O F_Model_back [(2, 250), (0, x)]) := by
  obtain ⟨n, td, c, T, s, N, CA, CB, CI, CD, μ, A, Q, B, pl, hP, hC, hM⟩ := id hI
  obtain ⟨n2, n16, td41, c300, T5, hR, hZ, hCD, hμ, hW, hQs, hB⟩ := id hP
  obtain ⟨c1, c2, c3, c4, c5, c6, c7, c8, c9⟩ := id hC
  obtain ⟨m1, m2, m3, m4, m5, m6, m7, m8, m9, m10⟩ := id hM
  have hs2 := c7.2.1
  by_cases h : 0 ≤ x ∧ x ≤ ((s : Nat) : Int)
  · obtain ⟨k, rfl⟩ : ∃ k : Nat, x = ((k : Nat) : Int) := ⟨x.toNat, by omega⟩
    have hk : k ≤ s := by omega
    refine c_back hO hS c7.1 hs2 hk (fun M1 f1 s1 => ?_)
    have hM1 := hM.dn T5 n16 hs2 hW (fun b j q => f1 b j (by omega))
    obtain ⟨-, -, -, -, -, -, -, -, p9, p10⟩ := id hM1
    refine m_back hO hS p9.1 hs2 hk (fun M2 f2 s2 => ⟨_, rfl, rfl, n, td, c, T, s - k, N, CA, CB, CI, CD, μ, A, Q, B, pl, hP, ?_, ?_⟩)
    · exact (hC.tp (M' := M1) (s' := s - k) (B' := B) (pl' := pl) T5 td41 (fun b j _ q => f1 b j (by omega)) (c5.to (fun b j q => f1 b j (by omega))) ⟨s1, by omega, fun i hi => by rw [f1 _ _ (by omega)]; exact c7.2.2 i (by omega)⟩ (by rw [f1 _ _ (by omega)]; exact c9)).up T5 td41 (fun b j q => f2 b j (by omega))
    · exact hM1.tp T5 n16 hW (fun b j _ q => f2 b j (by omega)) ⟨s2, by omega, fun i hi => by rw [f2 _ _ (by omega)]; exact p9.2.2 i (by omega)⟩ (by rw [f2 _ _ (by omega)]; exact p10)
  · refine c_back_bad hO hS c7.1 h ?_
    exact m_back_bad hO hS m9.1 h ⟨_, rfl, rfl, hI⟩
theorem ob_net {O : zOm} (hO : zWld O) (hS : zS O = zmS zC0) {M : zMem} (hI : zInv M) {x : Int} : zR O F_ToldNet_net [(2, ((0 : Nat) : Int)), (0, x)] M (zAns O F_Model_net [(2, 250), (0, x)]) := by
  obtain ⟨n, td, c, T, s, N, CA, CB, CI, CD, μ, A, Q, B, pl, hP, hC, hM⟩ := id hI
  obtain ⟨n2, n16, td41, c300, T5, hR, hZ, hCD, hμ, hW, hQs, hB⟩ := id hP
  obtain ⟨c1, c2, c3, c4, c5, c6, c7, c8, c9⟩ := id hC
  by_cases h : 2 ≤ x ∧ x ≤ 16
  · obtain ⟨k, rfl⟩ : ∃ k : Nat, x = ((k : Nat) : Int) := ⟨x.toNat, by omega⟩
    have h2 : 2 ≤ k := by omega
    have h16 : k ≤ 16 := by omega
    refine c_net hO hS h2 h16 (fun M1 f1 d1 t1 q1 μ1 => ?_)
    have hM1 := hM.dn T5 n16 c7.2.1 hW (fun b j q => f1 b j (by omega))
    obtain ⟨-, -, -, -, -, -, -, -, p9, p10⟩ := id hM1
    refine m_net hO hS h2 h16 (fun M2 f2 e1 e2 e3 e4 e5 e6 e7 => ⟨_, rfl, rfl, k, 0, 0, 0, s, fun _ _ _ => false, CA, CB, CI, CD, fun _ => 0, A, (0, Q.2), B, pl, ?_, ?_, ?_⟩)
    · exact ⟨h2, h16, by omega, by omega, by omega, fun d hd => ⟨fun _ _ => rfl, fun _ => rfl, fun _ _ z => by cases z⟩, fun d hd => rfl, fun j hj => absurd hj (Nat.not_lt_zero _), fun r hr => Nat.zero_le _, fun t ht => absurd ht (Nat.not_lt_zero _), ⟨Nat.zero_le _, fun i hi => absurd hi (Nat.not_lt_zero _)⟩, hB⟩
    · have hC1 : iC M1 k 0 0 0 s (fun _ _ _ => false) (fun _ => 0) A (0, Q.2) B pl := ⟨d1, fun r hr => μ1 r hr, t1, fun t ht => absurd ht (Nat.not_lt_zero _), c5.to (fun b j q => f1 b j (by omega)), ⟨q1, fun i hi => absurd hi (Nat.not_lt_zero _)⟩, c7.to (fun b j q => f1 b j (by omega)), c8.to (fun j => f1 _ _ (by omega)), by rw [f1 _ _ (by omega)]; exact c9⟩
      exact hC1.up (by omega) (by omega) (fun b j q => f2 b j (by omega))
    · exact ⟨e1, e2, ⟨e3, by omega, fun j hj => absurd hj (Nat.not_lt_zero _)⟩, e6, fun r hr => e7 r hr, e4, fun t ht => absurd ht (Nat.not_lt_zero _), ⟨e5, fun i hi => absurd hi (Nat.not_lt_zero _)⟩, p9.to (fun b j q => f2 b j (by omega)), by rw [f2 _ _ (by omega)]; exact p10⟩
  · refine c_net_bad hO hS h ?_
    exact m_net_bad hO hS h ⟨_, rfl, rfl, hI⟩
theorem zflip_mu {n a b : Nat} {v : Bool} {T : Nat → Nat → Bool} (hT : zReg n T) (hab : a ≠ b) (hv : T a b ≠ v) : zmu (zmu T a b v) b a v = zflip T a b := by
  have hvv : v = !T a b := by
    cases e : T a b <;> cases v
    · exact absurd e hv
    · rfl
    · rfl
    · exact absurd e hv
  have hba : T b a = T a b := hT.1 b a
  funext p q
  unfold zmu zflip
  (try dsimp only)
  by_cases e1 : p = b ∧ q = a
  · rw [if_pos e1, decide_eq_false (show ¬ (p = a ∧ q = b) by omega), decide_eq_true e1, e1.1, e1.2, hba, hvv]
    cases T a b <;> rfl
  · rw [if_neg e1, decide_eq_false e1]
    by_cases e2 : p = a ∧ q = b
    · rw [if_pos e2, decide_eq_true e2, e2.1, e2.2, hvv]
      cases T a b <;> rfl
    · rw [if_neg e2, decide_eq_false e2]
      cases T p q <;> rfl
theorem ob_tie {O : zOm} (hO : zWld O) (hS : zS O = zmS zC0) {M : zMem} (hI : zInv M) {x y : Int} {v : Bool} : zR O F_ToldNet_tie [(2, ((0 : Nat) : Int)), (0, x), (0, y), (0, zbI v)] M (zAns O F_Model_tie [(2, 250), (0, x), (0, y), (0, zbI v)]) := by
  obtain ⟨n, td, c, T, s, N, CA, CB, CI, CD, μ, A, Q, B, pl, hP, hC, hM⟩ := id hI
  obtain ⟨n2, n16, td41, c300, T5, hR, hZ, hCD, hμ, hW, hQs, hB⟩ := id hP
  obtain ⟨c1, c2, c3, c4, c5, c6, c7, c8, c9⟩ := id hC
  obtain ⟨m1, m2, m3, m4, m5, m6, m7, m8, m9, m10⟩ := id hM
  have bad : (((c : Nat) : Int) = 300 ∨ ¬ ((0 ≤ x ∧ x < ((n : Nat) : Int)) ∧ (0 ≤ y ∧ y < ((n : Nat) : Int)) ∧ x ≠ y) ∨ ∀ a' b' : Nat, x = a' → y = b' → zbI (N td a' b') = zbI v) → zR O F_ToldNet_tie [(2, ((0 : Nat) : Int)), (0, x), (0, y), (0, zbI v)] M (zAns O F_Model_tie [(2, 250), (0, x), (0, y), (0, zbI v)]) := fun h => by
    refine c_tie_bad hO hS c1 td41 n16 h c300 ?_
    exact m_tie_bad hO hS m1 n16 m3.1 m4 h ⟨_, rfl, rfl, hI⟩
  by_cases h1 : c = 300
  · exact bad (Or.inl (by omega))
  by_cases h2 : (0 ≤ x ∧ x < ((n : Nat) : Int)) ∧ (0 ≤ y ∧ y < ((n : Nat) : Int)) ∧ x ≠ y
  · obtain ⟨a, rfl⟩ : ∃ k : Nat, x = ((k : Nat) : Int) := ⟨x.toNat, by omega⟩
    obtain ⟨b, rfl⟩ : ∃ k : Nat, y = ((k : Nat) : Int) := ⟨y.toNat, by omega⟩
    have ha : a < n := by omega
    have hb : b < n := by omega
    have hab : a ≠ b := by omega
    by_cases h3 : N td a b = v
    · refine bad (Or.inr (Or.inr (fun a' b' e1 e2 => ?_)))
      rw [show a' = a by omega, show b' = b by omega, h3]
    · have hRt := hR td (Nat.le_refl _)
      have hfl := zflip_mu hRt hab h3
      refine c_tie hO hS c1 td41 n16 (by omega) ha hb hab h3 (fun M1 f1 d1 => ?_)
      have hM1 := hM.dn T5 n16 c7.2.1 hW (fun b j q => f1 b j (by omega))
      obtain ⟨p1, p2, p3, p4, p5, p6, p7, p8, p9, p10⟩ := id hM1
      refine m_tie hO hS p1 n16 p2 p3 p4 (by omega) ha hb hab h3 (fun M2 f2 e1 e2 => ⟨_, rfl, rfl, n, td, c + 1, T, s, (fun d => if d = td then zflip (N td) a b else N d), (fun k => if k = c then a else CA k), (fun k => if k = c then b else CB k), (fun k => if k = c then v else CI k), (fun k => if k = c then td else CD k), μ, A, Q, B, pl, ?_, ?_, ⟨?_, ?_, e1, ?_, fun r hr => ?_, ?_, fun t ht => ?_, ?_, ?_, ?_⟩⟩)
      · refine ⟨n2, n16, td41, by omega, T5, fun d hd => ?_, fun d hd => ?_, fun k hk => ?_, hμ, hW, hQs, hB⟩
        · (try dsimp only)
          by_cases e : d = td
          · rw [if_pos e]; exact zflip_reg hRt ha hb hab
          · rw [if_neg e]; exact hR d hd
        · unfold zrep
          (try dsimp only)
          rw [if_pos rfl, if_pos rfl, if_pos rfl, if_pos rfl, zrep_ext (A' := CA) (B' := CB) (I' := CI) (D' := CD) (fun k hk => ⟨if_neg (by omega), if_neg (by omega), if_neg (by omega), if_neg (by omega)⟩)]
          by_cases e : d = td
          · rw [if_pos (show td ≤ d by omega), if_pos e, hZ d hd, e]
            exact hfl
          · rw [if_neg (show ¬ td ≤ d by omega), if_neg e]
            exact hZ d hd
        · (try dsimp only)
          by_cases e : k = c
          · rw [if_pos e]; exact Nat.le_refl _
          · rw [if_neg e]; exact hCD k (by omega)
      · have hC1 : iC M1 n td (c + 1) T s (fun d => if d = td then zflip (N td) a b else N d) μ A Q B pl := ⟨d1, fun r hr => by rw [f1 _ _ (by omega)]; exact c2 r hr, by rw [f1 _ _ (by omega)]; exact c3, fun t ht => (c4 t ht).to (fun b j a1 a2 => f1 b j (by omega)), c5.to (fun b j q => f1 b j (by omega)), c6.to (fun b j q => f1 b j (by omega)), c7.to (fun b j q => f1 b j (by omega)), c8.to (fun j => f1 _ _ (by omega)), by rw [f1 _ _ (by omega)]; exact c9⟩
        exact hC1.up T5 td41 (fun b j q => f2 b j (by omega))
      · rw [f2 _ _ (by omega)]; exact p1
      · rw [f2 _ _ (by omega)]; exact p2
      · (try dsimp only)
        rw [if_pos rfl, ← hfl]
        exact e2
      · rw [f2 _ _ (by omega)]; exact p5 r hr
      · rw [f2 _ _ (by omega)]; exact p6
      · exact (p7 t ht).to n16 (hW t ht) (fun b j q => f2 b j (by omega))
      · exact p8.to (fun b j q => f2 b j (by omega))
      · exact p9.to (fun b j q => f2 b j (by omega))
      · rw [f2 _ _ (by omega)]; exact p10
  · exact bad (Or.inr (Or.inl h2))
theorem ob_tomorrow {O : zOm} (hO : zWld O) (hS : zS O = zmS zC0) {M : zMem} (hI : zInv M) : zR O F_ToldNet_tomorrow [(2, ((0 : Nat) : Int))] M (zAns O F_Model_tomorrow [(2, 250)]) := by
  obtain ⟨n, td, c, T, s, N, CA, CB, CI, CD, μ, A, Q, B, pl, hP, hC, hM⟩ := id hI
  obtain ⟨n2, n16, td41, c300, T5, hR, hZ, hCD, hμ, hW, hQs, hB⟩ := id hP
  obtain ⟨c1, c2, c3, c4, c5, c6, c7, c8, c9⟩ := id hC
  obtain ⟨m1, m2, m3, m4, m5, m6, m7, m8, m9, m10⟩ := id hM
  by_cases h : td = 40
  · refine c_tomorrow_bad hO hS (by rw [← h]; exact c1.2.1) ?_
    exact m_tomorrow_bad hO hS (by rw [m2, h]; rfl) ⟨_, rfl, rfl, hI⟩
  · refine c_tomorrow hO hS c1 (by omega) (fun M1 f1 d1 => ?_)
    have hM1 := hM.dn T5 n16 c7.2.1 hW (fun b j q => f1 b j (by omega))
    obtain ⟨p1, p2, p3, p4, p5, p6, p7, p8, p9, p10⟩ := id hM1
    refine m_tomorrow hO hS p2 (by omega) (fun M2 f2 e1 => ⟨_, rfl, rfl, n, td + 1, c, T, s, fun d => if d = td + 1 then N td else N d, CA, CB, CI, CD, μ, A, Q, B, pl, ?_, ?_, ?_⟩)
    · refine ⟨n2, n16, by omega, c300, T5, fun d hd => ?_, fun d hd => ?_, fun k hk => Nat.le_succ_of_le (hCD k hk), hμ, hW, hQs, hB⟩
      · (try dsimp only)
        by_cases e : d = td + 1
        · rw [if_pos e]; exact hR td (Nat.le_refl _)
        · rw [if_neg e]; exact hR d (by omega)
      · (try dsimp only)
        by_cases e : d = td + 1
        · rw [if_pos e, e, zrep_day (d := td + 1) (e := td) (fun k hk => ⟨Nat.le_succ_of_le (hCD k hk), hCD k hk⟩)]
          exact hZ td (Nat.le_refl _)
        · rw [if_neg e]; exact hZ d (by omega)
    · have hC1 : iC M1 n (td + 1) c T s (fun d => if d = td + 1 then N td else N d) μ A Q B pl := ⟨d1, fun r hr => by rw [f1 _ _ (by omega)]; exact c2 r hr, by rw [f1 _ _ (by omega)]; exact c3, fun t ht => (c4 t ht).to (fun b j a1 a2 => f1 b j (by omega)), c5.to (fun b j q => f1 b j (by omega)), c6.to (fun b j q => f1 b j (by omega)), c7.to (fun b j q => f1 b j (by omega)), c8.to (fun j => f1 _ _ (by omega)), by rw [f1 _ _ (by omega)]; exact c9⟩
      exact hC1.up T5 (by omega) (fun b j q => f2 b j (by omega))
    · (try dsimp only)
      rw [if_pos rfl]
      exact ⟨by rw [f2 _ _ (by omega)]; exact p1, e1, p3.to (fun b j q => f2 b j (by omega)), p4.to (fun j => f2 _ _ (by omega)), fun r hr => by rw [f2 _ _ (by omega)]; exact p5 r hr, by rw [f2 _ _ (by omega)]; exact p6, fun t ht => (p7 t ht).to n16 (hW t ht) (fun b j q => f2 b j (by omega)), p8.to (fun b j q => f2 b j (by omega)), p9.to (fun b j q => f2 b j (by omega)), by rw [f2 _ _ (by omega)]; exact p10⟩
theorem ob_mark {O : zOm} (hO : zWld O) (hS : zS O = zmS zC0) {M : zMem} (hI : zInv M) {x y : Int} : zR O F_ToldNet_mark [(2, ((0 : Nat) : Int)), (0, x), (0, y)] M (zAns O F_Model_mark [(2, 250), (0, x), (0, y)]) := by
  obtain ⟨n, td, c, T, s, N, CA, CB, CI, CD, μ, A, Q, B, pl, hP, hC, hM⟩ := id hI
  obtain ⟨n2, n16, td41, c300, T5, hR, hZ, hCD, hμ, hW, hQs, hB⟩ := id hP
  obtain ⟨c1, c2, c3, c4, c5, c6, c7, c8, c9⟩ := id hC
  obtain ⟨m1, m2, m3, m4, m5, m6, m7, m8, m9, m10⟩ := id hM
  by_cases h : (0 ≤ x ∧ x < ((n : Nat) : Int)) ∧ 0 ≤ y ∧ y ≤ 3
  · obtain ⟨a, rfl⟩ : ∃ k : Nat, x = ((k : Nat) : Int) := ⟨x.toNat, by omega⟩
    obtain ⟨v, rfl⟩ : ∃ k : Nat, y = ((k : Nat) : Int) := ⟨y.toNat, by omega⟩
    have ha : a < n := by omega
    have hv : v ≤ 3 := by omega
    refine c_mark hO hS c1.1 n16 ha hv (fun M1 f1 v1 => ?_)
    have hM1 := hM.dn T5 n16 c7.2.1 hW (fun b j q => f1 b j (by omega))
    obtain ⟨p1, p2, p3, p4, p5, p6, p7, p8, p9, p10⟩ := id hM1
    refine m_mark hO hS p1 n16 ha hv (fun M2 f2 v2 => ⟨_, rfl, rfl, n, td, c, T, s, N, CA, CB, CI, CD, uup μ a v, A, Q, B, pl, ?_, ?_, ?_⟩)
    · refine ⟨n2, n16, td41, c300, T5, hR, hZ, hCD, fun r hr => ?_, hW, hQs, hB⟩
      by_cases e : r = a
      · rw [e, uup_s]; exact hv
      · rw [uup_n _ _ e]; exact hμ r hr
    · have hC1 : iC M1 n td c T s N (uup μ a v) A Q B pl := ⟨⟨by rw [f1 _ _ (by omega)]; exact c1.1, by rw [f1 _ _ (by omega)]; exact c1.2.1, by rw [f1 _ _ (by omega)]; exact c1.2.2.1, fun d hd => (c1.2.2.2 d hd).to (fun b j a1 a2 => f1 b j (by omega))⟩, fun r hr => by
        by_cases e : r = a
        · rw [e, uup_s]; exact v1
        · rw [uup_n _ _ e, f1 _ _ (by omega)]; exact c2 r hr, by rw [f1 _ _ (by omega)]; exact c3, fun t ht => (c4 t ht).to (fun b j a1 a2 => f1 b j (by omega)), c5.to (fun b j q => f1 b j (by omega)), c6.to (fun b j q => f1 b j (by omega)), c7.to (fun b j q => f1 b j (by omega)), c8.to (fun j => f1 _ _ (by omega)), by rw [f1 _ _ (by omega)]; exact c9⟩
      exact hC1.up T5 td41 (fun b j q => f2 b j (by omega))
    · exact ⟨by rw [f2 _ _ (by omega)]; exact p1, by rw [f2 _ _ (by omega)]; exact p2, p3.to (fun b j q => f2 b j (by omega)), p4.to (fun j => f2 _ _ (by omega)), fun r hr => by
        by_cases e : r = a
        · rw [e, uup_s]; exact v2
        · rw [uup_n _ _ e, f2 _ _ (by omega)]; exact p5 r hr, by rw [f2 _ _ (by omega)]; exact p6, fun t ht => (p7 t ht).to n16 (hW t ht) (fun b j q => f2 b j (by omega)), p8.to (fun b j q => f2 b j (by omega)), p9.to (fun b j q => f2 b j (by omega)), by rw [f2 _ _ (by omega)]; exact p10⟩
  · refine c_mark_bad hO hS c1.1 h ?_
    exact m_mark_bad hO hS m1 h ⟨_, rfl, rfl, hI⟩
theorem ob_ties {O : zOm} (hO : zWld O) (hS : zS O = zmS zC0) {M : zMem} (hI : zInv M) {x y : Int} : zR O F_ToldNet_ties [(2, ((0 : Nat) : Int)), (0, x), (0, y)] M (zAns O F_Model_ties [(2, 250), (0, x), (0, y)]) := by
  obtain ⟨n, td, c, T, s, N, CA, CB, CI, CD, μ, A, Q, B, pl, hP, hC, hM⟩ := id hI
  obtain ⟨n2, n16, td41, c300, T5, hR, hZ, hCD, hμ, hW, hQs, hB⟩ := id hP
  obtain ⟨c1, c2, c3, c4, c5, c6, c7, c8, c9⟩ := id hC
  obtain ⟨m1, m2, m3, m4, m5, m6, m7, m8, m9, m10⟩ := id hM
  by_cases h : (0 ≤ x ∧ x < ((n : Nat) : Int)) ∧ 0 ≤ y ∧ y ≤ ((td : Nat) : Int)
  · obtain ⟨a, rfl⟩ : ∃ k : Nat, x = ((k : Nat) : Int) := ⟨x.toNat, by omega⟩
    obtain ⟨d, rfl⟩ : ∃ k : Nat, y = ((k : Nat) : Int) := ⟨y.toNat, by omega⟩
    have hd : d ≤ td := by omega
    have he : zcnt (zrep CA CB CI CD d c a) n = zcnt (N d a) 16 := by
      rw [hZ d hd]
      exact (zcnt_top (c := n) (fun e he => by
        cases w : N d a e
        · rfl
        · have := ((hR d hd).lt w).2
          omega) n16).symm
    refine c_ties hO hS c1 td41 n16 (by omega) hd ?_
    refine m_ties hO hS m1 n16 m2 (by omega) hd m3 (fun M2 f2 => ⟨_, rfl, by rw [he], ?_⟩)
    exact zInv.ro hP hC hM (fun _ _ _ => rfl) c5 (fun b j q => f2 b j (by omega))
  · refine c_ties_bad hO hS c1.1 c1.2.1 td41 h ?_
    exact m_ties_bad hO hS m1 m2 h ⟨_, rfl, rfl, hI⟩
theorem ob_tied {O : zOm} (hO : zWld O) (hS : zS O = zmS zC0) {M : zMem} (hI : zInv M) {x y z : Int} : zR O F_ToldNet_tied [(2, ((0 : Nat) : Int)), (0, x), (0, y), (0, z)] M (zAns O F_Model_tied [(2, 250), (0, x), (0, y), (0, z)]) := by
  obtain ⟨n, td, c, T, s, N, CA, CB, CI, CD, μ, A, Q, B, pl, hP, hC, hM⟩ := id hI
  obtain ⟨n2, n16, td41, c300, T5, hR, hZ, hCD, hμ, hW, hQs, hB⟩ := id hP
  obtain ⟨c1, c2, c3, c4, c5, c6, c7, c8, c9⟩ := id hC
  obtain ⟨m1, m2, m3, m4, m5, m6, m7, m8, m9, m10⟩ := id hM
  by_cases h : ((0 ≤ x ∧ x < ((n : Nat) : Int)) ∧ (0 ≤ y ∧ y < ((n : Nat) : Int)) ∧ x ≠ y) ∧ 0 ≤ z ∧ z ≤ ((td : Nat) : Int)
  · obtain ⟨a, rfl⟩ : ∃ k : Nat, x = ((k : Nat) : Int) := ⟨x.toNat, by omega⟩
    obtain ⟨b, rfl⟩ : ∃ k : Nat, y = ((k : Nat) : Int) := ⟨y.toNat, by omega⟩
    obtain ⟨d, rfl⟩ : ∃ k : Nat, z = ((k : Nat) : Int) := ⟨z.toNat, by omega⟩
    have hd : d ≤ td := by omega
    refine c_tied hO hS c1 td41 n16 (by omega) (by omega) (by omega) hd ?_
    refine m_tied hO hS m1 n16 m2 (by omega) (by omega) (by omega) hd m3 (fun M2 f2 => ⟨_, rfl, by rw [hZ d hd], ?_⟩)
    exact zInv.ro hP hC hM (fun _ _ _ => rfl) c5 (fun b j q => f2 b j (by omega))
  · refine c_tied_bad hO hS c1.1 c1.2.1 td41 h ?_
    exact m_tied_bad hO hS m1 m2 h ⟨_, rfl, rfl, hI⟩
theorem ob_compare {O : zOm} (hO : zWld O) (hS : zS O = zmS zC0) {M : zMem} (hI : zInv M) {x y z : Int} : zR O F_ToldNet_compare [(2, ((0 : Nat) : Int)), (0, x), (0, y), (0, z)] M (zAns O F_Model_compare [(2, 250), (0, x), (0, y), (0, z)]) := by
  obtain ⟨n, td, c, T, s, N, CA, CB, CI, CD, μ, A, Q, B, pl, hP, hC, hM⟩ := id hI
  obtain ⟨n2, n16, td41, c300, T5, hR, hZ, hCD, hμ, hW, hQs, hB⟩ := id hP
  obtain ⟨c1, c2, c3, c4, c5, c6, c7, c8, c9⟩ := id hC
  obtain ⟨m1, m2, m3, m4, m5, m6, m7, m8, m9, m10⟩ := id hM
  by_cases h : (0 ≤ x ∧ x ≤ ((td : Nat) : Int)) ∧ (0 ≤ y ∧ y ≤ ((td : Nat) : Int)) ∧ 0 ≤ z ∧ z ≤ 2
  · obtain ⟨a, rfl⟩ : ∃ k : Nat, x = ((k : Nat) : Int) := ⟨x.toNat, by omega⟩
    obtain ⟨b, rfl⟩ : ∃ k : Nat, y = ((k : Nat) : Int) := ⟨y.toNat, by omega⟩
    obtain ⟨w, rfl⟩ : ∃ k : Nat, z = ((k : Nat) : Int) := ⟨z.toNat, by omega⟩
    refine c_compare hO hS c1 td41 n16 hR (show a ≤ td by omega) (show b ≤ td by omega) (by omega) ?_
    refine m_compare hO hS m1 n16 m2 (show a ≤ td by omega) (show b ≤ td by omega) (by omega) m3 (fun M2 f2 => ⟨_, rfl, by rw [hZ a (by omega), hZ b (by omega)], ?_⟩)
    exact zInv.ro hP hC hM (fun _ _ _ => rfl) c5 (fun b j q => f2 b j (by omega))
  · refine c_compare_bad hO hS c1.2.1 td41 h ?_
    exact m_compare_bad hO hS m2 h ⟨_, rfl, rfl, hI⟩
theorem ob_place {O : zOm} (hO : zWld O) (hS : zS O = zmS zC0) {M : zMem} (hI : zInv M) : zR O F_ToldNet_place [(2, ((0 : Nat) : Int))] M (zAnsV O F_Model_place [(2, 250)]) := by
  obtain ⟨n, td, c, T, s, N, CA, CB, CI, CD, μ, A, Q, B, pl, hP, hC, hM⟩ := id hI
  obtain ⟨c1, c2, c3, c4, c5, c6, c7, c8, c9⟩ := id hC
  obtain ⟨m1, m2, m3, m4, m5, m6, m7, m8, m9, m10⟩ := id hM
  refine c_place hO hS ⟨⟨_, rfl⟩, ?_⟩
  exact m_place hO hS ⟨⟨_, rfl⟩, hI⟩
theorem ob_read {O : zOm} (hO : zWld O) (hS : zS O = zmS zC0) {M : zMem} (hI : zInv M) : zR O F_ToldNet_read [(2, ((0 : Nat) : Int))] M (zAnsV O F_Model_read [(2, 250)]) := by
  obtain ⟨n, td, c, T, s, N, CA, CB, CI, CD, μ, A, Q, B, pl, hP, hC, hM⟩ := id hI
  obtain ⟨n2, n16, td41, c300, T5, hR, hZ, hCD, hμ, hW, hQs, hB⟩ := id hP
  obtain ⟨c1, c2, c3, c4, c5, c6, c7, c8, c9⟩ := id hC
  obtain ⟨m1, m2, m3, m4, m5, m6, m7, m8, m9, m10⟩ := id hM
  by_cases h : T = 5
  · refine c_read_bad hO hS (by rw [c3, h]; rfl) ⟨⟨_, rfl⟩, ?_⟩
    exact m_read_bad hO hS (by rw [m6, h]; rfl) ⟨⟨_, rfl⟩, hI⟩
  · have hT : T < 5 := by omega
    refine c_read hO hS c3 hT c1.1 (by omega) n16 c7 c8 (fun M1 f1 s1 g1 b1 r => ⟨⟨r, rfl⟩, ?_⟩)
    have hM1 := hM.dn T5 n16 c7.2.1 hW (fun b j q => f1 b j (by omega))
    obtain ⟨q1, q2, q3, q4, q5, q6, q7, q8, q9, q10⟩ := id hM1
    refine m_read hO hS q6 hT q1 n16 q9 (fun M2 f2 s2 p2 g2 b2 => ⟨⟨_, rfl⟩, ?_⟩)
    have d1 : cSo M1 := c5.to (fun b j q => f1 b j (by omega))
    by_cases e : uRF B s n = 99999
    · obtain ⟨x1, x2, x3⟩ := g1 e
      obtain ⟨y1, y2, y3⟩ := g2 e
      have hw := uTl_w n16 x3
      refine ⟨n, td, c, T + 1, 0, N, CA, CB, CI, CD, μ, uup A T (uTl n (uZT B s n)), Q, B, M1 ((0 : Nat) : Int) ((5 : Nat) : Int), hP.nw hT hw, ?_, ?_⟩
      · have hC1 : iC M1 n td c (T + 1) 0 N μ (uup A T (uTl n (uZT B s n))) Q B (M1 ((0 : Nat) : Int) ((5 : Nat) : Int)) := ⟨c1.to td41 (fun b j q => f1 b j (by omega)), fun r hr => by rw [f1 _ _ (by omega)]; exact c2 r hr, x1, fun u hu => by
          by_cases w : u = T
          · rw [w, uup_s]; exact x2
          · rw [uup_n _ _ w]; exact (c4 u (by omega)).to (fun b j a1 a2 => f1 b j (by omega)), d1, c6.to (fun b j q => f1 b j (by omega)), ⟨s1, Nat.zero_le _, fun i hi => absurd hi (Nat.not_lt_zero _)⟩, c8.to (fun j => f1 _ _ (by omega)), rfl⟩
        exact hC1.up (by omega) td41 (fun b j q => f2 b j (by omega))
      · exact ⟨by rw [f2 _ _ (by omega)]; exact q1, by rw [f2 _ _ (by omega)]; exact q2, q3.to (fun b j q => f2 b j (by omega)), q4.to (fun j => f2 _ _ (by omega)), fun r hr => by rw [f2 _ _ (by omega)]; exact q5 r hr, y1, fun u hu => by
          by_cases w : u = T
          · rw [w, uup_s]; exact y2
          · rw [uup_n _ _ w]; exact (q7 u (by omega)).to n16 (hW u (by omega)) (fun b j q => f2 b j (by omega)), q8.to (fun b j q => f2 b j (by omega)), ⟨s2, Nat.zero_le _, fun i hi => absurd hi (Nat.not_lt_zero _)⟩, _, p2⟩
    · have x1 := b1 e
      have y1 := b2 e
      refine ⟨n, td, c, T, 0, N, CA, CB, CI, CD, μ, A, Q, B, M1 ((0 : Nat) : Int) ((5 : Nat) : Int), hP, ?_, ?_⟩
      · have hC1 : iC M1 n td c T 0 N μ A Q B (M1 ((0 : Nat) : Int) ((5 : Nat) : Int)) := ⟨c1.to td41 (fun b j q => f1 b j (by omega)), fun r hr => by rw [f1 _ _ (by omega)]; exact c2 r hr, x1, fun u hu => (c4 u hu).to (fun b j a1 a2 => f1 b j (by omega)), d1, c6.to (fun b j q => f1 b j (by omega)), ⟨s1, Nat.zero_le _, fun i hi => absurd hi (Nat.not_lt_zero _)⟩, c8.to (fun j => f1 _ _ (by omega)), rfl⟩
        exact hC1.up T5 td41 (fun b j q => f2 b j (by omega))
      · exact ⟨by rw [f2 _ _ (by omega)]; exact q1, by rw [f2 _ _ (by omega)]; exact q2, q3.to (fun b j q => f2 b j (by omega)), q4.to (fun j => f2 _ _ (by omega)), fun r hr => by rw [f2 _ _ (by omega)]; exact q5 r hr, y1, fun u hu => (q7 u hu).to n16 (hW u hu) (fun b j q => f2 b j (by omega)), q8.to (fun b j q => f2 b j (by omega)), ⟨s2, Nat.zero_le _, fun i hi => absurd hi (Nat.not_lt_zero _)⟩, _, p2⟩
