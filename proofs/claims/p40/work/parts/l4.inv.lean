/-! ===== what both sides keep between calls ===== -/
def iC (M : zMem) (n td c T s : Nat) (N : Nat → Nat → Nat → Bool) (μ : Nat → Nat) (A : Nat → zTl) (Q : zQl) (B : Nat → Nat) (pl : Int) : Prop :=
  cDy M n td c N ∧ (∀ r : Nat, r < 16 → M ((2 : Nat) : Int) ((r : Nat) : Int) = ((μ r : Nat) : Int)) ∧ M ((0 : Nat) : Int) ((4 : Nat) : Int) = ((T : Nat) : Int) ∧ (∀ t : Nat, t < T → zTR M (185 + 13 * t) n (A t)) ∧ cSo M ∧ cQs M Q ∧ cTp M s B ∧ cQt M ∧ M ((0 : Nat) : Int) ((5 : Nat) : Int) = pl
def iM (M : zMem) (n td c T s : Nat) (N0 : Nat → Nat → Bool) (CA CB : Nat → Nat) (CI : Nat → Bool) (CD : Nat → Nat) (μ : Nat → Nat) (A : Nat → zTl) (Q : zQl) (B : Nat → Nat) (pl : Int) : Prop :=
  M 250 ((1 : Nat) : Int) = ((n : Nat) : Int) ∧ M 250 ((4 : Nat) : Int) = ((td : Nat) : Int) ∧ rCh M c CA CB CI CD ∧ rMx M 251 N0 ∧ (∀ r : Nat, r < 16 → M ((252 : Nat) : Int) ((r : Nat) : Int) = ((μ r : Nat) : Int)) ∧ M 250 ((11 : Nat) : Int) = ((T : Nat) : Int) ∧ (∀ t : Nat, t < T → rTe M t n (A t)) ∧ rQs M Q ∧ rTp M s B ∧ ∃ pw : Int, M 250 ((40 : Nat) : Int) = pw
def iP (n td c T : Nat) (N : Nat → Nat → Nat → Bool) (CA CB : Nat → Nat) (CI : Nat → Bool) (CD : Nat → Nat) (μ : Nat → Nat) (A : Nat → zTl) (Q : zQl) (B : Nat → Nat) : Prop :=
  2 ≤ n ∧ n ≤ 16 ∧ td < 41 ∧ c ≤ 300 ∧ T ≤ 5 ∧ (∀ d, d ≤ td → zReg n (N d)) ∧ (∀ d, d ≤ td → zrep CA CB CI CD d c = N d) ∧ (∀ k, k < c → CD k ≤ td) ∧ (∀ r, r < 16 → μ r ≤ 3) ∧ (∀ t, t < T → zTw n (A t)) ∧ zQs n Q ∧ ∀ i, B i < 256
def zInv (M : zMem) : Prop := ∃ (n td c T s : Nat) (N : Nat → Nat → Nat → Bool) (CA CB : Nat → Nat) (CI : Nat → Bool) (CD : Nat → Nat) (μ : Nat → Nat) (A : Nat → zTl) (Q : zQl) (B : Nat → Nat) (pl : Int),
  iP n td c T N CA CB CI CD μ A Q B ∧ iC M n td c T s N μ A Q B pl ∧ iM M n td c T s (N td) CA CB CI CD μ A Q B pl
section IV
variable {M M' : zMem} {n td c T s : Nat} {N : Nat → Nat → Nat → Bool} {N0 : Nat → Nat → Bool} {CA CB : Nat → Nat} {CI : Nat → Bool} {CD : Nat → Nat} {μ : Nat → Nat} {A : Nat → zTl} {Q : zQl} {B : Nat → Nat} {pl : Int}
theorem cDy.to (h : cDy M n td c N) (htd : td < 41) (e : ∀ b j, ((1 : Nat) : Int) ≤ b ∧ b ≤ ((85 : Nat) : Int) → M' b j = M b j) : cDy M' n td c N :=
  ⟨by rw [e _ _ (by omega)]; exact h.1, by rw [e _ _ (by omega)]; exact h.2.1, by rw [e _ _ (by omega)]; exact h.2.2.1, fun d hd => (h.2.2.2 d hd).to (fun b j a1 a2 => e b j (by omega))⟩
theorem cQt.to (h : cQt M) (e : ∀ j, M' ((91 : Nat) : Int) j = M ((91 : Nat) : Int) j) : cQt M' := fun k a b => by rw [e]; exact h k a b
theorem rCh.to (h : rCh M c CA CB CI CD) (e : ∀ b j, b = 250 ∧ j = 5 ∨ ((253 : Nat) : Int) ≤ b ∧ b ≤ ((256 : Nat) : Int) → M' b j = M b j) : rCh M' c CA CB CI CD :=
  ⟨by rw [e _ _ (by omega)]; exact h.1, h.2.1, fun k hk => by
    obtain ⟨a1, a2, a3, a4, a5, a6⟩ := h.2.2 k hk
    exact ⟨by rw [e _ _ (by omega)]; exact a1, by rw [e _ _ (by omega)]; exact a2, by rw [e _ _ (by omega)]; exact a3, by rw [e _ _ (by omega)]; exact a4, a5, a6⟩⟩
/-- the class's part, where what it keeps is as it was -/
theorem iC.sc (hT : T ≤ 5) (htd : td < 41) (h : iC M n td c T s N μ A Q B pl) (e : ∀ b j, (b = ((0 : Nat) : Int) ∧ (j = 4 ∨ j = 5) ∨ ((1 : Nat) : Int) ≤ b ∧ b ≤ ((85 : Nat) : Int) ∨ b = ((86 : Nat) : Int) ∧ j = 5 ∨ b = ((87 : Nat) : Int) ∨ b = ((91 : Nat) : Int) ∨ b = ((148 : Nat) : Int) ∧ j = 7 ∨ ((149 : Nat) : Int) ≤ b ∧ b ≤ ((152 : Nat) : Int) ∨ ((185 : Nat) : Int) ≤ b ∧ b ≤ ((249 : Nat) : Int)) → M' b j = M b j) (hs : cSo M') : iC M' n td c T s N μ A Q B pl := by
  obtain ⟨h1, h2, h3, h4, h5, h6, h7, h8, h9⟩ := h
  exact ⟨h1.to htd (fun b j q => e b j (by omega)), fun r hr => by rw [e _ _ (by omega)]; exact h2 r hr, by rw [e _ _ (by omega)]; exact h3, fun t ht => (h4 t ht).to (fun b j a1 a2 => e b j (by omega)), hs, h6.to (fun b j q => e b j (by omega)), h7.to (fun b j q => e b j (by omega)), h8.to (fun j => e _ _ (by omega)), by rw [e _ _ (by omega)]; exact h9⟩
theorem iC.up (hT : T ≤ 5) (htd : td < 41) (h : iC M n td c T s N μ A Q B pl) (e : ∀ b j, b ≤ ((249 : Nat) : Int) → M' b j = M b j) : iC M' n td c T s N μ A Q B pl :=
  h.sc hT htd (fun b j q => e b j (by omega)) (h.2.2.2.2.1.to (fun b j q => e b j (by omega)))
/-- one telling anew -/
theorem iC.tl (hT : T ≤ 5) (htd : td < 41) {t : Nat} {X : zTl} (ht : t < T) (h : iC M n td c T s N μ A Q B pl) (e : ∀ b j, (b = ((0 : Nat) : Int) ∧ (j = 4 ∨ j = 5) ∨ ((1 : Nat) : Int) ≤ b ∧ b ≤ ((85 : Nat) : Int) ∨ b = ((86 : Nat) : Int) ∧ j = 5 ∨ b = ((87 : Nat) : Int) ∨ b = ((91 : Nat) : Int) ∨ b = ((148 : Nat) : Int) ∧ j = 7 ∨ ((149 : Nat) : Int) ≤ b ∧ b ≤ ((152 : Nat) : Int) ∨ ((185 : Nat) : Int) ≤ b ∧ b ≤ ((249 : Nat) : Int)) → ¬ (((185 + 13 * t : Nat) : Int) ≤ b ∧ b ≤ ((197 + 13 * t : Nat) : Int)) → M' b j = M b j) (hs : cSo M') (hX : zTR M' (185 + 13 * t) n X) : iC M' n td c T s N μ (uup A t X) Q B pl := by
  obtain ⟨h1, h2, h3, h4, h5, h6, h7, h8, h9⟩ := h
  refine ⟨h1.to htd (fun b j q => e b j (by omega) (by omega)), fun r hr => by rw [e _ _ (by omega) (by omega)]; exact h2 r hr, by rw [e _ _ (by omega) (by omega)]; exact h3, fun u hu => ?_, hs, h6.to (fun b j q => e b j (by omega) (by omega)), h7.to (fun b j q => e b j (by omega) (by omega)), h8.to (fun j => e _ _ (by omega) (by omega)), by rw [e _ _ (by omega) (by omega)]; exact h9⟩
  by_cases w : u = t
  · rw [w, uup_s]; exact hX
  · rw [uup_n _ _ w]; exact (h4 u hu).to (fun b j a1 a2 => e b j (by omega) (by omega))
theorem iC.nw (hT : T < 5) (htd : td < 41) {X : zTl} (h : iC M n td c T s N μ A Q B pl) (e : ∀ b j, (b = ((0 : Nat) : Int) ∧ (j = 4 ∨ j = 5) ∨ ((1 : Nat) : Int) ≤ b ∧ b ≤ ((85 : Nat) : Int) ∨ b = ((86 : Nat) : Int) ∧ j = 5 ∨ b = ((87 : Nat) : Int) ∨ b = ((91 : Nat) : Int) ∨ b = ((148 : Nat) : Int) ∧ j = 7 ∨ ((149 : Nat) : Int) ≤ b ∧ b ≤ ((152 : Nat) : Int) ∨ ((185 : Nat) : Int) ≤ b ∧ b ≤ ((249 : Nat) : Int)) → ¬ (b = ((0 : Nat) : Int) ∧ j = 4 ∨ ((185 + 13 * T : Nat) : Int) ≤ b ∧ b ≤ ((197 + 13 * T : Nat) : Int)) → M' b j = M b j) (hs : cSo M') (hT1 : M' ((0 : Nat) : Int) ((4 : Nat) : Int) = ((T + 1 : Nat) : Int)) (hX : zTR M' (185 + 13 * T) n X) : iC M' n td c (T + 1) s N μ (uup A T X) Q B pl := by
  obtain ⟨h1, h2, h3, h4, h5, h6, h7, h8, h9⟩ := h
  refine ⟨h1.to htd (fun b j q => e b j (by omega) (by omega)), fun r hr => by rw [e _ _ (by omega) (by omega)]; exact h2 r hr, hT1, fun u hu => ?_, hs, h6.to (fun b j q => e b j (by omega) (by omega)), h7.to (fun b j q => e b j (by omega) (by omega)), h8.to (fun j => e _ _ (by omega) (by omega)), by rw [e _ _ (by omega) (by omega)]; exact h9⟩
  by_cases w : u = T
  · rw [w, uup_s]; exact hX
  · rw [uup_n _ _ w]; exact (h4 u (by omega)).to (fun b j a1 a2 => e b j (by omega) (by omega))
theorem iM.sc (hT : T ≤ 5) (hn : n ≤ 16) (hs : s ≤ 2000) (hA : ∀ t, t < T → zTw n (A t)) (h : iM M n td c T s N0 CA CB CI CD μ A Q B pl) (e : ∀ b j, (b = 250 ∧ (j = 1 ∨ j = 4 ∨ j = 5 ∨ j = 11 ∨ j = 28 ∨ j = 33 ∨ j = 40) ∨ ((251 : Nat) : Int) ≤ b ∧ b ≤ ((256 : Nat) : Int) ∨ b = 258 ∧ j < 5 ∨ (b = 259 ∨ b = 260 ∨ b = 262 ∨ b = 263) ∧ j < 80 ∨ (b = 261 ∨ b = 264 ∨ b = 265 ∨ b = 266) ∧ j < 1280 ∨ ((274 : Nat) : Int) ≤ b ∧ b ≤ ((278 : Nat) : Int)) → M' b j = M b j) : iM M' n td c T s N0 CA CB CI CD μ A Q B pl := by
  obtain ⟨h1, h2, h3, h4, h5, h6, h7, h8, h9, h10⟩ := h
  exact ⟨by rw [e _ _ (by omega)]; exact h1, by rw [e _ _ (by omega)]; exact h2, h3.to (fun b j q => e b j (by omega)), h4.to (fun j => e _ _ (by omega)), fun r hr => by rw [e _ _ (by omega)]; exact h5 r hr, by rw [e _ _ (by omega)]; exact h6, fun t ht => (h7 t ht).to hn (hA t ht) (fun b j q => e b j (by omega)), h8.to (fun b j q => e b j (by omega)), h9.to (fun b j q => e b j (by omega)), by rw [e _ _ (by omega)]; exact h10⟩
theorem iM.dn (hT : T ≤ 5) (hn : n ≤ 16) (hs : s ≤ 2000) (hA : ∀ t, t < T → zTw n (A t)) (h : iM M n td c T s N0 CA CB CI CD μ A Q B pl) (e : ∀ b j, 250 ≤ b → M' b j = M b j) : iM M' n td c T s N0 CA CB CI CD μ A Q B pl :=
  h.sc hT hn hs hA (fun b j q => e b j (by omega))
theorem iM.tl (hT : T ≤ 5) (hn : n ≤ 16) (hA : ∀ t, t < T → zTw n (A t)) {t : Nat} {X : zTl} (ht : t < T) (h : iM M n td c T s N0 CA CB CI CD μ A Q B pl) (e : ∀ b j, (b = 250 ∧ (j = 1 ∨ j = 4 ∨ j = 5 ∨ j = 11 ∨ j = 28 ∨ j = 33 ∨ j = 40) ∨ ((251 : Nat) : Int) ≤ b ∧ b ≤ ((256 : Nat) : Int) ∨ b = 258 ∧ j < 5 ∨ (b = 259 ∨ b = 260 ∨ b = 262 ∨ b = 263) ∧ j < 80 ∨ (b = 261 ∨ b = 264 ∨ b = 265 ∨ b = 266) ∧ j < 1280 ∨ ((274 : Nat) : Int) ≤ b ∧ b ≤ ((278 : Nat) : Int)) → ¬ (b = 258 ∧ j = ((t : Nat) : Int) ∨ (b = 259 ∨ b = 260 ∨ b = 262 ∨ b = 263) ∧ ((16 * t : Nat) : Int) ≤ j ∧ j < ((16 * t + 16 : Nat) : Int) ∨ (b = 261 ∨ b = 264 ∨ b = 265 ∨ b = 266) ∧ ((256 * t : Nat) : Int) ≤ j ∧ j < ((256 * t + 256 : Nat) : Int)) → M' b j = M b j) (hX : rTe M' t n X) : iM M' n td c T s N0 CA CB CI CD μ (uup A t X) Q B pl := by
  obtain ⟨h1, h2, h3, h4, h5, h6, h7, h8, h9, h10⟩ := h
  refine ⟨by rw [e _ _ (by omega) (by omega)]; exact h1, by rw [e _ _ (by omega) (by omega)]; exact h2, h3.to (fun b j q => e b j (by omega) (by omega)), h4.to (fun j => e _ _ (by omega) (by omega)), fun r hr => by rw [e _ _ (by omega) (by omega)]; exact h5 r hr, by rw [e _ _ (by omega) (by omega)]; exact h6, fun u hu => ?_, h8.to (fun b j q => e b j (by omega) (by omega)), h9.to (fun b j q => e b j (by omega) (by omega)), by rw [e _ _ (by omega) (by omega)]; exact h10⟩
  by_cases w : u = t
  · rw [w, uup_s]; exact hX
  · rw [uup_n _ _ w]; exact (h7 u hu).to hn (hA u hu) (fun b j q => e b j (by omega) (by omega))
theorem iM.nw (hT : T < 5) (hn : n ≤ 16) (hA : ∀ t, t < T → zTw n (A t)) {X : zTl} (h : iM M n td c T s N0 CA CB CI CD μ A Q B pl) (e : ∀ b j, (b = 250 ∧ (j = 1 ∨ j = 4 ∨ j = 5 ∨ j = 11 ∨ j = 28 ∨ j = 33 ∨ j = 40) ∨ ((251 : Nat) : Int) ≤ b ∧ b ≤ ((256 : Nat) : Int) ∨ b = 258 ∧ j < 5 ∨ (b = 259 ∨ b = 260 ∨ b = 262 ∨ b = 263) ∧ j < 80 ∨ (b = 261 ∨ b = 264 ∨ b = 265 ∨ b = 266) ∧ j < 1280 ∨ ((274 : Nat) : Int) ≤ b ∧ b ≤ ((278 : Nat) : Int)) → ¬ (b = 250 ∧ j = 11 ∨ (b = 258 ∧ j = ((T : Nat) : Int) ∨ (b = 259 ∨ b = 260 ∨ b = 262 ∨ b = 263) ∧ ((16 * T : Nat) : Int) ≤ j ∧ j < ((16 * T + 16 : Nat) : Int) ∨ (b = 261 ∨ b = 264 ∨ b = 265 ∨ b = 266) ∧ ((256 * T : Nat) : Int) ≤ j ∧ j < ((256 * T + 256 : Nat) : Int))) → M' b j = M b j) (hT1 : M' 250 ((11 : Nat) : Int) = ((T + 1 : Nat) : Int)) (hX : rTe M' T n X) : iM M' n td c (T + 1) s N0 CA CB CI CD μ (uup A T X) Q B pl := by
  obtain ⟨h1, h2, h3, h4, h5, h6, h7, h8, h9, h10⟩ := h
  refine ⟨by rw [e _ _ (by omega) (by omega)]; exact h1, by rw [e _ _ (by omega) (by omega)]; exact h2, h3.to (fun b j q => e b j (by omega) (by omega)), h4.to (fun j => e _ _ (by omega) (by omega)), fun r hr => by rw [e _ _ (by omega) (by omega)]; exact h5 r hr, hT1, fun u hu => ?_, h8.to (fun b j q => e b j (by omega) (by omega)), h9.to (fun b j q => e b j (by omega) (by omega)), by rw [e _ _ (by omega) (by omega)]; exact h10⟩
  by_cases w : u = T
  · rw [w, uup_s]; exact hX
  · rw [uup_n _ _ w]; exact (h7 u (by omega)).to hn (hA u (by omega)) (fun b j q => e b j (by omega) (by omega))
theorem iP.tl {t : Nat} {X : zTl} (h : iP n td c T N CA CB CI CD μ A Q B) (hX : zTw n X) : iP n td c T N CA CB CI CD μ (uup A t X) Q B := by
  obtain ⟨h1, h2, h3, h4, h5, h6, h7, h8, h9, h10, h11⟩ := h
  refine ⟨h1, h2, h3, h4, h5, h6, h7, h8, h9, fun u hu => ?_, h11⟩
  by_cases w : u = t
  · rw [w, uup_s]; exact hX
  · rw [uup_n _ _ w]; exact h10 u hu
theorem iP.nw {X : zTl} (hT : T < 5) (h : iP n td c T N CA CB CI CD μ A Q B) (hX : zTw n X) : iP n td c (T + 1) N CA CB CI CD μ (uup A T X) Q B := by
  obtain ⟨h1, h2, h3, h4, h5, h6, h7, h8, h9, h10, h11⟩ := h
  refine ⟨h1, h2, h3, h4, by omega, h6, h7, h8, h9, fun u hu => ?_, h11⟩
  by_cases w : u = T
  · rw [w, uup_s]; exact hX
  · rw [uup_n _ _ w]; exact h10 u (by omega)
/-- a call that changes nothing that is kept -/
theorem zInv.ro {M1 M2 : zMem} (hP : iP n td c T N CA CB CI CD μ A Q B) (hC : iC M n td c T s N μ A Q B pl) (hM : iM M n td c T s (N td) CA CB CI CD μ A Q B pl) (e1 : ∀ b j, (b = ((0 : Nat) : Int) ∧ (j = 4 ∨ j = 5) ∨ ((1 : Nat) : Int) ≤ b ∧ b ≤ ((85 : Nat) : Int) ∨ b = ((86 : Nat) : Int) ∧ j = 5 ∨ b = ((87 : Nat) : Int) ∨ b = ((91 : Nat) : Int) ∨ b = ((148 : Nat) : Int) ∧ j = 7 ∨ ((149 : Nat) : Int) ≤ b ∧ b ≤ ((152 : Nat) : Int) ∨ ((185 : Nat) : Int) ≤ b ∧ b ≤ ((249 : Nat) : Int)) ∨ 250 ≤ b → M1 b j = M b j) (s1 : cSo M1) (e2 : ∀ b j, b ≤ ((249 : Nat) : Int) ∨ (b = 250 ∧ (j = 1 ∨ j = 4 ∨ j = 5 ∨ j = 11 ∨ j = 28 ∨ j = 33 ∨ j = 40) ∨ ((251 : Nat) : Int) ≤ b ∧ b ≤ ((256 : Nat) : Int) ∨ b = 258 ∧ j < 5 ∨ (b = 259 ∨ b = 260 ∨ b = 262 ∨ b = 263) ∧ j < 80 ∨ (b = 261 ∨ b = 264 ∨ b = 265 ∨ b = 266) ∧ j < 1280 ∨ ((274 : Nat) : Int) ≤ b ∧ b ≤ ((278 : Nat) : Int)) → M2 b j = M1 b j) : zInv M2 :=
  ⟨n, td, c, T, s, N, CA, CB, CI, CD, μ, A, Q, B, pl, hP, (hC.sc hP.2.2.2.2.1 hP.2.2.1 (fun b j q => e1 b j (by omega)) s1).up hP.2.2.2.2.1 hP.2.2.1 (fun b j q => e2 b j (Or.inl q)),
    (hM.dn hP.2.2.2.2.1 hP.2.1 hC.2.2.2.2.2.2.1.2.1 hP.2.2.2.2.2.2.2.2.2.1 (fun b j q => e1 b j (Or.inr q))).sc hP.2.2.2.2.1 hP.2.1 hC.2.2.2.2.2.2.1.2.1 hP.2.2.2.2.2.2.2.2.2.1 (fun b j q => e2 b j (Or.inr q))⟩
end IV
/-- the rows of changes beyond those that were made don't count -/
theorem zrep_ext {A B A' B' : Nat → Nat} {I I' : Nat → Bool} {D D' : Nat → Nat} {d : Nat} : ∀ {c : Nat}, (∀ k, k < c → A k = A' k ∧ B k = B' k ∧ I k = I' k ∧ D k = D' k) → zrep A B I D d c = zrep A' B' I' D' d c
  | 0, _ => rfl
  | c + 1, h => by
    obtain ⟨h1, h2, h3, h4⟩ := h c (Nat.lt_succ_self c)
    unfold zrep
    rw [zrep_ext (c := c) (fun k hk => h k (by omega)), h1, h2, h3, h4]
theorem zrep_day {A B : Nat → Nat} {I : Nat → Bool} {D : Nat → Nat} {d e : Nat} : ∀ {c : Nat}, (∀ k, k < c → D k ≤ d ∧ D k ≤ e) → zrep A B I D d c = zrep A B I D e c
  | 0, _ => rfl
  | c + 1, h => by
    obtain ⟨h1, h2⟩ := h c (Nat.lt_succ_self c)
    unfold zrep
    rw [zrep_day (c := c) (fun k hk => h k (by omega)), if_pos h1, if_pos h2]
/-- the beginning -/
theorem zrg_z (j : Int) : ∀ {r : zRow}, (r.all fun q => decide (q.2 = 0)) = true → zrg r j = 0
  | [], _ => rfl
  | q :: r, h => by
    rw [List.all_cons, Bool.and_eq_true] at h
    show (if q.1 = j then q.2 else zrg r j) = 0
    by_cases e : q.1 = j
    · rw [if_pos e]; exact of_decide_eq_true h.1
    · rw [if_neg e]; exact zrg_z j h.2
theorem zi0 {i : Nat} (h : (zC0[i]?).map (fun q => q.2.all fun q => decide (q.2 = 0)) = some true) (j : Int) : zmM zC0 ((i : Nat) : Int) j = 0 := by
  cases e : zC0[i]? with
  | none => rw [e] at h; cases h
  | some q =>
    rw [e] at h
    rw [zmM_at e]
    exact zrg_z j (Option.some.inj h)
theorem zInv_0 : zInv (zmM zC0) := by
  refine ⟨2, 0, 0, 0, 0, fun _ _ _ => false, fun _ => 0, fun _ => 0, fun _ => false, fun _ => 0, fun _ => 0, fun _ => ((0, fun _ => 0), (fun _ => false, fun _ _ => false, fun _ _ => false, fun _ => false), fun _ _ => 0, fun _ _ => 0), (0, fun _ => (0, 0, 0, 0, 0)), fun _ => 0, -1, ?_, ?_, ?_⟩
  · exact ⟨by decide, by decide, by decide, by decide, by decide, fun d hd => ⟨fun _ _ => rfl, fun _ => rfl, fun _ _ h => by cases h⟩, fun d hd => rfl, fun k hk => absurd hk (Nat.not_lt_zero _), fun r hr => Nat.zero_le _, fun t ht => absurd ht (Nat.not_lt_zero _), ⟨Nat.zero_le _, fun i hi => absurd hi (Nat.not_lt_zero _)⟩, fun _ => Nat.zero_lt_succ _⟩
  · refine ⟨⟨by decide +kernel, by decide +kernel, by decide +kernel, fun d hd => ?_⟩, fun r hr => zi0 (i := 2) (by decide +kernel) _, by decide +kernel, fun t ht => absurd ht (Nat.not_lt_zero _), ⟨⟨0, fun _ => 0, by decide +kernel, by decide, fun i hi => absurd hi (Nat.not_lt_zero _), fun k hk h => ⟨zi0 (i := 135) (by decide +kernel) _, zi0 (i := 136) (by decide +kernel) _⟩⟩, fun k hk => zi0 (i := 138) (by decide +kernel) _⟩, ⟨by decide +kernel, fun i hi => absurd hi (Nat.not_lt_zero _)⟩, ⟨by decide +kernel, Nat.zero_le _, fun i hi => absurd hi (Nat.not_lt_zero _)⟩, fun k h1 h2 => ?_, by decide +kernel⟩
    · obtain rfl : d = 0 := by omega
      exact ⟨by decide +kernel, fun p hp => by rw [show zmk ((fun _ _ _ => false : Nat → Nat → Nat → Bool) 0 p) = 0 from zmk_0.symm]; exact zi0 (i := 5) (by decide +kernel) _⟩
    · have h3 : k = 3 ∨ k = 4 ∨ k = 5 ∨ k = 6 ∨ k = 7 ∨ k = 8 ∨ k = 9 := by omega
      rcases h3 with rfl | rfl | rfl | rfl | rfl | rfl | rfl <;> decide +kernel
  · exact ⟨by decide +kernel, by decide +kernel, ⟨by decide +kernel, by decide, fun k hk => absurd hk (Nat.not_lt_zero _)⟩, fun a b ha hb => zi0 (i := 251) (by decide +kernel) _, fun r hr => zi0 (i := 252) (by decide +kernel) _, by decide +kernel, fun t ht => absurd ht (Nat.not_lt_zero _), ⟨by decide +kernel, fun i hi => absurd hi (Nat.not_lt_zero _)⟩, ⟨by decide +kernel, Nat.zero_le _, fun i hi => absurd hi (Nat.not_lt_zero _)⟩, _, rfl⟩
