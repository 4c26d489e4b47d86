/-! ===== pairs told, all tells: the reference ===== -/
theorem uoI_x {a x : Nat} (hx : x < 999) : uoI a = ((x : Nat) : Int) ↔ a = x := by sorry
theorem m_isTextSaid {O : zOm} (hO : zWld O) (hS : zS O = zmS zC0) {k p q n : Nat} {Z : zZt} {M : zMem} {K : Option zV → zMem → Prop} (hZo : rZo M Z) (hZw : rZw M Z) (hO2 : uO2 n Z) (hw : uWk n Z (uw Z k)) (hub : ub Z < 999) (hk1 : k < uk Z) (hk41 : uk Z ≤ 41) (hp : p < 16) (hq : q < 16) (hk : K (some (0, zbI (usy (uo Z) (ul Z) (uw Z k) p q))) M) : zR O F_Model_isTextSaid [(2, 249), (0, ((k : Nat) : Int)), (0, ((p : Nat) : Int)), (0, ((q : Nat) : Int))] M K := by sorry
theorem m_isSomeSaid {O : zOm} (hO : zWld O) (hS : zS O = zmS zC0) {p q n : Nat} {Z : zZt} {M : zMem} {K : Option zV → zMem → Prop} (hZo : rZo M Z) (hZw : rZw M Z) (hO2 : uO2 n Z) (hO4 : uO4 n Z) (hub : ub Z < 999) (hk41 : uk Z ≤ 41) (hp : p < 16) (hq : q < 16) (hk : K (some (0, zbI (usd Z p q))) M) : zR O F_Model_isSomeSaid [(2, 249), (0, ((p : Nat) : Int)), (0, ((q : Nat) : Int))] M K := by sorry
theorem rZt.F {M : zMem} {Z : zZt} {F : Nat} (h : rZt M Z) (hf : rZf M F) : rZt M (Z.1, Z.2.1, Z.2.2.1, F) := by sorry
theorem m_tellPair {O : zOm} (hO : zWld O) (hS : zS O = zmS zC0) {i s n : Nat} {ai : Int} {also : Bool} {B : Nat → Nat} {Z : zZt} {M : zMem} {K : Option zV → zMem → Prop} (hai : ai = zbI also) (hs : s ≤ 2000) (hn16 : n ≤ 16) (hq0 : zqs B s (zhh B s) = 0) (hi : i < zhh B s) (hq : zqs B s i = 0) (hK : zKi B s i = 8 ∨ zKi B s i = 9) (hA : uAll B s n Z i) (hX : rTx M B s n i Z)
    (hk : ∀ M', rXF M M' → M' 249 ((67 : Nat) : Int) = ((i + 4 : Nat) : Int) → rZt M' (us4 B s n also Z i) → K none M') : zR O F_Model_tellPair [(2, 249), (0, ai)] M K := by sorry
/-! ===== all tells ===== -/
def uG1 (Z : zZt) : Nat → Nat
  | 0 => uF Z
  | k + 1 => if (up Z k).2.2.1 = true ∧ usd Z (up Z k).1 (up Z k).2.1 = true then min (uG1 Z k) (8 * (up Z k).2.2.2 + 5) else uG1 Z k
theorem uG1_k {Z : zZt} {s : Nat} (hs : s ≤ 2000) (hF : uFk (uF Z)) (hp : ∀ k, k < ut Z → (up Z k).2.2.2 ≤ s) : ∀ k, k ≤ ut Z → uFk (uG1 Z k) := by sorry
/-- the first fault of all -/
def uFin (s n : Nat) (Z : zZt) : Nat := if zex (fun p => decide (uo Z p = 999)) n = true then min (uG1 Z (ut Z)) (8 * s + 6) else uG1 Z (ut Z)
def uZT (B : Nat → Nat) (s n : Nat) : zZt := ufi B s n (zhh B s) 0 uZ0
theorem m_tellAll {O : zOm} (hO : zWld O) (hS : zS O = zmS zC0) {s n : Nat} {B : Nat → Nat} {M : zMem} {K : Option zV → zMem → Prop} (hs : s ≤ 2000) (hn16 : n ≤ 16) (hF : zksF B s = 99999) (hR : rTt M B s) (hn : M 249 ((1 : Nat) : Int) = ((n : Nat) : Int)) (ht : M 249 ((33 : Nat) : Int) = ((s : Nat) : Int)) (hf0 : M 249 ((66 : Nat) : Int) = 0) (hp0 : M 249 ((40 : Nat) : Int) = -1)
    (hk : ∀ M', rXF M M' → uAll B s n (uZT B s n) (zhh B s) → rZt M' ((uZT B s n).1, (uZT B s n).2.1, (uZT B s n).2.2.1, uFin s n (uZT B s n)) → K none M') : zR O F_Model_tellAll [(2, 249)] M K := by sorry
