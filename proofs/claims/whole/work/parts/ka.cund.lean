/-! ===== all tells: the class ===== -/
theorem c_takeTell {O : zOm} (hO : zWld O) (hS : zS O = zmS zC0) {i s n : Nat} {B : Nat → Nat} {Z : zZt} {M : zMem} {K : Option zV → zMem → Prop} (hs : s ≤ 2000) (hn16 : n ≤ 16) (hq0 : zqs B s (zhh B s) = 0) (hi : i < zhh B s) (hq : zqs B s i = 0) (hA : uAll B s n Z i) (hT : cTa M B s) (hZ : cZt M n Z)
    (hk : ∀ M', cXF M M' → cZt M' n (ust B s n Z i) → K (some (0, ((znt B s i : Nat) : Int))) M') : zR O F_Text_takeTell [(2, ((92 : Nat) : Int)), (2, ((86 : Nat) : Int)), (0, ((i : Nat) : Int))] M K := by sorry
/-- the faults of alsos that are said, token by token -/
def uH1 (B : Nat → Nat) (s n : Nat) (Z : zZt) (i F : Nat) : Nat :=
  let F1 := if zVi B s (i + 1) < n then F else min F (8 * zps B s (i + 1) + 5)
  let F2 := if zVi B s (i + 2) < n then F1 else min F1 (8 * zps B s (i + 2) + 5)
  if zVi B s (i + 1) < n ∧ zVi B s (i + 2) < n ∧ zVi B s (i + 1) ≠ zVi B s (i + 2) ∧ usd Z (zVi B s (i + 1)) (zVi B s (i + 2)) = true then min F2 (8 * zps B s (i + 2) + 5) else F2
def uH (B : Nat → Nat) (s n : Nat) (Z : zZt) : Nat → Nat
  | 0 => uF Z
  | i + 1 => if zKi B s i = 9 then uH1 B s n Z i (uH B s n Z i) else uH B s n Z i
theorem uH1_le (B : Nat → Nat) (s n : Nat) (Z : zZt) (i F : Nat) : uH1 B s n Z i F ≤ F := by sorry
theorem uH1_k {B : Nat → Nat} {s n i F : Nat} {Z : zZt} (hs : s ≤ 2000) (hF : uFk F) : uFk (uH1 B s n Z i F) := by sorry
theorem uH_mono {B : Nat → Nat} {s n : Nat} {Z : zZt} {i j : Nat} (h : i ≤ j) : uH B s n Z j ≤ uH B s n Z i := by sorry
theorem uG1_mono {Z : zZt} {i j : Nat} (h : i ≤ j) : uG1 Z j ≤ uG1 Z i := by sorry
theorem uH_k {B : Nat → Nat} {s n : Nat} {Z : zZt} (hs : s ≤ 2000) (hF : uFk (uF Z)) : ∀ i, uFk (uH B s n Z i) := by sorry
/-- both ways of looking at the alsos find the same fault -/
theorem uH_G {B : Nat → Nat} {s n : Nat} {Z : zZt} (hA : uAll B s n Z (zhh B s)) (h3 : ∀ i, i < zhh B s → zKi B s i = 9 → i + 2 < zhh B s) : uH B s n Z (zhh B s) = uG1 Z (ut Z) := by sorry
theorem c_checkAlsos {O : zOm} (hO : zWld O) (hS : zS O = zmS zC0) {s n : Nat} {B : Nat → Nat} {Z : zZt} {M : zMem} {K : Option zV → zMem → Prop} (hs : s ≤ 2000) (hn16 : n ≤ 16) (hF : uFk (uF Z)) (h3 : ∀ i, i < zhh B s → zKi B s i = 9 → i + 2 < zhh B s ∧ zKi B s (i + 1) = 1 ∧ zKi B s (i + 2) = 1) (hT : cTa M B s) (hZ : cZt M n Z)
    (hk : ∀ M', (∀ b j, ¬ (b = ((92 : Nat) : Int) ∧ (j = 14 ∨ j = 15)) → M' b j = M b j) → cZf M' (uH B s n Z (zhh B s)) → K none M') : zR O F_Text_checkAlsos [(2, ((92 : Nat) : Int)), (2, ((86 : Nat) : Int))] M K := by sorry
theorem c_understand {O : zOm} (hO : zWld O) (hS : zS O = zmS zC0) {s n : Nat} {B : Nat → Nat} {M : zMem} {K : Option zV → zMem → Prop} (hs : s ≤ 2000) (hn1 : 0 < n) (hn16 : n ≤ 16) (hF : zksF B s = 99999) (hT : cTa M B s)
    (hk : ∀ M', cXF M M' → uAll B s n (uZT B s n) (zhh B s) → cZt M' n ((uZT B s n).1, (uZT B s n).2.1, (uZT B s n).2.2.1, uFin s n (uZT B s n)) → K none M') : zR O F_Text_understand [(2, ((92 : Nat) : Int)), (2, ((86 : Nat) : Int)), (0, ((n : Nat) : Int))] M K := by sorry
