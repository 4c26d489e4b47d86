/-! ===== more rules; truth values in cells; views of the reference's cells ===== -/
def zbI (b : Bool) : Int := if b = true then 1 else 0
theorem zbI_01 (b : Bool) : zbI b = 0 ∨ zbI b = 1 := by cases b; exact Or.inl rfl; exact Or.inr rfl
theorem zbI_ne {b : Bool} : zbI b ≠ 0 ↔ b = true := by cases b <;> simp [zbI]
theorem zbI_eq {b : Bool} : zbI b = 0 ↔ b = false := by cases b <;> simp [zbI]
theorem zbI_in {b c : Bool} : zbI b = zbI c ↔ b = c := by cases b <;> cases c <;> simp [zbI]
theorem zbI_t : zbI true = 1 := rfl
theorem zbI_f : zbI false = 0 := rfl
theorem i_br {c A B : Prop} (h1 : c → A) (h2 : ¬ c → B) : (c → A) ∧ (¬ c → B) := ⟨h1, h2⟩
theorem i_bne {b : Bool} {A B : Prop} (h1 : b = true → A) (h2 : b = false → B) : (zbI b ≠ 0 → A) ∧ (¬ zbI b ≠ 0 → B) := ⟨fun q => h1 (zbI_ne.mp q), fun q => h2 (zbI_eq.mp (Classical.not_not.mp q))⟩
theorem i_beq {b : Bool} {A B : Prop} (h1 : b = false → A) (h2 : b = true → B) : (zbI b = 0 → A) ∧ (¬ zbI b = 0 → B) := ⟨fun q => h1 (zbI_eq.mp q), fun q => h2 (zbI_ne.mp q)⟩
theorem i_dne {P : Prop} [Decidable P] {A B : Prop} (h1 : P → A) (h2 : ¬ P → B) : (zbI (decide P) ≠ 0 → A) ∧ (¬ zbI (decide P) ≠ 0 → B) := i_bne (fun q => h1 (of_decide_eq_true q)) (fun q => h2 (of_decide_eq_false q))
theorem i_deq {P : Prop} [Decidable P] {A B : Prop} (h1 : ¬ P → A) (h2 : P → B) : (zbI (decide P) = 0 → A) ∧ (¬ zbI (decide P) = 0 → B) := i_beq (fun q => h1 (of_decide_eq_false q)) (fun q => h2 (of_decide_eq_true q))
theorem i_bb {b c : Bool} {A B : Prop} (h : (b = c → A) ∧ (¬ b = c → B)) : (zbI b = zbI c → A) ∧ (¬ zbI b = zbI c → B) := by rw [zbI_in]; exact h
theorem i_zin {S : List zSh} {a j y : Int} {n : Nat} {P : Prop} (hy : y = 0 ∨ y = 1) (h : zArr S a .boolean n) (h1 : 0 ≤ j) (h2 : j < (n : Nat)) (k : P) : ((y = 0 ∨ y = 1) ∧ zIn S a .boolean j) ∧ P := ⟨⟨hy, n, h, h1, h2⟩, k⟩
theorem zg_s (M : zMem) (a : Int) (f : Int → Int) (j v : Int) : zput M a (zup f j v) a j = v := by rw [zput_self, zup_self]
theorem zg_n (M : zMem) {a b : Int} (f : Int → Int) (k : Int) (h : b ≠ a) : zput M a f b k = M b k := by rw [zput_ne _ _ h]
theorem zg_m (M : zMem) (a : Int) (f : Int → Int) (j v : Int) {k : Int} (h : k ≠ j) : zput M a (zup f j v) a k = f k := by rw [zput_self, zup_ne _ _ h]
theorem zg_i (M : zMem) (a b : Int) (j v k : Int) : zput M a (zup (M a) j v) b k = if b = a ∧ k = j then v else M b k := by
  unfold zput zup
  by_cases h : b = a
  · subst h; by_cases q : k = j <;> simp [q]
  · simp [h]
theorem zget_ap (p x : zLoc) (k : Nat) : zget (p ++ x) (p.length + k) = zget x k := by
  induction p with
  | nil => simp
  | cons a p ih => rw [List.cons_append, List.length_cons, show p.length + 1 + k = (p.length + k) + 1 by omega]; exact ih
theorem zsetl_ap (p x : zLoc) (k : Nat) (v : Int) : zsetl (p ++ x) (p.length + k) v = p ++ zsetl x k v := by
  induction p with
  | nil => simp
  | cons a p ih => rw [List.cons_append, List.length_cons, show p.length + 1 + k = (p.length + k) + 1 by omega, List.cons_append]; rw [← ih]; rfl
theorem w_ltP {S : List zSh} {Rn : zRnT} {kt kf : zK} {ρ : zLoc} {M : zMem} {k x n : Nat} (h1 : zget ρ k = ((x : Nat) : Int)) (h2 : zget ρ 0 = 250) (hF : zFld S 250 12 1 = some none) (h3 : M 250 ((1 : Nat) : Int) = ((n : Nat) : Int)) (a : x < n → kt ρ M) (b : ¬ x < n → kf ρ M) : zcw (zcI .lt (zeL k) (zeF 7 12 1 (zeA 0))) S Rn kt kf ρ M := by
  refine i_cI_lt ?_
  rw [w_L]
  refine i_F ?_
  rw [w_A, h2]
  refine ⟨hF, ?_⟩
  rw [h1, h3]
  exact ⟨fun q => a (by omega), fun q => b (by omega)⟩
/-- the reference's two loops over pairs of posts -/
theorem w_Pairs {S : List zSh} {Rn : zRnT} {kn : zK} {kb : Nat → zK} {kr : Option zV → zMem → Prop} {U1 D1 U2 D2 ka : Nat} {BODY : zSt} {ρ : zLoc} {M : zMem} {n : Nat} (pre : Nat → Nat → zLoc) (I : Nat → Nat → zMem → Prop)
    (hpre : ∀ a b, ∃ q, pre a b = 250 :: q ∧ q.length + 1 = ka) (hF : zFld S 250 12 1 = some none) (hn : ∀ a b M, I a b M → M 250 ((1 : Nat) : Int) = ((n : Nat) : Int)) (hn2 : n ≤ 16) (hρ : ∃ l, ρ = pre 0 0 ++ ((0 : Nat) : Int) :: l) (h0 : I 0 0 M)
    (hrow : ∀ a M, a < n → I a 0 M → I a (a + 1) M ∧ pre a 0 = pre a (a + 1)) (hnx : ∀ a M, a < n → I a n M → I (a + 1) 0 M ∧ pre a n = pre (a + 1) 0)
    (hbody : ∀ a b l M (Y Z : zK), a < b → b < n → I a b M → (∀ l M', I a (b + 1) M' → Y (pre a (b + 1) ++ ((a : Nat) : Int) :: ((b : Nat) : Int) :: l) M') → zsw BODY S Rn Y (zlab Z Y (zlab kn Z kb)) kr (pre a b ++ ((a : Nat) : Int) :: ((b : Nat) : Int) :: l) M)
    (he : ∀ l M, I n 0 M → kn (pre n 0 ++ ((n : Nat) : Int) :: l) M) :
    zsw (zsFor U1 D1 (zcI .lt (zeL ka) (zeF 7 12 1 (zeA 0))) (zsBlk (zsSeq (zsSet (ka + 1) (zeAdd (zeL ka) (zeI 1))) (zsFor U2 D2 (zcI .lt (zeL (ka + 1)) (zeF 7 12 1 (zeA 0))) BODY (zsInc (ka + 1) 1)))) (zsInc ka 1)) S Rn kn kb kr ρ M := by
  have hlen : ∀ a b, (pre a b).length = ka := fun a b => by
    obtain ⟨q, h1, h2⟩ := hpre a b
    rw [h1, List.length_cons]; exact h2
  have hz : ∀ a b x k, zget (pre a b ++ x) (ka + k) = zget x k := fun a b x k => by rw [← hlen a b]; exact zget_ap _ _ _
  have hs : ∀ a b x k v, zsetl (pre a b ++ x) (ka + k) v = pre a b ++ zsetl x k v := fun a b x k v => by rw [← hlen a b]; exact zsetl_ap _ _ _ _
  have h00 : ∀ a b x, zget (pre a b ++ x) 0 = 250 := fun a b x => by
    obtain ⟨q, h1, h2⟩ := hpre a b
    rw [h1]; rfl
  refine w_ForN n (fun a ρ M => (∃ l, ρ = pre a 0 ++ ((a : Nat) : Int) :: l) ∧ I a 0 M) ⟨hρ, h0⟩ ?_ ?_
  · rintro a ρ M X ha ⟨⟨l, rfl⟩, hI⟩ hX
    refine i_turn ?_
    refine w_ltP (x := a) (hz a 0 _ 0) (h00 a 0 _) hF (hn _ _ _ hI) (fun _ => ?_) (fun q => absurd ha q)
    refine i_Blk (i_Seq (i_Set (i_Add ?_)))
    rw [w_L, show zget (pre a 0 ++ ((a : Nat) : Int) :: l) ka = ((a : Nat) : Int) from hz a 0 _ 0]
    refine i_I ?_
    rw [show zw32 (((a : Nat) : Int) + 1) = ((a + 1 : Nat) : Int) from zx_inc (by omega), hs a 0 _ 1]
    obtain ⟨h1, h2⟩ := hrow a M ha hI
    refine w_ForN (n - (a + 1)) (fun k ρ M => (∃ l, ρ = pre a (a + 1 + k) ++ ((a : Nat) : Int) :: ((a + 1 + k : Nat) : Int) :: l) ∧ I a (a + 1 + k) M) ⟨⟨l.tail, by rw [h2]; show pre a (a + 1) ++ ((a : Nat) : Int) :: zsetl l 0 _ = _; rw [w_setT]⟩, h1⟩ ?_ ?_
    · rintro k ρ M2 X1 hk ⟨⟨l2, rfl⟩, hI2⟩ hX1
      refine i_turn ?_
      refine w_ltP (x := a + 1 + k) (hz a _ _ 1) (h00 a _ _) hF (hn _ _ _ hI2) (fun _ => ?_) (fun q => absurd (by omega) q)
      refine hbody a (a + 1 + k) l2 M2 _ _ (by omega) (by omega) hI2 (fun l3 M3 hI3 => ?_)
      refine i_up ?_
      rw [w_Inc, hz a _ _ 1, hs a _ _ 1]
      show X1 (pre a (a + 1 + k + 1) ++ ((a : Nat) : Int) :: zsetl (((a + 1 + k : Nat) : Int) :: l3) 0 (zw32 (((a + 1 + k : Nat) : Int) + 1))) M3
      rw [w_set0, show zw32 (((a + 1 + k : Nat) : Int) + 1) = ((a + 1 + k + 1 : Nat) : Int) from zx_inc (by omega)]
      exact hX1 _ _ ⟨⟨l3, rfl⟩, hI3⟩
    · rintro ρ M2 X1 ⟨⟨l2, rfl⟩, hI2⟩
      rw [show a + 1 + (n - (a + 1)) = n by omega] at hI2 ⊢
      obtain ⟨h3, h4⟩ := hnx a M2 ha hI2
      refine i_turn ?_
      refine w_ltP (x := n) (hz a _ _ 1) (h00 a _ _) hF (hn _ _ _ hI2) (fun q => absurd q (Nat.lt_irrefl _)) (fun _ => ?_)
      refine i_up ?_
      rw [w_Inc, show zget (pre a n ++ ((a : Nat) : Int) :: ((n : Nat) : Int) :: l2) ka = ((a : Nat) : Int) from hz a n _ 0, show zsetl (pre a n ++ ((a : Nat) : Int) :: ((n : Nat) : Int) :: l2) ka (zw32 (((a : Nat) : Int) + 1)) = pre a n ++ zsetl (((a : Nat) : Int) :: ((n : Nat) : Int) :: l2) 0 (zw32 (((a : Nat) : Int) + 1)) from hs a n _ 0 _, w_set0, show zw32 (((a : Nat) : Int) + 1) = ((a + 1 : Nat) : Int) from zx_inc (by omega), h4]
      exact hX _ _ ⟨⟨_, rfl⟩, h3⟩
  · rintro ρ M X ⟨⟨l, rfl⟩, hI⟩
    refine i_turn ?_
    refine w_ltP (x := n) (hz n 0 _ 0) (h00 n 0 _) hF (hn _ _ _ hI) (fun q => absurd q (Nat.lt_irrefl _)) (fun _ => ?_)
    exact he _ _ hI
theorem s_joins {O : zOm} (hO : zWld O) {n a b P : Nat} {T : Nat → Nat → Bool} {M : zMem} {K : Option zV → zMem → Prop} (hn : zNet (zS O) n) (hM : zNR M n P T) (ha : a < 16) (hb : b < 16) (hk : K (some (0, zbI (T a b))) M) : zR O F_Net_joins [(2, (n : Int)), (0, (a : Int)), (0, (b : Int))] M K := s_Net_joins hO hn hM ha hb hk
theorem zg_o (M : zMem) {a b : Int} {j k : Int} (v : Int) (h : ¬ (b = a ∧ k = j)) : zput M a (zup (M a) j v) b k = M b k := by rw [zg_i, if_neg h]
