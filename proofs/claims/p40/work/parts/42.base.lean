/-! ===== rules for the proofs of contracts ===== -/
theorem w_ForN {S : List zSh} {Rn : zRnT} {kn : zK} {kb : Nat → zK} {kr : Option zV → zMem → Prop} {U D : Nat} {c : zC} {a u : zSt} {ρ : zLoc} {M : zMem} (n : Nat) (J : Nat → zLoc → zMem → Prop) (h0 : J 0 ρ M)
    (hs : ∀ k ρ M (X : zK), k < n → J k ρ M → (∀ ρ' M', J (k + 1) ρ' M' → X ρ' M') → zTurn c a S Rn kn kb kr (zUp u S Rn kr X) ρ M)
    (he : ∀ ρ M (X : zK), J n ρ M → zTurn c a S Rn kn kb kr (zUp u S Rn kr X) ρ M) : zsw (zsFor U D c a u) S Rn kn kb kr ρ M := by
  refine w_For (α := Nat × zLoc × zMem) (fun x => x.2) (fun x => x.1 ≤ n ∧ J x.1 x.2.1 x.2.2) (fun x => n - x.1) (fun x X hx hy => ?_) (0, ρ, M) ⟨Nat.zero_le _, h0⟩
  obtain ⟨k, ρ, M⟩ := x
  obtain ⟨h1, h2⟩ := hx
  rcases Nat.lt_or_ge k n with h | h
  · exact hs k ρ M X h h2 (fun ρ' M' hj => hy (k + 1, ρ', M') ⟨h, hj⟩ (by show n - (k + 1) < n - k; omega))
  · have : k = n := Nat.le_antisymm h1 h
    subst this
    exact he ρ M X h2
theorem w_WhileN {S : List zSh} {Rn : zRnT} {kn : zK} {kb : Nat → zK} {kr : Option zV → zMem → Prop} {D : Nat} {c : zC} {a : zSt} {ρ : zLoc} {M : zMem} (n : Nat) (J : Nat → zLoc → zMem → Prop) (h0 : J 0 ρ M)
    (hs : ∀ k ρ M (X : zK), k < n → J k ρ M → (∀ ρ' M', J (k + 1) ρ' M' → X ρ' M') → zTurn c a S Rn kn kb kr X ρ M)
    (he : ∀ ρ M (X : zK), J n ρ M → zTurn c a S Rn kn kb kr X ρ M) : zsw (zsWhile D c a) S Rn kn kb kr ρ M := by
  refine w_While (α := Nat × zLoc × zMem) (fun x => x.2) (fun x => x.1 ≤ n ∧ J x.1 x.2.1 x.2.2) (fun x => n - x.1) (fun x X hx hy => ?_) (0, ρ, M) ⟨Nat.zero_le _, h0⟩
  obtain ⟨k, ρ, M⟩ := x
  obtain ⟨h1, h2⟩ := hx
  rcases Nat.lt_or_ge k n with h | h
  · exact hs k ρ M X h h2 (fun ρ' M' hj => hy (k + 1, ρ', M') ⟨h, hj⟩ (by show n - (k + 1) < n - k; omega))
  · have : k = n := Nat.le_antisymm h1 h
    subst this
    exact he ρ M X h2
theorem zw32_s {x : Int} (h1 : -2147483648 ≤ x) (h2 : x < 2147483648) : zw32 x = x := zw32_id ⟨h1, h2⟩
theorem zput_self (M : zMem) (a : Int) (f : Int → Int) : zput M a f a = f := by unfold zput; rw [if_pos rfl]
theorem zput_ne (M : zMem) {a b : Int} (f : Int → Int) (h : b ≠ a) : zput M a f b = M b := by unfold zput; rw [if_neg h]
theorem zput_put (M : zMem) (a : Int) (f g : Int → Int) : zput (zput M a f) a g = zput M a g := by
  funext b; unfold zput; split <;> rfl
theorem zup_self (f : Int → Int) (i v : Int) : zup f i v i = v := by unfold zup; rw [if_pos rfl]
theorem zup_ne (f : Int → Int) {i j : Int} (v : Int) (h : j ≠ i) : zup f i v j = f j := by unfold zup; rw [if_neg h]
theorem zIn_eq {S : List zSh} {a : Int} {ty : FieldType} {n : Nat} (h : zArr S a ty n) (j : Int) : zIn S a ty j = (0 ≤ j ∧ j < (n : Nat)) := propext ⟨fun ⟨m, hm, h1, h2⟩ => by
    obtain ⟨-, rs, hr⟩ := h
    obtain ⟨-, rs', hr'⟩ := hm
    rw [hr] at hr'
    cases hr'
    exact ⟨h1, h2⟩, fun ⟨h1, h2⟩ => ⟨n, h, h1, h2⟩⟩
theorem zArr_uq {S : List zSh} {a : Int} {ty : FieldType} {n m : Nat} (h : zArr S a ty n) (h' : zArr S a ty m) : n = m := by
  obtain ⟨-, rs, hr⟩ := h
  obtain ⟨-, rs', hr'⟩ := h'
  rw [hr] at hr'
  cases hr'
  rfl
/-- all cells but these are as they were -/
def zFr (ids : List Int) (M M' : zMem) : Prop := ∀ b, b ∉ ids → M' b = M b
theorem zFr.rf {ids : List Int} {M : zMem} : zFr ids M M := fun _ _ => rfl
theorem zFr.tr {ids : List Int} {M M1 M2 : zMem} (h1 : zFr ids M M1) (h2 : zFr ids M1 M2) : zFr ids M M2 := fun b hb => (h2 b hb).trans (h1 b hb)
theorem zFr.wk {ids ids' : List Int} {M M1 : zMem} (h1 : zFr ids M M1) (h : ∀ b ∈ ids, b ∈ ids') : zFr ids' M M1 := fun b hb => h1 b (fun q => hb (h b q))
theorem zFr.put {ids : List Int} {M M1 : zMem} (h1 : zFr ids M M1) {a : Int} (ha : a ∈ ids) (f : Int → Int) : zFr ids M (zput M1 a f) := fun b hb => by
  rw [zput_ne _ _ (fun e => hb (by rw [e]; exact ha))]; exact h1 b hb
/-- how many numbers below n are in s -/
def zcnt (s : Nat → Bool) : Nat → Nat
  | 0 => 0
  | k + 1 => zcnt s k + (if s k = true then 1 else 0)
theorem zcnt_le (s : Nat → Bool) (n : Nat) : zcnt s n ≤ n := by
  induction n with
  | zero => exact Nat.le_refl _
  | succ n ih => unfold zcnt; split <;> omega
theorem zcnt_ext {s t : Nat → Bool} {n : Nat} (h : ∀ i, i < n → s i = t i) : zcnt s n = zcnt t n := by
  induction n with
  | zero => rfl
  | succ n ih => unfold zcnt; rw [ih (fun i hi => h i (by omega)), h n (by omega)]
-- ToldNet.bits and its like; the JDK's bitCount and fill
def B_Integer_bitCount : zSt := (zsSeq (zsSet 0 (zeSub (zeL 0) (zeAnd (zeUshr (zeL 0) (zeI 1)) (zeLdc 265 1431655765)))) (zsSeq (zsSet 0 (zeAdd (zeAnd (zeL 0) (zeLdc 266 858993459)) (zeAnd (zeUshr (zeL 0) (zeI 2)) (zeLdc 266 858993459)))) (zsSeq (zsSet 0 (zeAnd (zeAdd (zeL 0) (zeUshr (zeL 0) (zeI 4))) (zeLdc 267 252645135))) (zsSeq (zsSet 0 (zeAdd (zeL 0) (zeUshr (zeL 0) (zeI 8)))) (zsSeq (zsSet 0 (zeAdd (zeL 0) (zeUshr (zeL 0) (zeI 16)))) (zsRetI (zeAnd (zeL 0) (zeI 63))))))))
theorem ck_Integer_bitCount : (zsc B_Integer_bitCount (zEvC "java/lang/Integer" F_Integer_bitCount zpf_Integer zpm_Integer zpk_Integer) (zG0 0 [0]) 0 none []).isSome = true := by decide +kernel
theorem r_Integer_bitCount {O : zOm} (hO : zWld O) {a0 : Int} {M : zMem} {K : Option zV → zMem → Prop} (hw : zsw B_Integer_bitCount (zS O) (zR O) zF0 zF1 K [a0] M) : zR O F_Integer_bitCount [(0, a0)] M K := zR.run hO (zEvOk_Integer _) rfl (by decide +kernel) ck_Integer_bitCount rfl (Nat.le_of_ble_eq_true rfl) hw
def B_Arrays_fill : zSt := (zsSeq (zsBlk (zsSeq (zsSet 2 (zeI 0)) (zsSeq (zsSet 3 (zeLen (zeA 0))) (zsFor 14 20 (zcI .lt (zeL 2) (zeL 3)) (zsIA (zeA 0) (zeL 2) (zeL 1)) (zsInc 2 1))))) zsRetV)
theorem ck_Arrays_fill : (zsc B_Arrays_fill (zEvC "java/util/Arrays" F_Arrays_fill zpf_Arrays zpm_Arrays zpk_Arrays) (zG0 0 [2, 0]) 0 none []).isSome = true := by decide +kernel
theorem r_Arrays_fill {O : zOm} (hO : zWld O) {a0 a1 : Int} {M : zMem} {K : Option zV → zMem → Prop} (hw : zsw B_Arrays_fill (zS O) (zR O) zF0 zF1 K [a0, a1] M) : zR O F_Arrays_fill [(2, a0), (0, a1)] M K := zR.run hO (zEvOk_Arrays _) rfl (by decide +kernel) ck_Arrays_fill rfl (Nat.le_of_ble_eq_true rfl) hw
theorem s_fill {O : zOm} (hO : zWld O) {a : Nat} {v : Int} {n : Nat} {M : zMem} {K : Option zV → zMem → Prop} (ha : zArr (zS O) a .int n) (hn : n < 2147483648)
    (hk : ∀ M', zFr [(a : Int)] M M' → (∀ j : Nat, j < n → M' a j = v) → (∀ j : Int, ¬ (0 ≤ j ∧ j < n) → M' a j = M a j) → K none M') : zR O F_Arrays_fill [(2, a), (0, v)] M K := by
  apply r_Arrays_fill hO
  simp only [B_Arrays_fill, w_I, w_Ldc, w_LdcL, w_IL, w_Null, w_L, w_Ll, w_A, w_Add, w_Sub, w_Mul, w_Div, w_Rem, w_And, w_Or, w_Xor, w_Shl, w_Shr, w_Ushr, w_AddL, w_SubL, w_MulL, w_CmpL, w_Neg, w_I2L, w_L2I, w_I2B, w_F, w_FR, w_IA, w_ZA, w_BA, w_LA, w_RA, w_Len, w_MM, w_Call, w_as0, w_as1, w_eIf, w_cI, w_cZ, w_cN, w_cNot, w_cAnd, w_cOr, w_cIf, w_eq, w_ne, w_lt, w_ge, w_gt, w_le, w_Skip, w_Seq, w_Blk, w_Set, w_Inc, w_sF, w_FO, w_sIA, w_sLA, w_sZA, w_sBA, w_IO, w_Pop, w_sCall, w_Copy, w_RetI, w_RetZ, w_RetL, w_RetR, w_RetV, w_If, w_Ite, w_IteD, w_IfR, w_Brk, w_IfBrk, w_lab0, w_lab1, w_lab2, w_lb0, w_lb1, w_Sw, w_sw0, w_sw1, w_recv0, w_recv1, w_recv2, w_get0, w_get1, w_set0, w_set1, w_setn0, w_setn1, true_and]
  refine ⟨_, n, ha, hn, ?_⟩
  refine w_ForN n (fun k ρ M' => ρ = [(a : Int), v, (k : Nat), (n : Nat)] ∧ zFr [(a : Int)] M M' ∧ (∀ j : Nat, j < k → M' a j = v) ∧ (∀ j : Int, ¬ (0 ≤ j ∧ j < k) → M' a j = M a j)) ⟨rfl, zFr.rf, fun j hj => by omega, fun _ _ => rfl⟩ ?_ ?_
  · rintro k ρ M1 X hkn ⟨rfl, h1, h2, h3⟩ hX
    simp only [zTurn, zUp, w_I, w_Ldc, w_LdcL, w_IL, w_Null, w_L, w_Ll, w_A, w_Add, w_Sub, w_Mul, w_Div, w_Rem, w_And, w_Or, w_Xor, w_Shl, w_Shr, w_Ushr, w_AddL, w_SubL, w_MulL, w_CmpL, w_Neg, w_I2L, w_L2I, w_I2B, w_F, w_FR, w_IA, w_ZA, w_BA, w_LA, w_RA, w_Len, w_MM, w_Call, w_as0, w_as1, w_eIf, w_cI, w_cZ, w_cN, w_cNot, w_cAnd, w_cOr, w_cIf, w_eq, w_ne, w_lt, w_ge, w_gt, w_le, w_Skip, w_Seq, w_Blk, w_Set, w_Inc, w_sF, w_FO, w_sIA, w_sLA, w_sZA, w_sBA, w_IO, w_Pop, w_sCall, w_Copy, w_RetI, w_RetZ, w_RetL, w_RetR, w_RetV, w_If, w_Ite, w_IteD, w_IfR, w_Brk, w_IfBrk, w_lab0, w_lab1, w_lab2, w_lb0, w_lb1, w_Sw, w_sw0, w_sw1, w_recv0, w_recv1, w_recv2, w_get0, w_get1, w_set0, w_set1, w_setn0, w_setn1, true_and, zIn_eq ha]
    refine ⟨fun _ => ⟨⟨by omega, by omega⟩, hX _ _ ⟨?_, h1.put (by simp) _, fun j hj => ?_, fun j hj => ?_⟩⟩, fun q => absurd (show (k : Int) < n by omega) q⟩
    · rw [zw32_s (by omega) (by omega)]; rfl
    · rw [zput_self]
      by_cases hjk : j = k
      · subst hjk; rw [zup_self]
      · rw [zup_ne _ _ (by omega)]; exact h2 j (by omega)
    · rw [zput_self, zup_ne _ _ (by omega)]; exact h3 j (by omega)
  · rintro ρ M1 X ⟨rfl, h1, h2, h3⟩
    simp only [zTurn, zUp, w_I, w_Ldc, w_LdcL, w_IL, w_Null, w_L, w_Ll, w_A, w_Add, w_Sub, w_Mul, w_Div, w_Rem, w_And, w_Or, w_Xor, w_Shl, w_Shr, w_Ushr, w_AddL, w_SubL, w_MulL, w_CmpL, w_Neg, w_I2L, w_L2I, w_I2B, w_F, w_FR, w_IA, w_ZA, w_BA, w_LA, w_RA, w_Len, w_MM, w_Call, w_as0, w_as1, w_eIf, w_cI, w_cZ, w_cN, w_cNot, w_cAnd, w_cOr, w_cIf, w_eq, w_ne, w_lt, w_ge, w_gt, w_le, w_Skip, w_Seq, w_Blk, w_Set, w_Inc, w_sF, w_FO, w_sIA, w_sLA, w_sZA, w_sBA, w_IO, w_Pop, w_sCall, w_Copy, w_RetI, w_RetZ, w_RetL, w_RetR, w_RetV, w_If, w_Ite, w_IteD, w_IfR, w_Brk, w_IfBrk, w_lab0, w_lab1, w_lab2, w_lb0, w_lb1, w_Sw, w_sw0, w_sw1, w_recv0, w_recv1, w_recv2, w_get0, w_get1, w_set0, w_set1, w_setn0, w_setn1, true_and]
    exact ⟨fun q => absurd q (by omega), fun _ => hk _ h1 h2 h3⟩
