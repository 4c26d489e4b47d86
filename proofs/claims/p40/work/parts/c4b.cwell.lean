/-! ===== the class: a telling as one thing; what the rule makes is well formed ===== -/
/-- its words as numbers -/
def zWsn (A : zTl) (c : Nat) : Bool :=
  if c < 256 then decide (c % 16 = 0) && tC A (c / 16) else if c < 512 then tD A (c / 16 % 16) (c % 16) else if c < 768 then tG A (c / 16 % 16) (c % 16) else decide (c % 16 = 0) && (decide (c < 1024) && tH A (c / 16 % 16))
/-- what is said of a pair: 0 no except, 1 told, 2 left out -/
def tvs (A : zTl) (p q : Nat) : Nat := if p < q then tv A p q else tv A q p
def zTR (M : zMem) (x n : Nat) (A : zTl) : Prop := zPR M (x + 1) n (tf A) (tm A) ∧ (∀ b k : Nat, b < tm A → k < zSz (tf A) n b → M ((x + 5 : Nat) : Int) ((zSt0 (tf A) n b + k : Nat) : Int) = ((tr A b k : Nat) : Int)) ∧ (zWd M x (zWsn A) ∧ zcnt (zWsn A) 1024 ≤ 120) ∧ zNR M (x + 7) n (tS n A) ∧ zNR M (x + 9) n (fun p q => decide (tvs A p q ≠ 0)) ∧ zNR M (x + 11) n (fun p q => decide (tvs A p q = 2))
/-- the telling that the rule makes -/
def zRul (n m : Nat) (T : Nat → Nat → Bool) (g : Nat → Nat) : zTl := ((m, g), (zrC n m T g, zrD n m T g, zrG n m T g, zrH n m T g), zrow n g T, zxe (fun p q => zrSd n m T g p q ^^ T p q) n)
theorem zWs_rul (n m : Nat) (T : Nat → Nat → Bool) (g : Nat → Nat) (c : Nat) : zWsn (zRul n m T g) c = zrW n m T g c := rfl
theorem zRul_P (n m : Nat) (T : Nat → Nat → Bool) (g : Nat → Nat) (hg : ∀ q, q < n → g q < m) (p : Nat) (hp : p ≤ n) (a c : Nat) : zrP n m T g p a c = (decide (a < n ∧ c < n ∧ a ≠ c) && zWq g (zrC n m T g) (zrD n m T g) (fun x i => decide (x < p) && zrG n m T g x i) a c) := by
  induction p generalizing a c with
  | zero =>
    show zrS0 n m T g a c = _
    unfold zrS0 zWq
    dsimp only
    rw [decide_eq_false (Nat.not_lt_zero _), decide_eq_false (Nat.not_lt_zero _)]
    rfl
  | succ p ih =>
    have key : ∀ i, i ≤ m → ∀ a c, zrI n m T g (zrP n m T g p) p i a c = (decide (a < n ∧ c < n ∧ a ≠ c) && zWq g (zrC n m T g) (zrD n m T g) (fun x j => decide (x < p ∨ x = p ∧ j < i) && zrG n m T g x j) a c) := by
      intro i
      induction i with
      | zero =>
        intro _ a c
        show zrP n m T g p a c = _
        rw [ih (by omega)]
        congr 1
        unfold zWq
        dsimp only
        rw [zdb (show a < p ↔ (a < p ∨ a = p ∧ g c < 0) by omega), zdb (show c < p ↔ (c < p ∨ c = p ∧ g a < 0) by omega)]
      | succ i ihi =>
        intro hi a c
        have hG := zrG_in (T := T) (g := g) (show p < n by omega) (show i < m by omega)
        rw [zrI_su]
        by_cases hc : zrc n m T g (zrI n m T g (zrP n m T g p) p i) p i = true
        · rw [if_pos hc]
          rw [hc] at hG
          unfold zrA
          rw [ihi (by omega)]
          by_cases h : a < n ∧ c < n ∧ a ≠ c
          · rw [decide_eq_true h, Bool.true_and, Bool.true_and]
            unfold zWq
            dsimp only
            generalize (if g a = g c then zrC n m T g (g a) else if g a < g c then zrD n m T g (g a) (g c) else zrD n m T g (g c) (g a)) = w
            by_cases e1 : a = p ∧ g c = i
            · have e2 : ¬ (c = p ∧ g a = i) := fun z => h.2.2 (e1.1.trans z.1.symm)
              rw [decide_eq_true (show a = p ∧ c ≠ p ∧ c < n ∧ g c = i from ⟨e1.1, fun z => h.2.2 (e1.1.trans z.symm), h.2.1, e1.2⟩), decide_eq_true (show a < p ∨ a = p ∧ g c < i + 1 by omega), e1.1, e1.2, hG]
              simp
            · by_cases e2 : c = p ∧ g a = i
              · rw [decide_eq_true (show c = p ∧ a ≠ p ∧ a < n ∧ g a = i from ⟨e2.1, fun z => h.2.2 (z.trans e2.1.symm), h.1, e2.2⟩), decide_eq_true (show c < p ∨ c = p ∧ g a < i + 1 by omega), e2.1, e2.2, hG]
                simp
              · rw [decide_eq_false (show ¬ (a = p ∧ c ≠ p ∧ c < n ∧ g c = i) from fun z => e1 ⟨z.1, z.2.2.2⟩), decide_eq_false (show ¬ (c = p ∧ a ≠ p ∧ a < n ∧ g a = i) from fun z => e2 ⟨z.1, z.2.2.2⟩), Bool.or_false, Bool.or_false]
                rw [zdb (show (a < p ∨ a = p ∧ g c < i) ↔ (a < p ∨ a = p ∧ g c < i + 1) by omega), zdb (show (c < p ∨ c = p ∧ g a < i) ↔ (c < p ∨ c = p ∧ g a < i + 1) by omega)]
          · rw [decide_eq_false h, Bool.false_and, Bool.false_and, Bool.false_or, decide_eq_false (show ¬ (a = p ∧ c ≠ p ∧ c < n ∧ g c = i) from fun z => h ⟨by omega, z.2.2.1, fun w => z.2.1 (w.symm.trans z.1)⟩), decide_eq_false (show ¬ (c = p ∧ a ≠ p ∧ a < n ∧ g a = i) from fun z => h ⟨z.2.2.1, by omega, fun w => z.2.1 (w.trans z.1)⟩)]
            rfl
        · rw [if_neg hc, ihi (by omega)]
          have hG2 : zrG n m T g p i = false := by rw [hG]; cases e : zrc n m T g (zrI n m T g (zrP n m T g p) p i) p i; rfl; exact absurd e hc
          congr 1
          unfold zWq
          dsimp only
          have e : ∀ x j, (decide (x < p ∨ x = p ∧ j < i) && zrG n m T g x j) = (decide (x < p ∨ x = p ∧ j < i + 1) && zrG n m T g x j) := fun x j => by
            by_cases z : x = p ∧ j = i
            · rw [z.1, z.2, hG2, Bool.and_false, Bool.and_false]
            · exact zdb (by omega)
          rw [e a, e c]
    show zrI n m T g (zrP n m T g p) p m a c = _
    rw [key m (Nat.le_refl _)]
    by_cases h : a < n ∧ c < n ∧ a ≠ c
    · have h1 := hg a h.1
      have h2 := hg c h.2.1
      congr 1
      unfold zWq
      dsimp only
      rw [zdb (show (a < p ∨ a = p ∧ g c < m) ↔ a < p + 1 by omega), zdb (show (c < p ∨ c = p ∧ g a < m) ↔ c < p + 1 by omega)]
    · rw [decide_eq_false h]; rfl
theorem zRul_S (n m : Nat) (T : Nat → Nat → Bool) (g : Nat → Nat) (hg : ∀ q, q < n → g q < m) : tS n (zRul n m T g) = zrSd n m T g := by
  have h0 : (fun p q => decide (p < n ∧ q < n ∧ p ≠ q) && zWq g (zrC n m T g) (zrD n m T g) (zrG n m T g) p q) = zrP n m T g n := by
    funext a c
    rw [zRul_P n m T g hg n (Nat.le_refl _)]
    by_cases h : a < n ∧ c < n ∧ a ≠ c
    · congr 1
      unfold zWq
      dsimp only
      rw [decide_eq_true h.1, decide_eq_true h.2.1, Bool.true_and, Bool.true_and]
    · rw [decide_eq_false h]; rfl
  have h1 : ∀ i, i ≤ m → zChs (zrP n m T g n) (zrH n m T g) (zrow n g T) (zSz g n) i = zrQ n m T g i := by
    intro i
    induction i with
    | zero => intro _; rfl
    | succ i ih =>
      intro hi
      rw [zrQ_su, ← ih (by omega)]
      show (if zrH n m T g i = true then _ else _) = _
      have e : zrH n m T g i = zrh n m T g (zChs (zrP n m T g n) (zrH n m T g) (zrow n g T) (zSz g n) i) i := by rw [ih (by omega)]; unfold zrH; rw [decide_eq_true (show i < m by omega)]; rfl
      rw [← e]
  show zChs (fun p q => decide (p < n ∧ q < n ∧ p ≠ q) && zWq g (zrC n m T g) (zrD n m T g) (zrG n m T g) p q) (zrH n m T g) (zrow n g T) (zSz g n) m = _
  rw [h0]
  exact h1 m (Nat.le_refl _)
theorem zchn_in {S : Nat → Nat → Bool} {w : Nat → Nat} {f k : Nat} {P : Nat → Nat → Prop} (h : ∀ a c, S a c = true → P a c) (hw : ∀ j, j < k → P (w (f + j)) (w (f + j + 1)) ∧ P (w (f + j + 1)) (w (f + j))) : ∀ a c, zchn S w f k a c = true → P a c := by
  induction k with
  | zero => exact h
  | succ k ih =>
    intro a c hz
    rw [zchn_su, Bool.or_eq_true, Bool.or_eq_true, Bool.and_eq_true, Bool.and_eq_true] at hz
    rcases hz with (z | z) | z
    · exact ih (fun j hj => hw j (by omega)) a c z
    · rw [of_decide_eq_true z.1, of_decide_eq_true z.2]; exact (hw k (by omega)).1
    · rw [of_decide_eq_true z.1, of_decide_eq_true z.2]; exact (hw k (by omega)).2
theorem zrQ_in {n m : Nat} {T : Nat → Nat → Bool} {g : Nat → Nat} (hg : ∀ q, q < n → g q < m) (i : Nat) : ∀ a c, zrQ n m T g i a c = true → a < n ∧ c < n ∧ a ≠ c := by
  induction i with
  | zero =>
    intro a c h
    have h2 : zrP n m T g n a c = true := h
    rw [zRul_P n m T g hg n (Nat.le_refl _), Bool.and_eq_true] at h2
    exact of_decide_eq_true h2.1
  | succ i ih =>
    rw [zrQ_su]
    split
    · refine zchn_in ih (fun j hj => ?_)
      rw [Nat.zero_add]
      obtain ⟨a1, a2, a3⟩ := zrow_ok (T := T) (show j < zSz g n i by omega)
      obtain ⟨b1, b2, b3⟩ := zrow_ok (T := T) (show j + 1 < zSz g n i by omega)
      have hne : zrow n g T i j ≠ zrow n g T i (j + 1) := fun z => by have := b3 j (by omega) z; omega
      exact ⟨⟨a1, b1, hne⟩, b1, a1, fun z => hne z.symm⟩
    · exact ih
theorem zRul_X {n m : Nat} {T : Nat → Nat → Bool} {g : Nat → Nat} (hg : ∀ q, q < n → g q < m) (hT : zReg n T) (a b : Nat) : decide (tvs (zRul n m T g) a b ≠ 0) = (zrSd n m T g a b ^^ T a b) := by
  have hsy : ∀ a b, (zrSd n m T g a b ^^ T a b) = (zrSd n m T g b a ^^ T b a) := fun a b => by rw [show zrSd n m T g a b = zrSd n m T g b a from zrQ_sym n m T g m a b, hT.1 a b]
  have hin : ∀ a b, (zrSd n m T g a b ^^ T a b) = true → a < n ∧ b < n ∧ a ≠ b := fun a b h => by
    cases e : zrSd n m T g a b
    · rw [e, Bool.false_xor] at h
      exact ⟨(hT.lt h).1, (hT.lt h).2, fun z => by rw [z, hT.2.1] at h; cases h⟩
    · exact zrQ_in hg m a b e
  have hz : ∀ a b, a < b → decide (zxe (fun p q => zrSd n m T g p q ^^ T p q) n a b ≠ 0) = (zrSd n m T g a b ^^ T a b) := fun a b h => by
    unfold zxe
    dsimp only
    by_cases e : (zrSd n m T g a b ^^ T a b) = true
    · rw [if_pos ⟨h, (hin a b e).2.1, e⟩, e]; rfl
    · rw [if_neg (fun z => e z.2.2), Bool.eq_false_iff.mpr e]; rfl
  show decide ((if a < b then zxe (fun p q => zrSd n m T g p q ^^ T p q) n a b else zxe (fun p q => zrSd n m T g p q ^^ T p q) n b a) ≠ 0) = _
  rcases Nat.lt_trichotomy a b with q | q | q
  · rw [if_pos q]; exact hz a b q
  · subst q
    rw [if_neg (Nat.lt_irrefl _)]
    unfold zxe
    rw [if_neg (fun z => absurd z.1 (Nat.lt_irrefl _))]
    cases e : (zrSd n m T g a a ^^ T a a)
    · rfl
    · exact absurd rfl (hin a a e).2.2
  · rw [if_neg (by omega), hsy a b]; exact hz b a q
theorem zRul_v {n m : Nat} {T : Nat → Nat → Bool} {g : Nat → Nat} (a b : Nat) : (tv (zRul n m T g) a b ≠ 0 → a < b ∧ b < n) ∧ tv (zRul n m T g) a b ≤ 1 := by
  show (zxe (fun p q => zrSd n m T g p q ^^ T p q) n a b ≠ 0 → _) ∧ zxe (fun p q => zrSd n m T g p q ^^ T p q) n a b ≤ 1
  unfold zxe
  split
  next h => exact ⟨fun _ => ⟨h.1, h.2.1⟩, Nat.le_refl _⟩
  next h => exact ⟨fun w => absurd rfl w, by omega⟩
theorem zNum_id (f : Nat → Nat) (p : Nat) : zNum (zNum f) p = zNum f p ∧ zNew (zNum f) p = zNew f p := by
  have h : ∀ p, zfl (zNum f) (zNum f p) p = zfl f (f p) p := fun p => zfind_ext fun q _ => by
    show decide (zNum f q = zNum f p) = decide (f q = f p)
    exact decide_eq_decide.mpr zNum_inj
  have h2 : ∀ p, zNew (zNum f) p = zNew f p := fun p => by unfold zNew; rw [h p]
  exact ⟨by show zcnt (zNew (zNum f)) (zfl (zNum f) (zNum f p) p) = zcnt (zNew f) (zfl f (f p) p); rw [h p]; exact zcnt_ext (fun i _ => h2 i), h2 p⟩
theorem zTw_rul {n m : Nat} {T : Nat → Nat → Bool} {g : Nat → Nat} (hm : m ≤ 16) (hm2 : m = zcnt (zNew g) n) (hg : ∀ q, q < n → g q < m ∧ zNum g q = g q) : zTw n (zRul n m T g) := by
  refine ⟨⟨hm, hm2, hg⟩, fun i k _ hk => zrow_ok hk, ⟨fun i h => ?_, fun i j h => ?_, fun p i h => ?_, fun i h => ?_⟩, fun a b => (zRul_v a b).1, fun a b => by have := (zRul_v (n := n) (m := m) (T := T) (g := g) a b).2; omega⟩
  · have h2 : zrC n m T g i = true := h
    unfold zrC at h2
    have h3 := of_decide_eq_true h2
    exact ⟨h3.1, h3.2.1⟩
  · have h2 : zrD n m T g i j = true := h
    unfold zrD at h2
    have h3 := of_decide_eq_true h2
    exact ⟨h3.1, h3.2.1⟩
  · have h2 : zrG n m T g p i = true := h
    unfold zrG at h2
    rw [Bool.and_eq_true] at h2
    have h3 := of_decide_eq_true h2.1
    refine ⟨h3.1, h3.2, Classical.byContradiction fun z => ?_⟩
    have h4 := h2.2
    unfold zrc at h4
    have h5 := of_decide_eq_true h4
    have h6 : zrO n T g (zrI n m T g (zrP n m T g p) p i) p i = 0 := zsI_0 fun q hq => by
      unfold zrw
      rw [if_neg (fun w => z ⟨q, hq, w.1, w.2.1⟩)]
    rw [h6, Int.mul_zero] at h5
    omega
  · have h2 : zrH n m T g i = true := h
    unfold zrH at h2
    rw [Bool.and_eq_true] at h2
    have h4 := h2.2
    unfold zrh at h4
    exact ⟨of_decide_eq_true h2.1, (of_decide_eq_true h4).1⟩
