/-! ===== sorts and questions: what both compute ===== -/
theorem zsum_sub {f : Nat → Nat} {a b : Nat} (h : a ≤ b) : zsum f a ≤ zsum f b := by
  obtain ⟨d, rfl⟩ : ∃ d, b = a + d := ⟨b - a, by omega⟩
  clear h
  induction d with
  | zero => exact Nat.le_refl _
  | succ d ih => rw [show a + (d + 1) = (a + d) + 1 by omega, zsum_su]; omega
theorem zop_all {g : Nat → Nat → Bool} {n a b : Nat} (ha : a < n) (hb : b ≤ n) : zop g n a b ≤ zp2 g n := by
  unfold zop zp2
  have h1 := zcnt_mono (fun q => decide (a < q) && g a q) hb
  have h2 := zsum_sub (f := fun p => zcnt (fun q => decide (p < q) && g p q) n) (show a + 1 ≤ n by omega)
  rw [zsum_su] at h2
  omega
/-- pairs gone through ahead of a b are fewer than 120 -/
theorem zop_few {n a b : Nat} (hn : n ≤ 16) (hab : a < b) (hb : b < n) : zop (fun _ _ => true) n a b < 120 := by
  have h1 := zop_su (fun _ _ => true) (n := n) hab
  rw [if_pos rfl] at h1
  have h2 := zop_all (g := fun _ _ => true) (n := n) (a := a) (b := b + 1) (by omega) (by omega)
  have h3 := zp2_le (fun _ _ => true) hn
  omega
theorem zp2_sub {f g : Nat → Nat → Bool} {n : Nat} (h : ∀ p q, p < q → q < n → f p q = true → g p q = true) : zp2 f n ≤ zp2 g n := by
  unfold zp2
  refine zsum_mono fun p hp => zcnt_sub fun q hq e => ?_
  rw [Bool.and_eq_true] at e ⊢
  exact ⟨e.1, h p q (of_decide_eq_true e.1) hq e.2⟩
/-- one place of a sum -/
theorem zsum_at {f g : Nat → Nat} {k v n : Nat} (hk : k < n) (h0 : f k = g k + v) (h : ∀ i, i ≠ k → f i = g i) : zsum f n = zsum g n + v := by
  induction n with
  | zero => omega
  | succ n ih =>
    rw [zsum_su, zsum_su]
    by_cases e : k = n
    · subst e
      rw [zsum_ext (fun i hi => h i (by omega)), h0]; omega
    · rw [ih (by omega), h n (by omega)]; omega
/-- places, each once: a sum over them is a sum over all -/
theorem zsum_enum {U F : Nat → Nat} {c n : Nat} (hU : ∀ i, i < c → U i < n) (hd : ∀ i j, i < j → j < c → U i ≠ U j) (hF : ∀ k, k < n → (∀ i, i < c → U i ≠ k) → F k = 0) : zsum (fun i => F (U i)) c = zsum F n := by
  induction c generalizing F with
  | zero =>
    show 0 = _
    rw [zsum_z]
    exact fun k hk => hF k hk (fun i hi => absurd hi (Nat.not_lt_zero _))
  | succ c ih =>
    have h1 := ih (F := fun k => if k = U c then 0 else F k) (fun i hi => hU i (by omega)) (fun i j hij hj => hd i j hij (by omega)) (fun k hk hn => by
      by_cases e : k = U c
      · exact if_pos e
      · rw [if_neg e]
        refine hF k hk (fun i hi => ?_)
        by_cases e2 : i = c
        · subst e2; exact fun z => e z.symm
        · exact hn i (by omega))
    have h2 : zsum (fun i => F (U i)) c = zsum (fun i => (fun k => if k = U c then 0 else F k) (U i)) c := zsum_ext fun i hi => by
      dsimp only
      rw [if_neg (hd i c hi (by omega))]
    rw [zsum_su, h2, h1]
    have h3 := zsum_at (f := F) (g := fun k => if k = U c then 0 else F k) (k := U c) (v := F (U c)) (hU c (by omega)) (by rw [if_pos rfl]; omega) (fun i hi => by rw [if_neg hi])
    omega
/-! posts reached -/
def zre (n : Nat) (L : Nat → Nat → Bool) (a : Nat) : Nat → Nat → Bool
  | 0, q => decide (q = a)
  | k + 1, q => zre n L a k q || decide (∃ p, p < n ∧ (zre n L a k p && L p q) = true)
theorem zre_su (n : Nat) (L : Nat → Nat → Bool) (a k q : Nat) : zre n L a (k + 1) q = (zre n L a k q || decide (∃ p, p < n ∧ (zre n L a k p && L p q) = true)) := rfl
def zfar (n : Nat) (L : Nat → Nat → Bool) (a b : Nat) : Nat := zfind (fun k => zre n L a k b) n
theorem zre_le {n : Nat} {L : Nat → Nat → Bool} {a q : Nat} {j k : Nat} (h : j ≤ k) (e : zre n L a j q = true) : zre n L a k q = true := by
  obtain ⟨d, rfl⟩ : ∃ d, k = j + d := ⟨k - j, by omega⟩
  clear h
  induction d with
  | zero => exact e
  | succ d ih => rw [show j + (d + 1) = (j + d) + 1 by omega, zre_su, ih]; rfl
theorem zre_mono {n : Nat} {L L' : Nat → Nat → Bool} (h : ∀ p q, L p q = true → L' p q = true) (a k q : Nat) (e : zre n L a k q = true) : zre n L' a k q = true := by
  induction k generalizing q with
  | zero => exact e
  | succ k ih =>
    rw [zre_su, Bool.or_eq_true] at e ⊢
    rcases e with e | e
    · exact Or.inl (ih q e)
    · obtain ⟨p, h1, h2⟩ := of_decide_eq_true e
      rw [Bool.and_eq_true] at h2
      refine Or.inr (decide_eq_true ⟨p, h1, ?_⟩)
      rw [ih p h2.1, h p q h2.2]; rfl
theorem zfind_anti {s t : Nat → Bool} {n : Nat} (h : ∀ i, s i = true → t i = true) : zfind t n ≤ zfind s n := by
  by_cases w : zfind s n < n
  · refine Classical.byContradiction fun z => ?_
    have h1 := (zfind_ok s n).2.1 w
    have h2 := (zfind_ok t n).2.2 (zfind s n) (by omega)
    rw [h _ h1] at h2; cases h2
  · have := zfind_le t n
    omega
theorem zfar_anti {n : Nat} {L L' : Nat → Nat → Bool} (h : ∀ p q, L p q = true → L' p q = true) (a b : Nat) : zfar n L' a b ≤ zfar n L a b := zfind_anti fun k e => zre_mono h a k b e
theorem zfar_lt {n : Nat} {L : Nat → Nat → Bool} {a q d : Nat} (hd : d < n) : zfar n L a q ≤ d ↔ zre n L a d q = true := by
  constructor
  · intro h
    have h1 := (zfind_ok (fun k => zre n L a k q) n).2.1 (show zfind (fun k => zre n L a k q) n < n by unfold zfar at h; omega)
    exact zre_le h h1
  · intro h
    refine Classical.byContradiction fun z => ?_
    have h2 := (zfind_ok (fun k => zre n L a k q) n).2.2 d (by unfold zfar at z; omega)
    rw [h] at h2; cases h2
theorem zfar_le (n : Nat) (L : Nat → Nat → Bool) (a q : Nat) : zfar n L a q ≤ n := zfind_le _ _
/-- trios told once and twice -/
theorem ztrio {n a : Nat} {L : Nat → Nat → Bool} (hs : ∀ p q, L p q = L q p) (h0 : ∀ p, L p p = false) : zsum (fun p => if L a p = true then zcnt (fun q => L p q && L a q) n else 0) n = 2 * zp2 (fun p q => L a p && (L a q && L p q)) n := by
  have e1 : (zsum (fun p => if L a p = true then zcnt (fun q => L p q && L a q) n else 0) n : Int) = zS2 (fun p q => zbI (L a p && (L a q && L p q))) n := by
    unfold zS2
    rw [← zsum_zsI]
    refine zsI_ext fun p _ => ?_
    show _ = zsI (fun q => zbI (L a p && (L a q && L p q))) n
    rw [zcnt_zsI]
    by_cases w : L a p = true
    · rw [if_pos w]
      congr 1
      exact zcnt_ext fun q _ => by rw [w]; cases L p q <;> cases L a q <;> rfl
    · rw [if_neg w]
      have : L a p = false := by cases h : L a p; rfl; exact absurd h w
      rw [zcnt_z (fun q _ => by rw [this]; rfl)]
  have e2 := zS2_P2 (fun p q => zbI (L a p && (L a q && L p q))) n
  rw [zsI_0 (fun p _ => by rw [h0 p]; simp [zbI])] at e2
  have e3 : zP2 (fun p q => zbI (L a p && (L a q && L p q)) + zbI (L a q && (L a p && L q p))) n = zP2 (fun p q => 2 * zbI (L a p && (L a q && L p q)) + 0 * zbI false) n := zP2_ext fun p q _ _ => by
    rw [hs q p]
    cases L a p <;> cases L a q <;> cases L p q <;> rfl
  rw [e3, zP2_lin, zP2_zp2 (fun p q => L a p && (L a q && L p q))] at e2
  rw [e2] at e1
  omega
/-! a telling's questions -/
def zaq (kind a b p q : Nat) : Bool := if kind = 0 then decide (p = a ∧ q = b ∨ p = b ∧ q = a) else if kind = 1 then decide (p = a ∨ q = a) else (a.testBit p ^^ a.testBit q)
theorem zaq_s (kind a b p q : Nat) : zaq kind a b p q = zaq kind a b q p := by
  unfold zaq
  split
  · exact decide_eq_decide.mpr ⟨fun h => by omega, fun h => by omega⟩
  · split
    · exact decide_eq_decide.mpr ⟨fun h => by omega, fun h => by omega⟩
    · exact Bool.xor_comm _ _
/-- of each sort, the pairs asked for; those told also -/
def zqk (n : Nat) (A : zTl) (kind a b k p q : Nat) : Bool := zaq kind a b p q && tgR n A k p q
def zas (n : Nat) (A : zTl) (kind a b k : Nat) : Nat := zp2 (zqk n A kind a b k) n
def zqA (n : Nat) (A : zTl) (kind a b : Nat) : Nat := zp2 (fun p q => zaq kind a b p q && (decide (tv A p q = 1) && !tS n A p q)) n
theorem zas_R (n : Nat) (A : zTl) (kind a b k : Nat) : zas n A kind a b k ≤ tR n A k := zp2_sub fun p q _ _ h => by
  unfold zqk at h
  rw [Bool.and_eq_true] at h; exact h.2
theorem tQ_R (n : Nat) (A : zTl) (k : Nat) : tQ n A k ≤ tR n A k := zp2_sub fun p q _ _ h => by
  have := of_decide_eq_true h
  exact decide_eq_true ⟨this.1, by omega⟩
/-- how few, how many of a sort are left out -/
def zlsF (n : Nat) (A : zTl) (kind a b k : Nat) : Nat := tQ n A k - (tR n A k - zas n A kind a b k)
def zlsM (n : Nat) (A : zTl) (kind a b k : Nat) : Nat := min (tQ n A k) (zas n A kind a b k)
theorem zls_ok (n : Nat) (A : zTl) (kind a b k : Nat) : zlsF n A kind a b k ≤ zlsM n A kind a b k ∧ zlsM n A kind a b k ≤ zas n A kind a b k := by
  have h1 := zas_R n A kind a b k
  have h2 := tQ_R n A k
  unfold zlsF zlsM
  omega
/-- LEAST (0), MOST (1), the thousandfold MEAN (2), OFF (3) of a sort -/
def zshr' (n : Nat) (A : zTl) (kind a b how k : Nat) : Nat :=
  if how = 3 then zlsM n A kind a b k - zlsF n A kind a b k
  else if how = 2 then (if k < 256 then 1000 * tQ n A k * zas n A kind a b k / tR n A k else 1000 * zas n A kind a b k - 1000 * tQ n A k * zas n A kind a b k / tR n A k)
  else if k < 256 then (if how = 0 then zlsF n A kind a b k else zlsM n A kind a b k)
  else (if how = 0 then zas n A kind a b k - zlsM n A kind a b k else zas n A kind a b k - zlsF n A kind a b k)
def zqS (n : Nat) (A : zTl) (kind a b how : Nat) : Nat := (if how = 3 then 0 else if how = 2 then 1000 * zqA n A kind a b else zqA n A kind a b) + zsum (zshr' n A kind a b how) 512
theorem zqS_off (n : Nat) (A : zTl) (kind a b : Nat) : zqS n A kind a b 1 = zqS n A kind a b 0 + zqS n A kind a b 3 := by
  unfold zqS
  rw [if_neg (by decide), if_neg (by decide), if_neg (by decide), if_neg (by decide), if_pos rfl, Nat.zero_add, Nat.add_assoc, ← zsum_addf]
  refine congrArg (fun z => zqA n A kind a b + z) (zsum_ext fun k _ => ?_)
  have := zls_ok n A kind a b k
  have e1 : zshr' n A kind a b 1 k = if k < 256 then zlsM n A kind a b k else zas n A kind a b k - zlsF n A kind a b k := rfl
  have e0 : zshr' n A kind a b 0 k = if k < 256 then zlsF n A kind a b k else zas n A kind a b k - zlsM n A kind a b k := rfl
  have e3 : zshr' n A kind a b 3 k = zlsM n A kind a b k - zlsF n A kind a b k := rfl
  rw [e1, e0, e3]
  split <;> omega
/-- the ties: those that are open as said -/
def zlk (n : Nat) (A : zTl) (op : Bool) (p q : Nat) : Bool :=
  if tvs A p q = 1 then !tS n A p q
  else if 0 < tQ n A (zso (tf A) p q (tS n A p q)) ∧ tQ n A (zso (tf A) p q (tS n A p q)) < tR n A (zso (tf A) p q (tS n A p q)) then op
  else if 0 < tQ n A (zso (tf A) p q (tS n A p q)) then !tS n A p q else tS n A p q
def zlN (n : Nat) (A : zTl) (op : Bool) (p q : Nat) : Bool := decide (p < n ∧ q < n ∧ p ≠ q) && zlk n A op p q
theorem zso_s (f : Nat → Nat) (a b : Nat) (s : Bool) : zso f a b s = zso f b a s := by
  unfold zso
  congr 1
  by_cases h : f a < f b
  · rw [if_pos h, if_neg (by omega)]
  · by_cases h2 : f b < f a
    · rw [if_neg h, if_pos h2]
    · rw [if_neg h, if_neg h2, show f a = f b by omega]
theorem zlN_mono (n : Nat) (A : zTl) (p q : Nat) (h : zlN n A false p q = true) : zlN n A true p q = true := by
  unfold zlN at h ⊢
  rw [Bool.and_eq_true] at h ⊢
  refine ⟨h.1, ?_⟩
  have h2 := h.2
  unfold zlk at h2 ⊢
  split
  · rename_i w; rw [if_pos w] at h2; exact h2
  · rename_i w
    rw [if_neg w] at h2
    split
    · rfl
    · rename_i w2; rw [if_neg w2] at h2; exact h2
/-- the answer to a question -/
def zan (n : Nat) (A : zTl) (kind a b how : Nat) : Nat :=
  if kind < 3 then zqS n A kind a b how
  else if kind = 3 then zfar n (zlN n A (decide (how = 0))) a b
  else if kind = 4 then zcnt (fun r => zlN n A (decide (how = 1)) a r && zlN n A (decide (how = 1)) b r) n
  else zp2 (fun p q => zlN n A (decide (how = 1)) a p && (zlN n A (decide (how = 1)) a q && zlN n A (decide (how = 1)) p q)) n
theorem zan_le (n : Nat) (A : zTl) (kind a b : Nat) : zan n A kind a b 0 ≤ zan n A kind a b 1 := by
  unfold zan
  split
  · have := zqS_off n A kind a b; omega
  · rw [show decide ((0 : Nat) = 0) = true from rfl, show decide ((1 : Nat) = 0) = false from rfl, show decide ((0 : Nat) = 1) = false from rfl, show decide ((1 : Nat) = 1) = true from rfl]
    split
    · exact zfar_anti (zlN_mono n A) a b
    · split
      · refine zcnt_sub fun r _ h => ?_
        rw [Bool.and_eq_true] at h ⊢
        exact ⟨zlN_mono n A _ _ h.1, zlN_mono n A _ _ h.2⟩
      · refine zp2_sub fun p q _ _ h => ?_
        rw [Bool.and_eq_true, Bool.and_eq_true] at h ⊢
        exact ⟨zlN_mono n A _ _ h.1, zlN_mono n A _ _ h.2.1, zlN_mono n A _ _ h.2.2⟩
def zoF (n : Nat) (A : zTl) (kind a b : Nat) : Nat := zan n A kind a b 1 - zan n A kind a b 0
