theorem zsOr {l : List Cond} {s : State} {b : Nat} {c d : Cond} (hs : ∀ w ∈ l, w.before #[Value.ref b] s = true) (h : c ∈ l ∨ d ∈ l) : c.before #[Value.ref b] s = true ∨ d.before #[Value.ref b] s = true := h.imp (hs c) (hs d)
/-! ===== the texts and statics at the law's entry ===== -/
def zsTm (i : Nat) : Term := .string "ToldNet$Tape" ((zsK.getD i (0, "")).1)
theorem zTxt_start {s : State} {b : Nat} (hts : ∀ w ∈ lw_tbl, w.before #[Value.ref b] s = true) (hgv : (Jvm.Cond.and given_1 narrow_1).before #[Value.ref b] s = true) : zTxt (fun q => s.heap.size ≤ q) s s.heap := by
  have hs := flat_of_before _ hgv
  have hA : ∀ a : Nat, a < s.heap.size → ¬ (fun q => s.heap.size ≤ q) a := fun a h q => absurd h (Nat.not_lt.mpr q)
  have six : ∀ {P : Nat → Prop}, P 0 → P 1 → P 2 → P 3 → P 4 → P 5 → P 6 → ∀ i, i < 7 → P i := by
    intro P h0 h1 h2 h3 h4 h5 h6 i hi
    match i, hi with
    | 0, _ => exact h0
    | 1, _ => exact h1
    | 2, _ => exact h2
    | 3, _ => exact h3
    | 4, _ => exact h4
    | 5, _ => exact h5
    | 6, _ => exact h6
  have hel : ∀ i : Nat, i < 7 → ∀ j : Nat, j < zsL.getD i 0 → (Cond.eq (.elem (.field (zsTm i) "java/lang/String" "value" "[B") (.int (Int32.ofNat j))) (.int ((zsB.getD i []).getD j 0))).before #[Value.ref b] s = true := by
    refine six ?_ ?_ ?_ ?_ ?_ ?_ ?_
    · intro j hj
      match j, hj with
      | 0, _ => exact hs _ (by decide +kernel)
      | 1, _ => exact hs _ (by decide +kernel)
      | 2, _ => exact hs _ (by decide +kernel)
      | j + 3, h => exact absurd h (by show ¬ (j + 3 < 3); omega)
    · intro j hj
      match j, hj with
      | 0, _ => exact hs _ (by decide +kernel)
      | 1, _ => exact hs _ (by decide +kernel)
      | 2, _ => exact hs _ (by decide +kernel)
      | 3, _ => exact hs _ (by decide +kernel)
      | 4, _ => exact hs _ (by decide +kernel)
      | j + 5, h => exact absurd h (by show ¬ (j + 5 < 5); omega)
    · intro j hj
      match j, hj with
      | 0, _ => exact hs _ (by decide +kernel)
      | 1, _ => exact hs _ (by decide +kernel)
      | 2, _ => exact hs _ (by decide +kernel)
      | 3, _ => exact hs _ (by decide +kernel)
      | 4, _ => exact hs _ (by decide +kernel)
      | j + 5, h => exact absurd h (by show ¬ (j + 5 < 5); omega)
    · intro j hj
      match j, hj with
      | 0, _ => exact hs _ (by decide +kernel)
      | 1, _ => exact hs _ (by decide +kernel)
      | 2, _ => exact hs _ (by decide +kernel)
      | 3, _ => exact hs _ (by decide +kernel)
      | 4, _ => exact hs _ (by decide +kernel)
      | j + 5, h => exact absurd h (by show ¬ (j + 5 < 5); omega)
    · intro j hj
      match j, hj with
      | 0, _ => exact hs _ (by decide +kernel)
      | 1, _ => exact hs _ (by decide +kernel)
      | 2, _ => exact hs _ (by decide +kernel)
      | 3, _ => exact hs _ (by decide +kernel)
      | j + 4, h => exact absurd h (by show ¬ (j + 4 < 4); omega)
    · intro j hj
      match j, hj with
      | 0, _ => exact hs _ (by decide +kernel)
      | 1, _ => exact hs _ (by decide +kernel)
      | 2, _ => exact hs _ (by decide +kernel)
      | j + 3, h => exact absurd h (by show ¬ (j + 3 < 3); omega)
    · intro j hj
      match j, hj with
      | 0, _ => exact hs _ (by decide +kernel)
      | 1, _ => exact hs _ (by decide +kernel)
      | 2, _ => exact hs _ (by decide +kernel)
      | 3, _ => exact hs _ (by decide +kernel)
      | j + 4, h => exact absurd h (by show ¬ (j + 4 < 4); omega)
  have hne : ∀ i j : Nat, i < 7 → j < 7 → i ≠ j → (Cond.not (Cond.eq (zsTm i) (zsTm j))).before #[Value.ref b] s = true ∨ (Cond.not (Cond.eq (zsTm j) (zsTm i))).before #[Value.ref b] s = true := by
    intro i j hi hj hij
    have hn : ∀ i : Nat, i < 7 → ∀ j : Nat, j < 7 → i < j → (Cond.not (Cond.eq (zsTm i) (zsTm j))).before #[Value.ref b] s = true ∨ (Cond.not (Cond.eq (zsTm j) (zsTm i))).before #[Value.ref b] s = true := by
      refine six ?_ ?_ ?_ ?_ ?_ ?_ ?_
      · refine six ?_ ?_ ?_ ?_ ?_ ?_ ?_
        · intro h; exact absurd h (by decide)
        · intro _; exact zsOr hs (by decide +kernel)
        · intro _; exact zsOr hs (by decide +kernel)
        · intro _; exact zsOr hs (by decide +kernel)
        · intro _; exact zsOr hs (by decide +kernel)
        · intro _; exact zsOr hs (by decide +kernel)
        · intro _; exact zsOr hs (by decide +kernel)
      · refine six ?_ ?_ ?_ ?_ ?_ ?_ ?_
        · intro h; exact absurd h (by decide)
        · intro h; exact absurd h (by decide)
        · intro _; exact zsOr hs (by decide +kernel)
        · intro _; exact zsOr hs (by decide +kernel)
        · intro _; exact zsOr hs (by decide +kernel)
        · intro _; exact zsOr hs (by decide +kernel)
        · intro _; exact zsOr hs (by decide +kernel)
      · refine six ?_ ?_ ?_ ?_ ?_ ?_ ?_
        · intro h; exact absurd h (by decide)
        · intro h; exact absurd h (by decide)
        · intro h; exact absurd h (by decide)
        · intro _; exact zsOr hs (by decide +kernel)
        · intro _; exact zsOr hs (by decide +kernel)
        · intro _; exact zsOr hs (by decide +kernel)
        · intro _; exact zsOr hs (by decide +kernel)
      · refine six ?_ ?_ ?_ ?_ ?_ ?_ ?_
        · intro h; exact absurd h (by decide)
        · intro h; exact absurd h (by decide)
        · intro h; exact absurd h (by decide)
        · intro h; exact absurd h (by decide)
        · intro _; exact zsOr hs (by decide +kernel)
        · intro _; exact zsOr hs (by decide +kernel)
        · intro _; exact zsOr hs (by decide +kernel)
      · refine six ?_ ?_ ?_ ?_ ?_ ?_ ?_
        · intro h; exact absurd h (by decide)
        · intro h; exact absurd h (by decide)
        · intro h; exact absurd h (by decide)
        · intro h; exact absurd h (by decide)
        · intro h; exact absurd h (by decide)
        · intro _; exact zsOr hs (by decide +kernel)
        · intro _; exact zsOr hs (by decide +kernel)
      · refine six ?_ ?_ ?_ ?_ ?_ ?_ ?_
        · intro h; exact absurd h (by decide)
        · intro h; exact absurd h (by decide)
        · intro h; exact absurd h (by decide)
        · intro h; exact absurd h (by decide)
        · intro h; exact absurd h (by decide)
        · intro h; exact absurd h (by decide)
        · intro _; exact zsOr hs (by decide +kernel)
      · refine six ?_ ?_ ?_ ?_ ?_ ?_ ?_
        · intro h; exact absurd h (by decide)
        · intro h; exact absurd h (by decide)
        · intro h; exact absurd h (by decide)
        · intro h; exact absurd h (by decide)
        · intro h; exact absurd h (by decide)
        · intro h; exact absurd h (by decide)
        · intro h; exact absurd h (by decide)
    rcases Nat.lt_or_ge i j with h | h
    · exact hn i hi j hj h
    · exact (hn j hj i hi (by omega)).symm
  obtain ⟨adK, adV, h1, h2⟩ := vk_Sof (N := 7) (tm := zsTm) (len := zsL) (byt := zsB) (args := #[Value.ref b]) (s := s) (A := fun q => s.heap.size ≤ q) (six (by decide) (by decide) (by decide) (by decide) (by decide) (by decide) (by decide))
    (six (P := fun i => (Cond.exactly (zsTm i) "java/lang/String").before #[Value.ref b] s = true) (hs _ (by decide +kernel)) (hs _ (by decide +kernel)) (hs _ (by decide +kernel)) (hs _ (by decide +kernel)) (hs _ (by decide +kernel)) (hs _ (by decide +kernel)) (hs _ (by decide +kernel)))
    (six (P := fun i => (Cond.eq (.field (zsTm i) "java/lang/String" "coder" "B") (.int 0)).before #[Value.ref b] s = true) (hs _ (by decide +kernel)) (hs _ (by decide +kernel)) (hs _ (by decide +kernel)) (hs _ (by decide +kernel)) (hs _ (by decide +kernel)) (hs _ (by decide +kernel)) (hs _ (by decide +kernel)))
    (six (P := fun i => (Cond.arrayOf (.field (zsTm i) "java/lang/String" "value" "[B") .byte).before #[Value.ref b] s = true) (hs _ (by decide +kernel)) (hs _ (by decide +kernel)) (hs _ (by decide +kernel)) (hs _ (by decide +kernel)) (hs _ (by decide +kernel)) (hs _ (by decide +kernel)) (hs _ (by decide +kernel)))
    (six (P := fun i => (Cond.eq (.length (.field (zsTm i) "java/lang/String" "value" "[B")) (.int (Int32.ofNat (zsL.getD i 0)))).before #[Value.ref b] s = true) (hs _ (by decide +kernel)) (hs _ (by decide +kernel)) (hs _ (by decide +kernel)) (hs _ (by decide +kernel)) (hs _ (by decide +kernel)) (hs _ (by decide +kernel)) (hs _ (by decide +kernel)))
    hel hne hA
  · refine ⟨adK, adV, ⟨h1, ?_, ?_⟩, fun i k tx hi => ?_⟩
    · exact va_Zof (args := #[Value.ref b]) (hts _ (List.mem_of_getElem? (i := 274) (by decide +kernel))) (hts _ (List.mem_of_getElem? (i := 162) (by decide +kernel))) (va_eqi (hs _ (by decide +kernel))) hA
    · exact va_Zqof (args := #[Value.ref b]) (hts _ (List.mem_of_getElem? (i := 291) (by decide +kernel))) (hts _ (List.mem_of_getElem? (i := 164) (by decide +kernel))) (hs _ (by decide +kernel)) hA
    · have hi7 : i < 7 := (List.getElem?_eq_some_iff.mp hi).1
      have h3 := h2 i hi7
      unfold zsTm at h3
      rw [List.getD_eq_getElem?_getD, hi] at h3
      refine vk_R.of ?_ h3
      have hall : ∀ i, i < 7 → ∀ (k : Nat) (tx : String), zsK[i]? = some (k, tx) → (Cond.stringRef "ToldNet$Tape" k tx).before #[Value.ref b] s = true := by
        refine six ?_ ?_ ?_ ?_ ?_ ?_ ?_
        · intro k tx h; cases h; exact hts _ (List.mem_of_getElem? (i := 261) (by decide +kernel))
        · intro k tx h; cases h; exact hts _ (List.mem_of_getElem? (i := 315) (by decide +kernel))
        · intro k tx h; cases h; exact hts _ (List.mem_of_getElem? (i := 316) (by decide +kernel))
        · intro k tx h; cases h; exact hts _ (List.mem_of_getElem? (i := 317) (by decide +kernel))
        · intro k tx h; cases h; exact hts _ (List.mem_of_getElem? (i := 318) (by decide +kernel))
        · intro k tx h; cases h; exact hts _ (List.mem_of_getElem? (i := 319) (by decide +kernel))
        · intro k tx h; cases h; exact hts _ (List.mem_of_getElem? (i := 320) (by decide +kernel))
      exact hall i hi7 k tx hi
