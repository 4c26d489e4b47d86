/-! rows hold each post of their box once -/
theorem zly_ok {n : Nat} {B : Nat → Bool} {T : Nat → Nat → Bool} {first : Nat} (h1 : first < n) (h2 : B first = true) : ∀ k, k < zcnt B n → ((zlyS n B T first k).1 < n ∧ B (zlyS n B T first k).1 = true) ∧ (zlyS n B T first k).2 (zlyS n B T first k).1 = false ∧ (∀ q, (zlyS n B T first k).2 q = true → q < n ∧ B q = true) ∧ zcnt (zlyS n B T first k).2 n = k ∧ ∀ j, j < k → (zlyS n B T first k).2 (zlyS n B T first j).1 = true := by
  intro k
  induction k with
  | zero => intro _; exact ⟨⟨h1, h2⟩, rfl, (fun q h => by cases h), zcnt_z (fun _ _ => rfl), fun j hj => absurd hj (Nat.not_lt_zero _)⟩
  | succ k ih =>
    intro hk
    obtain ⟨⟨a1, a2⟩, a3, a4, a5, a6⟩ := ih (by omega)
    have e : zlyS n B T first (k + 1) = (znxt n B T (fun q => (zlyS n B T first k).2 q || decide (q = (zlyS n B T first k).1)) (zlyS n B T first k).1, fun q => (zlyS n B T first k).2 q || decide (q = (zlyS n B T first k).1)) := rfl
    rw [e]
    generalize (zlyS n B T first k).2 = L at a3 a4 a5 a6 ⊢
    have hc : zcnt (fun q => L q || decide (q = (zlyS n B T first k).1)) n = k + 1 := by rw [zcnt_ins a3, a5, if_pos a1]
    have hL : ∀ q, (L q || decide (q = (zlyS n B T first k).1)) = true → q < n ∧ B q = true := fun q hq => by
      rw [Bool.or_eq_true] at hq
      rcases hq with w | w
      · exact a4 q w
      · rw [of_decide_eq_true w]; exact ⟨a1, a2⟩
    have hex : zfind (fun q => B q && !(L q || decide (q = (zlyS n B T first k).1))) n < n := Classical.byContradiction fun z => by
      obtain ⟨w1, w2, w3⟩ := zfind_ok (fun q => B q && !(L q || decide (q = (zlyS n B T first k).1))) n
      have := zcnt_sub (s := B) (t := fun q => L q || decide (q = (zlyS n B T first k).1)) (n := n) (fun q hq hb => by
        have h3 := w3 q (by omega)
        have h4 : (B q && !(L q || decide (q = (zlyS n B T first k).1))) = false := h3
        rw [hb, Bool.true_and] at h4
        revert h4
        cases (L q || decide (q = (zlyS n B T first k).1)) <;> simp)
      omega
    have hin : ∀ v, v < n → (B v && !(L v || decide (v = (zlyS n B T first k).1))) = true → ((v < n ∧ B v = true) ∧ (L v || decide (v = (zlyS n B T first k).1)) = false) := fun v h3 h4 => by
      rw [Bool.and_eq_true] at h4
      exact ⟨⟨h3, h4.1⟩, by have := h4.2; revert this; cases (L v || decide (v = (zlyS n B T first k).1)) <;> simp⟩
    have hnx : ((znxt n B T (fun q => L q || decide (q = (zlyS n B T first k).1)) (zlyS n B T first k).1 < n ∧ B (znxt n B T (fun q => L q || decide (q = (zlyS n B T first k).1)) (zlyS n B T first k).1) = true) ∧ (L (znxt n B T (fun q => L q || decide (q = (zlyS n B T first k).1)) (zlyS n B T first k).1) || decide ((znxt n B T (fun q => L q || decide (q = (zlyS n B T first k).1)) (zlyS n B T first k).1) = (zlyS n B T first k).1)) = false) := by
      unfold znxt
      by_cases c1 : zfind (fun q => (B q && !(L q || decide (q = (zlyS n B T first k).1))) && T (zlyS n B T first k).1 q) n < n
      · rw [if_pos c1]
        have w := (zfind_ok (fun q => (B q && !(L q || decide (q = (zlyS n B T first k).1))) && T (zlyS n B T first k).1 q) n).2.1 c1
        rw [Bool.and_eq_true] at w
        exact hin _ c1 w.1
      · rw [if_neg c1, if_pos hex]
        exact hin _ hex ((zfind_ok (fun q => B q && !(L q || decide (q = (zlyS n B T first k).1))) n).2.1 hex)
    refine ⟨hnx.1, hnx.2, hL, hc, fun j hj => ?_⟩
    show (L (zlyS n B T first j).1 || decide ((zlyS n B T first j).1 = (zlyS n B T first k).1)) = true
    by_cases w : j = k
    · subst w; simp
    · rw [a6 j (by omega)]; rfl
theorem zrow_ok {n i : Nat} {g : Nat → Nat} {T : Nat → Nat → Bool} {k : Nat} (hk : k < zSz g n i) : zrow n g T i k < n ∧ g (zrow n g T i k) = i ∧ ∀ l, l < zSz g n i → zrow n g T i l = zrow n g T i k → l = k := by
  rcases zmnF_ok (fun p => decide (g p = i)) (zdeg n (fun p => decide (g p = i)) T) n with ⟨q1, q2, q3⟩ | ⟨p, q1, q2, q3, q4, q5⟩
  · have : zSz g n i = 0 := zcnt_z q3
    omega
  · have er : ∀ k, zrow n g T i k = (zlyS n (fun p => decide (g p = i)) T p k).1 := fun k => by unfold zrow; rw [q1]; rfl
    have hk2 := zly_ok (T := T) q3 q4 k hk
    rw [er]
    refine ⟨hk2.1.1, of_decide_eq_true hk2.1.2, fun l hl he => ?_⟩
    rw [er] at he
    have hl2 := zly_ok (T := T) q3 q4 l hl
    rcases Nat.lt_trichotomy l k with w | w | w
    · have h1 := hk2.2.2.2.2 l w
      rw [he, hk2.2.1] at h1; cases h1
    · exact w
    · have h1 := hl2.2.2.2.2 k w
      rw [← he, hl2.2.1] at h1; cases h1
