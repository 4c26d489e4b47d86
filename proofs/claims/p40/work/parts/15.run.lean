/-- what is fixed of the world: the classes are the table's, the cells of known kinds -/
def zWld (O : zOm) : Prop := zcl O = zCl ∧ zSok O
theorem zWld.ok {O : zOm} (h : zWld O) : zOmOk O := ⟨h.2, by rw [h.1]; exact zCl_ok⟩
def zG0 : Nat → List Nat → zGam
  | _, [] => []
  | i, t :: r => (i, t) :: zG0 (i + (if t = 1 then 2 else 1)) r
def zL0 : List zV → zLoc
  | [] => []
  | v :: r => if v.1 = 1 then v.2 :: 0 :: zL0 r else v.2 :: zL0 r
theorem zG0_ge {tys : List Nat} : ∀ {i : Nat}, ∀ q ∈ zG0 i tys, i ≤ q.1 := by
  induction tys with
  | nil => intro i q h; cases h
  | cons t r ih =>
    intro i q h
    rcases List.mem_cons.mp h with rfl | h
    · exact Nat.le_refl _
    · have := ih q h
      split at this <;> omega
theorem zget_app (pre l : zLoc) (k : Nat) : zget (pre ++ l) (pre.length + k) = zget l k := by
  induction pre with
  | nil => simp
  | cons a p ih => rw [List.cons_append, List.length_cons, show p.length + 1 + k = (p.length + k) + 1 by omega]; exact ih
theorem zHold_args (as : List zV) : ∀ (pre : zLoc), ∀ q ∈ zG0 pre.length (as.map (·.1)), zLook (zArgs pre.length as) q.1 = some (q.2, zget (pre ++ zL0 as) q.1) := by
  induction as with
  | nil => intro pre q h; cases h
  | cons v r ih =>
    intro pre q h
    obtain ⟨t, x⟩ := v
    rcases List.mem_cons.mp h with rfl | h
    · have h1 : zget (pre ++ zL0 ((t, x) :: r)) pre.length = x := by
        have := zget_app pre (zL0 ((t, x) :: r)) 0
        rw [Nat.add_zero] at this
        rw [this]
        show zget (if t = 1 then x :: 0 :: zL0 r else x :: zL0 r) 0 = x
        split <;> rfl
      dsimp only
      rw [h1]
      unfold zArgs zLook
      rw [List.find?_cons]
      simp
    · have hge := zG0_ge q h
      have hne : ¬ q.1 = pre.length := by split at hge <;> omega
      have hz : zLook (zArgs pre.length ((t, x) :: r)) q.1 = zLook (zArgs (pre.length + zcat (t, x)) r) q.1 := by
        show zLook ((pre.length, (t, x)) :: zArgs (pre.length + zcat (t, x)) r) q.1 = _
        unfold zLook
        rw [List.find?_cons]
        have : (pre.length == q.1) = false := by simp; omega
        dsimp only
        rw [this]
      rw [hz]
      by_cases ht : t = 1
      · subst ht
        have h2 := ih (pre ++ [x, 0]) q (by simpa using h)
        have hl : (pre ++ [x, 0]).length = pre.length + zcat (1, x) := by simp [zcat]
        rw [hl, List.append_assoc] at h2
        exact h2
      · have h2 := ih (pre ++ [x]) q (by simpa [ht] using h)
        have hl : (pre ++ [x]).length = pre.length + zcat (t, x) := by simp [zcat, ht]
        rw [hl, List.append_assoc] at h2
        have he : zL0 ((t, x) :: r) = [x] ++ zL0 r := by show (if t = 1 then _ else _) = _; rw [if_neg ht]; rfl
        rw [he]
        exact h2
def zF0 : zK := fun _ _ => False
def zF1 : Nat → zK := fun _ _ _ => False
theorem zR.run {O : zOm} (hO : zWld O) {own : String} {f : zMR} {pf : List (Nat × Nat × Nat × Nat)} {pm : List (Nat × Nat × Nat × Nat × Nat × Nat × Nat × Nat)} {pk : List (Nat × Nat × Int × Nat)} (hev : zEvOk zCl (zEvC own f pf pm pk)) (hown : f.1.cls = own) (hpl : plainName f.1.cls = true)
    {body : zSt} {tys : List Nat} (hc : (zsc body (zEvC own f pf pm pk) (zG0 0 tys) 0 none []).isSome = true) {as : List zV} (ht : as.map (·.1) = tys) (hn : zcats as ≤ f.2.2.1) {M : zMem} {K : Option zV → zMem → Prop} (hw : zsw body (zS O) (zR O) zF0 zF1 K (zL0 as) M) : zR O f as M K := by
  refine zR.of hO.ok (pf := zpfF pf) (pm := zpmF pm) (pk := zpkF pk) (by rw [hO.1]; exact hev) hown hpl hn (fun G hG => ?_)
  obtain ⟨⟨Γ', pc'⟩, hc'⟩ := Option.isSome_iff_exists.mp hc
  have h := zss body _ (zS O) (zR O) K G hG (zG0 0 tys) none [] 0 Γ' pc' (zL0 as) M zF0 zF1 hc' hw (fun _ _ h => h.elim) (fun j t Γj hj => by cases hj)
  refine h (zArgs 0 as) (fun q hq => ?_)
  subst ht
  exact zHold_args as [] q hq
