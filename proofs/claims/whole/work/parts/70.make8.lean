theorem zmNext_of {F : zmF} {pc pc' : Nat} {st st' : List zV} {lv lv' : zLv} {C : zmC} {nc ns : Nat}
    (h : ∀ {p : Program} {e : Env} {R : Room} {s0 : State} {m : MethodId} {args : Array Value} {below : List Frame} {meth : Method} {c : Code} {Q : State → Prop} {O : zOm}, p.tables.exec = Jvm.exec → c.code = F.2.2.1 → ∀ (H : Heap) (locs : List Loc) (ls : Array Slot), lv_has ls F.2.2.2.1 (lv.map fun q => (q.1, zWv O q.2)) → (∀ ls', lv_has ls' F.2.2.2.1 (lv'.map fun q => (q.1, zWv O q.2)) → W p (zLn O) e R s0 m args below meth c H locs nc ns Q (F0 m pc' ls' (st'.map (zWv O)))) → W p (zLn O) e R s0 m args below meth c H locs nc ns Q (F0 m pc ls (st.map (zWv O)))) :
    zmNext F (pc, st, lv, C, nc, ns) (pc', st', lv', C, nc, ns) := by
  refine ⟨⟨Nat.le_refl _, Nat.le_refl _, rfl⟩, fun {p e R s0 m args below meth c Q O} X hsz hR hRs g => ?_⟩
  obtain ⟨⟨hx, hb, hml, hown, hts, hK, hN, hcl, hB, hAO⟩, hname, hfr, hlo⟩ := X
  intro H locs ls hP hS hl
  exact h hx hb H locs ls hl (fun ls' hl' => g H locs ls' hP hS hl')
theorem zmE_ok {F : zmF} {rec : zmRec} {i : Instr} {n : Nat} {s s' : zmT} (hF : zmFx F) (hrec : zmRecOk rec) (hsp : zSpell) (hd : decode F.2.2.1 s.1 = .ok (i, n)) (h : zmE F rec i n s = some (.inl s')) : zmNext F s s' := by
  obtain ⟨hF1, hF2, hF3, hF4, hF5⟩ := hF
  obtain ⟨pc, st, lv, C, nc, ns⟩ := s
  dsimp only at hd
  unfold zmE at h
  split at h
  -- aload_n
  · next e1 =>
    cases e1
    split at h
    · next x e =>
      split at h
      · next q =>
        cases h
        obtain ⟨q1, q2⟩ := q; subst q1
        have hm := zLook_mem e
        refine zmNext_of (fun {p e R s0 m args below meth c Q O} hx hb H locs ls hl k => ?_)
        have k := k ls hl
        have h3 := hl.2.2 _ (List.mem_map.mpr ⟨_, hm, rfl⟩)
        dsimp only at h3
        rw [zWv_nn O q2] at h3
        rw [List.map_cons, zWv_nn O q2] at k
        exact lv_aload_n hx hb hd rfl h3 k
      · cases h
    · cases h
  -- iload_n
  · next e1 =>
    cases e1
    split at h
    · next x e =>
      split at h
      · next q =>
        cases h; subst q
        have hm := zLook_mem e
        exact zmNext_of (fun hx hb H locs ls hl k => lv_iload_n hx hb hd rfl (hl.2.2 _ (List.mem_map.mpr ⟨_, hm, rfl⟩)) (k ls hl))
      · cases h
    · cases h
  -- istore_n
  · next kk _ xx _ _ _ _ _ e1 =>
    cases e1
    split at h
    · next q =>
      cases h
      obtain ⟨q1, q2⟩ := q; subst q1
      exact zmNext_of (fun {p e R s0 m args below meth c Q O} hx hb H locs ls hl k => lv_istore_n hx hb hd rfl hl q2 (zSt1_map O lv kk (0, xx)) (fun ls' hl' => k ls' hl'))
    · cases h
  -- iinc
  · next kk dd _ _ _ _ _ _ e1 =>
    cases e1
    split at h
    · next x e =>
      split at h
      · next q =>
        cases h
        obtain ⟨q1, q2, q3⟩ := q; subst q1
        have hm := zLook_mem e
        obtain ⟨j, hj⟩ := List.getElem?_of_mem hm
        exact zmNext_of (fun {p e R s0 m args below meth c Q O} hx hb H locs ls hl k => lv_iinc (k := j) hx hb hd hl (by rw [List.getElem?_map, hj]; rfl) (zi_addc (zin32B_ok q3) _) q2 (zSt1_map O lv kk (0, zw32 (x + dd))) (fun ls' hl' => k ls' hl'))
      · cases h
    · cases h
  -- iconst
  · next e1 =>
    cases e1
    split at h
    · next q => cases h; obtain ⟨q1, q2⟩ := q; subst q1; exact zmNext_of (fun hx hb H locs ls hl k => lv_iconst hx hb hd rfl (k ls hl))
    · cases h
  -- bipush
  · next e1 =>
    cases e1
    split at h
    · next q => cases h; obtain ⟨q1, q2⟩ := q; subst q1; exact zmNext_of (fun hx hb H locs ls hl k => lv_bipush hx hb hd (zi_i8 q2) (k ls hl))
    · cases h
  -- sipush
  · next e1 =>
    cases e1
    split at h
    · next q => cases h; obtain ⟨q1, q2⟩ := q; subst q1; exact zmNext_of (fun hx hb H locs ls hl k => lv_sipush hx hb hd (zi_i16 q2) (k ls hl))
    · cases h
  -- dup
  · next e1 =>
    cases e1
    split at h
    · next q => cases h; obtain ⟨q1, q2⟩ := q; subst q1; exact zmNext_of (fun hx hb H locs ls hl k => lv_dup hx hb hd ((zcat_wv _ _).trans q2) (k ls hl))
    · cases h
  -- if_icmp
  · next e1 =>
    cases e1
    split at h
    · next q =>
      cases h
      obtain ⟨q1, q2, q3, q4, q5⟩ := q; subst q1
      have hx1 := zin32B_ok q3
      have hy := zin32B_ok q4
      refine zmNext_of (fun hx hb H locs ls hl k => ?_)
      have k := k ls hl
      rcases q5 with rfl | rfl
      · refine lv_icmp_ge hx hb hd (Int.toNat_of_nonneg q2).symm (fun q => ?_) (fun q => ?_)
        · rw [if_pos (by simp only [zxcond, decide_eq_true_eq]; exact (zi_le hy hx1).mp q)] at k; exact k
        · rw [if_neg (by simp only [zxcond, decide_eq_true_eq]; exact fun z => q ((zi_le hy hx1).mpr z))] at k; exact k
      · refine lv_icmp_gt hx hb hd (Int.toNat_of_nonneg q2).symm (fun q => ?_) (fun q => ?_)
        · rw [if_pos (by simp only [zxcond, decide_eq_true_eq]; exact (zi_lt hy hx1).mp q)] at k; exact k
        · rw [if_neg (by simp only [zxcond, decide_eq_true_eq]; exact fun z => q ((zi_lt hy hx1).mpr z))] at k; exact k
    · cases h
  -- goto
  · next e1 =>
    cases e1
    split at h
    · next q => cases h; obtain ⟨q1, q2⟩ := q; subst q1; exact zmNext_of (fun hx hb H locs ls hl k => lv_goto hx hb hd (Int.toNat_of_nonneg q2).symm (k ls hl))
    · cases h
  -- new
  · next e1 =>
    cases e1
    split at h
    · next ci pl e =>
      split at h
      · next q =>
        cases h; subst q
        refine ⟨⟨by dsimp only; omega, by dsimp only; omega, by dsimp only; rw [List.length_append]; show C.length + 1 + nc = _; omega⟩, fun X hsz hR hRs g => ?_⟩
        exact zn_new X.1 hF1 hsz hd (zkF_mem e) hR hRs g
      · cases h
    · cases h
  -- newarray
  · next e1 =>
    cases e1
    split at h
    · next ty e =>
      split at h
      · next q =>
        cases h
        obtain ⟨q1, q2, q3⟩ := q; subst q1
        refine ⟨⟨by dsimp only; omega, by dsimp only; omega, by dsimp only; rw [List.length_append]; show C.length + 1 + nc = _; omega⟩, fun X hsz hR hRs g => ?_⟩
        dsimp only at hR hRs g hsz ⊢
        rw [← Int.toNat_of_nonneg q2]
        refine zn_newa X.1 (ty := ty) ?_ (by omega) hsz hd hR hRs g
        unfold zatT at e
        split at e <;> first | (cases e; done) | (cases e; simp)
      · cases h
    · cases h
  -- anewarray
  · next e1 =>
    cases e1
    split at h
    · next ci pl e =>
      split at h
      · next q =>
        cases h
        obtain ⟨q1, q2, q3⟩ := q; subst q1
        refine ⟨⟨by dsimp only; omega, by dsimp only; omega, by dsimp only; rw [List.length_append]; show C.length + 1 + nc = _; omega⟩, fun X hsz hR hRs g => ?_⟩
        dsimp only at hR hRs g hsz ⊢
        rw [← Int.toNat_of_nonneg q2]
        exact zn_anew X.1 hF1 (zkF_mem e) (by omega) hsz hd hR hRs g
      · cases h
    · cases h
  -- putfield
  · next v o st' lv' C' nc' ns' e1 =>
    cases e1
    split at h
    · next ci j e =>
      split at h
      · next C2 e2 =>
        split at h
        · next q =>
          cases h; subst q
          refine ⟨⟨Nat.le_refl _, Nat.le_refl _, by dsimp only; rw [zmPutf_len e2]⟩, fun X hsz hR hRs g => ?_⟩
          dsimp only at g ⊢
          obtain ⟨vt, vx⟩ := v
          unfold zmPutf at e2
          split at e2
          · cases e2
          · next ho =>
            split at e2
            · next ci' fks r e3 =>
              split at e2
              · next hci =>
                subst hci
                have hoe : ((o.toNat : Nat) : Int) = o := by omega
                split at e2
                · next e4 e5 =>
                  split at e2
                  · next q6 =>
                    cases e2
                    have e4 : vt = 0 := e4
                    subst e4
                    rw [← hoe]
                    exact zn_putI X.1 hF2 hd e e3 e5 q6 g
                  · cases e2
                · next fk e4 e5 =>
                  split at e2
                  · next q6 =>
                    cases e2
                    have e4 : vt = 2 := e4
                    subst e4
                    obtain ⟨q7, q8, q9⟩ := q6
                    subst q7
                    rw [← hoe, show vx = ((vx.toNat : Nat) : Int) from (Int.toNat_of_nonneg q8).symm]
                    exact zn_putF X.1 hF2 X.2.1 hd e e3 (List.getElem?_eq_some_iff.mp e5).1 q9 g
                  · cases e2
                · cases e2
              · cases e2
            · cases e2
        · cases h
      · cases h
    · cases h
  -- getfield
  · next o st' lv' C' nc' ns' e1 =>
    cases e1
    split at h
    · next ci j e =>
      split at h
      · next v e2 =>
        split at h
        · next q =>
          cases h; subst q
          refine ⟨⟨Nat.le_refl _, Nat.le_refl _, rfl⟩, fun X hsz hR hRs g => ?_⟩
          dsimp only at g ⊢
          unfold zmGetf at e2
          split at e2
          · cases e2
          · next ho =>
            split at e2
            · next ci' fks r e3 =>
              split at e2
              · next hci =>
                subst hci
                have hoe : ((o.toNat : Nat) : Int) = o := by omega
                split at e2
                · next e5 =>
                  cases e2
                  rw [← hoe]
                  exact zn_getF X.1 hF2 hd e e3 e5 g
                · cases e2
              · cases e2
            · cases e2
        · cases h
      · cases h
    · cases h
  all_goals sorry
