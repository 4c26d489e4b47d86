theorem zOm_ex (S : List zSh) : ∃ O : zOm, zcl O = zCl ∧ zS O = S := ⟨(launch0, ((fun _ => 0), (fun _ _ => 0)), zCl, (fun _ => 0), 0, 0, S), rfl, rfl⟩
theorem zxR_len {C C' : zmC} {v : Option zV} {fuel d f : Nat} {as : List zV} (h : zsokB (zmS C) = true) (hr : zxR (zmS C) fuel d f as C = some (v, C')) : C'.length = C.length := by
  obtain ⟨O, h1, h2⟩ := zOm_ex (zmS C)
  have hO : zWld O := zsokB_ok h1 (by rw [h2]; exact h)
  have := (zxR_ok hO fuel d f as C v C' h2.symm (by rw [h2]; exact hr)).1
  rw [← zmS_len C', this, h2, zmS_len]
theorem zmNext_of {F : zmF} {pc pc' : Nat} {st st' : List zV} {lv lv' : zLv} {C : zmC} {nc ns : Nat}
    (h : ∀ {p : Program} {e : Env} {R : Room} {s0 : State} {m : MethodId} {args : Array Value} {below : List Frame} {meth : Method} {c : Code} {Q : State → Prop} {O : zOm}, p.tables.exec = Jvm.exec → c.code = F.2.2.1 → ∀ (H : Heap) (locs : List Loc) (ls : Array Slot), lv_has ls F.2.2.2.1 (lv.map fun q => (q.1, zWv O q.2)) → (∀ ls', lv_has ls' F.2.2.2.1 (lv'.map fun q => (q.1, zWv O q.2)) → W p (zLn O) e R s0 m args below meth c H locs nc ns Q (F0 m pc' ls' (st'.map (zWv O)))) → W p (zLn O) e R s0 m args below meth c H locs nc ns Q (F0 m pc ls (st.map (zWv O)))) :
    zmNext F (pc, st, lv, C, nc, ns) (pc', st', lv', C, nc, ns) := by
  refine ⟨⟨Nat.le_refl _, Nat.le_refl _, rfl⟩, fun {p e R s0 m args below meth c Q O} X hsz hR hRs g => ?_⟩
  obtain ⟨⟨hx, hb, hml, hown, hts, hK, hN, hcl, hB, hAO, hSt⟩, hname, hfr, hlo⟩ := X
  intro H locs ls hP hS hl
  exact h hx hb H locs ls hl (fun ls' hl' => g H locs ls' hP hS hl')
theorem zmE_ok {F : zmF} {rec : zmRec} {i : Instr} {n : Nat} {s s' : zmT} (hF : zmFx F) (hrec : zmRecOk rec) (hsp : zSpell) (hd : decode F.2.2.1 s.1 = .ok (i, n)) (h : zmE F rec i n s = some (.inl s')) : zmNext F s s' := by
  obtain ⟨hF1, hF2, hF3, hF4, hF5⟩ := hF
  obtain ⟨pc, st, lv, C, nc, ns⟩ := s
  dsimp only at hd
  unfold zmE at h
  split at h
  -- aload_n
  · next e1 =>
    cases e1
    split at h
    · next x e =>
      split at h
      · next q =>
        cases h
        obtain ⟨q1, q2⟩ := q; subst q1
        have hm := zLook_mem e
        refine zmNext_of (fun {p e R s0 m args below meth c Q O} hx hb H locs ls hl k => ?_)
        have k := k ls hl
        have h3 := hl.2.2 _ (List.mem_map.mpr ⟨_, hm, rfl⟩)
        dsimp only at h3
        rw [zWv_nn O q2] at h3
        rw [List.map_cons, zWv_nn O q2] at k
        exact lv_aload_n hx hb hd rfl h3 k
      · cases h
    · cases h
  -- iload_n
  · next e1 =>
    cases e1
    split at h
    · next x e =>
      split at h
      · next q =>
        cases h; subst q
        have hm := zLook_mem e
        exact zmNext_of (fun hx hb H locs ls hl k => lv_iload_n hx hb hd rfl (hl.2.2 _ (List.mem_map.mpr ⟨_, hm, rfl⟩)) (k ls hl))
      · cases h
    · cases h
  -- istore_n
  · next kk _ xx _ _ _ _ _ e1 =>
    cases e1
    split at h
    · next q =>
      cases h
      obtain ⟨q1, q2⟩ := q; subst q1
      exact zmNext_of (fun {p e R s0 m args below meth c Q O} hx hb H locs ls hl k => lv_istore_n hx hb hd rfl hl q2 (zSt1_map O lv kk (0, xx)) (fun ls' hl' => k ls' hl'))
    · cases h
  -- iinc
  · next kk dd _ _ _ _ _ _ e1 =>
    cases e1
    split at h
    · next x e =>
      split at h
      · next q =>
        cases h
        obtain ⟨q1, q2, q3⟩ := q; subst q1
        have hm := zLook_mem e
        obtain ⟨j, hj⟩ := List.getElem?_of_mem hm
        exact zmNext_of (fun {p e R s0 m args below meth c Q O} hx hb H locs ls hl k => lv_iinc (k := j) hx hb hd hl (by rw [List.getElem?_map, hj]; rfl) (zi_addc (zin32B_ok q3) _) q2 (zSt1_map O lv kk (0, zw32 (x + dd))) (fun ls' hl' => k ls' hl'))
      · cases h
    · cases h
  -- iconst
  · next e1 =>
    cases e1
    split at h
    · next q => cases h; obtain ⟨q1, q2⟩ := q; subst q1; exact zmNext_of (fun hx hb H locs ls hl k => lv_iconst hx hb hd rfl (k ls hl))
    · cases h
  -- bipush
  · next e1 =>
    cases e1
    split at h
    · next q => cases h; obtain ⟨q1, q2⟩ := q; subst q1; exact zmNext_of (fun hx hb H locs ls hl k => lv_bipush hx hb hd (zi_i8 q2) (k ls hl))
    · cases h
  -- sipush
  · next e1 =>
    cases e1
    split at h
    · next q => cases h; obtain ⟨q1, q2⟩ := q; subst q1; exact zmNext_of (fun hx hb H locs ls hl k => lv_sipush hx hb hd (zi_i16 q2) (k ls hl))
    · cases h
  -- dup
  · next e1 =>
    cases e1
    split at h
    · next q => cases h; obtain ⟨q1, q2⟩ := q; subst q1; exact zmNext_of (fun hx hb H locs ls hl k => lv_dup hx hb hd ((zcat_wv _ _).trans q2) (k ls hl))
    · cases h
  -- if_icmp
  · next e1 =>
    cases e1
    split at h
    · next q =>
      cases h
      obtain ⟨q1, q2, q3, q4, q5⟩ := q; subst q1
      have hx1 := zin32B_ok q3
      have hy := zin32B_ok q4
      refine zmNext_of (fun hx hb H locs ls hl k => ?_)
      have k := k ls hl
      rcases q5 with rfl | rfl
      · refine lv_icmp_ge hx hb hd (Int.toNat_of_nonneg q2).symm (fun q => ?_) (fun q => ?_)
        · rw [if_pos (by simp only [zxcond, decide_eq_true_eq]; exact (zi_le hy hx1).mp q)] at k; exact k
        · rw [if_neg (by simp only [zxcond, decide_eq_true_eq]; exact fun z => q ((zi_le hy hx1).mpr z))] at k; exact k
      · refine lv_icmp_gt hx hb hd (Int.toNat_of_nonneg q2).symm (fun q => ?_) (fun q => ?_)
        · rw [if_pos (by simp only [zxcond, decide_eq_true_eq]; exact (zi_lt hy hx1).mp q)] at k; exact k
        · rw [if_neg (by simp only [zxcond, decide_eq_true_eq]; exact fun z => q ((zi_lt hy hx1).mpr z))] at k; exact k
    · cases h
  -- goto
  · next e1 =>
    cases e1
    split at h
    · next q => cases h; obtain ⟨q1, q2⟩ := q; subst q1; exact zmNext_of (fun hx hb H locs ls hl k => lv_goto hx hb hd (Int.toNat_of_nonneg q2).symm (k ls hl))
    · cases h
  -- new
  · next e1 =>
    cases e1
    split at h
    · next ci pl e =>
      split at h
      · next q =>
        cases h; subst q
        refine ⟨⟨by dsimp only; omega, by dsimp only; omega, by dsimp only; rw [List.length_append]; show C.length + 1 + nc = _; omega⟩, fun X hsz hR hRs g => ?_⟩
        exact zn_new X.1 hF1 hsz hd (zkF_mem e) hR hRs g
      · cases h
    · cases h
  -- newarray
  · next e1 =>
    cases e1
    split at h
    · next ty e =>
      split at h
      · next q =>
        cases h
        obtain ⟨q1, q2, q3⟩ := q; subst q1
        refine ⟨⟨by dsimp only; omega, by dsimp only; omega, by dsimp only; rw [List.length_append]; show C.length + 1 + nc = _; omega⟩, fun X hsz hR hRs g => ?_⟩
        dsimp only at hR hRs g hsz ⊢
        rw [← Int.toNat_of_nonneg q2]
        refine zn_newa X.1 (ty := ty) ?_ (by omega) hsz hd hR hRs g
        unfold zatT at e
        split at e <;> first | (cases e; done) | (cases e; simp)
      · cases h
    · cases h
  -- anewarray
  · next e1 =>
    cases e1
    split at h
    · next ci pl e =>
      split at h
      · next q =>
        cases h
        obtain ⟨q1, q2, q3⟩ := q; subst q1
        refine ⟨⟨by dsimp only; omega, by dsimp only; omega, by dsimp only; rw [List.length_append]; show C.length + 1 + nc = _; omega⟩, fun X hsz hR hRs g => ?_⟩
        dsimp only at hR hRs g hsz ⊢
        rw [← Int.toNat_of_nonneg q2]
        exact zn_anew X.1 hF1 (zkF_mem e) (by omega) hsz hd hR hRs g
      · cases h
    · cases h
  -- putfield
  · next v o st' lv' C' nc' ns' e1 =>
    cases e1
    split at h
    · next ci j e =>
      split at h
      · next C2 e2 =>
        split at h
        · next q =>
          cases h; subst q
          refine ⟨⟨Nat.le_refl _, Nat.le_refl _, by dsimp only; rw [zmPutf_len e2]⟩, fun X hsz hR hRs g => ?_⟩
          dsimp only at g ⊢
          obtain ⟨vt, vx⟩ := v
          unfold zmPutf at e2
          split at e2
          · cases e2
          · next ho =>
            split at e2
            · next ci' fks r e3 =>
              split at e2
              · next hci =>
                subst hci
                have hoe : ((o.toNat : Nat) : Int) = o := by omega
                split at e2
                · next e4 e5 =>
                  split at e2
                  · next q6 =>
                    cases e2
                    have e4 : vt = 0 := e4
                    subst e4
                    rw [← hoe]
                    exact zn_putI X.1 hF2 hd e e3 e5 q6 g
                  · cases e2
                · next fk e4 e5 =>
                  split at e2
                  · next q6 =>
                    cases e2
                    have e4 : vt = 2 := e4
                    subst e4
                    obtain ⟨q7, q8, q9⟩ := q6
                    subst q7
                    rw [← hoe, show vx = ((vx.toNat : Nat) : Int) from (Int.toNat_of_nonneg q8).symm]
                    exact zn_putF X.1 hF2 X.2.1 hd e e3 (List.getElem?_eq_some_iff.mp e5).1 q9 g
                  · cases e2
                · cases e2
              · cases e2
            · cases e2
        · cases h
      · cases h
    · cases h
  -- getfield
  · next o st' lv' C' nc' ns' e1 =>
    cases e1
    split at h
    · next ci j e =>
      split at h
      · next v e2 =>
        split at h
        · next q =>
          cases h; subst q
          refine ⟨⟨Nat.le_refl _, Nat.le_refl _, rfl⟩, fun X hsz hR hRs g => ?_⟩
          dsimp only at g ⊢
          unfold zmGetf at e2
          split at e2
          · cases e2
          · next ho =>
            split at e2
            · next ci' fks r e3 =>
              split at e2
              · next hci =>
                subst hci
                have hoe : ((o.toNat : Nat) : Int) = o := by omega
                split at e2
                · next e5 =>
                  cases e2
                  rw [← hoe]
                  exact zn_getF X.1 hF2 hd e e3 e5 g
                · cases e2
              · cases e2
            · cases e2
        · cases h
      · cases h
    · cases h
  -- aastore
  · next v x a st' lv' C' nc' ns' e1 =>
    cases e1
    split at h
    · next C2 e2 =>
      split at h
      · next q =>
        cases h; subst q
        refine ⟨⟨Nat.le_refl _, Nat.le_refl _, by dsimp only; rw [zmAast_len e2]⟩, fun X hsz hR hRs g => ?_⟩
        dsimp only at g ⊢
        unfold zmAast at e2
        split at e2
        · cases e2
        · next hq =>
          split at e2
          · next Cn n rs r ci fks r2 e3 e4 =>
            split at e2
            · next q6 =>
              cases e2
              obtain ⟨q7, q8, q9, q10, q11⟩ := q6
              have hc : ∃ T N, zCl[ci]? = some (Cn, T, N) := by
                rcases q8 with rfl | rfl
                · exact ⟨_, _, by rw [q7]; rfl⟩
                · exact ⟨_, _, by rw [q7]; rfl⟩
              have hty : FieldType.object Cn ∈ zTy := by
                rcases q8 with rfl | rfl
                · rw [q7]; decide
                · rw [q7]; decide
              obtain ⟨T, N, hc⟩ := hc
              rw [show v = ((v.toNat : Nat) : Int) by omega, show x = ((x.toNat : Nat) : Int) by omega, show a = ((a.toNat : Nat) : Int) by omega]
              exact zn_aast X.1 hd hc hty e3 e4 q9 q10 q11 g
            · cases e2
          · cases e2
      · cases h
    · cases h
  -- lastore
  · next v x a st' lv' C' nc' ns' e1 =>
    cases e1
    split at h
    · next C2 e2 =>
      split at h
      · next q =>
        cases h; subst q
        refine ⟨⟨Nat.le_refl _, Nat.le_refl _, by dsimp only; rw [zmLast_len e2]⟩, fun X hsz hR hRs g => ?_⟩
        dsimp only at g ⊢
        unfold zmLast at e2
        split at e2
        · cases e2
        · next hq =>
          split at e2
          · next n rs r e3 =>
            split at e2
            · next q6 =>
              cases e2
              rw [show x = ((x.toNat : Nat) : Int) by omega, show a = ((a.toNat : Nat) : Int) by omega]
              refine zn_last X.1 hd e3 q6.1 q6.2 ?_
              rw [show ((x.toNat : Nat) : Int) = x by omega]
              exact g
            · cases e2
          · cases e2
      · cases h
    · cases h
  -- ldc
  · next kk _ _ _ _ _ _ e1 =>
    cases e1
    split at h
    · next h5 =>
      split at h
      · next v e2 e3 =>
        split at h
        · next q =>
          cases h
          obtain ⟨q1, q2, q3, q4⟩ := q; subst q1
          refine ⟨⟨Nat.le_refl _, Nat.le_refl _, rfl⟩, fun X hsz hR hRs g => ?_⟩
          have X1 := X.1
          rw [h5] at X1
          refine hsp kk v (zkF_mem e2) X1 hd e3 q2 ?_ ?_ ?_ ?_ g
          · rw [X.2.2.1]; exact q3
          · rw [X.2.2.2]; exact q4
          · exact hR
          · exact hRs
        · cases h
      · cases h
    · next h5 =>
      split at h
      · next v e2 =>
        split at h
        · next q =>
          cases h
          obtain ⟨q1, q2⟩ := q; subst q1
          refine ⟨⟨Nat.le_refl _, Nat.le_refl _, rfl⟩, fun {p e R s0 m args below meth c Q O} X hsz hR hRs g => ?_⟩
          obtain ⟨⟨hx, hb, hml, hown, hts, hK, hN, hcl, hB, hAO, hSt⟩, hname, hfr, hlo⟩ := X
          intro H locs ls hP hS hl
          have hw := hF3.2.2.2.2.2.1 kk v e2
          rw [hF4] at hw
          exact lv_ldc (v := zi v) hx hb hown (hts _ hw) hd (g H locs ls hP hS hl)
        · cases h
      · cases h
  -- invokespecial
  · next kk _ o st' lv' C' nc' ns' e1 =>
    cases e1
    split at h
    · next e2 =>
      split at h
      · next q =>
        cases h
        obtain ⟨q1, q2, q3, q4⟩ := q; subst q1
        exact zmObj (n := 3) hF1 (zkF_mem e2) hd q2 q3 q4
      · cases h
    · split at h
      · next ci w e2 =>
        split at h
        · next D a b e3 =>
          split at h
          · next q =>
            cases h
            obtain ⟨q1, q2, q3, q4, q5, q6⟩ := q; subst q1
            obtain ⟨r1, r2⟩ := hrec ci D a b e3
            refine ⟨⟨by dsimp only; omega, by dsimp only; omega, by dsimp only; rw [List.length_append, List.length_take, List.length_map, r1]; omega⟩, fun X hsz hR hRs g => ?_⟩
            dsimp only at g hsz hR hRs ⊢
            unfold zmNewB at q3
            split at q3
            · cases q3
            · next ho =>
              split at q3
              · next ci' fks e5 =>
                rw [Bool.and_eq_true, decide_eq_true_eq, decide_eq_true_eq] at q3
                obtain ⟨q7, q8⟩ := q3
                subst q7
                subst q8
                rw [show o = ((o.toNat : Nat) : Int) by omega]
                obtain ⟨kd, pl, pim⟩ := w
                refine zn_init X.1 hF1 hsz hd (zkF_mem e2) hR hRs q2 e5 q4 (by rw [X.2.2.1, X.2.2.2]; exact ⟨q5, q6⟩) r2 g
              · cases q3
          · cases h
        · cases h
      · cases h
  -- invokevirtual
  · next kk _ x o st' lv' C' nc' ns' e1 =>
    cases e1
    split at h
    · next f ci e2 =>
      split at h
      · next C2 e3 =>
        split at h
        · next q =>
          cases h
          obtain ⟨q1, q2, q3, q4, q5, q6, q7, q8, q9⟩ := q; subst q1
          have hlen : C2.length = C.length := by
            exact zxR_len q8 e3
          refine ⟨⟨Nat.le_refl _, Nat.le_refl _, by dsimp only; rw [hlen]⟩, fun X hsz hR hRs g => ?_⟩
          dsimp only at g hsz hR hRs ⊢
          have hoe : o = ((o.toNat : Nat) : Int) := by omega
          rw [hoe] at q3 e3 ⊢
          exact zn_virt X.1 hF3 hF4 hF5 e2 hsz hd q3 (zin32B_ok q4) q5 ⟨hR, hRs⟩ (by rw [X.2.2.1, X.2.2.2]; exact ⟨q6, q7⟩) q8 q9 e3 g
        · cases h
      · cases h
    · cases h
  -- return
  · next e1 =>
    cases e1
    split at h
    · cases h
    · cases h
  · cases h
theorem zmE_ret {F : zmF} {rec : zmRec} {i : Instr} {n : Nat} {s : zmT} {r : zmC × Nat × Nat} (h : zmE F rec i n s = some (.inr r)) : i = .return_ ∧ n = 1 ∧ s.2.1 = [] ∧ r = (s.2.2.2.1, s.2.2.2.2.1, s.2.2.2.2.2) := by
  obtain ⟨pc, st, lv, C, nc, ns⟩ := s
  unfold zmE at h
  split at h
  all_goals first
    | (next e1 => cases e1; split at h; (next q => cases h; exact ⟨rfl, q, rfl, rfl⟩); (next => cases h))
    | (repeat' (split at h)) <;> (cases h; done)
    | cases h
