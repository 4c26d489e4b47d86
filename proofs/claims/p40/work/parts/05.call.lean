set_option maxHeartbeats 4000000 in
set_option maxRecDepth 100000 in
theorem zg_invokevirtual {p : Program} {e : Env} {R : Room} {s : State} {m : MethodId} {args : Array Value} {below : List Frame} {meth : Method} {c : Code} {Q : State → Prop} {O : zOm} {ev : zEv} (X : zCx p R s m args meth c O ev) {rt : Option zV → zMem → Prop} {n pc : Nat} {st : List zV} {lv : zLv} {M : zMem} {k : Nat}
    (hd : decode ev.2.1 pc = .ok (.invokevirtual k, n)) (h : zStep ev (zS O) (zR O) rt (.invokevirtual k) n pc st lv M (zGo p e R s m args below meth c Q O ev.2.2.1)) : zGo p e R s m args below meth c Q O ev.2.2.1 pc st lv M := by
  obtain ⟨own, code, nL, ret, pf, pm, pk, fr, lo, fn⟩ := ev
  obtain ⟨hx, hb, hml, hret, hown, hts, hK, hN, hfr, hlo, hszB, hSo, hCl, hF, hM0, hM1, hM2, hM5, hk0, hk1, hM3, hM4⟩ := X
  dsimp only at hb hml hret hown hfr hlo hF hM0 hM1 hM2 hM5 hk0 hk1 hM3 hM4 hd
  intro hst hlv hM H locs ls hP hS hl
  obtain ⟨rfl, o, as, rest, f, ci, na, rfl, hpm, hn, ⟨h0, fks, hs⟩, hcat, hfr1, hlo1, h⟩ := h
  obtain ⟨⟨hcode, hini, hd1, hd2, hd3⟩, ⟨T, N, hc⟩, hlk, hin, hsel⟩ := hM0 k f ci na hpm
  dsimp only at hcode hini hd1 hd2 hd3 hc hlk hin hsel hfr1 hlo1 h
  generalize fn f = f at hcode hini hd1 hd2 hd3 hc hlk hin hsel hfr1 hlo1 h
  have hrest : ∀ v ∈ rest, zok v := fun v hv => hst v (by simp [hv])
  have has : ∀ v ∈ (2, o) :: as, zok v := fun v hv => hst v (by rcases List.mem_cons.mp hv with rfl | hv <;> simp [*])
  have hMet := h has hM H.size (Nat.le_trans hszB hS.1)
  have hG : GoodIn zWS (wsV own k f.1.cls f.1 (zWs f)) := by
    intro w hw
    have hw' : w ∈ zWS := by
      rcases List.mem_append.mp hw with h1 | h1
      · simp only [List.mem_cons, List.not_mem_nil, or_false] at h1
        rcases h1 with rfl | rfl | rfl | rfl
        · exact hlk
        · exact hin
        · exact hsel
        · exact hini
      · exact (zGood f hcode w h1).1
    exact ⟨hw', good_of_word (List.mem_filter.mp hw').2⟩
  have cw := cwV (R := R) (rm := zRm f) (mc := 0) (ms := 0) (ws' := zWS) na hts hG rfl rfl rfl ⟨rfl, hd1, hd2, hd3⟩ (by rw [hfr, hlo]; exact ⟨hfr1, hlo1⟩)
  have he := zWorld_at (M := M) hs
  obtain ⟨rC, hrC, cell, q1, q2, q3, q4⟩ := hP _ _ he
  rw [hc] at hrC
  cases hrC
  have hcls : s.vm.findClass f.1.cls = some cell.cls := by rw [q2]; exact (hK.1 ci _ hc).2.1
  have hPV : PreV s H f.1.cls (zB O + o.toNat) (zPc O M H.size ((2, o) :: as)) (as.map (zWv O)) := by
    refine ⟨zPc_blind O M H.size _, ⟨cell, q1, by rw [q3]; rfl, hcls⟩, fun U hU hW => ?_⟩
    have := zPc_at (as := (2, o) :: as) hP hK hN hU hW
    rw [List.map_cons, zWv_nn O h0] at this
    exact this
  have hstk : ((as.reverse ++ (2, o) :: rest).map (zWv O)) = (as.map (zWv O)).reverse ++ .ref (zB O + o.toNat) :: rest.map (zWv O) := by
    rw [List.map_append, List.map_cons, zWv_nn O h0, List.map_reverse]
  rw [hstk]
  refine zcall (va_runV (As := as.map (zWv O)) (rest := rest.map (zWv O)) ⟨hx, hb, hml, hown, hts⟩ hMet cw hPV rfl (by rw [List.length_map]; exact hn) hl.1 rfl (lv_room (by rw [zcats_wv]; exact hcat)) hd ⟨Nat.zero_le _, Nat.zero_le _⟩) hS hrest hlv hl (fun v u hv => hv)

set_option maxHeartbeats 4000000 in
set_option maxRecDepth 100000 in
theorem zg_invokestatic {p : Program} {e : Env} {R : Room} {s : State} {m : MethodId} {args : Array Value} {below : List Frame} {meth : Method} {c : Code} {Q : State → Prop} {O : zOm} {ev : zEv} (X : zCx p R s m args meth c O ev) {rt : Option zV → zMem → Prop} {n pc : Nat} {st : List zV} {lv : zLv} {M : zMem} {k : Nat}
    (hd : decode ev.2.1 pc = .ok (.invokestatic k, n)) (h : zStep ev (zS O) (zR O) rt (.invokestatic k) n pc st lv M (zGo p e R s m args below meth c Q O ev.2.2.1)) : zGo p e R s m args below meth c Q O ev.2.2.1 pc st lv M := by
  obtain ⟨own, code, nL, ret, pf, pm, pk, fr, lo, fn⟩ := ev
  obtain ⟨hx, hb, hml, hret, hown, hts, hK, hN, hfr, hlo, hszB, hSo, hCl, hF, hM0, hM1, hM2, hM5, hk0, hk1, hM3, hM4⟩ := X
  dsimp only at hb hml hret hown hfr hlo hF hM0 hM1 hM2 hM5 hk0 hk1 hM3 hM4 hd
  intro hst hlv hM H locs ls hP hS hl
  obtain ⟨rfl, h⟩ := h
  rcases h with ⟨as, rest, kd, f, ci, na, hkd, rfl, hpm, hn, hcat, hfr1, hlo1, h⟩ | ⟨a0, sp, a1, dp, cn, rest, f, ci, na, k0, k1, rfl, hpm, ⟨h00, rs0, hs0⟩, ⟨h01, rs1, hs1⟩, hsp, hdp, hcn, hb0, hb1, hf9, hl9, h⟩ | ⟨x, y, r, mx, f, ci, na, rfl, hpm, hmx, hf9, hl9, h⟩
  · have hrest : ∀ v ∈ rest, zok v := fun v hv => hst v (by simp [hv])
    have has : ∀ v ∈ as, zok v := fun v hv => hst v (by simp [hv])
    have hMet := h has hM H.size (Nat.le_trans hszB hS.1)
    have hPS : PreS s H (zPc O M H.size as) (as.map (zWv O)) := ⟨zPc_blind O M H.size _, fun U hU hW => zPc_at hP hK hN hU hW⟩
    have hstk : ((as.reverse ++ rest).map (zWv O)) = (as.map (zWv O)).reverse ++ rest.map (zWv O) := by
      rw [List.map_append, List.map_reverse]
    rw [hstk]
    rcases hkd with rfl | rfl
    · obtain ⟨⟨hcode, hini, hd1, hd2, hd3⟩, hlk, hsta⟩ := hM1 k f ci na hpm
      dsimp only at hcode hini hd1 hd2 hd3 hlk hsta hfr1 hlo1 h hMet
      generalize fn f = f at hcode hini hd1 hd2 hd3 hlk hsta hfr1 hlo1 h hMet
      have hG : GoodIn zWS (va_wsS own k f.1 (zWs f)) := by
        intro w hw
        have hw' : w ∈ zWS := by
          rcases List.mem_append.mp hw with h1 | h1
          · simp only [List.mem_cons, List.not_mem_nil, or_false] at h1
            rcases h1 with rfl | rfl | rfl
            · exact hlk
            · exact hsta
            · exact hini
          · exact (zGood f hcode w h1).1
        exact ⟨hw', good_of_word (List.mem_filter.mp hw').2⟩
      have cw := va_cwS (R := R) (rm := zRm f) (mc := 0) (ms := 0) (ws' := zWS) na hts hG rfl rfl rfl ⟨hd1, hd2, hd3⟩ (by rw [hfr, hlo]; exact ⟨hfr1, hlo1⟩)
      exact zcall (va_runS (As := as.map (zWv O)) (rest := rest.map (zWv O)) ⟨hx, hb, hml, hown, hts⟩ hMet cw hPS rfl (by rw [List.length_map]; exact hn) hl.1 rfl (lv_room (by rw [zcats_wv]; exact hcat)) hd ⟨Nat.zero_le _, Nat.zero_le _⟩) hS hrest hlv hl (fun v u hv => hv)
    · obtain ⟨⟨hcode, hini, hd1, hd2, hd3⟩, hne, hsta⟩ := hM2 k f ci na hpm
      dsimp only at hcode hini hd1 hd2 hd3 hne hsta hfr1 hlo1 h hMet
      generalize fn f = f at hcode hini hd1 hd2 hd3 hne hsta hfr1 hlo1 h hMet
      have cn := va_cnB (R := R) (rm := zRm f) (mc := 0) (ms := 0) (ws' := zWS) na hts (zGood f hcode) rfl rfl rfl (hN _ hne) (hts _ hini) ⟨hd1, hd2, hd3⟩ (by rw [hfr, hlo]; exact ⟨hfr1, hlo1⟩)
      exact zcall (va_runSN (As := as.map (zWv O)) (rest := rest.map (zWv O)) ⟨hx, hb, hml, hown, hts⟩ hMet ⟨cn, hts _ hsta, trivial⟩ hPS rfl (by rw [List.length_map]; exact hn) hl.1 rfl (lv_room (by rw [zcats_wv]; exact hcat)) hd ⟨Nat.zero_le _, Nat.zero_le _⟩) hS hrest hlv hl (fun v u hv => hv)
  · obtain ⟨hlk, hnat, hsta, hini⟩ := hM5 k f ci na hpm
    obtain ⟨t0, ht0⟩ := zTy_at O (ty := .int) (by decide)
    have hcn1 : zin32 cn := zok_hd hst
    have hdp1 : zin32 dp := zok_hd (zok_tl hst)
    have hsp1 : zin32 sp := zok_hd (zok_tl (zok_tl (zok_tl hst)))
    have e0 : ((a0.toNat : Nat) : Int) = a0 := by omega
    have e1 : ((a1.toNat : Nat) : Int) = a1 := by omega
    simp only [List.map_cons]
    rw [zWv_nn O h00, zWv_nn O h01]
    have nz : ∀ z : Int, zin32 z → 0 ≤ z → ¬ zi z < 0 := fun z hz h0 q => by
      have := (zi_lt hz (⟨by decide, by decide⟩ : zin32 0)).mp q
      omega
    refine va_copyi hx hb (hml.trans hl.1.symm) hown (hts _ hlk) (hts _ hnat) (hts _ hsta) (hts _ hini) hK hP (zWorld_D O M _) hS a0.toNat a1.toNat t0 t0 (zWorld_at (M := M) hs0) (zWorld_at (M := M) hs1) ht0 ht0 rfl (nz _ hsp1 hsp) (nz _ hdp1 hdp) (nz _ hcn1 hcn) (by rw [zi_cl hsp1, zi_cl hcn1]; omega) (by rw [zi_cl hdp1, zi_cl hcn1]; omega) (fun _ _ => rfl) (by rw [hfr]; exact hf9) (by rw [hlo, zcats_wv]; exact hl9) (hdg := hd) (kk := fun H1 locs1 hP1 hD1 hS1 => ?_)
    have hw2 := zWorld_set (O := O) (M := M) hs1 (zcpy (M a0) (M a1) sp dp cn) (e := .inl (zcA O .int, k1, .inl (va_cpy (fun i : Nat => zi (M (a0.toNat : Nat) i)) (fun i : Nat => zi (M (a1.toNat : Nat) i)) (zi sp).toNatClampNeg (zi dp).toNatClampNeg (zi cn).toNatClampNeg))) (by rw [zi_cl hsp1, zi_cl hdp1, zi_cl hcn1, e0, e1, ← zcpy_i hsp hdp hcn]; rfl)
    rw [e1] at hw2 hP1
    rw [hw2] at hP1
    have hMa : zMok (zS O) (zput M a1 (zcpy (M a0) (M a1) sp dp cn)) := by
      have h3 := hM _ _ hs1
      have h4 := hM _ _ hs0
      rw [e1] at h3
      rw [e0] at h4
      have hc : zShOk (zcpy (M a0) (M a1) sp dp cn) (.inl (.int, k1, rs1)) := by
        intro j hj
        unfold zcpy
        split
        next hj2 =>
          have h5 := h4 (sp + ((j : Int) - dp)).toNat (by omega)
          rw [show (((sp + ((j : Int) - dp)).toNat : Nat) : Int) = sp + ((j : Int) - dp) by omega] at h5
          exact h5
        next => exact h3 j hj
      have := zMok_put (f := zcpy (M a0) (M a1) sp dp cn) hM hs1 hc
      rw [e1] at this
      exact this
    exact h (zok_tl (zok_tl (zok_tl (zok_tl (zok_tl hst))))) hlv hMa H1 locs1 ls hP1 hS1 hl
  · have hy : zin32 y := zok_hd hst
    have hx1 : zin32 x := zok_hd (zok_tl hst)
    rcases hmx with rfl | rfl
    · obtain ⟨hlk, hsta, hini, hcd⟩ := hM3 k f ci na hpm
      have hin : zin32 (max x y) := by rcases Int.le_total x y with q | q <;> simp [Int.max_def] <;> split <;> assumption
      have h2 := h (zok_cons hin (zok_tl (zok_tl hst))) hlv hM H locs ls hP hS hl
      refine va_mmax (x := zi x) (y := zi y) hx hb (hml.trans hl.1.symm) hown (hts _ hlk) (hts _ hsta) (hts _ hini) (hts _ hcd) (by rw [hfr]; exact hf9) (by rw [hlo, zcats_wv]; exact hl9) (Nat.zero_le _) (Nat.zero_le _) hd ?_
      have he : (if zi x < zi y then zi y else zi x) = zi (max x y) := by
        rw [Int.max_def]
        by_cases q : x < y
        · rw [if_pos ((zi_lt hx1 hy).mpr q), if_pos (by omega)]
        · rw [if_neg (fun z => q ((zi_lt hx1 hy).mp z))]
          split
          · rw [show x = y by omega]
          · rfl
      rw [he]
      exact h2
    · obtain ⟨hlk, hsta, hini, hcd⟩ := hM4 k f ci na hpm
      have hin : zin32 (min x y) := by rcases Int.le_total x y with q | q <;> simp [Int.min_def] <;> split <;> assumption
      have h2 := h (zok_cons hin (zok_tl (zok_tl hst))) hlv hM H locs ls hP hS hl
      refine va_mmin (x := zi x) (y := zi y) hx hb (hml.trans hl.1.symm) hown (hts _ hlk) (hts _ hsta) (hts _ hini) (hts _ hcd) (by rw [hfr]; exact hf9) (by rw [hlo, zcats_wv]; exact hl9) (Nat.zero_le _) (Nat.zero_le _) hd ?_
      have he : (if zi y < zi x then zi y else zi x) = zi (min x y) := by
        rw [Int.min_def]
        by_cases q : y < x
        · rw [if_pos ((zi_lt hy hx1).mpr q), if_neg (by omega)]
        · rw [if_neg (fun z => q ((zi_lt hy hx1).mp z)), if_pos (by omega)]
      rw [he]
      exact h2
