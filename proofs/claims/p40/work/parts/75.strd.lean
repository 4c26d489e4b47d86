theorem zSpell_ok : zSpell := by
  intro k v hkv p e R s m args below meth c Q O code nL pc st lv C nc ns X hd hd2 hcat hfr hlo hnc hns g
  obtain ⟨hx, hb, hml, hown, hts, hK, hN, hcl, hB, hAO, adK, adV, hz, hR⟩ := X
  obtain ⟨i, hi⟩ := List.getElem?_of_mem hkv
  have hi7 : i < 7 := (List.getElem?_eq_some_iff.mp hi).1
  have hks : ∃ tx, zsK[i]? = some (k, tx) := by
    have : ∀ i, i < 7 → (zsK[i]?).map (·.1) = (zkS[i]?).map (·.1) := by decide
    have h1 := this i hi7
    rw [hi] at h1
    obtain ⟨q, h2, h3⟩ := Option.map_eq_some_iff.mp h1
    obtain ⟨a, b⟩ := q
    cases h3
    exact ⟨b, h2⟩
  obtain ⟨tx, htx⟩ := hks
  have hv : (zkS.getD i (0, 0)).2 = v := by rw [List.getD_eq_getElem?_getD, hi]; rfl
  intro H locs ls hP hS hl
  refine va_ldcS hx hb hown (hR i k tx htx) hd ?_
  have h1 := g H locs ls hP hS hl
  refine zsS (as := [.ref (adK i)]) (rest := st.map (zWv O)) (zs_spell hi7) 1 jl_spell js_spell ji_spell jc_spell (by decide +kernel) rfl hx hb hml hown hts (fun U hU hW => by rw [hU]; exact hz.to hW.alike hS.2.1 (fun _ z => z)) hl.1 (by rw [zcats_wv]; exact hcat) ⟨hfr, hlo⟩ ⟨hnc, hns⟩ hd2 ?_
  rw [hv]
  exact h1
