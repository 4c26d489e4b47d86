theorem zCl_ok : zClOk zCl := by
  intro ci C T N hc
  have h := List.all_eq_true.mp zclok_ok ci (List.mem_range.mpr (List.getElem?_eq_some_iff.mp hc).1)
  rw [hc] at h
  split at h
  next C' T' N' ps he hp =>
    cases he
    simp only [Bool.and_eq_true, List.all_eq_true, List.mem_range, Bool.or_eq_true, decide_eq_true_eq] at h
    obtain ⟨h1, h2, h3⟩ := h
    refine ⟨fun w hw => ?_, ?_, fun a ha b hb hne => ?_⟩
    · obtain ⟨k, hk, rfl⟩ := List.mem_map.mp hw
      exact zInW_mem (h1 k (List.mem_range.mp hk))
    · exact ⟨fun k => (parseFieldDescriptor (T k).2.2.1).getD .int, fun k hk => by
        have := h2 k hk
        cases hp : parseFieldDescriptor (T k).2.2.1 with
        | none => rw [hp] at this; cases this
        | some ty => show some ty = some ((parseFieldDescriptor (T k).2.2.1).getD .int); rw [hp]; rfl⟩
    · rcases h3 a ha b hb with h | h
      · exact absurd h hne
      · exact h
  next => cases h
theorem zpfF_some {L : List (Nat × Nat × Nat × Nat)} {k ci j : Nat} (h : zpfF L k = some (ci, j)) : ∃ p, (k, ci, j, p) ∈ L := by
  obtain ⟨⟨k', ci', j', p⟩, h1, h2⟩ := Option.map_eq_some_iff.mp h
  have h3 := List.find?_some h1
  have h4 : k' = k := by simpa using h3
  cases h2
  subst h4
  exact ⟨p, List.mem_of_find?_eq_some h1⟩
theorem zpmF_some {L : List (Nat × Nat × Nat × Nat × Nat × Nat × Nat × Nat)} {k kd f ci na : Nat} (h : zpmF L k = some (kd, f, ci, na)) : ∃ p1 p2 p3, (k, kd, f, ci, na, p1, p2, p3) ∈ L := by
  obtain ⟨⟨k', kd', f', ci', na', p1, p2, p3⟩, h1, h2⟩ := Option.map_eq_some_iff.mp h
  have h3 := List.find?_some h1
  have h4 : k' = k := by simpa using h3
  cases h2
  subst h4
  exact ⟨p1, p2, p3, List.mem_of_find?_eq_some h1⟩
theorem zpkF_some {L : List (Nat × Nat × Int × Nat)} {k : Nat} {v : zV} (h : zpkF L k = some v) : ∃ p, (k, v.1, v.2, p) ∈ L := by
  obtain ⟨⟨k', t', x', p⟩, h1, h2⟩ := Option.map_eq_some_iff.mp h
  have h3 := List.find?_some h1
  have h4 : k' = k := by simpa using h3
  cases h2
  subst h4
  exact ⟨p, List.mem_of_find?_eq_some h1⟩
theorem zFn_W {f na : Nat} (h : f < zFnL.length) (hn : (zFnP[f]?).map (fun q => q.2.2) = some na) : zMW (zFn f) na ∧ plainName (zFn f).1.cls = true := by
  have hin : zFn f ∈ zFnL := by
    unfold zFn
    rw [List.getD_eq_getElem?_getD, List.getElem?_eq_getElem h]
    exact List.getElem_mem h
  have h2 := zFnL_ok _ hin
  obtain ⟨p, hp, g1, g2, g3, g4, g5⟩ := zFn_Q h
  rw [hp] at hn
  cases hn
  exact ⟨⟨h2, zInW_mem g1, g2, g3, g4⟩, g5⟩
def zEvC (own : String) (f : zMR) (pf : List (Nat × Nat × Nat × Nat)) (pm : List (Nat × Nat × Nat × Nat × Nat × Nat × Nat × Nat)) (pk : List (Nat × Nat × Int × Nat)) : zEv := zEvOf own f (zpfF pf) (zpmF pm) (zpkF pk)
theorem zEvOk_of {own : String} {f : zMR} {pf : List (Nat × Nat × Nat × Nat)} {pm : List (Nat × Nat × Nat × Nat × Nat × Nat × Nat × Nat)} {pk : List (Nat × Nat × Int × Nat)} (hf : zfok own pf = true) (hm : zmok own pm = true) (hk : zkok own pk = true) : zEvOk zCl (zEvC own f pf pm pk) := by
  have hmm := List.all_eq_true.mp hm
  have hkk := List.all_eq_true.mp hk
  refine ⟨fun k ci j h => ?_, fun k g ci na h => ?_, fun k g ci na h => ?_, fun k g ci na h => ?_, fun k g ci na h => ?_, fun k v h => ?_, fun k v h => ?_, fun k g ci na h => ?_, fun k g ci na h => ?_⟩
  · obtain ⟨p, hp⟩ := zpfF_some h
    have h1 := List.all_eq_true.mp hf _ hp
    split at h1
    next C T N he =>
      rw [Bool.and_eq_true, decide_eq_true_eq] at h1
      exact ⟨C, T, N, he, h1.1, zInW_mem h1.2⟩
    next => cases h1
  · obtain ⟨p1, p2, p3, hp⟩ := zpmF_some h
    have h1 := hmm _ hp
    simp only [Bool.and_eq_true, Bool.or_eq_true, decide_eq_true_eq, if_true] at h1
    obtain ⟨h1, h2, h3, h4, h5⟩ := h1
    obtain ⟨h1, h6⟩ := h1.resolve_left (by omega)
    refine ⟨(zFn_W h1 h6).1, ?_, zInW_mem h3, zInW_mem h4, zInW_mem h5⟩
    split at h2
    next C T N he =>
      have := of_decide_eq_true h2
      subst this
      exact ⟨T, N, he⟩
    next => cases h2
  · obtain ⟨p1, p2, p3, hp⟩ := zpmF_some h
    have h1 := hmm _ hp
    simp only [Bool.and_eq_true, Bool.or_eq_true, decide_eq_true_eq, if_true, if_false, Nat.one_ne_zero] at h1
    obtain ⟨h1, h3, h4⟩ := h1
    obtain ⟨h1, h6⟩ := h1.resolve_left (by omega)
    exact ⟨(zFn_W h1 h6).1, zInW_mem h3, zInW_mem h4⟩
  · obtain ⟨p1, p2, p3, hp⟩ := zpmF_some h
    have h1 := hmm _ hp
    simp only [Bool.and_eq_true, Bool.or_eq_true, decide_eq_true_eq, show ¬ (2 = 0) by decide, show ¬ (2 = 1) by decide, if_true, if_false] at h1
    obtain ⟨h1, h3, h4⟩ := h1
    obtain ⟨h1, h6⟩ := h1.resolve_left (by omega)
    exact ⟨(zFn_W h1 h6).1, List.mem_of_getElem? h3, zInW_mem h4⟩
  · obtain ⟨p1, p2, p3, hp⟩ := zpmF_some h
    have h1 := hmm _ hp
    simp only [Bool.and_eq_true, Bool.or_eq_true, decide_eq_true_eq, show ¬ (5 = 0) by decide, show ¬ (5 = 1) by decide, show ¬ (5 = 2) by decide, if_true, if_false] at h1
    exact ⟨zInW_mem h1.2.1, zInW_mem h1.2.2.1, zInW_mem h1.2.2.2.1, zInW_mem h1.2.2.2.2⟩
  · obtain ⟨p, hp⟩ := zpkF_some h
    have h1 := hkk _ hp
    exact zInW_mem h1
  · obtain ⟨p, hp⟩ := zpkF_some h
    have h1 := hkk _ hp
    exact zInW_mem h1
  · obtain ⟨p1, p2, p3, hp⟩ := zpmF_some h
    have h1 := hmm _ hp
    simp only [Bool.and_eq_true, Bool.or_eq_true, decide_eq_true_eq, show ¬ (3 = 0) by decide, show ¬ (3 = 1) by decide, show ¬ (3 = 2) by decide, show ¬ (3 = 5) by decide, if_true, if_false] at h1
    exact ⟨zInW_mem h1.2.1, zInW_mem h1.2.2.1, zInW_mem h1.2.2.2.1, zInW_mem h1.2.2.2.2⟩
  · obtain ⟨p1, p2, p3, hp⟩ := zpmF_some h
    have h1 := hmm _ hp
    simp only [Bool.and_eq_true, Bool.or_eq_true, decide_eq_true_eq, show ¬ (4 = 0) by decide, show ¬ (4 = 1) by decide, show ¬ (4 = 2) by decide, show ¬ (4 = 3) by decide, show ¬ (4 = 5) by decide, if_true, if_false] at h1
    exact ⟨zInW_mem h1.2.1, zInW_mem h1.2.2.1, zInW_mem h1.2.2.2.1, zInW_mem h1.2.2.2.2⟩
theorem zEvOk_ToldNet (f : zMR) : zEvOk zCl (zEvC "ToldNet" f zpf_ToldNet zpm_ToldNet zpk_ToldNet) := zEvOk_of (by decide +kernel) (by decide +kernel) (by decide +kernel)
theorem zEvOk_Days (f : zMR) : zEvOk zCl (zEvC "ToldNet$Days" f zpf_Days zpm_Days zpk_Days) := zEvOk_of (by decide +kernel) (by decide +kernel) (by decide +kernel)
theorem zEvOk_Net (f : zMR) : zEvOk zCl (zEvC "ToldNet$Net" f zpf_Net zpm_Net zpk_Net) := zEvOk_of (by decide +kernel) (by decide +kernel) (by decide +kernel)
theorem zEvOk_Parting (f : zMR) : zEvOk zCl (zEvC "ToldNet$Parting" f zpf_Parting zpm_Parting zpk_Parting) := zEvOk_of (by decide +kernel) (by decide +kernel) (by decide +kernel)
theorem zEvOk_Telling (f : zMR) : zEvOk zCl (zEvC "ToldNet$Telling" f zpf_Telling zpm_Telling zpk_Telling) := zEvOk_of (by decide +kernel) (by decide +kernel) (by decide +kernel)
theorem zEvOk_Tape (f : zMR) : zEvOk zCl (zEvC "ToldNet$Tape" f zpf_Tape zpm_Tape zpk_Tape) := zEvOk_of (by decide +kernel) (by decide +kernel) (by decide +kernel)
theorem zEvOk_Text (f : zMR) : zEvOk zCl (zEvC "ToldNet$Text" f zpf_Text zpm_Text zpk_Text) := zEvOk_of (by decide +kernel) (by decide +kernel) (by decide +kernel)
theorem zEvOk_Rule (f : zMR) : zEvOk zCl (zEvC "ToldNet$Rule" f zpf_Rule zpm_Rule zpk_Rule) := zEvOk_of (by decide +kernel) (by decide +kernel) (by decide +kernel)
theorem zEvOk_Search (f : zMR) : zEvOk zCl (zEvC "ToldNet$Search" f zpf_Search zpm_Search zpk_Search) := zEvOk_of (by decide +kernel) (by decide +kernel) (by decide +kernel)
theorem zEvOk_Sorts (f : zMR) : zEvOk zCl (zEvC "ToldNet$Sorts" f zpf_Sorts zpm_Sorts zpk_Sorts) := zEvOk_of (by decide +kernel) (by decide +kernel) (by decide +kernel)
theorem zEvOk_Reader (f : zMR) : zEvOk zCl (zEvC "ToldNet$Reader" f zpf_Reader zpm_Reader zpk_Reader) := zEvOk_of (by decide +kernel) (by decide +kernel) (by decide +kernel)
theorem zEvOk_Order (f : zMR) : zEvOk zCl (zEvC "ToldNet$Order" f zpf_Order zpm_Order zpk_Order) := zEvOk_of (by decide +kernel) (by decide +kernel) (by decide +kernel)
theorem zEvOk_Model (f : zMR) : zEvOk zCl (zEvC "ToldNetModel" f zpf_Model zpm_Model zpk_Model) := zEvOk_of (by decide +kernel) (by decide +kernel) (by decide +kernel)
theorem zEvOk_Integer (f : zMR) : zEvOk zCl (zEvC "java/lang/Integer" f zpf_Integer zpm_Integer zpk_Integer) := zEvOk_of (by decide +kernel) (by decide +kernel) (by decide +kernel)
theorem zEvOk_Arrays (f : zMR) : zEvOk zCl (zEvC "java/util/Arrays" f zpf_Arrays zpm_Arrays zpk_Arrays) := zEvOk_of (by decide +kernel) (by decide +kernel) (by decide +kernel)
