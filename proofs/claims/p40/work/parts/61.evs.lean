/-! ===== the pools by number; a method run to its end on written-out cells ===== -/
abbrev zxEvT : Type := String × List (Nat × Nat × Nat × Nat) × List (Nat × Nat × Nat × Nat × Nat × Nat × Nat × Nat) × List (Nat × Nat × Int × Nat)
def zxe_ToldNet : zxEvT := ("ToldNet", zpf_ToldNet, zpm_ToldNet, zpk_ToldNet)
def zxe_Days : zxEvT := ("ToldNet$Days", zpf_Days, zpm_Days, zpk_Days)
def zxe_Net : zxEvT := ("ToldNet$Net", zpf_Net, zpm_Net, zpk_Net)
def zxe_Parting : zxEvT := ("ToldNet$Parting", zpf_Parting, zpm_Parting, zpk_Parting)
def zxe_Telling : zxEvT := ("ToldNet$Telling", zpf_Telling, zpm_Telling, zpk_Telling)
def zxe_Tape : zxEvT := ("ToldNet$Tape", zpf_Tape, zpm_Tape, zpk_Tape)
def zxe_Text : zxEvT := ("ToldNet$Text", zpf_Text, zpm_Text, zpk_Text)
def zxe_Rule : zxEvT := ("ToldNet$Rule", zpf_Rule, zpm_Rule, zpk_Rule)
def zxe_Search : zxEvT := ("ToldNet$Search", zpf_Search, zpm_Search, zpk_Search)
def zxe_Sorts : zxEvT := ("ToldNet$Sorts", zpf_Sorts, zpm_Sorts, zpk_Sorts)
def zxe_Reader : zxEvT := ("ToldNet$Reader", zpf_Reader, zpm_Reader, zpk_Reader)
def zxe_Order : zxEvT := ("ToldNet$Order", zpf_Order, zpm_Order, zpk_Order)
def zxe_Model : zxEvT := ("ToldNetModel", zpf_Model, zpm_Model, zpk_Model)
def zxe_Integer : zxEvT := ("java/lang/Integer", zpf_Integer, zpm_Integer, zpk_Integer)
def zxe_Arrays : zxEvT := ("java/util/Arrays", zpf_Arrays, zpm_Arrays, zpk_Arrays)
def zxEvs : List zxEvT := [zxe_ToldNet, zxe_Days, zxe_Net, zxe_Parting, zxe_Telling, zxe_Tape, zxe_Text, zxe_Rule, zxe_Search, zxe_Sorts, zxe_Reader, zxe_Order, zxe_Model, zxe_Integer, zxe_Arrays]
def zFc : List Nat := [13, 14, 0, 0, 0, 0, 0, 0, 0, 0, 0, 0, 0, 0, 0, 0, 0, 0, 0, 0, 0, 0, 0, 0, 0, 0, 0, 0, 0, 0, 0, 0, 0, 0, 0, 0, 0, 0, 0, 0, 0, 0, 0, 0, 0, 0, 0, 0, 0, 0, 0, 0, 0, 0, 1, 1, 1, 1, 1, 1, 1, 1, 2, 2, 2, 2, 2, 2, 2, 2, 2, 2, 2, 2, 2, 2, 2, 2, 2, 2, 3, 3, 3, 3, 3, 3, 3, 3, 3, 3, 3, 3, 3, 3, 3, 3, 3, 3, 4, 4, 4, 4, 4, 4, 4, 4, 4, 4, 4, 4, 4, 4, 4, 4, 4, 4, 4, 5, 5, 5, 5, 5, 5, 5, 5, 5, 5, 5, 5, 5, 5, 5, 6, 6, 6, 6, 6, 6, 6, 6, 6, 6, 6, 6, 6, 6, 6, 6, 6, 6, 6, 7, 7, 7, 7, 7, 7, 7, 7, 7, 7, 8, 8, 8, 8, 8, 8, 8, 8, 9, 9, 9, 9, 9, 9, 9, 9, 9, 9, 9, 9, 9, 9, 9, 9, 9, 9, 9, 10, 10, 10, 10, 10, 10, 10, 11, 11, 11, 11, 11, 11, 11, 11, 12, 12, 12, 12, 12, 12, 12, 12, 12, 12, 12, 12, 12, 12, 12, 12, 12, 12, 12, 12, 12, 12, 12, 12, 12, 12, 12, 12, 12, 12, 12, 12, 12, 12, 12, 12, 12, 12, 12, 12, 12, 12, 12, 12, 12, 12, 12, 12, 12, 12, 12, 12, 12, 12, 12, 12, 12, 12, 12, 12, 12, 12, 12, 12, 12, 12, 12, 12, 12, 12, 12, 12, 12, 12, 12, 12, 12, 12, 12, 12, 12, 12, 12, 12, 12, 12, 12, 12, 12, 12, 12, 12, 12, 12, 12, 12, 12, 12, 12, 12, 12, 12, 12, 12, 12, 12, 12, 12, 12, 12, 12, 12, 12, 12, 12, 12, 12, 12, 12, 12, 12, 12, 12, 12, 12, 12, 12, 12, 12, 12, 12, 12, 12, 12, 12, 12, 12, 12, 12, 12, 12, 12, 12, 12, 12, 12, 12, 12, 12, 12, 12, 12]
def zxEvOf (e : zxEvT) (f : zMR) : zEv := zEvC e.1 f e.2.1 e.2.2.1 e.2.2.2
theorem zxEvs_ok : ∀ e ∈ zxEvs, ∀ f, zEvOk zCl (zxEvOf e f) := List.forall_mem_cons.mpr ⟨zEvOk_ToldNet, List.forall_mem_cons.mpr ⟨zEvOk_Days, List.forall_mem_cons.mpr ⟨zEvOk_Net, List.forall_mem_cons.mpr ⟨zEvOk_Parting, List.forall_mem_cons.mpr ⟨zEvOk_Telling, List.forall_mem_cons.mpr ⟨zEvOk_Tape, List.forall_mem_cons.mpr ⟨zEvOk_Text, List.forall_mem_cons.mpr ⟨zEvOk_Rule, List.forall_mem_cons.mpr ⟨zEvOk_Search, List.forall_mem_cons.mpr ⟨zEvOk_Sorts, List.forall_mem_cons.mpr ⟨zEvOk_Reader, List.forall_mem_cons.mpr ⟨zEvOk_Order, List.forall_mem_cons.mpr ⟨zEvOk_Model, List.forall_mem_cons.mpr ⟨zEvOk_Integer, List.forall_mem_cons.mpr ⟨zEvOk_Arrays, fun e h => by cases h⟩⟩⟩⟩⟩⟩⟩⟩⟩⟩⟩⟩⟩⟩⟩
set_option maxRecDepth 100000 in
theorem zFc_q : zFc = zFnQ.map (fun q => q.2.2.1) := rfl
theorem zxEvs_q : zxEvs.map (fun e => e.1) = zFnC.map (fun c => c.1) := rfl
set_option maxRecDepth 100000 in
theorem zFnL_n : zFnL.length = 355 := rfl
def zxEv (f : Nat) : zEv := match zxEvs[zFc.getD f 0]? with
  | some e => zxEvOf e (zFn f)
  | none => zEvC "" (zFn f) [] [] []
theorem zxEv_ok {f : Nat} (h : f < 355) : ∃ own pf pm pk, zxEv f = zEvC own (zFn f) pf pm pk ∧ zEvOk zCl (zEvC own (zFn f) pf pm pk) ∧ (zFn f).1.cls = own ∧ plainName (zFn f).1.cls = true := by
  have hl : f < zFnL.length := by rw [zFnL_n]; exact h
  obtain ⟨q, e, e1, e2⟩ := zFn_q hl
  obtain ⟨a, b, ha, hb, h1, -⟩ := zFnQ_ok q (List.mem_of_getElem? e)
  obtain ⟨-, -, -, -, -, -, g5⟩ := zFn_Q hl
  have hc : zFc.getD f 0 = q.2.2.1 := by
    rw [zFc_q, List.getD_eq_getElem?_getD, List.getElem?_map, e]
    rfl
  have hm : (zxEvs.map (fun e => e.1))[q.2.2.1]? = some a.1 := by rw [zxEvs_q, List.getElem?_map, ha]; rfl
  rw [List.getElem?_map] at hm
  obtain ⟨v, hv, hv1⟩ := Option.map_eq_some_iff.mp hm
  unfold zxEv
  rw [hc, hv]
  exact ⟨v.1, v.2.1, v.2.2.1, v.2.2.2, rfl, zxEvs_ok v (List.mem_of_getElem? hv) _, by rw [e1, hv1, h1], g5⟩
def zxR (S : List zSh) (fuel : Nat) : Nat → zxRec
  | 0, _, _, _ => none
  | d + 1, f, as, C => if f < 355 ∧ zcats as ≤ (zFn f).2.2.1 then zxL (zxEv f) S (zxR S fuel d) fuel (0, [], zArgs 0 as, C) else none
theorem zxR_ok {O : zOm} (hO : zWld O) (fuel : Nat) : ∀ (d f : Nat) (as : List zV) (C : zmC) (v : Option zV) (C' : zmC), zmS C = zS O → zxR (zS O) fuel d f as C = some (v, C') → zmS C' = zS O ∧ ∀ K : Option zV → zMem → Prop, K v (zmM C') → zR O (zFn f) as (zmM C) K := by
  intro d
  induction d with
  | zero => intro f as C v C' hS h; cases h
  | succ d ih =>
    intro f as C v C' hS h
    simp only [zxR] at h
    split at h
    next q =>
      obtain ⟨own, pf, pm, pk, e1, e2, e3, e4⟩ := zxEv_ok q.1
      rw [e1] at h
      have hrec : zxRecOk (zEvC own (zFn f) pf pm pk) (zS O) (zR O) (zxR (zS O) fuel d) := fun g as' C1 v1 C2 h1 h2 => ih g as' C1 v1 C2 h1 h2
      have h0 : zmS C' = zS O := by
        have := zxL_ok (Rn := zR O) (rt := fun _ _ => True) (G := fun _ _ _ _ => True) hrec ⟨fun _ _ _ _ _ _ _ _ => trivial, rfl, fun f as M K K' hk h => zR.mono h hk⟩ fuel _ hS h
        exact this.1
      refine ⟨h0, fun K hK => ?_⟩
      refine zR.of hO.ok (pf := zpfF pf) (pm := zpmF pm) (pk := zpkF pk) (by rw [hO.1]; exact e2) e3 e4 q.2 (fun G hG => ?_)
      exact (zxL_ok hrec hG fuel (0, [], zArgs 0 as, C) hS h).2 hK
    next => cases h
/-- a whole call on written-out cells -/
theorem zR.run1 {O : zOm} (hO : zWld O) {fuel d f : Nat} {as : List zV} {C C' : zmC} {v : Option zV} {K : Option zV → zMem → Prop} (hS : zmS C = zS O) (h : zxR (zS O) fuel d f as C = some (v, C')) (hk : K v (zmM C')) : zR O (zFn f) as (zmM C) K := (zxR_ok hO fuel d f as C v C' hS h).2 K hk
