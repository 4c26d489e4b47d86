/-! ===== one call on the fresh house: what both answer ===== -/
/-- both answer alike from M on -/
def zSame (O : zOm) (fx fm : Nat) (as : List zV) (M : zMem) : Prop := zR O (zFn fx) ((2, ((0 : Nat) : Int)) :: as) M (fun v M1 => zR O (zFn fm) ((2, ((249 : Nat) : Int)) :: as) M1 (fun v' M2 => ∃ r, v = some (0, r) ∧ v' = some (0, r) ∧ True))
def zxSame (S : List zSh) (fuel d fx fm : Nat) (as : List zV) (C : zmC) : Bool := match zxR S fuel d fx ((2, ((0 : Nat) : Int)) :: as) C with
  | some (some (0, r), C1) => match zxR S fuel d fm ((2, ((249 : Nat) : Int)) :: as) C1 with
    | some (some (0, r'), _) => decide (r = r')
    | _ => false
  | _ => false
theorem zx_same {O : zOm} (hO : zWld O) {fuel d fx fm : Nat} {as : List zV} {C : zmC} (hS : zmS C = zS O) (h : zxSame (zS O) fuel d fx fm as C = true) : zSame O fx fm as (zmM C) := by
  unfold zxSame at h
  split at h
  next r C1 e1 =>
    split at h
    next r' C2 e2 =>
      have h3 := of_decide_eq_true h
      subst h3
      obtain ⟨s1, k1⟩ := zxR_ok hO fuel d fx _ C _ C1 hS e1
      obtain ⟨s2, k2⟩ := zxR_ok hO fuel d fm _ C1 _ C2 s1 e2
      exact k1 _ (k2 _ ⟨r, rfl, rfl, trivial⟩)
    next => cases h
  next => cases h
theorem zC0_told : zmM zC0 0 ((4 : Nat) : Int) = 0 := by decide +kernel
theorem zC0_tellings : zmM zC0 249 ((11 : Nat) : Int) = 0 := by decide +kernel

theorem q_copy {O : zOm} (hO : zWld O) (hS : zS O = zmS zC0) (x1 : Int) : zSame O 14 250 [(0, x1)] (zmM zC0) := n_ToldNet_copy hO hS zC0_told (n_Model_copy hO hS zC0_tellings ⟨_, rfl, rfl, trivial⟩)
theorem q_length {O : zOm} (hO : zWld O) (hS : zS O = zmS zC0) (x1 : Int) : zSame O 16 252 [(0, x1)] (zmM zC0) := n_ToldNet_length hO hS zC0_told (n_Model_length hO hS zC0_tellings ⟨_, rfl, rfl, trivial⟩)
theorem q_box {O : zOm} (hO : zWld O) (hS : zS O = zmS zC0) (x1 x2 : Int) : zSame O 17 253 [(0, x1), (0, x2)] (zmM zC0) := n_ToldNet_box hO hS zC0_told (n_Model_box hO hS zC0_tellings ⟨_, rfl, rfl, trivial⟩)
theorem q_row {O : zOm} (hO : zWld O) (hS : zS O = zmS zC0) (x1 x2 x3 : Int) : zSame O 18 255 [(0, x1), (0, x2), (0, x3)] (zmM zC0) := n_ToldNet_row hO hS zC0_told (n_Model_row hO hS zC0_tellings ⟨_, rfl, rfl, trivial⟩)
theorem q_built {O : zOm} (hO : zWld O) (hS : zS O = zmS zC0) (x1 x2 x3 : Int) : zSame O 21 265 [(0, x1), (0, x2), (0, x3)] (zmM zC0) := n_ToldNet_built hO hS zC0_told (n_Model_built hO hS zC0_tellings ⟨_, rfl, rfl, trivial⟩)
theorem q_together {O : zOm} (hO : zWld O) (hS : zS O = zmS zC0) (x1 x2 x3 : Int) : zSame O 23 268 [(0, x1), (0, x2), (0, x3)] (zmM zC0) := n_ToldNet_together hO hS zC0_told (n_Model_together hO hS zC0_tellings ⟨_, rfl, rfl, trivial⟩)
theorem q_apart {O : zOm} (hO : zWld O) (hS : zS O = zmS zC0) (x1 x2 : Int) : zSame O 24 269 [(0, x1), (0, x2)] (zmM zC0) := n_ToldNet_apart hO hS zC0_told (n_Model_apart hO hS zC0_tellings ⟨_, rfl, rfl, trivial⟩)
theorem q_leave {O : zOm} (hO : zWld O) (hS : zS O = zmS zC0) (x1 x2 x3 : Int) : zSame O 27 270 [(0, x1), (0, x2), (0, x3)] (zmM zC0) := n_ToldNet_leave hO hS zC0_told (n_Model_leave hO hS zC0_tellings ⟨_, rfl, rfl, trivial⟩)
theorem q_sort {O : zOm} (hO : zWld O) (hS : zS O = zmS zC0) (x1 x2 x3 x4 x5 : Int) : zSame O 28 271 [(0, x1), (0, x2), (0, x3), (0, x4), (0, x5)] (zmM zC0) := n_ToldNet_sort hO hS zC0_told (n_Model_sort hO hS zC0_tellings ⟨_, rfl, rfl, trivial⟩)
theorem q_ask {O : zOm} (hO : zWld O) (hS : zS O = zmS zC0) (x1 x2 x3 x4 x5 : Int) : zSame O 29 282 [(0, x1), (0, x2), (0, x3), (0, x4), (0, x5)] (zmM zC0) := n_ToldNet_ask hO hS zC0_told (n_Model_ask hO hS zC0_tellings ⟨_, rfl, rfl, trivial⟩)
theorem q_mean {O : zOm} (hO : zWld O) (hS : zS O = zmS zC0) (x1 x2 x3 x4 : Int) : zSame O 30 283 [(0, x1), (0, x2), (0, x3), (0, x4)] (zmM zC0) := n_ToldNet_mean hO hS zC0_told (n_Model_mean hO hS zC0_tellings ⟨_, rfl, rfl, trivial⟩)
theorem q_leads {O : zOm} (hO : zWld O) (hS : zS O = zmS zC0) (x1 x2 x3 x4 : Int) : zSame O 31 285 [(0, x1), (0, x2), (0, x3), (0, x4)] (zmM zC0) := n_ToldNet_leads hO hS zC0_told (n_Model_leads hO hS zC0_tellings ⟨_, rfl, rfl, trivial⟩)
theorem q_led {O : zOm} (hO : zWld O) (hS : zS O = zmS zC0) (x1 x2 x3 x4 x5 : Int) : zSame O 32 286 [(0, x1), (0, x2), (0, x3), (0, x4), (0, x5)] (zmM zC0) := n_ToldNet_led hO hS zC0_told (n_Model_led hO hS zC0_tellings ⟨_, rfl, rfl, trivial⟩)
theorem q_harm {O : zOm} (hO : zWld O) (hS : zS O = zmS zC0) (x1 : Int) : zSame O 34 289 [(0, x1)] (zmM zC0) := n_ToldNet_harm hO hS zC0_told (n_Model_harm hO hS zC0_tellings ⟨_, rfl, rfl, trivial⟩)
theorem q_serve {O : zOm} (hO : zWld O) (hS : zS O = zmS zC0) (x1 x2 : Int) : zSame O 35 293 [(0, x1), (0, x2)] (zmM zC0) := n_ToldNet_serve hO hS zC0_told (n_Model_serve hO hS zC0_tellings ⟨_, rfl, rfl, trivial⟩)
theorem q_mend {O : zOm} (hO : zWld O) (hS : zS O = zmS zC0) (x1 : Int) : zSame O 39 300 [(0, x1)] (zmM zC0) := n_ToldNet_mend hO hS zC0_told (n_Model_mend hO hS zC0_tellings ⟨_, rfl, rfl, trivial⟩)
theorem q_line {O : zOm} (hO : zWld O) (hS : zS O = zmS zC0) (x1 : Int) : zSame O 41 310 [(0, x1)] (zmM zC0) := n_ToldNet_line hO hS zC0_told (n_Model_line hO hS zC0_tellings ⟨_, rfl, rfl, trivial⟩)
theorem q_at {O : zOm} (hO : zWld O) (hS : zS O = zmS zC0) (x1 x2 : Int) : zSame O 42 311 [(0, x1), (0, x2)] (zmM zC0) := n_ToldNet_at hO hS zC0_told (n_Model_at hO hS zC0_tellings ⟨_, rfl, rfl, trivial⟩)
theorem q_sentence {O : zOm} (hO : zWld O) (hS : zS O = zmS zC0) (x1 x2 : Int) : zSame O 43 315 [(0, x1), (0, x2)] (zmM zC0) := n_ToldNet_sentence hO hS zC0_told (n_Model_sentence hO hS zC0_tellings ⟨_, rfl, rfl, trivial⟩)
theorem q_spares {O : zOm} (hO : zWld O) (hS : zS O = zmS zC0) (x1 x2 : Int) : zSame O 44 316 [(0, x1), (0, x2)] (zmM zC0) := n_ToldNet_spares hO hS zC0_told (n_Model_spares hO hS zC0_tellings ⟨_, rfl, rfl, trivial⟩)
theorem q_odds {O : zOm} (hO : zWld O) (hS : zS O = zmS zC0) (x1 x2 x3 : Int) : zSame O 46 325 [(0, x1), (0, x2), (0, x3)] (zmM zC0) := n_ToldNet_odds hO hS zC0_told (n_Model_odds hO hS zC0_tellings ⟨_, rfl, rfl, trivial⟩)
theorem q_tomorrow {O : zOm} (hO : zWld O) (hS : zS O = zmS zC0) : zSame O 7 213 [] (zmM zC0) := zx_same hO (fuel := 2000) (d := 8) hS.symm (by rw [hS]; decide +kernel)
theorem q_read {O : zOm} (hO : zWld O) (hS : zS O = zmS zC0) : zSame O 11 352 [] (zmM zC0) := zx_same hO (fuel := 2000) (d := 8) hS.symm (by rw [hS]; decide +kernel)
theorem q_place {O : zOm} (hO : zWld O) (hS : zS O = zmS zC0) : zSame O 12 353 [] (zmM zC0) := zx_same hO (fuel := 2000) (d := 8) hS.symm (by rw [hS]; decide +kernel)
theorem q_drop {O : zOm} (hO : zWld O) (hS : zS O = zmS zC0) : zSame O 15 251 [] (zmM zC0) := zx_same hO (fuel := 2000) (d := 8) hS.symm (by rw [hS]; decide +kernel)
theorem q_rounds {O : zOm} (hO : zWld O) (hS : zS O = zmS zC0) : zSame O 36 296 [] (zmM zC0) := zx_same hO (fuel := 2000) (d := 8) hS.symm (by rw [hS]; decide +kernel)
