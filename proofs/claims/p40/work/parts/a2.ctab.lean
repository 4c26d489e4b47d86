/-! ===== the class's fixed cells: arrays; nets, partings, tellings ===== -/
def zCdA : List (FieldType × Nat) := [(.char, 0), (.char, 0), (.int, 16), (.object "ToldNet$Net", 41), (.char, 0), (.int, 16), (.char, 0), (.int, 16), (.char, 0), (.int, 16), (.char, 0), (.int, 16), (.char, 0), (.int, 16), (.char, 0), (.int, 16), (.char, 0), (.int, 16), (.char, 0), (.int, 16), (.char, 0), (.int, 16), (.char, 0), (.int, 16), (.char, 0), (.int, 16), (.char, 0), (.int, 16), (.char, 0), (.int, 16), (.char, 0), (.int, 16), (.char, 0), (.int, 16), (.char, 0), (.int, 16), (.char, 0), (.int, 16), (.char, 0), (.int, 16), (.char, 0), (.int, 16), (.char, 0), (.int, 16), (.char, 0), (.int, 16), (.char, 0), (.int, 16), (.char, 0), (.int, 16), (.char, 0), (.int, 16), (.char, 0), (.int, 16), (.char, 0), (.int, 16), (.char, 0), (.int, 16), (.char, 0), (.int, 16), (.char, 0), (.int, 16), (.char, 0), (.int, 16), (.char, 0), (.int, 16), (.char, 0), (.int, 16), (.char, 0), (.int, 16), (.char, 0), (.int, 16), (.char, 0), (.int, 16), (.char, 0), (.int, 16), (.char, 0), (.int, 16), (.char, 0), (.int, 16), (.char, 0), (.int, 16), (.char, 0), (.int, 16), (.char, 0), (.int, 16), (.char, 0), (.byte, 2000), (.int, 400), (.int, 400), (.long, 400), (.long, 10), (.char, 0), (.long, 100), (.int, 100), (.int, 100), (.int, 100), (.int, 400), (.int, 40), (.int, 40), (.int, 40), (.char, 0), (.int, 16), (.char, 0), (.int, 16), (.object "ToldNet$Telling", 5), (.char, 0), (.int, 256), (.char, 0), (.char, 0), (.int, 256), (.char, 0), (.char, 0), (.int, 16), (.int, 16), (.int, 17), (.int, 16), (.int, 120), (.char, 0), (.int, 16), (.char, 0), (.int, 16), (.char, 0), (.int, 16), (.char, 0), (.int, 16), (.int, 16), (.int, 17), (.char, 0), (.int, 16), (.int, 16), (.int, 17), (.int, 6), (.int, 6), (.char, 0), (.int, 512), (.int, 512), (.int, 256), (.int, 512), (.int, 120), (.int, 120), (.char, 0), (.int, 16), (.char, 0), (.int, 16), (.char, 0), (.int, 16), (.int, 120), (.char, 0), (.int, 10), (.int, 10), (.int, 10), (.int, 10), (.int, 120), (.char, 0), (.int, 16), (.char, 0), (.int, 256), (.char, 0), (.int, 16), (.char, 0), (.int, 16), (.char, 0), (.int, 16), (.int, 1920), (.boolean, 120), (.char, 0), (.char, 0), (.int, 16), (.int, 16), (.int, 17), (.int, 16), (.int, 120), (.char, 0), (.int, 16), (.char, 0), (.int, 16), (.char, 0), (.int, 16), (.char, 0), (.int, 16), (.int, 16), (.int, 17), (.char, 0), (.int, 16), (.char, 0), (.char, 0), (.int, 16), (.int, 16), (.int, 17), (.int, 16), (.int, 120), (.char, 0), (.int, 16), (.char, 0), (.int, 16), (.char, 0), (.int, 16), (.char, 0), (.char, 0), (.int, 16), (.int, 16), (.int, 17), (.int, 16), (.int, 120), (.char, 0), (.int, 16), (.char, 0), (.int, 16), (.char, 0), (.int, 16), (.char, 0), (.char, 0), (.int, 16), (.int, 16), (.int, 17), (.int, 16), (.int, 120), (.char, 0), (.int, 16), (.char, 0), (.int, 16), (.char, 0), (.int, 16), (.char, 0), (.char, 0), (.int, 16), (.int, 16), (.int, 17), (.int, 16), (.int, 120), (.char, 0), (.int, 16), (.char, 0), (.int, 16), (.char, 0), (.int, 16), (.char, 0), (.char, 0), (.int, 16), (.int, 16), (.int, 17), (.int, 16), (.int, 120), (.char, 0), (.int, 16), (.char, 0), (.int, 16), (.char, 0), (.int, 16)]
def zCdAok : Bool := (List.range zCdA.length).all fun i => match zCdA[i]?, (zmS zC0)[i]? with
  | some q, some (.inl w) => decide (w.1 = q.1) && decide (w.2.1 = q.2)
  | some q, some (.inr _) => decide (q.1 = .char)
  | _, _ => false
theorem zCdAok_ok : zCdAok = true := by decide +kernel
theorem zCA {S : List zSh} (hS : S = zmS zC0) {a n : Nat} {ty : FieldType} (h : zCdA[a]? = some (ty, n)) (hty : ty ≠ .char := by decide) : zArr S ((a : Nat) : Int) ty n := by
  subst hS
  have h1 := List.all_eq_true.mp zCdAok_ok a (List.mem_range.mpr (List.getElem?_eq_some_iff.mp h).1)
  rw [h] at h1
  split at h1
  next q w e1 e2 =>
    cases e1
    simp only [Bool.and_eq_true, decide_eq_true_eq] at h1
    obtain ⟨w1, w2, w3⟩ := w
    obtain ⟨rfl, rfl⟩ := h1
    exact ⟨Int.natCast_nonneg _, w3, e2⟩
  next q w e1 e2 =>
    cases e1
    exact absurd (of_decide_eq_true h1) hty
  next => cases h1
theorem zNets_ok : (zmS zC0)[3]? = some (.inl (.object "ToldNet$Net", 41, (List.range 41).map fun d => some (4 + 2 * d))) := by decide +kernel
theorem zTels_ok : (zmS zC0)[105]? = some (.inl (.object "ToldNet$Telling", 5, (List.range 5).map fun d => some (185 + 13 * d))) := by decide +kernel
theorem zPr_net {S : List zSh} (hS : S = zmS zC0) {d : Nat} (hd : d < 41) {M : zMem} : zPr S M ((3 : Nat) : Int) ((d : Nat) : Int) ((4 + 2 * d : Nat) : Int) := by
  subst hS
  refine ⟨"ToldNet$Net", 41, _, 4 + 2 * d, ⟨by decide, zNets_ok⟩, Int.natCast_nonneg _, by omega, ?_, rfl⟩
  rw [show (((d : Nat) : Int)).toNat = d from rfl, List.getD_eq_getElem?_getD, List.getElem?_map, List.getElem?_range hd]
  rfl
theorem zPr_tel {S : List zSh} (hS : S = zmS zC0) {d : Nat} (hd : d < 5) {M : zMem} : zPr S M ((105 : Nat) : Int) ((d : Nat) : Int) ((185 + 13 * d : Nat) : Int) := by
  subst hS
  refine ⟨"ToldNet$Telling", 5, _, 185 + 13 * d, ⟨by decide, zTels_ok⟩, Int.natCast_nonneg _, by omega, ?_, rfl⟩
  rw [show (((d : Nat) : Int)).toNat = d from rfl, List.getD_eq_getElem?_getD, List.getElem?_map, List.getElem?_range hd]
  rfl
/-- a field by its cell -/
def zFb (n ci k : Nat) (v : Option (Option Nat)) : Bool := decide (zObG n ci k = some v)
def zAb (a : Nat) (ty : FieldType) (n : Nat) : Bool := decide (zCdA[a]? = some (ty, n))
theorem zFb.to {S : List zSh} (hS : S = zmS zC0) {n ci k : Nat} {v : Option (Option Nat)} (h : zFb n ci k v = true) : zFld S ((n : Nat) : Int) ci k = some v := zOF hS (of_decide_eq_true h)
theorem zFb.ob {S : List zSh} (hS : S = zmS zC0) {n ci : Nat} {v : Option (Option Nat)} (h : zFb n ci 0 v = true) : zObj S ((n : Nat) : Int) ci := zOO hS (of_decide_eq_true h)
theorem zAb.to {S : List zSh} (hS : S = zmS zC0) {a n : Nat} {ty : FieldType} (hty : ty ≠ .char) (h : zAb a ty n = true) : zArr S ((a : Nat) : Int) ty n := zCA hS (of_decide_eq_true h) hty
def zNetB (n : Nat) : Bool := zFb n 2 0 (some (some (n + 1))) && (zFb n 2 1 none && zAb (n + 1) .int 16)
theorem zNetB.to {S : List zSh} (hS : S = zmS zC0) {n : Nat} (h : zNetB n = true) : zNet S n := by
  simp only [zNetB, Bool.and_eq_true] at h
  exact ⟨zFb.to hS h.1, zFb.to hS h.2.1, zAb.to hS (by decide) h.2.2, zFb.ob hS h.1⟩
/-- a parting's cells -/
def zPar (S : List zSh) (p : Nat) : Prop := zObj S ((p : Nat) : Int) 3 ∧ zFld S ((p : Nat) : Int) 3 0 = some (some (some (p + 1))) ∧ zFld S ((p : Nat) : Int) 3 1 = some (some (some (p + 2))) ∧ zFld S ((p : Nat) : Int) 3 2 = some (some (some (p + 3))) ∧ zFld S ((p : Nat) : Int) 3 3 = some none ∧ zFld S ((p : Nat) : Int) 3 4 = some none ∧ zArr S ((p + 1 : Nat) : Int) .int 16 ∧ zArr S ((p + 2 : Nat) : Int) .int 16 ∧ zArr S ((p + 3 : Nat) : Int) .int 17
def zParB (p : Nat) : Bool := zFb p 3 0 (some (some (p + 1))) && (zFb p 3 1 (some (some (p + 2))) && (zFb p 3 2 (some (some (p + 3))) && (zFb p 3 3 none && (zFb p 3 4 none && (zAb (p + 1) .int 16 && (zAb (p + 2) .int 16 && zAb (p + 3) .int 17))))))
theorem zParB.to {S : List zSh} (hS : S = zmS zC0) {p : Nat} (h : zParB p = true) : zPar S p := by
  simp only [zParB, Bool.and_eq_true] at h
  obtain ⟨h1, h2, h3, h4, h5, h6, h7, h8⟩ := h
  exact ⟨zFb.ob hS h1, zFb.to hS h1, zFb.to hS h2, zFb.to hS h3, zFb.to hS h4, zFb.to hS h5, zAb.to hS (by decide) h6, zAb.to hS (by decide) h7, zAb.to hS (by decide) h8⟩
/-- a telling's cells -/
def zTeC (S : List zSh) (x : Nat) : Prop := (zObj S ((x : Nat) : Int) 4 ∧ zFld S ((x : Nat) : Int) 4 0 = some (some (some (x + 1))) ∧ zFld S ((x : Nat) : Int) 4 1 = some (some (some (x + 5))) ∧ zFld S ((x : Nat) : Int) 4 2 = some (some (some (x + 6))) ∧ zFld S ((x : Nat) : Int) 4 3 = some (some (some (x + 7))) ∧ zFld S ((x : Nat) : Int) 4 4 = some (some (some (x + 9))) ∧ zFld S ((x : Nat) : Int) 4 5 = some (some (some (x + 11))) ∧ zFld S ((x : Nat) : Int) 4 6 = some none) ∧ (zArr S ((x + 5 : Nat) : Int) .int 16 ∧ zArr S ((x + 6 : Nat) : Int) .int 120) ∧ zPar S (x + 1) ∧ zNet S (x + 7) ∧ zNet S (x + 9) ∧ zNet S (x + 11)
def zTeB (x : Nat) : Bool := (zFb x 4 0 (some (some (x + 1))) && (zFb x 4 1 (some (some (x + 5))) && (zFb x 4 2 (some (some (x + 6))) && (zFb x 4 3 (some (some (x + 7))) && (zFb x 4 4 (some (some (x + 9))) && (zFb x 4 5 (some (some (x + 11))) && zFb x 4 6 none)))))) && ((zAb (x + 5) .int 16 && zAb (x + 6) .int 120) && (zParB (x + 1) && (zNetB (x + 7) && (zNetB (x + 9) && zNetB (x + 11)))))
theorem zTeB.to {S : List zSh} (hS : S = zmS zC0) {x : Nat} (h : zTeB x = true) : zTeC S x := by
  simp only [zTeB, Bool.and_eq_true] at h
  obtain ⟨⟨h1, h2, h3, h4, h5, h6, h7⟩, ⟨h8, h9⟩, h10, h11, h12, h13⟩ := h
  exact ⟨⟨zFb.ob hS h1, zFb.to hS h1, zFb.to hS h2, zFb.to hS h3, zFb.to hS h4, zFb.to hS h5, zFb.to hS h6, zFb.to hS h7⟩, ⟨zAb.to hS (by decide) h8, zAb.to hS (by decide) h9⟩, zParB.to hS h10, zNetB.to hS h11, zNetB.to hS h12, zNetB.to hS h13⟩
theorem zDayB_ok : ((List.range 41).all fun d => zNetB (4 + 2 * d)) = true := by decide +kernel
theorem zTelB_ok : ((List.range 5).all fun d => zTeB (185 + 13 * d)) = true := by decide +kernel
theorem zTe_111 : zTeB 111 = true := by decide +kernel
theorem zTe_166 : zTeB 166 = true := by decide +kernel
theorem zPa_124 : zParB 124 = true := by decide +kernel
theorem zPa_128 : zParB 128 = true := by decide +kernel
theorem zPa_179 : zParB 179 = true := by decide +kernel
theorem zNt_183 : zNetB 183 = true := by decide +kernel
theorem zNt_101 : zNetB 101 = true := by decide +kernel
theorem zNt_103 : zNetB 103 = true := by decide +kernel
theorem zNt_141 : zNetB 141 = true := by decide +kernel
theorem zNt_143 : zNetB 143 = true := by decide +kernel
theorem zNt_145 : zNetB 145 = true := by decide +kernel
theorem zNt_154 : zNetB 154 = true := by decide +kernel
theorem zNt_158 : zNetB 158 = true := by decide +kernel
theorem zNt_160 : zNetB 160 = true := by decide +kernel
theorem zNt_162 : zNetB 162 = true := by decide +kernel
theorem zNetD {S : List zSh} (hS : S = zmS zC0) {d : Nat} (hd : d < 41) : zNet S (4 + 2 * d) := zNetB.to hS (List.all_eq_true.mp zDayB_ok d (List.mem_range.mpr hd))
theorem zTelT {S : List zSh} (hS : S = zmS zC0) {t : Nat} (ht : t < 5) : zTeC S (185 + 13 * t) := zTeB.to hS (List.all_eq_true.mp zTelB_ok t (List.mem_range.mpr ht))
theorem i_ra {S : List zSh} {M : zMem} {a j v : Int} {Q : Int → Prop} (h : zPr S M a j v) (k : Q v) : ∃ v, zPr S M a j v ∧ Q v := ⟨v, h, k⟩
theorem zf_0_0 {S : List zSh} (hS : S = zmS zC0) : zFld S ((0 : Nat) : Int) 0 0 = some (some (some 1)) := zOF hS (by decide +kernel)
theorem zf_0_1 {S : List zSh} (hS : S = zmS zC0) : zFld S ((0 : Nat) : Int) 0 1 = some (some (some 86)) := zOF hS (by decide +kernel)
theorem zf_0_2 {S : List zSh} (hS : S = zmS zC0) : zFld S ((0 : Nat) : Int) 0 2 = some (some (some 92)) := zOF hS (by decide +kernel)
theorem zf_0_3 {S : List zSh} (hS : S = zmS zC0) : zFld S ((0 : Nat) : Int) 0 3 = some (some (some 105)) := zOF hS (by decide +kernel)
theorem zf_0_4 {S : List zSh} (hS : S = zmS zC0) : zFld S ((0 : Nat) : Int) 0 4 = some (none) := zOF hS (by decide +kernel)
theorem zf_0_5 {S : List zSh} (hS : S = zmS zC0) : zFld S ((0 : Nat) : Int) 0 5 = some (none) := zOF hS (by decide +kernel)
theorem zf_0_6 {S : List zSh} (hS : S = zmS zC0) : zFld S ((0 : Nat) : Int) 0 6 = some (some (some 106)) := zOF hS (by decide +kernel)
theorem zf_0_7 {S : List zSh} (hS : S = zmS zC0) : zFld S ((0 : Nat) : Int) 0 7 = some (some (some 108)) := zOF hS (by decide +kernel)
theorem zf_0_8 {S : List zSh} (hS : S = zmS zC0) : zFld S ((0 : Nat) : Int) 0 8 = some (some (some 134)) := zOF hS (by decide +kernel)
theorem zf_0_9 {S : List zSh} (hS : S = zmS zC0) : zFld S ((0 : Nat) : Int) 0 9 = some (some (some 148)) := zOF hS (by decide +kernel)
theorem zf_0_10 {S : List zSh} (hS : S = zmS zC0) : zFld S ((0 : Nat) : Int) 0 10 = some (some (some 156)) := zOF hS (by decide +kernel)
theorem zf_0_11 {S : List zSh} (hS : S = zmS zC0) : zFld S ((0 : Nat) : Int) 0 11 = some (some (some 166)) := zOF hS (by decide +kernel)
theorem zf_0_12 {S : List zSh} (hS : S = zmS zC0) : zFld S ((0 : Nat) : Int) 0 12 = some (some (some 179)) := zOF hS (by decide +kernel)
theorem zf_0_13 {S : List zSh} (hS : S = zmS zC0) : zFld S ((0 : Nat) : Int) 0 13 = some (some (some 183)) := zOF hS (by decide +kernel)
theorem zo_0 {S : List zSh} (hS : S = zmS zC0) : zObj S ((0 : Nat) : Int) 0 := zOO hS (v := some (some 1)) (by decide +kernel)
theorem zf_1_0 {S : List zSh} (hS : S = zmS zC0) : zFld S ((1 : Nat) : Int) 1 0 = some (some (some 2)) := zOF hS (by decide +kernel)
theorem zf_1_1 {S : List zSh} (hS : S = zmS zC0) : zFld S ((1 : Nat) : Int) 1 1 = some (some (some 3)) := zOF hS (by decide +kernel)
theorem zf_1_2 {S : List zSh} (hS : S = zmS zC0) : zFld S ((1 : Nat) : Int) 1 2 = some (none) := zOF hS (by decide +kernel)
theorem zf_1_3 {S : List zSh} (hS : S = zmS zC0) : zFld S ((1 : Nat) : Int) 1 3 = some (none) := zOF hS (by decide +kernel)
theorem zf_1_4 {S : List zSh} (hS : S = zmS zC0) : zFld S ((1 : Nat) : Int) 1 4 = some (none) := zOF hS (by decide +kernel)
theorem zo_1 {S : List zSh} (hS : S = zmS zC0) : zObj S ((1 : Nat) : Int) 1 := zOO hS (v := some (some 2)) (by decide +kernel)
theorem zf_86_0 {S : List zSh} (hS : S = zmS zC0) : zFld S ((86 : Nat) : Int) 5 0 = some (some (some 87)) := zOF hS (by decide +kernel)
theorem zf_86_1 {S : List zSh} (hS : S = zmS zC0) : zFld S ((86 : Nat) : Int) 5 1 = some (some (some 88)) := zOF hS (by decide +kernel)
theorem zf_86_2 {S : List zSh} (hS : S = zmS zC0) : zFld S ((86 : Nat) : Int) 5 2 = some (some (some 89)) := zOF hS (by decide +kernel)
theorem zf_86_3 {S : List zSh} (hS : S = zmS zC0) : zFld S ((86 : Nat) : Int) 5 3 = some (some (some 90)) := zOF hS (by decide +kernel)
theorem zf_86_4 {S : List zSh} (hS : S = zmS zC0) : zFld S ((86 : Nat) : Int) 5 4 = some (some (some 91)) := zOF hS (by decide +kernel)
theorem zf_86_5 {S : List zSh} (hS : S = zmS zC0) : zFld S ((86 : Nat) : Int) 5 5 = some (none) := zOF hS (by decide +kernel)
theorem zf_86_6 {S : List zSh} (hS : S = zmS zC0) : zFld S ((86 : Nat) : Int) 5 6 = some (none) := zOF hS (by decide +kernel)
theorem zf_86_7 {S : List zSh} (hS : S = zmS zC0) : zFld S ((86 : Nat) : Int) 5 7 = some (none) := zOF hS (by decide +kernel)
theorem zf_86_8 {S : List zSh} (hS : S = zmS zC0) : zFld S ((86 : Nat) : Int) 5 8 = some (none) := zOF hS (by decide +kernel)
theorem zo_86 {S : List zSh} (hS : S = zmS zC0) : zObj S ((86 : Nat) : Int) 5 := zOO hS (v := some (some 87)) (by decide +kernel)
theorem zf_92_0 {S : List zSh} (hS : S = zmS zC0) : zFld S ((92 : Nat) : Int) 6 0 = some (some (some 93)) := zOF hS (by decide +kernel)
theorem zf_92_1 {S : List zSh} (hS : S = zmS zC0) : zFld S ((92 : Nat) : Int) 6 1 = some (some (some 94)) := zOF hS (by decide +kernel)
theorem zf_92_2 {S : List zSh} (hS : S = zmS zC0) : zFld S ((92 : Nat) : Int) 6 2 = some (some (some 95)) := zOF hS (by decide +kernel)
theorem zf_92_3 {S : List zSh} (hS : S = zmS zC0) : zFld S ((92 : Nat) : Int) 6 3 = some (some (some 97)) := zOF hS (by decide +kernel)
theorem zf_92_4 {S : List zSh} (hS : S = zmS zC0) : zFld S ((92 : Nat) : Int) 6 4 = some (some (some 98)) := zOF hS (by decide +kernel)
theorem zf_92_5 {S : List zSh} (hS : S = zmS zC0) : zFld S ((92 : Nat) : Int) 6 5 = some (some (some 99)) := zOF hS (by decide +kernel)
theorem zf_92_6 {S : List zSh} (hS : S = zmS zC0) : zFld S ((92 : Nat) : Int) 6 6 = some (some (some 100)) := zOF hS (by decide +kernel)
theorem zf_92_7 {S : List zSh} (hS : S = zmS zC0) : zFld S ((92 : Nat) : Int) 6 7 = some (some (some 101)) := zOF hS (by decide +kernel)
theorem zf_92_8 {S : List zSh} (hS : S = zmS zC0) : zFld S ((92 : Nat) : Int) 6 8 = some (some (some 103)) := zOF hS (by decide +kernel)
theorem zf_92_9 {S : List zSh} (hS : S = zmS zC0) : zFld S ((92 : Nat) : Int) 6 9 = some (none) := zOF hS (by decide +kernel)
theorem zf_92_10 {S : List zSh} (hS : S = zmS zC0) : zFld S ((92 : Nat) : Int) 6 10 = some (none) := zOF hS (by decide +kernel)
theorem zf_92_11 {S : List zSh} (hS : S = zmS zC0) : zFld S ((92 : Nat) : Int) 6 11 = some (none) := zOF hS (by decide +kernel)
theorem zf_92_12 {S : List zSh} (hS : S = zmS zC0) : zFld S ((92 : Nat) : Int) 6 12 = some (none) := zOF hS (by decide +kernel)
theorem zf_92_13 {S : List zSh} (hS : S = zmS zC0) : zFld S ((92 : Nat) : Int) 6 13 = some (none) := zOF hS (by decide +kernel)
theorem zf_92_14 {S : List zSh} (hS : S = zmS zC0) : zFld S ((92 : Nat) : Int) 6 14 = some (none) := zOF hS (by decide +kernel)
theorem zf_92_15 {S : List zSh} (hS : S = zmS zC0) : zFld S ((92 : Nat) : Int) 6 15 = some (none) := zOF hS (by decide +kernel)
theorem zf_92_16 {S : List zSh} (hS : S = zmS zC0) : zFld S ((92 : Nat) : Int) 6 16 = some (some (some 96)) := zOF hS (by decide +kernel)
theorem zo_92 {S : List zSh} (hS : S = zmS zC0) : zObj S ((92 : Nat) : Int) 6 := zOO hS (v := some (some 93)) (by decide +kernel)
theorem zf_106_0 {S : List zSh} (hS : S = zmS zC0) : zFld S ((106 : Nat) : Int) 7 0 = some (some (some 107)) := zOF hS (by decide +kernel)
theorem zf_106_1 {S : List zSh} (hS : S = zmS zC0) : zFld S ((106 : Nat) : Int) 7 1 = some (none) := zOF hS (by decide +kernel)
theorem zf_106_2 {S : List zSh} (hS : S = zmS zC0) : zFld S ((106 : Nat) : Int) 7 2 = some (none) := zOF hS (by decide +kernel)
theorem zf_106_3 {S : List zSh} (hS : S = zmS zC0) : zFld S ((106 : Nat) : Int) 7 3 = some (none) := zOF hS (by decide +kernel)
theorem zo_106 {S : List zSh} (hS : S = zmS zC0) : zObj S ((106 : Nat) : Int) 7 := zOO hS (v := some (some 107)) (by decide +kernel)
theorem zf_108_0 {S : List zSh} (hS : S = zmS zC0) : zFld S ((108 : Nat) : Int) 8 0 = some (some (some 109)) := zOF hS (by decide +kernel)
theorem zf_108_1 {S : List zSh} (hS : S = zmS zC0) : zFld S ((108 : Nat) : Int) 8 1 = some (some (some 111)) := zOF hS (by decide +kernel)
theorem zf_108_2 {S : List zSh} (hS : S = zmS zC0) : zFld S ((108 : Nat) : Int) 8 2 = some (some (some 124)) := zOF hS (by decide +kernel)
theorem zf_108_3 {S : List zSh} (hS : S = zmS zC0) : zFld S ((108 : Nat) : Int) 8 3 = some (some (some 128)) := zOF hS (by decide +kernel)
theorem zf_108_4 {S : List zSh} (hS : S = zmS zC0) : zFld S ((108 : Nat) : Int) 8 4 = some (some (some 132)) := zOF hS (by decide +kernel)
theorem zf_108_5 {S : List zSh} (hS : S = zmS zC0) : zFld S ((108 : Nat) : Int) 8 5 = some (some (some 133)) := zOF hS (by decide +kernel)
theorem zf_108_6 {S : List zSh} (hS : S = zmS zC0) : zFld S ((108 : Nat) : Int) 8 6 = some (none) := zOF hS (by decide +kernel)
theorem zo_108 {S : List zSh} (hS : S = zmS zC0) : zObj S ((108 : Nat) : Int) 8 := zOO hS (v := some (some 109)) (by decide +kernel)
theorem zf_109_0 {S : List zSh} (hS : S = zmS zC0) : zFld S ((109 : Nat) : Int) 7 0 = some (some (some 110)) := zOF hS (by decide +kernel)
theorem zf_109_1 {S : List zSh} (hS : S = zmS zC0) : zFld S ((109 : Nat) : Int) 7 1 = some (none) := zOF hS (by decide +kernel)
theorem zf_109_2 {S : List zSh} (hS : S = zmS zC0) : zFld S ((109 : Nat) : Int) 7 2 = some (none) := zOF hS (by decide +kernel)
theorem zf_109_3 {S : List zSh} (hS : S = zmS zC0) : zFld S ((109 : Nat) : Int) 7 3 = some (none) := zOF hS (by decide +kernel)
theorem zo_109 {S : List zSh} (hS : S = zmS zC0) : zObj S ((109 : Nat) : Int) 7 := zOO hS (v := some (some 110)) (by decide +kernel)
theorem zf_134_0 {S : List zSh} (hS : S = zmS zC0) : zFld S ((134 : Nat) : Int) 9 0 = some (some (some 135)) := zOF hS (by decide +kernel)
theorem zf_134_1 {S : List zSh} (hS : S = zmS zC0) : zFld S ((134 : Nat) : Int) 9 1 = some (some (some 136)) := zOF hS (by decide +kernel)
theorem zf_134_2 {S : List zSh} (hS : S = zmS zC0) : zFld S ((134 : Nat) : Int) 9 2 = some (some (some 137)) := zOF hS (by decide +kernel)
theorem zf_134_3 {S : List zSh} (hS : S = zmS zC0) : zFld S ((134 : Nat) : Int) 9 3 = some (some (some 138)) := zOF hS (by decide +kernel)
theorem zf_134_4 {S : List zSh} (hS : S = zmS zC0) : zFld S ((134 : Nat) : Int) 9 4 = some (some (some 139)) := zOF hS (by decide +kernel)
theorem zf_134_5 {S : List zSh} (hS : S = zmS zC0) : zFld S ((134 : Nat) : Int) 9 5 = some (some (some 140)) := zOF hS (by decide +kernel)
theorem zf_134_6 {S : List zSh} (hS : S = zmS zC0) : zFld S ((134 : Nat) : Int) 9 6 = some (none) := zOF hS (by decide +kernel)
theorem zf_134_7 {S : List zSh} (hS : S = zmS zC0) : zFld S ((134 : Nat) : Int) 9 7 = some (none) := zOF hS (by decide +kernel)
theorem zf_134_8 {S : List zSh} (hS : S = zmS zC0) : zFld S ((134 : Nat) : Int) 9 8 = some (some (some 141)) := zOF hS (by decide +kernel)
theorem zf_134_9 {S : List zSh} (hS : S = zmS zC0) : zFld S ((134 : Nat) : Int) 9 9 = some (some (some 143)) := zOF hS (by decide +kernel)
theorem zf_134_10 {S : List zSh} (hS : S = zmS zC0) : zFld S ((134 : Nat) : Int) 9 10 = some (some (some 145)) := zOF hS (by decide +kernel)
theorem zf_134_11 {S : List zSh} (hS : S = zmS zC0) : zFld S ((134 : Nat) : Int) 9 11 = some (some (some 147)) := zOF hS (by decide +kernel)
theorem zf_134_12 {S : List zSh} (hS : S = zmS zC0) : zFld S ((134 : Nat) : Int) 9 12 = some (none) := zOF hS (by decide +kernel)
theorem zo_134 {S : List zSh} (hS : S = zmS zC0) : zObj S ((134 : Nat) : Int) 9 := zOO hS (v := some (some 135)) (by decide +kernel)
theorem zf_148_0 {S : List zSh} (hS : S = zmS zC0) : zFld S ((148 : Nat) : Int) 10 0 = some (some (some 149)) := zOF hS (by decide +kernel)
theorem zf_148_1 {S : List zSh} (hS : S = zmS zC0) : zFld S ((148 : Nat) : Int) 10 1 = some (some (some 150)) := zOF hS (by decide +kernel)
theorem zf_148_2 {S : List zSh} (hS : S = zmS zC0) : zFld S ((148 : Nat) : Int) 10 2 = some (some (some 151)) := zOF hS (by decide +kernel)
theorem zf_148_3 {S : List zSh} (hS : S = zmS zC0) : zFld S ((148 : Nat) : Int) 10 3 = some (some (some 152)) := zOF hS (by decide +kernel)
theorem zf_148_4 {S : List zSh} (hS : S = zmS zC0) : zFld S ((148 : Nat) : Int) 10 4 = some (some (some 153)) := zOF hS (by decide +kernel)
theorem zf_148_5 {S : List zSh} (hS : S = zmS zC0) : zFld S ((148 : Nat) : Int) 10 5 = some (some (some 154)) := zOF hS (by decide +kernel)
theorem zf_148_6 {S : List zSh} (hS : S = zmS zC0) : zFld S ((148 : Nat) : Int) 10 6 = some (none) := zOF hS (by decide +kernel)
theorem zf_148_7 {S : List zSh} (hS : S = zmS zC0) : zFld S ((148 : Nat) : Int) 10 7 = some (none) := zOF hS (by decide +kernel)
theorem zo_148 {S : List zSh} (hS : S = zmS zC0) : zObj S ((148 : Nat) : Int) 10 := zOO hS (v := some (some 149)) (by decide +kernel)
theorem zf_156_0 {S : List zSh} (hS : S = zmS zC0) : zFld S ((156 : Nat) : Int) 11 0 = some (some (some 157)) := zOF hS (by decide +kernel)
theorem zf_156_1 {S : List zSh} (hS : S = zmS zC0) : zFld S ((156 : Nat) : Int) 11 1 = some (some (some 158)) := zOF hS (by decide +kernel)
theorem zf_156_2 {S : List zSh} (hS : S = zmS zC0) : zFld S ((156 : Nat) : Int) 11 2 = some (some (some 160)) := zOF hS (by decide +kernel)
theorem zf_156_3 {S : List zSh} (hS : S = zmS zC0) : zFld S ((156 : Nat) : Int) 11 3 = some (some (some 162)) := zOF hS (by decide +kernel)
theorem zf_156_4 {S : List zSh} (hS : S = zmS zC0) : zFld S ((156 : Nat) : Int) 11 4 = some (some (some 164)) := zOF hS (by decide +kernel)
theorem zf_156_5 {S : List zSh} (hS : S = zmS zC0) : zFld S ((156 : Nat) : Int) 11 5 = some (some (some 165)) := zOF hS (by decide +kernel)
theorem zf_156_6 {S : List zSh} (hS : S = zmS zC0) : zFld S ((156 : Nat) : Int) 11 6 = some (none) := zOF hS (by decide +kernel)
theorem zf_156_7 {S : List zSh} (hS : S = zmS zC0) : zFld S ((156 : Nat) : Int) 11 7 = some (none) := zOF hS (by decide +kernel)
theorem zo_156 {S : List zSh} (hS : S = zmS zC0) : zObj S ((156 : Nat) : Int) 11 := zOO hS (v := some (some 157)) (by decide +kernel)
