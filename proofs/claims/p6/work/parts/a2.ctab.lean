section
-- part a2.ctab.lean.txt
/-! ===== the class's fixed cells: arrays; nets, partings, tellings ===== -/
def zCdA : List (FieldType × Nat) := [(.char, 0), (.char, 0), (.int, 16), (.object "ToldNet$Net", 41), (.char, 0), (.int, 16), (.char, 0), (.int, 16), (.char, 0), (.int, 16), (.char, 0), (.int, 16), (.char, 0), (.int, 16), (.char, 0), (.int, 16), (.char, 0), (.int, 16), (.char, 0), (.int, 16), (.char, 0), (.int, 16), (.char, 0), (.int, 16), (.char, 0), (.int, 16), (.char, 0), (.int, 16), (.char, 0), (.int, 16), (.char, 0), (.int, 16), (.char, 0), (.int, 16), (.char, 0), (.int, 16), (.char, 0), (.int, 16), (.char, 0), (.int, 16), (.char, 0), (.int, 16), (.char, 0), (.int, 16), (.char, 0), (.int, 16), (.char, 0), (.int, 16), (.char, 0), (.int, 16), (.char, 0), (.int, 16), (.char, 0), (.int, 16), (.char, 0), (.int, 16), (.char, 0), (.int, 16), (.char, 0), (.int, 16), (.char, 0), (.int, 16), (.char, 0), (.int, 16), (.char, 0), (.int, 16), (.char, 0), (.int, 16), (.char, 0), (.int, 16), (.char, 0), (.int, 16), (.char, 0), (.int, 16), (.char, 0), (.int, 16), (.char, 0), (.int, 16), (.char, 0), (.int, 16), (.char, 0), (.int, 16), (.char, 0), (.int, 16), (.char, 0), (.int, 16), (.char, 0), (.byte, 2000), (.int, 400), (.int, 400), (.long, 400), (.long, 10), (.char, 0), (.long, 100), (.int, 100), (.int, 100), (.int, 100), (.int, 400), (.int, 40), (.int, 40), (.int, 40), (.char, 0), (.int, 16), (.char, 0), (.int, 16), (.object "ToldNet$Telling", 5), (.char, 0), (.int, 256), (.char, 0), (.char, 0), (.int, 256), (.char, 0), (.char, 0), (.int, 16), (.int, 16), (.int, 17), (.int, 16), (.int, 120), (.char, 0), (.int, 16), (.char, 0), (.int, 16), (.char, 0), (.int, 16), (.char, 0), (.int, 16), (.int, 16), (.int, 17), (.char, 0), (.int, 16), (.int, 16), (.int, 17), (.int, 6), (.int, 6), (.char, 0), (.int, 512), (.int, 512), (.int, 256), (.int, 512), (.int, 120), (.int, 120), (.char, 0), (.int, 16), (.char, 0), (.int, 16), (.char, 0), (.int, 16), (.int, 120), (.char, 0), (.int, 10), (.int, 10), (.int, 10), (.int, 10), (.int, 120), (.char, 0), (.int, 16), (.char, 0), (.int, 256), (.char, 0), (.int, 16), (.char, 0), (.int, 16), (.char, 0), (.int, 16), (.int, 1920), (.boolean, 120), (.char, 0), (.char, 0), (.int, 16), (.int, 16), (.int, 17), (.int, 16), (.int, 120), (.char, 0), (.int, 16), (.char, 0), (.int, 16), (.char, 0), (.int, 16), (.char, 0), (.int, 16), (.int, 16), (.int, 17), (.char, 0), (.int, 16), (.char, 0), (.char, 0), (.int, 16), (.int, 16), (.int, 17), (.int, 16), (.int, 120), (.char, 0), (.int, 16), (.char, 0), (.int, 16), (.char, 0), (.int, 16), (.char, 0), (.char, 0), (.int, 16), (.int, 16), (.int, 17), (.int, 16), (.int, 120), (.char, 0), (.int, 16), (.char, 0), (.int, 16), (.char, 0), (.int, 16), (.char, 0), (.char, 0), (.int, 16), (.int, 16), (.int, 17), (.int, 16), (.int, 120), (.char, 0), (.int, 16), (.char, 0), (.int, 16), (.char, 0), (.int, 16), (.char, 0), (.char, 0), (.int, 16), (.int, 16), (.int, 17), (.int, 16), (.int, 120), (.char, 0), (.int, 16), (.char, 0), (.int, 16), (.char, 0), (.int, 16), (.char, 0), (.char, 0), (.int, 16), (.int, 16), (.int, 17), (.int, 16), (.int, 120), (.char, 0), (.int, 16), (.char, 0), (.int, 16), (.char, 0), (.int, 16)]
def zCdAok : Bool := (List.range zCdA.length).all fun i => match zCdA[i]?, (zmS zC0)[i]? with
  | some q, some (.inl w) => decide (w.1 = q.1) && decide (w.2.1 = q.2)
  | some q, some (.inr _) => decide (q.1 = .char)
  | _, _ => false
theorem zCdAok_ok : zCdAok = true := by decide +kernel
theorem zCA {S : List zSh} (hS : S = zmS zC0) {a n : Nat} {ty : FieldType} (h : zCdA[a]? = some (ty, n)) (hty : ty ≠ .char := by decide) : zArr S ((a : Nat) : Int) ty n := by
  subst hS
  have h1 := List.all_eq_true.mp zCdAok_ok a (List.mem_range.mpr (List.getElem?_eq_some_iff.mp h).1)
  rw [h] at h1
  split at h1
  next q w e1 e2 =>
    cases e1
    simp only [Bool.and_eq_true, decide_eq_true_eq] at h1
    obtain ⟨w1, w2, w3⟩ := w
    obtain ⟨rfl, rfl⟩ := h1
    exact ⟨Int.natCast_nonneg _, w3, e2⟩
  next q w e1 e2 =>
    cases e1
    exact absurd (of_decide_eq_true h1) hty
  next => cases h1
theorem zNets_ok : (zmS zC0)[3]? = some (.inl (.object "ToldNet$Net", 41, (List.range 41).map fun d => some (4 + 2 * d))) := by decide +kernel
theorem zTels_ok : (zmS zC0)[105]? = some (.inl (.object "ToldNet$Telling", 5, (List.range 5).map fun d => some (185 + 13 * d))) := by decide +kernel
theorem zPr_net {S : List zSh} (hS : S = zmS zC0) {d : Nat} (hd : d < 41) {M : zMem} : zPr S M ((3 : Nat) : Int) ((d : Nat) : Int) ((4 + 2 * d : Nat) : Int) := by
  subst hS
  refine ⟨"ToldNet$Net", 41, _, 4 + 2 * d, ⟨by decide, zNets_ok⟩, Int.natCast_nonneg _, by omega, ?_, rfl⟩
  rw [show (((d : Nat) : Int)).toNat = d from rfl, List.getD_eq_getElem?_getD, List.getElem?_map, List.getElem?_range hd]
  rfl
theorem zPr_tel {S : List zSh} (hS : S = zmS zC0) {d : Nat} (hd : d < 5) {M : zMem} : zPr S M ((105 : Nat) : Int) ((d : Nat) : Int) ((185 + 13 * d : Nat) : Int) := by
  subst hS
  refine ⟨"ToldNet$Telling", 5, _, 185 + 13 * d, ⟨by decide, zTels_ok⟩, Int.natCast_nonneg _, by omega, ?_, rfl⟩
  rw [show (((d : Nat) : Int)).toNat = d from rfl, List.getD_eq_getElem?_getD, List.getElem?_map, List.getElem?_range hd]
  rfl
/-- a field by its cell -/
def zFb (n ci k : Nat) (v : Option (Option Nat)) : Bool := decide (zObG n ci k = some v)
def zAb (a : Nat) (ty : FieldType) (n : Nat) : Bool := decide (zCdA[a]? = some (ty, n))
theorem zFb.to {S : List zSh} (hS : S = zmS zC0) {n ci k : Nat} {v : Option (Option Nat)} (h : zFb n ci k v = true) : zFld S ((n : Nat) : Int) ci k = some v := zOF hS (of_decide_eq_true h)
theorem zFb.ob {S : List zSh} (hS : S = zmS zC0) {n ci : Nat} {v : Option (Option Nat)} (h : zFb n ci 0 v = true) : zObj S ((n : Nat) : Int) ci := zOO hS (of_decide_eq_true h)
theorem zAb.to {S : List zSh} (hS : S = zmS zC0) {a n : Nat} {ty : FieldType} (hty : ty ≠ .char) (h : zAb a ty n = true) : zArr S ((a : Nat) : Int) ty n := zCA hS (of_decide_eq_true h) hty
def zNetB (n : Nat) : Bool := zFb n 2 0 (some (some (n + 1))) && (zFb n 2 1 none && zAb (n + 1) .int 16)
theorem zNetB.to {S : List zSh} (hS : S = zmS zC0) {n : Nat} (h : zNetB n = true) : zNet S n := by
  simp only [zNetB, Bool.and_eq_true] at h
  exact ⟨zFb.to hS h.1, zFb.to hS h.2.1, zAb.to hS (by decide) h.2.2, zFb.ob hS h.1⟩
/-- a parting's cells -/
def zPar (S : List zSh) (p : Nat) : Prop := zObj S ((p : Nat) : Int) 3 ∧ zFld S ((p : Nat) : Int) 3 0 = some (some (some (p + 1))) ∧ zFld S ((p : Nat) : Int) 3 1 = some (some (some (p + 2))) ∧ zFld S ((p : Nat) : Int) 3 2 = some (some (some (p + 3))) ∧ zFld S ((p : Nat) : Int) 3 3 = some none ∧ zFld S ((p : Nat) : Int) 3 4 = some none ∧ zArr S ((p + 1 : Nat) : Int) .int 16 ∧ zArr S ((p + 2 : Nat) : Int) .int 16 ∧ zArr S ((p + 3 : Nat) : Int) .int 17
def zParB (p : Nat) : Bool := zFb p 3 0 (some (some (p + 1))) && (zFb p 3 1 (some (some (p + 2))) && (zFb p 3 2 (some (some (p + 3))) && (zFb p 3 3 none && (zFb p 3 4 none && (zAb (p + 1) .int 16 && (zAb (p + 2) .int 16 && zAb (p + 3) .int 17))))))
theorem zParB.to {S : List zSh} (hS : S = zmS zC0) {p : Nat} (h : zParB p = true) : zPar S p := by
  simp only [zParB, Bool.and_eq_true] at h
  obtain ⟨h1, h2, h3, h4, h5, h6, h7, h8⟩ := h
  exact ⟨zFb.ob hS h1, zFb.to hS h1, zFb.to hS h2, zFb.to hS h3, zFb.to hS h4, zFb.to hS h5, zAb.to hS (by decide) h6, zAb.to hS (by decide) h7, zAb.to hS (by decide) h8⟩
/-- a telling's cells -/
def zTeC (S : List zSh) (x : Nat) : Prop := (zObj S ((x : Nat) : Int) 4 ∧ zFld S ((x : Nat) : Int) 4 0 = some (some (some (x + 1))) ∧ zFld S ((x : Nat) : Int) 4 1 = some (some (some (x + 5))) ∧ zFld S ((x : Nat) : Int) 4 2 = some (some (some (x + 6))) ∧ zFld S ((x : Nat) : Int) 4 3 = some (some (some (x + 7))) ∧ zFld S ((x : Nat) : Int) 4 4 = some (some (some (x + 9))) ∧ zFld S ((x : Nat) : Int) 4 5 = some (some (some (x + 11))) ∧ zFld S ((x : Nat) : Int) 4 6 = some none) ∧ (zArr S ((x + 5 : Nat) : Int) .int 16 ∧ zArr S ((x + 6 : Nat) : Int) .int 120) ∧ zPar S (x + 1) ∧ zNet S (x + 7) ∧ zNet S (x + 9) ∧ zNet S (x + 11)
def zTeB (x : Nat) : Bool := (zFb x 4 0 (some (some (x + 1))) && (zFb x 4 1 (some (some (x + 5))) && (zFb x 4 2 (some (some (x + 6))) && (zFb x 4 3 (some (some (x + 7))) && (zFb x 4 4 (some (some (x + 9))) && (zFb x 4 5 (some (some (x + 11))) && zFb x 4 6 none)))))) && ((zAb (x + 5) .int 16 && zAb (x + 6) .int 120) && (zParB (x + 1) && (zNetB (x + 7) && (zNetB (x + 9) && zNetB (x + 11)))))
theorem zTeB.to {S : List zSh} (hS : S = zmS zC0) {x : Nat} (h : zTeB x = true) : zTeC S x := by
  simp only [zTeB, Bool.and_eq_true] at h
  obtain ⟨⟨h1, h2, h3, h4, h5, h6, h7⟩, ⟨h8, h9⟩, h10, h11, h12, h13⟩ := h
  exact ⟨⟨zFb.ob hS h1, zFb.to hS h1, zFb.to hS h2, zFb.to hS h3, zFb.to hS h4, zFb.to hS h5, zFb.to hS h6, zFb.to hS h7⟩, ⟨zAb.to hS (by decide) h8, zAb.to hS (by decide) h9⟩, zParB.to hS h10, zNetB.to hS h11, zNetB.to hS h12, zNetB.to hS h13⟩
theorem zDayB_ok : ((List.range 41).all fun d => zNetB (4 + 2 * d)) = true := by decide +kernel
theorem zTelB_ok : ((List.range 5).all fun d => zTeB (185 + 13 * d)) = true := by decide +kernel
theorem zTe_111 : zTeB 111 = true := by decide +kernel
theorem zTe_166 : zTeB 166 = true := by decide +kernel
theorem zPa_124 : zParB 124 = true := by decide +kernel
theorem zPa_128 : zParB 128 = true := by decide +kernel
theorem zPa_179 : zParB 179 = true := by decide +kernel
theorem zNt_183 : zNetB 183 = true := by decide +kernel
theorem zNt_101 : zNetB 101 = true := by decide +kernel
theorem zNt_103 : zNetB 103 = true := by decide +kernel
theorem zNt_141 : zNetB 141 = true := by decide +kernel
theorem zNt_143 : zNetB 143 = true := by decide +kernel
theorem zNt_145 : zNetB 145 = true := by decide +kernel
theorem zNt_154 : zNetB 154 = true := by decide +kernel
theorem zNt_158 : zNetB 158 = true := by decide +kernel
theorem zNt_160 : zNetB 160 = true := by decide +kernel
theorem zNt_162 : zNetB 162 = true := by decide +kernel
theorem zNetD {S : List zSh} (hS : S = zmS zC0) {d : Nat} (hd : d < 41) : zNet S (4 + 2 * d) := zNetB.to hS (List.all_eq_true.mp zDayB_ok d (List.mem_range.mpr hd))
theorem zTelT {S : List zSh} (hS : S = zmS zC0) {t : Nat} (ht : t < 5) : zTeC S (185 + 13 * t) := zTeB.to hS (List.all_eq_true.mp zTelB_ok t (List.mem_range.mpr ht))
theorem i_ra {S : List zSh} {M : zMem} {a j v : Int} {Q : Int → Prop} (h : zPr S M a j v) (k : Q v) : ∃ v, zPr S M a j v ∧ Q v := ⟨v, h, k⟩
theorem zf_0_0 {S : List zSh} (hS : S = zmS zC0) : zFld S ((0 : Nat) : Int) 0 0 = some (some (some 1)) := zOF hS (by decide +kernel)
theorem zf_0_1 {S : List zSh} (hS : S = zmS zC0) : zFld S ((0 : Nat) : Int) 0 1 = some (some (some 86)) := zOF hS (by decide +kernel)
theorem zf_0_2 {S : List zSh} (hS : S = zmS zC0) : zFld S ((0 : Nat) : Int) 0 2 = some (some (some 92)) := zOF hS (by decide +kernel)
theorem zf_0_3 {S : List zSh} (hS : S = zmS zC0) : zFld S ((0 : Nat) : Int) 0 3 = some (some (some 105)) := zOF hS (by decide +kernel)
theorem zf_0_4 {S : List zSh} (hS : S = zmS zC0) : zFld S ((0 : Nat) : Int) 0 4 = some (none) := zOF hS (by decide +kernel)
theorem zf_0_5 {S : List zSh} (hS : S = zmS zC0) : zFld S ((0 : Nat) : Int) 0 5 = some (none) := zOF hS (by decide +kernel)
theorem zf_0_6 {S : List zSh} (hS : S = zmS zC0) : zFld S ((0 : Nat) : Int) 0 6 = some (some (some 106)) := zOF hS (by decide +kernel)
theorem zf_0_7 {S : List zSh} (hS : S = zmS zC0) : zFld S ((0 : Nat) : Int) 0 7 = some (some (some 108)) := zOF hS (by decide +kernel)
theorem zf_0_8 {S : List zSh} (hS : S = zmS zC0) : zFld S ((0 : Nat) : Int) 0 8 = some (some (some 134)) := zOF hS (by decide +kernel)
theorem zf_0_9 {S : List zSh} (hS : S = zmS zC0) : zFld S ((0 : Nat) : Int) 0 9 = some (some (some 148)) := zOF hS (by decide +kernel)
theorem zf_0_10 {S : List zSh} (hS : S = zmS zC0) : zFld S ((0 : Nat) : Int) 0 10 = some (some (some 156)) := zOF hS (by decide +kernel)
theorem zf_0_11 {S : List zSh} (hS : S = zmS zC0) : zFld S ((0 : Nat) : Int) 0 11 = some (some (some 166)) := zOF hS (by decide +kernel)
theorem zf_0_12 {S : List zSh} (hS : S = zmS zC0) : zFld S ((0 : Nat) : Int) 0 12 = some (some (some 179)) := zOF hS (by decide +kernel)
theorem zf_0_13 {S : List zSh} (hS : S = zmS zC0) : zFld S ((0 : Nat) : Int) 0 13 = some (some (some 183)) := zOF hS (by decide +kernel)
theorem zo_0 {S : List zSh} (hS : S = zmS zC0) : zObj S ((0 : Nat) : Int) 0 := zOO hS (v := some (some 1)) (by decide +kernel)
theorem zf_1_0 {S : List zSh} (hS : S = zmS zC0) : zFld S ((1 : Nat) : Int) 1 0 = some (some (some 2)) := zOF hS (by decide +kernel)
theorem zf_1_1 {S : List zSh} (hS : S = zmS zC0) : zFld S ((1 : Nat) : Int) 1 1 = some (some (some 3)) := zOF hS (by decide +kernel)
theorem zf_1_2 {S : List zSh} (hS : S = zmS zC0) : zFld S ((1 : Nat) : Int) 1 2 = some (none) := zOF hS (by decide +kernel)
theorem zf_1_3 {S : List zSh} (hS : S = zmS zC0) : zFld S ((1 : Nat) : Int) 1 3 = some (none) := zOF hS (by decide +kernel)
theorem zf_1_4 {S : List zSh} (hS : S = zmS zC0) : zFld S ((1 : Nat) : Int) 1 4 = some (none) := zOF hS (by decide +kernel)
theorem zo_1 {S : List zSh} (hS : S = zmS zC0) : zObj S ((1 : Nat) : Int) 1 := zOO hS (v := some (some 2)) (by decide +kernel)
theorem zf_86_0 {S : List zSh} (hS : S = zmS zC0) : zFld S ((86 : Nat) : Int) 5 0 = some (some (some 87)) := zOF hS (by decide +kernel)
theorem zf_86_1 {S : List zSh} (hS : S = zmS zC0) : zFld S ((86 : Nat) : Int) 5 1 = some (some (some 88)) := zOF hS (by decide +kernel)
theorem zf_86_2 {S : List zSh} (hS : S = zmS zC0) : zFld S ((86 : Nat) : Int) 5 2 = some (some (some 89)) := zOF hS (by decide +kernel)
theorem zf_86_3 {S : List zSh} (hS : S = zmS zC0) : zFld S ((86 : Nat) : Int) 5 3 = some (some (some 90)) := zOF hS (by decide +kernel)
theorem zf_86_4 {S : List zSh} (hS : S = zmS zC0) : zFld S ((86 : Nat) : Int) 5 4 = some (some (some 91)) := zOF hS (by decide +kernel)
theorem zf_86_5 {S : List zSh} (hS : S = zmS zC0) : zFld S ((86 : Nat) : Int) 5 5 = some (none) := zOF hS (by decide +kernel)
theorem zf_86_6 {S : List zSh} (hS : S = zmS zC0) : zFld S ((86 : Nat) : Int) 5 6 = some (none) := zOF hS (by decide +kernel)
theorem zf_86_7 {S : List zSh} (hS : S = zmS zC0) : zFld S ((86 : Nat) : Int) 5 7 = some (none) := zOF hS (by decide +kernel)
theorem zf_86_8 {S : List zSh} (hS : S = zmS zC0) : zFld S ((86 : Nat) : Int) 5 8 = some (none) := zOF hS (by decide +kernel)
theorem zo_86 {S : List zSh} (hS : S = zmS zC0) : zObj S ((86 : Nat) : Int) 5 := zOO hS (v := some (some 87)) (by decide +kernel)
theorem zf_92_0 {S : List zSh} (hS : S = zmS zC0) : zFld S ((92 : Nat) : Int) 6 0 = some (some (some 93)) := zOF hS (by decide +kernel)
theorem zf_92_1 {S : List zSh} (hS : S = zmS zC0) : zFld S ((92 : Nat) : Int) 6 1 = some (some (some 94)) := zOF hS (by decide +kernel)
theorem zf_92_2 {S : List zSh} (hS : S = zmS zC0) : zFld S ((92 : Nat) : Int) 6 2 = some (some (some 95)) := zOF hS (by decide +kernel)
theorem zf_92_3 {S : List zSh} (hS : S = zmS zC0) : zFld S ((92 : Nat) : Int) 6 3 = some (some (some 97)) := zOF hS (by decide +kernel)
theorem zf_92_4 {S : List zSh} (hS : S = zmS zC0) : zFld S ((92 : Nat) : Int) 6 4 = some (some (some 98)) := zOF hS (by decide +kernel)
theorem zf_92_5 {S : List zSh} (hS : S = zmS zC0) : zFld S ((92 : Nat) : Int) 6 5 = some (some (some 99)) := zOF hS (by decide +kernel)
theorem zf_92_6 {S : List zSh} (hS : S = zmS zC0) : zFld S ((92 : Nat) : Int) 6 6 = some (some (some 100)) := zOF hS (by decide +kernel)
theorem zf_92_7 {S : List zSh} (hS : S = zmS zC0) : zFld S ((92 : Nat) : Int) 6 7 = some (some (some 101)) := zOF hS (by decide +kernel)
theorem zf_92_8 {S : List zSh} (hS : S = zmS zC0) : zFld S ((92 : Nat) : Int) 6 8 = some (some (some 103)) := zOF hS (by decide +kernel)
theorem zf_92_9 {S : List zSh} (hS : S = zmS zC0) : zFld S ((92 : Nat) : Int) 6 9 = some (none) := zOF hS (by decide +kernel)
theorem zf_92_10 {S : List zSh} (hS : S = zmS zC0) : zFld S ((92 : Nat) : Int) 6 10 = some (none) := zOF hS (by decide +kernel)
theorem zf_92_11 {S : List zSh} (hS : S = zmS zC0) : zFld S ((92 : Nat) : Int) 6 11 = some (none) := zOF hS (by decide +kernel)
theorem zf_92_12 {S : List zSh} (hS : S = zmS zC0) : zFld S ((92 : Nat) : Int) 6 12 = some (none) := zOF hS (by decide +kernel)
theorem zf_92_13 {S : List zSh} (hS : S = zmS zC0) : zFld S ((92 : Nat) : Int) 6 13 = some (none) := zOF hS (by decide +kernel)
theorem zf_92_14 {S : List zSh} (hS : S = zmS zC0) : zFld S ((92 : Nat) : Int) 6 14 = some (none) := zOF hS (by decide +kernel)
theorem zf_92_15 {S : List zSh} (hS : S = zmS zC0) : zFld S ((92 : Nat) : Int) 6 15 = some (none) := zOF hS (by decide +kernel)
theorem zf_92_16 {S : List zSh} (hS : S = zmS zC0) : zFld S ((92 : Nat) : Int) 6 16 = some (some (some 96)) := zOF hS (by decide +kernel)
theorem zo_92 {S : List zSh} (hS : S = zmS zC0) : zObj S ((92 : Nat) : Int) 6 := zOO hS (v := some (some 93)) (by decide +kernel)
theorem zf_106_0 {S : List zSh} (hS : S = zmS zC0) : zFld S ((106 : Nat) : Int) 7 0 = some (some (some 107)) := zOF hS (by decide +kernel)
theorem zf_106_1 {S : List zSh} (hS : S = zmS zC0) : zFld S ((106 : Nat) : Int) 7 1 = some (none) := zOF hS (by decide +kernel)
theorem zf_106_2 {S : List zSh} (hS : S = zmS zC0) : zFld S ((106 : Nat) : Int) 7 2 = some (none) := zOF hS (by decide +kernel)
theorem zf_106_3 {S : List zSh} (hS : S = zmS zC0) : zFld S ((106 : Nat) : Int) 7 3 = some (none) := zOF hS (by decide +kernel)
theorem zo_106 {S : List zSh} (hS : S = zmS zC0) : zObj S ((106 : Nat) : Int) 7 := zOO hS (v := some (some 107)) (by decide +kernel)
theorem zf_108_0 {S : List zSh} (hS : S = zmS zC0) : zFld S ((108 : Nat) : Int) 8 0 = some (some (some 109)) := zOF hS (by decide +kernel)
theorem zf_108_1 {S : List zSh} (hS : S = zmS zC0) : zFld S ((108 : Nat) : Int) 8 1 = some (some (some 111)) := zOF hS (by decide +kernel)
theorem zf_108_2 {S : List zSh} (hS : S = zmS zC0) : zFld S ((108 : Nat) : Int) 8 2 = some (some (some 124)) := zOF hS (by decide +kernel)
theorem zf_108_3 {S : List zSh} (hS : S = zmS zC0) : zFld S ((108 : Nat) : Int) 8 3 = some (some (some 128)) := zOF hS (by decide +kernel)
theorem zf_108_4 {S : List zSh} (hS : S = zmS zC0) : zFld S ((108 : Nat) : Int) 8 4 = some (some (some 132)) := zOF hS (by decide +kernel)
theorem zf_108_5 {S : List zSh} (hS : S = zmS zC0) : zFld S ((108 : Nat) : Int) 8 5 = some (some (some 133)) := zOF hS (by decide +kernel)
theorem zf_108_6 {S : List zSh} (hS : S = zmS zC0) : zFld S ((108 : Nat) : Int) 8 6 = some (none) := zOF hS (by decide +kernel)
theorem zo_108 {S : List zSh} (hS : S = zmS zC0) : zObj S ((108 : Nat) : Int) 8 := zOO hS (v := some (some 109)) (by decide +kernel)
theorem zf_109_0 {S : List zSh} (hS : S = zmS zC0) : zFld S ((109 : Nat) : Int) 7 0 = some (some (some 110)) := zOF hS (by decide +kernel)
theorem zf_109_1 {S : List zSh} (hS : S = zmS zC0) : zFld S ((109 : Nat) : Int) 7 1 = some (none) := zOF hS (by decide +kernel)
theorem zf_109_2 {S : List zSh} (hS : S = zmS zC0) : zFld S ((109 : Nat) : Int) 7 2 = some (none) := zOF hS (by decide +kernel)
theorem zf_109_3 {S : List zSh} (hS : S = zmS zC0) : zFld S ((109 : Nat) : Int) 7 3 = some (none) := zOF hS (by decide +kernel)
theorem zo_109 {S : List zSh} (hS : S = zmS zC0) : zObj S ((109 : Nat) : Int) 7 := zOO hS (v := some (some 110)) (by decide +kernel)
theorem zf_134_0 {S : List zSh} (hS : S = zmS zC0) : zFld S ((134 : Nat) : Int) 9 0 = some (some (some 135)) := zOF hS (by decide +kernel)
theorem zf_134_1 {S : List zSh} (hS : S = zmS zC0) : zFld S ((134 : Nat) : Int) 9 1 = some (some (some 136)) := zOF hS (by decide +kernel)
theorem zf_134_2 {S : List zSh} (hS : S = zmS zC0) : zFld S ((134 : Nat) : Int) 9 2 = some (some (some 137)) := zOF hS (by decide +kernel)
theorem zf_134_3 {S : List zSh} (hS : S = zmS zC0) : zFld S ((134 : Nat) : Int) 9 3 = some (some (some 138)) := zOF hS (by decide +kernel)
theorem zf_134_4 {S : List zSh} (hS : S = zmS zC0) : zFld S ((134 : Nat) : Int) 9 4 = some (some (some 139)) := zOF hS (by decide +kernel)
theorem zf_134_5 {S : List zSh} (hS : S = zmS zC0) : zFld S ((134 : Nat) : Int) 9 5 = some (some (some 140)) := zOF hS (by decide +kernel)
theorem zf_134_6 {S : List zSh} (hS : S = zmS zC0) : zFld S ((134 : Nat) : Int) 9 6 = some (none) := zOF hS (by decide +kernel)
theorem zf_134_7 {S : List zSh} (hS : S = zmS zC0) : zFld S ((134 : Nat) : Int) 9 7 = some (none) := zOF hS (by decide +kernel)
theorem zf_134_8 {S : List zSh} (hS : S = zmS zC0) : zFld S ((134 : Nat) : Int) 9 8 = some (some (some 141)) := zOF hS (by decide +kernel)
theorem zf_134_9 {S : List zSh} (hS : S = zmS zC0) : zFld S ((134 : Nat) : Int) 9 9 = some (some (some 143)) := zOF hS (by decide +kernel)
theorem zf_134_10 {S : List zSh} (hS : S = zmS zC0) : zFld S ((134 : Nat) : Int) 9 10 = some (some (some 145)) := zOF hS (by decide +kernel)
theorem zf_134_11 {S : List zSh} (hS : S = zmS zC0) : zFld S ((134 : Nat) : Int) 9 11 = some (some (some 147)) := zOF hS (by decide +kernel)
theorem zf_134_12 {S : List zSh} (hS : S = zmS zC0) : zFld S ((134 : Nat) : Int) 9 12 = some (none) := zOF hS (by decide +kernel)
theorem zo_134 {S : List zSh} (hS : S = zmS zC0) : zObj S ((134 : Nat) : Int) 9 := zOO hS (v := some (some 135)) (by decide +kernel)
theorem zf_148_0 {S : List zSh} (hS : S = zmS zC0) : zFld S ((148 : Nat) : Int) 10 0 = some (some (some 149)) := zOF hS (by decide +kernel)
theorem zf_148_1 {S : List zSh} (hS : S = zmS zC0) : zFld S ((148 : Nat) : Int) 10 1 = some (some (some 150)) := zOF hS (by decide +kernel)
theorem zf_148_2 {S : List zSh} (hS : S = zmS zC0) : zFld S ((148 : Nat) : Int) 10 2 = some (some (some 151)) := zOF hS (by decide +kernel)
theorem zf_148_3 {S : List zSh} (hS : S = zmS zC0) : zFld S ((148 : Nat) : Int) 10 3 = some (some (some 152)) := zOF hS (by decide +kernel)
theorem zf_148_4 {S : List zSh} (hS : S = zmS zC0) : zFld S ((148 : Nat) : Int) 10 4 = some (some (some 153)) := zOF hS (by decide +kernel)
theorem zf_148_5 {S : List zSh} (hS : S = zmS zC0) : zFld S ((148 : Nat) : Int) 10 5 = some (some (some 154)) := zOF hS (by decide +kernel)
theorem zf_148_6 {S : List zSh} (hS : S = zmS zC0) : zFld S ((148 : Nat) : Int) 10 6 = some (none) := zOF hS (by decide +kernel)
theorem zf_148_7 {S : List zSh} (hS : S = zmS zC0) : zFld S ((148 : Nat) : Int) 10 7 = some (none) := zOF hS (by decide +kernel)
theorem zo_148 {S : List zSh} (hS : S = zmS zC0) : zObj S ((148 : Nat) : Int) 10 := zOO hS (v := some (some 149)) (by decide +kernel)
theorem zf_156_0 {S : List zSh} (hS : S = zmS zC0) : zFld S ((156 : Nat) : Int) 11 0 = some (some (some 157)) := zOF hS (by decide +kernel)
theorem zf_156_1 {S : List zSh} (hS : S = zmS zC0) : zFld S ((156 : Nat) : Int) 11 1 = some (some (some 158)) := zOF hS (by decide +kernel)
theorem zf_156_2 {S : List zSh} (hS : S = zmS zC0) : zFld S ((156 : Nat) : Int) 11 2 = some (some (some 160)) := zOF hS (by decide +kernel)
theorem zf_156_3 {S : List zSh} (hS : S = zmS zC0) : zFld S ((156 : Nat) : Int) 11 3 = some (some (some 162)) := zOF hS (by decide +kernel)
theorem zf_156_4 {S : List zSh} (hS : S = zmS zC0) : zFld S ((156 : Nat) : Int) 11 4 = some (some (some 164)) := zOF hS (by decide +kernel)
theorem zf_156_5 {S : List zSh} (hS : S = zmS zC0) : zFld S ((156 : Nat) : Int) 11 5 = some (some (some 165)) := zOF hS (by decide +kernel)
theorem zf_156_6 {S : List zSh} (hS : S = zmS zC0) : zFld S ((156 : Nat) : Int) 11 6 = some (none) := zOF hS (by decide +kernel)
theorem zf_156_7 {S : List zSh} (hS : S = zmS zC0) : zFld S ((156 : Nat) : Int) 11 7 = some (none) := zOF hS (by decide +kernel)
theorem zo_156 {S : List zSh} (hS : S = zmS zC0) : zObj S ((156 : Nat) : Int) 11 := zOO hS (v := some (some 157)) (by decide +kernel)
end
section
-- part a3.cday.lean.txt
/-! ===== the class: nets of days ===== -/
theorem c_isPost {O : zOm} (hO : zWld O) (hS : zS O = zmS zC0) {a : Int} {P : Nat} {M : zMem} {K : Option zV → zMem → Prop} (hP : M ((1 : Nat) : Int) ((2 : Nat) : Int) = ((P : Nat) : Int)) (hk : K (some (0, zbI (decide (0 ≤ a ∧ a < ((P : Nat) : Int))))) M) : zR O F_Days_isPost [(2, ((1 : Nat) : Int)), (0, a)] M K := by
  apply r_Days_isPost hO
  unfold B_Days_isPost
  have f1_2 := zf_1_2 hS; have z1 := zo_1 hS
  (focus ((with_reducible refine i_RetZ (i_eIf (i_cAnd (i_cZ_ge (i_L1 ?_))))); (with_reducible refine i_br ?_ ?_ <;> intro hc); (focus ((with_reducible refine i_cI_lt (i_L1 (i_F (i_A0 ?_)))); (with_reducible refine i_fld (by assumption) ?_); (rw [hP]); (with_reducible refine i_br ?_ ?_ <;> intro hc); (focus ((with_reducible refine i_I ?_); (with_reducible refine i_z (Or.inr rfl) ?_))); rotate_left; (focus ((with_reducible refine i_I ?_); (with_reducible refine i_z (Or.inl rfl) ?_))); rotate_right)); rotate_left 2; (focus ((with_reducible refine i_I ?_); (with_reducible refine i_z (Or.inl rfl) ?_))); rotate_right 2))
  all_goals first | (rw [decide_eq_true (by omega)] at hk; exact hk) | (rw [decide_eq_false (by omega)] at hk; exact hk)
theorem c_isPair {O : zOm} (hO : zWld O) (hS : zS O = zmS zC0) {a b : Int} {P : Nat} {M : zMem} {K : Option zV → zMem → Prop} (hP : M ((1 : Nat) : Int) ((2 : Nat) : Int) = ((P : Nat) : Int)) (hk : K (some (0, zbI (decide ((0 ≤ a ∧ a < ((P : Nat) : Int)) ∧ (0 ≤ b ∧ b < ((P : Nat) : Int)) ∧ a ≠ b)))) M) : zR O F_Days_isPair [(2, ((1 : Nat) : Int)), (0, a), (0, b)] M K := by
  apply r_Days_isPair hO
  unfold B_Days_isPair
  have z1 := zo_1 hS
  (focus ((with_reducible refine i_RetZ (i_eIf (i_cAnd (i_cAnd (i_cZ_ne (i_Call (i_as1 (i_A0 (i_as1 (i_L1 (i_as0 ?_))))))))))); (with_reducible refine i_recv0 (by assumption) ?_); (refine c_isPost hO hS hP ⟨_, rfl, ?_⟩); (with_reducible refine i_dne ?_ ?_ <;> intro hc); (focus ((with_reducible refine i_cZ_ne (i_Call (i_as1 (i_A0 (i_as1 (i_L2 (i_as0 ?_))))))); (with_reducible refine i_recv0 (by assumption) ?_); (refine c_isPost hO hS hP ⟨_, rfl, ?_⟩); (with_reducible refine i_dne ?_ ?_ <;> intro hc); (focus ((with_reducible refine i_cI_ne (i_L1 (i_L2 ?_))); (with_reducible refine i_br ?_ ?_ <;> intro hc); (focus ((with_reducible refine i_I ?_); (with_reducible refine i_z (Or.inr rfl) ?_))); rotate_left; (focus ((with_reducible refine i_I ?_); (with_reducible refine i_z (Or.inl rfl) ?_))); rotate_right)); rotate_left 2; (focus ((with_reducible refine i_I ?_); (with_reducible refine i_z (Or.inl rfl) ?_))); rotate_right 2)); rotate_left 3; (focus ((with_reducible refine i_I ?_); (with_reducible refine i_z (Or.inl rfl) ?_))); rotate_right 3))
  all_goals first | (rw [decide_eq_true (by omega)] at hk; exact hk) | (rw [decide_eq_false (by omega)] at hk; exact hk)
theorem c_now {O : zOm} (hO : zWld O) (hS : zS O = zmS zC0) {d : Nat} {M : zMem} {K : Option zV → zMem → Prop} (hd : M ((1 : Nat) : Int) ((3 : Nat) : Int) = ((d : Nat) : Int)) (hd2 : d < 41) (hk : K (some (2, ((4 + 2 * d : Nat) : Int))) M) : zR O F_Days_now [(2, ((1 : Nat) : Int))] M K := by
  apply r_Days_now hO
  unfold B_Days_now
  have f1_1 := zf_1_1 hS; have f1_3 := zf_1_3 hS; have z1 := zo_1 hS
  ((with_reducible refine i_RetR (i_RA (i_FR (i_A0 ?_)))); (with_reducible refine i_fldR (by assumption) ?_); (with_reducible refine i_F (i_A0 ?_)); (with_reducible refine i_fld (by assumption) ?_); (rw [hd]); (refine i_ra (zPr_net hS hd2) ?_))
  exact hk
theorem c_on {O : zOm} (hO : zWld O) (hS : zS O = zmS zC0) {x : Int} {d : Nat} {M : zMem} {K : Option zV → zMem → Prop} (hd : M ((1 : Nat) : Int) ((3 : Nat) : Int) = ((d : Nat) : Int)) (hd2 : d < 41) (h0 : ¬ (0 ≤ x ∧ x ≤ ((d : Nat) : Int)) → K (some (2, -1)) M) (h1 : ∀ k : Nat, x = k → k ≤ d → K (some (2, ((4 + 2 * k : Nat) : Int))) M) : zR O F_Days_on [(2, ((1 : Nat) : Int)), (0, x)] M K := by
  apply r_Days_on hO
  unfold B_Days_on
  have f1_3 := zf_1_3 hS; have f1_1 := zf_1_1 hS; have z1 := zo_1 hS
  by_cases hx : 0 ≤ x ∧ x ≤ ((d : Nat) : Int)
  · obtain ⟨k, rfl⟩ : ∃ k : Nat, x = k := ⟨x.toNat, by omega⟩
    have h2 := h1 k rfl (by omega)
    ((with_reducible refine i_RetR (i_eIf (i_cOr (i_cZ_lt (i_L1 ?_))))); (with_reducible refine i_f (by omega) ?_); (with_reducible refine i_cI_gt (i_L1 (i_F (i_A0 ?_)))); (with_reducible refine i_fld (by assumption) ?_); (rw [hd]); (with_reducible refine i_f (by omega) ?_); (with_reducible refine i_RA (i_FR (i_A0 ?_))); (with_reducible refine i_fldR (by assumption) ?_); (with_reducible refine i_L1 ?_); (refine i_ra (zPr_net hS (by omega)) ?_))
    exact h2
  · have h2 := h0 hx
    (focus ((with_reducible refine i_RetR (i_eIf (i_cOr (i_cZ_lt (i_L1 ?_))))); (with_reducible refine i_br ?_ ?_ <;> intro hc); (focus ((with_reducible refine i_Null ?_))); rotate_left; (focus ((with_reducible refine i_cI_gt (i_L1 (i_F (i_A0 ?_)))); (with_reducible refine i_fld (by assumption) ?_); (rw [hd]); (with_reducible refine i_t (by omega) ?_); (with_reducible refine i_Null ?_))); rotate_right))
    all_goals first | exact h2 | (exfalso; omega)
/-- the days of the class -/
def cDy (M : zMem) (n td c : Nat) (N : Nat → Nat → Nat → Bool) : Prop := M ((1 : Nat) : Int) ((2 : Nat) : Int) = ((n : Nat) : Int) ∧ M ((1 : Nat) : Int) ((3 : Nat) : Int) = ((td : Nat) : Int) ∧ M ((1 : Nat) : Int) ((4 : Nat) : Int) = ((c : Nat) : Int) ∧ ∀ d : Nat, d ≤ td → zNR M (4 + 2 * d) n (N d)
theorem c_ties_bad {O : zOm} (hO : zWld O) (hS : zS O = zmS zC0) {a d : Int} {P td : Nat} {M : zMem} {K : Option zV → zMem → Prop} (hP : M ((1 : Nat) : Int) ((2 : Nat) : Int) = ((P : Nat) : Int)) (hT : M ((1 : Nat) : Int) ((3 : Nat) : Int) = ((td : Nat) : Int)) (ht : td < 41) (hb : ¬ ((0 ≤ a ∧ a < ((P : Nat) : Int)) ∧ 0 ≤ d ∧ d ≤ ((td : Nat) : Int))) (hk : K (some (0, -1)) M) : zR O F_ToldNet_ties [(2, ((0 : Nat) : Int)), (0, a), (0, d)] M K := by
  apply r_ToldNet_ties hO
  unfold B_ToldNet_ties
  have f0_0 := zf_0_0 hS; have z0 := zo_0 hS; have z1 := zo_1 hS
  ((with_reducible refine i_Seq (i_Set (i_Call (i_as1 (i_FR (i_A0 ?_)))))); (with_reducible refine i_fldR (by assumption) ?_); (with_reducible refine i_as1 (i_L2 (i_as0 ?_))); (with_reducible refine i_recv0 (by assumption) ?_); simp only [w_set0, w_set1, w_setn0, w_setn1])
  refine c_on hO hS hT ht (fun hx => ⟨_, rfl, ?_⟩) (fun k e hk1 => ⟨_, rfl, ?_⟩)
  · ((with_reducible refine i_Seq (i_If (i_cOr (i_cN (i_A3 ?_))))); simp only [w_set0, w_set1, w_setn0, w_setn1]; (with_reducible refine i_t trivial ?_); (with_reducible refine i_RetI (i_I ?_)))
    exact hk
  · subst e
    (focus ((with_reducible refine i_Seq (i_If (i_cOr (i_cN (i_A3 ?_))))); (with_reducible refine i_f (by omega) ?_); (with_reducible refine i_cNot (i_cZ_ne (i_Call (i_as1 (i_FR (i_A0 ?_)))))); (with_reducible refine i_fldR (by assumption) ?_); (with_reducible refine i_as1 (i_L1 (i_as0 ?_))); (with_reducible refine i_recv0 (by assumption) ?_); (refine c_isPost hO hS hP ⟨_, rfl, ?_⟩); (with_reducible refine i_dne ?_ ?_ <;> intro hc); (focus ((with_reducible refine i_RetI (i_Call (i_as1 (i_IA (i_FR (i_A3 ?_)))))))); rotate_left; (focus ((with_reducible refine i_RetI (i_I ?_)))); rotate_right))
    all_goals first | exact hk | (exfalso; omega)
theorem c_ties {O : zOm} (hO : zWld O) (hS : zS O = zmS zC0) {a d P td c : Nat} {N : Nat → Nat → Nat → Bool} {M : zMem} {K : Option zV → zMem → Prop} (hD : cDy M P td c N) (ht : td < 41) (hP : P ≤ 16) (ha : a < P) (hd : d ≤ td) (hk : K (some (0, ((zcnt (N d a) 16 : Nat) : Int))) M) : zR O F_ToldNet_ties [(2, ((0 : Nat) : Int)), (0, ((a : Nat) : Int)), (0, ((d : Nat) : Int))] M K := by
  obtain ⟨h1, h2, h3, h4⟩ := hD
  have hn := zNetD hS (d := d) (by omega)
  obtain ⟨n1, n2, n3, n4⟩ := hn
  apply r_ToldNet_ties hO
  unfold B_ToldNet_ties
  have f0_0 := zf_0_0 hS; have z0 := zo_0 hS; have z1 := zo_1 hS
  ((with_reducible refine i_Seq (i_Set (i_Call (i_as1 (i_FR (i_A0 ?_)))))); (with_reducible refine i_fldR (by assumption) ?_); (with_reducible refine i_as1 (i_L2 (i_as0 ?_))); (with_reducible refine i_recv0 (by assumption) ?_); simp only [w_set0, w_set1, w_setn0, w_setn1])
  refine c_on hO hS h2 ht (fun hx => absurd hx (by omega)) (fun k e hk1 => ⟨_, rfl, ?_⟩)
  obtain rfl : d = k := by omega
  ((with_reducible refine i_Seq (i_If (i_cOr (i_cN (i_A3 ?_))))); (with_reducible refine i_f (by omega) ?_); (with_reducible refine i_cNot (i_cZ_ne (i_Call (i_as1 (i_FR (i_A0 ?_)))))); (with_reducible refine i_fldR (by assumption) ?_); (with_reducible refine i_as1 (i_L1 (i_as0 ?_))); (with_reducible refine i_recv0 (by assumption) ?_); (refine c_isPost hO hS h1 ⟨_, rfl, ?_⟩); (rw [decide_eq_true (by omega), zbI_t]); (with_reducible refine i_t (by omega) ?_); (with_reducible refine i_RetI (i_Call (i_as1 (i_IA (i_FR (i_A3 ?_)))))); (with_reducible refine i_fldR (by assumption) ?_); (with_reducible refine i_L1 ?_); (with_reducible refine i_in (by assumption) (by omega) (by omega) ?_); (with_reducible refine i_as0 (i_recv1 ?_)); (rw [(h4 _ hd).2 _ (by omega)]); (refine s_bitCount hO ⟨_, rfl, ?_⟩))
  exact hk
theorem c_tied_bad {O : zOm} (hO : zWld O) (hS : zS O = zmS zC0) {a b d : Int} {P td : Nat} {M : zMem} {K : Option zV → zMem → Prop} (hP : M ((1 : Nat) : Int) ((2 : Nat) : Int) = ((P : Nat) : Int)) (hT : M ((1 : Nat) : Int) ((3 : Nat) : Int) = ((td : Nat) : Int)) (ht : td < 41) (hb : ¬ (((0 ≤ a ∧ a < ((P : Nat) : Int)) ∧ (0 ≤ b ∧ b < ((P : Nat) : Int)) ∧ a ≠ b) ∧ 0 ≤ d ∧ d ≤ ((td : Nat) : Int))) (hk : K (some (0, -1)) M) : zR O F_ToldNet_tied [(2, ((0 : Nat) : Int)), (0, a), (0, b), (0, d)] M K := by
  apply r_ToldNet_tied hO
  unfold B_ToldNet_tied
  have f0_0 := zf_0_0 hS; have z0 := zo_0 hS; have z1 := zo_1 hS
  ((with_reducible refine i_Seq (i_Set (i_Call (i_as1 (i_FR (i_A0 ?_)))))); (with_reducible refine i_fldR (by assumption) ?_); (with_reducible refine i_as1 (i_L3 (i_as0 ?_))); (with_reducible refine i_recv0 (by assumption) ?_); simp only [w_set0, w_set1, w_setn0, w_setn1])
  refine c_on hO hS hT ht (fun hx => ⟨_, rfl, ?_⟩) (fun k e hk1 => ⟨_, rfl, ?_⟩)
  · ((with_reducible refine i_Seq (i_If (i_cOr (i_cN (i_A4 ?_))))); simp only [w_set0, w_set1, w_setn0, w_setn1]; (with_reducible refine i_t trivial ?_); (with_reducible refine i_RetI (i_I ?_)))
    exact hk
  · subst e
    (focus ((with_reducible refine i_Seq (i_If (i_cOr (i_cN (i_A4 ?_))))); (with_reducible refine i_f (by omega) ?_); (with_reducible refine i_cNot (i_cZ_ne (i_Call (i_as1 (i_FR (i_A0 ?_)))))); (with_reducible refine i_fldR (by assumption) ?_); (with_reducible refine i_as1 (i_L1 (i_as1 (i_L2 (i_as0 ?_))))); (with_reducible refine i_recv0 (by assumption) ?_); (refine c_isPair hO hS hP ⟨_, rfl, ?_⟩); (with_reducible refine i_dne ?_ ?_ <;> intro hc); (focus ((with_reducible refine i_RetI (i_eIf (i_cZ_ne (i_Call (i_as1 (i_A4 (i_as1 (i_L1 (i_as1 (i_L2 (i_as0 ?_))))))))))))); rotate_left; (focus ((with_reducible refine i_RetI (i_I ?_)))); rotate_right))
    all_goals first | exact hk | (exfalso; omega)
theorem c_tied {O : zOm} (hO : zWld O) (hS : zS O = zmS zC0) {a b d P td c : Nat} {N : Nat → Nat → Nat → Bool} {M : zMem} {K : Option zV → zMem → Prop} (hD : cDy M P td c N) (ht : td < 41) (hP : P ≤ 16) (ha : a < P) (hb : b < P) (hab : a ≠ b) (hd : d ≤ td) (hk : K (some (0, zbI (N d a b))) M) : zR O F_ToldNet_tied [(2, ((0 : Nat) : Int)), (0, ((a : Nat) : Int)), (0, ((b : Nat) : Int)), (0, ((d : Nat) : Int))] M K := by
  obtain ⟨h1, h2, h3, h4⟩ := hD
  have hn := zNetD hS (d := d) (by omega)
  obtain ⟨n1, n2, n3, n4⟩ := id hn
  apply r_ToldNet_tied hO
  unfold B_ToldNet_tied
  have f0_0 := zf_0_0 hS; have z0 := zo_0 hS; have z1 := zo_1 hS
  ((with_reducible refine i_Seq (i_Set (i_Call (i_as1 (i_FR (i_A0 ?_)))))); (with_reducible refine i_fldR (by assumption) ?_); (with_reducible refine i_as1 (i_L3 (i_as0 ?_))); (with_reducible refine i_recv0 (by assumption) ?_); simp only [w_set0, w_set1, w_setn0, w_setn1])
  refine c_on hO hS h2 ht (fun hx => absurd hx (by omega)) (fun k e hk1 => ⟨_, rfl, ?_⟩)
  obtain rfl : d = k := by omega
  ((with_reducible refine i_Seq (i_If (i_cOr (i_cN (i_A4 ?_))))); (with_reducible refine i_f (by omega) ?_); (with_reducible refine i_cNot (i_cZ_ne (i_Call (i_as1 (i_FR (i_A0 ?_)))))); (with_reducible refine i_fldR (by assumption) ?_); (with_reducible refine i_as1 (i_L1 (i_as1 (i_L2 (i_as0 ?_))))); (with_reducible refine i_recv0 (by assumption) ?_); (refine c_isPair hO hS h1 ⟨_, rfl, ?_⟩); (rw [decide_eq_true (by omega), zbI_t]); (with_reducible refine i_t (by omega) ?_); (with_reducible refine i_RetI (i_eIf (i_cZ_ne (i_Call (i_as1 (i_A4 (i_as1 (i_L1 (i_as1 (i_L2 (i_as0 ?_))))))))))); (with_reducible refine i_recv0 (by assumption) ?_); (refine s_joins hO hn (h4 _ hd) (by omega) (by omega) ⟨_, rfl, ?_⟩))
  cases hc : N d a b
  · rw [hc] at hk
    (rw [zbI_f]; (with_reducible refine i_f (by omega) ?_); (with_reducible refine i_I ?_))
    exact hk
  · rw [hc] at hk
    (rw [zbI_t]; (with_reducible refine i_t (by omega) ?_); (with_reducible refine i_I ?_))
    exact hk
end
section
-- part a4.num.lean.txt
/-! ===== boxes numbered by their least posts ===== -/
theorem zfind_eq {s : Nat → Bool} {i n : Nat} (hi : i < n) (hs : s i = true) (h : ∀ j, j < i → s j = false) : zfind s n = i := by
  obtain ⟨h1, h2, h3⟩ := zfind_ok s n
  rcases Nat.lt_trichotomy (zfind s n) i with q | q | q
  · have := h _ q; rw [h2 (by omega)] at this; cases this
  · exact q
  · have := h3 _ q; rw [hs] at this; cases this
theorem zfind_no {s : Nat → Bool} {n : Nat} (h : ∀ j, j < n → s j = false) : zfind s n = n := by
  obtain ⟨h1, h2, h3⟩ := zfind_ok s n
  rcases Nat.lt_or_ge (zfind s n) n with q | q
  · have := h _ q; rw [h2 q] at this; cases this
  · omega
theorem zfind_ext {s t : Nat → Bool} {n : Nat} (h : ∀ i, i < n → s i = t i) : zfind s n = zfind t n := by
  induction n with
  | zero => rfl
  | succ n ih => unfold zfind; rw [ih (fun i hi => h i (by omega)), h n (by omega)]
theorem zfind_le (s : Nat → Bool) (n : Nat) : zfind s n ≤ n := (zfind_ok s n).1
/-- the first place below k that f puts to l, or k -/
def zfl (f : Nat → Nat) (l k : Nat) : Nat := zfind (fun q => decide (f q = l)) k
theorem zfl_le (f : Nat → Nat) (l k : Nat) : zfl f l k ≤ k := zfind_le _ _
theorem zfl_at {f : Nat → Nat} {l k : Nat} (h : zfl f l k < k) : f (zfl f l k) = l := of_decide_eq_true ((zfind_ok (fun q => decide (f q = l)) k).2.1 h)
theorem zfl_no {f : Nat → Nat} {l k j : Nat} (h : j < zfl f l k) : f j ≠ l := of_decide_eq_false ((zfind_ok (fun q => decide (f q = l)) k).2.2 j h)
theorem zfl_eq {f : Nat → Nat} {l k i : Nat} (hi : i < k) (h : f i = l) (hn : ∀ j, j < i → f j ≠ l) : zfl f l k = i := zfind_eq hi (decide_eq_true h) (fun j hj => decide_eq_false (hn j hj))
theorem zfl_st {f : Nat → Nat} {l k k' : Nat} (h : zfl f l k < k) (hk : k ≤ k') : zfl f l k' = zfl f l k := zfl_eq (by omega) (zfl_at h) (fun _ hj => zfl_no hj)
theorem zfl_su (f : Nat → Nat) (l k : Nat) : zfl f l (k + 1) = if zfl f l k < k then zfl f l k else if f k = l then k else k + 1 := by
  unfold zfl
  rw [zfind]
  simp only [decide_eq_true_eq]
def zNew (f : Nat → Nat) (p : Nat) : Bool := decide (zfl f (f p) p = p)
def zNum (f : Nat → Nat) (p : Nat) : Nat := zcnt (zNew f) (zfl f (f p) p)
theorem zfl_in {f : Nat → Nat} {p k : Nat} (h : p < k) : zfl f (f p) k = zfl f (f p) p := by
  rcases Nat.lt_or_ge (zfl f (f p) p) p with q | q
  · exact zfl_st q (by omega)
  · have e : zfl f (f p) p = p := by have := zfl_le f (f p) p; omega
    rw [e]
    exact zfl_eq h rfl (fun j hj => zfl_no (k := p) (by omega))
theorem zNew_at {f : Nat → Nat} {l k : Nat} (h : zfl f l k < k) : zNew f (zfl f l k) = true := by
  have e := zfl_at h
  unfold zNew
  refine decide_eq_true ?_
  rw [e]
  have := zfl_le f l (zfl f l k)
  rcases Nat.lt_or_ge (zfl f l (zfl f l k)) (zfl f l k) with q | q
  · exact absurd (zfl_at q) (zfl_no q)
  · omega
theorem zNum_lt {f : Nat → Nat} {p k : Nat} (h : p < k) : zNum f p < zcnt (zNew f) k := by
  have h1 := zfl_le f (f p) p
  have h2 := zNew_at (f := f) (l := f p) (k := p + 1) (by rw [zfl_in (by omega)]; omega)
  rw [zfl_in (by omega)] at h2
  exact zcnt_lt _ (by omega) h2
theorem zNum_inj {f : Nat → Nat} {p q : Nat} : zNum f p = zNum f q ↔ f p = f q := by
  have a1 := zfl_le f (f p) p
  have a2 := zfl_le f (f q) q
  have h1 := zNew_at (f := f) (l := f p) (k := p + 1) (by rw [zfl_in (by omega)]; omega)
  have h2 := zNew_at (f := f) (l := f q) (k := q + 1) (by rw [zfl_in (by omega)]; omega)
  have e1 := zfl_at (f := f) (l := f p) (k := p + 1) (by rw [zfl_in (by omega)]; omega)
  have e2 := zfl_at (f := f) (l := f q) (k := q + 1) (by rw [zfl_in (by omega)]; omega)
  rw [zfl_in (by omega)] at h1 h2 e1 e2
  constructor
  · intro h
    have := zcnt_inj _ h1 h2 h
    rw [← e1, this, e2]
  · intro h
    unfold zNum
    rw [← zfl_in (f := f) (p := p) (k := p + q + 1) (by omega), ← zfl_in (f := f) (p := q) (k := p + q + 1) (by omega), h]
theorem zNum_on {f : Nat → Nat} {n b : Nat} (h : b < zcnt (zNew f) n) : ∃ p, p < n ∧ zNew f p = true ∧ zNum f p = b := by
  obtain ⟨y, h1, h2, h3⟩ := zcnt_has _ _ _ h
  exact ⟨y, h1, h2, by unfold zNum; rw [of_decide_eq_true h2, h3]⟩
theorem zNew_n {f : Nat → Nat} {k : Nat} (h : zfl f (f k) k < k) : zNew f k = false := decide_eq_false (by omega)
theorem zNew_y {f : Nat → Nat} {k : Nat} (h : ¬ zfl f (f k) k < k) : zNew f k = true := decide_eq_true (by have := zfl_le f (f k) k; omega)
theorem zNum_y {f : Nat → Nat} {k : Nat} (h : ¬ zfl f (f k) k < k) : zNum f k = zcnt (zNew f) k := by unfold zNum; rw [show zfl f (f k) k = k by have := zfl_le f (f k) k; omega]
/-- the table of labels behind k posts -/
def zFre (f : Nat → Nat) (k l : Nat) : Int := if zfl f l k < k then ((zcnt (zNew f) (zfl f l k) : Nat) : Int) else -1
theorem zFre_n {f : Nat → Nat} {k : Nat} (h : zfl f (f k) k < k) (l : Nat) : zFre f (k + 1) l = zFre f k l := by
  unfold zFre
  rw [zfl_su]
  by_cases q : zfl f l k < k
  · rw [if_pos q, if_pos (by omega), if_pos q]
  · rw [if_neg q, if_neg q]
    by_cases e : f k = l
    · subst e; exact absurd h q
    · rw [if_neg e, if_neg (by omega)]
theorem zFre_y {f : Nat → Nat} {k : Nat} (h : ¬ zfl f (f k) k < k) (l : Nat) : zFre f (k + 1) l = if l = f k then ((zcnt (zNew f) k : Nat) : Int) else zFre f k l := by
  unfold zFre
  rw [zfl_su]
  by_cases e : l = f k
  · subst e; rw [if_neg h, if_pos rfl, if_pos rfl, if_pos (by omega)]
  · rw [if_neg e]
    by_cases q : zfl f l k < k
    · rw [if_pos q, if_pos (by omega), if_pos q]
    · rw [if_neg q, if_neg (show ¬ f k = l from fun w => e w.symm), if_neg q, if_neg (Nat.lt_irrefl _)]
theorem zNum_f {f : Nat → Nat} {k : Nat} (h : zfl f (f k) k < k) : zFre f k (f k) = ((zNum f k : Nat) : Int) := by unfold zFre; rw [if_pos h]; rfl
/-- a parting of the class: posts, boxes -/
def zPR (M : zMem) (p n : Nat) (f : Nat → Nat) (m : Nat) : Prop := M ((p : Nat) : Int) ((3 : Nat) : Int) = ((n : Nat) : Int) ∧ M ((p : Nat) : Int) ((4 : Nat) : Int) = ((m : Nat) : Int) ∧ (∀ q : Nat, q < n → M ((p + 1 : Nat) : Int) ((q : Nat) : Int) = ((f q : Nat) : Int)) ∧ ∀ b : Nat, b < m → M ((p + 2 : Nat) : Int) ((b : Nat) : Int) = zmk (fun q => decide (q < n) && decide (f q = b))
theorem zPR.fr {M M' : zMem} {p n m : Nat} {f : Nat → Nat} (h : zPR M p n f m) (hf : ∀ (b : Int) (j : Int), ((p : Nat) : Int) ≤ b → b ≤ ((p + 2 : Nat) : Int) → M' b j = M b j) : zPR M' p n f m :=
  ⟨by rw [hf _ _ (by omega) (by omega)]; exact h.1, by rw [hf _ _ (by omega) (by omega)]; exact h.2.1, fun q hq => by rw [hf _ _ (by omega) (by omega)]; exact h.2.2.1 q hq, fun b hb => by rw [hf _ _ (by omega) (by omega)]; exact h.2.2.2 b hb⟩
theorem c_number {O : zOm} (hO : zWld O) {p n : Nat} {f : Nat → Nat} {M : zMem} {K : Option zV → zMem → Prop} (hp : zPar (zS O) p) (hn : M ((p : Nat) : Int) ((3 : Nat) : Int) = ((n : Nat) : Int)) (hn2 : n ≤ 16) (hb : ∀ q : Nat, q < n → M ((p + 1 : Nat) : Int) ((q : Nat) : Int) = ((f q : Nat) : Int) ∧ f q ≤ 16)
    (hk : ∀ M', (∀ b j, ¬ (b = ((p : Nat) : Int) ∧ j = 4 ∨ ((p + 1 : Nat) : Int) ≤ b ∧ b ≤ ((p + 3 : Nat) : Int)) → M' b j = M b j) → zPR M' p n (zNum f) (zcnt (zNew f) n) → K none M') : zR O F_Parting_number [(2, ((p : Nat) : Int))] M K := by
  obtain ⟨p0, p1, p2, p3, p4, p5, p6, p7, p8⟩ := hp
  apply r_Parting_number hO
  unfold B_Parting_number
  ((with_reducible refine i_Seq (i_Seq (i_sCall (i_as1 (i_FR (i_A0 ?_)))))); (with_reducible refine i_fldR (by assumption) ?_); (with_reducible refine i_as1 (i_I (i_as0 (i_recv1 ?_)))))
  refine s_fill hO p8 (by decide) (fun M1 h1 h2 h3 => ⟨rfl, ?_⟩)
  have hf : ∀ b j, ¬ (b = ((p : Nat) : Int) ∧ j = 4 ∨ ((p + 1 : Nat) : Int) ≤ b ∧ b ≤ ((p + 3 : Nat) : Int)) → M1 b j = M b j := fun b j q => by rw [h1 b (by simp <;> omega)]
  have hb1 : ∀ q : Nat, q < n → M1 ((p + 1 : Nat) : Int) ((q : Nat) : Int) = ((f q : Nat) : Int) := fun q hq => by rw [h1 _ (by simp <;> omega)]; exact (hb q hq).1
  ((with_reducible refine i_Seq (i_sF (i_A0 (i_I ?_)))); (with_reducible refine i_fld (by assumption) ?_); (with_reducible refine i_Blk (i_Seq (i_Set (i_I ?_)))); simp only [w_set0, w_set1, w_setn0, w_setn1])
  refine w_ForN n (fun k ρ M' => (∃ l, ρ = ((p : Nat) : Int) :: ((k : Nat) : Int) :: l) ∧ (∀ b j, ¬ (b = ((p : Nat) : Int) ∧ j = 4 ∨ ((p + 1 : Nat) : Int) ≤ b ∧ b ≤ ((p + 3 : Nat) : Int)) → M' b j = M b j) ∧ M' ((p : Nat) : Int) ((4 : Nat) : Int) = ((zcnt (zNew f) k : Nat) : Int) ∧ (∀ q : Nat, q < k → M' ((p + 1 : Nat) : Int) ((q : Nat) : Int) = ((zNum f q : Nat) : Int)) ∧ (∀ q : Nat, k ≤ q → q < n → M' ((p + 1 : Nat) : Int) ((q : Nat) : Int) = ((f q : Nat) : Int)) ∧ (∀ l : Nat, l ≤ 16 → M' ((p + 3 : Nat) : Int) ((l : Nat) : Int) = zFre f k l) ∧ ∀ b : Nat, b < zcnt (zNew f) k → M' ((p + 2 : Nat) : Int) ((b : Nat) : Int) = zmk (fun q => decide (q < k) && decide (zNum f q = b))) ⟨⟨_, rfl⟩, (by intro b j q; ((rw [zg_o _ _ (by omega)])); first | done | rfl | exact hf b j (by omega)), zg_s _ _ _ _ _, fun q hq => absurd hq (by omega), fun q _ hq => by rw [zg_n _ _ _ (by omega)]; exact hb1 q hq, fun l hl => ?_, fun b hb => absurd hb (by simp [zcnt])⟩ ?_ ?_
  · rw [zg_n _ _ _ (by omega), h2 l (by omega)]; unfold zFre; rw [if_neg (by omega)]
  · rintro k ρ M2 X hk1 ⟨⟨l, rfl⟩, hf, g4, gl, gh, gf, gm⟩ hX
    have gn : M2 ((p : Nat) : Int) ((3 : Nat) : Int) = ((n : Nat) : Int) := (hf _ _ (by omega)).trans hn
    have gk := gh k (by omega) hk1
    have hfk := (hb k hk1).2
    have ge := gf (f k) hfk
    have hc := zcnt_le (zNew f) k
    by_cases hd : zfl f (f k) k < k
    · rw [zNum_f hd] at ge
      have hlt := zNum_lt (f := f) (p := zfl f (f k) k) hd
      have hnk : zNum f k < zcnt (zNew f) k := by
        have := zNum_inj (f := f) (p := zfl f (f k) k) (q := k)
        rw [zfl_at hd] at this
        rw [← this.mpr rfl]; exact hlt
      ((with_reducible refine i_turn (i_cI_lt (i_L1 (i_F (i_A0 ?_))))); (with_reducible refine i_fld (by assumption) ?_); (rw [gn]); (with_reducible refine i_t (by omega) ?_); (with_reducible refine i_Blk (i_Seq (i_Set (i_IA (i_FR (i_A0 ?_)))))); (with_reducible refine i_fldR (by assumption) ?_); (with_reducible refine i_L1 ?_); (with_reducible refine i_in (by assumption) (by omega) (by omega) ?_); (with_reducible refine i_Seq (i_If (i_cI_eq (i_IA (i_FR ?_))))); (rw [gk]); simp only [w_set0, w_set1, w_setn0, w_setn1]; (with_reducible refine i_A0 ?_); (with_reducible refine i_fldR (by assumption) ?_); rw [w_setT]; (with_reducible refine i_L2 ?_); (with_reducible refine i_in (by assumption) (by omega) (by omega) ?_); (with_reducible refine i_I ?_); (rw [ge]); (with_reducible refine i_f (by omega) ?_); (with_reducible refine i_Seq (i_sIA (i_FR (i_A0 ?_)))); (with_reducible refine i_fldR (by assumption) ?_); (with_reducible refine i_L1 (i_IA (i_FR (i_A0 ?_)))); (with_reducible refine i_fldR (by assumption) ?_); (with_reducible refine i_L2 ?_); (with_reducible refine i_in (by assumption) (by omega) (by omega) ?_); (with_reducible refine i_in (by assumption) (by omega) (by omega) ?_); (with_reducible refine i_IO (i_FR (i_A0 ?_))); (with_reducible refine i_fldR (by assumption) ?_); (with_reducible refine i_IA (i_FR (i_A0 ?_))); (with_reducible refine i_fldR (by assumption) ?_); (with_reducible refine i_L1 ?_); (with_reducible refine i_in (by assumption) (by omega) (by omega) ?_); rw [zg_s]; (with_reducible refine i_in (by assumption) (by omega) (by omega) ?_); (with_reducible refine i_Shl (i_I (i_L1 (i_up (i_Inc1 ?_))))); rw [zg_n _ _ _ (by omega)]; (rw [ge]); rw [zx_inc (by omega)]; simp only [w_set0, w_set1, w_setn0, w_setn1])
      refine hX _ _ ⟨⟨_, rfl⟩, (by intro b j q; ((rw [zg_n _ _ _ (by omega)]; rw [zg_n _ _ _ (by omega)])); first | done | rfl | exact hf b j (by omega)), ?_, fun q hq => ?_, fun q h1 h2 => ?_, fun l hl => ?_, fun b hb => ?_⟩
      · rw [zg_n _ _ _ (by omega), zg_n _ _ _ (by omega), zcnt, zNew_n hd]; exact g4
      · rw [zg_n _ _ _ (by omega)]
        by_cases e : q = k
        · subst e; rw [zg_s]
        · rw [zg_m _ _ _ _ _ (by omega)]; exact gl q (by omega)
      · rw [zg_n _ _ _ (by omega), zg_m _ _ _ _ _ (by omega)]; exact gh q (by omega) h2
      · rw [zg_n _ _ _ (by omega), zg_n _ _ _ (by omega), zFre_n hd]; exact gf l hl
      · rw [zcnt, zNew_n hd] at hb
        have hb2 : b < zcnt (zNew f) k := hb
        by_cases e : b = zNum f k
        · subst e
          rw [zg_s, gm _ hb2, yshl_mk (by omega), zmk_or]
          refine zmk_ext fun q _ => ?_
          by_cases w : q = k
          · subst w; simp
          · simp [w]; by_cases w2 : q < k
            · simp [w2, show q < k + 1 by omega]
            · simp [w2, show ¬ q < k + 1 by omega]
        · rw [zg_m _ _ _ _ _ (by omega), zg_n _ _ _ (by omega), gm _ hb2]
          refine zmk_ext fun q _ => ?_
          by_cases w : q = k
          · subst w; simp [Ne.symm e]
          · by_cases w2 : q < k
            · simp [w2, show q < k + 1 by omega]
            · simp [w2, show ¬ q < k + 1 by omega]
    · have ge1 : M2 ((p + 3 : Nat) : Int) ((f k : Nat) : Int) = -1 := by rw [ge]; unfold zFre; rw [if_neg hd]
      ((with_reducible refine i_turn (i_cI_lt (i_L1 (i_F (i_A0 ?_))))); (with_reducible refine i_fld (by assumption) ?_); (rw [gn]); (with_reducible refine i_t (by omega) ?_); (with_reducible refine i_Blk (i_Seq (i_Set (i_IA (i_FR (i_A0 ?_)))))); (with_reducible refine i_fldR (by assumption) ?_); (with_reducible refine i_L1 ?_); (with_reducible refine i_in (by assumption) (by omega) (by omega) ?_); (with_reducible refine i_Seq (i_If (i_cI_eq (i_IA (i_FR ?_))))); (rw [gk]); simp only [w_set0, w_set1, w_setn0, w_setn1]; (with_reducible refine i_A0 ?_); (with_reducible refine i_fldR (by assumption) ?_); rw [w_setT]; (with_reducible refine i_L2 ?_); (with_reducible refine i_in (by assumption) (by omega) (by omega) ?_); (with_reducible refine i_I ?_); (rw [ge1]); simp only [w_set0, w_set1, w_setn0, w_setn1]; (with_reducible refine i_t trivial ?_); (with_reducible refine i_Seq (i_sIA (i_FR (i_A0 ?_)))); (with_reducible refine i_fldR (by assumption) ?_); (with_reducible refine i_L2 (i_F (i_A0 ?_))); (with_reducible refine i_fld (by assumption) ?_); (with_reducible refine i_in (by assumption) (by omega) (by omega) ?_); (with_reducible refine i_Seq (i_sIA (i_FR (i_A0 ?_)))); (with_reducible refine i_fldR (by assumption) ?_); (with_reducible refine i_F (i_A0 ?_)); (with_reducible refine i_fld (by assumption) ?_); (with_reducible refine i_I ?_); rw [zg_n _ _ _ (by omega)]; (with_reducible refine i_in (by assumption) (by omega) (by omega) ?_); (with_reducible refine i_FO (i_A0 ?_)); (with_reducible refine i_fld (by assumption) ?_); (with_reducible refine i_I ?_); (with_reducible refine i_fld (by assumption) ?_); (with_reducible refine i_Seq (i_sIA (i_FR (i_A0 ?_)))); (with_reducible refine i_fldR (by assumption) ?_); (with_reducible refine i_L1 (i_IA (i_FR (i_A0 ?_)))); (with_reducible refine i_fldR (by assumption) ?_); (with_reducible refine i_L2 ?_); (with_reducible refine i_in (by assumption) (by omega) (by omega) ?_); (with_reducible refine i_in (by assumption) (by omega) (by omega) ?_); (with_reducible refine i_IO (i_FR (i_A0 ?_))); (with_reducible refine i_fldR (by assumption) ?_); (with_reducible refine i_IA (i_FR (i_A0 ?_))); (with_reducible refine i_fldR (by assumption) ?_); (with_reducible refine i_L1 ?_); (with_reducible refine i_in (by assumption) (by omega) (by omega) ?_); rw [zg_s]; rw [zg_n _ _ _ (by omega)]; rw [zg_n _ _ _ (by omega)]; rw [zg_s]; (with_reducible refine i_in (by assumption) (by omega) (by omega) ?_); (with_reducible refine i_Shl (i_I (i_L1 (i_up (i_Inc1 ?_))))); rw [zg_n _ _ _ (by omega)]; rw [zg_n _ _ _ (by omega)]; rw [zg_n _ _ _ (by omega)]; rw [zg_n _ _ _ (by omega)]; rw [zg_s]; (rw [g4]); rw [zx_inc (by omega)]; rw [zx_inc (by omega)]; simp only [w_set0, w_set1, w_setn0, w_setn1])
      refine hX _ _ ⟨⟨_, rfl⟩, (by intro b j q; ((rw [zg_n _ _ _ (by omega)]; rw [zg_n _ _ _ (by omega)]; rw [zg_o _ _ (by omega)]; rw [zg_n _ _ _ (by omega)]; rw [zg_n _ _ _ (by omega)])); first | done | rfl | exact hf b j (by omega)), ?_, fun q hq => ?_, fun q h1 h2 => ?_, fun l hl => ?_, fun b hb => ?_⟩
      · (rw [zg_n _ _ _ (by omega)]; rw [zg_n _ _ _ (by omega)]; rw [zg_s])
        rw [zcnt, zNew_y hd]; rfl
      · rw [zg_n _ _ _ (by omega)]
        by_cases e : q = k
        · subst e; rw [zg_s, zNum_y hd]
        · (rw [zg_m _ _ _ _ _ (by omega)]; rw [zg_n _ _ _ (by omega)]; rw [zg_n _ _ _ (by omega)]; rw [zg_n _ _ _ (by omega)])
          exact gl q (by omega)
      · (rw [zg_n _ _ _ (by omega)]; rw [zg_m _ _ _ _ _ (by omega)]; rw [zg_n _ _ _ (by omega)]; rw [zg_n _ _ _ (by omega)]; rw [zg_n _ _ _ (by omega)])
        exact gh q (by omega) h2
      · rw [zFre_y hd]
        by_cases e : l = f k
        · subst e
          rw [if_pos rfl]
          (rw [zg_n _ _ _ (by omega)]; rw [zg_n _ _ _ (by omega)]; rw [zg_n _ _ _ (by omega)]; rw [zg_n _ _ _ (by omega)]; rw [zg_s])
        · rw [if_neg e]
          (rw [zg_n _ _ _ (by omega)]; rw [zg_n _ _ _ (by omega)]; rw [zg_n _ _ _ (by omega)]; rw [zg_n _ _ _ (by omega)]; rw [zg_m _ _ _ _ _ (by omega)])
          exact gf l hl
      · rw [zcnt, zNew_y hd] at hb
        simp only [if_true] at hb
        by_cases e : b = zcnt (zNew f) k
        · subst e
          rw [zg_s]
          (skip)
          rw [yshl_mk (by omega), zmk_0, zmk_or]
          refine zmk_ext fun q _ => ?_
          by_cases w : q = k
          · subst w; simp [zNum_y hd]
          · by_cases w2 : q < k
            · have := zNum_lt (f := f) w2
              simp [w, w2, show q < k + 1 by omega]; omega
            · simp [w, w2, show ¬ q < k + 1 by omega]
        · have hb2 : b < zcnt (zNew f) k := by omega
          (rw [zg_m _ _ _ _ _ (by omega)]; rw [zg_n _ _ _ (by omega)]; rw [zg_n _ _ _ (by omega)]; rw [zg_m _ _ _ _ _ (by omega)]; rw [zg_n _ _ _ (by omega)])
          rw [gm _ hb2]
          refine zmk_ext fun q _ => ?_
          by_cases w : q = k
          · subst w; simp [zNum_y hd]; omega
          · by_cases w2 : q < k
            · simp [w2, show q < k + 1 by omega]
            · simp [w2, show ¬ q < k + 1 by omega]
  · rintro ρ M2 X ⟨⟨l, rfl⟩, hf, g4, gl, gh, gf, gm⟩
    have gn : M2 ((p : Nat) : Int) ((3 : Nat) : Int) = ((n : Nat) : Int) := (hf _ _ (by omega)).trans hn
    ((with_reducible refine i_turn (i_cI_lt (i_L1 (i_F (i_A0 ?_))))); (with_reducible refine i_fld (by assumption) ?_); (rw [gn]); (with_reducible refine i_f (by omega) ?_); (with_reducible refine i_RetV ?_))
    exact hk _ hf ⟨gn, g4, gl, gm⟩
/-! the reference's -/
def rBox (M : zMem) (t n : Nat) (f : Nat → Nat) : Prop := ∀ q : Nat, q < n → M ((259 : Nat) : Int) ((16 * t + q : Nat) : Int) = ((f q : Nat) : Int)
def rSiz (M : zMem) (t : Nat) (s : Nat → Nat) : Prop := ∀ b : Nat, b < 16 → M ((260 : Nat) : Int) ((16 * t + b : Nat) : Int) = ((s b : Nat) : Int)
/-- how many posts a box has -/
def zSz (f : Nat → Nat) (n b : Nat) : Nat := zcnt (fun q => decide (f q = b)) n
theorem zSz_su (f : Nat → Nat) (n b : Nat) : zSz f (n + 1) b = zSz f n b + (if f n = b then 1 else 0) := by
  unfold zSz
  rw [zcnt]
  simp only [decide_eq_true_eq]
theorem zSz_le (f : Nat → Nat) (n b : Nat) : zSz f n b ≤ n := zcnt_le _ _
theorem zNum_lab {f : Nat → Nat} {k : Nat} (hd : zfl f (f k) k < k) : zNum f k < zcnt (zNew f) k := by
  have hlt := zNum_lt (f := f) (p := zfl f (f k) k) hd
  have := zNum_inj (f := f) (p := zfl f (f k) k) (q := k)
  rw [zfl_at hd] at this
  rw [← this.mpr rfl]; exact hlt
theorem zNum_le (f : Nat → Nat) (k : Nat) : zNum f k ≤ k := by
  have := zNum_lt (f := f) (p := k) (k := k + 1) (by omega)
  have := zcnt_le (zNew f) (k + 1)
  omega
theorem m_number {O : zOm} (hO : zWld O) (hS : zS O = zmS zC0) {t n : Nat} {f : Nat → Nat} {M : zMem} {K : Option zV → zMem → Prop} (ht : t < 7) (hn : M 250 ((1 : Nat) : Int) = ((n : Nat) : Int)) (hn2 : n ≤ 16) (hb : rBox M t n f) (hb2 : ∀ q : Nat, q < n → f q ≤ 16)
    (hk : ∀ M', (∀ b j, ¬ (b = 258 ∧ j = ((t : Nat) : Int) ∨ (b = 259 ∨ b = 260) ∧ ((16 * t : Nat) : Int) ≤ j ∧ j < ((16 * t + 16 : Nat) : Int) ∨ b = 271) → M' b j = M b j) → M' ((258 : Nat) : Int) ((t : Nat) : Int) = ((zcnt (zNew f) n : Nat) : Int) → rBox M' t n (zNum f) → rSiz M' t (zSz (zNum f) n) → (∀ l : Nat, l ≤ 16 → M' ((271 : Nat) : Int) ((l : Nat) : Int) = zFre f n l) → K none M') : zR O F_Model_number [(2, 250), (0, ((t : Nat) : Int))] M K := by
  apply r_Model_number hO
  unfold B_Model_number
  have f25 := zMF (k := 25) hS rfl; have a271 := zMA (a := 271) (ty := .int) (n := 17) hS rfl; have f14 := zMF (k := 14) hS rfl; have a260 := zMA (a := 260) (ty := .int) (n := 112) hS rfl; have f1 := zMF (k := 1) hS rfl; have f13 := zMF (k := 13) hS rfl; have a259 := zMA (a := 259) (ty := .int) (n := 112) hS rfl; have f12 := zMF (k := 12) hS rfl; have a258 := zMA (a := 258) (ty := .int) (n := 7) hS rfl; have zo := zMO hS
  ((with_reducible refine i_Seq (i_Seq (i_Blk (i_Seq (i_Set (i_I ?_)))))); simp only [w_set0, w_set1, w_setn0, w_setn1])
  refine w_ForN 17 (fun k ρ M' => ρ = [250, ((t : Nat) : Int), ((k : Nat) : Int)] ∧ (∀ b j, ¬ b = 271 → M' b j = M b j) ∧ ∀ j : Nat, j < k → M' ((271 : Nat) : Int) j = -1) ⟨rfl, fun _ _ _ => rfl, fun j hj => absurd hj (by omega)⟩ ?_ ?_
  · rintro k ρ M1 X hk1 ⟨rfl, hf, h⟩ hX
    ((with_reducible refine i_turn (i_cI_lt (i_L2 (i_I ?_)))); (with_reducible refine i_t (by omega) ?_); (with_reducible refine i_sIA (i_FR (i_A0 ?_))); (with_reducible refine i_fldR (by assumption) ?_); (with_reducible refine i_L2 (i_I ?_)); (with_reducible refine i_in (by assumption) (by omega) (by omega) ?_); (with_reducible refine i_up (i_Inc2 ?_)); rw [zx_inc (by omega)]; simp only [w_set0, w_set1, w_setn0, w_setn1])
    refine hX _ _ ⟨rfl, (by intro b j q; ((rw [zg_n _ _ _ (by omega)])); first | done | rfl | exact hf b j (by omega)), fun j hj => ?_⟩
    by_cases e : j = k
    · subst e; rw [zg_s]
    · rw [zg_m _ _ _ _ _ (by omega)]; exact h j (by omega)
  rintro ρ M1 X ⟨rfl, hf0, h0⟩
  ((with_reducible refine i_turn (i_cI_lt (i_L2 (i_I ?_)))); (with_reducible refine i_f (by omega) ?_); (with_reducible refine i_Seq (i_Blk (i_Seq (i_Set (i_I ?_))))); simp only [w_set0, w_set1, w_setn0, w_setn1])
  refine w_ForN 16 (fun k ρ M' => ρ = [250, ((t : Nat) : Int), ((k : Nat) : Int)] ∧ (∀ b j, ¬ (b = 260 ∧ ((16 * t : Nat) : Int) ≤ j ∧ j < ((16 * t + 16 : Nat) : Int)) → M' b j = M1 b j) ∧ ∀ j : Nat, j < k → M' ((260 : Nat) : Int) ((16 * t + j : Nat) : Int) = 0) ⟨rfl, fun _ _ _ => rfl, fun j hj => absurd hj (by omega)⟩ ?_ ?_
  · rintro k ρ M2 X hk1 ⟨rfl, hf, h⟩ hX
    ((with_reducible refine i_turn (i_cI_lt (i_L2 (i_I ?_)))); (with_reducible refine i_t (by omega) ?_); (with_reducible refine i_sIA (i_FR (i_A0 ?_))); (with_reducible refine i_fldR (by assumption) ?_); (with_reducible refine i_Add (i_Mul (i_I (i_L1 (i_L2 (i_I ?_)))))); rw [zx_cmul (by omega)]; rw [zx_add (by omega)]; (with_reducible refine i_in (by assumption) (by omega) (by omega) ?_); (with_reducible refine i_up (i_Inc2 ?_)); rw [zx_inc (by omega)]; simp only [w_set0, w_set1, w_setn0, w_setn1])
    refine hX _ _ ⟨rfl, (by intro b j q; ((rw [zg_o _ _ (by omega)])); first | done | rfl | exact hf b j (by omega)), fun j hj => ?_⟩
    by_cases e : j = k
    · subst e; rw [zg_s]
    · rw [zg_m _ _ _ _ _ (by omega)]; exact h j (by omega)
  rintro ρ M2 X ⟨rfl, hf1, h1⟩
  ((with_reducible refine i_turn (i_cI_lt (i_L2 (i_I ?_)))); (with_reducible refine i_f (by omega) ?_); (with_reducible refine i_Seq (i_Set (i_I (i_Seq (i_Blk (i_Seq (i_Set (i_I ?_)))))))); simp only [w_set0, w_set1, w_setn0, w_setn1])
  refine w_ForN n (fun k ρ M' => (∃ l, ρ = 250 :: ((t : Nat) : Int) :: ((zcnt (zNew f) k : Nat) : Int) :: ((k : Nat) : Int) :: l) ∧ (∀ b j, ¬ ((b = 259 ∨ b = 260) ∧ ((16 * t : Nat) : Int) ≤ j ∧ j < ((16 * t + 16 : Nat) : Int) ∨ b = 271) → M' b j = M b j) ∧ (∀ q : Nat, q < k → M' ((259 : Nat) : Int) ((16 * t + q : Nat) : Int) = ((zNum f q : Nat) : Int)) ∧ (∀ q : Nat, k ≤ q → q < n → M' ((259 : Nat) : Int) ((16 * t + q : Nat) : Int) = ((f q : Nat) : Int)) ∧ (∀ l : Nat, l ≤ 16 → M' ((271 : Nat) : Int) ((l : Nat) : Int) = zFre f k l) ∧ rSiz M' t (zSz (zNum f) k)) ⟨⟨_, rfl⟩, fun b j q => by rw [hf1 b j (by omega), hf0 b j (by omega)], fun q hq => absurd hq (by omega), fun q _ hq => by rw [hf1 _ _ (by omega), hf0 _ _ (by omega)]; exact hb q hq, fun l hl => by rw [hf1 _ _ (by omega), h0 l (by omega)]; unfold zFre; rw [if_neg (by omega)], fun b hb => h1 b hb⟩ ?_ ?_
  · rintro k ρ M3 X hk1 ⟨⟨l, rfl⟩, hf, gl, gh, gf, gs⟩ hX
    have gn : M3 250 ((1 : Nat) : Int) = ((n : Nat) : Int) := (hf _ _ (by omega)).trans hn
    have gk := gh k (by omega) hk1
    have hfk := hb2 k hk1
    have ge := gf (f k) hfk
    have hc := zcnt_le (zNew f) k
    have hle := zNum_le f k
    have gs1 := gs (zNum f k) (by omega)
    have hsz := zSz_le (zNum f) k (zNum f k)
    by_cases hd : zfl f (f k) k < k
    · rw [zNum_f hd] at ge
      ((with_reducible refine i_turn (i_cI_lt (i_L3 (i_F (i_A0 ?_))))); (with_reducible refine i_fld (by assumption) ?_); (rw [gn]); (with_reducible refine i_t (by omega) ?_); (with_reducible refine i_Blk (i_Seq (i_Set (i_IA (i_FR (i_A0 ?_)))))); (with_reducible refine i_fldR (by assumption) ?_); (with_reducible refine i_Add (i_Mul (i_I (i_L1 (i_L3 ?_))))); rw [zx_cmul (by omega)]; rw [zx_add (by omega)]; (with_reducible refine i_in (by assumption) (by omega) (by omega) ?_); (with_reducible refine i_Seq (i_If (i_cZ_lt (i_IA (i_FR ?_))))); (rw [gk]); simp only [w_set0, w_set1, w_setn0, w_setn1]; (with_reducible refine i_A0 ?_); (with_reducible refine i_fldR (by assumption) ?_); rw [w_setT]; (with_reducible refine i_L4 ?_); (with_reducible refine i_in (by assumption) (by omega) (by omega) ?_); (rw [ge]); (with_reducible refine i_f (by omega) ?_); (with_reducible refine i_Seq (i_sIA (i_FR (i_A0 ?_)))); (with_reducible refine i_fldR (by assumption) ?_); (with_reducible refine i_Add (i_Mul (i_I (i_L1 (i_L3 (i_IA (i_FR (i_A0 ?_)))))))); (with_reducible refine i_fldR (by assumption) ?_); (with_reducible refine i_L4 ?_); (with_reducible refine i_in (by assumption) (by omega) (by omega) ?_); (rw [ge]); rw [zx_cmul (by omega)]; rw [zx_add (by omega)]; (with_reducible refine i_in (by assumption) (by omega) (by omega) ?_); (with_reducible refine i_IO (i_FR (i_A0 ?_))); (with_reducible refine i_fldR (by assumption) ?_); (with_reducible refine i_Add (i_Mul (i_I (i_L1 (i_IA (i_FR (i_A0 ?_))))))); (with_reducible refine i_fldR (by assumption) ?_); (with_reducible refine i_L4 ?_); (with_reducible refine i_in (by assumption) (by omega) (by omega) ?_); rw [zg_n _ _ _ (by omega)]; rw [zg_n _ _ _ (by omega)]; (rw [ge]); rw [zx_cmul (by omega)]; rw [zx_add (by omega)]; (with_reducible refine i_in (by assumption) (by omega) (by omega) ?_); (with_reducible refine i_I (i_up (i_Inc3 ?_))); (rw [gs1]); rw [zx_inc (by omega)]; rw [zx_inc (by omega)]; simp only [w_set0, w_set1, w_setn0, w_setn1])
      refine hX _ _ ⟨⟨_, by rw [show zcnt (zNew f) (k + 1) = zcnt (zNew f) k by rw [zcnt, zNew_n hd]; rfl]⟩, (by intro b j q; ((rw [zg_o _ _ (by omega)]; rw [zg_o _ _ (by omega)])); first | done | rfl | exact hf b j (by omega)), fun q hq => ?_, fun q h1 h2 => ?_, fun l hl => ?_, fun b hb => ?_⟩
      · by_cases e : q = k
        · subst e
          (rw [zg_n _ _ _ (by omega)]; rw [zg_s])
        · (rw [zg_n _ _ _ (by omega)]; rw [zg_m _ _ _ _ _ (by omega)])
          exact gl q (by omega)
      · (rw [zg_n _ _ _ (by omega)]; rw [zg_m _ _ _ _ _ (by omega)])
        exact gh q (by omega) h2
      · rw [zFre_n hd]
        (rw [zg_n _ _ _ (by omega)]; rw [zg_n _ _ _ (by omega)])
        exact gf l hl
      · rw [zSz_su]
        by_cases e : b = zNum f k
        · subst e; rw [zg_s, if_pos rfl]
        · rw [if_neg (Ne.symm e)]
          (rw [zg_m _ _ _ _ _ (by omega)]; rw [zg_n _ _ _ (by omega)])
          exact gs b hb
    · have ge1 : M3 ((271 : Nat) : Int) ((f k : Nat) : Int) = -1 := by rw [ge]; unfold zFre; rw [if_neg hd]
      have hy := zNum_y hd
      ((with_reducible refine i_turn (i_cI_lt (i_L3 (i_F (i_A0 ?_))))); (with_reducible refine i_fld (by assumption) ?_); (rw [gn]); (rw [← hy]); (with_reducible refine i_t (by omega) ?_); (with_reducible refine i_Blk (i_Seq (i_Set (i_IA (i_FR (i_A0 ?_)))))); (with_reducible refine i_fldR (by assumption) ?_); (with_reducible refine i_Add (i_Mul (i_I (i_L1 (i_L3 ?_))))); rw [zx_cmul (by omega)]; rw [zx_add (by omega)]; (with_reducible refine i_in (by assumption) (by omega) (by omega) ?_); (with_reducible refine i_Seq (i_If (i_cZ_lt (i_IA (i_FR ?_))))); (rw [gk]); simp only [w_set0, w_set1, w_setn0, w_setn1]; (with_reducible refine i_A0 ?_); (with_reducible refine i_fldR (by assumption) ?_); rw [w_setT]; (with_reducible refine i_L4 ?_); (with_reducible refine i_in (by assumption) (by omega) (by omega) ?_); (rw [ge1]); (with_reducible refine i_t (by omega) ?_); (with_reducible refine i_Seq (i_sIA (i_FR (i_A0 ?_)))); (with_reducible refine i_fldR (by assumption) ?_); (with_reducible refine i_L4 (i_L2 ?_)); (with_reducible refine i_in (by assumption) (by omega) (by omega) ?_); (with_reducible refine i_Inc2 (i_Seq (i_sIA (i_FR ?_)))); rw [zx_inc (by omega)]; simp only [w_set0, w_set1, w_setn0, w_setn1]; (with_reducible refine i_A0 ?_); (with_reducible refine i_fldR (by assumption) ?_); (with_reducible refine i_Add (i_Mul (i_I (i_L1 (i_L3 (i_IA (i_FR (i_A0 ?_)))))))); (with_reducible refine i_fldR (by assumption) ?_); (with_reducible refine i_L4 ?_); (with_reducible refine i_in (by assumption) (by omega) (by omega) ?_); rw [zg_s]; rw [zx_cmul (by omega)]; rw [zx_add (by omega)]; (with_reducible refine i_in (by assumption) (by omega) (by omega) ?_); (with_reducible refine i_IO (i_FR (i_A0 ?_))); (with_reducible refine i_fldR (by assumption) ?_); (with_reducible refine i_Add (i_Mul (i_I (i_L1 (i_IA (i_FR (i_A0 ?_))))))); (with_reducible refine i_fldR (by assumption) ?_); (with_reducible refine i_L4 ?_); (with_reducible refine i_in (by assumption) (by omega) (by omega) ?_); rw [zg_n _ _ _ (by omega)]; rw [zg_s]; rw [zg_n _ _ _ (by omega)]; rw [zg_n _ _ _ (by omega)]; rw [zx_cmul (by omega)]; rw [zx_add (by omega)]; (with_reducible refine i_in (by assumption) (by omega) (by omega) ?_); (with_reducible refine i_I (i_up (i_Inc3 ?_))); (rw [gs1]); rw [zx_inc (by omega)]; rw [zx_inc (by omega)]; simp only [w_set0, w_set1, w_setn0, w_setn1])
      refine hX _ _ ⟨⟨_, by rw [show zcnt (zNew f) (k + 1) = zNum f k + 1 by rw [zcnt, zNew_y hd, hy]; rfl]⟩, (by intro b j q; ((rw [zg_o _ _ (by omega)]; rw [zg_o _ _ (by omega)]; rw [zg_n _ _ _ (by omega)])); first | done | rfl | exact hf b j (by omega)), fun q hq => ?_, fun q h1 h2 => ?_, fun l hl => ?_, fun b hb => ?_⟩
      · by_cases e : q = k
        · subst e
          (rw [zg_n _ _ _ (by omega)]; rw [zg_s])
        · (rw [zg_n _ _ _ (by omega)]; rw [zg_m _ _ _ _ _ (by omega)]; rw [zg_n _ _ _ (by omega)])
          exact gl q (by omega)
      · (rw [zg_n _ _ _ (by omega)]; rw [zg_m _ _ _ _ _ (by omega)]; rw [zg_n _ _ _ (by omega)])
        exact gh q (by omega) h2
      · rw [zFre_y hd]
        by_cases e : l = f k
        · subst e
          rw [if_pos rfl]
          (rw [zg_n _ _ _ (by omega)]; rw [zg_n _ _ _ (by omega)]; rw [zg_s]; (rw [← hy]))
        · rw [if_neg e]
          (rw [zg_n _ _ _ (by omega)]; rw [zg_n _ _ _ (by omega)]; rw [zg_m _ _ _ _ _ (by omega)])
          exact gf l hl
      · rw [zSz_su]
        by_cases e : b = zNum f k
        · subst e; rw [zg_s, if_pos rfl]
        · rw [if_neg (Ne.symm e)]
          (rw [zg_m _ _ _ _ _ (by omega)]; rw [zg_n _ _ _ (by omega)]; rw [zg_n _ _ _ (by omega)])
          exact gs b hb
  · rintro ρ M3 X ⟨⟨l, rfl⟩, hf, gl, gh, gf, gs⟩
    have gn : M3 250 ((1 : Nat) : Int) = ((n : Nat) : Int) := (hf _ _ (by omega)).trans hn
    ((with_reducible refine i_turn (i_cI_lt (i_L3 (i_F (i_A0 ?_))))); (with_reducible refine i_fld (by assumption) ?_); (rw [gn]); (with_reducible refine i_f (by omega) ?_); (with_reducible refine i_sIA (i_FR (i_A0 ?_))); (with_reducible refine i_fldR (by assumption) ?_); (with_reducible refine i_L1 (i_L2 ?_)); (with_reducible refine i_in (by assumption) (by omega) (by omega) ?_); (with_reducible refine i_RetV ?_))
    refine hk _ (by intro b j q; ((rw [zg_o _ _ (by omega)])); first | done | rfl | exact hf b j (by omega)) (zg_s _ _ _ _ _) (fun q hq => ?_) (fun b hb => ?_) (fun l hl => ?_)
    · (rw [zg_n _ _ _ (by omega)])
      exact gl q hq
    · (rw [zg_n _ _ _ (by omega)])
      exact gs b hb
    · (rw [zg_n _ _ _ (by omega)])
      exact gf l hl
end
section
-- part a4b.chain.lean.txt
/-! ===== pairs of neighbours in a row: the class ===== -/
theorem s_Net_chain {O : zOm} (hO : zWld O) {n P r z f c : Nat} {T : Nat → Nat → Bool} {w : Nat → Nat} {M : zMem} {K : Option zV → zMem → Prop} (hn : zNet (zS O) n) (hM : zNR M n P T) (hr : zArr (zS O) (r : Int) .int z) (hw : ∀ i : Nat, f ≤ i → i < f + c → M (r : Int) i = (w i : Nat) ∧ w i < 16) (hd : ∀ i : Nat, f ≤ i → i + 1 < f + c → w i ≠ w (i + 1)) (hz : f + c ≤ z) (hz2 : z < 100000) (hrn : r ≠ n + 1)
    (hk : ∀ M', zFr [((n + 1 : Nat) : Int)] M M' → zNR M' n P (zchn T w f (c - 1)) → K none M') : zR O F_Net_chain [(2, (n : Int)), (2, (r : Int)), (0, (f : Int)), (0, (c : Int))] M K := by
  obtain ⟨hn1, hn2, hn3, hn4⟩ := hn
  apply r_Net_chain hO
  unfold B_Net_chain
  ((with_reducible refine i_Seq (i_Blk (i_Seq (i_Set (i_L2 ?_))))); simp only [w_set0, w_set1, w_setn0, w_setn1])
  refine w_ForN (c - 1) (fun k ρ M' => (∃ l, ρ = (n : Int) :: (r : Int) :: (f : Int) :: (c : Int) :: ((f + k : Nat) : Int) :: l) ∧ zFr [((n + 1 : Nat) : Int)] M M' ∧ zNR M' n P (zchn T w f k)) ⟨⟨_, rfl⟩, zFr.rf, hM⟩ ?_ ?_
  · rintro k ρ M1 X hk1 ⟨⟨l, rfl⟩, hf, h⟩ hX
    have w1 := hw (f + k) (by omega) (by omega)
    have w2 := hw (f + k + 1) (by omega) (by omega)
    have w3 := hd (f + k) (by omega) (by omega)
    rw [← hf _ (by simp; omega)] at w1 w2
    obtain ⟨u1, u2⟩ := w1
    obtain ⟨v1, v2⟩ := w2
    have hX2 : ∀ l M', zFr [((n + 1 : Nat) : Int)] M M' → zNR M' n P (zchn T w f (k + 1)) → X ((n : Int) :: (r : Int) :: (f : Int) :: (c : Int) :: ((f + k + 1 : Nat) : Int) :: l) M' := fun l M' a b => hX _ _ ⟨⟨l, rfl⟩, a, b⟩
    clear hX
    have hs : ∀ p q, zchn T w f (k + 1) p q = ((zchn T w f k p q || (decide (p = w (f + k)) && decide (q = w (f + k + 1)))) || (decide (p = w (f + k + 1)) && decide (q = w (f + k)))) := fun p q => rfl
    generalize w (f + k) = a at *
    generalize w (f + k + 1) = b at *
    generalize zchn T w f k = Tk at *
    have h1 := h.orow u2 (fun i => decide (i = b))
    have f1 := hf.put (ids := [((n + 1 : Nat) : Int)]) (a := ((n + 1 : Nat) : Int)) (by simp) (zup (M1 ((n + 1 : Nat) : Int)) a (zor (M1 ((n + 1 : Nat) : Int) a) (zmk (fun i => decide (i = b)))))
    have ea : yshl 1 ((b : Nat) : Int) = zmk (fun i => decide (i = b)) := yshl_mk v2
    have eb : yshl 1 ((a : Nat) : Int) = zmk (fun i => decide (i = a)) := yshl_mk u2
    ((with_reducible refine i_turn (i_cAnd (i_cI_lt (i_L4 (i_Sub (i_Add (i_L2 (i_L3 (i_I ?_))))))))); rw [zx_add (by omega)]; rw [zx_subc (by omega) (by omega)]; (with_reducible refine i_t (by omega) ?_); (with_reducible refine i_cI_lt (i_Add (i_L4 (i_I (i_Len (i_A1 ?_)))))); (with_reducible refine i_len (by assumption) (by omega) ?_); rw [zx_inc (by omega)]; (with_reducible refine i_t (by omega) ?_); (with_reducible refine i_Blk (i_Seq (i_Set (i_IA (i_A1 (i_L4 ?_)))))); (with_reducible refine i_in (by assumption) (by omega) (by omega) ?_); (with_reducible refine i_Seq (i_Set (i_IA ?_))); (rw [u1]); simp only [w_set0, w_set1, w_setn0, w_setn1]; (with_reducible refine i_A1 (i_Add (i_L4 (i_I ?_)))); rw [zx_inc (by omega)]; (with_reducible refine i_in (by assumption) (by omega) (by omega) ?_); (with_reducible refine i_If (i_cAnd (i_cAnd (i_cI_ne ?_)))); (rw [v1]); simp only [w_set0, w_set1, w_setn0, w_setn1]; rw [w_setT]; simp only [w_set0, w_set1, w_setn0, w_setn1]; (with_reducible refine i_L5 (i_I ?_)); rw [w_setT]; (with_reducible refine i_t (by omega) ?_); (with_reducible refine i_cI_ne (i_L6 (i_I ?_))); (with_reducible refine i_t (by omega) ?_); (with_reducible refine i_cI_ne (i_L5 (i_L6 ?_))); (with_reducible refine i_t (by omega) ?_); (with_reducible refine i_Seq (i_IO (i_FR (i_A0 ?_)))); (with_reducible refine i_fldR (by assumption) ?_); (with_reducible refine i_L5 ?_); (with_reducible refine i_in (by assumption) (by omega) (by omega) ?_); (with_reducible refine i_Shl (i_I (i_L6 (i_IO (i_FR (i_A0 ?_)))))); (with_reducible refine i_fldR (by assumption) ?_); (with_reducible refine i_L6 ?_); (with_reducible refine i_in (by assumption) (by omega) (by omega) ?_); (with_reducible refine i_Shl (i_I (i_L5 (i_up (i_Inc4 ?_))))); rw [zg_m _ _ _ _ _ (by omega)]; (rw [ea]); (rw [eb]); rw [zx_inc (by omega)]; simp only [w_set0, w_set1, w_setn0, w_setn1])
    have h2 := h1.orow v2 (fun i => decide (i = a))
    have e2 : zput M1 ((n + 1 : Nat) : Int) (zup (M1 ((n + 1 : Nat) : Int)) a (zor (M1 ((n + 1 : Nat) : Int) a) (zmk (fun i => decide (i = b))))) ((n + 1 : Nat) : Int) ((b : Nat) : Int) = M1 ((n + 1 : Nat) : Int) ((b : Nat) : Int) := by rw [zput_self, zup_ne _ _ (by omega)]
    rw [e2] at h2
    exact hX2 _ _ (f1.put (by simp) _) (h2.ext fun p q _ _ => (hs p q).symm)
  · rintro ρ M1 X ⟨⟨l, rfl⟩, hf, h⟩
    ((with_reducible refine i_turn (i_cAnd (i_cI_lt (i_L4 (i_Sub (i_Add (i_L2 (i_L3 (i_I ?_))))))))); rw [zx_add (by omega)]; rw [zx_s (by omega) (by omega)]; (with_reducible refine i_f (by omega) ?_); (with_reducible refine i_RetV ?_))
    exact hk _ hf h
/-- the same where the row holds what is no post, too -/
theorem s_Net_chainV {O : zOm} (hO : zWld O) {n P r z f c : Nat} {T : Nat → Nat → Bool} {M : zMem} {K : Option zV → zMem → Prop} (hn : zNet (zS O) n) (hM : zNR M n P T) (hr : zArr (zS O) (r : Int) .int z) (hw : ∀ i : Nat, f ≤ i → i < f + c → M (r : Int) i = -1 ∨ ∃ q : Nat, q < 16 ∧ M (r : Int) i = ((q : Nat) : Int)) (hz : f + c ≤ z) (hz2 : z < 100000) (hrn : r ≠ n + 1)
    (hk : ∀ M', zFr [((n + 1 : Nat) : Int)] M M' → (∃ T', zNR M' n P T') → K none M') : zR O F_Net_chain [(2, (n : Int)), (2, (r : Int)), (0, (f : Int)), (0, (c : Int))] M K := by
  obtain ⟨hn1, hn2, hn3, hn4⟩ := hn
  apply r_Net_chain hO
  unfold B_Net_chain
  ((with_reducible refine i_Seq (i_Blk (i_Seq (i_Set (i_L2 ?_))))); simp only [w_set0, w_set1, w_setn0, w_setn1])
  refine w_ForN (c - 1) (fun k ρ M' => (∃ l, ρ = (n : Int) :: (r : Int) :: (f : Int) :: (c : Int) :: ((f + k : Nat) : Int) :: l) ∧ zFr [((n + 1 : Nat) : Int)] M M' ∧ ∃ T', zNR M' n P T') ⟨⟨_, rfl⟩, zFr.rf, _, hM⟩ ?_ ?_
  · rintro k ρ M1 X hk1 ⟨⟨l, rfl⟩, hf, T', h⟩ hX
    have hfr : ∀ j, M1 (r : Int) j = M (r : Int) j := fun j => by rw [hf _ (by simp; omega)]
    have w1 := hw (f + k) (by omega) (by omega)
    have w2 := hw (f + k + 1) (by omega) (by omega)
    rw [← hfr] at w1 w2
    have hX2 : ∀ l M', zFr [((n + 1 : Nat) : Int)] M M' → (∃ T', zNR M' n P T') → X ((n : Int) :: (r : Int) :: (f : Int) :: (c : Int) :: ((f + k + 1 : Nat) : Int) :: l) M' := fun l M' a b => hX _ _ ⟨⟨l, rfl⟩, a, b⟩
    clear hX
    rcases w1 with u1 | ⟨a, u2, u1⟩
    · rcases w2 with v1 | ⟨b, v2, v1⟩
      · ((with_reducible refine i_turn (i_cAnd (i_cI_lt (i_L4 (i_Sub (i_Add (i_L2 (i_L3 (i_I ?_))))))))); rw [zx_add (by omega)]; rw [zx_subc (by omega) (by omega)]; (with_reducible refine i_t (by omega) ?_); (with_reducible refine i_cI_lt (i_Add (i_L4 (i_I (i_Len (i_A1 ?_)))))); (with_reducible refine i_len (by assumption) (by omega) ?_); rw [zx_inc (by omega)]; (with_reducible refine i_t (by omega) ?_); (with_reducible refine i_Blk (i_Seq (i_Set (i_IA (i_A1 (i_L4 ?_)))))); (with_reducible refine i_in (by assumption) (by omega) (by omega) ?_); (with_reducible refine i_Seq (i_Set (i_IA ?_))); (rw [u1]); simp only [w_set0, w_set1, w_setn0, w_setn1]; (with_reducible refine i_A1 (i_Add (i_L4 (i_I ?_)))); rw [zx_inc (by omega)]; (with_reducible refine i_in (by assumption) (by omega) (by omega) ?_); (with_reducible refine i_If (i_cAnd (i_cAnd (i_cI_ne ?_)))); (rw [v1]); simp only [w_set0, w_set1, w_setn0, w_setn1]; rw [w_setT]; simp only [w_set0, w_set1, w_setn0, w_setn1]; (with_reducible refine i_L5 (i_I ?_)); rw [w_setT]; (with_reducible refine i_f (by omega) ?_); (with_reducible refine i_up (i_Inc4 ?_)); rw [zx_inc (by omega)]; simp only [w_set0, w_set1, w_setn0, w_setn1])
        exact hX2 _ _ hf ⟨_, h⟩
      · ((with_reducible refine i_turn (i_cAnd (i_cI_lt (i_L4 (i_Sub (i_Add (i_L2 (i_L3 (i_I ?_))))))))); rw [zx_add (by omega)]; rw [zx_subc (by omega) (by omega)]; (with_reducible refine i_t (by omega) ?_); (with_reducible refine i_cI_lt (i_Add (i_L4 (i_I (i_Len (i_A1 ?_)))))); (with_reducible refine i_len (by assumption) (by omega) ?_); rw [zx_inc (by omega)]; (with_reducible refine i_t (by omega) ?_); (with_reducible refine i_Blk (i_Seq (i_Set (i_IA (i_A1 (i_L4 ?_)))))); (with_reducible refine i_in (by assumption) (by omega) (by omega) ?_); (with_reducible refine i_Seq (i_Set (i_IA ?_))); (rw [u1]); simp only [w_set0, w_set1, w_setn0, w_setn1]; (with_reducible refine i_A1 (i_Add (i_L4 (i_I ?_)))); rw [zx_inc (by omega)]; (with_reducible refine i_in (by assumption) (by omega) (by omega) ?_); (with_reducible refine i_If (i_cAnd (i_cAnd (i_cI_ne ?_)))); (rw [v1]); simp only [w_set0, w_set1, w_setn0, w_setn1]; rw [w_setT]; simp only [w_set0, w_set1, w_setn0, w_setn1]; (with_reducible refine i_L5 (i_I ?_)); rw [w_setT]; (with_reducible refine i_f (by omega) ?_); (with_reducible refine i_up (i_Inc4 ?_)); rw [zx_inc (by omega)]; simp only [w_set0, w_set1, w_setn0, w_setn1])
        exact hX2 _ _ hf ⟨_, h⟩
    · rcases w2 with v1 | ⟨b, v2, v1⟩
      · ((with_reducible refine i_turn (i_cAnd (i_cI_lt (i_L4 (i_Sub (i_Add (i_L2 (i_L3 (i_I ?_))))))))); rw [zx_add (by omega)]; rw [zx_subc (by omega) (by omega)]; (with_reducible refine i_t (by omega) ?_); (with_reducible refine i_cI_lt (i_Add (i_L4 (i_I (i_Len (i_A1 ?_)))))); (with_reducible refine i_len (by assumption) (by omega) ?_); rw [zx_inc (by omega)]; (with_reducible refine i_t (by omega) ?_); (with_reducible refine i_Blk (i_Seq (i_Set (i_IA (i_A1 (i_L4 ?_)))))); (with_reducible refine i_in (by assumption) (by omega) (by omega) ?_); (with_reducible refine i_Seq (i_Set (i_IA ?_))); (rw [u1]); simp only [w_set0, w_set1, w_setn0, w_setn1]; (with_reducible refine i_A1 (i_Add (i_L4 (i_I ?_)))); rw [zx_inc (by omega)]; (with_reducible refine i_in (by assumption) (by omega) (by omega) ?_); (with_reducible refine i_If (i_cAnd (i_cAnd (i_cI_ne ?_)))); (rw [v1]); simp only [w_set0, w_set1, w_setn0, w_setn1]; rw [w_setT]; simp only [w_set0, w_set1, w_setn0, w_setn1]; (with_reducible refine i_L5 (i_I ?_)); rw [w_setT]; (with_reducible refine i_t (by omega) ?_); (with_reducible refine i_cI_ne (i_L6 (i_I ?_))); (with_reducible refine i_f (by omega) ?_); (with_reducible refine i_up (i_Inc4 ?_)); rw [zx_inc (by omega)]; simp only [w_set0, w_set1, w_setn0, w_setn1])
        exact hX2 _ _ hf ⟨_, h⟩
      · by_cases e : a = b
        · subst e
          ((with_reducible refine i_turn (i_cAnd (i_cI_lt (i_L4 (i_Sub (i_Add (i_L2 (i_L3 (i_I ?_))))))))); rw [zx_add (by omega)]; rw [zx_subc (by omega) (by omega)]; (with_reducible refine i_t (by omega) ?_); (with_reducible refine i_cI_lt (i_Add (i_L4 (i_I (i_Len (i_A1 ?_)))))); (with_reducible refine i_len (by assumption) (by omega) ?_); rw [zx_inc (by omega)]; (with_reducible refine i_t (by omega) ?_); (with_reducible refine i_Blk (i_Seq (i_Set (i_IA (i_A1 (i_L4 ?_)))))); (with_reducible refine i_in (by assumption) (by omega) (by omega) ?_); (with_reducible refine i_Seq (i_Set (i_IA ?_))); (rw [u1]); simp only [w_set0, w_set1, w_setn0, w_setn1]; (with_reducible refine i_A1 (i_Add (i_L4 (i_I ?_)))); rw [zx_inc (by omega)]; (with_reducible refine i_in (by assumption) (by omega) (by omega) ?_); (with_reducible refine i_If (i_cAnd (i_cAnd (i_cI_ne ?_)))); (rw [v1]); simp only [w_set0, w_set1, w_setn0, w_setn1]; rw [w_setT]; simp only [w_set0, w_set1, w_setn0, w_setn1]; (with_reducible refine i_L5 (i_I ?_)); rw [w_setT]; (with_reducible refine i_t (by omega) ?_); (with_reducible refine i_cI_ne (i_L6 (i_I ?_))); (with_reducible refine i_t (by omega) ?_); (with_reducible refine i_cI_ne (i_L5 (i_L6 ?_))); (with_reducible refine i_f (by omega) ?_); (with_reducible refine i_up (i_Inc4 ?_)); rw [zx_inc (by omega)]; simp only [w_set0, w_set1, w_setn0, w_setn1])
          exact hX2 _ _ hf ⟨_, h⟩
        · have h1 := h.orow u2 (fun i => decide (i = b))
          have f1 := hf.put (ids := [((n + 1 : Nat) : Int)]) (a := ((n + 1 : Nat) : Int)) (by simp) (zup (M1 ((n + 1 : Nat) : Int)) a (zor (M1 ((n + 1 : Nat) : Int) a) (zmk (fun i => decide (i = b)))))
          have ea : yshl 1 ((b : Nat) : Int) = zmk (fun i => decide (i = b)) := yshl_mk v2
          have eb : yshl 1 ((a : Nat) : Int) = zmk (fun i => decide (i = a)) := yshl_mk u2
          ((with_reducible refine i_turn (i_cAnd (i_cI_lt (i_L4 (i_Sub (i_Add (i_L2 (i_L3 (i_I ?_))))))))); rw [zx_add (by omega)]; rw [zx_subc (by omega) (by omega)]; (with_reducible refine i_t (by omega) ?_); (with_reducible refine i_cI_lt (i_Add (i_L4 (i_I (i_Len (i_A1 ?_)))))); (with_reducible refine i_len (by assumption) (by omega) ?_); rw [zx_inc (by omega)]; (with_reducible refine i_t (by omega) ?_); (with_reducible refine i_Blk (i_Seq (i_Set (i_IA (i_A1 (i_L4 ?_)))))); (with_reducible refine i_in (by assumption) (by omega) (by omega) ?_); (with_reducible refine i_Seq (i_Set (i_IA ?_))); (rw [u1]); simp only [w_set0, w_set1, w_setn0, w_setn1]; (with_reducible refine i_A1 (i_Add (i_L4 (i_I ?_)))); rw [zx_inc (by omega)]; (with_reducible refine i_in (by assumption) (by omega) (by omega) ?_); (with_reducible refine i_If (i_cAnd (i_cAnd (i_cI_ne ?_)))); (rw [v1]); simp only [w_set0, w_set1, w_setn0, w_setn1]; rw [w_setT]; simp only [w_set0, w_set1, w_setn0, w_setn1]; (with_reducible refine i_L5 (i_I ?_)); rw [w_setT]; (with_reducible refine i_t (by omega) ?_); (with_reducible refine i_cI_ne (i_L6 (i_I ?_))); (with_reducible refine i_t (by omega) ?_); (with_reducible refine i_cI_ne (i_L5 (i_L6 ?_))); (with_reducible refine i_t (by omega) ?_); (with_reducible refine i_Seq (i_IO (i_FR (i_A0 ?_)))); (with_reducible refine i_fldR (by assumption) ?_); (with_reducible refine i_L5 ?_); (with_reducible refine i_in (by assumption) (by omega) (by omega) ?_); (with_reducible refine i_Shl (i_I (i_L6 (i_IO (i_FR (i_A0 ?_)))))); (with_reducible refine i_fldR (by assumption) ?_); (with_reducible refine i_L6 ?_); (with_reducible refine i_in (by assumption) (by omega) (by omega) ?_); (with_reducible refine i_Shl (i_I (i_L5 (i_up (i_Inc4 ?_))))); rw [zg_m _ _ _ _ _ (by omega)]; (rw [ea]); (rw [eb]); rw [zx_inc (by omega)]; simp only [w_set0, w_set1, w_setn0, w_setn1])
          have h2 := h1.orow v2 (fun i => decide (i = a))
          have e2 : zput M1 ((n + 1 : Nat) : Int) (zup (M1 ((n + 1 : Nat) : Int)) a (zor (M1 ((n + 1 : Nat) : Int) a) (zmk (fun i => decide (i = b))))) ((n + 1 : Nat) : Int) ((b : Nat) : Int) = M1 ((n + 1 : Nat) : Int) ((b : Nat) : Int) := by rw [zput_self, zup_ne _ _ (by omega)]
          rw [e2] at h2
          exact hX2 _ _ (f1.put (by simp) _) ⟨_, h2⟩
  · rintro ρ M1 X ⟨⟨l, rfl⟩, hf, h⟩
    ((with_reducible refine i_turn (i_cAnd (i_cI_lt (i_L4 (i_Sub (i_Add (i_L2 (i_L3 (i_I ?_))))))))); rw [zx_add (by omega)]; rw [zx_s (by omega) (by omega)]; (with_reducible refine i_f (by omega) ?_); (with_reducible refine i_RetV ?_))
    exact hk _ hf h
end
