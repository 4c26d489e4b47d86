/-! the JDK's count of bits -/
def zpopN (x : Nat) : Nat := (fun i => (fun i => (fun i => (fun i => (fun i => i &&& 63) (i + i / 65536)) (i + i / 256)) ((i + i / 16) &&& 252645135)) ((i &&& 858993459) + ((i / 4) &&& 858993459))) (x - ((x / 2) &&& 1431655765))
def zpopB (x : Nat) : Nat → Nat
  | 0 => 0
  | k + 1 => zpopB x k + x / 2 ^ k % 2
def zpopOk (a n : Nat) : Bool := (List.range' a n).all fun x => Nat.beq (zpopN x) (zpopB x 16)
theorem zpop_0 : (List.range' 0 16).all (fun a => zpopOk (256 * a) 256) = true := by decide +kernel
theorem zpop_1 : (List.range' 16 16).all (fun a => zpopOk (256 * a) 256) = true := by decide +kernel
theorem zpop_2 : (List.range' 32 16).all (fun a => zpopOk (256 * a) 256) = true := by decide +kernel
theorem zpop_3 : (List.range' 48 16).all (fun a => zpopOk (256 * a) 256) = true := by decide +kernel
theorem zpop_4 : (List.range' 64 16).all (fun a => zpopOk (256 * a) 256) = true := by decide +kernel
theorem zpop_5 : (List.range' 80 16).all (fun a => zpopOk (256 * a) 256) = true := by decide +kernel
theorem zpop_6 : (List.range' 96 16).all (fun a => zpopOk (256 * a) 256) = true := by decide +kernel
theorem zpop_7 : (List.range' 112 16).all (fun a => zpopOk (256 * a) 256) = true := by decide +kernel
theorem zpop_8 : (List.range' 128 16).all (fun a => zpopOk (256 * a) 256) = true := by decide +kernel
theorem zpop_9 : (List.range' 144 16).all (fun a => zpopOk (256 * a) 256) = true := by decide +kernel
theorem zpop_10 : (List.range' 160 16).all (fun a => zpopOk (256 * a) 256) = true := by decide +kernel
theorem zpop_11 : (List.range' 176 16).all (fun a => zpopOk (256 * a) 256) = true := by decide +kernel
theorem zpop_12 : (List.range' 192 16).all (fun a => zpopOk (256 * a) 256) = true := by decide +kernel
theorem zpop_13 : (List.range' 208 16).all (fun a => zpopOk (256 * a) 256) = true := by decide +kernel
theorem zpop_14 : (List.range' 224 16).all (fun a => zpopOk (256 * a) 256) = true := by decide +kernel
theorem zpop_15 : (List.range' 240 16).all (fun a => zpopOk (256 * a) 256) = true := by decide +kernel
theorem zpop_ok {x : Nat} (h : x < 65536) : zpopN x = zpopB x 16 := by
  have key : ∀ i, (List.range' (16 * i) 16).all (fun a => zpopOk (256 * a) 256) = true → 4096 * i ≤ x → x < 4096 * i + 4096 → zpopN x = zpopB x 16 := by
    intro i hi h1 h2
    have h3 := List.all_eq_true.mp hi (x / 256) (List.mem_range'_1.mpr ⟨by omega, by omega⟩)
    have h4 := List.all_eq_true.mp h3 x (List.mem_range'_1.mpr ⟨by omega, by omega⟩)
    exact Nat.eq_of_beq_eq_true h4
  rcases (show x / 4096 = 0 ∨ x / 4096 = 1 ∨ x / 4096 = 2 ∨ x / 4096 = 3 ∨ x / 4096 = 4 ∨ x / 4096 = 5 ∨ x / 4096 = 6 ∨ x / 4096 = 7 ∨ x / 4096 = 8 ∨ x / 4096 = 9 ∨ x / 4096 = 10 ∨ x / 4096 = 11 ∨ x / 4096 = 12 ∨ x / 4096 = 13 ∨ x / 4096 = 14 ∨ x / 4096 = 15 by omega) with q | q | q | q | q | q | q | q | q | q | q | q | q | q | q | q
  · exact key 0 zpop_0 (by omega) (by omega)
  · exact key 1 zpop_1 (by omega) (by omega)
  · exact key 2 zpop_2 (by omega) (by omega)
  · exact key 3 zpop_3 (by omega) (by omega)
  · exact key 4 zpop_4 (by omega) (by omega)
  · exact key 5 zpop_5 (by omega) (by omega)
  · exact key 6 zpop_6 (by omega) (by omega)
  · exact key 7 zpop_7 (by omega) (by omega)
  · exact key 8 zpop_8 (by omega) (by omega)
  · exact key 9 zpop_9 (by omega) (by omega)
  · exact key 10 zpop_10 (by omega) (by omega)
  · exact key 11 zpop_11 (by omega) (by omega)
  · exact key 12 zpop_12 (by omega) (by omega)
  · exact key 13 zpop_13 (by omega) (by omega)
  · exact key 14 zpop_14 (by omega) (by omega)
  · exact key 15 zpop_15 (by omega) (by omega)
