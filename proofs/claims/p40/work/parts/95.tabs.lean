/-! ===== the fixed cells: their fields and lengths ===== -/
def zObL : List (Nat × Nat × List (Option (Option Nat))) := [(0, 0, [some (some 1), some (some 86), some (some 92), some (some 105), none, none, some (some 106), some (some 108), some (some 134), some (some 148), some (some 156), some (some 166), some (some 179), some (some 183)]), (1, 1, [some (some 2), some (some 3), none, none, none]), (4, 2, [some (some 5), none]), (6, 2, [some (some 7), none]), (8, 2, [some (some 9), none]), (10, 2, [some (some 11), none]), (12, 2, [some (some 13), none]), (14, 2, [some (some 15), none]), (16, 2, [some (some 17), none]), (18, 2, [some (some 19), none]), (20, 2, [some (some 21), none]), (22, 2, [some (some 23), none]), (24, 2, [some (some 25), none]), (26, 2, [some (some 27), none]), (28, 2, [some (some 29), none]), (30, 2, [some (some 31), none]), (32, 2, [some (some 33), none]), (34, 2, [some (some 35), none]), (36, 2, [some (some 37), none]), (38, 2, [some (some 39), none]), (40, 2, [some (some 41), none]), (42, 2, [some (some 43), none]), (44, 2, [some (some 45), none]), (46, 2, [some (some 47), none]), (48, 2, [some (some 49), none]), (50, 2, [some (some 51), none]), (52, 2, [some (some 53), none]), (54, 2, [some (some 55), none]), (56, 2, [some (some 57), none]), (58, 2, [some (some 59), none]), (60, 2, [some (some 61), none]), (62, 2, [some (some 63), none]), (64, 2, [some (some 65), none]), (66, 2, [some (some 67), none]), (68, 2, [some (some 69), none]), (70, 2, [some (some 71), none]), (72, 2, [some (some 73), none]), (74, 2, [some (some 75), none]), (76, 2, [some (some 77), none]), (78, 2, [some (some 79), none]), (80, 2, [some (some 81), none]), (82, 2, [some (some 83), none]), (84, 2, [some (some 85), none]), (86, 5, [some (some 87), some (some 88), some (some 89), some (some 90), some (some 91), none, none, none, none]), (92, 6, [some (some 93), some (some 94), some (some 95), some (some 97), some (some 98), some (some 99), some (some 100), some (some 101), some (some 103), none, none, none, none, none, none, none, some (some 96)]), (101, 2, [some (some 102), none]), (103, 2, [some (some 104), none]), (106, 7, [some (some 107), none, none, none]), (108, 8, [some (some 109), some (some 111), some (some 124), some (some 128), some (some 132), some (some 133), none]), (109, 7, [some (some 110), none, none, none]), (111, 4, [some (some 112), some (some 116), some (some 117), some (some 118), some (some 120), some (some 122), none]), (112, 3, [some (some 113), some (some 114), some (some 115), none, none]), (118, 2, [some (some 119), none]), (120, 2, [some (some 121), none]), (122, 2, [some (some 123), none]), (124, 3, [some (some 125), some (some 126), some (some 127), none, none]), (128, 3, [some (some 129), some (some 130), some (some 131), none, none]), (134, 9, [some (some 135), some (some 136), some (some 137), some (some 138), some (some 139), some (some 140), none, none, some (some 141), some (some 143), some (some 145), some (some 147), none]), (141, 2, [some (some 142), none]), (143, 2, [some (some 144), none]), (145, 2, [some (some 146), none]), (148, 10, [some (some 149), some (some 150), some (some 151), some (some 152), some (some 153), some (some 154), none, none]), (154, 2, [some (some 155), none]), (156, 11, [some (some 157), some (some 158), some (some 160), some (some 162), some (some 164), some (some 165), none, none]), (158, 2, [some (some 159), none]), (160, 2, [some (some 161), none]), (162, 2, [some (some 163), none]), (166, 4, [some (some 167), some (some 171), some (some 172), some (some 173), some (some 175), some (some 177), none]), (167, 3, [some (some 168), some (some 169), some (some 170), none, none]), (173, 2, [some (some 174), none]), (175, 2, [some (some 176), none]), (177, 2, [some (some 178), none]), (179, 3, [some (some 180), some (some 181), some (some 182), none, none]), (183, 2, [some (some 184), none]), (185, 4, [some (some 186), some (some 190), some (some 191), some (some 192), some (some 194), some (some 196), none]), (186, 3, [some (some 187), some (some 188), some (some 189), none, none]), (192, 2, [some (some 193), none]), (194, 2, [some (some 195), none]), (196, 2, [some (some 197), none]), (198, 4, [some (some 199), some (some 203), some (some 204), some (some 205), some (some 207), some (some 209), none]), (199, 3, [some (some 200), some (some 201), some (some 202), none, none]), (205, 2, [some (some 206), none]), (207, 2, [some (some 208), none]), (209, 2, [some (some 210), none]), (211, 4, [some (some 212), some (some 216), some (some 217), some (some 218), some (some 220), some (some 222), none]), (212, 3, [some (some 213), some (some 214), some (some 215), none, none]), (218, 2, [some (some 219), none]), (220, 2, [some (some 221), none]), (222, 2, [some (some 223), none]), (224, 4, [some (some 225), some (some 229), some (some 230), some (some 231), some (some 233), some (some 235), none]), (225, 3, [some (some 226), some (some 227), some (some 228), none, none]), (231, 2, [some (some 232), none]), (233, 2, [some (some 234), none]), (235, 2, [some (some 236), none]), (237, 4, [some (some 238), some (some 242), some (some 243), some (some 244), some (some 246), some (some 248), none]), (238, 3, [some (some 239), some (some 240), some (some 241), none, none]), (244, 2, [some (some 245), none]), (246, 2, [some (some 247), none]), (248, 2, [some (some 249), none]), (250, 12, [none, none, some (some 251), some (some 252), none, none, some (some 253), some (some 254), some (some 255), some (some 256), some (some 257), none, some (some 258), some (some 259), some (some 260), some (some 261), some (some 262), some (some 263), some (some 264), some (some 265), some (some 266), some (some 267), some (some 268), some (some 269), some (some 270), some (some 271), some (some 272), some (some 273), none, some (some 274), some (some 275), some (some 276), some (some 277), none, some (some 278), none, some (some 279), some (some 280), some (some 281), some (some 282), none, some (some 283), some (some 284), some (some 285), none, some (some 286), some (some 287), none, none, none, none, some (some 288), none, some (some 289), some (some 290), none, some (some 291), some (some 292), some (some 293), some (some 294), some (some 295), some (some 296), some (some 297), some (some 298), none, some (some 299), none, none, none, some (some 300), some (some 301), some (some 302), some (some 303), none, some (some 304), some (some 305), some (some 306), none, some (some 307), some (some 308), some (some 309), some (some 310)])]
def zMdF : List (Option (Option Nat)) := [none, none, some (some 251), some (some 252), none, none, some (some 253), some (some 254), some (some 255), some (some 256), some (some 257), none, some (some 258), some (some 259), some (some 260), some (some 261), some (some 262), some (some 263), some (some 264), some (some 265), some (some 266), some (some 267), some (some 268), some (some 269), some (some 270), some (some 271), some (some 272), some (some 273), none, some (some 274), some (some 275), some (some 276), some (some 277), none, some (some 278), none, some (some 279), some (some 280), some (some 281), some (some 282), none, some (some 283), some (some 284), some (some 285), none, some (some 286), some (some 287), none, none, none, none, some (some 288), none, some (some 289), some (some 290), none, some (some 291), some (some 292), some (some 293), some (some 294), some (some 295), some (some 296), some (some 297), some (some 298), none, some (some 299), none, none, none, some (some 300), some (some 301), some (some 302), some (some 303), none, some (some 304), some (some 305), some (some 306), none, some (some 307), some (some 308), some (some 309), some (some 310)]
def zTdF : List (Option (Option Nat)) := [some (some 1), some (some 86), some (some 92), some (some 105), none, none, some (some 106), some (some 108), some (some 134), some (some 148), some (some 156), some (some 166), some (some 179), some (some 183)]
def zMdA : List (FieldType × Nat) := [(.char, 0), (.boolean, 256), (.int, 16), (.int, 300), (.int, 300), (.boolean, 300), (.int, 300), (.boolean, 256), (.int, 7), (.int, 112), (.int, 112), (.int, 1792), (.boolean, 112), (.boolean, 112), (.boolean, 1792), (.boolean, 1792), (.int, 1792), (.boolean, 256), (.boolean, 256), (.int, 512), (.int, 512), (.int, 17), (.int, 16), (.int, 16), (.int, 10), (.int, 10), (.int, 10), (.int, 10), (.int, 2000), (.int, 2001), (.int, 2001), (.int, 2001), (.int, 2001), (.int, 256), (.boolean, 16), (.int, 16), (.int, 6), (.int, 6), (.int, 512), (.boolean, 256), (.int, 16), (.int, 256), (.int, 16), (.int, 16), (.int, 64), (.int, 8), (.int, 8), (.boolean, 256), (.boolean, 512), (.long, 2001), (.long, 110), (.int, 110), (.int, 16), (.int, 16), (.int, 41), (.int, 41), (.int, 41), (.int, 140), (.int, 140), (.boolean, 140), (.int, 140), (.long, 1)]
theorem zMd_ok : ((zmS zC0)[250]?) = some (.inr (12, zMdF)) := by decide +kernel
theorem zTd_ok : ((zmS zC0)[0]?) = some (.inr (0, zTdF)) := by decide +kernel
def zMdAok : Bool := (List.range zMdA.length).all fun i => match zMdA[i]?, (zmS zC0)[250 + i]? with
  | some q, some (.inl w) => decide (w.1 = q.1) && decide (w.2.1 = q.2)
  | some q, some (.inr _) => decide (q.1 = .char)
  | _, _ => false
theorem zMdAok_ok : zMdAok = true := by decide +kernel
theorem zMF {S : List zSh} (hS : S = zmS zC0) {k : Nat} {v : Option (Option Nat)} (h : zMdF[k]? = some v) : zFld S 250 12 k = some v := by
  subst hS
  unfold zFld
  rw [if_pos (by decide), show (250 : Int).toNat = 250 from rfl, zMd_ok]
  show (if 12 = 12 then zMdF[k]? else none) = some v
  rw [if_pos rfl, h]
theorem zTF {S : List zSh} (hS : S = zmS zC0) {k : Nat} {v : Option (Option Nat)} (h : zTdF[k]? = some v) : zFld S 0 0 k = some v := by
  subst hS
  unfold zFld
  rw [if_pos (by decide), show (0 : Int).toNat = 0 from rfl, zTd_ok]
  show (if 0 = 0 then zTdF[k]? else none) = some v
  rw [if_pos rfl, h]
theorem zMA {S : List zSh} (hS : S = zmS zC0) {a n : Nat} {ty : FieldType} (h : zMdA[a - 250]? = some (ty, n)) (ha : 250 ≤ a := by decide) (hty : ty ≠ .char := by decide) : zArr S ((a : Nat) : Int) ty n := by
  subst hS
  have h1 := List.all_eq_true.mp zMdAok_ok (a - 250) (List.mem_range.mpr (List.getElem?_eq_some_iff.mp h).1)
  rw [h, show 250 + (a - 250) = a by omega] at h1
  split at h1
  next q w e1 e2 =>
    cases e1
    simp only [Bool.and_eq_true, decide_eq_true_eq] at h1
    obtain ⟨w1, w2, w3⟩ := w
    obtain ⟨rfl, rfl⟩ := h1
    exact ⟨Int.natCast_nonneg _, w3, e2⟩
  next q w e1 e2 =>
    cases e1
    exact absurd (of_decide_eq_true h1) hty
  next => cases h1
theorem zMO {S : List zSh} (hS : S = zmS zC0) : zObj S 250 12 := by subst hS; exact ⟨by decide, _, zMd_ok⟩
theorem zTO {S : List zSh} (hS : S = zmS zC0) : zObj S 0 0 := by subst hS; exact ⟨by decide, _, zTd_ok⟩
def zObG (o ci k : Nat) : Option (Option (Option Nat)) := match zObL.find? (fun q => q.1 == o) with
  | some q => if q.2.1 = ci then q.2.2[k]? else none
  | none => none
def zObLok : Bool := zObL.all fun q => decide ((zmS zC0)[q.1]? = some (.inr (q.2.1, q.2.2)))
theorem zObLok_ok : zObLok = true := by decide +kernel
theorem zOF {S : List zSh} (hS : S = zmS zC0) {o ci k : Nat} {v : Option (Option Nat)} (h : zObG o ci k = some v) : zFld S ((o : Nat) : Int) ci k = some v := by
  subst hS
  unfold zObG at h
  split at h
  next q hq =>
    have h1 := of_decide_eq_true (List.all_eq_true.mp zObLok_ok _ (List.mem_of_find?_eq_some hq))
    have h2 : q.1 = o := by simpa using List.find?_some hq
    split at h
    next h3 =>
      unfold zFld
      rw [if_pos (Int.natCast_nonneg _), show ((o : Nat) : Int).toNat = o from rfl, ← h2, h1]
      dsimp only
      rw [if_pos h3, h]
    next => cases h
  next => cases h
theorem zOO {S : List zSh} (hS : S = zmS zC0) {o ci : Nat} {v : Option (Option Nat)} (h : zObG o ci 0 = some v) : zObj S ((o : Nat) : Int) ci := by
  subst hS
  unfold zObG at h
  split at h
  next q hq =>
    have h1 := of_decide_eq_true (List.all_eq_true.mp zObLok_ok _ (List.mem_of_find?_eq_some hq))
    have h2 : q.1 = o := by simpa using List.find?_some hq
    split at h
    next h3 => exact ⟨Int.natCast_nonneg _, q.2.2, by rw [show ((o : Nat) : Int).toNat = o from rfl, ← h2, h1, h3]⟩
    next => cases h
  next => cases h
