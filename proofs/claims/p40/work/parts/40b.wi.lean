section WI
variable {S : List zSh} {Rn : zRnT} {K : Int → zLoc → zMem → Prop} {kn : zK} {kb : Nat → zK} {kr : Option zV → zMem → Prop} {kt kf : zK} {ρ : zLoc} {M : zMem}
theorem i_I {v : Int} (h : K v ρ M) : zew (zeI v) S Rn K ρ M := by
  rw [w_I]
  first | exact h | simpa only [true_and] using h
theorem i_Ldc {k : Nat} {v : Int} (h : K v ρ M) : zew (zeLdc k v) S Rn K ρ M := by
  rw [w_Ldc]
  first | exact h | simpa only [true_and] using h
theorem i_LdcL {k : Nat} {v : Int} (h : K v ρ M) : zew (zeLdcL k v) S Rn K ρ M := by
  rw [w_LdcL]
  first | exact h | simpa only [true_and] using h
theorem i_IL {v : Fin 2} (h : K ((v : Nat) : Int) ρ M) : zew (zeIL v) S Rn K ρ M := by
  rw [w_IL]
  first | exact h | simpa only [true_and] using h
theorem i_Null  (h : K (-1) ρ M) : zew zeNull S Rn K ρ M := by
  rw [w_Null]
  first | exact h | simpa only [true_and] using h
theorem i_L {k : Nat} (h : K (zget ρ k) ρ M) : zew (zeL k) S Rn K ρ M := by
  rw [w_L]
  first | exact h | simpa only [true_and] using h
theorem i_Ll {k : Nat} (h : K (zget ρ k) ρ M) : zew (zeLl k) S Rn K ρ M := by
  rw [w_Ll]
  first | exact h | simpa only [true_and] using h
theorem i_A {k : Nat} (h : K (zget ρ k) ρ M) : zew (zeA k) S Rn K ρ M := by
  rw [w_A]
  first | exact h | simpa only [true_and] using h
theorem i_Add {a b : zE 0} (h : zew a S Rn (fun x ρ M => zew b S Rn (fun y ρ M => K (zw32 (x + y)) ρ M) ρ M) ρ M) : zew (zeAdd a b) S Rn K ρ M := by
  rw [w_Add]
  first | exact h | simpa only [true_and] using h
theorem i_Sub {a b : zE 0} (h : zew a S Rn (fun x ρ M => zew b S Rn (fun y ρ M => K (zw32 (x - y)) ρ M) ρ M) ρ M) : zew (zeSub a b) S Rn K ρ M := by
  rw [w_Sub]
  first | exact h | simpa only [true_and] using h
theorem i_Mul {a b : zE 0} (h : zew a S Rn (fun x ρ M => zew b S Rn (fun y ρ M => K (zw32 (x * y)) ρ M) ρ M) ρ M) : zew (zeMul a b) S Rn K ρ M := by
  rw [w_Mul]
  first | exact h | simpa only [true_and] using h
theorem i_Div {a b : zE 0} (h : zew a S Rn (fun x ρ M => zew b S Rn (fun y ρ M => y ≠ 0 ∧ K (zw32 (x.tdiv y)) ρ M) ρ M) ρ M) : zew (zeDiv a b) S Rn K ρ M := by
  rw [w_Div]
  first | exact h | simpa only [true_and] using h
theorem i_Rem {a b : zE 0} (h : zew a S Rn (fun x ρ M => zew b S Rn (fun y ρ M => y ≠ 0 ∧ K (x.tmod y) ρ M) ρ M) ρ M) : zew (zeRem a b) S Rn K ρ M := by
  rw [w_Rem]
  first | exact h | simpa only [true_and] using h
theorem i_And {a b : zE 0} (h : zew a S Rn (fun x ρ M => zew b S Rn (fun y ρ M => K (yand x y) ρ M) ρ M) ρ M) : zew (zeAnd a b) S Rn K ρ M := by
  rw [w_And]
  first | exact h | simpa only [true_and] using h
theorem i_Or {a b : zE 0} (h : zew a S Rn (fun x ρ M => zew b S Rn (fun y ρ M => K (yor x y) ρ M) ρ M) ρ M) : zew (zeOr a b) S Rn K ρ M := by
  rw [w_Or]
  first | exact h | simpa only [true_and] using h
theorem i_Xor {a b : zE 0} (h : zew a S Rn (fun x ρ M => zew b S Rn (fun y ρ M => K (yxor x y) ρ M) ρ M) ρ M) : zew (zeXor a b) S Rn K ρ M := by
  rw [w_Xor]
  first | exact h | simpa only [true_and] using h
theorem i_Shl {a b : zE 0} (h : zew a S Rn (fun x ρ M => zew b S Rn (fun y ρ M => K (yshl x y) ρ M) ρ M) ρ M) : zew (zeShl a b) S Rn K ρ M := by
  rw [w_Shl]
  first | exact h | simpa only [true_and] using h
theorem i_Shr {a b : zE 0} (h : zew a S Rn (fun x ρ M => zew b S Rn (fun y ρ M => K (yshr x y) ρ M) ρ M) ρ M) : zew (zeShr a b) S Rn K ρ M := by
  rw [w_Shr]
  first | exact h | simpa only [true_and] using h
theorem i_Ushr {a b : zE 0} (h : zew a S Rn (fun x ρ M => zew b S Rn (fun y ρ M => K (yushr x y) ρ M) ρ M) ρ M) : zew (zeUshr a b) S Rn K ρ M := by
  rw [w_Ushr]
  first | exact h | simpa only [true_and] using h
theorem i_AddL {a b : zE 1} (h : zew a S Rn (fun x ρ M => zew b S Rn (fun y ρ M => K (zw64 (x + y)) ρ M) ρ M) ρ M) : zew (zeAddL a b) S Rn K ρ M := by
  rw [w_AddL]
  first | exact h | simpa only [true_and] using h
theorem i_SubL {a b : zE 1} (h : zew a S Rn (fun x ρ M => zew b S Rn (fun y ρ M => K (zw64 (x - y)) ρ M) ρ M) ρ M) : zew (zeSubL a b) S Rn K ρ M := by
  rw [w_SubL]
  first | exact h | simpa only [true_and] using h
theorem i_MulL {a b : zE 1} (h : zew a S Rn (fun x ρ M => zew b S Rn (fun y ρ M => K (zw64 (x * y)) ρ M) ρ M) ρ M) : zew (zeMulL a b) S Rn K ρ M := by
  rw [w_MulL]
  first | exact h | simpa only [true_and] using h
theorem i_CmpL {a b : zE 1} (h : zew a S Rn (fun x ρ M => zew b S Rn (fun y ρ M => K (zcmp x y) ρ M) ρ M) ρ M) : zew (zeCmpL a b) S Rn K ρ M := by
  rw [w_CmpL]
  first | exact h | simpa only [true_and] using h
theorem i_Neg {a : zE 0} (h : zew a S Rn (fun x ρ M => K (zw32 (-x)) ρ M) ρ M) : zew (zeNeg a) S Rn K ρ M := by
  rw [w_Neg]
  first | exact h | simpa only [true_and] using h
theorem i_I2L {a : zE 0} (h : zew a S Rn (fun x ρ M => K x ρ M) ρ M) : zew (zeI2L a) S Rn K ρ M := by
  rw [w_I2L]
  first | exact h | simpa only [true_and] using h
theorem i_L2I {a : zE 1} (h : zew a S Rn (fun x ρ M => K (zw32 x) ρ M) ρ M) : zew (zeL2I a) S Rn K ρ M := by
  rw [w_L2I]
  first | exact h | simpa only [true_and] using h
theorem i_I2B {a : zE 0} (h : zew a S Rn (fun x ρ M => K (yi2b x) ρ M) ρ M) : zew (zeI2B a) S Rn K ρ M := by
  rw [w_I2B]
  first | exact h | simpa only [true_and] using h
theorem i_F {k ci j : Nat} {o : zE 2} (h : zew o S Rn (fun x ρ M => zFld S x ci j = some none ∧ K (M x j) ρ M) ρ M) : zew (zeF k ci j o) S Rn K ρ M := by
  rw [w_F]
  first | exact h | simpa only [true_and] using h
theorem i_FR {k ci j : Nat} {o : zE 2} (h : zew o S Rn (fun x ρ M => ∃ r : Nat, zFld S x ci j = some (some (some r)) ∧ K (r : Int) ρ M) ρ M) : zew (zeFR k ci j o) S Rn K ρ M := by
  rw [w_FR]
  first | exact h | simpa only [true_and] using h
theorem i_IA {a : zE 2} {b : zE 0} (h : zew a S Rn (fun x ρ M => zew b S Rn (fun y ρ M => zIn S x .int y ∧ K (M x y) ρ M) ρ M) ρ M) : zew (zeIA a b) S Rn K ρ M := by
  rw [w_IA]
  first | exact h | simpa only [true_and] using h
theorem i_ZA {a : zE 2} {b : zE 0} (h : zew a S Rn (fun x ρ M => zew b S Rn (fun y ρ M => zIn S x .boolean y ∧ K (M x y) ρ M) ρ M) ρ M) : zew (zeZA a b) S Rn K ρ M := by
  rw [w_ZA]
  first | exact h | simpa only [true_and] using h
theorem i_BA {a : zE 2} {b : zE 0} (h : zew a S Rn (fun x ρ M => zew b S Rn (fun y ρ M => zIn S x .byte y ∧ K (M x y) ρ M) ρ M) ρ M) : zew (zeBA a b) S Rn K ρ M := by
  rw [w_BA]
  first | exact h | simpa only [true_and] using h
theorem i_LA {a : zE 2} {b : zE 0} (h : zew a S Rn (fun x ρ M => zew b S Rn (fun y ρ M => zIn S x .long y ∧ K (M x y) ρ M) ρ M) ρ M) : zew (zeLA a b) S Rn K ρ M := by
  rw [w_LA]
  first | exact h | simpa only [true_and] using h
theorem i_RA {a : zE 2} {b : zE 0} (h : zew a S Rn (fun x ρ M => zew b S Rn (fun y ρ M => ∃ v, zPr S M x y v ∧ K v ρ M) ρ M) ρ M) : zew (zeRA a b) S Rn K ρ M := by
  rw [w_RA]
  first | exact h | simpa only [true_and] using h
theorem i_Len {a : zE 2} (h : zew a S Rn (fun x ρ M => ∃ ty n, zArr S x ty n ∧ n < 2147483648 ∧ K (n : Nat) ρ M) ρ M) : zew (zeLen a) S Rn K ρ M := by
  rw [w_Len]
  first | exact h | simpa only [true_and] using h
theorem i_MM {mx k : Nat} {a b : zE 0} (h : zew a S Rn (fun x ρ M => zew b S Rn (fun y ρ M => K (if mx = 3 then max x y else min x y) ρ M) ρ M) ρ M) : zew (zeMM mx k a b) S Rn K ρ M := by
  rw [w_MM]
  first | exact h | simpa only [true_and] using h
theorem i_Call {t kd k f ci na : Nat} {as : List zEx} (h : zasW as S Rn (fun vs ρ M => zRecv S kd ci vs ∧ Rn (zFn f) vs M (fun v M' => ∃ x, v = some (t, x) ∧ K x ρ M')) ρ M) : zew (zeCall t kd k f ci na as) S Rn K ρ M := by
  rw [w_Call]
  first | exact h | simpa only [true_and] using h
theorem i_as0 {k : List zV → zLoc → zMem → Prop} (h : k [] ρ M) : zasW [] S Rn k ρ M := by
  rw [w_as0]
  first | exact h | simpa only [true_and] using h
theorem i_as1 {t : Nat} {a : zE t} {r : List zEx} {k : List zV → zLoc → zMem → Prop} (h : zew a S Rn (fun v ρ M => zasW r S Rn (fun vs ρ M => k ((t, v) :: vs) ρ M) ρ M) ρ M) : zasW (⟨t, a⟩ :: r) S Rn k ρ M := by
  rw [w_as1]
  first | exact h | simpa only [true_and] using h
theorem i_eIf {t : Nat} {E D : Nat} {c : zC} {a b : zE t} (h : zcw c S Rn (fun ρ M => zew a S Rn K ρ M) (fun ρ M => zew b S Rn K ρ M) ρ M) : zew (zeIf E D c a b) S Rn K ρ M := by
  rw [w_eIf]
  first | exact h | simpa only [true_and] using h
theorem i_cI {c : Jvm.ClassFile.Cond} {a b : zE 0} (h : zew a S Rn (fun x ρ M => zew b S Rn (fun y ρ M => (zcond c x y → kt ρ M) ∧ (¬ zcond c x y → kf ρ M)) ρ M) ρ M) : zcw (zcI c a b) S Rn kt kf ρ M := by
  rw [w_cI]
  first | exact h | simpa only [true_and] using h
theorem i_cZ {c : Jvm.ClassFile.Cond} {a : zE 0} (h : zew a S Rn (fun x ρ M => (zcond c x 0 → kt ρ M) ∧ (¬ zcond c x 0 → kf ρ M)) ρ M) : zcw (zcZ c a) S Rn kt kf ρ M := by
  rw [w_cZ]
  first | exact h | simpa only [true_and] using h
theorem i_cN {a : zE 2} (h : zew a S Rn (fun x ρ M => (x = -1 → kt ρ M) ∧ (¬ x = -1 → kf ρ M)) ρ M) : zcw (zcN a) S Rn kt kf ρ M := by
  rw [w_cN]
  first | exact h | simpa only [true_and] using h
theorem i_cNot {c : zC} (h : zcw c S Rn kf kt ρ M) : zcw (zcNot c) S Rn kt kf ρ M := by
  rw [w_cNot]
  first | exact h | simpa only [true_and] using h
theorem i_cAnd {L : Nat} {a b : zC} (h : zcw a S Rn (fun ρ M => zcw b S Rn kt kf ρ M) kf ρ M) : zcw (zcAnd L a b) S Rn kt kf ρ M := by
  rw [w_cAnd]
  first | exact h | simpa only [true_and] using h
theorem i_cOr {L : Nat} {a b : zC} (h : zcw a S Rn kt (fun ρ M => zcw b S Rn kt kf ρ M) ρ M) : zcw (zcOr L a b) S Rn kt kf ρ M := by
  rw [w_cOr]
  first | exact h | simpa only [true_and] using h
theorem i_cIf {E L : Nat} {c a b : zC} (h : zcw c S Rn (fun ρ M => zcw a S Rn kt kf ρ M) (fun ρ M => zcw b S Rn kt kf ρ M) ρ M) : zcw (zcIf E L c a b) S Rn kt kf ρ M := by
  rw [w_cIf]
  first | exact h | simpa only [true_and] using h
theorem i_Skip  (h : kn ρ M) : zsw zsSkip S Rn kn kb kr ρ M := by
  rw [w_Skip]
  first | exact h | simpa only [true_and] using h
theorem i_Seq {a b : zSt} (h : zsw a S Rn (fun ρ M => zsw b S Rn kn kb kr ρ M) kb kr ρ M) : zsw (zsSeq a b) S Rn kn kb kr ρ M := by
  rw [w_Seq]
  first | exact h | simpa only [true_and] using h
theorem i_Blk {a : zSt} (h : zsw a S Rn kn kb kr ρ M) : zsw (zsBlk a) S Rn kn kb kr ρ M := by
  rw [w_Blk]
  first | exact h | simpa only [true_and] using h
theorem i_Set {t : Nat} {k : Nat} {e : zE t} (h : zew e S Rn (fun x ρ M => kn (zsetl ρ k x) M) ρ M) : zsw (zsSet k e) S Rn kn kb kr ρ M := by
  rw [w_Set]
  first | exact h | simpa only [true_and] using h
theorem i_Inc {k : Nat} {d : Int} (h : kn (zsetl ρ k (zw32 (zget ρ k + d))) M) : zsw (zsInc k d) S Rn kn kb kr ρ M := by
  rw [w_Inc]
  first | exact h | simpa only [true_and] using h
theorem i_sF {k ci j : Nat} {o : zE 2} {e : zE 0} (h : zew o S Rn (fun x ρ M => zew e S Rn (fun y ρ M => zFld S x ci j = some none ∧ kn ρ (zput M x (zup (M x) j y))) ρ M) ρ M) : zsw (zsF k ci j o e) S Rn kn kb kr ρ M := by
  rw [w_sF]
  first | exact h | simpa only [true_and] using h
theorem i_FO {k ci j : Nat} {i : Instr} {F : Int → Int → Int} {hi} {o : zE 2} {e : zE 0} (h : zew o S Rn (fun x ρ M => zFld S x ci j = some none ∧ zew e S Rn (fun y ρ M2 => zFld S x ci j = some none ∧ kn ρ (zput M2 x (zup (M2 x) j (F (M x j) y)))) ρ M) ρ M) : zsw (zsFO k ci j i F hi o e) S Rn kn kb kr ρ M := by
  rw [w_FO]
  first | exact h | simpa only [true_and] using h
theorem i_sIA {a : zE 2} {b e : zE 0} (h : zew a S Rn (fun x ρ M => zew b S Rn (fun j ρ M => zew e S Rn (fun y ρ M => zIn S x .int j ∧ kn ρ (zput M x (zup (M x) j y))) ρ M) ρ M) ρ M) : zsw (zsIA a b e) S Rn kn kb kr ρ M := by
  rw [w_sIA]
  first | exact h | simpa only [true_and] using h
theorem i_sLA {a : zE 2} {b : zE 0} {e : zE 1} (h : zew a S Rn (fun x ρ M => zew b S Rn (fun j ρ M => zew e S Rn (fun y ρ M => zIn S x .long j ∧ kn ρ (zput M x (zup (M x) j y))) ρ M) ρ M) ρ M) : zsw (zsLA a b e) S Rn kn kb kr ρ M := by
  rw [w_sLA]
  first | exact h | simpa only [true_and] using h
theorem i_sZA {a : zE 2} {b e : zE 0} (h : zew a S Rn (fun x ρ M => zew b S Rn (fun j ρ M => zew e S Rn (fun y ρ M => ((y = 0 ∨ y = 1) ∧ zIn S x .boolean j) ∧ kn ρ (zput M x (zup (M x) j y))) ρ M) ρ M) ρ M) : zsw (zsZA a b e) S Rn kn kb kr ρ M := by
  rw [w_sZA]
  first | exact h | simpa only [true_and] using h
theorem i_sBA {a : zE 2} {b e : zE 0} (h : zew a S Rn (fun x ρ M => zew b S Rn (fun j ρ M => zew e S Rn (fun y ρ M => ((-128 ≤ y ∧ y < 128) ∧ zIn S x .byte j) ∧ kn ρ (zput M x (zup (M x) j y))) ρ M) ρ M) ρ M) : zsw (zsBA a b e) S Rn kn kb kr ρ M := by
  rw [w_sBA]
  first | exact h | simpa only [true_and] using h
theorem i_IO {i : Instr} {F : Int → Int → Int} {hi} {a : zE 2} {b e : zE 0} (h : zew a S Rn (fun x ρ M => zew b S Rn (fun j ρ M => zIn S x .int j ∧ zew e S Rn (fun y ρ M2 => kn ρ (zput M2 x (zup (M2 x) j (F (M x j) y)))) ρ M) ρ M) ρ M) : zsw (zsIO i F hi a b e) S Rn kn kb kr ρ M := by
  rw [w_IO]
  first | exact h | simpa only [true_and] using h
theorem i_Pop {t : Nat} {e : zE t} (h : zew e S Rn (fun _ ρ M => kn ρ M) ρ M) : zsw (zsPop e) S Rn kn kb kr ρ M := by
  rw [w_Pop]
  first | exact h | simpa only [true_and] using h
theorem i_sCall {kd k f ci na : Nat} {as : List zEx} (h : zasW as S Rn (fun vs ρ M => zRecv S kd ci vs ∧ Rn (zFn f) vs M (fun v M' => v = none ∧ kn ρ M')) ρ M) : zsw (zsCall kd k f ci na as) S Rn kn kb kr ρ M := by
  rw [w_sCall]
  first | exact h | simpa only [true_and] using h
theorem i_Copy {k : Nat} {a0 : zE 2} {sp : zE 0} {a1 : zE 2} {dp cn : zE 0} (h : zew a0 S Rn (fun x0 ρ M => zew sp S Rn (fun s ρ M => zew a1 S Rn (fun x1 ρ M => zew dp S Rn (fun d ρ M => zew cn S Rn (fun c ρ M => (∃ k0 k1, zArr S x0 .int k0 ∧ zArr S x1 .int k1 ∧ 0 ≤ s ∧ 0 ≤ d ∧ 0 ≤ c ∧ s + c ≤ (k0 : Nat) ∧ d + c ≤ (k1 : Nat)) ∧ kn ρ (zput M x1 (zcpy (M x0) (M x1) s d c))) ρ M) ρ M) ρ M) ρ M) ρ M) : zsw (zsCopy k a0 sp a1 dp cn) S Rn kn kb kr ρ M := by
  rw [w_Copy]
  first | exact h | simpa only [true_and] using h
theorem i_RetI {e : zE 0} (h : zew e S Rn (fun x _ M => kr (some (0, x)) M) ρ M) : zsw (zsRetI e) S Rn kn kb kr ρ M := by
  rw [w_RetI]
  first | exact h | simpa only [true_and] using h
theorem i_RetZ {e : zE 0} (h : zew e S Rn (fun x _ M => (x = 0 ∨ x = 1) ∧ kr (some (0, x)) M) ρ M) : zsw (zsRetZ e) S Rn kn kb kr ρ M := by
  rw [w_RetZ]
  first | exact h | simpa only [true_and] using h
theorem i_RetL {e : zE 1} (h : zew e S Rn (fun x _ M => kr (some (1, x)) M) ρ M) : zsw (zsRetL e) S Rn kn kb kr ρ M := by
  rw [w_RetL]
  first | exact h | simpa only [true_and] using h
theorem i_RetR {C : String} {e : zE 2} (h : zew e S Rn (fun x _ M => kr (some (2, x)) M) ρ M) : zsw (zsRetR C e) S Rn kn kb kr ρ M := by
  rw [w_RetR]
  first | exact h | simpa only [true_and] using h
theorem i_RetV  (h : kr none M) : zsw zsRetV S Rn kn kb kr ρ M := by
  rw [w_RetV]
  first | exact h | simpa only [true_and] using h
theorem i_If {D : Nat} {c : zC} {a : zSt} (h : zcw c S Rn (fun ρ M => zsw a S Rn kn kb kr ρ M) kn ρ M) : zsw (zsIf D c a) S Rn kn kb kr ρ M := by
  rw [w_If]
  first | exact h | simpa only [true_and] using h
theorem i_Ite {E D : Nat} {c : zC} {a b : zSt} (h : zcw c S Rn (fun ρ M => zsw a S Rn kn kb kr ρ M) (fun ρ M => zsw b S Rn kn kb kr ρ M) ρ M) : zsw (zsIte E D c a b) S Rn kn kb kr ρ M := by
  rw [w_Ite]
  first | exact h | simpa only [true_and] using h
theorem i_IteD {E D : Nat} {c : zC} {a b : zSt} (h : zcw c S Rn (fun ρ M => zsw a S Rn (fun _ _ => False) kb kr ρ M) (fun ρ M => zsw b S Rn kn kb kr ρ M) ρ M) : zsw (zsIteD E D c a b) S Rn kn kb kr ρ M := by
  rw [w_IteD]
  first | exact h | simpa only [true_and] using h
theorem i_IfR {T : Nat} {c : zC} {a : zSt} (h : zcw c S Rn (fun ρ M => zsw a S Rn (fun _ _ => False) kb kr ρ M) kn ρ M) : zsw (zsIfR T c a) S Rn kn kb kr ρ M := by
  rw [w_IfR]
  first | exact h | simpa only [true_and] using h
theorem i_Brk {j : Nat} (h : kb j ρ M) : zsw (zsBrk j) S Rn kn kb kr ρ M := by
  rw [w_Brk]
  first | exact h | simpa only [true_and] using h
theorem i_IfBrk {D : Nat} {c : zC} {j : Nat} (h : zcw c S Rn (fun ρ M => kb j ρ M) kn ρ M) : zsw (zsIfBrk D c j) S Rn kn kb kr ρ M := by
  rw [w_IfBrk]
  first | exact h | simpa only [true_and] using h
theorem i_Sw {n D : Nat} {e : zE 0} {bs : List (List Int × zSt)} {ds : zSt} (h : zew e S Rn (fun x ρ M => zswW bs x (fun ρ M => zsw ds S Rn kn (zlab1 kn kb) kr ρ M) (fun s ρ M => zsw s S Rn (fun _ _ => False) (zlab1 kn kb) kr ρ M) ρ M) ρ M) : zsw (zsSw n D e bs ds) S Rn kn kb kr ρ M := by
  rw [w_Sw]
  first | exact h | simpa only [true_and] using h
theorem i_sw0 {x : Int} {d : zK} {f : zSt → zK} (h : d ρ M) : zswW [] x d f ρ M := by
  rw [w_sw0]
  first | exact h | simpa only [true_and] using h
theorem i_sw1 {ks : List Int} {s : zSt} {r : List (List Int × zSt)} {x : Int} {d : zK} {f : zSt → zK} (h : (x ∈ ks → f s ρ M) ∧ (¬ x ∈ ks → zswW r x d f ρ M)) : zswW ((ks, s) :: r) x d f ρ M := by
  rw [w_sw1]
  first | exact h | simpa only [true_and] using h
theorem i_lab0 {k0 k1 : zK} (h : k0 ρ M) : zlab k0 k1 kb 0 ρ M := h
theorem i_lab1 {k0 k1 : zK} (h : k1 ρ M) : zlab k0 k1 kb 1 ρ M := h
theorem i_lab2 {k0 k1 : zK} {j : Nat} (h : kb j ρ M) : zlab k0 k1 kb (j + 2) ρ M := h
theorem i_lb0 {k0 : zK} (h : k0 ρ M) : zlab1 k0 kb 0 ρ M := h
theorem i_lb1 {k0 : zK} {j : Nat} (h : kb j ρ M) : zlab1 k0 kb (j + 1) ρ M := h
theorem i_recv0 {ci : Nat} {o : Int} {as : List zV} {P : Prop} (ho : zObj S o ci) (h : P) : zRecv S 0 ci ((2, o) :: as) ∧ P := ⟨fun _ => ⟨o, as, rfl, ho⟩, h⟩
theorem i_recv1 {ci : Nat} {vs : List zV} {P : Prop} (h : P) : zRecv S 1 ci vs ∧ P := ⟨fun q => absurd q (by decide), h⟩
theorem i_recv2 {ci : Nat} {vs : List zV} {P : Prop} (h : P) : zRecv S 2 ci vs ∧ P := ⟨fun q => absurd q (by decide), h⟩
theorem i_fld {x : Int} {ci j : Nat} {P : Prop} (h : zFld S x ci j = some none) (k : P) : zFld S x ci j = some none ∧ P := ⟨h, k⟩
theorem i_fldR {x : Int} {ci j r : Nat} {P : Nat → Prop} (h : zFld S x ci j = some (some (some r))) (k : P r) : ∃ r : Nat, zFld S x ci j = some (some (some r)) ∧ P r := ⟨r, h, k⟩
theorem i_in {a j : Int} {ty : FieldType} {n : Nat} {P : Prop} (h : zArr S a ty n) (h1 : 0 ≤ j) (h2 : j < (n : Nat)) (k : P) : zIn S a ty j ∧ P := ⟨⟨n, h, h1, h2⟩, k⟩
theorem i_copy {x0 x1 s d c : Int} {n0 n1 : Nat} {P : Prop} (h0 : zArr S x0 .int n0) (h1 : zArr S x1 .int n1) (h : 0 ≤ s ∧ 0 ≤ d ∧ 0 ≤ c ∧ s + c ≤ (n0 : Nat) ∧ d + c ≤ (n1 : Nat)) (k : P) : (∃ k0 k1, zArr S x0 .int k0 ∧ zArr S x1 .int k1 ∧ 0 ≤ s ∧ 0 ≤ d ∧ 0 ≤ c ∧ s + c ≤ (k0 : Nat) ∧ d + c ≤ (k1 : Nat)) ∧ P := ⟨⟨n0, n1, h0, h1, h⟩, k⟩
theorem i_turn {c : zC} {a : zSt} {Y : zK} (h : zcw c S Rn (fun ρ M => zsw a S Rn Y (zlab kn Y kb) kr ρ M) kn ρ M) : zTurn c a S Rn kn kb kr Y ρ M := h
theorem i_up {u : zSt} {X : zK} (h : zsw u S Rn X (fun _ _ _ => False) kr ρ M) : zUp u S Rn kr X ρ M := h
theorem i_L0 {b0 : Int} {l : zLoc} (h : K b0 (b0 :: l) M) : zew (zeL 0) S Rn K (b0 :: l) M := h
theorem i_Ll0 {b0 : Int} {l : zLoc} (h : K b0 (b0 :: l) M) : zew (zeLl 0) S Rn K (b0 :: l) M := h
theorem i_A0 {b0 : Int} {l : zLoc} (h : K b0 (b0 :: l) M) : zew (zeA 0) S Rn K (b0 :: l) M := h
theorem i_Inc0 {d : Int} {b0 : Int} {l : zLoc} (h : kn (zsetl (b0 :: l) 0 (zw32 (b0 + d))) M) : zsw (zsInc 0 d) S Rn kn kb kr (b0 :: l) M := h
theorem i_L1 {b0 b1 : Int} {l : zLoc} (h : K b1 (b0 :: b1 :: l) M) : zew (zeL 1) S Rn K (b0 :: b1 :: l) M := h
theorem i_Ll1 {b0 b1 : Int} {l : zLoc} (h : K b1 (b0 :: b1 :: l) M) : zew (zeLl 1) S Rn K (b0 :: b1 :: l) M := h
theorem i_A1 {b0 b1 : Int} {l : zLoc} (h : K b1 (b0 :: b1 :: l) M) : zew (zeA 1) S Rn K (b0 :: b1 :: l) M := h
theorem i_Inc1 {d : Int} {b0 b1 : Int} {l : zLoc} (h : kn (zsetl (b0 :: b1 :: l) 1 (zw32 (b1 + d))) M) : zsw (zsInc 1 d) S Rn kn kb kr (b0 :: b1 :: l) M := h
theorem i_L2 {b0 b1 b2 : Int} {l : zLoc} (h : K b2 (b0 :: b1 :: b2 :: l) M) : zew (zeL 2) S Rn K (b0 :: b1 :: b2 :: l) M := h
theorem i_Ll2 {b0 b1 b2 : Int} {l : zLoc} (h : K b2 (b0 :: b1 :: b2 :: l) M) : zew (zeLl 2) S Rn K (b0 :: b1 :: b2 :: l) M := h
theorem i_A2 {b0 b1 b2 : Int} {l : zLoc} (h : K b2 (b0 :: b1 :: b2 :: l) M) : zew (zeA 2) S Rn K (b0 :: b1 :: b2 :: l) M := h
theorem i_Inc2 {d : Int} {b0 b1 b2 : Int} {l : zLoc} (h : kn (zsetl (b0 :: b1 :: b2 :: l) 2 (zw32 (b2 + d))) M) : zsw (zsInc 2 d) S Rn kn kb kr (b0 :: b1 :: b2 :: l) M := h
theorem i_L3 {b0 b1 b2 b3 : Int} {l : zLoc} (h : K b3 (b0 :: b1 :: b2 :: b3 :: l) M) : zew (zeL 3) S Rn K (b0 :: b1 :: b2 :: b3 :: l) M := h
theorem i_Ll3 {b0 b1 b2 b3 : Int} {l : zLoc} (h : K b3 (b0 :: b1 :: b2 :: b3 :: l) M) : zew (zeLl 3) S Rn K (b0 :: b1 :: b2 :: b3 :: l) M := h
theorem i_A3 {b0 b1 b2 b3 : Int} {l : zLoc} (h : K b3 (b0 :: b1 :: b2 :: b3 :: l) M) : zew (zeA 3) S Rn K (b0 :: b1 :: b2 :: b3 :: l) M := h
theorem i_Inc3 {d : Int} {b0 b1 b2 b3 : Int} {l : zLoc} (h : kn (zsetl (b0 :: b1 :: b2 :: b3 :: l) 3 (zw32 (b3 + d))) M) : zsw (zsInc 3 d) S Rn kn kb kr (b0 :: b1 :: b2 :: b3 :: l) M := h
theorem i_L4 {b0 b1 b2 b3 b4 : Int} {l : zLoc} (h : K b4 (b0 :: b1 :: b2 :: b3 :: b4 :: l) M) : zew (zeL 4) S Rn K (b0 :: b1 :: b2 :: b3 :: b4 :: l) M := h
theorem i_Ll4 {b0 b1 b2 b3 b4 : Int} {l : zLoc} (h : K b4 (b0 :: b1 :: b2 :: b3 :: b4 :: l) M) : zew (zeLl 4) S Rn K (b0 :: b1 :: b2 :: b3 :: b4 :: l) M := h
theorem i_A4 {b0 b1 b2 b3 b4 : Int} {l : zLoc} (h : K b4 (b0 :: b1 :: b2 :: b3 :: b4 :: l) M) : zew (zeA 4) S Rn K (b0 :: b1 :: b2 :: b3 :: b4 :: l) M := h
theorem i_Inc4 {d : Int} {b0 b1 b2 b3 b4 : Int} {l : zLoc} (h : kn (zsetl (b0 :: b1 :: b2 :: b3 :: b4 :: l) 4 (zw32 (b4 + d))) M) : zsw (zsInc 4 d) S Rn kn kb kr (b0 :: b1 :: b2 :: b3 :: b4 :: l) M := h
theorem i_L5 {b0 b1 b2 b3 b4 b5 : Int} {l : zLoc} (h : K b5 (b0 :: b1 :: b2 :: b3 :: b4 :: b5 :: l) M) : zew (zeL 5) S Rn K (b0 :: b1 :: b2 :: b3 :: b4 :: b5 :: l) M := h
theorem i_Ll5 {b0 b1 b2 b3 b4 b5 : Int} {l : zLoc} (h : K b5 (b0 :: b1 :: b2 :: b3 :: b4 :: b5 :: l) M) : zew (zeLl 5) S Rn K (b0 :: b1 :: b2 :: b3 :: b4 :: b5 :: l) M := h
theorem i_A5 {b0 b1 b2 b3 b4 b5 : Int} {l : zLoc} (h : K b5 (b0 :: b1 :: b2 :: b3 :: b4 :: b5 :: l) M) : zew (zeA 5) S Rn K (b0 :: b1 :: b2 :: b3 :: b4 :: b5 :: l) M := h
theorem i_Inc5 {d : Int} {b0 b1 b2 b3 b4 b5 : Int} {l : zLoc} (h : kn (zsetl (b0 :: b1 :: b2 :: b3 :: b4 :: b5 :: l) 5 (zw32 (b5 + d))) M) : zsw (zsInc 5 d) S Rn kn kb kr (b0 :: b1 :: b2 :: b3 :: b4 :: b5 :: l) M := h
theorem i_L6 {b0 b1 b2 b3 b4 b5 b6 : Int} {l : zLoc} (h : K b6 (b0 :: b1 :: b2 :: b3 :: b4 :: b5 :: b6 :: l) M) : zew (zeL 6) S Rn K (b0 :: b1 :: b2 :: b3 :: b4 :: b5 :: b6 :: l) M := h
theorem i_Ll6 {b0 b1 b2 b3 b4 b5 b6 : Int} {l : zLoc} (h : K b6 (b0 :: b1 :: b2 :: b3 :: b4 :: b5 :: b6 :: l) M) : zew (zeLl 6) S Rn K (b0 :: b1 :: b2 :: b3 :: b4 :: b5 :: b6 :: l) M := h
theorem i_A6 {b0 b1 b2 b3 b4 b5 b6 : Int} {l : zLoc} (h : K b6 (b0 :: b1 :: b2 :: b3 :: b4 :: b5 :: b6 :: l) M) : zew (zeA 6) S Rn K (b0 :: b1 :: b2 :: b3 :: b4 :: b5 :: b6 :: l) M := h
theorem i_Inc6 {d : Int} {b0 b1 b2 b3 b4 b5 b6 : Int} {l : zLoc} (h : kn (zsetl (b0 :: b1 :: b2 :: b3 :: b4 :: b5 :: b6 :: l) 6 (zw32 (b6 + d))) M) : zsw (zsInc 6 d) S Rn kn kb kr (b0 :: b1 :: b2 :: b3 :: b4 :: b5 :: b6 :: l) M := h
theorem i_L7 {b0 b1 b2 b3 b4 b5 b6 b7 : Int} {l : zLoc} (h : K b7 (b0 :: b1 :: b2 :: b3 :: b4 :: b5 :: b6 :: b7 :: l) M) : zew (zeL 7) S Rn K (b0 :: b1 :: b2 :: b3 :: b4 :: b5 :: b6 :: b7 :: l) M := h
theorem i_Ll7 {b0 b1 b2 b3 b4 b5 b6 b7 : Int} {l : zLoc} (h : K b7 (b0 :: b1 :: b2 :: b3 :: b4 :: b5 :: b6 :: b7 :: l) M) : zew (zeLl 7) S Rn K (b0 :: b1 :: b2 :: b3 :: b4 :: b5 :: b6 :: b7 :: l) M := h
theorem i_A7 {b0 b1 b2 b3 b4 b5 b6 b7 : Int} {l : zLoc} (h : K b7 (b0 :: b1 :: b2 :: b3 :: b4 :: b5 :: b6 :: b7 :: l) M) : zew (zeA 7) S Rn K (b0 :: b1 :: b2 :: b3 :: b4 :: b5 :: b6 :: b7 :: l) M := h
theorem i_Inc7 {d : Int} {b0 b1 b2 b3 b4 b5 b6 b7 : Int} {l : zLoc} (h : kn (zsetl (b0 :: b1 :: b2 :: b3 :: b4 :: b5 :: b6 :: b7 :: l) 7 (zw32 (b7 + d))) M) : zsw (zsInc 7 d) S Rn kn kb kr (b0 :: b1 :: b2 :: b3 :: b4 :: b5 :: b6 :: b7 :: l) M := h
theorem i_L8 {b0 b1 b2 b3 b4 b5 b6 b7 b8 : Int} {l : zLoc} (h : K b8 (b0 :: b1 :: b2 :: b3 :: b4 :: b5 :: b6 :: b7 :: b8 :: l) M) : zew (zeL 8) S Rn K (b0 :: b1 :: b2 :: b3 :: b4 :: b5 :: b6 :: b7 :: b8 :: l) M := h
theorem i_Ll8 {b0 b1 b2 b3 b4 b5 b6 b7 b8 : Int} {l : zLoc} (h : K b8 (b0 :: b1 :: b2 :: b3 :: b4 :: b5 :: b6 :: b7 :: b8 :: l) M) : zew (zeLl 8) S Rn K (b0 :: b1 :: b2 :: b3 :: b4 :: b5 :: b6 :: b7 :: b8 :: l) M := h
theorem i_A8 {b0 b1 b2 b3 b4 b5 b6 b7 b8 : Int} {l : zLoc} (h : K b8 (b0 :: b1 :: b2 :: b3 :: b4 :: b5 :: b6 :: b7 :: b8 :: l) M) : zew (zeA 8) S Rn K (b0 :: b1 :: b2 :: b3 :: b4 :: b5 :: b6 :: b7 :: b8 :: l) M := h
theorem i_Inc8 {d : Int} {b0 b1 b2 b3 b4 b5 b6 b7 b8 : Int} {l : zLoc} (h : kn (zsetl (b0 :: b1 :: b2 :: b3 :: b4 :: b5 :: b6 :: b7 :: b8 :: l) 8 (zw32 (b8 + d))) M) : zsw (zsInc 8 d) S Rn kn kb kr (b0 :: b1 :: b2 :: b3 :: b4 :: b5 :: b6 :: b7 :: b8 :: l) M := h
theorem i_L9 {b0 b1 b2 b3 b4 b5 b6 b7 b8 b9 : Int} {l : zLoc} (h : K b9 (b0 :: b1 :: b2 :: b3 :: b4 :: b5 :: b6 :: b7 :: b8 :: b9 :: l) M) : zew (zeL 9) S Rn K (b0 :: b1 :: b2 :: b3 :: b4 :: b5 :: b6 :: b7 :: b8 :: b9 :: l) M := h
theorem i_Ll9 {b0 b1 b2 b3 b4 b5 b6 b7 b8 b9 : Int} {l : zLoc} (h : K b9 (b0 :: b1 :: b2 :: b3 :: b4 :: b5 :: b6 :: b7 :: b8 :: b9 :: l) M) : zew (zeLl 9) S Rn K (b0 :: b1 :: b2 :: b3 :: b4 :: b5 :: b6 :: b7 :: b8 :: b9 :: l) M := h
theorem i_A9 {b0 b1 b2 b3 b4 b5 b6 b7 b8 b9 : Int} {l : zLoc} (h : K b9 (b0 :: b1 :: b2 :: b3 :: b4 :: b5 :: b6 :: b7 :: b8 :: b9 :: l) M) : zew (zeA 9) S Rn K (b0 :: b1 :: b2 :: b3 :: b4 :: b5 :: b6 :: b7 :: b8 :: b9 :: l) M := h
theorem i_Inc9 {d : Int} {b0 b1 b2 b3 b4 b5 b6 b7 b8 b9 : Int} {l : zLoc} (h : kn (zsetl (b0 :: b1 :: b2 :: b3 :: b4 :: b5 :: b6 :: b7 :: b8 :: b9 :: l) 9 (zw32 (b9 + d))) M) : zsw (zsInc 9 d) S Rn kn kb kr (b0 :: b1 :: b2 :: b3 :: b4 :: b5 :: b6 :: b7 :: b8 :: b9 :: l) M := h
theorem i_L10 {b0 b1 b2 b3 b4 b5 b6 b7 b8 b9 b10 : Int} {l : zLoc} (h : K b10 (b0 :: b1 :: b2 :: b3 :: b4 :: b5 :: b6 :: b7 :: b8 :: b9 :: b10 :: l) M) : zew (zeL 10) S Rn K (b0 :: b1 :: b2 :: b3 :: b4 :: b5 :: b6 :: b7 :: b8 :: b9 :: b10 :: l) M := h
theorem i_Ll10 {b0 b1 b2 b3 b4 b5 b6 b7 b8 b9 b10 : Int} {l : zLoc} (h : K b10 (b0 :: b1 :: b2 :: b3 :: b4 :: b5 :: b6 :: b7 :: b8 :: b9 :: b10 :: l) M) : zew (zeLl 10) S Rn K (b0 :: b1 :: b2 :: b3 :: b4 :: b5 :: b6 :: b7 :: b8 :: b9 :: b10 :: l) M := h
theorem i_A10 {b0 b1 b2 b3 b4 b5 b6 b7 b8 b9 b10 : Int} {l : zLoc} (h : K b10 (b0 :: b1 :: b2 :: b3 :: b4 :: b5 :: b6 :: b7 :: b8 :: b9 :: b10 :: l) M) : zew (zeA 10) S Rn K (b0 :: b1 :: b2 :: b3 :: b4 :: b5 :: b6 :: b7 :: b8 :: b9 :: b10 :: l) M := h
theorem i_Inc10 {d : Int} {b0 b1 b2 b3 b4 b5 b6 b7 b8 b9 b10 : Int} {l : zLoc} (h : kn (zsetl (b0 :: b1 :: b2 :: b3 :: b4 :: b5 :: b6 :: b7 :: b8 :: b9 :: b10 :: l) 10 (zw32 (b10 + d))) M) : zsw (zsInc 10 d) S Rn kn kb kr (b0 :: b1 :: b2 :: b3 :: b4 :: b5 :: b6 :: b7 :: b8 :: b9 :: b10 :: l) M := h
theorem i_L11 {b0 b1 b2 b3 b4 b5 b6 b7 b8 b9 b10 b11 : Int} {l : zLoc} (h : K b11 (b0 :: b1 :: b2 :: b3 :: b4 :: b5 :: b6 :: b7 :: b8 :: b9 :: b10 :: b11 :: l) M) : zew (zeL 11) S Rn K (b0 :: b1 :: b2 :: b3 :: b4 :: b5 :: b6 :: b7 :: b8 :: b9 :: b10 :: b11 :: l) M := h
theorem i_Ll11 {b0 b1 b2 b3 b4 b5 b6 b7 b8 b9 b10 b11 : Int} {l : zLoc} (h : K b11 (b0 :: b1 :: b2 :: b3 :: b4 :: b5 :: b6 :: b7 :: b8 :: b9 :: b10 :: b11 :: l) M) : zew (zeLl 11) S Rn K (b0 :: b1 :: b2 :: b3 :: b4 :: b5 :: b6 :: b7 :: b8 :: b9 :: b10 :: b11 :: l) M := h
theorem i_A11 {b0 b1 b2 b3 b4 b5 b6 b7 b8 b9 b10 b11 : Int} {l : zLoc} (h : K b11 (b0 :: b1 :: b2 :: b3 :: b4 :: b5 :: b6 :: b7 :: b8 :: b9 :: b10 :: b11 :: l) M) : zew (zeA 11) S Rn K (b0 :: b1 :: b2 :: b3 :: b4 :: b5 :: b6 :: b7 :: b8 :: b9 :: b10 :: b11 :: l) M := h
theorem i_Inc11 {d : Int} {b0 b1 b2 b3 b4 b5 b6 b7 b8 b9 b10 b11 : Int} {l : zLoc} (h : kn (zsetl (b0 :: b1 :: b2 :: b3 :: b4 :: b5 :: b6 :: b7 :: b8 :: b9 :: b10 :: b11 :: l) 11 (zw32 (b11 + d))) M) : zsw (zsInc 11 d) S Rn kn kb kr (b0 :: b1 :: b2 :: b3 :: b4 :: b5 :: b6 :: b7 :: b8 :: b9 :: b10 :: b11 :: l) M := h
theorem i_L12 {b0 b1 b2 b3 b4 b5 b6 b7 b8 b9 b10 b11 b12 : Int} {l : zLoc} (h : K b12 (b0 :: b1 :: b2 :: b3 :: b4 :: b5 :: b6 :: b7 :: b8 :: b9 :: b10 :: b11 :: b12 :: l) M) : zew (zeL 12) S Rn K (b0 :: b1 :: b2 :: b3 :: b4 :: b5 :: b6 :: b7 :: b8 :: b9 :: b10 :: b11 :: b12 :: l) M := h
theorem i_Ll12 {b0 b1 b2 b3 b4 b5 b6 b7 b8 b9 b10 b11 b12 : Int} {l : zLoc} (h : K b12 (b0 :: b1 :: b2 :: b3 :: b4 :: b5 :: b6 :: b7 :: b8 :: b9 :: b10 :: b11 :: b12 :: l) M) : zew (zeLl 12) S Rn K (b0 :: b1 :: b2 :: b3 :: b4 :: b5 :: b6 :: b7 :: b8 :: b9 :: b10 :: b11 :: b12 :: l) M := h
theorem i_A12 {b0 b1 b2 b3 b4 b5 b6 b7 b8 b9 b10 b11 b12 : Int} {l : zLoc} (h : K b12 (b0 :: b1 :: b2 :: b3 :: b4 :: b5 :: b6 :: b7 :: b8 :: b9 :: b10 :: b11 :: b12 :: l) M) : zew (zeA 12) S Rn K (b0 :: b1 :: b2 :: b3 :: b4 :: b5 :: b6 :: b7 :: b8 :: b9 :: b10 :: b11 :: b12 :: l) M := h
theorem i_Inc12 {d : Int} {b0 b1 b2 b3 b4 b5 b6 b7 b8 b9 b10 b11 b12 : Int} {l : zLoc} (h : kn (zsetl (b0 :: b1 :: b2 :: b3 :: b4 :: b5 :: b6 :: b7 :: b8 :: b9 :: b10 :: b11 :: b12 :: l) 12 (zw32 (b12 + d))) M) : zsw (zsInc 12 d) S Rn kn kb kr (b0 :: b1 :: b2 :: b3 :: b4 :: b5 :: b6 :: b7 :: b8 :: b9 :: b10 :: b11 :: b12 :: l) M := h
theorem i_L13 {b0 b1 b2 b3 b4 b5 b6 b7 b8 b9 b10 b11 b12 b13 : Int} {l : zLoc} (h : K b13 (b0 :: b1 :: b2 :: b3 :: b4 :: b5 :: b6 :: b7 :: b8 :: b9 :: b10 :: b11 :: b12 :: b13 :: l) M) : zew (zeL 13) S Rn K (b0 :: b1 :: b2 :: b3 :: b4 :: b5 :: b6 :: b7 :: b8 :: b9 :: b10 :: b11 :: b12 :: b13 :: l) M := h
theorem i_Ll13 {b0 b1 b2 b3 b4 b5 b6 b7 b8 b9 b10 b11 b12 b13 : Int} {l : zLoc} (h : K b13 (b0 :: b1 :: b2 :: b3 :: b4 :: b5 :: b6 :: b7 :: b8 :: b9 :: b10 :: b11 :: b12 :: b13 :: l) M) : zew (zeLl 13) S Rn K (b0 :: b1 :: b2 :: b3 :: b4 :: b5 :: b6 :: b7 :: b8 :: b9 :: b10 :: b11 :: b12 :: b13 :: l) M := h
theorem i_A13 {b0 b1 b2 b3 b4 b5 b6 b7 b8 b9 b10 b11 b12 b13 : Int} {l : zLoc} (h : K b13 (b0 :: b1 :: b2 :: b3 :: b4 :: b5 :: b6 :: b7 :: b8 :: b9 :: b10 :: b11 :: b12 :: b13 :: l) M) : zew (zeA 13) S Rn K (b0 :: b1 :: b2 :: b3 :: b4 :: b5 :: b6 :: b7 :: b8 :: b9 :: b10 :: b11 :: b12 :: b13 :: l) M := h
theorem i_Inc13 {d : Int} {b0 b1 b2 b3 b4 b5 b6 b7 b8 b9 b10 b11 b12 b13 : Int} {l : zLoc} (h : kn (zsetl (b0 :: b1 :: b2 :: b3 :: b4 :: b5 :: b6 :: b7 :: b8 :: b9 :: b10 :: b11 :: b12 :: b13 :: l) 13 (zw32 (b13 + d))) M) : zsw (zsInc 13 d) S Rn kn kb kr (b0 :: b1 :: b2 :: b3 :: b4 :: b5 :: b6 :: b7 :: b8 :: b9 :: b10 :: b11 :: b12 :: b13 :: l) M := h
theorem i_L14 {b0 b1 b2 b3 b4 b5 b6 b7 b8 b9 b10 b11 b12 b13 b14 : Int} {l : zLoc} (h : K b14 (b0 :: b1 :: b2 :: b3 :: b4 :: b5 :: b6 :: b7 :: b8 :: b9 :: b10 :: b11 :: b12 :: b13 :: b14 :: l) M) : zew (zeL 14) S Rn K (b0 :: b1 :: b2 :: b3 :: b4 :: b5 :: b6 :: b7 :: b8 :: b9 :: b10 :: b11 :: b12 :: b13 :: b14 :: l) M := h
theorem i_Ll14 {b0 b1 b2 b3 b4 b5 b6 b7 b8 b9 b10 b11 b12 b13 b14 : Int} {l : zLoc} (h : K b14 (b0 :: b1 :: b2 :: b3 :: b4 :: b5 :: b6 :: b7 :: b8 :: b9 :: b10 :: b11 :: b12 :: b13 :: b14 :: l) M) : zew (zeLl 14) S Rn K (b0 :: b1 :: b2 :: b3 :: b4 :: b5 :: b6 :: b7 :: b8 :: b9 :: b10 :: b11 :: b12 :: b13 :: b14 :: l) M := h
theorem i_A14 {b0 b1 b2 b3 b4 b5 b6 b7 b8 b9 b10 b11 b12 b13 b14 : Int} {l : zLoc} (h : K b14 (b0 :: b1 :: b2 :: b3 :: b4 :: b5 :: b6 :: b7 :: b8 :: b9 :: b10 :: b11 :: b12 :: b13 :: b14 :: l) M) : zew (zeA 14) S Rn K (b0 :: b1 :: b2 :: b3 :: b4 :: b5 :: b6 :: b7 :: b8 :: b9 :: b10 :: b11 :: b12 :: b13 :: b14 :: l) M := h
theorem i_Inc14 {d : Int} {b0 b1 b2 b3 b4 b5 b6 b7 b8 b9 b10 b11 b12 b13 b14 : Int} {l : zLoc} (h : kn (zsetl (b0 :: b1 :: b2 :: b3 :: b4 :: b5 :: b6 :: b7 :: b8 :: b9 :: b10 :: b11 :: b12 :: b13 :: b14 :: l) 14 (zw32 (b14 + d))) M) : zsw (zsInc 14 d) S Rn kn kb kr (b0 :: b1 :: b2 :: b3 :: b4 :: b5 :: b6 :: b7 :: b8 :: b9 :: b10 :: b11 :: b12 :: b13 :: b14 :: l) M := h
theorem i_cI_eq {a b : zE 0} (h : zew a S Rn (fun x ρ M => zew b S Rn (fun y ρ M => (x = y → kt ρ M) ∧ (¬ (x = y) → kf ρ M)) ρ M) ρ M) : zcw (zcI .eq a b) S Rn kt kf ρ M := h
theorem i_cZ_eq {a : zE 0} (h : zew a S Rn (fun x ρ M => (x = 0 → kt ρ M) ∧ (¬ (x = 0) → kf ρ M)) ρ M) : zcw (zcZ .eq a) S Rn kt kf ρ M := h
theorem i_cI_ne {a b : zE 0} (h : zew a S Rn (fun x ρ M => zew b S Rn (fun y ρ M => (x ≠ y → kt ρ M) ∧ (¬ (x ≠ y) → kf ρ M)) ρ M) ρ M) : zcw (zcI .ne a b) S Rn kt kf ρ M := h
theorem i_cZ_ne {a : zE 0} (h : zew a S Rn (fun x ρ M => (x ≠ 0 → kt ρ M) ∧ (¬ (x ≠ 0) → kf ρ M)) ρ M) : zcw (zcZ .ne a) S Rn kt kf ρ M := h
theorem i_cI_lt {a b : zE 0} (h : zew a S Rn (fun x ρ M => zew b S Rn (fun y ρ M => (x < y → kt ρ M) ∧ (¬ (x < y) → kf ρ M)) ρ M) ρ M) : zcw (zcI .lt a b) S Rn kt kf ρ M := h
theorem i_cZ_lt {a : zE 0} (h : zew a S Rn (fun x ρ M => (x < 0 → kt ρ M) ∧ (¬ (x < 0) → kf ρ M)) ρ M) : zcw (zcZ .lt a) S Rn kt kf ρ M := h
theorem i_cI_ge {a b : zE 0} (h : zew a S Rn (fun x ρ M => zew b S Rn (fun y ρ M => (y ≤ x → kt ρ M) ∧ (¬ (y ≤ x) → kf ρ M)) ρ M) ρ M) : zcw (zcI .ge a b) S Rn kt kf ρ M := h
theorem i_cZ_ge {a : zE 0} (h : zew a S Rn (fun x ρ M => (0 ≤ x → kt ρ M) ∧ (¬ (0 ≤ x) → kf ρ M)) ρ M) : zcw (zcZ .ge a) S Rn kt kf ρ M := h
theorem i_cI_gt {a b : zE 0} (h : zew a S Rn (fun x ρ M => zew b S Rn (fun y ρ M => (y < x → kt ρ M) ∧ (¬ (y < x) → kf ρ M)) ρ M) ρ M) : zcw (zcI .gt a b) S Rn kt kf ρ M := h
theorem i_cZ_gt {a : zE 0} (h : zew a S Rn (fun x ρ M => (0 < x → kt ρ M) ∧ (¬ (0 < x) → kf ρ M)) ρ M) : zcw (zcZ .gt a) S Rn kt kf ρ M := h
theorem i_cI_le {a b : zE 0} (h : zew a S Rn (fun x ρ M => zew b S Rn (fun y ρ M => (x ≤ y → kt ρ M) ∧ (¬ (x ≤ y) → kf ρ M)) ρ M) ρ M) : zcw (zcI .le a b) S Rn kt kf ρ M := h
theorem i_cZ_le {a : zE 0} (h : zew a S Rn (fun x ρ M => (x ≤ 0 → kt ρ M) ∧ (¬ (x ≤ 0) → kf ρ M)) ρ M) : zcw (zcZ .le a) S Rn kt kf ρ M := h
theorem i_len {S : List zSh} {a : Int} {ty : FieldType} {n : Nat} {P : Nat → Prop} (h : zArr S a ty n) (hn : n < 2147483648) (k : P n) : ∃ ty n, zArr S a ty n ∧ n < 2147483648 ∧ P n := ⟨ty, n, h, hn, k⟩
theorem i_t {c A B : Prop} (h : c) (a : A) : (c → A) ∧ (¬ c → B) := ⟨fun _ => a, fun q => absurd h q⟩
theorem i_f {c A B : Prop} (h : ¬ c) (b : B) : (c → A) ∧ (¬ c → B) := ⟨fun q => absurd q h, fun _ => b⟩
theorem i_z {x : Int} {A : Prop} (h : x = 0 ∨ x = 1) (a : A) : (x = 0 ∨ x = 1) ∧ A := ⟨h, a⟩
theorem i_nn {y : Int} {A : Prop} (h : y ≠ 0) (a : A) : y ≠ 0 ∧ A := ⟨h, a⟩
end WI
theorem w_setT (v : Int) (l : zLoc) : zsetl l 0 v = v :: l.tail := by cases l <;> rfl
theorem zx_s {x : Int} (h1 : -2147483648 ≤ x) (h2 : x < 2147483648) : zw32 x = x := zw32_id ⟨h1, h2⟩
theorem zx_n {x : Int} {n : Nat} (h : x = (n : Int)) (h2 : n < 2147483648) : zw32 x = (n : Int) := by rw [h]; exact zx_s (by omega) (by omega)
theorem zx_inc {a : Nat} (h : a + 1 < 2147483648) : zw32 ((a : Int) + 1) = ((a + 1 : Nat) : Int) := zx_n (by omega) h
theorem zx_add {a b : Nat} (h : a + b < 2147483648) : zw32 ((a : Int) + (b : Int)) = ((a + b : Nat) : Int) := zx_n (by omega) h
theorem zx_sub {a b : Nat} (h : b ≤ a) (ha : a < 2147483648) : zw32 ((a : Int) - (b : Int)) = ((a - b : Nat) : Int) := zx_n (by omega) (by omega)
theorem zx_mul {a b : Nat} (h : a * b < 2147483648) : zw32 ((a : Int) * (b : Int)) = ((a * b : Nat) : Int) := zx_n (by rw [Int.natCast_mul]) h
theorem zx_addc {a c : Nat} (h : a + @OfNat.ofNat Nat c (instOfNatNat c) < 2147483648) : zw32 ((a : Int) + @OfNat.ofNat Int c (@instOfNat c)) = ((a + @OfNat.ofNat Nat c (instOfNatNat c) : Nat) : Int) := zx_n (Int.natCast_add a c).symm h
theorem zx_cadd {a c : Nat} (h : @OfNat.ofNat Nat c (instOfNatNat c) + a < 2147483648) : zw32 (@OfNat.ofNat Int c (@instOfNat c) + (a : Int)) = ((@OfNat.ofNat Nat c (instOfNatNat c) + a : Nat) : Int) := zx_n (Int.natCast_add c a).symm h
theorem zx_subc {a c : Nat} (h : @OfNat.ofNat Nat c (instOfNatNat c) ≤ a) (ha : a < 2147483648) : zw32 ((a : Int) - @OfNat.ofNat Int c (@instOfNat c)) = ((a - @OfNat.ofNat Nat c (instOfNatNat c) : Nat) : Int) := zx_n (Int.ofNat_sub h).symm (Nat.lt_of_le_of_lt (Nat.sub_le _ _) ha)
theorem zx_mulc {a c : Nat} (h : a * @OfNat.ofNat Nat c (instOfNatNat c) < 2147483648) : zw32 ((a : Int) * @OfNat.ofNat Int c (@instOfNat c)) = ((a * @OfNat.ofNat Nat c (instOfNatNat c) : Nat) : Int) := zx_n (Int.natCast_mul a c).symm h
theorem zx_cmul {a c : Nat} (h : @OfNat.ofNat Nat c (instOfNatNat c) * a < 2147483648) : zw32 (@OfNat.ofNat Int c (@instOfNat c) * (a : Int)) = ((@OfNat.ofNat Nat c (instOfNatNat c) * a : Nat) : Int) := zx_n (Int.natCast_mul c a).symm h
theorem zx_divc {a c : Nat} (h : a < 2147483648) : zw32 ((a : Int).tdiv (@OfNat.ofNat Int c (@instOfNat c))) = ((a / @OfNat.ofNat Nat c (instOfNatNat c) : Nat) : Int) := zx_n (Int.ofNat_tdiv a c).symm (Nat.lt_of_le_of_lt (Nat.div_le_self _ _) h)
theorem zx_modc {a c : Nat} : (a : Int).tmod (@OfNat.ofNat Int c (@instOfNat c)) = ((a % @OfNat.ofNat Nat c (instOfNatNat c) : Nat) : Int) := (Int.ofNat_tmod a c).symm
