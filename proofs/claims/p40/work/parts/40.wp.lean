/-! ===== what the pieces do, as rows to rewrite by ===== -/
/-! bit operations as names that nothing unfolds -/
theorem yand_ex : ∃ f : Int → Int → Int, f = zand := ⟨zand, rfl⟩
noncomputable def yand : Int → Int → Int := Classical.choose yand_ex
theorem yand_eq : yand = zand := Classical.choose_spec yand_ex
theorem yor_ex : ∃ f : Int → Int → Int, f = zor := ⟨zor, rfl⟩
noncomputable def yor : Int → Int → Int := Classical.choose yor_ex
theorem yor_eq : yor = zor := Classical.choose_spec yor_ex
theorem yxor_ex : ∃ f : Int → Int → Int, f = zxor := ⟨zxor, rfl⟩
noncomputable def yxor : Int → Int → Int := Classical.choose yxor_ex
theorem yxor_eq : yxor = zxor := Classical.choose_spec yxor_ex
theorem yshl_ex : ∃ f : Int → Int → Int, f = zshl := ⟨zshl, rfl⟩
noncomputable def yshl : Int → Int → Int := Classical.choose yshl_ex
theorem yshl_eq : yshl = zshl := Classical.choose_spec yshl_ex
theorem yshr_ex : ∃ f : Int → Int → Int, f = zshr := ⟨zshr, rfl⟩
noncomputable def yshr : Int → Int → Int := Classical.choose yshr_ex
theorem yshr_eq : yshr = zshr := Classical.choose_spec yshr_ex
theorem yushr_ex : ∃ f : Int → Int → Int, f = zushr := ⟨zushr, rfl⟩
noncomputable def yushr : Int → Int → Int := Classical.choose yushr_ex
theorem yushr_eq : yushr = zushr := Classical.choose_spec yushr_ex
theorem yi2b_ex : ∃ f : Int → Int, f = zi2b := ⟨zi2b, rfl⟩
noncomputable def yi2b : Int → Int := Classical.choose yi2b_ex
theorem yi2b_eq : yi2b = zi2b := Classical.choose_spec yi2b_ex
section WP
variable {S : List zSh} {Rn : zRnT} {K : Int → zLoc → zMem → Prop} {kn : zK} {kb : Nat → zK} {kr : Option zV → zMem → Prop} {kt kf : zK} {ρ : zLoc} {M : zMem}
theorem w_I (v : Int) : zew (zeI v) S Rn K ρ M = K v ρ M := (rfl)
theorem w_Ldc (k : Nat) (v : Int) : zew (zeLdc k v) S Rn K ρ M = K v ρ M := (rfl)
theorem w_LdcL (k : Nat) (v : Int) : zew (zeLdcL k v) S Rn K ρ M = K v ρ M := (rfl)
theorem w_IL (v : Fin 2) : zew (zeIL v) S Rn K ρ M = K ((v : Nat) : Int) ρ M := (rfl)
theorem w_Null : zew zeNull S Rn K ρ M = K (-1) ρ M := (rfl)
theorem w_L (k : Nat) : zew (zeL k) S Rn K ρ M = K (zget ρ k) ρ M := (rfl)
theorem w_Ll (k : Nat) : zew (zeLl k) S Rn K ρ M = K (zget ρ k) ρ M := (rfl)
theorem w_A (k : Nat) : zew (zeA k) S Rn K ρ M = K (zget ρ k) ρ M := (rfl)
theorem w_Add (a b : zE 0) : zew (zeAdd a b) S Rn K ρ M = zew a S Rn (fun x ρ M => zew b S Rn (fun y ρ M => True ∧ K (zw32 (x + y)) ρ M) ρ M) ρ M := (rfl)
theorem w_Sub (a b : zE 0) : zew (zeSub a b) S Rn K ρ M = zew a S Rn (fun x ρ M => zew b S Rn (fun y ρ M => True ∧ K (zw32 (x - y)) ρ M) ρ M) ρ M := (rfl)
theorem w_Mul (a b : zE 0) : zew (zeMul a b) S Rn K ρ M = zew a S Rn (fun x ρ M => zew b S Rn (fun y ρ M => True ∧ K (zw32 (x * y)) ρ M) ρ M) ρ M := (rfl)
theorem w_Div (a b : zE 0) : zew (zeDiv a b) S Rn K ρ M = zew a S Rn (fun x ρ M => zew b S Rn (fun y ρ M => y ≠ 0 ∧ K (zw32 (x.tdiv y)) ρ M) ρ M) ρ M := (rfl)
theorem w_Rem (a b : zE 0) : zew (zeRem a b) S Rn K ρ M = zew a S Rn (fun x ρ M => zew b S Rn (fun y ρ M => y ≠ 0 ∧ K (x.tmod y) ρ M) ρ M) ρ M := (rfl)
theorem w_And (a b : zE 0) : zew (zeAnd a b) S Rn K ρ M = zew a S Rn (fun x ρ M => zew b S Rn (fun y ρ M => True ∧ K (yand x y) ρ M) ρ M) ρ M := by rw [yand_eq]; rfl
theorem w_Or (a b : zE 0) : zew (zeOr a b) S Rn K ρ M = zew a S Rn (fun x ρ M => zew b S Rn (fun y ρ M => True ∧ K (yor x y) ρ M) ρ M) ρ M := by rw [yor_eq]; rfl
theorem w_Xor (a b : zE 0) : zew (zeXor a b) S Rn K ρ M = zew a S Rn (fun x ρ M => zew b S Rn (fun y ρ M => True ∧ K (yxor x y) ρ M) ρ M) ρ M := by rw [yxor_eq]; rfl
theorem w_Shl (a b : zE 0) : zew (zeShl a b) S Rn K ρ M = zew a S Rn (fun x ρ M => zew b S Rn (fun y ρ M => True ∧ K (yshl x y) ρ M) ρ M) ρ M := by rw [yshl_eq]; rfl
theorem w_Shr (a b : zE 0) : zew (zeShr a b) S Rn K ρ M = zew a S Rn (fun x ρ M => zew b S Rn (fun y ρ M => True ∧ K (yshr x y) ρ M) ρ M) ρ M := by rw [yshr_eq]; rfl
theorem w_Ushr (a b : zE 0) : zew (zeUshr a b) S Rn K ρ M = zew a S Rn (fun x ρ M => zew b S Rn (fun y ρ M => True ∧ K (yushr x y) ρ M) ρ M) ρ M := by rw [yushr_eq]; rfl
theorem w_AddL (a b : zE 1) : zew (zeAddL a b) S Rn K ρ M = zew a S Rn (fun x ρ M => zew b S Rn (fun y ρ M => True ∧ K (zw64 (x + y)) ρ M) ρ M) ρ M := (rfl)
theorem w_SubL (a b : zE 1) : zew (zeSubL a b) S Rn K ρ M = zew a S Rn (fun x ρ M => zew b S Rn (fun y ρ M => True ∧ K (zw64 (x - y)) ρ M) ρ M) ρ M := (rfl)
theorem w_MulL (a b : zE 1) : zew (zeMulL a b) S Rn K ρ M = zew a S Rn (fun x ρ M => zew b S Rn (fun y ρ M => True ∧ K (zw64 (x * y)) ρ M) ρ M) ρ M := (rfl)
theorem w_CmpL (a b : zE 1) : zew (zeCmpL a b) S Rn K ρ M = zew a S Rn (fun x ρ M => zew b S Rn (fun y ρ M => True ∧ K (zcmp x y) ρ M) ρ M) ρ M := (rfl)
theorem w_Neg (a : zE 0) : zew (zeNeg a) S Rn K ρ M = zew a S Rn (fun x ρ M => K (zw32 (-x)) ρ M) ρ M := (rfl)
theorem w_I2L (a : zE 0) : zew (zeI2L a) S Rn K ρ M = zew a S Rn (fun x ρ M => K x ρ M) ρ M := (rfl)
theorem w_L2I (a : zE 1) : zew (zeL2I a) S Rn K ρ M = zew a S Rn (fun x ρ M => K (zw32 x) ρ M) ρ M := (rfl)
theorem w_I2B (a : zE 0) : zew (zeI2B a) S Rn K ρ M = zew a S Rn (fun x ρ M => K (yi2b x) ρ M) ρ M := by rw [yi2b_eq]; rfl
theorem w_F (k ci j : Nat) (o : zE 2) : zew (zeF k ci j o) S Rn K ρ M = zew o S Rn (fun x ρ M => zFld S x ci j = some none ∧ K (M x j) ρ M) ρ M := (rfl)
theorem w_FR (k ci j : Nat) (o : zE 2) : zew (zeFR k ci j o) S Rn K ρ M = zew o S Rn (fun x ρ M => ∃ r : Nat, zFld S x ci j = some (some (some r)) ∧ K (r : Int) ρ M) ρ M := (rfl)
def zIn (S : List zSh) (a : Int) (ty : FieldType) (j : Int) : Prop := ∃ n : Nat, zArr S a ty n ∧ 0 ≤ j ∧ j < (n : Nat)
theorem w_Pi (ty : FieldType) (a j : Int) (Q : Int → Prop) : (∃ v, zPi ty S M a j v ∧ Q v) = (zIn S a ty j ∧ Q (M a j)) := propext ⟨fun ⟨v, ⟨h1, h2⟩, h3⟩ => ⟨h2, h1 ▸ h3⟩, fun ⟨h2, h3⟩ => ⟨_, ⟨rfl, h2⟩, h3⟩⟩
theorem w_IA (a : zE 2) (b : zE 0) : zew (zeIA a b) S Rn K ρ M = zew a S Rn (fun x ρ M => zew b S Rn (fun y ρ M => zIn S x .int y ∧ K (M x y) ρ M) ρ M) ρ M := by show zew a S Rn (fun x ρ M => zew b S Rn (fun y ρ M => ∃ v, zPi .int S M x y v ∧ K v ρ M) ρ M) ρ M = _; simp only [w_Pi]
theorem w_ZA (a : zE 2) (b : zE 0) : zew (zeZA a b) S Rn K ρ M = zew a S Rn (fun x ρ M => zew b S Rn (fun y ρ M => zIn S x .boolean y ∧ K (M x y) ρ M) ρ M) ρ M := by show zew a S Rn (fun x ρ M => zew b S Rn (fun y ρ M => ∃ v, zPi .boolean S M x y v ∧ K v ρ M) ρ M) ρ M = _; simp only [w_Pi]
theorem w_BA (a : zE 2) (b : zE 0) : zew (zeBA a b) S Rn K ρ M = zew a S Rn (fun x ρ M => zew b S Rn (fun y ρ M => zIn S x .byte y ∧ K (M x y) ρ M) ρ M) ρ M := by show zew a S Rn (fun x ρ M => zew b S Rn (fun y ρ M => ∃ v, zPi .byte S M x y v ∧ K v ρ M) ρ M) ρ M = _; simp only [w_Pi]
theorem w_LA (a : zE 2) (b : zE 0) : zew (zeLA a b) S Rn K ρ M = zew a S Rn (fun x ρ M => zew b S Rn (fun y ρ M => zIn S x .long y ∧ K (M x y) ρ M) ρ M) ρ M := by show zew a S Rn (fun x ρ M => zew b S Rn (fun y ρ M => ∃ v, zPi .long S M x y v ∧ K v ρ M) ρ M) ρ M = _; simp only [w_Pi]
theorem w_RA (a : zE 2) (b : zE 0) : zew (zeRA a b) S Rn K ρ M = zew a S Rn (fun x ρ M => zew b S Rn (fun y ρ M => ∃ v, zPr S M x y v ∧ K v ρ M) ρ M) ρ M := (rfl)
theorem w_Len (a : zE 2) : zew (zeLen a) S Rn K ρ M = zew a S Rn (fun x ρ M => ∃ ty n, zArr S x ty n ∧ n < 2147483648 ∧ K (n : Nat) ρ M) ρ M := (rfl)
theorem w_MM (mx k : Nat) (a b : zE 0) : zew (zeMM mx k a b) S Rn K ρ M = zew a S Rn (fun x ρ M => zew b S Rn (fun y ρ M => K (if mx = 3 then max x y else min x y) ρ M) ρ M) ρ M := (rfl)
theorem w_Call (t kd k f ci na : Nat) (as : List zEx) : zew (zeCall t kd k f ci na as) S Rn K ρ M = zasW as S Rn (fun vs ρ M => zRecv S kd ci vs ∧ Rn (zFn f) vs M (fun v M' => ∃ x, v = some (t, x) ∧ K x ρ M')) ρ M := (rfl)
theorem w_as0 (k : List zV → zLoc → zMem → Prop) : zasW [] S Rn k ρ M = k [] ρ M := (rfl)
theorem w_as1 (t : Nat) (a : zE t) (r : List zEx) (k : List zV → zLoc → zMem → Prop) : zasW (⟨t, a⟩ :: r) S Rn k ρ M = zew a S Rn (fun v ρ M => zasW r S Rn (fun vs ρ M => k ((t, v) :: vs) ρ M) ρ M) ρ M := (rfl)
theorem w_eIf {t : Nat} (E D : Nat) (c : zC) (a b : zE t) : zew (zeIf E D c a b) S Rn K ρ M = zcw c S Rn (fun ρ M => zew a S Rn K ρ M) (fun ρ M => zew b S Rn K ρ M) ρ M := (rfl)
theorem w_cI (c : Jvm.ClassFile.Cond) (a b : zE 0) : zcw (zcI c a b) S Rn kt kf ρ M = zew a S Rn (fun x ρ M => zew b S Rn (fun y ρ M => (zcond c x y → kt ρ M) ∧ (¬ zcond c x y → kf ρ M)) ρ M) ρ M := (rfl)
theorem w_cZ (c : Jvm.ClassFile.Cond) (a : zE 0) : zcw (zcZ c a) S Rn kt kf ρ M = zew a S Rn (fun x ρ M => (zcond c x 0 → kt ρ M) ∧ (¬ zcond c x 0 → kf ρ M)) ρ M := (rfl)
theorem w_cN (a : zE 2) : zcw (zcN a) S Rn kt kf ρ M = zew a S Rn (fun x ρ M => (x = -1 → kt ρ M) ∧ (¬ x = -1 → kf ρ M)) ρ M := (rfl)
theorem w_cNot (c : zC) : zcw (zcNot c) S Rn kt kf ρ M = zcw c S Rn kf kt ρ M := (rfl)
theorem w_cAnd (L : Nat) (a b : zC) : zcw (zcAnd L a b) S Rn kt kf ρ M = zcw a S Rn (fun ρ M => zcw b S Rn kt kf ρ M) kf ρ M := (rfl)
theorem w_cOr (L : Nat) (a b : zC) : zcw (zcOr L a b) S Rn kt kf ρ M = zcw a S Rn kt (fun ρ M => zcw b S Rn kt kf ρ M) ρ M := (rfl)
theorem w_cIf (E L : Nat) (c a b : zC) : zcw (zcIf E L c a b) S Rn kt kf ρ M = zcw c S Rn (fun ρ M => zcw a S Rn kt kf ρ M) (fun ρ M => zcw b S Rn kt kf ρ M) ρ M := (rfl)
theorem w_eq (x y : Int) : zcond .eq x y = (x = y) := (rfl)
theorem w_ne (x y : Int) : zcond .ne x y = (x ≠ y) := (rfl)
theorem w_lt (x y : Int) : zcond .lt x y = (x < y) := (rfl)
theorem w_ge (x y : Int) : zcond .ge x y = (y ≤ x) := (rfl)
theorem w_gt (x y : Int) : zcond .gt x y = (y < x) := (rfl)
theorem w_le (x y : Int) : zcond .le x y = (x ≤ y) := (rfl)
theorem w_Skip : zsw zsSkip S Rn kn kb kr ρ M = kn ρ M := (rfl)
theorem w_Seq (a b : zSt) : zsw (zsSeq a b) S Rn kn kb kr ρ M = zsw a S Rn (fun ρ M => zsw b S Rn kn kb kr ρ M) kb kr ρ M := (rfl)
theorem w_Blk (a : zSt) : zsw (zsBlk a) S Rn kn kb kr ρ M = zsw a S Rn kn kb kr ρ M := (rfl)
theorem w_Set {t : Nat} (k : Nat) (e : zE t) : zsw (zsSet k e) S Rn kn kb kr ρ M = zew e S Rn (fun x ρ M => kn (zsetl ρ k x) M) ρ M := (rfl)
theorem w_Inc (k : Nat) (d : Int) : zsw (zsInc k d) S Rn kn kb kr ρ M = kn (zsetl ρ k (zw32 (zget ρ k + d))) M := (rfl)
theorem w_sF (k ci j : Nat) (o : zE 2) (e : zE 0) : zsw (zsF k ci j o e) S Rn kn kb kr ρ M = zew o S Rn (fun x ρ M => zew e S Rn (fun y ρ M => zFld S x ci j = some none ∧ kn ρ (zput M x (zup (M x) j y))) ρ M) ρ M := (rfl)
theorem w_FO (k ci j : Nat) (i : Instr) (F : Int → Int → Int) (hi) (o : zE 2) (e : zE 0) : zsw (zsFO k ci j i F hi o e) S Rn kn kb kr ρ M = zew o S Rn (fun x ρ M => zFld S x ci j = some none ∧ zew e S Rn (fun y ρ M2 => zFld S x ci j = some none ∧ kn ρ (zput M2 x (zup (M2 x) j (F (M x j) y)))) ρ M) ρ M := (rfl)
theorem w_sIA (a : zE 2) (b e : zE 0) : zsw (zsIA a b e) S Rn kn kb kr ρ M = zew a S Rn (fun x ρ M => zew b S Rn (fun j ρ M => zew e S Rn (fun y ρ M => zIn S x .int j ∧ kn ρ (zput M x (zup (M x) j y))) ρ M) ρ M) ρ M := (rfl)
theorem w_sLA (a : zE 2) (b : zE 0) (e : zE 1) : zsw (zsLA a b e) S Rn kn kb kr ρ M = zew a S Rn (fun x ρ M => zew b S Rn (fun j ρ M => zew e S Rn (fun y ρ M => zIn S x .long j ∧ kn ρ (zput M x (zup (M x) j y))) ρ M) ρ M) ρ M := (rfl)
theorem w_sZA (a : zE 2) (b e : zE 0) : zsw (zsZA a b e) S Rn kn kb kr ρ M = zew a S Rn (fun x ρ M => zew b S Rn (fun j ρ M => zew e S Rn (fun y ρ M => ((y = 0 ∨ y = 1) ∧ zIn S x .boolean j) ∧ kn ρ (zput M x (zup (M x) j y))) ρ M) ρ M) ρ M := (rfl)
theorem w_sBA (a : zE 2) (b e : zE 0) : zsw (zsBA a b e) S Rn kn kb kr ρ M = zew a S Rn (fun x ρ M => zew b S Rn (fun j ρ M => zew e S Rn (fun y ρ M => ((-128 ≤ y ∧ y < 128) ∧ zIn S x .byte j) ∧ kn ρ (zput M x (zup (M x) j y))) ρ M) ρ M) ρ M := (rfl)
theorem w_IO (i : Instr) (F : Int → Int → Int) (hi) (a : zE 2) (b e : zE 0) : zsw (zsIO i F hi a b e) S Rn kn kb kr ρ M = zew a S Rn (fun x ρ M => zew b S Rn (fun j ρ M => zIn S x .int j ∧ zew e S Rn (fun y ρ M2 => kn ρ (zput M2 x (zup (M2 x) j (F (M x j) y)))) ρ M) ρ M) ρ M := (rfl)
theorem w_Pop {t : Nat} (e : zE t) : zsw (zsPop e) S Rn kn kb kr ρ M = zew e S Rn (fun _ ρ M => kn ρ M) ρ M := (rfl)
theorem w_sCall (kd k f ci na : Nat) (as : List zEx) : zsw (zsCall kd k f ci na as) S Rn kn kb kr ρ M = zasW as S Rn (fun vs ρ M => zRecv S kd ci vs ∧ Rn (zFn f) vs M (fun v M' => v = none ∧ kn ρ M')) ρ M := (rfl)
theorem w_Copy (k : Nat) (a0 : zE 2) (sp : zE 0) (a1 : zE 2) (dp cn : zE 0) : zsw (zsCopy k a0 sp a1 dp cn) S Rn kn kb kr ρ M = zew a0 S Rn (fun x0 ρ M => zew sp S Rn (fun s ρ M => zew a1 S Rn (fun x1 ρ M => zew dp S Rn (fun d ρ M => zew cn S Rn (fun c ρ M =>
      (∃ k0 k1, zArr S x0 .int k0 ∧ zArr S x1 .int k1 ∧ 0 ≤ s ∧ 0 ≤ d ∧ 0 ≤ c ∧ s + c ≤ (k0 : Nat) ∧ d + c ≤ (k1 : Nat)) ∧ kn ρ (zput M x1 (zcpy (M x0) (M x1) s d c))) ρ M) ρ M) ρ M) ρ M) ρ M := (rfl)
theorem w_RetI (e : zE 0) : zsw (zsRetI e) S Rn kn kb kr ρ M = zew e S Rn (fun x _ M => kr (some (0, x)) M) ρ M := (rfl)
theorem w_RetZ (e : zE 0) : zsw (zsRetZ e) S Rn kn kb kr ρ M = zew e S Rn (fun x _ M => (x = 0 ∨ x = 1) ∧ kr (some (0, x)) M) ρ M := (rfl)
theorem w_RetL (e : zE 1) : zsw (zsRetL e) S Rn kn kb kr ρ M = zew e S Rn (fun x _ M => kr (some (1, x)) M) ρ M := (rfl)
theorem w_RetR (C : String) (e : zE 2) : zsw (zsRetR C e) S Rn kn kb kr ρ M = zew e S Rn (fun x _ M => kr (some (2, x)) M) ρ M := (rfl)
theorem w_RetV : zsw zsRetV S Rn kn kb kr ρ M = kr none M := (rfl)
theorem w_If (D : Nat) (c : zC) (a : zSt) : zsw (zsIf D c a) S Rn kn kb kr ρ M = zcw c S Rn (fun ρ M => zsw a S Rn kn kb kr ρ M) kn ρ M := (rfl)
theorem w_Ite (E D : Nat) (c : zC) (a b : zSt) : zsw (zsIte E D c a b) S Rn kn kb kr ρ M = zcw c S Rn (fun ρ M => zsw a S Rn kn kb kr ρ M) (fun ρ M => zsw b S Rn kn kb kr ρ M) ρ M := (rfl)
theorem w_IteD (E D : Nat) (c : zC) (a b : zSt) : zsw (zsIteD E D c a b) S Rn kn kb kr ρ M = zcw c S Rn (fun ρ M => zsw a S Rn (fun _ _ => False) kb kr ρ M) (fun ρ M => zsw b S Rn kn kb kr ρ M) ρ M := (rfl)
theorem w_IfR (T : Nat) (c : zC) (a : zSt) : zsw (zsIfR T c a) S Rn kn kb kr ρ M = zcw c S Rn (fun ρ M => zsw a S Rn (fun _ _ => False) kb kr ρ M) kn ρ M := (rfl)
theorem w_Brk (j : Nat) : zsw (zsBrk j) S Rn kn kb kr ρ M = kb j ρ M := (rfl)
theorem w_IfBrk (D : Nat) (c : zC) (j : Nat) : zsw (zsIfBrk D c j) S Rn kn kb kr ρ M = zcw c S Rn (fun ρ M => kb j ρ M) kn ρ M := (rfl)
theorem w_lab0 (k0 k1 : zK) : zlab k0 k1 kb 0 = k0 := (rfl)
theorem w_lab1 (k0 k1 : zK) : zlab k0 k1 kb 1 = k1 := (rfl)
theorem w_lab2 (k0 k1 : zK) (j : Nat) : zlab k0 k1 kb (j + 2) = kb j := (rfl)
theorem w_lb0 (k0 : zK) : zlab1 k0 kb 0 = k0 := (rfl)
theorem w_lb1 (k0 : zK) (j : Nat) : zlab1 k0 kb (j + 1) = kb j := (rfl)
theorem w_Sw (n D : Nat) (e : zE 0) (bs : List (List Int × zSt)) (ds : zSt) : zsw (zsSw n D e bs ds) S Rn kn kb kr ρ M = zew e S Rn (fun x ρ M => zswW bs x (fun ρ M => zsw ds S Rn kn (zlab1 kn kb) kr ρ M) (fun s ρ M => zsw s S Rn (fun _ _ => False) (zlab1 kn kb) kr ρ M) ρ M) ρ M := (rfl)
theorem w_sw0 (x : Int) (d : zK) (f : zSt → zK) : zswW [] x d f ρ M = d ρ M := (rfl)
theorem w_sw1 (ks : List Int) (s : zSt) (r : List (List Int × zSt)) (x : Int) (d : zK) (f : zSt → zK) : zswW ((ks, s) :: r) x d f ρ M = ((x ∈ ks → f s ρ M) ∧ (¬ x ∈ ks → zswW r x d f ρ M)) := (rfl)
theorem w_recv0 (ci : Nat) (o : Int) (as : List zV) : zRecv S 0 ci ((2, o) :: as) = zObj S o ci := propext ⟨fun h => by obtain ⟨o', as', h1, h2⟩ := h rfl; cases h1; exact h2, fun h _ => ⟨o, as, rfl, h⟩⟩
theorem w_recv1 (ci : Nat) (vs : List zV) : zRecv S 1 ci vs = True := propext ⟨fun _ => trivial, fun _ h => by cases h⟩
theorem w_recv2 (ci : Nat) (vs : List zV) : zRecv S 2 ci vs = True := propext ⟨fun _ => trivial, fun _ h => by cases h⟩
theorem w_get0 (a : Int) (l : zLoc) : zget (a :: l) 0 = a := (rfl)
theorem w_get1 (a : Int) (l : zLoc) (k : Nat) : zget (a :: l) (k + 1) = zget l k := (rfl)
theorem w_set0 (a v : Int) (l : zLoc) : zsetl (a :: l) 0 v = v :: l := (rfl)
theorem w_set1 (a v : Int) (l : zLoc) (k : Nat) : zsetl (a :: l) (k + 1) v = a :: zsetl l k v := (rfl)
theorem w_setn0 (v : Int) : zsetl [] 0 v = [v] := (rfl)
theorem w_setn1 (v : Int) (k : Nat) : zsetl [] (k + 1) v = 0 :: zsetl [] k v := (rfl)
/-- what must hold behind a statement may be more than is needed -/
theorem w_cut {s : zSt} (hR : zRMon Rn) (Q : zK) (h1 : zsw s S Rn Q kb kr ρ M) (h2 : ∀ ρ' M', Q ρ' M' → kn ρ' M') : zsw s S Rn kn kb kr ρ M := zsm s S Rn hR _ _ _ _ _ _ ρ M h2 (fun _ _ _ h => h) (fun _ _ h => h) h1
end WP
theorem zR.mon' (O : zOm) : zRMon (zR O) := fun _ _ _ _ _ hk h => zR.mono h hk
/-- while: an invariant over a state of any kind, and a number that falls -/
theorem w_While {α : Type} {S : List zSh} {Rn : zRnT} {kn : zK} {kb : Nat → zK} {kr : Option zV → zMem → Prop} {D : Nat} {c : zC} {a : zSt} (st : α → zLoc × zMem) (I : α → Prop) (μ : α → Nat)
    (hs : ∀ (x : α) (X : zK), I x → (∀ y, I y → μ y < μ x → X (st y).1 (st y).2) → zTurn c a S Rn kn kb kr X (st x).1 (st x).2) (x : α) (hx : I x) : zsw (zsWhile D c a) S Rn kn kb kr (st x).1 (st x).2 := by
  intro X hX
  have : ∀ n (x : α), μ x = n → I x → X (st x).1 (st x).2 := by
    intro n
    induction n using Nat.strongRecOn with
    | ind n ih => intro x hn hx; exact hX _ _ (hs x X hx (fun y hy hm => ih (μ y) (by omega) y rfl hy))
  exact this _ x rfl hx
theorem w_WhileR {α : Type} {S : List zSh} {Rn : zRnT} {kn : zK} {kb : Nat → zK} {kr : Option zV → zMem → Prop} {D : Nat} {c : zC} {a : zSt} (st : α → zLoc × zMem) (I : α → Prop) (μ : α → Nat)
    (hs : ∀ (x : α) (X : zK), I x → (∀ y, I y → μ y < μ x → X (st y).1 (st y).2) → zTurn c a S Rn kn kb kr X (st x).1 (st x).2) (x : α) (hx : I x) : zsw (zsWhileR D c a) S Rn kn kb kr (st x).1 (st x).2 := w_While (D := D) st I μ hs x hx
theorem w_For {α : Type} {S : List zSh} {Rn : zRnT} {kn : zK} {kb : Nat → zK} {kr : Option zV → zMem → Prop} {U D : Nat} {c : zC} {a u : zSt} (st : α → zLoc × zMem) (I : α → Prop) (μ : α → Nat)
    (hs : ∀ (x : α) (X : zK), I x → (∀ y, I y → μ y < μ x → X (st y).1 (st y).2) → zTurn c a S Rn kn kb kr (zUp u S Rn kr X) (st x).1 (st x).2) (x : α) (hx : I x) : zsw (zsFor U D c a u) S Rn kn kb kr (st x).1 (st x).2 := by
  intro X hX
  have : ∀ n (x : α), μ x = n → I x → X (st x).1 (st x).2 := by
    intro n
    induction n using Nat.strongRecOn with
    | ind n ih => intro x hn hx; exact hX _ _ (hs x X hx (fun y hy hm => ih (μ y) (by omega) y rfl hy))
  exact this _ x rfl hx
