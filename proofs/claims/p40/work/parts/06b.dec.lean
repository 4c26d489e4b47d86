/-! ===== a quick look at an instruction: bytes out of one packed number ===== -/
theorem zq_u1 {code : ByteArray} {p : Nat} (h : p < code.size) : (Reader.u1 : Decoder Nat) code p = .ok ((code[p]'h).toNat, p + 1) := by
  show (dite (p < code.size) (fun h => (do set (p + 1); pure (code[p]'h).toNat : Decoder Nat)) (fun _ => throw (HasTruncated.truncated p)) : Decoder Nat) code p = _
  rw [dif_pos h]
  rfl
theorem zq_bind {α β : Type} {x : Decoder α} {f : α → Decoder β} {code : ByteArray} {p q : Nat} {a : α} (h : x code p = .ok (a, q)) : (x >>= f) code p = f a code q := by
  show Except.bind (x code p) _ = _
  rw [h]
  rfl
theorem zq_map {α β : Type} {x : Decoder α} {f : α → β} {code : ByteArray} {p q : Nat} {a : α} (h : x code p = .ok (a, q)) : (f <$> x) code p = .ok (f a, q) := by
  show Except.bind (x code p) _ = _
  rw [h]
  rfl
theorem zq_u2 {code : ByteArray} {p : Nat} (h : p < code.size) (h2 : p + 1 < code.size) : (Reader.u2 : Decoder Nat) code p = .ok ((code[p]'h).toNat * 256 + (code[p + 1]'h2).toNat, p + 1 + 1) :=
  (zq_bind (zq_u1 h)).trans ((zq_bind (zq_u1 h2)).trans rfl)
theorem zq_s1 {code : ByteArray} {p : Nat} (h : p < code.size) : (Reader.s1 : Decoder Int) code p = .ok (Reader.signed 8 (code[p]'h).toNat, p + 1) := zq_map (zq_u1 h)
theorem zq_s2 {code : ByteArray} {p : Nat} (h : p < code.size) (h2 : p + 1 < code.size) : (Reader.s2 : Decoder Int) code p = .ok (Reader.signed 16 ((code[p]'h).toNat * 256 + (code[p + 1]'h2).toNat), p + 1 + 1) := zq_map (zq_u2 h h2)
theorem zq_dec {code : ByteArray} {pc q : Nat} {i : Instr} (h : Decoder.instr pc code pc = .ok (i, q)) : decode code pc = .ok (i, q - pc) := by
  show Except.bind (Decoder.instr pc code pc) _ = _
  rw [h]
  rfl
theorem zq_n1 (pc : Nat) : pc + 1 - pc = 1 := by omega
theorem zq_n2 (pc : Nat) : pc + 1 + 1 - pc = 2 := by omega
theorem zq_n3 (pc : Nat) : pc + 1 + 1 + 1 - pc = 3 := by omega
section
variable {code : ByteArray} {pc : Nat} (h : pc < code.size)
set_option maxRecDepth 8192 in
theorem zq_iaload (hb : (code[pc]'h).toNat = 46) : decode code pc = .ok (.iaload, 1) := by
  have e : Decoder.instr pc code pc = .ok (.iaload, pc + 1) := by
    unfold Decoder.instr
    rw [zq_bind (zq_u1 h), hb]
    first | done | rfl
  rw [zq_dec e, zq_n1]
set_option maxRecDepth 8192 in
theorem zq_laload (hb : (code[pc]'h).toNat = 47) : decode code pc = .ok (.laload, 1) := by
  have e : Decoder.instr pc code pc = .ok (.laload, pc + 1) := by
    unfold Decoder.instr
    rw [zq_bind (zq_u1 h), hb]
    first | done | rfl
  rw [zq_dec e, zq_n1]
set_option maxRecDepth 8192 in
theorem zq_aaload (hb : (code[pc]'h).toNat = 50) : decode code pc = .ok (.aaload, 1) := by
  have e : Decoder.instr pc code pc = .ok (.aaload, pc + 1) := by
    unfold Decoder.instr
    rw [zq_bind (zq_u1 h), hb]
    first | done | rfl
  rw [zq_dec e, zq_n1]
set_option maxRecDepth 8192 in
theorem zq_baload (hb : (code[pc]'h).toNat = 51) : decode code pc = .ok (.baload, 1) := by
  have e : Decoder.instr pc code pc = .ok (.baload, pc + 1) := by
    unfold Decoder.instr
    rw [zq_bind (zq_u1 h), hb]
    first | done | rfl
  rw [zq_dec e, zq_n1]
set_option maxRecDepth 8192 in
theorem zq_iastore (hb : (code[pc]'h).toNat = 79) : decode code pc = .ok (.iastore, 1) := by
  have e : Decoder.instr pc code pc = .ok (.iastore, pc + 1) := by
    unfold Decoder.instr
    rw [zq_bind (zq_u1 h), hb]
    first | done | rfl
  rw [zq_dec e, zq_n1]
set_option maxRecDepth 8192 in
theorem zq_lastore (hb : (code[pc]'h).toNat = 80) : decode code pc = .ok (.lastore, 1) := by
  have e : Decoder.instr pc code pc = .ok (.lastore, pc + 1) := by
    unfold Decoder.instr
    rw [zq_bind (zq_u1 h), hb]
    first | done | rfl
  rw [zq_dec e, zq_n1]
set_option maxRecDepth 8192 in
theorem zq_aastore (hb : (code[pc]'h).toNat = 83) : decode code pc = .ok (.aastore, 1) := by
  have e : Decoder.instr pc code pc = .ok (.aastore, pc + 1) := by
    unfold Decoder.instr
    rw [zq_bind (zq_u1 h), hb]
    first | done | rfl
  rw [zq_dec e, zq_n1]
set_option maxRecDepth 8192 in
theorem zq_bastore (hb : (code[pc]'h).toNat = 84) : decode code pc = .ok (.bastore, 1) := by
  have e : Decoder.instr pc code pc = .ok (.bastore, pc + 1) := by
    unfold Decoder.instr
    rw [zq_bind (zq_u1 h), hb]
    first | done | rfl
  rw [zq_dec e, zq_n1]
set_option maxRecDepth 8192 in
theorem zq_pop (hb : (code[pc]'h).toNat = 87) : decode code pc = .ok (.pop, 1) := by
  have e : Decoder.instr pc code pc = .ok (.pop, pc + 1) := by
    unfold Decoder.instr
    rw [zq_bind (zq_u1 h), hb]
    first | done | rfl
  rw [zq_dec e, zq_n1]
set_option maxRecDepth 8192 in
theorem zq_dup (hb : (code[pc]'h).toNat = 89) : decode code pc = .ok (.dup, 1) := by
  have e : Decoder.instr pc code pc = .ok (.dup, pc + 1) := by
    unfold Decoder.instr
    rw [zq_bind (zq_u1 h), hb]
    first | done | rfl
  rw [zq_dec e, zq_n1]
set_option maxRecDepth 8192 in
theorem zq_dup2 (hb : (code[pc]'h).toNat = 92) : decode code pc = .ok (.dup2, 1) := by
  have e : Decoder.instr pc code pc = .ok (.dup2, pc + 1) := by
    unfold Decoder.instr
    rw [zq_bind (zq_u1 h), hb]
    first | done | rfl
  rw [zq_dec e, zq_n1]
set_option maxRecDepth 8192 in
theorem zq_iadd (hb : (code[pc]'h).toNat = 96) : decode code pc = .ok (.iadd, 1) := by
  have e : Decoder.instr pc code pc = .ok (.iadd, pc + 1) := by
    unfold Decoder.instr
    rw [zq_bind (zq_u1 h), hb]
    first | done | rfl
  rw [zq_dec e, zq_n1]
set_option maxRecDepth 8192 in
theorem zq_ladd (hb : (code[pc]'h).toNat = 97) : decode code pc = .ok (.ladd, 1) := by
  have e : Decoder.instr pc code pc = .ok (.ladd, pc + 1) := by
    unfold Decoder.instr
    rw [zq_bind (zq_u1 h), hb]
    first | done | rfl
  rw [zq_dec e, zq_n1]
set_option maxRecDepth 8192 in
theorem zq_isub (hb : (code[pc]'h).toNat = 100) : decode code pc = .ok (.isub, 1) := by
  have e : Decoder.instr pc code pc = .ok (.isub, pc + 1) := by
    unfold Decoder.instr
    rw [zq_bind (zq_u1 h), hb]
    first | done | rfl
  rw [zq_dec e, zq_n1]
set_option maxRecDepth 8192 in
theorem zq_lsub (hb : (code[pc]'h).toNat = 101) : decode code pc = .ok (.lsub, 1) := by
  have e : Decoder.instr pc code pc = .ok (.lsub, pc + 1) := by
    unfold Decoder.instr
    rw [zq_bind (zq_u1 h), hb]
    first | done | rfl
  rw [zq_dec e, zq_n1]
set_option maxRecDepth 8192 in
theorem zq_imul (hb : (code[pc]'h).toNat = 104) : decode code pc = .ok (.imul, 1) := by
  have e : Decoder.instr pc code pc = .ok (.imul, pc + 1) := by
    unfold Decoder.instr
    rw [zq_bind (zq_u1 h), hb]
    first | done | rfl
  rw [zq_dec e, zq_n1]
set_option maxRecDepth 8192 in
theorem zq_lmul (hb : (code[pc]'h).toNat = 105) : decode code pc = .ok (.lmul, 1) := by
  have e : Decoder.instr pc code pc = .ok (.lmul, pc + 1) := by
    unfold Decoder.instr
    rw [zq_bind (zq_u1 h), hb]
    first | done | rfl
  rw [zq_dec e, zq_n1]
set_option maxRecDepth 8192 in
theorem zq_idiv (hb : (code[pc]'h).toNat = 108) : decode code pc = .ok (.idiv, 1) := by
  have e : Decoder.instr pc code pc = .ok (.idiv, pc + 1) := by
    unfold Decoder.instr
    rw [zq_bind (zq_u1 h), hb]
    first | done | rfl
  rw [zq_dec e, zq_n1]
set_option maxRecDepth 8192 in
theorem zq_ldiv (hb : (code[pc]'h).toNat = 109) : decode code pc = .ok (.ldiv, 1) := by
  have e : Decoder.instr pc code pc = .ok (.ldiv, pc + 1) := by
    unfold Decoder.instr
    rw [zq_bind (zq_u1 h), hb]
    first | done | rfl
  rw [zq_dec e, zq_n1]
set_option maxRecDepth 8192 in
theorem zq_irem (hb : (code[pc]'h).toNat = 112) : decode code pc = .ok (.irem, 1) := by
  have e : Decoder.instr pc code pc = .ok (.irem, pc + 1) := by
    unfold Decoder.instr
    rw [zq_bind (zq_u1 h), hb]
    first | done | rfl
  rw [zq_dec e, zq_n1]
set_option maxRecDepth 8192 in
theorem zq_lrem (hb : (code[pc]'h).toNat = 113) : decode code pc = .ok (.lrem, 1) := by
  have e : Decoder.instr pc code pc = .ok (.lrem, pc + 1) := by
    unfold Decoder.instr
    rw [zq_bind (zq_u1 h), hb]
    first | done | rfl
  rw [zq_dec e, zq_n1]
set_option maxRecDepth 8192 in
theorem zq_ineg (hb : (code[pc]'h).toNat = 116) : decode code pc = .ok (.ineg, 1) := by
  have e : Decoder.instr pc code pc = .ok (.ineg, pc + 1) := by
    unfold Decoder.instr
    rw [zq_bind (zq_u1 h), hb]
    first | done | rfl
  rw [zq_dec e, zq_n1]
set_option maxRecDepth 8192 in
theorem zq_ishl (hb : (code[pc]'h).toNat = 120) : decode code pc = .ok (.ishl, 1) := by
  have e : Decoder.instr pc code pc = .ok (.ishl, pc + 1) := by
    unfold Decoder.instr
    rw [zq_bind (zq_u1 h), hb]
    first | done | rfl
  rw [zq_dec e, zq_n1]
set_option maxRecDepth 8192 in
theorem zq_lshl (hb : (code[pc]'h).toNat = 121) : decode code pc = .ok (.lshl, 1) := by
  have e : Decoder.instr pc code pc = .ok (.lshl, pc + 1) := by
    unfold Decoder.instr
    rw [zq_bind (zq_u1 h), hb]
    first | done | rfl
  rw [zq_dec e, zq_n1]
set_option maxRecDepth 8192 in
theorem zq_ishr (hb : (code[pc]'h).toNat = 122) : decode code pc = .ok (.ishr, 1) := by
  have e : Decoder.instr pc code pc = .ok (.ishr, pc + 1) := by
    unfold Decoder.instr
    rw [zq_bind (zq_u1 h), hb]
    first | done | rfl
  rw [zq_dec e, zq_n1]
set_option maxRecDepth 8192 in
theorem zq_lshr (hb : (code[pc]'h).toNat = 123) : decode code pc = .ok (.lshr, 1) := by
  have e : Decoder.instr pc code pc = .ok (.lshr, pc + 1) := by
    unfold Decoder.instr
    rw [zq_bind (zq_u1 h), hb]
    first | done | rfl
  rw [zq_dec e, zq_n1]
set_option maxRecDepth 8192 in
theorem zq_iushr (hb : (code[pc]'h).toNat = 124) : decode code pc = .ok (.iushr, 1) := by
  have e : Decoder.instr pc code pc = .ok (.iushr, pc + 1) := by
    unfold Decoder.instr
    rw [zq_bind (zq_u1 h), hb]
    first | done | rfl
  rw [zq_dec e, zq_n1]
set_option maxRecDepth 8192 in
theorem zq_iand (hb : (code[pc]'h).toNat = 126) : decode code pc = .ok (.iand, 1) := by
  have e : Decoder.instr pc code pc = .ok (.iand, pc + 1) := by
    unfold Decoder.instr
    rw [zq_bind (zq_u1 h), hb]
    first | done | rfl
  rw [zq_dec e, zq_n1]
set_option maxRecDepth 8192 in
theorem zq_land (hb : (code[pc]'h).toNat = 127) : decode code pc = .ok (.land, 1) := by
  have e : Decoder.instr pc code pc = .ok (.land, pc + 1) := by
    unfold Decoder.instr
    rw [zq_bind (zq_u1 h), hb]
    first | done | rfl
  rw [zq_dec e, zq_n1]
set_option maxRecDepth 8192 in
theorem zq_ior (hb : (code[pc]'h).toNat = 128) : decode code pc = .ok (.ior, 1) := by
  have e : Decoder.instr pc code pc = .ok (.ior, pc + 1) := by
    unfold Decoder.instr
    rw [zq_bind (zq_u1 h), hb]
    first | done | rfl
  rw [zq_dec e, zq_n1]
set_option maxRecDepth 8192 in
theorem zq_lor (hb : (code[pc]'h).toNat = 129) : decode code pc = .ok (.lor, 1) := by
  have e : Decoder.instr pc code pc = .ok (.lor, pc + 1) := by
    unfold Decoder.instr
    rw [zq_bind (zq_u1 h), hb]
    first | done | rfl
  rw [zq_dec e, zq_n1]
set_option maxRecDepth 8192 in
theorem zq_ixor (hb : (code[pc]'h).toNat = 130) : decode code pc = .ok (.ixor, 1) := by
  have e : Decoder.instr pc code pc = .ok (.ixor, pc + 1) := by
    unfold Decoder.instr
    rw [zq_bind (zq_u1 h), hb]
    first | done | rfl
  rw [zq_dec e, zq_n1]
set_option maxRecDepth 8192 in
theorem zq_lxor (hb : (code[pc]'h).toNat = 131) : decode code pc = .ok (.lxor, 1) := by
  have e : Decoder.instr pc code pc = .ok (.lxor, pc + 1) := by
    unfold Decoder.instr
    rw [zq_bind (zq_u1 h), hb]
    first | done | rfl
  rw [zq_dec e, zq_n1]
set_option maxRecDepth 8192 in
theorem zq_i2l (hb : (code[pc]'h).toNat = 133) : decode code pc = .ok (.i2l, 1) := by
  have e : Decoder.instr pc code pc = .ok (.i2l, pc + 1) := by
    unfold Decoder.instr
    rw [zq_bind (zq_u1 h), hb]
    first | done | rfl
  rw [zq_dec e, zq_n1]
set_option maxRecDepth 8192 in
theorem zq_l2i (hb : (code[pc]'h).toNat = 136) : decode code pc = .ok (.l2i, 1) := by
  have e : Decoder.instr pc code pc = .ok (.l2i, pc + 1) := by
    unfold Decoder.instr
    rw [zq_bind (zq_u1 h), hb]
    first | done | rfl
  rw [zq_dec e, zq_n1]
set_option maxRecDepth 8192 in
theorem zq_i2b (hb : (code[pc]'h).toNat = 145) : decode code pc = .ok (.i2b, 1) := by
  have e : Decoder.instr pc code pc = .ok (.i2b, pc + 1) := by
    unfold Decoder.instr
    rw [zq_bind (zq_u1 h), hb]
    first | done | rfl
  rw [zq_dec e, zq_n1]
set_option maxRecDepth 8192 in
theorem zq_lcmp (hb : (code[pc]'h).toNat = 148) : decode code pc = .ok (.lcmp, 1) := by
  have e : Decoder.instr pc code pc = .ok (.lcmp, pc + 1) := by
    unfold Decoder.instr
    rw [zq_bind (zq_u1 h), hb]
    first | done | rfl
  rw [zq_dec e, zq_n1]
set_option maxRecDepth 8192 in
theorem zq_ireturn (hb : (code[pc]'h).toNat = 172) : decode code pc = .ok (.ireturn, 1) := by
  have e : Decoder.instr pc code pc = .ok (.ireturn, pc + 1) := by
    unfold Decoder.instr
    rw [zq_bind (zq_u1 h), hb]
    first | done | rfl
  rw [zq_dec e, zq_n1]
set_option maxRecDepth 8192 in
theorem zq_lreturn (hb : (code[pc]'h).toNat = 173) : decode code pc = .ok (.lreturn, 1) := by
  have e : Decoder.instr pc code pc = .ok (.lreturn, pc + 1) := by
    unfold Decoder.instr
    rw [zq_bind (zq_u1 h), hb]
    first | done | rfl
  rw [zq_dec e, zq_n1]
set_option maxRecDepth 8192 in
theorem zq_areturn (hb : (code[pc]'h).toNat = 176) : decode code pc = .ok (.areturn, 1) := by
  have e : Decoder.instr pc code pc = .ok (.areturn, pc + 1) := by
    unfold Decoder.instr
    rw [zq_bind (zq_u1 h), hb]
    first | done | rfl
  rw [zq_dec e, zq_n1]
set_option maxRecDepth 8192 in
theorem zq_return_ (hb : (code[pc]'h).toNat = 177) : decode code pc = .ok (.return_, 1) := by
  have e : Decoder.instr pc code pc = .ok (.return_, pc + 1) := by
    unfold Decoder.instr
    rw [zq_bind (zq_u1 h), hb]
    first | done | rfl
  rw [zq_dec e, zq_n1]
set_option maxRecDepth 8192 in
theorem zq_arraylength (hb : (code[pc]'h).toNat = 190) : decode code pc = .ok (.arraylength, 1) := by
  have e : Decoder.instr pc code pc = .ok (.arraylength, pc + 1) := by
    unfold Decoder.instr
    rw [zq_bind (zq_u1 h), hb]
    first | done | rfl
  rw [zq_dec e, zq_n1]
set_option maxRecDepth 8192 in
theorem zq_athrow (hb : (code[pc]'h).toNat = 191) : decode code pc = .ok (.athrow, 1) := by
  have e : Decoder.instr pc code pc = .ok (.athrow, pc + 1) := by
    unfold Decoder.instr
    rw [zq_bind (zq_u1 h), hb]
    first | done | rfl
  rw [zq_dec e, zq_n1]
set_option maxRecDepth 8192 in
theorem zq_aconst_null (hb : (code[pc]'h).toNat = 1) : decode code pc = .ok (.aconst_null, 1) := by
  have e : Decoder.instr pc code pc = .ok (.aconst_null, pc + 1) := by
    unfold Decoder.instr
    rw [zq_bind (zq_u1 h), hb]
    first | done | rfl
  rw [zq_dec e, zq_n1]
set_option maxRecDepth 8192 in
theorem zq_iload_n0 (hb : (code[pc]'h).toNat = 26) : decode code pc = .ok (.iload_n 0, 1) := by
  have e : Decoder.instr pc code pc = .ok (.iload_n 0, pc + 1) := by
    unfold Decoder.instr
    rw [zq_bind (zq_u1 h), hb]
    first | done | rfl
  rw [zq_dec e, zq_n1]
set_option maxRecDepth 8192 in
theorem zq_iload_n1 (hb : (code[pc]'h).toNat = 27) : decode code pc = .ok (.iload_n 1, 1) := by
  have e : Decoder.instr pc code pc = .ok (.iload_n 1, pc + 1) := by
    unfold Decoder.instr
    rw [zq_bind (zq_u1 h), hb]
    first | done | rfl
  rw [zq_dec e, zq_n1]
set_option maxRecDepth 8192 in
theorem zq_iload_n2 (hb : (code[pc]'h).toNat = 28) : decode code pc = .ok (.iload_n 2, 1) := by
  have e : Decoder.instr pc code pc = .ok (.iload_n 2, pc + 1) := by
    unfold Decoder.instr
    rw [zq_bind (zq_u1 h), hb]
    first | done | rfl
  rw [zq_dec e, zq_n1]
set_option maxRecDepth 8192 in
theorem zq_iload_n3 (hb : (code[pc]'h).toNat = 29) : decode code pc = .ok (.iload_n 3, 1) := by
  have e : Decoder.instr pc code pc = .ok (.iload_n 3, pc + 1) := by
    unfold Decoder.instr
    rw [zq_bind (zq_u1 h), hb]
    first | done | rfl
  rw [zq_dec e, zq_n1]
set_option maxRecDepth 8192 in
theorem zq_lload_n0 (hb : (code[pc]'h).toNat = 30) : decode code pc = .ok (.lload_n 0, 1) := by
  have e : Decoder.instr pc code pc = .ok (.lload_n 0, pc + 1) := by
    unfold Decoder.instr
    rw [zq_bind (zq_u1 h), hb]
    first | done | rfl
  rw [zq_dec e, zq_n1]
set_option maxRecDepth 8192 in
theorem zq_lload_n1 (hb : (code[pc]'h).toNat = 31) : decode code pc = .ok (.lload_n 1, 1) := by
  have e : Decoder.instr pc code pc = .ok (.lload_n 1, pc + 1) := by
    unfold Decoder.instr
    rw [zq_bind (zq_u1 h), hb]
    first | done | rfl
  rw [zq_dec e, zq_n1]
set_option maxRecDepth 8192 in
theorem zq_lload_n2 (hb : (code[pc]'h).toNat = 32) : decode code pc = .ok (.lload_n 2, 1) := by
  have e : Decoder.instr pc code pc = .ok (.lload_n 2, pc + 1) := by
    unfold Decoder.instr
    rw [zq_bind (zq_u1 h), hb]
    first | done | rfl
  rw [zq_dec e, zq_n1]
set_option maxRecDepth 8192 in
theorem zq_lload_n3 (hb : (code[pc]'h).toNat = 33) : decode code pc = .ok (.lload_n 3, 1) := by
  have e : Decoder.instr pc code pc = .ok (.lload_n 3, pc + 1) := by
    unfold Decoder.instr
    rw [zq_bind (zq_u1 h), hb]
    first | done | rfl
  rw [zq_dec e, zq_n1]
set_option maxRecDepth 8192 in
theorem zq_aload_n0 (hb : (code[pc]'h).toNat = 42) : decode code pc = .ok (.aload_n 0, 1) := by
  have e : Decoder.instr pc code pc = .ok (.aload_n 0, pc + 1) := by
    unfold Decoder.instr
    rw [zq_bind (zq_u1 h), hb]
    first | done | rfl
  rw [zq_dec e, zq_n1]
set_option maxRecDepth 8192 in
theorem zq_aload_n1 (hb : (code[pc]'h).toNat = 43) : decode code pc = .ok (.aload_n 1, 1) := by
  have e : Decoder.instr pc code pc = .ok (.aload_n 1, pc + 1) := by
    unfold Decoder.instr
    rw [zq_bind (zq_u1 h), hb]
    first | done | rfl
  rw [zq_dec e, zq_n1]
set_option maxRecDepth 8192 in
theorem zq_aload_n2 (hb : (code[pc]'h).toNat = 44) : decode code pc = .ok (.aload_n 2, 1) := by
  have e : Decoder.instr pc code pc = .ok (.aload_n 2, pc + 1) := by
    unfold Decoder.instr
    rw [zq_bind (zq_u1 h), hb]
    first | done | rfl
  rw [zq_dec e, zq_n1]
set_option maxRecDepth 8192 in
theorem zq_aload_n3 (hb : (code[pc]'h).toNat = 45) : decode code pc = .ok (.aload_n 3, 1) := by
  have e : Decoder.instr pc code pc = .ok (.aload_n 3, pc + 1) := by
    unfold Decoder.instr
    rw [zq_bind (zq_u1 h), hb]
    first | done | rfl
  rw [zq_dec e, zq_n1]
set_option maxRecDepth 8192 in
theorem zq_istore_n0 (hb : (code[pc]'h).toNat = 59) : decode code pc = .ok (.istore_n 0, 1) := by
  have e : Decoder.instr pc code pc = .ok (.istore_n 0, pc + 1) := by
    unfold Decoder.instr
    rw [zq_bind (zq_u1 h), hb]
    first | done | rfl
  rw [zq_dec e, zq_n1]
set_option maxRecDepth 8192 in
theorem zq_istore_n1 (hb : (code[pc]'h).toNat = 60) : decode code pc = .ok (.istore_n 1, 1) := by
  have e : Decoder.instr pc code pc = .ok (.istore_n 1, pc + 1) := by
    unfold Decoder.instr
    rw [zq_bind (zq_u1 h), hb]
    first | done | rfl
  rw [zq_dec e, zq_n1]
set_option maxRecDepth 8192 in
theorem zq_istore_n2 (hb : (code[pc]'h).toNat = 61) : decode code pc = .ok (.istore_n 2, 1) := by
  have e : Decoder.instr pc code pc = .ok (.istore_n 2, pc + 1) := by
    unfold Decoder.instr
    rw [zq_bind (zq_u1 h), hb]
    first | done | rfl
  rw [zq_dec e, zq_n1]
set_option maxRecDepth 8192 in
theorem zq_istore_n3 (hb : (code[pc]'h).toNat = 62) : decode code pc = .ok (.istore_n 3, 1) := by
  have e : Decoder.instr pc code pc = .ok (.istore_n 3, pc + 1) := by
    unfold Decoder.instr
    rw [zq_bind (zq_u1 h), hb]
    first | done | rfl
  rw [zq_dec e, zq_n1]
set_option maxRecDepth 8192 in
theorem zq_lstore_n0 (hb : (code[pc]'h).toNat = 63) : decode code pc = .ok (.lstore_n 0, 1) := by
  have e : Decoder.instr pc code pc = .ok (.lstore_n 0, pc + 1) := by
    unfold Decoder.instr
    rw [zq_bind (zq_u1 h), hb]
    first | done | rfl
  rw [zq_dec e, zq_n1]
set_option maxRecDepth 8192 in
theorem zq_lstore_n1 (hb : (code[pc]'h).toNat = 64) : decode code pc = .ok (.lstore_n 1, 1) := by
  have e : Decoder.instr pc code pc = .ok (.lstore_n 1, pc + 1) := by
    unfold Decoder.instr
    rw [zq_bind (zq_u1 h), hb]
    first | done | rfl
  rw [zq_dec e, zq_n1]
set_option maxRecDepth 8192 in
theorem zq_lstore_n2 (hb : (code[pc]'h).toNat = 65) : decode code pc = .ok (.lstore_n 2, 1) := by
  have e : Decoder.instr pc code pc = .ok (.lstore_n 2, pc + 1) := by
    unfold Decoder.instr
    rw [zq_bind (zq_u1 h), hb]
    first | done | rfl
  rw [zq_dec e, zq_n1]
set_option maxRecDepth 8192 in
theorem zq_lstore_n3 (hb : (code[pc]'h).toNat = 66) : decode code pc = .ok (.lstore_n 3, 1) := by
  have e : Decoder.instr pc code pc = .ok (.lstore_n 3, pc + 1) := by
    unfold Decoder.instr
    rw [zq_bind (zq_u1 h), hb]
    first | done | rfl
  rw [zq_dec e, zq_n1]
set_option maxRecDepth 8192 in
theorem zq_astore_n0 (hb : (code[pc]'h).toNat = 75) : decode code pc = .ok (.astore_n 0, 1) := by
  have e : Decoder.instr pc code pc = .ok (.astore_n 0, pc + 1) := by
    unfold Decoder.instr
    rw [zq_bind (zq_u1 h), hb]
    first | done | rfl
  rw [zq_dec e, zq_n1]
set_option maxRecDepth 8192 in
theorem zq_astore_n1 (hb : (code[pc]'h).toNat = 76) : decode code pc = .ok (.astore_n 1, 1) := by
  have e : Decoder.instr pc code pc = .ok (.astore_n 1, pc + 1) := by
    unfold Decoder.instr
    rw [zq_bind (zq_u1 h), hb]
    first | done | rfl
  rw [zq_dec e, zq_n1]
set_option maxRecDepth 8192 in
theorem zq_astore_n2 (hb : (code[pc]'h).toNat = 77) : decode code pc = .ok (.astore_n 2, 1) := by
  have e : Decoder.instr pc code pc = .ok (.astore_n 2, pc + 1) := by
    unfold Decoder.instr
    rw [zq_bind (zq_u1 h), hb]
    first | done | rfl
  rw [zq_dec e, zq_n1]
set_option maxRecDepth 8192 in
theorem zq_astore_n3 (hb : (code[pc]'h).toNat = 78) : decode code pc = .ok (.astore_n 3, 1) := by
  have e : Decoder.instr pc code pc = .ok (.astore_n 3, pc + 1) := by
    unfold Decoder.instr
    rw [zq_bind (zq_u1 h), hb]
    first | done | rfl
  rw [zq_dec e, zq_n1]
set_option maxRecDepth 8192 in
theorem zq_iconstm1 (hb : (code[pc]'h).toNat = 2) : decode code pc = .ok (.iconst (-1), 1) := by
  have e : Decoder.instr pc code pc = .ok (.iconst (-1), pc + 1) := by
    unfold Decoder.instr
    rw [zq_bind (zq_u1 h), hb]
    first | done | rfl
  rw [zq_dec e, zq_n1]
set_option maxRecDepth 8192 in
theorem zq_iconst0 (hb : (code[pc]'h).toNat = 3) : decode code pc = .ok (.iconst (0), 1) := by
  have e : Decoder.instr pc code pc = .ok (.iconst (0), pc + 1) := by
    unfold Decoder.instr
    rw [zq_bind (zq_u1 h), hb]
    first | done | rfl
  rw [zq_dec e, zq_n1]
set_option maxRecDepth 8192 in
theorem zq_iconst1 (hb : (code[pc]'h).toNat = 4) : decode code pc = .ok (.iconst (1), 1) := by
  have e : Decoder.instr pc code pc = .ok (.iconst (1), pc + 1) := by
    unfold Decoder.instr
    rw [zq_bind (zq_u1 h), hb]
    first | done | rfl
  rw [zq_dec e, zq_n1]
set_option maxRecDepth 8192 in
theorem zq_iconst2 (hb : (code[pc]'h).toNat = 5) : decode code pc = .ok (.iconst (2), 1) := by
  have e : Decoder.instr pc code pc = .ok (.iconst (2), pc + 1) := by
    unfold Decoder.instr
    rw [zq_bind (zq_u1 h), hb]
    first | done | rfl
  rw [zq_dec e, zq_n1]
set_option maxRecDepth 8192 in
theorem zq_iconst3 (hb : (code[pc]'h).toNat = 6) : decode code pc = .ok (.iconst (3), 1) := by
  have e : Decoder.instr pc code pc = .ok (.iconst (3), pc + 1) := by
    unfold Decoder.instr
    rw [zq_bind (zq_u1 h), hb]
    first | done | rfl
  rw [zq_dec e, zq_n1]
set_option maxRecDepth 8192 in
theorem zq_iconst4 (hb : (code[pc]'h).toNat = 7) : decode code pc = .ok (.iconst (4), 1) := by
  have e : Decoder.instr pc code pc = .ok (.iconst (4), pc + 1) := by
    unfold Decoder.instr
    rw [zq_bind (zq_u1 h), hb]
    first | done | rfl
  rw [zq_dec e, zq_n1]
set_option maxRecDepth 8192 in
theorem zq_iconst5 (hb : (code[pc]'h).toNat = 8) : decode code pc = .ok (.iconst (5), 1) := by
  have e : Decoder.instr pc code pc = .ok (.iconst (5), pc + 1) := by
    unfold Decoder.instr
    rw [zq_bind (zq_u1 h), hb]
    first | done | rfl
  rw [zq_dec e, zq_n1]
set_option maxRecDepth 8192 in
theorem zq_lconst0 (hb : (code[pc]'h).toNat = 9) : decode code pc = .ok (.lconst 0, 1) := by
  have e : Decoder.instr pc code pc = .ok (.lconst 0, pc + 1) := by
    unfold Decoder.instr
    rw [zq_bind (zq_u1 h), hb]
    first | done | rfl
  rw [zq_dec e, zq_n1]
set_option maxRecDepth 8192 in
theorem zq_lconst1 (hb : (code[pc]'h).toNat = 10) : decode code pc = .ok (.lconst 1, 1) := by
  have e : Decoder.instr pc code pc = .ok (.lconst 1, pc + 1) := by
    unfold Decoder.instr
    rw [zq_bind (zq_u1 h), hb]
    first | done | rfl
  rw [zq_dec e, zq_n1]
set_option maxRecDepth 8192 in
theorem zq_ldc (h1 : pc + 1 < code.size) (hb : (code[pc]'h).toNat = 18) : decode code pc = .ok (.ldc (code[pc + 1]'h1).toNat, 2) := by
  have e : Decoder.instr pc code pc = .ok (.ldc (code[pc + 1]'h1).toNat, pc + 1 + 1) := by
    unfold Decoder.instr
    rw [zq_bind (zq_u1 h), hb]
    show ((Reader.u1 : Decoder Nat) >>= fun k => (pure (.ldc k) : Decoder Instr)) code (pc + 1) = _
    rw [zq_bind (zq_u1 h1)]
    first | done | rfl
  rw [zq_dec e, zq_n2]
set_option maxRecDepth 8192 in
theorem zq_iload (h1 : pc + 1 < code.size) (hb : (code[pc]'h).toNat = 21) : decode code pc = .ok (.iload (code[pc + 1]'h1).toNat, 2) := by
  have e : Decoder.instr pc code pc = .ok (.iload (code[pc + 1]'h1).toNat, pc + 1 + 1) := by
    unfold Decoder.instr
    rw [zq_bind (zq_u1 h), hb]
    show ((Reader.u1 : Decoder Nat) >>= fun k => (pure (.iload k) : Decoder Instr)) code (pc + 1) = _
    rw [zq_bind (zq_u1 h1)]
    first | done | rfl
  rw [zq_dec e, zq_n2]
set_option maxRecDepth 8192 in
theorem zq_lload (h1 : pc + 1 < code.size) (hb : (code[pc]'h).toNat = 22) : decode code pc = .ok (.lload (code[pc + 1]'h1).toNat, 2) := by
  have e : Decoder.instr pc code pc = .ok (.lload (code[pc + 1]'h1).toNat, pc + 1 + 1) := by
    unfold Decoder.instr
    rw [zq_bind (zq_u1 h), hb]
    show ((Reader.u1 : Decoder Nat) >>= fun k => (pure (.lload k) : Decoder Instr)) code (pc + 1) = _
    rw [zq_bind (zq_u1 h1)]
    first | done | rfl
  rw [zq_dec e, zq_n2]
set_option maxRecDepth 8192 in
theorem zq_aload (h1 : pc + 1 < code.size) (hb : (code[pc]'h).toNat = 25) : decode code pc = .ok (.aload (code[pc + 1]'h1).toNat, 2) := by
  have e : Decoder.instr pc code pc = .ok (.aload (code[pc + 1]'h1).toNat, pc + 1 + 1) := by
    unfold Decoder.instr
    rw [zq_bind (zq_u1 h), hb]
    show ((Reader.u1 : Decoder Nat) >>= fun k => (pure (.aload k) : Decoder Instr)) code (pc + 1) = _
    rw [zq_bind (zq_u1 h1)]
    first | done | rfl
  rw [zq_dec e, zq_n2]
set_option maxRecDepth 8192 in
theorem zq_istore (h1 : pc + 1 < code.size) (hb : (code[pc]'h).toNat = 54) : decode code pc = .ok (.istore (code[pc + 1]'h1).toNat, 2) := by
  have e : Decoder.instr pc code pc = .ok (.istore (code[pc + 1]'h1).toNat, pc + 1 + 1) := by
    unfold Decoder.instr
    rw [zq_bind (zq_u1 h), hb]
    show ((Reader.u1 : Decoder Nat) >>= fun k => (pure (.istore k) : Decoder Instr)) code (pc + 1) = _
    rw [zq_bind (zq_u1 h1)]
    first | done | rfl
  rw [zq_dec e, zq_n2]
set_option maxRecDepth 8192 in
theorem zq_lstore (h1 : pc + 1 < code.size) (hb : (code[pc]'h).toNat = 55) : decode code pc = .ok (.lstore (code[pc + 1]'h1).toNat, 2) := by
  have e : Decoder.instr pc code pc = .ok (.lstore (code[pc + 1]'h1).toNat, pc + 1 + 1) := by
    unfold Decoder.instr
    rw [zq_bind (zq_u1 h), hb]
    show ((Reader.u1 : Decoder Nat) >>= fun k => (pure (.lstore k) : Decoder Instr)) code (pc + 1) = _
    rw [zq_bind (zq_u1 h1)]
    first | done | rfl
  rw [zq_dec e, zq_n2]
set_option maxRecDepth 8192 in
theorem zq_astore (h1 : pc + 1 < code.size) (hb : (code[pc]'h).toNat = 58) : decode code pc = .ok (.astore (code[pc + 1]'h1).toNat, 2) := by
  have e : Decoder.instr pc code pc = .ok (.astore (code[pc + 1]'h1).toNat, pc + 1 + 1) := by
    unfold Decoder.instr
    rw [zq_bind (zq_u1 h), hb]
    show ((Reader.u1 : Decoder Nat) >>= fun k => (pure (.astore k) : Decoder Instr)) code (pc + 1) = _
    rw [zq_bind (zq_u1 h1)]
    first | done | rfl
  rw [zq_dec e, zq_n2]
set_option maxRecDepth 8192 in
theorem zq_ldc_w (h1 : pc + 1 < code.size) (h2 : pc + 1 + 1 < code.size) (hb : (code[pc]'h).toNat = 19) : decode code pc = .ok (.ldc_w ((code[pc + 1]'h1).toNat * 256 + (code[pc + 1 + 1]'h2).toNat), 3) := by
  have e : Decoder.instr pc code pc = .ok (.ldc_w ((code[pc + 1]'h1).toNat * 256 + (code[pc + 1 + 1]'h2).toNat), pc + 1 + 1 + 1) := by
    unfold Decoder.instr
    rw [zq_bind (zq_u1 h), hb]
    show ((Reader.u2 : Decoder Nat) >>= fun k => (pure (.ldc_w k) : Decoder Instr)) code (pc + 1) = _
    rw [zq_bind (zq_u2 h1 h2)]
    first | done | rfl
  rw [zq_dec e, zq_n3]
set_option maxRecDepth 8192 in
theorem zq_ldc2_w (h1 : pc + 1 < code.size) (h2 : pc + 1 + 1 < code.size) (hb : (code[pc]'h).toNat = 20) : decode code pc = .ok (.ldc2_w ((code[pc + 1]'h1).toNat * 256 + (code[pc + 1 + 1]'h2).toNat), 3) := by
  have e : Decoder.instr pc code pc = .ok (.ldc2_w ((code[pc + 1]'h1).toNat * 256 + (code[pc + 1 + 1]'h2).toNat), pc + 1 + 1 + 1) := by
    unfold Decoder.instr
    rw [zq_bind (zq_u1 h), hb]
    show ((Reader.u2 : Decoder Nat) >>= fun k => (pure (.ldc2_w k) : Decoder Instr)) code (pc + 1) = _
    rw [zq_bind (zq_u2 h1 h2)]
    first | done | rfl
  rw [zq_dec e, zq_n3]
set_option maxRecDepth 8192 in
theorem zq_getfield (h1 : pc + 1 < code.size) (h2 : pc + 1 + 1 < code.size) (hb : (code[pc]'h).toNat = 180) : decode code pc = .ok (.getfield ((code[pc + 1]'h1).toNat * 256 + (code[pc + 1 + 1]'h2).toNat), 3) := by
  have e : Decoder.instr pc code pc = .ok (.getfield ((code[pc + 1]'h1).toNat * 256 + (code[pc + 1 + 1]'h2).toNat), pc + 1 + 1 + 1) := by
    unfold Decoder.instr
    rw [zq_bind (zq_u1 h), hb]
    show ((Reader.u2 : Decoder Nat) >>= fun k => (pure (.getfield k) : Decoder Instr)) code (pc + 1) = _
    rw [zq_bind (zq_u2 h1 h2)]
    first | done | rfl
  rw [zq_dec e, zq_n3]
set_option maxRecDepth 8192 in
theorem zq_putfield (h1 : pc + 1 < code.size) (h2 : pc + 1 + 1 < code.size) (hb : (code[pc]'h).toNat = 181) : decode code pc = .ok (.putfield ((code[pc + 1]'h1).toNat * 256 + (code[pc + 1 + 1]'h2).toNat), 3) := by
  have e : Decoder.instr pc code pc = .ok (.putfield ((code[pc + 1]'h1).toNat * 256 + (code[pc + 1 + 1]'h2).toNat), pc + 1 + 1 + 1) := by
    unfold Decoder.instr
    rw [zq_bind (zq_u1 h), hb]
    show ((Reader.u2 : Decoder Nat) >>= fun k => (pure (.putfield k) : Decoder Instr)) code (pc + 1) = _
    rw [zq_bind (zq_u2 h1 h2)]
    first | done | rfl
  rw [zq_dec e, zq_n3]
set_option maxRecDepth 8192 in
theorem zq_invokevirtual (h1 : pc + 1 < code.size) (h2 : pc + 1 + 1 < code.size) (hb : (code[pc]'h).toNat = 182) : decode code pc = .ok (.invokevirtual ((code[pc + 1]'h1).toNat * 256 + (code[pc + 1 + 1]'h2).toNat), 3) := by
  have e : Decoder.instr pc code pc = .ok (.invokevirtual ((code[pc + 1]'h1).toNat * 256 + (code[pc + 1 + 1]'h2).toNat), pc + 1 + 1 + 1) := by
    unfold Decoder.instr
    rw [zq_bind (zq_u1 h), hb]
    show ((Reader.u2 : Decoder Nat) >>= fun k => (pure (.invokevirtual k) : Decoder Instr)) code (pc + 1) = _
    rw [zq_bind (zq_u2 h1 h2)]
    first | done | rfl
  rw [zq_dec e, zq_n3]
set_option maxRecDepth 8192 in
theorem zq_invokespecial (h1 : pc + 1 < code.size) (h2 : pc + 1 + 1 < code.size) (hb : (code[pc]'h).toNat = 183) : decode code pc = .ok (.invokespecial ((code[pc + 1]'h1).toNat * 256 + (code[pc + 1 + 1]'h2).toNat), 3) := by
  have e : Decoder.instr pc code pc = .ok (.invokespecial ((code[pc + 1]'h1).toNat * 256 + (code[pc + 1 + 1]'h2).toNat), pc + 1 + 1 + 1) := by
    unfold Decoder.instr
    rw [zq_bind (zq_u1 h), hb]
    show ((Reader.u2 : Decoder Nat) >>= fun k => (pure (.invokespecial k) : Decoder Instr)) code (pc + 1) = _
    rw [zq_bind (zq_u2 h1 h2)]
    first | done | rfl
  rw [zq_dec e, zq_n3]
set_option maxRecDepth 8192 in
theorem zq_invokestatic (h1 : pc + 1 < code.size) (h2 : pc + 1 + 1 < code.size) (hb : (code[pc]'h).toNat = 184) : decode code pc = .ok (.invokestatic ((code[pc + 1]'h1).toNat * 256 + (code[pc + 1 + 1]'h2).toNat), 3) := by
  have e : Decoder.instr pc code pc = .ok (.invokestatic ((code[pc + 1]'h1).toNat * 256 + (code[pc + 1 + 1]'h2).toNat), pc + 1 + 1 + 1) := by
    unfold Decoder.instr
    rw [zq_bind (zq_u1 h), hb]
    show ((Reader.u2 : Decoder Nat) >>= fun k => (pure (.invokestatic k) : Decoder Instr)) code (pc + 1) = _
    rw [zq_bind (zq_u2 h1 h2)]
    first | done | rfl
  rw [zq_dec e, zq_n3]
set_option maxRecDepth 8192 in
theorem zq_new (h1 : pc + 1 < code.size) (h2 : pc + 1 + 1 < code.size) (hb : (code[pc]'h).toNat = 187) : decode code pc = .ok (.new ((code[pc + 1]'h1).toNat * 256 + (code[pc + 1 + 1]'h2).toNat), 3) := by
  have e : Decoder.instr pc code pc = .ok (.new ((code[pc + 1]'h1).toNat * 256 + (code[pc + 1 + 1]'h2).toNat), pc + 1 + 1 + 1) := by
    unfold Decoder.instr
    rw [zq_bind (zq_u1 h), hb]
    show ((Reader.u2 : Decoder Nat) >>= fun k => (pure (.new k) : Decoder Instr)) code (pc + 1) = _
    rw [zq_bind (zq_u2 h1 h2)]
    first | done | rfl
  rw [zq_dec e, zq_n3]
set_option maxRecDepth 8192 in
theorem zq_anewarray (h1 : pc + 1 < code.size) (h2 : pc + 1 + 1 < code.size) (hb : (code[pc]'h).toNat = 189) : decode code pc = .ok (.anewarray ((code[pc + 1]'h1).toNat * 256 + (code[pc + 1 + 1]'h2).toNat), 3) := by
  have e : Decoder.instr pc code pc = .ok (.anewarray ((code[pc + 1]'h1).toNat * 256 + (code[pc + 1 + 1]'h2).toNat), pc + 1 + 1 + 1) := by
    unfold Decoder.instr
    rw [zq_bind (zq_u1 h), hb]
    show ((Reader.u2 : Decoder Nat) >>= fun k => (pure (.anewarray k) : Decoder Instr)) code (pc + 1) = _
    rw [zq_bind (zq_u2 h1 h2)]
    first | done | rfl
  rw [zq_dec e, zq_n3]
set_option maxRecDepth 8192 in
theorem zq_ifnull (h1 : pc + 1 < code.size) (h2 : pc + 1 + 1 < code.size) (hb : (code[pc]'h).toNat = 198) : decode code pc = .ok (.ifnull (Reader.signed 16 ((code[pc + 1]'h1).toNat * 256 + (code[pc + 1 + 1]'h2).toNat)), 3) := by
  have e : Decoder.instr pc code pc = .ok (.ifnull (Reader.signed 16 ((code[pc + 1]'h1).toNat * 256 + (code[pc + 1 + 1]'h2).toNat)), pc + 1 + 1 + 1) := by
    unfold Decoder.instr
    rw [zq_bind (zq_u1 h), hb]
    show ((Reader.s2 : Decoder Int) >>= fun k => (pure (.ifnull k) : Decoder Instr)) code (pc + 1) = _
    rw [zq_bind (zq_s2 h1 h2)]
    first | done | rfl
  rw [zq_dec e, zq_n3]
set_option maxRecDepth 8192 in
theorem zq_ifnonnull (h1 : pc + 1 < code.size) (h2 : pc + 1 + 1 < code.size) (hb : (code[pc]'h).toNat = 199) : decode code pc = .ok (.ifnonnull (Reader.signed 16 ((code[pc + 1]'h1).toNat * 256 + (code[pc + 1 + 1]'h2).toNat)), 3) := by
  have e : Decoder.instr pc code pc = .ok (.ifnonnull (Reader.signed 16 ((code[pc + 1]'h1).toNat * 256 + (code[pc + 1 + 1]'h2).toNat)), pc + 1 + 1 + 1) := by
    unfold Decoder.instr
    rw [zq_bind (zq_u1 h), hb]
    show ((Reader.s2 : Decoder Int) >>= fun k => (pure (.ifnonnull k) : Decoder Instr)) code (pc + 1) = _
    rw [zq_bind (zq_s2 h1 h2)]
    first | done | rfl
  rw [zq_dec e, zq_n3]
set_option maxRecDepth 8192 in
theorem zq_goto (h1 : pc + 1 < code.size) (h2 : pc + 1 + 1 < code.size) (hb : (code[pc]'h).toNat = 167) : decode code pc = .ok (.goto (Reader.signed 16 ((code[pc + 1]'h1).toNat * 256 + (code[pc + 1 + 1]'h2).toNat)), 3) := by
  have e : Decoder.instr pc code pc = .ok (.goto (Reader.signed 16 ((code[pc + 1]'h1).toNat * 256 + (code[pc + 1 + 1]'h2).toNat)), pc + 1 + 1 + 1) := by
    unfold Decoder.instr
    rw [zq_bind (zq_u1 h), hb]
    show ((Reader.s2 : Decoder Int) >>= fun k => (pure (.goto k) : Decoder Instr)) code (pc + 1) = _
    rw [zq_bind (zq_s2 h1 h2)]
    first | done | rfl
  rw [zq_dec e, zq_n3]
set_option maxRecDepth 8192 in
theorem zq_sipush (h1 : pc + 1 < code.size) (h2 : pc + 1 + 1 < code.size) (hb : (code[pc]'h).toNat = 17) : decode code pc = .ok (.sipush (Reader.signed 16 ((code[pc + 1]'h1).toNat * 256 + (code[pc + 1 + 1]'h2).toNat)), 3) := by
  have e : Decoder.instr pc code pc = .ok (.sipush (Reader.signed 16 ((code[pc + 1]'h1).toNat * 256 + (code[pc + 1 + 1]'h2).toNat)), pc + 1 + 1 + 1) := by
    unfold Decoder.instr
    rw [zq_bind (zq_u1 h), hb]
    show ((Reader.s2 : Decoder Int) >>= fun k => (pure (.sipush k) : Decoder Instr)) code (pc + 1) = _
    rw [zq_bind (zq_s2 h1 h2)]
    first | done | rfl
  rw [zq_dec e, zq_n3]
set_option maxRecDepth 8192 in
theorem zq_bipush (h1 : pc + 1 < code.size) (hb : (code[pc]'h).toNat = 16) : decode code pc = .ok (.bipush (Reader.signed 8 (code[pc + 1]'h1).toNat), 2) := by
  have e : Decoder.instr pc code pc = .ok (.bipush (Reader.signed 8 (code[pc + 1]'h1).toNat), pc + 1 + 1) := by
    unfold Decoder.instr
    rw [zq_bind (zq_u1 h), hb]
    show ((Reader.s1 : Decoder Int) >>= fun k => (pure (.bipush k) : Decoder Instr)) code (pc + 1) = _
    rw [zq_bind (zq_s1 h1)]
    first | done | rfl
  rw [zq_dec e, zq_n2]
set_option maxRecDepth 8192 in
theorem zq_if_eq (h1 : pc + 1 < code.size) (h2 : pc + 1 + 1 < code.size) (hb : (code[pc]'h).toNat = 153) : decode code pc = .ok (.ifCond .eq (Reader.signed 16 ((code[pc + 1]'h1).toNat * 256 + (code[pc + 1 + 1]'h2).toNat)), 3) := by
  have e : Decoder.instr pc code pc = .ok (.ifCond .eq (Reader.signed 16 ((code[pc + 1]'h1).toNat * 256 + (code[pc + 1 + 1]'h2).toNat)), pc + 1 + 1 + 1) := by
    unfold Decoder.instr
    rw [zq_bind (zq_u1 h), hb]
    show ((Reader.s2 : Decoder Int) >>= fun k => (pure (.ifCond .eq k) : Decoder Instr)) code (pc + 1) = _
    rw [zq_bind (zq_s2 h1 h2)]
    first | done | rfl
  rw [zq_dec e, zq_n3]
set_option maxRecDepth 8192 in
theorem zq_icmp_eq (h1 : pc + 1 < code.size) (h2 : pc + 1 + 1 < code.size) (hb : (code[pc]'h).toNat = 159) : decode code pc = .ok (.if_icmp .eq (Reader.signed 16 ((code[pc + 1]'h1).toNat * 256 + (code[pc + 1 + 1]'h2).toNat)), 3) := by
  have e : Decoder.instr pc code pc = .ok (.if_icmp .eq (Reader.signed 16 ((code[pc + 1]'h1).toNat * 256 + (code[pc + 1 + 1]'h2).toNat)), pc + 1 + 1 + 1) := by
    unfold Decoder.instr
    rw [zq_bind (zq_u1 h), hb]
    show ((Reader.s2 : Decoder Int) >>= fun k => (pure (.if_icmp .eq k) : Decoder Instr)) code (pc + 1) = _
    rw [zq_bind (zq_s2 h1 h2)]
    first | done | rfl
  rw [zq_dec e, zq_n3]
set_option maxRecDepth 8192 in
theorem zq_if_ne (h1 : pc + 1 < code.size) (h2 : pc + 1 + 1 < code.size) (hb : (code[pc]'h).toNat = 154) : decode code pc = .ok (.ifCond .ne (Reader.signed 16 ((code[pc + 1]'h1).toNat * 256 + (code[pc + 1 + 1]'h2).toNat)), 3) := by
  have e : Decoder.instr pc code pc = .ok (.ifCond .ne (Reader.signed 16 ((code[pc + 1]'h1).toNat * 256 + (code[pc + 1 + 1]'h2).toNat)), pc + 1 + 1 + 1) := by
    unfold Decoder.instr
    rw [zq_bind (zq_u1 h), hb]
    show ((Reader.s2 : Decoder Int) >>= fun k => (pure (.ifCond .ne k) : Decoder Instr)) code (pc + 1) = _
    rw [zq_bind (zq_s2 h1 h2)]
    first | done | rfl
  rw [zq_dec e, zq_n3]
set_option maxRecDepth 8192 in
theorem zq_icmp_ne (h1 : pc + 1 < code.size) (h2 : pc + 1 + 1 < code.size) (hb : (code[pc]'h).toNat = 160) : decode code pc = .ok (.if_icmp .ne (Reader.signed 16 ((code[pc + 1]'h1).toNat * 256 + (code[pc + 1 + 1]'h2).toNat)), 3) := by
  have e : Decoder.instr pc code pc = .ok (.if_icmp .ne (Reader.signed 16 ((code[pc + 1]'h1).toNat * 256 + (code[pc + 1 + 1]'h2).toNat)), pc + 1 + 1 + 1) := by
    unfold Decoder.instr
    rw [zq_bind (zq_u1 h), hb]
    show ((Reader.s2 : Decoder Int) >>= fun k => (pure (.if_icmp .ne k) : Decoder Instr)) code (pc + 1) = _
    rw [zq_bind (zq_s2 h1 h2)]
    first | done | rfl
  rw [zq_dec e, zq_n3]
set_option maxRecDepth 8192 in
theorem zq_if_lt (h1 : pc + 1 < code.size) (h2 : pc + 1 + 1 < code.size) (hb : (code[pc]'h).toNat = 155) : decode code pc = .ok (.ifCond .lt (Reader.signed 16 ((code[pc + 1]'h1).toNat * 256 + (code[pc + 1 + 1]'h2).toNat)), 3) := by
  have e : Decoder.instr pc code pc = .ok (.ifCond .lt (Reader.signed 16 ((code[pc + 1]'h1).toNat * 256 + (code[pc + 1 + 1]'h2).toNat)), pc + 1 + 1 + 1) := by
    unfold Decoder.instr
    rw [zq_bind (zq_u1 h), hb]
    show ((Reader.s2 : Decoder Int) >>= fun k => (pure (.ifCond .lt k) : Decoder Instr)) code (pc + 1) = _
    rw [zq_bind (zq_s2 h1 h2)]
    first | done | rfl
  rw [zq_dec e, zq_n3]
set_option maxRecDepth 8192 in
theorem zq_icmp_lt (h1 : pc + 1 < code.size) (h2 : pc + 1 + 1 < code.size) (hb : (code[pc]'h).toNat = 161) : decode code pc = .ok (.if_icmp .lt (Reader.signed 16 ((code[pc + 1]'h1).toNat * 256 + (code[pc + 1 + 1]'h2).toNat)), 3) := by
  have e : Decoder.instr pc code pc = .ok (.if_icmp .lt (Reader.signed 16 ((code[pc + 1]'h1).toNat * 256 + (code[pc + 1 + 1]'h2).toNat)), pc + 1 + 1 + 1) := by
    unfold Decoder.instr
    rw [zq_bind (zq_u1 h), hb]
    show ((Reader.s2 : Decoder Int) >>= fun k => (pure (.if_icmp .lt k) : Decoder Instr)) code (pc + 1) = _
    rw [zq_bind (zq_s2 h1 h2)]
    first | done | rfl
  rw [zq_dec e, zq_n3]
set_option maxRecDepth 8192 in
theorem zq_if_ge (h1 : pc + 1 < code.size) (h2 : pc + 1 + 1 < code.size) (hb : (code[pc]'h).toNat = 156) : decode code pc = .ok (.ifCond .ge (Reader.signed 16 ((code[pc + 1]'h1).toNat * 256 + (code[pc + 1 + 1]'h2).toNat)), 3) := by
  have e : Decoder.instr pc code pc = .ok (.ifCond .ge (Reader.signed 16 ((code[pc + 1]'h1).toNat * 256 + (code[pc + 1 + 1]'h2).toNat)), pc + 1 + 1 + 1) := by
    unfold Decoder.instr
    rw [zq_bind (zq_u1 h), hb]
    show ((Reader.s2 : Decoder Int) >>= fun k => (pure (.ifCond .ge k) : Decoder Instr)) code (pc + 1) = _
    rw [zq_bind (zq_s2 h1 h2)]
    first | done | rfl
  rw [zq_dec e, zq_n3]
set_option maxRecDepth 8192 in
theorem zq_icmp_ge (h1 : pc + 1 < code.size) (h2 : pc + 1 + 1 < code.size) (hb : (code[pc]'h).toNat = 162) : decode code pc = .ok (.if_icmp .ge (Reader.signed 16 ((code[pc + 1]'h1).toNat * 256 + (code[pc + 1 + 1]'h2).toNat)), 3) := by
  have e : Decoder.instr pc code pc = .ok (.if_icmp .ge (Reader.signed 16 ((code[pc + 1]'h1).toNat * 256 + (code[pc + 1 + 1]'h2).toNat)), pc + 1 + 1 + 1) := by
    unfold Decoder.instr
    rw [zq_bind (zq_u1 h), hb]
    show ((Reader.s2 : Decoder Int) >>= fun k => (pure (.if_icmp .ge k) : Decoder Instr)) code (pc + 1) = _
    rw [zq_bind (zq_s2 h1 h2)]
    first | done | rfl
  rw [zq_dec e, zq_n3]
set_option maxRecDepth 8192 in
theorem zq_if_gt (h1 : pc + 1 < code.size) (h2 : pc + 1 + 1 < code.size) (hb : (code[pc]'h).toNat = 157) : decode code pc = .ok (.ifCond .gt (Reader.signed 16 ((code[pc + 1]'h1).toNat * 256 + (code[pc + 1 + 1]'h2).toNat)), 3) := by
  have e : Decoder.instr pc code pc = .ok (.ifCond .gt (Reader.signed 16 ((code[pc + 1]'h1).toNat * 256 + (code[pc + 1 + 1]'h2).toNat)), pc + 1 + 1 + 1) := by
    unfold Decoder.instr
    rw [zq_bind (zq_u1 h), hb]
    show ((Reader.s2 : Decoder Int) >>= fun k => (pure (.ifCond .gt k) : Decoder Instr)) code (pc + 1) = _
    rw [zq_bind (zq_s2 h1 h2)]
    first | done | rfl
  rw [zq_dec e, zq_n3]
set_option maxRecDepth 8192 in
theorem zq_icmp_gt (h1 : pc + 1 < code.size) (h2 : pc + 1 + 1 < code.size) (hb : (code[pc]'h).toNat = 163) : decode code pc = .ok (.if_icmp .gt (Reader.signed 16 ((code[pc + 1]'h1).toNat * 256 + (code[pc + 1 + 1]'h2).toNat)), 3) := by
  have e : Decoder.instr pc code pc = .ok (.if_icmp .gt (Reader.signed 16 ((code[pc + 1]'h1).toNat * 256 + (code[pc + 1 + 1]'h2).toNat)), pc + 1 + 1 + 1) := by
    unfold Decoder.instr
    rw [zq_bind (zq_u1 h), hb]
    show ((Reader.s2 : Decoder Int) >>= fun k => (pure (.if_icmp .gt k) : Decoder Instr)) code (pc + 1) = _
    rw [zq_bind (zq_s2 h1 h2)]
    first | done | rfl
  rw [zq_dec e, zq_n3]
set_option maxRecDepth 8192 in
theorem zq_if_le (h1 : pc + 1 < code.size) (h2 : pc + 1 + 1 < code.size) (hb : (code[pc]'h).toNat = 158) : decode code pc = .ok (.ifCond .le (Reader.signed 16 ((code[pc + 1]'h1).toNat * 256 + (code[pc + 1 + 1]'h2).toNat)), 3) := by
  have e : Decoder.instr pc code pc = .ok (.ifCond .le (Reader.signed 16 ((code[pc + 1]'h1).toNat * 256 + (code[pc + 1 + 1]'h2).toNat)), pc + 1 + 1 + 1) := by
    unfold Decoder.instr
    rw [zq_bind (zq_u1 h), hb]
    show ((Reader.s2 : Decoder Int) >>= fun k => (pure (.ifCond .le k) : Decoder Instr)) code (pc + 1) = _
    rw [zq_bind (zq_s2 h1 h2)]
    first | done | rfl
  rw [zq_dec e, zq_n3]
set_option maxRecDepth 8192 in
theorem zq_icmp_le (h1 : pc + 1 < code.size) (h2 : pc + 1 + 1 < code.size) (hb : (code[pc]'h).toNat = 164) : decode code pc = .ok (.if_icmp .le (Reader.signed 16 ((code[pc + 1]'h1).toNat * 256 + (code[pc + 1 + 1]'h2).toNat)), 3) := by
  have e : Decoder.instr pc code pc = .ok (.if_icmp .le (Reader.signed 16 ((code[pc + 1]'h1).toNat * 256 + (code[pc + 1 + 1]'h2).toNat)), pc + 1 + 1 + 1) := by
    unfold Decoder.instr
    rw [zq_bind (zq_u1 h), hb]
    show ((Reader.s2 : Decoder Int) >>= fun k => (pure (.if_icmp .le k) : Decoder Instr)) code (pc + 1) = _
    rw [zq_bind (zq_s2 h1 h2)]
    first | done | rfl
  rw [zq_dec e, zq_n3]
set_option maxRecDepth 8192 in
theorem zq_iinc (h1 : pc + 1 < code.size) (h2 : pc + 1 + 1 < code.size) (hb : (code[pc]'h).toNat = 132) : decode code pc = .ok (.iinc (code[pc + 1]'h1).toNat (Reader.signed 8 (code[pc + 1 + 1]'h2).toNat), 3) := by
  have e : Decoder.instr pc code pc = .ok (.iinc (code[pc + 1]'h1).toNat (Reader.signed 8 (code[pc + 1 + 1]'h2).toNat), pc + 1 + 1 + 1) := by
    unfold Decoder.instr
    rw [zq_bind (zq_u1 h), hb]
    show ((Reader.u1 : Decoder Nat) >>= fun k => ((Reader.s1 : Decoder Int) >>= fun d => (pure (.iinc k d) : Decoder Instr))) code (pc + 1) = _
    rw [zq_bind (zq_u1 h1), zq_bind (zq_s1 h2)]
    first | done | rfl
  rw [zq_dec e, zq_n3]
end
def zqP : List UInt8 → Nat
  | [] => 0
  | b :: r => b.toNat + 256 * zqP r
def zqB (N p : Nat) : Nat := (N >>> (8 * p)) % 256
theorem zqB_list (l : List UInt8) : ∀ (p : Nat) (h : p < l.length), zqB (zqP l) p = (l[p]'h).toNat := by
  induction l with
  | nil => intro p h; exact absurd h (Nat.not_lt_zero _)
  | cons b r ih =>
    intro p h
    have hb : b.toNat < 256 := b.toNat_lt
    cases p with
    | zero =>
      show (b.toNat + 256 * zqP r) >>> (8 * 0) % 256 = b.toNat
      rw [Nat.mul_zero, Nat.shiftRight_zero]
      omega
    | succ p =>
      have hp : p < r.length := Nat.lt_of_succ_lt_succ h
      have e := ih p hp
      show (b.toNat + 256 * zqP r) >>> (8 * (p + 1)) % 256 = (r[p]'hp).toNat
      rw [← e]
      unfold zqB
      rw [Nat.shiftRight_eq_div_pow, Nat.shiftRight_eq_div_pow, show 8 * (p + 1) = 8 + 8 * p by omega, Nat.pow_add, ← Nat.div_div_eq_div_mul, show (b.toNat + 256 * zqP r) / 2 ^ 8 = zqP r by omega]
def zqC (code : ByteArray) : Nat := zqP code.data.toList
theorem zqB_code {code : ByteArray} {p : Nat} (h : p < code.size) : zqB (zqC code) p = (code[p]'h).toNat := zqB_list code.data.toList p h
def zqD : ClassFile.Cond → Nat
  | .eq => 0
  | .ne => 1
  | .lt => 2
  | .ge => 3
  | .gt => 4
  | .le => 5
def zqK (b0 b1 b2 : Nat) : Instr → Nat → Bool
  | .iaload, n => n == 1 && b0 == 46
  | .laload, n => n == 1 && b0 == 47
  | .aaload, n => n == 1 && b0 == 50
  | .baload, n => n == 1 && b0 == 51
  | .iastore, n => n == 1 && b0 == 79
  | .lastore, n => n == 1 && b0 == 80
  | .aastore, n => n == 1 && b0 == 83
  | .bastore, n => n == 1 && b0 == 84
  | .pop, n => n == 1 && b0 == 87
  | .dup, n => n == 1 && b0 == 89
  | .dup2, n => n == 1 && b0 == 92
  | .iadd, n => n == 1 && b0 == 96
  | .ladd, n => n == 1 && b0 == 97
  | .isub, n => n == 1 && b0 == 100
  | .lsub, n => n == 1 && b0 == 101
  | .imul, n => n == 1 && b0 == 104
  | .lmul, n => n == 1 && b0 == 105
  | .idiv, n => n == 1 && b0 == 108
  | .ldiv, n => n == 1 && b0 == 109
  | .irem, n => n == 1 && b0 == 112
  | .lrem, n => n == 1 && b0 == 113
  | .ineg, n => n == 1 && b0 == 116
  | .ishl, n => n == 1 && b0 == 120
  | .lshl, n => n == 1 && b0 == 121
  | .ishr, n => n == 1 && b0 == 122
  | .lshr, n => n == 1 && b0 == 123
  | .iushr, n => n == 1 && b0 == 124
  | .iand, n => n == 1 && b0 == 126
  | .land, n => n == 1 && b0 == 127
  | .ior, n => n == 1 && b0 == 128
  | .lor, n => n == 1 && b0 == 129
  | .ixor, n => n == 1 && b0 == 130
  | .lxor, n => n == 1 && b0 == 131
  | .i2l, n => n == 1 && b0 == 133
  | .l2i, n => n == 1 && b0 == 136
  | .i2b, n => n == 1 && b0 == 145
  | .lcmp, n => n == 1 && b0 == 148
  | .ireturn, n => n == 1 && b0 == 172
  | .lreturn, n => n == 1 && b0 == 173
  | .areturn, n => n == 1 && b0 == 176
  | .return_, n => n == 1 && b0 == 177
  | .arraylength, n => n == 1 && b0 == 190
  | .athrow, n => n == 1 && b0 == 191
  | .aconst_null, n => n == 1 && b0 == 1
  | .iload_n k, n => n == 1 && b0 == 26 + k.val
  | .lload_n k, n => n == 1 && b0 == 30 + k.val
  | .aload_n k, n => n == 1 && b0 == 42 + k.val
  | .istore_n k, n => n == 1 && b0 == 59 + k.val
  | .lstore_n k, n => n == 1 && b0 == 63 + k.val
  | .astore_n k, n => n == 1 && b0 == 75 + k.val
  | .lconst k, n => n == 1 && b0 == 9 + k.val
  | .iconst v, n => n == 1 && (v == (b0 : Int) - 3 && (Nat.ble 2 b0 && Nat.ble b0 8))
  | .ldc k, n => n == 2 && (b0 == 18 && k == b1)
  | .iload k, n => n == 2 && (b0 == 21 && k == b1)
  | .lload k, n => n == 2 && (b0 == 22 && k == b1)
  | .aload k, n => n == 2 && (b0 == 25 && k == b1)
  | .istore k, n => n == 2 && (b0 == 54 && k == b1)
  | .lstore k, n => n == 2 && (b0 == 55 && k == b1)
  | .astore k, n => n == 2 && (b0 == 58 && k == b1)
  | .ldc_w k, n => n == 3 && (b0 == 19 && k == b1 * 256 + b2)
  | .ldc2_w k, n => n == 3 && (b0 == 20 && k == b1 * 256 + b2)
  | .getfield k, n => n == 3 && (b0 == 180 && k == b1 * 256 + b2)
  | .putfield k, n => n == 3 && (b0 == 181 && k == b1 * 256 + b2)
  | .invokevirtual k, n => n == 3 && (b0 == 182 && k == b1 * 256 + b2)
  | .invokespecial k, n => n == 3 && (b0 == 183 && k == b1 * 256 + b2)
  | .invokestatic k, n => n == 3 && (b0 == 184 && k == b1 * 256 + b2)
  | .new k, n => n == 3 && (b0 == 187 && k == b1 * 256 + b2)
  | .anewarray k, n => n == 3 && (b0 == 189 && k == b1 * 256 + b2)
  | .ifnull v, n => n == 3 && (b0 == 198 && v == Reader.signed 16 (b1 * 256 + b2))
  | .ifnonnull v, n => n == 3 && (b0 == 199 && v == Reader.signed 16 (b1 * 256 + b2))
  | .goto v, n => n == 3 && (b0 == 167 && v == Reader.signed 16 (b1 * 256 + b2))
  | .sipush v, n => n == 3 && (b0 == 17 && v == Reader.signed 16 (b1 * 256 + b2))
  | .bipush v, n => n == 2 && (b0 == 16 && v == Reader.signed 8 b1)
  | .ifCond c v, n => n == 3 && (b0 == 153 + zqD c && v == Reader.signed 16 (b1 * 256 + b2))
  | .if_icmp c v, n => n == 3 && (b0 == 159 + zqD c && v == Reader.signed 16 (b1 * 256 + b2))
  | .iinc k v, n => n == 3 && (b0 == 132 && (k == b1 && v == Reader.signed 8 b2))
  | _, _ => false
def zqT (code : ByteArray) (pc : Nat) (i : Instr) (n : Nat) : Bool := Nat.ble (pc + n) code.size && zqK (zqB (zqC code) pc) (zqB (zqC code) (pc + 1)) (zqB (zqC code) (pc + 1 + 1)) i n
theorem zqT_d {code : ByteArray} {pc : Nat} {i : Instr} {n : Nat} (hT : zqT code pc i n = true) : decode code pc = .ok (i, n) := by
  unfold zqT at hT
  obtain ⟨hs, hk⟩ := Bool.and_eq_true_iff.mp hT
  have hs := Nat.le_of_ble_eq_true hs
  have g0 : ∀ h : pc < code.size, zqB (zqC code) pc = (code[pc]'h).toNat := fun h => zqB_code h
  have g1 : ∀ h : pc + 1 < code.size, zqB (zqC code) (pc + 1) = (code[pc + 1]'h).toNat := fun h => zqB_code h
  have g2 : ∀ h : pc + 1 + 1 < code.size, zqB (zqC code) (pc + 1 + 1) = (code[pc + 1 + 1]'h).toNat := fun h => zqB_code h
  generalize zqB (zqC code) pc = b0 at hk g0
  generalize zqB (zqC code) (pc + 1) = b1 at hk g1
  generalize zqB (zqC code) (pc + 1 + 1) = b2 at hk g2
  clear hT
  cases i with
  | iaload =>
    obtain ⟨hn, h0⟩ := Bool.and_eq_true_iff.mp hk
    cases eq_of_beq hn
    cases eq_of_beq h0
    exact zq_iaload (by omega) (g0 (by omega)).symm
  | laload =>
    obtain ⟨hn, h0⟩ := Bool.and_eq_true_iff.mp hk
    cases eq_of_beq hn
    cases eq_of_beq h0
    exact zq_laload (by omega) (g0 (by omega)).symm
  | aaload =>
    obtain ⟨hn, h0⟩ := Bool.and_eq_true_iff.mp hk
    cases eq_of_beq hn
    cases eq_of_beq h0
    exact zq_aaload (by omega) (g0 (by omega)).symm
  | baload =>
    obtain ⟨hn, h0⟩ := Bool.and_eq_true_iff.mp hk
    cases eq_of_beq hn
    cases eq_of_beq h0
    exact zq_baload (by omega) (g0 (by omega)).symm
  | iastore =>
    obtain ⟨hn, h0⟩ := Bool.and_eq_true_iff.mp hk
    cases eq_of_beq hn
    cases eq_of_beq h0
    exact zq_iastore (by omega) (g0 (by omega)).symm
  | lastore =>
    obtain ⟨hn, h0⟩ := Bool.and_eq_true_iff.mp hk
    cases eq_of_beq hn
    cases eq_of_beq h0
    exact zq_lastore (by omega) (g0 (by omega)).symm
  | aastore =>
    obtain ⟨hn, h0⟩ := Bool.and_eq_true_iff.mp hk
    cases eq_of_beq hn
    cases eq_of_beq h0
    exact zq_aastore (by omega) (g0 (by omega)).symm
  | bastore =>
    obtain ⟨hn, h0⟩ := Bool.and_eq_true_iff.mp hk
    cases eq_of_beq hn
    cases eq_of_beq h0
    exact zq_bastore (by omega) (g0 (by omega)).symm
  | pop =>
    obtain ⟨hn, h0⟩ := Bool.and_eq_true_iff.mp hk
    cases eq_of_beq hn
    cases eq_of_beq h0
    exact zq_pop (by omega) (g0 (by omega)).symm
  | dup =>
    obtain ⟨hn, h0⟩ := Bool.and_eq_true_iff.mp hk
    cases eq_of_beq hn
    cases eq_of_beq h0
    exact zq_dup (by omega) (g0 (by omega)).symm
  | dup2 =>
    obtain ⟨hn, h0⟩ := Bool.and_eq_true_iff.mp hk
    cases eq_of_beq hn
    cases eq_of_beq h0
    exact zq_dup2 (by omega) (g0 (by omega)).symm
  | iadd =>
    obtain ⟨hn, h0⟩ := Bool.and_eq_true_iff.mp hk
    cases eq_of_beq hn
    cases eq_of_beq h0
    exact zq_iadd (by omega) (g0 (by omega)).symm
  | ladd =>
    obtain ⟨hn, h0⟩ := Bool.and_eq_true_iff.mp hk
    cases eq_of_beq hn
    cases eq_of_beq h0
    exact zq_ladd (by omega) (g0 (by omega)).symm
  | isub =>
    obtain ⟨hn, h0⟩ := Bool.and_eq_true_iff.mp hk
    cases eq_of_beq hn
    cases eq_of_beq h0
    exact zq_isub (by omega) (g0 (by omega)).symm
  | lsub =>
    obtain ⟨hn, h0⟩ := Bool.and_eq_true_iff.mp hk
    cases eq_of_beq hn
    cases eq_of_beq h0
    exact zq_lsub (by omega) (g0 (by omega)).symm
  | imul =>
    obtain ⟨hn, h0⟩ := Bool.and_eq_true_iff.mp hk
    cases eq_of_beq hn
    cases eq_of_beq h0
    exact zq_imul (by omega) (g0 (by omega)).symm
  | lmul =>
    obtain ⟨hn, h0⟩ := Bool.and_eq_true_iff.mp hk
    cases eq_of_beq hn
    cases eq_of_beq h0
    exact zq_lmul (by omega) (g0 (by omega)).symm
  | idiv =>
    obtain ⟨hn, h0⟩ := Bool.and_eq_true_iff.mp hk
    cases eq_of_beq hn
    cases eq_of_beq h0
    exact zq_idiv (by omega) (g0 (by omega)).symm
  | ldiv =>
    obtain ⟨hn, h0⟩ := Bool.and_eq_true_iff.mp hk
    cases eq_of_beq hn
    cases eq_of_beq h0
    exact zq_ldiv (by omega) (g0 (by omega)).symm
  | irem =>
    obtain ⟨hn, h0⟩ := Bool.and_eq_true_iff.mp hk
    cases eq_of_beq hn
    cases eq_of_beq h0
    exact zq_irem (by omega) (g0 (by omega)).symm
  | lrem =>
    obtain ⟨hn, h0⟩ := Bool.and_eq_true_iff.mp hk
    cases eq_of_beq hn
    cases eq_of_beq h0
    exact zq_lrem (by omega) (g0 (by omega)).symm
  | ineg =>
    obtain ⟨hn, h0⟩ := Bool.and_eq_true_iff.mp hk
    cases eq_of_beq hn
    cases eq_of_beq h0
    exact zq_ineg (by omega) (g0 (by omega)).symm
  | ishl =>
    obtain ⟨hn, h0⟩ := Bool.and_eq_true_iff.mp hk
    cases eq_of_beq hn
    cases eq_of_beq h0
    exact zq_ishl (by omega) (g0 (by omega)).symm
  | lshl =>
    obtain ⟨hn, h0⟩ := Bool.and_eq_true_iff.mp hk
    cases eq_of_beq hn
    cases eq_of_beq h0
    exact zq_lshl (by omega) (g0 (by omega)).symm
  | ishr =>
    obtain ⟨hn, h0⟩ := Bool.and_eq_true_iff.mp hk
    cases eq_of_beq hn
    cases eq_of_beq h0
    exact zq_ishr (by omega) (g0 (by omega)).symm
  | lshr =>
    obtain ⟨hn, h0⟩ := Bool.and_eq_true_iff.mp hk
    cases eq_of_beq hn
    cases eq_of_beq h0
    exact zq_lshr (by omega) (g0 (by omega)).symm
  | iushr =>
    obtain ⟨hn, h0⟩ := Bool.and_eq_true_iff.mp hk
    cases eq_of_beq hn
    cases eq_of_beq h0
    exact zq_iushr (by omega) (g0 (by omega)).symm
  | iand =>
    obtain ⟨hn, h0⟩ := Bool.and_eq_true_iff.mp hk
    cases eq_of_beq hn
    cases eq_of_beq h0
    exact zq_iand (by omega) (g0 (by omega)).symm
  | land =>
    obtain ⟨hn, h0⟩ := Bool.and_eq_true_iff.mp hk
    cases eq_of_beq hn
    cases eq_of_beq h0
    exact zq_land (by omega) (g0 (by omega)).symm
  | ior =>
    obtain ⟨hn, h0⟩ := Bool.and_eq_true_iff.mp hk
    cases eq_of_beq hn
    cases eq_of_beq h0
    exact zq_ior (by omega) (g0 (by omega)).symm
  | lor =>
    obtain ⟨hn, h0⟩ := Bool.and_eq_true_iff.mp hk
    cases eq_of_beq hn
    cases eq_of_beq h0
    exact zq_lor (by omega) (g0 (by omega)).symm
  | ixor =>
    obtain ⟨hn, h0⟩ := Bool.and_eq_true_iff.mp hk
    cases eq_of_beq hn
    cases eq_of_beq h0
    exact zq_ixor (by omega) (g0 (by omega)).symm
  | lxor =>
    obtain ⟨hn, h0⟩ := Bool.and_eq_true_iff.mp hk
    cases eq_of_beq hn
    cases eq_of_beq h0
    exact zq_lxor (by omega) (g0 (by omega)).symm
  | i2l =>
    obtain ⟨hn, h0⟩ := Bool.and_eq_true_iff.mp hk
    cases eq_of_beq hn
    cases eq_of_beq h0
    exact zq_i2l (by omega) (g0 (by omega)).symm
  | l2i =>
    obtain ⟨hn, h0⟩ := Bool.and_eq_true_iff.mp hk
    cases eq_of_beq hn
    cases eq_of_beq h0
    exact zq_l2i (by omega) (g0 (by omega)).symm
  | i2b =>
    obtain ⟨hn, h0⟩ := Bool.and_eq_true_iff.mp hk
    cases eq_of_beq hn
    cases eq_of_beq h0
    exact zq_i2b (by omega) (g0 (by omega)).symm
  | lcmp =>
    obtain ⟨hn, h0⟩ := Bool.and_eq_true_iff.mp hk
    cases eq_of_beq hn
    cases eq_of_beq h0
    exact zq_lcmp (by omega) (g0 (by omega)).symm
  | ireturn =>
    obtain ⟨hn, h0⟩ := Bool.and_eq_true_iff.mp hk
    cases eq_of_beq hn
    cases eq_of_beq h0
    exact zq_ireturn (by omega) (g0 (by omega)).symm
  | lreturn =>
    obtain ⟨hn, h0⟩ := Bool.and_eq_true_iff.mp hk
    cases eq_of_beq hn
    cases eq_of_beq h0
    exact zq_lreturn (by omega) (g0 (by omega)).symm
  | areturn =>
    obtain ⟨hn, h0⟩ := Bool.and_eq_true_iff.mp hk
    cases eq_of_beq hn
    cases eq_of_beq h0
    exact zq_areturn (by omega) (g0 (by omega)).symm
  | return_ =>
    obtain ⟨hn, h0⟩ := Bool.and_eq_true_iff.mp hk
    cases eq_of_beq hn
    cases eq_of_beq h0
    exact zq_return_ (by omega) (g0 (by omega)).symm
  | arraylength =>
    obtain ⟨hn, h0⟩ := Bool.and_eq_true_iff.mp hk
    cases eq_of_beq hn
    cases eq_of_beq h0
    exact zq_arraylength (by omega) (g0 (by omega)).symm
  | athrow =>
    obtain ⟨hn, h0⟩ := Bool.and_eq_true_iff.mp hk
    cases eq_of_beq hn
    cases eq_of_beq h0
    exact zq_athrow (by omega) (g0 (by omega)).symm
  | aconst_null =>
    obtain ⟨hn, h0⟩ := Bool.and_eq_true_iff.mp hk
    cases eq_of_beq hn
    cases eq_of_beq h0
    exact zq_aconst_null (by omega) (g0 (by omega)).symm
  | iload_n k =>
    obtain ⟨hn, h0⟩ := Bool.and_eq_true_iff.mp hk
    cases eq_of_beq hn
    cases eq_of_beq h0
    revert g0
    match k with
    | 0 => exact fun g0 => zq_iload_n0 (by omega) (g0 (by omega)).symm
    | 1 => exact fun g0 => zq_iload_n1 (by omega) (g0 (by omega)).symm
    | 2 => exact fun g0 => zq_iload_n2 (by omega) (g0 (by omega)).symm
    | 3 => exact fun g0 => zq_iload_n3 (by omega) (g0 (by omega)).symm
  | lload_n k =>
    obtain ⟨hn, h0⟩ := Bool.and_eq_true_iff.mp hk
    cases eq_of_beq hn
    cases eq_of_beq h0
    revert g0
    match k with
    | 0 => exact fun g0 => zq_lload_n0 (by omega) (g0 (by omega)).symm
    | 1 => exact fun g0 => zq_lload_n1 (by omega) (g0 (by omega)).symm
    | 2 => exact fun g0 => zq_lload_n2 (by omega) (g0 (by omega)).symm
    | 3 => exact fun g0 => zq_lload_n3 (by omega) (g0 (by omega)).symm
  | aload_n k =>
    obtain ⟨hn, h0⟩ := Bool.and_eq_true_iff.mp hk
    cases eq_of_beq hn
    cases eq_of_beq h0
    revert g0
    match k with
    | 0 => exact fun g0 => zq_aload_n0 (by omega) (g0 (by omega)).symm
    | 1 => exact fun g0 => zq_aload_n1 (by omega) (g0 (by omega)).symm
    | 2 => exact fun g0 => zq_aload_n2 (by omega) (g0 (by omega)).symm
    | 3 => exact fun g0 => zq_aload_n3 (by omega) (g0 (by omega)).symm
  | istore_n k =>
    obtain ⟨hn, h0⟩ := Bool.and_eq_true_iff.mp hk
    cases eq_of_beq hn
    cases eq_of_beq h0
    revert g0
    match k with
    | 0 => exact fun g0 => zq_istore_n0 (by omega) (g0 (by omega)).symm
    | 1 => exact fun g0 => zq_istore_n1 (by omega) (g0 (by omega)).symm
    | 2 => exact fun g0 => zq_istore_n2 (by omega) (g0 (by omega)).symm
    | 3 => exact fun g0 => zq_istore_n3 (by omega) (g0 (by omega)).symm
  | lstore_n k =>
    obtain ⟨hn, h0⟩ := Bool.and_eq_true_iff.mp hk
    cases eq_of_beq hn
    cases eq_of_beq h0
    revert g0
    match k with
    | 0 => exact fun g0 => zq_lstore_n0 (by omega) (g0 (by omega)).symm
    | 1 => exact fun g0 => zq_lstore_n1 (by omega) (g0 (by omega)).symm
    | 2 => exact fun g0 => zq_lstore_n2 (by omega) (g0 (by omega)).symm
    | 3 => exact fun g0 => zq_lstore_n3 (by omega) (g0 (by omega)).symm
  | astore_n k =>
    obtain ⟨hn, h0⟩ := Bool.and_eq_true_iff.mp hk
    cases eq_of_beq hn
    cases eq_of_beq h0
    revert g0
    match k with
    | 0 => exact fun g0 => zq_astore_n0 (by omega) (g0 (by omega)).symm
    | 1 => exact fun g0 => zq_astore_n1 (by omega) (g0 (by omega)).symm
    | 2 => exact fun g0 => zq_astore_n2 (by omega) (g0 (by omega)).symm
    | 3 => exact fun g0 => zq_astore_n3 (by omega) (g0 (by omega)).symm
  | lconst k =>
    obtain ⟨hn, h0⟩ := Bool.and_eq_true_iff.mp hk
    cases eq_of_beq hn
    cases eq_of_beq h0
    revert g0
    match k with
    | 0 => exact fun g0 => zq_lconst0 (by omega) (g0 (by omega)).symm
    | 1 => exact fun g0 => zq_lconst1 (by omega) (g0 (by omega)).symm
  | iconst v =>
    obtain ⟨hn, hk⟩ := Bool.and_eq_true_iff.mp hk
    obtain ⟨hv, hk⟩ := Bool.and_eq_true_iff.mp hk
    obtain ⟨h2, h8⟩ := Bool.and_eq_true_iff.mp hk
    cases eq_of_beq hn
    cases eq_of_beq hv
    have h2 := Nat.le_of_ble_eq_true h2
    have h8 := Nat.le_of_ble_eq_true h8
    have hb := (g0 (by omega)).symm
    have : b0 = 2 ∨ b0 = 3 ∨ b0 = 4 ∨ b0 = 5 ∨ b0 = 6 ∨ b0 = 7 ∨ b0 = 8 := by omega
    rcases this with rfl | rfl | rfl | rfl | rfl | rfl | rfl
    · exact zq_iconstm1 (by omega) hb
    · exact zq_iconst0 (by omega) hb
    · exact zq_iconst1 (by omega) hb
    · exact zq_iconst2 (by omega) hb
    · exact zq_iconst3 (by omega) hb
    · exact zq_iconst4 (by omega) hb
    · exact zq_iconst5 (by omega) hb
  | ldc k =>
    obtain ⟨hn, hk⟩ := Bool.and_eq_true_iff.mp hk
    obtain ⟨h0, h1⟩ := Bool.and_eq_true_iff.mp hk
    cases eq_of_beq hn
    cases eq_of_beq h0
    cases eq_of_beq h1
    rw [g1 (by omega)]
    exact zq_ldc (by omega) (by omega) (g0 (by omega)).symm
  | iload k =>
    obtain ⟨hn, hk⟩ := Bool.and_eq_true_iff.mp hk
    obtain ⟨h0, h1⟩ := Bool.and_eq_true_iff.mp hk
    cases eq_of_beq hn
    cases eq_of_beq h0
    cases eq_of_beq h1
    rw [g1 (by omega)]
    exact zq_iload (by omega) (by omega) (g0 (by omega)).symm
  | lload k =>
    obtain ⟨hn, hk⟩ := Bool.and_eq_true_iff.mp hk
    obtain ⟨h0, h1⟩ := Bool.and_eq_true_iff.mp hk
    cases eq_of_beq hn
    cases eq_of_beq h0
    cases eq_of_beq h1
    rw [g1 (by omega)]
    exact zq_lload (by omega) (by omega) (g0 (by omega)).symm
  | aload k =>
    obtain ⟨hn, hk⟩ := Bool.and_eq_true_iff.mp hk
    obtain ⟨h0, h1⟩ := Bool.and_eq_true_iff.mp hk
    cases eq_of_beq hn
    cases eq_of_beq h0
    cases eq_of_beq h1
    rw [g1 (by omega)]
    exact zq_aload (by omega) (by omega) (g0 (by omega)).symm
  | istore k =>
    obtain ⟨hn, hk⟩ := Bool.and_eq_true_iff.mp hk
    obtain ⟨h0, h1⟩ := Bool.and_eq_true_iff.mp hk
    cases eq_of_beq hn
    cases eq_of_beq h0
    cases eq_of_beq h1
    rw [g1 (by omega)]
    exact zq_istore (by omega) (by omega) (g0 (by omega)).symm
  | lstore k =>
    obtain ⟨hn, hk⟩ := Bool.and_eq_true_iff.mp hk
    obtain ⟨h0, h1⟩ := Bool.and_eq_true_iff.mp hk
    cases eq_of_beq hn
    cases eq_of_beq h0
    cases eq_of_beq h1
    rw [g1 (by omega)]
    exact zq_lstore (by omega) (by omega) (g0 (by omega)).symm
  | astore k =>
    obtain ⟨hn, hk⟩ := Bool.and_eq_true_iff.mp hk
    obtain ⟨h0, h1⟩ := Bool.and_eq_true_iff.mp hk
    cases eq_of_beq hn
    cases eq_of_beq h0
    cases eq_of_beq h1
    rw [g1 (by omega)]
    exact zq_astore (by omega) (by omega) (g0 (by omega)).symm
  | ldc_w k =>
    obtain ⟨hn, hk⟩ := Bool.and_eq_true_iff.mp hk
    obtain ⟨h0, h1⟩ := Bool.and_eq_true_iff.mp hk
    cases eq_of_beq hn
    cases eq_of_beq h0
    cases eq_of_beq h1
    rw [g1 (by omega), g2 (by omega)]
    exact zq_ldc_w (by omega) (by omega) (by omega) (g0 (by omega)).symm
  | ldc2_w k =>
    obtain ⟨hn, hk⟩ := Bool.and_eq_true_iff.mp hk
    obtain ⟨h0, h1⟩ := Bool.and_eq_true_iff.mp hk
    cases eq_of_beq hn
    cases eq_of_beq h0
    cases eq_of_beq h1
    rw [g1 (by omega), g2 (by omega)]
    exact zq_ldc2_w (by omega) (by omega) (by omega) (g0 (by omega)).symm
  | getfield k =>
    obtain ⟨hn, hk⟩ := Bool.and_eq_true_iff.mp hk
    obtain ⟨h0, h1⟩ := Bool.and_eq_true_iff.mp hk
    cases eq_of_beq hn
    cases eq_of_beq h0
    cases eq_of_beq h1
    rw [g1 (by omega), g2 (by omega)]
    exact zq_getfield (by omega) (by omega) (by omega) (g0 (by omega)).symm
  | putfield k =>
    obtain ⟨hn, hk⟩ := Bool.and_eq_true_iff.mp hk
    obtain ⟨h0, h1⟩ := Bool.and_eq_true_iff.mp hk
    cases eq_of_beq hn
    cases eq_of_beq h0
    cases eq_of_beq h1
    rw [g1 (by omega), g2 (by omega)]
    exact zq_putfield (by omega) (by omega) (by omega) (g0 (by omega)).symm
  | invokevirtual k =>
    obtain ⟨hn, hk⟩ := Bool.and_eq_true_iff.mp hk
    obtain ⟨h0, h1⟩ := Bool.and_eq_true_iff.mp hk
    cases eq_of_beq hn
    cases eq_of_beq h0
    cases eq_of_beq h1
    rw [g1 (by omega), g2 (by omega)]
    exact zq_invokevirtual (by omega) (by omega) (by omega) (g0 (by omega)).symm
  | invokespecial k =>
    obtain ⟨hn, hk⟩ := Bool.and_eq_true_iff.mp hk
    obtain ⟨h0, h1⟩ := Bool.and_eq_true_iff.mp hk
    cases eq_of_beq hn
    cases eq_of_beq h0
    cases eq_of_beq h1
    rw [g1 (by omega), g2 (by omega)]
    exact zq_invokespecial (by omega) (by omega) (by omega) (g0 (by omega)).symm
  | invokestatic k =>
    obtain ⟨hn, hk⟩ := Bool.and_eq_true_iff.mp hk
    obtain ⟨h0, h1⟩ := Bool.and_eq_true_iff.mp hk
    cases eq_of_beq hn
    cases eq_of_beq h0
    cases eq_of_beq h1
    rw [g1 (by omega), g2 (by omega)]
    exact zq_invokestatic (by omega) (by omega) (by omega) (g0 (by omega)).symm
  | new k =>
    obtain ⟨hn, hk⟩ := Bool.and_eq_true_iff.mp hk
    obtain ⟨h0, h1⟩ := Bool.and_eq_true_iff.mp hk
    cases eq_of_beq hn
    cases eq_of_beq h0
    cases eq_of_beq h1
    rw [g1 (by omega), g2 (by omega)]
    exact zq_new (by omega) (by omega) (by omega) (g0 (by omega)).symm
  | anewarray k =>
    obtain ⟨hn, hk⟩ := Bool.and_eq_true_iff.mp hk
    obtain ⟨h0, h1⟩ := Bool.and_eq_true_iff.mp hk
    cases eq_of_beq hn
    cases eq_of_beq h0
    cases eq_of_beq h1
    rw [g1 (by omega), g2 (by omega)]
    exact zq_anewarray (by omega) (by omega) (by omega) (g0 (by omega)).symm
  | ifnull k =>
    obtain ⟨hn, hk⟩ := Bool.and_eq_true_iff.mp hk
    obtain ⟨h0, h1⟩ := Bool.and_eq_true_iff.mp hk
    cases eq_of_beq hn
    cases eq_of_beq h0
    cases eq_of_beq h1
    rw [g1 (by omega), g2 (by omega)]
    exact zq_ifnull (by omega) (by omega) (by omega) (g0 (by omega)).symm
  | ifnonnull k =>
    obtain ⟨hn, hk⟩ := Bool.and_eq_true_iff.mp hk
    obtain ⟨h0, h1⟩ := Bool.and_eq_true_iff.mp hk
    cases eq_of_beq hn
    cases eq_of_beq h0
    cases eq_of_beq h1
    rw [g1 (by omega), g2 (by omega)]
    exact zq_ifnonnull (by omega) (by omega) (by omega) (g0 (by omega)).symm
  | goto k =>
    obtain ⟨hn, hk⟩ := Bool.and_eq_true_iff.mp hk
    obtain ⟨h0, h1⟩ := Bool.and_eq_true_iff.mp hk
    cases eq_of_beq hn
    cases eq_of_beq h0
    cases eq_of_beq h1
    rw [g1 (by omega), g2 (by omega)]
    exact zq_goto (by omega) (by omega) (by omega) (g0 (by omega)).symm
  | sipush k =>
    obtain ⟨hn, hk⟩ := Bool.and_eq_true_iff.mp hk
    obtain ⟨h0, h1⟩ := Bool.and_eq_true_iff.mp hk
    cases eq_of_beq hn
    cases eq_of_beq h0
    cases eq_of_beq h1
    rw [g1 (by omega), g2 (by omega)]
    exact zq_sipush (by omega) (by omega) (by omega) (g0 (by omega)).symm
  | bipush k =>
    obtain ⟨hn, hk⟩ := Bool.and_eq_true_iff.mp hk
    obtain ⟨h0, h1⟩ := Bool.and_eq_true_iff.mp hk
    cases eq_of_beq hn
    cases eq_of_beq h0
    cases eq_of_beq h1
    rw [g1 (by omega)]
    exact zq_bipush (by omega) (by omega) (g0 (by omega)).symm
  | ifCond c k =>
    obtain ⟨hn, hk⟩ := Bool.and_eq_true_iff.mp hk
    obtain ⟨h0, h1⟩ := Bool.and_eq_true_iff.mp hk
    cases eq_of_beq hn
    cases eq_of_beq h0
    cases eq_of_beq h1
    rw [g1 (by omega), g2 (by omega)]
    cases c with
    | eq => exact zq_if_eq (by omega) (by omega) (by omega) (g0 (by omega)).symm
    | ne => exact zq_if_ne (by omega) (by omega) (by omega) (g0 (by omega)).symm
    | lt => exact zq_if_lt (by omega) (by omega) (by omega) (g0 (by omega)).symm
    | ge => exact zq_if_ge (by omega) (by omega) (by omega) (g0 (by omega)).symm
    | gt => exact zq_if_gt (by omega) (by omega) (by omega) (g0 (by omega)).symm
    | le => exact zq_if_le (by omega) (by omega) (by omega) (g0 (by omega)).symm
  | if_icmp c k =>
    obtain ⟨hn, hk⟩ := Bool.and_eq_true_iff.mp hk
    obtain ⟨h0, h1⟩ := Bool.and_eq_true_iff.mp hk
    cases eq_of_beq hn
    cases eq_of_beq h0
    cases eq_of_beq h1
    rw [g1 (by omega), g2 (by omega)]
    cases c with
    | eq => exact zq_icmp_eq (by omega) (by omega) (by omega) (g0 (by omega)).symm
    | ne => exact zq_icmp_ne (by omega) (by omega) (by omega) (g0 (by omega)).symm
    | lt => exact zq_icmp_lt (by omega) (by omega) (by omega) (g0 (by omega)).symm
    | ge => exact zq_icmp_ge (by omega) (by omega) (by omega) (g0 (by omega)).symm
    | gt => exact zq_icmp_gt (by omega) (by omega) (by omega) (g0 (by omega)).symm
    | le => exact zq_icmp_le (by omega) (by omega) (by omega) (g0 (by omega)).symm
  | iinc k v =>
    obtain ⟨hn, hk⟩ := Bool.and_eq_true_iff.mp hk
    obtain ⟨h0, hk⟩ := Bool.and_eq_true_iff.mp hk
    obtain ⟨h1, h2⟩ := Bool.and_eq_true_iff.mp hk
    cases eq_of_beq hn
    cases eq_of_beq h0
    cases eq_of_beq h1
    cases eq_of_beq h2
    rw [g1 (by omega), g2 (by omega)]
    exact zq_iinc (by omega) (by omega) (by omega) (g0 (by omega)).symm
  | _ => exact absurd hk Bool.false_ne_true
def zqG (b0 b1 b2 : Nat) : Instr × Nat := bif Nat.ble b0 89 then (bif Nat.ble b0 42 then (bif Nat.ble b0 18 then (bif Nat.ble b0 6 then (bif Nat.ble b0 3 then (bif Nat.ble b0 1 then ((.aconst_null, 1)) else (bif Nat.ble b0 2 then ((.iconst (-1), 1)) else ((.iconst (0), 1)))) else (bif Nat.ble b0 4 then ((.iconst (1), 1)) else (bif Nat.ble b0 5 then ((.iconst (2), 1)) else ((.iconst (3), 1))))) else (bif Nat.ble b0 9 then (bif Nat.ble b0 7 then ((.iconst (4), 1)) else (bif Nat.ble b0 8 then ((.iconst (5), 1)) else ((.lconst 0, 1)))) else (bif Nat.ble b0 16 then (bif Nat.ble b0 10 then ((.lconst 1, 1)) else ((.bipush (Reader.signed 8 b1), 2))) else (bif Nat.ble b0 17 then ((.sipush (Reader.signed 16 (b1 * 256 + b2)), 3)) else ((.ldc b1, 2)))))) else (bif Nat.ble b0 27 then (bif Nat.ble b0 21 then (bif Nat.ble b0 19 then ((.ldc_w (b1 * 256 + b2), 3)) else (bif Nat.ble b0 20 then ((.ldc2_w (b1 * 256 + b2), 3)) else ((.iload b1, 2)))) else (bif Nat.ble b0 25 then (bif Nat.ble b0 22 then ((.lload b1, 2)) else ((.aload b1, 2))) else (bif Nat.ble b0 26 then ((.iload_n 0, 1)) else ((.iload_n 1, 1))))) else (bif Nat.ble b0 30 then (bif Nat.ble b0 28 then ((.iload_n 2, 1)) else (bif Nat.ble b0 29 then ((.iload_n 3, 1)) else ((.lload_n 0, 1)))) else (bif Nat.ble b0 32 then (bif Nat.ble b0 31 then ((.lload_n 1, 1)) else ((.lload_n 2, 1))) else (bif Nat.ble b0 33 then ((.lload_n 3, 1)) else ((.aload_n 0, 1))))))) else (bif Nat.ble b0 62 then (bif Nat.ble b0 51 then (bif Nat.ble b0 45 then (bif Nat.ble b0 43 then ((.aload_n 1, 1)) else (bif Nat.ble b0 44 then ((.aload_n 2, 1)) else ((.aload_n 3, 1)))) else (bif Nat.ble b0 47 then (bif Nat.ble b0 46 then ((.iaload, 1)) else ((.laload, 1))) else (bif Nat.ble b0 50 then ((.aaload, 1)) else ((.baload, 1))))) else (bif Nat.ble b0 58 then (bif Nat.ble b0 54 then ((.istore b1, 2)) else (bif Nat.ble b0 55 then ((.lstore b1, 2)) else ((.astore b1, 2)))) else (bif Nat.ble b0 60 then (bif Nat.ble b0 59 then ((.istore_n 0, 1)) else ((.istore_n 1, 1))) else (bif Nat.ble b0 61 then ((.istore_n 2, 1)) else ((.istore_n 3, 1)))))) else (bif Nat.ble b0 77 then (bif Nat.ble b0 65 then (bif Nat.ble b0 63 then ((.lstore_n 0, 1)) else (bif Nat.ble b0 64 then ((.lstore_n 1, 1)) else ((.lstore_n 2, 1)))) else (bif Nat.ble b0 75 then (bif Nat.ble b0 66 then ((.lstore_n 3, 1)) else ((.astore_n 0, 1))) else (bif Nat.ble b0 76 then ((.astore_n 1, 1)) else ((.astore_n 2, 1))))) else (bif Nat.ble b0 80 then (bif Nat.ble b0 78 then ((.astore_n 3, 1)) else (bif Nat.ble b0 79 then ((.iastore, 1)) else ((.lastore, 1)))) else (bif Nat.ble b0 84 then (bif Nat.ble b0 83 then ((.aastore, 1)) else ((.bastore, 1))) else (bif Nat.ble b0 87 then ((.pop, 1)) else ((.dup, 1)))))))) else (bif Nat.ble b0 148 then (bif Nat.ble b0 121 then (bif Nat.ble b0 105 then (bif Nat.ble b0 97 then (bif Nat.ble b0 92 then ((.dup2, 1)) else (bif Nat.ble b0 96 then ((.iadd, 1)) else ((.ladd, 1)))) else (bif Nat.ble b0 101 then (bif Nat.ble b0 100 then ((.isub, 1)) else ((.lsub, 1))) else (bif Nat.ble b0 104 then ((.imul, 1)) else ((.lmul, 1))))) else (bif Nat.ble b0 112 then (bif Nat.ble b0 108 then ((.idiv, 1)) else (bif Nat.ble b0 109 then ((.ldiv, 1)) else ((.irem, 1)))) else (bif Nat.ble b0 116 then (bif Nat.ble b0 113 then ((.lrem, 1)) else ((.ineg, 1))) else (bif Nat.ble b0 120 then ((.ishl, 1)) else ((.lshl, 1)))))) else (bif Nat.ble b0 129 then (bif Nat.ble b0 124 then (bif Nat.ble b0 122 then ((.ishr, 1)) else (bif Nat.ble b0 123 then ((.lshr, 1)) else ((.iushr, 1)))) else (bif Nat.ble b0 127 then (bif Nat.ble b0 126 then ((.iand, 1)) else ((.land, 1))) else (bif Nat.ble b0 128 then ((.ior, 1)) else ((.lor, 1))))) else (bif Nat.ble b0 132 then (bif Nat.ble b0 130 then ((.ixor, 1)) else (bif Nat.ble b0 131 then ((.lxor, 1)) else ((.iinc b1 (Reader.signed 8 b2), 3)))) else (bif Nat.ble b0 136 then (bif Nat.ble b0 133 then ((.i2l, 1)) else ((.l2i, 1))) else (bif Nat.ble b0 145 then ((.i2b, 1)) else ((.lcmp, 1))))))) else (bif Nat.ble b0 172 then (bif Nat.ble b0 159 then (bif Nat.ble b0 155 then (bif Nat.ble b0 153 then ((.ifCond .eq (Reader.signed 16 (b1 * 256 + b2)), 3)) else (bif Nat.ble b0 154 then ((.ifCond .ne (Reader.signed 16 (b1 * 256 + b2)), 3)) else ((.ifCond .lt (Reader.signed 16 (b1 * 256 + b2)), 3)))) else (bif Nat.ble b0 157 then (bif Nat.ble b0 156 then ((.ifCond .ge (Reader.signed 16 (b1 * 256 + b2)), 3)) else ((.ifCond .gt (Reader.signed 16 (b1 * 256 + b2)), 3))) else (bif Nat.ble b0 158 then ((.ifCond .le (Reader.signed 16 (b1 * 256 + b2)), 3)) else ((.if_icmp .eq (Reader.signed 16 (b1 * 256 + b2)), 3))))) else (bif Nat.ble b0 162 then (bif Nat.ble b0 160 then ((.if_icmp .ne (Reader.signed 16 (b1 * 256 + b2)), 3)) else (bif Nat.ble b0 161 then ((.if_icmp .lt (Reader.signed 16 (b1 * 256 + b2)), 3)) else ((.if_icmp .ge (Reader.signed 16 (b1 * 256 + b2)), 3)))) else (bif Nat.ble b0 164 then (bif Nat.ble b0 163 then ((.if_icmp .gt (Reader.signed 16 (b1 * 256 + b2)), 3)) else ((.if_icmp .le (Reader.signed 16 (b1 * 256 + b2)), 3))) else (bif Nat.ble b0 167 then ((.goto (Reader.signed 16 (b1 * 256 + b2)), 3)) else ((.ireturn, 1)))))) else (bif Nat.ble b0 183 then (bif Nat.ble b0 177 then (bif Nat.ble b0 173 then ((.lreturn, 1)) else (bif Nat.ble b0 176 then ((.areturn, 1)) else ((.return_, 1)))) else (bif Nat.ble b0 181 then (bif Nat.ble b0 180 then ((.getfield (b1 * 256 + b2), 3)) else ((.putfield (b1 * 256 + b2), 3))) else (bif Nat.ble b0 182 then ((.invokevirtual (b1 * 256 + b2), 3)) else ((.invokespecial (b1 * 256 + b2), 3))))) else (bif Nat.ble b0 189 then (bif Nat.ble b0 184 then ((.invokestatic (b1 * 256 + b2), 3)) else (bif Nat.ble b0 187 then ((.new (b1 * 256 + b2), 3)) else ((.anewarray (b1 * 256 + b2), 3)))) else (bif Nat.ble b0 191 then (bif Nat.ble b0 190 then ((.arraylength, 1)) else ((.athrow, 1))) else (bif Nat.ble b0 198 then ((.ifnull (Reader.signed 16 (b1 * 256 + b2)), 3)) else ((.ifnonnull (Reader.signed 16 (b1 * 256 + b2)), 3))))))))
def zqF (code : ByteArray) (pc : Nat) : Option (Instr × Nat) :=
  if zqT code pc (zqG (zqB (zqC code) pc) (zqB (zqC code) (pc + 1)) (zqB (zqC code) (pc + 1 + 1))).1 (zqG (zqB (zqC code) pc) (zqB (zqC code) (pc + 1)) (zqB (zqC code) (pc + 1 + 1))).2 = true then some (zqG (zqB (zqC code) pc) (zqB (zqC code) (pc + 1)) (zqB (zqC code) (pc + 1 + 1)))
  else match decode code pc with
    | .ok q => some q
    | .error _ => none
theorem zqF_d {code : ByteArray} {pc : Nat} {q : Instr × Nat} (h : zqF code pc = some q) : decode code pc = .ok q := by
  unfold zqF at h
  split at h
  next h1 => cases h; exact zqT_d h1
  next =>
    split at h
    next q' h2 => cases h; exact h2
    next => cases h
