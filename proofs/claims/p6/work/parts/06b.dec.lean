section
-- part 06b.dec.lean.txt
/-! ===== a quick look at an instruction: bytes out of one packed number ===== -/
theorem zq_u1 {code : ByteArray} {p : Nat} (h : p < code.size) : (Reader.u1 : Decoder Nat) code p = .ok ((code[p]'h).toNat, p + 1) := by
  show (dite (p < code.size) (fun h => (do set (p + 1); pure (code[p]'h).toNat : Decoder Nat)) (fun _ => throw (HasTruncated.truncated p)) : Decoder Nat) code p = _
  rw [dif_pos h]
  rfl
theorem zq_bind {α β : Type} {x : Decoder α} {f : α → Decoder β} {code : ByteArray} {p q : Nat} {a : α} (h : x code p = .ok (a, q)) : (x >>= f) code p = f a code q := by
  show Except.bind (x code p) _ = _
  rw [h]
  rfl
theorem zq_map {α β : Type} {x : Decoder α} {f : α → β} {code : ByteArray} {p q : Nat} {a : α} (h : x code p = .ok (a, q)) : (f <$> x) code p = .ok (f a, q) := by
  show Except.bind (x code p) _ = _
  rw [h]
  rfl
theorem zq_u2 {code : ByteArray} {p : Nat} (h : p < code.size) (h2 : p + 1 < code.size) : (Reader.u2 : Decoder Nat) code p = .ok ((code[p]'h).toNat * 256 + (code[p + 1]'h2).toNat, p + 1 + 1) :=
  (zq_bind (zq_u1 h)).trans ((zq_bind (zq_u1 h2)).trans rfl)
theorem zq_s1 {code : ByteArray} {p : Nat} (h : p < code.size) : (Reader.s1 : Decoder Int) code p = .ok (Reader.signed 8 (code[p]'h).toNat, p + 1) := zq_map (zq_u1 h)
theorem zq_s2 {code : ByteArray} {p : Nat} (h : p < code.size) (h2 : p + 1 < code.size) : (Reader.s2 : Decoder Int) code p = .ok (Reader.signed 16 ((code[p]'h).toNat * 256 + (code[p + 1]'h2).toNat), p + 1 + 1) := zq_map (zq_u2 h h2)
theorem zq_dec {code : ByteArray} {pc q : Nat} {i : Instr} (h : Decoder.instr pc code pc = .ok (i, q)) : decode code pc = .ok (i, q - pc) := by
  show Except.bind (Decoder.instr pc code pc) _ = _
  rw [h]
  rfl
theorem zq_n1 (pc : Nat) : pc + 1 - pc = 1 := by omega
theorem zq_n2 (pc : Nat) : pc + 1 + 1 - pc = 2 := by omega
theorem zq_n3 (pc : Nat) : pc + 1 + 1 + 1 - pc = 3 := by omega
section
variable {code : ByteArray} {pc : Nat} (h : pc < code.size)
set_option maxRecDepth 8192 in
theorem zq_iaload (hb : (code[pc]'h).toNat = 46) : decode code pc = .ok (.iaload, 1) := by
  have e : Decoder.instr pc code pc = .ok (.iaload, pc + 1) := by
    unfold Decoder.instr
    rw [zq_bind (zq_u1 h), hb]
    first | done | rfl
  rw [zq_dec e, zq_n1]
set_option maxRecDepth 8192 in
theorem zq_laload (hb : (code[pc]'h).toNat = 47) : decode code pc = .ok (.laload, 1) := by
  have e : Decoder.instr pc code pc = .ok (.laload, pc + 1) := by
    unfold Decoder.instr
    rw [zq_bind (zq_u1 h), hb]
    first | done | rfl
  rw [zq_dec e, zq_n1]
set_option maxRecDepth 8192 in
theorem zq_aaload (hb : (code[pc]'h).toNat = 50) : decode code pc = .ok (.aaload, 1) := by
  have e : Decoder.instr pc code pc = .ok (.aaload, pc + 1) := by
    unfold Decoder.instr
    rw [zq_bind (zq_u1 h), hb]
    first | done | rfl
  rw [zq_dec e, zq_n1]
set_option maxRecDepth 8192 in
theorem zq_baload (hb : (code[pc]'h).toNat = 51) : decode code pc = .ok (.baload, 1) := by
  have e : Decoder.instr pc code pc = .ok (.baload, pc + 1) := by
    unfold Decoder.instr
    rw [zq_bind (zq_u1 h), hb]
    first | done | rfl
  rw [zq_dec e, zq_n1]
set_option maxRecDepth 8192 in
theorem zq_iastore (hb : (code[pc]'h).toNat = 79) : decode code pc = .ok (.iastore, 1) := by
  have e : Decoder.instr pc code pc = .ok (.iastore, pc + 1) := by
    unfold Decoder.instr
    rw [zq_bind (zq_u1 h), hb]
    first | done | rfl
  rw [zq_dec e, zq_n1]
set_option maxRecDepth 8192 in
theorem zq_lastore (hb : (code[pc]'h).toNat = 80) : decode code pc = .ok (.lastore, 1) := by
  have e : Decoder.instr pc code pc = .ok (.lastore, pc + 1) := by
    unfold Decoder.instr
    rw [zq_bind (zq_u1 h), hb]
    first | done | rfl
  rw [zq_dec e, zq_n1]
set_option maxRecDepth 8192 in
theorem zq_aastore (hb : (code[pc]'h).toNat = 83) : decode code pc = .ok (.aastore, 1) := by
  have e : Decoder.instr pc code pc = .ok (.aastore, pc + 1) := by
    unfold Decoder.instr
    rw [zq_bind (zq_u1 h), hb]
    first | done | rfl
  rw [zq_dec e, zq_n1]
set_option maxRecDepth 8192 in
theorem zq_bastore (hb : (code[pc]'h).toNat = 84) : decode code pc = .ok (.bastore, 1) := by
  have e : Decoder.instr pc code pc = .ok (.bastore, pc + 1) := by
    unfold Decoder.instr
    rw [zq_bind (zq_u1 h), hb]
    first | done | rfl
  rw [zq_dec e, zq_n1]
set_option maxRecDepth 8192 in
theorem zq_pop (hb : (code[pc]'h).toNat = 87) : decode code pc = .ok (.pop, 1) := by
  have e : Decoder.instr pc code pc = .ok (.pop, pc + 1) := by
    unfold Decoder.instr
    rw [zq_bind (zq_u1 h), hb]
    first | done | rfl
  rw [zq_dec e, zq_n1]
set_option maxRecDepth 8192 in
theorem zq_dup (hb : (code[pc]'h).toNat = 89) : decode code pc = .ok (.dup, 1) := by
  have e : Decoder.instr pc code pc = .ok (.dup, pc + 1) := by
    unfold Decoder.instr
    rw [zq_bind (zq_u1 h), hb]
    first | done | rfl
  rw [zq_dec e, zq_n1]
set_option maxRecDepth 8192 in
theorem zq_dup2 (hb : (code[pc]'h).toNat = 92) : decode code pc = .ok (.dup2, 1) := by
  have e : Decoder.instr pc code pc = .ok (.dup2, pc + 1) := by
    unfold Decoder.instr
    rw [zq_bind (zq_u1 h), hb]
    first | done | rfl
  rw [zq_dec e, zq_n1]
set_option maxRecDepth 8192 in
theorem zq_iadd (hb : (code[pc]'h).toNat = 96) : decode code pc = .ok (.iadd, 1) := by
  have e : Decoder.instr pc code pc = .ok (.iadd, pc + 1) := by
    unfold Decoder.instr
    rw [zq_bind (zq_u1 h), hb]
    first | done | rfl
  rw [zq_dec e, zq_n1]
set_option maxRecDepth 8192 in
theorem zq_ladd (hb : (code[pc]'h).toNat = 97) : decode code pc = .ok (.ladd, 1) := by
  have e : Decoder.instr pc code pc = .ok (.ladd, pc + 1) := by
    unfold Decoder.instr
    rw [zq_bind (zq_u1 h), hb]
    first | done | rfl
  rw [zq_dec e, zq_n1]
set_option maxRecDepth 8192 in
theorem zq_isub (hb : (code[pc]'h).toNat = 100) : decode code pc = .ok (.isub, 1) := by
  have e : Decoder.instr pc code pc = .ok (.isub, pc + 1) := by
    unfold Decoder.instr
    rw [zq_bind (zq_u1 h), hb]
    first | done | rfl
  rw [zq_dec e, zq_n1]
set_option maxRecDepth 8192 in
theorem zq_lsub (hb : (code[pc]'h).toNat = 101) : decode code pc = .ok (.lsub, 1) := by
  have e : Decoder.instr pc code pc = .ok (.lsub, pc + 1) := by
    unfold Decoder.instr
    rw [zq_bind (zq_u1 h), hb]
    first | done | rfl
  rw [zq_dec e, zq_n1]
set_option maxRecDepth 8192 in
theorem zq_imul (hb : (code[pc]'h).toNat = 104) : decode code pc = .ok (.imul, 1) := by
  have e : Decoder.instr pc code pc = .ok (.imul, pc + 1) := by
    unfold Decoder.instr
    rw [zq_bind (zq_u1 h), hb]
    first | done | rfl
  rw [zq_dec e, zq_n1]
set_option maxRecDepth 8192 in
theorem zq_lmul (hb : (code[pc]'h).toNat = 105) : decode code pc = .ok (.lmul, 1) := by
  have e : Decoder.instr pc code pc = .ok (.lmul, pc + 1) := by
    unfold Decoder.instr
    rw [zq_bind (zq_u1 h), hb]
    first | done | rfl
  rw [zq_dec e, zq_n1]
set_option maxRecDepth 8192 in
theorem zq_idiv (hb : (code[pc]'h).toNat = 108) : decode code pc = .ok (.idiv, 1) := by
  have e : Decoder.instr pc code pc = .ok (.idiv, pc + 1) := by
    unfold Decoder.instr
    rw [zq_bind (zq_u1 h), hb]
    first | done | rfl
  rw [zq_dec e, zq_n1]
set_option maxRecDepth 8192 in
theorem zq_ldiv (hb : (code[pc]'h).toNat = 109) : decode code pc = .ok (.ldiv, 1) := by
  have e : Decoder.instr pc code pc = .ok (.ldiv, pc + 1) := by
    unfold Decoder.instr
    rw [zq_bind (zq_u1 h), hb]
    first | done | rfl
  rw [zq_dec e, zq_n1]
set_option maxRecDepth 8192 in
theorem zq_irem (hb : (code[pc]'h).toNat = 112) : decode code pc = .ok (.irem, 1) := by
  have e : Decoder.instr pc code pc = .ok (.irem, pc + 1) := by
    unfold Decoder.instr
    rw [zq_bind (zq_u1 h), hb]
    first | done | rfl
  rw [zq_dec e, zq_n1]
set_option maxRecDepth 8192 in
theorem zq_lrem (hb : (code[pc]'h).toNat = 113) : decode code pc = .ok (.lrem, 1) := by
  have e : Decoder.instr pc code pc = .ok (.lrem, pc + 1) := by
    unfold Decoder.instr
    rw [zq_bind (zq_u1 h), hb]
    first | done | rfl
  rw [zq_dec e, zq_n1]
set_option maxRecDepth 8192 in
theorem zq_ineg (hb : (code[pc]'h).toNat = 116) : decode code pc = .ok (.ineg, 1) := by
  have e : Decoder.instr pc code pc = .ok (.ineg, pc + 1) := by
    unfold Decoder.instr
    rw [zq_bind (zq_u1 h), hb]
    first | done | rfl
  rw [zq_dec e, zq_n1]
set_option maxRecDepth 8192 in
theorem zq_ishl (hb : (code[pc]'h).toNat = 120) : decode code pc = .ok (.ishl, 1) := by
  have e : Decoder.instr pc code pc = .ok (.ishl, pc + 1) := by
    unfold Decoder.instr
    rw [zq_bind (zq_u1 h), hb]
    first | done | rfl
  rw [zq_dec e, zq_n1]
set_option maxRecDepth 8192 in
theorem zq_lshl (hb : (code[pc]'h).toNat = 121) : decode code pc = .ok (.lshl, 1) := by
  have e : Decoder.instr pc code pc = .ok (.lshl, pc + 1) := by
    unfold Decoder.instr
    rw [zq_bind (zq_u1 h), hb]
    first | done | rfl
  rw [zq_dec e, zq_n1]
set_option maxRecDepth 8192 in
theorem zq_ishr (hb : (code[pc]'h).toNat = 122) : decode code pc = .ok (.ishr, 1) := by
  have e : Decoder.instr pc code pc = .ok (.ishr, pc + 1) := by
    unfold Decoder.instr
    rw [zq_bind (zq_u1 h), hb]
    first | done | rfl
  rw [zq_dec e, zq_n1]
set_option maxRecDepth 8192 in
theorem zq_lshr (hb : (code[pc]'h).toNat = 123) : decode code pc = .ok (.lshr, 1) := by
  have e : Decoder.instr pc code pc = .ok (.lshr, pc + 1) := by
    unfold Decoder.instr
    rw [zq_bind (zq_u1 h), hb]
    first | done | rfl
  rw [zq_dec e, zq_n1]
set_option maxRecDepth 8192 in
theorem zq_iushr (hb : (code[pc]'h).toNat = 124) : decode code pc = .ok (.iushr, 1) := by
  have e : Decoder.instr pc code pc = .ok (.iushr, pc + 1) := by
    unfold Decoder.instr
    rw [zq_bind (zq_u1 h), hb]
    first | done | rfl
  rw [zq_dec e, zq_n1]
set_option maxRecDepth 8192 in
theorem zq_iand (hb : (code[pc]'h).toNat = 126) : decode code pc = .ok (.iand, 1) := by
  have e : Decoder.instr pc code pc = .ok (.iand, pc + 1) := by
    unfold Decoder.instr
    rw [zq_bind (zq_u1 h), hb]
    first | done | rfl
  rw [zq_dec e, zq_n1]
set_option maxRecDepth 8192 in
theorem zq_land (hb : (code[pc]'h).toNat = 127) : decode code pc = .ok (.land, 1) := by
  have e : Decoder.instr pc code pc = .ok (.land, pc + 1) := by
    unfold Decoder.instr
    rw [zq_bind (zq_u1 h), hb]
    first | done | rfl
  rw [zq_dec e, zq_n1]
set_option maxRecDepth 8192 in
theorem zq_ior (hb : (code[pc]'h).toNat = 128) : decode code pc = .ok (.ior, 1) := by
  have e : Decoder.instr pc code pc = .ok (.ior, pc + 1) := by
    unfold Decoder.instr
    rw [zq_bind (zq_u1 h), hb]
    first | done | rfl
  rw [zq_dec e, zq_n1]
set_option maxRecDepth 8192 in
theorem zq_lor (hb : (code[pc]'h).toNat = 129) : decode code pc = .ok (.lor, 1) := by
  have e : Decoder.instr pc code pc = .ok (.lor, pc + 1) := by
    unfold Decoder.instr
    rw [zq_bind (zq_u1 h), hb]
    first | done | rfl
  rw [zq_dec e, zq_n1]
set_option maxRecDepth 8192 in
theorem zq_ixor (hb : (code[pc]'h).toNat = 130) : decode code pc = .ok (.ixor, 1) := by
  have e : Decoder.instr pc code pc = .ok (.ixor, pc + 1) := by
    unfold Decoder.instr
    rw [zq_bind (zq_u1 h), hb]
    first | done | rfl
  rw [zq_dec e, zq_n1]
set_option maxRecDepth 8192 in
theorem zq_lxor (hb : (code[pc]'h).toNat = 131) : decode code pc = .ok (.lxor, 1) := by
  have e : Decoder.instr pc code pc = .ok (.lxor, pc + 1) := by
    unfold Decoder.instr
    rw [zq_bind (zq_u1 h), hb]
    first | done | rfl
  rw [zq_dec e, zq_n1]
set_option maxRecDepth 8192 in
theorem zq_i2l (hb : (code[pc]'h).toNat = 133) : decode code pc = .ok (.i2l, 1) := by
  have e : Decoder.instr pc code pc = .ok (.i2l, pc + 1) := by
    unfold Decoder.instr
    rw [zq_bind (zq_u1 h), hb]
    first | done | rfl
  rw [zq_dec e, zq_n1]
set_option maxRecDepth 8192 in
theorem zq_l2i (hb : (code[pc]'h).toNat = 136) : decode code pc = .ok (.l2i, 1) := by
  have e : Decoder.instr pc code pc = .ok (.l2i, pc + 1) := by
    unfold Decoder.instr
    rw [zq_bind (zq_u1 h), hb]
    first | done | rfl
  rw [zq_dec e, zq_n1]
set_option maxRecDepth 8192 in
theorem zq_i2b (hb : (code[pc]'h).toNat = 145) : decode code pc = .ok (.i2b, 1) := by
  have e : Decoder.instr pc code pc = .ok (.i2b, pc + 1) := by
    unfold Decoder.instr
    rw [zq_bind (zq_u1 h), hb]
    first | done | rfl
  rw [zq_dec e, zq_n1]
set_option maxRecDepth 8192 in
theorem zq_lcmp (hb : (code[pc]'h).toNat = 148) : decode code pc = .ok (.lcmp, 1) := by
  have e : Decoder.instr pc code pc = .ok (.lcmp, pc + 1) := by
    unfold Decoder.instr
    rw [zq_bind (zq_u1 h), hb]
    first | done | rfl
  rw [zq_dec e, zq_n1]
set_option maxRecDepth 8192 in
theorem zq_ireturn (hb : (code[pc]'h).toNat = 172) : decode code pc = .ok (.ireturn, 1) := by
  have e : Decoder.instr pc code pc = .ok (.ireturn, pc + 1) := by
    unfold Decoder.instr
    rw [zq_bind (zq_u1 h), hb]
    first | done | rfl
  rw [zq_dec e, zq_n1]
set_option maxRecDepth 8192 in
theorem zq_lreturn (hb : (code[pc]'h).toNat = 173) : decode code pc = .ok (.lreturn, 1) := by
  have e : Decoder.instr pc code pc = .ok (.lreturn, pc + 1) := by
    unfold Decoder.instr
    rw [zq_bind (zq_u1 h), hb]
    first | done | rfl
  rw [zq_dec e, zq_n1]
set_option maxRecDepth 8192 in
theorem zq_areturn (hb : (code[pc]'h).toNat = 176) : decode code pc = .ok (.areturn, 1) := by
  have e : Decoder.instr pc code pc = .ok (.areturn, pc + 1) := by
    unfold Decoder.instr
    rw [zq_bind (zq_u1 h), hb]
    first | done | rfl
  rw [zq_dec e, zq_n1]
set_option maxRecDepth 8192 in
theorem zq_return_ (hb : (code[pc]'h).toNat = 177) : decode code pc = .ok (.return_, 1) := by
  have e : Decoder.instr pc code pc = .ok (.return_, pc + 1) := by
    unfold Decoder.instr
    rw [zq_bind (zq_u1 h), hb]
    first | done | rfl
  rw [zq_dec e, zq_n1]
set_option maxRecDepth 8192 in
theorem zq_arraylength (hb : (code[pc]'h).toNat = 190) : decode code pc = .ok (.arraylength, 1) := by
  have e : Decoder.instr pc code pc = .ok (.arraylength, pc + 1) := by
    unfold Decoder.instr
    rw [zq_bind (zq_u1 h), hb]
    first | done | rfl
  rw [zq_dec e, zq_n1]
set_option maxRecDepth 8192 in
theorem zq_athrow (hb : (code[pc]'h).toNat = 191) : decode code pc = .ok (.athrow, 1) := by
  have e : Decoder.instr pc code pc = .ok (.athrow, pc + 1) := by
    unfold Decoder.instr
    rw [zq_bind (zq_u1 h), hb]
    first | done | rfl
  rw [zq_dec e, zq_n1]
set_option maxRecDepth 8192 in
theorem zq_aconst_null (hb : (code[pc]'h).toNat = 1) : decode code pc = .ok (.aconst_null, 1) := by
  have e : Decoder.instr pc code pc = .ok (.aconst_null, pc + 1) := by
    unfold Decoder.instr
    rw [zq_bind (zq_u1 h), hb]
    first | done | rfl
  rw [zq_dec e, zq_n1]
set_option maxRecDepth 8192 in
theorem zq_iload_n0 (hb : (code[pc]'h).toNat = 26) : decode code pc = .ok (.iload_n 0, 1) := by
  have e : Decoder.instr pc code pc = .ok (.iload_n 0, pc + 1) := by
    unfold Decoder.instr
    rw [zq_bind (zq_u1 h), hb]
    first | done | rfl
  rw [zq_dec e, zq_n1]
set_option maxRecDepth 8192 in
theorem zq_iload_n1 (hb : (code[pc]'h).toNat = 27) : decode code pc = .ok (.iload_n 1, 1) := by
  have e : Decoder.instr pc code pc = .ok (.iload_n 1, pc + 1) := by
    unfold Decoder.instr
    rw [zq_bind (zq_u1 h), hb]
    first | done | rfl
  rw [zq_dec e, zq_n1]
set_option maxRecDepth 8192 in
theorem zq_iload_n2 (hb : (code[pc]'h).toNat = 28) : decode code pc = .ok (.iload_n 2, 1) := by
  have e : Decoder.instr pc code pc = .ok (.iload_n 2, pc + 1) := by
    unfold Decoder.instr
    rw [zq_bind (zq_u1 h), hb]
    first | done | rfl
  rw [zq_dec e, zq_n1]
set_option maxRecDepth 8192 in
theorem zq_iload_n3 (hb : (code[pc]'h).toNat = 29) : decode code pc = .ok (.iload_n 3, 1) := by
  have e : Decoder.instr pc code pc = .ok (.iload_n 3, pc + 1) := by
    unfold Decoder.instr
    rw [zq_bind (zq_u1 h), hb]
    first | done | rfl
  rw [zq_dec e, zq_n1]
set_option maxRecDepth 8192 in
theorem zq_lload_n0 (hb : (code[pc]'h).toNat = 30) : decode code pc = .ok (.lload_n 0, 1) := by
  have e : Decoder.instr pc code pc = .ok (.lload_n 0, pc + 1) := by
    unfold Decoder.instr
    rw [zq_bind (zq_u1 h), hb]
    first | done | rfl
  rw [zq_dec e, zq_n1]
set_option maxRecDepth 8192 in
theorem zq_lload_n1 (hb : (code[pc]'h).toNat = 31) : decode code pc = .ok (.lload_n 1, 1) := by
  have e : Decoder.instr pc code pc = .ok (.lload_n 1, pc + 1) := by
    unfold Decoder.instr
    rw [zq_bind (zq_u1 h), hb]
    first | done | rfl
  rw [zq_dec e, zq_n1]
set_option maxRecDepth 8192 in
theorem zq_lload_n2 (hb : (code[pc]'h).toNat = 32) : decode code pc = .ok (.lload_n 2, 1) := by
  have e : Decoder.instr pc code pc = .ok (.lload_n 2, pc + 1) := by
    unfold Decoder.instr
    rw [zq_bind (zq_u1 h), hb]
    first | done | rfl
  rw [zq_dec e, zq_n1]
set_option maxRecDepth 8192 in
theorem zq_lload_n3 (hb : (code[pc]'h).toNat = 33) : decode code pc = .ok (.lload_n 3, 1) := by
  have e : Decoder.instr pc code pc = .ok (.lload_n 3, pc + 1) := by
    unfold Decoder.instr
    rw [zq_bind (zq_u1 h), hb]
    first | done | rfl
  rw [zq_dec e, zq_n1]
set_option maxRecDepth 8192 in
theorem zq_aload_n0 (hb : (code[pc]'h).toNat = 42) : decode code pc = .ok (.aload_n 0, 1) := by
  have e : Decoder.instr pc code pc = .ok (.aload_n 0, pc + 1) := by
    unfold Decoder.instr
    rw [zq_bind (zq_u1 h), hb]
    first | done | rfl
  rw [zq_dec e, zq_n1]
set_option maxRecDepth 8192 in
theorem zq_aload_n1 (hb : (code[pc]'h).toNat = 43) : decode code pc = .ok (.aload_n 1, 1) := by
  have e : Decoder.instr pc code pc = .ok (.aload_n 1, pc + 1) := by
    unfold Decoder.instr
    rw [zq_bind (zq_u1 h), hb]
    first | done | rfl
  rw [zq_dec e, zq_n1]
set_option maxRecDepth 8192 in
theorem zq_aload_n2 (hb : (code[pc]'h).toNat = 44) : decode code pc = .ok (.aload_n 2, 1) := by
  have e : Decoder.instr pc code pc = .ok (.aload_n 2, pc + 1) := by
    unfold Decoder.instr
    rw [zq_bind (zq_u1 h), hb]
    first | done | rfl
  rw [zq_dec e, zq_n1]
set_option maxRecDepth 8192 in
theorem zq_aload_n3 (hb : (code[pc]'h).toNat = 45) : decode code pc = .ok (.aload_n 3, 1) := by
  have e : Decoder.instr pc code pc = .ok (.aload_n 3, pc + 1) := by
    unfold Decoder.instr
    rw [zq_bind (zq_u1 h), hb]
    first | done | rfl
  rw [zq_dec e, zq_n1]
set_option maxRecDepth 8192 in
theorem zq_istore_n0 (hb : (code[pc]'h).toNat = 59) : decode code pc = .ok (.istore_n 0, 1) := by
  have e : Decoder.instr pc code pc = .ok (.istore_n 0, pc + 1) := by
    unfold Decoder.instr
    rw [zq_bind (zq_u1 h), hb]
    first | done | rfl
  rw [zq_dec e, zq_n1]
set_option maxRecDepth 8192 in
theorem zq_istore_n1 (hb : (code[pc]'h).toNat = 60) : decode code pc = .ok (.istore_n 1, 1) := by
  have e : Decoder.instr pc code pc = .ok (.istore_n 1, pc + 1) := by
    unfold Decoder.instr
    rw [zq_bind (zq_u1 h), hb]
    first | done | rfl
  rw [zq_dec e, zq_n1]
set_option maxRecDepth 8192 in
theorem zq_istore_n2 (hb : (code[pc]'h).toNat = 61) : decode code pc = .ok (.istore_n 2, 1) := by
  have e : Decoder.instr pc code pc = .ok (.istore_n 2, pc + 1) := by
    unfold Decoder.instr
    rw [zq_bind (zq_u1 h), hb]
    first | done | rfl
  rw [zq_dec e, zq_n1]
set_option maxRecDepth 8192 in
theorem zq_istore_n3 (hb : (code[pc]'h).toNat = 62) : decode code pc = .ok (.istore_n 3, 1) := by
  have e : Decoder.instr pc code pc = .ok (.istore_n 3, pc + 1) := by
    unfold Decoder.instr
    rw [zq_bind (zq_u1 h), hb]
    first | done | rfl
  rw [zq_dec e, zq_n1]
set_option maxRecDepth 8192 in
theorem zq_lstore_n0 (hb : (code[pc]'h).toNat = 63) : decode code pc = .ok (.lstore_n 0, 1) := by
  have e : Decoder.instr pc code pc = .ok (.lstore_n 0, pc + 1) := by
    unfold Decoder.instr
    rw [zq_bind (zq_u1 h), hb]
    first | done | rfl
  rw [zq_dec e, zq_n1]
set_option maxRecDepth 8192 in
theorem zq_lstore_n1 (hb : (code[pc]'h).toNat = 64) : decode code pc = .ok (.lstore_n 1, 1) := by
  have e : Decoder.instr pc code pc = .ok (.lstore_n 1, pc + 1) := by
    unfold Decoder.instr
    rw [zq_bind (zq_u1 h), hb]
    first | done | rfl
  rw [zq_dec e, zq_n1]
set_option maxRecDepth 8192 in
theorem zq_lstore_n2 (hb : (code[pc]'h).toNat = 65) : decode code pc = .ok (.lstore_n 2, 1) := by
  have e : Decoder.instr pc code pc = .ok (.lstore_n 2, pc + 1) := by
    unfold Decoder.instr
    rw [zq_bind (zq_u1 h), hb]
    first | done | rfl
  rw [zq_dec e, zq_n1]
set_option maxRecDepth 8192 in
theorem zq_lstore_n3 (hb : (code[pc]'h).toNat = 66) : decode code pc = .ok (.lstore_n 3, 1) := by
  have e : Decoder.instr pc code pc = .ok (.lstore_n 3, pc + 1) := by
    unfold Decoder.instr
    rw [zq_bind (zq_u1 h), hb]
    first | done | rfl
  rw [zq_dec e, zq_n1]
set_option maxRecDepth 8192 in
theorem zq_astore_n0 (hb : (code[pc]'h).toNat = 75) : decode code pc = .ok (.astore_n 0, 1) := by
  have e : Decoder.instr pc code pc = .ok (.astore_n 0, pc + 1) := by
    unfold Decoder.instr
    rw [zq_bind (zq_u1 h), hb]
    first | done | rfl
  rw [zq_dec e, zq_n1]
set_option maxRecDepth 8192 in
theorem zq_astore_n1 (hb : (code[pc]'h).toNat = 76) : decode code pc = .ok (.astore_n 1, 1) := by
  have e : Decoder.instr pc code pc = .ok (.astore_n 1, pc + 1) := by
    unfold Decoder.instr
    rw [zq_bind (zq_u1 h), hb]
    first | done | rfl
  rw [zq_dec e, zq_n1]
set_option maxRecDepth 8192 in
theorem zq_astore_n2 (hb : (code[pc]'h).toNat = 77) : decode code pc = .ok (.astore_n 2, 1) := by
  have e : Decoder.instr pc code pc = .ok (.astore_n 2, pc + 1) := by
    unfold Decoder.instr
    rw [zq_bind (zq_u1 h), hb]
    first | done | rfl
  rw [zq_dec e, zq_n1]
set_option maxRecDepth 8192 in
theorem zq_astore_n3 (hb : (code[pc]'h).toNat = 78) : decode code pc = .ok (.astore_n 3, 1) := by
  have e : Decoder.instr pc code pc = .ok (.astore_n 3, pc + 1) := by
    unfold Decoder.instr
    rw [zq_bind (zq_u1 h), hb]
    first | done | rfl
  rw [zq_dec e, zq_n1]
set_option maxRecDepth 8192 in
theorem zq_iconstm1 (hb : (code[pc]'h).toNat = 2) : decode code pc = .ok (.iconst (-1), 1) := by
  have e : Decoder.instr pc code pc = .ok (.iconst (-1), pc + 1) := by
    unfold Decoder.instr
    rw [zq_bind (zq_u1 h), hb]
    first | done | rfl
  rw [zq_dec e, zq_n1]
set_option maxRecDepth 8192 in
theorem zq_iconst0 (hb : (code[pc]'h).toNat = 3) : decode code pc = .ok (.iconst (0), 1) := by
  have e : Decoder.instr pc code pc = .ok (.iconst (0), pc + 1) := by
    unfold Decoder.instr
    rw [zq_bind (zq_u1 h), hb]
    first | done | rfl
  rw [zq_dec e, zq_n1]
set_option maxRecDepth 8192 in
theorem zq_iconst1 (hb : (code[pc]'h).toNat = 4) : decode code pc = .ok (.iconst (1), 1) := by
  have e : Decoder.instr pc code pc = .ok (.iconst (1), pc + 1) := by
    unfold Decoder.instr
    rw [zq_bind (zq_u1 h), hb]
    first | done | rfl
  rw [zq_dec e, zq_n1]
set_option maxRecDepth 8192 in
theorem zq_iconst2 (hb : (code[pc]'h).toNat = 5) : decode code pc = .ok (.iconst (2), 1) := by
  have e : Decoder.instr pc code pc = .ok (.iconst (2), pc + 1) := by
    unfold Decoder.instr
    rw [zq_bind (zq_u1 h), hb]
    first | done | rfl
  rw [zq_dec e, zq_n1]
set_option maxRecDepth 8192 in
theorem zq_iconst3 (hb : (code[pc]'h).toNat = 6) : decode code pc = .ok (.iconst (3), 1) := by
  have e : Decoder.instr pc code pc = .ok (.iconst (3), pc + 1) := by
    unfold Decoder.instr
    rw [zq_bind (zq_u1 h), hb]
    first | done | rfl
  rw [zq_dec e, zq_n1]
set_option maxRecDepth 8192 in
theorem zq_iconst4 (hb : (code[pc]'h).toNat = 7) : decode code pc = .ok (.iconst (4), 1) := by
  have e : Decoder.instr pc code pc = .ok (.iconst (4), pc + 1) := by
    unfold Decoder.instr
    rw [zq_bind (zq_u1 h), hb]
    first | done | rfl
  rw [zq_dec e, zq_n1]
set_option maxRecDepth 8192 in
theorem zq_iconst5 (hb : (code[pc]'h).toNat = 8) : decode code pc = .ok (.iconst (5), 1) := by
  have e : Decoder.instr pc code pc = .ok (.iconst (5), pc + 1) := by
    unfold Decoder.instr
    rw [zq_bind (zq_u1 h), hb]
    first | done | rfl
  rw [zq_dec e, zq_n1]
set_option maxRecDepth 8192 in
theorem zq_lconst0 (hb : (code[pc]'h).toNat = 9) : decode code pc = .ok (.lconst 0, 1) := by
  have e : Decoder.instr pc code pc = .ok (.lconst 0, pc + 1) := by
    unfold Decoder.instr
    rw [zq_bind (zq_u1 h), hb]
    first | done | rfl
  rw [zq_dec e, zq_n1]
set_option maxRecDepth 8192 in
theorem zq_lconst1 (hb : (code[pc]'h).toNat = 10) : decode code pc = .ok (.lconst 1, 1) := by
  have e : Decoder.instr pc code pc = .ok (.lconst 1, pc + 1) := by
    unfold Decoder.instr
    rw [zq_bind (zq_u1 h), hb]
    first | done | rfl
  rw [zq_dec e, zq_n1]
set_option maxRecDepth 8192 in
theorem zq_ldc (h1 : pc + 1 < code.size) (hb : (code[pc]'h).toNat = 18) : decode code pc = .ok (.ldc (code[pc + 1]'h1).toNat, 2) := by
  have e : Decoder.instr pc code pc = .ok (.ldc (code[pc + 1]'h1).toNat, pc + 1 + 1) := by
    unfold Decoder.instr
    rw [zq_bind (zq_u1 h), hb]
    show ((Reader.u1 : Decoder Nat) >>= fun k => (pure (.ldc k) : Decoder Instr)) code (pc + 1) = _
    rw [zq_bind (zq_u1 h1)]
    first | done | rfl
  rw [zq_dec e, zq_n2]
set_option maxRecDepth 8192 in
theorem zq_iload (h1 : pc + 1 < code.size) (hb : (code[pc]'h).toNat = 21) : decode code pc = .ok (.iload (code[pc + 1]'h1).toNat, 2) := by
  have e : Decoder.instr pc code pc = .ok (.iload (code[pc + 1]'h1).toNat, pc + 1 + 1) := by
    unfold Decoder.instr
    rw [zq_bind (zq_u1 h), hb]
    show ((Reader.u1 : Decoder Nat) >>= fun k => (pure (.iload k) : Decoder Instr)) code (pc + 1) = _
    rw [zq_bind (zq_u1 h1)]
    first | done | rfl
  rw [zq_dec e, zq_n2]
set_option maxRecDepth 8192 in
theorem zq_lload (h1 : pc + 1 < code.size) (hb : (code[pc]'h).toNat = 22) : decode code pc = .ok (.lload (code[pc + 1]'h1).toNat, 2) := by
  have e : Decoder.instr pc code pc = .ok (.lload (code[pc + 1]'h1).toNat, pc + 1 + 1) := by
    unfold Decoder.instr
    rw [zq_bind (zq_u1 h), hb]
    show ((Reader.u1 : Decoder Nat) >>= fun k => (pure (.lload k) : Decoder Instr)) code (pc + 1) = _
    rw [zq_bind (zq_u1 h1)]
    first | done | rfl
  rw [zq_dec e, zq_n2]
set_option maxRecDepth 8192 in
theorem zq_aload (h1 : pc + 1 < code.size) (hb : (code[pc]'h).toNat = 25) : decode code pc = .ok (.aload (code[pc + 1]'h1).toNat, 2) := by
  have e : Decoder.instr pc code pc = .ok (.aload (code[pc + 1]'h1).toNat, pc + 1 + 1) := by
    unfold Decoder.instr
    rw [zq_bind (zq_u1 h), hb]
    show ((Reader.u1 : Decoder Nat) >>= fun k => (pure (.aload k) : Decoder Instr)) code (pc + 1) = _
    rw [zq_bind (zq_u1 h1)]
    first | done | rfl
  rw [zq_dec e, zq_n2]
set_option maxRecDepth 8192 in
theorem zq_istore (h1 : pc + 1 < code.size) (hb : (code[pc]'h).toNat = 54) : decode code pc = .ok (.istore (code[pc + 1]'h1).toNat, 2) := by
  have e : Decoder.instr pc code pc = .ok (.istore (code[pc + 1]'h1).toNat, pc + 1 + 1) := by
    unfold Decoder.instr
    rw [zq_bind (zq_u1 h), hb]
    show ((Reader.u1 : Decoder Nat) >>= fun k => (pure (.istore k) : Decoder Instr)) code (pc + 1) = _
    rw [zq_bind (zq_u1 h1)]
    first | done | rfl
  rw [zq_dec e, zq_n2]
set_option maxRecDepth 8192 in
theorem zq_lstore (h1 : pc + 1 < code.size) (hb : (code[pc]'h).toNat = 55) : decode code pc = .ok (.lstore (code[pc + 1]'h1).toNat, 2) := by
  have e : Decoder.instr pc code pc = .ok (.lstore (code[pc + 1]'h1).toNat, pc + 1 + 1) := by
    unfold Decoder.instr
    rw [zq_bind (zq_u1 h), hb]
    show ((Reader.u1 : Decoder Nat) >>= fun k => (pure (.lstore k) : Decoder Instr)) code (pc + 1) = _
    rw [zq_bind (zq_u1 h1)]
    first | done | rfl
  rw [zq_dec e, zq_n2]
set_option maxRecDepth 8192 in
theorem zq_astore (h1 : pc + 1 < code.size) (hb : (code[pc]'h).toNat = 58) : decode code pc = .ok (.astore (code[pc + 1]'h1).toNat, 2) := by
  have e : Decoder.instr pc code pc = .ok (.astore (code[pc + 1]'h1).toNat, pc + 1 + 1) := by
    unfold Decoder.instr
    rw [zq_bind (zq_u1 h), hb]
    show ((Reader.u1 : Decoder Nat) >>= fun k => (pure (.astore k) : Decoder Instr)) code (pc + 1) = _
    rw [zq_bind (zq_u1 h1)]
    first | done | rfl
  rw [zq_dec e, zq_n2]
set_option maxRecDepth 8192 in
theorem zq_ldc_w (h1 : pc + 1 < code.size) (h2 : pc + 1 + 1 < code.size) (hb : (code[pc]'h).toNat = 19) : decode code pc = .ok (.ldc_w ((code[pc + 1]'h1).toNat * 256 + (code[pc + 1 + 1]'h2).toNat), 3) := by
  have e : Decoder.instr pc code pc = .ok (.ldc_w ((code[pc + 1]'h1).toNat * 256 + (code[pc + 1 + 1]'h2).toNat), pc + 1 + 1 + 1) := by
    unfold Decoder.instr
    rw [zq_bind (zq_u1 h), hb]
    show ((Reader.u2 : Decoder Nat) >>= fun k => (pure (.ldc_w k) : Decoder Instr)) code (pc + 1) = _
    rw [zq_bind (zq_u2 h1 h2)]
    first | done | rfl
  rw [zq_dec e, zq_n3]
set_option maxRecDepth 8192 in
theorem zq_ldc2_w (h1 : pc + 1 < code.size) (h2 : pc + 1 + 1 < code.size) (hb : (code[pc]'h).toNat = 20) : decode code pc = .ok (.ldc2_w ((code[pc + 1]'h1).toNat * 256 + (code[pc + 1 + 1]'h2).toNat), 3) := by
  have e : Decoder.instr pc code pc = .ok (.ldc2_w ((code[pc + 1]'h1).toNat * 256 + (code[pc + 1 + 1]'h2).toNat), pc + 1 + 1 + 1) := by
    unfold Decoder.instr
    rw [zq_bind (zq_u1 h), hb]
    show ((Reader.u2 : Decoder Nat) >>= fun k => (pure (.ldc2_w k) : Decoder Instr)) code (pc + 1) = _
    rw [zq_bind (zq_u2 h1 h2)]
    first | done | rfl
  rw [zq_dec e, zq_n3]
set_option maxRecDepth 8192 in
theorem zq_getfield (h1 : pc + 1 < code.size) (h2 : pc + 1 + 1 < code.size) (hb : (code[pc]'h).toNat = 180) : decode code pc = .ok (.getfield ((code[pc + 1]'h1).toNat * 256 + (code[pc + 1 + 1]'h2).toNat), 3) := by
  have e : Decoder.instr pc code pc = .ok (.getfield ((code[pc + 1]'h1).toNat * 256 + (code[pc + 1 + 1]'h2).toNat), pc + 1 + 1 + 1) := by
    unfold Decoder.instr
    rw [zq_bind (zq_u1 h), hb]
    show ((Reader.u2 : Decoder Nat) >>= fun k => (pure (.getfield k) : Decoder Instr)) code (pc + 1) = _
    rw [zq_bind (zq_u2 h1 h2)]
    first | done | rfl
  rw [zq_dec e, zq_n3]
set_option maxRecDepth 8192 in
theorem zq_putfield (h1 : pc + 1 < code.size) (h2 : pc + 1 + 1 < code.size) (hb : (code[pc]'h).toNat = 181) : decode code pc = .ok (.putfield ((code[pc + 1]'h1).toNat * 256 + (code[pc + 1 + 1]'h2).toNat), 3) := by
  have e : Decoder.instr pc code pc = .ok (.putfield ((code[pc + 1]'h1).toNat * 256 + (code[pc + 1 + 1]'h2).toNat), pc + 1 + 1 + 1) := by
    unfold Decoder.instr
    rw [zq_bind (zq_u1 h), hb]
    show ((Reader.u2 : Decoder Nat) >>= fun k => (pure (.putfield k) : Decoder Instr)) code (pc + 1) = _
    rw [zq_bind (zq_u2 h1 h2)]
    first | done | rfl
  rw [zq_dec e, zq_n3]
set_option maxRecDepth 8192 in
theorem zq_invokevirtual (h1 : pc + 1 < code.size) (h2 : pc + 1 + 1 < code.size) (hb : (code[pc]'h).toNat = 182) : decode code pc = .ok (.invokevirtual ((code[pc + 1]'h1).toNat * 256 + (code[pc + 1 + 1]'h2).toNat), 3) := by
  have e : Decoder.instr pc code pc = .ok (.invokevirtual ((code[pc + 1]'h1).toNat * 256 + (code[pc + 1 + 1]'h2).toNat), pc + 1 + 1 + 1) := by
    unfold Decoder.instr
    rw [zq_bind (zq_u1 h), hb]
    show ((Reader.u2 : Decoder Nat) >>= fun k => (pure (.invokevirtual k) : Decoder Instr)) code (pc + 1) = _
    rw [zq_bind (zq_u2 h1 h2)]
    first | done | rfl
  rw [zq_dec e, zq_n3]
set_option maxRecDepth 8192 in
theorem zq_invokespecial (h1 : pc + 1 < code.size) (h2 : pc + 1 + 1 < code.size) (hb : (code[pc]'h).toNat = 183) : decode code pc = .ok (.invokespecial ((code[pc + 1]'h1).toNat * 256 + (code[pc + 1 + 1]'h2).toNat), 3) := by
  have e : Decoder.instr pc code pc = .ok (.invokespecial ((code[pc + 1]'h1).toNat * 256 + (code[pc + 1 + 1]'h2).toNat), pc + 1 + 1 + 1) := by
    unfold Decoder.instr
    rw [zq_bind (zq_u1 h), hb]
    show ((Reader.u2 : Decoder Nat) >>= fun k => (pure (.invokespecial k) : Decoder Instr)) code (pc + 1) = _
    rw [zq_bind (zq_u2 h1 h2)]
    first | done | rfl
  rw [zq_dec e, zq_n3]
set_option maxRecDepth 8192 in
theorem zq_invokestatic (h1 : pc + 1 < code.size) (h2 : pc + 1 + 1 < code.size) (hb : (code[pc]'h).toNat = 184) : decode code pc = .ok (.invokestatic ((code[pc + 1]'h1).toNat * 256 + (code[pc + 1 + 1]'h2).toNat), 3) := by
  have e : Decoder.instr pc code pc = .ok (.invokestatic ((code[pc + 1]'h1).toNat * 256 + (code[pc + 1 + 1]'h2).toNat), pc + 1 + 1 + 1) := by
    unfold Decoder.instr
    rw [zq_bind (zq_u1 h), hb]
    show ((Reader.u2 : Decoder Nat) >>= fun k => (pure (.invokestatic k) : Decoder Instr)) code (pc + 1) = _
    rw [zq_bind (zq_u2 h1 h2)]
    first | done | rfl
  rw [zq_dec e, zq_n3]
set_option maxRecDepth 8192 in
theorem zq_new (h1 : pc + 1 < code.size) (h2 : pc + 1 + 1 < code.size) (hb : (code[pc]'h).toNat = 187) : decode code pc = .ok (.new ((code[pc + 1]'h1).toNat * 256 + (code[pc + 1 + 1]'h2).toNat), 3) := by
  have e : Decoder.instr pc code pc = .ok (.new ((code[pc + 1]'h1).toNat * 256 + (code[pc + 1 + 1]'h2).toNat), pc + 1 + 1 + 1) := by
    unfold Decoder.instr
    rw [zq_bind (zq_u1 h), hb]
    show ((Reader.u2 : Decoder Nat) >>= fun k => (pure (.new k) : Decoder Instr)) code (pc + 1) = _
    rw [zq_bind (zq_u2 h1 h2)]
    first | done | rfl
  rw [zq_dec e, zq_n3]
set_option maxRecDepth 8192 in
theorem zq_anewarray (h1 : pc + 1 < code.size) (h2 : pc + 1 + 1 < code.size) (hb : (code[pc]'h).toNat = 189) : decode code pc = .ok (.anewarray ((code[pc + 1]'h1).toNat * 256 + (code[pc + 1 + 1]'h2).toNat), 3) := by
  have e : Decoder.instr pc code pc = .ok (.anewarray ((code[pc + 1]'h1).toNat * 256 + (code[pc + 1 + 1]'h2).toNat), pc + 1 + 1 + 1) := by
    unfold Decoder.instr
    rw [zq_bind (zq_u1 h), hb]
    show ((Reader.u2 : Decoder Nat) >>= fun k => (pure (.anewarray k) : Decoder Instr)) code (pc + 1) = _
    rw [zq_bind (zq_u2 h1 h2)]
    first | done | rfl
  rw [zq_dec e, zq_n3]
set_option maxRecDepth 8192 in
theorem zq_ifnull (h1 : pc + 1 < code.size) (h2 : pc + 1 + 1 < code.size) (hb : (code[pc]'h).toNat = 198) : decode code pc = .ok (.ifnull (Reader.signed 16 ((code[pc + 1]'h1).toNat * 256 + (code[pc + 1 + 1]'h2).toNat)), 3) := by
  have e : Decoder.instr pc code pc = .ok (.ifnull (Reader.signed 16 ((code[pc + 1]'h1).toNat * 256 + (code[pc + 1 + 1]'h2).toNat)), pc + 1 + 1 + 1) := by
    unfold Decoder.instr
    rw [zq_bind (zq_u1 h), hb]
    show ((Reader.s2 : Decoder Int) >>= fun k => (pure (.ifnull k) : Decoder Instr)) code (pc + 1) = _
    rw [zq_bind (zq_s2 h1 h2)]
    first | done | rfl
  rw [zq_dec e, zq_n3]
set_option maxRecDepth 8192 in
theorem zq_ifnonnull (h1 : pc + 1 < code.size) (h2 : pc + 1 + 1 < code.size) (hb : (code[pc]'h).toNat = 199) : decode code pc = .ok (.ifnonnull (Reader.signed 16 ((code[pc + 1]'h1).toNat * 256 + (code[pc + 1 + 1]'h2).toNat)), 3) := by
  have e : Decoder.instr pc code pc = .ok (.ifnonnull (Reader.signed 16 ((code[pc + 1]'h1).toNat * 256 + (code[pc + 1 + 1]'h2).toNat)), pc + 1 + 1 + 1) := by
    unfold Decoder.instr
    rw [zq_bind (zq_u1 h), hb]
    show ((Reader.s2 : Decoder Int) >>= fun k => (pure (.ifnonnull k) : Decoder Instr)) code (pc + 1) = _
    rw [zq_bind (zq_s2 h1 h2)]
    first | done | rfl
  rw [zq_dec e, zq_n3]
set_option maxRecDepth 8192 in
theorem zq_goto (h1 : pc + 1 < code.size) (h2 : pc + 1 + 1 < code.size) (hb : (code[pc]'h).toNat = 167) : decode code pc = .ok (.goto (Reader.signed 16 ((code[pc + 1]'h1).toNat * 256 + (code[pc + 1 + 1]'h2).toNat)), 3) := by
  have e : Decoder.instr pc code pc = .ok (.goto (Reader.signed 16 ((code[pc + 1]'h1).toNat * 256 + (code[pc + 1 + 1]'h2).toNat)), pc + 1 + 1 + 1) := by
    unfold Decoder.instr
    rw [zq_bind (zq_u1 h), hb]
    show ((Reader.s2 : Decoder Int) >>= fun k => (pure (.goto k) : Decoder Instr)) code (pc + 1) = _
    rw [zq_bind (zq_s2 h1 h2)]
    first | done | rfl
  rw [zq_dec e, zq_n3]
set_option maxRecDepth 8192 in
theorem zq_sipush (h1 : pc + 1 < code.size) (h2 : pc + 1 + 1 < code.size) (hb : (code[pc]'h).toNat = 17) : decode code pc = .ok (.sipush (Reader.signed 16 ((code[pc + 1]'h1).toNat * 256 + (code[pc + 1 + 1]'h2).toNat)), 3) := by
  have e : Decoder.instr pc code pc = .ok (.sipush (Reader.signed 16 ((code[pc + 1]'h1).toNat * 256 + (code[pc + 1 + 1]'h2).toNat)), pc + 1 + 1 + 1) := by
    unfold Decoder.instr
    rw [zq_bind (zq_u1 h), hb]
    show ((Reader.s2 : Decoder Int) >>= fun k => (pure (.sipush k) : Decoder Instr)) code (pc + 1) = _
    rw [zq_bind (zq_s2 h1 h2)]
    first | done | rfl
  rw [zq_dec e, zq_n3]
set_option maxRecDepth 8192 in
theorem zq_bipush (h1 : pc + 1 < code.size) (hb : (code[pc]'h).toNat = 16) : decode code pc = .ok (.bipush (Reader.signed 8 (code[pc + 1]'h1).toNat), 2) := by
  have e : Decoder.instr pc code pc = .ok (.bipush (Reader.signed 8 (code[pc + 1]'h1).toNat), pc + 1 + 1) := by
    unfold Decoder.instr
    rw [zq_bind (zq_u1 h), hb]
    show ((Reader.s1 : Decoder Int) >>= fun k => (pure (.bipush k) : Decoder Instr)) code (pc + 1) = _
    rw [zq_bind (zq_s1 h1)]
    first | done | rfl
  rw [zq_dec e, zq_n2]
set_option maxRecDepth 8192 in
theorem zq_if_eq (h1 : pc + 1 < code.size) (h2 : pc + 1 + 1 < code.size) (hb : (code[pc]'h).toNat = 153) : decode code pc = .ok (.ifCond .eq (Reader.signed 16 ((code[pc + 1]'h1).toNat * 256 + (code[pc + 1 + 1]'h2).toNat)), 3) := by
  have e : Decoder.instr pc code pc = .ok (.ifCond .eq (Reader.signed 16 ((code[pc + 1]'h1).toNat * 256 + (code[pc + 1 + 1]'h2).toNat)), pc + 1 + 1 + 1) := by
    unfold Decoder.instr
    rw [zq_bind (zq_u1 h), hb]
    show ((Reader.s2 : Decoder Int) >>= fun k => (pure (.ifCond .eq k) : Decoder Instr)) code (pc + 1) = _
    rw [zq_bind (zq_s2 h1 h2)]
    first | done | rfl
  rw [zq_dec e, zq_n3]
set_option maxRecDepth 8192 in
theorem zq_icmp_eq (h1 : pc + 1 < code.size) (h2 : pc + 1 + 1 < code.size) (hb : (code[pc]'h).toNat = 159) : decode code pc = .ok (.if_icmp .eq (Reader.signed 16 ((code[pc + 1]'h1).toNat * 256 + (code[pc + 1 + 1]'h2).toNat)), 3) := by
  have e : Decoder.instr pc code pc = .ok (.if_icmp .eq (Reader.signed 16 ((code[pc + 1]'h1).toNat * 256 + (code[pc + 1 + 1]'h2).toNat)), pc + 1 + 1 + 1) := by
    unfold Decoder.instr
    rw [zq_bind (zq_u1 h), hb]
    show ((Reader.s2 : Decoder Int) >>= fun k => (pure (.if_icmp .eq k) : Decoder Instr)) code (pc + 1) = _
    rw [zq_bind (zq_s2 h1 h2)]
    first | done | rfl
  rw [zq_dec e, zq_n3]
set_option maxRecDepth 8192 in
theorem zq_if_ne (h1 : pc + 1 < code.size) (h2 : pc + 1 + 1 < code.size) (hb : (code[pc]'h).toNat = 154) : decode code pc = .ok (.ifCond .ne (Reader.signed 16 ((code[pc + 1]'h1).toNat * 256 + (code[pc + 1 + 1]'h2).toNat)), 3) := by
  have e : Decoder.instr pc code pc = .ok (.ifCond .ne (Reader.signed 16 ((code[pc + 1]'h1).toNat * 256 + (code[pc + 1 + 1]'h2).toNat)), pc + 1 + 1 + 1) := by
    unfold Decoder.instr
    rw [zq_bind (zq_u1 h), hb]
    show ((Reader.s2 : Decoder Int) >>= fun k => (pure (.ifCond .ne k) : Decoder Instr)) code (pc + 1) = _
    rw [zq_bind (zq_s2 h1 h2)]
    first | done | rfl
  rw [zq_dec e, zq_n3]
set_option maxRecDepth 8192 in
theorem zq_icmp_ne (h1 : pc + 1 < code.size) (h2 : pc + 1 + 1 < code.size) (hb : (code[pc]'h).toNat = 160) : decode code pc = .ok (.if_icmp .ne (Reader.signed 16 ((code[pc + 1]'h1).toNat * 256 + (code[pc + 1 + 1]'h2).toNat)), 3) := by
  have e : Decoder.instr pc code pc = .ok (.if_icmp .ne (Reader.signed 16 ((code[pc + 1]'h1).toNat * 256 + (code[pc + 1 + 1]'h2).toNat)), pc + 1 + 1 + 1) := by
    unfold Decoder.instr
    rw [zq_bind (zq_u1 h), hb]
    show ((Reader.s2 : Decoder Int) >>= fun k => (pure (.if_icmp .ne k) : Decoder Instr)) code (pc + 1) = _
    rw [zq_bind (zq_s2 h1 h2)]
    first | done | rfl
  rw [zq_dec e, zq_n3]
set_option maxRecDepth 8192 in
theorem zq_if_lt (h1 : pc + 1 < code.size) (h2 : pc + 1 + 1 < code.size) (hb : (code[pc]'h).toNat = 155) : decode code pc = .ok (.ifCond .lt (Reader.signed 16 ((code[pc + 1]'h1).toNat * 256 + (code[pc + 1 + 1]'h2).toNat)), 3) := by
  have e : Decoder.instr pc code pc = .ok (.ifCond .lt (Reader.signed 16 ((code[pc + 1]'h1).toNat * 256 + (code[pc + 1 + 1]'h2).toNat)), pc + 1 + 1 + 1) := by
    unfold Decoder.instr
    rw [zq_bind (zq_u1 h), hb]
    show ((Reader.s2 : Decoder Int) >>= fun k => (pure (.ifCond .lt k) : Decoder Instr)) code (pc + 1) = _
    rw [zq_bind (zq_s2 h1 h2)]
    first | done | rfl
  rw [zq_dec e, zq_n3]
set_option maxRecDepth 8192 in
theorem zq_icmp_lt (h1 : pc + 1 < code.size) (h2 : pc + 1 + 1 < code.size) (hb : (code[pc]'h).toNat = 161) : decode code pc = .ok (.if_icmp .lt (Reader.signed 16 ((code[pc + 1]'h1).toNat * 256 + (code[pc + 1 + 1]'h2).toNat)), 3) := by
  have e : Decoder.instr pc code pc = .ok (.if_icmp .lt (Reader.signed 16 ((code[pc + 1]'h1).toNat * 256 + (code[pc + 1 + 1]'h2).toNat)), pc + 1 + 1 + 1) := by
    unfold Decoder.instr
    rw [zq_bind (zq_u1 h), hb]
    show ((Reader.s2 : Decoder Int) >>= fun k => (pure (.if_icmp .lt k) : Decoder Instr)) code (pc + 1) = _
    rw [zq_bind (zq_s2 h1 h2)]
    first | done | rfl
  rw [zq_dec e, zq_n3]
set_option maxRecDepth 8192 in
theorem zq_if_ge (h1 : pc + 1 < code.size) (h2 : pc + 1 + 1 < code.size) (hb : (code[pc]'h).toNat = 156) : decode code pc = .ok (.ifCond .ge (Reader.signed 16 ((code[pc + 1]'h1).toNat * 256 + (code[pc + 1 + 1]'h2).toNat)), 3) := by
  have e : Decoder.instr pc code pc = .ok (.ifCond .ge (Reader.signed 16 ((code[pc + 1]'h1).toNat * 256 + (code[pc + 1 + 1]'h2).toNat)), pc + 1 + 1 + 1) := by
    unfold Decoder.instr
    rw [zq_bind (zq_u1 h), hb]
    show ((Reader.s2 : Decoder Int) >>= fun k => (pure (.ifCond .ge k) : Decoder Instr)) code (pc + 1) = _
    rw [zq_bind (zq_s2 h1 h2)]
    first | done | rfl
  rw [zq_dec e, zq_n3]
set_option maxRecDepth 8192 in
theorem zq_icmp_ge (h1 : pc + 1 < code.size) (h2 : pc + 1 + 1 < code.size) (hb : (code[pc]'h).toNat = 162) : decode code pc = .ok (.if_icmp .ge (Reader.signed 16 ((code[pc + 1]'h1).toNat * 256 + (code[pc + 1 + 1]'h2).toNat)), 3) := by
  have e : Decoder.instr pc code pc = .ok (.if_icmp .ge (Reader.signed 16 ((code[pc + 1]'h1).toNat * 256 + (code[pc + 1 + 1]'h2).toNat)), pc + 1 + 1 + 1) := by
    unfold Decoder.instr
    rw [zq_bind (zq_u1 h), hb]
    show ((Reader.s2 : Decoder Int) >>= fun k => (pure (.if_icmp .ge k) : Decoder Instr)) code (pc + 1) = _
    rw [zq_bind (zq_s2 h1 h2)]
    first | done | rfl
  rw [zq_dec e, zq_n3]
set_option maxRecDepth 8192 in
theorem zq_if_gt (h1 : pc + 1 < code.size) (h2 : pc + 1 + 1 < code.size) (hb : (code[pc]'h).toNat = 157) : decode code pc = .ok (.ifCond .gt (Reader.signed 16 ((code[pc + 1]'h1).toNat * 256 + (code[pc + 1 + 1]'h2).toNat)), 3) := by
  have e : Decoder.instr pc code pc = .ok (.ifCond .gt (Reader.signed 16 ((code[pc + 1]'h1).toNat * 256 + (code[pc + 1 + 1]'h2).toNat)), pc + 1 + 1 + 1) := by
    unfold Decoder.instr
    rw [zq_bind (zq_u1 h), hb]
    show ((Reader.s2 : Decoder Int) >>= fun k => (pure (.ifCond .gt k) : Decoder Instr)) code (pc + 1) = _
    rw [zq_bind (zq_s2 h1 h2)]
    first | done | rfl
  rw [zq_dec e, zq_n3]
set_option maxRecDepth 8192 in
theorem zq_icmp_gt (h1 : pc + 1 < code.size) (h2 : pc + 1 + 1 < code.size) (hb : (code[pc]'h).toNat = 163) : decode code pc = .ok (.if_icmp .gt (Reader.signed 16 ((code[pc + 1]'h1).toNat * 256 + (code[pc + 1 + 1]'h2).toNat)), 3) := by
  have e : Decoder.instr pc code pc = .ok (.if_icmp .gt (Reader.signed 16 ((code[pc + 1]'h1).toNat * 256 + (code[pc + 1 + 1]'h2).toNat)), pc + 1 + 1 + 1) := by
    unfold Decoder.instr
    rw [zq_bind (zq_u1 h), hb]
    show ((Reader.s2 : Decoder Int) >>= fun k => (pure (.if_icmp .gt k) : Decoder Instr)) code (pc + 1) = _
    rw [zq_bind (zq_s2 h1 h2)]
    first | done | rfl
  rw [zq_dec e, zq_n3]
set_option maxRecDepth 8192 in
theorem zq_if_le (h1 : pc + 1 < code.size) (h2 : pc + 1 + 1 < code.size) (hb : (code[pc]'h).toNat = 158) : decode code pc = .ok (.ifCond .le (Reader.signed 16 ((code[pc + 1]'h1).toNat * 256 + (code[pc + 1 + 1]'h2).toNat)), 3) := by
  have e : Decoder.instr pc code pc = .ok (.ifCond .le (Reader.signed 16 ((code[pc + 1]'h1).toNat * 256 + (code[pc + 1 + 1]'h2).toNat)), pc + 1 + 1 + 1) := by
    unfold Decoder.instr
    rw [zq_bind (zq_u1 h), hb]
    show ((Reader.s2 : Decoder Int) >>= fun k => (pure (.ifCond .le k) : Decoder Instr)) code (pc + 1) = _
    rw [zq_bind (zq_s2 h1 h2)]
    first | done | rfl
  rw [zq_dec e, zq_n3]
set_option maxRecDepth 8192 in
theorem zq_icmp_le (h1 : pc + 1 < code.size) (h2 : pc + 1 + 1 < code.size) (hb : (code[pc]'h).toNat = 164) : decode code pc = .ok (.if_icmp .le (Reader.signed 16 ((code[pc + 1]'h1).toNat * 256 + (code[pc + 1 + 1]'h2).toNat)), 3) := by
  have e : Decoder.instr pc code pc = .ok (.if_icmp .le (Reader.signed 16 ((code[pc + 1]'h1).toNat * 256 + (code[pc + 1 + 1]'h2).toNat)), pc + 1 + 1 + 1) := by
    unfold Decoder.instr
    rw [zq_bind (zq_u1 h), hb]
    show ((Reader.s2 : Decoder Int) >>= fun k => (pure (.if_icmp .le k) : Decoder Instr)) code (pc + 1) = _
    rw [zq_bind (zq_s2 h1 h2)]
    first | done | rfl
  rw [zq_dec e, zq_n3]
set_option maxRecDepth 8192 in
theorem zq_iinc (h1 : pc + 1 < code.size) (h2 : pc + 1 + 1 < code.size) (hb : (code[pc]'h).toNat = 132) : decode code pc = .ok (.iinc (code[pc + 1]'h1).toNat (Reader.signed 8 (code[pc + 1 + 1]'h2).toNat), 3) := by
  have e : Decoder.instr pc code pc = .ok (.iinc (code[pc + 1]'h1).toNat (Reader.signed 8 (code[pc + 1 + 1]'h2).toNat), pc + 1 + 1 + 1) := by
    unfold Decoder.instr
    rw [zq_bind (zq_u1 h), hb]
    show ((Reader.u1 : Decoder Nat) >>= fun k => ((Reader.s1 : Decoder Int) >>= fun d => (pure (.iinc k d) : Decoder Instr))) code (pc + 1) = _
    rw [zq_bind (zq_u1 h1), zq_bind (zq_s1 h2)]
    first | done | rfl
  rw [zq_dec e, zq_n3]
end
def zqP : List UInt8 → Nat
  | [] => 0
  | b :: r => b.toNat + 256 * zqP r
def zqB (N p : Nat) : Nat := (N >>> (8 * p)) % 256
theorem zqB_list (l : List UInt8) : ∀ (p : Nat) (h : p < l.length), zqB (zqP l) p = (l[p]'h).toNat := by
  induction l with
  | nil => intro p h; exact absurd h (Nat.not_lt_zero _)
  | cons b r ih =>
    intro p h
    have hb : b.toNat < 256 := b.toNat_lt
    cases p with
    | zero =>
      show (b.toNat + 256 * zqP r) >>> (8 * 0) % 256 = b.toNat
      rw [Nat.mul_zero, Nat.shiftRight_zero]
      omega
    | succ p =>
      have hp : p < r.length := Nat.lt_of_succ_lt_succ h
      have e := ih p hp
      show (b.toNat + 256 * zqP r) >>> (8 * (p + 1)) % 256 = (r[p]'hp).toNat
      rw [← e]
      unfold zqB
      rw [Nat.shiftRight_eq_div_pow, Nat.shiftRight_eq_div_pow, show 8 * (p + 1) = 8 + 8 * p by omega, Nat.pow_add, ← Nat.div_div_eq_div_mul, show (b.toNat + 256 * zqP r) / 2 ^ 8 = zqP r by omega]
def zqC (code : ByteArray) : Nat := zqP code.data.toList
theorem zqB_code {code : ByteArray} {p : Nat} (h : p < code.size) : zqB (zqC code) p = (code[p]'h).toNat := zqB_list code.data.toList p h
def zqD : ClassFile.Cond → Nat
  | .eq => 0
  | .ne => 1
  | .lt => 2
  | .ge => 3
  | .gt => 4
  | .le => 5
def zqK (b0 b1 b2 : Nat) : Instr → Nat → Bool
  | .iaload, n => n == 1 && b0 == 46
  | .laload, n => n == 1 && b0 == 47
  | .aaload, n => n == 1 && b0 == 50
  | .baload, n => n == 1 && b0 == 51
  | .iastore, n => n == 1 && b0 == 79
  | .lastore, n => n == 1 && b0 == 80
  | .aastore, n => n == 1 && b0 == 83
  | .bastore, n => n == 1 && b0 == 84
  | .pop, n => n == 1 && b0 == 87
  | .dup, n => n == 1 && b0 == 89
  | .dup2, n => n == 1 && b0 == 92
  | .iadd, n => n == 1 && b0 == 96
  | .ladd, n => n == 1 && b0 == 97
  | .isub, n => n == 1 && b0 == 100
  | .lsub, n => n == 1 && b0 == 101
  | .imul, n => n == 1 && b0 == 104
  | .lmul, n => n == 1 && b0 == 105
  | .idiv, n => n == 1 && b0 == 108
  | .ldiv, n => n == 1 && b0 == 109
  | .irem, n => n == 1 && b0 == 112
  | .lrem, n => n == 1 && b0 == 113
  | .ineg, n => n == 1 && b0 == 116
  | .ishl, n => n == 1 && b0 == 120
  | .lshl, n => n == 1 && b0 == 121
  | .ishr, n => n == 1 && b0 == 122
  | .lshr, n => n == 1 && b0 == 123
  | .iushr, n => n == 1 && b0 == 124
  | .iand, n => n == 1 && b0 == 126
  | .land, n => n == 1 && b0 == 127
  | .ior, n => n == 1 && b0 == 128
  | .lor, n => n == 1 && b0 == 129
  | .ixor, n => n == 1 && b0 == 130
  | .lxor, n => n == 1 && b0 == 131
  | .i2l, n => n == 1 && b0 == 133
  | .l2i, n => n == 1 && b0 == 136
  | .i2b, n => n == 1 && b0 == 145
  | .lcmp, n => n == 1 && b0 == 148
  | .ireturn, n => n == 1 && b0 == 172
  | .lreturn, n => n == 1 && b0 == 173
  | .areturn, n => n == 1 && b0 == 176
  | .return_, n => n == 1 && b0 == 177
  | .arraylength, n => n == 1 && b0 == 190
  | .athrow, n => n == 1 && b0 == 191
  | .aconst_null, n => n == 1 && b0 == 1
  | .iload_n k, n => n == 1 && b0 == 26 + k.val
  | .lload_n k, n => n == 1 && b0 == 30 + k.val
  | .aload_n k, n => n == 1 && b0 == 42 + k.val
  | .istore_n k, n => n == 1 && b0 == 59 + k.val
  | .lstore_n k, n => n == 1 && b0 == 63 + k.val
  | .astore_n k, n => n == 1 && b0 == 75 + k.val
  | .lconst k, n => n == 1 && b0 == 9 + k.val
  | .iconst v, n => n == 1 && (v == (b0 : Int) - 3 && (Nat.ble 2 b0 && Nat.ble b0 8))
  | .ldc k, n => n == 2 && (b0 == 18 && k == b1)
  | .iload k, n => n == 2 && (b0 == 21 && k == b1)
  | .lload k, n => n == 2 && (b0 == 22 && k == b1)
  | .aload k, n => n == 2 && (b0 == 25 && k == b1)
  | .istore k, n => n == 2 && (b0 == 54 && k == b1)
  | .lstore k, n => n == 2 && (b0 == 55 && k == b1)
  | .astore k, n => n == 2 && (b0 == 58 && k == b1)
  | .ldc_w k, n => n == 3 && (b0 == 19 && k == b1 * 256 + b2)
  | .ldc2_w k, n => n == 3 && (b0 == 20 && k == b1 * 256 + b2)
  | .getfield k, n => n == 3 && (b0 == 180 && k == b1 * 256 + b2)
  | .putfield k, n => n == 3 && (b0 == 181 && k == b1 * 256 + b2)
  | .invokevirtual k, n => n == 3 && (b0 == 182 && k == b1 * 256 + b2)
  | .invokespecial k, n => n == 3 && (b0 == 183 && k == b1 * 256 + b2)
  | .invokestatic k, n => n == 3 && (b0 == 184 && k == b1 * 256 + b2)
  | .new k, n => n == 3 && (b0 == 187 && k == b1 * 256 + b2)
  | .anewarray k, n => n == 3 && (b0 == 189 && k == b1 * 256 + b2)
  | .ifnull v, n => n == 3 && (b0 == 198 && v == Reader.signed 16 (b1 * 256 + b2))
  | .ifnonnull v, n => n == 3 && (b0 == 199 && v == Reader.signed 16 (b1 * 256 + b2))
  | .goto v, n => n == 3 && (b0 == 167 && v == Reader.signed 16 (b1 * 256 + b2))
  | .sipush v, n => n == 3 && (b0 == 17 && v == Reader.signed 16 (b1 * 256 + b2))
  | .bipush v, n => n == 2 && (b0 == 16 && v == Reader.signed 8 b1)
  | .ifCond c v, n => n == 3 && (b0 == 153 + zqD c && v == Reader.signed 16 (b1 * 256 + b2))
  | .if_icmp c v, n => n == 3 && (b0 == 159 + zqD c && v == Reader.signed 16 (b1 * 256 + b2))
  | .iinc k v, n => n == 3 && (b0 == 132 && (k == b1 && v == Reader.signed 8 b2))
  | _, _ => false
def zqT (code : ByteArray) (pc : Nat) (i : Instr) (n : Nat) : Bool := Nat.ble (pc + n) code.size && zqK (zqB (zqC code) pc) (zqB (zqC code) (pc + 1)) (zqB (zqC code) (pc + 1 + 1)) i n
theorem zqT_d {code : ByteArray} {pc : Nat} {i : Instr} {n : Nat} (hT : zqT code pc i n = true) : decode code pc = .ok (i, n) := by
  unfold zqT at hT
  obtain ⟨hs, hk⟩ := Bool.and_eq_true_iff.mp hT
  have hs := Nat.le_of_ble_eq_true hs
  have g0 : ∀ h : pc < code.size, zqB (zqC code) pc = (code[pc]'h).toNat := fun h => zqB_code h
  have g1 : ∀ h : pc + 1 < code.size, zqB (zqC code) (pc + 1) = (code[pc + 1]'h).toNat := fun h => zqB_code h
  have g2 : ∀ h : pc + 1 + 1 < code.size, zqB (zqC code) (pc + 1 + 1) = (code[pc + 1 + 1]'h).toNat := fun h => zqB_code h
  generalize zqB (zqC code) pc = b0 at hk g0
  generalize zqB (zqC code) (pc + 1) = b1 at hk g1
  generalize zqB (zqC code) (pc + 1 + 1) = b2 at hk g2
  clear hT
  cases i with
  | iaload =>
    obtain ⟨hn, h0⟩ := Bool.and_eq_true_iff.mp hk
    cases eq_of_beq hn
    cases eq_of_beq h0
    exact zq_iaload (by omega) (g0 (by omega)).symm
  | laload =>
    obtain ⟨hn, h0⟩ := Bool.and_eq_true_iff.mp hk
    cases eq_of_beq hn
    cases eq_of_beq h0
    exact zq_laload (by omega) (g0 (by omega)).symm
  | aaload =>
    obtain ⟨hn, h0⟩ := Bool.and_eq_true_iff.mp hk
    cases eq_of_beq hn
    cases eq_of_beq h0
    exact zq_aaload (by omega) (g0 (by omega)).symm
  | baload =>
    obtain ⟨hn, h0⟩ := Bool.and_eq_true_iff.mp hk
    cases eq_of_beq hn
    cases eq_of_beq h0
    exact zq_baload (by omega) (g0 (by omega)).symm
  | iastore =>
    obtain ⟨hn, h0⟩ := Bool.and_eq_true_iff.mp hk
    cases eq_of_beq hn
    cases eq_of_beq h0
    exact zq_iastore (by omega) (g0 (by omega)).symm
  | lastore =>
    obtain ⟨hn, h0⟩ := Bool.and_eq_true_iff.mp hk
    cases eq_of_beq hn
    cases eq_of_beq h0
    exact zq_lastore (by omega) (g0 (by omega)).symm
  | aastore =>
    obtain ⟨hn, h0⟩ := Bool.and_eq_true_iff.mp hk
    cases eq_of_beq hn
    cases eq_of_beq h0
    exact zq_aastore (by omega) (g0 (by omega)).symm
  | bastore =>
    obtain ⟨hn, h0⟩ := Bool.and_eq_true_iff.mp hk
    cases eq_of_beq hn
    cases eq_of_beq h0
    exact zq_bastore (by omega) (g0 (by omega)).symm
  | pop =>
    obtain ⟨hn, h0⟩ := Bool.and_eq_true_iff.mp hk
    cases eq_of_beq hn
    cases eq_of_beq h0
    exact zq_pop (by omega) (g0 (by omega)).symm
  | dup =>
    obtain ⟨hn, h0⟩ := Bool.and_eq_true_iff.mp hk
    cases eq_of_beq hn
    cases eq_of_beq h0
    exact zq_dup (by omega) (g0 (by omega)).symm
  | dup2 =>
    obtain ⟨hn, h0⟩ := Bool.and_eq_true_iff.mp hk
    cases eq_of_beq hn
    cases eq_of_beq h0
    exact zq_dup2 (by omega) (g0 (by omega)).symm
  | iadd =>
    obtain ⟨hn, h0⟩ := Bool.and_eq_true_iff.mp hk
    cases eq_of_beq hn
    cases eq_of_beq h0
    exact zq_iadd (by omega) (g0 (by omega)).symm
  | ladd =>
    obtain ⟨hn, h0⟩ := Bool.and_eq_true_iff.mp hk
    cases eq_of_beq hn
    cases eq_of_beq h0
    exact zq_ladd (by omega) (g0 (by omega)).symm
  | isub =>
    obtain ⟨hn, h0⟩ := Bool.and_eq_true_iff.mp hk
    cases eq_of_beq hn
    cases eq_of_beq h0
    exact zq_isub (by omega) (g0 (by omega)).symm
  | lsub =>
    obtain ⟨hn, h0⟩ := Bool.and_eq_true_iff.mp hk
    cases eq_of_beq hn
    cases eq_of_beq h0
    exact zq_lsub (by omega) (g0 (by omega)).symm
  | imul =>
    obtain ⟨hn, h0⟩ := Bool.and_eq_true_iff.mp hk
    cases eq_of_beq hn
    cases eq_of_beq h0
    exact zq_imul (by omega) (g0 (by omega)).symm
  | lmul =>
    obtain ⟨hn, h0⟩ := Bool.and_eq_true_iff.mp hk
    cases eq_of_beq hn
    cases eq_of_beq h0
    exact zq_lmul (by omega) (g0 (by omega)).symm
  | idiv =>
    obtain ⟨hn, h0⟩ := Bool.and_eq_true_iff.mp hk
    cases eq_of_beq hn
    cases eq_of_beq h0
    exact zq_idiv (by omega) (g0 (by omega)).symm
  | ldiv =>
    obtain ⟨hn, h0⟩ := Bool.and_eq_true_iff.mp hk
    cases eq_of_beq hn
    cases eq_of_beq h0
    exact zq_ldiv (by omega) (g0 (by omega)).symm
  | irem =>
    obtain ⟨hn, h0⟩ := Bool.and_eq_true_iff.mp hk
    cases eq_of_beq hn
    cases eq_of_beq h0
    exact zq_irem (by omega) (g0 (by omega)).symm
  | lrem =>
    obtain ⟨hn, h0⟩ := Bool.and_eq_true_iff.mp hk
    cases eq_of_beq hn
    cases eq_of_beq h0
    exact zq_lrem (by omega) (g0 (by omega)).symm
  | ineg =>
    obtain ⟨hn, h0⟩ := Bool.and_eq_true_iff.mp hk
    cases eq_of_beq hn
    cases eq_of_beq h0
    exact zq_ineg (by omega) (g0 (by omega)).symm
  | ishl =>
    obtain ⟨hn, h0⟩ := Bool.and_eq_true_iff.mp hk
    cases eq_of_beq hn
    cases eq_of_beq h0
    exact zq_ishl (by omega) (g0 (by omega)).symm
  | lshl =>
    obtain ⟨hn, h0⟩ := Bool.and_eq_true_iff.mp hk
    cases eq_of_beq hn
    cases eq_of_beq h0
    exact zq_lshl (by omega) (g0 (by omega)).symm
  | ishr =>
    obtain ⟨hn, h0⟩ := Bool.and_eq_true_iff.mp hk
    cases eq_of_beq hn
    cases eq_of_beq h0
    exact zq_ishr (by omega) (g0 (by omega)).symm
  | lshr =>
    obtain ⟨hn, h0⟩ := Bool.and_eq_true_iff.mp hk
    cases eq_of_beq hn
    cases eq_of_beq h0
    exact zq_lshr (by omega) (g0 (by omega)).symm
  | iushr =>
    obtain ⟨hn, h0⟩ := Bool.and_eq_true_iff.mp hk
    cases eq_of_beq hn
    cases eq_of_beq h0
    exact zq_iushr (by omega) (g0 (by omega)).symm
  | iand =>
    obtain ⟨hn, h0⟩ := Bool.and_eq_true_iff.mp hk
    cases eq_of_beq hn
    cases eq_of_beq h0
    exact zq_iand (by omega) (g0 (by omega)).symm
  | land =>
    obtain ⟨hn, h0⟩ := Bool.and_eq_true_iff.mp hk
    cases eq_of_beq hn
    cases eq_of_beq h0
    exact zq_land (by omega) (g0 (by omega)).symm
  | ior =>
    obtain ⟨hn, h0⟩ := Bool.and_eq_true_iff.mp hk
    cases eq_of_beq hn
    cases eq_of_beq h0
    exact zq_ior (by omega) (g0 (by omega)).symm
  | lor =>
    obtain ⟨hn, h0⟩ := Bool.and_eq_true_iff.mp hk
    cases eq_of_beq hn
    cases eq_of_beq h0
    exact zq_lor (by omega) (g0 (by omega)).symm
  | ixor =>
    obtain ⟨hn, h0⟩ := Bool.and_eq_true_iff.mp hk
    cases eq_of_beq hn
    cases eq_of_beq h0
    exact zq_ixor (by omega) (g0 (by omega)).symm
  | lxor =>
    obtain ⟨hn, h0⟩ := Bool.and_eq_true_iff.mp hk
    cases eq_of_beq hn
    cases eq_of_beq h0
    exact zq_lxor (by omega) (g0 (by omega)).symm
  | i2l =>
    obtain ⟨hn, h0⟩ := Bool.and_eq_true_iff.mp hk
    cases eq_of_beq hn
    cases eq_of_beq h0
    exact zq_i2l (by omega) (g0 (by omega)).symm
  | l2i =>
    obtain ⟨hn, h0⟩ := Bool.and_eq_true_iff.mp hk
    cases eq_of_beq hn
    cases eq_of_beq h0
    exact zq_l2i (by omega) (g0 (by omega)).symm
  | i2b =>
    obtain ⟨hn, h0⟩ := Bool.and_eq_true_iff.mp hk
    cases eq_of_beq hn
    cases eq_of_beq h0
    exact zq_i2b (by omega) (g0 (by omega)).symm
  | lcmp =>
    obtain ⟨hn, h0⟩ := Bool.and_eq_true_iff.mp hk
    cases eq_of_beq hn
    cases eq_of_beq h0
    exact zq_lcmp (by omega) (g0 (by omega)).symm
  | ireturn =>
    obtain ⟨hn, h0⟩ := Bool.and_eq_true_iff.mp hk
    cases eq_of_beq hn
    cases eq_of_beq h0
    exact zq_ireturn (by omega) (g0 (by omega)).symm
  | lreturn =>
    obtain ⟨hn, h0⟩ := Bool.and_eq_true_iff.mp hk
    cases eq_of_beq hn
    cases eq_of_beq h0
    exact zq_lreturn (by omega) (g0 (by omega)).symm
  | areturn =>
    obtain ⟨hn, h0⟩ := Bool.and_eq_true_iff.mp hk
    cases eq_of_beq hn
    cases eq_of_beq h0
    exact zq_areturn (by omega) (g0 (by omega)).symm
  | return_ =>
    obtain ⟨hn, h0⟩ := Bool.and_eq_true_iff.mp hk
    cases eq_of_beq hn
    cases eq_of_beq h0
    exact zq_return_ (by omega) (g0 (by omega)).symm
  | arraylength =>
    obtain ⟨hn, h0⟩ := Bool.and_eq_true_iff.mp hk
    cases eq_of_beq hn
    cases eq_of_beq h0
    exact zq_arraylength (by omega) (g0 (by omega)).symm
  | athrow =>
    obtain ⟨hn, h0⟩ := Bool.and_eq_true_iff.mp hk
    cases eq_of_beq hn
    cases eq_of_beq h0
    exact zq_athrow (by omega) (g0 (by omega)).symm
  | aconst_null =>
    obtain ⟨hn, h0⟩ := Bool.and_eq_true_iff.mp hk
    cases eq_of_beq hn
    cases eq_of_beq h0
    exact zq_aconst_null (by omega) (g0 (by omega)).symm
  | iload_n k =>
    obtain ⟨hn, h0⟩ := Bool.and_eq_true_iff.mp hk
    cases eq_of_beq hn
    cases eq_of_beq h0
    revert g0
    match k with
    | 0 => exact fun g0 => zq_iload_n0 (by omega) (g0 (by omega)).symm
    | 1 => exact fun g0 => zq_iload_n1 (by omega) (g0 (by omega)).symm
    | 2 => exact fun g0 => zq_iload_n2 (by omega) (g0 (by omega)).symm
    | 3 => exact fun g0 => zq_iload_n3 (by omega) (g0 (by omega)).symm
  | lload_n k =>
    obtain ⟨hn, h0⟩ := Bool.and_eq_true_iff.mp hk
    cases eq_of_beq hn
    cases eq_of_beq h0
    revert g0
    match k with
    | 0 => exact fun g0 => zq_lload_n0 (by omega) (g0 (by omega)).symm
    | 1 => exact fun g0 => zq_lload_n1 (by omega) (g0 (by omega)).symm
    | 2 => exact fun g0 => zq_lload_n2 (by omega) (g0 (by omega)).symm
    | 3 => exact fun g0 => zq_lload_n3 (by omega) (g0 (by omega)).symm
  | aload_n k =>
    obtain ⟨hn, h0⟩ := Bool.and_eq_true_iff.mp hk
    cases eq_of_beq hn
    cases eq_of_beq h0
    revert g0
    match k with
    | 0 => exact fun g0 => zq_aload_n0 (by omega) (g0 (by omega)).symm
    | 1 => exact fun g0 => zq_aload_n1 (by omega) (g0 (by omega)).symm
    | 2 => exact fun g0 => zq_aload_n2 (by omega) (g0 (by omega)).symm
    | 3 => exact fun g0 => zq_aload_n3 (by omega) (g0 (by omega)).symm
  | istore_n k =>
    obtain ⟨hn, h0⟩ := Bool.and_eq_true_iff.mp hk
    cases eq_of_beq hn
    cases eq_of_beq h0
    revert g0
    match k with
    | 0 => exact fun g0 => zq_istore_n0 (by omega) (g0 (by omega)).symm
    | 1 => exact fun g0 => zq_istore_n1 (by omega) (g0 (by omega)).symm
    | 2 => exact fun g0 => zq_istore_n2 (by omega) (g0 (by omega)).symm
    | 3 => exact fun g0 => zq_istore_n3 (by omega) (g0 (by omega)).symm
  | lstore_n k =>
    obtain ⟨hn, h0⟩ := Bool.and_eq_true_iff.mp hk
    cases eq_of_beq hn
    cases eq_of_beq h0
    revert g0
    match k with
    | 0 => exact fun g0 => zq_lstore_n0 (by omega) (g0 (by omega)).symm
    | 1 => exact fun g0 => zq_lstore_n1 (by omega) (g0 (by omega)).symm
    | 2 => exact fun g0 => zq_lstore_n2 (by omega) (g0 (by omega)).symm
    | 3 => exact fun g0 => zq_lstore_n3 (by omega) (g0 (by omega)).symm
  | astore_n k =>
    obtain ⟨hn, h0⟩ := Bool.and_eq_true_iff.mp hk
    cases eq_of_beq hn
    cases eq_of_beq h0
    revert g0
    match k with
    | 0 => exact fun g0 => zq_astore_n0 (by omega) (g0 (by omega)).symm
    | 1 => exact fun g0 => zq_astore_n1 (by omega) (g0 (by omega)).symm
    | 2 => exact fun g0 => zq_astore_n2 (by omega) (g0 (by omega)).symm
    | 3 => exact fun g0 => zq_astore_n3 (by omega) (g0 (by omega)).symm
  | lconst k =>
    obtain ⟨hn, h0⟩ := Bool.and_eq_true_iff.mp hk
    cases eq_of_beq hn
    cases eq_of_beq h0
    revert g0
    match k with
    | 0 => exact fun g0 => zq_lconst0 (by omega) (g0 (by omega)).symm
    | 1 => exact fun g0 => zq_lconst1 (by omega) (g0 (by omega)).symm
  | iconst v =>
    obtain ⟨hn, hk⟩ := Bool.and_eq_true_iff.mp hk
    obtain ⟨hv, hk⟩ := Bool.and_eq_true_iff.mp hk
    obtain ⟨h2, h8⟩ := Bool.and_eq_true_iff.mp hk
    cases eq_of_beq hn
    cases eq_of_beq hv
    have h2 := Nat.le_of_ble_eq_true h2
    have h8 := Nat.le_of_ble_eq_true h8
    have hb := (g0 (by omega)).symm
    have : b0 = 2 ∨ b0 = 3 ∨ b0 = 4 ∨ b0 = 5 ∨ b0 = 6 ∨ b0 = 7 ∨ b0 = 8 := by omega
    rcases this with rfl | rfl | rfl | rfl | rfl | rfl | rfl
    · exact zq_iconstm1 (by omega) hb
    · exact zq_iconst0 (by omega) hb
    · exact zq_iconst1 (by omega) hb
    · exact zq_iconst2 (by omega) hb
    · exact zq_iconst3 (by omega) hb
    · exact zq_iconst4 (by omega) hb
    · exact zq_iconst5 (by omega) hb
  | ldc k =>
    obtain ⟨hn, hk⟩ := Bool.and_eq_true_iff.mp hk
    obtain ⟨h0, h1⟩ := Bool.and_eq_true_iff.mp hk
    cases eq_of_beq hn
    cases eq_of_beq h0
    cases eq_of_beq h1
    rw [g1 (by omega)]
    exact zq_ldc (by omega) (by omega) (g0 (by omega)).symm
  | iload k =>
    obtain ⟨hn, hk⟩ := Bool.and_eq_true_iff.mp hk
    obtain ⟨h0, h1⟩ := Bool.and_eq_true_iff.mp hk
    cases eq_of_beq hn
    cases eq_of_beq h0
    cases eq_of_beq h1
    rw [g1 (by omega)]
    exact zq_iload (by omega) (by omega) (g0 (by omega)).symm
  | lload k =>
    obtain ⟨hn, hk⟩ := Bool.and_eq_true_iff.mp hk
    obtain ⟨h0, h1⟩ := Bool.and_eq_true_iff.mp hk
    cases eq_of_beq hn
    cases eq_of_beq h0
    cases eq_of_beq h1
    rw [g1 (by omega)]
    exact zq_lload (by omega) (by omega) (g0 (by omega)).symm
  | aload k =>
    obtain ⟨hn, hk⟩ := Bool.and_eq_true_iff.mp hk
    obtain ⟨h0, h1⟩ := Bool.and_eq_true_iff.mp hk
    cases eq_of_beq hn
    cases eq_of_beq h0
    cases eq_of_beq h1
    rw [g1 (by omega)]
    exact zq_aload (by omega) (by omega) (g0 (by omega)).symm
  | istore k =>
    obtain ⟨hn, hk⟩ := Bool.and_eq_true_iff.mp hk
    obtain ⟨h0, h1⟩ := Bool.and_eq_true_iff.mp hk
    cases eq_of_beq hn
    cases eq_of_beq h0
    cases eq_of_beq h1
    rw [g1 (by omega)]
    exact zq_istore (by omega) (by omega) (g0 (by omega)).symm
  | lstore k =>
    obtain ⟨hn, hk⟩ := Bool.and_eq_true_iff.mp hk
    obtain ⟨h0, h1⟩ := Bool.and_eq_true_iff.mp hk
    cases eq_of_beq hn
    cases eq_of_beq h0
    cases eq_of_beq h1
    rw [g1 (by omega)]
    exact zq_lstore (by omega) (by omega) (g0 (by omega)).symm
  | astore k =>
    obtain ⟨hn, hk⟩ := Bool.and_eq_true_iff.mp hk
    obtain ⟨h0, h1⟩ := Bool.and_eq_true_iff.mp hk
    cases eq_of_beq hn
    cases eq_of_beq h0
    cases eq_of_beq h1
    rw [g1 (by omega)]
    exact zq_astore (by omega) (by omega) (g0 (by omega)).symm
  | ldc_w k =>
    obtain ⟨hn, hk⟩ := Bool.and_eq_true_iff.mp hk
    obtain ⟨h0, h1⟩ := Bool.and_eq_true_iff.mp hk
    cases eq_of_beq hn
    cases eq_of_beq h0
    cases eq_of_beq h1
    rw [g1 (by omega), g2 (by omega)]
    exact zq_ldc_w (by omega) (by omega) (by omega) (g0 (by omega)).symm
  | ldc2_w k =>
    obtain ⟨hn, hk⟩ := Bool.and_eq_true_iff.mp hk
    obtain ⟨h0, h1⟩ := Bool.and_eq_true_iff.mp hk
    cases eq_of_beq hn
    cases eq_of_beq h0
    cases eq_of_beq h1
    rw [g1 (by omega), g2 (by omega)]
    exact zq_ldc2_w (by omega) (by omega) (by omega) (g0 (by omega)).symm
  | getfield k =>
    obtain ⟨hn, hk⟩ := Bool.and_eq_true_iff.mp hk
    obtain ⟨h0, h1⟩ := Bool.and_eq_true_iff.mp hk
    cases eq_of_beq hn
    cases eq_of_beq h0
    cases eq_of_beq h1
    rw [g1 (by omega), g2 (by omega)]
    exact zq_getfield (by omega) (by omega) (by omega) (g0 (by omega)).symm
  | putfield k =>
    obtain ⟨hn, hk⟩ := Bool.and_eq_true_iff.mp hk
    obtain ⟨h0, h1⟩ := Bool.and_eq_true_iff.mp hk
    cases eq_of_beq hn
    cases eq_of_beq h0
    cases eq_of_beq h1
    rw [g1 (by omega), g2 (by omega)]
    exact zq_putfield (by omega) (by omega) (by omega) (g0 (by omega)).symm
  | invokevirtual k =>
    obtain ⟨hn, hk⟩ := Bool.and_eq_true_iff.mp hk
    obtain ⟨h0, h1⟩ := Bool.and_eq_true_iff.mp hk
    cases eq_of_beq hn
    cases eq_of_beq h0
    cases eq_of_beq h1
    rw [g1 (by omega), g2 (by omega)]
    exact zq_invokevirtual (by omega) (by omega) (by omega) (g0 (by omega)).symm
  | invokespecial k =>
    obtain ⟨hn, hk⟩ := Bool.and_eq_true_iff.mp hk
    obtain ⟨h0, h1⟩ := Bool.and_eq_true_iff.mp hk
    cases eq_of_beq hn
    cases eq_of_beq h0
    cases eq_of_beq h1
    rw [g1 (by omega), g2 (by omega)]
    exact zq_invokespecial (by omega) (by omega) (by omega) (g0 (by omega)).symm
  | invokestatic k =>
    obtain ⟨hn, hk⟩ := Bool.and_eq_true_iff.mp hk
    obtain ⟨h0, h1⟩ := Bool.and_eq_true_iff.mp hk
    cases eq_of_beq hn
    cases eq_of_beq h0
    cases eq_of_beq h1
    rw [g1 (by omega), g2 (by omega)]
    exact zq_invokestatic (by omega) (by omega) (by omega) (g0 (by omega)).symm
  | new k =>
    obtain ⟨hn, hk⟩ := Bool.and_eq_true_iff.mp hk
    obtain ⟨h0, h1⟩ := Bool.and_eq_true_iff.mp hk
    cases eq_of_beq hn
    cases eq_of_beq h0
    cases eq_of_beq h1
    rw [g1 (by omega), g2 (by omega)]
    exact zq_new (by omega) (by omega) (by omega) (g0 (by omega)).symm
  | anewarray k =>
    obtain ⟨hn, hk⟩ := Bool.and_eq_true_iff.mp hk
    obtain ⟨h0, h1⟩ := Bool.and_eq_true_iff.mp hk
    cases eq_of_beq hn
    cases eq_of_beq h0
    cases eq_of_beq h1
    rw [g1 (by omega), g2 (by omega)]
    exact zq_anewarray (by omega) (by omega) (by omega) (g0 (by omega)).symm
  | ifnull k =>
    obtain ⟨hn, hk⟩ := Bool.and_eq_true_iff.mp hk
    obtain ⟨h0, h1⟩ := Bool.and_eq_true_iff.mp hk
    cases eq_of_beq hn
    cases eq_of_beq h0
    cases eq_of_beq h1
    rw [g1 (by omega), g2 (by omega)]
    exact zq_ifnull (by omega) (by omega) (by omega) (g0 (by omega)).symm
  | ifnonnull k =>
    obtain ⟨hn, hk⟩ := Bool.and_eq_true_iff.mp hk
    obtain ⟨h0, h1⟩ := Bool.and_eq_true_iff.mp hk
    cases eq_of_beq hn
    cases eq_of_beq h0
    cases eq_of_beq h1
    rw [g1 (by omega), g2 (by omega)]
    exact zq_ifnonnull (by omega) (by omega) (by omega) (g0 (by omega)).symm
  | goto k =>
    obtain ⟨hn, hk⟩ := Bool.and_eq_true_iff.mp hk
    obtain ⟨h0, h1⟩ := Bool.and_eq_true_iff.mp hk
    cases eq_of_beq hn
    cases eq_of_beq h0
    cases eq_of_beq h1
    rw [g1 (by omega), g2 (by omega)]
    exact zq_goto (by omega) (by omega) (by omega) (g0 (by omega)).symm
  | sipush k =>
    obtain ⟨hn, hk⟩ := Bool.and_eq_true_iff.mp hk
    obtain ⟨h0, h1⟩ := Bool.and_eq_true_iff.mp hk
    cases eq_of_beq hn
    cases eq_of_beq h0
    cases eq_of_beq h1
    rw [g1 (by omega), g2 (by omega)]
    exact zq_sipush (by omega) (by omega) (by omega) (g0 (by omega)).symm
  | bipush k =>
    obtain ⟨hn, hk⟩ := Bool.and_eq_true_iff.mp hk
    obtain ⟨h0, h1⟩ := Bool.and_eq_true_iff.mp hk
    cases eq_of_beq hn
    cases eq_of_beq h0
    cases eq_of_beq h1
    rw [g1 (by omega)]
    exact zq_bipush (by omega) (by omega) (g0 (by omega)).symm
  | ifCond c k =>
    obtain ⟨hn, hk⟩ := Bool.and_eq_true_iff.mp hk
    obtain ⟨h0, h1⟩ := Bool.and_eq_true_iff.mp hk
    cases eq_of_beq hn
    cases eq_of_beq h0
    cases eq_of_beq h1
    rw [g1 (by omega), g2 (by omega)]
    cases c with
    | eq => exact zq_if_eq (by omega) (by omega) (by omega) (g0 (by omega)).symm
    | ne => exact zq_if_ne (by omega) (by omega) (by omega) (g0 (by omega)).symm
    | lt => exact zq_if_lt (by omega) (by omega) (by omega) (g0 (by omega)).symm
    | ge => exact zq_if_ge (by omega) (by omega) (by omega) (g0 (by omega)).symm
    | gt => exact zq_if_gt (by omega) (by omega) (by omega) (g0 (by omega)).symm
    | le => exact zq_if_le (by omega) (by omega) (by omega) (g0 (by omega)).symm
  | if_icmp c k =>
    obtain ⟨hn, hk⟩ := Bool.and_eq_true_iff.mp hk
    obtain ⟨h0, h1⟩ := Bool.and_eq_true_iff.mp hk
    cases eq_of_beq hn
    cases eq_of_beq h0
    cases eq_of_beq h1
    rw [g1 (by omega), g2 (by omega)]
    cases c with
    | eq => exact zq_icmp_eq (by omega) (by omega) (by omega) (g0 (by omega)).symm
    | ne => exact zq_icmp_ne (by omega) (by omega) (by omega) (g0 (by omega)).symm
    | lt => exact zq_icmp_lt (by omega) (by omega) (by omega) (g0 (by omega)).symm
    | ge => exact zq_icmp_ge (by omega) (by omega) (by omega) (g0 (by omega)).symm
    | gt => exact zq_icmp_gt (by omega) (by omega) (by omega) (g0 (by omega)).symm
    | le => exact zq_icmp_le (by omega) (by omega) (by omega) (g0 (by omega)).symm
  | iinc k v =>
    obtain ⟨hn, hk⟩ := Bool.and_eq_true_iff.mp hk
    obtain ⟨h0, hk⟩ := Bool.and_eq_true_iff.mp hk
    obtain ⟨h1, h2⟩ := Bool.and_eq_true_iff.mp hk
    cases eq_of_beq hn
    cases eq_of_beq h0
    cases eq_of_beq h1
    cases eq_of_beq h2
    rw [g1 (by omega), g2 (by omega)]
    exact zq_iinc (by omega) (by omega) (by omega) (g0 (by omega)).symm
  | _ => exact absurd hk Bool.false_ne_true
def zqG (b0 b1 b2 : Nat) : Instr × Nat := bif Nat.ble b0 89 then (bif Nat.ble b0 42 then (bif Nat.ble b0 18 then (bif Nat.ble b0 6 then (bif Nat.ble b0 3 then (bif Nat.ble b0 1 then ((.aconst_null, 1)) else (bif Nat.ble b0 2 then ((.iconst (-1), 1)) else ((.iconst (0), 1)))) else (bif Nat.ble b0 4 then ((.iconst (1), 1)) else (bif Nat.ble b0 5 then ((.iconst (2), 1)) else ((.iconst (3), 1))))) else (bif Nat.ble b0 9 then (bif Nat.ble b0 7 then ((.iconst (4), 1)) else (bif Nat.ble b0 8 then ((.iconst (5), 1)) else ((.lconst 0, 1)))) else (bif Nat.ble b0 16 then (bif Nat.ble b0 10 then ((.lconst 1, 1)) else ((.bipush (Reader.signed 8 b1), 2))) else (bif Nat.ble b0 17 then ((.sipush (Reader.signed 16 (b1 * 256 + b2)), 3)) else ((.ldc b1, 2)))))) else (bif Nat.ble b0 27 then (bif Nat.ble b0 21 then (bif Nat.ble b0 19 then ((.ldc_w (b1 * 256 + b2), 3)) else (bif Nat.ble b0 20 then ((.ldc2_w (b1 * 256 + b2), 3)) else ((.iload b1, 2)))) else (bif Nat.ble b0 25 then (bif Nat.ble b0 22 then ((.lload b1, 2)) else ((.aload b1, 2))) else (bif Nat.ble b0 26 then ((.iload_n 0, 1)) else ((.iload_n 1, 1))))) else (bif Nat.ble b0 30 then (bif Nat.ble b0 28 then ((.iload_n 2, 1)) else (bif Nat.ble b0 29 then ((.iload_n 3, 1)) else ((.lload_n 0, 1)))) else (bif Nat.ble b0 32 then (bif Nat.ble b0 31 then ((.lload_n 1, 1)) else ((.lload_n 2, 1))) else (bif Nat.ble b0 33 then ((.lload_n 3, 1)) else ((.aload_n 0, 1))))))) else (bif Nat.ble b0 62 then (bif Nat.ble b0 51 then (bif Nat.ble b0 45 then (bif Nat.ble b0 43 then ((.aload_n 1, 1)) else (bif Nat.ble b0 44 then ((.aload_n 2, 1)) else ((.aload_n 3, 1)))) else (bif Nat.ble b0 47 then (bif Nat.ble b0 46 then ((.iaload, 1)) else ((.laload, 1))) else (bif Nat.ble b0 50 then ((.aaload, 1)) else ((.baload, 1))))) else (bif Nat.ble b0 58 then (bif Nat.ble b0 54 then ((.istore b1, 2)) else (bif Nat.ble b0 55 then ((.lstore b1, 2)) else ((.astore b1, 2)))) else (bif Nat.ble b0 60 then (bif Nat.ble b0 59 then ((.istore_n 0, 1)) else ((.istore_n 1, 1))) else (bif Nat.ble b0 61 then ((.istore_n 2, 1)) else ((.istore_n 3, 1)))))) else (bif Nat.ble b0 77 then (bif Nat.ble b0 65 then (bif Nat.ble b0 63 then ((.lstore_n 0, 1)) else (bif Nat.ble b0 64 then ((.lstore_n 1, 1)) else ((.lstore_n 2, 1)))) else (bif Nat.ble b0 75 then (bif Nat.ble b0 66 then ((.lstore_n 3, 1)) else ((.astore_n 0, 1))) else (bif Nat.ble b0 76 then ((.astore_n 1, 1)) else ((.astore_n 2, 1))))) else (bif Nat.ble b0 80 then (bif Nat.ble b0 78 then ((.astore_n 3, 1)) else (bif Nat.ble b0 79 then ((.iastore, 1)) else ((.lastore, 1)))) else (bif Nat.ble b0 84 then (bif Nat.ble b0 83 then ((.aastore, 1)) else ((.bastore, 1))) else (bif Nat.ble b0 87 then ((.pop, 1)) else ((.dup, 1)))))))) else (bif Nat.ble b0 148 then (bif Nat.ble b0 121 then (bif Nat.ble b0 105 then (bif Nat.ble b0 97 then (bif Nat.ble b0 92 then ((.dup2, 1)) else (bif Nat.ble b0 96 then ((.iadd, 1)) else ((.ladd, 1)))) else (bif Nat.ble b0 101 then (bif Nat.ble b0 100 then ((.isub, 1)) else ((.lsub, 1))) else (bif Nat.ble b0 104 then ((.imul, 1)) else ((.lmul, 1))))) else (bif Nat.ble b0 112 then (bif Nat.ble b0 108 then ((.idiv, 1)) else (bif Nat.ble b0 109 then ((.ldiv, 1)) else ((.irem, 1)))) else (bif Nat.ble b0 116 then (bif Nat.ble b0 113 then ((.lrem, 1)) else ((.ineg, 1))) else (bif Nat.ble b0 120 then ((.ishl, 1)) else ((.lshl, 1)))))) else (bif Nat.ble b0 129 then (bif Nat.ble b0 124 then (bif Nat.ble b0 122 then ((.ishr, 1)) else (bif Nat.ble b0 123 then ((.lshr, 1)) else ((.iushr, 1)))) else (bif Nat.ble b0 127 then (bif Nat.ble b0 126 then ((.iand, 1)) else ((.land, 1))) else (bif Nat.ble b0 128 then ((.ior, 1)) else ((.lor, 1))))) else (bif Nat.ble b0 132 then (bif Nat.ble b0 130 then ((.ixor, 1)) else (bif Nat.ble b0 131 then ((.lxor, 1)) else ((.iinc b1 (Reader.signed 8 b2), 3)))) else (bif Nat.ble b0 136 then (bif Nat.ble b0 133 then ((.i2l, 1)) else ((.l2i, 1))) else (bif Nat.ble b0 145 then ((.i2b, 1)) else ((.lcmp, 1))))))) else (bif Nat.ble b0 172 then (bif Nat.ble b0 159 then (bif Nat.ble b0 155 then (bif Nat.ble b0 153 then ((.ifCond .eq (Reader.signed 16 (b1 * 256 + b2)), 3)) else (bif Nat.ble b0 154 then ((.ifCond .ne (Reader.signed 16 (b1 * 256 + b2)), 3)) else ((.ifCond .lt (Reader.signed 16 (b1 * 256 + b2)), 3)))) else (bif Nat.ble b0 157 then (bif Nat.ble b0 156 then ((.ifCond .ge (Reader.signed 16 (b1 * 256 + b2)), 3)) else ((.ifCond .gt (Reader.signed 16 (b1 * 256 + b2)), 3))) else (bif Nat.ble b0 158 then ((.ifCond .le (Reader.signed 16 (b1 * 256 + b2)), 3)) else ((.if_icmp .eq (Reader.signed 16 (b1 * 256 + b2)), 3))))) else (bif Nat.ble b0 162 then (bif Nat.ble b0 160 then ((.if_icmp .ne (Reader.signed 16 (b1 * 256 + b2)), 3)) else (bif Nat.ble b0 161 then ((.if_icmp .lt (Reader.signed 16 (b1 * 256 + b2)), 3)) else ((.if_icmp .ge (Reader.signed 16 (b1 * 256 + b2)), 3)))) else (bif Nat.ble b0 164 then (bif Nat.ble b0 163 then ((.if_icmp .gt (Reader.signed 16 (b1 * 256 + b2)), 3)) else ((.if_icmp .le (Reader.signed 16 (b1 * 256 + b2)), 3))) else (bif Nat.ble b0 167 then ((.goto (Reader.signed 16 (b1 * 256 + b2)), 3)) else ((.ireturn, 1)))))) else (bif Nat.ble b0 183 then (bif Nat.ble b0 177 then (bif Nat.ble b0 173 then ((.lreturn, 1)) else (bif Nat.ble b0 176 then ((.areturn, 1)) else ((.return_, 1)))) else (bif Nat.ble b0 181 then (bif Nat.ble b0 180 then ((.getfield (b1 * 256 + b2), 3)) else ((.putfield (b1 * 256 + b2), 3))) else (bif Nat.ble b0 182 then ((.invokevirtual (b1 * 256 + b2), 3)) else ((.invokespecial (b1 * 256 + b2), 3))))) else (bif Nat.ble b0 189 then (bif Nat.ble b0 184 then ((.invokestatic (b1 * 256 + b2), 3)) else (bif Nat.ble b0 187 then ((.new (b1 * 256 + b2), 3)) else ((.anewarray (b1 * 256 + b2), 3)))) else (bif Nat.ble b0 191 then (bif Nat.ble b0 190 then ((.arraylength, 1)) else ((.athrow, 1))) else (bif Nat.ble b0 198 then ((.ifnull (Reader.signed 16 (b1 * 256 + b2)), 3)) else ((.ifnonnull (Reader.signed 16 (b1 * 256 + b2)), 3))))))))
def zqF (code : ByteArray) (pc : Nat) : Option (Instr × Nat) :=
  if zqT code pc (zqG (zqB (zqC code) pc) (zqB (zqC code) (pc + 1)) (zqB (zqC code) (pc + 1 + 1))).1 (zqG (zqB (zqC code) pc) (zqB (zqC code) (pc + 1)) (zqB (zqC code) (pc + 1 + 1))).2 = true then some (zqG (zqB (zqC code) pc) (zqB (zqC code) (pc + 1)) (zqB (zqC code) (pc + 1 + 1)))
  else match decode code pc with
    | .ok q => some q
    | .error _ => none
theorem zqF_d {code : ByteArray} {pc : Nat} {q : Instr × Nat} (h : zqF code pc = some q) : decode code pc = .ok q := by
  unfold zqF at h
  split at h
  next h1 => cases h; exact zqT_d h1
  next =>
    split at h
    next q' h2 => cases h; exact h2
    next => cases h
end
section
-- part 07.frag.lean.txt
/-! ===== pieces of programs: what their code must be (chk), what they do (wp), and that the one does the other ===== -/
abbrev zGam : Type := List (Nat × Nat)
abbrev zLoc : Type := List Int
def zget : zLoc → Nat → Int
  | [], _ => 0
  | a :: _, 0 => a
  | _ :: l, k + 1 => zget l k
def zsetl : zLoc → Nat → Int → zLoc
  | [], 0, v => [v]
  | [], k + 1, v => 0 :: zsetl [] k v
  | _ :: l, 0, v => v :: l
  | a :: l, k + 1, v => a :: zsetl l k v
theorem zget_nil (j : Nat) : zget [] j = 0 := by cases j <;> rfl
theorem zget_set (ρ : zLoc) (k : Nat) (v : Int) (j : Nat) : zget (zsetl ρ k v) j = if j = k then v else zget ρ j := by
  induction k generalizing ρ j with
  | zero =>
    cases ρ with
    | nil => cases j with
      | zero => rfl
      | succ j => show zget [] j = _; rw [zget_nil]; simp [zget]
    | cons a l => cases j with
      | zero => rfl
      | succ j => simp [zsetl, zget]
  | succ k ih =>
    cases ρ with
    | nil => cases j with
      | zero => simp [zsetl, zget]
      | succ j => show zget (zsetl [] k v) j = _; rw [ih, zget_nil, zget_nil]; simp
    | cons a l => cases j with
      | zero => simp [zsetl, zget]
      | succ j => show zget (zsetl l k v) j = _; rw [ih]; simp [zget]
def zHold (Γ : zGam) (ρ : zLoc) (lv : zLv) : Prop := ∀ q ∈ Γ, zLook lv q.1 = some (q.2, zget ρ q.1)
def zGG (G : Nat → List zV → zLv → zMem → Prop) (Γ : zGam) (pc : Nat) (st : List zV) (ρ : zLoc) (M : zMem) : Prop := ∀ lv, zHold Γ ρ lv → G pc st lv M
def zat (ev : zEv) (pc : Nat) (i : Instr) (n : Nat) : Bool := zqT ev.2.1 pc i n
theorem zat_d {ev : zEv} {pc : Nat} {i : Instr} {n : Nat} (h : zat ev pc i n = true) : decode ev.2.1 pc = .ok (i, n) := zqT_d h
def zRMon (Rn : zRnT) : Prop := ∀ f as M (K K' : Option zV → zMem → Prop), (∀ v u, K v u → K' v u) → Rn f as M K → Rn f as M K'
-- expressions
abbrev zEC : Type := zEv → zGam → Nat → Nat → Option Nat → Option Nat
abbrev zEW : Type := List zSh → zRnT → (Int → zLoc → zMem → Prop) → zLoc → zMem → Prop
def zESnd (t : Nat) (c : zEC) (w : zEW) : Prop := ∀ (ev : zEv) (S : List zSh) (Rn : zRnT) (rt : Option zV → zMem → Prop) (G : Nat → List zV → zLv → zMem → Prop), zClosed ev S Rn rt G →
  ∀ (Γ : zGam) (nx : Option Nat) (pc pc' : Nat) (st : List zV) (ρ : zLoc) (M : zMem) (K : Int → zLoc → zMem → Prop), c ev Γ (zcats st) pc nx = some pc' → w S Rn K ρ M →
  (∀ v ρ' M', K v ρ' M' → zGG G Γ pc' ((t, v) :: st) ρ' M' ∧ ∀ x, nx = some x → zGG G Γ x ((t, v) :: st) ρ' M') → zGG G Γ pc st ρ M
def zEMon (w : zEW) : Prop := ∀ (S : List zSh) (Rn : zRnT), zRMon Rn → ∀ (K K' : Int → zLoc → zMem → Prop) (ρ : zLoc) (M : zMem), (∀ v ρ' M', K v ρ' M' → K' v ρ' M') → w S Rn K ρ M → w S Rn K' ρ M
def zE (t : Nat) : Type := { x : zEC × zEW // zESnd t x.1 x.2 ∧ zEMon x.2 }
def zec {t : Nat} (e : zE t) : zEC := e.1.1
def zew {t : Nat} (e : zE t) : zEW := e.1.2
theorem zes {t : Nat} (e : zE t) : zESnd t (zec e) (zew e) := e.2.1
theorem zem {t : Nat} (e : zE t) : zEMon (zew e) := e.2.2
theorem zcats_cons (v : zV) (st : List zV) : zcats (v :: st) = zcat v + zcats st := rfl
/-- one instruction that pushes a value -/
def zeLeaf (t : Nat) (cands : zEv → zGam → List (Instr × Nat)) (val : zLoc → Int)
    (h : ∀ (ev : zEv) (Γ : zGam) (i : Instr) (n : Nat), (i, n) ∈ cands ev Γ → ∀ S Rn rt G pc st lv M ρ, zHold Γ ρ lv → G (pc + n) ((t, val ρ) :: st) lv M → zStep ev S Rn rt i n pc st lv M G) : zE t :=
  ⟨(fun ev Γ _ pc _ => ((cands ev Γ).find? (fun q => zat ev pc q.1 q.2)).map (fun q => pc + q.2), fun _ _ K ρ M => K (val ρ) ρ M),
    fun ev S Rn rt G hG Γ nx pc pc' st ρ M K hc hw hk lv hlv => by
      dsimp only at hc hw
      cases hf : (cands ev Γ).find? (fun q => zat ev pc q.1 q.2) with
      | none => rw [hf] at hc; cases hc
      | some q =>
        rw [hf] at hc
        obtain ⟨i, n⟩ := q
        have h1 : zat ev pc i n = true := List.find?_some (p := fun q : Instr × Nat => zat ev pc q.1 q.2) hf
        have h2 := List.mem_of_find?_eq_some hf
        have h3 : pc + n = pc' := Option.some.inj hc
        subst h3
        exact hG.1 i n pc st lv M (zat_d h1) (h ev Γ i n h2 S Rn rt G pc st lv M ρ hlv ((hk _ ρ M hw).1 lv hlv)),
    fun _ _ _ _ _ _ _ hk h => hk _ _ _ h⟩
def zkI (v : Int) : List (Instr × Nat) := (if -1 ≤ v ∧ v ≤ 5 then [(.iconst v, 1)] else []) ++ ((if -128 ≤ v ∧ v ≤ 127 then [(.bipush v, 2)] else []) ++ (if -32768 ≤ v ∧ v ≤ 32767 then [(.sipush v, 3)] else []))
theorem zkI_mem {v : Int} {i : Instr} {n : Nat} (h : (i, n) ∈ zkI v) : (i = .iconst v ∧ n = 1 ∧ -1 ≤ v ∧ v ≤ 5) ∨ (i = .bipush v ∧ n = 2 ∧ -128 ≤ v ∧ v ≤ 127) ∨ (i = .sipush v ∧ n = 3 ∧ -32768 ≤ v ∧ v ≤ 32767) := by
  unfold zkI at h
  rcases List.mem_append.mp h with h | h
  · split at h
    next hc => simp at h; exact Or.inl ⟨h.1, h.2, hc⟩
    next => cases h
  · rcases List.mem_append.mp h with h | h
    · split at h
      next hc => simp at h; exact Or.inr (Or.inl ⟨h.1, h.2, hc⟩)
      next => cases h
    · split at h
      next hc => simp at h; exact Or.inr (Or.inr ⟨h.1, h.2, hc⟩)
      next => cases h
/-- a written number -/
def zeI (v : Int) : zE 0 := zeLeaf 0 (fun _ _ => zkI v) (fun _ => v) (fun ev Γ i n hm S Rn rt G pc st lv M ρ _ hk => by
  rcases zkI_mem hm with ⟨rfl, rfl, h1, h2⟩ | ⟨rfl, rfl, h1, h2⟩ | ⟨rfl, rfl, h1, h2⟩
  · exact ⟨rfl, ⟨h1, h2⟩, hk⟩
  · exact ⟨rfl, ⟨h1, h2⟩, hk⟩
  · exact ⟨rfl, ⟨h1, h2⟩, hk⟩)
/-- a number of the pool -/
def zeLdc (k : Nat) (v : Int) : zE 0 := zeLeaf 0 (fun ev _ => if ev.2.2.2.2.2.2.1 k = some (0, v) ∧ -2147483648 ≤ v ∧ v < 2147483648 then [(.ldc k, 2), (.ldc_w k, 3)] else []) (fun _ => v) (fun ev Γ i n hm S Rn rt G pc st lv M ρ _ hk => by
  split at hm
  next hc =>
    simp only [List.mem_cons, List.not_mem_nil, or_false, Prod.mk.injEq] at hm
    rcases hm with ⟨rfl, rfl⟩ | ⟨rfl, rfl⟩
    · exact ⟨rfl, v, hc.1, hc.2, hk⟩
    · exact ⟨rfl, v, hc.1, hc.2, hk⟩
  next => cases hm)
def zeLdcL (k : Nat) (v : Int) : zE 1 := zeLeaf 1 (fun ev _ => if ev.2.2.2.2.2.2.1 k = some (1, v) ∧ -9223372036854775808 ≤ v ∧ v < 9223372036854775808 then [(.ldc2_w k, 3)] else []) (fun _ => v) (fun ev Γ i n hm S Rn rt G pc st lv M ρ _ hk => by
  split at hm
  next hc =>
    simp only [List.mem_cons, List.not_mem_nil, or_false, Prod.mk.injEq] at hm
    obtain ⟨rfl, rfl⟩ := hm
    exact ⟨rfl, v, hc.1, hc.2, hk⟩
  next => cases hm)
def zeIL (v : Fin 2) : zE 1 := zeLeaf 1 (fun _ _ => [(.lconst v, 1)]) (fun _ => ((v : Nat) : Int)) (fun ev Γ i n hm S Rn rt G pc st lv M ρ _ hk => by
  simp only [List.mem_cons, List.not_mem_nil, or_false, Prod.mk.injEq] at hm
  obtain ⟨rfl, rfl⟩ := hm
  exact ⟨rfl, hk⟩)
def zeNull : zE 2 := zeLeaf 2 (fun _ _ => [(.aconst_null, 1)]) (fun _ => -1) (fun ev Γ i n hm S Rn rt G pc st lv M ρ _ hk => by
  simp only [List.mem_cons, List.not_mem_nil, or_false, Prod.mk.injEq] at hm
  obtain ⟨rfl, rfl⟩ := hm
  exact ⟨rfl, hk⟩)
theorem zfin4 {k : Nat} (h : k < 4) : ((Fin.ofNat 4 k : Fin 4) : Nat) = k := Nat.mod_eq_of_lt h
def zkL (a : Nat → Instr) (b : Fin 4 → Instr) (t k : Nat) (Γ : zGam) : List (Instr × Nat) := if (k, t) ∈ Γ then (if k < 4 then [(b (Fin.ofNat 4 k), 1)] else [(a k, 2)]) else []
theorem zkL_mem {a : Nat → Instr} {b : Fin 4 → Instr} {t k : Nat} {Γ : zGam} {i : Instr} {n : Nat} (h : (i, n) ∈ zkL a b t k Γ) : (k, t) ∈ Γ ∧ ((k < 4 ∧ i = b (Fin.ofNat 4 k) ∧ n = 1) ∨ (i = a k ∧ n = 2)) := by
  unfold zkL at h
  split at h
  next hc =>
    refine ⟨hc, ?_⟩
    split at h
    next h4 => simp at h; exact Or.inl ⟨h4, h⟩
    next => simp at h; exact Or.inr h
  next => cases h
def zeL (k : Nat) : zE 0 := zeLeaf 0 (fun _ Γ => zkL .iload .iload_n 0 k Γ) (fun ρ => zget ρ k) (fun ev Γ i n hm S Rn rt G pc st lv M ρ hlv hk => by
  obtain ⟨hin, ⟨h4, rfl, rfl⟩ | ⟨rfl, rfl⟩⟩ := zkL_mem hm
  · exact ⟨rfl, _, by rw [zfin4 h4]; exact hlv _ hin, hk⟩
  · exact ⟨rfl, _, hlv _ hin, hk⟩)
def zeLl (k : Nat) : zE 1 := zeLeaf 1 (fun _ Γ => zkL .lload .lload_n 1 k Γ) (fun ρ => zget ρ k) (fun ev Γ i n hm S Rn rt G pc st lv M ρ hlv hk => by
  obtain ⟨hin, ⟨h4, rfl, rfl⟩ | ⟨rfl, rfl⟩⟩ := zkL_mem hm
  · exact ⟨rfl, _, by rw [zfin4 h4]; exact hlv _ hin, hk⟩
  · exact ⟨rfl, _, hlv _ hin, hk⟩)
def zeA (k : Nat) : zE 2 := zeLeaf 2 (fun _ Γ => zkL .aload .aload_n 2 k Γ) (fun ρ => zget ρ k) (fun ev Γ i n hm S Rn rt G pc st lv M ρ hlv hk => by
  obtain ⟨hin, ⟨h4, rfl, rfl⟩ | ⟨rfl, rfl⟩⟩ := zkL_mem hm
  · exact ⟨rfl, _, by rw [zfin4 h4]; exact hlv _ hin, hk⟩
  · exact ⟨rfl, _, hlv _ hin, hk⟩)
def zif {α : Type} (b : Bool) (x : α) : Option α := if b = true then some x else none
theorem zif_some {α : Type} {b : Bool} {x y : α} (h : zif b x = some y) : b = true ∧ x = y := by
  unfold zif at h
  split at h
  next hb => exact ⟨hb, Option.some.inj h⟩
  next => cases h
/-- one value in, one out -/
def zeUn (t t' : Nat) (i : Instr) (F : Int → Int) (h : ∀ ev S Rn rt G pc x r lv M, G (pc + 1) ((t', F x) :: r) lv M → zStep ev S Rn rt i 1 pc ((t, x) :: r) lv M G) (a : zE t) : zE t' :=
  ⟨(fun ev Γ d pc _ => (zec a ev Γ d pc none).bind fun p => zif (zat ev p i 1) (p + 1), fun S Rn K ρ M => zew a S Rn (fun x ρ M => K (F x) ρ M) ρ M),
    fun ev S Rn rt G hG Γ nx pc pc' st ρ M K hc hw hk => by
      obtain ⟨p, h1, h2⟩ := Option.bind_eq_some_iff.mp hc
      obtain ⟨h3, rfl⟩ := zif_some h2
      exact zes a ev S Rn rt G hG Γ none pc p st ρ M _ h1 hw (fun v ρ' M' hv => ⟨fun lv hlv => hG.1 i 1 p _ lv M' (zat_d h3) (h ev S Rn rt G p v st lv M' ((hk _ _ _ hv).1 lv hlv)), fun x hx => by cases hx⟩),
    fun S Rn hR K K' ρ M hk h => zem a S Rn hR _ _ ρ M (fun v ρ' M' => hk _ _ _) h⟩
/-- two values in, one out -/
def zeBin (t t' : Nat) (i : Instr) (F : Int → Int → Int) (P : Int → Prop) (h : ∀ ev S Rn rt G pc x y r lv M, P y → G (pc + 1) ((t', F x y) :: r) lv M → zStep ev S Rn rt i 1 pc ((t, y) :: (t, x) :: r) lv M G) (a b : zE t) : zE t' :=
  ⟨(fun ev Γ d pc _ => (zec a ev Γ d pc none).bind fun p => (zec b ev Γ (zcat (t, 0) + d) p none).bind fun p2 => zif (zat ev p2 i 1) (p2 + 1), fun S Rn K ρ M => zew a S Rn (fun x ρ M => zew b S Rn (fun y ρ M => P y ∧ K (F x y) ρ M) ρ M) ρ M),
    fun ev S Rn rt G hG Γ nx pc pc' st ρ M K hc hw hk => by
      obtain ⟨p, h1, h2⟩ := Option.bind_eq_some_iff.mp hc
      obtain ⟨p2, g2, g3⟩ := Option.bind_eq_some_iff.mp h2
      obtain ⟨g4, rfl⟩ := zif_some g3
      exact zes a ev S Rn rt G hG Γ none pc p st ρ M _ h1 hw (fun x ρ1 M1 hx => ⟨zes b ev S Rn rt G hG Γ none p p2 ((t, x) :: st) ρ1 M1 _ g2 hx (fun y ρ2 M2 hy => ⟨fun lv hlv => hG.1 i 1 p2 _ lv M2 (zat_d g4) (h ev S Rn rt G p2 x y st lv M2 hy.1 ((hk _ _ _ hy.2).1 lv hlv)), fun x hx => by cases hx⟩), fun x hx => by cases hx⟩),
    fun S Rn hR K K' ρ M hk h => zem a S Rn hR _ _ ρ M (fun v ρ' M' => zem b S Rn hR _ _ ρ' M' (fun v2 ρ2 M2 h2 => ⟨h2.1, hk _ _ _ h2.2⟩)) h⟩
def zeAdd : zE 0 → zE 0 → zE 0 := zeBin 0 0 .iadd (fun x y => zw32 (x + y)) (fun _ => True) (fun ev S Rn rt G pc x y r lv M _ h => ⟨rfl, x, y, r, rfl, h⟩)
def zeSub : zE 0 → zE 0 → zE 0 := zeBin 0 0 .isub (fun x y => zw32 (x - y)) (fun _ => True) (fun ev S Rn rt G pc x y r lv M _ h => ⟨rfl, x, y, r, rfl, h⟩)
def zeMul : zE 0 → zE 0 → zE 0 := zeBin 0 0 .imul (fun x y => zw32 (x * y)) (fun _ => True) (fun ev S Rn rt G pc x y r lv M _ h => ⟨rfl, x, y, r, rfl, h⟩)
def zeDiv : zE 0 → zE 0 → zE 0 := zeBin 0 0 .idiv (fun x y => zw32 (x.tdiv y)) (fun y => y ≠ 0) (fun ev S Rn rt G pc x y r lv M hy h => ⟨rfl, x, y, r, rfl, hy, h⟩)
def zeRem : zE 0 → zE 0 → zE 0 := zeBin 0 0 .irem (fun x y => x.tmod y) (fun y => y ≠ 0) (fun ev S Rn rt G pc x y r lv M hy h => ⟨rfl, x, y, r, rfl, hy, h⟩)
def zeAnd : zE 0 → zE 0 → zE 0 := zeBin 0 0 .iand zand (fun _ => True) (fun ev S Rn rt G pc x y r lv M _ h => ⟨rfl, x, y, r, rfl, h⟩)
def zeOr : zE 0 → zE 0 → zE 0 := zeBin 0 0 .ior zor (fun _ => True) (fun ev S Rn rt G pc x y r lv M _ h => ⟨rfl, x, y, r, rfl, h⟩)
def zeXor : zE 0 → zE 0 → zE 0 := zeBin 0 0 .ixor zxor (fun _ => True) (fun ev S Rn rt G pc x y r lv M _ h => ⟨rfl, x, y, r, rfl, h⟩)
def zeShl : zE 0 → zE 0 → zE 0 := zeBin 0 0 .ishl zshl (fun _ => True) (fun ev S Rn rt G pc x y r lv M _ h => ⟨rfl, x, y, r, rfl, h⟩)
def zeShr : zE 0 → zE 0 → zE 0 := zeBin 0 0 .ishr zshr (fun _ => True) (fun ev S Rn rt G pc x y r lv M _ h => ⟨rfl, x, y, r, rfl, h⟩)
def zeUshr : zE 0 → zE 0 → zE 0 := zeBin 0 0 .iushr zushr (fun _ => True) (fun ev S Rn rt G pc x y r lv M _ h => ⟨rfl, x, y, r, rfl, h⟩)
def zeAddL : zE 1 → zE 1 → zE 1 := zeBin 1 1 .ladd (fun x y => zw64 (x + y)) (fun _ => True) (fun ev S Rn rt G pc x y r lv M _ h => ⟨rfl, x, y, r, rfl, h⟩)
def zeSubL : zE 1 → zE 1 → zE 1 := zeBin 1 1 .lsub (fun x y => zw64 (x - y)) (fun _ => True) (fun ev S Rn rt G pc x y r lv M _ h => ⟨rfl, x, y, r, rfl, h⟩)
def zeMulL : zE 1 → zE 1 → zE 1 := zeBin 1 1 .lmul (fun x y => zw64 (x * y)) (fun _ => True) (fun ev S Rn rt G pc x y r lv M _ h => ⟨rfl, x, y, r, rfl, h⟩)
def zeCmpL : zE 1 → zE 1 → zE 0 := zeBin 1 0 .lcmp zcmp (fun _ => True) (fun ev S Rn rt G pc x y r lv M _ h => ⟨rfl, x, y, r, rfl, h⟩)
def zeNeg : zE 0 → zE 0 := zeUn 0 0 .ineg (fun x => zw32 (-x)) (fun ev S Rn rt G pc x r lv M h => ⟨rfl, x, r, rfl, h⟩)
def zeI2L : zE 0 → zE 1 := zeUn 0 1 .i2l (fun x => x) (fun ev S Rn rt G pc x r lv M h => ⟨rfl, x, r, rfl, h⟩)
def zeL2I : zE 1 → zE 0 := zeUn 1 0 .l2i (fun x => zw32 x) (fun ev S Rn rt G pc x r lv M h => ⟨rfl, x, r, rfl, h⟩)
def zeI2B : zE 0 → zE 0 := zeUn 0 0 .i2b zi2b (fun ev S Rn rt G pc x r lv M h => ⟨rfl, x, r, rfl, h⟩)
/-- an int field -/
def zeF (k ci j : Nat) (o : zE 2) : zE 0 :=
  ⟨(fun ev Γ d pc _ => (zec o ev Γ d pc none).bind fun p => zif (zat ev p (.getfield k) 3 && decide (ev.2.2.2.2.1 k = some (ci, j))) (p + 3), fun S Rn K ρ M => zew o S Rn (fun x ρ M => zFld S x ci j = some none ∧ K (M x j) ρ M) ρ M),
    fun ev S Rn rt G hG Γ nx pc pc' st ρ M K hc hw hk => by
      obtain ⟨p, h1, h2⟩ := Option.bind_eq_some_iff.mp hc
      obtain ⟨h3, rfl⟩ := zif_some h2
      rw [Bool.and_eq_true, decide_eq_true_eq] at h3
      exact zes o ev S Rn rt G hG Γ none pc p st ρ M _ h1 hw (fun v ρ' M' hv => ⟨fun lv hlv => hG.1 _ 3 p _ lv M' (zat_d h3.1) ⟨rfl, v, st, ci, j, rfl, h3.2, Or.inl ⟨hv.1, (hk _ _ _ hv.2).1 lv hlv⟩⟩, fun x hx => by cases hx⟩),
    fun S Rn hR K K' ρ M hk h => zem o S Rn hR _ _ ρ M (fun v ρ' M' hv => ⟨hv.1, hk _ _ _ hv.2⟩) h⟩
/-- a field that is a reference -/
def zeFR (k ci j : Nat) (o : zE 2) : zE 2 :=
  ⟨(fun ev Γ d pc _ => (zec o ev Γ d pc none).bind fun p => zif (zat ev p (.getfield k) 3 && decide (ev.2.2.2.2.1 k = some (ci, j))) (p + 3), fun S Rn K ρ M => zew o S Rn (fun x ρ M => ∃ r : Nat, zFld S x ci j = some (some (some r)) ∧ K (r : Int) ρ M) ρ M),
    fun ev S Rn rt G hG Γ nx pc pc' st ρ M K hc hw hk => by
      obtain ⟨p, h1, h2⟩ := Option.bind_eq_some_iff.mp hc
      obtain ⟨h3, rfl⟩ := zif_some h2
      rw [Bool.and_eq_true, decide_eq_true_eq] at h3
      exact zes o ev S Rn rt G hG Γ none pc p st ρ M _ h1 hw (fun v ρ' M' ⟨r, hv⟩ => ⟨fun lv hlv => hG.1 _ 3 p _ lv M' (zat_d h3.1) ⟨rfl, v, st, ci, j, rfl, h3.2, Or.inr ⟨some r, hv.1, (hk _ _ _ hv.2).1 lv hlv⟩⟩, fun x hx => by cases hx⟩),
    fun S Rn hR K K' ρ M hk h => zem o S Rn hR _ _ ρ M (fun v ρ' M' ⟨r, hv⟩ => ⟨r, hv.1, hk _ _ _ hv.2⟩) h⟩
/-- array and index, then one instruction -/
def zeIx (t' : Nat) (i : Instr) (P : List zSh → zMem → Int → Int → Int → Prop) (h : ∀ ev S Rn rt G pc a j v r lv M, P S M a j v → G (pc + 1) ((t', v) :: r) lv M → zStep ev S Rn rt i 1 pc ((0, j) :: (2, a) :: r) lv M G) (a : zE 2) (b : zE 0) : zE t' :=
  ⟨(fun ev Γ d pc _ => (zec a ev Γ d pc none).bind fun p => (zec b ev Γ (1 + d) p none).bind fun p2 => zif (zat ev p2 i 1) (p2 + 1), fun S Rn K ρ M => zew a S Rn (fun x ρ M => zew b S Rn (fun y ρ M => ∃ v, P S M x y v ∧ K v ρ M) ρ M) ρ M),
    fun ev S Rn rt G hG Γ nx pc pc' st ρ M K hc hw hk => by
      obtain ⟨p, h1, h2⟩ := Option.bind_eq_some_iff.mp hc
      obtain ⟨p2, g2, g3⟩ := Option.bind_eq_some_iff.mp h2
      obtain ⟨g4, rfl⟩ := zif_some g3
      exact zes a ev S Rn rt G hG Γ none pc p st ρ M _ h1 hw (fun x ρ1 M1 hx => ⟨zes b ev S Rn rt G hG Γ none p p2 ((2, x) :: st) ρ1 M1 _ g2 hx (fun y ρ2 M2 ⟨v, hy⟩ => ⟨fun lv hlv => hG.1 i 1 p2 _ lv M2 (zat_d g4) (h ev S Rn rt G p2 x y v st lv M2 hy.1 ((hk _ _ _ hy.2).1 lv hlv)), fun x hx => by cases hx⟩), fun x hx => by cases hx⟩),
    fun S Rn hR K K' ρ M hk h => zem a S Rn hR _ _ ρ M (fun v ρ' M' => zem b S Rn hR _ _ ρ' M' (fun v2 ρ2 M2 ⟨v, h2⟩ => ⟨v, h2.1, hk _ _ _ h2.2⟩)) h⟩
def zPi (ty : FieldType) (S : List zSh) (M : zMem) (a j v : Int) : Prop := v = M a j ∧ ∃ n, zArr S a ty n ∧ 0 ≤ j ∧ j < (n : Nat)
def zPr (S : List zSh) (_ : zMem) (a j v : Int) : Prop := ∃ (C : String) (n : Nat) (rs : List (Option Nat)) (r : Nat), zArrR S a C n rs ∧ 0 ≤ j ∧ j < n ∧ rs.getD j.toNat none = some r ∧ v = r
def zeIA : zE 2 → zE 0 → zE 0 := zeIx 0 .iaload (zPi .int) (fun ev S Rn rt G pc a j v r lv M hp h => by obtain ⟨rfl, n, h1, h2, h3⟩ := hp; exact ⟨rfl, j, a, r, n, rfl, h1, h2, h3, h⟩)
def zeZA : zE 2 → zE 0 → zE 0 := zeIx 0 .baload (zPi .boolean) (fun ev S Rn rt G pc a j v r lv M hp h => by obtain ⟨rfl, n, h1, h2, h3⟩ := hp; exact ⟨rfl, j, a, r, n, rfl, Or.inl h1, h2, h3, h⟩)
def zeBA : zE 2 → zE 0 → zE 0 := zeIx 0 .baload (zPi .byte) (fun ev S Rn rt G pc a j v r lv M hp h => by obtain ⟨rfl, n, h1, h2, h3⟩ := hp; exact ⟨rfl, j, a, r, n, rfl, Or.inr h1, h2, h3, h⟩)
def zeLA : zE 2 → zE 0 → zE 1 := zeIx 1 .laload (zPi .long) (fun ev S Rn rt G pc a j v r lv M hp h => by obtain ⟨rfl, n, h1, h2, h3⟩ := hp; exact ⟨rfl, j, a, r, n, rfl, h1, h2, h3, h⟩)
def zeRA : zE 2 → zE 0 → zE 2 := zeIx 2 .aaload zPr (fun ev S Rn rt G pc a j v r lv M hp h => by obtain ⟨C, n, rs, q, h1, h2, h3, h4, rfl⟩ := hp; exact ⟨rfl, j, a, r, C, n, rs, rfl, h1, h2, h3, by rw [h4]; exact h⟩)
def zeLen (a : zE 2) : zE 0 :=
  ⟨(fun ev Γ d pc _ => (zec a ev Γ d pc none).bind fun p => zif (zat ev p .arraylength 1) (p + 1), fun S Rn K ρ M => zew a S Rn (fun x ρ M => ∃ ty n, zArr S x ty n ∧ n < 2147483648 ∧ K (n : Nat) ρ M) ρ M),
    fun ev S Rn rt G hG Γ nx pc pc' st ρ M K hc hw hk => by
      obtain ⟨p, h1, h2⟩ := Option.bind_eq_some_iff.mp hc
      obtain ⟨h3, rfl⟩ := zif_some h2
      exact zes a ev S Rn rt G hG Γ none pc p st ρ M _ h1 hw (fun v ρ' M' ⟨ty, n, g1, g2, g3⟩ => ⟨fun lv hlv => hG.1 _ 1 p _ lv M' (zat_d h3) ⟨rfl, v, st, ty, n, rfl, g1, g2, (hk _ _ _ g3).1 lv hlv⟩, fun x hx => by cases hx⟩),
    fun S Rn hR K K' ρ M hk h => zem a S Rn hR _ _ ρ M (fun v ρ' M' ⟨ty, n, g1, g2, g3⟩ => ⟨ty, n, g1, g2, hk _ _ _ g3⟩) h⟩
end
section
-- part 08.frag2.lean.txt
/-- arguments, one behind the other -/
abbrev zEx : Type := (t : Nat) × zE t
def zasC : List zEx → zEv → zGam → Nat → Nat → Option Nat
  | [], _, _, _, pc => some pc
  | ⟨t, a⟩ :: r, ev, Γ, d, pc => (zec a ev Γ d pc none).bind fun p => zasC r ev Γ (zcat (t, 0) + d) p
def zasW : List zEx → List zSh → zRnT → (List zV → zLoc → zMem → Prop) → zLoc → zMem → Prop
  | [], _, _, K, ρ, M => K [] ρ M
  | ⟨t, a⟩ :: r, S, Rn, K, ρ, M => zew a S Rn (fun v ρ M => zasW r S Rn (fun vs ρ M => K ((t, v) :: vs) ρ M) ρ M) ρ M
theorem zas_snd (as : List zEx) : ∀ {ev : zEv} {S : List zSh} {Rn : zRnT} {rt : Option zV → zMem → Prop} {G : Nat → List zV → zLv → zMem → Prop}, zClosed ev S Rn rt G →
    ∀ {Γ : zGam} {pc pc' : Nat} {st : List zV} {ρ : zLoc} {M : zMem} {K : List zV → zLoc → zMem → Prop}, zasC as ev Γ (zcats st) pc = some pc' → zasW as S Rn K ρ M →
    (∀ vs ρ' M', vs.length = as.length → K vs ρ' M' → zGG G Γ pc' (vs.reverse ++ st) ρ' M') → zGG G Γ pc st ρ M := by
  induction as with
  | nil =>
    intro ev S Rn rt G hG Γ pc pc' st ρ M K hc hw hk
    cases hc
    exact hk [] ρ M rfl hw
  | cons a r ih =>
    intro ev S Rn rt G hG Γ pc pc' st ρ M K hc hw hk
    obtain ⟨t, a⟩ := a
    obtain ⟨p, h1, h2⟩ := Option.bind_eq_some_iff.mp hc
    refine zes a ev S Rn rt G hG Γ none pc p st ρ M _ h1 hw (fun v ρ1 M1 hv => ⟨?_, fun x hx => by cases hx⟩)
    refine ih hG (st := (t, v) :: st) h2 hv (fun vs ρ2 M2 hl h3 => ?_)
    have := hk ((t, v) :: vs) ρ2 M2 (by rw [List.length_cons, hl, List.length_cons]) h3
    rw [List.reverse_cons, List.append_assoc] at this
    exact this
theorem zas_mon (as : List zEx) : ∀ {S : List zSh} {Rn : zRnT}, zRMon Rn → ∀ {K K' : List zV → zLoc → zMem → Prop} {ρ : zLoc} {M : zMem}, (∀ vs ρ' M', K vs ρ' M' → K' vs ρ' M') → zasW as S Rn K ρ M → zasW as S Rn K' ρ M := by
  induction as with
  | nil => intro S Rn hR K K' ρ M hk h; exact hk _ _ _ h
  | cons a r ih =>
    intro S Rn hR K K' ρ M hk h
    obtain ⟨t, a⟩ := a
    exact zem a S Rn hR _ _ ρ M (fun v ρ' M' hv => ih hR (fun vs _ _ => hk _ _ _) hv) h
def zRoom (ev : zEv) (d f : Nat) : Bool := decide (d ≤ 8) && (decide ((ev.2.2.2.2.2.2.2.2.2 f).2.2.2.2.1 + 1 ≤ ev.2.2.2.2.2.2.2.1) && decide (8 + ((ev.2.2.2.2.2.2.2.2.2 f).2.2.1 + 11) + (ev.2.2.2.2.2.2.2.2.2 f).2.2.2.2.2 ≤ ev.2.2.2.2.2.2.2.2.1))
theorem zRoom_d {ev : zEv} {d f : Nat} (h : zRoom ev d f = true) : d ≤ 8 ∧ (ev.2.2.2.2.2.2.2.2.2 f).2.2.2.2.1 + 1 ≤ ev.2.2.2.2.2.2.2.1 ∧ 8 + ((ev.2.2.2.2.2.2.2.2.2 f).2.2.1 + 11) + (ev.2.2.2.2.2.2.2.2.2 f).2.2.2.2.2 ≤ ev.2.2.2.2.2.2.2.2.1 := by
  unfold zRoom at h
  simpa using h
/-- the code of a call: kind 0 of an object (the first argument), 1 and 2 static -/
def zcallC (kd k f ci na : Nat) (as : List zEx) (ev : zEv) (Γ : zGam) (d pc : Nat) : Option Nat :=
  (zasC as ev Γ d pc).bind fun p => zif (zat ev p (if kd = 0 then .invokevirtual k else .invokestatic k) 3 && (decide (ev.2.2.2.2.2.1 k = some (kd, f, ci, na)) && (zRoom ev d f &&
    (decide (kd < 3) && decide (as.length = (if kd = 0 then na + 1 else na)))))) (p + 3)
/-- what a call needs of its first argument -/
def zRecv (S : List zSh) (kd ci : Nat) (vs : List zV) : Prop := kd = 0 → ∃ o as, vs = (2, o) :: as ∧ zObj S o ci
theorem zcall_snd {kd k f ci na : Nat} {as : List zEx} {ev : zEv} {S : List zSh} {Rn : zRnT} {rt : Option zV → zMem → Prop} {G : Nat → List zV → zLv → zMem → Prop} (hG : zClosed ev S Rn rt G)
    {Γ : zGam} {pc pc' : Nat} {st : List zV} {ρ : zLoc} {M : zMem} {K : Option zV → zLoc → zMem → Prop} (hc : zcallC kd k f ci na as ev Γ (zcats st) pc = some pc')
    (hw : zasW as S Rn (fun vs ρ M => zRecv S kd ci vs ∧ Rn (zFn f) vs M (fun v M' => K v ρ M')) ρ M) 
    (hk : ∀ v ρ' M', K v ρ' M' → zGG G Γ pc' (v.toList ++ st) ρ' M') : zGG G Γ pc st ρ M := by
  obtain ⟨p, h1, h2⟩ := Option.bind_eq_some_iff.mp hc
  obtain ⟨h3, rfl⟩ := zif_some h2
  simp only [Bool.and_eq_true, decide_eq_true_eq] at h3
  obtain ⟨h3, h4, h5, h6, h7⟩ := h3
  obtain ⟨r1, r2, r3⟩ := zRoom_d h5
  refine zas_snd as hG h1 hw (fun vs ρ1 M1 hl ⟨hrv, hrn⟩ => ?_)
  intro lv hlv
  have hrn2 := hG.2.2 _ vs M1 _ (fun v M' => G (p + 3) (v.toList ++ st) lv M') (fun v u hv => hk v ρ1 u hv lv hlv) hrn
  rw [← hG.2.1] at hrn2
  rcases (show kd = 0 ∨ kd = 1 ∨ kd = 2 by omega) with rfl | hkd
  · obtain ⟨o, as', rfl, ho⟩ := hrv rfl
    have h3 := zat_d h3
    rw [if_pos rfl] at h3
    refine hG.1 _ 3 p _ lv M1 h3 ⟨rfl, o, as', st, f, ci, na, by simp, h4, ?_, ho, r1, r2, r3, hrn2⟩
    rw [if_pos rfl, ← hl, List.length_cons] at h7
    omega
  · have h3 := zat_d h3
    have hk0 : ¬ kd = 0 := by omega
    rw [if_neg hk0] at h3
    refine hG.1 _ 3 p _ lv M1 h3 ⟨rfl, Or.inl ⟨vs, st, kd, f, ci, na, hkd, rfl, h4, ?_, r1, r2, r3, hrn2⟩⟩
    rw [if_neg hk0] at h7
    exact hl.trans h7
/-- a call that answers -/
def zeCall (t : Nat) (kd k f ci na : Nat) (as : List zEx) : zE t :=
  ⟨(fun ev Γ d pc _ => zcallC kd k f ci na as ev Γ d pc, fun S Rn K ρ M => zasW as S Rn (fun vs ρ M => zRecv S kd ci vs ∧ Rn (zFn f) vs M (fun v M' => ∃ x, v = some (t, x) ∧ K x ρ M')) ρ M),
    fun ev S Rn rt G hG Γ nx pc pc' st ρ M K hc hw hk => zcall_snd hG (K := fun v ρ M' => ∃ x, v = some (t, x) ∧ K x ρ M') hc hw (fun v ρ' M' ⟨x, hv, hx⟩ => by subst hv; exact (hk x ρ' M' hx).1),
    fun S Rn hR K K' ρ M hk h => zas_mon as hR (fun vs ρ' M' hv => ⟨hv.1, hR _ _ _ _ _ (fun v u ⟨x, h1, h2⟩ => ⟨x, h1, hk _ _ _ h2⟩) hv.2⟩) h⟩
/-- Math.max (mx: 3), Math.min (mx: 4) -/
def zeMM (mx k : Nat) (a b : zE 0) : zE 0 :=
  ⟨(fun ev Γ d pc _ => (zec a ev Γ d pc none).bind fun p => (zec b ev Γ (1 + d) p none).bind fun p2 => zif (zat ev p2 (.invokestatic k) 3 && (decide ((ev.2.2.2.2.2.1 k).map (·.1) = some mx) && (decide (mx = 3 ∨ mx = 4) && (decide (1 ≤ ev.2.2.2.2.2.2.2.1) && decide (d + 13 ≤ ev.2.2.2.2.2.2.2.2.1))))) (p2 + 3),
    fun S Rn K ρ M => zew a S Rn (fun x ρ M => zew b S Rn (fun y ρ M => K (if mx = 3 then max x y else min x y) ρ M) ρ M) ρ M),
    fun ev S Rn rt G hG Γ nx pc pc' st ρ M K hc hw hk => by
      obtain ⟨p, h1, h2⟩ := Option.bind_eq_some_iff.mp hc
      obtain ⟨p2, g2, g3⟩ := Option.bind_eq_some_iff.mp h2
      obtain ⟨g4, rfl⟩ := zif_some g3
      simp only [Bool.and_eq_true, decide_eq_true_eq] at g4
      obtain ⟨g4, g5, g6, g7, g8⟩ := g4
      obtain ⟨⟨kd, f, ci, na⟩, g9, g10⟩ := Option.map_eq_some_iff.mp g5
      have g10 : kd = mx := g10
      subst g10
      exact zes a ev S Rn rt G hG Γ none pc p st ρ M _ h1 hw (fun x ρ1 M1 hx => ⟨zes b ev S Rn rt G hG Γ none p p2 ((0, x) :: st) ρ1 M1 _ g2 hx (fun y ρ2 M2 hy => ⟨fun lv hlv => hG.1 _ 3 p2 _ lv M2 (zat_d g4) ⟨rfl, Or.inr (Or.inr ⟨x, y, st, kd, f, ci, na, rfl, g9, g6, g7, g8, (hk _ _ _ hy).1 lv hlv⟩)⟩, fun x hx => by cases hx⟩), fun x hx => by cases hx⟩),
    fun S Rn hR K K' ρ M hk h => zem a S Rn hR _ _ ρ M (fun v ρ' M' => zem b S Rn hR _ _ ρ' M' (fun v2 ρ2 M2 h2 => hk _ _ _ h2)) h⟩
end
section
-- part 09.frag3.lean.txt
/-! conditions: jump to tgt if they are as 'sense' says, else go on behind; jumps within it that mean 'go on' may go to alt -/
abbrev zCC : Type := zEv → zGam → Nat → Nat → Bool → Nat → Option Nat → Option Nat
abbrev zCW : Type := List zSh → zRnT → (zLoc → zMem → Prop) → (zLoc → zMem → Prop) → zLoc → zMem → Prop
def zCSnd (c : zCC) (w : zCW) : Prop := ∀ (ev : zEv) (S : List zSh) (Rn : zRnT) (rt : Option zV → zMem → Prop) (G : Nat → List zV → zLv → zMem → Prop), zClosed ev S Rn rt G →
  ∀ (Γ : zGam) (sense : Bool) (tgt : Nat) (alt : Option Nat) (pc pc' : Nat) (st : List zV) (ρ : zLoc) (M : zMem) (Kt Kf : zLoc → zMem → Prop), c ev Γ (zcats st) pc sense tgt alt = some pc' → w S Rn Kt Kf ρ M →
  (∀ ρ' M', (if sense = true then Kt else Kf) ρ' M' → zGG G Γ tgt st ρ' M') →
  (∀ ρ' M', (if sense = true then Kf else Kt) ρ' M' → zGG G Γ pc' st ρ' M' ∧ ∀ x, alt = some x → zGG G Γ x st ρ' M') → zGG G Γ pc st ρ M
def zCMon (w : zCW) : Prop := ∀ (S : List zSh) (Rn : zRnT), zRMon Rn → ∀ (Kt Kt' Kf Kf' : zLoc → zMem → Prop) (ρ : zLoc) (M : zMem), (∀ ρ' M', Kt ρ' M' → Kt' ρ' M') → (∀ ρ' M', Kf ρ' M' → Kf' ρ' M') → w S Rn Kt Kf ρ M → w S Rn Kt' Kf' ρ M
def zC : Type := { x : zCC × zCW // zCSnd x.1 x.2 ∧ zCMon x.2 }
def zcc (c : zC) : zCC := c.1.1
def zcw (c : zC) : zCW := c.1.2
theorem zcs (c : zC) : zCSnd (zcc c) (zcw c) := c.2.1
theorem zcm (c : zC) : zCMon (zcw c) := c.2.2
def znegc : Jvm.ClassFile.Cond → Jvm.ClassFile.Cond
  | .eq => .ne
  | .ne => .eq
  | .lt => .ge
  | .ge => .lt
  | .gt => .le
  | .le => .gt
theorem znegc_iff (c : Jvm.ClassFile.Cond) (x y : Int) : zcond (znegc c) x y ↔ ¬ zcond c x y := by
  cases c <;> simp [znegc, zcond] <;> omega
def zsenc (sense : Bool) (c : Jvm.ClassFile.Cond) : Jvm.ClassFile.Cond := if sense = true then c else znegc c
theorem zsenc_iff (sense : Bool) (c : Jvm.ClassFile.Cond) (x y : Int) : zcond (zsenc sense c) x y ↔ (if sense = true then zcond c x y else ¬ zcond c x y) := by
  cases sense
  · exact znegc_iff c x y
  · exact Iff.rfl
/-- the two ways of a branch, by its condition -/
theorem zbr {P : Prop} {sense : Bool} {Kt Kf A B : Prop} (hw : (P → Kt) ∧ (¬ P → Kf)) (h1 : (if sense = true then Kt else Kf) → A) (h2 : (if sense = true then Kf else Kt) → B) : ((if sense = true then P else ¬ P) → A) ∧ (¬ (if sense = true then P else ¬ P) → B) := by
  cases sense
  · exact ⟨fun h => h1 (hw.2 h), fun h => h2 (hw.1 (Classical.byContradiction fun q => h q))⟩
  · exact ⟨fun h => h1 (hw.1 h), fun h => h2 (hw.2 h)⟩
theorem zoff {pc t : Nat} {off : Int} (h : off = (t : Int) - (pc : Int)) : (pc : Int) + off = ((t : Nat) : Int) := by omega
/-- two numbers compared -/
def zcI (c : Jvm.ClassFile.Cond) (a b : zE 0) : zC :=
  ⟨(fun ev Γ d pc sense tgt _ => (zec a ev Γ d pc none).bind fun p => (zec b ev Γ (1 + d) p none).bind fun p2 => zif (zat ev p2 (.if_icmp (zsenc sense c) ((tgt : Int) - (p2 : Int))) 3) (p2 + 3),
      fun S Rn Kt Kf ρ M => zew a S Rn (fun x ρ M => zew b S Rn (fun y ρ M => (zcond c x y → Kt ρ M) ∧ (¬ zcond c x y → Kf ρ M)) ρ M) ρ M),
    fun ev S Rn rt G hG Γ sense tgt alt pc pc' st ρ M Kt Kf hc hw h1 h2 => by
      obtain ⟨p, g1, g2⟩ := Option.bind_eq_some_iff.mp hc
      obtain ⟨p2, g3, g4⟩ := Option.bind_eq_some_iff.mp g2
      obtain ⟨g5, rfl⟩ := zif_some g4
      exact zes a ev S Rn rt G hG Γ none pc p st ρ M _ g1 hw (fun x ρ1 M1 hx => ⟨zes b ev S Rn rt G hG Γ none p p2 ((0, x) :: st) ρ1 M1 _ g3 hx (fun y ρ2 M2 hy => ⟨fun lv hlv => by
        have hz := zbr (sense := sense) hy (fun h => h1 ρ2 M2 (by cases sense <;> exact h) lv hlv) (fun h => (h2 ρ2 M2 (by cases sense <;> exact h)).1 lv hlv)
        exact hG.1 _ 3 p2 _ lv M2 (zat_d g5) ⟨rfl, x, y, st, tgt, rfl, zoff rfl, fun h => hz.1 ((zsenc_iff _ _ _ _).mp h), fun h => hz.2 (fun q => h ((zsenc_iff _ _ _ _).mpr q))⟩, fun x hx => by cases hx⟩), fun x hx => by cases hx⟩),
    fun S Rn hR Kt Kt' Kf Kf' ρ M ht hf h => zem a S Rn hR _ _ ρ M (fun v ρ' M' => zem b S Rn hR _ _ ρ' M' (fun v2 ρ2 M2 h2 => ⟨fun q => ht _ _ (h2.1 q), fun q => hf _ _ (h2.2 q)⟩)) h⟩
/-- a number against zero -/
def zcZ (c : Jvm.ClassFile.Cond) (a : zE 0) : zC :=
  ⟨(fun ev Γ d pc sense tgt _ => (zec a ev Γ d pc none).bind fun p => zif (zat ev p (.ifCond (zsenc sense c) ((tgt : Int) - (p : Int))) 3) (p + 3),
      fun S Rn Kt Kf ρ M => zew a S Rn (fun x ρ M => (zcond c x 0 → Kt ρ M) ∧ (¬ zcond c x 0 → Kf ρ M)) ρ M),
    fun ev S Rn rt G hG Γ sense tgt alt pc pc' st ρ M Kt Kf hc hw h1 h2 => by
      obtain ⟨p, g1, g2⟩ := Option.bind_eq_some_iff.mp hc
      obtain ⟨g5, rfl⟩ := zif_some g2
      exact zes a ev S Rn rt G hG Γ none pc p st ρ M _ g1 hw (fun x ρ2 M2 hy => ⟨fun lv hlv => by
        have hz := zbr (sense := sense) hy (fun h => h1 ρ2 M2 (by cases sense <;> exact h) lv hlv) (fun h => (h2 ρ2 M2 (by cases sense <;> exact h)).1 lv hlv)
        exact hG.1 _ 3 p _ lv M2 (zat_d g5) ⟨rfl, x, st, tgt, rfl, zoff rfl, fun h => hz.1 ((zsenc_iff _ _ _ _).mp h), fun h => hz.2 (fun q => h ((zsenc_iff _ _ _ _).mpr q))⟩, fun x hx => by cases hx⟩),
    fun S Rn hR Kt Kt' Kf Kf' ρ M ht hf h => zem a S Rn hR _ _ ρ M (fun v2 ρ2 M2 h2 => ⟨fun q => ht _ _ (h2.1 q), fun q => hf _ _ (h2.2 q)⟩) h⟩
/-- a reference is null -/
def zcN (a : zE 2) : zC :=
  ⟨(fun ev Γ d pc sense tgt _ => (zec a ev Γ d pc none).bind fun p => zif (zat ev p (if sense = true then .ifnull ((tgt : Int) - (p : Int)) else .ifnonnull ((tgt : Int) - (p : Int))) 3) (p + 3),
      fun S Rn Kt Kf ρ M => zew a S Rn (fun x ρ M => (x = -1 → Kt ρ M) ∧ (¬ x = -1 → Kf ρ M)) ρ M),
    fun ev S Rn rt G hG Γ sense tgt alt pc pc' st ρ M Kt Kf hc hw h1 h2 => by
      obtain ⟨p, g1, g2⟩ := Option.bind_eq_some_iff.mp hc
      obtain ⟨g5, rfl⟩ := zif_some g2
      refine zes a ev S Rn rt G hG Γ none pc p st ρ M _ g1 hw (fun x ρ2 M2 hy => ⟨fun lv hlv => ?_, fun x hx => by cases hx⟩)
      cases sense
      · exact hG.1 _ 3 p _ lv M2 (zat_d g5) ⟨rfl, x, st, tgt, rfl, zoff rfl, fun h => h1 _ _ (hy.2 h) lv hlv, fun h => (h2 _ _ (hy.1 h)).1 lv hlv⟩
      · exact hG.1 _ 3 p _ lv M2 (zat_d g5) ⟨rfl, x, st, tgt, rfl, zoff rfl, fun h => h1 _ _ (hy.1 h) lv hlv, fun h => (h2 _ _ (hy.2 h)).1 lv hlv⟩,
    fun S Rn hR Kt Kt' Kf Kf' ρ M ht hf h => zem a S Rn hR _ _ ρ M (fun v2 ρ2 M2 h2 => ⟨fun q => ht _ _ (h2.1 q), fun q => hf _ _ (h2.2 q)⟩) h⟩
def zcNot (c : zC) : zC :=
  ⟨(fun ev Γ d pc sense tgt alt => zcc c ev Γ d pc (!sense) tgt alt, fun S Rn Kt Kf ρ M => zcw c S Rn Kf Kt ρ M),
    fun ev S Rn rt G hG Γ sense tgt alt pc pc' st ρ M Kt Kf hc hw h1 h2 => zcs c ev S Rn rt G hG Γ (!sense) tgt alt pc pc' st ρ M Kf Kt hc hw (fun ρ' M' h => h1 ρ' M' (by cases sense <;> exact h)) (fun ρ' M' h => h2 ρ' M' (by cases sense <;> exact h)),
    fun S Rn hR Kt Kt' Kf Kf' ρ M ht hf h => zcm c S Rn hR _ _ _ _ ρ M hf ht h⟩
/-- both; L: where it goes on behind, when it jumps if both hold -/
def zcAnd (L : Nat) (a b : zC) : zC :=
  ⟨(fun ev Γ d pc sense tgt alt =>
      if sense = true then (zcc a ev Γ d pc false L none).bind fun p => (zcc b ev Γ d p true tgt alt).bind fun p2 => zif (decide (L = p2 ∨ alt = some L)) p2
      else (zcc a ev Γ d pc false tgt none).bind fun p => zcc b ev Γ d p false tgt alt,
      fun S Rn Kt Kf ρ M => zcw a S Rn (fun ρ M => zcw b S Rn Kt Kf ρ M) Kf ρ M),
    fun ev S Rn rt G hG Γ sense tgt alt pc pc' st ρ M Kt Kf hc hw h1 h2 => by
      cases sense with
      | true =>
        dsimp only at hc
        rw [if_pos rfl] at hc
        obtain ⟨p, g1, g2⟩ := Option.bind_eq_some_iff.mp hc
        obtain ⟨p2, g3, g4⟩ := Option.bind_eq_some_iff.mp g2
        obtain ⟨g5, rfl⟩ := zif_some g4
        have hL : ∀ ρ' M', Kf ρ' M' → zGG G Γ L st ρ' M' := fun ρ' M' h => by
          have := h2 ρ' M' h
          rcases of_decide_eq_true g5 with rfl | q
          · exact this.1
          · exact this.2 L q
        exact zcs a ev S Rn rt G hG Γ false L none pc p st ρ M _ _ g1 hw hL (fun ρ1 M1 hb => ⟨zcs b ev S Rn rt G hG Γ true tgt alt p p2 st ρ1 M1 Kt Kf g3 hb h1 h2, fun x hx => by cases hx⟩)
      | false =>
        dsimp only at hc
        rw [if_neg (by decide)] at hc
        obtain ⟨p, g1, g2⟩ := Option.bind_eq_some_iff.mp hc
        exact zcs a ev S Rn rt G hG Γ false tgt none pc p st ρ M _ _ g1 hw h1 (fun ρ1 M1 hb => ⟨zcs b ev S Rn rt G hG Γ false tgt alt p pc' st ρ1 M1 Kt Kf g2 hb h1 h2, fun x hx => by cases hx⟩),
    fun S Rn hR Kt Kt' Kf Kf' ρ M ht hf h => zcm a S Rn hR _ _ _ _ ρ M (fun ρ' M' => zcm b S Rn hR _ _ _ _ ρ' M' ht hf) hf h⟩
def zcOr (L : Nat) (a b : zC) : zC :=
  ⟨(fun ev Γ d pc sense tgt alt =>
      if sense = true then (zcc a ev Γ d pc true tgt none).bind fun p => zcc b ev Γ d p true tgt alt
      else (zcc a ev Γ d pc true L none).bind fun p => (zcc b ev Γ d p false tgt alt).bind fun p2 => zif (decide (L = p2 ∨ alt = some L)) p2,
      fun S Rn Kt Kf ρ M => zcw a S Rn Kt (fun ρ M => zcw b S Rn Kt Kf ρ M) ρ M),
    fun ev S Rn rt G hG Γ sense tgt alt pc pc' st ρ M Kt Kf hc hw h1 h2 => by
      cases sense with
      | false =>
        dsimp only at hc
        rw [if_neg (by decide)] at hc
        obtain ⟨p, g1, g2⟩ := Option.bind_eq_some_iff.mp hc
        obtain ⟨p2, g3, g4⟩ := Option.bind_eq_some_iff.mp g2
        obtain ⟨g5, rfl⟩ := zif_some g4
        have hL : ∀ ρ' M', Kt ρ' M' → zGG G Γ L st ρ' M' := fun ρ' M' h => by
          have := h2 ρ' M' h
          rcases of_decide_eq_true g5 with rfl | q
          · exact this.1
          · exact this.2 L q
        exact zcs a ev S Rn rt G hG Γ true L none pc p st ρ M _ _ g1 hw hL (fun ρ1 M1 hb => ⟨zcs b ev S Rn rt G hG Γ false tgt alt p p2 st ρ1 M1 Kt Kf g3 hb h1 h2, fun x hx => by cases hx⟩)
      | true =>
        dsimp only at hc
        rw [if_pos rfl] at hc
        obtain ⟨p, g1, g2⟩ := Option.bind_eq_some_iff.mp hc
        exact zcs a ev S Rn rt G hG Γ true tgt none pc p st ρ M _ _ g1 hw h1 (fun ρ1 M1 hb => ⟨zcs b ev S Rn rt G hG Γ true tgt alt p pc' st ρ1 M1 Kt Kf g2 hb h1 h2, fun x hx => by cases hx⟩),
    fun S Rn hR Kt Kt' Kf Kf' ρ M ht hf h => zcm a S Rn hR _ _ _ _ ρ M ht (fun ρ' M' => zcm b S Rn hR _ _ _ _ ρ' M' ht hf) h⟩
/-- c ? a : b, as a condition; E: where b begins; L: where it goes on behind -/
def zcIf (E L : Nat) (c a b : zC) : zC :=
  ⟨(fun ev Γ d pc sense tgt alt => (zcc c ev Γ d pc false E none).bind fun p =>
      if sense = true then (zcc a ev Γ d p false L (some tgt)).bind fun p2 => zif (zat ev p2 (.goto ((tgt : Int) - (p2 : Int))) 3 && decide (E = p2 + 3)) () |>.bind fun _ => (zcc b ev Γ d E true tgt alt).bind fun p3 => zif (decide (L = p3 ∨ alt = some L)) p3
      else (zcc a ev Γ d p false tgt (some L)).bind fun p2 => zif (zat ev p2 (.goto ((L : Int) - (p2 : Int))) 3 && decide (E = p2 + 3)) () |>.bind fun _ => (zcc b ev Γ d E false tgt alt).bind fun p3 => zif (decide (L = p3 ∨ alt = some L)) p3,
      fun S Rn Kt Kf ρ M => zcw c S Rn (fun ρ M => zcw a S Rn Kt Kf ρ M) (fun ρ M => zcw b S Rn Kt Kf ρ M) ρ M),
    fun ev S Rn rt G hG Γ sense tgt alt pc pc' st ρ M Kt Kf hc hw h1 h2 => by
      obtain ⟨p, g1, g2⟩ := Option.bind_eq_some_iff.mp hc
      cases sense with
      | true =>
        rw [if_pos rfl] at g2
        obtain ⟨p2, g3, g4⟩ := Option.bind_eq_some_iff.mp g2
        obtain ⟨u, g5, g6⟩ := Option.bind_eq_some_iff.mp g4
        obtain ⟨g5, -⟩ := zif_some g5
        obtain ⟨p3, g7, g8⟩ := Option.bind_eq_some_iff.mp g6
        obtain ⟨g9, rfl⟩ := zif_some g8
        rw [Bool.and_eq_true, decide_eq_true_eq] at g5
        have hL : ∀ ρ' M', Kf ρ' M' → zGG G Γ L st ρ' M' := fun ρ' M' h => by
          have := h2 ρ' M' h
          rcases of_decide_eq_true g9 with rfl | q
          · exact this.1
          · exact this.2 L q
        exact zcs c ev S Rn rt G hG Γ false E none pc p st ρ M _ _ g1 hw (fun ρ1 M1 hb => zcs b ev S Rn rt G hG Γ true tgt alt E p3 st ρ1 M1 Kt Kf g7 hb h1 h2)
          (fun ρ1 M1 ha => ⟨zcs a ev S Rn rt G hG Γ false L (some tgt) p p2 st ρ1 M1 Kt Kf g3 ha hL (fun ρ2 M2 hk => ⟨fun lv hlv => hG.1 _ 3 p2 st lv M2 (zat_d g5.1) ⟨rfl, tgt, zoff rfl, h1 ρ2 M2 hk lv hlv⟩, fun x hx => by cases hx; exact h1 ρ2 M2 hk⟩), fun x hx => by cases hx⟩)
      | false =>
        rw [if_neg (by decide)] at g2
        obtain ⟨p2, g3, g4⟩ := Option.bind_eq_some_iff.mp g2
        obtain ⟨u, g5, g6⟩ := Option.bind_eq_some_iff.mp g4
        obtain ⟨g5, -⟩ := zif_some g5
        obtain ⟨p3, g7, g8⟩ := Option.bind_eq_some_iff.mp g6
        obtain ⟨g9, rfl⟩ := zif_some g8
        rw [Bool.and_eq_true, decide_eq_true_eq] at g5
        have hL : ∀ ρ' M', Kt ρ' M' → zGG G Γ L st ρ' M' := fun ρ' M' h => by
          have := h2 ρ' M' h
          rcases of_decide_eq_true g9 with rfl | q
          · exact this.1
          · exact this.2 L q
        exact zcs c ev S Rn rt G hG Γ false E none pc p st ρ M _ _ g1 hw (fun ρ1 M1 hb => zcs b ev S Rn rt G hG Γ false tgt alt E p3 st ρ1 M1 Kt Kf g7 hb h1 h2)
          (fun ρ1 M1 ha => ⟨zcs a ev S Rn rt G hG Γ false tgt (some L) p p2 st ρ1 M1 Kt Kf g3 ha h1 (fun ρ2 M2 hk => ⟨fun lv hlv => hG.1 _ 3 p2 st lv M2 (zat_d g5.1) ⟨rfl, L, zoff rfl, hL ρ2 M2 hk lv hlv⟩, fun x hx => by cases hx; exact hL ρ2 M2 hk⟩), fun x hx => by cases hx⟩),
    fun S Rn hR Kt Kt' Kf Kf' ρ M ht hf h => zcm c S Rn hR _ _ _ _ ρ M (fun ρ' M' => zcm a S Rn hR _ _ _ _ ρ' M' ht hf) (fun ρ' M' => zcm b S Rn hR _ _ _ _ ρ' M' ht hf) h⟩
/-- c ? a : b, a value; E: where b begins, D: the end -/
def zeIf {t : Nat} (E D : Nat) (c : zC) (a b : zE t) : zE t :=
  ⟨(fun ev Γ d pc nx => (zcc c ev Γ d pc false E none).bind fun p => (zec a ev Γ d p (some (nx.getD D))).bind fun p2 => (zif (zat ev p2 (.goto (((nx.getD D : Nat) : Int) - (p2 : Int))) 3 && decide (E = p2 + 3)) ()).bind fun _ => (zec b ev Γ d E nx).bind fun p3 => zif (decide (p3 = D)) p3,
      fun S Rn K ρ M => zcw c S Rn (fun ρ M => zew a S Rn K ρ M) (fun ρ M => zew b S Rn K ρ M) ρ M),
    fun ev S Rn rt G hG Γ nx pc pc' st ρ M K hc hw hk => by
      obtain ⟨p, g1, g2⟩ := Option.bind_eq_some_iff.mp hc
      obtain ⟨p2, g3, g4⟩ := Option.bind_eq_some_iff.mp g2
      obtain ⟨u, g5, g6⟩ := Option.bind_eq_some_iff.mp g4
      obtain ⟨g5, -⟩ := zif_some g5
      obtain ⟨p3, g7, g8⟩ := Option.bind_eq_some_iff.mp g6
      obtain ⟨g9, rfl⟩ := zif_some g8
      rw [decide_eq_true_eq] at g9
      subst g9
      rw [Bool.and_eq_true, decide_eq_true_eq] at g5
      have hx : ∀ v ρ' M', K v ρ' M' → zGG G Γ (nx.getD p3) ((t, v) :: st) ρ' M' := fun v ρ' M' h => by
        have := hk v ρ' M' h
        cases nx with
        | none => exact this.1
        | some x => exact this.2 x rfl
      exact zcs c ev S Rn rt G hG Γ false E none pc p st ρ M _ _ g1 hw (fun ρ1 M1 hb => zes b ev S Rn rt G hG Γ nx E p3 st ρ1 M1 K g7 hb hk)
        (fun ρ1 M1 ha => ⟨zes a ev S Rn rt G hG Γ (some (nx.getD p3)) p p2 st ρ1 M1 K g3 ha (fun v ρ2 M2 hv => ⟨fun lv hlv => hG.1 _ 3 p2 _ lv M2 (zat_d g5.1) ⟨rfl, _, zoff rfl, hx v ρ2 M2 hv lv hlv⟩, fun x hx2 => by cases hx2; exact hx v ρ2 M2 hv⟩), fun x hx => by cases hx⟩),
    fun S Rn hR K K' ρ M hk h => zcm c S Rn hR _ _ _ _ ρ M (fun ρ' M' => zem a S Rn hR _ _ ρ' M' hk) (fun ρ' M' => zem b S Rn hR _ _ ρ' M' hk) h⟩
end
section
-- part 10.stmt.lean.txt
/-! statements: what they do: on (kn), out by a label (kb), back to the caller (kr) -/
abbrev zLb : Type := List (Nat × zGam)
abbrev zSC : Type := zEv → zGam → Nat → Option Nat → zLb → Option (zGam × Nat)
abbrev zK : Type := zLoc → zMem → Prop
abbrev zSW : Type := List zSh → zRnT → zK → (Nat → zK) → (Option zV → zMem → Prop) → zLoc → zMem → Prop
def zSSnd (c : zSC) (w : zSW) : Prop := ∀ (ev : zEv) (S : List zSh) (Rn : zRnT) (rt : Option zV → zMem → Prop) (G : Nat → List zV → zLv → zMem → Prop), zClosed ev S Rn rt G →
  ∀ (Γ : zGam) (nx : Option Nat) (L : zLb) (pc : Nat) (Γ' : zGam) (pc' : Nat) (ρ : zLoc) (M : zMem) (kn : zK) (kb : Nat → zK), c ev Γ pc nx L = some (Γ', pc') → w S Rn kn kb rt ρ M →
  (∀ ρ' M', kn ρ' M' → zGG G Γ' pc' [] ρ' M' ∧ ∀ x, nx = some x → zGG G Γ' x [] ρ' M') →
  (∀ j t Γj, L[j]? = some (t, Γj) → ∀ ρ' M', kb j ρ' M' → zGG G Γj t [] ρ' M') → zGG G Γ pc [] ρ M
def zSMon (w : zSW) : Prop := ∀ (S : List zSh) (Rn : zRnT), zRMon Rn → ∀ (kn kn' : zK) (kb kb' : Nat → zK) (kr kr' : Option zV → zMem → Prop) (ρ : zLoc) (M : zMem), (∀ ρ' M', kn ρ' M' → kn' ρ' M') → (∀ j ρ' M', kb j ρ' M' → kb' j ρ' M') → (∀ r M', kr r M' → kr' r M') → w S Rn kn kb kr ρ M → w S Rn kn' kb' kr' ρ M
def zSt : Type := { x : zSC × zSW // zSSnd x.1 x.2 ∧ zSMon x.2 }
def zsc (s : zSt) : zSC := s.1.1
def zsw (s : zSt) : zSW := s.1.2
theorem zss (s : zSt) : zSSnd (zsc s) (zsw s) := s.2.1
theorem zsm (s : zSt) : zSMon (zsw s) := s.2.2
theorem zGG.sub {G : Nat → List zV → zLv → zMem → Prop} {Γ Γ' : zGam} {pc : Nat} {st : List zV} {ρ : zLoc} {M : zMem} (h : ∀ q ∈ Γ, q ∈ Γ') (k : zGG G Γ pc st ρ M) : zGG G Γ' pc st ρ M := fun lv hlv => k lv (fun q hq => hlv q (h q hq))
def zSub (Γ Γ' : zGam) : Bool := Γ.all fun q => decide (q ∈ Γ')
theorem zSub_d {Γ Γ' : zGam} (h : zSub Γ Γ' = true) : ∀ q ∈ Γ, q ∈ Γ' := fun q hq => of_decide_eq_true (List.all_eq_true.mp h q hq)
def zsSkip : zSt := ⟨(fun _ Γ pc _ _ => some (Γ, pc), fun _ _ kn _ _ ρ M => kn ρ M),
  fun ev S Rn rt G hG Γ nx L pc Γ' pc' ρ M kn kb hc hw hn hb => by cases hc; exact (hn ρ M hw).1, fun S Rn hR kn kn' kb kb' kr kr' ρ M h1 _ _ h => h1 _ _ h⟩
def zsSeq (a b : zSt) : zSt := ⟨(fun ev Γ pc nx L => (zsc a ev Γ pc none L).bind fun q => zsc b ev q.1 q.2 nx L, fun S Rn kn kb kr ρ M => zsw a S Rn (fun ρ M => zsw b S Rn kn kb kr ρ M) kb kr ρ M),
  fun ev S Rn rt G hG Γ nx L pc Γ' pc' ρ M kn kb hc hw hn hb => by
    obtain ⟨⟨Γ1, p1⟩, g1, g2⟩ := Option.bind_eq_some_iff.mp hc
    exact zss a ev S Rn rt G hG Γ none L pc Γ1 p1 ρ M _ kb g1 hw (fun ρ1 M1 h1 => ⟨zss b ev S Rn rt G hG Γ1 nx L p1 Γ' pc' ρ1 M1 kn kb g2 h1 hn hb, fun x hx => by cases hx⟩) hb,
  fun S Rn hR kn kn' kb kb' kr kr' ρ M h1 h2 h3 h => zsm a S Rn hR _ _ _ _ _ _ ρ M (fun ρ' M' => zsm b S Rn hR _ _ _ _ _ _ ρ' M' h1 h2 h3) h2 h3 h⟩
/-- a block: the locals declared in it end with it -/
def zsBlk (a : zSt) : zSt := ⟨(fun ev Γ pc _ L => (zsc a ev Γ pc none L).bind fun q => zif (zSub Γ q.1) (Γ, q.2), fun S Rn kn kb kr ρ M => zsw a S Rn kn kb kr ρ M),
  fun ev S Rn rt G hG Γ nx L pc Γ' pc' ρ M kn kb hc hw hn hb => by
    obtain ⟨⟨Γ1, p1⟩, g1, g2⟩ := Option.bind_eq_some_iff.mp hc
    obtain ⟨g3, g4⟩ := zif_some g2
    cases g4
    exact zss a ev S Rn rt G hG Γ none L pc Γ1 p1 ρ M kn kb g1 hw (fun ρ1 M1 h1 => ⟨(hn ρ1 M1 h1).1.sub (zSub_d g3), fun x hx => by cases hx⟩) hb,
  fun S Rn hR kn kn' kb kb' kr kr' ρ M h1 h2 h3 h => zsm a S Rn hR _ _ _ _ _ _ ρ M h1 h2 h3 h⟩
def zGst (Γ : zGam) (k t : Nat) : zGam := (k, t) :: Γ.filter (fun q => !(q.1 == k) && (!(q.1 == k + 1 && t == 1) && !(q.1 + 1 == k && q.2 == 1)))
theorem zfind_filter {α : Type} {l : List α} {q p : α → Bool} {a : α} (h : l.find? q = some a) (hp : p a = true) : (l.filter p).find? q = some a := by
  induction l with
  | nil => cases h
  | cons b l ih =>
    rw [List.find?_cons] at h
    split at h
    next hb =>
      cases h
      rw [List.filter_cons, if_pos hp, List.find?_cons]
      simp [hb]
    next hb =>
      rw [List.filter_cons]
      split
      · rw [List.find?_cons, hb]
        exact ih h
      · exact ih h
theorem zLook_tail {lv : zLv} {i : Nat} {v : zV} {p : (Nat × zV) → Bool} {j : Nat} {w : zV} (h : zLook lv j = some w) (hj : ¬ j = i) (hp : p (j, w) = true) : zLook ((i, v) :: lv.filter p) j = some w := by
  unfold zLook at h ⊢
  rw [List.find?_cons]
  have hij : (i == j) = false := by simp; omega
  dsimp only
  rw [hij]
  dsimp only
  cases hf : lv.find? (fun q => q.1 == j) with
  | none => rw [hf] at h; cases h
  | some q =>
    rw [hf] at h
    have h1 := List.find?_some hf
    obtain ⟨a, b⟩ := q
    simp at h h1
    subst h; subst h1
    rw [zfind_filter hf hp]
    rfl
theorem zHold_st1 {Γ : zGam} {ρ : zLoc} {lv : zLv} {k t : Nat} {x : Int} (h : zHold Γ ρ lv) (ht : ¬ t = 1) : zHold (zGst Γ k t) (zsetl ρ k x) (zSt1 lv k (t, x)) := by
  intro q hq
  unfold zGst at hq
  rw [zget_set]
  rcases List.mem_cons.mp hq with rfl | hq
  · rw [if_pos rfl]
    unfold zSt1 zLook
    rw [List.find?_cons]
    simp
  · obtain ⟨h1, h2⟩ := List.mem_filter.mp hq
    simp only [Bool.and_eq_true, Bool.not_eq_true', beq_eq_false_iff_ne, Bool.and_eq_false_iff, ne_eq] at h2
    rw [if_neg h2.1]
    refine zLook_tail (h q h1) h2.1 ?_
    have : zcat (q.2, zget ρ q.1) = if q.2 = 1 then 2 else 1 := rfl
    simp only [Bool.and_eq_true, Bool.not_eq_true', beq_eq_false_iff_ne, Bool.and_eq_false_iff, ne_eq, this]
    refine ⟨h2.1, ?_⟩
    rcases h2.2.2 with h3 | h3
    · exact Or.inl h3
    · right; rw [if_neg h3]; decide
theorem zHold_st2 {Γ : zGam} {ρ : zLoc} {lv : zLv} {k : Nat} {x : Int} (h : zHold Γ ρ lv) : zHold (zGst Γ k 1) (zsetl ρ k x) (zSt2 lv k (1, x)) := by
  intro q hq
  unfold zGst at hq
  rw [zget_set]
  rcases List.mem_cons.mp hq with rfl | hq
  · rw [if_pos rfl]
    unfold zSt2 zLook
    rw [List.find?_cons]
    simp
  · obtain ⟨h1, h2⟩ := List.mem_filter.mp hq
    simp only [Bool.and_eq_true, Bool.not_eq_true', beq_eq_false_iff_ne, Bool.and_eq_false_iff, ne_eq] at h2
    rw [if_neg h2.1]
    refine zLook_tail (h q h1) h2.1 ?_
    have : zcat (q.2, zget ρ q.1) = if q.2 = 1 then 2 else 1 := rfl
    simp only [Bool.and_eq_true, Bool.not_eq_true', beq_eq_false_iff_ne, Bool.and_eq_false_iff, ne_eq, this]
    refine ⟨h2.1, ?_, ?_⟩
    · rcases h2.2.1 with h3 | h3
      · exact h3
      · exact absurd trivial h3
    · rcases h2.2.2 with h3 | h3
      · exact Or.inl h3
      · right; rw [if_neg h3]; decide
/-- the store of a local of a type -/
def zsti (t k : Nat) : Instr × Nat := if k < 4 then ((if t = 0 then .istore_n (Fin.ofNat 4 k) else if t = 1 then .lstore_n (Fin.ofNat 4 k) else .astore_n (Fin.ofNat 4 k)), 1) else ((if t = 0 then .istore k else if t = 1 then .lstore k else .astore k), 2)
theorem zsti_step {ev : zEv} {S : List zSh} {Rn : zRnT} {rt : Option zV → zMem → Prop} {G : Nat → List zV → zLv → zMem → Prop} {t k pc : Nat} {x : Int} {r : List zV} {lv : zLv} {M : zMem} (ht : t < 3) (hk : k + (if t = 1 then 1 else 0) < ev.2.2.1)
    (h : G (pc + (zsti t k).2) r (if t = 1 then zSt2 lv k (t, x) else zSt1 lv k (t, x)) M) : zStep ev S Rn rt (zsti t k).1 (zsti t k).2 pc ((t, x) :: r) lv M G := by
  unfold zsti at h ⊢
  rcases (show t = 0 ∨ t = 1 ∨ t = 2 by omega) with rfl | rfl | rfl
  · by_cases h4 : k < 4
    · simp only [h4, if_true] at h ⊢
      exact ⟨rfl, by rw [zfin4 h4]; simpa using hk, x, r, rfl, by rw [zfin4 h4]; exact h⟩
    · simp only [h4, if_false] at h ⊢
      exact ⟨rfl, by simpa using hk, x, r, rfl, h⟩
  · by_cases h4 : k < 4
    · simp only [h4, if_true] at h ⊢
      exact ⟨rfl, by rw [zfin4 h4]; simpa using hk, x, r, rfl, by rw [zfin4 h4]; exact h⟩
    · simp only [h4, if_false] at h ⊢
      exact ⟨rfl, by simpa using hk, x, r, rfl, h⟩
  · by_cases h4 : k < 4
    · simp only [h4, if_true] at h ⊢
      exact ⟨rfl, by rw [zfin4 h4]; simpa using hk, x, r, rfl, by rw [zfin4 h4]; exact h⟩
    · simp only [h4, if_false] at h ⊢
      exact ⟨rfl, by simpa using hk, x, r, rfl, h⟩
/-- a local is set -/
def zsSet {t : Nat} (k : Nat) (e : zE t) : zSt := ⟨(fun ev Γ pc _ _ => (zec e ev Γ 0 pc none).bind fun p => zif (zat ev p (zsti t k).1 (zsti t k).2 && (decide (t < 3) && decide (k + (if t = 1 then 1 else 0) < ev.2.2.1))) (zGst Γ k t, p + (zsti t k).2),
    fun S Rn kn _ _ ρ M => zew e S Rn (fun x ρ M => kn (zsetl ρ k x) M) ρ M),
  fun ev S Rn rt G hG Γ nx L pc Γ' pc' ρ M kn kb hc hw hn hb => by
    obtain ⟨p, g1, g2⟩ := Option.bind_eq_some_iff.mp hc
    obtain ⟨g3, g4⟩ := zif_some g2
    cases g4
    simp only [Bool.and_eq_true, decide_eq_true_eq] at g3
    refine zes e ev S Rn rt G hG Γ none pc p [] ρ M _ g1 hw (fun x ρ1 M1 h1 => ⟨fun lv hlv => ?_, fun x hx => by cases hx⟩)
    refine hG.1 _ _ p _ lv M1 (zat_d g3.1) (zsti_step g3.2.1 g3.2.2 ?_)
    refine (hn _ _ h1).1 _ ?_
    split
    next ht => subst ht; exact zHold_st2 hlv
    next ht => exact zHold_st1 hlv ht,
  fun S Rn hR kn kn' kb kb' kr kr' ρ M h1 h2 h3 h => zem e S Rn hR _ _ ρ M (fun v ρ' M' => h1 _ _) h⟩
def zsInc (k : Nat) (d : Int) : zSt := ⟨(fun ev Γ pc _ _ => zif (zat ev pc (.iinc k d) 3 && (decide (k < ev.2.2.1) && decide ((k, 0) ∈ Γ))) (zGst Γ k 0, pc + 3),
    fun _ _ kn _ _ ρ M => kn (zsetl ρ k (zw32 (zget ρ k + d))) M),
  fun ev S Rn rt G hG Γ nx L pc Γ' pc' ρ M kn kb hc hw hn hb => by
    obtain ⟨g3, g4⟩ := zif_some hc
    cases g4
    simp only [Bool.and_eq_true, decide_eq_true_eq] at g3
    intro lv hlv
    exact hG.1 _ 3 pc _ lv M (zat_d g3.1) ⟨rfl, g3.2.1, _, hlv _ g3.2.2, (hn _ _ hw).1 _ (zHold_st1 hlv (by decide))⟩,
  fun S Rn hR kn kn' kb kb' kr kr' ρ M h1 h2 h3 h => h1 _ _ h⟩
/-- o.f = e -/
def zsF (k ci j : Nat) (o : zE 2) (e : zE 0) : zSt := ⟨(fun ev Γ pc _ _ => (zec o ev Γ 0 pc none).bind fun p => (zec e ev Γ 1 p none).bind fun p2 => zif (zat ev p2 (.putfield k) 3 && decide (ev.2.2.2.2.1 k = some (ci, j))) (Γ, p2 + 3),
    fun S Rn kn _ _ ρ M => zew o S Rn (fun x ρ M => zew e S Rn (fun y ρ M => zFld S x ci j = some none ∧ kn ρ (zput M x (zup (M x) j y))) ρ M) ρ M),
  fun ev S Rn rt G hG Γ nx L pc Γ' pc' ρ M kn kb hc hw hn hb => by
    obtain ⟨p, g1, g2⟩ := Option.bind_eq_some_iff.mp hc
    obtain ⟨p2, g3, g4⟩ := Option.bind_eq_some_iff.mp g2
    obtain ⟨g5, g6⟩ := zif_some g4
    cases g6
    simp only [Bool.and_eq_true, decide_eq_true_eq] at g5
    exact zes o ev S Rn rt G hG Γ none pc p [] ρ M _ g1 hw (fun x ρ1 M1 h1 => ⟨zes e ev S Rn rt G hG Γ none p p2 [(2, x)] ρ1 M1 _ g3 h1 (fun y ρ2 M2 h2 => ⟨fun lv hlv => hG.1 _ 3 p2 _ lv M2 (zat_d g5.1) ⟨rfl, x, y, [], ci, j, rfl, g5.2, h2.1, (hn _ _ h2.2).1 lv hlv⟩, fun x hx => by cases hx⟩), fun x hx => by cases hx⟩),
  fun S Rn hR kn kn' kb kb' kr kr' ρ M h1 h2 h3 h => zem o S Rn hR _ _ ρ M (fun v ρ' M' => zem e S Rn hR _ _ ρ' M' (fun y ρ2 M2 hy => ⟨hy.1, h1 _ _ hy.2⟩)) h⟩
/-- o.f = o.f op e (also o.f++) -/
def zsFO (k ci j : Nat) (i : Instr) (F : Int → Int → Int) (hi : ∀ ev S Rn rt G pc x y r lv M, G (pc + 1) ((0, F x y) :: r) lv M → zStep ev S Rn rt i 1 pc ((0, y) :: (0, x) :: r) lv M G) (o : zE 2) (e : zE 0) : zSt := ⟨(fun ev Γ pc _ _ => (zec o ev Γ 0 pc none).bind fun p => (zif (zat ev p .dup 1 && (zat ev (p + 1) (.getfield k) 3 && decide (ev.2.2.2.2.1 k = some (ci, j)))) ()).bind fun _ => (zec e ev Γ 2 (p + 4) none).bind fun p2 => zif (zat ev p2 i 1 && zat ev (p2 + 1) (.putfield k) 3) (Γ, p2 + 4),
    fun S Rn kn _ _ ρ M => zew o S Rn (fun x ρ M => zFld S x ci j = some none ∧ zew e S Rn (fun y ρ M2 => zFld S x ci j = some none ∧ kn ρ (zput M2 x (zup (M2 x) j (F (M x j) y)))) ρ M) ρ M),
  fun ev S Rn rt G hG Γ nx L pc Γ' pc' ρ M kn kb hc hw hn hb => by
    obtain ⟨p, g1, g2⟩ := Option.bind_eq_some_iff.mp hc
    obtain ⟨u, g3, g4⟩ := Option.bind_eq_some_iff.mp g2
    obtain ⟨g3, -⟩ := zif_some g3
    obtain ⟨p2, g5, g6⟩ := Option.bind_eq_some_iff.mp g4
    obtain ⟨g7, g8⟩ := zif_some g6
    cases g8
    simp only [Bool.and_eq_true, decide_eq_true_eq] at g3 g7
    refine zes o ev S Rn rt G hG Γ none pc p [] ρ M _ g1 hw (fun x ρ1 M1 h1 => ⟨fun lv hlv => hG.1 _ 1 p _ lv M1 (zat_d g3.1) ⟨rfl, (2, x), [], rfl, rfl, hG.1 _ 3 (p + 1) _ lv M1 (zat_d g3.2.1) ⟨rfl, x, [(2, x)], ci, j, rfl, g3.2.2, Or.inl ⟨h1.1, ?_⟩⟩⟩, fun x hx => by cases hx⟩)
    exact zes e ev S Rn rt G hG Γ none (p + 4) p2 [(0, M1 x j), (2, x)] ρ1 M1 _ g5 h1.2 (fun y ρ2 M2 h2 => ⟨fun lv hlv => hG.1 i 1 p2 _ lv M2 (zat_d g7.1) (hi _ _ _ _ _ _ _ _ _ _ _ (hG.1 _ 3 (p2 + 1) _ lv M2 (zat_d g7.2) ⟨rfl, x, _, [], ci, j, rfl, g3.2.2, h2.1, (hn _ _ h2.2).1 lv hlv⟩)), fun x hx => by cases hx⟩) lv hlv,
  fun S Rn hR kn kn' kb kb' kr kr' ρ M h1 h2 h3 h => zem o S Rn hR _ _ ρ M (fun v ρ' M' hv => ⟨hv.1, zem e S Rn hR _ _ ρ' M' (fun y ρ2 M2 hy => ⟨hy.1, h1 _ _ hy.2⟩) hv.2⟩) h⟩
/-- a[j] = e -/
def zsIx (t : Nat) (i : Instr) (P : List zSh → Int → Int → Int → Prop) (hi : ∀ ev S Rn rt G pc a j x r lv M, P S a j x → G (pc + 1) r lv (zput M a (zup (M a) j x)) → zStep ev S Rn rt i 1 pc ((t, x) :: (0, j) :: (2, a) :: r) lv M G) (a : zE 2) (b : zE 0) (e : zE t) : zSt :=
  ⟨(fun ev Γ pc _ _ => (zec a ev Γ 0 pc none).bind fun p => (zec b ev Γ 1 p none).bind fun p2 => (zec e ev Γ 2 p2 none).bind fun p3 => zif (zat ev p3 i 1) (Γ, p3 + 1),
    fun S Rn kn _ _ ρ M => zew a S Rn (fun x ρ M => zew b S Rn (fun j ρ M => zew e S Rn (fun y ρ M => P S x j y ∧ kn ρ (zput M x (zup (M x) j y))) ρ M) ρ M) ρ M),
  fun ev S Rn rt G hG Γ nx L pc Γ' pc' ρ M kn kb hc hw hn hb => by
    obtain ⟨p, g1, g2⟩ := Option.bind_eq_some_iff.mp hc
    obtain ⟨p2, g3, g4⟩ := Option.bind_eq_some_iff.mp g2
    obtain ⟨p3, g5, g6⟩ := Option.bind_eq_some_iff.mp g4
    obtain ⟨g7, g8⟩ := zif_some g6
    cases g8
    exact zes a ev S Rn rt G hG Γ none pc p [] ρ M _ g1 hw (fun x ρ1 M1 h1 => ⟨zes b ev S Rn rt G hG Γ none p p2 [(2, x)] ρ1 M1 _ g3 h1 (fun j ρ2 M2 h2 => ⟨zes e ev S Rn rt G hG Γ none p2 p3 [(0, j), (2, x)] ρ2 M2 _ g5 h2 (fun y ρ3 M3 h3 => ⟨fun lv hlv => hG.1 _ 1 p3 _ lv M3 (zat_d g7) (hi _ _ _ _ _ _ _ _ _ _ _ _ h3.1 ((hn _ _ h3.2).1 lv hlv)), fun x hx => by cases hx⟩), fun x hx => by cases hx⟩), fun x hx => by cases hx⟩),
  fun S Rn hR kn kn' kb kb' kr kr' ρ M h1 h2 h3 h => zem a S Rn hR _ _ ρ M (fun v ρ' M' => zem b S Rn hR _ _ ρ' M' (fun y ρ2 M2 => zem e S Rn hR _ _ ρ2 M2 (fun z ρ3 M3 hz => ⟨hz.1, h1 _ _ hz.2⟩))) h⟩
def zPw (ty : FieldType) (S : List zSh) (a j _x : Int) : Prop := ∃ n, zArr S a ty n ∧ 0 ≤ j ∧ j < (n : Nat)
def zPwZ (S : List zSh) (a j x : Int) : Prop := (x = 0 ∨ x = 1) ∧ ∃ n, zArr S a .boolean n ∧ 0 ≤ j ∧ j < (n : Nat)
def zPwB (S : List zSh) (a j x : Int) : Prop := (-128 ≤ x ∧ x < 128) ∧ ∃ n, zArr S a .byte n ∧ 0 ≤ j ∧ j < (n : Nat)
theorem zi_iast : ∀ ev S Rn rt G pc a j x r lv M, zPw .int S a j x → G (pc + 1) r lv (zput M a (zup (M a) j x)) → zStep ev S Rn rt .iastore 1 pc ((0, x) :: (0, j) :: (2, a) :: r) lv M G := fun ev S Rn rt G pc a j x r lv M ⟨n, h1, h2, h3⟩ h => ⟨rfl, x, j, a, r, n, rfl, h1, h2, h3, h⟩
def zsIA : zE 2 → zE 0 → zE 0 → zSt := zsIx 0 .iastore (zPw .int) zi_iast
def zsLA : zE 2 → zE 0 → zE 1 → zSt := zsIx 1 .lastore (zPw .long) (fun ev S Rn rt G pc a j x r lv M ⟨n, h1, h2, h3⟩ h => ⟨rfl, x, j, a, r, n, rfl, h1, h2, h3, h⟩)
def zsZA : zE 2 → zE 0 → zE 0 → zSt := zsIx 0 .bastore zPwZ (fun ev S Rn rt G pc a j x r lv M ⟨hx, n, h1, h2, h3⟩ h => ⟨rfl, x, j, a, r, n, rfl, Or.inl ⟨h1, hx⟩, h2, h3, h⟩)
def zsBA : zE 2 → zE 0 → zE 0 → zSt := zsIx 0 .bastore zPwB (fun ev S Rn rt G pc a j x r lv M ⟨hx, n, h1, h2, h3⟩ h => ⟨rfl, x, j, a, r, n, rfl, Or.inr ⟨h1, hx⟩, h2, h3, h⟩)
/-- a[j] = a[j] op e, of ints -/
def zsIO (i : Instr) (F : Int → Int → Int) (hi : ∀ ev S Rn rt G pc x y r lv M, G (pc + 1) ((0, F x y) :: r) lv M → zStep ev S Rn rt i 1 pc ((0, y) :: (0, x) :: r) lv M G) (a : zE 2) (b e : zE 0) : zSt :=
  ⟨(fun ev Γ pc _ _ => (zec a ev Γ 0 pc none).bind fun p => (zec b ev Γ 1 p none).bind fun p2 => (zif (zat ev p2 .dup2 1 && zat ev (p2 + 1) .iaload 1) ()).bind fun _ => (zec e ev Γ 3 (p2 + 2) none).bind fun p3 => zif (zat ev p3 i 1 && zat ev (p3 + 1) .iastore 1) (Γ, p3 + 2),
    fun S Rn kn _ _ ρ M => zew a S Rn (fun x ρ M => zew b S Rn (fun j ρ M => zPw .int S x j 0 ∧ zew e S Rn (fun y ρ M2 => kn ρ (zput M2 x (zup (M2 x) j (F (M x j) y)))) ρ M) ρ M) ρ M),
  fun ev S Rn rt G hG Γ nx L pc Γ' pc' ρ M kn kb hc hw hn hb => by
    obtain ⟨p, g1, g2⟩ := Option.bind_eq_some_iff.mp hc
    obtain ⟨p2, g3, g4⟩ := Option.bind_eq_some_iff.mp g2
    obtain ⟨u, g5, g6⟩ := Option.bind_eq_some_iff.mp g4
    obtain ⟨g5, -⟩ := zif_some g5
    obtain ⟨p3, g7, g8⟩ := Option.bind_eq_some_iff.mp g6
    obtain ⟨g9, g10⟩ := zif_some g8
    cases g10
    simp only [Bool.and_eq_true] at g5 g9
    refine zes a ev S Rn rt G hG Γ none pc p [] ρ M _ g1 hw (fun x ρ1 M1 h1 => ⟨zes b ev S Rn rt G hG Γ none p p2 [(2, x)] ρ1 M1 _ g3 h1 (fun j ρ2 M2 h2 => ⟨fun lv hlv => ?_, fun x hx => by cases hx⟩), fun x hx => by cases hx⟩)
    obtain ⟨⟨n, k1, k2, k3⟩, h2⟩ := h2
    refine hG.1 _ 1 p2 _ lv M2 (zat_d g5.1) ⟨rfl, (0, j), (2, x), [], rfl, rfl, rfl, hG.1 _ 1 (p2 + 1) _ lv M2 (zat_d g5.2) ⟨rfl, j, x, [(0, j), (2, x)], n, rfl, k1, k2, k3, ?_⟩⟩
    exact zes e ev S Rn rt G hG Γ none (p2 + 2) p3 [(0, M2 x j), (0, j), (2, x)] ρ2 M2 _ g7 h2 (fun y ρ3 M3 h3 => ⟨fun lv hlv => hG.1 i 1 p3 _ lv M3 (zat_d g9.1) (hi _ _ _ _ _ _ _ _ _ _ _ (hG.1 _ 1 (p3 + 1) _ lv M3 (zat_d g9.2) ⟨rfl, _, j, x, [], n, rfl, k1, k2, k3, (hn _ _ h3).1 lv hlv⟩)), fun x hx => by cases hx⟩) lv hlv,
  fun S Rn hR kn kn' kb kb' kr kr' ρ M h1 h2 h3 h => zem a S Rn hR _ _ ρ M (fun v ρ' M' => zem b S Rn hR _ _ ρ' M' (fun y ρ2 M2 hy => ⟨hy.1, zem e S Rn hR _ _ ρ2 M2 (fun z ρ3 M3 hz => h1 _ _ hz) hy.2⟩)) h⟩
theorem zh_add : ∀ ev S Rn rt G pc x y r lv M, G (pc + 1) ((0, zw32 (x + y)) :: r) lv M → zStep ev S Rn rt .iadd 1 pc ((0, y) :: (0, x) :: r) lv M G := fun ev S Rn rt G pc x y r lv M h => ⟨rfl, x, y, r, rfl, h⟩
theorem zh_sub : ∀ ev S Rn rt G pc x y r lv M, G (pc + 1) ((0, zw32 (x - y)) :: r) lv M → zStep ev S Rn rt .isub 1 pc ((0, y) :: (0, x) :: r) lv M G := fun ev S Rn rt G pc x y r lv M h => ⟨rfl, x, y, r, rfl, h⟩
theorem zh_or : ∀ ev S Rn rt G pc x y r lv M, G (pc + 1) ((0, zor x y) :: r) lv M → zStep ev S Rn rt .ior 1 pc ((0, y) :: (0, x) :: r) lv M G := fun ev S Rn rt G pc x y r lv M h => ⟨rfl, x, y, r, rfl, h⟩
theorem zh_and : ∀ ev S Rn rt G pc x y r lv M, G (pc + 1) ((0, zand x y) :: r) lv M → zStep ev S Rn rt .iand 1 pc ((0, y) :: (0, x) :: r) lv M G := fun ev S Rn rt G pc x y r lv M h => ⟨rfl, x, y, r, rfl, h⟩
theorem zh_xor : ∀ ev S Rn rt G pc x y r lv M, G (pc + 1) ((0, zxor x y) :: r) lv M → zStep ev S Rn rt .ixor 1 pc ((0, y) :: (0, x) :: r) lv M G := fun ev S Rn rt G pc x y r lv M h => ⟨rfl, x, y, r, rfl, h⟩
theorem zh_mul : ∀ ev S Rn rt G pc x y r lv M, G (pc + 1) ((0, zw32 (x * y)) :: r) lv M → zStep ev S Rn rt .imul 1 pc ((0, y) :: (0, x) :: r) lv M G := fun ev S Rn rt G pc x y r lv M h => ⟨rfl, x, y, r, rfl, h⟩
end
