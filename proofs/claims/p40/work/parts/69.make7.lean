/-! ===== the maker is right ===== -/
def zmFx (F : zmF) : Prop := F.1 < 13 ∧ zPfOk F.1 F.2.2.2.2.2.1 ∧ zEvOk zCl F.2 ∧ F.2.1 = zCn F.1 ∧ F.2.2.2.2.2.2.2.2.2.2 = zFn
/-- what a frame's machine stands on -/
def zmCx (p : Program) (R : Room) (s : State) (m : MethodId) (args : Array Value) (meth : Method) (c : Code) (O : zOm) (F : zmF) : Prop :=
  zmX p R s m args c O (zCn F.1) F.2.2.1 F.2.2.2.1 ∧ meth.name = "<init>" ∧ R.frames = F.2.2.2.2.2.2.2.2.1 ∧ R.locals = F.2.2.2.2.2.2.2.2.2.1
def zmRecOk (rec : zmRec) : Prop := ∀ ci D a b, rec ci = some (D, a, b) → D.length = 1 + a ∧ ∀ O : zOm, zcl O = zCl → zmR O (zFn (zkFi ci)) ci D a b
/-- the words' spelling by Tape.spell -/
def zSpell : Prop := ∀ (k : Nat) (v : Int), (k, v) ∈ zkS → ∀ {p : Program} {e : Env} {R : Room} {s : State} {m : MethodId} {args : Array Value} {below : List Frame} {meth : Method} {c : Code} {Q : State → Prop} {O : zOm} {code : ByteArray} {nL pc : Nat} {st : List zV} {lv : zLv} {C : zmC} {nc ns : Nat}, zmX p R s m args c O (zCn 5) code nL →
  decode code pc = .ok (.ldc k, 2) → decode code (pc + 2) = .ok (.invokestatic 44, 3) → zcats st ≤ 8 → 5 ≤ R.frames → 108 ≤ R.locals → nc ≤ R.cells → ns ≤ R.slots →
  zmGo p e R s m args below meth c Q O nL (pc + 5) ((1, v) :: st) lv C nc ns → zmGo p e R s m args below meth c Q O nL pc st lv C nc ns
def zmNext (F : zmF) (s : zmT) (s' : zmT) : Prop :=
  (s.2.2.2.2.1 ≤ s'.2.2.2.2.1 ∧ s.2.2.2.2.2 ≤ s'.2.2.2.2.2 ∧ s'.2.2.2.1.length + s.2.2.2.2.1 = s.2.2.2.1.length + s'.2.2.2.2.1) ∧
  ∀ {p : Program} {e : Env} {R : Room} {s0 : State} {m : MethodId} {args : Array Value} {below : List Frame} {meth : Method} {c : Code} {Q : State → Prop} {O : zOm}, zmCx p R s0 m args meth c O F → s0.heap.size + s.2.2.2.2.1 = zB O + s.2.2.2.1.length → s'.2.2.2.2.1 ≤ R.cells → s'.2.2.2.2.2 ≤ R.slots →
    zmGo p e R s0 m args below meth c Q O F.2.2.2.1 s'.1 s'.2.1 s'.2.2.1 s'.2.2.2.1 s'.2.2.2.2.1 s'.2.2.2.2.2 → zmGo p e R s0 m args below meth c Q O F.2.2.2.1 s.1 s.2.1 s.2.2.1 s.2.2.2.1 s.2.2.2.2.1 s.2.2.2.2.2
theorem zmPutf_len {c0 : Nat} {C C' : zmC} {ci j : Nat} {v : zV} {o : Int} (h : zmPutf c0 C ci j v o = some C') : C'.length = C.length := by
  unfold zmPutf at h
  split at h
  · cases h
  · split at h
    · split at h
      · split at h
        · split at h
          · cases h; exact List.length_set ..
          · cases h
        · split at h
          · cases h; exact List.length_set ..
          · cases h
        · cases h
      · cases h
    · cases h
theorem zmAast_len {C C' : zmC} {a i v : Int} (h : zmAast C a i v = some C') : C'.length = C.length := by
  unfold zmAast at h
  split at h
  · cases h
  · split at h
    · split at h
      · cases h; exact List.length_set ..
      · cases h
    · cases h
theorem zmLast_len {C C' : zmC} {a i x : Int} (h : zmLast C a i x = some C') : C'.length = C.length := by
  unfold zmLast at h
  split at h
  · cases h
  · split at h
    · split at h
      · cases h; exact List.length_set ..
      · cases h
    · cases h
def zkOok : Bool := zInW (zkO.getD 0 0) (.instanceMethod objectInit) && (zInW (zkO.getD 1 0) (.code objectInit ⟨#[0xb1]⟩ 1 none) && (List.range 13).all fun c => (zko.getD c []).all fun e => zInW e.2 (.methodLink (zCn c) e.1 objectInit))
theorem zkOok_ok : zkOok = true := by decide +kernel
theorem zmObj {F : zmF} {k n pl pc : Nat} {o : Int} {st : List zV} {lv : zLv} {C : zmC} {nc ns : Nat} (hF : F.1 < 13) (hk : (k, pl) ∈ zko.getD F.1 []) (hd : decode F.2.2.1 pc = .ok (.invokespecial k, 3)) (h0 : 0 ≤ o) (h1 : 1 ≤ F.2.2.2.2.2.2.2.2.1) (h2 : zcats st + 12 ≤ F.2.2.2.2.2.2.2.2.2.1) : zmNext F (pc, (2, o) :: st, lv, C, nc, ns) (pc + 3, st, lv, C, nc, ns) := by
  refine ⟨⟨Nat.le_refl _, Nat.le_refl _, rfl⟩, fun {p e R s0 m args below meth c Q O} X hsz hR hRs g => ?_⟩
  obtain ⟨⟨hx, hb, hml, hown, hts, hK, hN, hcl, hB, hAO⟩, hname, hfr, hlo⟩ := X
  intro H locs ls hP hS hl
  have hw := zkOok_ok
  unfold zkOok at hw
  simp only [Bool.and_eq_true] at hw
  have hw3 := List.all_eq_true.mp (List.all_eq_true.mp hw.2.2 F.1 (List.mem_range.mpr hF)) _ hk
  dsimp only
  rw [List.map_cons, zWv_nn O h0]
  refine W.objInit hx hb hown (hts _ (zInW_mem hw3)) (hts _ (zInW_mem hw.1)) (hts _ (zInW_mem hw.2.1)) rfl (by rw [hml]; exact hl.1) rfl hd (by rw [hfr]; exact h1) (by rw [hlo]; show 2 * 0 + ((st.map (zWv O)).map fun v => v.category).sum + 12 ≤ _; rw [zcats_wv]; omega) ?_
  exact W.eq (g2 := F0 m (pc + 3) ls (st.map (zWv O))) rfl (g H locs ls hP hS hl)
