theorem zmL_ok {F : zmF} {rec : zmRec} (hF : zmFx F) (hrec : zmRecOk rec) (hsp : zSpell) {D : zmC} {a b : Nat} : ∀ k s, zmL F rec k s = some (D, a, b) →
    (s.2.2.2.2.1 ≤ a ∧ s.2.2.2.2.2 ≤ b ∧ D.length + s.2.2.2.2.1 = s.2.2.2.1.length + a) ∧
    ∀ {p : Program} {e : Env} {R : Room} {s0 : State} {m : MethodId} {args : Array Value} {below : List Frame} {meth : Method} {c : Code} {Q : State → Prop} {O : zOm}, zmCx p R s0 m args meth c O F → s0.heap.size + s.2.2.2.2.1 = zB O + s.2.2.2.1.length → a ≤ R.cells → b ≤ R.slots →
      (∀ pc lv, decode F.2.2.1 pc = .ok (.return_, 1) → zmGo p e R s0 m args below meth c Q O F.2.2.2.1 pc [] lv D a b) → zmGo p e R s0 m args below meth c Q O F.2.2.2.1 s.1 s.2.1 s.2.2.1 s.2.2.2.1 s.2.2.2.2.1 s.2.2.2.2.2 := by
  intro k
  induction k with
  | zero => intro s h; cases h
  | succ k ih =>
    intro s h
    simp only [zmL] at h
    split at h
    · next q hd =>
      have hd := zqF_d hd
      obtain ⟨i, n⟩ := q
      dsimp only at h
      split at h
      · next s' he =>
        obtain ⟨⟨n1, n2, n3⟩, hn⟩ := zmE_ok hF hrec hsp hd he
        obtain ⟨⟨m1, m2, m3⟩, hm⟩ := ih s' h
        refine ⟨⟨by omega, by omega, by omega⟩, fun X hsz hR hRs g => ?_⟩
        exact hn X hsz (by omega) (by omega) (hm X (by omega) hR hRs g)
      · next r he =>
        cases h
        obtain ⟨rfl, rfl, h3, h4⟩ := zmE_ret he
        obtain ⟨pc, st, lv, C, nc, ns⟩ := s
        dsimp only at h3 h4
        subst h3
        cases h4
        exact ⟨⟨Nat.le_refl _, Nat.le_refl _, rfl⟩, fun X hsz hR hRs g => g _ _ hd⟩
      · cases h
    · cases h
def zmEvOk : Bool := (List.range 13).all fun ci => match zxEvs[ci]? with
  | some e => decide (e.1 = zCn ci) && (decide ((zFn (zkFi ci)).1.cls = e.1) && (decide ((zFn (zkFi ci)).1.name = "<init>") && (decide ((zFn (zkFi ci)).2.2.2.1 = none) && (plainName (zFn (zkFi ci)).1.cls && decide (1 ≤ (zFn (zkFi ci)).2.2.1)))))
  | none => false
theorem zmEvOk_ok : zmEvOk = true := by decide +kernel
theorem zmEv_at {ci : Nat} (h : ci < 13) : zmFx (ci, zmEv ci) ∧ (zmEv ci).2.1 = (zFn (zkFi ci)).2.1 ∧ (zmEv ci).2.2.1 = (zFn (zkFi ci)).2.2.1 ∧ (zmEv ci).2.2.2.2.2.2.2.1 = (zFn (zkFi ci)).2.2.2.2.1 ∧ (zmEv ci).2.2.2.2.2.2.2.2.1 = (zFn (zkFi ci)).2.2.2.2.2 ∧ (zFn (zkFi ci)).1.cls = zCn ci ∧ (zFn (zkFi ci)).1.name = "<init>" ∧ (zFn (zkFi ci)).2.2.2.1 = none ∧ plainName (zFn (zkFi ci)).1.cls = true ∧ 1 ≤ (zFn (zkFi ci)).2.2.1 := by
  have h1 := List.all_eq_true.mp zmEvOk_ok ci (List.mem_range.mpr h)
  split at h1
  next e he =>
    simp only [Bool.and_eq_true, decide_eq_true_eq] at h1
    obtain ⟨h1, h2, h3, h4, h5, h6⟩ := h1
    have hE := zxEvs_ok e (List.mem_of_getElem? he) (zFn (zkFi ci))
    unfold zmEv
    rw [he]
    dsimp only
    refine ⟨⟨h, fun k ci' j hk => ?_, hE, h1, rfl⟩, rfl, rfl, rfl, rfl, h2.trans h1, h3, h4, h5, h6⟩
    have := hE.1 k ci' j hk
    rw [show (zxEvOf e (zFn (zkFi ci))).1 = zCn ci from h1] at this
    exact this
  next => cases h1
theorem zmRun_ok (hsp : zSpell) (fuel : Nat) : ∀ d, zmRecOk (zmRun fuel d) := by
  intro d
  induction d with
  | zero => intro ci D a b h; cases h
  | succ d ih =>
    intro ci D a b h
    simp only [zmRun] at h
    split at h
    next hci =>
      obtain ⟨hF, e1, e2, e3, e4, e5, e6, e7, e8, e9⟩ := zmEv_at hci
      obtain ⟨⟨n1, n2, n3⟩, hL⟩ := zmL_ok hF ih hsp fuel _ h
      refine ⟨by dsimp only at n3; simpa using n3, fun O hcl => ?_⟩
      unfold zmR
      refine Met.ofW (cc := (zFn (zkFi ci)).2.1) (maxL := (zFn (zkFi ci)).2.2.1) (ret := none) e8 (by unfold zWs; rw [e7]) ?_
      intro p e s m args below meth c s₁ B hml hv
      obtain ⟨rfl, hsz, hP, hK, hN, hAO, hSt⟩ := hv
      have hlocks := B.notSynchronized
      have hts : ∀ w ∈ zWs (zFn (zkFi ci)), w.before ([Value.ref (zB O + 0)] : List Value).toArray s = true := atoms_spec (ws := zWs (zFn (zkFi ci))) B.pre
      have hin : meth.name = "<init>" := by
        have := (name_of_methodNamed B.named B.method).1
        rw [this]; exact e6
      have X : zmCx p (headSpec (zWs (zFn (zkFi ci))) { frames := (zFn (zkFi ci)).2.2.2.2.1, cells := a, slots := b, locals := (zFn (zkFi ci)).2.2.2.2.2 }).room s m ([Value.ref (zB O + 0)] : List Value).toArray meth c O (ci, zmEv ci) :=
        ⟨⟨B.exec, by rw [B.bytes]; exact e1.symm, by rw [hml]; exact e2.symm, by rw [← e5]; exact findClass_of_methodNamed B.named, fun w hw => hts w (List.mem_cons_of_mem _ hw), hK, hN, hcl, by rw [hsz]; exact Nat.le_add_right _ _, hAO, hSt⟩, hin, e3.symm, e4.symm⟩
      have hlen : (lg_sl ([Value.ref (zB O + 0)] : List Value)).length ≤ (zFn (zkFi ci)).2.2.1 := e9
      have hl := lv_entry ([Value.ref (zB O + 0)] : List Value) (n := (zFn (zkFi ci)).2.2.1) hlen
      rw [lg_entry_eq]
      refine hL X (by rw [hsz]; rfl) (Nat.le_refl _) (Nat.le_refl _) (fun pc lv hd => ?_) s.heap [] _ hP va_S.rf ?_
      · intro H locs ls hP2 hS2 hl2
        exact W.vret B.exec B.bytes B.returns (fun t ht hW => ⟨rfl, by rw [ht]; exact hP2, hS2.F ht⟩) hS2.2.2 (by rw [← e1]; exact hd)
      · rw [e2]; exact hl
    next => cases h
