/-! ===== the pools' rows are words of the tables ===== -/
def zInW (pl : Nat) (w : Jvm.Cond) : Bool := decide (zAt pl = some w) && goodWord w
theorem zInW_mem {pl : Nat} {w : Jvm.Cond} (h : zInW pl w = true) : w ∈ zWS := by
  unfold zInW at h
  rw [Bool.and_eq_true, decide_eq_true_eq] at h
  exact zAt_mem h.1 h.2
def zpfF (L : List (Nat × Nat × Nat × Nat)) : Nat → Option (Nat × Nat) := fun k => (L.find? (fun e => e.1 == k)).map (fun e => (e.2.1, e.2.2.1))
def zpmF (L : List (Nat × Nat × Nat × Nat × Nat × Nat × Nat × Nat)) : Nat → Option zMI := fun k => (L.find? (fun e => e.1 == k)).map (fun e => (e.2.1, e.2.2.1, e.2.2.2.1, e.2.2.2.2.1))
def zpkF (L : List (Nat × Nat × Int × Nat)) : Nat → Option zV := fun k => (L.find? (fun e => e.1 == k)).map (fun e => (e.2.1, e.2.2.1))
def zfok (own : String) (L : List (Nat × Nat × Nat × Nat)) : Bool := L.all fun e => match zCl[e.2.1]? with
  | some (_, T, N) => decide (e.2.2.1 < N) && zInW e.2.2.2 (.fieldLink own e.1 (T e.2.2.1).1 (T e.2.2.1).2.1 (T e.2.2.1).2.2.1)
  | none => false
def zFnOk : Bool := (List.range zFnL.length).all fun f => match zFnP[f]? with
  | some (p1, p2, na) => (zInW p2 (.initialized (zFn f).1.cls) && (decide ((zFn f).1.cls ≠ "java/lang/invoke/MethodHandle") && (decide ((zFn f).1.cls ≠ "java/lang/invoke/VarHandle") && (decide ((parseMethodDescriptor (zFn f).1.desc).map (fun d => d.parameters.length) = some na) && plainName (zFn f).1.cls))))
  | none => false
def zmok (own : String) (L : List (Nat × Nat × Nat × Nat × Nat × Nat × Nat × Nat)) : Bool := L.all fun e => match e with
  | (k, kd, f, ci, na, p1, p2, p3) => (decide (3 ≤ kd) || decide (f < zFnL.length ∧ (zFnP[f]?).map (fun q => q.2.2) = some na)) && (
    if kd = 0 then (match zCl[ci]? with
        | some (C, _, _) => decide (C = (zFn f).1.cls)
        | none => false) && (zInW p1 (.methodLink own k (zFn f).1) && (zInW p2 (.instanceMethod (zFn f).1) && zInW p3 (.selects (zFn f).1.cls (zFn f).1 (zFn f).1)))
    else if kd = 1 then zInW p1 (.methodLink own k (zFn f).1) && zInW p2 (.static (zFn f).1)
    else if kd = 2 then decide (zNest[p1]? = some (own, k, (zFn f).1)) && zInW p2 (.static (zFn f).1)
    else if kd = 5 then zInW p1 (.methodLink own k arraycopyName) && (zInW (zArrP.getD 0 0) (.native arraycopyName) && (zInW (zArrP.getD 1 0) (.static arraycopyName) && zInW (zArrP.getD 2 0) (.initialized "java/lang/System")))
    else if kd = 3 then zInW p1 (.methodLink own k Lib.Math.max.name) && (zInW p2 (.static Lib.Math.max.name) && (zInW (zMMP.getD 0 0) (.initialized "java/lang/Math") && zInW (zMMP.getD 1 0) (.code Lib.Math.max.name Lib.Math.max.code 2 (some .int))))
    else if kd = 4 then zInW p1 (.methodLink own k Lib.Math.min.name) && (zInW p2 (.static Lib.Math.min.name) && (zInW (zMMP.getD 0 0) (.initialized "java/lang/Math") && zInW (zMMP.getD 2 0) (.code Lib.Math.min.name Lib.Math.min.code 2 (some .int))))
    else false)
def zkok (own : String) (L : List (Nat × Nat × Int × Nat)) : Bool := L.all fun e => if e.2.1 = 0 then zInW e.2.2.2 (.constant own e.1 (zi e.2.2.1)) else zInW e.2.2.2 (.constantLong own e.1 (zl e.2.2.1))
def zclok : Bool := (List.range zCl.length).all fun ci => match zCl[ci]?, zClP[ci]? with
  | some (C, T, N), some ps => (List.range N).all (fun k => zInW (ps.getD k 0) (u_lay C T k)) && ((List.range N).all (fun k => (parseFieldDescriptor (T k).2.2.1).isSome) && (List.range N).all (fun a => (List.range N).all (fun b => decide (a = b) || decide ((T a).2.1 ≠ (T b).2.1))))
  | _, _ => false

theorem zFnOk_ok : zFnOk = true := by decide +kernel
theorem zclok_ok : zclok = true := by decide +kernel
