theorem q_throw {O : zOm} (hO : zWld O) (hS : zS O = zmS zC0) {f : zLf} (hlk : zLkOk f) {x p0 p1 p2 : Int} {fm : Nat}
    (hc : ∀ (K : Option zV → zMem → Prop) (KX : String → zMem → Prop), zR O F_ToldNet_find [(2, 0), (0, p0)] (zmM zC0) (fun v M' => v = some (2, -1) ∧ KX "java/util/NoSuchElementException" M') → zRX O (zFn f.2.2.2) [(2, 0), (0, p0), (0, p1), (0, p2)] (zmM zC0) K KX)
    (hm : ∀ K : Option zV → zMem → Prop, K (some (0, 0)) (zput (zmM zC0) 249 (zup (zmM zC0 249) ((0 : Nat) : Int) 1)) → zR O (zFn fm) [(2, 249), (0, p0), (0, p1), (0, p2)] (zmM zC0) K) :
    zLM O f [(2, 0), (0, p0), (0, p1), (0, p2), (2, 310)] (zmM zC0) (fun v u => v = some (0, 1) ∧ zR O (zFn fm) [(2, 249), (0, p0), (0, p1), (0, p2)] u (fun v2 u2 => (∃ r2, v2 = some (0, r2)) ∧ zR O (zFn 204) [(2, 249)] u2 (fun v3 u3 => v3 = some (0, 1) ∧ True))) := by
  refine zlW1 hO hlk (by decide) (by decide) (by rw [hS]; exact zC0_x) (hc _ _ ?_)
  refine n_ToldNet_find hO hS zC0_told ⟨rfl, rfl, rfl, ?_⟩
  refine hm _ ⟨⟨0, rfl⟩, ?_⟩
  refine s_Model_thrown hO hS ⟨?_, trivial⟩
  unfold zput zup
  rw [if_pos rfl, if_pos rfl]
theorem q_word {O : zOm} (hO : zWld O) (hS : zS O = zmS zC0) (hl : (zLn O).stackTraces = false) {p0 p1 p2 : Int} : zLM O zLw [(2, 0), (0, p0), (0, p1), (0, p2), (2, 310)] (zmM zC0) (fun v u => v = some (0, 1) ∧ zR O (zFn 259) [(2, 249), (0, p0), (0, p1), (0, p2)] u (fun v2 u2 => (∃ r2, v2 = some (0, r2)) ∧ zR O (zFn 204) [(2, 249)] u2 (fun v3 u3 => v3 = some (0, 1) ∧ True))) :=
  q_throw (x := 0) hO hS zLw_lk (fun K KX h => zx_word1 hO hl (by rw [hS]; exact zC0_x) h) (fun K h => n_Model_word hO hS zC0_tellings h)
theorem q_except {O : zOm} (hO : zWld O) (hS : zS O = zmS zC0) (hl : (zLn O).stackTraces = false) {p0 p1 p2 : Int} : zLM O zLe [(2, 0), (0, p0), (0, p1), (0, p2), (2, 310)] (zmM zC0) (fun v u => v = some (0, 1) ∧ zR O (zFn 262) [(2, 249), (0, p0), (0, p1), (0, p2)] u (fun v2 u2 => (∃ r2, v2 = some (0, r2)) ∧ zR O (zFn 204) [(2, 249)] u2 (fun v3 u3 => v3 = some (0, 1) ∧ True))) :=
  q_throw (x := 0) hO hS zLe_lk (fun K KX h => zx_except1 hO hl (by rw [hS]; exact zC0_x) h) (fun K h => n_Model_except hO hS zC0_tellings h)
