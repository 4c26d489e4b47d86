/-! ===== the exceptions' classes at the start ===== -/
theorem zCat_start {s : State} {b : Nat} (hts : ∀ w ∈ lw_tbl, w.before #[Value.ref b] s = true) : zCat s :=
  ⟨va_Nw.of rfl (hts _ (List.mem_of_getElem? (i := 1583) (by decide +kernel))), va_Nw.of rfl (hts _ (List.mem_of_getElem? (i := 1649) (by decide +kernel)))⟩
