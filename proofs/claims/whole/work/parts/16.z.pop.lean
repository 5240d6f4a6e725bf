/-- how many bits of the lowest twelve -/
def pop (x : Nat) : Nat := fb_ct (fun i => x.testBit i) 12
theorem bc_all : (List.range 4096).all (fun x => f_J6_bitCount_0f7a4 (nI x) == some (nI (pop x))) = true := by decide +kernel
theorem bc_eq {x : Nat} (h : x < 4096) : f_J6_bitCount_0f7a4 (nI x) = some (nI (pop x)) := by
  have := List.all_eq_true.mp bc_all x (List.mem_range.mpr h)
  simpa using this
theorem low_all : (List.range 4096).all (fun x => x == 0 || (pop (x &&& (x - 1)) + 1 == pop x)) = true := by decide +kernel
theorem low_eq {x : Nat} (h : x < 4096) (h0 : x ≠ 0) : pop (x &&& (x - 1)) + 1 = pop x := by
  have := List.all_eq_true.mp low_all x (List.mem_range.mpr h)
  simpa [h0] using this
