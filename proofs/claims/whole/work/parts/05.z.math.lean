def mxI (x u : Int32) : Int32 := if x < u then u else x
def mnI (x u : Int32) : Int32 := if u < x then u else x
def abI (x : Int32) : Int32 := if 0 ≤ x then x else 0 - x
def mxL (x u : Int64) : Int64 := if u < x then x else u
theorem jm_1 : yJ9_max_7cf53 = Lib.Math.max.name := by decide +kernel
theorem jm_2 : yJ9_min_7cf53 = Lib.Math.min.name := by decide +kernel
theorem jm_3 : yJ9_abs_0f7a4 = Lib.Math.abs.name := by decide +kernel
theorem jm_4 : yJ9_max_f86c9 = Lib.MathLoose.max_long.x := by decide +kernel
theorem jc_1 : cJ9_max_7cf53 = Lib.Math.max.code := by decide +kernel
theorem jc_2 : cJ9_min_7cf53 = Lib.Math.min.code := by decide +kernel
theorem jc_3 : cJ9_abs_0f7a4 = Lib.Math.abs.code := by decide +kernel
theorem jc_4 : cJ9_max_f86c9 = Lib.MathLoose.max_long.code := by decide +kernel
section MathRows
variable {α : Type} {D : Nat} {y : MethodName} {cc : ByteArray} {nL : Nat} {rt : Option FieldType} {X : Option (Nat × (Nat → Int32))} {ρ : α → Option Value × Mem} {pc : Nat} {L L' : List (Nat × Value)} {st : List Value} {σ : Mem} {o : Option α}
theorem r_mmax {x u : Int32} {idx : Nat} (hd : decode cc pc = .ok (.invokestatic idx, 3)) (hw : CS y.cls idx yJ9_max_7cf53 cJ9_max_7cf53 2 (some .int) 2) (hD : 1 ≤ D) (hst : (st.map fun v => v.category).sum ≤ 8) (k : Run D y cc nL rt X ρ (pc + 3) L (.int (mxI x u) :: st) σ o) : Run D y cc nL rt X ρ pc L (.int u :: .int x :: st) σ o := by
  rw [jm_1, jc_1] at hw
  intro z hz base b cy dC dI p l e R s m args below meth c H locs cells slots Q ls C hl hF
  refine va_mmax C.1.1 C.1.2.1 (C.1.2.2.1.trans hl.1.symm) C.1.2.2.2.1 (C.1.2.2.2.2.1 _ hw.1) (C.1.2.2.2.2.1 _ hw.2.1) (C.1.2.2.2.2.1 _ hw.2.2.2.1) (C.1.2.2.2.2.1 _ hw.2.2.1) (Nat.le_trans hD C.2.2.1) ?_ C.2.2.2.2.1 C.2.2.2.2.2 hd (k z hz base b cy dC dI p l e R s m args below meth c H locs cells slots Q ls C hl hF)
  have h1 := C.2.2.2.1
  rw [sum_cv]
  omega
theorem r_mmin {x u : Int32} {idx : Nat} (hd : decode cc pc = .ok (.invokestatic idx, 3)) (hw : CS y.cls idx yJ9_min_7cf53 cJ9_min_7cf53 2 (some .int) 2) (hD : 1 ≤ D) (hst : (st.map fun v => v.category).sum ≤ 8) (k : Run D y cc nL rt X ρ (pc + 3) L (.int (mnI x u) :: st) σ o) : Run D y cc nL rt X ρ pc L (.int u :: .int x :: st) σ o := by
  rw [jm_2, jc_2] at hw
  intro z hz base b cy dC dI p l e R s m args below meth c H locs cells slots Q ls C hl hF
  refine va_mmin C.1.1 C.1.2.1 (C.1.2.2.1.trans hl.1.symm) C.1.2.2.2.1 (C.1.2.2.2.2.1 _ hw.1) (C.1.2.2.2.2.1 _ hw.2.1) (C.1.2.2.2.2.1 _ hw.2.2.2.1) (C.1.2.2.2.2.1 _ hw.2.2.1) (Nat.le_trans hD C.2.2.1) ?_ C.2.2.2.2.1 C.2.2.2.2.2 hd (k z hz base b cy dC dI p l e R s m args below meth c H locs cells slots Q ls C hl hF)
  have h1 := C.2.2.2.1
  rw [sum_cv]
  omega
theorem r_mabs {x : Int32} {idx : Nat} (hd : decode cc pc = .ok (.invokestatic idx, 3)) (hw : CS y.cls idx yJ9_abs_0f7a4 cJ9_abs_0f7a4 1 (some .int) 1) (hD : 1 ≤ D) (hst : (st.map fun v => v.category).sum ≤ 8) (k : Run D y cc nL rt X ρ (pc + 3) L (.int (abI x) :: st) σ o) : Run D y cc nL rt X ρ pc L (.int x :: st) σ o := by
  rw [jm_3, jc_3] at hw
  intro z hz base b cy dC dI p l e R s m args below meth c H locs cells slots Q ls C hl hF
  refine va_mabs C.1.1 C.1.2.1 (C.1.2.2.1.trans hl.1.symm) C.1.2.2.2.1 (C.1.2.2.2.2.1 _ hw.1) (C.1.2.2.2.2.1 _ hw.2.1) (C.1.2.2.2.2.1 _ hw.2.2.2.1) (C.1.2.2.2.2.1 _ hw.2.2.1) (Nat.le_trans hD C.2.2.1) ?_ C.2.2.2.2.1 C.2.2.2.2.2 hd (k z hz base b cy dC dI p l e R s m args below meth c H locs cells slots Q ls C hl hF)
  have h1 := C.2.2.2.1
  rw [sum_cv]
  omega
theorem r_mmaxl {x u : Int64} {idx : Nat} (hd : decode cc pc = .ok (.invokestatic idx, 3)) (hw : CS y.cls idx yJ9_max_f86c9 cJ9_max_f86c9 4 (some .long) 2) (hD : 1 ≤ D) (hst : (st.map fun v => v.category).sum ≤ 8) (k : Run D y cc nL rt X ρ (pc + 3) L (.long (mxL x u) :: st) σ o) : Run D y cc nL rt X ρ pc L (.long u :: .long x :: st) σ o := by
  rw [jm_4, jc_4] at hw
  intro z hz base b cy dC dI p l e R s m args below meth c H locs cells slots Q ls C hl hF
  refine va_mmax_long C.1.1 C.1.2.1 (C.1.2.2.1.trans hl.1.symm) C.1.2.2.2.1 (C.1.2.2.2.2.1 _ hw.1) (C.1.2.2.2.2.1 _ hw.2.1) (C.1.2.2.2.2.1 _ hw.2.2.2.1) (C.1.2.2.2.2.1 _ hw.2.2.1) (Nat.le_trans hD C.2.2.1) ?_ C.2.2.2.2.1 C.2.2.2.2.2 hd (k z hz base b cy dC dI p l e R s m args below meth c H locs cells slots Q ls C hl hF)
  have h1 := C.2.2.2.1
  rw [sum_cv]
  omega
end MathRows
