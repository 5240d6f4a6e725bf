def cPc (base b : Nat) (cy : Nat → ClassId) (dC : Nat → ClassId) (dI : Nat → Nat → Nat) (as : List Value) (z : Zc) : Array Value → State → Prop := fun v U => v = (as.map (cv base b)).toArray ∧ (va_P (dC, dI) vwCl (wsN base cy z) U.heap ∧ U.heap.size = base + z.1) ∧ va_K (dC, dI) vwCl (tysOf cy) U ∧ (∀ w ∈ tblM, va_Nw w U) ∧ va_AO RX5 U ∧ va_AO RX4 U
def cQc (base : Nat) (cy : Nat → ClassId) (dC : Nat → ClassId) (dI : Nat → Nat → Nat) (z : Zc) : Array Value → State → Outcome → State → Prop := fun _ st oc t => oc = .returned none ∧ va_P (dC, dI) vwCl (wsN base cy z) t.heap ∧ va_F (fun q => base ≤ q) st t
/-- a maker's contract -/
def MethC (D : Nat) (y : MethodName) (cc : ByteArray) (nL : Nat) (as : List Value) (z : Zc) (o : Option Zc) : Prop :=
  ∀ zF, o = some zF → z.1 ≤ zF.1 ∧ ∀ (base b : Nat) (cy : Nat → ClassId) (dC : Nat → ClassId) (dI : Nat → Nat → Nat) (l : Launch), Met l y (Cond.code y cc nL none :: tblG) { frames := D, cells := zF.1 - z.1, slots := SZ zF.1 - SZ z.1, locals := 64 * D } (cPc base b cy dC dI as z) (cQc base cy dC dI zF) (zF.1 - z.1) (SZ zF.1 - SZ z.1) (fun q => base ≤ q)
theorem cPc_blind {base b : Nat} {cy : Nat → ClassId} {dC : Nat → ClassId} {dI : Nat → Nat → Nat} {as : List Value} {z : Zc} : FrameBlind (cPc base b cy dC dI as z) := fun a U g mk q => ⟨q.1, q.2.1, va_K.moved (u := U) (U := U.calling g mk a) (Vm.Alike.refl U.vm) q.2.2.1, tM_same (s := U) (U := U.calling g mk a) rfl q.2.2.2.1, va_AO.moved (u := U) (U := U.calling g mk a) (Vm.Alike.refl U.vm) q.2.2.2.2.1, va_AO.moved (u := U) (U := U.calling g mk a) (Vm.Alike.refl U.vm) q.2.2.2.2.2⟩
/-- where a maker ends -/
def Eret (cc : ByteArray) : Nat → List (Nat × Value) → List Value → Prop := fun pc _ st => decode cc pc = .ok (.return_, 1) ∧ st = []
section CCalls
variable {D : Nat} {y : MethodName} {cc : ByteArray} {nL : Nat} {E : Nat → List (Nat × Value) → List Value → Prop} {pc : Nat} {L L' : List (Nat × Value)} {st : List Value} {z : Zc} {o : Option Zc}
theorem methC_of {as : List Value} (hy : plainName y.cls = true) (hlen : (lg_sl as).length ≤ nL) (hL : lv_args 0 as = L) (h : RunC D y cc nL (Eret cc) 0 L [] z o) : MethC D y cc nL as z o := by
  intro zF hz
  obtain ⟨hle, h⟩ := h zF hz
  refine ⟨hle, ?_⟩
  intro base b cy dC dI l
  subst hL
  refine Met.ofW (cc := cc) (maxL := nL) (ret := none) hy rfl ?_
  intro p e s m args below meth c s₁ B0 hml hv
  obtain ⟨rfl, ⟨hP, hsz⟩, hK, hN, hA5, hA4⟩ := hv
  have hts := atoms_spec (ws := Cond.code y cc nL none :: tblG) B0.pre
  have hown : s.vm.findClass y.cls = some m.cls := findClass_of_methodNamed B0.named
  have hl := lv_entry (as.map (cv base b)) (n := nL) (by rw [lg_sl_cv]; exact hlen)
  have hin : meth.name = y.name := (name_of_methodNamed B0.named B0.method).1
  rw [lg_entry_eq]
  rw [lv_args_cv] at hl
  have hlocks := B0.notSynchronized
  refine h base b cy dC dI z.1 p l e _ s m _ below meth c s.heap [] 0 0 _ _ ⟨⟨B0.exec, B0.bytes, hml, hown, fun w hw => hts w (List.mem_cons_of_mem _ hw), hK, hN, ⟨hA5, hA4⟩, fun h => hin.trans h⟩, ⟨hP, va_S.rf⟩, ⟨hsz, Nat.le_refl _, by omega, by omega⟩, Nat.le_refl _, Nat.le_refl _, Nat.le_refl _, Nat.le_refl _⟩ hl ?_
  intro pc' L' st' ls' H1 locs1 hE _ hP1 hS1
  obtain ⟨hdr, rfl⟩ := hE
  exact W.vret B0.exec B0.bytes B0.returns (fun t ht _ => ⟨rfl, by rw [ht]; exact hP1, hS1.F ht⟩) hS1.2.2 hdr
theorem c_return (hd : decode cc pc = .ok (.return_, 1)) : RunC D y cc nL (Eret cc) pc L [] z (some z) := c_end ⟨hd, rfl⟩
theorem c_obj {idx a : Nat} (hd : decode cc pc = .ok (.invokespecial idx, 3)) (hw : Cond.methodLink y.cls idx Lib.objectInit ∈ tblG ∧ Cond.instanceMethod Lib.objectInit ∈ tblG ∧ Cond.code Lib.objectInit ⟨#[0xb1]⟩ 1 none ∈ tblG) (hD : 1 ≤ D) (hst : (st.map fun v => v.category).sum ≤ 8) (k : RunC D y cc nL E (pc + 3) L st z o) : RunC D y cc nL E pc L (.ref a :: st) z o := by
  intro zF hz
  obtain ⟨hle, k⟩ := k zF hz
  refine ⟨hle, ?_⟩
  intro base b cy dC dI k0 p l e R s m args below meth c H locs cells slots Q ls C hl hF
  obtain ⟨a', ha'⟩ := cv_ref (base := base) (b := b) (a := a)
  simp only [List.map_cons, ha']
  have h1 := C.2.2.2.1
  have h2 := C.2.2.2.2.1
  exact W.objInit C.1.1 C.1.2.1 C.1.2.2.2.1 (C.1.2.2.2.2.1 _ hw.1) (C.1.2.2.2.2.1 _ hw.2.1) (C.1.2.2.2.2.1 _ hw.2.2) rfl (hl.1.trans C.1.2.2.1.symm) rfl hd (by omega) (by rw [sum_cv]; show 2 * 0 + _ + 12 ≤ _; omega) (k base b cy dC dI k0 p l e R s m args below meth c H locs cells slots Q ls C hl hF)
def CI (own : String) (idx : Nat) (y' : MethodName) (cc' : ByteArray) (nL' : Nat) : Prop := Cond.methodLink own idx y' ∈ tblG ∧ Cond.instanceMethod y' ∈ tblG ∧ Cond.code y' cc' nL' none ∈ tblG ∧ Cond.initialized y'.cls ∈ tblG ∧ CD y' 0 ∧ nL' ≤ 45 ∧ y'.name = "<init>"
def CJ (own : String) (idx : Nat) (y' : MethodName) (cc' : ByteArray) (nL' : Nat) : Prop := Cond.methodLinkNest own idx y' "OneOfEach" ∈ tblM ∧ Cond.instanceMethod y' ∈ tblG ∧ Cond.code y' cc' nL' none ∈ tblG ∧ Cond.initialized y'.cls ∈ tblG ∧ CD y' 0 ∧ nL' ≤ 45 ∧ y'.name = "<init>"
theorem c_callI {D' : Nat} {y' : MethodName} {cc' : ByteArray} {nL' idx a : Nat} {o' : Option Zc} {K : Zc → Option Zc} (hd : decode cc pc = .ok (.invokespecial idx, 3)) (hw : CI y.cls idx y' cc' nL') (hM : MethC D' y' cc' nL' [.ref a] z o') (hD : D' + 1 ≤ D) (hst : (st.map fun v => v.category).sum ≤ 8) (k : ∀ v, o' = some v → RunC D y cc nL E (pc + 3) L st v (K v)) : RunC D y cc nL E pc L (.ref a :: st) z (gd (decide (a < 95)) (o'.bind K)) := by
  refine c_gd (fun ha5 => ?_)
  have ha5 := of_decide_eq_true ha5
  intro zF hz
  obtain ⟨v, hv, hz⟩ := Option.bind_eq_some_iff.mp hz
  obtain ⟨hle1, hM⟩ := hM v hv
  obtain ⟨hle, k⟩ := k v hv zF hz
  refine ⟨by omega, ?_⟩
  intro base b cy dC dI k0 p l e R s m args below meth c H locs cells slots Q ls C hl hF
  refine W_size (fun hsz => ?_)
  have hH := C.size hsz
  obtain ⟨q1, q2, q3, q4⟩ := C.2.2.1
  obtain ⟨q5, q6, q7, q8⟩ := C.2.2.2
  have m1 := SZ_mono q2
  have m2 := SZ_mono hle1
  have m3 := SZ_mono hle
  have hnl := hw.2.2.2.2.2.1
  simp only [List.map_cons, cv_r ha5]
  have hMm := hM base b cy dC dI l
  have hroom : ({ frames := D', cells := v.1 - z.1, slots := SZ v.1 - SZ z.1, locals := 64 * D' } : Room).frames + 1 ≤ R.frames ∧ 8 + (nL' + 11) + ({ frames := D', cells := v.1 - z.1, slots := SZ v.1 - SZ z.1, locals := 64 * D' } : Room).locals ≤ R.locals := ⟨by show D' + 1 ≤ R.frames; omega, by show 8 + (nL' + 11) + 64 * D' ≤ R.locals; omega⟩
  have hpre : PreS s H (cPc base b cy dC dI [.ref a] z) (.ref (base + a) :: []) := ⟨cPc_blind, fun U hU hW => ⟨by show _ = ([cv base b (.ref a)]).toArray; rw [cv_r ha5], ⟨by rw [hU]; exact C.2.1.1, by rw [hU]; exact hH⟩, va_K.moved hW.alike C.1.2.2.2.2.2.1, tM_warm hW C.1.2.2.2.2.2.2.1, va_AO.moved hW.alike C.1.2.2.2.2.2.2.2.1.1, va_AO.moved hW.alike C.1.2.2.2.2.2.2.2.1.2⟩⟩
  have hcap : cells + (v.1 - z.1) ≤ R.cells ∧ slots + (SZ v.1 - SZ z.1) ≤ R.slots := ⟨by omega, by omega⟩
  have hr : va_Run p l e R s m args below meth c H locs cells slots (v.1 - z.1) (SZ v.1 - SZ z.1) (F0 m pc ls (.ref (base + a) :: st.map (cv base b))) (st.map (cv base b)) (cQc base cy dC dI v (Value.ref (base + a) :: []).toArray) (fun q => base ≤ q) := va_runI (b := base + a) (As := []) (g := F0 m pc ls (.ref (base + a) :: st.map (cv base b))) ⟨C.1.1, C.1.2.1, C.1.2.2.1, C.1.2.2.2.1, C.1.2.2.2.2.1⟩ hMm ⟨callB_of 0 C.1.2.2.2.2.1 (tG_in hw.2.2.1) rfl rfl rfl (C.1.2.2.2.2.1 _ hw.2.2.2.1) (C.1.2.2.2.2.1 _ hw.1) hw.2.2.2.2.1 hroom, hw.2.2.2.2.2.2, C.1.2.2.2.2.1 _ hw.2.1⟩ hpre rfl rfl hl.1 rfl (lv_room (by rw [sum_cv]; exact hst)) hd hcap
  intro U hU Y
  obtain ⟨v0, st₀, t, U', L2, h0, Y', hL, e1, e2, ⟨hv0, hb, hzz, hk⟩, sx⟩ := hr U hU Y
  cases hv0
  rw [h0] at hzz hk
  have hS := C.2.1.2
  obtain ⟨t2, a1, b1⟩ := k base b cy dC dI k0 p l e R s m args below meth c U'.heap (locs ++ L2) (cells + (v.1 - z.1)) (slots + (SZ v.1 - SZ z.1)) Q ls ⟨C.1, ⟨by rw [e1]; exact hb, ⟨Nat.le_trans hS.1 (by rw [e1]; exact hzz), fun q h1 h2 => by rw [e1, hk q (Nat.lt_of_lt_of_le h1 hS.1) h2]; exact hS.2.1 q h1 h2, fun q hq => by
      rcases List.mem_append.mp hq with h | h
      · exact hS.2.2 q h
      · exact hL q h⟩⟩, ⟨q1, by omega, by omega, by omega⟩, C.2.2.2⟩ hl hF U' rfl Y'
  exact ⟨t2, sx t2 a1, b1⟩
theorem c_callJ {D' : Nat} {y' : MethodName} {cc' : ByteArray} {nL' idx a : Nat} {o' : Option Zc} {K : Zc → Option Zc} (hd : decode cc pc = .ok (.invokespecial idx, 3)) (hw : CJ y.cls idx y' cc' nL') (hM : MethC D' y' cc' nL' [.ref a] z o') (hD : D' + 1 ≤ D) (hst : (st.map fun v => v.category).sum ≤ 8) (k : ∀ v, o' = some v → RunC D y cc nL E (pc + 3) L st v (K v)) : RunC D y cc nL E pc L (.ref a :: st) z (gd (decide (a < 95)) (o'.bind K)) := by
  refine c_gd (fun ha5 => ?_)
  have ha5 := of_decide_eq_true ha5
  intro zF hz
  obtain ⟨v, hv, hz⟩ := Option.bind_eq_some_iff.mp hz
  obtain ⟨hle1, hM⟩ := hM v hv
  obtain ⟨hle, k⟩ := k v hv zF hz
  refine ⟨by omega, ?_⟩
  intro base b cy dC dI k0 p l e R s m args below meth c H locs cells slots Q ls C hl hF
  refine W_size (fun hsz => ?_)
  have hH := C.size hsz
  obtain ⟨q1, q2, q3, q4⟩ := C.2.2.1
  obtain ⟨q5, q6, q7, q8⟩ := C.2.2.2
  have m1 := SZ_mono q2
  have m2 := SZ_mono hle1
  have m3 := SZ_mono hle
  have hnl := hw.2.2.2.2.2.1
  simp only [List.map_cons, cv_r ha5]
  have hMm := hM base b cy dC dI l
  have hroom : ({ frames := D', cells := v.1 - z.1, slots := SZ v.1 - SZ z.1, locals := 64 * D' } : Room).frames + 1 ≤ R.frames ∧ 8 + (nL' + 11) + ({ frames := D', cells := v.1 - z.1, slots := SZ v.1 - SZ z.1, locals := 64 * D' } : Room).locals ≤ R.locals := ⟨by show D' + 1 ≤ R.frames; omega, by show 8 + (nL' + 11) + 64 * D' ≤ R.locals; omega⟩
  have hpre : PreS s H (cPc base b cy dC dI [.ref a] z) (.ref (base + a) :: []) := ⟨cPc_blind, fun U hU hW => ⟨by show _ = ([cv base b (.ref a)]).toArray; rw [cv_r ha5], ⟨by rw [hU]; exact C.2.1.1, by rw [hU]; exact hH⟩, va_K.moved hW.alike C.1.2.2.2.2.2.1, tM_warm hW C.1.2.2.2.2.2.2.1, va_AO.moved hW.alike C.1.2.2.2.2.2.2.2.1.1, va_AO.moved hW.alike C.1.2.2.2.2.2.2.2.1.2⟩⟩
  have hcap : cells + (v.1 - z.1) ≤ R.cells ∧ slots + (SZ v.1 - SZ z.1) ≤ R.slots := ⟨by omega, by omega⟩
  have hr : va_Run p l e R s m args below meth c H locs cells slots (v.1 - z.1) (SZ v.1 - SZ z.1) (F0 m pc ls (.ref (base + a) :: st.map (cv base b))) (st.map (cv base b)) (cQc base cy dC dI v (Value.ref (base + a) :: []).toArray) (fun q => base ≤ q) := va_runIN (b := base + a) (host := "OneOfEach") (As := []) (g := F0 m pc ls (.ref (base + a) :: st.map (cv base b))) ⟨C.1.1, C.1.2.1, C.1.2.2.1, C.1.2.2.2.1, C.1.2.2.2.2.1⟩ hMm ⟨va_cnB 0 C.1.2.2.2.2.1 (tG_in hw.2.2.1) rfl rfl rfl (C.1.2.2.2.2.2.2.1 _ hw.1) (C.1.2.2.2.2.1 _ hw.2.2.2.1) hw.2.2.2.2.1 hroom, hw.2.2.2.2.2.2, C.1.2.2.2.2.1 _ hw.2.1⟩ hpre rfl rfl hl.1 rfl (lv_room (by rw [sum_cv]; exact hst)) hd hcap
  intro U hU Y
  obtain ⟨v0, st₀, t, U', L2, h0, Y', hL, e1, e2, ⟨hv0, hb, hzz, hk⟩, sx⟩ := hr U hU Y
  cases hv0
  rw [h0] at hzz hk
  have hS := C.2.1.2
  obtain ⟨t2, a1, b1⟩ := k base b cy dC dI k0 p l e R s m args below meth c U'.heap (locs ++ L2) (cells + (v.1 - z.1)) (slots + (SZ v.1 - SZ z.1)) Q ls ⟨C.1, ⟨by rw [e1]; exact hb, ⟨Nat.le_trans hS.1 (by rw [e1]; exact hzz), fun q h1 h2 => by rw [e1, hk q (Nat.lt_of_lt_of_le h1 hS.1) h2]; exact hS.2.1 q h1 h2, fun q hq => by
      rcases List.mem_append.mp hq with h | h
      · exact hS.2.2 q h
      · exact hL q h⟩⟩, ⟨q1, by omega, by omega, by omega⟩, C.2.2.2⟩ hl hF U' rfl Y'
  exact ⟨t2, sx t2 a1, b1⟩
end CCalls
