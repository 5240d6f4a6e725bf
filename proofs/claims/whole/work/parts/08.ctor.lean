/-! the making: cells come one by one in the order of their numbers; a reference is null until it is set -/
abbrev SN : Type := Nat → Nat → Bool
abbrev Zc : Type := Nat × SI × SL × SN
def fvN (base : Nat) (f : Nat → Int32) (g : Nat → Int64) (n : Nat → Bool) (k : Nat) (x : FK) : Value := match x with
  | .inl r => if n k = true then .ref (base + r) else .null
  | .inr false => .int (f k)
  | .inr true => .long (g k)
def cellN (base : Nat) (cy : Nat → ClassId) (i : Nat) (x : SH) (f : Nat → Int32) (g : Nat → Int64) (n : Nat → Bool) : va_E := match x with
  | .inl o => .inr (o.1, o.2.mapIdx (fvN base f g n))
  | .inr (m, 0) => .inl (cy 0, m, .inl f)
  | .inr (m, 1) => .inl (cy 1, m, .inr (.inl g))
  | .inr (m, k + 2) => .inl (cy (k + 2), m, .inr (.inr (.inr (.inr (fun j => if n j = true then some (base + el i j) else none)))))
def wsN (base : Nat) (cy : Nat → ClassId) (z : Zc) : va_W := (List.range z.1).map (fun i => (base + i, cellN base cy i (sh i) (z.2.1 i) (z.2.2.1 i) (z.2.2.2 i)))
theorem wn_at {base : Nat} {cy : Nat → ClassId} {z : Zc} {i : Nat} (h : i < z.1) : (wsN base cy z)[i]? = some (base + i, cellN base cy i (sh i) (z.2.1 i) (z.2.2.1 i) (z.2.2.2 i)) := by
  simp [wsN, h]
theorem wn_D {base : Nat} {cy : Nat → ClassId} {z : Zc} : va_D (fun q => base ≤ q) (wsN base cy z) := by
  have key : ∀ (i : Nat) (p : Nat × va_E), (wsN base cy z)[i]? = some p → p.1 = base + i := by
    intro i p h
    have hl : i < z.1 := by
      have := (List.getElem?_eq_some_iff.mp h).1
      simpa [wsN] using this
    rw [wn_at hl] at h
    cases h
    rfl
  refine ⟨fun i j p q hi hj h => ?_, fun k q hk => ?_⟩
  · have := key i p hi
    have := key j q hj
    omega
  · show base ≤ q.1
    rw [key k q hk]
    omega
theorem wn_set {base : Nat} {cy : Nat → ClassId} {z v : Zc} {a : Nat} (hz : v.1 = z.1) (ho : ∀ i, i ≠ a → v.2.1 i = z.2.1 i ∧ v.2.2.1 i = z.2.2.1 i ∧ v.2.2.2 i = z.2.2.2 i) : (wsN base cy z).set a (base + a, cellN base cy a (sh a) (v.2.1 a) (v.2.2.1 a) (v.2.2.2 a)) = wsN base cy v := by
  apply List.ext_getElem?
  intro i
  by_cases hl : i < z.1
  · rw [wn_at (z := v) (by omega)]
    by_cases h : i = a
    · subst h
      rw [List.getElem?_set_self (by simpa [wsN] using hl)]
    · rw [List.getElem?_set_ne (Ne.symm h), wn_at hl, (ho i h).1, (ho i h).2.1, (ho i h).2.2]
  · rw [List.getElem?_eq_none (by simpa [wsN] using hl), List.getElem?_eq_none (by simp [wsN, hz]; omega)]
def ssz (x : SH) : Nat := match x with
  | .inl o => o.2.length
  | .inr q => q.1
def SZ : Nat → Nat
  | 0 => 0
  | k + 1 => SZ k + ssz (sh k)
theorem SZ_mono {a b : Nat} (h : a ≤ b) : SZ a ≤ SZ b := by
  induction b with
  | zero => rw [show a = 0 by omega]; exact Nat.le_refl _
  | succ b ih =>
    by_cases hb : a = b + 1
    · rw [hb]; exact Nat.le_refl _
    · exact Nat.le_trans (ih (by omega)) (Nat.le_add_right _ _)
def nwZ (z : Zc) : Zc := (z.1 + 1, va_up z.2.1 z.1 (fun _ => 0), va_up z.2.2.1 z.1 (fun _ => 0), va_up z.2.2.2 z.1 (fun _ => false))
def piZ (z : Zc) (a j : Nat) (v : Int32) : Zc := (z.1, up2 z.2.1 a j v, z.2.2.1, z.2.2.2)
def plZ (z : Zc) (a j : Nat) (v : Int64) : Zc := (z.1, z.2.1, up2 z.2.2.1 a j v, z.2.2.2)
def prZ (z : Zc) (a j : Nat) : Zc := (z.1, z.2.1, z.2.2.1, up2 z.2.2.2 a j true)
theorem wn_push {base : Nat} {cy : Nat → ClassId} {z : Zc} : wsN base cy (nwZ z) = wsN base cy z ++ [(base + z.1, cellN base cy z.1 (sh z.1) (fun _ => 0) (fun _ => 0) (fun _ => false))] := by
  show (List.range (z.1 + 1)).map _ = _
  rw [List.range_succ, List.map_append]
  congr 1
  · show _ = (List.range z.1).map _
    apply List.map_congr_left
    intro i hi
    have h : i ≠ z.1 := by have := List.mem_range.mp hi; omega
    simp only [nwZ, up_ne h]
  · simp only [List.map_cons, List.map_nil, nwZ, up_eq]
def tblM : List Cond := [.methodLinkNest RX1 40 yX5_init "OneOfEach", .methodLinkNest RX6 21 yX5_init "OneOfEach", .methodLinkNest RX9 28 yX5_init "OneOfEach", .methodLinkNest RX9 35 yX3_init "OneOfEach", .methodLinkNest RX9 42 yX8_init "OneOfEach", .methodLinkNest RX9 49 yX0_init "OneOfEach", .methodLinkNest RX9 56 yX2_init "OneOfEach", .methodLinkNest RX9 63 yX7_init "OneOfEach", .methodLinkNest RX9 74 yX4_init "OneOfEach"]
theorem tM_warm {s U : State} (hW : s.WarmedH U.vm) (h : ∀ w ∈ tblM, va_Nw w s) : ∀ w ∈ tblM, va_Nw w U := by
  intro w hw
  have h1 := h w hw
  simp only [tblM, List.mem_cons, List.mem_nil_iff, or_false] at hw
  rcases hw with rfl | rfl | rfl | rfl | rfl | rfl | rfl | rfl | rfl <;> exact va_Nw.warmM hW h1
theorem tM_same {s U : State} (hW : s.vm = U.vm) (h : ∀ w ∈ tblM, va_Nw w s) : ∀ w ∈ tblM, va_Nw w U := by
  intro w hw
  have h1 := h w hw
  simp only [tblM, List.mem_cons, List.mem_nil_iff, or_false] at hw
  rcases hw with rfl | rfl | rfl | rfl | rfl | rfl | rfl | rfl | rfl <;> exact va_Nw.same rfl hW h1
def CtxC (base : Nat) (cy : Nat → ClassId) (dC : Nat → ClassId) (dI : Nat → Nat → Nat) (D : Nat) (y : MethodName) (cc : ByteArray) (nL k0 : Nat) (p : Program) (R : Room) (s : State) (m : MethodId) (args : Array Value) (meth : Method) (c : Code) (H : Heap) (locs : List Loc) (cells slots : Nat) (z zF : Zc) : Prop :=
  (p.tables.exec = Jvm.exec ∧ c.code = cc ∧ c.maxLocals = nL ∧ s.vm.findClass y.cls = some m.cls ∧ (∀ w ∈ tblG, w.before args s = true) ∧ va_K (dC, dI) vwCl (tysOf cy) s ∧ (∀ w ∈ tblM, va_Nw w s) ∧ (va_AO RX5 s ∧ va_AO RX4 s) ∧ (y.name = "<init>" → meth.name = "<init>")) ∧
  (va_P (dC, dI) vwCl (wsN base cy z) H ∧ va_S (fun q => base ≤ q) s.heap H locs) ∧
  (s.heap.size = base + k0 ∧ k0 ≤ z.1 ∧ cells = z.1 - k0 ∧ slots = SZ z.1 - SZ k0) ∧
  (D ≤ R.frames ∧ 64 * D ≤ R.locals ∧ zF.1 - k0 ≤ R.cells ∧ SZ zF.1 - SZ k0 ≤ R.slots)
def RunC (D : Nat) (y : MethodName) (cc : ByteArray) (nL : Nat) (E : Nat → List (Nat × Value) → List Value → Prop) (pc : Nat) (L : List (Nat × Value)) (st : List Value) (z : Zc) (o : Option Zc) : Prop :=
  ∀ (zF : Zc), o = some zF → z.1 ≤ zF.1 ∧ ∀ (base b : Nat) (cy : Nat → ClassId) (dC : Nat → ClassId) (dI : Nat → Nat → Nat) (k0 : Nat) (p : Program) (l : Launch) (e : Env) (R : Room) (s : State) (m : MethodId) (args : Array Value) (below : List Frame) (meth : Method) (c : Code) (H : Heap) (locs : List Loc) (cells slots : Nat) (Q : State → Prop) (ls : Array Slot),
    CtxC base cy dC dI D y cc nL k0 p R s m args meth c H locs cells slots z zF → lv_has ls nL (lmap base b L) →
    (∀ (pc' : Nat) (L' : List (Nat × Value)) (st' : List Value) (ls' : Array Slot) (H1 : Heap) (locs1 : List Loc), E pc' L' st' → lv_has ls' nL (lmap base b L') → va_P (dC, dI) vwCl (wsN base cy zF) H1 → va_S (fun q => base ≤ q) s.heap H1 locs1 → W p l e R s m args below meth c H1 locs1 (zF.1 - k0) (SZ zF.1 - SZ k0) Q (F0 m pc' ls' (st'.map (cv base b)))) →
    W p l e R s m args below meth c H locs cells slots Q (F0 m pc ls (st.map (cv base b)))
theorem W_size {p : Program} {l : Launch} {e : Env} {R : Room} {s : State} {m : MethodId} {args : Array Value} {below : List Frame} {meth : Method} {c : Code} {H : Heap} {locs : List Loc} {cells slots : Nat} {Q : State → Prop} {g : JFrame} (k : H.size ≤ s.heap.size + cells → W p l e R s m args below meth c H locs cells slots Q g) : W p l e R s m args below meth c H locs cells slots Q g := by
  intro T hT X
  exact k (by rw [← hT]; exact X.heapSize) T hT X
theorem CtxC.size {base : Nat} {cy : Nat → ClassId} {dC : Nat → ClassId} {dI : Nat → Nat → Nat} {D : Nat} {y : MethodName} {cc : ByteArray} {nL k0 : Nat} {p : Program} {R : Room} {s : State} {m : MethodId} {args : Array Value} {meth : Method} {c : Code} {H : Heap} {locs : List Loc} {cells slots : Nat} {z zF : Zc} (C : CtxC base cy dC dI D y cc nL k0 p R s m args meth c H locs cells slots z zF) (h : H.size ≤ s.heap.size + cells) : H.size = base + z.1 := by
  obtain ⟨-, ⟨hP, hS⟩, ⟨h1, h2, h3, -⟩, -⟩ := C
  rw [h1, h3] at h
  have h5 := hS.1
  rw [h1] at h5
  by_cases hz : z.1 = 0
  · omega
  · have h4 := (hP (z.1 - 1) _ (wn_at (by omega))).lt
    have h6 : base + (z.1 - 1) < H.size := h4
    omega
def nwB (k ci : Nat) (pat : List Nat) : Bool := match sh k with
  | .inl o => (o.1 == ci && (o.2.map (fun x => match x with | .inl _ => 0 | .inr false => 1 | .inr true => 2)) == pat) && decide (k < 95)
  | .inr _ => false
def naB (k n kd : Nat) : Bool := match sh k with
  | .inl _ => false
  | .inr q => (q.1 == n && q.2 == kd) && (decide (k < 95) && decide (n < 5000))
def pfB (z : Zc) (a ci j : Nat) (x : FK) : Bool := match sh a with
  | .inl o => (o.1 == ci && decide (o.2[j]? = some x)) && (decide (a < z.1) && decide (a < 95))
  | .inr _ => false
def rfO (a j : Nat) : Nat := match sh a with
  | .inl o => (match o.2[j]? with | some (.inl r) => r | _ => 0)
  | .inr _ => 0
def iaB (z : Zc) (r : Nat) (j : Int32) : Bool := match sh r with
  | .inl _ => false
  | .inr q => (q.2 == 0 && inB j q.1) && (decide (r < z.1) && decide (r < 95))
def arL (r : Nat) : Nat := match sh r with
  | .inl _ => 0
  | .inr q => q.1
def aaB (z : Zc) (r : Nat) (j : Int32) (v kd ci : Nat) : Bool := match sh r, sh v with
  | .inr q, .inl o => ((q.2 == kd + 2 && inB j q.1) && (decide (r < z.1) && decide (r < 95))) && ((o.1 == ci && decide (v < z.1)) && (decide (v < 95) && el r (ix j) == v))
  | _, _ => false
theorem nwB_ok {k ci : Nat} {pat : List Nat} (h : nwB k ci pat = true) : k < 95 ∧ ∃ ks : List FK, sh k = .inl (ci, ks) ∧ ks.map (fun x => match x with | .inl _ => 0 | .inr false => 1 | .inr true => 2) = pat := by
  unfold nwB at h
  split at h
  · rename_i o ho
    simp only [Bool.and_eq_true, beq_iff_eq, decide_eq_true_eq] at h
    obtain ⟨⟨h1, h2⟩, h3⟩ := h
    exact ⟨h3, o.2, by rw [ho, ← h1], h2⟩
  · cases h
theorem naB_ok {k n kd : Nat} (h : naB k n kd = true) : k < 95 ∧ sh k = .inr (n, kd) ∧ n < 5000 := by
  unfold naB at h
  split at h
  · cases h
  · rename_i q hq
    simp only [Bool.and_eq_true, beq_iff_eq, decide_eq_true_eq] at h
    obtain ⟨⟨h1, h2⟩, h3, h4⟩ := h
    exact ⟨h3, by rw [hq, ← h1, ← h2], h4⟩
theorem pfB_ok {z : Zc} {a ci j : Nat} {x : FK} (h : pfB z a ci j x = true) : a < z.1 ∧ a < 95 ∧ ∃ ks : List FK, sh a = .inl (ci, ks) ∧ ks[j]? = some x := by
  unfold pfB at h
  split at h
  · rename_i o ho
    simp only [Bool.and_eq_true, beq_iff_eq, decide_eq_true_eq] at h
    obtain ⟨⟨h1, h2⟩, h3, h4⟩ := h
    exact ⟨h3, h4, o.2, by rw [ho, ← h1], h2⟩
  · cases h
theorem iaB_ok {z : Zc} {r : Nat} {j : Int32} (h : iaB z r j = true) : r < z.1 ∧ r < 95 ∧ sh r = .inr (arL r, 0) ∧ inB j (arL r) = true := by
  unfold iaB at h
  split at h
  · cases h
  · rename_i q hq
    simp only [Bool.and_eq_true, beq_iff_eq, decide_eq_true_eq] at h
    obtain ⟨⟨h1, h2⟩, h3, h4⟩ := h
    have e : arL r = q.1 := by unfold arL; rw [hq]
    exact ⟨h3, h4, by rw [hq, e, ← h1], by rw [e]; exact h2⟩
theorem aaB_ok {z : Zc} {r : Nat} {j : Int32} {v kd ci : Nat} (h : aaB z r j v kd ci = true) : r < z.1 ∧ r < 95 ∧ v < z.1 ∧ v < 95 ∧ el r (ix j) = v ∧ ∃ (n : Nat) (ks : List FK), sh r = .inr (n, kd + 2) ∧ inB j n = true ∧ sh v = .inl (ci, ks) := by
  unfold aaB at h
  split at h
  · rename_i q o hq ho
    simp only [Bool.and_eq_true, beq_iff_eq, decide_eq_true_eq] at h
    obtain ⟨⟨⟨h1, h2⟩, h3, h4⟩, ⟨h5, h6⟩, h7, h8⟩ := h
    exact ⟨h3, h4, h6, h7, h8, q.1, o.2, by rw [hq, ← h1], h2, by rw [ho, ← h5]⟩
  · cases h
set_option maxRecDepth 100000 in
theorem tG_newi : Cond.arrayClass .int ∈ tblG := tG (i := 128) rfl rfl
set_option maxRecDepth 100000 in
theorem tG_newl : Cond.arrayClass .long ∈ tblG := tG (i := 249) rfl rfl
section CRows
variable {D : Nat} {y : MethodName} {cc : ByteArray} {nL : Nat} {E : Nat → List (Nat × Value) → List Value → Prop} {pc : Nat} {L L' : List (Nat × Value)} {st : List Value} {z : Zc} {o A B : Option Zc}
theorem c_none : RunC D y cc nL E pc L st z none := fun _ h => nomatch h
theorem c_gd {g : Bool} (k : g = true → RunC D y cc nL E pc L st z o) : RunC D y cc nL E pc L st z (gd g o) := by
  cases g
  · exact c_none
  · exact k rfl
theorem c_nm {K : Zc → Option Zc} (k : ∀ v : Zc, RunC D y cc nL E pc L st v (K v)) : RunC D y cc nL E pc L st z (nm z K) := k z
theorem c_nmi {e : Int32} {K : Int32 → Option Zc} (k : ∀ v : Int32, RunC D y cc nL E pc L (.int v :: st) z (K v)) : RunC D y cc nL E pc L (.int e :: st) z (nm e K) := k e
theorem c_end (h : E pc L st) : RunC D y cc nL E pc L st z (some z) := by
  intro zF hz
  cases hz
  refine ⟨Nat.le_refl _, ?_⟩
  intro base b cy dC dI k0 p l e R s m args below meth c H locs cells slots Q ls C hl hF
  obtain ⟨h1, h2, h3, h4⟩ := C.2.2.1
  rw [h3, h4]
  exact hF pc L st ls H locs h hl C.2.1.1 C.2.1.2
theorem c_pick (ks : List Nat) (hk : lv_pick L ks = L') (k : RunC D y cc nL E pc L' st z o) : RunC D y cc nL E pc L st z o := by
  intro zF hz
  obtain ⟨hle, k⟩ := k zF hz
  refine ⟨hle, ?_⟩
  intro base b cy dC dI k0 p l e R s m args below meth c H locs cells slots Q ls C hl hF
  exact k base b cy dC dI k0 p l e R s m args below meth c H locs cells slots Q ls C (lmap_pick hl ks hk) hF

theorem c_iconst {n : Int} {v : Int32} (hd : decode cc pc = .ok (.iconst n, 1)) (hv : Int32.ofInt n = v) (k : RunC D y cc nL E (pc + 1) L (.int v :: st) z o) : RunC D y cc nL E pc L st z o := by
  intro zF hz
  obtain ⟨hle, k⟩ := k zF hz
  refine ⟨hle, ?_⟩
  intro base b cy dC dI k0 p l e R s m args below meth c H locs cells slots Q ls C hl hF
  exact lv_iconst C.1.1 C.1.2.1 hd hv (k base b cy dC dI k0 p l e R s m args below meth c H locs cells slots Q ls C hl hF)
theorem c_bipush {n : Int} {v : Int32} (hd : decode cc pc = .ok (.bipush n, 2)) (hv : (Int8.ofInt n).toInt32 = v) (k : RunC D y cc nL E (pc + 2) L (.int v :: st) z o) : RunC D y cc nL E pc L st z o := by
  intro zF hz
  obtain ⟨hle, k⟩ := k zF hz
  refine ⟨hle, ?_⟩
  intro base b cy dC dI k0 p l e R s m args below meth c H locs cells slots Q ls C hl hF
  exact lv_bipush C.1.1 C.1.2.1 hd hv (k base b cy dC dI k0 p l e R s m args below meth c H locs cells slots Q ls C hl hF)
theorem c_sipush {n : Int} {v : Int32} (hd : decode cc pc = .ok (.sipush n, 3)) (hv : (Int16.ofInt n).toInt32 = v) (k : RunC D y cc nL E (pc + 3) L (.int v :: st) z o) : RunC D y cc nL E pc L st z o := by
  intro zF hz
  obtain ⟨hle, k⟩ := k zF hz
  refine ⟨hle, ?_⟩
  intro base b cy dC dI k0 p l e R s m args below meth c H locs cells slots Q ls C hl hF
  exact lv_sipush C.1.1 C.1.2.1 hd hv (k base b cy dC dI k0 p l e R s m args below meth c H locs cells slots Q ls C hl hF)
theorem c_lconst {n : Fin 2} {v : Int64} (hd : decode cc pc = .ok (.lconst n, 1)) (hv : Int64.ofNat (n : Nat) = v) (k : RunC D y cc nL E (pc + 1) L (.long v :: st) z o) : RunC D y cc nL E pc L st z o := by
  intro zF hz
  obtain ⟨hle, k⟩ := k zF hz
  refine ⟨hle, ?_⟩
  intro base b cy dC dI k0 p l e R s m args below meth c H locs cells slots Q ls C hl hF
  exact lv_lconst C.1.1 C.1.2.1 hd hv (k base b cy dC dI k0 p l e R s m args below meth c H locs cells slots Q ls C hl hF)
theorem c_iadd {x u : Int32} (hd : decode cc pc = .ok (.iadd, 1)) (k : RunC D y cc nL E (pc + 1) L (.int (x + u) :: st) z o) : RunC D y cc nL E pc L (.int u :: .int x :: st) z o := by
  intro zF hz
  obtain ⟨hle, k⟩ := k zF hz
  refine ⟨hle, ?_⟩
  intro base b cy dC dI k0 p l e R s m args below meth c H locs cells slots Q ls C hl hF
  exact lv_iadd C.1.1 C.1.2.1 hd (k base b cy dC dI k0 p l e R s m args below meth c H locs cells slots Q ls C hl hF)
theorem c_imul {x u : Int32} (hd : decode cc pc = .ok (.imul, 1)) (k : RunC D y cc nL E (pc + 1) L (.int (x * u) :: st) z o) : RunC D y cc nL E pc L (.int u :: .int x :: st) z o := by
  intro zF hz
  obtain ⟨hle, k⟩ := k zF hz
  refine ⟨hle, ?_⟩
  intro base b cy dC dI k0 p l e R s m args below meth c H locs cells slots Q ls C hl hF
  exact lv_imul C.1.1 C.1.2.1 hd (k base b cy dC dI k0 p l e R s m args below meth c H locs cells slots Q ls C hl hF)
theorem c_iload_n {n : Fin 4} {i : Nat} {x : Int32} (hd : decode cc pc = .ok (.iload_n n, 1)) (q : Nat) (hi : (n : Nat) = i) (hq : L[q]? = some (i, .int x)) (k : RunC D y cc nL E (pc + 1) L (.int x :: st) z o) : RunC D y cc nL E pc L st z o := by
  intro zF hz
  obtain ⟨hle, k⟩ := k zF hz
  refine ⟨hle, ?_⟩
  intro base b cy dC dI k0 p l e R s m args below meth c H locs cells slots Q ls C hl hF
  exact lv_iload_n C.1.1 C.1.2.1 hd hi (lmap_at hl hq) (k base b cy dC dI k0 p l e R s m args below meth c H locs cells slots Q ls C hl hF)
theorem c_aload_n {n : Fin 4} {i x : Nat} (hd : decode cc pc = .ok (.aload_n n, 1)) (q : Nat) (hi : (n : Nat) = i) (hq : L[q]? = some (i, .ref x)) (k : RunC D y cc nL E (pc + 1) L (.ref x :: st) z o) : RunC D y cc nL E pc L st z o := by
  intro zF hz
  obtain ⟨hle, k⟩ := k zF hz
  refine ⟨hle, ?_⟩
  intro base b cy dC dI k0 p l e R s m args below meth c H locs cells slots Q ls C hl hF
  obtain ⟨a', ha'⟩ := cv_ref (base := base) (b := b) (a := x)
  have h1 := k base b cy dC dI k0 p l e R s m args below meth c H locs cells slots Q ls C hl hF
  have h2 := lmap_at hl hq
  simp only [List.map_cons, ha'] at h1 h2
  exact lv_aload_n C.1.1 C.1.2.1 hd hi h2 h1
theorem c_istore_n {n : Fin 4} {i : Nat} {x : Int32} (hd : decode cc pc = .ok (.istore_n n, 1)) (hi : (n : Nat) = i) (hn : i < nL) (hL : st1 L i (.int x) = L') (k : RunC D y cc nL E (pc + 1) L' st z o) : RunC D y cc nL E pc L (.int x :: st) z o := by
  intro zF hz
  obtain ⟨hle, k⟩ := k zF hz
  refine ⟨hle, ?_⟩
  intro base b cy dC dI k0 p l e R s m args below meth c H locs cells slots Q ls C hl hF
  subst hL
  exact lv_istore_n C.1.1 C.1.2.1 hd hi hl hn (lmap_st1 (v := .int x)) (fun ls' hl' => k base b cy dC dI k0 p l e R s m args below meth c H locs cells slots Q ls' C hl' hF)
theorem c_astore_n {n : Fin 4} {i x : Nat} (hd : decode cc pc = .ok (.astore_n n, 1)) (hi : (n : Nat) = i) (hn : i < nL) (hL : st1 L i (.ref x) = L') (k : RunC D y cc nL E (pc + 1) L' st z o) : RunC D y cc nL E pc L (.ref x :: st) z o := by
  intro zF hz
  obtain ⟨hle, k⟩ := k zF hz
  refine ⟨hle, ?_⟩
  intro base b cy dC dI k0 p l e R s m args below meth c H locs cells slots Q ls C hl hF
  subst hL
  obtain ⟨a', ha'⟩ := cv_ref (base := base) (b := b) (a := x)
  have h3 := lmap_st1 (base := base) (b := b) (L := L) (i := i) (v := .ref x)
  simp only [List.map_cons, ha'] at h3 ⊢
  exact lv_astore_n C.1.1 C.1.2.1 hd hi hl hn h3 (fun ls' hl' => k base b cy dC dI k0 p l e R s m args below meth c H locs cells slots Q ls' C hl' hF)
theorem c_iinc {i : Nat} {n : Int} {x v : Int32} (hd : decode cc pc = .ok (.iinc i n, 3)) (q : Nat) (hq : L[q]? = some (i, .int x)) (hv : x + Int32.ofInt n = v) (hn : i < nL) (hL : st1 L i (.int v) = L') (k : RunC D y cc nL E (pc + 3) L' st z o) : RunC D y cc nL E pc L st z o := by
  intro zF hz
  obtain ⟨hle, k⟩ := k zF hz
  refine ⟨hle, ?_⟩
  intro base b cy dC dI k0 p l e R s m args below meth c H locs cells slots Q ls C hl hF
  subst hL
  exact lv_iinc C.1.1 C.1.2.1 hd hl (k := q) (by rw [lmap, List.getElem?_map, hq]; rfl) hv hn (lmap_st1 (v := .int v)) (fun ls' hl' => k base b cy dC dI k0 p l e R s m args below meth c H locs cells slots Q ls' C hl' hF)
theorem c_dup {v : Value} (hd : decode cc pc = .ok (.dup, 1)) (hv : v.category = 1) (k : RunC D y cc nL E (pc + 1) L (v :: v :: st) z o) : RunC D y cc nL E pc L (v :: st) z o := by
  intro zF hz
  obtain ⟨hle, k⟩ := k zF hz
  refine ⟨hle, ?_⟩
  intro base b cy dC dI k0 p l e R s m args below meth c H locs cells slots Q ls C hl hF
  exact lv_dup C.1.1 C.1.2.1 hd ((cv_cat _ _ _).trans hv) (k base b cy dC dI k0 p l e R s m args below meth c H locs cells slots Q ls C hl hF)
theorem c_goto {off : Int} {tgt : Nat} (hd : decode cc pc = .ok (.goto off, 3)) (ht : (pc : Int) + off = (tgt : Int)) (k : RunC D y cc nL E tgt L st z o) : RunC D y cc nL E pc L st z o := by
  intro zF hz
  obtain ⟨hle, k⟩ := k zF hz
  refine ⟨hle, ?_⟩
  intro base b cy dC dI k0 p l e R s m args below meth c H locs cells slots Q ls C hl hF
  exact lv_goto C.1.1 C.1.2.1 hd ht (k base b cy dC dI k0 p l e R s m args below meth c H locs cells slots Q ls C hl hF)
theorem c_icmp_ge {x u : Int32} {off : Int} {tgt : Nat} (hd : decode cc pc = .ok (.if_icmp .ge off, 3)) (ht : (pc : Int) + off = (tgt : Int)) (kt : u ≤ x → RunC D y cc nL E tgt L st z A) (kf : ¬ (u ≤ x) → RunC D y cc nL E (pc + 3) L st z B) : RunC D y cc nL E pc L (.int u :: .int x :: st) z (if u ≤ x then A else B) := by
  by_cases hux : u ≤ x
  · rw [if_pos hux]
    have k := kt hux
    intro zF hz
    obtain ⟨hle, k⟩ := k zF hz
    refine ⟨hle, ?_⟩
    intro base b cy dC dI k0 p l e R s m args below meth c H locs cells slots Q ls C hl hF
    exact lv_icmp_ge C.1.1 C.1.2.1 hd ht (fun _ => k base b cy dC dI k0 p l e R s m args below meth c H locs cells slots Q ls C hl hF) (fun h => absurd hux h)
  · rw [if_neg hux]
    have k := kf hux
    intro zF hz
    obtain ⟨hle, k⟩ := k zF hz
    refine ⟨hle, ?_⟩
    intro base b cy dC dI k0 p l e R s m args below meth c H locs cells slots Q ls C hl hF
    exact lv_icmp_ge C.1.1 C.1.2.1 hd ht (fun h => absurd h hux) (fun _ => k base b cy dC dI k0 p l e R s m args below meth c H locs cells slots Q ls C hl hF)
theorem c_getr {idx ci j a : Nat} (hd : decode cc pc = .ok (.getfield idx, 3)) (hf : FL y.cls idx ci j) (k : RunC D y cc nL E (pc + 3) L (.ref (rfO a j) :: st) z o) : RunC D y cc nL E pc L (.ref a :: st) z (gd ((pfB z a ci j (.inl (rfO a j)) && z.2.2.2 a j) && decide (rfO a j < 95)) o) := by
  refine c_gd (fun hg => ?_)
  simp only [Bool.and_eq_true, decide_eq_true_eq] at hg
  obtain ⟨⟨hg1, hg2⟩, hg3⟩ := hg
  obtain ⟨ha, ha5, ks, hs, hk⟩ := pfB_ok hg1
  intro zF hz
  obtain ⟨hle, k⟩ := k zF hz
  refine ⟨hle, ?_⟩
  intro base b cy dC dI k0 p l e R s m args below meth c H locs cells slots Q ls C hl hF
  obtain ⟨C0, Tb, N, h1, h2, h3, h4, h5⟩ := hf
  have h6 := k base b cy dC dI k0 p l e R s m args below meth c H locs cells slots Q ls C hl hF
  simp only [List.map_cons, cv_r hg3] at h6
  simp only [List.map_cons, cv_r ha5]
  have h0 := wn_at (base := base) (cy := cy) ha
  rw [hs] at h0
  exact va_get C.1.1 C.1.2.1 C.1.2.2.2.2.1 h3 C.1.2.2.2.1 C.1.2.2.2.2.2.1 C.2.1.1 a h0 h1 j h2 (C.1.2.2.2.2.1 _ h5) (fun _ h => by rw [h4] at h; exact h) (by rw [List.getElem?_mapIdx, hk]; show some (if z.2.2.2 a j = true then Value.ref (base + rfO a j) else Value.null) = _; rw [if_pos hg2]) hd h6
theorem c_puti {idx ci j a : Nat} {ty : FieldType} {v : Int32} (hd : decode cc pc = .ok (.putfield idx, 3)) (hf : FP y.cls idx ci j ty) (hn : narrow ty (.int v) = .int v) (hfit : fits ty (.int v) = true) (k : RunC D y cc nL E (pc + 3) L st (piZ z a j v) o) : RunC D y cc nL E pc L (.int v :: .ref a :: st) z (gd (pfB z a ci j (.inr false)) o) := by
  refine c_gd (fun hg => ?_)
  obtain ⟨ha, ha5, ks, hs, hk⟩ := pfB_ok hg
  intro zF hz
  obtain ⟨hle, k⟩ := k zF hz
  refine ⟨hle, ?_⟩
  intro base b cy dC dI k0 p l e R s m args below meth c H locs cells slots Q ls C hl hF
  obtain ⟨C0, Tb, N, ty0, h1, h2, h3, h4, h5, h7, h8, h9, h10⟩ := hf
  have h0 := wn_at (base := base) (cy := cy) ha
  rw [hs] at h0
  simp only [List.map_cons, cv_r ha5]
  refine va_put C.1.1 C.1.2.1 C.1.2.2.2.2.1 h3 ty0 h7 h8 C.1.2.2.2.1 C.1.2.2.2.2.2.1 C.2.1.1 wn_D C.2.1.2 a h0 h1 j h2 (C.1.2.2.2.2.1 _ h5) (fun _ h => by rw [h4] at h; exact h) h9 (by rw [h7 j h2, h10]) hn hfit (by have := (List.getElem?_eq_some_iff.mp hk).1; simpa using this) hd (fun H1 locs1 hP hD hS => ?_)
  have hw : (wsN base cy z).set a (base + a, .inr (ci, (ks.mapIdx (fvN base (z.2.1 a) (z.2.2.1 a) (z.2.2.2 a))).set j (.int v))) = wsN base cy (piZ z a j v) := by
    have e := wn_set (base := base) (cy := cy) (z := z) (v := piZ z a j v) (a := a) rfl (fun i hi => by simp [piZ, plZ, up2, up_ne hi])
    rw [← e, hs]
    have e2 : (ks.mapIdx (fvN base (z.2.1 a) (z.2.2.1 a) (z.2.2.2 a))).set j (.int v) = ks.mapIdx (fvN base ((piZ z a j v).2.1 a) ((piZ z a j v).2.2.1 a) ((piZ z a j v).2.2.2 a)) := by
      apply List.ext_getElem?
      intro i
      by_cases h : i = j
      · subst h
        have hl : i < (ks.mapIdx (fvN base (z.2.1 a) (z.2.2.1 a) (z.2.2.2 a))).length := by
          have := (List.getElem?_eq_some_iff.mp hk).1
          simpa using this
        rw [List.getElem?_set_self hl, List.getElem?_mapIdx, hk]
        simp [fvN, piZ, plZ, up2, up_eq]
      · rw [List.getElem?_set_ne (Ne.symm h), List.getElem?_mapIdx, List.getElem?_mapIdx]
        cases ks[i]? with
        | none => rfl
        | some x =>
          rcases x with r | b
          · simp [fvN, piZ, plZ]
          · cases b <;> simp [fvN, piZ, plZ, up2, up_eq, up_ne h]
    rw [e2]
    rfl
  exact k base b cy dC dI k0 p l e R s m args below meth c H1 locs1 cells slots Q ls ⟨C.1, ⟨by rw [← hw]; exact hP, hS⟩, C.2.2⟩ hl hF
theorem c_putl {idx ci j a : Nat} {ty : FieldType} {v : Int64} (hd : decode cc pc = .ok (.putfield idx, 3)) (hf : FP y.cls idx ci j ty) (hn : narrow ty (.long v) = .long v) (hfit : fits ty (.long v) = true) (k : RunC D y cc nL E (pc + 3) L st (plZ z a j v) o) : RunC D y cc nL E pc L (.long v :: .ref a :: st) z (gd (pfB z a ci j (.inr true)) o) := by
  refine c_gd (fun hg => ?_)
  obtain ⟨ha, ha5, ks, hs, hk⟩ := pfB_ok hg
  intro zF hz
  obtain ⟨hle, k⟩ := k zF hz
  refine ⟨hle, ?_⟩
  intro base b cy dC dI k0 p l e R s m args below meth c H locs cells slots Q ls C hl hF
  obtain ⟨C0, Tb, N, ty0, h1, h2, h3, h4, h5, h7, h8, h9, h10⟩ := hf
  have h0 := wn_at (base := base) (cy := cy) ha
  rw [hs] at h0
  simp only [List.map_cons, cv_r ha5]
  refine va_put C.1.1 C.1.2.1 C.1.2.2.2.2.1 h3 ty0 h7 h8 C.1.2.2.2.1 C.1.2.2.2.2.2.1 C.2.1.1 wn_D C.2.1.2 a h0 h1 j h2 (C.1.2.2.2.2.1 _ h5) (fun _ h => by rw [h4] at h; exact h) h9 (by rw [h7 j h2, h10]) hn hfit (by have := (List.getElem?_eq_some_iff.mp hk).1; simpa using this) hd (fun H1 locs1 hP hD hS => ?_)
  have hw : (wsN base cy z).set a (base + a, .inr (ci, (ks.mapIdx (fvN base (z.2.1 a) (z.2.2.1 a) (z.2.2.2 a))).set j (.long v))) = wsN base cy (plZ z a j v) := by
    have e := wn_set (base := base) (cy := cy) (z := z) (v := plZ z a j v) (a := a) rfl (fun i hi => by simp [piZ, plZ, up2, up_ne hi])
    rw [← e, hs]
    have e2 : (ks.mapIdx (fvN base (z.2.1 a) (z.2.2.1 a) (z.2.2.2 a))).set j (.long v) = ks.mapIdx (fvN base ((plZ z a j v).2.1 a) ((plZ z a j v).2.2.1 a) ((plZ z a j v).2.2.2 a)) := by
      apply List.ext_getElem?
      intro i
      by_cases h : i = j
      · subst h
        have hl : i < (ks.mapIdx (fvN base (z.2.1 a) (z.2.2.1 a) (z.2.2.2 a))).length := by
          have := (List.getElem?_eq_some_iff.mp hk).1
          simpa using this
        rw [List.getElem?_set_self hl, List.getElem?_mapIdx, hk]
        simp [fvN, piZ, plZ, up2, up_eq]
      · rw [List.getElem?_set_ne (Ne.symm h), List.getElem?_mapIdx, List.getElem?_mapIdx]
        cases ks[i]? with
        | none => rfl
        | some x =>
          rcases x with r | b
          · simp [fvN, piZ, plZ]
          · cases b <;> simp [fvN, piZ, plZ, up2, up_eq, up_ne h]
    rw [e2]
    rfl
  exact k base b cy dC dI k0 p l e R s m args below meth c H1 locs1 cells slots Q ls ⟨C.1, ⟨by rw [← hw]; exact hP, hS⟩, C.2.2⟩ hl hF
def FF (own : String) (idx ci k : Nat) : Prop := ∃ (C : String) (Tb : u_T) (N : Nat) (ty0 : Nat → FieldType), vwCl[ci]? = some (C, Tb, N) ∧ k < N ∧ (∀ w ∈ u_ws C Tb N, w ∈ tblG) ∧ (Tb k).1 = C ∧ Cond.fieldLink own idx C (Tb k).2.1 (Tb k).2.2.1 ∈ tblG ∧ (∀ k, k < N → parseFieldDescriptor (Tb k).2.2.1 = some (ty0 k)) ∧ (∀ a, a < N → ∀ b, b < N → a ≠ b → (Tb a).2.1 ≠ (Tb b).2.1) ∧ (Tb k).2.2.2 = true ∧ C = own ∧ ∀ q, narrow (ty0 k) (.ref q) = .ref q ∧ fits (ty0 k) (.ref q) = true
theorem c_putr {idx ci j a r : Nat} (hd : decode cc pc = .ok (.putfield idx, 3)) (hf : FF y.cls idx ci j) (hyn : y.name = "<init>") (k : RunC D y cc nL E (pc + 3) L st (prZ z a j) o) : RunC D y cc nL E pc L (.ref r :: .ref a :: st) z (gd (pfB z a ci j (.inl r) && decide (r < 95)) o) := by
  refine c_gd (fun hg => ?_)
  simp only [Bool.and_eq_true, decide_eq_true_eq] at hg
  obtain ⟨hg, hr⟩ := hg
  obtain ⟨ha, ha5, ks, hs, hk⟩ := pfB_ok hg
  intro zF hz
  obtain ⟨hle, k⟩ := k zF hz
  refine ⟨hle, ?_⟩
  intro base b cy dC dI k0 p l e R s m args below meth c H locs cells slots Q ls C hl hF
  obtain ⟨C0, Tb, N, ty0, h1, h2, h3, h4, h5, h7, h8, h9, h10, h11⟩ := hf
  have h0 := wn_at (base := base) (cy := cy) ha
  rw [hs] at h0
  simp only [List.map_cons, cv_r ha5, cv_r hr]
  refine va_putF C.1.1 C.1.2.1 C.1.2.2.2.2.1 h3 ty0 h7 h8 C.1.2.2.2.1 C.1.2.2.2.2.2.1 C.2.1.1 wn_D C.2.1.2 a h0 h1 j h2 (C.1.2.2.2.2.1 _ h5) (fun _ h => by rw [h4] at h; exact h) h9 (C.1.2.2.2.2.2.2.2.2 hyn) (h4.trans h10) (h7 j h2) (h11 _).1 (h11 _).2 (by have := (List.getElem?_eq_some_iff.mp hk).1; simpa using this) hd (fun H1 locs1 hP hD hS => ?_)
  have hw : (wsN base cy z).set a (base + a, .inr (ci, (ks.mapIdx (fvN base (z.2.1 a) (z.2.2.1 a) (z.2.2.2 a))).set j (.ref (base + r)))) = wsN base cy (prZ z a j) := by
    have e := wn_set (base := base) (cy := cy) (z := z) (v := prZ z a j) (a := a) rfl (fun i hi => by simp [prZ, up2, up_ne hi])
    rw [← e, hs]
    have e2 : (ks.mapIdx (fvN base (z.2.1 a) (z.2.2.1 a) (z.2.2.2 a))).set j (.ref (base + r)) = ks.mapIdx (fvN base ((prZ z a j).2.1 a) ((prZ z a j).2.2.1 a) ((prZ z a j).2.2.2 a)) := by
      apply List.ext_getElem?
      intro i
      by_cases h : i = j
      · subst h
        have hl : i < (ks.mapIdx (fvN base (z.2.1 a) (z.2.2.1 a) (z.2.2.2 a))).length := by
          have := (List.getElem?_eq_some_iff.mp hk).1
          simpa using this
        rw [List.getElem?_set_self hl, List.getElem?_mapIdx, hk]
        simp [fvN, prZ, up2, up_eq]
      · rw [List.getElem?_set_ne (Ne.symm h), List.getElem?_mapIdx, List.getElem?_mapIdx]
        cases ks[i]? with
        | none => rfl
        | some x =>
          rcases x with r | b
          · simp [fvN, prZ, up2, up_eq, up_ne h]
          · cases b <;> simp [fvN, prZ]
    rw [e2]
    rfl
  exact k base b cy dC dI k0 p l e R s m args below meth c H1 locs1 cells slots Q ls ⟨C.1, ⟨by rw [← hw]; exact hP, hS⟩, C.2.2⟩ hl hF
theorem c_iast {r : Nat} {j v : Int32} (hd : decode cc pc = .ok (.iastore, 1)) (k : RunC D y cc nL E (pc + 1) L st (piZ z r (ix j) v) o) : RunC D y cc nL E pc L (.int v :: .int j :: .ref r :: st) z (gd (iaB z r j) o) := by
  refine c_gd (fun hg => ?_)
  obtain ⟨hr, hr5, hs, hin⟩ := iaB_ok hg
  intro zF hz
  obtain ⟨hle, k⟩ := k zF hz
  refine ⟨hle, ?_⟩
  intro base b cy dC dI k0 p l e R s m args below meth c H locs cells slots Q ls C hl hF
  have h0 := wn_at (base := base) (cy := cy) hr
  rw [hs] at h0
  simp only [List.map_cons, cv_r hr5]
  refine va_iast C.1.1 C.1.2.1 C.1.2.2.2.2.2.1 C.2.1.1 wn_D C.2.1.2 r 0 h0 rfl (vp_in_iff.mpr (of_decide_eq_true hin)) hd (fun H1 locs1 hP hD hS => ?_)
  have hw : (wsN base cy z).set r (base + r, .inl (cy 0, arL r, .inl (upd (z.2.1 r) j.toNatClampNeg v))) = wsN base cy (piZ z r (ix j) v) := by
    have e := wn_set (base := base) (cy := cy) (z := z) (v := piZ z r (ix j) v) (a := r) rfl (fun i hi => by simp [piZ, up2, up_ne hi])
    rw [← e, hs]
    have e2 : upd (z.2.1 r) j.toNatClampNeg v = (piZ z r (ix j) v).2.1 r := by
      show _ = up2 z.2.1 r (ix j) v r
      unfold up2
      rw [up_eq]
      rfl
    rw [e2]
    rfl
  exact k base b cy dC dI k0 p l e R s m args below meth c H1 locs1 cells slots Q ls ⟨C.1, ⟨by rw [← hw]; exact hP, hS⟩, C.2.2⟩ hl hF
theorem c_aast {r v kd ci : Nat} {j : Int32} {C0 : String} {Tb : u_T} {N : Nat} (hd : decode cc pc = .ok (.aastore, 1)) (hc : vwCl[ci]? = some (C0, Tb, N)) (hkd : ∀ cy : Nat → ClassId, (tysOf cy)[kd + 2]? = some (cy (kd + 2), .object C0)) (k : RunC D y cc nL E (pc + 1) L st (prZ z r (ix j)) o) : RunC D y cc nL E pc L (.ref v :: .int j :: .ref r :: st) z (gd (aaB z r j v kd ci) o) := by
  refine c_gd (fun hg => ?_)
  obtain ⟨hr, hr5, hv, hv5, hel, n, ks, hs, hin, hsv⟩ := aaB_ok hg
  intro zF hz
  obtain ⟨hle, k⟩ := k zF hz
  refine ⟨hle, ?_⟩
  intro base b cy dC dI k0 p l e R s m args below meth c H locs cells slots Q ls C hl hF
  have h0 := wn_at (base := base) (cy := cy) hr
  have h9 := wn_at (base := base) (cy := cy) hv
  rw [hs] at h0
  rw [hsv] at h9
  simp only [List.map_cons, cv_r hr5, cv_r hv5]
  refine va_astq C.1.1 C.1.2.1 C.1.2.2.2.2.2.1 C.2.1.1 wn_D C.2.1.2 r (kd + 2) v ci h0 (hkd cy) h9 hc (vp_in_iff.mpr (of_decide_eq_true hin)) hd (fun H1 locs1 hP hD hS => ?_)
  have hw : (wsN base cy z).set r (base + r, .inl (cy (kd + 2), n, .inr (.inr (.inr (.inr (va_up (fun j => if z.2.2.2 r j = true then some (base + el r j) else none) j.toNatClampNeg (some (base + v)))))))) = wsN base cy (prZ z r (ix j)) := by
    have e := wn_set (base := base) (cy := cy) (z := z) (v := prZ z r (ix j)) (a := r) rfl (fun i hi => by simp [prZ, up2, up_ne hi])
    rw [← e, hs]
    have e2 : va_up (fun j => if z.2.2.2 r j = true then some (base + el r j) else none) j.toNatClampNeg (some (base + v)) = (fun j' => if (prZ z r (ix j)).2.2.2 r j' = true then some (base + el r j') else none) := by
      funext i
      by_cases h : i = ix j
      · subst h
        rw [show va_up (fun j => if z.2.2.2 r j = true then some (base + el r j) else none) j.toNatClampNeg (some (base + v)) (ix j) = some (base + v) from up_eq]
        simp [prZ, up2, up_eq, hel]
      · rw [show va_up (fun j => if z.2.2.2 r j = true then some (base + el r j) else none) j.toNatClampNeg (some (base + v)) i = _ from up_ne h]
        simp [prZ, up2, up_eq, up_ne h]
    rw [e2]
    rfl
  exact k base b cy dC dI k0 p l e R s m args below meth c H1 locs1 cells slots Q ls ⟨C.1, ⟨by rw [← hw]; exact hP, hS⟩, C.2.2⟩ hl hF
def NW (own : String) (idx ci : Nat) (pat : List Nat) : Prop := ∃ (C : String) (Tb : u_T) (N : Nat) (ty0 : Nat → FieldType), vwCl[ci]? = some (C, Tb, N) ∧ (∀ w ∈ u_ws C Tb N, w ∈ tblG) ∧ (∀ k, k < N → parseFieldDescriptor (Tb k).2.2.1 = some (ty0 k)) ∧ Cond.classLink own idx C ∈ tblG ∧ Cond.instantiable C N ∈ tblG ∧ Cond.initialized C ∈ tblG ∧ pat.length = N ∧ ∀ j, j < N → ∀ x, pat[j]? = some x → defaultValue (ty0 j) = (if x = 0 then .null else if x = 1 then .int 0 else .long 0)
theorem c_new {idx ci : Nat} {pat : List Nat} (hd : decode cc pc = .ok (.new idx, 3)) (hw : NW y.cls idx ci pat) (k : RunC D y cc nL E (pc + 3) L (.ref z.1 :: st) (nwZ z) o) : RunC D y cc nL E pc L st z (gd (nwB z.1 ci pat) o) := by
  refine c_gd (fun hg => ?_)
  obtain ⟨hk5, ks, hs, hpat⟩ := nwB_ok hg
  intro zF hz
  obtain ⟨hle, k⟩ := k zF hz
  have hle' : z.1 + 1 ≤ zF.1 := hle
  refine ⟨by omega, ?_⟩
  intro base b cy dC dI k0 p l e R s m args below meth c H locs cells slots Q ls C hl hF
  refine W_size (fun hsz => ?_)
  have hH := C.size hsz
  obtain ⟨q1, q2, q3, q4⟩ := C.2.2.1
  obtain ⟨q5, q6, q7, q8⟩ := C.2.2.2
  have m1 := SZ_mono q2
  have m2 := SZ_mono hle'
  have m3 : SZ (z.1 + 1) = SZ z.1 + ssz (sh z.1) := rfl
  obtain ⟨C0, Tb, N, ty0, h1, h3, h7, w1, w2, w3, h8, h9⟩ := hw
  have hN : ssz (sh z.1) = N := by
    rw [hs, ← h8, ← hpat]
    simp [ssz]
  have hKn := C.1.2.2.2.2.2.1.1 ci _ h1
  refine W.newcK C.1.1 C.1.2.1 C.1.2.2.2.1 (C.1.2.2.2.2.1 _ w1) (C.1.2.2.2.2.1 _ w2) (C.1.2.2.2.2.1 _ w3) rfl hd (by omega) (by omega) hKn.2.1 hH (fun H1 kC hkC e1 z1 o1 => ?_)
  have hxx : ∀ x : Nat, (F0 m pc ls (st.map (cv base b))).stack = st.map (cv base b) := fun _ => rfl
  have hgo := k base b cy dC dI k0 p l e R s m args below meth c H1 locs (cells + 1) (slots + N) Q ls ⟨C.1, ⟨?_, ?_⟩, ⟨q1, by show k0 ≤ z.1 + 1; omega, by show cells + 1 = z.1 + 1 - k0; omega, by show slots + N = SZ (z.1 + 1) - SZ k0; omega⟩, C.2.2.2⟩ hl hF
  · simp only [List.map_cons, cv_r hk5] at hgo
    exact hgo
  · rw [wn_push]
    refine ((C.2.1.1.kept (fun i x hx => o1 x.1 ?_)).app (fun i x hx => ?_))
    · rw [← hH]; exact (C.2.1.1 i x hx).lt
    · have hz0 : i < 1 := (List.getElem?_eq_some_iff.mp hx).1
      rw [show i = 0 by omega] at hx
      cases hx
      rw [hs]
      refine ⟨_, h1, (u_born ty0 C.1.2.2.2.2.1 h3 hKn hkC e1 h7).to (fun j hj => ?_)⟩
      obtain ⟨x, hx⟩ : ∃ x, pat[j]? = some x := ⟨_, List.getElem?_eq_getElem (by omega)⟩
      rw [h9 j hj x hx]
      rw [← hpat, List.getElem?_map] at hx
      show _ = (ks.mapIdx (fvN base (fun _ => 0) (fun _ => 0) (fun _ => false))).getD j .null
      rw [List.getD_eq_getElem?_getD, List.getElem?_mapIdx]
      cases hkj : ks[j]? with
      | none => rw [hkj] at hx; cases hx
      | some f =>
        rw [hkj] at hx
        rcases f with r | bb
        · cases hx; rfl
        · cases bb <;> cases hx <;> rfl
  · exact ⟨Nat.le_trans C.2.1.2.1 (by omega), fun x h1 h2 => (o1 x (by have := C.2.1.2.1; omega)).trans (C.2.1.2.2.1 x h1 h2), C.2.1.2.2.2⟩
theorem c_newi {n : Int32} (hd : decode cc pc = .ok (.newarray .int, 2)) (k : RunC D y cc nL E (pc + 2) L (.ref z.1 :: st) (nwZ z) o) : RunC D y cc nL E pc L (.int n :: st) z (gd (naB z.1 (ix n) 0 && decide (0 ≤ n.toInt)) o) := by
  refine c_gd (fun hg => ?_)
  simp only [Bool.and_eq_true, decide_eq_true_eq] at hg
  obtain ⟨hg, hn0⟩ := hg
  obtain ⟨hk5, hs, hn5⟩ := naB_ok hg
  intro zF hz
  obtain ⟨hle, k⟩ := k zF hz
  have hle' : z.1 + 1 ≤ zF.1 := hle
  refine ⟨by omega, ?_⟩
  intro base b cy dC dI k0 p l e R s m args below meth c H locs cells slots Q ls C hl hF
  refine W_size (fun hsz => ?_)
  have hH := C.size hsz
  obtain ⟨q1, q2, q3, q4⟩ := C.2.2.1
  obtain ⟨q5, q6, q7, q8⟩ := C.2.2.2
  have m1 := SZ_mono q2
  have m2 := SZ_mono hle'
  have m3 : SZ (z.1 + 1) = SZ z.1 + ssz (sh z.1) := rfl
  have hN : ssz (sh z.1) = ix n := by rw [hs]; rfl
  have hn1 : ¬ n < 0 := by
    rw [Int32.lt_iff_toInt_lt]
    show ¬ n.toInt < 0
    omega
  refine va_newaK (atype := .int) C.1.1 C.1.2.1 (C.1.2.2.2.2.1 _ tG_newi) rfl hd rfl hn1 (show n.toNatClampNeg = ix n from rfl) (by show ix n * 4 ≤ 536870912; omega) (by omega) (by omega) hH (fun H1 cA e1 z1 o1 hAr hNm => ?_)
  have hcA : cA = cy 0 := by
    have h2 := (C.1.2.2.2.2.2.1.2 0 (cy 0, .int) rfl).2
    exact Option.some.inj (hNm.symm.trans h2)
  subst hcA
  have hgo := k base b cy dC dI k0 p l e R s m args below meth c H1 locs (cells + 1) (slots + ix n) Q ls ⟨C.1, ⟨?_, ?_⟩, ⟨q1, by show k0 ≤ z.1 + 1; omega, by show cells + 1 = z.1 + 1 - k0; omega, by show slots + ix n = SZ (z.1 + 1) - SZ k0; omega⟩, C.2.2.2⟩ hl hF
  · simp only [List.map_cons, cv_r hk5] at hgo
    exact hgo
  · rw [wn_push]
    refine ((C.2.1.1.kept (fun i x hx => o1 x.1 ?_)).app (fun i x hx => ?_))
    · rw [← hH]; exact (C.2.1.1 i x hx).lt
    · have hz0 : i < 1 := (List.getElem?_eq_some_iff.mp hx).1
      rw [show i = 0 by omega] at hx
      cases hx
      rw [hs]
      show H1[base + z.1]? = some (vp_cell _ _)
      rw [vp_cell_i]
      exact e1
  · exact ⟨Nat.le_trans C.2.1.2.1 (by omega), fun x h1 h2 => (o1 x (by have := C.2.1.2.1; omega)).trans (C.2.1.2.2.1 x h1 h2), C.2.1.2.2.2⟩
theorem c_newl {n : Int32} (hd : decode cc pc = .ok (.newarray .long, 2)) (k : RunC D y cc nL E (pc + 2) L (.ref z.1 :: st) (nwZ z) o) : RunC D y cc nL E pc L (.int n :: st) z (gd (naB z.1 (ix n) 1 && decide (0 ≤ n.toInt)) o) := by
  refine c_gd (fun hg => ?_)
  simp only [Bool.and_eq_true, decide_eq_true_eq] at hg
  obtain ⟨hg, hn0⟩ := hg
  obtain ⟨hk5, hs, hn5⟩ := naB_ok hg
  intro zF hz
  obtain ⟨hle, k⟩ := k zF hz
  have hle' : z.1 + 1 ≤ zF.1 := hle
  refine ⟨by omega, ?_⟩
  intro base b cy dC dI k0 p l e R s m args below meth c H locs cells slots Q ls C hl hF
  refine W_size (fun hsz => ?_)
  have hH := C.size hsz
  obtain ⟨q1, q2, q3, q4⟩ := C.2.2.1
  obtain ⟨q5, q6, q7, q8⟩ := C.2.2.2
  have m1 := SZ_mono q2
  have m2 := SZ_mono hle'
  have m3 : SZ (z.1 + 1) = SZ z.1 + ssz (sh z.1) := rfl
  have hN : ssz (sh z.1) = ix n := by rw [hs]; rfl
  have hn1 : ¬ n < 0 := by
    rw [Int32.lt_iff_toInt_lt]
    show ¬ n.toInt < 0
    omega
  refine va_newaK (atype := .long) C.1.1 C.1.2.1 (C.1.2.2.2.2.1 _ tG_newl) rfl hd rfl hn1 (show n.toNatClampNeg = ix n from rfl) (by show ix n * 8 ≤ 536870912; omega) (by omega) (by omega) hH (fun H1 cA e1 z1 o1 hAr hNm => ?_)
  have hcA : cA = cy 1 := by
    have h2 := (C.1.2.2.2.2.2.1.2 1 (cy 1, .long) rfl).2
    exact Option.some.inj (hNm.symm.trans h2)
  subst hcA
  have hgo := k base b cy dC dI k0 p l e R s m args below meth c H1 locs (cells + 1) (slots + ix n) Q ls ⟨C.1, ⟨?_, ?_⟩, ⟨q1, by show k0 ≤ z.1 + 1; omega, by show cells + 1 = z.1 + 1 - k0; omega, by show slots + ix n = SZ (z.1 + 1) - SZ k0; omega⟩, C.2.2.2⟩ hl hF
  · simp only [List.map_cons, cv_r hk5] at hgo
    exact hgo
  · rw [wn_push]
    refine ((C.2.1.1.kept (fun i x hx => o1 x.1 ?_)).app (fun i x hx => ?_))
    · rw [← hH]; exact (C.2.1.1 i x hx).lt
    · have hz0 : i < 1 := (List.getElem?_eq_some_iff.mp hx).1
      rw [show i = 0 by omega] at hx
      cases hx
      rw [hs]
      show H1[base + z.1]? = some (vp_cell _ _)
      rw [vp_cell_l]
      exact e1
  · exact ⟨Nat.le_trans C.2.1.2.1 (by omega), fun x h1 h2 => (o1 x (by have := C.2.1.2.1; omega)).trans (C.2.1.2.2.1 x h1 h2), C.2.1.2.2.2⟩
theorem c_newq {n : Int32} {idx kd : Nat} {C0 : String} (hd : decode cc pc = .ok (.anewarray idx, 3)) (hw : Cond.classLink y.cls idx C0 ∈ tblG) (hAO : ∀ s : State, (va_AO RX5 s ∧ va_AO RX4 s) → va_AO C0 s) (hkd : ∀ cy : Nat → ClassId, (tysOf cy)[kd + 2]? = some (cy (kd + 2), .object C0)) (k : RunC D y cc nL E (pc + 3) L (.ref z.1 :: st) (nwZ z) o) : RunC D y cc nL E pc L (.int n :: st) z (gd (naB z.1 (ix n) (kd + 2) && decide (0 ≤ n.toInt)) o) := by
  refine c_gd (fun hg => ?_)
  simp only [Bool.and_eq_true, decide_eq_true_eq] at hg
  obtain ⟨hg, hn0⟩ := hg
  obtain ⟨hk5, hs, hn5⟩ := naB_ok hg
  intro zF hz
  obtain ⟨hle, k⟩ := k zF hz
  have hle' : z.1 + 1 ≤ zF.1 := hle
  refine ⟨by omega, ?_⟩
  intro base b cy dC dI k0 p l e R s m args below meth c H locs cells slots Q ls C hl hF
  refine W_size (fun hsz => ?_)
  have hH := C.size hsz
  obtain ⟨q1, q2, q3, q4⟩ := C.2.2.1
  obtain ⟨q5, q6, q7, q8⟩ := C.2.2.2
  have m1 := SZ_mono q2
  have m2 := SZ_mono hle'
  have m3 : SZ (z.1 + 1) = SZ z.1 + ssz (sh z.1) := rfl
  have hN : ssz (sh z.1) = ix n := by rw [hs]; rfl
  have hn1 : ¬ n < 0 := by
    rw [Int32.lt_iff_toInt_lt]
    show ¬ n.toInt < 0
    omega
  refine W.anew C.1.1 C.1.2.1 C.1.2.2.2.1 (C.1.2.2.2.2.1 _ hw) (va_AO.use (hAO s C.1.2.2.2.2.2.2.2.1)) rfl hd rfl hn1 (by show ix n * 4 ≤ 536870912; omega) (by omega) (by show slots + ix n ≤ R.slots; omega) (fun cA kA comp f1 f2 f3 f4 => ?_)
  have hcA : cA = cy (kd + 2) := by
    obtain ⟨kA2, comp2, g1, g2, g3, g4⟩ := (C.1.2.2.2.2.2.1.2 (kd + 2) _ (hkd cy)).2
    exact Option.some.inj (f1.symm.trans g4)
  subst hcA
  generalize hH1 : H.push ({ cls := cy (kd + 2), slots := Array.replicate n.toNatClampNeg .null, vm := .none } : Cell) = H1
  have z1 : H1.size = H.size + 1 := by rw [← hH1, Array.size_push]
  have e1 : H1[H.size]? = some (arrV (cy (kd + 2)) (ix n) (fun _ => .null)) := by rw [← hH1, Array.getElem?_push_size, ← arrV_new]; rfl
  have o1 : ∀ q : Nat, q < H.size → H1[q]? = H[q]? := fun q hq => by rw [← hH1, Array.getElem?_push, if_neg (Nat.ne_of_lt hq)]
  have hgo := k base b cy dC dI k0 p l e R s m args below meth c H1 locs (cells + 1) (slots + ix n) Q ls ⟨C.1, ⟨?_, ?_⟩, ⟨q1, by show k0 ≤ z.1 + 1; omega, by show cells + 1 = z.1 + 1 - k0; omega, by show slots + ix n = SZ (z.1 + 1) - SZ k0; omega⟩, C.2.2.2⟩ hl hF
  · simp only [List.map_cons, cv_r hk5] at hgo
    rw [← hH] at hgo
    exact hgo
  · rw [wn_push]
    refine ((C.2.1.1.kept (fun i x hx => o1 x.1 ((C.2.1.1 i x hx).lt))).app (fun i x hx => ?_))
    have hz0 : i < 1 := (List.getElem?_eq_some_iff.mp hx).1
    rw [show i = 0 by omega] at hx
    cases hx
    rw [hs]
    show H1[base + z.1]? = some (vp_cell _ _)
    rw [vp_cell_q, ← hH]
    exact e1
  · exact ⟨Nat.le_trans C.2.1.2.1 (by omega), fun x h1 h2 => (o1 x (by have := C.2.1.2.1; omega)).trans (C.2.1.2.2.1 x h1 h2), C.2.1.2.2.2⟩
end CRows
