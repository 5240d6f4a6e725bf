/-! memory: every int and every long of the system by cell and place; the cells' shapes are fixed -/
abbrev SI : Type := Nat → Nat → Int32
abbrev SL : Type := Nat → Nat → Int64
abbrev Mem : Type := SI × SL × SI × SL
def up2 {α : Type} (S : Nat → Nat → α) (a k : Nat) (v : α) : Nat → Nat → α := va_up S a (va_up (S a) k v)
def ix (j : Int32) : Nat := j.toNatClampNeg
def inB (j : Int32) (n : Nat) : Bool := decide (0 ≤ j.toInt ∧ j.toInt < (n : Int))
def gd {α : Type} (b : Bool) (o : Option α) : Option α := if b = true then o else none
def cpB (sp dp n : Int32) (n0 n1 : Nat) : Bool := decide (0 ≤ sp.toInt ∧ 0 ≤ dp.toInt ∧ 0 ≤ n.toInt ∧ sp.toInt + n.toInt ≤ (n0 : Int) ∧ dp.toInt + n.toInt ≤ (n1 : Int))
abbrev FK : Type := Nat ⊕ Bool
abbrev SH : Type := (Nat × List FK) ⊕ (Nat × Nat)
def sSock : SH := .inl (5, [.inr false, .inr false, .inr false, .inr false, .inr false, .inr false, .inr false, .inr false, .inr false])
def sSheet (r : Nat) : SH := .inl (4, [.inl r, .inr false, .inr false])
def shs : List SH := [.inl (9, [.inl 1, .inl 21, .inr false, .inl 41, .inl 52, .inl 53, .inl 57, .inl 60, .inl 62, .inl 64, .inl 69]), .inl (1, [.inl 2, .inr false, .inl 3, .inl 4, .inr false, .inl 5, .inr false, .inr false, .inl 6, .inl 7, .inl 8]), .inr (12, 2), .inr (12, 0), .inr (12, 0), .inr (6, 0), .inr (18, 0), .inr (18, 0), .inr (3, 0), sSock, sSock, sSock, sSock, sSock, sSock, sSock, sSock, sSock, sSock, sSock, sSock, .inl (1, [.inl 22, .inr false, .inl 23, .inl 24, .inr false, .inl 25, .inr false, .inr false, .inl 26, .inl 27, .inl 28]), .inr (12, 2), .inr (12, 0), .inr (12, 0), .inr (6, 0), .inr (18, 0), .inr (18, 0), .inr (3, 0), sSock, sSock, sSock, sSock, sSock, sSock, sSock, sSock, sSock, sSock, sSock, sSock, .inl (6, [.inl 42, .inr false, .inr false, .inl 43]), .inr (80, 0), .inr (8, 2), sSock, sSock, sSock, sSock, sSock, sSock, sSock, sSock, sSock, .inl (3, [.inl 54, .inl 55, .inl 56, .inr false, .inr false]), .inr (144, 0), .inr (4096, 0), .inr (12, 0), .inl (8, [.inl 58, .inl 59, .inr true, .inr false]), .inr (8, 0), .inr (9, 1), .inl (0, [.inl 61, .inr false]), .inr (13, 1), .inl (2, [.inl 63]), .inr (169, 1), .inl (7, [.inl 65, .inl 66, .inl 67, .inl 68]), .inr (20, 0), .inr (100, 0), .inr (5, 0), .inr (64, 1), .inr (4, 3), sSheet 71, .inr (16, 0), sSheet 73, .inr (16, 0), sSheet 75, .inr (16, 0), sSheet 77, .inr (16, 0), .inl (10, [.inl 79, .inl 80, .inr false, .inr false, .inr false, .inl 81, .inl 82, .inl 83, .inl 84, .inl 85, .inl 86, .inl 87, .inl 88, .inl 89, .inl 90, .inr false, .inl 91, .inl 92, .inl 93, .inl 94]), .inr (205, 0), .inr (80, 0), .inr (40, 0), .inr (4096, 0), .inr (12, 0), .inr (9, 1), .inr (9, 1), .inr (13, 0), .inr (13, 0), .inr (169, 1), .inr (169, 1), .inr (5, 0), .inr (205, 0), .inr (4, 0), .inr (4, 0), .inr (64, 0)]
def sh (i : Nat) : SH := shs.getD i (.inr (0, 0))
/-- the cell that an array of references holds at a place -/
def el (a j : Nat) : Nat := if a = 69 then 70 + 2 * j else if a = 43 then 44 + j else a + 7 + j
def fv (base : Nat) (f : Nat → Int32) (g : Nat → Int64) (k : Nat) (x : FK) : Value := match x with
  | .inl r => .ref (base + r)
  | .inr false => .int (f k)
  | .inr true => .long (g k)
def cellE (base : Nat) (cy : Nat → ClassId) (i : Nat) (x : SH) (f : Nat → Int32) (g : Nat → Int64) : va_E := match x with
  | .inl o => .inr (o.1, o.2.mapIdx (fv base f g))
  | .inr (n, 0) => .inl (cy 0, n, .inl f)
  | .inr (n, 1) => .inl (cy 1, n, .inr (.inl g))
  | .inr (n, k + 2) => .inl (cy (k + 2), n, .inr (.inr (.inr (.inr (fun j => some (base + el i j))))))
def jn {α : Type} (S S' : Nat → α) : Nat → α := fun a => if a < 78 then S a else S' a
theorem jn_c {α : Type} {S S' : Nat → α} {a : Nat} (h : a < 78) : jn S S' a = S a := if_pos h
theorem jn_m {α : Type} {S S' : Nat → α} {a : Nat} (h : ¬ a < 78) : jn S S' a = S' a := if_neg h
def wsOf (base : Nat) (cy : Nat → ClassId) (σ : Mem) : va_W := (List.range 95).map (fun i => (base + i, cellE base cy i (sh i) (jn σ.1 σ.2.2.1 i) (jn σ.2.1 σ.2.2.2 i)))
theorem ws_at {base : Nat} {cy : Nat → ClassId} {σ : Mem} {i : Nat} (h : i < 95) : (wsOf base cy σ)[i]? = some (base + i, cellE base cy i (sh i) (jn σ.1 σ.2.2.1 i) (jn σ.2.1 σ.2.2.2 i)) := by
  simp [wsOf, h]
theorem ws_D {base : Nat} {cy : Nat → ClassId} {σ : Mem} : va_D (fun q => base ≤ q) (wsOf base cy σ) := by
  have key : ∀ (i : Nat) (p : Nat × va_E), (wsOf base cy σ)[i]? = some p → p.1 = base + i := by
    intro i p h
    have hl : i < 95 := by
      have := (List.getElem?_eq_some_iff.mp h).1
      simpa [wsOf] using this
    rw [ws_at hl] at h
    cases h
    rfl
  refine ⟨fun i j p q hi hj h => ?_, fun k q hk => ?_⟩
  · have := key i p hi
    have := key j q hj
    omega
  · show base ≤ q.1
    rw [key k q hk]
    omega
theorem ws_set {base : Nat} {cy : Nat → ClassId} {σ τ : Mem} {a : Nat} (ho : ∀ i, i < 95 → i ≠ a → jn τ.1 τ.2.2.1 i = jn σ.1 σ.2.2.1 i ∧ jn τ.2.1 τ.2.2.2 i = jn σ.2.1 σ.2.2.2 i) : (wsOf base cy σ).set a (base + a, cellE base cy a (sh a) (jn τ.1 τ.2.2.1 a) (jn τ.2.1 τ.2.2.2 a)) = wsOf base cy τ := by
  apply List.ext_getElem?
  intro i
  by_cases hl : i < 95
  · rw [ws_at hl]
    by_cases h : i = a
    · subst h
      rw [List.getElem?_set_self (by simpa [wsOf] using hl)]
    · rw [List.getElem?_set_ne (Ne.symm h), ws_at hl, (ho i hl h).1, (ho i hl h).2]
  · rw [List.getElem?_eq_none (by simpa [wsOf] using hl), List.getElem?_eq_none (by simpa [wsOf] using hl)]
theorem up_ne {α : Type} {f : Nat → α} {k j : Nat} {v : α} (h : j ≠ k) : va_up f k v j = f j := if_neg h
theorem up_eq {α : Type} {f : Nat → α} {k : Nat} {v : α} : va_up f k v k = v := if_pos rfl
theorem ws_cI {base : Nat} {cy : Nat → ClassId} {S S' : SI} {T T' : SL} {a : Nat} (ha : a < 78) (f : Nat → Int32) : (wsOf base cy (S, T, S', T')).set a (base + a, cellE base cy a (sh a) f (T a)) = wsOf base cy (va_up S a f, T, S', T') := by
  have h := ws_set (base := base) (cy := cy) (σ := (S, T, S', T')) (τ := (va_up S a f, T, S', T')) (a := a) (fun i _ hi => by
    refine ⟨?_, rfl⟩
    show jn (va_up S a f) S' i = jn S S' i
    unfold jn
    rw [up_ne hi])
  rw [← h]
  show _ = List.set _ _ (_, cellE _ _ _ _ (jn (va_up S a f) S' a) (jn T T' a))
  rw [jn_c ha, jn_c ha, up_eq]
theorem ws_cL {base : Nat} {cy : Nat → ClassId} {S S' : SI} {T T' : SL} {a : Nat} (ha : a < 78) (g : Nat → Int64) : (wsOf base cy (S, T, S', T')).set a (base + a, cellE base cy a (sh a) (S a) g) = wsOf base cy (S, va_up T a g, S', T') := by
  have h := ws_set (base := base) (cy := cy) (σ := (S, T, S', T')) (τ := (S, va_up T a g, S', T')) (a := a) (fun i _ hi => by
    refine ⟨rfl, ?_⟩
    show jn (va_up T a g) T' i = jn T T' i
    unfold jn
    rw [up_ne hi])
  rw [← h]
  show _ = List.set _ _ (_, cellE _ _ _ _ (jn S S' a) (jn (va_up T a g) T' a))
  rw [jn_c ha, jn_c ha, up_eq]
theorem ws_mI {base : Nat} {cy : Nat → ClassId} {S S' : SI} {T T' : SL} {a : Nat} (ha : ¬ a < 78) (f : Nat → Int32) : (wsOf base cy (S, T, S', T')).set a (base + a, cellE base cy a (sh a) f (T' a)) = wsOf base cy (S, T, va_up S' a f, T') := by
  have h := ws_set (base := base) (cy := cy) (σ := (S, T, S', T')) (τ := (S, T, va_up S' a f, T')) (a := a) (fun i _ hi => by
    refine ⟨?_, rfl⟩
    show jn S (va_up S' a f) i = jn S S' i
    unfold jn
    rw [up_ne hi])
  rw [← h]
  show _ = List.set _ _ (_, cellE _ _ _ _ (jn S (va_up S' a f) a) (jn T T' a))
  rw [jn_m ha, jn_m ha, up_eq]
theorem ws_mL {base : Nat} {cy : Nat → ClassId} {S S' : SI} {T T' : SL} {a : Nat} (ha : ¬ a < 78) (g : Nat → Int64) : (wsOf base cy (S, T, S', T')).set a (base + a, cellE base cy a (sh a) (S' a) g) = wsOf base cy (S, T, S', va_up T' a g) := by
  have h := ws_set (base := base) (cy := cy) (σ := (S, T, S', T')) (τ := (S, T, S', va_up T' a g)) (a := a) (fun i _ hi => by
    refine ⟨rfl, ?_⟩
    show jn T (va_up T' a g) i = jn T T' i
    unfold jn
    rw [up_ne hi])
  rw [← h]
  show _ = List.set _ _ (_, cellE _ _ _ _ (jn S S' a) (jn T (va_up T' a g) a))
  rw [jn_m ha, jn_m ha, up_eq]
theorem mi_set {base : Nat} {f : Nat → Int32} {g : Nat → Int64} {ks : List FK} {k : Nat} (hk : ks[k]? = some (.inr false)) (v : Int32) : (ks.mapIdx (fv base f g)).set k (.int v) = ks.mapIdx (fv base (va_up f k v) g) := by
  apply List.ext_getElem?
  intro i
  by_cases h : i = k
  · subst h
    have hl : i < (ks.mapIdx (fv base f g)).length := by
      have := (List.getElem?_eq_some_iff.mp hk).1
      simpa using this
    rw [List.getElem?_set_self hl, List.getElem?_mapIdx, hk]
    show some (Value.int v) = some (Value.int (va_up f i v i))
    rw [up_eq]
  · rw [List.getElem?_set_ne (Ne.symm h), List.getElem?_mapIdx, List.getElem?_mapIdx]
    cases ks[i]? with
    | none => rfl
    | some x =>
      rcases x with r | b
      · rfl
      · cases b
        · show some (Value.int (f i)) = some (Value.int (va_up f k v i))
          rw [up_ne h]
        · rfl
theorem mi_setL {base : Nat} {f : Nat → Int32} {g : Nat → Int64} {ks : List FK} {k : Nat} (hk : ks[k]? = some (.inr true)) (v : Int64) : (ks.mapIdx (fv base f g)).set k (.long v) = ks.mapIdx (fv base f (va_up g k v)) := by
  apply List.ext_getElem?
  intro i
  by_cases h : i = k
  · subst h
    have hl : i < (ks.mapIdx (fv base f g)).length := by
      have := (List.getElem?_eq_some_iff.mp hk).1
      simpa using this
    rw [List.getElem?_set_self hl, List.getElem?_mapIdx, hk]
    show some (Value.long v) = some (Value.long (va_up g i v i))
    rw [up_eq]
  · rw [List.getElem?_set_ne (Ne.symm h), List.getElem?_mapIdx, List.getElem?_mapIdx]
    cases ks[i]? with
    | none => rfl
    | some x =>
      rcases x with r | b
      · rfl
      · cases b
        · rfl
        · show some (Value.long (g i)) = some (Value.long (va_up g k v i))
          rw [up_ne h]

/-! the words: those that hold at every call, and the links among nest mates -/
def tblG : List Cond := lw_tbl.filter goodWord
def tblN : List Cond := [.methodLinkNest RX1 102 yX9_within "OneOfEach", .methodLinkNest RX8 32 yX9_within "OneOfEach", .methodLinkNest RX0 47 yX9_choose "OneOfEach"]
theorem tG {i : Nat} {w : Cond} (h : lw_tbl[i]? = some w) (hg : goodWord w = true) : w ∈ tblG := List.mem_filter.mpr ⟨List.mem_of_getElem? h, hg⟩
theorem tG_good : ∀ w ∈ tblG, (w.onTables && w.keeps) = true ∨ ∃ ty, w = .arrayClass ty := fun _ h => good_of_word (List.mem_filter.mp h).2
theorem tG_in {w : Cond} (hw : w ∈ tblG) : GoodIn tblG (w :: tblG) := fun x h => by
  rcases List.mem_cons.mp h with rfl | h
  · exact ⟨hw, tG_good _ hw⟩
  · exact ⟨h, tG_good _ h⟩
theorem tN_warm {s U : State} (hW : s.WarmedH U.vm) (h : ∀ w ∈ tblN, va_Nw w s) : ∀ w ∈ tblN, va_Nw w U := by
  intro w hw
  have h1 := h w hw
  simp only [tblN, List.mem_cons, List.mem_nil_iff, or_false] at hw
  rcases hw with rfl | rfl | rfl
  · exact va_Nw.warmM hW h1
  · exact va_Nw.warmM hW h1
  · exact va_Nw.warmM hW h1
theorem tN_same {s U : State} (hW : s.vm = U.vm) (h : ∀ w ∈ tblN, va_Nw w s) : ∀ w ∈ tblN, va_Nw w U := by
  intro w hw
  have h1 := h w hw
  simp only [tblN, List.mem_cons, List.mem_nil_iff, or_false] at hw
  rcases hw with rfl | rfl | rfl
  · exact va_Nw.same rfl hW h1
  · exact va_Nw.same rfl hW h1
  · exact va_Nw.same rfl hW h1
abbrev tysOf (cy : Nat → ClassId) : List (ClassId × FieldType) := [(cy 0, .int), (cy 1, .long), (cy 2, .object RX5), (cy 3, .object RX4)]
def cv (base b : Nat) (v : Value) : Value := match v with
  | .ref a => if a = 1000 then .ref b else .ref (base + a)
  | .int x => .int x
  | .long x => .long x
  | v => v
theorem cv_cat (base b : Nat) (v : Value) : (cv base b v).category = v.category := by
  cases v <;> try rfl
  unfold cv
  dsimp only
  split <;> rfl
theorem cv_r {base b a : Nat} (h : a < 95) : cv base b (.ref a) = .ref (base + a) := by
  unfold cv
  dsimp only
  rw [if_neg (show ¬ a = 1000 by omega)]
def lmap (base b : Nat) (L : List (Nat × Value)) : List (Nat × Value) := L.map (fun q => (q.1, cv base b q.2))
theorem lmap_at {base b : Nat} {L : List (Nat × Value)} {ls : Array Slot} {nL : Nat} (h : lv_has ls nL (lmap base b L)) {k i : Nat} {v : Value} (hk : L[k]? = some (i, v)) : ls[i]? = some (.val (cv base b v)) := by
  refine lv_at h k ?_
  rw [lmap, List.getElem?_map, hk]
  rfl
theorem lmap_pick {base b : Nat} {L L' : List (Nat × Value)} {ls : Array Slot} {nL : Nat} (h : lv_has ls nL (lmap base b L)) (ks : List Nat) (hk : lv_pick L ks = L') : lv_has ls nL (lmap base b L') := by
  refine lv_sub h ks ?_
  subst hk
  induction ks with
  | nil => rfl
  | cons k ks ih =>
    simp only [lv_pick, lmap, List.filterMap_cons, List.getElem?_map] at ih ⊢
    cases hL : L[k]? with
    | none => simpa [hL] using ih
    | some q => simpa [hL] using ih
def st1 (L : List (Nat × Value)) (i : Nat) (v : Value) : List (Nat × Value) := (i, v) :: L.filter (fun q => !(q.1 == i) && !(q.1 + 1 == i && q.2.category == 2))
def st2 (L : List (Nat × Value)) (i : Nat) (v : Value) : List (Nat × Value) := (i, v) :: L.filter (fun q => !(q.1 == i) && (!(q.1 == i + 1) && !(q.1 + 1 == i && q.2.category == 2)))
theorem lmap_st1 {base b : Nat} {L : List (Nat × Value)} {i : Nat} {v : Value} : (i, cv base b v) :: (lmap base b L).filter (fun q => !(q.1 == i) && !(q.1 + 1 == i && q.2.category == 2)) = lmap base b (st1 L i v) := by
  simp only [lmap, st1, List.map_cons, List.filter_map]
  congr 2
  apply List.filter_congr
  intro q _
  simp only [Function.comp, cv_cat]
theorem lmap_st2 {base b : Nat} {L : List (Nat × Value)} {i : Nat} {v : Value} : (i, cv base b v) :: (lmap base b L).filter (fun q => !(q.1 == i) && (!(q.1 == i + 1) && !(q.1 + 1 == i && q.2.category == 2))) = lmap base b (st2 L i v) := by
  simp only [lmap, st2, List.map_cons, List.filter_map]
  congr 2
  apply List.filter_congr
  intro q _
  simp only [Function.comp, cv_cat]
def retI (cc : ByteArray) (rt : Option FieldType) (r : Option Value) (pc : Nat) : Prop := match r with
  | none => rt = none ∧ decode cc pc = .ok (.return_, 1)
  | some (.int v) => (∃ ty, rt = some ty ∧ narrow ty (.int v) = .int v) ∧ decode cc pc = .ok (.ireturn, 1)
  | some (.long _) => rt = some .long ∧ decode cc pc = .ok (.lreturn, 1)
  | some _ => False
/-- what a method's body is walked in: the machine, the words, the memory, the room -/
def Ctx (base b : Nat) (cy : Nat → ClassId) (dC : Nat → ClassId) (dI : Nat → Nat → Nat) (X : Option (Nat × (Nat → Int32))) (D : Nat) (y : MethodName) (cc : ByteArray) (nL : Nat) (p : Program) (R : Room) (s : State) (m : MethodId) (args : Array Value) (c : Code) (H : Heap) (locs : List Loc) (cells slots : Nat) (σ : Mem) : Prop :=
  (p.tables.exec = Jvm.exec ∧ c.code = cc ∧ c.maxLocals = nL ∧ s.vm.findClass y.cls = some m.cls ∧ (∀ w ∈ tblG, w.before args s = true) ∧ (∀ w ∈ tblN, va_Nw w s) ∧ va_K (dC, dI) vwCl (tysOf cy) s) ∧
  (va_P (dC, dI) vwCl (wsOf base cy σ) H ∧ va_S (fun q => base ≤ q) s.heap H locs ∧ ∀ (n : Nat) (xs : Nat → Int32), X = some (n, xs) → va_X b n xs s s.heap ∧ b < s.heap.size ∧ b < base) ∧
  (D ≤ R.frames ∧ 64 * D ≤ R.locals ∧ cells ≤ R.cells ∧ slots ≤ R.slots)
/-- the body at pc, with these locals and this stack over this memory, comes to its return with what o says -/
def Run {α : Type} (D : Nat) (y : MethodName) (cc : ByteArray) (nL : Nat) (rt : Option FieldType) (X : Option (Nat × (Nat → Int32))) (ρ : α → Option Value × Mem) (pc : Nat) (L : List (Nat × Value)) (st : List Value) (σ : Mem) (o : Option α) : Prop :=
  ∀ (z : α), o = some z → ∀ (base b : Nat) (cy : Nat → ClassId) (dC : Nat → ClassId) (dI : Nat → Nat → Nat) (p : Program) (l : Launch) (e : Env) (R : Room) (s : State) (m : MethodId) (args : Array Value) (below : List Frame) (meth : Method) (c : Code) (H : Heap) (locs : List Loc) (cells slots : Nat) (Q : State → Prop) (ls : Array Slot),
    Ctx base b cy dC dI X D y cc nL p R s m args c H locs cells slots σ → lv_has ls nL (lmap base b L) →
    (∀ (pc' : Nat) (ls' : Array Slot) (H1 : Heap) (locs1 : List Loc), retI cc rt (ρ z).1 pc' → va_P (dC, dI) vwCl (wsOf base cy (ρ z).2) H1 → va_S (fun q => base ≤ q) s.heap H1 locs1 → W p l e R s m args below meth c H1 locs1 cells slots Q (F0 m pc' ls' ((ρ z).1.toList.map (cv base b)))) →
    W p l e R s m args below meth c H locs cells slots Q (F0 m pc ls (st.map (cv base b)))
section Rows
variable {α : Type} {D : Nat} {y : MethodName} {cc : ByteArray} {nL : Nat} {rt : Option FieldType} {X : Option (Nat × (Nat → Int32))} {ρ : α → Option Value × Mem} {pc : Nat} {L L' : List (Nat × Value)} {st : List Value} {σ : Mem} {S S' : SI} {T T' : SL} {o A B : Option α}
theorem r_none : Run D y cc nL rt X ρ pc L st σ none := fun _ h => nomatch h
theorem r_pick (ks : List Nat) (hk : lv_pick L ks = L') (k : Run D y cc nL rt X ρ pc L' st σ o) : Run D y cc nL rt X ρ pc L st σ o := by
  intro z hz base b cy dC dI p l e R s m args below meth c H locs cells slots Q ls C hl hF
  exact k z hz base b cy dC dI p l e R s m args below meth c H locs cells slots Q ls C (lmap_pick hl ks hk) hF
theorem r_if {P : Prop} [Decidable P] (kt : P → Run D y cc nL rt X ρ pc L st σ A) (kf : ¬ P → Run D y cc nL rt X ρ pc L st σ B) : Run D y cc nL rt X ρ pc L st σ (if P then A else B) := by
  by_cases h : P
  · rw [if_pos h]; exact kt h
  · rw [if_neg h]; exact kf h
theorem r_gd {g : Bool} (k : g = true → Run D y cc nL rt X ρ pc L st σ o) : Run D y cc nL rt X ρ pc L st σ (gd g o) := by
  cases g
  · exact r_none
  · exact k rfl

theorem r_iconst {n : Int} {v : Int32} (hd : decode cc pc = .ok (.iconst n, 1)) (hv : Int32.ofInt n = v) (k : Run D y cc nL rt X ρ (pc + 1) L (.int v :: st) σ o) : Run D y cc nL rt X ρ pc L st σ o := by
  intro z hz base b cy dC dI p l e R s m args below meth c H locs cells slots Q ls C hl hF
  exact lv_iconst C.1.1 C.1.2.1 hd hv (k z hz base b cy dC dI p l e R s m args below meth c H locs cells slots Q ls C hl hF)
theorem r_bipush {n : Int} {v : Int32} (hd : decode cc pc = .ok (.bipush n, 2)) (hv : (Int8.ofInt n).toInt32 = v) (k : Run D y cc nL rt X ρ (pc + 2) L (.int v :: st) σ o) : Run D y cc nL rt X ρ pc L st σ o := by
  intro z hz base b cy dC dI p l e R s m args below meth c H locs cells slots Q ls C hl hF
  exact lv_bipush C.1.1 C.1.2.1 hd hv (k z hz base b cy dC dI p l e R s m args below meth c H locs cells slots Q ls C hl hF)
theorem r_sipush {n : Int} {v : Int32} (hd : decode cc pc = .ok (.sipush n, 3)) (hv : (Int16.ofInt n).toInt32 = v) (k : Run D y cc nL rt X ρ (pc + 3) L (.int v :: st) σ o) : Run D y cc nL rt X ρ pc L st σ o := by
  intro z hz base b cy dC dI p l e R s m args below meth c H locs cells slots Q ls C hl hF
  exact lv_sipush C.1.1 C.1.2.1 hd hv (k z hz base b cy dC dI p l e R s m args below meth c H locs cells slots Q ls C hl hF)
theorem r_lconst {n : Fin 2} {v : Int64} (hd : decode cc pc = .ok (.lconst n, 1)) (hv : Int64.ofNat (n : Nat) = v) (k : Run D y cc nL rt X ρ (pc + 1) L (.long v :: st) σ o) : Run D y cc nL rt X ρ pc L st σ o := by
  intro z hz base b cy dC dI p l e R s m args below meth c H locs cells slots Q ls C hl hF
  exact lv_lconst C.1.1 C.1.2.1 hd hv (k z hz base b cy dC dI p l e R s m args below meth c H locs cells slots Q ls C hl hF)
theorem r_ldc {idx : Nat} {v : Int32} (hd : decode cc pc = .ok (.ldc idx, 2)) (hw : Cond.constant y.cls idx v ∈ tblG) (k : Run D y cc nL rt X ρ (pc + 2) L (.int v :: st) σ o) : Run D y cc nL rt X ρ pc L st σ o := by
  intro z hz base b cy dC dI p l e R s m args below meth c H locs cells slots Q ls C hl hF
  exact lv_ldc C.1.1 C.1.2.1 C.1.2.2.2.1 (C.1.2.2.2.2.1 _ hw) hd (k z hz base b cy dC dI p l e R s m args below meth c H locs cells slots Q ls C hl hF)
theorem r_ldc_w {idx : Nat} {v : Int32} (hd : decode cc pc = .ok (.ldc_w idx, 3)) (hw : Cond.constant y.cls idx v ∈ tblG) (k : Run D y cc nL rt X ρ (pc + 3) L (.int v :: st) σ o) : Run D y cc nL rt X ρ pc L st σ o := by
  intro z hz base b cy dC dI p l e R s m args below meth c H locs cells slots Q ls C hl hF
  exact lv_ldcw C.1.1 C.1.2.1 C.1.2.2.2.1 (C.1.2.2.2.2.1 _ hw) hd (k z hz base b cy dC dI p l e R s m args below meth c H locs cells slots Q ls C hl hF)
theorem r_ldc2_w {idx : Nat} {v : Int64} (hd : decode cc pc = .ok (.ldc2_w idx, 3)) (hw : Cond.constantLong y.cls idx v ∈ tblG) (k : Run D y cc nL rt X ρ (pc + 3) L (.long v :: st) σ o) : Run D y cc nL rt X ρ pc L st σ o := by
  intro z hz base b cy dC dI p l e R s m args below meth c H locs cells slots Q ls C hl hF
  exact lv_ldc2 C.1.1 C.1.2.1 C.1.2.2.2.1 (C.1.2.2.2.2.1 _ hw) hd (k z hz base b cy dC dI p l e R s m args below meth c H locs cells slots Q ls C hl hF)
theorem r_iload_n {n : Fin 4} {i : Nat} {x : Int32} (hd : decode cc pc = .ok (.iload_n n, 1)) (q : Nat) (hi : (n : Nat) = i) (hq : L[q]? = some (i, .int x)) (k : Run D y cc nL rt X ρ (pc + 1) L (.int x :: st) σ o) : Run D y cc nL rt X ρ pc L st σ o := by
  intro z hz base b cy dC dI p l e R s m args below meth c H locs cells slots Q ls C hl hF
  exact lv_iload_n C.1.1 C.1.2.1 hd hi (lmap_at hl hq) (k z hz base b cy dC dI p l e R s m args below meth c H locs cells slots Q ls C hl hF)
theorem r_iload {i : Nat} {x : Int32} (hd : decode cc pc = .ok (.iload i, 2)) (q : Nat) (hq : L[q]? = some (i, .int x)) (k : Run D y cc nL rt X ρ (pc + 2) L (.int x :: st) σ o) : Run D y cc nL rt X ρ pc L st σ o := by
  intro z hz base b cy dC dI p l e R s m args below meth c H locs cells slots Q ls C hl hF
  exact lv_iload C.1.1 C.1.2.1 hd (lmap_at hl hq) (k z hz base b cy dC dI p l e R s m args below meth c H locs cells slots Q ls C hl hF)
theorem r_lload_n {n : Fin 4} {i : Nat} {x : Int64} (hd : decode cc pc = .ok (.lload_n n, 1)) (q : Nat) (hi : (n : Nat) = i) (hq : L[q]? = some (i, .long x)) (k : Run D y cc nL rt X ρ (pc + 1) L (.long x :: st) σ o) : Run D y cc nL rt X ρ pc L st σ o := by
  intro z hz base b cy dC dI p l e R s m args below meth c H locs cells slots Q ls C hl hF
  exact lv_lload_n C.1.1 C.1.2.1 hd hi (lmap_at hl hq) (k z hz base b cy dC dI p l e R s m args below meth c H locs cells slots Q ls C hl hF)
theorem r_lload {i : Nat} {x : Int64} (hd : decode cc pc = .ok (.lload i, 2)) (q : Nat) (hq : L[q]? = some (i, .long x)) (k : Run D y cc nL rt X ρ (pc + 2) L (.long x :: st) σ o) : Run D y cc nL rt X ρ pc L st σ o := by
  intro z hz base b cy dC dI p l e R s m args below meth c H locs cells slots Q ls C hl hF
  exact lv_lload C.1.1 C.1.2.1 hd (lmap_at hl hq) (k z hz base b cy dC dI p l e R s m args below meth c H locs cells slots Q ls C hl hF)
theorem cv_ref {base b a : Nat} : ∃ a', cv base b (.ref a) = .ref a' := by
  by_cases h : a = 1000
  · exact ⟨b, by simp [cv, h]⟩
  · exact ⟨base + a, by simp [cv, h]⟩
theorem r_aload_n {n : Fin 4} {i : Nat} {x : Nat} (hd : decode cc pc = .ok (.aload_n n, 1)) (q : Nat) (hi : (n : Nat) = i) (hq : L[q]? = some (i, .ref x)) (k : Run D y cc nL rt X ρ (pc + 1) L (.ref x :: st) σ o) : Run D y cc nL rt X ρ pc L st σ o := by
  intro z hz base b cy dC dI p l e R s m args below meth c H locs cells slots Q ls C hl hF
  obtain ⟨a', ha'⟩ := cv_ref (base := base) (b := b) (a := x)
  have h1 := k z hz base b cy dC dI p l e R s m args below meth c H locs cells slots Q ls C hl hF
  have h2 := lmap_at hl hq
  simp only [List.map_cons, ha'] at h1 h2
  exact lv_aload_n C.1.1 C.1.2.1 hd hi h2 h1
theorem r_aload {i : Nat} {x : Nat} (hd : decode cc pc = .ok (.aload i, 2)) (q : Nat) (hq : L[q]? = some (i, .ref x)) (k : Run D y cc nL rt X ρ (pc + 2) L (.ref x :: st) σ o) : Run D y cc nL rt X ρ pc L st σ o := by
  intro z hz base b cy dC dI p l e R s m args below meth c H locs cells slots Q ls C hl hF
  obtain ⟨a', ha'⟩ := cv_ref (base := base) (b := b) (a := x)
  have h1 := k z hz base b cy dC dI p l e R s m args below meth c H locs cells slots Q ls C hl hF
  have h2 := lmap_at hl hq
  simp only [List.map_cons, ha'] at h1 h2
  exact lv_aload C.1.1 C.1.2.1 hd h2 h1
theorem r_istore_n {n : Fin 4} {i : Nat} {x : Int32} (hd : decode cc pc = .ok (.istore_n n, 1)) (hi : (n : Nat) = i) (hn : i < nL) (hL : st1 L i (.int x) = L') (k : Run D y cc nL rt X ρ (pc + 1) L' st σ o) : Run D y cc nL rt X ρ pc L (.int x :: st) σ o := by
  intro z hz base b cy dC dI p l e R s m args below meth c H locs cells slots Q ls C hl hF
  subst hL
  exact lv_istore_n C.1.1 C.1.2.1 hd hi hl hn (lmap_st1 (v := .int x)) (fun ls' hl' => k z hz base b cy dC dI p l e R s m args below meth c H locs cells slots Q ls' C hl' hF)
theorem r_istore {i : Nat} {x : Int32} (hd : decode cc pc = .ok (.istore i, 2)) (hn : i < nL) (hL : st1 L i (.int x) = L') (k : Run D y cc nL rt X ρ (pc + 2) L' st σ o) : Run D y cc nL rt X ρ pc L (.int x :: st) σ o := by
  intro z hz base b cy dC dI p l e R s m args below meth c H locs cells slots Q ls C hl hF
  subst hL
  exact lv_istore C.1.1 C.1.2.1 hd hl hn (lmap_st1 (v := .int x)) (fun ls' hl' => k z hz base b cy dC dI p l e R s m args below meth c H locs cells slots Q ls' C hl' hF)
theorem r_lstore_n {n : Fin 4} {i : Nat} {x : Int64} (hd : decode cc pc = .ok (.lstore_n n, 1)) (hi : (n : Nat) = i) (hn : i + 1 < nL) (hL : st2 L i (.long x) = L') (k : Run D y cc nL rt X ρ (pc + 1) L' st σ o) : Run D y cc nL rt X ρ pc L (.long x :: st) σ o := by
  intro z hz base b cy dC dI p l e R s m args below meth c H locs cells slots Q ls C hl hF
  subst hL
  exact lv_lstore_n C.1.1 C.1.2.1 hd hi hl hn (lmap_st2 (v := .long x)) (fun ls' hl' => k z hz base b cy dC dI p l e R s m args below meth c H locs cells slots Q ls' C hl' hF)
theorem r_lstore {i : Nat} {x : Int64} (hd : decode cc pc = .ok (.lstore i, 2)) (hn : i + 1 < nL) (hL : st2 L i (.long x) = L') (k : Run D y cc nL rt X ρ (pc + 2) L' st σ o) : Run D y cc nL rt X ρ pc L (.long x :: st) σ o := by
  intro z hz base b cy dC dI p l e R s m args below meth c H locs cells slots Q ls C hl hF
  subst hL
  exact lv_lstore C.1.1 C.1.2.1 hd hl hn (lmap_st2 (v := .long x)) (fun ls' hl' => k z hz base b cy dC dI p l e R s m args below meth c H locs cells slots Q ls' C hl' hF)
theorem r_astore_n {n : Fin 4} {i x : Nat} (hd : decode cc pc = .ok (.astore_n n, 1)) (hi : (n : Nat) = i) (hn : i < nL) (hL : st1 L i (.ref x) = L') (k : Run D y cc nL rt X ρ (pc + 1) L' st σ o) : Run D y cc nL rt X ρ pc L (.ref x :: st) σ o := by
  intro z hz base b cy dC dI p l e R s m args below meth c H locs cells slots Q ls C hl hF
  subst hL
  obtain ⟨a', ha'⟩ := cv_ref (base := base) (b := b) (a := x)
  have h3 := lmap_st1 (base := base) (b := b) (L := L) (i := i) (v := .ref x)
  simp only [List.map_cons, ha'] at h3 ⊢
  exact lv_astore_n C.1.1 C.1.2.1 hd hi hl hn h3 (fun ls' hl' => k z hz base b cy dC dI p l e R s m args below meth c H locs cells slots Q ls' C hl' hF)
theorem r_astore {i x : Nat} (hd : decode cc pc = .ok (.astore i, 2)) (hn : i < nL) (hL : st1 L i (.ref x) = L') (k : Run D y cc nL rt X ρ (pc + 2) L' st σ o) : Run D y cc nL rt X ρ pc L (.ref x :: st) σ o := by
  intro z hz base b cy dC dI p l e R s m args below meth c H locs cells slots Q ls C hl hF
  subst hL
  obtain ⟨a', ha'⟩ := cv_ref (base := base) (b := b) (a := x)
  have h3 := lmap_st1 (base := base) (b := b) (L := L) (i := i) (v := .ref x)
  simp only [List.map_cons, ha'] at h3 ⊢
  exact lv_astore C.1.1 C.1.2.1 hd hl hn h3 (fun ls' hl' => k z hz base b cy dC dI p l e R s m args below meth c H locs cells slots Q ls' C hl' hF)
theorem r_iinc {i : Nat} {n : Int} {x v : Int32} (hd : decode cc pc = .ok (.iinc i n, 3)) (q : Nat) (hq : L[q]? = some (i, .int x)) (hv : x + Int32.ofInt n = v) (hn : i < nL) (hL : st1 L i (.int v) = L') (k : Run D y cc nL rt X ρ (pc + 3) L' st σ o) : Run D y cc nL rt X ρ pc L st σ o := by
  intro z hz base b cy dC dI p l e R s m args below meth c H locs cells slots Q ls C hl hF
  subst hL
  exact lv_iinc C.1.1 C.1.2.1 hd hl (k := q) (by rw [lmap, List.getElem?_map, hq]; rfl) hv hn (lmap_st1 (v := .int v)) (fun ls' hl' => k z hz base b cy dC dI p l e R s m args below meth c H locs cells slots Q ls' C hl' hF)
theorem r_iadd {x u : Int32} (hd : decode cc pc = .ok (.iadd, 1)) (k : Run D y cc nL rt X ρ (pc + 1) L (.int (x + u) :: st) σ o) : Run D y cc nL rt X ρ pc L (.int u :: .int x :: st) σ o := by
  intro z hz base b cy dC dI p l e R s m args below meth c H locs cells slots Q ls C hl hF
  exact lv_iadd C.1.1 C.1.2.1 hd (k z hz base b cy dC dI p l e R s m args below meth c H locs cells slots Q ls C hl hF)
theorem r_isub {x u : Int32} (hd : decode cc pc = .ok (.isub, 1)) (k : Run D y cc nL rt X ρ (pc + 1) L (.int (x - u) :: st) σ o) : Run D y cc nL rt X ρ pc L (.int u :: .int x :: st) σ o := by
  intro z hz base b cy dC dI p l e R s m args below meth c H locs cells slots Q ls C hl hF
  exact lv_isub C.1.1 C.1.2.1 hd (k z hz base b cy dC dI p l e R s m args below meth c H locs cells slots Q ls C hl hF)
theorem r_imul {x u : Int32} (hd : decode cc pc = .ok (.imul, 1)) (k : Run D y cc nL rt X ρ (pc + 1) L (.int (x * u) :: st) σ o) : Run D y cc nL rt X ρ pc L (.int u :: .int x :: st) σ o := by
  intro z hz base b cy dC dI p l e R s m args below meth c H locs cells slots Q ls C hl hF
  exact lv_imul C.1.1 C.1.2.1 hd (k z hz base b cy dC dI p l e R s m args below meth c H locs cells slots Q ls C hl hF)
theorem r_iand {x u : Int32} (hd : decode cc pc = .ok (.iand, 1)) (k : Run D y cc nL rt X ρ (pc + 1) L (.int (x &&& u) :: st) σ o) : Run D y cc nL rt X ρ pc L (.int u :: .int x :: st) σ o := by
  intro z hz base b cy dC dI p l e R s m args below meth c H locs cells slots Q ls C hl hF
  exact lv_iand C.1.1 C.1.2.1 hd (k z hz base b cy dC dI p l e R s m args below meth c H locs cells slots Q ls C hl hF)
theorem r_ior {x u : Int32} (hd : decode cc pc = .ok (.ior, 1)) (k : Run D y cc nL rt X ρ (pc + 1) L (.int (x ||| u) :: st) σ o) : Run D y cc nL rt X ρ pc L (.int u :: .int x :: st) σ o := by
  intro z hz base b cy dC dI p l e R s m args below meth c H locs cells slots Q ls C hl hF
  exact lv_ior C.1.1 C.1.2.1 hd (k z hz base b cy dC dI p l e R s m args below meth c H locs cells slots Q ls C hl hF)
theorem r_ixor {x u : Int32} (hd : decode cc pc = .ok (.ixor, 1)) (k : Run D y cc nL rt X ρ (pc + 1) L (.int (x ^^^ u) :: st) σ o) : Run D y cc nL rt X ρ pc L (.int u :: .int x :: st) σ o := by
  intro z hz base b cy dC dI p l e R s m args below meth c H locs cells slots Q ls C hl hF
  exact lv_ixor C.1.1 C.1.2.1 hd (k z hz base b cy dC dI p l e R s m args below meth c H locs cells slots Q ls C hl hF)
theorem r_ishl {x u : Int32} (hd : decode cc pc = .ok (.ishl, 1)) (k : Run D y cc nL rt X ρ (pc + 1) L (.int (x <<< (u &&& 31)) :: st) σ o) : Run D y cc nL rt X ρ pc L (.int u :: .int x :: st) σ o := by
  intro z hz base b cy dC dI p l e R s m args below meth c H locs cells slots Q ls C hl hF
  exact lv_ishl C.1.1 C.1.2.1 hd (k z hz base b cy dC dI p l e R s m args below meth c H locs cells slots Q ls C hl hF)
theorem r_ishr {x u : Int32} (hd : decode cc pc = .ok (.ishr, 1)) (k : Run D y cc nL rt X ρ (pc + 1) L (.int (x >>> (u &&& 31)) :: st) σ o) : Run D y cc nL rt X ρ pc L (.int u :: .int x :: st) σ o := by
  intro z hz base b cy dC dI p l e R s m args below meth c H locs cells slots Q ls C hl hF
  exact lv_ishr C.1.1 C.1.2.1 hd (k z hz base b cy dC dI p l e R s m args below meth c H locs cells slots Q ls C hl hF)
theorem r_ladd {x u : Int64} (hd : decode cc pc = .ok (.ladd, 1)) (k : Run D y cc nL rt X ρ (pc + 1) L (.long (x + u) :: st) σ o) : Run D y cc nL rt X ρ pc L (.long u :: .long x :: st) σ o := by
  intro z hz base b cy dC dI p l e R s m args below meth c H locs cells slots Q ls C hl hF
  exact lv_ladd C.1.1 C.1.2.1 hd (k z hz base b cy dC dI p l e R s m args below meth c H locs cells slots Q ls C hl hF)
theorem r_lsub {x u : Int64} (hd : decode cc pc = .ok (.lsub, 1)) (k : Run D y cc nL rt X ρ (pc + 1) L (.long (x - u) :: st) σ o) : Run D y cc nL rt X ρ pc L (.long u :: .long x :: st) σ o := by
  intro z hz base b cy dC dI p l e R s m args below meth c H locs cells slots Q ls C hl hF
  exact lv_lsub C.1.1 C.1.2.1 hd (k z hz base b cy dC dI p l e R s m args below meth c H locs cells slots Q ls C hl hF)
theorem r_lmul {x u : Int64} (hd : decode cc pc = .ok (.lmul, 1)) (k : Run D y cc nL rt X ρ (pc + 1) L (.long (x * u) :: st) σ o) : Run D y cc nL rt X ρ pc L (.long u :: .long x :: st) σ o := by
  intro z hz base b cy dC dI p l e R s m args below meth c H locs cells slots Q ls C hl hF
  exact lv_lmul C.1.1 C.1.2.1 hd (k z hz base b cy dC dI p l e R s m args below meth c H locs cells slots Q ls C hl hF)
theorem r_land {x u : Int64} (hd : decode cc pc = .ok (.land, 1)) (k : Run D y cc nL rt X ρ (pc + 1) L (.long (x &&& u) :: st) σ o) : Run D y cc nL rt X ρ pc L (.long u :: .long x :: st) σ o := by
  intro z hz base b cy dC dI p l e R s m args below meth c H locs cells slots Q ls C hl hF
  exact lv_land C.1.1 C.1.2.1 hd (k z hz base b cy dC dI p l e R s m args below meth c H locs cells slots Q ls C hl hF)
theorem r_lor {x u : Int64} (hd : decode cc pc = .ok (.lor, 1)) (k : Run D y cc nL rt X ρ (pc + 1) L (.long (x ||| u) :: st) σ o) : Run D y cc nL rt X ρ pc L (.long u :: .long x :: st) σ o := by
  intro z hz base b cy dC dI p l e R s m args below meth c H locs cells slots Q ls C hl hF
  exact lv_lor C.1.1 C.1.2.1 hd (k z hz base b cy dC dI p l e R s m args below meth c H locs cells slots Q ls C hl hF)
theorem r_ineg {x : Int32} (hd : decode cc pc = .ok (.ineg, 1)) (k : Run D y cc nL rt X ρ (pc + 1) L (.int (-x) :: st) σ o) : Run D y cc nL rt X ρ pc L (.int x :: st) σ o := by
  intro z hz base b cy dC dI p l e R s m args below meth c H locs cells slots Q ls C hl hF
  exact lv_ineg C.1.1 C.1.2.1 hd (k z hz base b cy dC dI p l e R s m args below meth c H locs cells slots Q ls C hl hF)
theorem r_iushr {x u : Int32} (hd : decode cc pc = .ok (.iushr, 1)) (k : Run D y cc nL rt X ρ (pc + 1) L (.int ((x.toUInt32 >>> (u.toUInt32 &&& Int32.toUInt32 31)).toInt32) :: st) σ o) : Run D y cc nL rt X ρ pc L (.int u :: .int x :: st) σ o := by
  intro z hz base b cy dC dI p l e R s m args below meth c H locs cells slots Q ls C hl hF
  exact lv_iushr C.1.1 C.1.2.1 hd rfl (k z hz base b cy dC dI p l e R s m args below meth c H locs cells slots Q ls C hl hF)
theorem r_lushr {x : Int64} {u : Int32} (hd : decode cc pc = .ok (.lushr, 1)) (k : Run D y cc nL rt X ρ (pc + 1) L (.long ((x.toUInt64 >>> (u.toInt64.toUInt64 &&& Int64.toUInt64 63)).toInt64) :: st) σ o) : Run D y cc nL rt X ρ pc L (.int u :: .long x :: st) σ o := by
  intro z hz base b cy dC dI p l e R s m args below meth c H locs cells slots Q ls C hl hF
  exact lv_lushr C.1.1 C.1.2.1 hd rfl (k z hz base b cy dC dI p l e R s m args below meth c H locs cells slots Q ls C hl hF)
theorem r_lshl {x : Int64} {u : Int32} (hd : decode cc pc = .ok (.lshl, 1)) (k : Run D y cc nL rt X ρ (pc + 1) L (.long (x <<< (u.toInt64 &&& 63)) :: st) σ o) : Run D y cc nL rt X ρ pc L (.int u :: .long x :: st) σ o := by
  intro z hz base b cy dC dI p l e R s m args below meth c H locs cells slots Q ls C hl hF
  exact lv_lshl C.1.1 C.1.2.1 hd rfl (k z hz base b cy dC dI p l e R s m args below meth c H locs cells slots Q ls C hl hF)
theorem r_lshr {x : Int64} {u : Int32} (hd : decode cc pc = .ok (.lshr, 1)) (k : Run D y cc nL rt X ρ (pc + 1) L (.long (x >>> (u.toInt64 &&& 63)) :: st) σ o) : Run D y cc nL rt X ρ pc L (.int u :: .long x :: st) σ o := by
  intro z hz base b cy dC dI p l e R s m args below meth c H locs cells slots Q ls C hl hF
  exact lv_lshr C.1.1 C.1.2.1 hd rfl (k z hz base b cy dC dI p l e R s m args below meth c H locs cells slots Q ls C hl hF)
theorem r_i2l {x : Int32} (hd : decode cc pc = .ok (.i2l, 1)) (k : Run D y cc nL rt X ρ (pc + 1) L (.long x.toInt64 :: st) σ o) : Run D y cc nL rt X ρ pc L (.int x :: st) σ o := by
  intro z hz base b cy dC dI p l e R s m args below meth c H locs cells slots Q ls C hl hF
  exact lv_i2l C.1.1 C.1.2.1 hd rfl (k z hz base b cy dC dI p l e R s m args below meth c H locs cells slots Q ls C hl hF)
theorem r_l2i {x : Int64} (hd : decode cc pc = .ok (.l2i, 1)) (k : Run D y cc nL rt X ρ (pc + 1) L (.int x.toInt32 :: st) σ o) : Run D y cc nL rt X ρ pc L (.long x :: st) σ o := by
  intro z hz base b cy dC dI p l e R s m args below meth c H locs cells slots Q ls C hl hF
  exact lv_l2i C.1.1 C.1.2.1 hd rfl (k z hz base b cy dC dI p l e R s m args below meth c H locs cells slots Q ls C hl hF)
theorem r_i2b {x : Int32} (hd : decode cc pc = .ok (.i2b, 1)) (k : Run D y cc nL rt X ρ (pc + 1) L (.int x.toInt8.toInt32 :: st) σ o) : Run D y cc nL rt X ρ pc L (.int x :: st) σ o := by
  intro z hz base b cy dC dI p l e R s m args below meth c H locs cells slots Q ls C hl hF
  exact lv_i2b C.1.1 C.1.2.1 hd rfl (k z hz base b cy dC dI p l e R s m args below meth c H locs cells slots Q ls C hl hF)
theorem r_i2s {x : Int32} (hd : decode cc pc = .ok (.i2s, 1)) (k : Run D y cc nL rt X ρ (pc + 1) L (.int x.toInt16.toInt32 :: st) σ o) : Run D y cc nL rt X ρ pc L (.int x :: st) σ o := by
  intro z hz base b cy dC dI p l e R s m args below meth c H locs cells slots Q ls C hl hF
  exact lv_i2s C.1.1 C.1.2.1 hd rfl (k z hz base b cy dC dI p l e R s m args below meth c H locs cells slots Q ls C hl hF)
theorem r_idiv {x u : Int32} (hd : decode cc pc = .ok (.idiv, 1)) (k : ¬ u = 0 → Run D y cc nL rt X ρ (pc + 1) L (.int (x / u) :: st) σ o) : Run D y cc nL rt X ρ pc L (.int u :: .int x :: st) σ (if u = 0 then none else o) := by
  refine r_if (fun _ => r_none) (fun h => ?_)
  intro z hz base b cy dC dI p l e R s m args below meth c H locs cells slots Q ls C hl hF
  exact lv_idiv C.1.1 C.1.2.1 hd h (k h z hz base b cy dC dI p l e R s m args below meth c H locs cells slots Q ls C hl hF)
theorem r_irem {x u : Int32} (hd : decode cc pc = .ok (.irem, 1)) (k : ¬ u = 0 → Run D y cc nL rt X ρ (pc + 1) L (.int (x - x / u * u) :: st) σ o) : Run D y cc nL rt X ρ pc L (.int u :: .int x :: st) σ (if u = 0 then none else o) := by
  refine r_if (fun _ => r_none) (fun h => ?_)
  intro z hz base b cy dC dI p l e R s m args below meth c H locs cells slots Q ls C hl hF
  exact lv_irem C.1.1 C.1.2.1 hd h (k h z hz base b cy dC dI p l e R s m args below meth c H locs cells slots Q ls C hl hF)
theorem r_ldiv {x u : Int64} (hd : decode cc pc = .ok (.ldiv, 1)) (k : ¬ u = 0 → Run D y cc nL rt X ρ (pc + 1) L (.long (x / u) :: st) σ o) : Run D y cc nL rt X ρ pc L (.long u :: .long x :: st) σ (if u = 0 then none else o) := by
  refine r_if (fun _ => r_none) (fun h => ?_)
  intro z hz base b cy dC dI p l e R s m args below meth c H locs cells slots Q ls C hl hF
  exact lv_ldiv C.1.1 C.1.2.1 hd h (k h z hz base b cy dC dI p l e R s m args below meth c H locs cells slots Q ls C hl hF)
theorem r_lrem {x u : Int64} (hd : decode cc pc = .ok (.lrem, 1)) (k : ¬ u = 0 → Run D y cc nL rt X ρ (pc + 1) L (.long (x - x / u * u) :: st) σ o) : Run D y cc nL rt X ρ pc L (.long u :: .long x :: st) σ (if u = 0 then none else o) := by
  refine r_if (fun _ => r_none) (fun h => ?_)
  intro z hz base b cy dC dI p l e R s m args below meth c H locs cells slots Q ls C hl hF
  exact lv_lrem C.1.1 C.1.2.1 hd h (k h z hz base b cy dC dI p l e R s m args below meth c H locs cells slots Q ls C hl hF)
theorem r_dup {v : Value} (hd : decode cc pc = .ok (.dup, 1)) (hv : v.category = 1) (k : Run D y cc nL rt X ρ (pc + 1) L (v :: v :: st) σ o) : Run D y cc nL rt X ρ pc L (v :: st) σ o := by
  intro z hz base b cy dC dI p l e R s m args below meth c H locs cells slots Q ls C hl hF
  exact lv_dup C.1.1 C.1.2.1 hd ((cv_cat _ _ _).trans hv) (k z hz base b cy dC dI p l e R s m args below meth c H locs cells slots Q ls C hl hF)
theorem r_pop {v : Value} (hd : decode cc pc = .ok (.pop, 1)) (hv : v.category = 1) (k : Run D y cc nL rt X ρ (pc + 1) L st σ o) : Run D y cc nL rt X ρ pc L (v :: st) σ o := by
  intro z hz base b cy dC dI p l e R s m args below meth c H locs cells slots Q ls C hl hF
  exact lv_pop C.1.1 C.1.2.1 hd ((cv_cat _ _ _).trans hv) (k z hz base b cy dC dI p l e R s m args below meth c H locs cells slots Q ls C hl hF)
theorem r_dup2 {v u : Value} (hd : decode cc pc = .ok (.dup2, 1)) (hv : v.category = 1) (hu : u.category = 1) (k : Run D y cc nL rt X ρ (pc + 1) L (v :: u :: v :: u :: st) σ o) : Run D y cc nL rt X ρ pc L (v :: u :: st) σ o := by
  intro z hz base b cy dC dI p l e R s m args below meth c H locs cells slots Q ls C hl hF
  exact lv_dup2_11 C.1.1 C.1.2.1 hd ((cv_cat _ _ _).trans hv) ((cv_cat _ _ _).trans hu) (k z hz base b cy dC dI p l e R s m args below meth c H locs cells slots Q ls C hl hF)
theorem r_goto {off : Int} {tgt : Nat} (hd : decode cc pc = .ok (.goto off, 3)) (ht : (pc : Int) + off = (tgt : Int)) (k : Run D y cc nL rt X ρ tgt L st σ o) : Run D y cc nL rt X ρ pc L st σ o := by
  intro z hz base b cy dC dI p l e R s m args below meth c H locs cells slots Q ls C hl hF
  exact lv_goto C.1.1 C.1.2.1 hd ht (k z hz base b cy dC dI p l e R s m args below meth c H locs cells slots Q ls C hl hF)
theorem r_icmp_eq {x u : Int32} {off : Int} {tgt : Nat} (hd : decode cc pc = .ok (.if_icmp .eq off, 3)) (ht : (pc : Int) + off = (tgt : Int)) (kt : x = u → Run D y cc nL rt X ρ tgt L st σ A) (kf : ¬ (x = u) → Run D y cc nL rt X ρ (pc + 3) L st σ B) : Run D y cc nL rt X ρ pc L (.int u :: .int x :: st) σ (if x = u then A else B) := by
  intro z hz base b cy dC dI p l e R s m args below meth c H locs cells slots Q ls C hl hF
  exact lv_icmp_eq C.1.1 C.1.2.1 hd ht (fun h => kt h z (by rw [if_pos h] at hz; exact hz) base b cy dC dI p l e R s m args below meth c H locs cells slots Q ls C hl hF) (fun h => kf h z (by rw [if_neg h] at hz; exact hz) base b cy dC dI p l e R s m args below meth c H locs cells slots Q ls C hl hF)
theorem r_if_eq {x : Int32} {off : Int} {tgt : Nat} (hd : decode cc pc = .ok (.ifCond .eq off, 3)) (ht : (pc : Int) + off = (tgt : Int)) (kt : x = 0 → Run D y cc nL rt X ρ tgt L st σ A) (kf : ¬ (x = 0) → Run D y cc nL rt X ρ (pc + 3) L st σ B) : Run D y cc nL rt X ρ pc L (.int x :: st) σ (if x = 0 then A else B) := by
  intro z hz base b cy dC dI p l e R s m args below meth c H locs cells slots Q ls C hl hF
  exact lv_if_eq C.1.1 C.1.2.1 hd ht (fun h => kt h z (by rw [if_pos h] at hz; exact hz) base b cy dC dI p l e R s m args below meth c H locs cells slots Q ls C hl hF) (fun h => kf h z (by rw [if_neg h] at hz; exact hz) base b cy dC dI p l e R s m args below meth c H locs cells slots Q ls C hl hF)
theorem r_icmp_lt {x u : Int32} {off : Int} {tgt : Nat} (hd : decode cc pc = .ok (.if_icmp .lt off, 3)) (ht : (pc : Int) + off = (tgt : Int)) (kt : x < u → Run D y cc nL rt X ρ tgt L st σ A) (kf : ¬ (x < u) → Run D y cc nL rt X ρ (pc + 3) L st σ B) : Run D y cc nL rt X ρ pc L (.int u :: .int x :: st) σ (if x < u then A else B) := by
  intro z hz base b cy dC dI p l e R s m args below meth c H locs cells slots Q ls C hl hF
  exact lv_icmp_lt C.1.1 C.1.2.1 hd ht (fun h => kt h z (by rw [if_pos h] at hz; exact hz) base b cy dC dI p l e R s m args below meth c H locs cells slots Q ls C hl hF) (fun h => kf h z (by rw [if_neg h] at hz; exact hz) base b cy dC dI p l e R s m args below meth c H locs cells slots Q ls C hl hF)
theorem r_if_lt {x : Int32} {off : Int} {tgt : Nat} (hd : decode cc pc = .ok (.ifCond .lt off, 3)) (ht : (pc : Int) + off = (tgt : Int)) (kt : x < 0 → Run D y cc nL rt X ρ tgt L st σ A) (kf : ¬ (x < 0) → Run D y cc nL rt X ρ (pc + 3) L st σ B) : Run D y cc nL rt X ρ pc L (.int x :: st) σ (if x < 0 then A else B) := by
  intro z hz base b cy dC dI p l e R s m args below meth c H locs cells slots Q ls C hl hF
  exact lv_if_lt C.1.1 C.1.2.1 hd ht (fun h => kt h z (by rw [if_pos h] at hz; exact hz) base b cy dC dI p l e R s m args below meth c H locs cells slots Q ls C hl hF) (fun h => kf h z (by rw [if_neg h] at hz; exact hz) base b cy dC dI p l e R s m args below meth c H locs cells slots Q ls C hl hF)
theorem r_icmp_ge {x u : Int32} {off : Int} {tgt : Nat} (hd : decode cc pc = .ok (.if_icmp .ge off, 3)) (ht : (pc : Int) + off = (tgt : Int)) (kt : u ≤ x → Run D y cc nL rt X ρ tgt L st σ A) (kf : ¬ (u ≤ x) → Run D y cc nL rt X ρ (pc + 3) L st σ B) : Run D y cc nL rt X ρ pc L (.int u :: .int x :: st) σ (if u ≤ x then A else B) := by
  intro z hz base b cy dC dI p l e R s m args below meth c H locs cells slots Q ls C hl hF
  exact lv_icmp_ge C.1.1 C.1.2.1 hd ht (fun h => kt h z (by rw [if_pos h] at hz; exact hz) base b cy dC dI p l e R s m args below meth c H locs cells slots Q ls C hl hF) (fun h => kf h z (by rw [if_neg h] at hz; exact hz) base b cy dC dI p l e R s m args below meth c H locs cells slots Q ls C hl hF)
theorem r_if_ge {x : Int32} {off : Int} {tgt : Nat} (hd : decode cc pc = .ok (.ifCond .ge off, 3)) (ht : (pc : Int) + off = (tgt : Int)) (kt : 0 ≤ x → Run D y cc nL rt X ρ tgt L st σ A) (kf : ¬ (0 ≤ x) → Run D y cc nL rt X ρ (pc + 3) L st σ B) : Run D y cc nL rt X ρ pc L (.int x :: st) σ (if 0 ≤ x then A else B) := by
  intro z hz base b cy dC dI p l e R s m args below meth c H locs cells slots Q ls C hl hF
  exact lv_if_ge C.1.1 C.1.2.1 hd ht (fun h => kt h z (by rw [if_pos h] at hz; exact hz) base b cy dC dI p l e R s m args below meth c H locs cells slots Q ls C hl hF) (fun h => kf h z (by rw [if_neg h] at hz; exact hz) base b cy dC dI p l e R s m args below meth c H locs cells slots Q ls C hl hF)
theorem r_icmp_gt {x u : Int32} {off : Int} {tgt : Nat} (hd : decode cc pc = .ok (.if_icmp .gt off, 3)) (ht : (pc : Int) + off = (tgt : Int)) (kt : u < x → Run D y cc nL rt X ρ tgt L st σ A) (kf : ¬ (u < x) → Run D y cc nL rt X ρ (pc + 3) L st σ B) : Run D y cc nL rt X ρ pc L (.int u :: .int x :: st) σ (if u < x then A else B) := by
  intro z hz base b cy dC dI p l e R s m args below meth c H locs cells slots Q ls C hl hF
  exact lv_icmp_gt C.1.1 C.1.2.1 hd ht (fun h => kt h z (by rw [if_pos h] at hz; exact hz) base b cy dC dI p l e R s m args below meth c H locs cells slots Q ls C hl hF) (fun h => kf h z (by rw [if_neg h] at hz; exact hz) base b cy dC dI p l e R s m args below meth c H locs cells slots Q ls C hl hF)
theorem r_if_gt {x : Int32} {off : Int} {tgt : Nat} (hd : decode cc pc = .ok (.ifCond .gt off, 3)) (ht : (pc : Int) + off = (tgt : Int)) (kt : 0 < x → Run D y cc nL rt X ρ tgt L st σ A) (kf : ¬ (0 < x) → Run D y cc nL rt X ρ (pc + 3) L st σ B) : Run D y cc nL rt X ρ pc L (.int x :: st) σ (if 0 < x then A else B) := by
  intro z hz base b cy dC dI p l e R s m args below meth c H locs cells slots Q ls C hl hF
  exact lv_if_gt C.1.1 C.1.2.1 hd ht (fun h => kt h z (by rw [if_pos h] at hz; exact hz) base b cy dC dI p l e R s m args below meth c H locs cells slots Q ls C hl hF) (fun h => kf h z (by rw [if_neg h] at hz; exact hz) base b cy dC dI p l e R s m args below meth c H locs cells slots Q ls C hl hF)
theorem r_icmp_le {x u : Int32} {off : Int} {tgt : Nat} (hd : decode cc pc = .ok (.if_icmp .le off, 3)) (ht : (pc : Int) + off = (tgt : Int)) (kt : x ≤ u → Run D y cc nL rt X ρ tgt L st σ A) (kf : ¬ (x ≤ u) → Run D y cc nL rt X ρ (pc + 3) L st σ B) : Run D y cc nL rt X ρ pc L (.int u :: .int x :: st) σ (if x ≤ u then A else B) := by
  intro z hz base b cy dC dI p l e R s m args below meth c H locs cells slots Q ls C hl hF
  exact lv_icmp_le C.1.1 C.1.2.1 hd ht (fun h => kt h z (by rw [if_pos h] at hz; exact hz) base b cy dC dI p l e R s m args below meth c H locs cells slots Q ls C hl hF) (fun h => kf h z (by rw [if_neg h] at hz; exact hz) base b cy dC dI p l e R s m args below meth c H locs cells slots Q ls C hl hF)
theorem r_if_le {x : Int32} {off : Int} {tgt : Nat} (hd : decode cc pc = .ok (.ifCond .le off, 3)) (ht : (pc : Int) + off = (tgt : Int)) (kt : x ≤ 0 → Run D y cc nL rt X ρ tgt L st σ A) (kf : ¬ (x ≤ 0) → Run D y cc nL rt X ρ (pc + 3) L st σ B) : Run D y cc nL rt X ρ pc L (.int x :: st) σ (if x ≤ 0 then A else B) := by
  intro z hz base b cy dC dI p l e R s m args below meth c H locs cells slots Q ls C hl hF
  exact lv_if_le C.1.1 C.1.2.1 hd ht (fun h => kt h z (by rw [if_pos h] at hz; exact hz) base b cy dC dI p l e R s m args below meth c H locs cells slots Q ls C hl hF) (fun h => kf h z (by rw [if_neg h] at hz; exact hz) base b cy dC dI p l e R s m args below meth c H locs cells slots Q ls C hl hF)
theorem r_icmp_ne {x u : Int32} {off : Int} {tgt : Nat} (hd : decode cc pc = .ok (.if_icmp .ne off, 3)) (ht : (pc : Int) + off = (tgt : Int)) (kf : x = u → Run D y cc nL rt X ρ (pc + 3) L st σ B) (kt : ¬ (x = u) → Run D y cc nL rt X ρ tgt L st σ A) : Run D y cc nL rt X ρ pc L (.int u :: .int x :: st) σ (if x = u then B else A) := by
  intro z hz base b cy dC dI p l e R s m args below meth c H locs cells slots Q ls C hl hF
  exact lv_icmp_ne C.1.1 C.1.2.1 hd ht (fun h => kt h z (by rw [if_neg h] at hz; exact hz) base b cy dC dI p l e R s m args below meth c H locs cells slots Q ls C hl hF) (fun h => kf h z (by rw [if_pos h] at hz; exact hz) base b cy dC dI p l e R s m args below meth c H locs cells slots Q ls C hl hF)
theorem r_if_ne {x : Int32} {off : Int} {tgt : Nat} (hd : decode cc pc = .ok (.ifCond .ne off, 3)) (ht : (pc : Int) + off = (tgt : Int)) (kf : x = 0 → Run D y cc nL rt X ρ (pc + 3) L st σ B) (kt : ¬ (x = 0) → Run D y cc nL rt X ρ tgt L st σ A) : Run D y cc nL rt X ρ pc L (.int x :: st) σ (if x = 0 then B else A) := by
  intro z hz base b cy dC dI p l e R s m args below meth c H locs cells slots Q ls C hl hF
  exact lv_if_ne C.1.1 C.1.2.1 hd ht (fun h => kt h z (by rw [if_neg h] at hz; exact hz) base b cy dC dI p l e R s m args below meth c H locs cells slots Q ls C hl hF) (fun h => kf h z (by rw [if_pos h] at hz; exact hz) base b cy dC dI p l e R s m args below meth c H locs cells slots Q ls C hl hF)
end Rows
