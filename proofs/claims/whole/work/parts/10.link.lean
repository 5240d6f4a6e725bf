/-! THE CLAIM OUT OF ONE WALK OF THE LAW'S BODY. Your part is whole_start (and what it stands on); all else here is the same for every law, but numbers. -/
def R_law : String := "OneOfEachLaw"
def lw_P (b : Addr) (xs : List Int32) (args : Array Value) (s : State) : Prop := args = #[.ref b] ∧ s.IntsAt b xs ∧ xs.length ≤ 4096 ∧ (Jvm.Cond.and given_1 narrow_1).before args s = true
def lw_Q (_ : Array Value) (s : State) (o : Outcome) (t : State) : Prop := o = .returned (some (.int 1)) ∧ Framed s o t [] 600000 7302250
def lw_Z (below : List Frame) (a : Array Value) (s : State) : State → Prop := fun t => ∃ o, t.status = .running ∧ Ended t below o ∧ lw_Q a s o t
/-- the law's own end, with 1 on the stack, nothing written that was there before, its room as the claim has it -/
theorem lw_ret {p : Program} {l : Launch} {e : Env} {s : State} {m : MethodId} {below : List Frame} {meth : Method} {c : Code} {b : Nat} (hx : p.tables.exec = Jvm.exec) (hb : c.code = code) (hr : meth.sig.returnType = ret) (hlocks : meth.locks = false) {pc : Nat} {H : Heap} {ls : Array Slot} (hdg : decode code pc = .ok (.ireturn, 1)) : W p l e room_1 s m #[Value.ref b] below meth c H [] 600000 7302250 (lw_Z below #[Value.ref b] s) (F0 m pc ls [.int 1]) := by
  intro T hT X
  obtain ⟨fs, hret, hrun, hended, hW, hframe⟩ := X.leave (v := some (.int 1)) (hlocks := hlocks) (fun h => by rw [hr] at h; cases h)
  have hmeth' : T.vm.method? m = some meth := X.method'
  refine ⟨T.setFrames fs, ?_, .returned (some (.int 1)), hrun, hended, rfl, ⟨_, rfl⟩, hW, hframe⟩
  jvm_step X.here [X.here.top, hx, hb, hdg, hmeth', hr, ret, narrow_b1]
  (try refine ⟨rfl, ?_⟩); (try refine ⟨rfl, ?_⟩)
  first | (intro acts; rw [hret _ acts rfl rfl rfl]) | rw [hret _ _ rfl rfl rfl]
  exact Steps.refl _
/-- what holds at the law's entry: the machine, the code, the tables' words (any of lw_tbl by 'hts w (by decide +kernel)'), the script of L ints xs at the cell b, what the Statement gives of the start (any of its parts by flat_of_before) -/
def lw_At (p : Program) (s : State) (m : MethodId) (meth : Method) (c : Code) (b L : Nat) (xs : Nat → Int32) : Prop :=
  p.tables.exec = Jvm.exec ∧ c.code = code ∧ meth.sig.returnType = ret ∧ c.maxLocals = 4 ∧ s.vm.findClass R_law = some m.cls ∧ (∀ w ∈ lw_tbl, w.before #[Value.ref b] s = true) ∧ va_X b L xs s s.heap ∧ b < s.heap.size ∧ meth.locks = false ∧ (Jvm.Cond.and given_1 narrow_1).before #[Value.ref b] s = true

/-- nothing is made yet -/
def zI : Zc := (0, fun _ _ => 0, fun _ _ => 0, fun _ _ => false)
/-- what the makers make -/
def z0 : Zc := (g_law0 zI).getD zI
def S0 : SI := z0.2.1
def T0 : SL := z0.2.2.1
theorem z0_made : (g_law0 zI).isSome = true := by decide +kernel
theorem z0_eq : g_law0 zI = some z0 := by
  obtain ⟨v, hv⟩ := Option.isSome_iff_exists.mp z0_made
  unfold z0
  rw [hv]
  rfl
def allN (z : Zc) (i : Nat) : Bool := match sh i with
  | .inl o => (List.range o.2.length).all (fun k => match o.2[k]? with | some (.inl _) => z.2.2.2 i k | _ => true)
  | .inr q => if q.2 < 2 then true else (List.range q.1).all (fun j => z.2.2.2 i j)
theorem z0_k : z0.1 = 95 := by decide +kernel
theorem z0_all : (List.range 95).all (allN z0) = true := by decide +kernel
theorem arrV_congr {cA : ClassId} {n : Nat} {f g : Nat → Value} (h : ∀ j, j < n → f j = g j) : arrV cA n f = arrV cA n g := by
  unfold arrV
  congr 1
  apply Array.ext
  · simp
  · intro i h1 h2
    simp only [Array.getElem_ofFn]
    exact h i (by simpa using h1)
theorem ws_of_wn {z : Zc} (hk95 : z.1 = 95) (hall : (List.range 95).all (allN z) = true) {base : Nat} {cy : Nat → ClassId} {D : va_G} {H : Heap} (hP : va_P D vwCl (wsN base cy z) H) : va_P D vwCl (wsOf base cy (z.2.1, z.2.2.1, z.2.1, z.2.2.1)) H := by
  intro i q hq
  have hi : i < 95 := by
    have := (List.getElem?_eq_some_iff.mp hq).1
    simpa [wsOf] using this
  have h1 := hP i _ (wn_at (by rw [hk95]; exact hi))
  rw [ws_at hi] at hq
  cases hq
  have ha := List.all_eq_true.mp hall i (List.mem_range.mpr hi)
  have hS : jn (z.2.1, z.2.2.1, z.2.1, z.2.2.1).1 (z.2.1, z.2.2.1, z.2.1, z.2.2.1).2.2.1 i = z.2.1 i := by unfold jn; split <;> rfl
  have hT : jn (z.2.1, z.2.2.1, z.2.1, z.2.2.1).2.1 (z.2.1, z.2.2.1, z.2.1, z.2.2.1).2.2.2 i = z.2.2.1 i := by unfold jn; split <;> rfl
  rw [hS, hT]
  unfold allN at ha
  generalize hx : sh i = x at ha h1 ⊢
  rcases x with o | ⟨n, kd⟩
  · have e : o.2.mapIdx (fvN base (z.2.1 i) (z.2.2.1 i) (z.2.2.2 i)) = o.2.mapIdx (fv base (z.2.1 i) (z.2.2.1 i)) := by
      apply List.ext_getElem?
      intro k
      rw [List.getElem?_mapIdx, List.getElem?_mapIdx]
      cases hk : o.2[k]? with
      | none => rfl
      | some x =>
        have hl := (List.getElem?_eq_some_iff.mp hk).1
        have h2 := List.all_eq_true.mp ha k (List.mem_range.mpr hl)
        rw [hk] at h2
        rcases x with r | bb
        · show some (if z.2.2.2 i k = true then _ else _) = _
          rw [if_pos h2]
          rfl
        · cases bb <;> rfl
    show va_at D vwCl (base + i, .inr (o.1, o.2.mapIdx (fv base (z.2.1 i) (z.2.2.1 i)))) H
    rw [← e]
    exact h1
  · match kd, ha, h1 with
    | 0, _, h1 => exact h1
    | 1, _, h1 => exact h1
    | k + 2, ha, h1 =>
      have ha : (if k + 2 < 2 then true else (List.range n).all (fun j => z.2.2.2 i j)) = true := ha
      rw [if_neg (by omega)] at ha
      show H[base + i]? = some (vp_cell _ _)
      have h2 : H[base + i]? = some (vp_cell (cy (k + 2)) (n, .inr (.inr (.inr (.inr (fun j => if z.2.2.2 i j = true then some (base + el i j) else none)))))) := h1
      rw [h2, vp_cell_q, vp_cell_q]
      congr 1
      apply arrV_congr
      intro j hj
      rw [if_pos (List.all_eq_true.mp ha j (List.mem_range.mpr hj))]
theorem arrT {s : State} {args : Array Value} {ty : FieldType} (h : (Cond.arrayClass ty).before args s = true) (ht : ∀ C, ty ≠ .object C) : ∃ cA : ClassId, ArrOfT s cA ty ∧ va_RA s cA ty := by
  obtain ⟨cA, kA, comp, h1, h2, h3⟩ := Cond.arrayClass_spec h
  refine ⟨cA, fun n z => ⟨fun k h => (by cases h), kA, h2, comp, h3⟩, ?_⟩
  cases ty with
  | object C => exact absurd rfl (ht C)
  | _ => exact h1
theorem arrO {s : State} {C : String} (h : va_AO C s) : ∃ cA : ClassId, ArrOfT s cA (.object C) ∧ va_RA s cA (.object C) := by
  obtain ⟨comp, cA, kA, h1, h2, h3, h4, h5⟩ := Cond.arrayOver_spec h
  exact ⟨cA, fun n z => ⟨fun k h => (by cases h), kA, h3, comp, h4⟩, kA, comp, h3, h4, h1, h5⟩
set_option maxRecDepth 100000 in
theorem tbl_N : ∀ w ∈ tblN, w ∈ lw_tbl := by
  intro w hw
  simp only [tblN, List.mem_cons, List.mem_nil_iff, or_false] at hw
  rcases hw with rfl | rfl | rfl
  · exact List.mem_of_getElem? (i := 51 + 432) rfl
  · exact List.mem_of_getElem? (i := 51 + 562) rfl
  · exact List.mem_of_getElem? (i := 51 + 604) rfl
set_option maxRecDepth 100000 in
theorem tbl_M : ∀ w ∈ tblM, w ∈ lw_tbl := by
  intro w hw
  simp only [tblM, List.mem_cons, List.mem_nil_iff, or_false] at hw
  rcases hw with rfl | rfl | rfl | rfl | rfl | rfl | rfl | rfl | rfl
  · exact List.mem_of_getElem? (i := 51 + 33) rfl
  · exact List.mem_of_getElem? (i := 51 + 134) rfl
  · exact List.mem_of_getElem? (i := 51 + 151) rfl
  · exact List.mem_of_getElem? (i := 51 + 154) rfl
  · exact List.mem_of_getElem? (i := 51 + 179) rfl
  · exact List.mem_of_getElem? (i := 51 + 201) rfl
  · exact List.mem_of_getElem? (i := 51 + 216) rfl
  · exact List.mem_of_getElem? (i := 51 + 226) rfl
  · exact List.mem_of_getElem? (i := 51 + 246) rfl
set_option maxRecDepth 100000 in
theorem tbl_5 : Cond.arrayOver (.object RX5) ∈ lw_tbl := List.mem_of_getElem? (i := 51 + 31) rfl
set_option maxRecDepth 100000 in
theorem tbl_4 : Cond.arrayOver (.object RX4) ∈ lw_tbl := List.mem_of_getElem? (i := 51 + 244) rfl
set_option maxRecDepth 100000 in
theorem tb_i0 : Cond.instantiable RX0 2 ∈ tblG := tG (i := 51 + 200) rfl rfl
set_option maxRecDepth 100000 in
theorem tb_i1 : Cond.instantiable RX1 11 ∈ tblG := tG (i := 51 + 25) rfl rfl
set_option maxRecDepth 100000 in
theorem tb_i2 : Cond.instantiable RX2 1 ∈ tblG := tG (i := 51 + 215) rfl rfl
set_option maxRecDepth 100000 in
theorem tb_i3 : Cond.instantiable RX3 5 ∈ tblG := tG (i := 51 + 153) rfl rfl
set_option maxRecDepth 100000 in
theorem tb_i4 : Cond.instantiable RX4 3 ∈ tblG := tG (i := 51 + 245) rfl rfl
set_option maxRecDepth 100000 in
theorem tb_i5 : Cond.instantiable RX5 9 ∈ tblG := tG (i := 51 + 32) rfl rfl
set_option maxRecDepth 100000 in
theorem tb_i6 : Cond.instantiable RX6 4 ∈ tblG := tG (i := 51 + 128) rfl rfl
set_option maxRecDepth 100000 in
theorem tb_i7 : Cond.instantiable RX7 4 ∈ tblG := tG (i := 51 + 225) rfl rfl
set_option maxRecDepth 100000 in
theorem tb_i8 : Cond.instantiable RX8 4 ∈ tblG := tG (i := 51 + 178) rfl rfl
set_option maxRecDepth 100000 in
theorem tb_i9 : Cond.instantiable RX9 11 ∈ tblG := tG (i := 51 + 17) rfl rfl
set_option maxRecDepth 100000 in
theorem tb_i10 : Cond.instantiable RX10 20 ∈ tblG := tG (i := 51 + 758) rfl rfl

set_option maxHeartbeats 4000000 in
set_option maxRecDepth 100000 in
theorem known {s : State} {args : Array Value} (hts : ∀ w ∈ tblG, w.before args s = true) : ∃ (dC : Nat → ClassId) (dI : Nat → Nat → Nat), ∀ (k : Nat) (q : vw_C), vwCl[k]? = some q → u_Kn s q.1 q.2.1 q.2.2 (dC k) (dI k) := by
  obtain ⟨c0, i0, h0⟩ := u_known (C := RX0) (T := TX0) (N := 2) (n := 2) hts inG0 (hts _ tb_i0)
  obtain ⟨c1, i1, h1⟩ := u_known (C := RX1) (T := TX1) (N := 11) (n := 11) hts inG1 (hts _ tb_i1)
  obtain ⟨c2, i2, h2⟩ := u_known (C := RX2) (T := TX2) (N := 1) (n := 1) hts inG2 (hts _ tb_i2)
  obtain ⟨c3, i3, h3⟩ := u_known (C := RX3) (T := TX3) (N := 5) (n := 5) hts inG3 (hts _ tb_i3)
  obtain ⟨c4, i4, h4⟩ := u_known (C := RX4) (T := TX4) (N := 3) (n := 3) hts inG4 (hts _ tb_i4)
  obtain ⟨c5, i5, h5⟩ := u_known (C := RX5) (T := TX5) (N := 9) (n := 9) hts inG5 (hts _ tb_i5)
  obtain ⟨c6, i6, h6⟩ := u_known (C := RX6) (T := TX6) (N := 4) (n := 4) hts inG6 (hts _ tb_i6)
  obtain ⟨c7, i7, h7⟩ := u_known (C := RX7) (T := TX7) (N := 4) (n := 4) hts inG7 (hts _ tb_i7)
  obtain ⟨c8, i8, h8⟩ := u_known (C := RX8) (T := TX8) (N := 4) (n := 4) hts inG8 (hts _ tb_i8)
  obtain ⟨c9, i9, h9⟩ := u_known (C := RX9) (T := TX9) (N := 11) (n := 11) hts inG9 (hts _ tb_i9)
  obtain ⟨c10, i10, h10⟩ := u_known (C := RX10) (T := TX10) (N := 20) (n := 20) hts inG10 (hts _ tb_i10)
  refine ⟨fun k => if k = 0 then c0 else if k = 1 then c1 else if k = 2 then c2 else if k = 3 then c3 else if k = 4 then c4 else if k = 5 then c5 else if k = 6 then c6 else if k = 7 then c7 else if k = 8 then c8 else if k = 9 then c9 else c10, fun k => if k = 0 then i0 else if k = 1 then i1 else if k = 2 then i2 else if k = 3 then i3 else if k = 4 then i4 else if k = 5 then i5 else if k = 6 then i6 else if k = 7 then i7 else if k = 8 then i8 else if k = 9 then i9 else i10, ?_⟩
  intro k q hq
  match k, hq with
  | 0, hq => cases hq; exact h0
  | 1, hq => cases hq; exact h1
  | 2, hq => cases hq; exact h2
  | 3, hq => cases hq; exact h3
  | 4, hq => cases hq; exact h4
  | 5, hq => cases hq; exact h5
  | 6, hq => cases hq; exact h6
  | 7, hq => cases hq; exact h7
  | 8, hq => cases hq; exact h8
  | 9, hq => cases hq; exact h9
  | 10, hq => cases hq; exact h10
  | k + 11, hq => simp [vwCl] at hq

set_option maxHeartbeats 4000000 in
set_option maxRecDepth 100000 in
/-- THE LAW, from its entry, once the loop's function answers 1 -/
theorem whole_of (hall : ∀ (n : Nat) (xs : Nat → Int32), n ≤ 4096 → ∃ q, f_L_law_18 n xs fu (0 : Int32) S0 T0 S0 T0 = some q ∧ q.1 = 1) {p : Program} {e : Env} {s : State} {m : MethodId} {below : List Frame} {meth : Method} {c : Code} (l : Launch) {b L : Nat} {xs : Nat → Int32} (hL : L ≤ 4096) (C0 : lw_At p s m meth c b L xs) : W p l e room_1 s m #[Value.ref b] below meth c s.heap [] 0 0 (lw_Z below #[Value.ref b] s) (entryFrame m ([Value.ref b] : List Value).toArray 4) := by
  obtain ⟨hx, hb, hr, hml, hown, hts, hX, hbl, hlocks, hgv⟩ := id C0
  obtain ⟨q, hq, hq1⟩ := hall L xs hL
  have htG : ∀ w ∈ tblG, w.before #[Value.ref b] s = true := fun w hw => hts w (List.mem_filter.mp hw).1
  obtain ⟨dC, dI, hKc⟩ := known htG
  have hN : ∀ w ∈ tblN, va_Nw w s := fun w hw => by
    have h1 := hts w (tbl_N w hw)
    simp only [tblN, List.mem_cons, List.mem_nil_iff, or_false] at hw
    rcases hw with rfl | rfl | rfl <;> exact va_Nw.of rfl h1
  have hM : ∀ w ∈ tblM, va_Nw w s := fun w hw => by
    have h1 := hts w (tbl_M w hw)
    simp only [tblM, List.mem_cons, List.mem_nil_iff, or_false] at hw
    rcases hw with rfl | rfl | rfl | rfl | rfl | rfl | rfl | rfl | rfl <;> exact va_Nw.of rfl h1
  have hA5 : va_AO RX5 s := hts _ tbl_5
  have hA4 : va_AO RX4 s := hts _ tbl_4
  obtain ⟨cI, hI⟩ := arrT (htG _ tG_newi) (fun _ h => by cases h)
  obtain ⟨cJ, hJ⟩ := arrT (htG _ tG_newl) (fun _ h => by cases h)
  obtain ⟨cS, hS5⟩ := arrO hA5
  obtain ⟨cH, hH4⟩ := arrO hA4
  obtain ⟨cy, hc0, hc1, hc2, hc3⟩ : ∃ cy : Nat → ClassId, cy 0 = cI ∧ cy 1 = cJ ∧ cy 2 = cS ∧ cy 3 = cH := ⟨fun k => if k = 0 then cI else if k = 1 then cJ else if k = 2 then cS else cH, rfl, rfl, rfl, rfl⟩
  have hK : va_K (dC, dI) vwCl (tysOf cy) s := by
    refine ⟨hKc, fun k x hk => ?_⟩
    match k, hk with
    | 0, hk => cases hk; rw [hc0]; exact hI
    | 1, hk => cases hk; rw [hc1]; exact hJ
    | 2, hk => cases hk; rw [hc2]; exact hS5
    | 3, hk => cases hk; rw [hc3]; exact hH4
    | k + 4, hk => simp [tysOf] at hk
  have hl := lv_entry ([.ref b]) (n := 4) (Nat.le_of_ble_eq_true rfl)
  rw [lg_entry_eq]
  generalize (lg_sl ([.ref b]) ++ List.replicate (4 - (lg_sl ([.ref b])).length) Slot.unset).toArray = ls at hl ⊢
  have hl : lv_has ls 4 (lmap s.heap.size b [(0, .ref 1000)]) := hl
  have hname : yL_law.name = "<init>" → meth.name = "<init>" := fun h => absurd h (by decide +kernel)
  obtain ⟨hle, hgo⟩ := n_law0 zI z0 z0_eq
  have hz0 := z0_k
  have hSZ : SZ 95 ≤ 7302250 := by decide +kernel
  refine hgo s.heap.size b cy dC dI 0 p l e room_1 s m #[Value.ref b] below meth c s.heap [] 0 0 (lw_Z below #[Value.ref b] s) ls ⟨⟨hx, hb, hml, hown, htG, hK, hM, ⟨hA5, hA4⟩, hname⟩, ⟨fun k x h => by simp [wsN, zI] at h, va_S.rf⟩, ⟨rfl, Nat.le_refl _, rfl, rfl⟩, by decide, by decide, by rw [hz0]; decide, by rw [hz0]; exact Nat.le_trans (Nat.sub_le _ _) hSZ⟩ hl ?_
  intro pc' L' st' ls' H1 locs1 hE hl' hP1 hS1
  obtain ⟨rfl, ⟨a1, b1, rfl, rfl, rfl⟩, rfl⟩ := hE
  rw [hz0]
  have hrun : Run 47 yL_law cL_law 4 (some .boolean) (some (L, xs)) (fun a : Int32 × SI × SL × SI × SL => (some (.int a.1), (a.2.1, a.2.2.1, a.2.2.2.1, a.2.2.2.2))) 16 [(2, .ref 78), (1, .ref 0), (0, .ref 1000)] [] (S0, T0, S0, T0) (f_L_law_18 L xs fu (0 : Int32) S0 T0 S0 T0) := by
    refine r_iconst (v := (0 : Int32)) dL_law_16 rfl ?_
    refine r_istore_n (L' := [(3, .int (0 : Int32)), (2, .ref 78), (1, .ref 0), (0, .ref 1000)]) dL_law_17 rfl (by decide) rfl ?_
    exact r_pick [3, 2, 1, 0] rfl (t_L_law_18 L xs fu (0 : Int32) S0 T0 S0 T0)
  refine hrun q hq s.heap.size b cy dC dI p l e room_1 s m #[Value.ref b] below meth c H1 locs1 (95 - 0) (SZ 95 - SZ 0) (lw_Z below #[Value.ref b] s) ls' ⟨⟨hx, hb, hml, hown, htG, hN, hK⟩, ⟨ws_of_wn z0_k z0_all hP1, hS1, fun n' xs' hX' => ?_⟩, by decide, by decide, by decide, Nat.le_trans (Nat.sub_le _ _) hSZ⟩ hl' ?_
  · cases hX'
    exact ⟨hX, hbl, hbl⟩
  · intro pc2 ls2 H2 locs2 hret hP2 hS2
    have hv : ((fun a : Int32 × SI × SL × SI × SL => ((some (Value.int a.1) : Option Value), ((a.2.1, a.2.2.1, a.2.2.2.1, a.2.2.2.2) : Mem))) q).1 = some (.int 1) := by rw [← hq1]
    rw [hv] at hret ⊢
    refine va_forget (fun x hx2 => hS2.2.2 x hx2) ?_
    refine W.widen (k := 600000) (n := 7302250) (by decide) (Nat.le_trans (Nat.sub_le _ _) hSZ) ?_
    exact lw_ret hx hb hr hlocks hret.2
