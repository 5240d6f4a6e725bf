def f_X9_choose_16 (v0 : Int32) (v1 : Int32) : Nat → Int64 → Int32 → Option (Int64)
  | 0, _, _ => none
  | m_ + 1, v2, v4 =>
    if v1 < v4 then
      some v2
    else
      if v4.toInt64 = 0 then none else
      nm ((v2 * (((v0 - v1) + v4).toInt64)) / v4.toInt64) fun x5 =>
      (f_X9_choose_16 v0 v1 m_) x5 (v4 + (1 : Int32))
set_option maxHeartbeats 4000000 in
set_option maxRecDepth 100000 in
theorem t_X9_choose_16 (S : SI) (T : SL) (U : SI) (V : SL) (v0 : Int32) (v1 : Int32) : ∀ (m_ : Nat) (v2 : Int64) (v4 : Int32), Run 1 yX9_choose cX9_choose 5 (some .long) none (fun a : Int64 => (some (.long a), (S, T, U, V))) 16 [(0, .int v0), (1, .int v1), (2, .long v2), (4, .int v4)] [] (S, T, U, V) (f_X9_choose_16 v0 v1 m_ v2 v4) := by
  intro m_
  induction m_ with
  | zero =>
    intro v2 v4
    rw [f_X9_choose_16]
    exact r_none
  | succ m_ ih =>
    intro v2 v4
    rw [f_X9_choose_16]
    refine r_iload dX9_choose_16 3 rfl ?_
    refine r_iload_n dX9_choose_18 1 rfl rfl ?_
    refine r_icmp_gt (tgt := 42) dX9_choose_19 (by decide) (fun h3 => ?_) (fun h3 => ?_)
    · refine r_lload_n dX9_choose_42 2 rfl rfl ?_
      exact r_lreturn dX9_choose_43 rfl rfl
    · refine r_lload_n dX9_choose_22 2 rfl rfl ?_
      refine r_iload_n dX9_choose_23 0 rfl rfl ?_
      refine r_iload_n dX9_choose_24 1 rfl rfl ?_
      refine r_isub dX9_choose_25 ?_
      refine r_iload dX9_choose_26 3 rfl ?_
      refine r_iadd dX9_choose_28 ?_
      refine r_i2l dX9_choose_29 ?_
      refine r_lmul dX9_choose_30 ?_
      refine r_iload dX9_choose_31 3 rfl ?_
      refine r_i2l dX9_choose_33 ?_
      refine r_ldiv dX9_choose_34 (fun h4 => ?_)
      refine r_nml (fun x5 => ?_)
      refine r_lstore_n (L' := [(2, .long x5), (0, .int v0), (1, .int v1), (4, .int v4)]) dX9_choose_35 rfl (by decide) rfl ?_
      refine r_iinc (v := v4 + (1 : Int32)) (L' := [(4, .int (v4 + (1 : Int32))), (2, .long x5), (0, .int v0), (1, .int v1)]) dX9_choose_36 3 rfl rfl (by decide) rfl ?_
      refine r_goto (tgt := 16) dX9_choose_39 (by decide) ?_
      exact r_pick [2, 3, 1, 0] rfl (ih x5 (v4 + (1 : Int32)))
def f_X9_choose (v0 : Int32) (v1 : Int32) : Option (Int64) :=
  if v1 < 0 then
    some (0 : Int64)
  else
    if v1 ≤ v0 then
      f_X9_choose_16 v0 v1 fu (1 : Int64) (1 : Int32)
    else
      some (0 : Int64)
set_option maxHeartbeats 4000000 in
set_option maxRecDepth 100000 in
theorem m_X9_choose (S : SI) (T : SL) (U : SI) (V : SL) (v0 : Int32) (v1 : Int32) : Meth 1 yX9_choose cX9_choose 5 (some .long) [.int v0, .int v1] (S, T, U, V) (f_X9_choose v0 v1) (fun a : Int64 => (some (.long a), (S, T, U, V))) := by
  refine meth_of (L := [(0, .int v0), (1, .int v1)]) (by decide +kernel) (Nat.le_of_ble_eq_true rfl) rfl ?_
  rw [f_X9_choose]
  refine r_iload_n dX9_choose_0 1 rfl rfl ?_
  refine r_if_lt (tgt := 9) dX9_choose_1 (by decide) (fun h1 => ?_) (fun h1 => ?_)
  · refine r_lconst (v := (0 : Int64)) dX9_choose_9 rfl ?_
    exact r_lreturn dX9_choose_10 rfl rfl
  · refine r_iload_n dX9_choose_4 1 rfl rfl ?_
    refine r_iload_n dX9_choose_5 0 rfl rfl ?_
    refine r_icmp_le (tgt := 11) dX9_choose_6 (by decide) (fun h2 => ?_) (fun h2 => ?_)
    · refine r_lconst (v := (1 : Int64)) dX9_choose_11 rfl ?_
      refine r_lstore_n (L' := [(2, .long (1 : Int64)), (0, .int v0), (1, .int v1)]) dX9_choose_12 rfl (by decide) rfl ?_
      refine r_iconst (v := (1 : Int32)) dX9_choose_13 rfl ?_
      refine r_istore (L' := [(4, .int (1 : Int32)), (2, .long (1 : Int64)), (0, .int v0), (1, .int v1)]) dX9_choose_14 (by decide) rfl ?_
      exact r_pick [2, 3, 1, 0] rfl (t_X9_choose_16 S T U V v0 v1 fu (1 : Int64) (1 : Int32))
    · refine r_lconst (v := (0 : Int64)) dX9_choose_9 rfl ?_
      exact r_lreturn dX9_choose_10 rfl rfl
def f_X9_within (v0 : Int32) (v1 : Int32) : Option (Int32) :=
  if v0 < 0 then
    some (0 : Int32)
  else
    if v1 ≤ v0 then
      some (0 : Int32)
    else
      some (1 : Int32)
set_option maxHeartbeats 4000000 in
set_option maxRecDepth 100000 in
theorem m_X9_within (S : SI) (T : SL) (U : SI) (V : SL) (v0 : Int32) (v1 : Int32) : Meth 1 yX9_within cX9_within 2 (some .boolean) [.int v0, .int v1] (S, T, U, V) (f_X9_within v0 v1) (fun a : Int32 => (some (.int a), (S, T, U, V))) := by
  refine meth_of (L := [(0, .int v0), (1, .int v1)]) (by decide +kernel) (Nat.le_of_ble_eq_true rfl) rfl ?_
  rw [f_X9_within]
  refine r_iload_n dX9_within_0 0 rfl rfl ?_
  refine r_if_lt (tgt := 13) dX9_within_1 (by decide) (fun h1 => ?_) (fun h1 => ?_)
  · refine r_iconst (v := (0 : Int32)) dX9_within_13 rfl ?_
    exact r_ireturn (ty := .boolean) dX9_within_14 rfl rfl rfl
  · refine r_iload_n dX9_within_4 0 rfl rfl ?_
    refine r_iload_n dX9_within_5 1 rfl rfl ?_
    refine r_icmp_ge (tgt := 13) dX9_within_6 (by decide) (fun h2 => ?_) (fun h2 => ?_)
    · refine r_iconst (v := (0 : Int32)) dX9_within_13 rfl ?_
      exact r_ireturn (ty := .boolean) dX9_within_14 rfl rfl rfl
    · refine r_iconst (v := (1 : Int32)) dX9_within_9 rfl ?_
      refine r_goto (tgt := 14) dX9_within_10 (by decide) ?_
      exact r_ireturn (ty := .boolean) dX9_within_14 rfl rfl rfl
def f_X9_commonDivisor_9  : Nat → Int64 → Int64 → Int32 → Option (Int64)
  | 0, _, _, _ => none
  | m_ + 1, v4, v6, v8 =>
    if (200 : Int32) ≤ v8 then
      some v4
    else
      if v6 = (0 : Int64) then
        some v4
      else
        if v6 = 0 then none else
        nm (v4 - v4 / v6 * v6) fun x4 =>
        (f_X9_commonDivisor_9 m_) v6 x4 (v8 + (1 : Int32))
set_option maxHeartbeats 4000000 in
set_option maxRecDepth 100000 in
theorem t_X9_commonDivisor_9 (S : SI) (T : SL) (U : SI) (V : SL) : ∀ (m_ : Nat) (v4 : Int64) (v6 : Int64) (v8 : Int32), Run 1 yX9_commonDivisor cX9_commonDivisor 11 (some .long) none (fun a : Int64 => (some (.long a), (S, T, U, V))) 9 [(4, .long v4), (6, .long v6), (8, .int v8)] [] (S, T, U, V) (f_X9_commonDivisor_9 m_ v4 v6 v8) := by
  intro m_
  induction m_ with
  | zero =>
    intro v4 v6 v8
    rw [f_X9_commonDivisor_9]
    exact r_none
  | succ m_ ih =>
    intro v4 v6 v8
    rw [f_X9_commonDivisor_9]
    refine r_iload dX9_commonDivisor_9 2 rfl ?_
    refine r_sipush (v := (200 : Int32)) dX9_commonDivisor_11 rfl ?_
    refine r_icmp_ge (tgt := 45) dX9_commonDivisor_14 (by decide) (fun h1 => ?_) (fun h1 => ?_)
    · refine r_lload dX9_commonDivisor_45 0 rfl ?_
      exact r_lreturn dX9_commonDivisor_47 rfl rfl
    · refine r_lload dX9_commonDivisor_17 1 rfl ?_
      refine r_lconst (v := (0 : Int64)) dX9_commonDivisor_19 rfl ?_
      refine r_lcmp_eq (tgt := 45) dX9_commonDivisor_20 dX9_commonDivisor_21 (by decide) (fun h2 => ?_) (fun h2 => ?_)
      · refine r_lload dX9_commonDivisor_45 0 rfl ?_
        exact r_lreturn dX9_commonDivisor_47 rfl rfl
      · refine r_lload dX9_commonDivisor_24 0 rfl ?_
        refine r_lload dX9_commonDivisor_26 1 rfl ?_
        refine r_lrem dX9_commonDivisor_28 (fun h3 => ?_)
        refine r_nml (fun x4 => ?_)
        refine r_lstore (L' := [(9, .long x4), (4, .long v4), (6, .long v6), (8, .int v8)]) dX9_commonDivisor_29 (by decide) rfl ?_
        refine r_lload dX9_commonDivisor_31 2 rfl ?_
        refine r_lstore (L' := [(4, .long v6), (9, .long x4), (6, .long v6), (8, .int v8)]) dX9_commonDivisor_33 (by decide) rfl ?_
        refine r_lload dX9_commonDivisor_35 1 rfl ?_
        refine r_lstore (L' := [(6, .long x4), (4, .long v6), (9, .long x4), (8, .int v8)]) dX9_commonDivisor_37 (by decide) rfl ?_
        refine r_iinc (v := v8 + (1 : Int32)) (L' := [(8, .int (v8 + (1 : Int32))), (6, .long x4), (4, .long v6), (9, .long x4)]) dX9_commonDivisor_39 3 rfl rfl (by decide) rfl ?_
        refine r_goto (tgt := 9) dX9_commonDivisor_42 (by decide) ?_
        exact r_pick [2, 1, 0] rfl (ih v6 x4 (v8 + (1 : Int32)))
def f_X9_commonDivisor (v0 : Int64) (v2 : Int64) : Option (Int64) :=
  f_X9_commonDivisor_9 fu v0 v2 (0 : Int32)
set_option maxHeartbeats 4000000 in
set_option maxRecDepth 100000 in
theorem m_X9_commonDivisor (S : SI) (T : SL) (U : SI) (V : SL) (v0 : Int64) (v2 : Int64) : Meth 1 yX9_commonDivisor cX9_commonDivisor 11 (some .long) [.long v0, .long v2] (S, T, U, V) (f_X9_commonDivisor v0 v2) (fun a : Int64 => (some (.long a), (S, T, U, V))) := by
  refine meth_of (L := [(0, .long v0), (2, .long v2)]) (by decide +kernel) (Nat.le_of_ble_eq_true rfl) rfl ?_
  rw [f_X9_commonDivisor]
  refine r_lload_n dX9_commonDivisor_0 0 rfl rfl ?_
  refine r_lstore (L' := [(4, .long v0), (0, .long v0), (2, .long v2)]) dX9_commonDivisor_1 (by decide) rfl ?_
  refine r_lload_n dX9_commonDivisor_3 2 rfl rfl ?_
  refine r_lstore (L' := [(6, .long v2), (4, .long v0), (0, .long v0), (2, .long v2)]) dX9_commonDivisor_4 (by decide) rfl ?_
  refine r_iconst (v := (0 : Int32)) dX9_commonDivisor_6 rfl ?_
  refine r_istore (L' := [(8, .int (0 : Int32)), (6, .long v2), (4, .long v0), (0, .long v0), (2, .long v2)]) dX9_commonDivisor_7 (by decide) rfl ?_
  exact r_pick [2, 1, 0] rfl (t_X9_commonDivisor_9 S T U V fu v0 v2 (0 : Int32))
def f_X9_inLowestTerms_10 (v0 : Int64) (v2 : Int64) (s0 : Int64) : Option (Int64) :=
  (f_X9_commonDivisor v0 v2).bind fun q2 =>
  if q2 = (0 : Int64) then
    some s0
  else
    if q2 = 0 then none else
    some (s0 / q2)
set_option maxHeartbeats 4000000 in
set_option maxRecDepth 100000 in
theorem t_X9_inLowestTerms_10 (S : SI) (T : SL) (U : SI) (V : SL) (v0 : Int64) (v2 : Int64) (s0 : Int64) : Run 2 yX9_inLowestTerms cX9_inLowestTerms 9 (some .long) none (fun a : Int64 => (some (.long a), (S, T, U, V))) 10 [(0, .long v0), (2, .long v2)] [.long s0] (S, T, U, V) (f_X9_inLowestTerms_10 v0 v2 s0) := by
  rw [f_X9_inLowestTerms_10]
  refine r_lstore (L' := [(5, .long s0), (0, .long v0), (2, .long v2)]) dX9_inLowestTerms_10 (by decide) rfl ?_
  refine r_lload_n dX9_inLowestTerms_12 1 rfl rfl ?_
  refine r_lload_n dX9_inLowestTerms_13 2 rfl rfl ?_
  refine rS_l (as := [.long v0, .long v2]) (st := []) dX9_inLowestTerms_14 cl_X9_299 (m_X9_commonDivisor S T U V v0 v2) (by decide) rfl (Nat.le_of_ble_eq_true rfl) (fun q2 _ => ?_)
  refine r_lstore (L' := [(7, .long q2), (5, .long s0), (0, .long v0), (2, .long v2)]) dX9_inLowestTerms_17 (by decide) rfl ?_
  refine r_lload dX9_inLowestTerms_19 0 rfl ?_
  refine r_lconst (v := (0 : Int64)) dX9_inLowestTerms_21 rfl ?_
  refine r_lcmp_ne (tgt := 31) dX9_inLowestTerms_22 dX9_inLowestTerms_23 (by decide) (fun h3 => ?_) (fun h3 => ?_)
  · refine r_lload dX9_inLowestTerms_26 1 rfl ?_
    refine r_goto (tgt := 36) dX9_inLowestTerms_28 (by decide) ?_
    exact r_lreturn dX9_inLowestTerms_36 rfl rfl
  · refine r_lload dX9_inLowestTerms_31 1 rfl ?_
    refine r_lload dX9_inLowestTerms_33 0 rfl ?_
    refine r_ldiv dX9_inLowestTerms_35 (fun h4 => ?_)
    exact r_lreturn dX9_inLowestTerms_36 rfl rfl
def f_X9_inLowestTerms (v0 : Int64) (v2 : Int64) (v4 : Int32) : Option (Int64) :=
  if v4 = 0 then
    f_X9_inLowestTerms_10 v0 v2 v0
  else
    f_X9_inLowestTerms_10 v0 v2 v2
set_option maxHeartbeats 4000000 in
set_option maxRecDepth 100000 in
theorem m_X9_inLowestTerms (S : SI) (T : SL) (U : SI) (V : SL) (v0 : Int64) (v2 : Int64) (v4 : Int32) : Meth 2 yX9_inLowestTerms cX9_inLowestTerms 9 (some .long) [.long v0, .long v2, .int v4] (S, T, U, V) (f_X9_inLowestTerms v0 v2 v4) (fun a : Int64 => (some (.long a), (S, T, U, V))) := by
  refine meth_of (L := [(0, .long v0), (2, .long v2), (4, .int v4)]) (by decide +kernel) (Nat.le_of_ble_eq_true rfl) rfl ?_
  rw [f_X9_inLowestTerms]
  refine r_iload dX9_inLowestTerms_0 2 rfl ?_
  refine r_if_ne (tgt := 9) dX9_inLowestTerms_2 (by decide) (fun h1 => ?_) (fun h1 => ?_)
  · refine r_lload_n dX9_inLowestTerms_5 0 rfl rfl ?_
    refine r_goto (tgt := 10) dX9_inLowestTerms_6 (by decide) ?_
    exact r_pick [0, 1] rfl (t_X9_inLowestTerms_10 S T U V v0 v2 v0)
  · refine r_lload_n dX9_inLowestTerms_9 1 rfl rfl ?_
    exact r_pick [0, 1] rfl (t_X9_inLowestTerms_10 S T U V v0 v2 v2)
