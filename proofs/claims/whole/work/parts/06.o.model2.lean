def f_X10_told (U : SI) (v1 : Int32) (v2 : Int32) : Option (Int32) :=
  (f_X10_isSock U v1).bind fun q1 =>
  if q1 = 0 then
    some (-1 : Int32)
  else
    (f_X10_in v2.toInt64 (0 : Int64) (7 : Int64)).bind fun q3 =>
    if q3 = 0 then
      some (-1 : Int32)
    else
      (f_X10_of U v1 v2).bind fun q5 =>
      some q5
set_option maxHeartbeats 4000000 in
set_option maxRecDepth 100000 in
theorem m_X10_told (S : SI) (T : SL) (U : SI) (V : SL) (v1 : Int32) (v2 : Int32) : Meth 3 yX10_told cX10_told 3 (some .int) [.ref 78, .int v1, .int v2] (S, T, U, V) (f_X10_told U v1 v2) (fun a : Int32 => (some (.int a), (S, T, U, V))) := by
  refine meth_of (L := [(0, .ref 78), (1, .int v1), (2, .int v2)]) (by decide +kernel) (Nat.le_of_ble_eq_true rfl) rfl ?_
  rw [f_X10_told]
  refine r_aload_n dX10_told_0 0 rfl rfl ?_
  refine r_iload_n dX10_told_1 1 rfl rfl ?_
  refine rV_i (as := [.int v1]) (st := []) dX10_told_2 cl_X10_63 (by decide) rfl rfl (m_X10_isSock S T U V v1) (by decide) rfl (Nat.le_of_ble_eq_true rfl) (fun q1 _ => ?_)
  refine r_if_eq (tgt := 29) dX10_told_5 (by decide) (fun h2 => ?_) (fun h2 => ?_)
  · refine r_iconst (v := (-1 : Int32)) dX10_told_29 rfl ?_
    exact r_ireturn (ty := .int) dX10_told_30 rfl (nar_i _) rfl
  · refine r_iload_n dX10_told_8 2 rfl rfl ?_
    refine r_i2l dX10_told_9 ?_
    refine r_lconst (v := (0 : Int64)) dX10_told_10 rfl ?_
    refine r_ldc2_w (v := (7 : Int64)) dX10_told_11 kw_X10_127 ?_
    refine rS_i (as := [.long v2.toInt64, .long (0 : Int64), .long (7 : Int64)]) (st := []) dX10_told_14 cl_X10_59 (m_X10_in S T U V v2.toInt64 (0 : Int64) (7 : Int64)) (by decide) rfl (Nat.le_of_ble_eq_true rfl) (fun q3 _ => ?_)
    refine r_if_eq (tgt := 29) dX10_told_17 (by decide) (fun h4 => ?_) (fun h4 => ?_)
    · refine r_iconst (v := (-1 : Int32)) dX10_told_29 rfl ?_
      exact r_ireturn (ty := .int) dX10_told_30 rfl (nar_i _) rfl
    · refine r_aload_n dX10_told_20 0 rfl rfl ?_
      refine r_iload_n dX10_told_21 1 rfl rfl ?_
      refine r_iload_n dX10_told_22 2 rfl rfl ?_
      refine rV_i (as := [.int v1, .int v2]) (st := []) dX10_told_23 cl_X10_67 (by decide) rfl rfl (m_X10_of S T U V v1 v2) (by decide) rfl (Nat.le_of_ble_eq_true rfl) (fun q5 _ => ?_)
      refine r_goto (tgt := 30) dX10_told_26 (by decide) ?_
      exact r_ireturn (ty := .int) dX10_told_30 rfl (nar_i _) rfl
def f_X10_fade (U : SI) (v1 : Int32) (v2 : Int32) : Option (Int32 × SI) :=
  (f_X10_in v1.toInt64 (0 : Int64) (5 : Int64)).bind fun q1 =>
  if q1 = 0 then
    some ((-1 : Int32), U)
  else
    (f_X10_in v2.toInt64 (0 : Int64) (9 : Int64)).bind fun q3 =>
    if q3 = 0 then
      some ((-1 : Int32), U)
    else
      gd (inB ((4 : Int32) + v1) 205) <|
      nm (U 79 (ix ((4 : Int32) + v1))) fun x6 =>
      gd (inB ((4 : Int32) + v1) 205) <|
      nm (up2 U 79 (ix ((4 : Int32) + v1)) v2) fun U8 =>
      some (x6, U8)
set_option maxHeartbeats 4000000 in
set_option maxRecDepth 100000 in
theorem m_X10_fade (S : SI) (T : SL) (U : SI) (V : SL) (v1 : Int32) (v2 : Int32) : Meth 2 yX10_fade cX10_fade 4 (some .int) [.ref 78, .int v1, .int v2] (S, T, U, V) (f_X10_fade U v1 v2) (fun a : Int32 × SI => (some (.int a.1), (S, T, a.2, V))) := by
  refine meth_of (L := [(0, .ref 78), (1, .int v1), (2, .int v2)]) (by decide +kernel) (Nat.le_of_ble_eq_true rfl) rfl ?_
  rw [f_X10_fade]
  refine r_iload_n dX10_fade_0 1 rfl rfl ?_
  refine r_i2l dX10_fade_1 ?_
  refine r_lconst (v := (0 : Int64)) dX10_fade_2 rfl ?_
  refine r_ldc2_w (v := (5 : Int64)) dX10_fade_3 kw_X10_75 ?_
  refine rS_i (as := [.long v1.toInt64, .long (0 : Int64), .long (5 : Int64)]) (st := []) dX10_fade_6 cl_X10_59 (m_X10_in S T U V v1.toInt64 (0 : Int64) (5 : Int64)) (by decide) rfl (Nat.le_of_ble_eq_true rfl) (fun q1 _ => ?_)
  refine r_if_eq (tgt := 24) dX10_fade_9 (by decide) (fun h2 => ?_) (fun h2 => ?_)
  · refine r_iconst (v := (-1 : Int32)) dX10_fade_24 rfl ?_
    exact r_ireturn (ty := .int) dX10_fade_25 rfl (nar_i _) rfl
  · refine r_iload_n dX10_fade_12 2 rfl rfl ?_
    refine r_i2l dX10_fade_13 ?_
    refine r_lconst (v := (0 : Int64)) dX10_fade_14 rfl ?_
    refine r_ldc2_w (v := (9 : Int64)) dX10_fade_15 kw_X10_129 ?_
    refine rS_i (as := [.long v2.toInt64, .long (0 : Int64), .long (9 : Int64)]) (st := []) dX10_fade_18 cl_X10_59 (m_X10_in S T U V v2.toInt64 (0 : Int64) (9 : Int64)) (by decide) rfl (Nat.le_of_ble_eq_true rfl) (fun q3 _ => ?_)
    refine r_if_ne (tgt := 26) dX10_fade_21 (by decide) (fun h4 => ?_) (fun h4 => ?_)
    · refine r_iconst (v := (-1 : Int32)) dX10_fade_24 rfl ?_
      exact r_ireturn (ty := .int) dX10_fade_25 rfl (nar_i _) rfl
    · refine r_aload_n dX10_fade_26 0 rfl rfl ?_
      refine r_getr dX10_fade_27 fl_X10_7 (by decide) rfl rfl (by decide) ?_
      refine r_iconst (v := (4 : Int32)) dX10_fade_30 rfl ?_
      refine r_iload_n dX10_fade_31 1 rfl rfl ?_
      refine r_iadd dX10_fade_32 ?_
      refine rm_iald dX10_fade_33 (by decide) (by decide) rfl (fun h5 => ?_)
      refine r_nmi (fun x6 => ?_)
      refine r_istore_n (L' := [(3, .int x6), (0, .ref 78), (1, .int v1), (2, .int v2)]) dX10_fade_34 rfl (by decide) rfl ?_
      refine r_aload_n dX10_fade_35 1 rfl rfl ?_
      refine r_getr dX10_fade_36 fl_X10_7 (by decide) rfl rfl (by decide) ?_
      refine r_iconst (v := (4 : Int32)) dX10_fade_39 rfl ?_
      refine r_iload_n dX10_fade_40 2 rfl rfl ?_
      refine r_iadd dX10_fade_41 ?_
      refine r_iload_n dX10_fade_42 3 rfl rfl ?_
      refine rm_iast dX10_fade_43 (by decide) (by decide) rfl (fun h7 => ?_)
      refine r_nmU (fun U8 => ?_)
      refine r_iload_n dX10_fade_44 0 rfl rfl ?_
      exact r_ireturn (ty := .int) dX10_fade_45 rfl (nar_i _) rfl
def f_X10_set_36 (U : SI) (v1 : Int32) (v2 : Int32) : Option (Int32 × SI) :=
  gd (inB ((2 : Int32) + v1) 205) <|
  nm (U 79 (ix ((2 : Int32) + v1))) fun x5 =>
  gd (inB ((2 : Int32) + v1) 205) <|
  nm (up2 U 79 (ix ((2 : Int32) + v1)) v2) fun U7 =>
  some (x5, U7)
set_option maxHeartbeats 4000000 in
set_option maxRecDepth 100000 in
theorem t_X10_set_36 (S : SI) (T : SL) (U : SI) (V : SL) (v1 : Int32) (v2 : Int32) : Run 2 yX10_set cX10_set 4 (some .int) none (fun a : Int32 × SI => (some (.int a.1), (S, T, a.2, V))) 36 [(0, .ref 78), (1, .int v1), (2, .int v2)] [] (S, T, U, V) (f_X10_set_36 U v1 v2) := by
  rw [f_X10_set_36]
  refine r_aload_n dX10_set_36 0 rfl rfl ?_
  refine r_getr dX10_set_37 fl_X10_7 (by decide) rfl rfl (by decide) ?_
  refine r_iconst (v := (2 : Int32)) dX10_set_40 rfl ?_
  refine r_iload_n dX10_set_41 1 rfl rfl ?_
  refine r_iadd dX10_set_42 ?_
  refine rm_iald dX10_set_43 (by decide) (by decide) rfl (fun h4 => ?_)
  refine r_nmi (fun x5 => ?_)
  refine r_istore_n (L' := [(3, .int x5), (0, .ref 78), (1, .int v1), (2, .int v2)]) dX10_set_44 rfl (by decide) rfl ?_
  refine r_aload_n dX10_set_45 1 rfl rfl ?_
  refine r_getr dX10_set_46 fl_X10_7 (by decide) rfl rfl (by decide) ?_
  refine r_iconst (v := (2 : Int32)) dX10_set_49 rfl ?_
  refine r_iload_n dX10_set_50 2 rfl rfl ?_
  refine r_iadd dX10_set_51 ?_
  refine r_iload_n dX10_set_52 3 rfl rfl ?_
  refine rm_iast dX10_set_53 (by decide) (by decide) rfl (fun h6 => ?_)
  refine r_nmU (fun U7 => ?_)
  refine r_iload_n dX10_set_54 0 rfl rfl ?_
  exact r_ireturn (ty := .int) dX10_set_55 rfl (nar_i _) rfl
def f_X10_set (U : SI) (v1 : Int32) (v2 : Int32) : Option (Int32 × SI) :=
  if v1 = 0 then
    (f_X10_in v2.toInt64 (0 : Int64) (20 : Int64)).bind fun q2 =>
    if q2 = 0 then
      some ((-1 : Int32), U)
    else
      f_X10_set_36 U v1 v2
  else
    if v1 = (1 : Int32) then
      (f_X10_in v2.toInt64 (0 : Int64) (1 : Int64)).bind fun q9 =>
      if q9 = 0 then
        some ((-1 : Int32), U)
      else
        f_X10_set_36 U v1 v2
    else
      some ((-1 : Int32), U)
set_option maxHeartbeats 4000000 in
set_option maxRecDepth 100000 in
theorem m_X10_set (S : SI) (T : SL) (U : SI) (V : SL) (v1 : Int32) (v2 : Int32) : Meth 2 yX10_set cX10_set 4 (some .int) [.ref 78, .int v1, .int v2] (S, T, U, V) (f_X10_set U v1 v2) (fun a : Int32 × SI => (some (.int a.1), (S, T, a.2, V))) := by
  refine meth_of (L := [(0, .ref 78), (1, .int v1), (2, .int v2)]) (by decide +kernel) (Nat.le_of_ble_eq_true rfl) rfl ?_
  rw [f_X10_set]
  refine r_iload_n dX10_set_0 1 rfl rfl ?_
  refine r_if_ne (tgt := 19) dX10_set_1 (by decide) (fun h1 => ?_) (fun h1 => ?_)
  · refine r_iload_n dX10_set_4 2 rfl rfl ?_
    refine r_i2l dX10_set_5 ?_
    refine r_lconst (v := (0 : Int64)) dX10_set_6 rfl ?_
    refine r_ldc2_w (v := (20 : Int64)) dX10_set_7 kw_X10_131 ?_
    refine rS_i (as := [.long v2.toInt64, .long (0 : Int64), .long (20 : Int64)]) (st := []) dX10_set_10 cl_X10_59 (m_X10_in S T U V v2.toInt64 (0 : Int64) (20 : Int64)) (by decide) rfl (Nat.le_of_ble_eq_true rfl) (fun q2 _ => ?_)
    refine r_if_ne (tgt := 36) dX10_set_13 (by decide) (fun h3 => ?_) (fun h3 => ?_)
    · refine r_goto (tgt := 34) dX10_set_16 (by decide) ?_
      refine r_iconst (v := (-1 : Int32)) dX10_set_34 rfl ?_
      exact r_ireturn (ty := .int) dX10_set_35 rfl (nar_i _) rfl
    · exact r_pick [0, 1, 2] rfl (t_X10_set_36 S T U V v1 v2)
  · refine r_iload_n dX10_set_19 1 rfl rfl ?_
    refine r_iconst (v := (1 : Int32)) dX10_set_20 rfl ?_
    refine r_icmp_ne (tgt := 34) dX10_set_21 (by decide) (fun h8 => ?_) (fun h8 => ?_)
    · refine r_iload_n dX10_set_24 2 rfl rfl ?_
      refine r_i2l dX10_set_25 ?_
      refine r_lconst (v := (0 : Int64)) dX10_set_26 rfl ?_
      refine r_lconst (v := (1 : Int64)) dX10_set_27 rfl ?_
      refine rS_i (as := [.long v2.toInt64, .long (0 : Int64), .long (1 : Int64)]) (st := []) dX10_set_28 cl_X10_59 (m_X10_in S T U V v2.toInt64 (0 : Int64) (1 : Int64)) (by decide) rfl (Nat.le_of_ble_eq_true rfl) (fun q9 _ => ?_)
      refine r_if_ne (tgt := 36) dX10_set_31 (by decide) (fun h10 => ?_) (fun h10 => ?_)
      · refine r_iconst (v := (-1 : Int32)) dX10_set_34 rfl ?_
        exact r_ireturn (ty := .int) dX10_set_35 rfl (nar_i _) rfl
      · exact r_pick [0, 1, 2] rfl (t_X10_set_36 S T U V v1 v2)
    · refine r_iconst (v := (-1 : Int32)) dX10_set_34 rfl ?_
      exact r_ireturn (ty := .int) dX10_set_35 rfl (nar_i _) rfl
def f_X10_faded (v1 : Int32) (v2 : Int32) : Option (Int32) :=
  if (v1 + v2) ≤ (99 : Int32) then
    some (v1 + v2)
  else
    some (99 : Int32)
set_option maxHeartbeats 4000000 in
set_option maxRecDepth 100000 in
theorem m_X10_faded (S : SI) (T : SL) (U : SI) (V : SL) (v1 : Int32) (v2 : Int32) : Meth 1 yX10_faded cX10_faded 3 (some .int) [.ref 78, .int v1, .int v2] (S, T, U, V) (f_X10_faded v1 v2) (fun a : Int32 => (some (.int a), (S, T, U, V))) := by
  refine meth_of (L := [(0, .ref 78), (1, .int v1), (2, .int v2)]) (by decide +kernel) (Nat.le_of_ble_eq_true rfl) rfl ?_
  rw [f_X10_faded]
  refine r_iload_n dX10_faded_0 1 rfl rfl ?_
  refine r_iload_n dX10_faded_1 2 rfl rfl ?_
  refine r_iadd dX10_faded_2 ?_
  refine r_bipush (v := (99 : Int32)) dX10_faded_3 rfl ?_
  refine r_icmp_le (tgt := 13) dX10_faded_5 (by decide) (fun h1 => ?_) (fun h1 => ?_)
  · refine r_iload_n dX10_faded_13 1 rfl rfl ?_
    refine r_iload_n dX10_faded_14 2 rfl rfl ?_
    refine r_iadd dX10_faded_15 ?_
    exact r_ireturn (ty := .int) dX10_faded_16 rfl (nar_i _) rfl
  · refine r_bipush (v := (99 : Int32)) dX10_faded_8 rfl ?_
    refine r_goto (tgt := 16) dX10_faded_10 (by decide) ?_
    exact r_ireturn (ty := .int) dX10_faded_16 rfl (nar_i _) rfl
def f_X10_part2 (U : SI) (v1 : Int32) : Option (SI) :=
  (f_X10_of U v1 (5 : Int32)).bind fun q1 =>
  if q1 < 0 then
    some U
  else
    (f_X10_put U v1 (5 : Int32) (-4 : Int32)).bind fun q3 =>
    (f_X10_put q3 q1 (5 : Int32) (-4 : Int32)).bind fun q4 =>
    (f_X10_put q4 v1 (4 : Int32) (0 : Int32)).bind fun q5 =>
    (f_X10_put q5 q1 (4 : Int32) (0 : Int32)).bind fun q6 =>
    some q6
set_option maxHeartbeats 4000000 in
set_option maxRecDepth 100000 in
theorem m_X10_part2 (S : SI) (T : SL) (U : SI) (V : SL) (v1 : Int32) : Meth 2 yX10_part2 cX10_part2 3 none [.ref 78, .int v1] (S, T, U, V) (f_X10_part2 U v1) (fun a : SI => (none, (S, T, a, V))) := by
  refine meth_of (L := [(0, .ref 78), (1, .int v1)]) (by decide +kernel) (Nat.le_of_ble_eq_true rfl) rfl ?_
  rw [f_X10_part2]
  refine r_aload_n dX10_part2_0 0 rfl rfl ?_
  refine r_iload_n dX10_part2_1 1 rfl rfl ?_
  refine r_iconst (v := (5 : Int32)) dX10_part2_2 rfl ?_
  refine rV_i (as := [.int v1, .int (5 : Int32)]) (st := []) dX10_part2_3 cl_X10_67 (by decide) rfl rfl (m_X10_of S T U V v1 (5 : Int32)) (by decide) rfl (Nat.le_of_ble_eq_true rfl) (fun q1 _ => ?_)
  refine r_istore_n (L' := [(2, .int q1), (0, .ref 78), (1, .int v1)]) dX10_part2_6 rfl (by decide) rfl ?_
  refine r_iload_n dX10_part2_7 0 rfl rfl ?_
  refine r_if_lt (tgt := 41) dX10_part2_8 (by decide) (fun h2 => ?_) (fun h2 => ?_)
  · exact r_return dX10_part2_41 rfl rfl
  · refine r_aload_n dX10_part2_11 1 rfl rfl ?_
    refine r_iload_n dX10_part2_12 2 rfl rfl ?_
    refine r_iconst (v := (5 : Int32)) dX10_part2_13 rfl ?_
    refine r_bipush (v := (-4 : Int32)) dX10_part2_14 rfl ?_
    refine rVm_vS (as := [.int v1, .int (5 : Int32), .int (-4 : Int32)]) (st := []) dX10_part2_16 cl_X10_71 (by decide) rfl rfl (m_X10_put S T U V v1 (5 : Int32) (-4 : Int32)) (by decide) rfl (Nat.le_of_ble_eq_true rfl) (fun q3 _ => ?_)
    refine r_aload_n dX10_part2_19 1 rfl rfl ?_
    refine r_iload_n dX10_part2_20 0 rfl rfl ?_
    refine r_iconst (v := (5 : Int32)) dX10_part2_21 rfl ?_
    refine r_bipush (v := (-4 : Int32)) dX10_part2_22 rfl ?_
    refine rVm_vS (as := [.int q1, .int (5 : Int32), .int (-4 : Int32)]) (st := []) dX10_part2_24 cl_X10_71 (by decide) rfl rfl (m_X10_put S T q3 V q1 (5 : Int32) (-4 : Int32)) (by decide) rfl (Nat.le_of_ble_eq_true rfl) (fun q4 _ => ?_)
    refine r_aload_n dX10_part2_27 1 rfl rfl ?_
    refine r_iload_n dX10_part2_28 2 rfl rfl ?_
    refine r_iconst (v := (4 : Int32)) dX10_part2_29 rfl ?_
    refine r_iconst (v := (0 : Int32)) dX10_part2_30 rfl ?_
    refine rVm_vS (as := [.int v1, .int (4 : Int32), .int (0 : Int32)]) (st := []) dX10_part2_31 cl_X10_71 (by decide) rfl rfl (m_X10_put S T q4 V v1 (4 : Int32) (0 : Int32)) (by decide) rfl (Nat.le_of_ble_eq_true rfl) (fun q5 _ => ?_)
    refine r_aload_n dX10_part2_34 1 rfl rfl ?_
    refine r_iload_n dX10_part2_35 0 rfl rfl ?_
    refine r_iconst (v := (4 : Int32)) dX10_part2_36 rfl ?_
    refine r_iconst (v := (0 : Int32)) dX10_part2_37 rfl ?_
    refine rVm_vS (as := [.int q1, .int (4 : Int32), .int (0 : Int32)]) (st := []) dX10_part2_38 cl_X10_71 (by decide) rfl rfl (m_X10_put S T q5 V q1 (4 : Int32) (0 : Int32)) (by decide) rfl (Nat.le_of_ble_eq_true rfl) (fun q6 _ => ?_)
    exact r_return dX10_part2_41 rfl rfl
def f_X10_monday_88 (U : SI) (v3 : Int32) (v4 : Int32) (kh26 : Int32 → Option (Int32 × SI)) : Option (Int32 × SI) :=
  if v4 = 0 then
    kh26 (v3 + (1 : Int32))
  else
    some ((-2 : Int32), U)
set_option maxHeartbeats 4000000 in
set_option maxRecDepth 100000 in
theorem t_X10_monday_88 (S : SI) (T : SL) (U : SI) (V : SL) (v1 : Int32) (v2 : Int32) (v3 : Int32) (v4 : Int32) (kh26 : Int32 → Option (Int32 × SI)) (hkh26 : ∀ (w3 : Int32), Run 3 yX10_monday cX10_monday 5 (some .int) none (fun a : Int32 × SI => (some (.int a.1), (S, T, a.2, V))) 26 [(0, .ref 78), (1, .int v1), (2, .int v2), (3, .int w3)] [] (S, T, U, V) (kh26 w3)) : Run 3 yX10_monday cX10_monday 5 (some .int) none (fun a : Int32 × SI => (some (.int a.1), (S, T, a.2, V))) 88 [(0, .ref 78), (1, .int v1), (2, .int v2), (3, .int v3), (4, .int v4)] [] (S, T, U, V) (f_X10_monday_88 U v3 v4 kh26) := by
  rw [f_X10_monday_88]
  refine r_iload dX10_monday_88 4 rfl ?_
  refine r_if_eq (tgt := 96) dX10_monday_90 (by decide) (fun h11 => ?_) (fun h11 => ?_)
  · refine r_iinc (v := v3 + (1 : Int32)) (L' := [(3, .int (v3 + (1 : Int32))), (0, .ref 78), (1, .int v1), (2, .int v2), (4, .int v4)]) dX10_monday_96 3 rfl rfl (by decide) rfl ?_
    refine r_goto (tgt := 26) dX10_monday_99 (by decide) ?_
    exact r_pick [1, 2, 3, 0] rfl (hkh26 (v3 + (1 : Int32)))
  · refine r_bipush (v := (-2 : Int32)) dX10_monday_93 rfl ?_
    exact r_ireturn (ty := .int) dX10_monday_95 rfl (nar_i _) rfl
def f_X10_monday_68 (U : SI) (v1 : Int32) (v3 : Int32) (s0 : Int32) (kh26 : Int32 → Option (Int32 × SI)) : Option (Int32 × SI) :=
  (f_X10_has v1 v3).bind fun q9 =>
  if q9 = 0 then
    f_X10_monday_88 U v3 s0 kh26
  else
    (f_X10_of U v3 (4 : Int32)).bind fun q12 =>
    if q12 = (1 : Int32) then
      some ((-2 : Int32), U)
    else
      f_X10_monday_88 U v3 s0 kh26
set_option maxHeartbeats 4000000 in
set_option maxRecDepth 100000 in
theorem t_X10_monday_68 (S : SI) (T : SL) (U : SI) (V : SL) (v1 : Int32) (v2 : Int32) (v3 : Int32) (s0 : Int32) (kh26 : Int32 → Option (Int32 × SI)) (hkh26 : ∀ (w3 : Int32), Run 3 yX10_monday cX10_monday 5 (some .int) none (fun a : Int32 × SI => (some (.int a.1), (S, T, a.2, V))) 26 [(0, .ref 78), (1, .int v1), (2, .int v2), (3, .int w3)] [] (S, T, U, V) (kh26 w3)) : Run 3 yX10_monday cX10_monday 5 (some .int) none (fun a : Int32 × SI => (some (.int a.1), (S, T, a.2, V))) 68 [(0, .ref 78), (1, .int v1), (2, .int v2), (3, .int v3)] [.int s0] (S, T, U, V) (f_X10_monday_68 U v1 v3 s0 kh26) := by
  rw [f_X10_monday_68]
  refine r_istore (L' := [(4, .int s0), (0, .ref 78), (1, .int v1), (2, .int v2), (3, .int v3)]) dX10_monday_68 (by decide) rfl ?_
  refine r_iload_n dX10_monday_70 2 rfl rfl ?_
  refine r_iload_n dX10_monday_71 4 rfl rfl ?_
  refine rS_i (as := [.int v1, .int v3]) (st := []) dX10_monday_72 cl_X10_136 (m_X10_has S T U V v1 v3) (by decide) rfl (Nat.le_of_ble_eq_true rfl) (fun q9 _ => ?_)
  refine r_if_eq (tgt := 88) dX10_monday_75 (by decide) (fun h10 => ?_) (fun h10 => ?_)
  · exact r_pick [1, 2, 3, 4, 0] rfl (t_X10_monday_88 S T U V v1 v2 v3 s0 kh26 hkh26)
  · refine r_aload_n dX10_monday_78 1 rfl rfl ?_
    refine r_iload_n dX10_monday_79 4 rfl rfl ?_
    refine r_iconst (v := (4 : Int32)) dX10_monday_80 rfl ?_
    refine rV_i (as := [.int v3, .int (4 : Int32)]) (st := []) dX10_monday_81 cl_X10_67 (by decide) rfl rfl (m_X10_of S T U V v3 (4 : Int32)) (by decide) rfl (Nat.le_of_ble_eq_true rfl) (fun q12 _ => ?_)
    refine r_iconst (v := (1 : Int32)) dX10_monday_84 rfl ?_
    refine r_icmp_eq (tgt := 93) dX10_monday_85 (by decide) (fun h13 => ?_) (fun h13 => ?_)
    · refine r_bipush (v := (-2 : Int32)) dX10_monday_93 rfl ?_
      exact r_ireturn (ty := .int) dX10_monday_95 rfl (nar_i _) rfl
    · exact r_pick [1, 2, 3, 4, 0] rfl (t_X10_monday_88 S T U V v1 v2 v3 s0 kh26 hkh26)
def f_X10_monday_26 (U : SI) (v1 : Int32) (ke102 : Option (Int32 × SI)) : Nat → Int32 → Option (Int32 × SI)
  | 0, _ => none
  | m_ + 1, v3 =>
    gd (inB (0 : Int32) 205) <|
    if (U 79 (ix (0 : Int32))) ≤ v3 then
      ke102
    else
      (f_X10_of U v3 (5 : Int32)).bind fun q7 =>
      if q7 < 0 then
        f_X10_monday_68 U v1 v3 (0 : Int32) (f_X10_monday_26 U v1 ke102 m_)
      else
        (f_X10_has v1 v3).bind fun q14 =>
        (f_X10_of U v3 (5 : Int32)).bind fun q15 =>
        (f_X10_has v1 q15).bind fun q16 =>
        if q14 = q16 then
          f_X10_monday_68 U v1 v3 (0 : Int32) (f_X10_monday_26 U v1 ke102 m_)
        else
          f_X10_monday_68 U v1 v3 (1 : Int32) (f_X10_monday_26 U v1 ke102 m_)
set_option maxHeartbeats 4000000 in
set_option maxRecDepth 100000 in
theorem t_X10_monday_26 (S : SI) (T : SL) (U : SI) (V : SL) (v1 : Int32) (v2 : Int32) (ke102 : Option (Int32 × SI)) (hke102 : Run 3 yX10_monday cX10_monday 5 (some .int) none (fun a : Int32 × SI => (some (.int a.1), (S, T, a.2, V))) 102 [(0, .ref 78), (1, .int v1), (2, .int v2)] [] (S, T, U, V) (ke102)) : ∀ (m_ : Nat) (v3 : Int32), Run 3 yX10_monday cX10_monday 5 (some .int) none (fun a : Int32 × SI => (some (.int a.1), (S, T, a.2, V))) 26 [(0, .ref 78), (1, .int v1), (2, .int v2), (3, .int v3)] [] (S, T, U, V) (f_X10_monday_26 U v1 ke102 m_ v3) := by
  intro m_
  induction m_ with
  | zero =>
    intro v3
    rw [f_X10_monday_26]
    exact r_none
  | succ m_ ih =>
    intro v3
    rw [f_X10_monday_26]
    refine r_iload_n dX10_monday_26 3 rfl rfl ?_
    refine r_aload_n dX10_monday_27 0 rfl rfl ?_
    refine r_getr dX10_monday_28 fl_X10_7 (by decide) rfl rfl (by decide) ?_
    refine r_iconst (v := (0 : Int32)) dX10_monday_31 rfl ?_
    refine rm_iald dX10_monday_32 (by decide) (by decide) rfl (fun h5 => ?_)
    refine r_icmp_ge (tgt := 102) dX10_monday_33 (by decide) (fun h6 => ?_) (fun h6 => ?_)
    · exact r_pick [0, 1, 2] rfl (hke102)
    · refine r_aload_n dX10_monday_36 0 rfl rfl ?_
      refine r_iload_n dX10_monday_37 3 rfl rfl ?_
      refine r_iconst (v := (5 : Int32)) dX10_monday_38 rfl ?_
      refine rV_i (as := [.int v3, .int (5 : Int32)]) (st := []) dX10_monday_39 cl_X10_67 (by decide) rfl rfl (m_X10_of S T U V v3 (5 : Int32)) (by decide) rfl (Nat.le_of_ble_eq_true rfl) (fun q7 _ => ?_)
      refine r_if_lt (tgt := 67) dX10_monday_42 (by decide) (fun h8 => ?_) (fun h8 => ?_)
      · refine r_iconst (v := (0 : Int32)) dX10_monday_67 rfl ?_
        exact r_pick [0, 1, 2, 3] rfl (t_X10_monday_68 S T U V v1 v2 v3 (0 : Int32) (f_X10_monday_26 U v1 ke102 m_) ih)
      · refine r_iload_n dX10_monday_45 1 rfl rfl ?_
        refine r_iload_n dX10_monday_46 3 rfl rfl ?_
        refine rS_i (as := [.int v1, .int v3]) (st := []) dX10_monday_47 cl_X10_136 (m_X10_has S T U V v1 v3) (by decide) rfl (Nat.le_of_ble_eq_true rfl) (fun q14 _ => ?_)
        refine r_iload_n dX10_monday_50 1 rfl rfl ?_
        refine r_aload_n dX10_monday_51 0 rfl rfl ?_
        refine r_iload_n dX10_monday_52 3 rfl rfl ?_
        refine r_iconst (v := (5 : Int32)) dX10_monday_53 rfl ?_
        refine rV_i (as := [.int v3, .int (5 : Int32)]) (st := [.int v1, .int q14]) dX10_monday_54 cl_X10_67 (by decide) rfl rfl (m_X10_of S T U V v3 (5 : Int32)) (by decide) rfl (Nat.le_of_ble_eq_true rfl) (fun q15 _ => ?_)
        refine rS_i (as := [.int v1, .int q15]) (st := [.int q14]) dX10_monday_57 cl_X10_136 (m_X10_has S T U V v1 q15) (by decide) rfl (Nat.le_of_ble_eq_true rfl) (fun q16 _ => ?_)
        refine r_icmp_eq (tgt := 67) dX10_monday_60 (by decide) (fun h17 => ?_) (fun h17 => ?_)
        · refine r_iconst (v := (0 : Int32)) dX10_monday_67 rfl ?_
          exact r_pick [0, 1, 2, 3] rfl (t_X10_monday_68 S T U V v1 v2 v3 (0 : Int32) (f_X10_monday_26 U v1 ke102 m_) ih)
        · refine r_iconst (v := (1 : Int32)) dX10_monday_63 rfl ?_
          refine r_goto (tgt := 68) dX10_monday_64 (by decide) ?_
          exact r_pick [0, 1, 2, 3] rfl (t_X10_monday_68 S T U V v1 v2 v3 (1 : Int32) (f_X10_monday_26 U v1 ke102 m_) ih)
def f_X10_monday_186 (v1 : Int32) (v2 : Int32) (ke316 : Int32 → SI → Option (Int32 × SI)) : Nat → Int32 → Int32 → SI → Option (Int32 × SI)
  | 0, _, _, _ => none
  | m_ + 1, v3, v4, U =>
    gd (inB (0 : Int32) 205) <|
    if (U 79 (ix (0 : Int32))) ≤ v4 then
      ke316 v3 U
    else
      (f_X10_has v1 v4).bind fun q33 =>
      if q33 = 0 then
        (f_X10_monday_186 v1 v2 ke316 m_) v3 (v4 + (1 : Int32)) U
      else
        (f_X10_of U v4 (2 : Int32)).bind fun q35 =>
        (f_X10_of U v4 (0 : Int32)).bind fun q36 =>
        gd (inB ((4 : Int32) + q36) 205) <|
        (f_X10_faded q35 (U 79 (ix ((4 : Int32) + q36)))).bind fun q38 =>
        (f_X10_put U v4 (2 : Int32) q38).bind fun q39 =>
        (f_X10_of q39 v4 (3 : Int32)).bind fun q40 =>
        (f_X10_of q39 v4 (0 : Int32)).bind fun q41 =>
        gd (inB ((4 : Int32) + q41) 205) <|
        (f_X10_faded q40 (q39 79 (ix ((4 : Int32) + q41)))).bind fun q43 =>
        (f_X10_put q39 v4 (3 : Int32) q43).bind fun q44 =>
        (f_X10_of q44 v4 (6 : Int32)).bind fun q45 =>
        (f_X10_put q44 v4 (6 : Int32) (q45 + (1 : Int32))).bind fun q46 =>
        (f_X10_has v2 v4).bind fun q47 =>
        if q47 = 0 then
          (f_X10_part2 q46 v4).bind fun q49 =>
          nm (v3 ||| ((1 : Int32) <<< (v4 &&& 31))) fun x50 =>
          (f_X10_monday_186 v1 v2 ke316 m_) x50 (v4 + (1 : Int32)) q49
        else
          (f_X10_monday_186 v1 v2 ke316 m_) v3 (v4 + (1 : Int32)) q46
set_option maxHeartbeats 4000000 in
set_option maxRecDepth 100000 in
theorem t_X10_monday_186 (S : SI) (T : SL) (V : SL) (v1 : Int32) (v2 : Int32) (ke316 : Int32 → SI → Option (Int32 × SI)) (hke316 : ∀ (w3 : Int32) (U' : SI), Run 3 yX10_monday cX10_monday 5 (some .int) none (fun a : Int32 × SI => (some (.int a.1), (S, T, a.2, V))) 316 [(0, .ref 78), (3, .int w3)] [] (S, T, U', V) (ke316 w3 U')) : ∀ (m_ : Nat) (v3 : Int32) (v4 : Int32) (U : SI), Run 3 yX10_monday cX10_monday 5 (some .int) none (fun a : Int32 × SI => (some (.int a.1), (S, T, a.2, V))) 186 [(0, .ref 78), (1, .int v1), (2, .int v2), (3, .int v3), (4, .int v4)] [] (S, T, U, V) (f_X10_monday_186 v1 v2 ke316 m_ v3 v4 U) := by
  intro m_
  induction m_ with
  | zero =>
    intro v3 v4 U
    rw [f_X10_monday_186]
    exact r_none
  | succ m_ ih =>
    intro v3 v4 U
    rw [f_X10_monday_186]
    refine r_iload dX10_monday_186 4 rfl ?_
    refine r_aload_n dX10_monday_188 0 rfl rfl ?_
    refine r_getr dX10_monday_189 fl_X10_7 (by decide) rfl rfl (by decide) ?_
    refine r_iconst (v := (0 : Int32)) dX10_monday_192 rfl ?_
    refine rm_iald dX10_monday_193 (by decide) (by decide) rfl (fun h31 => ?_)
    refine r_icmp_ge (tgt := 316) dX10_monday_194 (by decide) (fun h32 => ?_) (fun h32 => ?_)
    · exact r_pick [0, 3] rfl (hke316 v3 U)
    · refine r_iload_n dX10_monday_197 1 rfl rfl ?_
      refine r_iload dX10_monday_198 4 rfl ?_
      refine rS_i (as := [.int v1, .int v4]) (st := []) dX10_monday_200 cl_X10_136 (m_X10_has S T U V v1 v4) (by decide) rfl (Nat.le_of_ble_eq_true rfl) (fun q33 _ => ?_)
      refine r_if_eq (tgt := 310) dX10_monday_203 (by decide) (fun h34 => ?_) (fun h34 => ?_)
      · refine r_iinc (v := v4 + (1 : Int32)) (L' := [(4, .int (v4 + (1 : Int32))), (0, .ref 78), (1, .int v1), (2, .int v2), (3, .int v3)]) dX10_monday_310 4 rfl rfl (by decide) rfl ?_
        refine r_goto (tgt := 186) dX10_monday_313 (by decide) ?_
        exact r_pick [1, 2, 3, 4, 0] rfl (ih v3 (v4 + (1 : Int32)) U)
      · refine r_aload_n dX10_monday_206 0 rfl rfl ?_
        refine r_iload dX10_monday_207 4 rfl ?_
        refine r_iconst (v := (2 : Int32)) dX10_monday_209 rfl ?_
        refine r_aload_n dX10_monday_210 0 rfl rfl ?_
        refine r_aload_n dX10_monday_211 0 rfl rfl ?_
        refine r_iload dX10_monday_212 4 rfl ?_
        refine r_iconst (v := (2 : Int32)) dX10_monday_214 rfl ?_
        refine rV_i (as := [.int v4, .int (2 : Int32)]) (st := [.ref 78, .int (2 : Int32), .int v4, .ref 78]) dX10_monday_215 cl_X10_67 (by decide) rfl rfl (m_X10_of S T U V v4 (2 : Int32)) (by decide) rfl (Nat.le_of_ble_eq_true rfl) (fun q35 _ => ?_)
        refine r_aload_n dX10_monday_218 0 rfl rfl ?_
        refine r_getr dX10_monday_219 fl_X10_7 (by decide) rfl rfl (by decide) ?_
        refine r_iconst (v := (4 : Int32)) dX10_monday_222 rfl ?_
        refine r_aload_n dX10_monday_223 0 rfl rfl ?_
        refine r_iload dX10_monday_224 4 rfl ?_
        refine r_iconst (v := (0 : Int32)) dX10_monday_226 rfl ?_
        refine rV_i (as := [.int v4, .int (0 : Int32)]) (st := [.int (4 : Int32), .ref 79, .int q35, .ref 78, .int (2 : Int32), .int v4, .ref 78]) dX10_monday_227 cl_X10_67 (by decide) rfl rfl (m_X10_of S T U V v4 (0 : Int32)) (by decide) rfl (Nat.le_of_ble_eq_true rfl) (fun q36 _ => ?_)
        refine r_iadd dX10_monday_230 ?_
        refine rm_iald dX10_monday_231 (by decide) (by decide) rfl (fun h37 => ?_)
        refine rV_i (as := [.int q35, .int (U 79 (ix ((4 : Int32) + q36)))]) (st := [.int (2 : Int32), .int v4, .ref 78]) dX10_monday_232 cl_X10_144 (by decide) rfl rfl (m_X10_faded S T U V q35 (U 79 (ix ((4 : Int32) + q36)))) (by decide) rfl (Nat.le_of_ble_eq_true rfl) (fun q38 _ => ?_)
        refine rVm_vS (as := [.int v4, .int (2 : Int32), .int q38]) (st := []) dX10_monday_235 cl_X10_71 (by decide) rfl rfl (m_X10_put S T U V v4 (2 : Int32) q38) (by decide) rfl (Nat.le_of_ble_eq_true rfl) (fun q39 _ => ?_)
        refine r_aload_n dX10_monday_238 0 rfl rfl ?_
        refine r_iload dX10_monday_239 4 rfl ?_
        refine r_iconst (v := (3 : Int32)) dX10_monday_241 rfl ?_
        refine r_aload_n dX10_monday_242 0 rfl rfl ?_
        refine r_aload_n dX10_monday_243 0 rfl rfl ?_
        refine r_iload dX10_monday_244 4 rfl ?_
        refine r_iconst (v := (3 : Int32)) dX10_monday_246 rfl ?_
        refine rV_i (as := [.int v4, .int (3 : Int32)]) (st := [.ref 78, .int (3 : Int32), .int v4, .ref 78]) dX10_monday_247 cl_X10_67 (by decide) rfl rfl (m_X10_of S T q39 V v4 (3 : Int32)) (by decide) rfl (Nat.le_of_ble_eq_true rfl) (fun q40 _ => ?_)
        refine r_aload_n dX10_monday_250 0 rfl rfl ?_
        refine r_getr dX10_monday_251 fl_X10_7 (by decide) rfl rfl (by decide) ?_
        refine r_iconst (v := (4 : Int32)) dX10_monday_254 rfl ?_
        refine r_aload_n dX10_monday_255 0 rfl rfl ?_
        refine r_iload dX10_monday_256 4 rfl ?_
        refine r_iconst (v := (0 : Int32)) dX10_monday_258 rfl ?_
        refine rV_i (as := [.int v4, .int (0 : Int32)]) (st := [.int (4 : Int32), .ref 79, .int q40, .ref 78, .int (3 : Int32), .int v4, .ref 78]) dX10_monday_259 cl_X10_67 (by decide) rfl rfl (m_X10_of S T q39 V v4 (0 : Int32)) (by decide) rfl (Nat.le_of_ble_eq_true rfl) (fun q41 _ => ?_)
        refine r_iadd dX10_monday_262 ?_
        refine rm_iald dX10_monday_263 (by decide) (by decide) rfl (fun h42 => ?_)
        refine rV_i (as := [.int q40, .int (q39 79 (ix ((4 : Int32) + q41)))]) (st := [.int (3 : Int32), .int v4, .ref 78]) dX10_monday_264 cl_X10_144 (by decide) rfl rfl (m_X10_faded S T q39 V q40 (q39 79 (ix ((4 : Int32) + q41)))) (by decide) rfl (Nat.le_of_ble_eq_true rfl) (fun q43 _ => ?_)
        refine rVm_vS (as := [.int v4, .int (3 : Int32), .int q43]) (st := []) dX10_monday_267 cl_X10_71 (by decide) rfl rfl (m_X10_put S T q39 V v4 (3 : Int32) q43) (by decide) rfl (Nat.le_of_ble_eq_true rfl) (fun q44 _ => ?_)
        refine r_aload_n dX10_monday_270 0 rfl rfl ?_
        refine r_iload dX10_monday_271 4 rfl ?_
        refine r_bipush (v := (6 : Int32)) dX10_monday_273 rfl ?_
        refine r_aload_n dX10_monday_275 0 rfl rfl ?_
        refine r_iload dX10_monday_276 4 rfl ?_
        refine r_bipush (v := (6 : Int32)) dX10_monday_278 rfl ?_
        refine rV_i (as := [.int v4, .int (6 : Int32)]) (st := [.int (6 : Int32), .int v4, .ref 78]) dX10_monday_280 cl_X10_67 (by decide) rfl rfl (m_X10_of S T q44 V v4 (6 : Int32)) (by decide) rfl (Nat.le_of_ble_eq_true rfl) (fun q45 _ => ?_)
        refine r_iconst (v := (1 : Int32)) dX10_monday_283 rfl ?_
        refine r_iadd dX10_monday_284 ?_
        refine rVm_vS (as := [.int v4, .int (6 : Int32), .int (q45 + (1 : Int32))]) (st := []) dX10_monday_285 cl_X10_71 (by decide) rfl rfl (m_X10_put S T q44 V v4 (6 : Int32) (q45 + (1 : Int32))) (by decide) rfl (Nat.le_of_ble_eq_true rfl) (fun q46 _ => ?_)
        refine r_iload_n dX10_monday_288 2 rfl rfl ?_
        refine r_iload dX10_monday_289 4 rfl ?_
        refine rS_i (as := [.int v2, .int v4]) (st := []) dX10_monday_291 cl_X10_136 (m_X10_has S T q46 V v2 v4) (by decide) rfl (Nat.le_of_ble_eq_true rfl) (fun q47 _ => ?_)
        refine r_if_ne (tgt := 310) dX10_monday_294 (by decide) (fun h48 => ?_) (fun h48 => ?_)
        · refine r_aload_n dX10_monday_297 0 rfl rfl ?_
          refine r_iload dX10_monday_298 4 rfl ?_
          refine rVm_vS (as := [.int v4]) (st := []) dX10_monday_300 cl_X10_147 (by decide) rfl rfl (m_X10_part2 S T q46 V v4) (by decide) rfl (Nat.le_of_ble_eq_true rfl) (fun q49 _ => ?_)
          refine r_iload_n dX10_monday_303 3 rfl rfl ?_
          refine r_iconst (v := (1 : Int32)) dX10_monday_304 rfl ?_
          refine r_iload dX10_monday_305 4 rfl ?_
          refine r_ishl dX10_monday_307 ?_
          refine r_ior dX10_monday_308 ?_
          refine r_nmi (fun x50 => ?_)
          refine r_istore_n (L' := [(3, .int x50), (0, .ref 78), (1, .int v1), (2, .int v2), (4, .int v4)]) dX10_monday_309 rfl (by decide) rfl ?_
          refine r_iinc (v := v4 + (1 : Int32)) (L' := [(4, .int (v4 + (1 : Int32))), (3, .int x50), (0, .ref 78), (1, .int v1), (2, .int v2)]) dX10_monday_310 4 rfl rfl (by decide) rfl ?_
          refine r_goto (tgt := 186) dX10_monday_313 (by decide) ?_
          exact r_pick [2, 3, 4, 1, 0] rfl (ih x50 (v4 + (1 : Int32)) q49)
        · refine r_iinc (v := v4 + (1 : Int32)) (L' := [(4, .int (v4 + (1 : Int32))), (0, .ref 78), (1, .int v1), (2, .int v2), (3, .int v3)]) dX10_monday_310 4 rfl rfl (by decide) rfl ?_
          refine r_goto (tgt := 186) dX10_monday_313 (by decide) ?_
          exact r_pick [1, 2, 3, 4, 0] rfl (ih v3 (v4 + (1 : Int32)) q46)
def f_X10_monday_319 (v3 : Int32) (ke367 : SI → Option (Int32 × SI)) : Nat → Int32 → SI → Option (Int32 × SI)
  | 0, _, _ => none
  | m_ + 1, v4, U =>
    gd (inB (0 : Int32) 205) <|
    if (U 79 (ix (0 : Int32))) ≤ v4 then
      ke367 U
    else
      (f_X10_has v3 v4).bind fun q53 =>
      if q53 = 0 then
        (f_X10_monday_319 v3 ke367 m_) (v4 + (1 : Int32)) U
      else
        (f_X10_put U v4 (4 : Int32) (1 : Int32)).bind fun q55 =>
        gd (inB (1 : Int32) 205) <|
        (f_X10_put q55 v4 (7 : Int32) (q55 79 (ix (1 : Int32)))).bind fun q57 =>
        (f_X10_monday_319 v3 ke367 m_) (v4 + (1 : Int32)) q57
set_option maxHeartbeats 4000000 in
set_option maxRecDepth 100000 in
theorem t_X10_monday_319 (S : SI) (T : SL) (V : SL) (v3 : Int32) (ke367 : SI → Option (Int32 × SI)) (hke367 : ∀ (U' : SI), Run 3 yX10_monday cX10_monday 5 (some .int) none (fun a : Int32 × SI => (some (.int a.1), (S, T, a.2, V))) 367 [(0, .ref 78), (3, .int v3)] [] (S, T, U', V) (ke367 U')) : ∀ (m_ : Nat) (v4 : Int32) (U : SI), Run 3 yX10_monday cX10_monday 5 (some .int) none (fun a : Int32 × SI => (some (.int a.1), (S, T, a.2, V))) 319 [(0, .ref 78), (3, .int v3), (4, .int v4)] [] (S, T, U, V) (f_X10_monday_319 v3 ke367 m_ v4 U) := by
  intro m_
  induction m_ with
  | zero =>
    intro v4 U
    rw [f_X10_monday_319]
    exact r_none
  | succ m_ ih =>
    intro v4 U
    rw [f_X10_monday_319]
    refine r_iload dX10_monday_319 2 rfl ?_
    refine r_aload_n dX10_monday_321 0 rfl rfl ?_
    refine r_getr dX10_monday_322 fl_X10_7 (by decide) rfl rfl (by decide) ?_
    refine r_iconst (v := (0 : Int32)) dX10_monday_325 rfl ?_
    refine rm_iald dX10_monday_326 (by decide) (by decide) rfl (fun h51 => ?_)
    refine r_icmp_ge (tgt := 367) dX10_monday_327 (by decide) (fun h52 => ?_) (fun h52 => ?_)
    · exact r_pick [0, 1] rfl (hke367 U)
    · refine r_iload_n dX10_monday_330 1 rfl rfl ?_
      refine r_iload dX10_monday_331 2 rfl ?_
      refine rS_i (as := [.int v3, .int v4]) (st := []) dX10_monday_333 cl_X10_136 (m_X10_has S T U V v3 v4) (by decide) rfl (Nat.le_of_ble_eq_true rfl) (fun q53 _ => ?_)
      refine r_if_eq (tgt := 361) dX10_monday_336 (by decide) (fun h54 => ?_) (fun h54 => ?_)
      · refine r_iinc (v := v4 + (1 : Int32)) (L' := [(4, .int (v4 + (1 : Int32))), (0, .ref 78), (3, .int v3)]) dX10_monday_361 2 rfl rfl (by decide) rfl ?_
        refine r_goto (tgt := 319) dX10_monday_364 (by decide) ?_
        exact r_pick [1, 2, 0] rfl (ih (v4 + (1 : Int32)) U)
      · refine r_aload_n dX10_monday_339 0 rfl rfl ?_
        refine r_iload dX10_monday_340 2 rfl ?_
        refine r_iconst (v := (4 : Int32)) dX10_monday_342 rfl ?_
        refine r_iconst (v := (1 : Int32)) dX10_monday_343 rfl ?_
        refine rVm_vS (as := [.int v4, .int (4 : Int32), .int (1 : Int32)]) (st := []) dX10_monday_344 cl_X10_71 (by decide) rfl rfl (m_X10_put S T U V v4 (4 : Int32) (1 : Int32)) (by decide) rfl (Nat.le_of_ble_eq_true rfl) (fun q55 _ => ?_)
        refine r_aload_n dX10_monday_347 0 rfl rfl ?_
        refine r_iload dX10_monday_348 2 rfl ?_
        refine r_bipush (v := (7 : Int32)) dX10_monday_350 rfl ?_
        refine r_aload_n dX10_monday_352 0 rfl rfl ?_
        refine r_getr dX10_monday_353 fl_X10_7 (by decide) rfl rfl (by decide) ?_
        refine r_iconst (v := (1 : Int32)) dX10_monday_356 rfl ?_
        refine rm_iald dX10_monday_357 (by decide) (by decide) rfl (fun h56 => ?_)
        refine rVm_vS (as := [.int v4, .int (7 : Int32), .int (q55 79 (ix (1 : Int32)))]) (st := []) dX10_monday_358 cl_X10_71 (by decide) rfl rfl (m_X10_put S T q55 V v4 (7 : Int32) (q55 79 (ix (1 : Int32)))) (by decide) rfl (Nat.le_of_ble_eq_true rfl) (fun q57 _ => ?_)
        refine r_iinc (v := v4 + (1 : Int32)) (L' := [(4, .int (v4 + (1 : Int32))), (0, .ref 78), (3, .int v3)]) dX10_monday_361 2 rfl rfl (by decide) rfl ?_
        refine r_goto (tgt := 319) dX10_monday_364 (by decide) ?_
        exact r_pick [1, 2, 0] rfl (ih (v4 + (1 : Int32)) q57)
def f_X10_monday_367 (U : SI) (v3 : Int32) : Option (Int32 × SI) :=
  gd (inB (1 : Int32) 205) <|
  gd (inB (1 : Int32) 205) <|
  nm (up2 U 79 (ix (1 : Int32)) ((U 79 (ix (1 : Int32))) + (1 : Int32))) fun U60 =>
  (f_X10_ones v3).bind fun q61 =>
  some (q61, U60)
set_option maxHeartbeats 4000000 in
set_option maxRecDepth 100000 in
theorem t_X10_monday_367 (S : SI) (T : SL) (U : SI) (V : SL) (v3 : Int32) : Run 3 yX10_monday cX10_monday 5 (some .int) none (fun a : Int32 × SI => (some (.int a.1), (S, T, a.2, V))) 367 [(0, .ref 78), (3, .int v3)] [] (S, T, U, V) (f_X10_monday_367 U v3) := by
  rw [f_X10_monday_367]
  refine r_aload_n dX10_monday_367 0 rfl rfl ?_
  refine r_getr dX10_monday_368 fl_X10_7 (by decide) rfl rfl (by decide) ?_
  refine r_iconst (v := (1 : Int32)) dX10_monday_371 rfl ?_
  refine r_dup2 dX10_monday_372 rfl rfl ?_
  refine rm_iald dX10_monday_373 (by decide) (by decide) rfl (fun h58 => ?_)
  refine r_iconst (v := (1 : Int32)) dX10_monday_374 rfl ?_
  refine r_iadd dX10_monday_375 ?_
  refine rm_iast dX10_monday_376 (by decide) (by decide) rfl (fun h59 => ?_)
  refine r_nmU (fun U60 => ?_)
  refine r_iload_n dX10_monday_377 1 rfl rfl ?_
  refine rS_i (as := [.int v3]) (st := []) dX10_monday_378 cl_X10_151 (m_X10_ones S T U60 V v3) (by decide) rfl (Nat.le_of_ble_eq_true rfl) (fun q61 _ => ?_)
  exact r_ireturn (ty := .int) dX10_monday_381 rfl (nar_i _) rfl
def f_X10_monday_316 (U : SI) (v3 : Int32) : Option (Int32 × SI) :=
  f_X10_monday_319 v3 (fun Uo => f_X10_monday_367 Uo v3) fu (0 : Int32) U
set_option maxHeartbeats 4000000 in
set_option maxRecDepth 100000 in
theorem t_X10_monday_316 (S : SI) (T : SL) (U : SI) (V : SL) (v3 : Int32) : Run 3 yX10_monday cX10_monday 5 (some .int) none (fun a : Int32 × SI => (some (.int a.1), (S, T, a.2, V))) 316 [(0, .ref 78), (3, .int v3)] [] (S, T, U, V) (f_X10_monday_316 U v3) := by
  rw [f_X10_monday_316]
  refine r_iconst (v := (0 : Int32)) dX10_monday_316 rfl ?_
  refine r_istore (L' := [(4, .int (0 : Int32)), (0, .ref 78), (3, .int v3)]) dX10_monday_317 (by decide) rfl ?_
  exact r_pick [1, 2, 0] rfl (t_X10_monday_319 S T V v3 (fun Uo => f_X10_monday_367 Uo v3) (fun Uo => r_pick [0, 1] rfl (t_X10_monday_367 S T Uo V v3)) fu (0 : Int32) U)
def f_X10_monday_102 (U : SI) (v1 : Int32) (v2 : Int32) : Option (Int32 × SI) :=
  gd (inB (1 : Int32) 205) <|
  if (U 79 (ix (1 : Int32))) = (12 : Int32) then
    some ((-3 : Int32), U)
  else
    gd (inB (1 : Int32) 205) <|
    gd (inB ((133 : Int32) + ((3 : Int32) * (U 79 (ix (1 : Int32))))) 205) <|
    nm (up2 U 79 (ix ((133 : Int32) + ((3 : Int32) * (U 79 (ix (1 : Int32)))))) v1) fun U22 =>
    gd (inB (1 : Int32) 205) <|
    (f_X10_inPlace U22 (1 : Int32)).bind fun q24 =>
    gd (inB (((133 : Int32) + ((3 : Int32) * (U22 79 (ix (1 : Int32))))) + (1 : Int32)) 205) <|
    nm (up2 U22 79 (ix (((133 : Int32) + ((3 : Int32) * (U22 79 (ix (1 : Int32))))) + (1 : Int32))) q24) fun U26 =>
    gd (inB (1 : Int32) 205) <|
    (f_X10_allSocks U26).bind fun q28 =>
    gd (inB (((133 : Int32) + ((3 : Int32) * (U26 79 (ix (1 : Int32))))) + (2 : Int32)) 205) <|
    nm (up2 U26 79 (ix (((133 : Int32) + ((3 : Int32) * (U26 79 (ix (1 : Int32))))) + (2 : Int32))) q28) fun U30 =>
    f_X10_monday_186 v1 v2 (fun o3 Uo => f_X10_monday_316 Uo o3) fu (0 : Int32) (0 : Int32) U30
set_option maxHeartbeats 4000000 in
set_option maxRecDepth 100000 in
theorem t_X10_monday_102 (S : SI) (T : SL) (U : SI) (V : SL) (v1 : Int32) (v2 : Int32) : Run 3 yX10_monday cX10_monday 5 (some .int) none (fun a : Int32 × SI => (some (.int a.1), (S, T, a.2, V))) 102 [(0, .ref 78), (1, .int v1), (2, .int v2)] [] (S, T, U, V) (f_X10_monday_102 U v1 v2) := by
  rw [f_X10_monday_102]
  refine r_aload_n dX10_monday_102 0 rfl rfl ?_
  refine r_getr dX10_monday_103 fl_X10_7 (by decide) rfl rfl (by decide) ?_
  refine r_iconst (v := (1 : Int32)) dX10_monday_106 rfl ?_
  refine rm_iald dX10_monday_107 (by decide) (by decide) rfl (fun h18 => ?_)
  refine r_bipush (v := (12 : Int32)) dX10_monday_108 rfl ?_
  refine r_icmp_ne (tgt := 116) dX10_monday_110 (by decide) (fun h19 => ?_) (fun h19 => ?_)
  · refine r_bipush (v := (-3 : Int32)) dX10_monday_113 rfl ?_
    exact r_ireturn (ty := .int) dX10_monday_115 rfl (nar_i _) rfl
  · refine r_aload_n dX10_monday_116 0 rfl rfl ?_
    refine r_getr dX10_monday_117 fl_X10_7 (by decide) rfl rfl (by decide) ?_
    refine r_sipush (v := (133 : Int32)) dX10_monday_120 rfl ?_
    refine r_iconst (v := (3 : Int32)) dX10_monday_123 rfl ?_
    refine r_aload_n dX10_monday_124 0 rfl rfl ?_
    refine r_getr dX10_monday_125 fl_X10_7 (by decide) rfl rfl (by decide) ?_
    refine r_iconst (v := (1 : Int32)) dX10_monday_128 rfl ?_
    refine rm_iald dX10_monday_129 (by decide) (by decide) rfl (fun h20 => ?_)
    refine r_imul dX10_monday_130 ?_
    refine r_iadd dX10_monday_131 ?_
    refine r_iload_n dX10_monday_132 1 rfl rfl ?_
    refine rm_iast dX10_monday_133 (by decide) (by decide) rfl (fun h21 => ?_)
    refine r_nmU (fun U22 => ?_)
    refine r_aload_n dX10_monday_134 0 rfl rfl ?_
    refine r_getr dX10_monday_135 fl_X10_7 (by decide) rfl rfl (by decide) ?_
    refine r_sipush (v := (133 : Int32)) dX10_monday_138 rfl ?_
    refine r_iconst (v := (3 : Int32)) dX10_monday_141 rfl ?_
    refine r_aload_n dX10_monday_142 0 rfl rfl ?_
    refine r_getr dX10_monday_143 fl_X10_7 (by decide) rfl rfl (by decide) ?_
    refine r_iconst (v := (1 : Int32)) dX10_monday_146 rfl ?_
    refine rm_iald dX10_monday_147 (by decide) (by decide) rfl (fun h23 => ?_)
    refine r_imul dX10_monday_148 ?_
    refine r_iadd dX10_monday_149 ?_
    refine r_iconst (v := (1 : Int32)) dX10_monday_150 rfl ?_
    refine r_iadd dX10_monday_151 ?_
    refine r_aload_n dX10_monday_152 0 rfl rfl ?_
    refine r_iconst (v := (1 : Int32)) dX10_monday_153 rfl ?_
    refine rV_i (as := [.int (1 : Int32)]) (st := [.int (((133 : Int32) + ((3 : Int32) * (U22 79 (ix (1 : Int32))))) + (1 : Int32)), .ref 79]) dX10_monday_154 cl_X10_140 (by decide) rfl rfl (m_X10_inPlace S T U22 V (1 : Int32)) (by decide) rfl (Nat.le_of_ble_eq_true rfl) (fun q24 _ => ?_)
    refine rm_iast dX10_monday_157 (by decide) (by decide) rfl (fun h25 => ?_)
    refine r_nmU (fun U26 => ?_)
    refine r_aload_n dX10_monday_158 0 rfl rfl ?_
    refine r_getr dX10_monday_159 fl_X10_7 (by decide) rfl rfl (by decide) ?_
    refine r_sipush (v := (133 : Int32)) dX10_monday_162 rfl ?_
    refine r_iconst (v := (3 : Int32)) dX10_monday_165 rfl ?_
    refine r_aload_n dX10_monday_166 0 rfl rfl ?_
    refine r_getr dX10_monday_167 fl_X10_7 (by decide) rfl rfl (by decide) ?_
    refine r_iconst (v := (1 : Int32)) dX10_monday_170 rfl ?_
    refine rm_iald dX10_monday_171 (by decide) (by decide) rfl (fun h27 => ?_)
    refine r_imul dX10_monday_172 ?_
    refine r_iadd dX10_monday_173 ?_
    refine r_iconst (v := (2 : Int32)) dX10_monday_174 rfl ?_
    refine r_iadd dX10_monday_175 ?_
    refine r_aload_n dX10_monday_176 0 rfl rfl ?_
    refine rV_i (as := []) (st := [.int (((133 : Int32) + ((3 : Int32) * (U26 79 (ix (1 : Int32))))) + (2 : Int32)), .ref 79]) dX10_monday_177 cl_X10_133 (by decide) rfl rfl (m_X10_allSocks S T U26 V) (by decide) rfl (Nat.le_of_ble_eq_true rfl) (fun q28 _ => ?_)
    refine rm_iast dX10_monday_180 (by decide) (by decide) rfl (fun h29 => ?_)
    refine r_nmU (fun U30 => ?_)
    refine r_iconst (v := (0 : Int32)) dX10_monday_181 rfl ?_
    refine r_istore_n (L' := [(3, .int (0 : Int32)), (0, .ref 78), (1, .int v1), (2, .int v2)]) dX10_monday_182 rfl (by decide) rfl ?_
    refine r_iconst (v := (0 : Int32)) dX10_monday_183 rfl ?_
    refine r_istore (L' := [(4, .int (0 : Int32)), (3, .int (0 : Int32)), (0, .ref 78), (1, .int v1), (2, .int v2)]) dX10_monday_184 (by decide) rfl ?_
    exact r_pick [2, 3, 4, 1, 0] rfl (t_X10_monday_186 S T V v1 v2 (fun o3 Uo => f_X10_monday_316 Uo o3) (fun o3 Uo => r_pick [0, 1] rfl (t_X10_monday_316 S T Uo V o3)) fu (0 : Int32) (0 : Int32) U30)
def f_X10_monday (U : SI) (v1 : Int32) (v2 : Int32) : Option (Int32 × SI) :=
  (f_X10_allSocks U).bind fun q1 =>
  (f_X10_in v1.toInt64 (0 : Int64) q1.toInt64).bind fun q2 =>
  if q2 = 0 then
    some ((-1 : Int32), U)
  else
    if (v2 &&& (v1 ^^^ (-1 : Int32))) = 0 then
      f_X10_monday_26 U v1 (f_X10_monday_102 U v1 v2) fu (0 : Int32)
    else
      some ((-1 : Int32), U)
set_option maxHeartbeats 4000000 in
set_option maxRecDepth 100000 in
theorem m_X10_monday (S : SI) (T : SL) (U : SI) (V : SL) (v1 : Int32) (v2 : Int32) : Meth 3 yX10_monday cX10_monday 5 (some .int) [.ref 78, .int v1, .int v2] (S, T, U, V) (f_X10_monday U v1 v2) (fun a : Int32 × SI => (some (.int a.1), (S, T, a.2, V))) := by
  refine meth_of (L := [(0, .ref 78), (1, .int v1), (2, .int v2)]) (by decide +kernel) (Nat.le_of_ble_eq_true rfl) rfl ?_
  rw [f_X10_monday]
  refine r_iload_n dX10_monday_0 1 rfl rfl ?_
  refine r_i2l dX10_monday_1 ?_
  refine r_lconst (v := (0 : Int64)) dX10_monday_2 rfl ?_
  refine r_aload_n dX10_monday_3 0 rfl rfl ?_
  refine rV_i (as := []) (st := [.long (0 : Int64), .long v1.toInt64]) dX10_monday_4 cl_X10_133 (by decide) rfl rfl (m_X10_allSocks S T U V) (by decide) rfl (Nat.le_of_ble_eq_true rfl) (fun q1 _ => ?_)
  refine r_i2l dX10_monday_7 ?_
  refine rS_i (as := [.long v1.toInt64, .long (0 : Int64), .long q1.toInt64]) (st := []) dX10_monday_8 cl_X10_59 (m_X10_in S T U V v1.toInt64 (0 : Int64) q1.toInt64) (by decide) rfl (Nat.le_of_ble_eq_true rfl) (fun q2 _ => ?_)
  refine r_if_eq (tgt := 22) dX10_monday_11 (by decide) (fun h3 => ?_) (fun h3 => ?_)
  · refine r_iconst (v := (-1 : Int32)) dX10_monday_22 rfl ?_
    exact r_ireturn (ty := .int) dX10_monday_23 rfl (nar_i _) rfl
  · refine r_iload_n dX10_monday_14 2 rfl rfl ?_
    refine r_iload_n dX10_monday_15 1 rfl rfl ?_
    refine r_iconst (v := (-1 : Int32)) dX10_monday_16 rfl ?_
    refine r_ixor dX10_monday_17 ?_
    refine r_iand dX10_monday_18 ?_
    refine r_if_eq (tgt := 24) dX10_monday_19 (by decide) (fun h4 => ?_) (fun h4 => ?_)
    · refine r_iconst (v := (0 : Int32)) dX10_monday_24 rfl ?_
      refine r_istore_n (L' := [(3, .int (0 : Int32)), (0, .ref 78), (1, .int v1), (2, .int v2)]) dX10_monday_25 rfl (by decide) rfl ?_
      exact r_pick [1, 2, 3, 0] rfl (t_X10_monday_26 S T U V v1 v2 (f_X10_monday_102 U v1 v2) (r_pick [0, 1, 2] rfl (t_X10_monday_102 S T U V v1 v2)) fu (0 : Int32))
    · refine r_iconst (v := (-1 : Int32)) dX10_monday_22 rfl ?_
      exact r_ireturn (ty := .int) dX10_monday_23 rfl (nar_i _) rfl
def f_X10_found (U : SI) (v1 : Int32) : Option (Int32 × SI) :=
  (f_X10_isSock U v1).bind fun q1 =>
  if q1 = 0 then
    some ((-1 : Int32), U)
  else
    (f_X10_of U v1 (4 : Int32)).bind fun q3 =>
    if q3 = (1 : Int32) then
      (f_X10_of U v1 (7 : Int32)).bind fun q5 =>
      (f_X10_put U v1 (4 : Int32) (0 : Int32)).bind fun q6 =>
      (f_X10_put q6 v1 (7 : Int32) (-4 : Int32)).bind fun q7 =>
      some (q5, q7)
    else
      some ((-2 : Int32), U)
set_option maxHeartbeats 4000000 in
set_option maxRecDepth 100000 in
theorem m_X10_found (S : SI) (T : SL) (U : SI) (V : SL) (v1 : Int32) : Meth 3 yX10_found cX10_found 3 (some .int) [.ref 78, .int v1] (S, T, U, V) (f_X10_found U v1) (fun a : Int32 × SI => (some (.int a.1), (S, T, a.2, V))) := by
  refine meth_of (L := [(0, .ref 78), (1, .int v1)]) (by decide +kernel) (Nat.le_of_ble_eq_true rfl) rfl ?_
  rw [f_X10_found]
  refine r_aload_n dX10_found_0 0 rfl rfl ?_
  refine r_iload_n dX10_found_1 1 rfl rfl ?_
  refine rV_i (as := [.int v1]) (st := []) dX10_found_2 cl_X10_63 (by decide) rfl rfl (m_X10_isSock S T U V v1) (by decide) rfl (Nat.le_of_ble_eq_true rfl) (fun q1 _ => ?_)
  refine r_if_ne (tgt := 10) dX10_found_5 (by decide) (fun h2 => ?_) (fun h2 => ?_)
  · refine r_iconst (v := (-1 : Int32)) dX10_found_8 rfl ?_
    exact r_ireturn (ty := .int) dX10_found_9 rfl (nar_i _) rfl
  · refine r_aload_n dX10_found_10 0 rfl rfl ?_
    refine r_iload_n dX10_found_11 1 rfl rfl ?_
    refine r_iconst (v := (4 : Int32)) dX10_found_12 rfl ?_
    refine rV_i (as := [.int v1, .int (4 : Int32)]) (st := []) dX10_found_13 cl_X10_67 (by decide) rfl rfl (m_X10_of S T U V v1 (4 : Int32)) (by decide) rfl (Nat.le_of_ble_eq_true rfl) (fun q3 _ => ?_)
    refine r_iconst (v := (1 : Int32)) dX10_found_16 rfl ?_
    refine r_icmp_eq (tgt := 23) dX10_found_17 (by decide) (fun h4 => ?_) (fun h4 => ?_)
    · refine r_aload_n dX10_found_23 0 rfl rfl ?_
      refine r_iload_n dX10_found_24 1 rfl rfl ?_
      refine r_bipush (v := (7 : Int32)) dX10_found_25 rfl ?_
      refine rV_i (as := [.int v1, .int (7 : Int32)]) (st := []) dX10_found_27 cl_X10_67 (by decide) rfl rfl (m_X10_of S T U V v1 (7 : Int32)) (by decide) rfl (Nat.le_of_ble_eq_true rfl) (fun q5 _ => ?_)
      refine r_istore_n (L' := [(2, .int q5), (0, .ref 78), (1, .int v1)]) dX10_found_30 rfl (by decide) rfl ?_
      refine r_aload_n dX10_found_31 1 rfl rfl ?_
      refine r_iload_n dX10_found_32 2 rfl rfl ?_
      refine r_iconst (v := (4 : Int32)) dX10_found_33 rfl ?_
      refine r_iconst (v := (0 : Int32)) dX10_found_34 rfl ?_
      refine rVm_vS (as := [.int v1, .int (4 : Int32), .int (0 : Int32)]) (st := []) dX10_found_35 cl_X10_71 (by decide) rfl rfl (m_X10_put S T U V v1 (4 : Int32) (0 : Int32)) (by decide) rfl (Nat.le_of_ble_eq_true rfl) (fun q6 _ => ?_)
      refine r_aload_n dX10_found_38 1 rfl rfl ?_
      refine r_iload_n dX10_found_39 2 rfl rfl ?_
      refine r_bipush (v := (7 : Int32)) dX10_found_40 rfl ?_
      refine r_bipush (v := (-4 : Int32)) dX10_found_42 rfl ?_
      refine rVm_vS (as := [.int v1, .int (7 : Int32), .int (-4 : Int32)]) (st := []) dX10_found_44 cl_X10_71 (by decide) rfl rfl (m_X10_put S T q6 V v1 (7 : Int32) (-4 : Int32)) (by decide) rfl (Nat.le_of_ble_eq_true rfl) (fun q7 _ => ?_)
      refine r_iload_n dX10_found_47 0 rfl rfl ?_
      exact r_ireturn (ty := .int) dX10_found_48 rfl (nar_i _) rfl
    · refine r_bipush (v := (-2 : Int32)) dX10_found_20 rfl ?_
      exact r_ireturn (ty := .int) dX10_found_22 rfl (nar_i _) rfl
def f_X10_more (v0 : Int32) (v1 : Int32) : Option (Int32) :=
  if v0 ≤ v1 then
    some v1
  else
    some v0
set_option maxHeartbeats 4000000 in
set_option maxRecDepth 100000 in
theorem m_X10_more (S : SI) (T : SL) (U : SI) (V : SL) (v0 : Int32) (v1 : Int32) : Meth 1 yX10_more cX10_more 2 (some .int) [.int v0, .int v1] (S, T, U, V) (f_X10_more v0 v1) (fun a : Int32 => (some (.int a), (S, T, U, V))) := by
  refine meth_of (L := [(0, .int v0), (1, .int v1)]) (by decide +kernel) (Nat.le_of_ble_eq_true rfl) rfl ?_
  rw [f_X10_more]
  refine r_iload_n dX10_more_0 0 rfl rfl ?_
  refine r_iload_n dX10_more_1 1 rfl rfl ?_
  refine r_icmp_le (tgt := 9) dX10_more_2 (by decide) (fun h1 => ?_) (fun h1 => ?_)
  · refine r_iload_n dX10_more_9 1 rfl rfl ?_
    exact r_ireturn (ty := .int) dX10_more_10 rfl (nar_i _) rfl
  · refine r_iload_n dX10_more_5 0 rfl rfl ?_
    refine r_goto (tgt := 10) dX10_more_6 (by decide) ?_
    exact r_ireturn (ty := .int) dX10_more_10 rfl (nar_i _) rfl
def f_X10_alikeOf (U : SI) (v1 : Int32) (v2 : Int32) : Option (Int32) :=
  (f_X10_of U v1 (3 : Int32)).bind fun q1 =>
  (f_X10_of U v2 (2 : Int32)).bind fun q2 =>
  nm (q1 - q2) fun x3 =>
  (f_X10_of U v2 (3 : Int32)).bind fun q4 =>
  (f_X10_of U v1 (2 : Int32)).bind fun q5 =>
  nm (q4 - q5) fun x6 =>
  (f_X10_more x3 x6).bind fun q7 =>
  (f_X10_of U v1 (2 : Int32)).bind fun q8 =>
  (f_X10_of U v2 (3 : Int32)).bind fun q9 =>
  (f_X10_of U v2 (2 : Int32)).bind fun q10 =>
  (f_X10_of U v1 (3 : Int32)).bind fun q11 =>
  (f_X10_more (q8 - q9) (q10 - q11)).bind fun q12 =>
  (f_X10_more (0 : Int32) q12).bind fun q13 =>
  gd (inB (2 : Int32) 205) <|
  if (U 79 (ix (2 : Int32))) < q7 then
    gd (inB (2 : Int32) 205) <|
    if (U 79 (ix (2 : Int32))) < q13 then
      some (0 : Int32)
    else
      some (1 : Int32)
  else
    some (2 : Int32)
set_option maxHeartbeats 4000000 in
set_option maxRecDepth 100000 in
theorem m_X10_alikeOf (S : SI) (T : SL) (U : SI) (V : SL) (v1 : Int32) (v2 : Int32) : Meth 2 yX10_alikeOf cX10_alikeOf 7 (some .int) [.ref 78, .int v1, .int v2] (S, T, U, V) (f_X10_alikeOf U v1 v2) (fun a : Int32 => (some (.int a), (S, T, U, V))) := by
  refine meth_of (L := [(0, .ref 78), (1, .int v1), (2, .int v2)]) (by decide +kernel) (Nat.le_of_ble_eq_true rfl) rfl ?_
  rw [f_X10_alikeOf]
  refine r_aload_n dX10_alikeOf_0 0 rfl rfl ?_
  refine r_iload_n dX10_alikeOf_1 1 rfl rfl ?_
  refine r_iconst (v := (3 : Int32)) dX10_alikeOf_2 rfl ?_
  refine rV_i (as := [.int v1, .int (3 : Int32)]) (st := []) dX10_alikeOf_3 cl_X10_67 (by decide) rfl rfl (m_X10_of S T U V v1 (3 : Int32)) (by decide) rfl (Nat.le_of_ble_eq_true rfl) (fun q1 _ => ?_)
  refine r_aload_n dX10_alikeOf_6 0 rfl rfl ?_
  refine r_iload_n dX10_alikeOf_7 2 rfl rfl ?_
  refine r_iconst (v := (2 : Int32)) dX10_alikeOf_8 rfl ?_
  refine rV_i (as := [.int v2, .int (2 : Int32)]) (st := [.int q1]) dX10_alikeOf_9 cl_X10_67 (by decide) rfl rfl (m_X10_of S T U V v2 (2 : Int32)) (by decide) rfl (Nat.le_of_ble_eq_true rfl) (fun q2 _ => ?_)
  refine r_isub dX10_alikeOf_12 ?_
  refine r_nmi (fun x3 => ?_)
  refine r_istore_n (L' := [(3, .int x3), (0, .ref 78), (1, .int v1), (2, .int v2)]) dX10_alikeOf_13 rfl (by decide) rfl ?_
  refine r_aload_n dX10_alikeOf_14 1 rfl rfl ?_
  refine r_iload_n dX10_alikeOf_15 3 rfl rfl ?_
  refine r_iconst (v := (3 : Int32)) dX10_alikeOf_16 rfl ?_
  refine rV_i (as := [.int v2, .int (3 : Int32)]) (st := []) dX10_alikeOf_17 cl_X10_67 (by decide) rfl rfl (m_X10_of S T U V v2 (3 : Int32)) (by decide) rfl (Nat.le_of_ble_eq_true rfl) (fun q4 _ => ?_)
  refine r_aload_n dX10_alikeOf_20 1 rfl rfl ?_
  refine r_iload_n dX10_alikeOf_21 2 rfl rfl ?_
  refine r_iconst (v := (2 : Int32)) dX10_alikeOf_22 rfl ?_
  refine rV_i (as := [.int v1, .int (2 : Int32)]) (st := [.int q4]) dX10_alikeOf_23 cl_X10_67 (by decide) rfl rfl (m_X10_of S T U V v1 (2 : Int32)) (by decide) rfl (Nat.le_of_ble_eq_true rfl) (fun q5 _ => ?_)
  refine r_isub dX10_alikeOf_26 ?_
  refine r_nmi (fun x6 => ?_)
  refine r_istore (L' := [(4, .int x6), (3, .int x3), (0, .ref 78), (1, .int v1), (2, .int v2)]) dX10_alikeOf_27 (by decide) rfl ?_
  refine r_iload_n dX10_alikeOf_29 1 rfl rfl ?_
  refine r_iload dX10_alikeOf_30 0 rfl ?_
  refine rS_i (as := [.int x3, .int x6]) (st := []) dX10_alikeOf_32 cl_X10_154 (m_X10_more S T U V x3 x6) (by decide) rfl (Nat.le_of_ble_eq_true rfl) (fun q7 _ => ?_)
  refine r_istore (L' := [(5, .int q7), (4, .int x6), (3, .int x3), (0, .ref 78), (1, .int v1), (2, .int v2)]) dX10_alikeOf_35 (by decide) rfl ?_
  refine r_iconst (v := (0 : Int32)) dX10_alikeOf_37 rfl ?_
  refine r_aload_n dX10_alikeOf_38 3 rfl rfl ?_
  refine r_iload_n dX10_alikeOf_39 4 rfl rfl ?_
  refine r_iconst (v := (2 : Int32)) dX10_alikeOf_40 rfl ?_
  refine rV_i (as := [.int v1, .int (2 : Int32)]) (st := [.int (0 : Int32)]) dX10_alikeOf_41 cl_X10_67 (by decide) rfl rfl (m_X10_of S T U V v1 (2 : Int32)) (by decide) rfl (Nat.le_of_ble_eq_true rfl) (fun q8 _ => ?_)
  refine r_aload_n dX10_alikeOf_44 3 rfl rfl ?_
  refine r_iload_n dX10_alikeOf_45 5 rfl rfl ?_
  refine r_iconst (v := (3 : Int32)) dX10_alikeOf_46 rfl ?_
  refine rV_i (as := [.int v2, .int (3 : Int32)]) (st := [.int q8, .int (0 : Int32)]) dX10_alikeOf_47 cl_X10_67 (by decide) rfl rfl (m_X10_of S T U V v2 (3 : Int32)) (by decide) rfl (Nat.le_of_ble_eq_true rfl) (fun q9 _ => ?_)
  refine r_isub dX10_alikeOf_50 ?_
  refine r_aload_n dX10_alikeOf_51 3 rfl rfl ?_
  refine r_iload_n dX10_alikeOf_52 5 rfl rfl ?_
  refine r_iconst (v := (2 : Int32)) dX10_alikeOf_53 rfl ?_
  refine rV_i (as := [.int v2, .int (2 : Int32)]) (st := [.int (q8 - q9), .int (0 : Int32)]) dX10_alikeOf_54 cl_X10_67 (by decide) rfl rfl (m_X10_of S T U V v2 (2 : Int32)) (by decide) rfl (Nat.le_of_ble_eq_true rfl) (fun q10 _ => ?_)
  refine r_aload_n dX10_alikeOf_57 3 rfl rfl ?_
  refine r_iload_n dX10_alikeOf_58 4 rfl rfl ?_
  refine r_iconst (v := (3 : Int32)) dX10_alikeOf_59 rfl ?_
  refine rV_i (as := [.int v1, .int (3 : Int32)]) (st := [.int q10, .int (q8 - q9), .int (0 : Int32)]) dX10_alikeOf_60 cl_X10_67 (by decide) rfl rfl (m_X10_of S T U V v1 (3 : Int32)) (by decide) rfl (Nat.le_of_ble_eq_true rfl) (fun q11 _ => ?_)
  refine r_isub dX10_alikeOf_63 ?_
  refine rS_i (as := [.int (q8 - q9), .int (q10 - q11)]) (st := [.int (0 : Int32)]) dX10_alikeOf_64 cl_X10_154 (m_X10_more S T U V (q8 - q9) (q10 - q11)) (by decide) rfl (Nat.le_of_ble_eq_true rfl) (fun q12 _ => ?_)
  refine rS_i (as := [.int (0 : Int32), .int q12]) (st := []) dX10_alikeOf_67 cl_X10_154 (m_X10_more S T U V (0 : Int32) q12) (by decide) rfl (Nat.le_of_ble_eq_true rfl) (fun q13 _ => ?_)
  refine r_istore (L' := [(6, .int q13), (5, .int q7), (4, .int x6), (3, .int x3), (0, .ref 78), (1, .int v1), (2, .int v2)]) dX10_alikeOf_70 (by decide) rfl ?_
  refine r_iload dX10_alikeOf_72 1 rfl ?_
  refine r_aload_n dX10_alikeOf_74 4 rfl rfl ?_
  refine r_getr dX10_alikeOf_75 fl_X10_7 (by decide) rfl rfl (by decide) ?_
  refine r_iconst (v := (2 : Int32)) dX10_alikeOf_78 rfl ?_
  refine rm_iald dX10_alikeOf_79 (by decide) (by decide) rfl (fun h14 => ?_)
  refine r_icmp_gt (tgt := 87) dX10_alikeOf_80 (by decide) (fun h15 => ?_) (fun h15 => ?_)
  · refine r_iload dX10_alikeOf_87 0 rfl ?_
    refine r_aload_n dX10_alikeOf_89 4 rfl rfl ?_
    refine r_getr dX10_alikeOf_90 fl_X10_7 (by decide) rfl rfl (by decide) ?_
    refine r_iconst (v := (2 : Int32)) dX10_alikeOf_93 rfl ?_
    refine rm_iald dX10_alikeOf_94 (by decide) (by decide) rfl (fun h16 => ?_)
    refine r_icmp_gt (tgt := 102) dX10_alikeOf_95 (by decide) (fun h17 => ?_) (fun h17 => ?_)
    · refine r_iconst (v := (0 : Int32)) dX10_alikeOf_102 rfl ?_
      exact r_ireturn (ty := .int) dX10_alikeOf_103 rfl (nar_i _) rfl
    · refine r_iconst (v := (1 : Int32)) dX10_alikeOf_98 rfl ?_
      refine r_goto (tgt := 103) dX10_alikeOf_99 (by decide) ?_
      exact r_ireturn (ty := .int) dX10_alikeOf_103 rfl (nar_i _) rfl
  · refine r_iconst (v := (2 : Int32)) dX10_alikeOf_83 rfl ?_
    refine r_goto (tgt := 103) dX10_alikeOf_84 (by decide) ?_
    exact r_ireturn (ty := .int) dX10_alikeOf_103 rfl (nar_i _) rfl
def f_X10_alike (U : SI) (v1 : Int32) (v2 : Int32) : Option (Int32) :=
  (f_X10_areTwo U v1 v2).bind fun q1 =>
  if q1 = 0 then
    some (-1 : Int32)
  else
    (f_X10_alikeOf U v1 v2).bind fun q3 =>
    some q3
set_option maxHeartbeats 4000000 in
set_option maxRecDepth 100000 in
theorem m_X10_alike (S : SI) (T : SL) (U : SI) (V : SL) (v1 : Int32) (v2 : Int32) : Meth 4 yX10_alike cX10_alike 3 (some .int) [.ref 78, .int v1, .int v2] (S, T, U, V) (f_X10_alike U v1 v2) (fun a : Int32 => (some (.int a), (S, T, U, V))) := by
  refine meth_of (L := [(0, .ref 78), (1, .int v1), (2, .int v2)]) (by decide +kernel) (Nat.le_of_ble_eq_true rfl) rfl ?_
  rw [f_X10_alike]
  refine r_aload_n dX10_alike_0 0 rfl rfl ?_
  refine r_iload_n dX10_alike_1 1 rfl rfl ?_
  refine r_iload_n dX10_alike_2 2 rfl rfl ?_
  refine rV_i (as := [.int v1, .int v2]) (st := []) dX10_alike_3 cl_X10_157 (by decide) rfl rfl (m_X10_areTwo S T U V v1 v2) (by decide) rfl (Nat.le_of_ble_eq_true rfl) (fun q1 _ => ?_)
  refine r_if_eq (tgt := 18) dX10_alike_6 (by decide) (fun h2 => ?_) (fun h2 => ?_)
  · refine r_iconst (v := (-1 : Int32)) dX10_alike_18 rfl ?_
    exact r_ireturn (ty := .int) dX10_alike_19 rfl (nar_i _) rfl
  · refine r_aload_n dX10_alike_9 0 rfl rfl ?_
    refine r_iload_n dX10_alike_10 1 rfl rfl ?_
    refine r_iload_n dX10_alike_11 2 rfl rfl ?_
    refine rV_i (as := [.int v1, .int v2]) (st := []) dX10_alike_12 cl_X10_160 (by decide) rfl rfl (m_X10_alikeOf S T U V v1 v2) (by decide) rfl (Nat.le_of_ble_eq_true rfl) (fun q3 _ => ?_)
    refine r_goto (tgt := 19) dX10_alike_15 (by decide) ?_
    exact r_ireturn (ty := .int) dX10_alike_19 rfl (nar_i _) rfl
def f_X10_bars_225 (v4 : Int32) (s0 : Int32) (s1 : Int32) (kh74 : Int32 → Int32 → Option (Int32)) : Option (Int32) :=
  nm (s1 ||| s0) fun x27 =>
  kh74 x27 (v4 + (1 : Int32))
set_option maxHeartbeats 4000000 in
set_option maxRecDepth 100000 in
theorem t_X10_bars_225 (S : SI) (T : SL) (U : SI) (V : SL) (v1 : Int32) (v2 : Int32) (v4 : Int32) (s0 : Int32) (s1 : Int32) (kh74 : Int32 → Int32 → Option (Int32)) (hkh74 : ∀ (w3 : Int32) (w4 : Int32), Run 3 yX10_bars cX10_bars 9 (some .int) none (fun a : Int32 => (some (.int a), (S, T, U, V))) 74 [(0, .ref 78), (1, .int v1), (2, .int v2), (3, .int w3), (4, .int w4)] [] (S, T, U, V) (kh74 w3 w4)) : Run 3 yX10_bars cX10_bars 9 (some .int) none (fun a : Int32 => (some (.int a), (S, T, U, V))) 225 [(0, .ref 78), (1, .int v1), (2, .int v2), (4, .int v4)] [.int s0, .int s1] (S, T, U, V) (f_X10_bars_225 v4 s0 s1 kh74) := by
  rw [f_X10_bars_225]
  refine r_ior dX10_bars_225 ?_
  refine r_nmi (fun x27 => ?_)
  refine r_istore_n (L' := [(3, .int x27), (0, .ref 78), (1, .int v1), (2, .int v2), (4, .int v4)]) dX10_bars_226 rfl (by decide) rfl ?_
  refine r_iinc (v := v4 + (1 : Int32)) (L' := [(4, .int (v4 + (1 : Int32))), (3, .int x27), (0, .ref 78), (1, .int v1), (2, .int v2)]) dX10_bars_227 4 rfl rfl (by decide) rfl ?_
  refine r_goto (tgt := 74) dX10_bars_230 (by decide) ?_
  exact r_pick [2, 3, 4, 1, 0] rfl (hkh74 x27 (v4 + (1 : Int32)))
def f_X10_bars_193 (v1 : Int32) (v2 : Int32) (v3 : Int32) (v4 : Int32) (v7 : Int32) (s0 : Int32) (kh74 : Int32 → Int32 → Option (Int32)) : Option (Int32) :=
  (f_X10_has v7 v1).bind fun q25 =>
  if q25 = 0 then
    f_X10_bars_225 v4 (0 : Int32) v3 kh74
  else
    (f_X10_has v7 v2).bind fun q28 =>
    if q28 = 0 then
      f_X10_bars_225 v4 (0 : Int32) v3 kh74
    else
      if s0 = 0 then
        f_X10_bars_225 v4 (0 : Int32) v3 kh74
      else
        f_X10_bars_225 v4 (8 : Int32) v3 kh74
set_option maxHeartbeats 4000000 in
set_option maxRecDepth 100000 in
theorem t_X10_bars_193 (S : SI) (T : SL) (U : SI) (V : SL) (v1 : Int32) (v2 : Int32) (v3 : Int32) (v4 : Int32) (v7 : Int32) (s0 : Int32) (kh74 : Int32 → Int32 → Option (Int32)) (hkh74 : ∀ (w3 : Int32) (w4 : Int32), Run 3 yX10_bars cX10_bars 9 (some .int) none (fun a : Int32 => (some (.int a), (S, T, U, V))) 74 [(0, .ref 78), (1, .int v1), (2, .int v2), (3, .int w3), (4, .int w4)] [] (S, T, U, V) (kh74 w3 w4)) : Run 3 yX10_bars cX10_bars 9 (some .int) none (fun a : Int32 => (some (.int a), (S, T, U, V))) 193 [(0, .ref 78), (1, .int v1), (2, .int v2), (3, .int v3), (4, .int v4), (7, .int v7)] [.int s0] (S, T, U, V) (f_X10_bars_193 v1 v2 v3 v4 v7 s0 kh74) := by
  rw [f_X10_bars_193]
  refine r_istore (L' := [(8, .int s0), (0, .ref 78), (1, .int v1), (2, .int v2), (3, .int v3), (4, .int v4), (7, .int v7)]) dX10_bars_193 (by decide) rfl ?_
  refine r_iload_n dX10_bars_195 4 rfl rfl ?_
  refine r_iload dX10_bars_196 6 rfl ?_
  refine r_iload_n dX10_bars_198 2 rfl rfl ?_
  refine rS_i (as := [.int v7, .int v1]) (st := [.int v3]) dX10_bars_199 cl_X10_136 (m_X10_has S T U V v7 v1) (by decide) rfl (Nat.le_of_ble_eq_true rfl) (fun q25 _ => ?_)
  refine r_if_eq (tgt := 224) dX10_bars_202 (by decide) (fun h26 => ?_) (fun h26 => ?_)
  · refine r_iconst (v := (0 : Int32)) dX10_bars_224 rfl ?_
    exact r_pick [1, 2, 3, 5] rfl (t_X10_bars_225 S T U V v1 v2 v4 (0 : Int32) v3 kh74 hkh74)
  · refine r_iload dX10_bars_205 6 rfl ?_
    refine r_iload_n dX10_bars_207 3 rfl rfl ?_
    refine rS_i (as := [.int v7, .int v2]) (st := [.int v3]) dX10_bars_208 cl_X10_136 (m_X10_has S T U V v7 v2) (by decide) rfl (Nat.le_of_ble_eq_true rfl) (fun q28 _ => ?_)
    refine r_if_eq (tgt := 224) dX10_bars_211 (by decide) (fun h29 => ?_) (fun h29 => ?_)
    · refine r_iconst (v := (0 : Int32)) dX10_bars_224 rfl ?_
      exact r_pick [1, 2, 3, 5] rfl (t_X10_bars_225 S T U V v1 v2 v4 (0 : Int32) v3 kh74 hkh74)
    · refine r_iload dX10_bars_214 0 rfl ?_
      refine r_if_eq (tgt := 224) dX10_bars_216 (by decide) (fun h30 => ?_) (fun h30 => ?_)
      · refine r_iconst (v := (0 : Int32)) dX10_bars_224 rfl ?_
        exact r_pick [1, 2, 3, 5] rfl (t_X10_bars_225 S T U V v1 v2 v4 (0 : Int32) v3 kh74 hkh74)
      · refine r_bipush (v := (8 : Int32)) dX10_bars_219 rfl ?_
        refine r_goto (tgt := 225) dX10_bars_221 (by decide) ?_
        exact r_pick [1, 2, 3, 5] rfl (t_X10_bars_225 S T U V v1 v2 v4 (8 : Int32) v3 kh74 hkh74)
def f_X10_bars_161 (v1 : Int32) (v2 : Int32) (v3 : Int32) (v4 : Int32) (v5 : Int32) (v6 : Int32) (v7 : Int32) (kh74 : Int32 → Int32 → Option (Int32)) : Option (Int32) :=
  (f_X10_has v5 v2).bind fun q23 =>
  if q23 = 0 then
    f_X10_bars_193 v1 v2 v3 v4 v7 (0 : Int32) kh74
  else
    (f_X10_has v5 v1).bind fun q31 =>
    if q31 = 0 then
      (f_X10_has v6 v1).bind fun q33 =>
      if q33 = 0 then
        f_X10_bars_193 v1 v2 v3 v4 v7 (1 : Int32) kh74
      else
        f_X10_bars_193 v1 v2 v3 v4 v7 (0 : Int32) kh74
    else
      f_X10_bars_193 v1 v2 v3 v4 v7 (0 : Int32) kh74
set_option maxHeartbeats 4000000 in
set_option maxRecDepth 100000 in
theorem t_X10_bars_161 (S : SI) (T : SL) (U : SI) (V : SL) (v1 : Int32) (v2 : Int32) (v3 : Int32) (v4 : Int32) (v5 : Int32) (v6 : Int32) (v7 : Int32) (kh74 : Int32 → Int32 → Option (Int32)) (hkh74 : ∀ (w3 : Int32) (w4 : Int32), Run 3 yX10_bars cX10_bars 9 (some .int) none (fun a : Int32 => (some (.int a), (S, T, U, V))) 74 [(0, .ref 78), (1, .int v1), (2, .int v2), (3, .int w3), (4, .int w4)] [] (S, T, U, V) (kh74 w3 w4)) : Run 3 yX10_bars cX10_bars 9 (some .int) none (fun a : Int32 => (some (.int a), (S, T, U, V))) 161 [(0, .ref 78), (1, .int v1), (2, .int v2), (3, .int v3), (4, .int v4), (5, .int v5), (6, .int v6), (7, .int v7)] [] (S, T, U, V) (f_X10_bars_161 v1 v2 v3 v4 v5 v6 v7 kh74) := by
  rw [f_X10_bars_161]
  refine r_iload dX10_bars_161 5 rfl ?_
  refine r_iload_n dX10_bars_163 2 rfl rfl ?_
  refine rS_i (as := [.int v5, .int v2]) (st := []) dX10_bars_164 cl_X10_136 (m_X10_has S T U V v5 v2) (by decide) rfl (Nat.le_of_ble_eq_true rfl) (fun q23 _ => ?_)
  refine r_if_eq (tgt := 192) dX10_bars_167 (by decide) (fun h24 => ?_) (fun h24 => ?_)
  · refine r_iconst (v := (0 : Int32)) dX10_bars_192 rfl ?_
    exact r_pick [0, 1, 2, 3, 4, 7] rfl (t_X10_bars_193 S T U V v1 v2 v3 v4 v7 (0 : Int32) kh74 hkh74)
  · refine r_iload dX10_bars_170 5 rfl ?_
    refine r_iload_n dX10_bars_172 1 rfl rfl ?_
    refine rS_i (as := [.int v5, .int v1]) (st := []) dX10_bars_173 cl_X10_136 (m_X10_has S T U V v5 v1) (by decide) rfl (Nat.le_of_ble_eq_true rfl) (fun q31 _ => ?_)
    refine r_if_ne (tgt := 192) dX10_bars_176 (by decide) (fun h32 => ?_) (fun h32 => ?_)
    · refine r_iload dX10_bars_179 6 rfl ?_
      refine r_iload_n dX10_bars_181 1 rfl rfl ?_
      refine rS_i (as := [.int v6, .int v1]) (st := []) dX10_bars_182 cl_X10_136 (m_X10_has S T U V v6 v1) (by decide) rfl (Nat.le_of_ble_eq_true rfl) (fun q33 _ => ?_)
      refine r_if_ne (tgt := 192) dX10_bars_185 (by decide) (fun h34 => ?_) (fun h34 => ?_)
      · refine r_iconst (v := (1 : Int32)) dX10_bars_188 rfl ?_
        refine r_goto (tgt := 193) dX10_bars_189 (by decide) ?_
        exact r_pick [0, 1, 2, 3, 4, 7] rfl (t_X10_bars_193 S T U V v1 v2 v3 v4 v7 (1 : Int32) kh74 hkh74)
      · refine r_iconst (v := (0 : Int32)) dX10_bars_192 rfl ?_
        exact r_pick [0, 1, 2, 3, 4, 7] rfl (t_X10_bars_193 S T U V v1 v2 v3 v4 v7 (0 : Int32) kh74 hkh74)
    · refine r_iconst (v := (0 : Int32)) dX10_bars_192 rfl ?_
      exact r_pick [0, 1, 2, 3, 4, 7] rfl (t_X10_bars_193 S T U V v1 v2 v3 v4 v7 (0 : Int32) kh74 hkh74)
def f_X10_bars_74 (U : SI) (v1 : Int32) (v2 : Int32) : Nat → Int32 → Int32 → Option (Int32)
  | 0, _, _ => none
  | m_ + 1, v3, v4 =>
    gd (inB (1 : Int32) 205) <|
    if (U 79 (ix (1 : Int32))) ≤ v4 then
      some v3
    else
      gd (inB ((133 : Int32) + ((3 : Int32) * v4)) 205) <|
      nm (U 79 (ix ((133 : Int32) + ((3 : Int32) * v4)))) fun x16 =>
      gd (inB (((133 : Int32) + ((3 : Int32) * v4)) + (1 : Int32)) 205) <|
      nm (U 79 (ix (((133 : Int32) + ((3 : Int32) * v4)) + (1 : Int32)))) fun x18 =>
      gd (inB (((133 : Int32) + ((3 : Int32) * v4)) + (2 : Int32)) 205) <|
      nm (U 79 (ix (((133 : Int32) + ((3 : Int32) * v4)) + (2 : Int32)))) fun x20 =>
      (f_X10_has x16 v1).bind fun q21 =>
      if q21 = 0 then
        f_X10_bars_161 v1 v2 v3 v4 x16 x18 x20 (f_X10_bars_74 U v1 v2 m_)
      else
        (f_X10_has x16 v2).bind fun q35 =>
        if q35 = 0 then
          (f_X10_has x18 v2).bind fun q37 =>
          if q37 = 0 then
            f_X10_bars_193 v1 v2 v3 v4 x20 (1 : Int32) (f_X10_bars_74 U v1 v2 m_)
          else
            f_X10_bars_161 v1 v2 v3 v4 x16 x18 x20 (f_X10_bars_74 U v1 v2 m_)
        else
          f_X10_bars_161 v1 v2 v3 v4 x16 x18 x20 (f_X10_bars_74 U v1 v2 m_)
set_option maxHeartbeats 4000000 in
set_option maxRecDepth 100000 in
theorem t_X10_bars_74 (S : SI) (T : SL) (U : SI) (V : SL) (v1 : Int32) (v2 : Int32) : ∀ (m_ : Nat) (v3 : Int32) (v4 : Int32), Run 3 yX10_bars cX10_bars 9 (some .int) none (fun a : Int32 => (some (.int a), (S, T, U, V))) 74 [(0, .ref 78), (1, .int v1), (2, .int v2), (3, .int v3), (4, .int v4)] [] (S, T, U, V) (f_X10_bars_74 U v1 v2 m_ v3 v4) := by
  intro m_
  induction m_ with
  | zero =>
    intro v3 v4
    rw [f_X10_bars_74]
    exact r_none
  | succ m_ ih =>
    intro v3 v4
    rw [f_X10_bars_74]
    refine r_iload dX10_bars_74 4 rfl ?_
    refine r_aload_n dX10_bars_76 0 rfl rfl ?_
    refine r_getr dX10_bars_77 fl_X10_7 (by decide) rfl rfl (by decide) ?_
    refine r_iconst (v := (1 : Int32)) dX10_bars_80 rfl ?_
    refine rm_iald dX10_bars_81 (by decide) (by decide) rfl (fun h13 => ?_)
    refine r_icmp_ge (tgt := 233) dX10_bars_82 (by decide) (fun h14 => ?_) (fun h14 => ?_)
    · refine r_iload_n dX10_bars_233 3 rfl rfl ?_
      exact r_ireturn (ty := .int) dX10_bars_234 rfl (nar_i _) rfl
    · refine r_aload_n dX10_bars_85 0 rfl rfl ?_
      refine r_getr dX10_bars_86 fl_X10_7 (by decide) rfl rfl (by decide) ?_
      refine r_sipush (v := (133 : Int32)) dX10_bars_89 rfl ?_
      refine r_iconst (v := (3 : Int32)) dX10_bars_92 rfl ?_
      refine r_iload dX10_bars_93 4 rfl ?_
      refine r_imul dX10_bars_95 ?_
      refine r_iadd dX10_bars_96 ?_
      refine rm_iald dX10_bars_97 (by decide) (by decide) rfl (fun h15 => ?_)
      refine r_nmi (fun x16 => ?_)
      refine r_istore (L' := [(5, .int x16), (0, .ref 78), (1, .int v1), (2, .int v2), (3, .int v3), (4, .int v4)]) dX10_bars_98 (by decide) rfl ?_
      refine r_aload_n dX10_bars_100 1 rfl rfl ?_
      refine r_getr dX10_bars_101 fl_X10_7 (by decide) rfl rfl (by decide) ?_
      refine r_sipush (v := (133 : Int32)) dX10_bars_104 rfl ?_
      refine r_iconst (v := (3 : Int32)) dX10_bars_107 rfl ?_
      refine r_iload dX10_bars_108 5 rfl ?_
      refine r_imul dX10_bars_110 ?_
      refine r_iadd dX10_bars_111 ?_
      refine r_iconst (v := (1 : Int32)) dX10_bars_112 rfl ?_
      refine r_iadd dX10_bars_113 ?_
      refine rm_iald dX10_bars_114 (by decide) (by decide) rfl (fun h17 => ?_)
      refine r_nmi (fun x18 => ?_)
      refine r_istore (L' := [(6, .int x18), (5, .int x16), (0, .ref 78), (1, .int v1), (2, .int v2), (3, .int v3), (4, .int v4)]) dX10_bars_115 (by decide) rfl ?_
      refine r_aload_n dX10_bars_117 2 rfl rfl ?_
      refine r_getr dX10_bars_118 fl_X10_7 (by decide) rfl rfl (by decide) ?_
      refine r_sipush (v := (133 : Int32)) dX10_bars_121 rfl ?_
      refine r_iconst (v := (3 : Int32)) dX10_bars_124 rfl ?_
      refine r_iload dX10_bars_125 6 rfl ?_
      refine r_imul dX10_bars_127 ?_
      refine r_iadd dX10_bars_128 ?_
      refine r_iconst (v := (2 : Int32)) dX10_bars_129 rfl ?_
      refine r_iadd dX10_bars_130 ?_
      refine rm_iald dX10_bars_131 (by decide) (by decide) rfl (fun h19 => ?_)
      refine r_nmi (fun x20 => ?_)
      refine r_istore (L' := [(7, .int x20), (6, .int x18), (5, .int x16), (0, .ref 78), (1, .int v1), (2, .int v2), (3, .int v3), (4, .int v4)]) dX10_bars_132 (by decide) rfl ?_
      refine r_iload dX10_bars_134 2 rfl ?_
      refine r_iload_n dX10_bars_136 4 rfl rfl ?_
      refine rS_i (as := [.int x16, .int v1]) (st := []) dX10_bars_137 cl_X10_136 (m_X10_has S T U V x16 v1) (by decide) rfl (Nat.le_of_ble_eq_true rfl) (fun q21 _ => ?_)
      refine r_if_eq (tgt := 161) dX10_bars_140 (by decide) (fun h22 => ?_) (fun h22 => ?_)
      · exact r_pick [3, 4, 5, 6, 7, 2, 1, 0] rfl (t_X10_bars_161 S T U V v1 v2 v3 v4 x16 x18 x20 (f_X10_bars_74 U v1 v2 m_) ih)
      · refine r_iload dX10_bars_143 2 rfl ?_
        refine r_iload_n dX10_bars_145 5 rfl rfl ?_
        refine rS_i (as := [.int x16, .int v2]) (st := []) dX10_bars_146 cl_X10_136 (m_X10_has S T U V x16 v2) (by decide) rfl (Nat.le_of_ble_eq_true rfl) (fun q35 _ => ?_)
        refine r_if_ne (tgt := 161) dX10_bars_149 (by decide) (fun h36 => ?_) (fun h36 => ?_)
        · refine r_iload dX10_bars_152 1 rfl ?_
          refine r_iload_n dX10_bars_154 5 rfl rfl ?_
          refine rS_i (as := [.int x18, .int v2]) (st := []) dX10_bars_155 cl_X10_136 (m_X10_has S T U V x18 v2) (by decide) rfl (Nat.le_of_ble_eq_true rfl) (fun q37 _ => ?_)
          refine r_if_eq (tgt := 188) dX10_bars_158 (by decide) (fun h38 => ?_) (fun h38 => ?_)
          · refine r_iconst (v := (1 : Int32)) dX10_bars_188 rfl ?_
            refine r_goto (tgt := 193) dX10_bars_189 (by decide) ?_
            exact r_pick [3, 4, 5, 6, 7, 0] rfl (t_X10_bars_193 S T U V v1 v2 v3 v4 x20 (1 : Int32) (f_X10_bars_74 U v1 v2 m_) ih)
          · exact r_pick [3, 4, 5, 6, 7, 2, 1, 0] rfl (t_X10_bars_161 S T U V v1 v2 v3 v4 x16 x18 x20 (f_X10_bars_74 U v1 v2 m_) ih)
        · exact r_pick [3, 4, 5, 6, 7, 2, 1, 0] rfl (t_X10_bars_161 S T U V v1 v2 v3 v4 x16 x18 x20 (f_X10_bars_74 U v1 v2 m_) ih)
def f_X10_bars_69 (U : SI) (v1 : Int32) (v2 : Int32) (s0 : Int32) (s1 : Int32) : Option (Int32) :=
  nm (s1 ||| s0) fun x12 =>
  f_X10_bars_74 U v1 v2 fu x12 (0 : Int32)
set_option maxHeartbeats 4000000 in
set_option maxRecDepth 100000 in
theorem t_X10_bars_69 (S : SI) (T : SL) (U : SI) (V : SL) (v1 : Int32) (v2 : Int32) (s0 : Int32) (s1 : Int32) : Run 3 yX10_bars cX10_bars 9 (some .int) none (fun a : Int32 => (some (.int a), (S, T, U, V))) 69 [(0, .ref 78), (1, .int v1), (2, .int v2)] [.int s0, .int s1] (S, T, U, V) (f_X10_bars_69 U v1 v2 s0 s1) := by
  rw [f_X10_bars_69]
  refine r_ior dX10_bars_69 ?_
  refine r_nmi (fun x12 => ?_)
  refine r_istore_n (L' := [(3, .int x12), (0, .ref 78), (1, .int v1), (2, .int v2)]) dX10_bars_70 rfl (by decide) rfl ?_
  refine r_iconst (v := (0 : Int32)) dX10_bars_71 rfl ?_
  refine r_istore (L' := [(4, .int (0 : Int32)), (3, .int x12), (0, .ref 78), (1, .int v1), (2, .int v2)]) dX10_bars_72 (by decide) rfl ?_
  exact r_pick [2, 3, 4, 1, 0] rfl (t_X10_bars_74 S T U V v1 v2 fu x12 (0 : Int32))
def f_X10_bars_52 (U : SI) (v1 : Int32) (v2 : Int32) (s0 : Int32) (s1 : Int32) : Option (Int32) :=
  nm (s1 ||| s0) fun x9 =>
  (f_X10_alikeOf U v1 v2).bind fun q10 =>
  if q10 = 0 then
    f_X10_bars_69 U v1 v2 (4 : Int32) x9
  else
    f_X10_bars_69 U v1 v2 (0 : Int32) x9
set_option maxHeartbeats 4000000 in
set_option maxRecDepth 100000 in
theorem t_X10_bars_52 (S : SI) (T : SL) (U : SI) (V : SL) (v1 : Int32) (v2 : Int32) (s0 : Int32) (s1 : Int32) : Run 3 yX10_bars cX10_bars 9 (some .int) none (fun a : Int32 => (some (.int a), (S, T, U, V))) 52 [(0, .ref 78), (1, .int v1), (2, .int v2)] [.int s0, .int s1] (S, T, U, V) (f_X10_bars_52 U v1 v2 s0 s1) := by
  rw [f_X10_bars_52]
  refine r_ior dX10_bars_52 ?_
  refine r_nmi (fun x9 => ?_)
  refine r_istore_n (L' := [(3, .int x9), (0, .ref 78), (1, .int v1), (2, .int v2)]) dX10_bars_53 rfl (by decide) rfl ?_
  refine r_iload_n dX10_bars_54 0 rfl rfl ?_
  refine r_aload_n dX10_bars_55 1 rfl rfl ?_
  refine r_iload_n dX10_bars_56 2 rfl rfl ?_
  refine r_iload_n dX10_bars_57 3 rfl rfl ?_
  refine rV_i (as := [.int v1, .int v2]) (st := [.int x9]) dX10_bars_58 cl_X10_160 (by decide) rfl rfl (m_X10_alikeOf S T U V v1 v2) (by decide) rfl (Nat.le_of_ble_eq_true rfl) (fun q10 _ => ?_)
  refine r_if_ne (tgt := 68) dX10_bars_61 (by decide) (fun h11 => ?_) (fun h11 => ?_)
  · refine r_iconst (v := (4 : Int32)) dX10_bars_64 rfl ?_
    refine r_goto (tgt := 69) dX10_bars_65 (by decide) ?_
    exact r_pick [1, 2, 3] rfl (t_X10_bars_69 S T U V v1 v2 (4 : Int32) x9)
  · refine r_iconst (v := (0 : Int32)) dX10_bars_68 rfl ?_
    exact r_pick [1, 2, 3] rfl (t_X10_bars_69 S T U V v1 v2 (0 : Int32) x9)
def f_X10_bars_20 (U : SI) (v1 : Int32) (v2 : Int32) (s0 : Int32) : Option (Int32) :=
  gd (inB (3 : Int32) 205) <|
  if (U 79 (ix (3 : Int32))) = (1 : Int32) then
    (f_X10_of U v1 (1 : Int32)).bind fun q6 =>
    (f_X10_of U v2 (1 : Int32)).bind fun q7 =>
    if q6 = q7 then
      f_X10_bars_52 U v1 v2 (2 : Int32) s0
    else
      f_X10_bars_52 U v1 v2 (0 : Int32) s0
  else
    f_X10_bars_52 U v1 v2 (0 : Int32) s0
set_option maxHeartbeats 4000000 in
set_option maxRecDepth 100000 in
theorem t_X10_bars_20 (S : SI) (T : SL) (U : SI) (V : SL) (v1 : Int32) (v2 : Int32) (s0 : Int32) : Run 3 yX10_bars cX10_bars 9 (some .int) none (fun a : Int32 => (some (.int a), (S, T, U, V))) 20 [(0, .ref 78), (1, .int v1), (2, .int v2)] [.int s0] (S, T, U, V) (f_X10_bars_20 U v1 v2 s0) := by
  rw [f_X10_bars_20]
  refine r_istore_n (L' := [(3, .int s0), (0, .ref 78), (1, .int v1), (2, .int v2)]) dX10_bars_20 rfl (by decide) rfl ?_
  refine r_iload_n dX10_bars_21 0 rfl rfl ?_
  refine r_aload_n dX10_bars_22 1 rfl rfl ?_
  refine r_getr dX10_bars_23 fl_X10_7 (by decide) rfl rfl (by decide) ?_
  refine r_iconst (v := (3 : Int32)) dX10_bars_26 rfl ?_
  refine rm_iald dX10_bars_27 (by decide) (by decide) rfl (fun h4 => ?_)
  refine r_iconst (v := (1 : Int32)) dX10_bars_28 rfl ?_
  refine r_icmp_ne (tgt := 51) dX10_bars_29 (by decide) (fun h5 => ?_) (fun h5 => ?_)
  · refine r_aload_n dX10_bars_32 1 rfl rfl ?_
    refine r_iload_n dX10_bars_33 2 rfl rfl ?_
    refine r_iconst (v := (1 : Int32)) dX10_bars_34 rfl ?_
    refine rV_i (as := [.int v1, .int (1 : Int32)]) (st := [.int s0]) dX10_bars_35 cl_X10_67 (by decide) rfl rfl (m_X10_of S T U V v1 (1 : Int32)) (by decide) rfl (Nat.le_of_ble_eq_true rfl) (fun q6 _ => ?_)
    refine r_aload_n dX10_bars_38 1 rfl rfl ?_
    refine r_iload_n dX10_bars_39 3 rfl rfl ?_
    refine r_iconst (v := (1 : Int32)) dX10_bars_40 rfl ?_
    refine rV_i (as := [.int v2, .int (1 : Int32)]) (st := [.int q6, .int s0]) dX10_bars_41 cl_X10_67 (by decide) rfl rfl (m_X10_of S T U V v2 (1 : Int32)) (by decide) rfl (Nat.le_of_ble_eq_true rfl) (fun q7 _ => ?_)
    refine r_icmp_ne (tgt := 51) dX10_bars_44 (by decide) (fun h8 => ?_) (fun h8 => ?_)
    · refine r_iconst (v := (2 : Int32)) dX10_bars_47 rfl ?_
      refine r_goto (tgt := 52) dX10_bars_48 (by decide) ?_
      exact r_pick [1, 2, 3] rfl (t_X10_bars_52 S T U V v1 v2 (2 : Int32) s0)
    · refine r_iconst (v := (0 : Int32)) dX10_bars_51 rfl ?_
      exact r_pick [1, 2, 3] rfl (t_X10_bars_52 S T U V v1 v2 (0 : Int32) s0)
  · refine r_iconst (v := (0 : Int32)) dX10_bars_51 rfl ?_
    exact r_pick [1, 2, 3] rfl (t_X10_bars_52 S T U V v1 v2 (0 : Int32) s0)
def f_X10_bars (U : SI) (v1 : Int32) (v2 : Int32) : Option (Int32) :=
  (f_X10_of U v1 (0 : Int32)).bind fun q1 =>
  (f_X10_of U v2 (0 : Int32)).bind fun q2 =>
  if q1 = q2 then
    f_X10_bars_20 U v1 v2 (0 : Int32)
  else
    f_X10_bars_20 U v1 v2 (1 : Int32)
set_option maxHeartbeats 4000000 in
set_option maxRecDepth 100000 in
theorem m_X10_bars (S : SI) (T : SL) (U : SI) (V : SL) (v1 : Int32) (v2 : Int32) : Meth 3 yX10_bars cX10_bars 9 (some .int) [.ref 78, .int v1, .int v2] (S, T, U, V) (f_X10_bars U v1 v2) (fun a : Int32 => (some (.int a), (S, T, U, V))) := by
  refine meth_of (L := [(0, .ref 78), (1, .int v1), (2, .int v2)]) (by decide +kernel) (Nat.le_of_ble_eq_true rfl) rfl ?_
  rw [f_X10_bars]
  refine r_aload_n dX10_bars_0 0 rfl rfl ?_
  refine r_iload_n dX10_bars_1 1 rfl rfl ?_
  refine r_iconst (v := (0 : Int32)) dX10_bars_2 rfl ?_
  refine rV_i (as := [.int v1, .int (0 : Int32)]) (st := []) dX10_bars_3 cl_X10_67 (by decide) rfl rfl (m_X10_of S T U V v1 (0 : Int32)) (by decide) rfl (Nat.le_of_ble_eq_true rfl) (fun q1 _ => ?_)
  refine r_aload_n dX10_bars_6 0 rfl rfl ?_
  refine r_iload_n dX10_bars_7 2 rfl rfl ?_
  refine r_iconst (v := (0 : Int32)) dX10_bars_8 rfl ?_
  refine rV_i (as := [.int v2, .int (0 : Int32)]) (st := [.int q1]) dX10_bars_9 cl_X10_67 (by decide) rfl rfl (m_X10_of S T U V v2 (0 : Int32)) (by decide) rfl (Nat.le_of_ble_eq_true rfl) (fun q2 _ => ?_)
  refine r_icmp_eq (tgt := 19) dX10_bars_12 (by decide) (fun h3 => ?_) (fun h3 => ?_)
  · refine r_iconst (v := (0 : Int32)) dX10_bars_19 rfl ?_
    exact r_pick [0, 1, 2] rfl (t_X10_bars_20 S T U V v1 v2 (0 : Int32))
  · refine r_iconst (v := (1 : Int32)) dX10_bars_15 rfl ?_
    refine r_goto (tgt := 20) dX10_bars_16 (by decide) ?_
    exact r_pick [0, 1, 2] rfl (t_X10_bars_20 S T U V v1 v2 (1 : Int32))
def f_X10_fellows (U : SI) (v1 : Int32) (v2 : Int32) : Option (Int32) :=
  (f_X10_areTwo U v1 v2).bind fun q1 =>
  if q1 = 0 then
    some (-1 : Int32)
  else
    (f_X10_bars U v1 v2).bind fun q3 =>
    some q3
set_option maxHeartbeats 4000000 in
set_option maxRecDepth 100000 in
theorem m_X10_fellows (S : SI) (T : SL) (U : SI) (V : SL) (v1 : Int32) (v2 : Int32) : Meth 4 yX10_fellows cX10_fellows 3 (some .int) [.ref 78, .int v1, .int v2] (S, T, U, V) (f_X10_fellows U v1 v2) (fun a : Int32 => (some (.int a), (S, T, U, V))) := by
  refine meth_of (L := [(0, .ref 78), (1, .int v1), (2, .int v2)]) (by decide +kernel) (Nat.le_of_ble_eq_true rfl) rfl ?_
  rw [f_X10_fellows]
  refine r_aload_n dX10_fellows_0 0 rfl rfl ?_
  refine r_iload_n dX10_fellows_1 1 rfl rfl ?_
  refine r_iload_n dX10_fellows_2 2 rfl rfl ?_
  refine rV_i (as := [.int v1, .int v2]) (st := []) dX10_fellows_3 cl_X10_157 (by decide) rfl rfl (m_X10_areTwo S T U V v1 v2) (by decide) rfl (Nat.le_of_ble_eq_true rfl) (fun q1 _ => ?_)
  refine r_if_eq (tgt := 18) dX10_fellows_6 (by decide) (fun h2 => ?_) (fun h2 => ?_)
  · refine r_iconst (v := (-1 : Int32)) dX10_fellows_18 rfl ?_
    exact r_ireturn (ty := .int) dX10_fellows_19 rfl (nar_i _) rfl
  · refine r_aload_n dX10_fellows_9 0 rfl rfl ?_
    refine r_iload_n dX10_fellows_10 1 rfl rfl ?_
    refine r_iload_n dX10_fellows_11 2 rfl rfl ?_
    refine rV_i (as := [.int v1, .int v2]) (st := []) dX10_fellows_12 cl_X10_163 (by decide) rfl rfl (m_X10_bars S T U V v1 v2) (by decide) rfl (Nat.le_of_ble_eq_true rfl) (fun q3 _ => ?_)
    refine r_goto (tgt := 19) dX10_fellows_15 (by decide) ?_
    exact r_ireturn (ty := .int) dX10_fellows_19 rfl (nar_i _) rfl
def f_X10_lostOf_59 (v4 : Int32) (s0 : Int32) (s1 : Int32) (kh5 : Int32 → Int32 → Option (Int32)) : Option (Int32) :=
  nm (s1 + s0) fun x8 =>
  kh5 x8 (v4 + (1 : Int32))
set_option maxHeartbeats 4000000 in
set_option maxRecDepth 100000 in
theorem t_X10_lostOf_59 (S : SI) (T : SL) (U : SI) (V : SL) (v1 : Int32) (v2 : Int32) (v4 : Int32) (s0 : Int32) (s1 : Int32) (kh5 : Int32 → Int32 → Option (Int32)) (hkh5 : ∀ (w3 : Int32) (w4 : Int32), Run 2 yX10_lostOf cX10_lostOf 5 (some .int) none (fun a : Int32 => (some (.int a), (S, T, U, V))) 5 [(0, .ref 78), (1, .int v1), (2, .int v2), (3, .int w3), (4, .int w4)] [] (S, T, U, V) (kh5 w3 w4)) : Run 2 yX10_lostOf cX10_lostOf 5 (some .int) none (fun a : Int32 => (some (.int a), (S, T, U, V))) 59 [(0, .ref 78), (1, .int v1), (2, .int v2), (4, .int v4)] [.int s0, .int s1] (S, T, U, V) (f_X10_lostOf_59 v4 s0 s1 kh5) := by
  rw [f_X10_lostOf_59]
  refine r_iadd dX10_lostOf_59 ?_
  refine r_nmi (fun x8 => ?_)
  refine r_istore_n (L' := [(3, .int x8), (0, .ref 78), (1, .int v1), (2, .int v2), (4, .int v4)]) dX10_lostOf_60 rfl (by decide) rfl ?_
  refine r_iinc (v := v4 + (1 : Int32)) (L' := [(4, .int (v4 + (1 : Int32))), (3, .int x8), (0, .ref 78), (1, .int v1), (2, .int v2)]) dX10_lostOf_61 4 rfl rfl (by decide) rfl ?_
  refine r_goto (tgt := 5) dX10_lostOf_64 (by decide) ?_
  exact r_pick [2, 3, 4, 1, 0] rfl (hkh5 x8 (v4 + (1 : Int32)))
def f_X10_lostOf_5 (U : SI) (v1 : Int32) (v2 : Int32) : Nat → Int32 → Int32 → Option (Int32)
  | 0, _, _ => none
  | m_ + 1, v3, v4 =>
    gd (inB (0 : Int32) 205) <|
    if (U 79 (ix (0 : Int32))) ≤ v4 then
      some v3
    else
      (f_X10_of U v4 (4 : Int32)).bind fun q3 =>
      if q3 = (1 : Int32) then
        (f_X10_of U v4 (1 : Int32)).bind fun q5 =>
        if q5 = v2 then
          if v1 < 0 then
            f_X10_lostOf_59 v4 (1 : Int32) v3 (f_X10_lostOf_5 U v1 v2 m_)
          else
            (f_X10_of U v4 (0 : Int32)).bind fun q9 =>
            if q9 = v1 then
              f_X10_lostOf_59 v4 (1 : Int32) v3 (f_X10_lostOf_5 U v1 v2 m_)
            else
              f_X10_lostOf_59 v4 (0 : Int32) v3 (f_X10_lostOf_5 U v1 v2 m_)
        else
          f_X10_lostOf_59 v4 (0 : Int32) v3 (f_X10_lostOf_5 U v1 v2 m_)
      else
        f_X10_lostOf_59 v4 (0 : Int32) v3 (f_X10_lostOf_5 U v1 v2 m_)
set_option maxHeartbeats 4000000 in
set_option maxRecDepth 100000 in
theorem t_X10_lostOf_5 (S : SI) (T : SL) (U : SI) (V : SL) (v1 : Int32) (v2 : Int32) : ∀ (m_ : Nat) (v3 : Int32) (v4 : Int32), Run 2 yX10_lostOf cX10_lostOf 5 (some .int) none (fun a : Int32 => (some (.int a), (S, T, U, V))) 5 [(0, .ref 78), (1, .int v1), (2, .int v2), (3, .int v3), (4, .int v4)] [] (S, T, U, V) (f_X10_lostOf_5 U v1 v2 m_ v3 v4) := by
  intro m_
  induction m_ with
  | zero =>
    intro v3 v4
    rw [f_X10_lostOf_5]
    exact r_none
  | succ m_ ih =>
    intro v3 v4
    rw [f_X10_lostOf_5]
    refine r_iload dX10_lostOf_5 4 rfl ?_
    refine r_aload_n dX10_lostOf_7 0 rfl rfl ?_
    refine r_getr dX10_lostOf_8 fl_X10_7 (by decide) rfl rfl (by decide) ?_
    refine r_iconst (v := (0 : Int32)) dX10_lostOf_11 rfl ?_
    refine rm_iald dX10_lostOf_12 (by decide) (by decide) rfl (fun h1 => ?_)
    refine r_icmp_ge (tgt := 67) dX10_lostOf_13 (by decide) (fun h2 => ?_) (fun h2 => ?_)
    · refine r_iload_n dX10_lostOf_67 3 rfl rfl ?_
      exact r_ireturn (ty := .int) dX10_lostOf_68 rfl (nar_i _) rfl
    · refine r_iload_n dX10_lostOf_16 3 rfl rfl ?_
      refine r_aload_n dX10_lostOf_17 0 rfl rfl ?_
      refine r_iload dX10_lostOf_18 4 rfl ?_
      refine r_iconst (v := (4 : Int32)) dX10_lostOf_20 rfl ?_
      refine rV_i (as := [.int v4, .int (4 : Int32)]) (st := [.int v3]) dX10_lostOf_21 cl_X10_67 (by decide) rfl rfl (m_X10_of S T U V v4 (4 : Int32)) (by decide) rfl (Nat.le_of_ble_eq_true rfl) (fun q3 _ => ?_)
      refine r_iconst (v := (1 : Int32)) dX10_lostOf_24 rfl ?_
      refine r_icmp_ne (tgt := 58) dX10_lostOf_25 (by decide) (fun h4 => ?_) (fun h4 => ?_)
      · refine r_aload_n dX10_lostOf_28 0 rfl rfl ?_
        refine r_iload dX10_lostOf_29 4 rfl ?_
        refine r_iconst (v := (1 : Int32)) dX10_lostOf_31 rfl ?_
        refine rV_i (as := [.int v4, .int (1 : Int32)]) (st := [.int v3]) dX10_lostOf_32 cl_X10_67 (by decide) rfl rfl (m_X10_of S T U V v4 (1 : Int32)) (by decide) rfl (Nat.le_of_ble_eq_true rfl) (fun q5 _ => ?_)
        refine r_iload_n dX10_lostOf_35 2 rfl rfl ?_
        refine r_icmp_ne (tgt := 58) dX10_lostOf_36 (by decide) (fun h6 => ?_) (fun h6 => ?_)
        · refine r_iload_n dX10_lostOf_39 1 rfl rfl ?_
          refine r_if_lt (tgt := 54) dX10_lostOf_40 (by decide) (fun h7 => ?_) (fun h7 => ?_)
          · refine r_iconst (v := (1 : Int32)) dX10_lostOf_54 rfl ?_
            refine r_goto (tgt := 59) dX10_lostOf_55 (by decide) ?_
            exact r_pick [0, 1, 2, 4] rfl (t_X10_lostOf_59 S T U V v1 v2 v4 (1 : Int32) v3 (f_X10_lostOf_5 U v1 v2 m_) ih)
          · refine r_aload_n dX10_lostOf_43 0 rfl rfl ?_
            refine r_iload dX10_lostOf_44 4 rfl ?_
            refine r_iconst (v := (0 : Int32)) dX10_lostOf_46 rfl ?_
            refine rV_i (as := [.int v4, .int (0 : Int32)]) (st := [.int v3]) dX10_lostOf_47 cl_X10_67 (by decide) rfl rfl (m_X10_of S T U V v4 (0 : Int32)) (by decide) rfl (Nat.le_of_ble_eq_true rfl) (fun q9 _ => ?_)
            refine r_iload_n dX10_lostOf_50 1 rfl rfl ?_
            refine r_icmp_ne (tgt := 58) dX10_lostOf_51 (by decide) (fun h10 => ?_) (fun h10 => ?_)
            · refine r_iconst (v := (1 : Int32)) dX10_lostOf_54 rfl ?_
              refine r_goto (tgt := 59) dX10_lostOf_55 (by decide) ?_
              exact r_pick [0, 1, 2, 4] rfl (t_X10_lostOf_59 S T U V v1 v2 v4 (1 : Int32) v3 (f_X10_lostOf_5 U v1 v2 m_) ih)
            · refine r_iconst (v := (0 : Int32)) dX10_lostOf_58 rfl ?_
              exact r_pick [0, 1, 2, 4] rfl (t_X10_lostOf_59 S T U V v1 v2 v4 (0 : Int32) v3 (f_X10_lostOf_5 U v1 v2 m_) ih)
        · refine r_iconst (v := (0 : Int32)) dX10_lostOf_58 rfl ?_
          exact r_pick [0, 1, 2, 4] rfl (t_X10_lostOf_59 S T U V v1 v2 v4 (0 : Int32) v3 (f_X10_lostOf_5 U v1 v2 m_) ih)
      · refine r_iconst (v := (0 : Int32)) dX10_lostOf_58 rfl ?_
        exact r_pick [0, 1, 2, 4] rfl (t_X10_lostOf_59 S T U V v1 v2 v4 (0 : Int32) v3 (f_X10_lostOf_5 U v1 v2 m_) ih)
def f_X10_lostOf (U : SI) (v1 : Int32) (v2 : Int32) : Option (Int32) :=
  f_X10_lostOf_5 U v1 v2 fu (0 : Int32) (0 : Int32)
set_option maxHeartbeats 4000000 in
set_option maxRecDepth 100000 in
theorem m_X10_lostOf (S : SI) (T : SL) (U : SI) (V : SL) (v1 : Int32) (v2 : Int32) : Meth 2 yX10_lostOf cX10_lostOf 5 (some .int) [.ref 78, .int v1, .int v2] (S, T, U, V) (f_X10_lostOf U v1 v2) (fun a : Int32 => (some (.int a), (S, T, U, V))) := by
  refine meth_of (L := [(0, .ref 78), (1, .int v1), (2, .int v2)]) (by decide +kernel) (Nat.le_of_ble_eq_true rfl) rfl ?_
  rw [f_X10_lostOf]
  refine r_iconst (v := (0 : Int32)) dX10_lostOf_0 rfl ?_
  refine r_istore_n (L' := [(3, .int (0 : Int32)), (0, .ref 78), (1, .int v1), (2, .int v2)]) dX10_lostOf_1 rfl (by decide) rfl ?_
  refine r_iconst (v := (0 : Int32)) dX10_lostOf_2 rfl ?_
  refine r_istore (L' := [(4, .int (0 : Int32)), (3, .int (0 : Int32)), (0, .ref 78), (1, .int v1), (2, .int v2)]) dX10_lostOf_3 (by decide) rfl ?_
  exact r_pick [2, 3, 4, 1, 0] rfl (t_X10_lostOf_5 S T U V v1 v2 fu (0 : Int32) (0 : Int32))
def f_X10_count (U : SI) (v1 : Int32) : Option (Int32) :=
  if v1 = (0 : Int32) then
    gd (inB (0 : Int32) 205) <|
    some (U 79 (ix (0 : Int32)))
  else if v1 = (1 : Int32) then
    (f_X10_inPlace U (v1 - (1 : Int32))).bind fun q4 =>
    (f_X10_ones q4).bind fun q5 =>
    some q5
  else if v1 = (2 : Int32) then
    (f_X10_inPlace U (v1 - (1 : Int32))).bind fun q7 =>
    (f_X10_ones q7).bind fun q8 =>
    some q8
  else if v1 = (3 : Int32) then
    (f_X10_inPlace U (v1 - (1 : Int32))).bind fun q10 =>
    (f_X10_ones q10).bind fun q11 =>
    some q11
  else if v1 = (4 : Int32) then
    gd (inB (1 : Int32) 205) <|
    some (U 79 (ix (1 : Int32)))
  else if v1 = (5 : Int32) then
    (f_X10_lostOf U (-4 : Int32) (0 : Int32)).bind fun q15 =>
    some q15
  else some (-1 : Int32)
set_option maxHeartbeats 4000000 in
set_option maxRecDepth 100000 in
theorem m_X10_count (S : SI) (T : SL) (U : SI) (V : SL) (v1 : Int32) : Meth 3 yX10_count cX10_count 2 (some .int) [.ref 78, .int v1] (S, T, U, V) (f_X10_count U v1) (fun a : Int32 => (some (.int a), (S, T, U, V))) := by
  refine meth_of (L := [(0, .ref 78), (1, .int v1)]) (by decide +kernel) (Nat.le_of_ble_eq_true rfl) rfl ?_
  rw [f_X10_count]
  refine r_iload_n dX10_count_0 1 rfl rfl ?_
  refine r_if (fun h1 => ?_) (fun h1 => ?_)
  · refine r_tableIn (off := 39) (tgt := 40) dX10_count_1 0 h1 (by decide) (by decide) (by decide) (by decide) ?_
    refine r_aload_n dX10_count_40 0 rfl rfl ?_
    refine r_getr dX10_count_41 fl_X10_7 (by decide) rfl rfl (by decide) ?_
    refine r_iconst (v := (0 : Int32)) dX10_count_44 rfl ?_
    refine rm_iald dX10_count_45 (by decide) (by decide) rfl (fun h2 => ?_)
    exact r_ireturn (ty := .int) dX10_count_46 rfl (nar_i _) rfl
  · skip
    refine r_if (fun h3 => ?_) (fun h3 => ?_)
    · refine r_tableIn (off := 46) (tgt := 47) dX10_count_1 1 h3 (by decide) (by decide) (by decide) (by decide) ?_
      refine r_aload_n dX10_count_47 0 rfl rfl ?_
      refine r_iload_n dX10_count_48 1 rfl rfl ?_
      refine r_iconst (v := (1 : Int32)) dX10_count_49 rfl ?_
      refine r_isub dX10_count_50 ?_
      refine rV_i (as := [.int (v1 - (1 : Int32))]) (st := []) dX10_count_51 cl_X10_140 (by decide) rfl rfl (m_X10_inPlace S T U V (v1 - (1 : Int32))) (by decide) rfl (Nat.le_of_ble_eq_true rfl) (fun q4 _ => ?_)
      refine rS_i (as := [.int q4]) (st := []) dX10_count_54 cl_X10_151 (m_X10_ones S T U V q4) (by decide) rfl (Nat.le_of_ble_eq_true rfl) (fun q5 _ => ?_)
      exact r_ireturn (ty := .int) dX10_count_57 rfl (nar_i _) rfl
    · skip
      refine r_if (fun h6 => ?_) (fun h6 => ?_)
      · refine r_tableIn (off := 46) (tgt := 47) dX10_count_1 2 h6 (by decide) (by decide) (by decide) (by decide) ?_
        refine r_aload_n dX10_count_47 0 rfl rfl ?_
        refine r_iload_n dX10_count_48 1 rfl rfl ?_
        refine r_iconst (v := (1 : Int32)) dX10_count_49 rfl ?_
        refine r_isub dX10_count_50 ?_
        refine rV_i (as := [.int (v1 - (1 : Int32))]) (st := []) dX10_count_51 cl_X10_140 (by decide) rfl rfl (m_X10_inPlace S T U V (v1 - (1 : Int32))) (by decide) rfl (Nat.le_of_ble_eq_true rfl) (fun q7 _ => ?_)
        refine rS_i (as := [.int q7]) (st := []) dX10_count_54 cl_X10_151 (m_X10_ones S T U V q7) (by decide) rfl (Nat.le_of_ble_eq_true rfl) (fun q8 _ => ?_)
        exact r_ireturn (ty := .int) dX10_count_57 rfl (nar_i _) rfl
      · skip
        refine r_if (fun h9 => ?_) (fun h9 => ?_)
        · refine r_tableIn (off := 46) (tgt := 47) dX10_count_1 3 h9 (by decide) (by decide) (by decide) (by decide) ?_
          refine r_aload_n dX10_count_47 0 rfl rfl ?_
          refine r_iload_n dX10_count_48 1 rfl rfl ?_
          refine r_iconst (v := (1 : Int32)) dX10_count_49 rfl ?_
          refine r_isub dX10_count_50 ?_
          refine rV_i (as := [.int (v1 - (1 : Int32))]) (st := []) dX10_count_51 cl_X10_140 (by decide) rfl rfl (m_X10_inPlace S T U V (v1 - (1 : Int32))) (by decide) rfl (Nat.le_of_ble_eq_true rfl) (fun q10 _ => ?_)
          refine rS_i (as := [.int q10]) (st := []) dX10_count_54 cl_X10_151 (m_X10_ones S T U V q10) (by decide) rfl (Nat.le_of_ble_eq_true rfl) (fun q11 _ => ?_)
          exact r_ireturn (ty := .int) dX10_count_57 rfl (nar_i _) rfl
        · skip
          refine r_if (fun h12 => ?_) (fun h12 => ?_)
          · refine r_tableIn (off := 57) (tgt := 58) dX10_count_1 4 h12 (by decide) (by decide) (by decide) (by decide) ?_
            refine r_aload_n dX10_count_58 0 rfl rfl ?_
            refine r_getr dX10_count_59 fl_X10_7 (by decide) rfl rfl (by decide) ?_
            refine r_iconst (v := (1 : Int32)) dX10_count_62 rfl ?_
            refine rm_iald dX10_count_63 (by decide) (by decide) rfl (fun h13 => ?_)
            exact r_ireturn (ty := .int) dX10_count_64 rfl (nar_i _) rfl
          · skip
            refine r_if (fun h14 => ?_) (fun h14 => ?_)
            · refine r_tableIn (off := 64) (tgt := 65) dX10_count_1 5 h14 (by decide) (by decide) (by decide) (by decide) ?_
              refine r_aload_n dX10_count_65 0 rfl rfl ?_
              refine r_bipush (v := (-4 : Int32)) dX10_count_66 rfl ?_
              refine r_iconst (v := (0 : Int32)) dX10_count_68 rfl ?_
              refine rV_i (as := [.int (-4 : Int32), .int (0 : Int32)]) (st := []) dX10_count_69 cl_X10_166 (by decide) rfl rfl (m_X10_lostOf S T U V (-4 : Int32) (0 : Int32)) (by decide) rfl (Nat.le_of_ble_eq_true rfl) (fun q15 _ => ?_)
              exact r_ireturn (ty := .int) dX10_count_72 rfl (nar_i _) rfl
            · skip
              refine r_tableOut (tgt := 73) dX10_count_1 (by have e0 : ¬ v1.toInt = 0 := fun hh => h1 (Int32.toInt_inj.mp hh); have e1 : ¬ v1.toInt = 1 := fun hh => h3 (Int32.toInt_inj.mp hh); have e2 : ¬ v1.toInt = 2 := fun hh => h6 (Int32.toInt_inj.mp hh); have e3 : ¬ v1.toInt = 3 := fun hh => h9 (Int32.toInt_inj.mp hh); have e4 : ¬ v1.toInt = 4 := fun hh => h12 (Int32.toInt_inj.mp hh); have e5 : ¬ v1.toInt = 5 := fun hh => h14 (Int32.toInt_inj.mp hh); omega) (by decide) ?_
              refine r_iconst (v := (-1 : Int32)) dX10_count_73 rfl ?_
              exact r_ireturn (ty := .int) dX10_count_74 rfl (nar_i _) rfl
def f_X10_distance (U : SI) (v1 : Int32) (v2 : Int32) : Option (Int32) :=
  (f_X10_of U v1 (2 : Int32)).bind fun q1 =>
  (f_X10_of U v1 (3 : Int32)).bind fun q2 =>
  (f_X10_of U v2 (2 : Int32)).bind fun q3 =>
  (f_X10_of U v2 (3 : Int32)).bind fun q4 =>
  nm (((q1 + q2) - q3) - q4) fun x5 =>
  if 0 ≤ x5 then
    some x5
  else
    some (-x5)
set_option maxHeartbeats 4000000 in
set_option maxRecDepth 100000 in
theorem m_X10_distance (S : SI) (T : SL) (U : SI) (V : SL) (v1 : Int32) (v2 : Int32) : Meth 2 yX10_distance cX10_distance 4 (some .int) [.ref 78, .int v1, .int v2] (S, T, U, V) (f_X10_distance U v1 v2) (fun a : Int32 => (some (.int a), (S, T, U, V))) := by
  refine meth_of (L := [(0, .ref 78), (1, .int v1), (2, .int v2)]) (by decide +kernel) (Nat.le_of_ble_eq_true rfl) rfl ?_
  rw [f_X10_distance]
  refine r_aload_n dX10_distance_0 0 rfl rfl ?_
  refine r_iload_n dX10_distance_1 1 rfl rfl ?_
  refine r_iconst (v := (2 : Int32)) dX10_distance_2 rfl ?_
  refine rV_i (as := [.int v1, .int (2 : Int32)]) (st := []) dX10_distance_3 cl_X10_67 (by decide) rfl rfl (m_X10_of S T U V v1 (2 : Int32)) (by decide) rfl (Nat.le_of_ble_eq_true rfl) (fun q1 _ => ?_)
  refine r_aload_n dX10_distance_6 0 rfl rfl ?_
  refine r_iload_n dX10_distance_7 1 rfl rfl ?_
  refine r_iconst (v := (3 : Int32)) dX10_distance_8 rfl ?_
  refine rV_i (as := [.int v1, .int (3 : Int32)]) (st := [.int q1]) dX10_distance_9 cl_X10_67 (by decide) rfl rfl (m_X10_of S T U V v1 (3 : Int32)) (by decide) rfl (Nat.le_of_ble_eq_true rfl) (fun q2 _ => ?_)
  refine r_iadd dX10_distance_12 ?_
  refine r_aload_n dX10_distance_13 0 rfl rfl ?_
  refine r_iload_n dX10_distance_14 2 rfl rfl ?_
  refine r_iconst (v := (2 : Int32)) dX10_distance_15 rfl ?_
  refine rV_i (as := [.int v2, .int (2 : Int32)]) (st := [.int (q1 + q2)]) dX10_distance_16 cl_X10_67 (by decide) rfl rfl (m_X10_of S T U V v2 (2 : Int32)) (by decide) rfl (Nat.le_of_ble_eq_true rfl) (fun q3 _ => ?_)
  refine r_isub dX10_distance_19 ?_
  refine r_aload_n dX10_distance_20 0 rfl rfl ?_
  refine r_iload_n dX10_distance_21 2 rfl rfl ?_
  refine r_iconst (v := (3 : Int32)) dX10_distance_22 rfl ?_
  refine rV_i (as := [.int v2, .int (3 : Int32)]) (st := [.int ((q1 + q2) - q3)]) dX10_distance_23 cl_X10_67 (by decide) rfl rfl (m_X10_of S T U V v2 (3 : Int32)) (by decide) rfl (Nat.le_of_ble_eq_true rfl) (fun q4 _ => ?_)
  refine r_isub dX10_distance_26 ?_
  refine r_nmi (fun x5 => ?_)
  refine r_istore_n (L' := [(3, .int x5), (0, .ref 78), (1, .int v1), (2, .int v2)]) dX10_distance_27 rfl (by decide) rfl ?_
  refine r_iload_n dX10_distance_28 0 rfl rfl ?_
  refine r_if_ge (tgt := 37) dX10_distance_29 (by decide) (fun h6 => ?_) (fun h6 => ?_)
  · refine r_iload_n dX10_distance_37 0 rfl rfl ?_
    exact r_ireturn (ty := .int) dX10_distance_38 rfl (nar_i _) rfl
  · refine r_iload_n dX10_distance_32 0 rfl rfl ?_
    refine r_ineg dX10_distance_33 ?_
    refine r_goto (tgt := 38) dX10_distance_34 (by decide) ?_
    exact r_ireturn (ty := .int) dX10_distance_38 rfl (nar_i _) rfl
def f_X10_lowest_2 (v0 : Int32) : Nat → Int32 → Option (Int32)
  | 0, _ => none
  | m_ + 1, v1 =>
    (f_X10_has v0 v1).bind fun q1 =>
    if q1 = 0 then
      (f_X10_lowest_2 v0 m_) (v1 + (1 : Int32))
    else
      some v1
set_option maxHeartbeats 4000000 in
set_option maxRecDepth 100000 in
theorem t_X10_lowest_2 (S : SI) (T : SL) (U : SI) (V : SL) (v0 : Int32) : ∀ (m_ : Nat) (v1 : Int32), Run 2 yX10_lowest cX10_lowest 2 (some .int) none (fun a : Int32 => (some (.int a), (S, T, U, V))) 2 [(0, .int v0), (1, .int v1)] [] (S, T, U, V) (f_X10_lowest_2 v0 m_ v1) := by
  intro m_
  induction m_ with
  | zero =>
    intro v1
    rw [f_X10_lowest_2]
    exact r_none
  | succ m_ ih =>
    intro v1
    rw [f_X10_lowest_2]
    refine r_iload_n dX10_lowest_2 0 rfl rfl ?_
    refine r_iload_n dX10_lowest_3 1 rfl rfl ?_
    refine rS_i (as := [.int v0, .int v1]) (st := []) dX10_lowest_4 cl_X10_136 (m_X10_has S T U V v0 v1) (by decide) rfl (Nat.le_of_ble_eq_true rfl) (fun q1 _ => ?_)
    refine r_if_ne (tgt := 16) dX10_lowest_7 (by decide) (fun h2 => ?_) (fun h2 => ?_)
    · refine r_iinc (v := v1 + (1 : Int32)) (L' := [(1, .int (v1 + (1 : Int32))), (0, .int v0)]) dX10_lowest_10 1 rfl rfl (by decide) rfl ?_
      refine r_goto (tgt := 2) dX10_lowest_13 (by decide) ?_
      exact r_pick [1, 0] rfl (ih (v1 + (1 : Int32)))
    · refine r_iload_n dX10_lowest_16 1 rfl rfl ?_
      exact r_ireturn (ty := .int) dX10_lowest_17 rfl (nar_i _) rfl
def f_X10_lowest (v0 : Int32) : Option (Int32) :=
  f_X10_lowest_2 v0 fu (0 : Int32)
set_option maxHeartbeats 4000000 in
set_option maxRecDepth 100000 in
theorem m_X10_lowest (S : SI) (T : SL) (U : SI) (V : SL) (v0 : Int32) : Meth 2 yX10_lowest cX10_lowest 2 (some .int) [.int v0] (S, T, U, V) (f_X10_lowest v0) (fun a : Int32 => (some (.int a), (S, T, U, V))) := by
  refine meth_of (L := [(0, .int v0)]) (by decide +kernel) (Nat.le_of_ble_eq_true rfl) rfl ?_
  rw [f_X10_lowest]
  refine r_iconst (v := (0 : Int32)) dX10_lowest_0 rfl ?_
  refine r_istore_n (L' := [(1, .int (0 : Int32)), (0, .int v0)]) dX10_lowest_1 rfl (by decide) rfl ?_
  exact r_pick [1, 0] rfl (t_X10_lowest_2 S T U V v0 fu (0 : Int32))
def f_X10_worthBy (U : SI) (v1 : Int32) (v2 : Int32) (v3 : Int32) : Option (Int32) :=
  if v2 = v3 then
    gd (inB (v1 &&& (((1 : Int32) <<< (v2 &&& 31)) ^^^ (-1 : Int32))) 4096) <|
    some (U 82 (ix (v1 &&& (((1 : Int32) <<< (v2 &&& 31)) ^^^ (-1 : Int32)))))
  else
    gd (inB ((v1 &&& (((1 : Int32) <<< (v2 &&& 31)) ^^^ (-1 : Int32))) &&& (((1 : Int32) <<< (v3 &&& 31)) ^^^ (-1 : Int32))) 4096) <|
    (f_X10_distance U v2 v3).bind fun q4 =>
    some (((U 82 (ix ((v1 &&& (((1 : Int32) <<< (v2 &&& 31)) ^^^ (-1 : Int32))) &&& (((1 : Int32) <<< (v3 &&& 31)) ^^^ (-1 : Int32))))) + (10000 : Int32)) - q4)
set_option maxHeartbeats 4000000 in
set_option maxRecDepth 100000 in
theorem m_X10_worthBy (S : SI) (T : SL) (U : SI) (V : SL) (v1 : Int32) (v2 : Int32) (v3 : Int32) : Meth 3 yX10_worthBy cX10_worthBy 4 (some .int) [.ref 78, .int v1, .int v2, .int v3] (S, T, U, V) (f_X10_worthBy U v1 v2 v3) (fun a : Int32 => (some (.int a), (S, T, U, V))) := by
  refine meth_of (L := [(0, .ref 78), (1, .int v1), (2, .int v2), (3, .int v3)]) (by decide +kernel) (Nat.le_of_ble_eq_true rfl) rfl ?_
  rw [f_X10_worthBy]
  refine r_iload_n dX10_worthBy_0 2 rfl rfl ?_
  refine r_iload_n dX10_worthBy_1 3 rfl rfl ?_
  refine r_icmp_ne (tgt := 18) dX10_worthBy_2 (by decide) (fun h1 => ?_) (fun h1 => ?_)
  · refine r_aload_n dX10_worthBy_5 0 rfl rfl ?_
    refine r_getr dX10_worthBy_6 fl_X10_19 (by decide) rfl rfl (by decide) ?_
    refine r_iload_n dX10_worthBy_9 1 rfl rfl ?_
    refine r_iconst (v := (1 : Int32)) dX10_worthBy_10 rfl ?_
    refine r_iload_n dX10_worthBy_11 2 rfl rfl ?_
    refine r_ishl dX10_worthBy_12 ?_
    refine r_iconst (v := (-1 : Int32)) dX10_worthBy_13 rfl ?_
    refine r_ixor dX10_worthBy_14 ?_
    refine r_iand dX10_worthBy_15 ?_
    refine rm_iald dX10_worthBy_16 (by decide) (by decide) rfl (fun h2 => ?_)
    exact r_ireturn (ty := .int) dX10_worthBy_17 rfl (nar_i _) rfl
  · refine r_aload_n dX10_worthBy_18 0 rfl rfl ?_
    refine r_getr dX10_worthBy_19 fl_X10_19 (by decide) rfl rfl (by decide) ?_
    refine r_iload_n dX10_worthBy_22 1 rfl rfl ?_
    refine r_iconst (v := (1 : Int32)) dX10_worthBy_23 rfl ?_
    refine r_iload_n dX10_worthBy_24 2 rfl rfl ?_
    refine r_ishl dX10_worthBy_25 ?_
    refine r_iconst (v := (-1 : Int32)) dX10_worthBy_26 rfl ?_
    refine r_ixor dX10_worthBy_27 ?_
    refine r_iand dX10_worthBy_28 ?_
    refine r_iconst (v := (1 : Int32)) dX10_worthBy_29 rfl ?_
    refine r_iload_n dX10_worthBy_30 3 rfl rfl ?_
    refine r_ishl dX10_worthBy_31 ?_
    refine r_iconst (v := (-1 : Int32)) dX10_worthBy_32 rfl ?_
    refine r_ixor dX10_worthBy_33 ?_
    refine r_iand dX10_worthBy_34 ?_
    refine rm_iald dX10_worthBy_35 (by decide) (by decide) rfl (fun h3 => ?_)
    refine r_sipush (v := (10000 : Int32)) dX10_worthBy_36 rfl ?_
    refine r_iadd dX10_worthBy_39 ?_
    refine r_aload_n dX10_worthBy_40 0 rfl rfl ?_
    refine r_iload_n dX10_worthBy_41 2 rfl rfl ?_
    refine r_iload_n dX10_worthBy_42 3 rfl rfl ?_
    refine rV_i (as := [.int v2, .int v3]) (st := [.int ((U 82 (ix ((v1 &&& (((1 : Int32) <<< (v2 &&& 31)) ^^^ (-1 : Int32))) &&& (((1 : Int32) <<< (v3 &&& 31)) ^^^ (-1 : Int32))))) + (10000 : Int32))]) dX10_worthBy_43 cl_X10_169 (by decide) rfl rfl (m_X10_distance S T U V v2 v3) (by decide) rfl (Nat.le_of_ble_eq_true rfl) (fun q4 _ => ?_)
    refine r_isub dX10_worthBy_46 ?_
    exact r_ireturn (ty := .int) dX10_worthBy_47 rfl (nar_i _) rfl
def f_X10_findPairs_51 (v2 : Int32) (v3 : Int32) (ke110 : SI → Option (SI)) : Nat → Int32 → SI → Option (SI)
  | 0, _, _ => none
  | m_ + 1, v4, U =>
    gd (inB (0 : Int32) 205) <|
    if (U 79 (ix (0 : Int32))) ≤ v4 then
      ke110 U
    else
      (f_X10_has v2 v4).bind fun q13 =>
      if q13 = 0 then
        (f_X10_findPairs_51 v2 v3 ke110 m_) (v4 + (1 : Int32)) U
      else
        (f_X10_bars U v3 v4).bind fun q15 =>
        if q15 = 0 then
          gd (inB v2 4096) <|
          (f_X10_worthBy U v2 v3 v4).bind fun q18 =>
          (f_X10_more (U 82 (ix v2)) q18).bind fun q19 =>
          gd (inB v2 4096) <|
          nm (up2 U 82 (ix v2) q19) fun U21 =>
          (f_X10_findPairs_51 v2 v3 ke110 m_) (v4 + (1 : Int32)) U21
        else
          (f_X10_findPairs_51 v2 v3 ke110 m_) (v4 + (1 : Int32)) U
set_option maxHeartbeats 4000000 in
set_option maxRecDepth 100000 in
theorem t_X10_findPairs_51 (S : SI) (T : SL) (V : SL) (v1 : Int32) (v2 : Int32) (v3 : Int32) (ke110 : SI → Option (SI)) (hke110 : ∀ (U' : SI), Run 4 yX10_findPairs cX10_findPairs 6 none none (fun a : SI => (none, (S, T, a, V))) 110 [(0, .ref 78), (1, .int v1), (2, .int v2)] [] (S, T, U', V) (ke110 U')) : ∀ (m_ : Nat) (v4 : Int32) (U : SI), Run 4 yX10_findPairs cX10_findPairs 6 none none (fun a : SI => (none, (S, T, a, V))) 51 [(0, .ref 78), (1, .int v1), (2, .int v2), (3, .int v3), (4, .int v4)] [] (S, T, U, V) (f_X10_findPairs_51 v2 v3 ke110 m_ v4 U) := by
  intro m_
  induction m_ with
  | zero =>
    intro v4 U
    rw [f_X10_findPairs_51]
    exact r_none
  | succ m_ ih =>
    intro v4 U
    rw [f_X10_findPairs_51]
    refine r_iload dX10_findPairs_51 4 rfl ?_
    refine r_aload_n dX10_findPairs_53 0 rfl rfl ?_
    refine r_getr dX10_findPairs_54 fl_X10_7 (by decide) rfl rfl (by decide) ?_
    refine r_iconst (v := (0 : Int32)) dX10_findPairs_57 rfl ?_
    refine rm_iald dX10_findPairs_58 (by decide) (by decide) rfl (fun h11 => ?_)
    refine r_icmp_ge (tgt := 110) dX10_findPairs_59 (by decide) (fun h12 => ?_) (fun h12 => ?_)
    · exact r_pick [0, 1, 2] rfl (hke110 U)
    · refine r_iload_n dX10_findPairs_62 2 rfl rfl ?_
      refine r_iload dX10_findPairs_63 4 rfl ?_
      refine rS_i (as := [.int v2, .int v4]) (st := []) dX10_findPairs_65 cl_X10_136 (m_X10_has S T U V v2 v4) (by decide) rfl (Nat.le_of_ble_eq_true rfl) (fun q13 _ => ?_)
      refine r_if_eq (tgt := 104) dX10_findPairs_68 (by decide) (fun h14 => ?_) (fun h14 => ?_)
      · refine r_iinc (v := v4 + (1 : Int32)) (L' := [(4, .int (v4 + (1 : Int32))), (0, .ref 78), (1, .int v1), (2, .int v2), (3, .int v3)]) dX10_findPairs_104 4 rfl rfl (by decide) rfl ?_
        refine r_goto (tgt := 51) dX10_findPairs_107 (by decide) ?_
        exact r_pick [1, 2, 3, 4, 0] rfl (ih (v4 + (1 : Int32)) U)
      · refine r_aload_n dX10_findPairs_71 0 rfl rfl ?_
        refine r_iload_n dX10_findPairs_72 3 rfl rfl ?_
        refine r_iload dX10_findPairs_73 4 rfl ?_
        refine rV_i (as := [.int v3, .int v4]) (st := []) dX10_findPairs_75 cl_X10_163 (by decide) rfl rfl (m_X10_bars S T U V v3 v4) (by decide) rfl (Nat.le_of_ble_eq_true rfl) (fun q15 _ => ?_)
        refine r_if_ne (tgt := 104) dX10_findPairs_78 (by decide) (fun h16 => ?_) (fun h16 => ?_)
        · refine r_aload_n dX10_findPairs_81 0 rfl rfl ?_
          refine r_getr dX10_findPairs_82 fl_X10_19 (by decide) rfl rfl (by decide) ?_
          refine r_iload_n dX10_findPairs_85 2 rfl rfl ?_
          refine r_aload_n dX10_findPairs_86 0 rfl rfl ?_
          refine r_getr dX10_findPairs_87 fl_X10_19 (by decide) rfl rfl (by decide) ?_
          refine r_iload_n dX10_findPairs_90 2 rfl rfl ?_
          refine rm_iald dX10_findPairs_91 (by decide) (by decide) rfl (fun h17 => ?_)
          refine r_aload_n dX10_findPairs_92 0 rfl rfl ?_
          refine r_iload_n dX10_findPairs_93 2 rfl rfl ?_
          refine r_iload_n dX10_findPairs_94 3 rfl rfl ?_
          refine r_iload dX10_findPairs_95 4 rfl ?_
          refine rV_i (as := [.int v2, .int v3, .int v4]) (st := [.int (U 82 (ix v2)), .int v2, .ref 82]) dX10_findPairs_97 cl_X10_175 (by decide) rfl rfl (m_X10_worthBy S T U V v2 v3 v4) (by decide) rfl (Nat.le_of_ble_eq_true rfl) (fun q18 _ => ?_)
          refine rS_i (as := [.int (U 82 (ix v2)), .int q18]) (st := [.int v2, .ref 82]) dX10_findPairs_100 cl_X10_154 (m_X10_more S T U V (U 82 (ix v2)) q18) (by decide) rfl (Nat.le_of_ble_eq_true rfl) (fun q19 _ => ?_)
          refine rm_iast dX10_findPairs_103 (by decide) (by decide) rfl (fun h20 => ?_)
          refine r_nmU (fun U21 => ?_)
          refine r_iinc (v := v4 + (1 : Int32)) (L' := [(4, .int (v4 + (1 : Int32))), (0, .ref 78), (1, .int v1), (2, .int v2), (3, .int v3)]) dX10_findPairs_104 4 rfl rfl (by decide) rfl ?_
          refine r_goto (tgt := 51) dX10_findPairs_107 (by decide) ?_
          exact r_pick [1, 2, 3, 4, 0] rfl (ih (v4 + (1 : Int32)) U21)
        · refine r_iinc (v := v4 + (1 : Int32)) (L' := [(4, .int (v4 + (1 : Int32))), (0, .ref 78), (1, .int v1), (2, .int v2), (3, .int v3)]) dX10_findPairs_104 4 rfl rfl (by decide) rfl ?_
          refine r_goto (tgt := 51) dX10_findPairs_107 (by decide) ?_
          exact r_pick [1, 2, 3, 4, 0] rfl (ih (v4 + (1 : Int32)) U)
def f_X10_findPairs_110 (U : SI) (v2 : Int32) (kh15 : Int32 → SI → Option (SI)) : Option (SI) :=
  kh15 (v2 + (1 : Int32)) U
set_option maxHeartbeats 4000000 in
set_option maxRecDepth 100000 in
theorem t_X10_findPairs_110 (S : SI) (T : SL) (U : SI) (V : SL) (v1 : Int32) (v2 : Int32) (kh15 : Int32 → SI → Option (SI)) (hkh15 : ∀ (w2 : Int32) (U' : SI), Run 4 yX10_findPairs cX10_findPairs 6 none none (fun a : SI => (none, (S, T, a, V))) 15 [(0, .ref 78), (1, .int v1), (2, .int w2)] [] (S, T, U', V) (kh15 w2 U')) : Run 4 yX10_findPairs cX10_findPairs 6 none none (fun a : SI => (none, (S, T, a, V))) 110 [(0, .ref 78), (1, .int v1), (2, .int v2)] [] (S, T, U, V) (f_X10_findPairs_110 U v2 kh15) := by
  rw [f_X10_findPairs_110]
  refine r_iinc (v := v2 + (1 : Int32)) (L' := [(2, .int (v2 + (1 : Int32))), (0, .ref 78), (1, .int v1)]) dX10_findPairs_110 2 rfl rfl (by decide) rfl ?_
  refine r_goto (tgt := 15) dX10_findPairs_113 (by decide) ?_
  exact r_pick [1, 2, 0] rfl (hkh15 (v2 + (1 : Int32)) U)
def f_X10_findPairs_15 (v1 : Int32) (ke116 : SI → Option (SI)) : Nat → Int32 → SI → Option (SI)
  | 0, _, _ => none
  | m_ + 1, v2, U =>
    if v1 < v2 then
      ke116 U
    else
      if (v2 &&& (v1 ^^^ (-1 : Int32))) = 0 then
        (f_X10_lowest v2).bind fun q6 =>
        (f_X10_worthBy U v2 q6 q6).bind fun q7 =>
        gd (inB v2 4096) <|
        nm (up2 U 82 (ix v2) q7) fun U9 =>
        nm (q6 + (1 : Int32)) fun x10 =>
        f_X10_findPairs_51 v2 q6 (fun Uo => f_X10_findPairs_110 Uo v2 (f_X10_findPairs_15 v1 ke116 m_)) fu x10 U9
      else
        f_X10_findPairs_110 U v2 (f_X10_findPairs_15 v1 ke116 m_)
set_option maxHeartbeats 4000000 in
set_option maxRecDepth 100000 in
theorem t_X10_findPairs_15 (S : SI) (T : SL) (V : SL) (v1 : Int32) (ke116 : SI → Option (SI)) (hke116 : ∀ (U' : SI), Run 4 yX10_findPairs cX10_findPairs 6 none none (fun a : SI => (none, (S, T, a, V))) 116 [(0, .ref 78), (1, .int v1)] [] (S, T, U', V) (ke116 U')) : ∀ (m_ : Nat) (v2 : Int32) (U : SI), Run 4 yX10_findPairs cX10_findPairs 6 none none (fun a : SI => (none, (S, T, a, V))) 15 [(0, .ref 78), (1, .int v1), (2, .int v2)] [] (S, T, U, V) (f_X10_findPairs_15 v1 ke116 m_ v2 U) := by
  intro m_
  induction m_ with
  | zero =>
    intro v2 U
    rw [f_X10_findPairs_15]
    exact r_none
  | succ m_ ih =>
    intro v2 U
    rw [f_X10_findPairs_15]
    refine r_iload_n dX10_findPairs_15 2 rfl rfl ?_
    refine r_iload_n dX10_findPairs_16 1 rfl rfl ?_
    refine r_icmp_gt (tgt := 116) dX10_findPairs_17 (by decide) (fun h4 => ?_) (fun h4 => ?_)
    · exact r_pick [0, 1] rfl (hke116 U)
    · refine r_iload_n dX10_findPairs_20 2 rfl rfl ?_
      refine r_iload_n dX10_findPairs_21 1 rfl rfl ?_
      refine r_iconst (v := (-1 : Int32)) dX10_findPairs_22 rfl ?_
      refine r_ixor dX10_findPairs_23 ?_
      refine r_iand dX10_findPairs_24 ?_
      refine r_if_ne (tgt := 110) dX10_findPairs_25 (by decide) (fun h5 => ?_) (fun h5 => ?_)
      · refine r_iload_n dX10_findPairs_28 2 rfl rfl ?_
        refine rS_i (as := [.int v2]) (st := []) dX10_findPairs_29 cl_X10_172 (m_X10_lowest S T U V v2) (by decide) rfl (Nat.le_of_ble_eq_true rfl) (fun q6 _ => ?_)
        refine r_istore_n (L' := [(3, .int q6), (0, .ref 78), (1, .int v1), (2, .int v2)]) dX10_findPairs_32 rfl (by decide) rfl ?_
        refine r_aload_n dX10_findPairs_33 1 rfl rfl ?_
        refine r_getr dX10_findPairs_34 fl_X10_19 (by decide) rfl rfl (by decide) ?_
        refine r_iload_n dX10_findPairs_37 3 rfl rfl ?_
        refine r_aload_n dX10_findPairs_38 1 rfl rfl ?_
        refine r_iload_n dX10_findPairs_39 3 rfl rfl ?_
        refine r_iload_n dX10_findPairs_40 0 rfl rfl ?_
        refine r_iload_n dX10_findPairs_41 0 rfl rfl ?_
        refine rV_i (as := [.int v2, .int q6, .int q6]) (st := [.int v2, .ref 82]) dX10_findPairs_42 cl_X10_175 (by decide) rfl rfl (m_X10_worthBy S T U V v2 q6 q6) (by decide) rfl (Nat.le_of_ble_eq_true rfl) (fun q7 _ => ?_)
        refine rm_iast dX10_findPairs_45 (by decide) (by decide) rfl (fun h8 => ?_)
        refine r_nmU (fun U9 => ?_)
        refine r_iload_n dX10_findPairs_46 0 rfl rfl ?_
        refine r_iconst (v := (1 : Int32)) dX10_findPairs_47 rfl ?_
        refine r_iadd dX10_findPairs_48 ?_
        refine r_nmi (fun x10 => ?_)
        refine r_istore (L' := [(4, .int x10), (3, .int q6), (0, .ref 78), (1, .int v1), (2, .int v2)]) dX10_findPairs_49 (by decide) rfl ?_
        exact r_pick [2, 3, 4, 1, 0] rfl (t_X10_findPairs_51 S T V v1 v2 q6 (fun Uo => f_X10_findPairs_110 Uo v2 (f_X10_findPairs_15 v1 ke116 m_)) (fun Uo => r_pick [0, 1, 2] rfl (t_X10_findPairs_110 S T Uo V v1 v2 (f_X10_findPairs_15 v1 ke116 m_) ih)) fu x10 U9)
      · exact r_pick [0, 1, 2] rfl (t_X10_findPairs_110 S T U V v1 v2 (f_X10_findPairs_15 v1 ke116 m_) ih)
def f_X10_findPairs_118 (ke138 : SI → Option (SI)) : Nat → Int32 → SI → Option (SI)
  | 0, _, _ => none
  | m_ + 1, v2, U =>
    if (12 : Int32) ≤ v2 then
      ke138 U
    else
      gd (inB v2 12) <|
      nm (up2 U 83 (ix v2) (-4 : Int32)) fun U24 =>
      (f_X10_findPairs_118 ke138 m_) (v2 + (1 : Int32)) U24
set_option maxHeartbeats 4000000 in
set_option maxRecDepth 100000 in
theorem t_X10_findPairs_118 (S : SI) (T : SL) (V : SL) (v1 : Int32) (ke138 : SI → Option (SI)) (hke138 : ∀ (U' : SI), Run 4 yX10_findPairs cX10_findPairs 6 none none (fun a : SI => (none, (S, T, a, V))) 138 [(0, .ref 78), (1, .int v1)] [] (S, T, U', V) (ke138 U')) : ∀ (m_ : Nat) (v2 : Int32) (U : SI), Run 4 yX10_findPairs cX10_findPairs 6 none none (fun a : SI => (none, (S, T, a, V))) 118 [(0, .ref 78), (1, .int v1), (2, .int v2)] [] (S, T, U, V) (f_X10_findPairs_118 ke138 m_ v2 U) := by
  intro m_
  induction m_ with
  | zero =>
    intro v2 U
    rw [f_X10_findPairs_118]
    exact r_none
  | succ m_ ih =>
    intro v2 U
    rw [f_X10_findPairs_118]
    refine r_iload_n dX10_findPairs_118 2 rfl rfl ?_
    refine r_bipush (v := (12 : Int32)) dX10_findPairs_119 rfl ?_
    refine r_icmp_ge (tgt := 138) dX10_findPairs_121 (by decide) (fun h22 => ?_) (fun h22 => ?_)
    · exact r_pick [0, 1] rfl (hke138 U)
    · refine r_aload_n dX10_findPairs_124 0 rfl rfl ?_
      refine r_getr dX10_findPairs_125 fl_X10_22 (by decide) rfl rfl (by decide) ?_
      refine r_iload_n dX10_findPairs_128 2 rfl rfl ?_
      refine r_bipush (v := (-4 : Int32)) dX10_findPairs_129 rfl ?_
      refine rm_iast dX10_findPairs_131 (by decide) (by decide) rfl (fun h23 => ?_)
      refine r_nmU (fun U24 => ?_)
      refine r_iinc (v := v2 + (1 : Int32)) (L' := [(2, .int (v2 + (1 : Int32))), (0, .ref 78), (1, .int v1)]) dX10_findPairs_132 2 rfl rfl (by decide) rfl ?_
      refine r_goto (tgt := 118) dX10_findPairs_135 (by decide) ?_
      exact r_pick [1, 2, 0] rfl (ih (v2 + (1 : Int32)) U24)
def f_X10_findPairs_211 (v5 : Int32) (s0 : Int32) (kh162 : Int32 → Int32 → Option (SI)) : Option (SI) :=
  kh162 s0 (v5 + (-1 : Int32))
set_option maxHeartbeats 4000000 in
set_option maxRecDepth 100000 in
theorem t_X10_findPairs_211 (S : SI) (T : SL) (U : SI) (V : SL) (v2 : Int32) (v3 : Int32) (v5 : Int32) (s0 : Int32) (kh162 : Int32 → Int32 → Option (SI)) (hkh162 : ∀ (w4 : Int32) (w5 : Int32), Run 4 yX10_findPairs cX10_findPairs 6 none none (fun a : SI => (none, (S, T, a, V))) 162 [(0, .ref 78), (2, .int v2), (3, .int v3), (4, .int w4), (5, .int w5)] [] (S, T, U, V) (kh162 w4 w5)) : Run 4 yX10_findPairs cX10_findPairs 6 none none (fun a : SI => (none, (S, T, a, V))) 211 [(0, .ref 78), (2, .int v2), (3, .int v3), (5, .int v5)] [.int s0] (S, T, U, V) (f_X10_findPairs_211 v5 s0 kh162) := by
  rw [f_X10_findPairs_211]
  refine r_istore (L' := [(4, .int s0), (0, .ref 78), (2, .int v2), (3, .int v3), (5, .int v5)]) dX10_findPairs_211 (by decide) rfl ?_
  refine r_iinc (v := v5 + (-1 : Int32)) (L' := [(5, .int (v5 + (-1 : Int32))), (4, .int s0), (0, .ref 78), (2, .int v2), (3, .int v3)]) dX10_findPairs_213 4 rfl rfl (by decide) rfl ?_
  refine r_goto (tgt := 162) dX10_findPairs_216 (by decide) ?_
  exact r_pick [2, 3, 4, 1, 0] rfl (hkh162 s0 (v5 + (-1 : Int32)))
def f_X10_findPairs_162 (U : SI) (v2 : Int32) (v3 : Int32) (ke219 : Int32 → Option (SI)) : Nat → Int32 → Int32 → Option (SI)
  | 0, _, _ => none
  | m_ + 1, v4, v5 =>
    if v5 ≤ v3 then
      ke219 v4
    else
      (f_X10_has v2 v5).bind fun q30 =>
      if q30 = 0 then
        f_X10_findPairs_211 v5 v4 (f_X10_findPairs_162 U v2 v3 ke219 m_)
      else
        (f_X10_bars U v3 v5).bind fun q32 =>
        if q32 = 0 then
          (f_X10_worthBy U v2 v3 v5).bind fun q34 =>
          gd (inB v2 4096) <|
          if q34 = (U 82 (ix v2)) then
            f_X10_findPairs_211 v5 v5 (f_X10_findPairs_162 U v2 v3 ke219 m_)
          else
            f_X10_findPairs_211 v5 v4 (f_X10_findPairs_162 U v2 v3 ke219 m_)
        else
          f_X10_findPairs_211 v5 v4 (f_X10_findPairs_162 U v2 v3 ke219 m_)
set_option maxHeartbeats 4000000 in
set_option maxRecDepth 100000 in
theorem t_X10_findPairs_162 (S : SI) (T : SL) (U : SI) (V : SL) (v2 : Int32) (v3 : Int32) (ke219 : Int32 → Option (SI)) (hke219 : ∀ (w4 : Int32), Run 4 yX10_findPairs cX10_findPairs 6 none none (fun a : SI => (none, (S, T, a, V))) 219 [(0, .ref 78), (2, .int v2), (3, .int v3), (4, .int w4)] [] (S, T, U, V) (ke219 w4)) : ∀ (m_ : Nat) (v4 : Int32) (v5 : Int32), Run 4 yX10_findPairs cX10_findPairs 6 none none (fun a : SI => (none, (S, T, a, V))) 162 [(0, .ref 78), (2, .int v2), (3, .int v3), (4, .int v4), (5, .int v5)] [] (S, T, U, V) (f_X10_findPairs_162 U v2 v3 ke219 m_ v4 v5) := by
  intro m_
  induction m_ with
  | zero =>
    intro v4 v5
    rw [f_X10_findPairs_162]
    exact r_none
  | succ m_ ih =>
    intro v4 v5
    rw [f_X10_findPairs_162]
    refine r_iload dX10_findPairs_162 4 rfl ?_
    refine r_iload_n dX10_findPairs_164 2 rfl rfl ?_
    refine r_icmp_le (tgt := 219) dX10_findPairs_165 (by decide) (fun h29 => ?_) (fun h29 => ?_)
    · exact r_pick [0, 1, 2, 3] rfl (hke219 v4)
    · refine r_iload_n dX10_findPairs_168 1 rfl rfl ?_
      refine r_iload dX10_findPairs_169 4 rfl ?_
      refine rS_i (as := [.int v2, .int v5]) (st := []) dX10_findPairs_171 cl_X10_136 (m_X10_has S T U V v2 v5) (by decide) rfl (Nat.le_of_ble_eq_true rfl) (fun q30 _ => ?_)
      refine r_if_eq (tgt := 209) dX10_findPairs_174 (by decide) (fun h31 => ?_) (fun h31 => ?_)
      · refine r_iload dX10_findPairs_209 3 rfl ?_
        exact r_pick [0, 1, 2, 4] rfl (t_X10_findPairs_211 S T U V v2 v3 v5 v4 (f_X10_findPairs_162 U v2 v3 ke219 m_) ih)
      · refine r_aload_n dX10_findPairs_177 0 rfl rfl ?_
        refine r_iload_n dX10_findPairs_178 2 rfl rfl ?_
        refine r_iload dX10_findPairs_179 4 rfl ?_
        refine rV_i (as := [.int v3, .int v5]) (st := []) dX10_findPairs_181 cl_X10_163 (by decide) rfl rfl (m_X10_bars S T U V v3 v5) (by decide) rfl (Nat.le_of_ble_eq_true rfl) (fun q32 _ => ?_)
        refine r_if_ne (tgt := 209) dX10_findPairs_184 (by decide) (fun h33 => ?_) (fun h33 => ?_)
        · refine r_aload_n dX10_findPairs_187 0 rfl rfl ?_
          refine r_iload_n dX10_findPairs_188 1 rfl rfl ?_
          refine r_iload_n dX10_findPairs_189 2 rfl rfl ?_
          refine r_iload dX10_findPairs_190 4 rfl ?_
          refine rV_i (as := [.int v2, .int v3, .int v5]) (st := []) dX10_findPairs_192 cl_X10_175 (by decide) rfl rfl (m_X10_worthBy S T U V v2 v3 v5) (by decide) rfl (Nat.le_of_ble_eq_true rfl) (fun q34 _ => ?_)
          refine r_aload_n dX10_findPairs_195 0 rfl rfl ?_
          refine r_getr dX10_findPairs_196 fl_X10_19 (by decide) rfl rfl (by decide) ?_
          refine r_iload_n dX10_findPairs_199 1 rfl rfl ?_
          refine rm_iald dX10_findPairs_200 (by decide) (by decide) rfl (fun h35 => ?_)
          refine r_icmp_ne (tgt := 209) dX10_findPairs_201 (by decide) (fun h36 => ?_) (fun h36 => ?_)
          · refine r_iload dX10_findPairs_204 4 rfl ?_
            refine r_goto (tgt := 211) dX10_findPairs_206 (by decide) ?_
            exact r_pick [0, 1, 2, 4] rfl (t_X10_findPairs_211 S T U V v2 v3 v5 v5 (f_X10_findPairs_162 U v2 v3 ke219 m_) ih)
          · refine r_iload dX10_findPairs_209 3 rfl ?_
            exact r_pick [0, 1, 2, 4] rfl (t_X10_findPairs_211 S T U V v2 v3 v5 v4 (f_X10_findPairs_162 U v2 v3 ke219 m_) ih)
        · refine r_iload dX10_findPairs_209 3 rfl ?_
          exact r_pick [0, 1, 2, 4] rfl (t_X10_findPairs_211 S T U V v2 v3 v5 v4 (f_X10_findPairs_162 U v2 v3 ke219 m_) ih)
def f_X10_findPairs_219 (U : SI) (v2 : Int32) (v3 : Int32) (v4 : Int32) (kh140 : Int32 → SI → Option (SI)) : Option (SI) :=
  nm (v2 &&& ((((1 : Int32) <<< (v3 &&& 31)) ^^^ (-1 : Int32)) &&& (((1 : Int32) <<< (v4 &&& 31)) ^^^ (-1 : Int32)))) fun x37 =>
  if v4 = v3 then
    kh140 x37 U
  else
    gd (inB v3 12) <|
    nm (up2 U 83 (ix v3) v4) fun U40 =>
    gd (inB v4 12) <|
    nm (up2 U40 83 (ix v4) v3) fun U42 =>
    kh140 x37 U42
set_option maxHeartbeats 4000000 in
set_option maxRecDepth 100000 in
theorem t_X10_findPairs_219 (S : SI) (T : SL) (U : SI) (V : SL) (v2 : Int32) (v3 : Int32) (v4 : Int32) (kh140 : Int32 → SI → Option (SI)) (hkh140 : ∀ (w2 : Int32) (U' : SI), Run 4 yX10_findPairs cX10_findPairs 6 none none (fun a : SI => (none, (S, T, a, V))) 140 [(0, .ref 78), (2, .int w2)] [] (S, T, U', V) (kh140 w2 U')) : Run 4 yX10_findPairs cX10_findPairs 6 none none (fun a : SI => (none, (S, T, a, V))) 219 [(0, .ref 78), (2, .int v2), (3, .int v3), (4, .int v4)] [] (S, T, U, V) (f_X10_findPairs_219 U v2 v3 v4 kh140) := by
  rw [f_X10_findPairs_219]
  refine r_iload_n dX10_findPairs_219 1 rfl rfl ?_
  refine r_iconst (v := (1 : Int32)) dX10_findPairs_220 rfl ?_
  refine r_iload_n dX10_findPairs_221 2 rfl rfl ?_
  refine r_ishl dX10_findPairs_222 ?_
  refine r_iconst (v := (-1 : Int32)) dX10_findPairs_223 rfl ?_
  refine r_ixor dX10_findPairs_224 ?_
  refine r_iconst (v := (1 : Int32)) dX10_findPairs_225 rfl ?_
  refine r_iload dX10_findPairs_226 3 rfl ?_
  refine r_ishl dX10_findPairs_228 ?_
  refine r_iconst (v := (-1 : Int32)) dX10_findPairs_229 rfl ?_
  refine r_ixor dX10_findPairs_230 ?_
  refine r_iand dX10_findPairs_231 ?_
  refine r_iand dX10_findPairs_232 ?_
  refine r_nmi (fun x37 => ?_)
  refine r_istore_n (L' := [(2, .int x37), (0, .ref 78), (3, .int v3), (4, .int v4)]) dX10_findPairs_233 rfl (by decide) rfl ?_
  refine r_iload dX10_findPairs_234 3 rfl ?_
  refine r_iload_n dX10_findPairs_236 2 rfl rfl ?_
  refine r_icmp_eq (tgt := 256) dX10_findPairs_237 (by decide) (fun h38 => ?_) (fun h38 => ?_)
  · refine r_goto (tgt := 140) dX10_findPairs_256 (by decide) ?_
    exact r_pick [1, 0] rfl (hkh140 x37 U)
  · refine r_aload_n dX10_findPairs_240 1 rfl rfl ?_
    refine r_getr dX10_findPairs_241 fl_X10_22 (by decide) rfl rfl (by decide) ?_
    refine r_iload_n dX10_findPairs_244 2 rfl rfl ?_
    refine r_iload dX10_findPairs_245 3 rfl ?_
    refine rm_iast dX10_findPairs_247 (by decide) (by decide) rfl (fun h39 => ?_)
    refine r_nmU (fun U40 => ?_)
    refine r_aload_n dX10_findPairs_248 1 rfl rfl ?_
    refine r_getr dX10_findPairs_249 fl_X10_22 (by decide) rfl rfl (by decide) ?_
    refine r_iload dX10_findPairs_252 3 rfl ?_
    refine r_iload_n dX10_findPairs_254 2 rfl rfl ?_
    refine rm_iast dX10_findPairs_255 (by decide) (by decide) rfl (fun h41 => ?_)
    refine r_nmU (fun U42 => ?_)
    refine r_goto (tgt := 140) dX10_findPairs_256 (by decide) ?_
    exact r_pick [1, 0] rfl (hkh140 x37 U42)
def f_X10_findPairs_140  : Nat → Int32 → SI → Option (SI)
  | 0, _, _ => none
  | m_ + 1, v2, U =>
    if v2 = 0 then
      some U
    else
      (f_X10_lowest v2).bind fun q26 =>
      gd (inB (0 : Int32) 205) <|
      nm ((U 79 (ix (0 : Int32))) - (1 : Int32)) fun x28 =>
      f_X10_findPairs_162 U v2 q26 (fun o4 => f_X10_findPairs_219 U v2 q26 o4 (f_X10_findPairs_140 m_)) fu q26 x28
set_option maxHeartbeats 4000000 in
set_option maxRecDepth 100000 in
theorem t_X10_findPairs_140 (S : SI) (T : SL) (V : SL) : ∀ (m_ : Nat) (v2 : Int32) (U : SI), Run 4 yX10_findPairs cX10_findPairs 6 none none (fun a : SI => (none, (S, T, a, V))) 140 [(0, .ref 78), (2, .int v2)] [] (S, T, U, V) (f_X10_findPairs_140 m_ v2 U) := by
  intro m_
  induction m_ with
  | zero =>
    intro v2 U
    rw [f_X10_findPairs_140]
    exact r_none
  | succ m_ ih =>
    intro v2 U
    rw [f_X10_findPairs_140]
    refine r_iload_n dX10_findPairs_140 1 rfl rfl ?_
    refine r_if_eq (tgt := 259) dX10_findPairs_141 (by decide) (fun h25 => ?_) (fun h25 => ?_)
    · exact r_return dX10_findPairs_259 rfl rfl
    · refine r_iload_n dX10_findPairs_144 1 rfl rfl ?_
      refine rS_i (as := [.int v2]) (st := []) dX10_findPairs_145 cl_X10_172 (m_X10_lowest S T U V v2) (by decide) rfl (Nat.le_of_ble_eq_true rfl) (fun q26 _ => ?_)
      refine r_istore_n (L' := [(3, .int q26), (0, .ref 78), (2, .int v2)]) dX10_findPairs_148 rfl (by decide) rfl ?_
      refine r_iload_n dX10_findPairs_149 0 rfl rfl ?_
      refine r_istore (L' := [(4, .int q26), (3, .int q26), (0, .ref 78), (2, .int v2)]) dX10_findPairs_150 (by decide) rfl ?_
      refine r_aload_n dX10_findPairs_152 2 rfl rfl ?_
      refine r_getr dX10_findPairs_153 fl_X10_7 (by decide) rfl rfl (by decide) ?_
      refine r_iconst (v := (0 : Int32)) dX10_findPairs_156 rfl ?_
      refine rm_iald dX10_findPairs_157 (by decide) (by decide) rfl (fun h27 => ?_)
      refine r_iconst (v := (1 : Int32)) dX10_findPairs_158 rfl ?_
      refine r_isub dX10_findPairs_159 ?_
      refine r_nmi (fun x28 => ?_)
      refine r_istore (L' := [(5, .int x28), (4, .int q26), (3, .int q26), (0, .ref 78), (2, .int v2)]) dX10_findPairs_160 (by decide) rfl ?_
      exact r_pick [3, 4, 2, 1, 0] rfl (t_X10_findPairs_162 S T U V v2 q26 (fun o4 => f_X10_findPairs_219 U v2 q26 o4 (f_X10_findPairs_140 m_)) (fun o4 => r_pick [0, 1, 2, 3] rfl (t_X10_findPairs_219 S T U V v2 q26 o4 (f_X10_findPairs_140 m_) ih)) fu q26 x28)
def f_X10_findPairs_138 (U : SI) (v1 : Int32) : Option (SI) :=
  f_X10_findPairs_140 fu v1 U
set_option maxHeartbeats 4000000 in
set_option maxRecDepth 100000 in
theorem t_X10_findPairs_138 (S : SI) (T : SL) (U : SI) (V : SL) (v1 : Int32) : Run 4 yX10_findPairs cX10_findPairs 6 none none (fun a : SI => (none, (S, T, a, V))) 138 [(0, .ref 78), (1, .int v1)] [] (S, T, U, V) (f_X10_findPairs_138 U v1) := by
  rw [f_X10_findPairs_138]
  refine r_iload_n dX10_findPairs_138 1 rfl rfl ?_
  refine r_istore_n (L' := [(2, .int v1), (0, .ref 78), (1, .int v1)]) dX10_findPairs_139 rfl (by decide) rfl ?_
  exact r_pick [1, 0] rfl (t_X10_findPairs_140 S T V fu v1 U)
def f_X10_findPairs_116 (U : SI) (v1 : Int32) : Option (SI) :=
  f_X10_findPairs_118 (fun Uo => f_X10_findPairs_138 Uo v1) fu (0 : Int32) U
set_option maxHeartbeats 4000000 in
set_option maxRecDepth 100000 in
theorem t_X10_findPairs_116 (S : SI) (T : SL) (U : SI) (V : SL) (v1 : Int32) : Run 4 yX10_findPairs cX10_findPairs 6 none none (fun a : SI => (none, (S, T, a, V))) 116 [(0, .ref 78), (1, .int v1)] [] (S, T, U, V) (f_X10_findPairs_116 U v1) := by
  rw [f_X10_findPairs_116]
  refine r_iconst (v := (0 : Int32)) dX10_findPairs_116 rfl ?_
  refine r_istore_n (L' := [(2, .int (0 : Int32)), (0, .ref 78), (1, .int v1)]) dX10_findPairs_117 rfl (by decide) rfl ?_
  exact r_pick [1, 2, 0] rfl (t_X10_findPairs_118 S T V v1 (fun Uo => f_X10_findPairs_138 Uo v1) (fun Uo => r_pick [0, 1] rfl (t_X10_findPairs_138 S T Uo V v1)) fu (0 : Int32) U)
def f_X10_findPairs (U : SI) : Option (SI) :=
  (f_X10_inPlace U (0 : Int32)).bind fun q1 =>
  gd (inB (0 : Int32) 4096) <|
  nm (up2 U 82 (ix (0 : Int32)) (0 : Int32)) fun U3 =>
  f_X10_findPairs_15 q1 (fun Uo => f_X10_findPairs_116 Uo q1) fu (1 : Int32) U3
set_option maxHeartbeats 4000000 in
set_option maxRecDepth 100000 in
theorem m_X10_findPairs (S : SI) (T : SL) (U : SI) (V : SL)  : Meth 4 yX10_findPairs cX10_findPairs 6 none [.ref 78] (S, T, U, V) (f_X10_findPairs U) (fun a : SI => (none, (S, T, a, V))) := by
  refine meth_of (L := [(0, .ref 78)]) (by decide +kernel) (Nat.le_of_ble_eq_true rfl) rfl ?_
  rw [f_X10_findPairs]
  refine r_aload_n dX10_findPairs_0 0 rfl rfl ?_
  refine r_iconst (v := (0 : Int32)) dX10_findPairs_1 rfl ?_
  refine rV_i (as := [.int (0 : Int32)]) (st := []) dX10_findPairs_2 cl_X10_140 (by decide) rfl rfl (m_X10_inPlace S T U V (0 : Int32)) (by decide) rfl (Nat.le_of_ble_eq_true rfl) (fun q1 _ => ?_)
  refine r_istore_n (L' := [(1, .int q1), (0, .ref 78)]) dX10_findPairs_5 rfl (by decide) rfl ?_
  refine r_aload_n dX10_findPairs_6 1 rfl rfl ?_
  refine r_getr dX10_findPairs_7 fl_X10_19 (by decide) rfl rfl (by decide) ?_
  refine r_iconst (v := (0 : Int32)) dX10_findPairs_10 rfl ?_
  refine r_iconst (v := (0 : Int32)) dX10_findPairs_11 rfl ?_
  refine rm_iast dX10_findPairs_12 (by decide) (by decide) rfl (fun h2 => ?_)
  refine r_nmU (fun U3 => ?_)
  refine r_iconst (v := (1 : Int32)) dX10_findPairs_13 rfl ?_
  refine r_istore_n (L' := [(2, .int (1 : Int32)), (1, .int q1), (0, .ref 78)]) dX10_findPairs_14 rfl (by decide) rfl ?_
  exact r_pick [2, 1, 0] rfl (t_X10_findPairs_15 S T V q1 (fun Uo => f_X10_findPairs_116 Uo q1) (fun Uo => r_pick [0, 1] rfl (t_X10_findPairs_116 S T Uo V q1)) fu (1 : Int32) U3)
def f_X10_pairs_23 (U : SI) (ke71 : Int32 → Int32 → Option (Int32 × SI)) : Nat → Int32 → Int32 → Int32 → Option (Int32 × SI)
  | 0, _, _, _ => none
  | m_ + 1, v2, v3, v4 =>
    gd (inB (0 : Int32) 205) <|
    if (U 79 (ix (0 : Int32))) ≤ v4 then
      ke71 v2 v3
    else
      gd (inB v4 12) <|
      if (U 83 (ix v4)) ≤ v4 then
        (f_X10_pairs_23 U ke71 m_) v2 v3 (v4 + (1 : Int32))
      else
        gd (inB v4 12) <|
        (f_X10_distance U v4 (U 83 (ix v4))).bind fun q9 =>
        nm (v2 + q9) fun x10 =>
        (f_X10_pairs_23 U ke71 m_) x10 (v3 + (1 : Int32)) (v4 + (1 : Int32))
set_option maxHeartbeats 4000000 in
set_option maxRecDepth 100000 in
theorem t_X10_pairs_23 (S : SI) (T : SL) (U : SI) (V : SL) (v1 : Int32) (ke71 : Int32 → Int32 → Option (Int32 × SI)) (hke71 : ∀ (w2 : Int32) (w3 : Int32), Run 5 yX10_pairs cX10_pairs 5 (some .int) none (fun a : Int32 × SI => (some (.int a.1), (S, T, a.2, V))) 71 [(1, .int v1), (2, .int w2), (3, .int w3)] [] (S, T, U, V) (ke71 w2 w3)) : ∀ (m_ : Nat) (v2 : Int32) (v3 : Int32) (v4 : Int32), Run 5 yX10_pairs cX10_pairs 5 (some .int) none (fun a : Int32 × SI => (some (.int a.1), (S, T, a.2, V))) 23 [(0, .ref 78), (1, .int v1), (2, .int v2), (3, .int v3), (4, .int v4)] [] (S, T, U, V) (f_X10_pairs_23 U ke71 m_ v2 v3 v4) := by
  intro m_
  induction m_ with
  | zero =>
    intro v2 v3 v4
    rw [f_X10_pairs_23]
    exact r_none
  | succ m_ ih =>
    intro v2 v3 v4
    rw [f_X10_pairs_23]
    refine r_iload dX10_pairs_23 4 rfl ?_
    refine r_aload_n dX10_pairs_25 0 rfl rfl ?_
    refine r_getr dX10_pairs_26 fl_X10_7 (by decide) rfl rfl (by decide) ?_
    refine r_iconst (v := (0 : Int32)) dX10_pairs_29 rfl ?_
    refine rm_iald dX10_pairs_30 (by decide) (by decide) rfl (fun h4 => ?_)
    refine r_icmp_ge (tgt := 71) dX10_pairs_31 (by decide) (fun h5 => ?_) (fun h5 => ?_)
    · exact r_pick [1, 2, 3] rfl (hke71 v2 v3)
    · refine r_aload_n dX10_pairs_34 0 rfl rfl ?_
      refine r_getr dX10_pairs_35 fl_X10_22 (by decide) rfl rfl (by decide) ?_
      refine r_iload dX10_pairs_38 4 rfl ?_
      refine rm_iald dX10_pairs_40 (by decide) (by decide) rfl (fun h6 => ?_)
      refine r_iload dX10_pairs_41 4 rfl ?_
      refine r_icmp_le (tgt := 65) dX10_pairs_43 (by decide) (fun h7 => ?_) (fun h7 => ?_)
      · refine r_iinc (v := v4 + (1 : Int32)) (L' := [(4, .int (v4 + (1 : Int32))), (0, .ref 78), (1, .int v1), (2, .int v2), (3, .int v3)]) dX10_pairs_65 4 rfl rfl (by decide) rfl ?_
        refine r_goto (tgt := 23) dX10_pairs_68 (by decide) ?_
        exact r_pick [1, 2, 3, 4, 0] rfl (ih v2 v3 (v4 + (1 : Int32)))
      · refine r_iinc (v := v3 + (1 : Int32)) (L' := [(3, .int (v3 + (1 : Int32))), (0, .ref 78), (1, .int v1), (2, .int v2), (4, .int v4)]) dX10_pairs_46 3 rfl rfl (by decide) rfl ?_
        refine r_iload_n dX10_pairs_49 3 rfl rfl ?_
        refine r_aload_n dX10_pairs_50 1 rfl rfl ?_
        refine r_iload dX10_pairs_51 4 rfl ?_
        refine r_aload_n dX10_pairs_53 1 rfl rfl ?_
        refine r_getr dX10_pairs_54 fl_X10_22 (by decide) rfl rfl (by decide) ?_
        refine r_iload dX10_pairs_57 4 rfl ?_
        refine rm_iald dX10_pairs_59 (by decide) (by decide) rfl (fun h8 => ?_)
        refine rV_i (as := [.int v4, .int (U 83 (ix v4))]) (st := [.int v2]) dX10_pairs_60 cl_X10_169 (by decide) rfl rfl (m_X10_distance S T U V v4 (U 83 (ix v4))) (by decide) rfl (Nat.le_of_ble_eq_true rfl) (fun q9 _ => ?_)
        refine r_iadd dX10_pairs_63 ?_
        refine r_nmi (fun x10 => ?_)
        refine r_istore_n (L' := [(2, .int x10), (3, .int (v3 + (1 : Int32))), (0, .ref 78), (1, .int v1), (4, .int v4)]) dX10_pairs_64 rfl (by decide) rfl ?_
        refine r_iinc (v := v4 + (1 : Int32)) (L' := [(4, .int (v4 + (1 : Int32))), (2, .int x10), (3, .int (v3 + (1 : Int32))), (0, .ref 78), (1, .int v1)]) dX10_pairs_65 4 rfl rfl (by decide) rfl ?_
        refine r_goto (tgt := 23) dX10_pairs_68 (by decide) ?_
        exact r_pick [3, 4, 1, 2, 0] rfl (ih x10 (v3 + (1 : Int32)) (v4 + (1 : Int32)))
def f_X10_pairs_71 (U : SI) (v1 : Int32) (v2 : Int32) (v3 : Int32) : Option (Int32 × SI) :=
  if v1 = 0 then
    some (v3, U)
  else
    some (v2, U)
set_option maxHeartbeats 4000000 in
set_option maxRecDepth 100000 in
theorem t_X10_pairs_71 (S : SI) (T : SL) (U : SI) (V : SL) (v1 : Int32) (v2 : Int32) (v3 : Int32) : Run 5 yX10_pairs cX10_pairs 5 (some .int) none (fun a : Int32 × SI => (some (.int a.1), (S, T, a.2, V))) 71 [(1, .int v1), (2, .int v2), (3, .int v3)] [] (S, T, U, V) (f_X10_pairs_71 U v1 v2 v3) := by
  rw [f_X10_pairs_71]
  refine r_iload_n dX10_pairs_71 0 rfl rfl ?_
  refine r_if_ne (tgt := 79) dX10_pairs_72 (by decide) (fun h11 => ?_) (fun h11 => ?_)
  · refine r_iload_n dX10_pairs_75 2 rfl rfl ?_
    refine r_goto (tgt := 80) dX10_pairs_76 (by decide) ?_
    exact r_ireturn (ty := .int) dX10_pairs_80 rfl (nar_i _) rfl
  · refine r_iload_n dX10_pairs_79 1 rfl rfl ?_
    exact r_ireturn (ty := .int) dX10_pairs_80 rfl (nar_i _) rfl
def f_X10_pairs (U : SI) (v1 : Int32) : Option (Int32 × SI) :=
  (f_X10_in v1.toInt64 (0 : Int64) (1 : Int64)).bind fun q1 =>
  if q1 = 0 then
    some ((-1 : Int32), U)
  else
    (f_X10_findPairs U).bind fun q3 =>
    f_X10_pairs_23 q3 (fun o2 o3 => f_X10_pairs_71 q3 v1 o2 o3) fu (0 : Int32) (0 : Int32) (0 : Int32)
set_option maxHeartbeats 4000000 in
set_option maxRecDepth 100000 in
theorem m_X10_pairs (S : SI) (T : SL) (U : SI) (V : SL) (v1 : Int32) : Meth 5 yX10_pairs cX10_pairs 5 (some .int) [.ref 78, .int v1] (S, T, U, V) (f_X10_pairs U v1) (fun a : Int32 × SI => (some (.int a.1), (S, T, a.2, V))) := by
  refine meth_of (L := [(0, .ref 78), (1, .int v1)]) (by decide +kernel) (Nat.le_of_ble_eq_true rfl) rfl ?_
  rw [f_X10_pairs]
  refine r_iload_n dX10_pairs_0 1 rfl rfl ?_
  refine r_i2l dX10_pairs_1 ?_
  refine r_lconst (v := (0 : Int64)) dX10_pairs_2 rfl ?_
  refine r_lconst (v := (1 : Int64)) dX10_pairs_3 rfl ?_
  refine rS_i (as := [.long v1.toInt64, .long (0 : Int64), .long (1 : Int64)]) (st := []) dX10_pairs_4 cl_X10_59 (m_X10_in S T U V v1.toInt64 (0 : Int64) (1 : Int64)) (by decide) rfl (Nat.le_of_ble_eq_true rfl) (fun q1 _ => ?_)
  refine r_if_ne (tgt := 12) dX10_pairs_7 (by decide) (fun h2 => ?_) (fun h2 => ?_)
  · refine r_iconst (v := (-1 : Int32)) dX10_pairs_10 rfl ?_
    exact r_ireturn (ty := .int) dX10_pairs_11 rfl (nar_i _) rfl
  · refine r_aload_n dX10_pairs_12 0 rfl rfl ?_
    refine rVm_vS (as := []) (st := []) dX10_pairs_13 cl_X10_179 (by decide) rfl rfl (m_X10_findPairs S T U V) (by decide) rfl (Nat.le_of_ble_eq_true rfl) (fun q3 _ => ?_)
    refine r_iconst (v := (0 : Int32)) dX10_pairs_16 rfl ?_
    refine r_istore_n (L' := [(2, .int (0 : Int32)), (0, .ref 78), (1, .int v1)]) dX10_pairs_17 rfl (by decide) rfl ?_
    refine r_iconst (v := (0 : Int32)) dX10_pairs_18 rfl ?_
    refine r_istore_n (L' := [(3, .int (0 : Int32)), (2, .int (0 : Int32)), (0, .ref 78), (1, .int v1)]) dX10_pairs_19 rfl (by decide) rfl ?_
    refine r_iconst (v := (0 : Int32)) dX10_pairs_20 rfl ?_
    refine r_istore (L' := [(4, .int (0 : Int32)), (3, .int (0 : Int32)), (2, .int (0 : Int32)), (0, .ref 78), (1, .int v1)]) dX10_pairs_21 (by decide) rfl ?_
    exact r_pick [3, 4, 2, 1, 0] rfl (t_X10_pairs_23 S T q3 V v1 (fun o2 o3 => f_X10_pairs_71 q3 v1 o2 o3) (fun o2 o3 => r_pick [0, 1, 2] rfl (t_X10_pairs_71 S T q3 V v1 o2 o3)) fu (0 : Int32) (0 : Int32) (0 : Int32))
