def f_X10_fellow (U : SI) (v1 : Int32) : Option (Int32 × SI) :=
  (f_X10_isSock U v1).bind fun q1 =>
  if q1 = 0 then
    some ((-1 : Int32), U)
  else
    (f_X10_findPairs U).bind fun q3 =>
    gd (inB v1 12) <|
    some (q3 83 (ix v1), q3)
set_option maxHeartbeats 4000000 in
set_option maxRecDepth 100000 in
theorem m_X10_fellow (S : SI) (T : SL) (U : SI) (V : SL) (v1 : Int32) : Meth 5 yX10_fellow cX10_fellow 2 (some .int) [.ref 78, .int v1] (S, T, U, V) (f_X10_fellow U v1) (fun a : Int32 × SI => (some (.int a.1), (S, T, a.2, V))) := by
  refine meth_of (L := [(0, .ref 78), (1, .int v1)]) (by decide +kernel) (Nat.le_of_ble_eq_true rfl) rfl ?_
  rw [f_X10_fellow]
  refine r_aload_n dX10_fellow_0 0 rfl rfl ?_
  refine r_iload_n dX10_fellow_1 1 rfl rfl ?_
  refine rV_i (as := [.int v1]) (st := []) dX10_fellow_2 cl_X10_63 (by decide) rfl rfl (m_X10_isSock S T U V v1) (by decide) rfl (Nat.le_of_ble_eq_true rfl) (fun q1 _ => ?_)
  refine r_if_ne (tgt := 10) dX10_fellow_5 (by decide) (fun h2 => ?_) (fun h2 => ?_)
  · refine r_iconst (v := (-1 : Int32)) dX10_fellow_8 rfl ?_
    exact r_ireturn (ty := .int) dX10_fellow_9 rfl (nar_i _) rfl
  · refine r_aload_n dX10_fellow_10 0 rfl rfl ?_
    refine rVm_vS (as := []) (st := []) dX10_fellow_11 cl_X10_179 (by decide) rfl rfl (m_X10_findPairs S T U V) (by decide) rfl (Nat.le_of_ble_eq_true rfl) (fun q3 _ => ?_)
    refine r_aload_n dX10_fellow_14 0 rfl rfl ?_
    refine r_getr dX10_fellow_15 fl_X10_22 (by decide) rfl rfl (by decide) ?_
    refine r_iload_n dX10_fellow_18 1 rfl rfl ?_
    refine rm_iald dX10_fellow_19 (by decide) (by decide) rfl (fun h4 => ?_)
    exact r_ireturn (ty := .int) dX10_fellow_20 rfl (nar_i _) rfl
def f_X10_pairUp_8  : Nat → Int32 → Int32 → SI → Option (Int32 × SI)
  | 0, _, _, _ => none
  | m_ + 1, v1, v2, U =>
    gd (inB (0 : Int32) 205) <|
    if (U 79 (ix (0 : Int32))) ≤ v2 then
      if (2 : Int32) = 0 then none else
      some (v1 / (2 : Int32), U)
    else
      gd (inB v2 12) <|
      if (U 83 (ix v2)) < 0 then
        (f_X10_pairUp_8 m_) v1 (v2 + (1 : Int32)) U
      else
        (f_X10_put U v2 (4 : Int32) (2 : Int32)).bind fun q7 =>
        gd (inB v2 12) <|
        (f_X10_put q7 v2 (5 : Int32) (q7 83 (ix v2))).bind fun q9 =>
        (f_X10_pairUp_8 m_) (v1 + (1 : Int32)) (v2 + (1 : Int32)) q9
set_option maxHeartbeats 4000000 in
set_option maxRecDepth 100000 in
theorem t_X10_pairUp_8 (S : SI) (T : SL) (V : SL) : ∀ (m_ : Nat) (v1 : Int32) (v2 : Int32) (U : SI), Run 5 yX10_pairUp cX10_pairUp 3 (some .int) none (fun a : Int32 × SI => (some (.int a.1), (S, T, a.2, V))) 8 [(0, .ref 78), (1, .int v1), (2, .int v2)] [] (S, T, U, V) (f_X10_pairUp_8 m_ v1 v2 U) := by
  intro m_
  induction m_ with
  | zero =>
    intro v1 v2 U
    rw [f_X10_pairUp_8]
    exact r_none
  | succ m_ ih =>
    intro v1 v2 U
    rw [f_X10_pairUp_8]
    refine r_iload_n dX10_pairUp_8 2 rfl rfl ?_
    refine r_aload_n dX10_pairUp_9 0 rfl rfl ?_
    refine r_getr dX10_pairUp_10 fl_X10_7 (by decide) rfl rfl (by decide) ?_
    refine r_iconst (v := (0 : Int32)) dX10_pairUp_13 rfl ?_
    refine rm_iald dX10_pairUp_14 (by decide) (by decide) rfl (fun h2 => ?_)
    refine r_icmp_ge (tgt := 55) dX10_pairUp_15 (by decide) (fun h3 => ?_) (fun h3 => ?_)
    · refine r_iload_n dX10_pairUp_55 1 rfl rfl ?_
      refine r_iconst (v := (2 : Int32)) dX10_pairUp_56 rfl ?_
      refine r_idiv dX10_pairUp_57 (fun h4 => ?_)
      exact r_ireturn (ty := .int) dX10_pairUp_58 rfl (nar_i _) rfl
    · refine r_aload_n dX10_pairUp_18 0 rfl rfl ?_
      refine r_getr dX10_pairUp_19 fl_X10_22 (by decide) rfl rfl (by decide) ?_
      refine r_iload_n dX10_pairUp_22 2 rfl rfl ?_
      refine rm_iald dX10_pairUp_23 (by decide) (by decide) rfl (fun h5 => ?_)
      refine r_if_lt (tgt := 49) dX10_pairUp_24 (by decide) (fun h6 => ?_) (fun h6 => ?_)
      · refine r_iinc (v := v2 + (1 : Int32)) (L' := [(2, .int (v2 + (1 : Int32))), (0, .ref 78), (1, .int v1)]) dX10_pairUp_49 2 rfl rfl (by decide) rfl ?_
        refine r_goto (tgt := 8) dX10_pairUp_52 (by decide) ?_
        exact r_pick [1, 2, 0] rfl (ih v1 (v2 + (1 : Int32)) U)
      · refine r_aload_n dX10_pairUp_27 0 rfl rfl ?_
        refine r_iload_n dX10_pairUp_28 2 rfl rfl ?_
        refine r_iconst (v := (4 : Int32)) dX10_pairUp_29 rfl ?_
        refine r_iconst (v := (2 : Int32)) dX10_pairUp_30 rfl ?_
        refine rVm_vS (as := [.int v2, .int (4 : Int32), .int (2 : Int32)]) (st := []) dX10_pairUp_31 cl_X10_71 (by decide) rfl rfl (m_X10_put S T U V v2 (4 : Int32) (2 : Int32)) (by decide) rfl (Nat.le_of_ble_eq_true rfl) (fun q7 _ => ?_)
        refine r_aload_n dX10_pairUp_34 0 rfl rfl ?_
        refine r_iload_n dX10_pairUp_35 2 rfl rfl ?_
        refine r_iconst (v := (5 : Int32)) dX10_pairUp_36 rfl ?_
        refine r_aload_n dX10_pairUp_37 0 rfl rfl ?_
        refine r_getr dX10_pairUp_38 fl_X10_22 (by decide) rfl rfl (by decide) ?_
        refine r_iload_n dX10_pairUp_41 2 rfl rfl ?_
        refine rm_iald dX10_pairUp_42 (by decide) (by decide) rfl (fun h8 => ?_)
        refine rVm_vS (as := [.int v2, .int (5 : Int32), .int (q7 83 (ix v2))]) (st := []) dX10_pairUp_43 cl_X10_71 (by decide) rfl rfl (m_X10_put S T q7 V v2 (5 : Int32) (q7 83 (ix v2))) (by decide) rfl (Nat.le_of_ble_eq_true rfl) (fun q9 _ => ?_)
        refine r_iinc (v := v1 + (1 : Int32)) (L' := [(1, .int (v1 + (1 : Int32))), (0, .ref 78), (2, .int v2)]) dX10_pairUp_46 1 rfl rfl (by decide) rfl ?_
        refine r_iinc (v := v2 + (1 : Int32)) (L' := [(2, .int (v2 + (1 : Int32))), (1, .int (v1 + (1 : Int32))), (0, .ref 78)]) dX10_pairUp_49 2 rfl rfl (by decide) rfl ?_
        refine r_goto (tgt := 8) dX10_pairUp_52 (by decide) ?_
        exact r_pick [2, 1, 0] rfl (ih (v1 + (1 : Int32)) (v2 + (1 : Int32)) q9)
def f_X10_pairUp (U : SI) : Option (Int32 × SI) :=
  (f_X10_findPairs U).bind fun q1 =>
  f_X10_pairUp_8 fu (0 : Int32) (0 : Int32) q1
set_option maxHeartbeats 4000000 in
set_option maxRecDepth 100000 in
theorem m_X10_pairUp (S : SI) (T : SL) (U : SI) (V : SL)  : Meth 5 yX10_pairUp cX10_pairUp 3 (some .int) [.ref 78] (S, T, U, V) (f_X10_pairUp U) (fun a : Int32 × SI => (some (.int a.1), (S, T, a.2, V))) := by
  refine meth_of (L := [(0, .ref 78)]) (by decide +kernel) (Nat.le_of_ble_eq_true rfl) rfl ?_
  rw [f_X10_pairUp]
  refine r_aload_n dX10_pairUp_0 0 rfl rfl ?_
  refine rVm_vS (as := []) (st := []) dX10_pairUp_1 cl_X10_179 (by decide) rfl rfl (m_X10_findPairs S T U V) (by decide) rfl (Nat.le_of_ble_eq_true rfl) (fun q1 _ => ?_)
  refine r_iconst (v := (0 : Int32)) dX10_pairUp_4 rfl ?_
  refine r_istore_n (L' := [(1, .int (0 : Int32)), (0, .ref 78)]) dX10_pairUp_5 rfl (by decide) rfl ?_
  refine r_iconst (v := (0 : Int32)) dX10_pairUp_6 rfl ?_
  refine r_istore_n (L' := [(2, .int (0 : Int32)), (1, .int (0 : Int32)), (0, .ref 78)]) dX10_pairUp_7 rfl (by decide) rfl ?_
  exact r_pick [2, 1, 0] rfl (t_X10_pairUp_8 S T V fu (0 : Int32) (0 : Int32) q1)
def f_X10_part (U : SI) (v1 : Int32) : Option (Int32 × SI) :=
  (f_X10_isSock U v1).bind fun q1 =>
  if q1 = 0 then
    some ((-1 : Int32), U)
  else
    (f_X10_of U v1 (5 : Int32)).bind fun q3 =>
    if 0 ≤ q3 then
      (f_X10_part2 U v1).bind fun q5 =>
      some (q3, q5)
    else
      some ((-2 : Int32), U)
set_option maxHeartbeats 4000000 in
set_option maxRecDepth 100000 in
theorem m_X10_part (S : SI) (T : SL) (U : SI) (V : SL) (v1 : Int32) : Meth 3 yX10_part cX10_part 3 (some .int) [.ref 78, .int v1] (S, T, U, V) (f_X10_part U v1) (fun a : Int32 × SI => (some (.int a.1), (S, T, a.2, V))) := by
  refine meth_of (L := [(0, .ref 78), (1, .int v1)]) (by decide +kernel) (Nat.le_of_ble_eq_true rfl) rfl ?_
  rw [f_X10_part]
  refine r_aload_n dX10_part_0 0 rfl rfl ?_
  refine r_iload_n dX10_part_1 1 rfl rfl ?_
  refine rV_i (as := [.int v1]) (st := []) dX10_part_2 cl_X10_63 (by decide) rfl rfl (m_X10_isSock S T U V v1) (by decide) rfl (Nat.le_of_ble_eq_true rfl) (fun q1 _ => ?_)
  refine r_if_ne (tgt := 10) dX10_part_5 (by decide) (fun h2 => ?_) (fun h2 => ?_)
  · refine r_iconst (v := (-1 : Int32)) dX10_part_8 rfl ?_
    exact r_ireturn (ty := .int) dX10_part_9 rfl (nar_i _) rfl
  · refine r_aload_n dX10_part_10 0 rfl rfl ?_
    refine r_iload_n dX10_part_11 1 rfl rfl ?_
    refine r_iconst (v := (5 : Int32)) dX10_part_12 rfl ?_
    refine rV_i (as := [.int v1, .int (5 : Int32)]) (st := []) dX10_part_13 cl_X10_67 (by decide) rfl rfl (m_X10_of S T U V v1 (5 : Int32)) (by decide) rfl (Nat.le_of_ble_eq_true rfl) (fun q3 _ => ?_)
    refine r_istore_n (L' := [(2, .int q3), (0, .ref 78), (1, .int v1)]) dX10_part_16 rfl (by decide) rfl ?_
    refine r_iload_n dX10_part_17 0 rfl rfl ?_
    refine r_if_ge (tgt := 24) dX10_part_18 (by decide) (fun h4 => ?_) (fun h4 => ?_)
    · refine r_aload_n dX10_part_24 1 rfl rfl ?_
      refine r_iload_n dX10_part_25 2 rfl rfl ?_
      refine rVm_vS (as := [.int v1]) (st := []) dX10_part_26 cl_X10_147 (by decide) rfl rfl (m_X10_part2 S T U V v1) (by decide) rfl (Nat.le_of_ble_eq_true rfl) (fun q5 _ => ?_)
      refine r_iload_n dX10_part_29 0 rfl rfl ?_
      exact r_ireturn (ty := .int) dX10_part_30 rfl (nar_i _) rfl
    · refine r_bipush (v := (-2 : Int32)) dX10_part_21 rfl ?_
      exact r_ireturn (ty := .int) dX10_part_23 rfl (nar_i _) rfl
def f_X10_isSheet (v0 : Int32) (v1 : Int32) : Option (Int32) :=
  (f_X10_in v0.toInt64 (0 : Int64) (3 : Int64)).bind fun q1 =>
  if q1 = 0 then
    some (0 : Int32)
  else
    (f_X10_in v1.toInt64 (0 : Int64) (2 : Int64)).bind fun q3 =>
    if q3 = 0 then
      some (0 : Int32)
    else
      some (1 : Int32)
set_option maxHeartbeats 4000000 in
set_option maxRecDepth 100000 in
theorem m_X10_isSheet (S : SI) (T : SL) (U : SI) (V : SL) (v0 : Int32) (v1 : Int32) : Meth 2 yX10_isSheet cX10_isSheet 2 (some .boolean) [.int v0, .int v1] (S, T, U, V) (f_X10_isSheet v0 v1) (fun a : Int32 => (some (.int a), (S, T, U, V))) := by
  refine meth_of (L := [(0, .int v0), (1, .int v1)]) (by decide +kernel) (Nat.le_of_ble_eq_true rfl) rfl ?_
  rw [f_X10_isSheet]
  refine r_iload_n dX10_isSheet_0 0 rfl rfl ?_
  refine r_i2l dX10_isSheet_1 ?_
  refine r_lconst (v := (0 : Int64)) dX10_isSheet_2 rfl ?_
  refine r_ldc2_w (v := (3 : Int64)) dX10_isSheet_3 kw_X10_235 ?_
  refine rS_i (as := [.long v0.toInt64, .long (0 : Int64), .long (3 : Int64)]) (st := []) dX10_isSheet_6 cl_X10_59 (m_X10_in S T U V v0.toInt64 (0 : Int64) (3 : Int64)) (by decide) rfl (Nat.le_of_ble_eq_true rfl) (fun q1 _ => ?_)
  refine r_if_eq (tgt := 28) dX10_isSheet_9 (by decide) (fun h2 => ?_) (fun h2 => ?_)
  · refine r_iconst (v := (0 : Int32)) dX10_isSheet_28 rfl ?_
    exact r_ireturn (ty := .boolean) dX10_isSheet_29 rfl rfl rfl
  · refine r_iload_n dX10_isSheet_12 1 rfl rfl ?_
    refine r_i2l dX10_isSheet_13 ?_
    refine r_lconst (v := (0 : Int64)) dX10_isSheet_14 rfl ?_
    refine r_ldc2_w (v := (2 : Int64)) dX10_isSheet_15 kw_X10_106 ?_
    refine rS_i (as := [.long v1.toInt64, .long (0 : Int64), .long (2 : Int64)]) (st := []) dX10_isSheet_18 cl_X10_59 (m_X10_in S T U V v1.toInt64 (0 : Int64) (2 : Int64)) (by decide) rfl (Nat.le_of_ble_eq_true rfl) (fun q3 _ => ?_)
    refine r_if_eq (tgt := 28) dX10_isSheet_21 (by decide) (fun h4 => ?_) (fun h4 => ?_)
    · refine r_iconst (v := (0 : Int32)) dX10_isSheet_28 rfl ?_
      exact r_ireturn (ty := .boolean) dX10_isSheet_29 rfl rfl rfl
    · refine r_iconst (v := (1 : Int32)) dX10_isSheet_24 rfl ?_
      refine r_goto (tgt := 29) dX10_isSheet_25 (by decide) ?_
      exact r_ireturn (ty := .boolean) dX10_isSheet_29 rfl rfl rfl
def f_X10_lacksRow (U : SI) (v1 : Int32) (v2 : Int32) (v3 : Int32) (v4 : Int32) : Option (Int32) :=
  gd (inB v1 4) <|
  if (U 92 (ix v1)) = v2 then
    gd (inB v1 4) <|
    (f_X10_in v3.toInt64 (0 : Int64) (((U 93 (ix v1)) - v4).toInt64)).bind fun q4 =>
    if q4 = 0 then
      some (-13 : Int32)
    else
      some (0 : Int32)
  else
    gd (inB v1 4) <|
    if 0 ≤ (U 92 (ix v1)) then
      some (-12 : Int32)
    else
      some (-11 : Int32)
set_option maxHeartbeats 4000000 in
set_option maxRecDepth 100000 in
theorem m_X10_lacksRow (S : SI) (T : SL) (U : SI) (V : SL) (v1 : Int32) (v2 : Int32) (v3 : Int32) (v4 : Int32) : Meth 2 yX10_lacksRow cX10_lacksRow 5 (some .int) [.ref 78, .int v1, .int v2, .int v3, .int v4] (S, T, U, V) (f_X10_lacksRow U v1 v2 v3 v4) (fun a : Int32 => (some (.int a), (S, T, U, V))) := by
  refine meth_of (L := [(0, .ref 78), (1, .int v1), (2, .int v2), (3, .int v3), (4, .int v4)]) (by decide +kernel) (Nat.le_of_ble_eq_true rfl) rfl ?_
  rw [f_X10_lacksRow]
  refine r_aload_n dX10_lacksRow_0 0 rfl rfl ?_
  refine r_getr dX10_lacksRow_1 fl_X10_50 (by decide) rfl rfl (by decide) ?_
  refine r_iload_n dX10_lacksRow_4 1 rfl rfl ?_
  refine rm_iald dX10_lacksRow_5 (by decide) (by decide) rfl (fun h1 => ?_)
  refine r_iload_n dX10_lacksRow_6 2 rfl rfl ?_
  refine r_icmp_eq (tgt := 27) dX10_lacksRow_7 (by decide) (fun h2 => ?_) (fun h2 => ?_)
  · refine r_iload_n dX10_lacksRow_27 3 rfl rfl ?_
    refine r_i2l dX10_lacksRow_28 ?_
    refine r_lconst (v := (0 : Int64)) dX10_lacksRow_29 rfl ?_
    refine r_aload_n dX10_lacksRow_30 0 rfl rfl ?_
    refine r_getr dX10_lacksRow_31 fl_X10_53 (by decide) rfl rfl (by decide) ?_
    refine r_iload_n dX10_lacksRow_34 1 rfl rfl ?_
    refine rm_iald dX10_lacksRow_35 (by decide) (by decide) rfl (fun h3 => ?_)
    refine r_iload dX10_lacksRow_36 4 rfl ?_
    refine r_isub dX10_lacksRow_38 ?_
    refine r_i2l dX10_lacksRow_39 ?_
    refine rS_i (as := [.long v3.toInt64, .long (0 : Int64), .long (((U 93 (ix v1)) - v4).toInt64)]) (st := []) dX10_lacksRow_40 cl_X10_59 (m_X10_in S T U V v3.toInt64 (0 : Int64) (((U 93 (ix v1)) - v4).toInt64)) (by decide) rfl (Nat.le_of_ble_eq_true rfl) (fun q4 _ => ?_)
    refine r_if_eq (tgt := 50) dX10_lacksRow_43 (by decide) (fun h5 => ?_) (fun h5 => ?_)
    · refine r_bipush (v := (-13 : Int32)) dX10_lacksRow_50 rfl ?_
      exact r_ireturn (ty := .int) dX10_lacksRow_52 rfl (nar_i _) rfl
    · refine r_iconst (v := (0 : Int32)) dX10_lacksRow_46 rfl ?_
      refine r_goto (tgt := 52) dX10_lacksRow_47 (by decide) ?_
      exact r_ireturn (ty := .int) dX10_lacksRow_52 rfl (nar_i _) rfl
  · refine r_aload_n dX10_lacksRow_10 0 rfl rfl ?_
    refine r_getr dX10_lacksRow_11 fl_X10_50 (by decide) rfl rfl (by decide) ?_
    refine r_iload_n dX10_lacksRow_14 1 rfl rfl ?_
    refine rm_iald dX10_lacksRow_15 (by decide) (by decide) rfl (fun h6 => ?_)
    refine r_if_ge (tgt := 24) dX10_lacksRow_16 (by decide) (fun h7 => ?_) (fun h7 => ?_)
    · refine r_bipush (v := (-12 : Int32)) dX10_lacksRow_24 rfl ?_
      exact r_ireturn (ty := .int) dX10_lacksRow_26 rfl (nar_i _) rfl
    · refine r_bipush (v := (-11 : Int32)) dX10_lacksRow_19 rfl ?_
      refine r_goto (tgt := 26) dX10_lacksRow_21 (by decide) ?_
      exact r_ireturn (ty := .int) dX10_lacksRow_26 rfl (nar_i _) rfl
def f_X10_judge_51 (U : SI) (v5 : Int32) (v6 : Int32) : Nat → Int32 → Option (Int32)
  | 0, _ => none
  | m_ + 1, v7 =>
    gd (inB (0 : Int32) 205) <|
    if (U 79 (ix (0 : Int32))) ≤ v7 then
      some (-4 : Int32)
    else
      gd (inB (v6 + v7) 64) <|
      nm (U 94 (ix (v6 + v7))) fun x11 =>
      if x11 = (-1 : Int32) then
        (f_X10_judge_51 U v5 v6 m_) (v7 + (1 : Int32))
      else
        (f_X10_has v5 v7).bind fun q13 =>
        if q13 = 0 then
          some v7
        else
          (f_X10_isSock U x11).bind fun q15 =>
          if q15 = 0 then
            some v7
          else
            (f_X10_has v5 x11).bind fun q17 =>
            if q17 = 0 then
              some v7
            else
              if x11 = v7 then
                some v7
              else
                gd (inB (v6 + x11) 64) <|
                if (U 94 (ix (v6 + x11))) = v7 then
                  (f_X10_bars U v7 x11).bind fun q22 =>
                  if q22 = 0 then
                    (f_X10_judge_51 U v5 v6 m_) (v7 + (1 : Int32))
                  else
                    some v7
                else
                  some v7
set_option maxHeartbeats 4000000 in
set_option maxRecDepth 100000 in
theorem t_X10_judge_51 (S : SI) (T : SL) (U : SI) (V : SL) (v5 : Int32) (v6 : Int32) : ∀ (m_ : Nat) (v7 : Int32), Run 4 yX10_judge cX10_judge 9 (some .int) none (fun a : Int32 => (some (.int a), (S, T, U, V))) 51 [(0, .ref 78), (5, .int v5), (6, .int v6), (7, .int v7)] [] (S, T, U, V) (f_X10_judge_51 U v5 v6 m_ v7) := by
  intro m_
  induction m_ with
  | zero =>
    intro v7
    rw [f_X10_judge_51]
    exact r_none
  | succ m_ ih =>
    intro v7
    rw [f_X10_judge_51]
    refine r_iload dX10_judge_51 3 rfl ?_
    refine r_aload_n dX10_judge_53 0 rfl rfl ?_
    refine r_getr dX10_judge_54 fl_X10_7 (by decide) rfl rfl (by decide) ?_
    refine r_iconst (v := (0 : Int32)) dX10_judge_57 rfl ?_
    refine rm_iald dX10_judge_58 (by decide) (by decide) rfl (fun h8 => ?_)
    refine r_icmp_ge (tgt := 151) dX10_judge_59 (by decide) (fun h9 => ?_) (fun h9 => ?_)
    · refine r_bipush (v := (-4 : Int32)) dX10_judge_151 rfl ?_
      exact r_ireturn (ty := .int) dX10_judge_153 rfl (nar_i _) rfl
    · refine r_aload_n dX10_judge_62 0 rfl rfl ?_
      refine r_getr dX10_judge_63 fl_X10_56 (by decide) rfl rfl (by decide) ?_
      refine r_iload dX10_judge_66 2 rfl ?_
      refine r_iload dX10_judge_68 3 rfl ?_
      refine r_iadd dX10_judge_70 ?_
      refine rm_iald dX10_judge_71 (by decide) (by decide) rfl (fun h10 => ?_)
      refine r_nmi (fun x11 => ?_)
      refine r_istore (L' := [(8, .int x11), (0, .ref 78), (5, .int v5), (6, .int v6), (7, .int v7)]) dX10_judge_72 (by decide) rfl ?_
      refine r_iload dX10_judge_74 0 rfl ?_
      refine r_iconst (v := (-1 : Int32)) dX10_judge_76 rfl ?_
      refine r_icmp_eq (tgt := 145) dX10_judge_77 (by decide) (fun h12 => ?_) (fun h12 => ?_)
      · refine r_iinc (v := v7 + (1 : Int32)) (L' := [(7, .int (v7 + (1 : Int32))), (8, .int x11), (0, .ref 78), (5, .int v5), (6, .int v6)]) dX10_judge_145 4 rfl rfl (by decide) rfl ?_
        refine r_goto (tgt := 51) dX10_judge_148 (by decide) ?_
        exact r_pick [2, 3, 4, 0] rfl (ih (v7 + (1 : Int32)))
      · refine r_iload dX10_judge_80 2 rfl ?_
        refine r_iload dX10_judge_82 4 rfl ?_
        refine rS_i (as := [.int v5, .int v7]) (st := []) dX10_judge_84 cl_X10_136 (m_X10_has S T U V v5 v7) (by decide) rfl (Nat.le_of_ble_eq_true rfl) (fun q13 _ => ?_)
        refine r_if_eq (tgt := 142) dX10_judge_87 (by decide) (fun h14 => ?_) (fun h14 => ?_)
        · refine r_iload dX10_judge_142 4 rfl ?_
          exact r_ireturn (ty := .int) dX10_judge_144 rfl (nar_i _) rfl
        · refine r_aload_n dX10_judge_90 1 rfl rfl ?_
          refine r_iload dX10_judge_91 0 rfl ?_
          refine rV_i (as := [.int x11]) (st := []) dX10_judge_93 cl_X10_63 (by decide) rfl rfl (m_X10_isSock S T U V x11) (by decide) rfl (Nat.le_of_ble_eq_true rfl) (fun q15 _ => ?_)
          refine r_if_eq (tgt := 142) dX10_judge_96 (by decide) (fun h16 => ?_) (fun h16 => ?_)
          · refine r_iload dX10_judge_142 4 rfl ?_
            exact r_ireturn (ty := .int) dX10_judge_144 rfl (nar_i _) rfl
          · refine r_iload dX10_judge_99 2 rfl ?_
            refine r_iload dX10_judge_101 0 rfl ?_
            refine rS_i (as := [.int v5, .int x11]) (st := []) dX10_judge_103 cl_X10_136 (m_X10_has S T U V v5 x11) (by decide) rfl (Nat.le_of_ble_eq_true rfl) (fun q17 _ => ?_)
            refine r_if_eq (tgt := 142) dX10_judge_106 (by decide) (fun h18 => ?_) (fun h18 => ?_)
            · refine r_iload dX10_judge_142 4 rfl ?_
              exact r_ireturn (ty := .int) dX10_judge_144 rfl (nar_i _) rfl
            · refine r_iload dX10_judge_109 0 rfl ?_
              refine r_iload dX10_judge_111 4 rfl ?_
              refine r_icmp_eq (tgt := 142) dX10_judge_113 (by decide) (fun h19 => ?_) (fun h19 => ?_)
              · refine r_iload dX10_judge_142 4 rfl ?_
                exact r_ireturn (ty := .int) dX10_judge_144 rfl (nar_i _) rfl
              · refine r_aload_n dX10_judge_116 1 rfl rfl ?_
                refine r_getr dX10_judge_117 fl_X10_56 (by decide) rfl rfl (by decide) ?_
                refine r_iload dX10_judge_120 3 rfl ?_
                refine r_iload dX10_judge_122 0 rfl ?_
                refine r_iadd dX10_judge_124 ?_
                refine rm_iald dX10_judge_125 (by decide) (by decide) rfl (fun h20 => ?_)
                refine r_iload dX10_judge_126 4 rfl ?_
                refine r_icmp_ne (tgt := 142) dX10_judge_128 (by decide) (fun h21 => ?_) (fun h21 => ?_)
                · refine r_aload_n dX10_judge_131 1 rfl rfl ?_
                  refine r_iload dX10_judge_132 4 rfl ?_
                  refine r_iload dX10_judge_134 0 rfl ?_
                  refine rV_i (as := [.int v7, .int x11]) (st := []) dX10_judge_136 cl_X10_163 (by decide) rfl rfl (m_X10_bars S T U V v7 x11) (by decide) rfl (Nat.le_of_ble_eq_true rfl) (fun q22 _ => ?_)
                  refine r_if_eq (tgt := 145) dX10_judge_139 (by decide) (fun h23 => ?_) (fun h23 => ?_)
                  · refine r_iinc (v := v7 + (1 : Int32)) (L' := [(7, .int (v7 + (1 : Int32))), (8, .int x11), (0, .ref 78), (5, .int v5), (6, .int v6)]) dX10_judge_145 4 rfl rfl (by decide) rfl ?_
                    refine r_goto (tgt := 51) dX10_judge_148 (by decide) ?_
                    exact r_pick [2, 3, 4, 0] rfl (ih (v7 + (1 : Int32)))
                  · refine r_iload dX10_judge_142 4 rfl ?_
                    exact r_ireturn (ty := .int) dX10_judge_144 rfl (nar_i _) rfl
                · refine r_iload dX10_judge_142 4 rfl ?_
                  exact r_ireturn (ty := .int) dX10_judge_144 rfl (nar_i _) rfl
def f_X10_judge (U : SI) (v1 : Int32) (v2 : Int32) (v3 : Int32) : Option (Int32) :=
  (f_X10_isSheet v1 v2).bind fun q1 =>
  if q1 = 0 then
    some (-1 : Int32)
  else
    gd (inB (0 : Int32) 205) <|
    (f_X10_lacksRow U v1 v2 v3 (U 79 (ix (0 : Int32)))).bind fun q4 =>
    if 0 ≤ q4 then
      (f_X10_inPlace U (0 : Int32)).bind fun q6 =>
      nm (((16 : Int32) * v1) + v3) fun x7 =>
      f_X10_judge_51 U q6 x7 fu (0 : Int32)
    else
      some q4
set_option maxHeartbeats 4000000 in
set_option maxRecDepth 100000 in
theorem m_X10_judge (S : SI) (T : SL) (U : SI) (V : SL) (v1 : Int32) (v2 : Int32) (v3 : Int32) : Meth 4 yX10_judge cX10_judge 9 (some .int) [.ref 78, .int v1, .int v2, .int v3] (S, T, U, V) (f_X10_judge U v1 v2 v3) (fun a : Int32 => (some (.int a), (S, T, U, V))) := by
  refine meth_of (L := [(0, .ref 78), (1, .int v1), (2, .int v2), (3, .int v3)]) (by decide +kernel) (Nat.le_of_ble_eq_true rfl) rfl ?_
  rw [f_X10_judge]
  refine r_iload_n dX10_judge_0 1 rfl rfl ?_
  refine r_iload_n dX10_judge_1 2 rfl rfl ?_
  refine rS_i (as := [.int v1, .int v2]) (st := []) dX10_judge_2 cl_X10_182 (m_X10_isSheet S T U V v1 v2) (by decide) rfl (Nat.le_of_ble_eq_true rfl) (fun q1 _ => ?_)
  refine r_if_ne (tgt := 10) dX10_judge_5 (by decide) (fun h2 => ?_) (fun h2 => ?_)
  · refine r_iconst (v := (-1 : Int32)) dX10_judge_8 rfl ?_
    exact r_ireturn (ty := .int) dX10_judge_9 rfl (nar_i _) rfl
  · refine r_aload_n dX10_judge_10 0 rfl rfl ?_
    refine r_iload_n dX10_judge_11 1 rfl rfl ?_
    refine r_iload_n dX10_judge_12 2 rfl rfl ?_
    refine r_iload_n dX10_judge_13 3 rfl rfl ?_
    refine r_aload_n dX10_judge_14 0 rfl rfl ?_
    refine r_getr dX10_judge_15 fl_X10_7 (by decide) rfl rfl (by decide) ?_
    refine r_iconst (v := (0 : Int32)) dX10_judge_18 rfl ?_
    refine rm_iald dX10_judge_19 (by decide) (by decide) rfl (fun h3 => ?_)
    refine rV_i (as := [.int v1, .int v2, .int v3, .int (U 79 (ix (0 : Int32)))]) (st := []) dX10_judge_20 cl_X10_185 (by decide) rfl rfl (m_X10_lacksRow S T U V v1 v2 v3 (U 79 (ix (0 : Int32)))) (by decide) rfl (Nat.le_of_ble_eq_true rfl) (fun q4 _ => ?_)
    refine r_istore (L' := [(4, .int q4), (0, .ref 78), (1, .int v1), (2, .int v2), (3, .int v3)]) dX10_judge_23 (by decide) rfl ?_
    refine r_iload dX10_judge_25 0 rfl ?_
    refine r_if_ge (tgt := 33) dX10_judge_27 (by decide) (fun h5 => ?_) (fun h5 => ?_)
    · refine r_aload_n dX10_judge_33 1 rfl rfl ?_
      refine r_iconst (v := (0 : Int32)) dX10_judge_34 rfl ?_
      refine rV_i (as := [.int (0 : Int32)]) (st := []) dX10_judge_35 cl_X10_140 (by decide) rfl rfl (m_X10_inPlace S T U V (0 : Int32)) (by decide) rfl (Nat.le_of_ble_eq_true rfl) (fun q6 _ => ?_)
      refine r_istore (L' := [(5, .int q6), (4, .int q4), (0, .ref 78), (1, .int v1), (2, .int v2), (3, .int v3)]) dX10_judge_38 (by decide) rfl ?_
      refine r_bipush (v := (16 : Int32)) dX10_judge_40 rfl ?_
      refine r_iload_n dX10_judge_42 3 rfl rfl ?_
      refine r_imul dX10_judge_43 ?_
      refine r_iload_n dX10_judge_44 5 rfl rfl ?_
      refine r_iadd dX10_judge_45 ?_
      refine r_nmi (fun x7 => ?_)
      refine r_istore (L' := [(6, .int x7), (5, .int q6), (4, .int q4), (0, .ref 78), (1, .int v1), (2, .int v2), (3, .int v3)]) dX10_judge_46 (by decide) rfl ?_
      refine r_iconst (v := (0 : Int32)) dX10_judge_48 rfl ?_
      refine r_istore (L' := [(7, .int (0 : Int32)), (6, .int x7), (5, .int q6), (4, .int q4), (0, .ref 78), (1, .int v1), (2, .int v2), (3, .int v3)]) dX10_judge_49 (by decide) rfl ?_
      exact r_pick [4, 2, 1, 0] rfl (t_X10_judge_51 S T U V q6 x7 fu (0 : Int32))
    · refine r_iload dX10_judge_30 0 rfl ?_
      exact r_ireturn (ty := .int) dX10_judge_32 rfl (nar_i _) rfl
def f_X10_findWorths_79 (U : SI) (V : SL) (v4 : Int32) (v8 : Int32) (ke116 : Option (Int32 × SL)) : Nat → Int32 → Option (Int32 × SL)
  | 0, _ => none
  | m_ + 1, v9 =>
    if v4 ≤ v9 then
      ke116
    else
      gd (inB (v8 + v9) 64) <|
      (f_X10_in ((U 94 (ix (v8 + v9))).toInt64) (0 : Int64) (12 : Int64)).bind fun q14 =>
      if q14 = 0 then
        some ((-2 : Int32), V)
      else
        (f_X10_findWorths_79 U V v4 v8 ke116 m_) (v9 + (1 : Int32))
set_option maxHeartbeats 4000000 in
set_option maxRecDepth 100000 in
theorem t_X10_findWorths_79 (S : SI) (T : SL) (U : SI) (V : SL) (v4 : Int32) (v5 : Int32) (v6 : Int32) (v8 : Int32) (ke116 : Option (Int32 × SL)) (hke116 : Run 3 yX10_findWorths cX10_findWorths 14 (some .int) none (fun a : Int32 × SL => (some (.int a.1), (S, T, U, a.2))) 116 [(0, .ref 78), (4, .int v4), (5, .int v5), (6, .int v6), (8, .int v8)] [] (S, T, U, V) (ke116)) : ∀ (m_ : Nat) (v9 : Int32), Run 3 yX10_findWorths cX10_findWorths 14 (some .int) none (fun a : Int32 × SL => (some (.int a.1), (S, T, U, a.2))) 79 [(0, .ref 78), (4, .int v4), (5, .int v5), (6, .int v6), (8, .int v8), (9, .int v9)] [] (S, T, U, V) (f_X10_findWorths_79 U V v4 v8 ke116 m_ v9) := by
  intro m_
  induction m_ with
  | zero =>
    intro v9
    rw [f_X10_findWorths_79]
    exact r_none
  | succ m_ ih =>
    intro v9
    rw [f_X10_findWorths_79]
    refine r_iload dX10_findWorths_79 5 rfl ?_
    refine r_iload dX10_findWorths_81 1 rfl ?_
    refine r_icmp_ge (tgt := 116) dX10_findWorths_83 (by decide) (fun h12 => ?_) (fun h12 => ?_)
    · exact r_pick [0, 1, 2, 3, 4] rfl (hke116)
    · refine r_aload_n dX10_findWorths_86 0 rfl rfl ?_
      refine r_getr dX10_findWorths_87 fl_X10_56 (by decide) rfl rfl (by decide) ?_
      refine r_iload dX10_findWorths_90 4 rfl ?_
      refine r_iload dX10_findWorths_92 5 rfl ?_
      refine r_iadd dX10_findWorths_94 ?_
      refine rm_iald dX10_findWorths_95 (by decide) (by decide) rfl (fun h13 => ?_)
      refine r_i2l dX10_findWorths_96 ?_
      refine r_lconst (v := (0 : Int64)) dX10_findWorths_97 rfl ?_
      refine r_ldc2_w (v := (12 : Int64)) dX10_findWorths_98 kw_X10_191 ?_
      refine rS_i (as := [.long ((U 94 (ix (v8 + v9))).toInt64), .long (0 : Int64), .long (12 : Int64)]) (st := []) dX10_findWorths_101 cl_X10_59 (m_X10_in S T U V ((U 94 (ix (v8 + v9))).toInt64) (0 : Int64) (12 : Int64)) (by decide) rfl (Nat.le_of_ble_eq_true rfl) (fun q14 _ => ?_)
      refine r_if_ne (tgt := 110) dX10_findWorths_104 (by decide) (fun h15 => ?_) (fun h15 => ?_)
      · refine r_bipush (v := (-2 : Int32)) dX10_findWorths_107 rfl ?_
        exact r_ireturn (ty := .int) dX10_findWorths_109 rfl (nar_i _) rfl
      · refine r_iinc (v := v9 + (1 : Int32)) (L' := [(9, .int (v9 + (1 : Int32))), (0, .ref 78), (4, .int v4), (5, .int v5), (6, .int v6), (8, .int v8)]) dX10_findWorths_110 5 rfl rfl (by decide) rfl ?_
        refine r_goto (tgt := 79) dX10_findWorths_113 (by decide) ?_
        exact r_pick [1, 2, 3, 4, 5, 0] rfl (ih (v9 + (1 : Int32)))
def f_X10_findWorths_243 (V : SL) (v9 : Int32) (s0 : Int64) (s1 : Int32) (kh138 : Int32 → SL → Option (Int32 × SL)) : Option (Int32 × SL) :=
  gd (inB s1 9) <|
  nm (up2 V 84 (ix s1) s0) fun V33 =>
  kh138 (v9 + (-1 : Int32)) V33
set_option maxHeartbeats 4000000 in
set_option maxRecDepth 100000 in
theorem t_X10_findWorths_243 (S : SI) (T : SL) (U : SI) (V : SL) (v5 : Int32) (v6 : Int32) (v8 : Int32) (v9 : Int32) (s0 : Int64) (s1 : Int32) (kh138 : Int32 → SL → Option (Int32 × SL)) (hkh138 : ∀ (w9 : Int32) (V' : SL), Run 3 yX10_findWorths cX10_findWorths 14 (some .int) none (fun a : Int32 × SL => (some (.int a.1), (S, T, U, a.2))) 138 [(0, .ref 78), (5, .int v5), (6, .int v6), (8, .int v8), (9, .int w9)] [] (S, T, U, V') (kh138 w9 V')) : Run 3 yX10_findWorths cX10_findWorths 14 (some .int) none (fun a : Int32 × SL => (some (.int a.1), (S, T, U, a.2))) 243 [(0, .ref 78), (5, .int v5), (6, .int v6), (8, .int v8), (9, .int v9)] [.long s0, .int s1, .ref 84] (S, T, U, V) (f_X10_findWorths_243 V v9 s0 s1 kh138) := by
  rw [f_X10_findWorths_243]
  refine rm_last dX10_findWorths_243 (by decide) (by decide) rfl (fun h32 => ?_)
  refine r_nmV (fun V33 => ?_)
  refine r_iinc (v := v9 + (-1 : Int32)) (L' := [(9, .int (v9 + (-1 : Int32))), (0, .ref 78), (5, .int v5), (6, .int v6), (8, .int v8)]) dX10_findWorths_244 4 rfl rfl (by decide) rfl ?_
  refine r_goto (tgt := 138) dX10_findWorths_247 (by decide) ?_
  exact r_pick [1, 2, 3, 4, 0] rfl (hkh138 (v9 + (-1 : Int32)) V33)
def f_X10_findWorths_138 (U : SI) (v5 : Int32) (v6 : Int32) (v8 : Int32) : Nat → Int32 → SL → Option (Int32 × SL)
  | 0, _, _ => none
  | m_ + 1, v9, V =>
    if v9 < 0 then
      some ((0 : Int32), V)
    else
      gd (inB (v8 + v9) 64) <|
      nm ((U 94 (ix (v8 + v9))).toInt64) fun x23 =>
      gd (inB (v9 + (1 : Int32)) 9) <|
      gd (inB v9 9) <|
      nm (up2 V 85 (ix v9) ((12 : Int64) * (V 85 (ix (v9 + (1 : Int32)))))) fun V26 =>
      gd (inB v9 9) <|
      gd (inB (v9 + (1 : Int32)) 9) <|
      gd (inB (v9 + (1 : Int32)) 9) <|
      nm (((((-v6).toInt64) * (V26 85 (ix v9))) + ((v5.toInt64 * x23) * (V26 85 (ix (v9 + (1 : Int32)))))) + (((12 : Int64) - x23) * (V26 84 (ix (v9 + (1 : Int32)))))) fun x30 =>
      if x30 ≤ (0 : Int64) then
        f_X10_findWorths_243 V26 v9 (0 : Int64) v9 (f_X10_findWorths_138 U v5 v6 v8 m_)
      else
        f_X10_findWorths_243 V26 v9 x30 v9 (f_X10_findWorths_138 U v5 v6 v8 m_)
set_option maxHeartbeats 4000000 in
set_option maxRecDepth 100000 in
theorem t_X10_findWorths_138 (S : SI) (T : SL) (U : SI) (v5 : Int32) (v6 : Int32) (v8 : Int32) : ∀ (m_ : Nat) (v9 : Int32) (V : SL), Run 3 yX10_findWorths cX10_findWorths 14 (some .int) none (fun a : Int32 × SL => (some (.int a.1), (S, T, U, a.2))) 138 [(0, .ref 78), (5, .int v5), (6, .int v6), (8, .int v8), (9, .int v9)] [] (S, T, U, V) (f_X10_findWorths_138 U v5 v6 v8 m_ v9 V) := by
  intro m_
  induction m_ with
  | zero =>
    intro v9 V
    rw [f_X10_findWorths_138]
    exact r_none
  | succ m_ ih =>
    intro v9 V
    rw [f_X10_findWorths_138]
    refine r_iload dX10_findWorths_138 4 rfl ?_
    refine r_if_lt (tgt := 250) dX10_findWorths_140 (by decide) (fun h21 => ?_) (fun h21 => ?_)
    · refine r_iconst (v := (0 : Int32)) dX10_findWorths_250 rfl ?_
      exact r_ireturn (ty := .int) dX10_findWorths_251 rfl (nar_i _) rfl
    · refine r_aload_n dX10_findWorths_143 0 rfl rfl ?_
      refine r_getr dX10_findWorths_144 fl_X10_56 (by decide) rfl rfl (by decide) ?_
      refine r_iload dX10_findWorths_147 3 rfl ?_
      refine r_iload dX10_findWorths_149 4 rfl ?_
      refine r_iadd dX10_findWorths_151 ?_
      refine rm_iald dX10_findWorths_152 (by decide) (by decide) rfl (fun h22 => ?_)
      refine r_i2l dX10_findWorths_153 ?_
      refine r_nml (fun x23 => ?_)
      refine r_lstore (L' := [(10, .long x23), (0, .ref 78), (5, .int v5), (6, .int v6), (8, .int v8), (9, .int v9)]) dX10_findWorths_154 (by decide) rfl ?_
      refine r_aload_n dX10_findWorths_156 1 rfl rfl ?_
      refine r_getr dX10_findWorths_157 fl_X10_29 (by decide) rfl rfl (by decide) ?_
      refine r_iload dX10_findWorths_160 5 rfl ?_
      refine r_ldc2_w (v := (12 : Int64)) dX10_findWorths_162 kw_X10_191 ?_
      refine r_aload_n dX10_findWorths_165 1 rfl rfl ?_
      refine r_getr dX10_findWorths_166 fl_X10_29 (by decide) rfl rfl (by decide) ?_
      refine r_iload dX10_findWorths_169 5 rfl ?_
      refine r_iconst (v := (1 : Int32)) dX10_findWorths_171 rfl ?_
      refine r_iadd dX10_findWorths_172 ?_
      refine rm_lald dX10_findWorths_173 (by decide) (by decide) rfl (fun h24 => ?_)
      refine r_lmul dX10_findWorths_174 ?_
      refine rm_last dX10_findWorths_175 (by decide) (by decide) rfl (fun h25 => ?_)
      refine r_nmV (fun V26 => ?_)
      refine r_iload dX10_findWorths_176 3 rfl ?_
      refine r_ineg dX10_findWorths_178 ?_
      refine r_i2l dX10_findWorths_179 ?_
      refine r_aload_n dX10_findWorths_180 1 rfl rfl ?_
      refine r_getr dX10_findWorths_181 fl_X10_29 (by decide) rfl rfl (by decide) ?_
      refine r_iload dX10_findWorths_184 5 rfl ?_
      refine rm_lald dX10_findWorths_186 (by decide) (by decide) rfl (fun h27 => ?_)
      refine r_lmul dX10_findWorths_187 ?_
      refine r_iload dX10_findWorths_188 2 rfl ?_
      refine r_i2l dX10_findWorths_190 ?_
      refine r_lload dX10_findWorths_191 0 rfl ?_
      refine r_lmul dX10_findWorths_193 ?_
      refine r_aload_n dX10_findWorths_194 1 rfl rfl ?_
      refine r_getr dX10_findWorths_195 fl_X10_29 (by decide) rfl rfl (by decide) ?_
      refine r_iload dX10_findWorths_198 5 rfl ?_
      refine r_iconst (v := (1 : Int32)) dX10_findWorths_200 rfl ?_
      refine r_iadd dX10_findWorths_201 ?_
      refine rm_lald dX10_findWorths_202 (by decide) (by decide) rfl (fun h28 => ?_)
      refine r_lmul dX10_findWorths_203 ?_
      refine r_ladd dX10_findWorths_204 ?_
      refine r_ldc2_w (v := (12 : Int64)) dX10_findWorths_205 kw_X10_191 ?_
      refine r_lload dX10_findWorths_208 0 rfl ?_
      refine r_lsub dX10_findWorths_210 ?_
      refine r_aload_n dX10_findWorths_211 1 rfl rfl ?_
      refine r_getr dX10_findWorths_212 fl_X10_25 (by decide) rfl rfl (by decide) ?_
      refine r_iload dX10_findWorths_215 5 rfl ?_
      refine r_iconst (v := (1 : Int32)) dX10_findWorths_217 rfl ?_
      refine r_iadd dX10_findWorths_218 ?_
      refine rm_lald dX10_findWorths_219 (by decide) (by decide) rfl (fun h29 => ?_)
      refine r_lmul dX10_findWorths_220 ?_
      refine r_ladd dX10_findWorths_221 ?_
      refine r_nml (fun x30 => ?_)
      refine r_lstore (L' := [(12, .long x30), (10, .long x23), (0, .ref 78), (5, .int v5), (6, .int v6), (8, .int v8), (9, .int v9)]) dX10_findWorths_222 (by decide) rfl ?_
      refine r_aload_n dX10_findWorths_224 2 rfl rfl ?_
      refine r_getr dX10_findWorths_225 fl_X10_25 (by decide) rfl rfl (by decide) ?_
      refine r_iload dX10_findWorths_228 6 rfl ?_
      refine r_lload dX10_findWorths_230 0 rfl ?_
      refine r_lconst (v := (0 : Int64)) dX10_findWorths_232 rfl ?_
      refine r_lcmp_le (tgt := 242) dX10_findWorths_233 dX10_findWorths_234 (by decide) (fun h31 => ?_) (fun h31 => ?_)
      · refine r_lconst (v := (0 : Int64)) dX10_findWorths_242 rfl ?_
        exact r_pick [2, 3, 4, 5, 6] rfl (t_X10_findWorths_243 S T U V26 v5 v6 v8 v9 (0 : Int64) v9 (f_X10_findWorths_138 U v5 v6 v8 m_) ih)
      · refine r_lload dX10_findWorths_237 0 rfl ?_
        refine r_goto (tgt := 243) dX10_findWorths_239 (by decide) ?_
        exact r_pick [2, 3, 4, 5, 6] rfl (t_X10_findWorths_243 S T U V26 v5 v6 v8 v9 x30 v9 (f_X10_findWorths_138 U v5 v6 v8 m_) ih)
def f_X10_findWorths_116 (U : SI) (V : SL) (v4 : Int32) (v5 : Int32) (v6 : Int32) (v8 : Int32) : Option (Int32 × SL) :=
  gd (inB v4 9) <|
  nm (up2 V 84 (ix v4) (0 : Int64)) fun V17 =>
  gd (inB v4 9) <|
  nm (up2 V17 85 (ix v4) (1 : Int64)) fun V19 =>
  nm (v4 - (1 : Int32)) fun x20 =>
  f_X10_findWorths_138 U v5 v6 v8 fu x20 V19
set_option maxHeartbeats 4000000 in
set_option maxRecDepth 100000 in
theorem t_X10_findWorths_116 (S : SI) (T : SL) (U : SI) (V : SL) (v4 : Int32) (v5 : Int32) (v6 : Int32) (v8 : Int32) : Run 3 yX10_findWorths cX10_findWorths 14 (some .int) none (fun a : Int32 × SL => (some (.int a.1), (S, T, U, a.2))) 116 [(0, .ref 78), (4, .int v4), (5, .int v5), (6, .int v6), (8, .int v8)] [] (S, T, U, V) (f_X10_findWorths_116 U V v4 v5 v6 v8) := by
  rw [f_X10_findWorths_116]
  refine r_aload_n dX10_findWorths_116 0 rfl rfl ?_
  refine r_getr dX10_findWorths_117 fl_X10_25 (by decide) rfl rfl (by decide) ?_
  refine r_iload dX10_findWorths_120 1 rfl ?_
  refine r_lconst (v := (0 : Int64)) dX10_findWorths_122 rfl ?_
  refine rm_last dX10_findWorths_123 (by decide) (by decide) rfl (fun h16 => ?_)
  refine r_nmV (fun V17 => ?_)
  refine r_aload_n dX10_findWorths_124 0 rfl rfl ?_
  refine r_getr dX10_findWorths_125 fl_X10_29 (by decide) rfl rfl (by decide) ?_
  refine r_iload dX10_findWorths_128 1 rfl ?_
  refine r_lconst (v := (1 : Int64)) dX10_findWorths_130 rfl ?_
  refine rm_last dX10_findWorths_131 (by decide) (by decide) rfl (fun h18 => ?_)
  refine r_nmV (fun V19 => ?_)
  refine r_iload dX10_findWorths_132 1 rfl ?_
  refine r_iconst (v := (1 : Int32)) dX10_findWorths_134 rfl ?_
  refine r_isub dX10_findWorths_135 ?_
  refine r_nmi (fun x20 => ?_)
  refine r_istore (L' := [(9, .int x20), (0, .ref 78), (4, .int v4), (5, .int v5), (6, .int v6), (8, .int v8)]) dX10_findWorths_136 (by decide) rfl ?_
  exact r_pick [1, 3, 4, 5, 0] rfl (t_X10_findWorths_138 S T U v5 v6 v8 fu x20 V19)
def f_X10_findWorths (U : SI) (V : SL) (v1 : Int32) (v2 : Int32) (v3 : Int32) (v4 : Int32) (v5 : Int32) (v6 : Int32) : Option (Int32 × SL) :=
  (f_X10_isSheet v1 v2).bind fun q1 =>
  if q1 = 0 then
    some ((-1 : Int32), V)
  else
    (f_X10_in v4.toInt64 (1 : Int64) (8 : Int64)).bind fun q3 =>
    if q3 = 0 then
      some ((-1 : Int32), V)
    else
      (f_X10_in v5.toInt64 (0 : Int64) (999 : Int64)).bind fun q5 =>
      if q5 = 0 then
        some ((-1 : Int32), V)
      else
        (f_X10_in v6.toInt64 (0 : Int64) (99 : Int64)).bind fun q7 =>
        if q7 = 0 then
          some ((-1 : Int32), V)
        else
          (f_X10_lacksRow U v1 v2 v3 v4).bind fun q9 =>
          if 0 ≤ q9 then
            nm (((16 : Int32) * v1) + v3) fun x11 =>
            f_X10_findWorths_79 U V v4 x11 (f_X10_findWorths_116 U V v4 v5 v6 x11) fu (0 : Int32)
          else
            some (q9, V)
set_option maxHeartbeats 4000000 in
set_option maxRecDepth 100000 in
theorem m_X10_findWorths (S : SI) (T : SL) (U : SI) (V : SL) (v1 : Int32) (v2 : Int32) (v3 : Int32) (v4 : Int32) (v5 : Int32) (v6 : Int32) : Meth 3 yX10_findWorths cX10_findWorths 14 (some .int) [.ref 78, .int v1, .int v2, .int v3, .int v4, .int v5, .int v6] (S, T, U, V) (f_X10_findWorths U V v1 v2 v3 v4 v5 v6) (fun a : Int32 × SL => (some (.int a.1), (S, T, U, a.2))) := by
  refine meth_of (L := [(0, .ref 78), (1, .int v1), (2, .int v2), (3, .int v3), (4, .int v4), (5, .int v5), (6, .int v6)]) (by decide +kernel) (Nat.le_of_ble_eq_true rfl) rfl ?_
  rw [f_X10_findWorths]
  refine r_iload_n dX10_findWorths_0 1 rfl rfl ?_
  refine r_iload_n dX10_findWorths_1 2 rfl rfl ?_
  refine rS_i (as := [.int v1, .int v2]) (st := []) dX10_findWorths_2 cl_X10_182 (m_X10_isSheet S T U V v1 v2) (by decide) rfl (Nat.le_of_ble_eq_true rfl) (fun q1 _ => ?_)
  refine r_if_eq (tgt := 47) dX10_findWorths_5 (by decide) (fun h2 => ?_) (fun h2 => ?_)
  · refine r_iconst (v := (-1 : Int32)) dX10_findWorths_47 rfl ?_
    exact r_ireturn (ty := .int) dX10_findWorths_48 rfl (nar_i _) rfl
  · refine r_iload dX10_findWorths_8 4 rfl ?_
    refine r_i2l dX10_findWorths_10 ?_
    refine r_lconst (v := (1 : Int64)) dX10_findWorths_11 rfl ?_
    refine r_ldc2_w (v := (8 : Int64)) dX10_findWorths_12 kw_X10_83 ?_
    refine rS_i (as := [.long v4.toInt64, .long (1 : Int64), .long (8 : Int64)]) (st := []) dX10_findWorths_15 cl_X10_59 (m_X10_in S T U V v4.toInt64 (1 : Int64) (8 : Int64)) (by decide) rfl (Nat.le_of_ble_eq_true rfl) (fun q3 _ => ?_)
    refine r_if_eq (tgt := 47) dX10_findWorths_18 (by decide) (fun h4 => ?_) (fun h4 => ?_)
    · refine r_iconst (v := (-1 : Int32)) dX10_findWorths_47 rfl ?_
      exact r_ireturn (ty := .int) dX10_findWorths_48 rfl (nar_i _) rfl
    · refine r_iload dX10_findWorths_21 5 rfl ?_
      refine r_i2l dX10_findWorths_23 ?_
      refine r_lconst (v := (0 : Int64)) dX10_findWorths_24 rfl ?_
      refine r_ldc2_w (v := (999 : Int64)) dX10_findWorths_25 kw_X10_189 ?_
      refine rS_i (as := [.long v5.toInt64, .long (0 : Int64), .long (999 : Int64)]) (st := []) dX10_findWorths_28 cl_X10_59 (m_X10_in S T U V v5.toInt64 (0 : Int64) (999 : Int64)) (by decide) rfl (Nat.le_of_ble_eq_true rfl) (fun q5 _ => ?_)
      refine r_if_eq (tgt := 47) dX10_findWorths_31 (by decide) (fun h6 => ?_) (fun h6 => ?_)
      · refine r_iconst (v := (-1 : Int32)) dX10_findWorths_47 rfl ?_
        exact r_ireturn (ty := .int) dX10_findWorths_48 rfl (nar_i _) rfl
      · refine r_iload dX10_findWorths_34 6 rfl ?_
        refine r_i2l dX10_findWorths_36 ?_
        refine r_lconst (v := (0 : Int64)) dX10_findWorths_37 rfl ?_
        refine r_ldc2_w (v := (99 : Int64)) dX10_findWorths_38 kw_X10_77 ?_
        refine rS_i (as := [.long v6.toInt64, .long (0 : Int64), .long (99 : Int64)]) (st := []) dX10_findWorths_41 cl_X10_59 (m_X10_in S T U V v6.toInt64 (0 : Int64) (99 : Int64)) (by decide) rfl (Nat.le_of_ble_eq_true rfl) (fun q7 _ => ?_)
        refine r_if_ne (tgt := 49) dX10_findWorths_44 (by decide) (fun h8 => ?_) (fun h8 => ?_)
        · refine r_iconst (v := (-1 : Int32)) dX10_findWorths_47 rfl ?_
          exact r_ireturn (ty := .int) dX10_findWorths_48 rfl (nar_i _) rfl
        · refine r_aload_n dX10_findWorths_49 0 rfl rfl ?_
          refine r_iload_n dX10_findWorths_50 1 rfl rfl ?_
          refine r_iload_n dX10_findWorths_51 2 rfl rfl ?_
          refine r_iload_n dX10_findWorths_52 3 rfl rfl ?_
          refine r_iload dX10_findWorths_53 4 rfl ?_
          refine rV_i (as := [.int v1, .int v2, .int v3, .int v4]) (st := []) dX10_findWorths_55 cl_X10_185 (by decide) rfl rfl (m_X10_lacksRow S T U V v1 v2 v3 v4) (by decide) rfl (Nat.le_of_ble_eq_true rfl) (fun q9 _ => ?_)
          refine r_istore (L' := [(7, .int q9), (0, .ref 78), (1, .int v1), (2, .int v2), (3, .int v3), (4, .int v4), (5, .int v5), (6, .int v6)]) dX10_findWorths_58 (by decide) rfl ?_
          refine r_iload dX10_findWorths_60 0 rfl ?_
          refine r_if_ge (tgt := 68) dX10_findWorths_62 (by decide) (fun h10 => ?_) (fun h10 => ?_)
          · refine r_bipush (v := (16 : Int32)) dX10_findWorths_68 rfl ?_
            refine r_iload_n dX10_findWorths_70 2 rfl rfl ?_
            refine r_imul dX10_findWorths_71 ?_
            refine r_iload_n dX10_findWorths_72 4 rfl rfl ?_
            refine r_iadd dX10_findWorths_73 ?_
            refine r_nmi (fun x11 => ?_)
            refine r_istore (L' := [(8, .int x11), (7, .int q9), (0, .ref 78), (1, .int v1), (2, .int v2), (3, .int v3), (4, .int v4), (5, .int v5), (6, .int v6)]) dX10_findWorths_74 (by decide) rfl ?_
            refine r_iconst (v := (0 : Int32)) dX10_findWorths_76 rfl ?_
            refine r_istore (L' := [(9, .int (0 : Int32)), (8, .int x11), (7, .int q9), (0, .ref 78), (1, .int v1), (2, .int v2), (3, .int v3), (4, .int v4), (5, .int v5), (6, .int v6)]) dX10_findWorths_77 (by decide) rfl ?_
            exact r_pick [3, 7, 8, 9, 1, 0] rfl (t_X10_findWorths_79 S T U V v4 v5 v6 x11 (f_X10_findWorths_116 U V v4 v5 v6 x11) (r_pick [0, 1, 2, 3, 4] rfl (t_X10_findWorths_116 S T U V v4 v5 v6 x11)) fu (0 : Int32))
          · refine r_iload dX10_findWorths_65 0 rfl ?_
            exact r_ireturn (ty := .int) dX10_findWorths_67 rfl (nar_i _) rfl
def f_X10_thrown_26 (V : SL) (v4 : Int32) : Nat → Int32 → Option (Int32 × SL)
  | 0, _ => none
  | m_ + 1, v8 =>
    if v4 ≤ v8 then
      some ((-4 : Int32), V)
    else
      gd (inB v8 9) <|
      if (V 84 (ix v8)) = (0 : Int64) then
        some (v8, V)
      else
        (f_X10_thrown_26 V v4 m_) (v8 + (1 : Int32))
set_option maxHeartbeats 4000000 in
set_option maxRecDepth 100000 in
theorem t_X10_thrown_26 (S : SI) (T : SL) (U : SI) (V : SL) (v4 : Int32) : ∀ (m_ : Nat) (v8 : Int32), Run 4 yX10_thrown cX10_thrown 9 (some .int) none (fun a : Int32 × SL => (some (.int a.1), (S, T, U, a.2))) 26 [(0, .ref 78), (4, .int v4), (8, .int v8)] [] (S, T, U, V) (f_X10_thrown_26 V v4 m_ v8) := by
  intro m_
  induction m_ with
  | zero =>
    intro v8
    rw [f_X10_thrown_26]
    exact r_none
  | succ m_ ih =>
    intro v8
    rw [f_X10_thrown_26]
    refine r_iload dX10_thrown_26 2 rfl ?_
    refine r_iload dX10_thrown_28 1 rfl ?_
    refine r_icmp_ge (tgt := 54) dX10_thrown_30 (by decide) (fun h3 => ?_) (fun h3 => ?_)
    · refine r_bipush (v := (-4 : Int32)) dX10_thrown_54 rfl ?_
      exact r_ireturn (ty := .int) dX10_thrown_56 rfl (nar_i _) rfl
    · refine r_aload_n dX10_thrown_33 0 rfl rfl ?_
      refine r_getr dX10_thrown_34 fl_X10_25 (by decide) rfl rfl (by decide) ?_
      refine r_iload dX10_thrown_37 2 rfl ?_
      refine rm_lald dX10_thrown_39 (by decide) (by decide) rfl (fun h4 => ?_)
      refine r_lconst (v := (0 : Int64)) dX10_thrown_40 rfl ?_
      refine r_lcmp_ne (tgt := 48) dX10_thrown_41 dX10_thrown_42 (by decide) (fun h5 => ?_) (fun h5 => ?_)
      · refine r_iload dX10_thrown_45 2 rfl ?_
        exact r_ireturn (ty := .int) dX10_thrown_47 rfl (nar_i _) rfl
      · refine r_iinc (v := v8 + (1 : Int32)) (L' := [(8, .int (v8 + (1 : Int32))), (0, .ref 78), (4, .int v4)]) dX10_thrown_48 2 rfl rfl (by decide) rfl ?_
        refine r_goto (tgt := 26) dX10_thrown_51 (by decide) ?_
        exact r_pick [1, 2, 0] rfl (ih (v8 + (1 : Int32)))
def f_X10_thrown (U : SI) (V : SL) (v1 : Int32) (v2 : Int32) (v3 : Int32) (v4 : Int32) (v5 : Int32) (v6 : Int32) : Option (Int32 × SL) :=
  (f_X10_findWorths U V v1 v2 v3 v4 v5 v6).bind fun q1 =>
  if 0 ≤ q1.1 then
    f_X10_thrown_26 q1.2 v4 fu (0 : Int32)
  else
    some (q1.1, q1.2)
set_option maxHeartbeats 4000000 in
set_option maxRecDepth 100000 in
theorem m_X10_thrown (S : SI) (T : SL) (U : SI) (V : SL) (v1 : Int32) (v2 : Int32) (v3 : Int32) (v4 : Int32) (v5 : Int32) (v6 : Int32) : Meth 4 yX10_thrown cX10_thrown 9 (some .int) [.ref 78, .int v1, .int v2, .int v3, .int v4, .int v5, .int v6] (S, T, U, V) (f_X10_thrown U V v1 v2 v3 v4 v5 v6) (fun a : Int32 × SL => (some (.int a.1), (S, T, U, a.2))) := by
  refine meth_of (L := [(0, .ref 78), (1, .int v1), (2, .int v2), (3, .int v3), (4, .int v4), (5, .int v5), (6, .int v6)]) (by decide +kernel) (Nat.le_of_ble_eq_true rfl) rfl ?_
  rw [f_X10_thrown]
  refine r_aload_n dX10_thrown_0 0 rfl rfl ?_
  refine r_iload_n dX10_thrown_1 1 rfl rfl ?_
  refine r_iload_n dX10_thrown_2 2 rfl rfl ?_
  refine r_iload_n dX10_thrown_3 3 rfl rfl ?_
  refine r_iload dX10_thrown_4 4 rfl ?_
  refine r_iload dX10_thrown_6 5 rfl ?_
  refine r_iload dX10_thrown_8 6 rfl ?_
  refine rVm_iT (as := [.int v1, .int v2, .int v3, .int v4, .int v5, .int v6]) (st := []) dX10_thrown_10 cl_X10_193 (by decide) rfl rfl (m_X10_findWorths S T U V v1 v2 v3 v4 v5 v6) (by decide) rfl (Nat.le_of_ble_eq_true rfl) (fun q1 _ => ?_)
  refine r_istore (L' := [(7, .int q1.1), (0, .ref 78), (1, .int v1), (2, .int v2), (3, .int v3), (4, .int v4), (5, .int v5), (6, .int v6)]) dX10_thrown_13 (by decide) rfl ?_
  refine r_iload dX10_thrown_15 0 rfl ?_
  refine r_if_ge (tgt := 23) dX10_thrown_17 (by decide) (fun h2 => ?_) (fun h2 => ?_)
  · refine r_iconst (v := (0 : Int32)) dX10_thrown_23 rfl ?_
    refine r_istore (L' := [(8, .int (0 : Int32)), (7, .int q1.1), (0, .ref 78), (1, .int v1), (2, .int v2), (3, .int v3), (4, .int v4), (5, .int v5), (6, .int v6)]) dX10_thrown_24 (by decide) rfl ?_
    exact r_pick [2, 6, 0] rfl (t_X10_thrown_26 S T U q1.2 v4 fu (0 : Int32))
  · refine r_iload dX10_thrown_20 0 rfl ?_
    exact r_ireturn (ty := .int) dX10_thrown_22 rfl (nar_i _) rfl
def f_X10_common_6  : Nat → Int64 → Int64 → Option (Int64)
  | 0, _, _ => none
  | m_ + 1, v4, v6 =>
    if v6 = (0 : Int64) then
      some v4
    else
      if v6 = 0 then none else
      nm (v4 - v4 / v6 * v6) fun x3 =>
      (f_X10_common_6 m_) v6 x3
set_option maxHeartbeats 4000000 in
set_option maxRecDepth 100000 in
theorem t_X10_common_6 (S : SI) (T : SL) (U : SI) (V : SL) : ∀ (m_ : Nat) (v4 : Int64) (v6 : Int64), Run 1 yX10_common cX10_common 10 (some .long) none (fun a : Int64 => (some (.long a), (S, T, U, V))) 6 [(4, .long v4), (6, .long v6)] [] (S, T, U, V) (f_X10_common_6 m_ v4 v6) := by
  intro m_
  induction m_ with
  | zero =>
    intro v4 v6
    rw [f_X10_common_6]
    exact r_none
  | succ m_ ih =>
    intro v4 v6
    rw [f_X10_common_6]
    refine r_lload dX10_common_6 1 rfl ?_
    refine r_lconst (v := (0 : Int64)) dX10_common_8 rfl ?_
    refine r_lcmp_eq (tgt := 31) dX10_common_9 dX10_common_10 (by decide) (fun h1 => ?_) (fun h1 => ?_)
    · refine r_lload dX10_common_31 0 rfl ?_
      exact r_lreturn dX10_common_33 rfl rfl
    · refine r_lload dX10_common_13 0 rfl ?_
      refine r_lload dX10_common_15 1 rfl ?_
      refine r_lrem dX10_common_17 (fun h2 => ?_)
      refine r_nml (fun x3 => ?_)
      refine r_lstore (L' := [(8, .long x3), (4, .long v4), (6, .long v6)]) dX10_common_18 (by decide) rfl ?_
      refine r_lload dX10_common_20 2 rfl ?_
      refine r_lstore (L' := [(4, .long v6), (8, .long x3), (6, .long v6)]) dX10_common_22 (by decide) rfl ?_
      refine r_lload dX10_common_24 1 rfl ?_
      refine r_lstore (L' := [(6, .long x3), (4, .long v6), (8, .long x3)]) dX10_common_26 (by decide) rfl ?_
      refine r_goto (tgt := 6) dX10_common_28 (by decide) ?_
      exact r_pick [1, 0] rfl (ih v6 x3)
def f_X10_common (v0 : Int64) (v2 : Int64) : Option (Int64) :=
  f_X10_common_6 fu v0 v2
set_option maxHeartbeats 4000000 in
set_option maxRecDepth 100000 in
theorem m_X10_common (S : SI) (T : SL) (U : SI) (V : SL) (v0 : Int64) (v2 : Int64) : Meth 1 yX10_common cX10_common 10 (some .long) [.long v0, .long v2] (S, T, U, V) (f_X10_common v0 v2) (fun a : Int64 => (some (.long a), (S, T, U, V))) := by
  refine meth_of (L := [(0, .long v0), (2, .long v2)]) (by decide +kernel) (Nat.le_of_ble_eq_true rfl) rfl ?_
  rw [f_X10_common]
  refine r_lload_n dX10_common_0 0 rfl rfl ?_
  refine r_lstore (L' := [(4, .long v0), (0, .long v0), (2, .long v2)]) dX10_common_1 (by decide) rfl ?_
  refine r_lload_n dX10_common_3 2 rfl rfl ?_
  refine r_lstore (L' := [(6, .long v2), (4, .long v0), (0, .long v0), (2, .long v2)]) dX10_common_4 (by decide) rfl ?_
  exact r_pick [1, 0] rfl (t_X10_common_6 S T U V fu v0 v2)
def f_X10_worth (U : SI) (V : SL) (v1 : Int32) (v2 : Int32) (v3 : Int32) (v4 : Int32) (v5 : Int32) (v6 : Int32) (v7 : Int32) : Option (Int64 × SL) :=
  (f_X10_in v7.toInt64 (0 : Int64) (1 : Int64)).bind fun q1 =>
  if q1 = 0 then
    some ((-1 : Int64), V)
  else
    (f_X10_findWorths U V v1 v2 v3 v4 v5 v6).bind fun q3 =>
    if 0 ≤ q3.1 then
      gd (inB (0 : Int32) 9) <|
      gd (inB (0 : Int32) 9) <|
      (f_X10_common (q3.2 84 (ix (0 : Int32))) (q3.2 85 (ix (0 : Int32)))).bind fun q7 =>
      if v7 = 0 then
        gd (inB (0 : Int32) 9) <|
        if q7 = 0 then none else
        some ((q3.2 84 (ix (0 : Int32))) / q7, q3.2)
      else
        gd (inB (0 : Int32) 9) <|
        if q7 = 0 then none else
        some ((q3.2 85 (ix (0 : Int32))) / q7, q3.2)
    else
      some (q3.1.toInt64, q3.2)
set_option maxHeartbeats 4000000 in
set_option maxRecDepth 100000 in
theorem m_X10_worth (S : SI) (T : SL) (U : SI) (V : SL) (v1 : Int32) (v2 : Int32) (v3 : Int32) (v4 : Int32) (v5 : Int32) (v6 : Int32) (v7 : Int32) : Meth 4 yX10_worth cX10_worth 11 (some .long) [.ref 78, .int v1, .int v2, .int v3, .int v4, .int v5, .int v6, .int v7] (S, T, U, V) (f_X10_worth U V v1 v2 v3 v4 v5 v6 v7) (fun a : Int64 × SL => (some (.long a.1), (S, T, U, a.2))) := by
  refine meth_of (L := [(0, .ref 78), (1, .int v1), (2, .int v2), (3, .int v3), (4, .int v4), (5, .int v5), (6, .int v6), (7, .int v7)]) (by decide +kernel) (Nat.le_of_ble_eq_true rfl) rfl ?_
  rw [f_X10_worth]
  refine r_iload dX10_worth_0 7 rfl ?_
  refine r_i2l dX10_worth_2 ?_
  refine r_lconst (v := (0 : Int64)) dX10_worth_3 rfl ?_
  refine r_lconst (v := (1 : Int64)) dX10_worth_4 rfl ?_
  refine rS_i (as := [.long v7.toInt64, .long (0 : Int64), .long (1 : Int64)]) (st := []) dX10_worth_5 cl_X10_59 (m_X10_in S T U V v7.toInt64 (0 : Int64) (1 : Int64)) (by decide) rfl (Nat.le_of_ble_eq_true rfl) (fun q1 _ => ?_)
  refine r_if_ne (tgt := 15) dX10_worth_8 (by decide) (fun h2 => ?_) (fun h2 => ?_)
  · refine r_ldc2_w (v := (-1 : Int64)) dX10_worth_11 kw_X10_197 ?_
    exact r_lreturn dX10_worth_14 rfl rfl
  · refine r_aload_n dX10_worth_15 0 rfl rfl ?_
    refine r_iload_n dX10_worth_16 1 rfl rfl ?_
    refine r_iload_n dX10_worth_17 2 rfl rfl ?_
    refine r_iload_n dX10_worth_18 3 rfl rfl ?_
    refine r_iload dX10_worth_19 4 rfl ?_
    refine r_iload dX10_worth_21 5 rfl ?_
    refine r_iload dX10_worth_23 6 rfl ?_
    refine rVm_iT (as := [.int v1, .int v2, .int v3, .int v4, .int v5, .int v6]) (st := []) dX10_worth_25 cl_X10_193 (by decide) rfl rfl (m_X10_findWorths S T U V v1 v2 v3 v4 v5 v6) (by decide) rfl (Nat.le_of_ble_eq_true rfl) (fun q3 _ => ?_)
    refine r_istore (L' := [(8, .int q3.1), (0, .ref 78), (1, .int v1), (2, .int v2), (3, .int v3), (4, .int v4), (5, .int v5), (6, .int v6), (7, .int v7)]) dX10_worth_28 (by decide) rfl ?_
    refine r_iload dX10_worth_30 0 rfl ?_
    refine r_if_ge (tgt := 39) dX10_worth_32 (by decide) (fun h4 => ?_) (fun h4 => ?_)
    · refine r_aload_n dX10_worth_39 1 rfl rfl ?_
      refine r_getr dX10_worth_40 fl_X10_25 (by decide) rfl rfl (by decide) ?_
      refine r_iconst (v := (0 : Int32)) dX10_worth_43 rfl ?_
      refine rm_lald dX10_worth_44 (by decide) (by decide) rfl (fun h5 => ?_)
      refine r_aload_n dX10_worth_45 1 rfl rfl ?_
      refine r_getr dX10_worth_46 fl_X10_29 (by decide) rfl rfl (by decide) ?_
      refine r_iconst (v := (0 : Int32)) dX10_worth_49 rfl ?_
      refine rm_lald dX10_worth_50 (by decide) (by decide) rfl (fun h6 => ?_)
      refine rS_l (as := [.long (q3.2 84 (ix (0 : Int32))), .long (q3.2 85 (ix (0 : Int32)))]) (st := []) dX10_worth_51 cl_X10_199 (m_X10_common S T U q3.2 (q3.2 84 (ix (0 : Int32))) (q3.2 85 (ix (0 : Int32)))) (by decide) rfl (Nat.le_of_ble_eq_true rfl) (fun q7 _ => ?_)
      refine r_lstore (L' := [(9, .long q7), (8, .int q3.1), (0, .ref 78), (1, .int v1), (2, .int v2), (3, .int v3), (4, .int v4), (5, .int v5), (6, .int v6), (7, .int v7)]) dX10_worth_54 (by decide) rfl ?_
      refine r_iload dX10_worth_56 9 rfl ?_
      refine r_if_ne (tgt := 73) dX10_worth_58 (by decide) (fun h8 => ?_) (fun h8 => ?_)
      · refine r_aload_n dX10_worth_61 2 rfl rfl ?_
        refine r_getr dX10_worth_62 fl_X10_25 (by decide) rfl rfl (by decide) ?_
        refine r_iconst (v := (0 : Int32)) dX10_worth_65 rfl ?_
        refine rm_lald dX10_worth_66 (by decide) (by decide) rfl (fun h9 => ?_)
        refine r_lload dX10_worth_67 0 rfl ?_
        refine r_ldiv dX10_worth_69 (fun h10 => ?_)
        refine r_goto (tgt := 82) dX10_worth_70 (by decide) ?_
        exact r_lreturn dX10_worth_82 rfl rfl
      · refine r_aload_n dX10_worth_73 2 rfl rfl ?_
        refine r_getr dX10_worth_74 fl_X10_29 (by decide) rfl rfl (by decide) ?_
        refine r_iconst (v := (0 : Int32)) dX10_worth_77 rfl ?_
        refine rm_lald dX10_worth_78 (by decide) (by decide) rfl (fun h11 => ?_)
        refine r_lload dX10_worth_79 0 rfl ?_
        refine r_ldiv dX10_worth_81 (fun h12 => ?_)
        exact r_lreturn dX10_worth_82 rfl rfl
    · refine r_iload dX10_worth_35 0 rfl ?_
      refine r_i2l dX10_worth_37 ?_
      exact r_lreturn dX10_worth_38 rfl rfl
def f_X10_boxOf_58 (v4 : Int32) (s0 : Int32) (s1 : Int32) (kh5 : Int32 → Int32 → Option (Int32)) : Option (Int32) :=
  nm (s1 + s0) fun x8 =>
  kh5 x8 (v4 + (1 : Int32))
set_option maxHeartbeats 4000000 in
set_option maxRecDepth 100000 in
theorem t_X10_boxOf_58 (S : SI) (T : SL) (U : SI) (V : SL) (v1 : Int32) (v2 : Int32) (v4 : Int32) (s0 : Int32) (s1 : Int32) (kh5 : Int32 → Int32 → Option (Int32)) (hkh5 : ∀ (w3 : Int32) (w4 : Int32), Run 2 yX10_boxOf cX10_boxOf 5 (some .int) none (fun a : Int32 => (some (.int a), (S, T, U, V))) 5 [(0, .ref 78), (1, .int v1), (2, .int v2), (3, .int w3), (4, .int w4)] [] (S, T, U, V) (kh5 w3 w4)) : Run 2 yX10_boxOf cX10_boxOf 5 (some .int) none (fun a : Int32 => (some (.int a), (S, T, U, V))) 58 [(0, .ref 78), (1, .int v1), (2, .int v2), (4, .int v4)] [.int s0, .int s1] (S, T, U, V) (f_X10_boxOf_58 v4 s0 s1 kh5) := by
  rw [f_X10_boxOf_58]
  refine r_iadd dX10_boxOf_58 ?_
  refine r_nmi (fun x8 => ?_)
  refine r_istore_n (L' := [(3, .int x8), (0, .ref 78), (1, .int v1), (2, .int v2), (4, .int v4)]) dX10_boxOf_59 rfl (by decide) rfl ?_
  refine r_iinc (v := v4 + (1 : Int32)) (L' := [(4, .int (v4 + (1 : Int32))), (3, .int x8), (0, .ref 78), (1, .int v1), (2, .int v2)]) dX10_boxOf_60 4 rfl rfl (by decide) rfl ?_
  refine r_goto (tgt := 5) dX10_boxOf_63 (by decide) ?_
  exact r_pick [2, 3, 4, 1, 0] rfl (hkh5 x8 (v4 + (1 : Int32)))
def f_X10_boxOf_5 (U : SI) (v1 : Int32) (v2 : Int32) : Nat → Int32 → Int32 → Option (Int32)
  | 0, _, _ => none
  | m_ + 1, v3, v4 =>
    gd (inB (0 : Int32) 205) <|
    if (U 79 (ix (0 : Int32))) ≤ v4 then
      some v3
    else
      (f_X10_of U v4 (4 : Int32)).bind fun q3 =>
      if q3 = 0 then
        (f_X10_of U v4 (0 : Int32)).bind fun q5 =>
        if q5 = v1 then
          if v2 < 0 then
            f_X10_boxOf_58 v4 (1 : Int32) v3 (f_X10_boxOf_5 U v1 v2 m_)
          else
            (f_X10_of U v4 (1 : Int32)).bind fun q9 =>
            if q9 = v2 then
              f_X10_boxOf_58 v4 (1 : Int32) v3 (f_X10_boxOf_5 U v1 v2 m_)
            else
              f_X10_boxOf_58 v4 (0 : Int32) v3 (f_X10_boxOf_5 U v1 v2 m_)
        else
          f_X10_boxOf_58 v4 (0 : Int32) v3 (f_X10_boxOf_5 U v1 v2 m_)
      else
        f_X10_boxOf_58 v4 (0 : Int32) v3 (f_X10_boxOf_5 U v1 v2 m_)
set_option maxHeartbeats 4000000 in
set_option maxRecDepth 100000 in
theorem t_X10_boxOf_5 (S : SI) (T : SL) (U : SI) (V : SL) (v1 : Int32) (v2 : Int32) : ∀ (m_ : Nat) (v3 : Int32) (v4 : Int32), Run 2 yX10_boxOf cX10_boxOf 5 (some .int) none (fun a : Int32 => (some (.int a), (S, T, U, V))) 5 [(0, .ref 78), (1, .int v1), (2, .int v2), (3, .int v3), (4, .int v4)] [] (S, T, U, V) (f_X10_boxOf_5 U v1 v2 m_ v3 v4) := by
  intro m_
  induction m_ with
  | zero =>
    intro v3 v4
    rw [f_X10_boxOf_5]
    exact r_none
  | succ m_ ih =>
    intro v3 v4
    rw [f_X10_boxOf_5]
    refine r_iload dX10_boxOf_5 4 rfl ?_
    refine r_aload_n dX10_boxOf_7 0 rfl rfl ?_
    refine r_getr dX10_boxOf_8 fl_X10_7 (by decide) rfl rfl (by decide) ?_
    refine r_iconst (v := (0 : Int32)) dX10_boxOf_11 rfl ?_
    refine rm_iald dX10_boxOf_12 (by decide) (by decide) rfl (fun h1 => ?_)
    refine r_icmp_ge (tgt := 66) dX10_boxOf_13 (by decide) (fun h2 => ?_) (fun h2 => ?_)
    · refine r_iload_n dX10_boxOf_66 3 rfl rfl ?_
      exact r_ireturn (ty := .int) dX10_boxOf_67 rfl (nar_i _) rfl
    · refine r_iload_n dX10_boxOf_16 3 rfl rfl ?_
      refine r_aload_n dX10_boxOf_17 0 rfl rfl ?_
      refine r_iload dX10_boxOf_18 4 rfl ?_
      refine r_iconst (v := (4 : Int32)) dX10_boxOf_20 rfl ?_
      refine rV_i (as := [.int v4, .int (4 : Int32)]) (st := [.int v3]) dX10_boxOf_21 cl_X10_67 (by decide) rfl rfl (m_X10_of S T U V v4 (4 : Int32)) (by decide) rfl (Nat.le_of_ble_eq_true rfl) (fun q3 _ => ?_)
      refine r_if_ne (tgt := 57) dX10_boxOf_24 (by decide) (fun h4 => ?_) (fun h4 => ?_)
      · refine r_aload_n dX10_boxOf_27 0 rfl rfl ?_
        refine r_iload dX10_boxOf_28 4 rfl ?_
        refine r_iconst (v := (0 : Int32)) dX10_boxOf_30 rfl ?_
        refine rV_i (as := [.int v4, .int (0 : Int32)]) (st := [.int v3]) dX10_boxOf_31 cl_X10_67 (by decide) rfl rfl (m_X10_of S T U V v4 (0 : Int32)) (by decide) rfl (Nat.le_of_ble_eq_true rfl) (fun q5 _ => ?_)
        refine r_iload_n dX10_boxOf_34 1 rfl rfl ?_
        refine r_icmp_ne (tgt := 57) dX10_boxOf_35 (by decide) (fun h6 => ?_) (fun h6 => ?_)
        · refine r_iload_n dX10_boxOf_38 2 rfl rfl ?_
          refine r_if_lt (tgt := 53) dX10_boxOf_39 (by decide) (fun h7 => ?_) (fun h7 => ?_)
          · refine r_iconst (v := (1 : Int32)) dX10_boxOf_53 rfl ?_
            refine r_goto (tgt := 58) dX10_boxOf_54 (by decide) ?_
            exact r_pick [0, 1, 2, 4] rfl (t_X10_boxOf_58 S T U V v1 v2 v4 (1 : Int32) v3 (f_X10_boxOf_5 U v1 v2 m_) ih)
          · refine r_aload_n dX10_boxOf_42 0 rfl rfl ?_
            refine r_iload dX10_boxOf_43 4 rfl ?_
            refine r_iconst (v := (1 : Int32)) dX10_boxOf_45 rfl ?_
            refine rV_i (as := [.int v4, .int (1 : Int32)]) (st := [.int v3]) dX10_boxOf_46 cl_X10_67 (by decide) rfl rfl (m_X10_of S T U V v4 (1 : Int32)) (by decide) rfl (Nat.le_of_ble_eq_true rfl) (fun q9 _ => ?_)
            refine r_iload_n dX10_boxOf_49 2 rfl rfl ?_
            refine r_icmp_ne (tgt := 57) dX10_boxOf_50 (by decide) (fun h10 => ?_) (fun h10 => ?_)
            · refine r_iconst (v := (1 : Int32)) dX10_boxOf_53 rfl ?_
              refine r_goto (tgt := 58) dX10_boxOf_54 (by decide) ?_
              exact r_pick [0, 1, 2, 4] rfl (t_X10_boxOf_58 S T U V v1 v2 v4 (1 : Int32) v3 (f_X10_boxOf_5 U v1 v2 m_) ih)
            · refine r_iconst (v := (0 : Int32)) dX10_boxOf_57 rfl ?_
              exact r_pick [0, 1, 2, 4] rfl (t_X10_boxOf_58 S T U V v1 v2 v4 (0 : Int32) v3 (f_X10_boxOf_5 U v1 v2 m_) ih)
        · refine r_iconst (v := (0 : Int32)) dX10_boxOf_57 rfl ?_
          exact r_pick [0, 1, 2, 4] rfl (t_X10_boxOf_58 S T U V v1 v2 v4 (0 : Int32) v3 (f_X10_boxOf_5 U v1 v2 m_) ih)
      · refine r_iconst (v := (0 : Int32)) dX10_boxOf_57 rfl ?_
        exact r_pick [0, 1, 2, 4] rfl (t_X10_boxOf_58 S T U V v1 v2 v4 (0 : Int32) v3 (f_X10_boxOf_5 U v1 v2 m_) ih)
def f_X10_boxOf (U : SI) (v1 : Int32) (v2 : Int32) : Option (Int32) :=
  f_X10_boxOf_5 U v1 v2 fu (0 : Int32) (0 : Int32)
set_option maxHeartbeats 4000000 in
set_option maxRecDepth 100000 in
theorem m_X10_boxOf (S : SI) (T : SL) (U : SI) (V : SL) (v1 : Int32) (v2 : Int32) : Meth 2 yX10_boxOf cX10_boxOf 5 (some .int) [.ref 78, .int v1, .int v2] (S, T, U, V) (f_X10_boxOf U v1 v2) (fun a : Int32 => (some (.int a), (S, T, U, V))) := by
  refine meth_of (L := [(0, .ref 78), (1, .int v1), (2, .int v2)]) (by decide +kernel) (Nat.le_of_ble_eq_true rfl) rfl ?_
  rw [f_X10_boxOf]
  refine r_iconst (v := (0 : Int32)) dX10_boxOf_0 rfl ?_
  refine r_istore_n (L' := [(3, .int (0 : Int32)), (0, .ref 78), (1, .int v1), (2, .int v2)]) dX10_boxOf_1 rfl (by decide) rfl ?_
  refine r_iconst (v := (0 : Int32)) dX10_boxOf_2 rfl ?_
  refine r_istore (L' := [(4, .int (0 : Int32)), (3, .int (0 : Int32)), (0, .ref 78), (1, .int v1), (2, .int v2)]) dX10_boxOf_3 (by decide) rfl ?_
  exact r_pick [2, 3, 4, 1, 0] rfl (t_X10_boxOf_5 S T U V v1 v2 fu (0 : Int32) (0 : Int32))
def f_X10_worst_54 (v2 : Int32) (s0 : Int32) (s1 : Int32) (kh4 : Int32 → Int32 → Option (Int32)) : Option (Int32) :=
  nm (s1 + s0) fun x7 =>
  kh4 x7 (v2 + (1 : Int32))
set_option maxHeartbeats 4000000 in
set_option maxRecDepth 100000 in
theorem t_X10_worst_54 (S : SI) (T : SL) (U : SI) (V : SL) (v2 : Int32) (s0 : Int32) (s1 : Int32) (kh4 : Int32 → Int32 → Option (Int32)) (hkh4 : ∀ (w1 : Int32) (w2 : Int32), Run 3 yX10_worst cX10_worst 3 (some .int) none (fun a : Int32 => (some (.int a), (S, T, U, V))) 4 [(0, .ref 78), (1, .int w1), (2, .int w2)] [] (S, T, U, V) (kh4 w1 w2)) : Run 3 yX10_worst cX10_worst 3 (some .int) none (fun a : Int32 => (some (.int a), (S, T, U, V))) 54 [(0, .ref 78), (2, .int v2)] [.int s0, .int s1] (S, T, U, V) (f_X10_worst_54 v2 s0 s1 kh4) := by
  rw [f_X10_worst_54]
  refine r_iadd dX10_worst_54 ?_
  refine r_nmi (fun x7 => ?_)
  refine r_istore_n (L' := [(1, .int x7), (0, .ref 78), (2, .int v2)]) dX10_worst_55 rfl (by decide) rfl ?_
  refine r_iinc (v := v2 + (1 : Int32)) (L' := [(2, .int (v2 + (1 : Int32))), (1, .int x7), (0, .ref 78)]) dX10_worst_56 2 rfl rfl (by decide) rfl ?_
  refine r_goto (tgt := 4) dX10_worst_59 (by decide) ?_
  exact r_pick [2, 1, 0] rfl (hkh4 x7 (v2 + (1 : Int32)))
def f_X10_worst_4 (U : SI) (ke62 : Int32 → Option (Int32)) : Nat → Int32 → Int32 → Option (Int32)
  | 0, _, _ => none
  | m_ + 1, v1, v2 =>
    if (6 : Int32) ≤ v2 then
      ke62 v1
    else
      gd (inB (3 : Int32) 205) <|
      if (U 79 (ix (3 : Int32))) = (1 : Int32) then
        (f_X10_boxOf U v2 (0 : Int32)).bind fun q4 =>
        (f_X10_boxOf U v2 (1 : Int32)).bind fun q5 =>
        (f_X10_more q4 q5).bind fun q6 =>
        f_X10_worst_54 v2 q6 v1 (f_X10_worst_4 U ke62 m_)
      else
        (f_X10_boxOf U v2 (-4 : Int32)).bind fun q8 =>
        if q8 ≤ 0 then
          f_X10_worst_54 v2 (0 : Int32) v1 (f_X10_worst_4 U ke62 m_)
        else
          f_X10_worst_54 v2 (1 : Int32) v1 (f_X10_worst_4 U ke62 m_)
set_option maxHeartbeats 4000000 in
set_option maxRecDepth 100000 in
theorem t_X10_worst_4 (S : SI) (T : SL) (U : SI) (V : SL) (ke62 : Int32 → Option (Int32)) (hke62 : ∀ (w1 : Int32), Run 3 yX10_worst cX10_worst 3 (some .int) none (fun a : Int32 => (some (.int a), (S, T, U, V))) 62 [(0, .ref 78), (1, .int w1)] [] (S, T, U, V) (ke62 w1)) : ∀ (m_ : Nat) (v1 : Int32) (v2 : Int32), Run 3 yX10_worst cX10_worst 3 (some .int) none (fun a : Int32 => (some (.int a), (S, T, U, V))) 4 [(0, .ref 78), (1, .int v1), (2, .int v2)] [] (S, T, U, V) (f_X10_worst_4 U ke62 m_ v1 v2) := by
  intro m_
  induction m_ with
  | zero =>
    intro v1 v2
    rw [f_X10_worst_4]
    exact r_none
  | succ m_ ih =>
    intro v1 v2
    rw [f_X10_worst_4]
    refine r_iload_n dX10_worst_4 2 rfl rfl ?_
    refine r_bipush (v := (6 : Int32)) dX10_worst_5 rfl ?_
    refine r_icmp_ge (tgt := 62) dX10_worst_7 (by decide) (fun h1 => ?_) (fun h1 => ?_)
    · exact r_pick [0, 1] rfl (hke62 v1)
    · refine r_iload_n dX10_worst_10 1 rfl rfl ?_
      refine r_aload_n dX10_worst_11 0 rfl rfl ?_
      refine r_getr dX10_worst_12 fl_X10_7 (by decide) rfl rfl (by decide) ?_
      refine r_iconst (v := (3 : Int32)) dX10_worst_15 rfl ?_
      refine rm_iald dX10_worst_16 (by decide) (by decide) rfl (fun h2 => ?_)
      refine r_iconst (v := (1 : Int32)) dX10_worst_17 rfl ?_
      refine r_icmp_ne (tgt := 39) dX10_worst_18 (by decide) (fun h3 => ?_) (fun h3 => ?_)
      · refine r_aload_n dX10_worst_21 0 rfl rfl ?_
        refine r_iload_n dX10_worst_22 2 rfl rfl ?_
        refine r_iconst (v := (0 : Int32)) dX10_worst_23 rfl ?_
        refine rV_i (as := [.int v2, .int (0 : Int32)]) (st := [.int v1]) dX10_worst_24 cl_X10_203 (by decide) rfl rfl (m_X10_boxOf S T U V v2 (0 : Int32)) (by decide) rfl (Nat.le_of_ble_eq_true rfl) (fun q4 _ => ?_)
        refine r_aload_n dX10_worst_27 0 rfl rfl ?_
        refine r_iload_n dX10_worst_28 2 rfl rfl ?_
        refine r_iconst (v := (1 : Int32)) dX10_worst_29 rfl ?_
        refine rV_i (as := [.int v2, .int (1 : Int32)]) (st := [.int q4, .int v1]) dX10_worst_30 cl_X10_203 (by decide) rfl rfl (m_X10_boxOf S T U V v2 (1 : Int32)) (by decide) rfl (Nat.le_of_ble_eq_true rfl) (fun q5 _ => ?_)
        refine rS_i (as := [.int q4, .int q5]) (st := [.int v1]) dX10_worst_33 cl_X10_154 (m_X10_more S T U V q4 q5) (by decide) rfl (Nat.le_of_ble_eq_true rfl) (fun q6 _ => ?_)
        refine r_goto (tgt := 54) dX10_worst_36 (by decide) ?_
        exact r_pick [0, 2] rfl (t_X10_worst_54 S T U V v2 q6 v1 (f_X10_worst_4 U ke62 m_) ih)
      · refine r_aload_n dX10_worst_39 0 rfl rfl ?_
        refine r_iload_n dX10_worst_40 2 rfl rfl ?_
        refine r_bipush (v := (-4 : Int32)) dX10_worst_41 rfl ?_
        refine rV_i (as := [.int v2, .int (-4 : Int32)]) (st := [.int v1]) dX10_worst_43 cl_X10_203 (by decide) rfl rfl (m_X10_boxOf S T U V v2 (-4 : Int32)) (by decide) rfl (Nat.le_of_ble_eq_true rfl) (fun q8 _ => ?_)
        refine r_if_le (tgt := 53) dX10_worst_46 (by decide) (fun h9 => ?_) (fun h9 => ?_)
        · refine r_iconst (v := (0 : Int32)) dX10_worst_53 rfl ?_
          exact r_pick [0, 2] rfl (t_X10_worst_54 S T U V v2 (0 : Int32) v1 (f_X10_worst_4 U ke62 m_) ih)
        · refine r_iconst (v := (1 : Int32)) dX10_worst_49 rfl ?_
          refine r_goto (tgt := 54) dX10_worst_50 (by decide) ?_
          exact r_pick [0, 2] rfl (t_X10_worst_54 S T U V v2 (1 : Int32) v1 (f_X10_worst_4 U ke62 m_) ih)
def f_X10_worst_62 (U : SI) (v1 : Int32) : Option (Int32) :=
  (f_X10_inPlace U (0 : Int32)).bind fun q10 =>
  (f_X10_ones q10).bind fun q11 =>
  if q11 ≤ v1 then
    some (-4 : Int32)
  else
    some (v1 + (1 : Int32))
set_option maxHeartbeats 4000000 in
set_option maxRecDepth 100000 in
theorem t_X10_worst_62 (S : SI) (T : SL) (U : SI) (V : SL) (v1 : Int32) : Run 3 yX10_worst cX10_worst 3 (some .int) none (fun a : Int32 => (some (.int a), (S, T, U, V))) 62 [(0, .ref 78), (1, .int v1)] [] (S, T, U, V) (f_X10_worst_62 U v1) := by
  rw [f_X10_worst_62]
  refine r_iload_n dX10_worst_62 1 rfl rfl ?_
  refine r_aload_n dX10_worst_63 0 rfl rfl ?_
  refine r_iconst (v := (0 : Int32)) dX10_worst_64 rfl ?_
  refine rV_i (as := [.int (0 : Int32)]) (st := [.int v1]) dX10_worst_65 cl_X10_140 (by decide) rfl rfl (m_X10_inPlace S T U V (0 : Int32)) (by decide) rfl (Nat.le_of_ble_eq_true rfl) (fun q10 _ => ?_)
  refine rS_i (as := [.int q10]) (st := [.int v1]) dX10_worst_68 cl_X10_151 (m_X10_ones S T U V q10) (by decide) rfl (Nat.le_of_ble_eq_true rfl) (fun q11 _ => ?_)
  refine r_icmp_ge (tgt := 80) dX10_worst_71 (by decide) (fun h12 => ?_) (fun h12 => ?_)
  · refine r_bipush (v := (-4 : Int32)) dX10_worst_80 rfl ?_
    exact r_ireturn (ty := .int) dX10_worst_82 rfl (nar_i _) rfl
  · refine r_iload_n dX10_worst_74 1 rfl rfl ?_
    refine r_iconst (v := (1 : Int32)) dX10_worst_75 rfl ?_
    refine r_iadd dX10_worst_76 ?_
    refine r_goto (tgt := 82) dX10_worst_77 (by decide) ?_
    exact r_ireturn (ty := .int) dX10_worst_82 rfl (nar_i _) rfl
def f_X10_worst (U : SI) : Option (Int32) :=
  f_X10_worst_4 U (fun o1 => f_X10_worst_62 U o1) fu (0 : Int32) (0 : Int32)
set_option maxHeartbeats 4000000 in
set_option maxRecDepth 100000 in
theorem m_X10_worst (S : SI) (T : SL) (U : SI) (V : SL)  : Meth 3 yX10_worst cX10_worst 3 (some .int) [.ref 78] (S, T, U, V) (f_X10_worst U) (fun a : Int32 => (some (.int a), (S, T, U, V))) := by
  refine meth_of (L := [(0, .ref 78)]) (by decide +kernel) (Nat.le_of_ble_eq_true rfl) rfl ?_
  rw [f_X10_worst]
  refine r_iconst (v := (0 : Int32)) dX10_worst_0 rfl ?_
  refine r_istore_n (L' := [(1, .int (0 : Int32)), (0, .ref 78)]) dX10_worst_1 rfl (by decide) rfl ?_
  refine r_iconst (v := (0 : Int32)) dX10_worst_2 rfl ?_
  refine r_istore_n (L' := [(2, .int (0 : Int32)), (1, .int (0 : Int32)), (0, .ref 78)]) dX10_worst_3 rfl (by decide) rfl ?_
  exact r_pick [2, 1, 0] rfl (t_X10_worst_4 S T U V (fun o1 => f_X10_worst_62 U o1) (fun o1 => r_pick [0, 1] rfl (t_X10_worst_62 S T U V o1)) fu (0 : Int32) (0 : Int32))
def f_X10_choose_16 (v0 : Int32) (v1 : Int32) : Nat → Int64 → Int32 → Option (Int32)
  | 0, _, _ => none
  | m_ + 1, v2, v4 =>
    if v1 ≤ v4 then
      some v2.toInt32
    else
      if ((v4 + (1 : Int32)).toInt64) = 0 then none else
      nm ((v2 * ((v0 - v4).toInt64)) / ((v4 + (1 : Int32)).toInt64)) fun x5 =>
      (f_X10_choose_16 v0 v1 m_) x5 (v4 + (1 : Int32))
set_option maxHeartbeats 4000000 in
set_option maxRecDepth 100000 in
theorem t_X10_choose_16 (S : SI) (T : SL) (U : SI) (V : SL) (v0 : Int32) (v1 : Int32) : ∀ (m_ : Nat) (v2 : Int64) (v4 : Int32), Run 1 yX10_choose cX10_choose 5 (some .int) none (fun a : Int32 => (some (.int a), (S, T, U, V))) 16 [(0, .int v0), (1, .int v1), (2, .long v2), (4, .int v4)] [] (S, T, U, V) (f_X10_choose_16 v0 v1 m_ v2 v4) := by
  intro m_
  induction m_ with
  | zero =>
    intro v2 v4
    rw [f_X10_choose_16]
    exact r_none
  | succ m_ ih =>
    intro v2 v4
    rw [f_X10_choose_16]
    refine r_iload dX10_choose_16 3 rfl ?_
    refine r_iload_n dX10_choose_18 1 rfl rfl ?_
    refine r_icmp_ge (tgt := 42) dX10_choose_19 (by decide) (fun h3 => ?_) (fun h3 => ?_)
    · refine r_lload_n dX10_choose_42 2 rfl rfl ?_
      refine r_l2i dX10_choose_43 ?_
      exact r_ireturn (ty := .int) dX10_choose_44 rfl (nar_i _) rfl
    · refine r_lload_n dX10_choose_22 2 rfl rfl ?_
      refine r_iload_n dX10_choose_23 0 rfl rfl ?_
      refine r_iload dX10_choose_24 3 rfl ?_
      refine r_isub dX10_choose_26 ?_
      refine r_i2l dX10_choose_27 ?_
      refine r_lmul dX10_choose_28 ?_
      refine r_iload dX10_choose_29 3 rfl ?_
      refine r_iconst (v := (1 : Int32)) dX10_choose_31 rfl ?_
      refine r_iadd dX10_choose_32 ?_
      refine r_i2l dX10_choose_33 ?_
      refine r_ldiv dX10_choose_34 (fun h4 => ?_)
      refine r_nml (fun x5 => ?_)
      refine r_lstore_n (L' := [(2, .long x5), (0, .int v0), (1, .int v1), (4, .int v4)]) dX10_choose_35 rfl (by decide) rfl ?_
      refine r_iinc (v := v4 + (1 : Int32)) (L' := [(4, .int (v4 + (1 : Int32))), (2, .long x5), (0, .int v0), (1, .int v1)]) dX10_choose_36 3 rfl rfl (by decide) rfl ?_
      refine r_goto (tgt := 16) dX10_choose_39 (by decide) ?_
      exact r_pick [2, 3, 1, 0] rfl (ih x5 (v4 + (1 : Int32)))
def f_X10_choose (v0 : Int32) (v1 : Int32) : Option (Int32) :=
  if v1 < 0 then
    some (0 : Int32)
  else
    if v1 ≤ v0 then
      f_X10_choose_16 v0 v1 fu (1 : Int64) (0 : Int32)
    else
      some (0 : Int32)
set_option maxHeartbeats 4000000 in
set_option maxRecDepth 100000 in
theorem m_X10_choose (S : SI) (T : SL) (U : SI) (V : SL) (v0 : Int32) (v1 : Int32) : Meth 1 yX10_choose cX10_choose 5 (some .int) [.int v0, .int v1] (S, T, U, V) (f_X10_choose v0 v1) (fun a : Int32 => (some (.int a), (S, T, U, V))) := by
  refine meth_of (L := [(0, .int v0), (1, .int v1)]) (by decide +kernel) (Nat.le_of_ble_eq_true rfl) rfl ?_
  rw [f_X10_choose]
  refine r_iload_n dX10_choose_0 1 rfl rfl ?_
  refine r_if_lt (tgt := 9) dX10_choose_1 (by decide) (fun h1 => ?_) (fun h1 => ?_)
  · refine r_iconst (v := (0 : Int32)) dX10_choose_9 rfl ?_
    exact r_ireturn (ty := .int) dX10_choose_10 rfl (nar_i _) rfl
  · refine r_iload_n dX10_choose_4 1 rfl rfl ?_
    refine r_iload_n dX10_choose_5 0 rfl rfl ?_
    refine r_icmp_le (tgt := 11) dX10_choose_6 (by decide) (fun h2 => ?_) (fun h2 => ?_)
    · refine r_lconst (v := (1 : Int64)) dX10_choose_11 rfl ?_
      refine r_lstore_n (L' := [(2, .long (1 : Int64)), (0, .int v0), (1, .int v1)]) dX10_choose_12 rfl (by decide) rfl ?_
      refine r_iconst (v := (0 : Int32)) dX10_choose_13 rfl ?_
      refine r_istore (L' := [(4, .int (0 : Int32)), (2, .long (1 : Int64)), (0, .int v0), (1, .int v1)]) dX10_choose_14 (by decide) rfl ?_
      exact r_pick [2, 3, 1, 0] rfl (t_X10_choose_16 S T U V v0 v1 fu (1 : Int64) (0 : Int32))
    · refine r_iconst (v := (0 : Int32)) dX10_choose_9 rfl ?_
      exact r_ireturn (ty := .int) dX10_choose_10 rfl (nar_i _) rfl
def f_X10_unpaired (U : SI) (v1 : Int32) (v2 : Int32) : Option (Int32) :=
  gd (inB (3 : Int32) 205) <|
  if (U 79 (ix (3 : Int32))) = 0 then
    if v2 = 0 then
      some (1 : Int32)
    else
      if v2 = (1 : Int32) then
        (f_X10_boxOf U v1 (-4 : Int32)).bind fun q5 =>
        some q5
      else
        some (0 : Int32)
  else
    if v2 = 0 then
      some (1 : Int32)
    else
      (f_X10_boxOf U v1 (0 : Int32)).bind fun q7 =>
      (f_X10_choose q7 v2).bind fun q8 =>
      (f_X10_boxOf U v1 (1 : Int32)).bind fun q9 =>
      (f_X10_choose q9 v2).bind fun q10 =>
      some (q8 + q10)
set_option maxHeartbeats 4000000 in
set_option maxRecDepth 100000 in
theorem m_X10_unpaired (S : SI) (T : SL) (U : SI) (V : SL) (v1 : Int32) (v2 : Int32) : Meth 3 yX10_unpaired cX10_unpaired 3 (some .int) [.ref 78, .int v1, .int v2] (S, T, U, V) (f_X10_unpaired U v1 v2) (fun a : Int32 => (some (.int a), (S, T, U, V))) := by
  refine meth_of (L := [(0, .ref 78), (1, .int v1), (2, .int v2)]) (by decide +kernel) (Nat.le_of_ble_eq_true rfl) rfl ?_
  rw [f_X10_unpaired]
  refine r_aload_n dX10_unpaired_0 0 rfl rfl ?_
  refine r_getr dX10_unpaired_1 fl_X10_7 (by decide) rfl rfl (by decide) ?_
  refine r_iconst (v := (3 : Int32)) dX10_unpaired_4 rfl ?_
  refine rm_iald dX10_unpaired_5 (by decide) (by decide) rfl (fun h1 => ?_)
  refine r_if_ne (tgt := 34) dX10_unpaired_6 (by decide) (fun h2 => ?_) (fun h2 => ?_)
  · refine r_iload_n dX10_unpaired_9 2 rfl rfl ?_
    refine r_if_ne (tgt := 17) dX10_unpaired_10 (by decide) (fun h3 => ?_) (fun h3 => ?_)
    · refine r_iconst (v := (1 : Int32)) dX10_unpaired_13 rfl ?_
      refine r_goto (tgt := 33) dX10_unpaired_14 (by decide) ?_
      exact r_ireturn (ty := .int) dX10_unpaired_33 rfl (nar_i _) rfl
    · refine r_iload_n dX10_unpaired_17 2 rfl rfl ?_
      refine r_iconst (v := (1 : Int32)) dX10_unpaired_18 rfl ?_
      refine r_icmp_ne (tgt := 32) dX10_unpaired_19 (by decide) (fun h4 => ?_) (fun h4 => ?_)
      · refine r_aload_n dX10_unpaired_22 0 rfl rfl ?_
        refine r_iload_n dX10_unpaired_23 1 rfl rfl ?_
        refine r_bipush (v := (-4 : Int32)) dX10_unpaired_24 rfl ?_
        refine rV_i (as := [.int v1, .int (-4 : Int32)]) (st := []) dX10_unpaired_26 cl_X10_203 (by decide) rfl rfl (m_X10_boxOf S T U V v1 (-4 : Int32)) (by decide) rfl (Nat.le_of_ble_eq_true rfl) (fun q5 _ => ?_)
        refine r_goto (tgt := 33) dX10_unpaired_29 (by decide) ?_
        exact r_ireturn (ty := .int) dX10_unpaired_33 rfl (nar_i _) rfl
      · refine r_iconst (v := (0 : Int32)) dX10_unpaired_32 rfl ?_
        exact r_ireturn (ty := .int) dX10_unpaired_33 rfl (nar_i _) rfl
  · refine r_iload_n dX10_unpaired_34 2 rfl rfl ?_
    refine r_if_ne (tgt := 42) dX10_unpaired_35 (by decide) (fun h6 => ?_) (fun h6 => ?_)
    · refine r_iconst (v := (1 : Int32)) dX10_unpaired_38 rfl ?_
      refine r_goto (tgt := 63) dX10_unpaired_39 (by decide) ?_
      exact r_ireturn (ty := .int) dX10_unpaired_63 rfl (nar_i _) rfl
    · refine r_aload_n dX10_unpaired_42 0 rfl rfl ?_
      refine r_iload_n dX10_unpaired_43 1 rfl rfl ?_
      refine r_iconst (v := (0 : Int32)) dX10_unpaired_44 rfl ?_
      refine rV_i (as := [.int v1, .int (0 : Int32)]) (st := []) dX10_unpaired_45 cl_X10_203 (by decide) rfl rfl (m_X10_boxOf S T U V v1 (0 : Int32)) (by decide) rfl (Nat.le_of_ble_eq_true rfl) (fun q7 _ => ?_)
      refine r_iload_n dX10_unpaired_48 2 rfl rfl ?_
      refine rS_i (as := [.int q7, .int v2]) (st := []) dX10_unpaired_49 cl_X10_206 (m_X10_choose S T U V q7 v2) (by decide) rfl (Nat.le_of_ble_eq_true rfl) (fun q8 _ => ?_)
      refine r_aload_n dX10_unpaired_52 0 rfl rfl ?_
      refine r_iload_n dX10_unpaired_53 1 rfl rfl ?_
      refine r_iconst (v := (1 : Int32)) dX10_unpaired_54 rfl ?_
      refine rV_i (as := [.int v1, .int (1 : Int32)]) (st := [.int q8]) dX10_unpaired_55 cl_X10_203 (by decide) rfl rfl (m_X10_boxOf S T U V v1 (1 : Int32)) (by decide) rfl (Nat.le_of_ble_eq_true rfl) (fun q9 _ => ?_)
      refine r_iload_n dX10_unpaired_58 2 rfl rfl ?_
      refine rS_i (as := [.int q9, .int v2]) (st := [.int q8]) dX10_unpaired_59 cl_X10_206 (m_X10_choose S T U V q9 v2) (by decide) rfl (Nat.le_of_ble_eq_true rfl) (fun q10 _ => ?_)
      refine r_iadd dX10_unpaired_62 ?_
      exact r_ireturn (ty := .int) dX10_unpaired_63 rfl (nar_i _) rfl
def f_X10_odds_67 (U : SI) (v4 : Int32) (s0 : Int32) (s1 : Int32) (kh44 : Int32 → SI → Option (Int32 × SI)) : Option (Int32 × SI) :=
  gd (inB s1 13) <|
  nm (up2 U 86 (ix s1) s0) fun U11 =>
  kh44 (v4 + (1 : Int32)) U11
set_option maxHeartbeats 4000000 in
set_option maxRecDepth 100000 in
theorem t_X10_odds_67 (S : SI) (T : SL) (U : SI) (V : SL) (v1 : Int32) (v2 : Int32) (v3 : Int32) (v4 : Int32) (s0 : Int32) (s1 : Int32) (kh44 : Int32 → SI → Option (Int32 × SI)) (hkh44 : ∀ (w4 : Int32) (U' : SI), Run 4 yX10_odds cX10_odds 7 (some .int) none (fun a : Int32 × SI => (some (.int a.1), (S, T, a.2, V))) 44 [(0, .ref 78), (1, .int v1), (2, .int v2), (3, .int v3), (4, .int w4)] [] (S, T, U', V) (kh44 w4 U')) : Run 4 yX10_odds cX10_odds 7 (some .int) none (fun a : Int32 × SI => (some (.int a.1), (S, T, a.2, V))) 67 [(0, .ref 78), (1, .int v1), (2, .int v2), (3, .int v3), (4, .int v4)] [.int s0, .int s1, .ref 86] (S, T, U, V) (f_X10_odds_67 U v4 s0 s1 kh44) := by
  rw [f_X10_odds_67]
  refine rm_iast dX10_odds_67 (by decide) (by decide) rfl (fun h10 => ?_)
  refine r_nmU (fun U11 => ?_)
  refine r_iinc (v := v4 + (1 : Int32)) (L' := [(4, .int (v4 + (1 : Int32))), (0, .ref 78), (1, .int v1), (2, .int v2), (3, .int v3)]) dX10_odds_68 4 rfl rfl (by decide) rfl ?_
  refine r_goto (tgt := 44) dX10_odds_71 (by decide) ?_
  exact r_pick [1, 2, 3, 4, 0] rfl (hkh44 (v4 + (1 : Int32)) U11)
def f_X10_odds_44 (ke74 : SI → Option (Int32 × SI)) : Nat → Int32 → SI → Option (Int32 × SI)
  | 0, _, _ => none
  | m_ + 1, v4, U =>
    if (12 : Int32) < v4 then
      ke74 U
    else
      if v4 = 0 then
        f_X10_odds_67 U v4 (1 : Int32) v4 (f_X10_odds_44 ke74 m_)
      else
        f_X10_odds_67 U v4 (0 : Int32) v4 (f_X10_odds_44 ke74 m_)
set_option maxHeartbeats 4000000 in
set_option maxRecDepth 100000 in
theorem t_X10_odds_44 (S : SI) (T : SL) (V : SL) (v1 : Int32) (v2 : Int32) (v3 : Int32) (ke74 : SI → Option (Int32 × SI)) (hke74 : ∀ (U' : SI), Run 4 yX10_odds cX10_odds 7 (some .int) none (fun a : Int32 × SI => (some (.int a.1), (S, T, a.2, V))) 74 [(0, .ref 78), (1, .int v1), (2, .int v2), (3, .int v3)] [] (S, T, U', V) (ke74 U')) : ∀ (m_ : Nat) (v4 : Int32) (U : SI), Run 4 yX10_odds cX10_odds 7 (some .int) none (fun a : Int32 × SI => (some (.int a.1), (S, T, a.2, V))) 44 [(0, .ref 78), (1, .int v1), (2, .int v2), (3, .int v3), (4, .int v4)] [] (S, T, U, V) (f_X10_odds_44 ke74 m_ v4 U) := by
  intro m_
  induction m_ with
  | zero =>
    intro v4 U
    rw [f_X10_odds_44]
    exact r_none
  | succ m_ ih =>
    intro v4 U
    rw [f_X10_odds_44]
    refine r_iload dX10_odds_44 4 rfl ?_
    refine r_bipush (v := (12 : Int32)) dX10_odds_46 rfl ?_
    refine r_icmp_gt (tgt := 74) dX10_odds_48 (by decide) (fun h8 => ?_) (fun h8 => ?_)
    · exact r_pick [0, 1, 2, 3] rfl (hke74 U)
    · refine r_aload_n dX10_odds_51 0 rfl rfl ?_
      refine r_getr dX10_odds_52 fl_X10_32 (by decide) rfl rfl (by decide) ?_
      refine r_iload dX10_odds_55 4 rfl ?_
      refine r_iload dX10_odds_57 4 rfl ?_
      refine r_if_ne (tgt := 66) dX10_odds_59 (by decide) (fun h9 => ?_) (fun h9 => ?_)
      · refine r_iconst (v := (1 : Int32)) dX10_odds_62 rfl ?_
        refine r_goto (tgt := 67) dX10_odds_63 (by decide) ?_
        exact r_pick [0, 1, 2, 3, 4] rfl (t_X10_odds_67 S T U V v1 v2 v3 v4 (1 : Int32) v4 (f_X10_odds_44 ke74 m_) ih)
      · refine r_iconst (v := (0 : Int32)) dX10_odds_66 rfl ?_
        exact r_pick [0, 1, 2, 3, 4] rfl (t_X10_odds_67 S T U V v1 v2 v3 v4 (0 : Int32) v4 (f_X10_odds_44 ke74 m_) ih)
def f_X10_odds_105 (v4 : Int32) (v5 : Int32) (ke147 : SI → Option (Int32 × SI)) : Nat → Int32 → SI → Option (Int32 × SI)
  | 0, _, _ => none
  | m_ + 1, v6, U =>
    if v5 < v6 then
      ke147 U
    else
      gd (inB v5 13) <|
      gd (inB (v5 - v6) 13) <|
      (f_X10_unpaired U v4 v6).bind fun q19 =>
      gd (inB v5 13) <|
      nm (up2 U 87 (ix v5) ((U 87 (ix v5)) + ((U 86 (ix (v5 - v6))) * q19))) fun U21 =>
      (f_X10_odds_105 v4 v5 ke147 m_) (v6 + (1 : Int32)) U21
set_option maxHeartbeats 4000000 in
set_option maxRecDepth 100000 in
theorem t_X10_odds_105 (S : SI) (T : SL) (V : SL) (v1 : Int32) (v2 : Int32) (v3 : Int32) (v4 : Int32) (v5 : Int32) (ke147 : SI → Option (Int32 × SI)) (hke147 : ∀ (U' : SI), Run 4 yX10_odds cX10_odds 7 (some .int) none (fun a : Int32 × SI => (some (.int a.1), (S, T, a.2, V))) 147 [(0, .ref 78), (1, .int v1), (2, .int v2), (3, .int v3), (4, .int v4), (5, .int v5)] [] (S, T, U', V) (ke147 U')) : ∀ (m_ : Nat) (v6 : Int32) (U : SI), Run 4 yX10_odds cX10_odds 7 (some .int) none (fun a : Int32 × SI => (some (.int a.1), (S, T, a.2, V))) 105 [(0, .ref 78), (1, .int v1), (2, .int v2), (3, .int v3), (4, .int v4), (5, .int v5), (6, .int v6)] [] (S, T, U, V) (f_X10_odds_105 v4 v5 ke147 m_ v6 U) := by
  intro m_
  induction m_ with
  | zero =>
    intro v6 U
    rw [f_X10_odds_105]
    exact r_none
  | succ m_ ih =>
    intro v6 U
    rw [f_X10_odds_105]
    refine r_iload dX10_odds_105 6 rfl ?_
    refine r_iload dX10_odds_107 5 rfl ?_
    refine r_icmp_gt (tgt := 147) dX10_odds_109 (by decide) (fun h16 => ?_) (fun h16 => ?_)
    · exact r_pick [0, 1, 2, 3, 4, 5] rfl (hke147 U)
    · refine r_aload_n dX10_odds_112 0 rfl rfl ?_
      refine r_getr dX10_odds_113 fl_X10_35 (by decide) rfl rfl (by decide) ?_
      refine r_iload dX10_odds_116 5 rfl ?_
      refine r_dup2 dX10_odds_118 rfl rfl ?_
      refine rm_iald dX10_odds_119 (by decide) (by decide) rfl (fun h17 => ?_)
      refine r_aload_n dX10_odds_120 0 rfl rfl ?_
      refine r_getr dX10_odds_121 fl_X10_32 (by decide) rfl rfl (by decide) ?_
      refine r_iload dX10_odds_124 5 rfl ?_
      refine r_iload dX10_odds_126 6 rfl ?_
      refine r_isub dX10_odds_128 ?_
      refine rm_iald dX10_odds_129 (by decide) (by decide) rfl (fun h18 => ?_)
      refine r_aload_n dX10_odds_130 0 rfl rfl ?_
      refine r_iload dX10_odds_131 4 rfl ?_
      refine r_iload dX10_odds_133 6 rfl ?_
      refine rV_i (as := [.int v4, .int v6]) (st := [.int (U 86 (ix (v5 - v6))), .int (U 87 (ix v5)), .int v5, .ref 87]) dX10_odds_135 cl_X10_209 (by decide) rfl rfl (m_X10_unpaired S T U V v4 v6) (by decide) rfl (Nat.le_of_ble_eq_true rfl) (fun q19 _ => ?_)
      refine r_imul dX10_odds_138 ?_
      refine r_iadd dX10_odds_139 ?_
      refine rm_iast dX10_odds_140 (by decide) (by decide) rfl (fun h20 => ?_)
      refine r_nmU (fun U21 => ?_)
      refine r_iinc (v := v6 + (1 : Int32)) (L' := [(6, .int (v6 + (1 : Int32))), (0, .ref 78), (1, .int v1), (2, .int v2), (3, .int v3), (4, .int v4), (5, .int v5)]) dX10_odds_141 6 rfl rfl (by decide) rfl ?_
      refine r_goto (tgt := 105) dX10_odds_144 (by decide) ?_
      exact r_pick [1, 2, 3, 4, 5, 6, 0] rfl (ih (v6 + (1 : Int32)) U21)
def f_X10_odds_147 (U : SI) (v5 : Int32) (kh87 : Int32 → SI → Option (Int32 × SI)) : Option (Int32 × SI) :=
  kh87 (v5 + (1 : Int32)) U
set_option maxHeartbeats 4000000 in
set_option maxRecDepth 100000 in
theorem t_X10_odds_147 (S : SI) (T : SL) (U : SI) (V : SL) (v1 : Int32) (v2 : Int32) (v3 : Int32) (v4 : Int32) (v5 : Int32) (kh87 : Int32 → SI → Option (Int32 × SI)) (hkh87 : ∀ (w5 : Int32) (U' : SI), Run 4 yX10_odds cX10_odds 7 (some .int) none (fun a : Int32 × SI => (some (.int a.1), (S, T, a.2, V))) 87 [(0, .ref 78), (1, .int v1), (2, .int v2), (3, .int v3), (4, .int v4), (5, .int w5)] [] (S, T, U', V) (kh87 w5 U')) : Run 4 yX10_odds cX10_odds 7 (some .int) none (fun a : Int32 × SI => (some (.int a.1), (S, T, a.2, V))) 147 [(0, .ref 78), (1, .int v1), (2, .int v2), (3, .int v3), (4, .int v4), (5, .int v5)] [] (S, T, U, V) (f_X10_odds_147 U v5 kh87) := by
  rw [f_X10_odds_147]
  refine r_iinc (v := v5 + (1 : Int32)) (L' := [(5, .int (v5 + (1 : Int32))), (0, .ref 78), (1, .int v1), (2, .int v2), (3, .int v3), (4, .int v4)]) dX10_odds_147 5 rfl rfl (by decide) rfl ?_
  refine r_goto (tgt := 87) dX10_odds_150 (by decide) ?_
  exact r_pick [1, 2, 3, 4, 5, 0] rfl (hkh87 (v5 + (1 : Int32)) U)
def f_X10_odds_87 (v4 : Int32) (ke153 : SI → Option (Int32 × SI)) : Nat → Int32 → SI → Option (Int32 × SI)
  | 0, _, _ => none
  | m_ + 1, v5, U =>
    if (12 : Int32) < v5 then
      ke153 U
    else
      gd (inB v5 13) <|
      nm (up2 U 87 (ix v5) (0 : Int32)) fun U15 =>
      f_X10_odds_105 v4 v5 (fun Uo => f_X10_odds_147 Uo v5 (f_X10_odds_87 v4 ke153 m_)) fu (0 : Int32) U15
set_option maxHeartbeats 4000000 in
set_option maxRecDepth 100000 in
theorem t_X10_odds_87 (S : SI) (T : SL) (V : SL) (v1 : Int32) (v2 : Int32) (v3 : Int32) (v4 : Int32) (ke153 : SI → Option (Int32 × SI)) (hke153 : ∀ (U' : SI), Run 4 yX10_odds cX10_odds 7 (some .int) none (fun a : Int32 × SI => (some (.int a.1), (S, T, a.2, V))) 153 [(0, .ref 78), (1, .int v1), (2, .int v2), (3, .int v3), (4, .int v4)] [] (S, T, U', V) (ke153 U')) : ∀ (m_ : Nat) (v5 : Int32) (U : SI), Run 4 yX10_odds cX10_odds 7 (some .int) none (fun a : Int32 × SI => (some (.int a.1), (S, T, a.2, V))) 87 [(0, .ref 78), (1, .int v1), (2, .int v2), (3, .int v3), (4, .int v4), (5, .int v5)] [] (S, T, U, V) (f_X10_odds_87 v4 ke153 m_ v5 U) := by
  intro m_
  induction m_ with
  | zero =>
    intro v5 U
    rw [f_X10_odds_87]
    exact r_none
  | succ m_ ih =>
    intro v5 U
    rw [f_X10_odds_87]
    refine r_iload dX10_odds_87 5 rfl ?_
    refine r_bipush (v := (12 : Int32)) dX10_odds_89 rfl ?_
    refine r_icmp_gt (tgt := 153) dX10_odds_91 (by decide) (fun h13 => ?_) (fun h13 => ?_)
    · exact r_pick [0, 1, 2, 3, 4] rfl (hke153 U)
    · refine r_aload_n dX10_odds_94 0 rfl rfl ?_
      refine r_getr dX10_odds_95 fl_X10_35 (by decide) rfl rfl (by decide) ?_
      refine r_iload dX10_odds_98 5 rfl ?_
      refine r_iconst (v := (0 : Int32)) dX10_odds_100 rfl ?_
      refine rm_iast dX10_odds_101 (by decide) (by decide) rfl (fun h14 => ?_)
      refine r_nmU (fun U15 => ?_)
      refine r_iconst (v := (0 : Int32)) dX10_odds_102 rfl ?_
      refine r_istore (L' := [(6, .int (0 : Int32)), (0, .ref 78), (1, .int v1), (2, .int v2), (3, .int v3), (4, .int v4), (5, .int v5)]) dX10_odds_103 (by decide) rfl ?_
      exact r_pick [1, 2, 3, 4, 5, 6, 0] rfl (t_X10_odds_105 S T V v1 v2 v3 v4 v5 (fun Uo => f_X10_odds_147 Uo v5 (f_X10_odds_87 v4 ke153 m_)) (fun Uo => r_pick [0, 1, 2, 3, 4, 5] rfl (t_X10_odds_147 S T Uo V v1 v2 v3 v4 v5 (f_X10_odds_87 v4 ke153 m_) ih)) fu (0 : Int32) U15)
def f_X10_odds_156 (ke183 : SI → Option (Int32 × SI)) : Nat → Int32 → SI → Option (Int32 × SI)
  | 0, _, _ => none
  | m_ + 1, v5, U =>
    if (12 : Int32) < v5 then
      ke183 U
    else
      gd (inB v5 13) <|
      gd (inB v5 13) <|
      nm (up2 U 86 (ix v5) (U 87 (ix v5))) fun U25 =>
      (f_X10_odds_156 ke183 m_) (v5 + (1 : Int32)) U25
set_option maxHeartbeats 4000000 in
set_option maxRecDepth 100000 in
theorem t_X10_odds_156 (S : SI) (T : SL) (V : SL) (v1 : Int32) (v2 : Int32) (v3 : Int32) (v4 : Int32) (ke183 : SI → Option (Int32 × SI)) (hke183 : ∀ (U' : SI), Run 4 yX10_odds cX10_odds 7 (some .int) none (fun a : Int32 × SI => (some (.int a.1), (S, T, a.2, V))) 183 [(0, .ref 78), (1, .int v1), (2, .int v2), (3, .int v3), (4, .int v4)] [] (S, T, U', V) (ke183 U')) : ∀ (m_ : Nat) (v5 : Int32) (U : SI), Run 4 yX10_odds cX10_odds 7 (some .int) none (fun a : Int32 × SI => (some (.int a.1), (S, T, a.2, V))) 156 [(0, .ref 78), (1, .int v1), (2, .int v2), (3, .int v3), (4, .int v4), (5, .int v5)] [] (S, T, U, V) (f_X10_odds_156 ke183 m_ v5 U) := by
  intro m_
  induction m_ with
  | zero =>
    intro v5 U
    rw [f_X10_odds_156]
    exact r_none
  | succ m_ ih =>
    intro v5 U
    rw [f_X10_odds_156]
    refine r_iload dX10_odds_156 5 rfl ?_
    refine r_bipush (v := (12 : Int32)) dX10_odds_158 rfl ?_
    refine r_icmp_gt (tgt := 183) dX10_odds_160 (by decide) (fun h22 => ?_) (fun h22 => ?_)
    · exact r_pick [0, 1, 2, 3, 4] rfl (hke183 U)
    · refine r_aload_n dX10_odds_163 0 rfl rfl ?_
      refine r_getr dX10_odds_164 fl_X10_32 (by decide) rfl rfl (by decide) ?_
      refine r_iload dX10_odds_167 5 rfl ?_
      refine r_aload_n dX10_odds_169 0 rfl rfl ?_
      refine r_getr dX10_odds_170 fl_X10_35 (by decide) rfl rfl (by decide) ?_
      refine r_iload dX10_odds_173 5 rfl ?_
      refine rm_iald dX10_odds_175 (by decide) (by decide) rfl (fun h23 => ?_)
      refine rm_iast dX10_odds_176 (by decide) (by decide) rfl (fun h24 => ?_)
      refine r_nmU (fun U25 => ?_)
      refine r_iinc (v := v5 + (1 : Int32)) (L' := [(5, .int (v5 + (1 : Int32))), (0, .ref 78), (1, .int v1), (2, .int v2), (3, .int v3), (4, .int v4)]) dX10_odds_177 5 rfl rfl (by decide) rfl ?_
      refine r_goto (tgt := 156) dX10_odds_180 (by decide) ?_
      exact r_pick [1, 2, 3, 4, 5, 0] rfl (ih (v5 + (1 : Int32)) U25)
def f_X10_odds_183 (U : SI) (v4 : Int32) (kh77 : Int32 → SI → Option (Int32 × SI)) : Option (Int32 × SI) :=
  kh77 (v4 + (1 : Int32)) U
set_option maxHeartbeats 4000000 in
set_option maxRecDepth 100000 in
theorem t_X10_odds_183 (S : SI) (T : SL) (U : SI) (V : SL) (v1 : Int32) (v2 : Int32) (v3 : Int32) (v4 : Int32) (kh77 : Int32 → SI → Option (Int32 × SI)) (hkh77 : ∀ (w4 : Int32) (U' : SI), Run 4 yX10_odds cX10_odds 7 (some .int) none (fun a : Int32 × SI => (some (.int a.1), (S, T, a.2, V))) 77 [(0, .ref 78), (1, .int v1), (2, .int v2), (3, .int v3), (4, .int w4)] [] (S, T, U', V) (kh77 w4 U')) : Run 4 yX10_odds cX10_odds 7 (some .int) none (fun a : Int32 × SI => (some (.int a.1), (S, T, a.2, V))) 183 [(0, .ref 78), (1, .int v1), (2, .int v2), (3, .int v3), (4, .int v4)] [] (S, T, U, V) (f_X10_odds_183 U v4 kh77) := by
  rw [f_X10_odds_183]
  refine r_iinc (v := v4 + (1 : Int32)) (L' := [(4, .int (v4 + (1 : Int32))), (0, .ref 78), (1, .int v1), (2, .int v2), (3, .int v3)]) dX10_odds_183 4 rfl rfl (by decide) rfl ?_
  refine r_goto (tgt := 77) dX10_odds_186 (by decide) ?_
  exact r_pick [1, 2, 3, 4, 0] rfl (hkh77 (v4 + (1 : Int32)) U)
def f_X10_odds_153 (U : SI) (v4 : Int32) (kh77 : Int32 → SI → Option (Int32 × SI)) : Option (Int32 × SI) :=
  f_X10_odds_156 (fun Uo => f_X10_odds_183 Uo v4 kh77) fu (0 : Int32) U
set_option maxHeartbeats 4000000 in
set_option maxRecDepth 100000 in
theorem t_X10_odds_153 (S : SI) (T : SL) (U : SI) (V : SL) (v1 : Int32) (v2 : Int32) (v3 : Int32) (v4 : Int32) (kh77 : Int32 → SI → Option (Int32 × SI)) (hkh77 : ∀ (w4 : Int32) (U' : SI), Run 4 yX10_odds cX10_odds 7 (some .int) none (fun a : Int32 × SI => (some (.int a.1), (S, T, a.2, V))) 77 [(0, .ref 78), (1, .int v1), (2, .int v2), (3, .int v3), (4, .int w4)] [] (S, T, U', V) (kh77 w4 U')) : Run 4 yX10_odds cX10_odds 7 (some .int) none (fun a : Int32 × SI => (some (.int a.1), (S, T, a.2, V))) 153 [(0, .ref 78), (1, .int v1), (2, .int v2), (3, .int v3), (4, .int v4)] [] (S, T, U, V) (f_X10_odds_153 U v4 kh77) := by
  rw [f_X10_odds_153]
  refine r_iconst (v := (0 : Int32)) dX10_odds_153 rfl ?_
  refine r_istore (L' := [(5, .int (0 : Int32)), (0, .ref 78), (1, .int v1), (2, .int v2), (3, .int v3), (4, .int v4)]) dX10_odds_154 (by decide) rfl ?_
  exact r_pick [1, 2, 3, 4, 5, 0] rfl (t_X10_odds_156 S T V v1 v2 v3 v4 (fun Uo => f_X10_odds_183 Uo v4 kh77) (fun Uo => r_pick [0, 1, 2, 3, 4] rfl (t_X10_odds_183 S T Uo V v1 v2 v3 v4 kh77 hkh77)) fu (0 : Int32) U)
def f_X10_odds_77 (ke189 : SI → Option (Int32 × SI)) : Nat → Int32 → SI → Option (Int32 × SI)
  | 0, _, _ => none
  | m_ + 1, v4, U =>
    if (6 : Int32) ≤ v4 then
      ke189 U
    else
      f_X10_odds_87 v4 (fun Uo => f_X10_odds_153 Uo v4 (f_X10_odds_77 ke189 m_)) fu (0 : Int32) U
set_option maxHeartbeats 4000000 in
set_option maxRecDepth 100000 in
theorem t_X10_odds_77 (S : SI) (T : SL) (V : SL) (v1 : Int32) (v2 : Int32) (v3 : Int32) (ke189 : SI → Option (Int32 × SI)) (hke189 : ∀ (U' : SI), Run 4 yX10_odds cX10_odds 7 (some .int) none (fun a : Int32 × SI => (some (.int a.1), (S, T, a.2, V))) 189 [(0, .ref 78), (1, .int v1), (2, .int v2), (3, .int v3)] [] (S, T, U', V) (ke189 U')) : ∀ (m_ : Nat) (v4 : Int32) (U : SI), Run 4 yX10_odds cX10_odds 7 (some .int) none (fun a : Int32 × SI => (some (.int a.1), (S, T, a.2, V))) 77 [(0, .ref 78), (1, .int v1), (2, .int v2), (3, .int v3), (4, .int v4)] [] (S, T, U, V) (f_X10_odds_77 ke189 m_ v4 U) := by
  intro m_
  induction m_ with
  | zero =>
    intro v4 U
    rw [f_X10_odds_77]
    exact r_none
  | succ m_ ih =>
    intro v4 U
    rw [f_X10_odds_77]
    refine r_iload dX10_odds_77 4 rfl ?_
    refine r_bipush (v := (6 : Int32)) dX10_odds_79 rfl ?_
    refine r_icmp_ge (tgt := 189) dX10_odds_81 (by decide) (fun h12 => ?_) (fun h12 => ?_)
    · exact r_pick [0, 1, 2, 3] rfl (hke189 U)
    · refine r_iconst (v := (0 : Int32)) dX10_odds_84 rfl ?_
      refine r_istore (L' := [(5, .int (0 : Int32)), (0, .ref 78), (1, .int v1), (2, .int v2), (3, .int v3), (4, .int v4)]) dX10_odds_85 (by decide) rfl ?_
      exact r_pick [1, 2, 3, 4, 5, 0] rfl (t_X10_odds_87 S T V v1 v2 v3 v4 (fun Uo => f_X10_odds_153 Uo v4 (f_X10_odds_77 ke189 m_)) (fun Uo => r_pick [0, 1, 2, 3, 4] rfl (t_X10_odds_153 S T Uo V v1 v2 v3 v4 (f_X10_odds_77 ke189 m_) ih)) fu (0 : Int32) U)
def f_X10_odds_189 (U : SI) (v1 : Int32) (v2 : Int32) (v3 : Int32) : Option (Int32 × SI) :=
  (f_X10_choose v3 v1).bind fun q26 =>
  gd (inB v1 13) <|
  (f_X10_common ((q26 - (U 86 (ix v1))).toInt64) q26.toInt64).bind fun q28 =>
  if v2 = 0 then
    gd (inB v1 13) <|
    if q28.toInt32 = 0 then none else
    some ((q26 - (U 86 (ix v1))) / q28.toInt32, U)
  else
    if q28.toInt32 = 0 then none else
    some (q26 / q28.toInt32, U)
set_option maxHeartbeats 4000000 in
set_option maxRecDepth 100000 in
theorem t_X10_odds_189 (S : SI) (T : SL) (U : SI) (V : SL) (v1 : Int32) (v2 : Int32) (v3 : Int32) : Run 4 yX10_odds cX10_odds 7 (some .int) none (fun a : Int32 × SI => (some (.int a.1), (S, T, a.2, V))) 189 [(0, .ref 78), (1, .int v1), (2, .int v2), (3, .int v3)] [] (S, T, U, V) (f_X10_odds_189 U v1 v2 v3) := by
  rw [f_X10_odds_189]
  refine r_iload_n dX10_odds_189 3 rfl rfl ?_
  refine r_iload_n dX10_odds_190 1 rfl rfl ?_
  refine rS_i (as := [.int v3, .int v1]) (st := []) dX10_odds_191 cl_X10_206 (m_X10_choose S T U V v3 v1) (by decide) rfl (Nat.le_of_ble_eq_true rfl) (fun q26 _ => ?_)
  refine r_istore (L' := [(4, .int q26), (0, .ref 78), (1, .int v1), (2, .int v2), (3, .int v3)]) dX10_odds_194 (by decide) rfl ?_
  refine r_iload dX10_odds_196 0 rfl ?_
  refine r_aload_n dX10_odds_198 1 rfl rfl ?_
  refine r_getr dX10_odds_199 fl_X10_32 (by decide) rfl rfl (by decide) ?_
  refine r_iload_n dX10_odds_202 2 rfl rfl ?_
  refine rm_iald dX10_odds_203 (by decide) (by decide) rfl (fun h27 => ?_)
  refine r_isub dX10_odds_204 ?_
  refine r_i2l dX10_odds_205 ?_
  refine r_iload dX10_odds_206 0 rfl ?_
  refine r_i2l dX10_odds_208 ?_
  refine rS_l (as := [.long ((q26 - (U 86 (ix v1))).toInt64), .long q26.toInt64]) (st := []) dX10_odds_209 cl_X10_199 (m_X10_common S T U V ((q26 - (U 86 (ix v1))).toInt64) q26.toInt64) (by decide) rfl (Nat.le_of_ble_eq_true rfl) (fun q28 _ => ?_)
  refine r_l2i dX10_odds_212 ?_
  refine r_istore (L' := [(5, .int q28.toInt32), (4, .int q26), (0, .ref 78), (1, .int v1), (2, .int v2), (3, .int v3)]) dX10_odds_213 (by decide) rfl ?_
  refine r_iload_n dX10_odds_215 4 rfl rfl ?_
  refine r_if_ne (tgt := 234) dX10_odds_216 (by decide) (fun h29 => ?_) (fun h29 => ?_)
  · refine r_iload dX10_odds_219 1 rfl ?_
    refine r_aload_n dX10_odds_221 2 rfl rfl ?_
    refine r_getr dX10_odds_222 fl_X10_32 (by decide) rfl rfl (by decide) ?_
    refine r_iload_n dX10_odds_225 3 rfl rfl ?_
    refine rm_iald dX10_odds_226 (by decide) (by decide) rfl (fun h30 => ?_)
    refine r_isub dX10_odds_227 ?_
    refine r_iload dX10_odds_228 0 rfl ?_
    refine r_idiv dX10_odds_230 (fun h31 => ?_)
    refine r_goto (tgt := 239) dX10_odds_231 (by decide) ?_
    exact r_ireturn (ty := .int) dX10_odds_239 rfl (nar_i _) rfl
  · refine r_iload dX10_odds_234 1 rfl ?_
    refine r_iload dX10_odds_236 0 rfl ?_
    refine r_idiv dX10_odds_238 (fun h32 => ?_)
    exact r_ireturn (ty := .int) dX10_odds_239 rfl (nar_i _) rfl
def f_X10_odds_74 (U : SI) (v1 : Int32) (v2 : Int32) (v3 : Int32) : Option (Int32 × SI) :=
  f_X10_odds_77 (fun Uo => f_X10_odds_189 Uo v1 v2 v3) fu (0 : Int32) U
set_option maxHeartbeats 4000000 in
set_option maxRecDepth 100000 in
theorem t_X10_odds_74 (S : SI) (T : SL) (U : SI) (V : SL) (v1 : Int32) (v2 : Int32) (v3 : Int32) : Run 4 yX10_odds cX10_odds 7 (some .int) none (fun a : Int32 × SI => (some (.int a.1), (S, T, a.2, V))) 74 [(0, .ref 78), (1, .int v1), (2, .int v2), (3, .int v3)] [] (S, T, U, V) (f_X10_odds_74 U v1 v2 v3) := by
  rw [f_X10_odds_74]
  refine r_iconst (v := (0 : Int32)) dX10_odds_74 rfl ?_
  refine r_istore (L' := [(4, .int (0 : Int32)), (0, .ref 78), (1, .int v1), (2, .int v2), (3, .int v3)]) dX10_odds_75 (by decide) rfl ?_
  exact r_pick [1, 2, 3, 4, 0] rfl (t_X10_odds_77 S T V v1 v2 v3 (fun Uo => f_X10_odds_189 Uo v1 v2 v3) (fun Uo => r_pick [0, 1, 2, 3] rfl (t_X10_odds_189 S T Uo V v1 v2 v3)) fu (0 : Int32) U)
def f_X10_odds (U : SI) (v1 : Int32) (v2 : Int32) : Option (Int32 × SI) :=
  (f_X10_in v1.toInt64 (0 : Int64) (12 : Int64)).bind fun q1 =>
  if q1 = 0 then
    some ((-1 : Int32), U)
  else
    (f_X10_in v2.toInt64 (0 : Int64) (1 : Int64)).bind fun q3 =>
    if q3 = 0 then
      some ((-1 : Int32), U)
    else
      (f_X10_inPlace U (0 : Int32)).bind fun q5 =>
      (f_X10_ones q5).bind fun q6 =>
      if v1 ≤ q6 then
        f_X10_odds_44 (fun Uo => f_X10_odds_74 Uo v1 v2 q6) fu (0 : Int32) U
      else
        some ((-2 : Int32), U)
set_option maxHeartbeats 4000000 in
set_option maxRecDepth 100000 in
theorem m_X10_odds (S : SI) (T : SL) (U : SI) (V : SL) (v1 : Int32) (v2 : Int32) : Meth 4 yX10_odds cX10_odds 7 (some .int) [.ref 78, .int v1, .int v2] (S, T, U, V) (f_X10_odds U v1 v2) (fun a : Int32 × SI => (some (.int a.1), (S, T, a.2, V))) := by
  refine meth_of (L := [(0, .ref 78), (1, .int v1), (2, .int v2)]) (by decide +kernel) (Nat.le_of_ble_eq_true rfl) rfl ?_
  rw [f_X10_odds]
  refine r_iload_n dX10_odds_0 1 rfl rfl ?_
  refine r_i2l dX10_odds_1 ?_
  refine r_lconst (v := (0 : Int64)) dX10_odds_2 rfl ?_
  refine r_ldc2_w (v := (12 : Int64)) dX10_odds_3 kw_X10_191 ?_
  refine rS_i (as := [.long v1.toInt64, .long (0 : Int64), .long (12 : Int64)]) (st := []) dX10_odds_6 cl_X10_59 (m_X10_in S T U V v1.toInt64 (0 : Int64) (12 : Int64)) (by decide) rfl (Nat.le_of_ble_eq_true rfl) (fun q1 _ => ?_)
  refine r_if_eq (tgt := 22) dX10_odds_9 (by decide) (fun h2 => ?_) (fun h2 => ?_)
  · refine r_iconst (v := (-1 : Int32)) dX10_odds_22 rfl ?_
    exact r_ireturn (ty := .int) dX10_odds_23 rfl (nar_i _) rfl
  · refine r_iload_n dX10_odds_12 2 rfl rfl ?_
    refine r_i2l dX10_odds_13 ?_
    refine r_lconst (v := (0 : Int64)) dX10_odds_14 rfl ?_
    refine r_lconst (v := (1 : Int64)) dX10_odds_15 rfl ?_
    refine rS_i (as := [.long v2.toInt64, .long (0 : Int64), .long (1 : Int64)]) (st := []) dX10_odds_16 cl_X10_59 (m_X10_in S T U V v2.toInt64 (0 : Int64) (1 : Int64)) (by decide) rfl (Nat.le_of_ble_eq_true rfl) (fun q3 _ => ?_)
    refine r_if_ne (tgt := 24) dX10_odds_19 (by decide) (fun h4 => ?_) (fun h4 => ?_)
    · refine r_iconst (v := (-1 : Int32)) dX10_odds_22 rfl ?_
      exact r_ireturn (ty := .int) dX10_odds_23 rfl (nar_i _) rfl
    · refine r_aload_n dX10_odds_24 0 rfl rfl ?_
      refine r_iconst (v := (0 : Int32)) dX10_odds_25 rfl ?_
      refine rV_i (as := [.int (0 : Int32)]) (st := []) dX10_odds_26 cl_X10_140 (by decide) rfl rfl (m_X10_inPlace S T U V (0 : Int32)) (by decide) rfl (Nat.le_of_ble_eq_true rfl) (fun q5 _ => ?_)
      refine rS_i (as := [.int q5]) (st := []) dX10_odds_29 cl_X10_151 (m_X10_ones S T U V q5) (by decide) rfl (Nat.le_of_ble_eq_true rfl) (fun q6 _ => ?_)
      refine r_istore_n (L' := [(3, .int q6), (0, .ref 78), (1, .int v1), (2, .int v2)]) dX10_odds_32 rfl (by decide) rfl ?_
      refine r_iload_n dX10_odds_33 0 rfl rfl ?_
      refine r_iload_n dX10_odds_34 2 rfl rfl ?_
      refine r_icmp_ge (tgt := 41) dX10_odds_35 (by decide) (fun h7 => ?_) (fun h7 => ?_)
      · refine r_iconst (v := (0 : Int32)) dX10_odds_41 rfl ?_
        refine r_istore (L' := [(4, .int (0 : Int32)), (3, .int q6), (0, .ref 78), (1, .int v1), (2, .int v2)]) dX10_odds_42 (by decide) rfl ?_
        exact r_pick [2, 3, 4, 1, 0] rfl (t_X10_odds_44 S T V v1 v2 q6 (fun Uo => f_X10_odds_74 Uo v1 v2 q6) (fun Uo => r_pick [0, 1, 2, 3] rfl (t_X10_odds_74 S T Uo V v1 v2 q6)) fu (0 : Int32) U)
      · refine r_bipush (v := (-2 : Int32)) dX10_odds_38 rfl ?_
        exact r_ireturn (ty := .int) dX10_odds_40 rfl (nar_i _) rfl
def f_X10_owns (U : SI) (v1 : Int32) (v2 : Int32) (v3 : Int32) (v4 : Int32) : Option (Int32 × SI) :=
  (f_X10_in v1.toInt64 (0 : Int64) (2 : Int64)).bind fun q1 =>
  if q1 = 0 then
    some ((-1 : Int32), U)
  else
    (f_X10_in v2.toInt64 (0 : Int64) (5 : Int64)).bind fun q3 =>
    if q3 = 0 then
      some ((-1 : Int32), U)
    else
      (f_X10_in v3.toInt64 (0 : Int64) (12 : Int64)).bind fun q5 =>
      if q5 = 0 then
        some ((-1 : Int32), U)
      else
        (f_X10_in v4.toInt64 v3.toInt64 (12 : Int64)).bind fun q7 =>
        if q7 = 0 then
          some ((-1 : Int32), U)
        else
          nm ((169 : Int32) + ((2 : Int32) * (((6 : Int32) * v1) + v2))) fun x9 =>
          gd (inB x9 205) <|
          gd (inB (x9 + (1 : Int32)) 205) <|
          nm ((U 79 (ix x9)) + ((16 : Int32) * (U 79 (ix (x9 + (1 : Int32)))))) fun x12 =>
          gd (inB x9 205) <|
          nm (up2 U 79 (ix x9) v3) fun U14 =>
          gd (inB (x9 + (1 : Int32)) 205) <|
          nm (up2 U14 79 (ix (x9 + (1 : Int32))) v4) fun U16 =>
          some (x12, U16)
set_option maxHeartbeats 4000000 in
set_option maxRecDepth 100000 in
theorem m_X10_owns (S : SI) (T : SL) (U : SI) (V : SL) (v1 : Int32) (v2 : Int32) (v3 : Int32) (v4 : Int32) : Meth 2 yX10_owns cX10_owns 7 (some .int) [.ref 78, .int v1, .int v2, .int v3, .int v4] (S, T, U, V) (f_X10_owns U v1 v2 v3 v4) (fun a : Int32 × SI => (some (.int a.1), (S, T, a.2, V))) := by
  refine meth_of (L := [(0, .ref 78), (1, .int v1), (2, .int v2), (3, .int v3), (4, .int v4)]) (by decide +kernel) (Nat.le_of_ble_eq_true rfl) rfl ?_
  rw [f_X10_owns]
  refine r_iload_n dX10_owns_0 1 rfl rfl ?_
  refine r_i2l dX10_owns_1 ?_
  refine r_lconst (v := (0 : Int64)) dX10_owns_2 rfl ?_
  refine r_ldc2_w (v := (2 : Int64)) dX10_owns_3 kw_X10_106 ?_
  refine rS_i (as := [.long v1.toInt64, .long (0 : Int64), .long (2 : Int64)]) (st := []) dX10_owns_6 cl_X10_59 (m_X10_in S T U V v1.toInt64 (0 : Int64) (2 : Int64)) (by decide) rfl (Nat.le_of_ble_eq_true rfl) (fun q1 _ => ?_)
  refine r_if_eq (tgt := 50) dX10_owns_9 (by decide) (fun h2 => ?_) (fun h2 => ?_)
  · refine r_iconst (v := (-1 : Int32)) dX10_owns_50 rfl ?_
    exact r_ireturn (ty := .int) dX10_owns_51 rfl (nar_i _) rfl
  · refine r_iload_n dX10_owns_12 2 rfl rfl ?_
    refine r_i2l dX10_owns_13 ?_
    refine r_lconst (v := (0 : Int64)) dX10_owns_14 rfl ?_
    refine r_ldc2_w (v := (5 : Int64)) dX10_owns_15 kw_X10_75 ?_
    refine rS_i (as := [.long v2.toInt64, .long (0 : Int64), .long (5 : Int64)]) (st := []) dX10_owns_18 cl_X10_59 (m_X10_in S T U V v2.toInt64 (0 : Int64) (5 : Int64)) (by decide) rfl (Nat.le_of_ble_eq_true rfl) (fun q3 _ => ?_)
    refine r_if_eq (tgt := 50) dX10_owns_21 (by decide) (fun h4 => ?_) (fun h4 => ?_)
    · refine r_iconst (v := (-1 : Int32)) dX10_owns_50 rfl ?_
      exact r_ireturn (ty := .int) dX10_owns_51 rfl (nar_i _) rfl
    · refine r_iload_n dX10_owns_24 3 rfl rfl ?_
      refine r_i2l dX10_owns_25 ?_
      refine r_lconst (v := (0 : Int64)) dX10_owns_26 rfl ?_
      refine r_ldc2_w (v := (12 : Int64)) dX10_owns_27 kw_X10_191 ?_
      refine rS_i (as := [.long v3.toInt64, .long (0 : Int64), .long (12 : Int64)]) (st := []) dX10_owns_30 cl_X10_59 (m_X10_in S T U V v3.toInt64 (0 : Int64) (12 : Int64)) (by decide) rfl (Nat.le_of_ble_eq_true rfl) (fun q5 _ => ?_)
      refine r_if_eq (tgt := 50) dX10_owns_33 (by decide) (fun h6 => ?_) (fun h6 => ?_)
      · refine r_iconst (v := (-1 : Int32)) dX10_owns_50 rfl ?_
        exact r_ireturn (ty := .int) dX10_owns_51 rfl (nar_i _) rfl
      · refine r_iload dX10_owns_36 4 rfl ?_
        refine r_i2l dX10_owns_38 ?_
        refine r_iload_n dX10_owns_39 3 rfl rfl ?_
        refine r_i2l dX10_owns_40 ?_
        refine r_ldc2_w (v := (12 : Int64)) dX10_owns_41 kw_X10_191 ?_
        refine rS_i (as := [.long v4.toInt64, .long v3.toInt64, .long (12 : Int64)]) (st := []) dX10_owns_44 cl_X10_59 (m_X10_in S T U V v4.toInt64 v3.toInt64 (12 : Int64)) (by decide) rfl (Nat.le_of_ble_eq_true rfl) (fun q7 _ => ?_)
        refine r_if_ne (tgt := 52) dX10_owns_47 (by decide) (fun h8 => ?_) (fun h8 => ?_)
        · refine r_iconst (v := (-1 : Int32)) dX10_owns_50 rfl ?_
          exact r_ireturn (ty := .int) dX10_owns_51 rfl (nar_i _) rfl
        · refine r_sipush (v := (169 : Int32)) dX10_owns_52 rfl ?_
          refine r_iconst (v := (2 : Int32)) dX10_owns_55 rfl ?_
          refine r_bipush (v := (6 : Int32)) dX10_owns_56 rfl ?_
          refine r_iload_n dX10_owns_58 1 rfl rfl ?_
          refine r_imul dX10_owns_59 ?_
          refine r_iload_n dX10_owns_60 2 rfl rfl ?_
          refine r_iadd dX10_owns_61 ?_
          refine r_imul dX10_owns_62 ?_
          refine r_iadd dX10_owns_63 ?_
          refine r_nmi (fun x9 => ?_)
          refine r_istore (L' := [(5, .int x9), (0, .ref 78), (1, .int v1), (2, .int v2), (3, .int v3), (4, .int v4)]) dX10_owns_64 (by decide) rfl ?_
          refine r_aload_n dX10_owns_66 1 rfl rfl ?_
          refine r_getr dX10_owns_67 fl_X10_7 (by decide) rfl rfl (by decide) ?_
          refine r_iload dX10_owns_70 0 rfl ?_
          refine rm_iald dX10_owns_72 (by decide) (by decide) rfl (fun h10 => ?_)
          refine r_bipush (v := (16 : Int32)) dX10_owns_73 rfl ?_
          refine r_aload_n dX10_owns_75 1 rfl rfl ?_
          refine r_getr dX10_owns_76 fl_X10_7 (by decide) rfl rfl (by decide) ?_
          refine r_iload dX10_owns_79 0 rfl ?_
          refine r_iconst (v := (1 : Int32)) dX10_owns_81 rfl ?_
          refine r_iadd dX10_owns_82 ?_
          refine rm_iald dX10_owns_83 (by decide) (by decide) rfl (fun h11 => ?_)
          refine r_imul dX10_owns_84 ?_
          refine r_iadd dX10_owns_85 ?_
          refine r_nmi (fun x12 => ?_)
          refine r_istore (L' := [(6, .int x12), (5, .int x9), (0, .ref 78), (1, .int v1), (2, .int v2), (3, .int v3), (4, .int v4)]) dX10_owns_86 (by decide) rfl ?_
          refine r_aload_n dX10_owns_88 2 rfl rfl ?_
          refine r_getr dX10_owns_89 fl_X10_7 (by decide) rfl rfl (by decide) ?_
          refine r_iload dX10_owns_92 1 rfl ?_
          refine r_iload_n dX10_owns_94 5 rfl rfl ?_
          refine rm_iast dX10_owns_95 (by decide) (by decide) rfl (fun h13 => ?_)
          refine r_nmU (fun U14 => ?_)
          refine r_aload_n dX10_owns_96 2 rfl rfl ?_
          refine r_getr dX10_owns_97 fl_X10_7 (by decide) rfl rfl (by decide) ?_
          refine r_iload dX10_owns_100 1 rfl ?_
          refine r_iconst (v := (1 : Int32)) dX10_owns_102 rfl ?_
          refine r_iadd dX10_owns_103 ?_
          refine r_iload dX10_owns_104 6 rfl ?_
          refine rm_iast dX10_owns_106 (by decide) (by decide) rfl (fun h15 => ?_)
          refine r_nmU (fun U16 => ?_)
          refine r_iload dX10_owns_107 0 rfl ?_
          exact r_ireturn (ty := .int) dX10_owns_109 rfl (nar_i _) rfl
def f_X10_may (U : SI) (v1 : Int32) (v2 : Int32) : Option (Int32 × SI) :=
  (f_X10_isSock U v1).bind fun q1 =>
  if q1 = 0 then
    some ((-1 : Int32), U)
  else
    (f_X10_in v2.toInt64 (1 : Int64) (7 : Int64)).bind fun q3 =>
    if q3 = 0 then
      some ((-1 : Int32), U)
    else
      (f_X10_of U v1 (8 : Int32)).bind fun q5 =>
      (f_X10_put U v1 (8 : Int32) v2).bind fun q6 =>
      some (q5, q6)
set_option maxHeartbeats 4000000 in
set_option maxRecDepth 100000 in
theorem m_X10_may (S : SI) (T : SL) (U : SI) (V : SL) (v1 : Int32) (v2 : Int32) : Meth 3 yX10_may cX10_may 4 (some .int) [.ref 78, .int v1, .int v2] (S, T, U, V) (f_X10_may U v1 v2) (fun a : Int32 × SI => (some (.int a.1), (S, T, a.2, V))) := by
  refine meth_of (L := [(0, .ref 78), (1, .int v1), (2, .int v2)]) (by decide +kernel) (Nat.le_of_ble_eq_true rfl) rfl ?_
  rw [f_X10_may]
  refine r_aload_n dX10_may_0 0 rfl rfl ?_
  refine r_iload_n dX10_may_1 1 rfl rfl ?_
  refine rV_i (as := [.int v1]) (st := []) dX10_may_2 cl_X10_63 (by decide) rfl rfl (m_X10_isSock S T U V v1) (by decide) rfl (Nat.le_of_ble_eq_true rfl) (fun q1 _ => ?_)
  refine r_if_eq (tgt := 20) dX10_may_5 (by decide) (fun h2 => ?_) (fun h2 => ?_)
  · refine r_iconst (v := (-1 : Int32)) dX10_may_20 rfl ?_
    exact r_ireturn (ty := .int) dX10_may_21 rfl (nar_i _) rfl
  · refine r_iload_n dX10_may_8 2 rfl rfl ?_
    refine r_i2l dX10_may_9 ?_
    refine r_lconst (v := (1 : Int64)) dX10_may_10 rfl ?_
    refine r_ldc2_w (v := (7 : Int64)) dX10_may_11 kw_X10_127 ?_
    refine rS_i (as := [.long v2.toInt64, .long (1 : Int64), .long (7 : Int64)]) (st := []) dX10_may_14 cl_X10_59 (m_X10_in S T U V v2.toInt64 (1 : Int64) (7 : Int64)) (by decide) rfl (Nat.le_of_ble_eq_true rfl) (fun q3 _ => ?_)
    refine r_if_ne (tgt := 22) dX10_may_17 (by decide) (fun h4 => ?_) (fun h4 => ?_)
    · refine r_iconst (v := (-1 : Int32)) dX10_may_20 rfl ?_
      exact r_ireturn (ty := .int) dX10_may_21 rfl (nar_i _) rfl
    · refine r_aload_n dX10_may_22 0 rfl rfl ?_
      refine r_iload_n dX10_may_23 1 rfl rfl ?_
      refine r_bipush (v := (8 : Int32)) dX10_may_24 rfl ?_
      refine rV_i (as := [.int v1, .int (8 : Int32)]) (st := []) dX10_may_26 cl_X10_67 (by decide) rfl rfl (m_X10_of S T U V v1 (8 : Int32)) (by decide) rfl (Nat.le_of_ble_eq_true rfl) (fun q5 _ => ?_)
      refine r_istore_n (L' := [(3, .int q5), (0, .ref 78), (1, .int v1), (2, .int v2)]) dX10_may_29 rfl (by decide) rfl ?_
      refine r_aload_n dX10_may_30 1 rfl rfl ?_
      refine r_iload_n dX10_may_31 2 rfl rfl ?_
      refine r_bipush (v := (8 : Int32)) dX10_may_32 rfl ?_
      refine r_iload_n dX10_may_34 3 rfl rfl ?_
      refine rVm_vS (as := [.int v1, .int (8 : Int32), .int v2]) (st := []) dX10_may_35 cl_X10_71 (by decide) rfl rfl (m_X10_put S T U V v1 (8 : Int32) v2) (by decide) rfl (Nat.le_of_ble_eq_true rfl) (fun q6 _ => ?_)
      refine r_iload_n dX10_may_38 0 rfl rfl ?_
      exact r_ireturn (ty := .int) dX10_may_39 rfl (nar_i _) rfl
def f_X10_bind_58 (v3 : Int32) (v4 : Int32) : Nat → Int32 → SI → Option (Int32 × SI)
  | 0, _, _ => none
  | m_ + 1, v5, U =>
    gd (inB (0 : Int32) 205) <|
    if (U 79 (ix (0 : Int32))) ≤ v5 then
      some ((1 : Int32), U)
    else
      (f_X10_of U v5 (9 : Int32)).bind fun q11 =>
      if q11 = v4 then
        (f_X10_put U v5 (9 : Int32) v3).bind fun q13 =>
        (f_X10_bind_58 v3 v4 m_) (v5 + (1 : Int32)) q13
      else
        (f_X10_bind_58 v3 v4 m_) (v5 + (1 : Int32)) U
set_option maxHeartbeats 4000000 in
set_option maxRecDepth 100000 in
theorem t_X10_bind_58 (S : SI) (T : SL) (V : SL) (v3 : Int32) (v4 : Int32) : ∀ (m_ : Nat) (v5 : Int32) (U : SI), Run 4 yX10_bind cX10_bind 6 (some .int) none (fun a : Int32 × SI => (some (.int a.1), (S, T, a.2, V))) 58 [(0, .ref 78), (3, .int v3), (4, .int v4), (5, .int v5)] [] (S, T, U, V) (f_X10_bind_58 v3 v4 m_ v5 U) := by
  intro m_
  induction m_ with
  | zero =>
    intro v5 U
    rw [f_X10_bind_58]
    exact r_none
  | succ m_ ih =>
    intro v5 U
    rw [f_X10_bind_58]
    refine r_iload dX10_bind_58 3 rfl ?_
    refine r_aload_n dX10_bind_60 0 rfl rfl ?_
    refine r_getr dX10_bind_61 fl_X10_7 (by decide) rfl rfl (by decide) ?_
    refine r_iconst (v := (0 : Int32)) dX10_bind_64 rfl ?_
    refine rm_iald dX10_bind_65 (by decide) (by decide) rfl (fun h9 => ?_)
    refine r_icmp_ge (tgt := 97) dX10_bind_66 (by decide) (fun h10 => ?_) (fun h10 => ?_)
    · refine r_iconst (v := (1 : Int32)) dX10_bind_97 rfl ?_
      exact r_ireturn (ty := .int) dX10_bind_98 rfl (nar_i _) rfl
    · refine r_aload_n dX10_bind_69 0 rfl rfl ?_
      refine r_iload dX10_bind_70 3 rfl ?_
      refine r_bipush (v := (9 : Int32)) dX10_bind_72 rfl ?_
      refine rV_i (as := [.int v5, .int (9 : Int32)]) (st := []) dX10_bind_74 cl_X10_67 (by decide) rfl rfl (m_X10_of S T U V v5 (9 : Int32)) (by decide) rfl (Nat.le_of_ble_eq_true rfl) (fun q11 _ => ?_)
      refine r_iload dX10_bind_77 2 rfl ?_
      refine r_icmp_ne (tgt := 91) dX10_bind_79 (by decide) (fun h12 => ?_) (fun h12 => ?_)
      · refine r_aload_n dX10_bind_82 0 rfl rfl ?_
        refine r_iload dX10_bind_83 3 rfl ?_
        refine r_bipush (v := (9 : Int32)) dX10_bind_85 rfl ?_
        refine r_iload_n dX10_bind_87 1 rfl rfl ?_
        refine rVm_vS (as := [.int v5, .int (9 : Int32), .int v3]) (st := []) dX10_bind_88 cl_X10_71 (by decide) rfl rfl (m_X10_put S T U V v5 (9 : Int32) v3) (by decide) rfl (Nat.le_of_ble_eq_true rfl) (fun q13 _ => ?_)
        refine r_iinc (v := v5 + (1 : Int32)) (L' := [(5, .int (v5 + (1 : Int32))), (0, .ref 78), (3, .int v3), (4, .int v4)]) dX10_bind_91 3 rfl rfl (by decide) rfl ?_
        refine r_goto (tgt := 58) dX10_bind_94 (by decide) ?_
        exact r_pick [1, 2, 3, 0] rfl (ih (v5 + (1 : Int32)) q13)
      · refine r_iinc (v := v5 + (1 : Int32)) (L' := [(5, .int (v5 + (1 : Int32))), (0, .ref 78), (3, .int v3), (4, .int v4)]) dX10_bind_91 3 rfl rfl (by decide) rfl ?_
        refine r_goto (tgt := 58) dX10_bind_94 (by decide) ?_
        exact r_pick [1, 2, 3, 0] rfl (ih (v5 + (1 : Int32)) U)
def f_X10_bind (U : SI) (v1 : Int32) (v2 : Int32) : Option (Int32 × SI) :=
  (f_X10_areTwo U v1 v2).bind fun q1 =>
  if q1 = 0 then
    some ((-1 : Int32), U)
  else
    (f_X10_of U v1 (0 : Int32)).bind fun q3 =>
    (f_X10_of U v2 (0 : Int32)).bind fun q4 =>
    if q3 = q4 then
      (f_X10_of U v1 (9 : Int32)).bind fun q6 =>
      (f_X10_of U v2 (9 : Int32)).bind fun q7 =>
      if q6 = q7 then
        some ((-4 : Int32), U)
      else
        f_X10_bind_58 q6 q7 fu (0 : Int32) U
    else
      some ((-2 : Int32), U)
set_option maxHeartbeats 4000000 in
set_option maxRecDepth 100000 in
theorem m_X10_bind (S : SI) (T : SL) (U : SI) (V : SL) (v1 : Int32) (v2 : Int32) : Meth 4 yX10_bind cX10_bind 6 (some .int) [.ref 78, .int v1, .int v2] (S, T, U, V) (f_X10_bind U v1 v2) (fun a : Int32 × SI => (some (.int a.1), (S, T, a.2, V))) := by
  refine meth_of (L := [(0, .ref 78), (1, .int v1), (2, .int v2)]) (by decide +kernel) (Nat.le_of_ble_eq_true rfl) rfl ?_
  rw [f_X10_bind]
  refine r_aload_n dX10_bind_0 0 rfl rfl ?_
  refine r_iload_n dX10_bind_1 1 rfl rfl ?_
  refine r_iload_n dX10_bind_2 2 rfl rfl ?_
  refine rV_i (as := [.int v1, .int v2]) (st := []) dX10_bind_3 cl_X10_157 (by decide) rfl rfl (m_X10_areTwo S T U V v1 v2) (by decide) rfl (Nat.le_of_ble_eq_true rfl) (fun q1 _ => ?_)
  refine r_if_ne (tgt := 11) dX10_bind_6 (by decide) (fun h2 => ?_) (fun h2 => ?_)
  · refine r_iconst (v := (-1 : Int32)) dX10_bind_9 rfl ?_
    exact r_ireturn (ty := .int) dX10_bind_10 rfl (nar_i _) rfl
  · refine r_aload_n dX10_bind_11 0 rfl rfl ?_
    refine r_iload_n dX10_bind_12 1 rfl rfl ?_
    refine r_iconst (v := (0 : Int32)) dX10_bind_13 rfl ?_
    refine rV_i (as := [.int v1, .int (0 : Int32)]) (st := []) dX10_bind_14 cl_X10_67 (by decide) rfl rfl (m_X10_of S T U V v1 (0 : Int32)) (by decide) rfl (Nat.le_of_ble_eq_true rfl) (fun q3 _ => ?_)
    refine r_aload_n dX10_bind_17 0 rfl rfl ?_
    refine r_iload_n dX10_bind_18 2 rfl rfl ?_
    refine r_iconst (v := (0 : Int32)) dX10_bind_19 rfl ?_
    refine rV_i (as := [.int v2, .int (0 : Int32)]) (st := [.int q3]) dX10_bind_20 cl_X10_67 (by decide) rfl rfl (m_X10_of S T U V v2 (0 : Int32)) (by decide) rfl (Nat.le_of_ble_eq_true rfl) (fun q4 _ => ?_)
    refine r_icmp_eq (tgt := 29) dX10_bind_23 (by decide) (fun h5 => ?_) (fun h5 => ?_)
    · refine r_aload_n dX10_bind_29 0 rfl rfl ?_
      refine r_iload_n dX10_bind_30 1 rfl rfl ?_
      refine r_bipush (v := (9 : Int32)) dX10_bind_31 rfl ?_
      refine rV_i (as := [.int v1, .int (9 : Int32)]) (st := []) dX10_bind_33 cl_X10_67 (by decide) rfl rfl (m_X10_of S T U V v1 (9 : Int32)) (by decide) rfl (Nat.le_of_ble_eq_true rfl) (fun q6 _ => ?_)
      refine r_istore_n (L' := [(3, .int q6), (0, .ref 78), (1, .int v1), (2, .int v2)]) dX10_bind_36 rfl (by decide) rfl ?_
      refine r_aload_n dX10_bind_37 1 rfl rfl ?_
      refine r_iload_n dX10_bind_38 3 rfl rfl ?_
      refine r_bipush (v := (9 : Int32)) dX10_bind_39 rfl ?_
      refine rV_i (as := [.int v2, .int (9 : Int32)]) (st := []) dX10_bind_41 cl_X10_67 (by decide) rfl rfl (m_X10_of S T U V v2 (9 : Int32)) (by decide) rfl (Nat.le_of_ble_eq_true rfl) (fun q7 _ => ?_)
      refine r_istore (L' := [(4, .int q7), (3, .int q6), (0, .ref 78), (1, .int v1), (2, .int v2)]) dX10_bind_44 (by decide) rfl ?_
      refine r_iload_n dX10_bind_46 1 rfl rfl ?_
      refine r_iload dX10_bind_47 0 rfl ?_
      refine r_icmp_ne (tgt := 55) dX10_bind_49 (by decide) (fun h8 => ?_) (fun h8 => ?_)
      · refine r_bipush (v := (-4 : Int32)) dX10_bind_52 rfl ?_
        exact r_ireturn (ty := .int) dX10_bind_54 rfl (nar_i _) rfl
      · refine r_iconst (v := (0 : Int32)) dX10_bind_55 rfl ?_
        refine r_istore (L' := [(5, .int (0 : Int32)), (4, .int q7), (3, .int q6), (0, .ref 78), (1, .int v1), (2, .int v2)]) dX10_bind_56 (by decide) rfl ?_
        exact r_pick [3, 2, 1, 0] rfl (t_X10_bind_58 S T V q6 q7 fu (0 : Int32) U)
    · refine r_bipush (v := (-2 : Int32)) dX10_bind_26 rfl ?_
      exact r_ireturn (ty := .int) dX10_bind_28 rfl (nar_i _) rfl
def f_X10_mayOf_58 (v5 : Int32) (s0 : Int32) (s1 : Int32) (kh7 : Int32 → Int32 → Option (Int32)) : Option (Int32) :=
  nm (s1 &&& s0) fun x7 =>
  kh7 x7 (v5 + (1 : Int32))
set_option maxHeartbeats 4000000 in
set_option maxRecDepth 100000 in
theorem t_X10_mayOf_58 (S : SI) (T : SL) (U : SI) (V : SL) (v1 : Int32) (v2 : Int32) (v3 : Int32) (v5 : Int32) (s0 : Int32) (s1 : Int32) (kh7 : Int32 → Int32 → Option (Int32)) (hkh7 : ∀ (w4 : Int32) (w5 : Int32), Run 2 yX10_mayOf cX10_mayOf 6 (some .int) none (fun a : Int32 => (some (.int a), (S, T, U, V))) 7 [(0, .ref 78), (1, .int v1), (2, .int v2), (3, .int v3), (4, .int w4), (5, .int w5)] [] (S, T, U, V) (kh7 w4 w5)) : Run 2 yX10_mayOf cX10_mayOf 6 (some .int) none (fun a : Int32 => (some (.int a), (S, T, U, V))) 58 [(0, .ref 78), (1, .int v1), (2, .int v2), (3, .int v3), (5, .int v5)] [.int s0, .int s1] (S, T, U, V) (f_X10_mayOf_58 v5 s0 s1 kh7) := by
  rw [f_X10_mayOf_58]
  refine r_iand dX10_mayOf_58 ?_
  refine r_nmi (fun x7 => ?_)
  refine r_istore (L' := [(4, .int x7), (0, .ref 78), (1, .int v1), (2, .int v2), (3, .int v3), (5, .int v5)]) dX10_mayOf_59 (by decide) rfl ?_
  refine r_iinc (v := v5 + (1 : Int32)) (L' := [(5, .int (v5 + (1 : Int32))), (4, .int x7), (0, .ref 78), (1, .int v1), (2, .int v2), (3, .int v3)]) dX10_mayOf_61 5 rfl rfl (by decide) rfl ?_
  refine r_goto (tgt := 7) dX10_mayOf_64 (by decide) ?_
  exact r_pick [2, 3, 4, 5, 1, 0] rfl (hkh7 x7 (v5 + (1 : Int32)))
def f_X10_mayOf_52 (v5 : Int32) (s0 : Int32) (s1 : Int32) (s2 : Int32) (kh7 : Int32 → Int32 → Option (Int32)) : Option (Int32) :=
  f_X10_mayOf_58 v5 (s1 &&& s0) s2 kh7
set_option maxHeartbeats 4000000 in
set_option maxRecDepth 100000 in
theorem t_X10_mayOf_52 (S : SI) (T : SL) (U : SI) (V : SL) (v1 : Int32) (v2 : Int32) (v3 : Int32) (v5 : Int32) (s0 : Int32) (s1 : Int32) (s2 : Int32) (kh7 : Int32 → Int32 → Option (Int32)) (hkh7 : ∀ (w4 : Int32) (w5 : Int32), Run 2 yX10_mayOf cX10_mayOf 6 (some .int) none (fun a : Int32 => (some (.int a), (S, T, U, V))) 7 [(0, .ref 78), (1, .int v1), (2, .int v2), (3, .int v3), (4, .int w4), (5, .int w5)] [] (S, T, U, V) (kh7 w4 w5)) : Run 2 yX10_mayOf cX10_mayOf 6 (some .int) none (fun a : Int32 => (some (.int a), (S, T, U, V))) 52 [(0, .ref 78), (1, .int v1), (2, .int v2), (3, .int v3), (5, .int v5)] [.int s0, .int s1, .int s2] (S, T, U, V) (f_X10_mayOf_52 v5 s0 s1 s2 kh7) := by
  rw [f_X10_mayOf_52]
  refine r_iand dX10_mayOf_52 ?_
  refine r_goto (tgt := 58) dX10_mayOf_53 (by decide) ?_
  exact r_pick [0, 1, 2, 3, 4] rfl (t_X10_mayOf_58 S T U V v1 v2 v3 v5 (s1 &&& s0) s2 kh7 hkh7)
def f_X10_mayOf_7 (U : SI) (v1 : Int32) (v2 : Int32) (v3 : Int32) : Nat → Int32 → Int32 → Option (Int32)
  | 0, _, _ => none
  | m_ + 1, v4, v5 =>
    gd (inB (0 : Int32) 205) <|
    if (U 79 (ix (0 : Int32))) ≤ v5 then
      some v4
    else
      (f_X10_of U v5 (9 : Int32)).bind fun q3 =>
      if q3 = v1 then
        (f_X10_of U v5 (8 : Int32)).bind fun q5 =>
        if v5 = v2 then
          f_X10_mayOf_52 v5 v3 q5 v4 (f_X10_mayOf_7 U v1 v2 v3 m_)
        else
          f_X10_mayOf_52 v5 (7 : Int32) q5 v4 (f_X10_mayOf_7 U v1 v2 v3 m_)
      else
        f_X10_mayOf_58 v5 (7 : Int32) v4 (f_X10_mayOf_7 U v1 v2 v3 m_)
set_option maxHeartbeats 4000000 in
set_option maxRecDepth 100000 in
theorem t_X10_mayOf_7 (S : SI) (T : SL) (U : SI) (V : SL) (v1 : Int32) (v2 : Int32) (v3 : Int32) : ∀ (m_ : Nat) (v4 : Int32) (v5 : Int32), Run 2 yX10_mayOf cX10_mayOf 6 (some .int) none (fun a : Int32 => (some (.int a), (S, T, U, V))) 7 [(0, .ref 78), (1, .int v1), (2, .int v2), (3, .int v3), (4, .int v4), (5, .int v5)] [] (S, T, U, V) (f_X10_mayOf_7 U v1 v2 v3 m_ v4 v5) := by
  intro m_
  induction m_ with
  | zero =>
    intro v4 v5
    rw [f_X10_mayOf_7]
    exact r_none
  | succ m_ ih =>
    intro v4 v5
    rw [f_X10_mayOf_7]
    refine r_iload dX10_mayOf_7 5 rfl ?_
    refine r_aload_n dX10_mayOf_9 0 rfl rfl ?_
    refine r_getr dX10_mayOf_10 fl_X10_7 (by decide) rfl rfl (by decide) ?_
    refine r_iconst (v := (0 : Int32)) dX10_mayOf_13 rfl ?_
    refine rm_iald dX10_mayOf_14 (by decide) (by decide) rfl (fun h1 => ?_)
    refine r_icmp_ge (tgt := 67) dX10_mayOf_15 (by decide) (fun h2 => ?_) (fun h2 => ?_)
    · refine r_iload dX10_mayOf_67 4 rfl ?_
      exact r_ireturn (ty := .int) dX10_mayOf_69 rfl (nar_i _) rfl
    · refine r_iload dX10_mayOf_18 4 rfl ?_
      refine r_aload_n dX10_mayOf_20 0 rfl rfl ?_
      refine r_iload dX10_mayOf_21 5 rfl ?_
      refine r_bipush (v := (9 : Int32)) dX10_mayOf_23 rfl ?_
      refine rV_i (as := [.int v5, .int (9 : Int32)]) (st := [.int v4]) dX10_mayOf_25 cl_X10_67 (by decide) rfl rfl (m_X10_of S T U V v5 (9 : Int32)) (by decide) rfl (Nat.le_of_ble_eq_true rfl) (fun q3 _ => ?_)
      refine r_iload_n dX10_mayOf_28 1 rfl rfl ?_
      refine r_icmp_ne (tgt := 56) dX10_mayOf_29 (by decide) (fun h4 => ?_) (fun h4 => ?_)
      · refine r_aload_n dX10_mayOf_32 0 rfl rfl ?_
        refine r_iload dX10_mayOf_33 5 rfl ?_
        refine r_bipush (v := (8 : Int32)) dX10_mayOf_35 rfl ?_
        refine rV_i (as := [.int v5, .int (8 : Int32)]) (st := [.int v4]) dX10_mayOf_37 cl_X10_67 (by decide) rfl rfl (m_X10_of S T U V v5 (8 : Int32)) (by decide) rfl (Nat.le_of_ble_eq_true rfl) (fun q5 _ => ?_)
        refine r_iload dX10_mayOf_40 5 rfl ?_
        refine r_iload_n dX10_mayOf_42 2 rfl rfl ?_
        refine r_icmp_ne (tgt := 50) dX10_mayOf_43 (by decide) (fun h6 => ?_) (fun h6 => ?_)
        · refine r_iload_n dX10_mayOf_46 3 rfl rfl ?_
          refine r_goto (tgt := 52) dX10_mayOf_47 (by decide) ?_
          exact r_pick [0, 1, 2, 3, 5] rfl (t_X10_mayOf_52 S T U V v1 v2 v3 v5 v3 q5 v4 (f_X10_mayOf_7 U v1 v2 v3 m_) ih)
        · refine r_bipush (v := (7 : Int32)) dX10_mayOf_50 rfl ?_
          exact r_pick [0, 1, 2, 3, 5] rfl (t_X10_mayOf_52 S T U V v1 v2 v3 v5 (7 : Int32) q5 v4 (f_X10_mayOf_7 U v1 v2 v3 m_) ih)
      · refine r_bipush (v := (7 : Int32)) dX10_mayOf_56 rfl ?_
        exact r_pick [0, 1, 2, 3, 5] rfl (t_X10_mayOf_58 S T U V v1 v2 v3 v5 (7 : Int32) v4 (f_X10_mayOf_7 U v1 v2 v3 m_) ih)
def f_X10_mayOf (U : SI) (v1 : Int32) (v2 : Int32) (v3 : Int32) : Option (Int32) :=
  f_X10_mayOf_7 U v1 v2 v3 fu (7 : Int32) (0 : Int32)
set_option maxHeartbeats 4000000 in
set_option maxRecDepth 100000 in
theorem m_X10_mayOf (S : SI) (T : SL) (U : SI) (V : SL) (v1 : Int32) (v2 : Int32) (v3 : Int32) : Meth 2 yX10_mayOf cX10_mayOf 6 (some .int) [.ref 78, .int v1, .int v2, .int v3] (S, T, U, V) (f_X10_mayOf U v1 v2 v3) (fun a : Int32 => (some (.int a), (S, T, U, V))) := by
  refine meth_of (L := [(0, .ref 78), (1, .int v1), (2, .int v2), (3, .int v3)]) (by decide +kernel) (Nat.le_of_ble_eq_true rfl) rfl ?_
  rw [f_X10_mayOf]
  refine r_bipush (v := (7 : Int32)) dX10_mayOf_0 rfl ?_
  refine r_istore (L' := [(4, .int (7 : Int32)), (0, .ref 78), (1, .int v1), (2, .int v2), (3, .int v3)]) dX10_mayOf_2 (by decide) rfl ?_
  refine r_iconst (v := (0 : Int32)) dX10_mayOf_4 rfl ?_
  refine r_istore (L' := [(5, .int (0 : Int32)), (4, .int (7 : Int32)), (0, .ref 78), (1, .int v1), (2, .int v2), (3, .int v3)]) dX10_mayOf_5 (by decide) rfl ?_
  exact r_pick [2, 3, 4, 5, 1, 0] rfl (t_X10_mayOf_7 S T U V v1 v2 v3 fu (7 : Int32) (0 : Int32))
