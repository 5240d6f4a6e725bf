def f_X10_in (v0 : Int64) (v2 : Int64) (v4 : Int64) : Option (Int32) :=
  if v0 < v2 then
    some (0 : Int32)
  else
    if v4 < v0 then
      some (0 : Int32)
    else
      some (1 : Int32)
set_option maxHeartbeats 4000000 in
set_option maxRecDepth 100000 in
theorem m_X10_in (S : SI) (T : SL) (U : SI) (V : SL) (v0 : Int64) (v2 : Int64) (v4 : Int64) : Meth 1 yX10_in cX10_in 6 (some .boolean) [.long v0, .long v2, .long v4] (S, T, U, V) (f_X10_in v0 v2 v4) (fun a : Int32 => (some (.int a), (S, T, U, V))) := by
  refine meth_of (L := [(0, .long v0), (2, .long v2), (4, .long v4)]) (by decide +kernel) (Nat.le_of_ble_eq_true rfl) rfl ?_
  rw [f_X10_in]
  refine r_lload_n dX10_in_0 0 rfl rfl ?_
  refine r_lload_n dX10_in_1 1 rfl rfl ?_
  refine r_lcmp_lt (tgt := 17) dX10_in_2 dX10_in_3 (by decide) (fun h1 => ?_) (fun h1 => ?_)
  · refine r_iconst (v := (0 : Int32)) dX10_in_17 rfl ?_
    exact r_ireturn (ty := .boolean) dX10_in_18 rfl rfl rfl
  · refine r_lload_n dX10_in_6 0 rfl rfl ?_
    refine r_lload dX10_in_7 2 rfl ?_
    refine r_lcmp_gt (tgt := 17) dX10_in_9 dX10_in_10 (by decide) (fun h2 => ?_) (fun h2 => ?_)
    · refine r_iconst (v := (0 : Int32)) dX10_in_17 rfl ?_
      exact r_ireturn (ty := .boolean) dX10_in_18 rfl rfl rfl
    · refine r_iconst (v := (1 : Int32)) dX10_in_13 rfl ?_
      refine r_goto (tgt := 18) dX10_in_14 (by decide) ?_
      exact r_ireturn (ty := .boolean) dX10_in_18 rfl rfl rfl
def f_X10_of (U : SI) (v1 : Int32) (v2 : Int32) : Option (Int32) :=
  gd (inB (((13 : Int32) + ((10 : Int32) * v1)) + v2) 205) <|
  some (U 79 (ix (((13 : Int32) + ((10 : Int32) * v1)) + v2)))
set_option maxHeartbeats 4000000 in
set_option maxRecDepth 100000 in
theorem m_X10_of (S : SI) (T : SL) (U : SI) (V : SL) (v1 : Int32) (v2 : Int32) : Meth 1 yX10_of cX10_of 3 (some .int) [.ref 78, .int v1, .int v2] (S, T, U, V) (f_X10_of U v1 v2) (fun a : Int32 => (some (.int a), (S, T, U, V))) := by
  refine meth_of (L := [(0, .ref 78), (1, .int v1), (2, .int v2)]) (by decide +kernel) (Nat.le_of_ble_eq_true rfl) rfl ?_
  rw [f_X10_of]
  refine r_aload_n dX10_of_0 0 rfl rfl ?_
  refine r_getr dX10_of_1 fl_X10_7 (by decide) rfl rfl (by decide) ?_
  refine r_bipush (v := (13 : Int32)) dX10_of_4 rfl ?_
  refine r_bipush (v := (10 : Int32)) dX10_of_6 rfl ?_
  refine r_iload_n dX10_of_8 1 rfl rfl ?_
  refine r_imul dX10_of_9 ?_
  refine r_iadd dX10_of_10 ?_
  refine r_iload_n dX10_of_11 2 rfl rfl ?_
  refine r_iadd dX10_of_12 ?_
  refine rm_iald dX10_of_13 (by decide) (by decide) rfl (fun h1 => ?_)
  exact r_ireturn (ty := .int) dX10_of_14 rfl (nar_i _) rfl
def f_X10_put (U : SI) (v1 : Int32) (v2 : Int32) (v3 : Int32) : Option (SI) :=
  gd (inB (((13 : Int32) + ((10 : Int32) * v1)) + v2) 205) <|
  nm (up2 U 79 (ix (((13 : Int32) + ((10 : Int32) * v1)) + v2)) v3) fun U2 =>
  some U2
set_option maxHeartbeats 4000000 in
set_option maxRecDepth 100000 in
theorem m_X10_put (S : SI) (T : SL) (U : SI) (V : SL) (v1 : Int32) (v2 : Int32) (v3 : Int32) : Meth 1 yX10_put cX10_put 4 none [.ref 78, .int v1, .int v2, .int v3] (S, T, U, V) (f_X10_put U v1 v2 v3) (fun a : SI => (none, (S, T, a, V))) := by
  refine meth_of (L := [(0, .ref 78), (1, .int v1), (2, .int v2), (3, .int v3)]) (by decide +kernel) (Nat.le_of_ble_eq_true rfl) rfl ?_
  rw [f_X10_put]
  refine r_aload_n dX10_put_0 0 rfl rfl ?_
  refine r_getr dX10_put_1 fl_X10_7 (by decide) rfl rfl (by decide) ?_
  refine r_bipush (v := (13 : Int32)) dX10_put_4 rfl ?_
  refine r_bipush (v := (10 : Int32)) dX10_put_6 rfl ?_
  refine r_iload_n dX10_put_8 1 rfl rfl ?_
  refine r_imul dX10_put_9 ?_
  refine r_iadd dX10_put_10 ?_
  refine r_iload_n dX10_put_11 2 rfl rfl ?_
  refine r_iadd dX10_put_12 ?_
  refine r_iload_n dX10_put_13 3 rfl rfl ?_
  refine rm_iast dX10_put_14 (by decide) (by decide) rfl (fun h1 => ?_)
  refine r_nmU (fun U2 => ?_)
  exact r_return dX10_put_15 rfl rfl
def f_X10_isSock (U : SI) (v1 : Int32) : Option (Int32) :=
  gd (inB (0 : Int32) 205) <|
  (f_X10_in v1.toInt64 (0 : Int64) (((U 79 (ix (0 : Int32))) - (1 : Int32)).toInt64)).bind fun q2 =>
  gd (b01 q2) <|
  some q2
set_option maxHeartbeats 4000000 in
set_option maxRecDepth 100000 in
theorem m_X10_isSock (S : SI) (T : SL) (U : SI) (V : SL) (v1 : Int32) : Meth 2 yX10_isSock cX10_isSock 2 (some .boolean) [.ref 78, .int v1] (S, T, U, V) (f_X10_isSock U v1) (fun a : Int32 => (some (.int a), (S, T, U, V))) := by
  refine meth_of (L := [(0, .ref 78), (1, .int v1)]) (by decide +kernel) (Nat.le_of_ble_eq_true rfl) rfl ?_
  rw [f_X10_isSock]
  refine r_iload_n dX10_isSock_0 1 rfl rfl ?_
  refine r_i2l dX10_isSock_1 ?_
  refine r_lconst (v := (0 : Int64)) dX10_isSock_2 rfl ?_
  refine r_aload_n dX10_isSock_3 0 rfl rfl ?_
  refine r_getr dX10_isSock_4 fl_X10_7 (by decide) rfl rfl (by decide) ?_
  refine r_iconst (v := (0 : Int32)) dX10_isSock_7 rfl ?_
  refine rm_iald dX10_isSock_8 (by decide) (by decide) rfl (fun h1 => ?_)
  refine r_iconst (v := (1 : Int32)) dX10_isSock_9 rfl ?_
  refine r_isub dX10_isSock_10 ?_
  refine r_i2l dX10_isSock_11 ?_
  refine rS_i (as := [.long v1.toInt64, .long (0 : Int64), .long (((U 79 (ix (0 : Int32))) - (1 : Int32)).toInt64)]) (st := []) dX10_isSock_12 cl_X10_59 (m_X10_in S T U V v1.toInt64 (0 : Int64) (((U 79 (ix (0 : Int32))) - (1 : Int32)).toInt64)) (by decide) rfl (Nat.le_of_ble_eq_true rfl) (fun q2 _ => ?_)
  refine r_gd (fun h3 => ?_)
  exact r_ireturn (ty := .boolean) dX10_isSock_15 rfl (nar_z h3) rfl
def f_X10_areTwo (U : SI) (v1 : Int32) (v2 : Int32) : Option (Int32) :=
  (f_X10_isSock U v1).bind fun q1 =>
  if q1 = 0 then
    some (0 : Int32)
  else
    (f_X10_isSock U v2).bind fun q3 =>
    if q3 = 0 then
      some (0 : Int32)
    else
      if v1 = v2 then
        some (0 : Int32)
      else
        some (1 : Int32)
set_option maxHeartbeats 4000000 in
set_option maxRecDepth 100000 in
theorem m_X10_areTwo (S : SI) (T : SL) (U : SI) (V : SL) (v1 : Int32) (v2 : Int32) : Meth 3 yX10_areTwo cX10_areTwo 3 (some .boolean) [.ref 78, .int v1, .int v2] (S, T, U, V) (f_X10_areTwo U v1 v2) (fun a : Int32 => (some (.int a), (S, T, U, V))) := by
  refine meth_of (L := [(0, .ref 78), (1, .int v1), (2, .int v2)]) (by decide +kernel) (Nat.le_of_ble_eq_true rfl) rfl ?_
  rw [f_X10_areTwo]
  refine r_aload_n dX10_areTwo_0 0 rfl rfl ?_
  refine r_iload_n dX10_areTwo_1 1 rfl rfl ?_
  refine rV_i (as := [.int v1]) (st := []) dX10_areTwo_2 cl_X10_63 (by decide) rfl rfl (m_X10_isSock S T U V v1) (by decide) rfl (Nat.le_of_ble_eq_true rfl) (fun q1 _ => ?_)
  refine r_if_eq (tgt := 25) dX10_areTwo_5 (by decide) (fun h2 => ?_) (fun h2 => ?_)
  · refine r_iconst (v := (0 : Int32)) dX10_areTwo_25 rfl ?_
    exact r_ireturn (ty := .boolean) dX10_areTwo_26 rfl rfl rfl
  · refine r_aload_n dX10_areTwo_8 0 rfl rfl ?_
    refine r_iload_n dX10_areTwo_9 2 rfl rfl ?_
    refine rV_i (as := [.int v2]) (st := []) dX10_areTwo_10 cl_X10_63 (by decide) rfl rfl (m_X10_isSock S T U V v2) (by decide) rfl (Nat.le_of_ble_eq_true rfl) (fun q3 _ => ?_)
    refine r_if_eq (tgt := 25) dX10_areTwo_13 (by decide) (fun h4 => ?_) (fun h4 => ?_)
    · refine r_iconst (v := (0 : Int32)) dX10_areTwo_25 rfl ?_
      exact r_ireturn (ty := .boolean) dX10_areTwo_26 rfl rfl rfl
    · refine r_iload_n dX10_areTwo_16 1 rfl rfl ?_
      refine r_iload_n dX10_areTwo_17 2 rfl rfl ?_
      refine r_icmp_eq (tgt := 25) dX10_areTwo_18 (by decide) (fun h5 => ?_) (fun h5 => ?_)
      · refine r_iconst (v := (0 : Int32)) dX10_areTwo_25 rfl ?_
        exact r_ireturn (ty := .boolean) dX10_areTwo_26 rfl rfl rfl
      · refine r_iconst (v := (1 : Int32)) dX10_areTwo_21 rfl ?_
        refine r_goto (tgt := 26) dX10_areTwo_22 (by decide) ?_
        exact r_ireturn (ty := .boolean) dX10_areTwo_26 rfl rfl rfl
def f_X10_has (v0 : Int32) (v1 : Int32) : Option (Int32) :=
  if ((v0 >>> (v1 &&& 31)) &&& (1 : Int32)) = (1 : Int32) then
    some (1 : Int32)
  else
    some (0 : Int32)
set_option maxHeartbeats 4000000 in
set_option maxRecDepth 100000 in
theorem m_X10_has (S : SI) (T : SL) (U : SI) (V : SL) (v0 : Int32) (v1 : Int32) : Meth 1 yX10_has cX10_has 2 (some .boolean) [.int v0, .int v1] (S, T, U, V) (f_X10_has v0 v1) (fun a : Int32 => (some (.int a), (S, T, U, V))) := by
  refine meth_of (L := [(0, .int v0), (1, .int v1)]) (by decide +kernel) (Nat.le_of_ble_eq_true rfl) rfl ?_
  rw [f_X10_has]
  refine r_iload_n dX10_has_0 0 rfl rfl ?_
  refine r_iload_n dX10_has_1 1 rfl rfl ?_
  refine r_ishr dX10_has_2 ?_
  refine r_iconst (v := (1 : Int32)) dX10_has_3 rfl ?_
  refine r_iand dX10_has_4 ?_
  refine r_iconst (v := (1 : Int32)) dX10_has_5 rfl ?_
  refine r_icmp_ne (tgt := 13) dX10_has_6 (by decide) (fun h1 => ?_) (fun h1 => ?_)
  · refine r_iconst (v := (1 : Int32)) dX10_has_9 rfl ?_
    refine r_goto (tgt := 14) dX10_has_10 (by decide) ?_
    exact r_ireturn (ty := .boolean) dX10_has_14 rfl rfl rfl
  · refine r_iconst (v := (0 : Int32)) dX10_has_13 rfl ?_
    exact r_ireturn (ty := .boolean) dX10_has_14 rfl rfl rfl
def f_X10_allSocks (U : SI) : Option (Int32) :=
  gd (inB (0 : Int32) 205) <|
  some (((1 : Int32) <<< ((U 79 (ix (0 : Int32))) &&& 31)) - (1 : Int32))
set_option maxHeartbeats 4000000 in
set_option maxRecDepth 100000 in
theorem m_X10_allSocks (S : SI) (T : SL) (U : SI) (V : SL)  : Meth 1 yX10_allSocks cX10_allSocks 1 (some .int) [.ref 78] (S, T, U, V) (f_X10_allSocks U) (fun a : Int32 => (some (.int a), (S, T, U, V))) := by
  refine meth_of (L := [(0, .ref 78)]) (by decide +kernel) (Nat.le_of_ble_eq_true rfl) rfl ?_
  rw [f_X10_allSocks]
  refine r_iconst (v := (1 : Int32)) dX10_allSocks_0 rfl ?_
  refine r_aload_n dX10_allSocks_1 0 rfl rfl ?_
  refine r_getr dX10_allSocks_2 fl_X10_7 (by decide) rfl rfl (by decide) ?_
  refine r_iconst (v := (0 : Int32)) dX10_allSocks_5 rfl ?_
  refine rm_iald dX10_allSocks_6 (by decide) (by decide) rfl (fun h1 => ?_)
  refine r_ishl dX10_allSocks_7 ?_
  refine r_iconst (v := (1 : Int32)) dX10_allSocks_8 rfl ?_
  refine r_isub dX10_allSocks_9 ?_
  exact r_ireturn (ty := .int) dX10_allSocks_10 rfl (nar_i _) rfl
def f_X10_inPlace_32 (v3 : Int32) (s0 : Int32) (s1 : Int32) (kh4 : Int32 → Int32 → Option (Int32)) : Option (Int32) :=
  nm (s1 ||| s0) fun x5 =>
  kh4 x5 (v3 + (1 : Int32))
set_option maxHeartbeats 4000000 in
set_option maxRecDepth 100000 in
theorem t_X10_inPlace_32 (S : SI) (T : SL) (U : SI) (V : SL) (v1 : Int32) (v3 : Int32) (s0 : Int32) (s1 : Int32) (kh4 : Int32 → Int32 → Option (Int32)) (hkh4 : ∀ (w2 : Int32) (w3 : Int32), Run 2 yX10_inPlace cX10_inPlace 4 (some .int) none (fun a : Int32 => (some (.int a), (S, T, U, V))) 4 [(0, .ref 78), (1, .int v1), (2, .int w2), (3, .int w3)] [] (S, T, U, V) (kh4 w2 w3)) : Run 2 yX10_inPlace cX10_inPlace 4 (some .int) none (fun a : Int32 => (some (.int a), (S, T, U, V))) 32 [(0, .ref 78), (1, .int v1), (3, .int v3)] [.int s0, .int s1] (S, T, U, V) (f_X10_inPlace_32 v3 s0 s1 kh4) := by
  rw [f_X10_inPlace_32]
  refine r_ior dX10_inPlace_32 ?_
  refine r_nmi (fun x5 => ?_)
  refine r_istore_n (L' := [(2, .int x5), (0, .ref 78), (1, .int v1), (3, .int v3)]) dX10_inPlace_33 rfl (by decide) rfl ?_
  refine r_iinc (v := v3 + (1 : Int32)) (L' := [(3, .int (v3 + (1 : Int32))), (2, .int x5), (0, .ref 78), (1, .int v1)]) dX10_inPlace_34 3 rfl rfl (by decide) rfl ?_
  refine r_goto (tgt := 4) dX10_inPlace_37 (by decide) ?_
  exact r_pick [2, 3, 1, 0] rfl (hkh4 x5 (v3 + (1 : Int32)))
def f_X10_inPlace_4 (U : SI) (v1 : Int32) : Nat → Int32 → Int32 → Option (Int32)
  | 0, _, _ => none
  | m_ + 1, v2, v3 =>
    gd (inB (0 : Int32) 205) <|
    if (U 79 (ix (0 : Int32))) ≤ v3 then
      some v2
    else
      (f_X10_of U v3 (4 : Int32)).bind fun q3 =>
      if q3 = v1 then
        f_X10_inPlace_32 v3 ((1 : Int32) <<< (v3 &&& 31)) v2 (f_X10_inPlace_4 U v1 m_)
      else
        f_X10_inPlace_32 v3 (0 : Int32) v2 (f_X10_inPlace_4 U v1 m_)
set_option maxHeartbeats 4000000 in
set_option maxRecDepth 100000 in
theorem t_X10_inPlace_4 (S : SI) (T : SL) (U : SI) (V : SL) (v1 : Int32) : ∀ (m_ : Nat) (v2 : Int32) (v3 : Int32), Run 2 yX10_inPlace cX10_inPlace 4 (some .int) none (fun a : Int32 => (some (.int a), (S, T, U, V))) 4 [(0, .ref 78), (1, .int v1), (2, .int v2), (3, .int v3)] [] (S, T, U, V) (f_X10_inPlace_4 U v1 m_ v2 v3) := by
  intro m_
  induction m_ with
  | zero =>
    intro v2 v3
    rw [f_X10_inPlace_4]
    exact r_none
  | succ m_ ih =>
    intro v2 v3
    rw [f_X10_inPlace_4]
    refine r_iload_n dX10_inPlace_4 3 rfl rfl ?_
    refine r_aload_n dX10_inPlace_5 0 rfl rfl ?_
    refine r_getr dX10_inPlace_6 fl_X10_7 (by decide) rfl rfl (by decide) ?_
    refine r_iconst (v := (0 : Int32)) dX10_inPlace_9 rfl ?_
    refine rm_iald dX10_inPlace_10 (by decide) (by decide) rfl (fun h1 => ?_)
    refine r_icmp_ge (tgt := 40) dX10_inPlace_11 (by decide) (fun h2 => ?_) (fun h2 => ?_)
    · refine r_iload_n dX10_inPlace_40 2 rfl rfl ?_
      exact r_ireturn (ty := .int) dX10_inPlace_41 rfl (nar_i _) rfl
    · refine r_iload_n dX10_inPlace_14 2 rfl rfl ?_
      refine r_aload_n dX10_inPlace_15 0 rfl rfl ?_
      refine r_iload_n dX10_inPlace_16 3 rfl rfl ?_
      refine r_iconst (v := (4 : Int32)) dX10_inPlace_17 rfl ?_
      refine rV_i (as := [.int v3, .int (4 : Int32)]) (st := [.int v2]) dX10_inPlace_18 cl_X10_67 (by decide) rfl rfl (m_X10_of S T U V v3 (4 : Int32)) (by decide) rfl (Nat.le_of_ble_eq_true rfl) (fun q3 _ => ?_)
      refine r_iload_n dX10_inPlace_21 1 rfl rfl ?_
      refine r_icmp_ne (tgt := 31) dX10_inPlace_22 (by decide) (fun h4 => ?_) (fun h4 => ?_)
      · refine r_iconst (v := (1 : Int32)) dX10_inPlace_25 rfl ?_
        refine r_iload_n dX10_inPlace_26 3 rfl rfl ?_
        refine r_ishl dX10_inPlace_27 ?_
        refine r_goto (tgt := 32) dX10_inPlace_28 (by decide) ?_
        exact r_pick [0, 1, 3] rfl (t_X10_inPlace_32 S T U V v1 v3 ((1 : Int32) <<< (v3 &&& 31)) v2 (f_X10_inPlace_4 U v1 m_) ih)
      · refine r_iconst (v := (0 : Int32)) dX10_inPlace_31 rfl ?_
        exact r_pick [0, 1, 3] rfl (t_X10_inPlace_32 S T U V v1 v3 (0 : Int32) v2 (f_X10_inPlace_4 U v1 m_) ih)
def f_X10_inPlace (U : SI) (v1 : Int32) : Option (Int32) :=
  f_X10_inPlace_4 U v1 fu (0 : Int32) (0 : Int32)
set_option maxHeartbeats 4000000 in
set_option maxRecDepth 100000 in
theorem m_X10_inPlace (S : SI) (T : SL) (U : SI) (V : SL) (v1 : Int32) : Meth 2 yX10_inPlace cX10_inPlace 4 (some .int) [.ref 78, .int v1] (S, T, U, V) (f_X10_inPlace U v1) (fun a : Int32 => (some (.int a), (S, T, U, V))) := by
  refine meth_of (L := [(0, .ref 78), (1, .int v1)]) (by decide +kernel) (Nat.le_of_ble_eq_true rfl) rfl ?_
  rw [f_X10_inPlace]
  refine r_iconst (v := (0 : Int32)) dX10_inPlace_0 rfl ?_
  refine r_istore_n (L' := [(2, .int (0 : Int32)), (0, .ref 78), (1, .int v1)]) dX10_inPlace_1 rfl (by decide) rfl ?_
  refine r_iconst (v := (0 : Int32)) dX10_inPlace_2 rfl ?_
  refine r_istore_n (L' := [(3, .int (0 : Int32)), (2, .int (0 : Int32)), (0, .ref 78), (1, .int v1)]) dX10_inPlace_3 rfl (by decide) rfl ?_
  exact r_pick [2, 3, 1, 0] rfl (t_X10_inPlace_4 S T U V v1 fu (0 : Int32) (0 : Int32))
def f_X10_ones_4  : Nat → Int32 → Int32 → Option (Int32)
  | 0, _, _ => none
  | m_ + 1, v1, v2 =>
    if v2 = 0 then
      some v1
    else
      nm (v2 &&& (v2 - (1 : Int32))) fun x2 =>
      (f_X10_ones_4 m_) (v1 + (1 : Int32)) x2
set_option maxHeartbeats 4000000 in
set_option maxRecDepth 100000 in
theorem t_X10_ones_4 (S : SI) (T : SL) (U : SI) (V : SL) : ∀ (m_ : Nat) (v1 : Int32) (v2 : Int32), Run 1 yX10_ones cX10_ones 3 (some .int) none (fun a : Int32 => (some (.int a), (S, T, U, V))) 4 [(1, .int v1), (2, .int v2)] [] (S, T, U, V) (f_X10_ones_4 m_ v1 v2) := by
  intro m_
  induction m_ with
  | zero =>
    intro v1 v2
    rw [f_X10_ones_4]
    exact r_none
  | succ m_ ih =>
    intro v1 v2
    rw [f_X10_ones_4]
    refine r_iload_n dX10_ones_4 1 rfl rfl ?_
    refine r_if_eq (tgt := 20) dX10_ones_5 (by decide) (fun h1 => ?_) (fun h1 => ?_)
    · refine r_iload_n dX10_ones_20 0 rfl rfl ?_
      exact r_ireturn (ty := .int) dX10_ones_21 rfl (nar_i _) rfl
    · refine r_iinc (v := v1 + (1 : Int32)) (L' := [(1, .int (v1 + (1 : Int32))), (2, .int v2)]) dX10_ones_8 0 rfl rfl (by decide) rfl ?_
      refine r_iload_n dX10_ones_11 1 rfl rfl ?_
      refine r_iload_n dX10_ones_12 1 rfl rfl ?_
      refine r_iconst (v := (1 : Int32)) dX10_ones_13 rfl ?_
      refine r_isub dX10_ones_14 ?_
      refine r_iand dX10_ones_15 ?_
      refine r_nmi (fun x2 => ?_)
      refine r_istore_n (L' := [(2, .int x2), (1, .int (v1 + (1 : Int32)))]) dX10_ones_16 rfl (by decide) rfl ?_
      refine r_goto (tgt := 4) dX10_ones_17 (by decide) ?_
      exact r_pick [1, 0] rfl (ih (v1 + (1 : Int32)) x2)
def f_X10_ones (v0 : Int32) : Option (Int32) :=
  f_X10_ones_4 fu (0 : Int32) v0
set_option maxHeartbeats 4000000 in
set_option maxRecDepth 100000 in
theorem m_X10_ones (S : SI) (T : SL) (U : SI) (V : SL) (v0 : Int32) : Meth 1 yX10_ones cX10_ones 3 (some .int) [.int v0] (S, T, U, V) (f_X10_ones v0) (fun a : Int32 => (some (.int a), (S, T, U, V))) := by
  refine meth_of (L := [(0, .int v0)]) (by decide +kernel) (Nat.le_of_ble_eq_true rfl) rfl ?_
  rw [f_X10_ones]
  refine r_iconst (v := (0 : Int32)) dX10_ones_0 rfl ?_
  refine r_istore_n (L' := [(1, .int (0 : Int32)), (0, .int v0)]) dX10_ones_1 rfl (by decide) rfl ?_
  refine r_iload_n dX10_ones_2 1 rfl rfl ?_
  refine r_istore_n (L' := [(2, .int v0), (1, .int (0 : Int32)), (0, .int v0)]) dX10_ones_3 rfl (by decide) rfl ?_
  exact r_pick [1, 0] rfl (t_X10_ones_4 S T U V fu (0 : Int32) v0)
def f_X10_add (U : SI) (v1 : Int32) (v2 : Int32) (v3 : Int32) (v4 : Int32) (v5 : Int32) : Option (SI) :=
  gd (inB (0 : Int32) 205) <|
  nm (U 79 (ix (0 : Int32))) fun x2 =>
  (f_X10_put U x2 (0 : Int32) v1).bind fun q3 =>
  (f_X10_put q3 x2 (1 : Int32) v2).bind fun q4 =>
  (f_X10_put q4 x2 (2 : Int32) v3).bind fun q5 =>
  (f_X10_put q5 x2 (3 : Int32) v4).bind fun q6 =>
  (f_X10_put q6 x2 (4 : Int32) (0 : Int32)).bind fun q7 =>
  (f_X10_put q7 x2 (5 : Int32) (-4 : Int32)).bind fun q8 =>
  (f_X10_put q8 x2 (6 : Int32) (0 : Int32)).bind fun q9 =>
  (f_X10_put q9 x2 (7 : Int32) (-4 : Int32)).bind fun q10 =>
  (f_X10_put q10 x2 (8 : Int32) v5).bind fun q11 =>
  (f_X10_put q11 x2 (9 : Int32) x2).bind fun q12 =>
  gd (inB (0 : Int32) 205) <|
  gd (inB (0 : Int32) 205) <|
  nm (up2 q12 79 (ix (0 : Int32)) ((q12 79 (ix (0 : Int32))) + (1 : Int32))) fun U15 =>
  some U15
set_option maxHeartbeats 4000000 in
set_option maxRecDepth 100000 in
theorem m_X10_add (S : SI) (T : SL) (U : SI) (V : SL) (v1 : Int32) (v2 : Int32) (v3 : Int32) (v4 : Int32) (v5 : Int32) : Meth 2 yX10_add cX10_add 7 none [.ref 78, .int v1, .int v2, .int v3, .int v4, .int v5] (S, T, U, V) (f_X10_add U v1 v2 v3 v4 v5) (fun a : SI => (none, (S, T, a, V))) := by
  refine meth_of (L := [(0, .ref 78), (1, .int v1), (2, .int v2), (3, .int v3), (4, .int v4), (5, .int v5)]) (by decide +kernel) (Nat.le_of_ble_eq_true rfl) rfl ?_
  rw [f_X10_add]
  refine r_aload_n dX10_add_0 0 rfl rfl ?_
  refine r_getr dX10_add_1 fl_X10_7 (by decide) rfl rfl (by decide) ?_
  refine r_iconst (v := (0 : Int32)) dX10_add_4 rfl ?_
  refine rm_iald dX10_add_5 (by decide) (by decide) rfl (fun h1 => ?_)
  refine r_nmi (fun x2 => ?_)
  refine r_istore (L' := [(6, .int x2), (0, .ref 78), (1, .int v1), (2, .int v2), (3, .int v3), (4, .int v4), (5, .int v5)]) dX10_add_6 (by decide) rfl ?_
  refine r_aload_n dX10_add_8 1 rfl rfl ?_
  refine r_iload dX10_add_9 0 rfl ?_
  refine r_iconst (v := (0 : Int32)) dX10_add_11 rfl ?_
  refine r_iload_n dX10_add_12 2 rfl rfl ?_
  refine rVm_vS (as := [.int x2, .int (0 : Int32), .int v1]) (st := []) dX10_add_13 cl_X10_71 (by decide) rfl rfl (m_X10_put S T U V x2 (0 : Int32) v1) (by decide) rfl (Nat.le_of_ble_eq_true rfl) (fun q3 _ => ?_)
  refine r_aload_n dX10_add_16 1 rfl rfl ?_
  refine r_iload dX10_add_17 0 rfl ?_
  refine r_iconst (v := (1 : Int32)) dX10_add_19 rfl ?_
  refine r_iload_n dX10_add_20 3 rfl rfl ?_
  refine rVm_vS (as := [.int x2, .int (1 : Int32), .int v2]) (st := []) dX10_add_21 cl_X10_71 (by decide) rfl rfl (m_X10_put S T q3 V x2 (1 : Int32) v2) (by decide) rfl (Nat.le_of_ble_eq_true rfl) (fun q4 _ => ?_)
  refine r_aload_n dX10_add_24 1 rfl rfl ?_
  refine r_iload dX10_add_25 0 rfl ?_
  refine r_iconst (v := (2 : Int32)) dX10_add_27 rfl ?_
  refine r_iload_n dX10_add_28 4 rfl rfl ?_
  refine rVm_vS (as := [.int x2, .int (2 : Int32), .int v3]) (st := []) dX10_add_29 cl_X10_71 (by decide) rfl rfl (m_X10_put S T q4 V x2 (2 : Int32) v3) (by decide) rfl (Nat.le_of_ble_eq_true rfl) (fun q5 _ => ?_)
  refine r_aload_n dX10_add_32 1 rfl rfl ?_
  refine r_iload dX10_add_33 0 rfl ?_
  refine r_iconst (v := (3 : Int32)) dX10_add_35 rfl ?_
  refine r_iload dX10_add_36 5 rfl ?_
  refine rVm_vS (as := [.int x2, .int (3 : Int32), .int v4]) (st := []) dX10_add_38 cl_X10_71 (by decide) rfl rfl (m_X10_put S T q5 V x2 (3 : Int32) v4) (by decide) rfl (Nat.le_of_ble_eq_true rfl) (fun q6 _ => ?_)
  refine r_aload_n dX10_add_41 1 rfl rfl ?_
  refine r_iload dX10_add_42 0 rfl ?_
  refine r_iconst (v := (4 : Int32)) dX10_add_44 rfl ?_
  refine r_iconst (v := (0 : Int32)) dX10_add_45 rfl ?_
  refine rVm_vS (as := [.int x2, .int (4 : Int32), .int (0 : Int32)]) (st := []) dX10_add_46 cl_X10_71 (by decide) rfl rfl (m_X10_put S T q6 V x2 (4 : Int32) (0 : Int32)) (by decide) rfl (Nat.le_of_ble_eq_true rfl) (fun q7 _ => ?_)
  refine r_aload_n dX10_add_49 1 rfl rfl ?_
  refine r_iload dX10_add_50 0 rfl ?_
  refine r_iconst (v := (5 : Int32)) dX10_add_52 rfl ?_
  refine r_bipush (v := (-4 : Int32)) dX10_add_53 rfl ?_
  refine rVm_vS (as := [.int x2, .int (5 : Int32), .int (-4 : Int32)]) (st := []) dX10_add_55 cl_X10_71 (by decide) rfl rfl (m_X10_put S T q7 V x2 (5 : Int32) (-4 : Int32)) (by decide) rfl (Nat.le_of_ble_eq_true rfl) (fun q8 _ => ?_)
  refine r_aload_n dX10_add_58 1 rfl rfl ?_
  refine r_iload dX10_add_59 0 rfl ?_
  refine r_bipush (v := (6 : Int32)) dX10_add_61 rfl ?_
  refine r_iconst (v := (0 : Int32)) dX10_add_63 rfl ?_
  refine rVm_vS (as := [.int x2, .int (6 : Int32), .int (0 : Int32)]) (st := []) dX10_add_64 cl_X10_71 (by decide) rfl rfl (m_X10_put S T q8 V x2 (6 : Int32) (0 : Int32)) (by decide) rfl (Nat.le_of_ble_eq_true rfl) (fun q9 _ => ?_)
  refine r_aload_n dX10_add_67 1 rfl rfl ?_
  refine r_iload dX10_add_68 0 rfl ?_
  refine r_bipush (v := (7 : Int32)) dX10_add_70 rfl ?_
  refine r_bipush (v := (-4 : Int32)) dX10_add_72 rfl ?_
  refine rVm_vS (as := [.int x2, .int (7 : Int32), .int (-4 : Int32)]) (st := []) dX10_add_74 cl_X10_71 (by decide) rfl rfl (m_X10_put S T q9 V x2 (7 : Int32) (-4 : Int32)) (by decide) rfl (Nat.le_of_ble_eq_true rfl) (fun q10 _ => ?_)
  refine r_aload_n dX10_add_77 1 rfl rfl ?_
  refine r_iload dX10_add_78 0 rfl ?_
  refine r_bipush (v := (8 : Int32)) dX10_add_80 rfl ?_
  refine r_iload dX10_add_82 6 rfl ?_
  refine rVm_vS (as := [.int x2, .int (8 : Int32), .int v5]) (st := []) dX10_add_84 cl_X10_71 (by decide) rfl rfl (m_X10_put S T q10 V x2 (8 : Int32) v5) (by decide) rfl (Nat.le_of_ble_eq_true rfl) (fun q11 _ => ?_)
  refine r_aload_n dX10_add_87 1 rfl rfl ?_
  refine r_iload dX10_add_88 0 rfl ?_
  refine r_bipush (v := (9 : Int32)) dX10_add_90 rfl ?_
  refine r_iload dX10_add_92 0 rfl ?_
  refine rVm_vS (as := [.int x2, .int (9 : Int32), .int x2]) (st := []) dX10_add_94 cl_X10_71 (by decide) rfl rfl (m_X10_put S T q11 V x2 (9 : Int32) x2) (by decide) rfl (Nat.le_of_ble_eq_true rfl) (fun q12 _ => ?_)
  refine r_aload_n dX10_add_97 1 rfl rfl ?_
  refine r_getr dX10_add_98 fl_X10_7 (by decide) rfl rfl (by decide) ?_
  refine r_iconst (v := (0 : Int32)) dX10_add_101 rfl ?_
  refine r_dup2 dX10_add_102 rfl rfl ?_
  refine rm_iald dX10_add_103 (by decide) (by decide) rfl (fun h13 => ?_)
  refine r_iconst (v := (1 : Int32)) dX10_add_104 rfl ?_
  refine r_iadd dX10_add_105 ?_
  refine rm_iast dX10_add_106 (by decide) (by decide) rfl (fun h14 => ?_)
  refine r_nmU (fun U15 => ?_)
  exact r_return dX10_add_107 rfl rfl
def f_X10_sock (U : SI) (v1 : Int32) (v2 : Int32) (v3 : Int32) (v4 : Int32) : Option (Int32 × SI) :=
  (f_X10_in v1.toInt64 (0 : Int64) (5 : Int64)).bind fun q1 =>
  if q1 = 0 then
    some ((-1 : Int32), U)
  else
    (f_X10_in v2.toInt64 (0 : Int64) (1 : Int64)).bind fun q3 =>
    if q3 = 0 then
      some ((-1 : Int32), U)
    else
      (f_X10_in v3.toInt64 (0 : Int64) (99 : Int64)).bind fun q5 =>
      if q5 = 0 then
        some ((-1 : Int32), U)
      else
        (f_X10_in v4.toInt64 v3.toInt64 (99 : Int64)).bind fun q7 =>
        if q7 = 0 then
          some ((-1 : Int32), U)
        else
          gd (inB (0 : Int32) 205) <|
          if (U 79 (ix (0 : Int32))) = (12 : Int32) then
            some ((-3 : Int32), U)
          else
            (f_X10_add U v1 v2 v3 v4 (7 : Int32)).bind fun q11 =>
            gd (inB (0 : Int32) 205) <|
            some ((q11 79 (ix (0 : Int32))) - (1 : Int32), q11)
set_option maxHeartbeats 4000000 in
set_option maxRecDepth 100000 in
theorem m_X10_sock (S : SI) (T : SL) (U : SI) (V : SL) (v1 : Int32) (v2 : Int32) (v3 : Int32) (v4 : Int32) : Meth 3 yX10_sock cX10_sock 5 (some .int) [.ref 78, .int v1, .int v2, .int v3, .int v4] (S, T, U, V) (f_X10_sock U v1 v2 v3 v4) (fun a : Int32 × SI => (some (.int a.1), (S, T, a.2, V))) := by
  refine meth_of (L := [(0, .ref 78), (1, .int v1), (2, .int v2), (3, .int v3), (4, .int v4)]) (by decide +kernel) (Nat.le_of_ble_eq_true rfl) rfl ?_
  rw [f_X10_sock]
  refine r_iload_n dX10_sock_0 1 rfl rfl ?_
  refine r_i2l dX10_sock_1 ?_
  refine r_lconst (v := (0 : Int64)) dX10_sock_2 rfl ?_
  refine r_ldc2_w (v := (5 : Int64)) dX10_sock_3 kw_X10_75 ?_
  refine rS_i (as := [.long v1.toInt64, .long (0 : Int64), .long (5 : Int64)]) (st := []) dX10_sock_6 cl_X10_59 (m_X10_in S T U V v1.toInt64 (0 : Int64) (5 : Int64)) (by decide) rfl (Nat.le_of_ble_eq_true rfl) (fun q1 _ => ?_)
  refine r_if_eq (tgt := 48) dX10_sock_9 (by decide) (fun h2 => ?_) (fun h2 => ?_)
  · refine r_iconst (v := (-1 : Int32)) dX10_sock_48 rfl ?_
    exact r_ireturn (ty := .int) dX10_sock_49 rfl (nar_i _) rfl
  · refine r_iload_n dX10_sock_12 2 rfl rfl ?_
    refine r_i2l dX10_sock_13 ?_
    refine r_lconst (v := (0 : Int64)) dX10_sock_14 rfl ?_
    refine r_lconst (v := (1 : Int64)) dX10_sock_15 rfl ?_
    refine rS_i (as := [.long v2.toInt64, .long (0 : Int64), .long (1 : Int64)]) (st := []) dX10_sock_16 cl_X10_59 (m_X10_in S T U V v2.toInt64 (0 : Int64) (1 : Int64)) (by decide) rfl (Nat.le_of_ble_eq_true rfl) (fun q3 _ => ?_)
    refine r_if_eq (tgt := 48) dX10_sock_19 (by decide) (fun h4 => ?_) (fun h4 => ?_)
    · refine r_iconst (v := (-1 : Int32)) dX10_sock_48 rfl ?_
      exact r_ireturn (ty := .int) dX10_sock_49 rfl (nar_i _) rfl
    · refine r_iload_n dX10_sock_22 3 rfl rfl ?_
      refine r_i2l dX10_sock_23 ?_
      refine r_lconst (v := (0 : Int64)) dX10_sock_24 rfl ?_
      refine r_ldc2_w (v := (99 : Int64)) dX10_sock_25 kw_X10_77 ?_
      refine rS_i (as := [.long v3.toInt64, .long (0 : Int64), .long (99 : Int64)]) (st := []) dX10_sock_28 cl_X10_59 (m_X10_in S T U V v3.toInt64 (0 : Int64) (99 : Int64)) (by decide) rfl (Nat.le_of_ble_eq_true rfl) (fun q5 _ => ?_)
      refine r_if_eq (tgt := 48) dX10_sock_31 (by decide) (fun h6 => ?_) (fun h6 => ?_)
      · refine r_iconst (v := (-1 : Int32)) dX10_sock_48 rfl ?_
        exact r_ireturn (ty := .int) dX10_sock_49 rfl (nar_i _) rfl
      · refine r_iload dX10_sock_34 4 rfl ?_
        refine r_i2l dX10_sock_36 ?_
        refine r_iload_n dX10_sock_37 3 rfl rfl ?_
        refine r_i2l dX10_sock_38 ?_
        refine r_ldc2_w (v := (99 : Int64)) dX10_sock_39 kw_X10_77 ?_
        refine rS_i (as := [.long v4.toInt64, .long v3.toInt64, .long (99 : Int64)]) (st := []) dX10_sock_42 cl_X10_59 (m_X10_in S T U V v4.toInt64 v3.toInt64 (99 : Int64)) (by decide) rfl (Nat.le_of_ble_eq_true rfl) (fun q7 _ => ?_)
        refine r_if_ne (tgt := 50) dX10_sock_45 (by decide) (fun h8 => ?_) (fun h8 => ?_)
        · refine r_iconst (v := (-1 : Int32)) dX10_sock_48 rfl ?_
          exact r_ireturn (ty := .int) dX10_sock_49 rfl (nar_i _) rfl
        · refine r_aload_n dX10_sock_50 0 rfl rfl ?_
          refine r_getr dX10_sock_51 fl_X10_7 (by decide) rfl rfl (by decide) ?_
          refine r_iconst (v := (0 : Int32)) dX10_sock_54 rfl ?_
          refine rm_iald dX10_sock_55 (by decide) (by decide) rfl (fun h9 => ?_)
          refine r_bipush (v := (12 : Int32)) dX10_sock_56 rfl ?_
          refine r_icmp_ne (tgt := 64) dX10_sock_58 (by decide) (fun h10 => ?_) (fun h10 => ?_)
          · refine r_bipush (v := (-3 : Int32)) dX10_sock_61 rfl ?_
            exact r_ireturn (ty := .int) dX10_sock_63 rfl (nar_i _) rfl
          · refine r_aload_n dX10_sock_64 0 rfl rfl ?_
            refine r_iload_n dX10_sock_65 1 rfl rfl ?_
            refine r_iload_n dX10_sock_66 2 rfl rfl ?_
            refine r_iload_n dX10_sock_67 3 rfl rfl ?_
            refine r_iload dX10_sock_68 4 rfl ?_
            refine r_bipush (v := (7 : Int32)) dX10_sock_70 rfl ?_
            refine rVm_vS (as := [.int v1, .int v2, .int v3, .int v4, .int (7 : Int32)]) (st := []) dX10_sock_72 cl_X10_79 (by decide) rfl rfl (m_X10_add S T U V v1 v2 v3 v4 (7 : Int32)) (by decide) rfl (Nat.le_of_ble_eq_true rfl) (fun q11 _ => ?_)
            refine r_aload_n dX10_sock_75 0 rfl rfl ?_
            refine r_getr dX10_sock_76 fl_X10_7 (by decide) rfl rfl (by decide) ?_
            refine r_iconst (v := (0 : Int32)) dX10_sock_79 rfl ?_
            refine rm_iald dX10_sock_80 (by decide) (by decide) rfl (fun h12 => ?_)
            refine r_iconst (v := (1 : Int32)) dX10_sock_81 rfl ?_
            refine r_isub dX10_sock_82 ?_
            exact r_ireturn (ty := .int) dX10_sock_83 rfl (nar_i _) rfl
def f_X10_type_19 (U : SI) (v1 : Int64) (ke55 : Option (Int32 × SI)) : Nat → Int32 → Option (Int32 × SI)
  | 0, _ => none
  | m_ + 1, v4 =>
    if v4 < 0 then
      ke55
    else
      (f_X10_in ((v1 >>> (((8 : Int32) * v4).toInt64 &&& 63)) &&& (255 : Int64)) (32 : Int64) (126 : Int64)).bind fun q5 =>
      if q5 = 0 then
        some ((-1 : Int32), U)
      else
        (f_X10_type_19 U v1 ke55 m_) (v4 + (-1 : Int32))
set_option maxHeartbeats 4000000 in
set_option maxRecDepth 100000 in
theorem t_X10_type_19 (S : SI) (T : SL) (U : SI) (V : SL) (v1 : Int64) (v3 : Int32) (ke55 : Option (Int32 × SI)) (hke55 : Run 2 yX10_type cX10_type 5 (some .int) none (fun a : Int32 × SI => (some (.int a.1), (S, T, a.2, V))) 55 [(0, .ref 78), (1, .long v1), (3, .int v3)] [] (S, T, U, V) (ke55)) : ∀ (m_ : Nat) (v4 : Int32), Run 2 yX10_type cX10_type 5 (some .int) none (fun a : Int32 × SI => (some (.int a.1), (S, T, a.2, V))) 19 [(0, .ref 78), (1, .long v1), (3, .int v3), (4, .int v4)] [] (S, T, U, V) (f_X10_type_19 U v1 ke55 m_ v4) := by
  intro m_
  induction m_ with
  | zero =>
    intro v4
    rw [f_X10_type_19]
    exact r_none
  | succ m_ ih =>
    intro v4
    rw [f_X10_type_19]
    refine r_iload dX10_type_19 3 rfl ?_
    refine r_if_lt (tgt := 55) dX10_type_21 (by decide) (fun h4 => ?_) (fun h4 => ?_)
    · exact r_pick [0, 1, 2] rfl (hke55)
    · refine r_lload_n dX10_type_24 1 rfl rfl ?_
      refine r_bipush (v := (8 : Int32)) dX10_type_25 rfl ?_
      refine r_iload dX10_type_27 3 rfl ?_
      refine r_imul dX10_type_29 ?_
      refine r_lshr dX10_type_30 ?_
      refine r_ldc2_w (v := (255 : Int64)) dX10_type_31 kw_X10_85 ?_
      refine r_land dX10_type_34 ?_
      refine r_ldc2_w (v := (32 : Int64)) dX10_type_35 kw_X10_87 ?_
      refine r_ldc2_w (v := (126 : Int64)) dX10_type_38 kw_X10_89 ?_
      refine rS_i (as := [.long ((v1 >>> (((8 : Int32) * v4).toInt64 &&& 63)) &&& (255 : Int64)), .long (32 : Int64), .long (126 : Int64)]) (st := []) dX10_type_41 cl_X10_59 (m_X10_in S T U V ((v1 >>> (((8 : Int32) * v4).toInt64 &&& 63)) &&& (255 : Int64)) (32 : Int64) (126 : Int64)) (by decide) rfl (Nat.le_of_ble_eq_true rfl) (fun q5 _ => ?_)
      refine r_if_ne (tgt := 49) dX10_type_44 (by decide) (fun h6 => ?_) (fun h6 => ?_)
      · refine r_iconst (v := (-1 : Int32)) dX10_type_47 rfl ?_
        exact r_ireturn (ty := .int) dX10_type_48 rfl (nar_i _) rfl
      · refine r_iinc (v := v4 + (-1 : Int32)) (L' := [(4, .int (v4 + (-1 : Int32))), (0, .ref 78), (1, .long v1), (3, .int v3)]) dX10_type_49 3 rfl rfl (by decide) rfl ?_
        refine r_goto (tgt := 19) dX10_type_52 (by decide) ?_
        exact r_pick [1, 2, 3, 0] rfl (ih (v4 + (-1 : Int32)))
def f_X10_type_74 (v1 : Int64) : Nat → Int32 → SI → Option (Int32 × SI)
  | 0, _, _ => none
  | m_ + 1, v4, U =>
    if v4 < 0 then
      some (U 78 2, U)
    else
      gd (inB (U 78 2) 80) <|
      nm (up2 U 80 (ix (U 78 2)) (((v1 >>> (((8 : Int32) * v4).toInt64 &&& 63)) &&& (255 : Int64)).toInt32)) fun U11 =>
      nm (up2 U11 78 2 ((U11 78 2) + (1 : Int32))) fun U12 =>
      (f_X10_type_74 v1 m_) (v4 + (-1 : Int32)) U12
set_option maxHeartbeats 4000000 in
set_option maxRecDepth 100000 in
theorem t_X10_type_74 (S : SI) (T : SL) (V : SL) (v1 : Int64) : ∀ (m_ : Nat) (v4 : Int32) (U : SI), Run 2 yX10_type cX10_type 5 (some .int) none (fun a : Int32 × SI => (some (.int a.1), (S, T, a.2, V))) 74 [(0, .ref 78), (1, .long v1), (4, .int v4)] [] (S, T, U, V) (f_X10_type_74 v1 m_ v4 U) := by
  intro m_
  induction m_ with
  | zero =>
    intro v4 U
    rw [f_X10_type_74]
    exact r_none
  | succ m_ ih =>
    intro v4 U
    rw [f_X10_type_74]
    refine r_iload dX10_type_74 2 rfl ?_
    refine r_if_lt (tgt := 116) dX10_type_76 (by decide) (fun h9 => ?_) (fun h9 => ?_)
    · refine r_aload_n dX10_type_116 0 rfl rfl ?_
      refine rm_geti dX10_type_117 fl_X10_91 (by decide) (by decide) rfl rfl ?_
      exact r_ireturn (ty := .int) dX10_type_120 rfl (nar_i _) rfl
    · refine r_aload_n dX10_type_79 0 rfl rfl ?_
      refine r_getr dX10_type_80 fl_X10_13 (by decide) rfl rfl (by decide) ?_
      refine r_aload_n dX10_type_83 0 rfl rfl ?_
      refine rm_geti dX10_type_84 fl_X10_91 (by decide) (by decide) rfl rfl ?_
      refine r_lload_n dX10_type_87 1 rfl rfl ?_
      refine r_bipush (v := (8 : Int32)) dX10_type_88 rfl ?_
      refine r_iload dX10_type_90 2 rfl ?_
      refine r_imul dX10_type_92 ?_
      refine r_lshr dX10_type_93 ?_
      refine r_ldc2_w (v := (255 : Int64)) dX10_type_94 kw_X10_85 ?_
      refine r_land dX10_type_97 ?_
      refine r_l2i dX10_type_98 ?_
      refine rm_iast dX10_type_99 (by decide) (by decide) rfl (fun h10 => ?_)
      refine r_nmU (fun U11 => ?_)
      refine r_aload_n dX10_type_100 0 rfl rfl ?_
      refine r_dup dX10_type_101 rfl ?_
      refine rm_geti dX10_type_102 fl_X10_91 (by decide) (by decide) rfl rfl ?_
      refine r_iconst (v := (1 : Int32)) dX10_type_105 rfl ?_
      refine r_iadd dX10_type_106 ?_
      refine rm_puti (ty := .int) dX10_type_107 fp_X10_91 (nar_i _) (fit_i _) (by decide) (by decide) rfl rfl ?_
      refine r_nmU (fun U12 => ?_)
      refine r_iinc (v := v4 + (-1 : Int32)) (L' := [(4, .int (v4 + (-1 : Int32))), (0, .ref 78), (1, .long v1)]) dX10_type_110 2 rfl rfl (by decide) rfl ?_
      refine r_goto (tgt := 74) dX10_type_113 (by decide) ?_
      exact r_pick [1, 2, 0] rfl (ih (v4 + (-1 : Int32)) U12)
def f_X10_type_55 (U : SI) (v1 : Int64) (v3 : Int32) : Option (Int32 × SI) :=
  if ((U 78 2) + v3) ≤ (80 : Int32) then
    nm (v3 - (1 : Int32)) fun x8 =>
    f_X10_type_74 v1 fu x8 U
  else
    some ((-3 : Int32), U)
set_option maxHeartbeats 4000000 in
set_option maxRecDepth 100000 in
theorem t_X10_type_55 (S : SI) (T : SL) (U : SI) (V : SL) (v1 : Int64) (v3 : Int32) : Run 2 yX10_type cX10_type 5 (some .int) none (fun a : Int32 × SI => (some (.int a.1), (S, T, a.2, V))) 55 [(0, .ref 78), (1, .long v1), (3, .int v3)] [] (S, T, U, V) (f_X10_type_55 U v1 v3) := by
  rw [f_X10_type_55]
  refine r_aload_n dX10_type_55 0 rfl rfl ?_
  refine rm_geti dX10_type_56 fl_X10_91 (by decide) (by decide) rfl rfl ?_
  refine r_iload_n dX10_type_59 2 rfl rfl ?_
  refine r_iadd dX10_type_60 ?_
  refine r_bipush (v := (80 : Int32)) dX10_type_61 rfl ?_
  refine r_icmp_le (tgt := 69) dX10_type_63 (by decide) (fun h7 => ?_) (fun h7 => ?_)
  · refine r_iload_n dX10_type_69 2 rfl rfl ?_
    refine r_iconst (v := (1 : Int32)) dX10_type_70 rfl ?_
    refine r_isub dX10_type_71 ?_
    refine r_nmi (fun x8 => ?_)
    refine r_istore (L' := [(4, .int x8), (0, .ref 78), (1, .long v1), (3, .int v3)]) dX10_type_72 (by decide) rfl ?_
    exact r_pick [1, 2, 0] rfl (t_X10_type_74 S T V v1 fu x8 U)
  · refine r_bipush (v := (-3 : Int32)) dX10_type_66 rfl ?_
    exact r_ireturn (ty := .int) dX10_type_68 rfl (nar_i _) rfl
def f_X10_type (U : SI) (v1 : Int64) (v3 : Int32) : Option (Int32 × SI) :=
  (f_X10_in v3.toInt64 (1 : Int64) (8 : Int64)).bind fun q1 =>
  if q1 = 0 then
    some ((-1 : Int32), U)
  else
    nm (v3 - (1 : Int32)) fun x3 =>
    f_X10_type_19 U v1 (f_X10_type_55 U v1 v3) fu x3
set_option maxHeartbeats 4000000 in
set_option maxRecDepth 100000 in
theorem m_X10_type (S : SI) (T : SL) (U : SI) (V : SL) (v1 : Int64) (v3 : Int32) : Meth 2 yX10_type cX10_type 5 (some .int) [.ref 78, .long v1, .int v3] (S, T, U, V) (f_X10_type U v1 v3) (fun a : Int32 × SI => (some (.int a.1), (S, T, a.2, V))) := by
  refine meth_of (L := [(0, .ref 78), (1, .long v1), (3, .int v3)]) (by decide +kernel) (Nat.le_of_ble_eq_true rfl) rfl ?_
  rw [f_X10_type]
  refine r_iload_n dX10_type_0 2 rfl rfl ?_
  refine r_i2l dX10_type_1 ?_
  refine r_lconst (v := (1 : Int64)) dX10_type_2 rfl ?_
  refine r_ldc2_w (v := (8 : Int64)) dX10_type_3 kw_X10_83 ?_
  refine rS_i (as := [.long v3.toInt64, .long (1 : Int64), .long (8 : Int64)]) (st := []) dX10_type_6 cl_X10_59 (m_X10_in S T U V v3.toInt64 (1 : Int64) (8 : Int64)) (by decide) rfl (Nat.le_of_ble_eq_true rfl) (fun q1 _ => ?_)
  refine r_if_ne (tgt := 14) dX10_type_9 (by decide) (fun h2 => ?_) (fun h2 => ?_)
  · refine r_iconst (v := (-1 : Int32)) dX10_type_12 rfl ?_
    exact r_ireturn (ty := .int) dX10_type_13 rfl (nar_i _) rfl
  · refine r_iload_n dX10_type_14 2 rfl rfl ?_
    refine r_iconst (v := (1 : Int32)) dX10_type_15 rfl ?_
    refine r_isub dX10_type_16 ?_
    refine r_nmi (fun x3 => ?_)
    refine r_istore (L' := [(4, .int x3), (0, .ref 78), (1, .long v1), (3, .int v3)]) dX10_type_17 (by decide) rfl ?_
    exact r_pick [1, 2, 3, 0] rfl (t_X10_type_19 S T U V v1 v3 (f_X10_type_55 U v1 v3) (r_pick [0, 1, 2] rfl (t_X10_type_55 S T U V v1 v3)) fu x3)
def f_X10_nextByte_0 (ke38 : SI → Option (Int32 × SI)) : Nat → SI → Option (Int32 × SI)
  | 0, _ => none
  | m_ + 1, U =>
    if (U 78 2) ≤ (U 78 3) then
      ke38 U
    else
      gd (inB (U 78 3) 80) <|
      if (U 80 (ix (U 78 3))) = (32 : Int32) then
        nm (up2 U 78 3 ((U 78 3) + (1 : Int32))) fun U4 =>
        (f_X10_nextByte_0 ke38 m_) U4
      else
        ke38 U
set_option maxHeartbeats 4000000 in
set_option maxRecDepth 100000 in
theorem t_X10_nextByte_0 (S : SI) (T : SL) (V : SL) (ke38 : SI → Option (Int32 × SI)) (hke38 : ∀ (U' : SI), Run 1 yX10_nextByte cX10_nextByte 1 (some .int) none (fun a : Int32 × SI => (some (.int a.1), (S, T, a.2, V))) 38 [(0, .ref 78)] [] (S, T, U', V) (ke38 U')) : ∀ (m_ : Nat) (U : SI), Run 1 yX10_nextByte cX10_nextByte 1 (some .int) none (fun a : Int32 × SI => (some (.int a.1), (S, T, a.2, V))) 0 [(0, .ref 78)] [] (S, T, U, V) (f_X10_nextByte_0 ke38 m_ U) := by
  intro m_
  induction m_ with
  | zero =>
    intro U
    rw [f_X10_nextByte_0]
    exact r_none
  | succ m_ ih =>
    intro U
    rw [f_X10_nextByte_0]
    refine r_aload_n dX10_nextByte_0 0 rfl rfl ?_
    refine rm_geti dX10_nextByte_1 fl_X10_95 (by decide) (by decide) rfl rfl ?_
    refine r_aload_n dX10_nextByte_4 0 rfl rfl ?_
    refine rm_geti dX10_nextByte_5 fl_X10_91 (by decide) (by decide) rfl rfl ?_
    refine r_icmp_ge (tgt := 38) dX10_nextByte_8 (by decide) (fun h1 => ?_) (fun h1 => ?_)
    · exact r_pick [0] rfl (hke38 U)
    · refine r_aload_n dX10_nextByte_11 0 rfl rfl ?_
      refine r_getr dX10_nextByte_12 fl_X10_13 (by decide) rfl rfl (by decide) ?_
      refine r_aload_n dX10_nextByte_15 0 rfl rfl ?_
      refine rm_geti dX10_nextByte_16 fl_X10_95 (by decide) (by decide) rfl rfl ?_
      refine rm_iald dX10_nextByte_19 (by decide) (by decide) rfl (fun h2 => ?_)
      refine r_bipush (v := (32 : Int32)) dX10_nextByte_20 rfl ?_
      refine r_icmp_ne (tgt := 38) dX10_nextByte_22 (by decide) (fun h3 => ?_) (fun h3 => ?_)
      · refine r_aload_n dX10_nextByte_25 0 rfl rfl ?_
        refine r_dup dX10_nextByte_26 rfl ?_
        refine rm_geti dX10_nextByte_27 fl_X10_95 (by decide) (by decide) rfl rfl ?_
        refine r_iconst (v := (1 : Int32)) dX10_nextByte_30 rfl ?_
        refine r_iadd dX10_nextByte_31 ?_
        refine rm_puti (ty := .int) dX10_nextByte_32 fp_X10_95 (nar_i _) (fit_i _) (by decide) (by decide) rfl rfl ?_
        refine r_nmU (fun U4 => ?_)
        refine r_goto (tgt := 0) dX10_nextByte_35 (by decide) ?_
        exact r_pick [0] rfl (ih U4)
      · exact r_pick [0] rfl (hke38 U)
def f_X10_nextByte_38 (U : SI) : Option (Int32 × SI) :=
  if (U 78 2) ≤ (U 78 3) then
    some ((-1 : Int32), U)
  else
    gd (inB (U 78 3) 80) <|
    some (U 80 (ix (U 78 3)), U)
set_option maxHeartbeats 4000000 in
set_option maxRecDepth 100000 in
theorem t_X10_nextByte_38 (S : SI) (T : SL) (U : SI) (V : SL) : Run 1 yX10_nextByte cX10_nextByte 1 (some .int) none (fun a : Int32 × SI => (some (.int a.1), (S, T, a.2, V))) 38 [(0, .ref 78)] [] (S, T, U, V) (f_X10_nextByte_38 U) := by
  rw [f_X10_nextByte_38]
  refine r_aload_n dX10_nextByte_38 0 rfl rfl ?_
  refine rm_geti dX10_nextByte_39 fl_X10_95 (by decide) (by decide) rfl rfl ?_
  refine r_aload_n dX10_nextByte_42 0 rfl rfl ?_
  refine rm_geti dX10_nextByte_43 fl_X10_91 (by decide) (by decide) rfl rfl ?_
  refine r_icmp_ge (tgt := 61) dX10_nextByte_46 (by decide) (fun h5 => ?_) (fun h5 => ?_)
  · refine r_iconst (v := (-1 : Int32)) dX10_nextByte_61 rfl ?_
    exact r_ireturn (ty := .int) dX10_nextByte_62 rfl (nar_i _) rfl
  · refine r_aload_n dX10_nextByte_49 0 rfl rfl ?_
    refine r_getr dX10_nextByte_50 fl_X10_13 (by decide) rfl rfl (by decide) ?_
    refine r_aload_n dX10_nextByte_53 0 rfl rfl ?_
    refine rm_geti dX10_nextByte_54 fl_X10_95 (by decide) (by decide) rfl rfl ?_
    refine rm_iald dX10_nextByte_57 (by decide) (by decide) rfl (fun h6 => ?_)
    refine r_goto (tgt := 62) dX10_nextByte_58 (by decide) ?_
    exact r_ireturn (ty := .int) dX10_nextByte_62 rfl (nar_i _) rfl
def f_X10_nextByte (U : SI) : Option (Int32 × SI) :=
  f_X10_nextByte_0 (fun Uo => f_X10_nextByte_38 Uo) fu U
set_option maxHeartbeats 4000000 in
set_option maxRecDepth 100000 in
theorem m_X10_nextByte (S : SI) (T : SL) (U : SI) (V : SL)  : Meth 1 yX10_nextByte cX10_nextByte 1 (some .int) [.ref 78] (S, T, U, V) (f_X10_nextByte U) (fun a : Int32 × SI => (some (.int a.1), (S, T, a.2, V))) := by
  refine meth_of (L := [(0, .ref 78)]) (by decide +kernel) (Nat.le_of_ble_eq_true rfl) rfl ?_
  rw [f_X10_nextByte]
  exact r_pick [0] rfl (t_X10_nextByte_0 S T V (fun Uo => f_X10_nextByte_38 Uo) (fun Uo => r_pick [0] rfl (t_X10_nextByte_38 S T Uo V)) fu U)
def f_X10_takes_28 (U : SI) (v2 : Int32) (s0 : Int32) (s1 : Int32) : Option (Int32 × SI) :=
  nm (up2 U 78 3 (s1 + s0)) fun U4 =>
  gd (b01 v2) <|
  some (v2, U4)
set_option maxHeartbeats 4000000 in
set_option maxRecDepth 100000 in
theorem t_X10_takes_28 (S : SI) (T : SL) (U : SI) (V : SL) (v2 : Int32) (s0 : Int32) (s1 : Int32) : Run 2 yX10_takes cX10_takes 3 (some .boolean) none (fun a : Int32 × SI => (some (.int a.1), (S, T, a.2, V))) 28 [(2, .int v2)] [.int s0, .int s1, .ref 78] (S, T, U, V) (f_X10_takes_28 U v2 s0 s1) := by
  rw [f_X10_takes_28]
  refine r_iadd dX10_takes_28 ?_
  refine rm_puti (ty := .int) dX10_takes_29 fp_X10_95 (nar_i _) (fit_i _) (by decide) (by decide) rfl rfl ?_
  refine r_nmU (fun U4 => ?_)
  refine r_iload_n dX10_takes_32 0 rfl rfl ?_
  refine r_gd (fun h5 => ?_)
  exact r_ireturn (ty := .boolean) dX10_takes_33 rfl (nar_z h5) rfl
def f_X10_takes_13 (U : SI) (s0 : Int32) : Option (Int32 × SI) :=
  if s0 = 0 then
    f_X10_takes_28 U s0 (0 : Int32) (U 78 3)
  else
    f_X10_takes_28 U s0 (1 : Int32) (U 78 3)
set_option maxHeartbeats 4000000 in
set_option maxRecDepth 100000 in
theorem t_X10_takes_13 (S : SI) (T : SL) (U : SI) (V : SL) (s0 : Int32) : Run 2 yX10_takes cX10_takes 3 (some .boolean) none (fun a : Int32 × SI => (some (.int a.1), (S, T, a.2, V))) 13 [(0, .ref 78)] [.int s0] (S, T, U, V) (f_X10_takes_13 U s0) := by
  rw [f_X10_takes_13]
  refine r_istore_n (L' := [(2, .int s0), (0, .ref 78)]) dX10_takes_13 rfl (by decide) rfl ?_
  refine r_aload_n dX10_takes_14 1 rfl rfl ?_
  refine r_dup dX10_takes_15 rfl ?_
  refine rm_geti dX10_takes_16 fl_X10_95 (by decide) (by decide) rfl rfl ?_
  refine r_iload_n dX10_takes_19 0 rfl rfl ?_
  refine r_if_eq (tgt := 27) dX10_takes_20 (by decide) (fun h3 => ?_) (fun h3 => ?_)
  · refine r_iconst (v := (0 : Int32)) dX10_takes_27 rfl ?_
    exact r_pick [0] rfl (t_X10_takes_28 S T U V s0 (0 : Int32) (U 78 3))
  · refine r_iconst (v := (1 : Int32)) dX10_takes_23 rfl ?_
    refine r_goto (tgt := 28) dX10_takes_24 (by decide) ?_
    exact r_pick [0] rfl (t_X10_takes_28 S T U V s0 (1 : Int32) (U 78 3))
def f_X10_takes (U : SI) (v1 : Int32) : Option (Int32 × SI) :=
  (f_X10_nextByte U).bind fun q1 =>
  if q1.1 = v1 then
    f_X10_takes_13 q1.2 (1 : Int32)
  else
    f_X10_takes_13 q1.2 (0 : Int32)
set_option maxHeartbeats 4000000 in
set_option maxRecDepth 100000 in
theorem m_X10_takes (S : SI) (T : SL) (U : SI) (V : SL) (v1 : Int32) : Meth 2 yX10_takes cX10_takes 3 (some .boolean) [.ref 78, .int v1] (S, T, U, V) (f_X10_takes U v1) (fun a : Int32 × SI => (some (.int a.1), (S, T, a.2, V))) := by
  refine meth_of (L := [(0, .ref 78), (1, .int v1)]) (by decide +kernel) (Nat.le_of_ble_eq_true rfl) rfl ?_
  rw [f_X10_takes]
  refine r_aload_n dX10_takes_0 0 rfl rfl ?_
  refine rVm_iS (as := []) (st := []) dX10_takes_1 cl_X10_98 (by decide) rfl rfl (m_X10_nextByte S T U V) (by decide) rfl (Nat.le_of_ble_eq_true rfl) (fun q1 _ => ?_)
  refine r_iload_n dX10_takes_4 1 rfl rfl ?_
  refine r_icmp_ne (tgt := 12) dX10_takes_5 (by decide) (fun h2 => ?_) (fun h2 => ?_)
  · refine r_iconst (v := (1 : Int32)) dX10_takes_8 rfl ?_
    refine r_goto (tgt := 13) dX10_takes_9 (by decide) ?_
    exact r_pick [0] rfl (t_X10_takes_13 S T q1.2 V (1 : Int32))
  · refine r_iconst (v := (0 : Int32)) dX10_takes_12 rfl ?_
    exact r_pick [0] rfl (t_X10_takes_13 S T q1.2 V (0 : Int32))
def f_X10_readNumber_77 (U : SI) (s0 : Int32) (kh13 : Int32 → SI → Option (Int32 × SI)) : Option (Int32 × SI) :=
  nm (up2 U 78 3 ((U 78 3) + (1 : Int32))) fun U9 =>
  kh13 s0 U9
set_option maxHeartbeats 4000000 in
set_option maxRecDepth 100000 in
theorem t_X10_readNumber_77 (S : SI) (T : SL) (U : SI) (V : SL) (v1 : Int32) (v2 : Int32) (v3 : Int32) (s0 : Int32) (kh13 : Int32 → SI → Option (Int32 × SI)) (hkh13 : ∀ (w4 : Int32) (U' : SI), Run 2 yX10_readNumber cX10_readNumber 5 (some .int) none (fun a : Int32 × SI => (some (.int a.1), (S, T, a.2, V))) 13 [(0, .ref 78), (1, .int v1), (2, .int v2), (3, .int v3), (4, .int w4)] [] (S, T, U', V) (kh13 w4 U')) : Run 2 yX10_readNumber cX10_readNumber 5 (some .int) none (fun a : Int32 × SI => (some (.int a.1), (S, T, a.2, V))) 77 [(0, .ref 78), (1, .int v1), (2, .int v2), (3, .int v3)] [.int s0] (S, T, U, V) (f_X10_readNumber_77 U s0 kh13) := by
  rw [f_X10_readNumber_77]
  refine r_istore (L' := [(4, .int s0), (0, .ref 78), (1, .int v1), (2, .int v2), (3, .int v3)]) dX10_readNumber_77 (by decide) rfl ?_
  refine r_aload_n dX10_readNumber_79 1 rfl rfl ?_
  refine r_dup dX10_readNumber_80 rfl ?_
  refine rm_geti dX10_readNumber_81 fl_X10_95 (by decide) (by decide) rfl rfl ?_
  refine r_iconst (v := (1 : Int32)) dX10_readNumber_84 rfl ?_
  refine r_iadd dX10_readNumber_85 ?_
  refine rm_puti (ty := .int) dX10_readNumber_86 fp_X10_95 (nar_i _) (fit_i _) (by decide) (by decide) rfl rfl ?_
  refine r_nmU (fun U9 => ?_)
  refine r_goto (tgt := 13) dX10_readNumber_89 (by decide) ?_
  exact r_pick [1, 2, 3, 4, 0] rfl (hkh13 s0 U9)
def f_X10_readNumber_13 (ke92 : Int32 → SI → Option (Int32 × SI)) : Nat → Int32 → SI → Option (Int32 × SI)
  | 0, _, _ => none
  | m_ + 1, v4, U =>
    if (U 78 2) ≤ (U 78 3) then
      ke92 v4 U
    else
      gd (inB (U 78 3) 80) <|
      (f_X10_in ((U 80 (ix (U 78 3))).toInt64) (48 : Int64) (57 : Int64)).bind fun q5 =>
      if q5 = 0 then
        ke92 v4 U
      else
        if v4 ≤ (999 : Int32) then
          gd (inB (U 78 3) 80) <|
          f_X10_readNumber_77 U ((((10 : Int32) * v4) + (U 80 (ix (U 78 3)))) - (48 : Int32)) (f_X10_readNumber_13 ke92 m_)
        else
          f_X10_readNumber_77 U v4 (f_X10_readNumber_13 ke92 m_)
set_option maxHeartbeats 4000000 in
set_option maxRecDepth 100000 in
theorem t_X10_readNumber_13 (S : SI) (T : SL) (V : SL) (v1 : Int32) (v2 : Int32) (v3 : Int32) (ke92 : Int32 → SI → Option (Int32 × SI)) (hke92 : ∀ (w4 : Int32) (U' : SI), Run 2 yX10_readNumber cX10_readNumber 5 (some .int) none (fun a : Int32 × SI => (some (.int a.1), (S, T, a.2, V))) 92 [(0, .ref 78), (1, .int v1), (2, .int v2), (3, .int v3), (4, .int w4)] [] (S, T, U', V) (ke92 w4 U')) : ∀ (m_ : Nat) (v4 : Int32) (U : SI), Run 2 yX10_readNumber cX10_readNumber 5 (some .int) none (fun a : Int32 × SI => (some (.int a.1), (S, T, a.2, V))) 13 [(0, .ref 78), (1, .int v1), (2, .int v2), (3, .int v3), (4, .int v4)] [] (S, T, U, V) (f_X10_readNumber_13 ke92 m_ v4 U) := by
  intro m_
  induction m_ with
  | zero =>
    intro v4 U
    rw [f_X10_readNumber_13]
    exact r_none
  | succ m_ ih =>
    intro v4 U
    rw [f_X10_readNumber_13]
    refine r_aload_n dX10_readNumber_13 0 rfl rfl ?_
    refine rm_geti dX10_readNumber_14 fl_X10_95 (by decide) (by decide) rfl rfl ?_
    refine r_aload_n dX10_readNumber_17 0 rfl rfl ?_
    refine rm_geti dX10_readNumber_18 fl_X10_91 (by decide) (by decide) rfl rfl ?_
    refine r_icmp_ge (tgt := 92) dX10_readNumber_21 (by decide) (fun h3 => ?_) (fun h3 => ?_)
    · exact r_pick [0, 1, 2, 3, 4] rfl (hke92 v4 U)
    · refine r_aload_n dX10_readNumber_24 0 rfl rfl ?_
      refine r_getr dX10_readNumber_25 fl_X10_13 (by decide) rfl rfl (by decide) ?_
      refine r_aload_n dX10_readNumber_28 0 rfl rfl ?_
      refine rm_geti dX10_readNumber_29 fl_X10_95 (by decide) (by decide) rfl rfl ?_
      refine rm_iald dX10_readNumber_32 (by decide) (by decide) rfl (fun h4 => ?_)
      refine r_i2l dX10_readNumber_33 ?_
      refine r_ldc2_w (v := (48 : Int64)) dX10_readNumber_34 kw_X10_102 ?_
      refine r_ldc2_w (v := (57 : Int64)) dX10_readNumber_37 kw_X10_104 ?_
      refine rS_i (as := [.long ((U 80 (ix (U 78 3))).toInt64), .long (48 : Int64), .long (57 : Int64)]) (st := []) dX10_readNumber_40 cl_X10_59 (m_X10_in S T U V ((U 80 (ix (U 78 3))).toInt64) (48 : Int64) (57 : Int64)) (by decide) rfl (Nat.le_of_ble_eq_true rfl) (fun q5 _ => ?_)
      refine r_if_eq (tgt := 92) dX10_readNumber_43 (by decide) (fun h6 => ?_) (fun h6 => ?_)
      · exact r_pick [0, 1, 2, 3, 4] rfl (hke92 v4 U)
      · refine r_iload dX10_readNumber_46 4 rfl ?_
        refine r_sipush (v := (999 : Int32)) dX10_readNumber_48 rfl ?_
        refine r_icmp_le (tgt := 59) dX10_readNumber_51 (by decide) (fun h7 => ?_) (fun h7 => ?_)
        · refine r_bipush (v := (10 : Int32)) dX10_readNumber_59 rfl ?_
          refine r_iload dX10_readNumber_61 4 rfl ?_
          refine r_imul dX10_readNumber_63 ?_
          refine r_aload_n dX10_readNumber_64 0 rfl rfl ?_
          refine r_getr dX10_readNumber_65 fl_X10_13 (by decide) rfl rfl (by decide) ?_
          refine r_aload_n dX10_readNumber_68 0 rfl rfl ?_
          refine rm_geti dX10_readNumber_69 fl_X10_95 (by decide) (by decide) rfl rfl ?_
          refine rm_iald dX10_readNumber_72 (by decide) (by decide) rfl (fun h8 => ?_)
          refine r_iadd dX10_readNumber_73 ?_
          refine r_bipush (v := (48 : Int32)) dX10_readNumber_74 rfl ?_
          refine r_isub dX10_readNumber_76 ?_
          exact r_pick [0, 1, 2, 3] rfl (t_X10_readNumber_77 S T U V v1 v2 v3 ((((10 : Int32) * v4) + (U 80 (ix (U 78 3)))) - (48 : Int32)) (f_X10_readNumber_13 ke92 m_) ih)
        · refine r_iload dX10_readNumber_54 4 rfl ?_
          refine r_goto (tgt := 77) dX10_readNumber_56 (by decide) ?_
          exact r_pick [0, 1, 2, 3] rfl (t_X10_readNumber_77 S T U V v1 v2 v3 v4 (f_X10_readNumber_13 ke92 m_) ih)
def f_X10_readNumber_92 (U : SI) (v1 : Int32) (v2 : Int32) (v3 : Int32) (v4 : Int32) : Option (Int32 × SI) :=
  if (U 78 3) = v3 then
    some ((-1 : Int32), U)
  else
    (f_X10_in v4.toInt64 v1.toInt64 v2.toInt64).bind fun q11 =>
    if q11 = 0 then
      nm (up2 U 78 3 v3) fun U13 =>
      some ((-1 : Int32), U13)
    else
      some (v4, U)
set_option maxHeartbeats 4000000 in
set_option maxRecDepth 100000 in
theorem t_X10_readNumber_92 (S : SI) (T : SL) (U : SI) (V : SL) (v1 : Int32) (v2 : Int32) (v3 : Int32) (v4 : Int32) : Run 2 yX10_readNumber cX10_readNumber 5 (some .int) none (fun a : Int32 × SI => (some (.int a.1), (S, T, a.2, V))) 92 [(0, .ref 78), (1, .int v1), (2, .int v2), (3, .int v3), (4, .int v4)] [] (S, T, U, V) (f_X10_readNumber_92 U v1 v2 v3 v4) := by
  rw [f_X10_readNumber_92]
  refine r_aload_n dX10_readNumber_92 0 rfl rfl ?_
  refine rm_geti dX10_readNumber_93 fl_X10_95 (by decide) (by decide) rfl rfl ?_
  refine r_iload_n dX10_readNumber_96 3 rfl rfl ?_
  refine r_icmp_ne (tgt := 102) dX10_readNumber_97 (by decide) (fun h10 => ?_) (fun h10 => ?_)
  · refine r_iconst (v := (-1 : Int32)) dX10_readNumber_100 rfl ?_
    exact r_ireturn (ty := .int) dX10_readNumber_101 rfl (nar_i _) rfl
  · refine r_iload dX10_readNumber_102 4 rfl ?_
    refine r_i2l dX10_readNumber_104 ?_
    refine r_iload_n dX10_readNumber_105 1 rfl rfl ?_
    refine r_i2l dX10_readNumber_106 ?_
    refine r_iload_n dX10_readNumber_107 2 rfl rfl ?_
    refine r_i2l dX10_readNumber_108 ?_
    refine rS_i (as := [.long v4.toInt64, .long v1.toInt64, .long v2.toInt64]) (st := []) dX10_readNumber_109 cl_X10_59 (m_X10_in S T U V v4.toInt64 v1.toInt64 v2.toInt64) (by decide) rfl (Nat.le_of_ble_eq_true rfl) (fun q11 _ => ?_)
    refine r_if_ne (tgt := 122) dX10_readNumber_112 (by decide) (fun h12 => ?_) (fun h12 => ?_)
    · refine r_aload_n dX10_readNumber_115 0 rfl rfl ?_
      refine r_iload_n dX10_readNumber_116 3 rfl rfl ?_
      refine rm_puti (ty := .int) dX10_readNumber_117 fp_X10_95 (nar_i _) (fit_i _) (by decide) (by decide) rfl rfl ?_
      refine r_nmU (fun U13 => ?_)
      refine r_iconst (v := (-1 : Int32)) dX10_readNumber_120 rfl ?_
      exact r_ireturn (ty := .int) dX10_readNumber_121 rfl (nar_i _) rfl
    · refine r_iload dX10_readNumber_122 4 rfl ?_
      exact r_ireturn (ty := .int) dX10_readNumber_124 rfl (nar_i _) rfl
def f_X10_readNumber (U : SI) (v1 : Int32) (v2 : Int32) : Option (Int32 × SI) :=
  (f_X10_nextByte U).bind fun q1 =>
  nm (q1.2 78 3) fun x2 =>
  f_X10_readNumber_13 (fun o4 Uo => f_X10_readNumber_92 Uo v1 v2 x2 o4) fu (0 : Int32) q1.2
set_option maxHeartbeats 4000000 in
set_option maxRecDepth 100000 in
theorem m_X10_readNumber (S : SI) (T : SL) (U : SI) (V : SL) (v1 : Int32) (v2 : Int32) : Meth 2 yX10_readNumber cX10_readNumber 5 (some .int) [.ref 78, .int v1, .int v2] (S, T, U, V) (f_X10_readNumber U v1 v2) (fun a : Int32 × SI => (some (.int a.1), (S, T, a.2, V))) := by
  refine meth_of (L := [(0, .ref 78), (1, .int v1), (2, .int v2)]) (by decide +kernel) (Nat.le_of_ble_eq_true rfl) rfl ?_
  rw [f_X10_readNumber]
  refine r_aload_n dX10_readNumber_0 0 rfl rfl ?_
  refine rVm_iS (as := []) (st := []) dX10_readNumber_1 cl_X10_98 (by decide) rfl rfl (m_X10_nextByte S T U V) (by decide) rfl (Nat.le_of_ble_eq_true rfl) (fun q1 _ => ?_)
  refine r_pop dX10_readNumber_4 rfl ?_
  refine r_aload_n dX10_readNumber_5 0 rfl rfl ?_
  refine rm_geti dX10_readNumber_6 fl_X10_95 (by decide) (by decide) rfl rfl ?_
  refine r_nmi (fun x2 => ?_)
  refine r_istore_n (L' := [(3, .int x2), (0, .ref 78), (1, .int v1), (2, .int v2)]) dX10_readNumber_9 rfl (by decide) rfl ?_
  refine r_iconst (v := (0 : Int32)) dX10_readNumber_10 rfl ?_
  refine r_istore (L' := [(4, .int (0 : Int32)), (3, .int x2), (0, .ref 78), (1, .int v1), (2, .int v2)]) dX10_readNumber_11 (by decide) rfl ?_
  exact r_pick [2, 3, 4, 1, 0] rfl (t_X10_readNumber_13 S T V v1 v2 x2 (fun o4 Uo => f_X10_readNumber_92 Uo v1 v2 x2 o4) (fun o4 Uo => r_pick [0, 1, 2, 3, 4] rfl (t_X10_readNumber_92 S T Uo V v1 v2 x2 o4)) fu (0 : Int32) q1.2)
def f_X10_readLodgers_79 (U : SI) (v1 : Int32) (v4 : Int32) (s0 : Int32) (s1 : Int32) (kh4 : Int32 → Int32 → SI → Option (Int32 × SI)) : Option (Int32 × SI) :=
  nm (up2 U 78 3 (s1 + s0)) fun U11 =>
  kh4 v1 v4 U11
set_option maxHeartbeats 4000000 in
set_option maxRecDepth 100000 in
theorem t_X10_readLodgers_79 (S : SI) (T : SL) (U : SI) (V : SL) (v1 : Int32) (v4 : Int32) (s0 : Int32) (s1 : Int32) (kh4 : Int32 → Int32 → SI → Option (Int32 × SI)) (hkh4 : ∀ (w1 : Int32) (w2 : Int32) (U' : SI), Run 2 yX10_readLodgers cX10_readLodgers 5 (some .int) none (fun a : Int32 × SI => (some (.int a.1), (S, T, a.2, V))) 4 [(0, .ref 78), (1, .int w1), (2, .int w2)] [] (S, T, U', V) (kh4 w1 w2 U')) : Run 2 yX10_readLodgers cX10_readLodgers 5 (some .int) none (fun a : Int32 × SI => (some (.int a.1), (S, T, a.2, V))) 79 [(0, .ref 78), (1, .int v1), (4, .int v4)] [.int s0, .int s1, .ref 78] (S, T, U, V) (f_X10_readLodgers_79 U v1 v4 s0 s1 kh4) := by
  rw [f_X10_readLodgers_79]
  refine r_iadd dX10_readLodgers_79 ?_
  refine rm_puti (ty := .int) dX10_readLodgers_80 fp_X10_95 (nar_i _) (fit_i _) (by decide) (by decide) rfl rfl ?_
  refine r_nmU (fun U11 => ?_)
  refine r_iload dX10_readLodgers_83 2 rfl ?_
  refine r_istore_n (L' := [(2, .int v4), (0, .ref 78), (1, .int v1), (4, .int v4)]) dX10_readLodgers_85 rfl (by decide) rfl ?_
  refine r_goto (tgt := 4) dX10_readLodgers_86 (by decide) ?_
  exact r_pick [1, 2, 0] rfl (hkh4 v1 v4 U11)
def f_X10_readLodgers_62 (U : SI) (v4 : Int32) (s0 : Int32) (s1 : Int32) (kh4 : Int32 → Int32 → SI → Option (Int32 × SI)) : Option (Int32 × SI) :=
  nm (s1 ||| s0) fun x9 =>
  if v4 = 0 then
    f_X10_readLodgers_79 U x9 v4 (0 : Int32) (U 78 3) kh4
  else
    f_X10_readLodgers_79 U x9 v4 (1 : Int32) (U 78 3) kh4
set_option maxHeartbeats 4000000 in
set_option maxRecDepth 100000 in
theorem t_X10_readLodgers_62 (S : SI) (T : SL) (U : SI) (V : SL) (v4 : Int32) (s0 : Int32) (s1 : Int32) (kh4 : Int32 → Int32 → SI → Option (Int32 × SI)) (hkh4 : ∀ (w1 : Int32) (w2 : Int32) (U' : SI), Run 2 yX10_readLodgers cX10_readLodgers 5 (some .int) none (fun a : Int32 × SI => (some (.int a.1), (S, T, a.2, V))) 4 [(0, .ref 78), (1, .int w1), (2, .int w2)] [] (S, T, U', V) (kh4 w1 w2 U')) : Run 2 yX10_readLodgers cX10_readLodgers 5 (some .int) none (fun a : Int32 × SI => (some (.int a.1), (S, T, a.2, V))) 62 [(0, .ref 78), (4, .int v4)] [.int s0, .int s1] (S, T, U, V) (f_X10_readLodgers_62 U v4 s0 s1 kh4) := by
  rw [f_X10_readLodgers_62]
  refine r_ior dX10_readLodgers_62 ?_
  refine r_nmi (fun x9 => ?_)
  refine r_istore_n (L' := [(1, .int x9), (0, .ref 78), (4, .int v4)]) dX10_readLodgers_63 rfl (by decide) rfl ?_
  refine r_aload_n dX10_readLodgers_64 1 rfl rfl ?_
  refine r_dup dX10_readLodgers_65 rfl ?_
  refine rm_geti dX10_readLodgers_66 fl_X10_95 (by decide) (by decide) rfl rfl ?_
  refine r_iload dX10_readLodgers_69 2 rfl ?_
  refine r_if_eq (tgt := 78) dX10_readLodgers_71 (by decide) (fun h10 => ?_) (fun h10 => ?_)
  · refine r_iconst (v := (0 : Int32)) dX10_readLodgers_78 rfl ?_
    exact r_pick [1, 0, 2] rfl (t_X10_readLodgers_79 S T U V x9 v4 (0 : Int32) (U 78 3) kh4 hkh4)
  · refine r_iconst (v := (1 : Int32)) dX10_readLodgers_74 rfl ?_
    refine r_goto (tgt := 79) dX10_readLodgers_75 (by decide) ?_
    exact r_pick [1, 0, 2] rfl (t_X10_readLodgers_79 S T U V x9 v4 (1 : Int32) (U 78 3) kh4 hkh4)
def f_X10_readLodgers_49 (U : SI) (v1 : Int32) (v3 : Int32) (v4 : Int32) (kh4 : Int32 → Int32 → SI → Option (Int32 × SI)) : Option (Int32 × SI) :=
  if v4 = 0 then
    f_X10_readLodgers_62 U v4 (0 : Int32) v1 kh4
  else
    f_X10_readLodgers_62 U v4 ((1 : Int32) <<< (v3 &&& 31)) v1 kh4
set_option maxHeartbeats 4000000 in
set_option maxRecDepth 100000 in
theorem t_X10_readLodgers_49 (S : SI) (T : SL) (U : SI) (V : SL) (v1 : Int32) (v3 : Int32) (v4 : Int32) (kh4 : Int32 → Int32 → SI → Option (Int32 × SI)) (hkh4 : ∀ (w1 : Int32) (w2 : Int32) (U' : SI), Run 2 yX10_readLodgers cX10_readLodgers 5 (some .int) none (fun a : Int32 × SI => (some (.int a.1), (S, T, a.2, V))) 4 [(0, .ref 78), (1, .int w1), (2, .int w2)] [] (S, T, U', V) (kh4 w1 w2 U')) : Run 2 yX10_readLodgers cX10_readLodgers 5 (some .int) none (fun a : Int32 × SI => (some (.int a.1), (S, T, a.2, V))) 49 [(0, .ref 78), (1, .int v1), (3, .int v3), (4, .int v4)] [] (S, T, U, V) (f_X10_readLodgers_49 U v1 v3 v4 kh4) := by
  rw [f_X10_readLodgers_49]
  refine r_iload_n dX10_readLodgers_49 1 rfl rfl ?_
  refine r_iload dX10_readLodgers_50 3 rfl ?_
  refine r_if_eq (tgt := 61) dX10_readLodgers_52 (by decide) (fun h8 => ?_) (fun h8 => ?_)
  · refine r_iconst (v := (0 : Int32)) dX10_readLodgers_61 rfl ?_
    exact r_pick [0, 3] rfl (t_X10_readLodgers_62 S T U V v4 (0 : Int32) v1 kh4 hkh4)
  · refine r_iconst (v := (1 : Int32)) dX10_readLodgers_55 rfl ?_
    refine r_iload_n dX10_readLodgers_56 2 rfl rfl ?_
    refine r_ishl dX10_readLodgers_57 ?_
    refine r_goto (tgt := 62) dX10_readLodgers_58 (by decide) ?_
    exact r_pick [0, 3] rfl (t_X10_readLodgers_62 S T U V v4 ((1 : Int32) <<< (v3 &&& 31)) v1 kh4 hkh4)
def f_X10_readLodgers_38 (U : SI) (v1 : Int32) (v3 : Int32) (v4 : Int32) (kh4 : Int32 → Int32 → SI → Option (Int32 × SI)) : Option (Int32 × SI) :=
  if v4 = 0 then
    if v1 = 0 then
      some ((0 : Int32), U)
    else
      f_X10_readLodgers_49 U v1 v3 v4 kh4
  else
    f_X10_readLodgers_49 U v1 v3 v4 kh4
set_option maxHeartbeats 4000000 in
set_option maxRecDepth 100000 in
theorem t_X10_readLodgers_38 (S : SI) (T : SL) (U : SI) (V : SL) (v1 : Int32) (v3 : Int32) (v4 : Int32) (kh4 : Int32 → Int32 → SI → Option (Int32 × SI)) (hkh4 : ∀ (w1 : Int32) (w2 : Int32) (U' : SI), Run 2 yX10_readLodgers cX10_readLodgers 5 (some .int) none (fun a : Int32 × SI => (some (.int a.1), (S, T, a.2, V))) 4 [(0, .ref 78), (1, .int w1), (2, .int w2)] [] (S, T, U', V) (kh4 w1 w2 U')) : Run 2 yX10_readLodgers cX10_readLodgers 5 (some .int) none (fun a : Int32 × SI => (some (.int a.1), (S, T, a.2, V))) 38 [(0, .ref 78), (1, .int v1), (3, .int v3), (4, .int v4)] [] (S, T, U, V) (f_X10_readLodgers_38 U v1 v3 v4 kh4) := by
  rw [f_X10_readLodgers_38]
  refine r_iload dX10_readLodgers_38 3 rfl ?_
  refine r_if_ne (tgt := 49) dX10_readLodgers_40 (by decide) (fun h6 => ?_) (fun h6 => ?_)
  · refine r_iload_n dX10_readLodgers_43 1 rfl rfl ?_
    refine r_if_ne (tgt := 49) dX10_readLodgers_44 (by decide) (fun h7 => ?_) (fun h7 => ?_)
    · refine r_iconst (v := (0 : Int32)) dX10_readLodgers_47 rfl ?_
      exact r_ireturn (ty := .int) dX10_readLodgers_48 rfl (nar_i _) rfl
    · exact r_pick [0, 1, 2, 3] rfl (t_X10_readLodgers_49 S T U V v1 v3 v4 kh4 hkh4)
  · exact r_pick [0, 1, 2, 3] rfl (t_X10_readLodgers_49 S T U V v1 v3 v4 kh4 hkh4)
def f_X10_readLodgers_4  : Nat → Int32 → Int32 → SI → Option (Int32 × SI)
  | 0, _, _, _ => none
  | m_ + 1, v1, v2, U =>
    if v2 = 0 then
      some (v1, U)
    else
      (f_X10_nextByte U).bind fun q2 =>
      nm (q2.1 - (120 : Int32)) fun x3 =>
      (f_X10_in x3.toInt64 (0 : Int64) (2 : Int64)).bind fun q4 =>
      if q4 = 0 then
        f_X10_readLodgers_38 q2.2 v1 x3 q4 (f_X10_readLodgers_4 m_)
      else
        if (v1 >>> (x3 &&& 31)) = 0 then
          f_X10_readLodgers_38 q2.2 v1 x3 q4 (f_X10_readLodgers_4 m_)
        else
          some ((0 : Int32), q2.2)
set_option maxHeartbeats 4000000 in
set_option maxRecDepth 100000 in
theorem t_X10_readLodgers_4 (S : SI) (T : SL) (V : SL) : ∀ (m_ : Nat) (v1 : Int32) (v2 : Int32) (U : SI), Run 2 yX10_readLodgers cX10_readLodgers 5 (some .int) none (fun a : Int32 × SI => (some (.int a.1), (S, T, a.2, V))) 4 [(0, .ref 78), (1, .int v1), (2, .int v2)] [] (S, T, U, V) (f_X10_readLodgers_4 m_ v1 v2 U) := by
  intro m_
  induction m_ with
  | zero =>
    intro v1 v2 U
    rw [f_X10_readLodgers_4]
    exact r_none
  | succ m_ ih =>
    intro v1 v2 U
    rw [f_X10_readLodgers_4]
    refine r_iload_n dX10_readLodgers_4 2 rfl rfl ?_
    refine r_if_eq (tgt := 89) dX10_readLodgers_5 (by decide) (fun h1 => ?_) (fun h1 => ?_)
    · refine r_iload_n dX10_readLodgers_89 1 rfl rfl ?_
      exact r_ireturn (ty := .int) dX10_readLodgers_90 rfl (nar_i _) rfl
    · refine r_aload_n dX10_readLodgers_8 0 rfl rfl ?_
      refine rVm_iS (as := []) (st := []) dX10_readLodgers_9 cl_X10_98 (by decide) rfl rfl (m_X10_nextByte S T U V) (by decide) rfl (Nat.le_of_ble_eq_true rfl) (fun q2 _ => ?_)
      refine r_bipush (v := (120 : Int32)) dX10_readLodgers_12 rfl ?_
      refine r_isub dX10_readLodgers_14 ?_
      refine r_nmi (fun x3 => ?_)
      refine r_istore_n (L' := [(3, .int x3), (0, .ref 78), (1, .int v1), (2, .int v2)]) dX10_readLodgers_15 rfl (by decide) rfl ?_
      refine r_iload_n dX10_readLodgers_16 0 rfl rfl ?_
      refine r_i2l dX10_readLodgers_17 ?_
      refine r_lconst (v := (0 : Int64)) dX10_readLodgers_18 rfl ?_
      refine r_ldc2_w (v := (2 : Int64)) dX10_readLodgers_19 kw_X10_106 ?_
      refine rS_i (as := [.long x3.toInt64, .long (0 : Int64), .long (2 : Int64)]) (st := []) dX10_readLodgers_22 cl_X10_59 (m_X10_in S T q2.2 V x3.toInt64 (0 : Int64) (2 : Int64)) (by decide) rfl (Nat.le_of_ble_eq_true rfl) (fun q4 _ => ?_)
      refine r_istore (L' := [(4, .int q4), (3, .int x3), (0, .ref 78), (1, .int v1), (2, .int v2)]) dX10_readLodgers_25 (by decide) rfl ?_
      refine r_iload dX10_readLodgers_27 0 rfl ?_
      refine r_if_eq (tgt := 38) dX10_readLodgers_29 (by decide) (fun h5 => ?_) (fun h5 => ?_)
      · exact r_pick [2, 3, 1, 0] rfl (t_X10_readLodgers_38 S T q2.2 V v1 x3 q4 (f_X10_readLodgers_4 m_) ih)
      · refine r_iload_n dX10_readLodgers_32 3 rfl rfl ?_
        refine r_iload_n dX10_readLodgers_33 1 rfl rfl ?_
        refine r_ishr dX10_readLodgers_34 ?_
        refine r_if_ne (tgt := 47) dX10_readLodgers_35 (by decide) (fun h12 => ?_) (fun h12 => ?_)
        · exact r_pick [2, 3, 1, 0] rfl (t_X10_readLodgers_38 S T q2.2 V v1 x3 q4 (f_X10_readLodgers_4 m_) ih)
        · refine r_iconst (v := (0 : Int32)) dX10_readLodgers_47 rfl ?_
          exact r_ireturn (ty := .int) dX10_readLodgers_48 rfl (nar_i _) rfl
def f_X10_readLodgers (U : SI) : Option (Int32 × SI) :=
  f_X10_readLodgers_4 fu (0 : Int32) (1 : Int32) U
set_option maxHeartbeats 4000000 in
set_option maxRecDepth 100000 in
theorem m_X10_readLodgers (S : SI) (T : SL) (U : SI) (V : SL)  : Meth 2 yX10_readLodgers cX10_readLodgers 5 (some .int) [.ref 78] (S, T, U, V) (f_X10_readLodgers U) (fun a : Int32 × SI => (some (.int a.1), (S, T, a.2, V))) := by
  refine meth_of (L := [(0, .ref 78)]) (by decide +kernel) (Nat.le_of_ble_eq_true rfl) rfl ?_
  rw [f_X10_readLodgers]
  refine r_iconst (v := (0 : Int32)) dX10_readLodgers_0 rfl ?_
  refine r_istore_n (L' := [(1, .int (0 : Int32)), (0, .ref 78)]) dX10_readLodgers_1 rfl (by decide) rfl ?_
  refine r_iconst (v := (1 : Int32)) dX10_readLodgers_2 rfl ?_
  refine r_istore_n (L' := [(2, .int (1 : Int32)), (1, .int (0 : Int32)), (0, .ref 78)]) dX10_readLodgers_3 rfl (by decide) rfl ?_
  exact r_pick [2, 1, 0] rfl (t_X10_readLodgers_4 S T V fu (0 : Int32) (1 : Int32) U)
def f_X10_readSock_209 (U : SI) (v1 : Int32) : Option (Int32 × SI) :=
  gd (inB (v1 + (4 : Int32)) 40) <|
  if (U 81 (ix (v1 + (4 : Int32)))) ≤ 0 then
    some ((0 : Int32), U)
  else
    some ((1 : Int32), U)
set_option maxHeartbeats 4000000 in
set_option maxRecDepth 100000 in
theorem t_X10_readSock_209 (S : SI) (T : SL) (U : SI) (V : SL) (v1 : Int32) : Run 3 yX10_readSock cX10_readSock 3 (some .boolean) none (fun a : Int32 × SI => (some (.int a.1), (S, T, a.2, V))) 209 [(0, .ref 78), (1, .int v1)] [] (S, T, U, V) (f_X10_readSock_209 U v1) := by
  rw [f_X10_readSock_209]
  refine r_aload_n dX10_readSock_209 0 rfl rfl ?_
  refine r_getr dX10_readSock_210 fl_X10_16 (by decide) rfl rfl (by decide) ?_
  refine r_iload_n dX10_readSock_213 1 rfl rfl ?_
  refine r_iconst (v := (4 : Int32)) dX10_readSock_214 rfl ?_
  refine r_iadd dX10_readSock_215 ?_
  refine rm_iald dX10_readSock_216 (by decide) (by decide) rfl (fun h28 => ?_)
  refine r_if_le (tgt := 224) dX10_readSock_217 (by decide) (fun h29 => ?_) (fun h29 => ?_)
  · refine r_iconst (v := (0 : Int32)) dX10_readSock_224 rfl ?_
    exact r_ireturn (ty := .boolean) dX10_readSock_225 rfl rfl rfl
  · refine r_iconst (v := (1 : Int32)) dX10_readSock_220 rfl ?_
    refine r_goto (tgt := 225) dX10_readSock_221 (by decide) ?_
    exact r_ireturn (ty := .boolean) dX10_readSock_225 rfl rfl rfl
def f_X10_readSock_178 (U : SI) (v1 : Int32) : Option (Int32 × SI) :=
  gd (inB (v1 + (4 : Int32)) 40) <|
  nm (up2 U 81 (ix (v1 + (4 : Int32))) (7 : Int32)) fun U25 =>
  (f_X10_takes U25 (58 : Int32)).bind fun q26 =>
  if q26.1 = 0 then
    f_X10_readSock_209 q26.2 v1
  else
    (f_X10_readLodgers q26.2).bind fun q30 =>
    gd (inB (v1 + (4 : Int32)) 40) <|
    nm (up2 q30.2 81 (ix (v1 + (4 : Int32))) q30.1) fun U32 =>
    f_X10_readSock_209 U32 v1
set_option maxHeartbeats 4000000 in
set_option maxRecDepth 100000 in
theorem t_X10_readSock_178 (S : SI) (T : SL) (U : SI) (V : SL) (v1 : Int32) : Run 3 yX10_readSock cX10_readSock 3 (some .boolean) none (fun a : Int32 × SI => (some (.int a.1), (S, T, a.2, V))) 178 [(0, .ref 78), (1, .int v1)] [] (S, T, U, V) (f_X10_readSock_178 U v1) := by
  rw [f_X10_readSock_178]
  refine r_aload_n dX10_readSock_178 0 rfl rfl ?_
  refine r_getr dX10_readSock_179 fl_X10_16 (by decide) rfl rfl (by decide) ?_
  refine r_iload_n dX10_readSock_182 1 rfl rfl ?_
  refine r_iconst (v := (4 : Int32)) dX10_readSock_183 rfl ?_
  refine r_iadd dX10_readSock_184 ?_
  refine r_bipush (v := (7 : Int32)) dX10_readSock_185 rfl ?_
  refine rm_iast dX10_readSock_187 (by decide) (by decide) rfl (fun h24 => ?_)
  refine r_nmU (fun U25 => ?_)
  refine r_aload_n dX10_readSock_188 0 rfl rfl ?_
  refine r_bipush (v := (58 : Int32)) dX10_readSock_189 rfl ?_
  refine rVm_iS (as := [.int (58 : Int32)]) (st := []) dX10_readSock_191 cl_X10_111 (by decide) rfl rfl (m_X10_takes S T U25 V (58 : Int32)) (by decide) rfl (Nat.le_of_ble_eq_true rfl) (fun q26 _ => ?_)
  refine r_if_eq (tgt := 209) dX10_readSock_194 (by decide) (fun h27 => ?_) (fun h27 => ?_)
  · exact r_pick [0, 1] rfl (t_X10_readSock_209 S T q26.2 V v1)
  · refine r_aload_n dX10_readSock_197 0 rfl rfl ?_
    refine r_getr dX10_readSock_198 fl_X10_16 (by decide) rfl rfl (by decide) ?_
    refine r_iload_n dX10_readSock_201 1 rfl rfl ?_
    refine r_iconst (v := (4 : Int32)) dX10_readSock_202 rfl ?_
    refine r_iadd dX10_readSock_203 ?_
    refine r_aload_n dX10_readSock_204 0 rfl rfl ?_
    refine rVm_iS (as := []) (st := [.int (v1 + (4 : Int32)), .ref 81]) dX10_readSock_205 cl_X10_114 (by decide) rfl rfl (m_X10_readLodgers S T q26.2 V) (by decide) rfl (Nat.le_of_ble_eq_true rfl) (fun q30 _ => ?_)
    refine rm_iast dX10_readSock_208 (by decide) (by decide) rfl (fun h31 => ?_)
    refine r_nmU (fun U32 => ?_)
    exact r_pick [0, 1] rfl (t_X10_readSock_209 S T U32 V v1)
def f_X10_readSock_89 (U : SI) (v1 : Int32) (s0 : Int32) (s1 : Int32) : Option (Int32 × SI) :=
  gd (inB s1 40) <|
  nm (up2 U 81 (ix s1) s0) fun U13 =>
  (f_X10_readNumber U13 (0 : Int32) (99 : Int32)).bind fun q14 =>
  gd (inB (v1 + (2 : Int32)) 40) <|
  nm (up2 q14.2 81 (ix (v1 + (2 : Int32))) q14.1) fun U16 =>
  gd (inB (v1 + (2 : Int32)) 40) <|
  if 0 ≤ (U16 81 (ix (v1 + (2 : Int32)))) then
    gd (inB (v1 + (2 : Int32)) 40) <|
    gd (inB (v1 + (3 : Int32)) 40) <|
    nm (up2 U16 81 (ix (v1 + (3 : Int32))) (U16 81 (ix (v1 + (2 : Int32))))) fun U21 =>
    (f_X10_takes U21 (45 : Int32)).bind fun q22 =>
    if q22.1 = 0 then
      f_X10_readSock_178 q22.2 v1
    else
      gd (inB (v1 + (2 : Int32)) 40) <|
      (f_X10_readNumber q22.2 (q22.2 81 (ix (v1 + (2 : Int32)))) (99 : Int32)).bind fun q34 =>
      gd (inB (v1 + (3 : Int32)) 40) <|
      nm (up2 q34.2 81 (ix (v1 + (3 : Int32))) q34.1) fun U36 =>
      gd (inB (v1 + (3 : Int32)) 40) <|
      if 0 ≤ (U36 81 (ix (v1 + (3 : Int32)))) then
        f_X10_readSock_178 U36 v1
      else
        some ((0 : Int32), U36)
  else
    some ((0 : Int32), U16)
set_option maxHeartbeats 4000000 in
set_option maxRecDepth 100000 in
theorem t_X10_readSock_89 (S : SI) (T : SL) (U : SI) (V : SL) (v1 : Int32) (s0 : Int32) (s1 : Int32) : Run 3 yX10_readSock cX10_readSock 3 (some .boolean) none (fun a : Int32 × SI => (some (.int a.1), (S, T, a.2, V))) 89 [(0, .ref 78), (1, .int v1)] [.int s0, .int s1, .ref 81] (S, T, U, V) (f_X10_readSock_89 U v1 s0 s1) := by
  rw [f_X10_readSock_89]
  refine rm_iast dX10_readSock_89 (by decide) (by decide) rfl (fun h12 => ?_)
  refine r_nmU (fun U13 => ?_)
  refine r_aload_n dX10_readSock_90 0 rfl rfl ?_
  refine r_getr dX10_readSock_91 fl_X10_16 (by decide) rfl rfl (by decide) ?_
  refine r_iload_n dX10_readSock_94 1 rfl rfl ?_
  refine r_iconst (v := (2 : Int32)) dX10_readSock_95 rfl ?_
  refine r_iadd dX10_readSock_96 ?_
  refine r_aload_n dX10_readSock_97 0 rfl rfl ?_
  refine r_iconst (v := (0 : Int32)) dX10_readSock_98 rfl ?_
  refine r_bipush (v := (99 : Int32)) dX10_readSock_99 rfl ?_
  refine rVm_iS (as := [.int (0 : Int32), .int (99 : Int32)]) (st := [.int (v1 + (2 : Int32)), .ref 81]) dX10_readSock_101 cl_X10_108 (by decide) rfl rfl (m_X10_readNumber S T U13 V (0 : Int32) (99 : Int32)) (by decide) rfl (Nat.le_of_ble_eq_true rfl) (fun q14 _ => ?_)
  refine rm_iast dX10_readSock_104 (by decide) (by decide) rfl (fun h15 => ?_)
  refine r_nmU (fun U16 => ?_)
  refine r_aload_n dX10_readSock_105 0 rfl rfl ?_
  refine r_getr dX10_readSock_106 fl_X10_16 (by decide) rfl rfl (by decide) ?_
  refine r_iload_n dX10_readSock_109 1 rfl rfl ?_
  refine r_iconst (v := (2 : Int32)) dX10_readSock_110 rfl ?_
  refine r_iadd dX10_readSock_111 ?_
  refine rm_iald dX10_readSock_112 (by decide) (by decide) rfl (fun h17 => ?_)
  refine r_if_ge (tgt := 118) dX10_readSock_113 (by decide) (fun h18 => ?_) (fun h18 => ?_)
  · refine r_aload_n dX10_readSock_118 0 rfl rfl ?_
    refine r_getr dX10_readSock_119 fl_X10_16 (by decide) rfl rfl (by decide) ?_
    refine r_iload_n dX10_readSock_122 1 rfl rfl ?_
    refine r_iconst (v := (3 : Int32)) dX10_readSock_123 rfl ?_
    refine r_iadd dX10_readSock_124 ?_
    refine r_aload_n dX10_readSock_125 0 rfl rfl ?_
    refine r_getr dX10_readSock_126 fl_X10_16 (by decide) rfl rfl (by decide) ?_
    refine r_iload_n dX10_readSock_129 1 rfl rfl ?_
    refine r_iconst (v := (2 : Int32)) dX10_readSock_130 rfl ?_
    refine r_iadd dX10_readSock_131 ?_
    refine rm_iald dX10_readSock_132 (by decide) (by decide) rfl (fun h19 => ?_)
    refine rm_iast dX10_readSock_133 (by decide) (by decide) rfl (fun h20 => ?_)
    refine r_nmU (fun U21 => ?_)
    refine r_aload_n dX10_readSock_134 0 rfl rfl ?_
    refine r_bipush (v := (45 : Int32)) dX10_readSock_135 rfl ?_
    refine rVm_iS (as := [.int (45 : Int32)]) (st := []) dX10_readSock_137 cl_X10_111 (by decide) rfl rfl (m_X10_takes S T U21 V (45 : Int32)) (by decide) rfl (Nat.le_of_ble_eq_true rfl) (fun q22 _ => ?_)
    refine r_if_eq (tgt := 178) dX10_readSock_140 (by decide) (fun h23 => ?_) (fun h23 => ?_)
    · exact r_pick [0, 1] rfl (t_X10_readSock_178 S T q22.2 V v1)
    · refine r_aload_n dX10_readSock_143 0 rfl rfl ?_
      refine r_getr dX10_readSock_144 fl_X10_16 (by decide) rfl rfl (by decide) ?_
      refine r_iload_n dX10_readSock_147 1 rfl rfl ?_
      refine r_iconst (v := (3 : Int32)) dX10_readSock_148 rfl ?_
      refine r_iadd dX10_readSock_149 ?_
      refine r_aload_n dX10_readSock_150 0 rfl rfl ?_
      refine r_aload_n dX10_readSock_151 0 rfl rfl ?_
      refine r_getr dX10_readSock_152 fl_X10_16 (by decide) rfl rfl (by decide) ?_
      refine r_iload_n dX10_readSock_155 1 rfl rfl ?_
      refine r_iconst (v := (2 : Int32)) dX10_readSock_156 rfl ?_
      refine r_iadd dX10_readSock_157 ?_
      refine rm_iald dX10_readSock_158 (by decide) (by decide) rfl (fun h33 => ?_)
      refine r_bipush (v := (99 : Int32)) dX10_readSock_159 rfl ?_
      refine rVm_iS (as := [.int (q22.2 81 (ix (v1 + (2 : Int32)))), .int (99 : Int32)]) (st := [.int (v1 + (3 : Int32)), .ref 81]) dX10_readSock_161 cl_X10_108 (by decide) rfl rfl (m_X10_readNumber S T q22.2 V (q22.2 81 (ix (v1 + (2 : Int32)))) (99 : Int32)) (by decide) rfl (Nat.le_of_ble_eq_true rfl) (fun q34 _ => ?_)
      refine rm_iast dX10_readSock_164 (by decide) (by decide) rfl (fun h35 => ?_)
      refine r_nmU (fun U36 => ?_)
      refine r_aload_n dX10_readSock_165 0 rfl rfl ?_
      refine r_getr dX10_readSock_166 fl_X10_16 (by decide) rfl rfl (by decide) ?_
      refine r_iload_n dX10_readSock_169 1 rfl rfl ?_
      refine r_iconst (v := (3 : Int32)) dX10_readSock_170 rfl ?_
      refine r_iadd dX10_readSock_171 ?_
      refine rm_iald dX10_readSock_172 (by decide) (by decide) rfl (fun h37 => ?_)
      refine r_if_ge (tgt := 178) dX10_readSock_173 (by decide) (fun h38 => ?_) (fun h38 => ?_)
      · exact r_pick [0, 1] rfl (t_X10_readSock_178 S T U36 V v1)
      · refine r_iconst (v := (0 : Int32)) dX10_readSock_176 rfl ?_
        exact r_ireturn (ty := .boolean) dX10_readSock_177 rfl rfl rfl
  · refine r_iconst (v := (0 : Int32)) dX10_readSock_116 rfl ?_
    exact r_ireturn (ty := .boolean) dX10_readSock_117 rfl rfl rfl
def f_X10_readSock_61 (U : SI) (v1 : Int32) (v2 : Int32) : Option (Int32 × SI) :=
  nm (up2 U 78 3 ((U 78 3) + (1 : Int32))) fun U10 =>
  if v2 = (108 : Int32) then
    f_X10_readSock_89 U10 v1 (0 : Int32) (v1 + (1 : Int32))
  else
    f_X10_readSock_89 U10 v1 (1 : Int32) (v1 + (1 : Int32))
set_option maxHeartbeats 4000000 in
set_option maxRecDepth 100000 in
theorem t_X10_readSock_61 (S : SI) (T : SL) (U : SI) (V : SL) (v1 : Int32) (v2 : Int32) : Run 3 yX10_readSock cX10_readSock 3 (some .boolean) none (fun a : Int32 × SI => (some (.int a.1), (S, T, a.2, V))) 61 [(0, .ref 78), (1, .int v1), (2, .int v2)] [] (S, T, U, V) (f_X10_readSock_61 U v1 v2) := by
  rw [f_X10_readSock_61]
  refine r_aload_n dX10_readSock_61 0 rfl rfl ?_
  refine r_dup dX10_readSock_62 rfl ?_
  refine rm_geti dX10_readSock_63 fl_X10_95 (by decide) (by decide) rfl rfl ?_
  refine r_iconst (v := (1 : Int32)) dX10_readSock_66 rfl ?_
  refine r_iadd dX10_readSock_67 ?_
  refine rm_puti (ty := .int) dX10_readSock_68 fp_X10_95 (nar_i _) (fit_i _) (by decide) (by decide) rfl rfl ?_
  refine r_nmU (fun U10 => ?_)
  refine r_aload_n dX10_readSock_71 0 rfl rfl ?_
  refine r_getr dX10_readSock_72 fl_X10_16 (by decide) rfl rfl (by decide) ?_
  refine r_iload_n dX10_readSock_75 1 rfl rfl ?_
  refine r_iconst (v := (1 : Int32)) dX10_readSock_76 rfl ?_
  refine r_iadd dX10_readSock_77 ?_
  refine r_iload_n dX10_readSock_78 2 rfl rfl ?_
  refine r_bipush (v := (108 : Int32)) dX10_readSock_79 rfl ?_
  refine r_icmp_ne (tgt := 88) dX10_readSock_81 (by decide) (fun h11 => ?_) (fun h11 => ?_)
  · refine r_iconst (v := (0 : Int32)) dX10_readSock_84 rfl ?_
    refine r_goto (tgt := 89) dX10_readSock_85 (by decide) ?_
    exact r_pick [0, 1] rfl (t_X10_readSock_89 S T U10 V v1 (0 : Int32) (v1 + (1 : Int32)))
  · refine r_iconst (v := (1 : Int32)) dX10_readSock_88 rfl ?_
    exact r_pick [0, 1] rfl (t_X10_readSock_89 S T U10 V v1 (1 : Int32) (v1 + (1 : Int32)))
def f_X10_readSock (U : SI) (v1 : Int32) : Option (Int32 × SI) :=
  (f_X10_nextByte U).bind fun q1 =>
  gd (inB v1 40) <|
  nm (up2 q1.2 81 (ix v1) (q1.1 - (97 : Int32))) fun U3 =>
  gd (inB v1 40) <|
  (f_X10_in ((U3 81 (ix v1)).toInt64) (0 : Int64) (5 : Int64)).bind fun q5 =>
  if q5 = 0 then
    some ((0 : Int32), U3)
  else
    nm (up2 U3 78 3 ((U3 78 3) + (1 : Int32))) fun U7 =>
    (f_X10_nextByte U7).bind fun q8 =>
    if q8.1 = (108 : Int32) then
      f_X10_readSock_61 q8.2 v1 q8.1
    else
      if q8.1 = (114 : Int32) then
        f_X10_readSock_61 q8.2 v1 q8.1
      else
        some ((0 : Int32), q8.2)
set_option maxHeartbeats 4000000 in
set_option maxRecDepth 100000 in
theorem m_X10_readSock (S : SI) (T : SL) (U : SI) (V : SL) (v1 : Int32) : Meth 3 yX10_readSock cX10_readSock 3 (some .boolean) [.ref 78, .int v1] (S, T, U, V) (f_X10_readSock U v1) (fun a : Int32 × SI => (some (.int a.1), (S, T, a.2, V))) := by
  refine meth_of (L := [(0, .ref 78), (1, .int v1)]) (by decide +kernel) (Nat.le_of_ble_eq_true rfl) rfl ?_
  rw [f_X10_readSock]
  refine r_aload_n dX10_readSock_0 0 rfl rfl ?_
  refine r_getr dX10_readSock_1 fl_X10_16 (by decide) rfl rfl (by decide) ?_
  refine r_iload_n dX10_readSock_4 1 rfl rfl ?_
  refine r_aload_n dX10_readSock_5 0 rfl rfl ?_
  refine rVm_iS (as := []) (st := [.int v1, .ref 81]) dX10_readSock_6 cl_X10_98 (by decide) rfl rfl (m_X10_nextByte S T U V) (by decide) rfl (Nat.le_of_ble_eq_true rfl) (fun q1 _ => ?_)
  refine r_bipush (v := (97 : Int32)) dX10_readSock_9 rfl ?_
  refine r_isub dX10_readSock_11 ?_
  refine rm_iast dX10_readSock_12 (by decide) (by decide) rfl (fun h2 => ?_)
  refine r_nmU (fun U3 => ?_)
  refine r_aload_n dX10_readSock_13 0 rfl rfl ?_
  refine r_getr dX10_readSock_14 fl_X10_16 (by decide) rfl rfl (by decide) ?_
  refine r_iload_n dX10_readSock_17 1 rfl rfl ?_
  refine rm_iald dX10_readSock_18 (by decide) (by decide) rfl (fun h4 => ?_)
  refine r_i2l dX10_readSock_19 ?_
  refine r_lconst (v := (0 : Int64)) dX10_readSock_20 rfl ?_
  refine r_ldc2_w (v := (5 : Int64)) dX10_readSock_21 kw_X10_75 ?_
  refine rS_i (as := [.long ((U3 81 (ix v1)).toInt64), .long (0 : Int64), .long (5 : Int64)]) (st := []) dX10_readSock_24 cl_X10_59 (m_X10_in S T U3 V ((U3 81 (ix v1)).toInt64) (0 : Int64) (5 : Int64)) (by decide) rfl (Nat.le_of_ble_eq_true rfl) (fun q5 _ => ?_)
  refine r_if_ne (tgt := 32) dX10_readSock_27 (by decide) (fun h6 => ?_) (fun h6 => ?_)
  · refine r_iconst (v := (0 : Int32)) dX10_readSock_30 rfl ?_
    exact r_ireturn (ty := .boolean) dX10_readSock_31 rfl rfl rfl
  · refine r_aload_n dX10_readSock_32 0 rfl rfl ?_
    refine r_dup dX10_readSock_33 rfl ?_
    refine rm_geti dX10_readSock_34 fl_X10_95 (by decide) (by decide) rfl rfl ?_
    refine r_iconst (v := (1 : Int32)) dX10_readSock_37 rfl ?_
    refine r_iadd dX10_readSock_38 ?_
    refine rm_puti (ty := .int) dX10_readSock_39 fp_X10_95 (nar_i _) (fit_i _) (by decide) (by decide) rfl rfl ?_
    refine r_nmU (fun U7 => ?_)
    refine r_aload_n dX10_readSock_42 0 rfl rfl ?_
    refine rVm_iS (as := []) (st := []) dX10_readSock_43 cl_X10_98 (by decide) rfl rfl (m_X10_nextByte S T U7 V) (by decide) rfl (Nat.le_of_ble_eq_true rfl) (fun q8 _ => ?_)
    refine r_istore_n (L' := [(2, .int q8.1), (0, .ref 78), (1, .int v1)]) dX10_readSock_46 rfl (by decide) rfl ?_
    refine r_iload_n dX10_readSock_47 0 rfl rfl ?_
    refine r_bipush (v := (108 : Int32)) dX10_readSock_48 rfl ?_
    refine r_icmp_eq (tgt := 61) dX10_readSock_50 (by decide) (fun h9 => ?_) (fun h9 => ?_)
    · exact r_pick [1, 2, 0] rfl (t_X10_readSock_61 S T q8.2 V v1 q8.1)
    · refine r_iload_n dX10_readSock_53 0 rfl rfl ?_
      refine r_bipush (v := (114 : Int32)) dX10_readSock_54 rfl ?_
      refine r_icmp_eq (tgt := 61) dX10_readSock_56 (by decide) (fun h39 => ?_) (fun h39 => ?_)
      · exact r_pick [1, 2, 0] rfl (t_X10_readSock_61 S T q8.2 V v1 q8.1)
      · refine r_iconst (v := (0 : Int32)) dX10_readSock_59 rfl ?_
        exact r_ireturn (ty := .boolean) dX10_readSock_60 rfl rfl rfl
def f_X10_readSocks_7  : Nat → Int32 → SI → Option (Int32 × SI)
  | 0, _, _ => none
  | m_ + 1, v1, U =>
    if (8 : Int32) ≤ v1 then
      some ((0 : Int32), U)
    else
      (f_X10_readSock U ((5 : Int32) * v1)).bind fun q3 =>
      if q3.1 = 0 then
        some ((0 : Int32), q3.2)
      else
        nm (up2 q3.2 78 4 (v1 + (1 : Int32))) fun U5 =>
        (f_X10_nextByte U5).bind fun q6 =>
        if 0 ≤ q6.1 then
          if q6.1 = (44 : Int32) then
            if v1 = (7 : Int32) then
              some ((0 : Int32), q6.2)
            else
              nm (up2 q6.2 78 3 ((q6.2 78 3) + (1 : Int32))) fun U10 =>
              (f_X10_readSocks_7 m_) (v1 + (1 : Int32)) U10
          else
            some ((0 : Int32), q6.2)
        else
          some ((1 : Int32), q6.2)
set_option maxHeartbeats 4000000 in
set_option maxRecDepth 100000 in
theorem t_X10_readSocks_7 (S : SI) (T : SL) (V : SL) : ∀ (m_ : Nat) (v1 : Int32) (U : SI), Run 4 yX10_readSocks cX10_readSocks 3 (some .boolean) none (fun a : Int32 × SI => (some (.int a.1), (S, T, a.2, V))) 7 [(0, .ref 78), (1, .int v1)] [] (S, T, U, V) (f_X10_readSocks_7 m_ v1 U) := by
  intro m_
  induction m_ with
  | zero =>
    intro v1 U
    rw [f_X10_readSocks_7]
    exact r_none
  | succ m_ ih =>
    intro v1 U
    rw [f_X10_readSocks_7]
    refine r_iload_n dX10_readSocks_7 1 rfl rfl ?_
    refine r_bipush (v := (8 : Int32)) dX10_readSocks_8 rfl ?_
    refine r_icmp_ge (tgt := 73) dX10_readSocks_10 (by decide) (fun h2 => ?_) (fun h2 => ?_)
    · refine r_iconst (v := (0 : Int32)) dX10_readSocks_73 rfl ?_
      exact r_ireturn (ty := .boolean) dX10_readSocks_74 rfl rfl rfl
    · refine r_aload_n dX10_readSocks_13 0 rfl rfl ?_
      refine r_iconst (v := (5 : Int32)) dX10_readSocks_14 rfl ?_
      refine r_iload_n dX10_readSocks_15 1 rfl rfl ?_
      refine r_imul dX10_readSocks_16 ?_
      refine rVm_iS (as := [.int ((5 : Int32) * v1)]) (st := []) dX10_readSocks_17 cl_X10_117 (by decide) rfl rfl (m_X10_readSock S T U V ((5 : Int32) * v1)) (by decide) rfl (Nat.le_of_ble_eq_true rfl) (fun q3 _ => ?_)
      refine r_if_ne (tgt := 25) dX10_readSocks_20 (by decide) (fun h4 => ?_) (fun h4 => ?_)
      · refine r_iconst (v := (0 : Int32)) dX10_readSocks_23 rfl ?_
        exact r_ireturn (ty := .boolean) dX10_readSocks_24 rfl rfl rfl
      · refine r_aload_n dX10_readSocks_25 0 rfl rfl ?_
        refine r_iload_n dX10_readSocks_26 1 rfl rfl ?_
        refine r_iconst (v := (1 : Int32)) dX10_readSocks_27 rfl ?_
        refine r_iadd dX10_readSocks_28 ?_
        refine rm_puti (ty := .int) dX10_readSocks_29 fp_X10_120 (nar_i _) (fit_i _) (by decide) (by decide) rfl rfl ?_
        refine r_nmU (fun U5 => ?_)
        refine r_aload_n dX10_readSocks_32 0 rfl rfl ?_
        refine rVm_iS (as := []) (st := []) dX10_readSocks_33 cl_X10_98 (by decide) rfl rfl (m_X10_nextByte S T U5 V) (by decide) rfl (Nat.le_of_ble_eq_true rfl) (fun q6 _ => ?_)
        refine r_istore_n (L' := [(2, .int q6.1), (0, .ref 78), (1, .int v1)]) dX10_readSocks_36 rfl (by decide) rfl ?_
        refine r_iload_n dX10_readSocks_37 0 rfl rfl ?_
        refine r_if_ge (tgt := 43) dX10_readSocks_38 (by decide) (fun h7 => ?_) (fun h7 => ?_)
        · refine r_iload_n dX10_readSocks_43 0 rfl rfl ?_
          refine r_bipush (v := (44 : Int32)) dX10_readSocks_44 rfl ?_
          refine r_icmp_ne (tgt := 55) dX10_readSocks_46 (by decide) (fun h8 => ?_) (fun h8 => ?_)
          · refine r_iload_n dX10_readSocks_49 2 rfl rfl ?_
            refine r_bipush (v := (7 : Int32)) dX10_readSocks_50 rfl ?_
            refine r_icmp_ne (tgt := 57) dX10_readSocks_52 (by decide) (fun h9 => ?_) (fun h9 => ?_)
            · refine r_iconst (v := (0 : Int32)) dX10_readSocks_55 rfl ?_
              exact r_ireturn (ty := .boolean) dX10_readSocks_56 rfl rfl rfl
            · refine r_aload_n dX10_readSocks_57 1 rfl rfl ?_
              refine r_dup dX10_readSocks_58 rfl ?_
              refine rm_geti dX10_readSocks_59 fl_X10_95 (by decide) (by decide) rfl rfl ?_
              refine r_iconst (v := (1 : Int32)) dX10_readSocks_62 rfl ?_
              refine r_iadd dX10_readSocks_63 ?_
              refine rm_puti (ty := .int) dX10_readSocks_64 fp_X10_95 (nar_i _) (fit_i _) (by decide) (by decide) rfl rfl ?_
              refine r_nmU (fun U10 => ?_)
              refine r_iinc (v := v1 + (1 : Int32)) (L' := [(1, .int (v1 + (1 : Int32))), (2, .int q6.1), (0, .ref 78)]) dX10_readSocks_67 2 rfl rfl (by decide) rfl ?_
              refine r_goto (tgt := 7) dX10_readSocks_70 (by decide) ?_
              exact r_pick [2, 0] rfl (ih (v1 + (1 : Int32)) U10)
          · refine r_iconst (v := (0 : Int32)) dX10_readSocks_55 rfl ?_
            exact r_ireturn (ty := .boolean) dX10_readSocks_56 rfl rfl rfl
        · refine r_iconst (v := (1 : Int32)) dX10_readSocks_41 rfl ?_
          exact r_ireturn (ty := .boolean) dX10_readSocks_42 rfl rfl rfl
def f_X10_readSocks (U : SI) : Option (Int32 × SI) :=
  nm (up2 U 78 3 (0 : Int32)) fun U1 =>
  f_X10_readSocks_7 fu (0 : Int32) U1
set_option maxHeartbeats 4000000 in
set_option maxRecDepth 100000 in
theorem m_X10_readSocks (S : SI) (T : SL) (U : SI) (V : SL)  : Meth 4 yX10_readSocks cX10_readSocks 3 (some .boolean) [.ref 78] (S, T, U, V) (f_X10_readSocks U) (fun a : Int32 × SI => (some (.int a.1), (S, T, a.2, V))) := by
  refine meth_of (L := [(0, .ref 78)]) (by decide +kernel) (Nat.le_of_ble_eq_true rfl) rfl ?_
  rw [f_X10_readSocks]
  refine r_aload_n dX10_readSocks_0 0 rfl rfl ?_
  refine r_iconst (v := (0 : Int32)) dX10_readSocks_1 rfl ?_
  refine rm_puti (ty := .int) dX10_readSocks_2 fp_X10_95 (nar_i _) (fit_i _) (by decide) (by decide) rfl rfl ?_
  refine r_nmU (fun U1 => ?_)
  refine r_iconst (v := (0 : Int32)) dX10_readSocks_5 rfl ?_
  refine r_istore_n (L' := [(1, .int (0 : Int32)), (0, .ref 78)]) dX10_readSocks_6 rfl (by decide) rfl ?_
  exact r_pick [1, 0] rfl (t_X10_readSocks_7 S T V fu (0 : Int32) U1)
def f_X10_socks_43  : Nat → Int32 → SI → Option (Int32 × SI)
  | 0, _, _ => none
  | m_ + 1, v2, U =>
    if (U 78 4) ≤ v2 then
      some (U 78 4, U)
    else
      gd (inB ((5 : Int32) * v2) 40) <|
      gd (inB (((5 : Int32) * v2) + (1 : Int32)) 40) <|
      gd (inB (((5 : Int32) * v2) + (2 : Int32)) 40) <|
      gd (inB (((5 : Int32) * v2) + (3 : Int32)) 40) <|
      gd (inB (((5 : Int32) * v2) + (4 : Int32)) 40) <|
      (f_X10_add U (U 81 (ix ((5 : Int32) * v2))) (U 81 (ix (((5 : Int32) * v2) + (1 : Int32)))) (U 81 (ix (((5 : Int32) * v2) + (2 : Int32)))) (U 81 (ix (((5 : Int32) * v2) + (3 : Int32)))) (U 81 (ix (((5 : Int32) * v2) + (4 : Int32))))).bind fun q12 =>
      (f_X10_socks_43 m_) (v2 + (1 : Int32)) q12
set_option maxHeartbeats 4000000 in
set_option maxRecDepth 100000 in
theorem t_X10_socks_43 (S : SI) (T : SL) (V : SL) : ∀ (m_ : Nat) (v2 : Int32) (U : SI), Run 5 yX10_socks cX10_socks 3 (some .int) none (fun a : Int32 × SI => (some (.int a.1), (S, T, a.2, V))) 43 [(0, .ref 78), (2, .int v2)] [] (S, T, U, V) (f_X10_socks_43 m_ v2 U) := by
  intro m_
  induction m_ with
  | zero =>
    intro v2 U
    rw [f_X10_socks_43]
    exact r_none
  | succ m_ ih =>
    intro v2 U
    rw [f_X10_socks_43]
    refine r_iload_n dX10_socks_43 1 rfl rfl ?_
    refine r_aload_n dX10_socks_44 0 rfl rfl ?_
    refine rm_geti dX10_socks_45 fl_X10_120 (by decide) (by decide) rfl rfl ?_
    refine r_icmp_ge (tgt := 109) dX10_socks_48 (by decide) (fun h6 => ?_) (fun h6 => ?_)
    · refine r_aload_n dX10_socks_109 0 rfl rfl ?_
      refine rm_geti dX10_socks_110 fl_X10_120 (by decide) (by decide) rfl rfl ?_
      exact r_ireturn (ty := .int) dX10_socks_113 rfl (nar_i _) rfl
    · refine r_aload_n dX10_socks_51 0 rfl rfl ?_
      refine r_aload_n dX10_socks_52 0 rfl rfl ?_
      refine r_getr dX10_socks_53 fl_X10_16 (by decide) rfl rfl (by decide) ?_
      refine r_iconst (v := (5 : Int32)) dX10_socks_56 rfl ?_
      refine r_iload_n dX10_socks_57 1 rfl rfl ?_
      refine r_imul dX10_socks_58 ?_
      refine rm_iald dX10_socks_59 (by decide) (by decide) rfl (fun h7 => ?_)
      refine r_aload_n dX10_socks_60 0 rfl rfl ?_
      refine r_getr dX10_socks_61 fl_X10_16 (by decide) rfl rfl (by decide) ?_
      refine r_iconst (v := (5 : Int32)) dX10_socks_64 rfl ?_
      refine r_iload_n dX10_socks_65 1 rfl rfl ?_
      refine r_imul dX10_socks_66 ?_
      refine r_iconst (v := (1 : Int32)) dX10_socks_67 rfl ?_
      refine r_iadd dX10_socks_68 ?_
      refine rm_iald dX10_socks_69 (by decide) (by decide) rfl (fun h8 => ?_)
      refine r_aload_n dX10_socks_70 0 rfl rfl ?_
      refine r_getr dX10_socks_71 fl_X10_16 (by decide) rfl rfl (by decide) ?_
      refine r_iconst (v := (5 : Int32)) dX10_socks_74 rfl ?_
      refine r_iload_n dX10_socks_75 1 rfl rfl ?_
      refine r_imul dX10_socks_76 ?_
      refine r_iconst (v := (2 : Int32)) dX10_socks_77 rfl ?_
      refine r_iadd dX10_socks_78 ?_
      refine rm_iald dX10_socks_79 (by decide) (by decide) rfl (fun h9 => ?_)
      refine r_aload_n dX10_socks_80 0 rfl rfl ?_
      refine r_getr dX10_socks_81 fl_X10_16 (by decide) rfl rfl (by decide) ?_
      refine r_iconst (v := (5 : Int32)) dX10_socks_84 rfl ?_
      refine r_iload_n dX10_socks_85 1 rfl rfl ?_
      refine r_imul dX10_socks_86 ?_
      refine r_iconst (v := (3 : Int32)) dX10_socks_87 rfl ?_
      refine r_iadd dX10_socks_88 ?_
      refine rm_iald dX10_socks_89 (by decide) (by decide) rfl (fun h10 => ?_)
      refine r_aload_n dX10_socks_90 0 rfl rfl ?_
      refine r_getr dX10_socks_91 fl_X10_16 (by decide) rfl rfl (by decide) ?_
      refine r_iconst (v := (5 : Int32)) dX10_socks_94 rfl ?_
      refine r_iload_n dX10_socks_95 1 rfl rfl ?_
      refine r_imul dX10_socks_96 ?_
      refine r_iconst (v := (4 : Int32)) dX10_socks_97 rfl ?_
      refine r_iadd dX10_socks_98 ?_
      refine rm_iald dX10_socks_99 (by decide) (by decide) rfl (fun h11 => ?_)
      refine rVm_vS (as := [.int (U 81 (ix ((5 : Int32) * v2))), .int (U 81 (ix (((5 : Int32) * v2) + (1 : Int32)))), .int (U 81 (ix (((5 : Int32) * v2) + (2 : Int32)))), .int (U 81 (ix (((5 : Int32) * v2) + (3 : Int32)))), .int (U 81 (ix (((5 : Int32) * v2) + (4 : Int32))))]) (st := []) dX10_socks_100 cl_X10_79 (by decide) rfl rfl (m_X10_add S T U V (U 81 (ix ((5 : Int32) * v2))) (U 81 (ix (((5 : Int32) * v2) + (1 : Int32)))) (U 81 (ix (((5 : Int32) * v2) + (2 : Int32)))) (U 81 (ix (((5 : Int32) * v2) + (3 : Int32)))) (U 81 (ix (((5 : Int32) * v2) + (4 : Int32))))) (by decide) rfl (Nat.le_of_ble_eq_true rfl) (fun q12 _ => ?_)
      refine r_iinc (v := v2 + (1 : Int32)) (L' := [(2, .int (v2 + (1 : Int32))), (0, .ref 78)]) dX10_socks_103 1 rfl rfl (by decide) rfl ?_
      refine r_goto (tgt := 43) dX10_socks_106 (by decide) ?_
      exact r_pick [1, 0] rfl (ih (v2 + (1 : Int32)) q12)
def f_X10_socks (U : SI) : Option (Int32 × SI) :=
  (f_X10_readSocks U).bind fun q1 =>
  nm (up2 q1.2 78 2 (0 : Int32)) fun U2 =>
  if q1.1 = 0 then
    some ((-20 : Int32) - (U2 78 3), U2)
  else
    gd (inB (0 : Int32) 205) <|
    if ((U2 79 (ix (0 : Int32))) + (U2 78 4)) ≤ (12 : Int32) then
      f_X10_socks_43 fu (0 : Int32) U2
    else
      some ((-3 : Int32), U2)
set_option maxHeartbeats 4000000 in
set_option maxRecDepth 100000 in
theorem m_X10_socks (S : SI) (T : SL) (U : SI) (V : SL)  : Meth 5 yX10_socks cX10_socks 3 (some .int) [.ref 78] (S, T, U, V) (f_X10_socks U) (fun a : Int32 × SI => (some (.int a.1), (S, T, a.2, V))) := by
  refine meth_of (L := [(0, .ref 78)]) (by decide +kernel) (Nat.le_of_ble_eq_true rfl) rfl ?_
  rw [f_X10_socks]
  refine r_aload_n dX10_socks_0 0 rfl rfl ?_
  refine rVm_iS (as := []) (st := []) dX10_socks_1 cl_X10_123 (by decide) rfl rfl (m_X10_readSocks S T U V) (by decide) rfl (Nat.le_of_ble_eq_true rfl) (fun q1 _ => ?_)
  refine r_istore_n (L' := [(1, .int q1.1), (0, .ref 78)]) dX10_socks_4 rfl (by decide) rfl ?_
  refine r_aload_n dX10_socks_5 1 rfl rfl ?_
  refine r_iconst (v := (0 : Int32)) dX10_socks_6 rfl ?_
  refine rm_puti (ty := .int) dX10_socks_7 fp_X10_91 (nar_i _) (fit_i _) (by decide) (by decide) rfl rfl ?_
  refine r_nmU (fun U2 => ?_)
  refine r_iload_n dX10_socks_10 0 rfl rfl ?_
  refine r_if_ne (tgt := 22) dX10_socks_11 (by decide) (fun h3 => ?_) (fun h3 => ?_)
  · refine r_bipush (v := (-20 : Int32)) dX10_socks_14 rfl ?_
    refine r_aload_n dX10_socks_16 1 rfl rfl ?_
    refine rm_geti dX10_socks_17 fl_X10_95 (by decide) (by decide) rfl rfl ?_
    refine r_isub dX10_socks_20 ?_
    exact r_ireturn (ty := .int) dX10_socks_21 rfl (nar_i _) rfl
  · refine r_aload_n dX10_socks_22 1 rfl rfl ?_
    refine r_getr dX10_socks_23 fl_X10_7 (by decide) rfl rfl (by decide) ?_
    refine r_iconst (v := (0 : Int32)) dX10_socks_26 rfl ?_
    refine rm_iald dX10_socks_27 (by decide) (by decide) rfl (fun h4 => ?_)
    refine r_aload_n dX10_socks_28 1 rfl rfl ?_
    refine rm_geti dX10_socks_29 fl_X10_120 (by decide) (by decide) rfl rfl ?_
    refine r_iadd dX10_socks_32 ?_
    refine r_bipush (v := (12 : Int32)) dX10_socks_33 rfl ?_
    refine r_icmp_le (tgt := 41) dX10_socks_35 (by decide) (fun h5 => ?_) (fun h5 => ?_)
    · refine r_iconst (v := (0 : Int32)) dX10_socks_41 rfl ?_
      refine r_istore_n (L' := [(2, .int (0 : Int32)), (1, .int q1.1), (0, .ref 78)]) dX10_socks_42 rfl (by decide) rfl ?_
      exact r_pick [2, 0] rfl (t_X10_socks_43 S T V fu (0 : Int32) U2)
    · refine r_bipush (v := (-3 : Int32)) dX10_socks_38 rfl ?_
      exact r_ireturn (ty := .int) dX10_socks_40 rfl (nar_i _) rfl
