def f_X10_sizeOf_31 (v3 : Int32) (s0 : Int32) (s1 : Int32) (kh4 : Int32 → Int32 → Option (Int32)) : Option (Int32) :=
  nm (s1 + s0) fun x5 =>
  kh4 x5 (v3 + (1 : Int32))
set_option maxHeartbeats 4000000 in
set_option maxRecDepth 100000 in
theorem t_X10_sizeOf_31 (S : SI) (T : SL) (U : SI) (V : SL) (v1 : Int32) (v3 : Int32) (s0 : Int32) (s1 : Int32) (kh4 : Int32 → Int32 → Option (Int32)) (hkh4 : ∀ (w2 : Int32) (w3 : Int32), Run 2 yX10_sizeOf cX10_sizeOf 4 (some .int) none (fun a : Int32 => (some (.int a), (S, T, U, V))) 4 [(0, .ref 78), (1, .int v1), (2, .int w2), (3, .int w3)] [] (S, T, U, V) (kh4 w2 w3)) : Run 2 yX10_sizeOf cX10_sizeOf 4 (some .int) none (fun a : Int32 => (some (.int a), (S, T, U, V))) 31 [(0, .ref 78), (1, .int v1), (3, .int v3)] [.int s0, .int s1] (S, T, U, V) (f_X10_sizeOf_31 v3 s0 s1 kh4) := by
  rw [f_X10_sizeOf_31]
  refine r_iadd dX10_sizeOf_31 ?_
  refine r_nmi (fun x5 => ?_)
  refine r_istore_n (L' := [(2, .int x5), (0, .ref 78), (1, .int v1), (3, .int v3)]) dX10_sizeOf_32 rfl (by decide) rfl ?_
  refine r_iinc (v := v3 + (1 : Int32)) (L' := [(3, .int (v3 + (1 : Int32))), (2, .int x5), (0, .ref 78), (1, .int v1)]) dX10_sizeOf_33 3 rfl rfl (by decide) rfl ?_
  refine r_goto (tgt := 4) dX10_sizeOf_36 (by decide) ?_
  exact r_pick [2, 3, 1, 0] rfl (hkh4 x5 (v3 + (1 : Int32)))
def f_X10_sizeOf_4 (U : SI) (v1 : Int32) : Nat → Int32 → Int32 → Option (Int32)
  | 0, _, _ => none
  | m_ + 1, v2, v3 =>
    gd (inB (0 : Int32) 205) <|
    if (U 79 (ix (0 : Int32))) ≤ v3 then
      some v2
    else
      (f_X10_of U v3 (9 : Int32)).bind fun q3 =>
      if q3 = v1 then
        f_X10_sizeOf_31 v3 (1 : Int32) v2 (f_X10_sizeOf_4 U v1 m_)
      else
        f_X10_sizeOf_31 v3 (0 : Int32) v2 (f_X10_sizeOf_4 U v1 m_)
set_option maxHeartbeats 4000000 in
set_option maxRecDepth 100000 in
theorem t_X10_sizeOf_4 (S : SI) (T : SL) (U : SI) (V : SL) (v1 : Int32) : ∀ (m_ : Nat) (v2 : Int32) (v3 : Int32), Run 2 yX10_sizeOf cX10_sizeOf 4 (some .int) none (fun a : Int32 => (some (.int a), (S, T, U, V))) 4 [(0, .ref 78), (1, .int v1), (2, .int v2), (3, .int v3)] [] (S, T, U, V) (f_X10_sizeOf_4 U v1 m_ v2 v3) := by
  intro m_
  induction m_ with
  | zero =>
    intro v2 v3
    rw [f_X10_sizeOf_4]
    exact r_none
  | succ m_ ih =>
    intro v2 v3
    rw [f_X10_sizeOf_4]
    refine r_iload_n dX10_sizeOf_4 3 rfl rfl ?_
    refine r_aload_n dX10_sizeOf_5 0 rfl rfl ?_
    refine r_getr dX10_sizeOf_6 fl_X10_7 (by decide) rfl rfl (by decide) ?_
    refine r_iconst (v := (0 : Int32)) dX10_sizeOf_9 rfl ?_
    refine rm_iald dX10_sizeOf_10 (by decide) (by decide) rfl (fun h1 => ?_)
    refine r_icmp_ge (tgt := 39) dX10_sizeOf_11 (by decide) (fun h2 => ?_) (fun h2 => ?_)
    · refine r_iload_n dX10_sizeOf_39 2 rfl rfl ?_
      exact r_ireturn (ty := .int) dX10_sizeOf_40 rfl (nar_i _) rfl
    · refine r_iload_n dX10_sizeOf_14 2 rfl rfl ?_
      refine r_aload_n dX10_sizeOf_15 0 rfl rfl ?_
      refine r_iload_n dX10_sizeOf_16 3 rfl rfl ?_
      refine r_bipush (v := (9 : Int32)) dX10_sizeOf_17 rfl ?_
      refine rV_i (as := [.int v3, .int (9 : Int32)]) (st := [.int v2]) dX10_sizeOf_19 cl_X10_67 (by decide) rfl rfl (m_X10_of S T U V v3 (9 : Int32)) (by decide) rfl (Nat.le_of_ble_eq_true rfl) (fun q3 _ => ?_)
      refine r_iload_n dX10_sizeOf_22 1 rfl rfl ?_
      refine r_icmp_ne (tgt := 30) dX10_sizeOf_23 (by decide) (fun h4 => ?_) (fun h4 => ?_)
      · refine r_iconst (v := (1 : Int32)) dX10_sizeOf_26 rfl ?_
        refine r_goto (tgt := 31) dX10_sizeOf_27 (by decide) ?_
        exact r_pick [0, 1, 3] rfl (t_X10_sizeOf_31 S T U V v1 v3 (1 : Int32) v2 (f_X10_sizeOf_4 U v1 m_) ih)
      · refine r_iconst (v := (0 : Int32)) dX10_sizeOf_30 rfl ?_
        exact r_pick [0, 1, 3] rfl (t_X10_sizeOf_31 S T U V v1 v3 (0 : Int32) v2 (f_X10_sizeOf_4 U v1 m_) ih)
def f_X10_sizeOf (U : SI) (v1 : Int32) : Option (Int32) :=
  f_X10_sizeOf_4 U v1 fu (0 : Int32) (0 : Int32)
set_option maxHeartbeats 4000000 in
set_option maxRecDepth 100000 in
theorem m_X10_sizeOf (S : SI) (T : SL) (U : SI) (V : SL) (v1 : Int32) : Meth 2 yX10_sizeOf cX10_sizeOf 4 (some .int) [.ref 78, .int v1] (S, T, U, V) (f_X10_sizeOf U v1) (fun a : Int32 => (some (.int a), (S, T, U, V))) := by
  refine meth_of (L := [(0, .ref 78), (1, .int v1)]) (by decide +kernel) (Nat.le_of_ble_eq_true rfl) rfl ?_
  rw [f_X10_sizeOf]
  refine r_iconst (v := (0 : Int32)) dX10_sizeOf_0 rfl ?_
  refine r_istore_n (L' := [(2, .int (0 : Int32)), (0, .ref 78), (1, .int v1)]) dX10_sizeOf_1 rfl (by decide) rfl ?_
  refine r_iconst (v := (0 : Int32)) dX10_sizeOf_2 rfl ?_
  refine r_istore_n (L' := [(3, .int (0 : Int32)), (2, .int (0 : Int32)), (0, .ref 78), (1, .int v1)]) dX10_sizeOf_3 rfl (by decide) rfl ?_
  exact r_pick [2, 3, 1, 0] rfl (t_X10_sizeOf_4 S T U V v1 fu (0 : Int32) (0 : Int32))
def f_X10_isOwned (U : SI) (v1 : Int32) (v2 : Int32) (v3 : Int32) : Option (Int32) :=
  nm ((169 : Int32) + ((2 : Int32) * (((6 : Int32) * v1) + v2))) fun x1 =>
  gd (inB x1 205) <|
  gd (inB (x1 + (1 : Int32)) 205) <|
  (f_X10_in v3.toInt64 ((U 79 (ix x1)).toInt64) ((U 79 (ix (x1 + (1 : Int32)))).toInt64)).bind fun q4 =>
  gd (b01 q4) <|
  some q4
set_option maxHeartbeats 4000000 in
set_option maxRecDepth 100000 in
theorem m_X10_isOwned (S : SI) (T : SL) (U : SI) (V : SL) (v1 : Int32) (v2 : Int32) (v3 : Int32) : Meth 2 yX10_isOwned cX10_isOwned 5 (some .boolean) [.ref 78, .int v1, .int v2, .int v3] (S, T, U, V) (f_X10_isOwned U v1 v2 v3) (fun a : Int32 => (some (.int a), (S, T, U, V))) := by
  refine meth_of (L := [(0, .ref 78), (1, .int v1), (2, .int v2), (3, .int v3)]) (by decide +kernel) (Nat.le_of_ble_eq_true rfl) rfl ?_
  rw [f_X10_isOwned]
  refine r_sipush (v := (169 : Int32)) dX10_isOwned_0 rfl ?_
  refine r_iconst (v := (2 : Int32)) dX10_isOwned_3 rfl ?_
  refine r_bipush (v := (6 : Int32)) dX10_isOwned_4 rfl ?_
  refine r_iload_n dX10_isOwned_6 1 rfl rfl ?_
  refine r_imul dX10_isOwned_7 ?_
  refine r_iload_n dX10_isOwned_8 2 rfl rfl ?_
  refine r_iadd dX10_isOwned_9 ?_
  refine r_imul dX10_isOwned_10 ?_
  refine r_iadd dX10_isOwned_11 ?_
  refine r_nmi (fun x1 => ?_)
  refine r_istore (L' := [(4, .int x1), (0, .ref 78), (1, .int v1), (2, .int v2), (3, .int v3)]) dX10_isOwned_12 (by decide) rfl ?_
  refine r_iload_n dX10_isOwned_14 4 rfl rfl ?_
  refine r_i2l dX10_isOwned_15 ?_
  refine r_aload_n dX10_isOwned_16 1 rfl rfl ?_
  refine r_getr dX10_isOwned_17 fl_X10_7 (by decide) rfl rfl (by decide) ?_
  refine r_iload dX10_isOwned_20 0 rfl ?_
  refine rm_iald dX10_isOwned_22 (by decide) (by decide) rfl (fun h2 => ?_)
  refine r_i2l dX10_isOwned_23 ?_
  refine r_aload_n dX10_isOwned_24 1 rfl rfl ?_
  refine r_getr dX10_isOwned_25 fl_X10_7 (by decide) rfl rfl (by decide) ?_
  refine r_iload dX10_isOwned_28 0 rfl ?_
  refine r_iconst (v := (1 : Int32)) dX10_isOwned_30 rfl ?_
  refine r_iadd dX10_isOwned_31 ?_
  refine rm_iald dX10_isOwned_32 (by decide) (by decide) rfl (fun h3 => ?_)
  refine r_i2l dX10_isOwned_33 ?_
  refine rS_i (as := [.long v3.toInt64, .long ((U 79 (ix x1)).toInt64), .long ((U 79 (ix (x1 + (1 : Int32)))).toInt64)]) (st := []) dX10_isOwned_34 cl_X10_59 (m_X10_in S T U V v3.toInt64 ((U 79 (ix x1)).toInt64) ((U 79 (ix (x1 + (1 : Int32)))).toInt64)) (by decide) rfl (Nat.le_of_ble_eq_true rfl) (fun q4 _ => ?_)
  refine r_gd (fun h5 => ?_)
  exact r_ireturn (ty := .boolean) dX10_isOwned_37 rfl (nar_z h5) rfl
def f_X10_waysOf_27 (V : SL) (v4 : Int32) (s0 : Int64) (s1 : Int32) (kh3 : Int32 → SL → Option (Int64 × SL)) : Option (Int64 × SL) :=
  gd (inB s1 169) <|
  nm (up2 V 88 (ix s1) s0) fun V4 =>
  kh3 (v4 + (1 : Int32)) V4
set_option maxHeartbeats 4000000 in
set_option maxRecDepth 100000 in
theorem t_X10_waysOf_27 (S : SI) (T : SL) (U : SI) (V : SL) (v1 : Int32) (v2 : Int32) (v3 : Int32) (v4 : Int32) (s0 : Int64) (s1 : Int32) (kh3 : Int32 → SL → Option (Int64 × SL)) (hkh3 : ∀ (w4 : Int32) (V' : SL), Run 3 yX10_waysOf cX10_waysOf 11 (some .long) none (fun a : Int64 × SL => (some (.long a.1), (S, T, U, a.2))) 3 [(0, .ref 78), (1, .int v1), (2, .int v2), (3, .int v3), (4, .int w4)] [] (S, T, U, V') (kh3 w4 V')) : Run 3 yX10_waysOf cX10_waysOf 11 (some .long) none (fun a : Int64 × SL => (some (.long a.1), (S, T, U, a.2))) 27 [(0, .ref 78), (1, .int v1), (2, .int v2), (3, .int v3), (4, .int v4)] [.long s0, .int s1, .ref 88] (S, T, U, V) (f_X10_waysOf_27 V v4 s0 s1 kh3) := by
  rw [f_X10_waysOf_27]
  refine rm_last dX10_waysOf_27 (by decide) (by decide) rfl (fun h3 => ?_)
  refine r_nmV (fun V4 => ?_)
  refine r_iinc (v := v4 + (1 : Int32)) (L' := [(4, .int (v4 + (1 : Int32))), (0, .ref 78), (1, .int v1), (2, .int v2), (3, .int v3)]) dX10_waysOf_28 4 rfl rfl (by decide) rfl ?_
  refine r_goto (tgt := 3) dX10_waysOf_31 (by decide) ?_
  exact r_pick [1, 2, 3, 4, 0] rfl (hkh3 (v4 + (1 : Int32)) V4)
def f_X10_waysOf_3 (ke34 : SL → Option (Int64 × SL)) : Nat → Int32 → SL → Option (Int64 × SL)
  | 0, _, _ => none
  | m_ + 1, v4, V =>
    if (169 : Int32) ≤ v4 then
      ke34 V
    else
      if v4 = 0 then
        f_X10_waysOf_27 V v4 (1 : Int64) v4 (f_X10_waysOf_3 ke34 m_)
      else
        f_X10_waysOf_27 V v4 (0 : Int64) v4 (f_X10_waysOf_3 ke34 m_)
set_option maxHeartbeats 4000000 in
set_option maxRecDepth 100000 in
theorem t_X10_waysOf_3 (S : SI) (T : SL) (U : SI) (v1 : Int32) (v2 : Int32) (v3 : Int32) (ke34 : SL → Option (Int64 × SL)) (hke34 : ∀ (V' : SL), Run 3 yX10_waysOf cX10_waysOf 11 (some .long) none (fun a : Int64 × SL => (some (.long a.1), (S, T, U, a.2))) 34 [(0, .ref 78), (1, .int v1), (2, .int v2), (3, .int v3)] [] (S, T, U, V') (ke34 V')) : ∀ (m_ : Nat) (v4 : Int32) (V : SL), Run 3 yX10_waysOf cX10_waysOf 11 (some .long) none (fun a : Int64 × SL => (some (.long a.1), (S, T, U, a.2))) 3 [(0, .ref 78), (1, .int v1), (2, .int v2), (3, .int v3), (4, .int v4)] [] (S, T, U, V) (f_X10_waysOf_3 ke34 m_ v4 V) := by
  intro m_
  induction m_ with
  | zero =>
    intro v4 V
    rw [f_X10_waysOf_3]
    exact r_none
  | succ m_ ih =>
    intro v4 V
    rw [f_X10_waysOf_3]
    refine r_iload dX10_waysOf_3 4 rfl ?_
    refine r_sipush (v := (169 : Int32)) dX10_waysOf_5 rfl ?_
    refine r_icmp_ge (tgt := 34) dX10_waysOf_8 (by decide) (fun h1 => ?_) (fun h1 => ?_)
    · exact r_pick [0, 1, 2, 3] rfl (hke34 V)
    · refine r_aload_n dX10_waysOf_11 0 rfl rfl ?_
      refine r_getr dX10_waysOf_12 fl_X10_38 (by decide) rfl rfl (by decide) ?_
      refine r_iload dX10_waysOf_15 4 rfl ?_
      refine r_iload dX10_waysOf_17 4 rfl ?_
      refine r_if_ne (tgt := 26) dX10_waysOf_19 (by decide) (fun h2 => ?_) (fun h2 => ?_)
      · refine r_lconst (v := (1 : Int64)) dX10_waysOf_22 rfl ?_
        refine r_goto (tgt := 27) dX10_waysOf_23 (by decide) ?_
        exact r_pick [0, 1, 2, 3, 4] rfl (t_X10_waysOf_27 S T U V v1 v2 v3 v4 (1 : Int64) v4 (f_X10_waysOf_3 ke34 m_) ih)
      · refine r_lconst (v := (0 : Int64)) dX10_waysOf_26 rfl ?_
        exact r_pick [0, 1, 2, 3, 4] rfl (t_X10_waysOf_27 S T U V v1 v2 v3 v4 (0 : Int64) v4 (f_X10_waysOf_3 ke34 m_) ih)
def f_X10_waysOf_329 (V : SL) (v4 : Int32) (v5 : Int32) (kh40 : Int32 → Int32 → SL → Option (Int64 × SL)) : Option (Int64 × SL) :=
  kh40 v4 (v5 + (1 : Int32)) V
set_option maxHeartbeats 4000000 in
set_option maxRecDepth 100000 in
theorem t_X10_waysOf_329 (S : SI) (T : SL) (U : SI) (V : SL) (v1 : Int32) (v2 : Int32) (v3 : Int32) (v4 : Int32) (v5 : Int32) (kh40 : Int32 → Int32 → SL → Option (Int64 × SL)) (hkh40 : ∀ (w4 : Int32) (w5 : Int32) (V' : SL), Run 3 yX10_waysOf cX10_waysOf 11 (some .long) none (fun a : Int64 × SL => (some (.long a.1), (S, T, U, a.2))) 40 [(0, .ref 78), (1, .int v1), (2, .int v2), (3, .int v3), (4, .int w4), (5, .int w5)] [] (S, T, U, V') (kh40 w4 w5 V')) : Run 3 yX10_waysOf cX10_waysOf 11 (some .long) none (fun a : Int64 × SL => (some (.long a.1), (S, T, U, a.2))) 329 [(0, .ref 78), (1, .int v1), (2, .int v2), (3, .int v3), (4, .int v4), (5, .int v5)] [] (S, T, U, V) (f_X10_waysOf_329 V v4 v5 kh40) := by
  rw [f_X10_waysOf_329]
  refine r_iinc (v := v5 + (1 : Int32)) (L' := [(5, .int (v5 + (1 : Int32))), (0, .ref 78), (1, .int v1), (2, .int v2), (3, .int v3), (4, .int v4)]) dX10_waysOf_329 5 rfl rfl (by decide) rfl ?_
  refine r_goto (tgt := 40) dX10_waysOf_332 (by decide) ?_
  exact r_pick [1, 2, 3, 4, 5, 0] rfl (hkh40 v4 (v5 + (1 : Int32)) V)
def f_X10_waysOf_95 (ke117 : SL → Option (Int64 × SL)) : Nat → Int32 → SL → Option (Int64 × SL)
  | 0, _, _ => none
  | m_ + 1, v8, V =>
    if (169 : Int32) ≤ v8 then
      ke117 V
    else
      gd (inB v8 169) <|
      nm (up2 V 89 (ix v8) (0 : Int64)) fun V15 =>
      (f_X10_waysOf_95 ke117 m_) (v8 + (1 : Int32)) V15
set_option maxHeartbeats 4000000 in
set_option maxRecDepth 100000 in
theorem t_X10_waysOf_95 (S : SI) (T : SL) (U : SI) (v1 : Int32) (v2 : Int32) (v3 : Int32) (v4 : Int32) (v5 : Int32) (v6 : Int32) (v7 : Int32) (ke117 : SL → Option (Int64 × SL)) (hke117 : ∀ (V' : SL), Run 3 yX10_waysOf cX10_waysOf 11 (some .long) none (fun a : Int64 × SL => (some (.long a.1), (S, T, U, a.2))) 117 [(0, .ref 78), (1, .int v1), (2, .int v2), (3, .int v3), (4, .int v4), (5, .int v5), (6, .int v6), (7, .int v7)] [] (S, T, U, V') (ke117 V')) : ∀ (m_ : Nat) (v8 : Int32) (V : SL), Run 3 yX10_waysOf cX10_waysOf 11 (some .long) none (fun a : Int64 × SL => (some (.long a.1), (S, T, U, a.2))) 95 [(0, .ref 78), (1, .int v1), (2, .int v2), (3, .int v3), (4, .int v4), (5, .int v5), (6, .int v6), (7, .int v7), (8, .int v8)] [] (S, T, U, V) (f_X10_waysOf_95 ke117 m_ v8 V) := by
  intro m_
  induction m_ with
  | zero =>
    intro v8 V
    rw [f_X10_waysOf_95]
    exact r_none
  | succ m_ ih =>
    intro v8 V
    rw [f_X10_waysOf_95]
    refine r_iload dX10_waysOf_95 8 rfl ?_
    refine r_sipush (v := (169 : Int32)) dX10_waysOf_97 rfl ?_
    refine r_icmp_ge (tgt := 117) dX10_waysOf_100 (by decide) (fun h13 => ?_) (fun h13 => ?_)
    · exact r_pick [0, 1, 2, 3, 4, 5, 6, 7] rfl (hke117 V)
    · refine r_aload_n dX10_waysOf_103 0 rfl rfl ?_
      refine r_getr dX10_waysOf_104 fl_X10_41 (by decide) rfl rfl (by decide) ?_
      refine r_iload dX10_waysOf_107 8 rfl ?_
      refine r_lconst (v := (0 : Int64)) dX10_waysOf_109 rfl ?_
      refine rm_last dX10_waysOf_110 (by decide) (by decide) rfl (fun h14 => ?_)
      refine r_nmV (fun V15 => ?_)
      refine r_iinc (v := v8 + (1 : Int32)) (L' := [(8, .int (v8 + (1 : Int32))), (0, .ref 78), (1, .int v1), (2, .int v2), (3, .int v3), (4, .int v4), (5, .int v5), (6, .int v6), (7, .int v7)]) dX10_waysOf_111 8 rfl rfl (by decide) rfl ?_
      refine r_goto (tgt := 95) dX10_waysOf_114 (by decide) ?_
      exact r_pick [1, 2, 3, 4, 5, 6, 7, 8, 0] rfl (ih (v8 + (1 : Int32)) V15)
def f_X10_waysOf_290 (V : SL) (v8 : Int32) (s0 : Int64) (s1 : Int64) (s2 : Int32) (kh120 : Int32 → SL → Option (Int64 × SL)) : Option (Int64 × SL) :=
  gd (inB s2 169) <|
  nm (up2 V 89 (ix s2) (s1 + s0)) fun V39 =>
  kh120 (v8 + (1 : Int32)) V39
set_option maxHeartbeats 4000000 in
set_option maxRecDepth 100000 in
theorem t_X10_waysOf_290 (S : SI) (T : SL) (U : SI) (V : SL) (v1 : Int32) (v2 : Int32) (v3 : Int32) (v4 : Int32) (v5 : Int32) (v6 : Int32) (v7 : Int32) (v8 : Int32) (s0 : Int64) (s1 : Int64) (s2 : Int32) (kh120 : Int32 → SL → Option (Int64 × SL)) (hkh120 : ∀ (w8 : Int32) (V' : SL), Run 3 yX10_waysOf cX10_waysOf 11 (some .long) none (fun a : Int64 × SL => (some (.long a.1), (S, T, U, a.2))) 120 [(0, .ref 78), (1, .int v1), (2, .int v2), (3, .int v3), (4, .int v4), (5, .int v5), (6, .int v6), (7, .int v7), (8, .int w8)] [] (S, T, U, V') (kh120 w8 V')) : Run 3 yX10_waysOf cX10_waysOf 11 (some .long) none (fun a : Int64 × SL => (some (.long a.1), (S, T, U, a.2))) 290 [(0, .ref 78), (1, .int v1), (2, .int v2), (3, .int v3), (4, .int v4), (5, .int v5), (6, .int v6), (7, .int v7), (8, .int v8)] [.long s0, .long s1, .int s2, .ref 89] (S, T, U, V) (f_X10_waysOf_290 V v8 s0 s1 s2 kh120) := by
  rw [f_X10_waysOf_290]
  refine r_ladd dX10_waysOf_290 ?_
  refine rm_last dX10_waysOf_291 (by decide) (by decide) rfl (fun h38 => ?_)
  refine r_nmV (fun V39 => ?_)
  refine r_iinc (v := v8 + (1 : Int32)) (L' := [(8, .int (v8 + (1 : Int32))), (0, .ref 78), (1, .int v1), (2, .int v2), (3, .int v3), (4, .int v4), (5, .int v5), (6, .int v6), (7, .int v7)]) dX10_waysOf_292 8 rfl rfl (by decide) rfl ?_
  refine r_goto (tgt := 120) dX10_waysOf_295 (by decide) ?_
  exact r_pick [1, 2, 3, 4, 5, 6, 7, 8, 0] rfl (hkh120 (v8 + (1 : Int32)) V39)
def f_X10_waysOf_260 (V : SL) (v7 : Int32) (v8 : Int32) (s0 : Int64) (s1 : Int64) (s2 : Int32) (kh120 : Int32 → SL → Option (Int64 × SL)) : Option (Int64 × SL) :=
  gd (inB s2 169) <|
  nm (up2 V 89 (ix s2) (s1 + s0)) fun V34 =>
  gd (inB v8 169) <|
  (f_X10_has v7 (2 : Int32)).bind fun q36 =>
  if q36 = 0 then
    f_X10_waysOf_290 V34 v8 (0 : Int64) (V34 89 (ix v8)) v8 kh120
  else
    gd (inB v8 169) <|
    f_X10_waysOf_290 V34 v8 (V34 88 (ix v8)) (V34 89 (ix v8)) v8 kh120
set_option maxHeartbeats 4000000 in
set_option maxRecDepth 100000 in
theorem t_X10_waysOf_260 (S : SI) (T : SL) (U : SI) (V : SL) (v1 : Int32) (v2 : Int32) (v3 : Int32) (v4 : Int32) (v5 : Int32) (v6 : Int32) (v7 : Int32) (v8 : Int32) (s0 : Int64) (s1 : Int64) (s2 : Int32) (kh120 : Int32 → SL → Option (Int64 × SL)) (hkh120 : ∀ (w8 : Int32) (V' : SL), Run 3 yX10_waysOf cX10_waysOf 11 (some .long) none (fun a : Int64 × SL => (some (.long a.1), (S, T, U, a.2))) 120 [(0, .ref 78), (1, .int v1), (2, .int v2), (3, .int v3), (4, .int v4), (5, .int v5), (6, .int v6), (7, .int v7), (8, .int w8)] [] (S, T, U, V') (kh120 w8 V')) : Run 3 yX10_waysOf cX10_waysOf 11 (some .long) none (fun a : Int64 × SL => (some (.long a.1), (S, T, U, a.2))) 260 [(0, .ref 78), (1, .int v1), (2, .int v2), (3, .int v3), (4, .int v4), (5, .int v5), (6, .int v6), (7, .int v7), (8, .int v8)] [.long s0, .long s1, .int s2, .ref 89] (S, T, U, V) (f_X10_waysOf_260 V v7 v8 s0 s1 s2 kh120) := by
  rw [f_X10_waysOf_260]
  refine r_ladd dX10_waysOf_260 ?_
  refine rm_last dX10_waysOf_261 (by decide) (by decide) rfl (fun h33 => ?_)
  refine r_nmV (fun V34 => ?_)
  refine r_aload_n dX10_waysOf_262 0 rfl rfl ?_
  refine r_getr dX10_waysOf_263 fl_X10_41 (by decide) rfl rfl (by decide) ?_
  refine r_iload dX10_waysOf_266 8 rfl ?_
  refine r_dup2 dX10_waysOf_268 rfl rfl ?_
  refine rm_lald dX10_waysOf_269 (by decide) (by decide) rfl (fun h35 => ?_)
  refine r_iload dX10_waysOf_270 7 rfl ?_
  refine r_iconst (v := (2 : Int32)) dX10_waysOf_272 rfl ?_
  refine rS_i (as := [.int v7, .int (2 : Int32)]) (st := [.long (V34 89 (ix v8)), .int v8, .ref 89]) dX10_waysOf_273 cl_X10_136 (m_X10_has S T U V34 v7 (2 : Int32)) (by decide) rfl (Nat.le_of_ble_eq_true rfl) (fun q36 _ => ?_)
  refine r_if_eq (tgt := 289) dX10_waysOf_276 (by decide) (fun h37 => ?_) (fun h37 => ?_)
  · refine r_lconst (v := (0 : Int64)) dX10_waysOf_289 rfl ?_
    exact r_pick [0, 1, 2, 3, 4, 5, 6, 7, 8] rfl (t_X10_waysOf_290 S T U V34 v1 v2 v3 v4 v5 v6 v7 v8 (0 : Int64) (V34 89 (ix v8)) v8 kh120 hkh120)
  · refine r_aload_n dX10_waysOf_279 0 rfl rfl ?_
    refine r_getr dX10_waysOf_280 fl_X10_38 (by decide) rfl rfl (by decide) ?_
    refine r_iload dX10_waysOf_283 8 rfl ?_
    refine rm_lald dX10_waysOf_285 (by decide) (by decide) rfl (fun h40 => ?_)
    refine r_goto (tgt := 290) dX10_waysOf_286 (by decide) ?_
    exact r_pick [0, 1, 2, 3, 4, 5, 6, 7, 8] rfl (t_X10_waysOf_290 S T U V34 v1 v2 v3 v4 v5 v6 v7 v8 (V34 88 (ix v8)) (V34 89 (ix v8)) v8 kh120 hkh120)
def f_X10_waysOf_237 (V : SL) (v7 : Int32) (v8 : Int32) (s0 : Int32) (s1 : Int32) (kh120 : Int32 → SL → Option (Int64 × SL)) : Option (Int64 × SL) :=
  gd (inB (s1 + s0) 169) <|
  (f_X10_has v7 (1 : Int32)).bind fun q31 =>
  if q31 = 0 then
    f_X10_waysOf_260 V v7 v8 (0 : Int64) (V 89 (ix (s1 + s0))) (s1 + s0) kh120
  else
    gd (inB v8 169) <|
    f_X10_waysOf_260 V v7 v8 (V 88 (ix v8)) (V 89 (ix (s1 + s0))) (s1 + s0) kh120
set_option maxHeartbeats 4000000 in
set_option maxRecDepth 100000 in
theorem t_X10_waysOf_237 (S : SI) (T : SL) (U : SI) (V : SL) (v1 : Int32) (v2 : Int32) (v3 : Int32) (v4 : Int32) (v5 : Int32) (v6 : Int32) (v7 : Int32) (v8 : Int32) (s0 : Int32) (s1 : Int32) (kh120 : Int32 → SL → Option (Int64 × SL)) (hkh120 : ∀ (w8 : Int32) (V' : SL), Run 3 yX10_waysOf cX10_waysOf 11 (some .long) none (fun a : Int64 × SL => (some (.long a.1), (S, T, U, a.2))) 120 [(0, .ref 78), (1, .int v1), (2, .int v2), (3, .int v3), (4, .int v4), (5, .int v5), (6, .int v6), (7, .int v7), (8, .int w8)] [] (S, T, U, V') (kh120 w8 V')) : Run 3 yX10_waysOf cX10_waysOf 11 (some .long) none (fun a : Int64 × SL => (some (.long a.1), (S, T, U, a.2))) 237 [(0, .ref 78), (1, .int v1), (2, .int v2), (3, .int v3), (4, .int v4), (5, .int v5), (6, .int v6), (7, .int v7), (8, .int v8)] [.int s0, .int s1, .ref 89] (S, T, U, V) (f_X10_waysOf_237 V v7 v8 s0 s1 kh120) := by
  rw [f_X10_waysOf_237]
  refine r_iadd dX10_waysOf_237 ?_
  refine r_dup2 dX10_waysOf_238 rfl rfl ?_
  refine rm_lald dX10_waysOf_239 (by decide) (by decide) rfl (fun h30 => ?_)
  refine r_iload dX10_waysOf_240 7 rfl ?_
  refine r_iconst (v := (1 : Int32)) dX10_waysOf_242 rfl ?_
  refine rS_i (as := [.int v7, .int (1 : Int32)]) (st := [.long (V 89 (ix (s1 + s0))), .int (s1 + s0), .ref 89]) dX10_waysOf_243 cl_X10_136 (m_X10_has S T U V v7 (1 : Int32)) (by decide) rfl (Nat.le_of_ble_eq_true rfl) (fun q31 _ => ?_)
  refine r_if_eq (tgt := 259) dX10_waysOf_246 (by decide) (fun h32 => ?_) (fun h32 => ?_)
  · refine r_lconst (v := (0 : Int64)) dX10_waysOf_259 rfl ?_
    exact r_pick [0, 1, 2, 3, 4, 5, 6, 7, 8] rfl (t_X10_waysOf_260 S T U V v1 v2 v3 v4 v5 v6 v7 v8 (0 : Int64) (V 89 (ix (s1 + s0))) (s1 + s0) kh120 hkh120)
  · refine r_aload_n dX10_waysOf_249 0 rfl rfl ?_
    refine r_getr dX10_waysOf_250 fl_X10_38 (by decide) rfl rfl (by decide) ?_
    refine r_iload dX10_waysOf_253 8 rfl ?_
    refine rm_lald dX10_waysOf_255 (by decide) (by decide) rfl (fun h41 => ?_)
    refine r_goto (tgt := 260) dX10_waysOf_256 (by decide) ?_
    exact r_pick [0, 1, 2, 3, 4, 5, 6, 7, 8] rfl (t_X10_waysOf_260 S T U V v1 v2 v3 v4 v5 v6 v7 v8 (V 88 (ix v8)) (V 89 (ix (s1 + s0))) (s1 + s0) kh120 hkh120)
def f_X10_waysOf_206 (V : SL) (v6 : Int32) (v7 : Int32) (v8 : Int32) (v9 : Int32) (v10 : Int32) (s0 : Int64) (s1 : Int64) (s2 : Int32) (kh120 : Int32 → SL → Option (Int64 × SL)) : Option (Int64 × SL) :=
  gd (inB s2 169) <|
  nm (up2 V 89 (ix s2) (s1 + s0)) fun V28 =>
  if (v10 + v6) ≤ (12 : Int32) then
    f_X10_waysOf_237 V28 v7 v8 (v10 + v6) ((13 : Int32) * v9) kh120
  else
    f_X10_waysOf_237 V28 v7 v8 (12 : Int32) ((13 : Int32) * v9) kh120
set_option maxHeartbeats 4000000 in
set_option maxRecDepth 100000 in
theorem t_X10_waysOf_206 (S : SI) (T : SL) (U : SI) (V : SL) (v1 : Int32) (v2 : Int32) (v3 : Int32) (v4 : Int32) (v5 : Int32) (v6 : Int32) (v7 : Int32) (v8 : Int32) (v9 : Int32) (v10 : Int32) (s0 : Int64) (s1 : Int64) (s2 : Int32) (kh120 : Int32 → SL → Option (Int64 × SL)) (hkh120 : ∀ (w8 : Int32) (V' : SL), Run 3 yX10_waysOf cX10_waysOf 11 (some .long) none (fun a : Int64 × SL => (some (.long a.1), (S, T, U, a.2))) 120 [(0, .ref 78), (1, .int v1), (2, .int v2), (3, .int v3), (4, .int v4), (5, .int v5), (6, .int v6), (7, .int v7), (8, .int w8)] [] (S, T, U, V') (kh120 w8 V')) : Run 3 yX10_waysOf cX10_waysOf 11 (some .long) none (fun a : Int64 × SL => (some (.long a.1), (S, T, U, a.2))) 206 [(0, .ref 78), (1, .int v1), (2, .int v2), (3, .int v3), (4, .int v4), (5, .int v5), (6, .int v6), (7, .int v7), (8, .int v8), (9, .int v9), (10, .int v10)] [.long s0, .long s1, .int s2, .ref 89] (S, T, U, V) (f_X10_waysOf_206 V v6 v7 v8 v9 v10 s0 s1 s2 kh120) := by
  rw [f_X10_waysOf_206]
  refine r_ladd dX10_waysOf_206 ?_
  refine rm_last dX10_waysOf_207 (by decide) (by decide) rfl (fun h27 => ?_)
  refine r_nmV (fun V28 => ?_)
  refine r_aload_n dX10_waysOf_208 0 rfl rfl ?_
  refine r_getr dX10_waysOf_209 fl_X10_41 (by decide) rfl rfl (by decide) ?_
  refine r_bipush (v := (13 : Int32)) dX10_waysOf_212 rfl ?_
  refine r_iload dX10_waysOf_214 9 rfl ?_
  refine r_imul dX10_waysOf_216 ?_
  refine r_iload dX10_waysOf_217 10 rfl ?_
  refine r_iload dX10_waysOf_219 6 rfl ?_
  refine r_iadd dX10_waysOf_221 ?_
  refine r_bipush (v := (12 : Int32)) dX10_waysOf_222 rfl ?_
  refine r_icmp_le (tgt := 232) dX10_waysOf_224 (by decide) (fun h29 => ?_) (fun h29 => ?_)
  · refine r_iload dX10_waysOf_232 10 rfl ?_
    refine r_iload dX10_waysOf_234 6 rfl ?_
    refine r_iadd dX10_waysOf_236 ?_
    exact r_pick [0, 1, 2, 3, 4, 5, 6, 7, 8] rfl (t_X10_waysOf_237 S T U V28 v1 v2 v3 v4 v5 v6 v7 v8 (v10 + v6) ((13 : Int32) * v9) kh120 hkh120)
  · refine r_bipush (v := (12 : Int32)) dX10_waysOf_227 rfl ?_
    refine r_goto (tgt := 237) dX10_waysOf_229 (by decide) ?_
    exact r_pick [0, 1, 2, 3, 4, 5, 6, 7, 8] rfl (t_X10_waysOf_237 S T U V28 v1 v2 v3 v4 v5 v6 v7 v8 (12 : Int32) ((13 : Int32) * v9) kh120 hkh120)
def f_X10_waysOf_180 (V : SL) (v6 : Int32) (v7 : Int32) (v8 : Int32) (v9 : Int32) (v10 : Int32) (s0 : Int32) (s1 : Int32) (kh120 : Int32 → SL → Option (Int64 × SL)) : Option (Int64 × SL) :=
  gd (inB ((s1 * s0) + v10) 169) <|
  (f_X10_has v7 (0 : Int32)).bind fun q25 =>
  if q25 = 0 then
    f_X10_waysOf_206 V v6 v7 v8 v9 v10 (0 : Int64) (V 89 (ix ((s1 * s0) + v10))) ((s1 * s0) + v10) kh120
  else
    gd (inB v8 169) <|
    f_X10_waysOf_206 V v6 v7 v8 v9 v10 (V 88 (ix v8)) (V 89 (ix ((s1 * s0) + v10))) ((s1 * s0) + v10) kh120
set_option maxHeartbeats 4000000 in
set_option maxRecDepth 100000 in
theorem t_X10_waysOf_180 (S : SI) (T : SL) (U : SI) (V : SL) (v1 : Int32) (v2 : Int32) (v3 : Int32) (v4 : Int32) (v5 : Int32) (v6 : Int32) (v7 : Int32) (v8 : Int32) (v9 : Int32) (v10 : Int32) (s0 : Int32) (s1 : Int32) (kh120 : Int32 → SL → Option (Int64 × SL)) (hkh120 : ∀ (w8 : Int32) (V' : SL), Run 3 yX10_waysOf cX10_waysOf 11 (some .long) none (fun a : Int64 × SL => (some (.long a.1), (S, T, U, a.2))) 120 [(0, .ref 78), (1, .int v1), (2, .int v2), (3, .int v3), (4, .int v4), (5, .int v5), (6, .int v6), (7, .int v7), (8, .int w8)] [] (S, T, U, V') (kh120 w8 V')) : Run 3 yX10_waysOf cX10_waysOf 11 (some .long) none (fun a : Int64 × SL => (some (.long a.1), (S, T, U, a.2))) 180 [(0, .ref 78), (1, .int v1), (2, .int v2), (3, .int v3), (4, .int v4), (5, .int v5), (6, .int v6), (7, .int v7), (8, .int v8), (9, .int v9), (10, .int v10)] [.int s0, .int s1, .ref 89] (S, T, U, V) (f_X10_waysOf_180 V v6 v7 v8 v9 v10 s0 s1 kh120) := by
  rw [f_X10_waysOf_180]
  refine r_imul dX10_waysOf_180 ?_
  refine r_iload dX10_waysOf_181 10 rfl ?_
  refine r_iadd dX10_waysOf_183 ?_
  refine r_dup2 dX10_waysOf_184 rfl rfl ?_
  refine rm_lald dX10_waysOf_185 (by decide) (by decide) rfl (fun h24 => ?_)
  refine r_iload dX10_waysOf_186 7 rfl ?_
  refine r_iconst (v := (0 : Int32)) dX10_waysOf_188 rfl ?_
  refine rS_i (as := [.int v7, .int (0 : Int32)]) (st := [.long (V 89 (ix ((s1 * s0) + v10))), .int ((s1 * s0) + v10), .ref 89]) dX10_waysOf_189 cl_X10_136 (m_X10_has S T U V v7 (0 : Int32)) (by decide) rfl (Nat.le_of_ble_eq_true rfl) (fun q25 _ => ?_)
  refine r_if_eq (tgt := 205) dX10_waysOf_192 (by decide) (fun h26 => ?_) (fun h26 => ?_)
  · refine r_lconst (v := (0 : Int64)) dX10_waysOf_205 rfl ?_
    exact r_pick [0, 1, 2, 3, 4, 5, 6, 7, 8, 9, 10] rfl (t_X10_waysOf_206 S T U V v1 v2 v3 v4 v5 v6 v7 v8 v9 v10 (0 : Int64) (V 89 (ix ((s1 * s0) + v10))) ((s1 * s0) + v10) kh120 hkh120)
  · refine r_aload_n dX10_waysOf_195 0 rfl rfl ?_
    refine r_getr dX10_waysOf_196 fl_X10_38 (by decide) rfl rfl (by decide) ?_
    refine r_iload dX10_waysOf_199 8 rfl ?_
    refine rm_lald dX10_waysOf_201 (by decide) (by decide) rfl (fun h42 => ?_)
    refine r_goto (tgt := 206) dX10_waysOf_202 (by decide) ?_
    exact r_pick [0, 1, 2, 3, 4, 5, 6, 7, 8, 9, 10] rfl (t_X10_waysOf_206 S T U V v1 v2 v3 v4 v5 v6 v7 v8 v9 v10 (V 88 (ix v8)) (V 89 (ix ((s1 * s0) + v10))) ((s1 * s0) + v10) kh120 hkh120)
def f_X10_waysOf_120 (v6 : Int32) (v7 : Int32) (ke298 : SL → Option (Int64 × SL)) : Nat → Int32 → SL → Option (Int64 × SL)
  | 0, _, _ => none
  | m_ + 1, v8, V =>
    if (169 : Int32) ≤ v8 then
      ke298 V
    else
      gd (inB v8 169) <|
      if (V 88 (ix v8)) ≤ (0 : Int64) then
        (f_X10_waysOf_120 v6 v7 ke298 m_) (v8 + (1 : Int32)) V
      else
        if (13 : Int32) = 0 then none else
        nm (v8 / (13 : Int32)) fun x20 =>
        if (13 : Int32) = 0 then none else
        nm (v8 - v8 / (13 : Int32) * (13 : Int32)) fun x22 =>
        if (x20 + v6) ≤ (12 : Int32) then
          f_X10_waysOf_180 V v6 v7 v8 x20 x22 (x20 + v6) (13 : Int32) (f_X10_waysOf_120 v6 v7 ke298 m_)
        else
          f_X10_waysOf_180 V v6 v7 v8 x20 x22 (12 : Int32) (13 : Int32) (f_X10_waysOf_120 v6 v7 ke298 m_)
set_option maxHeartbeats 4000000 in
set_option maxRecDepth 100000 in
theorem t_X10_waysOf_120 (S : SI) (T : SL) (U : SI) (v1 : Int32) (v2 : Int32) (v3 : Int32) (v4 : Int32) (v5 : Int32) (v6 : Int32) (v7 : Int32) (ke298 : SL → Option (Int64 × SL)) (hke298 : ∀ (V' : SL), Run 3 yX10_waysOf cX10_waysOf 11 (some .long) none (fun a : Int64 × SL => (some (.long a.1), (S, T, U, a.2))) 298 [(0, .ref 78), (1, .int v1), (2, .int v2), (3, .int v3), (4, .int v4), (5, .int v5)] [] (S, T, U, V') (ke298 V')) : ∀ (m_ : Nat) (v8 : Int32) (V : SL), Run 3 yX10_waysOf cX10_waysOf 11 (some .long) none (fun a : Int64 × SL => (some (.long a.1), (S, T, U, a.2))) 120 [(0, .ref 78), (1, .int v1), (2, .int v2), (3, .int v3), (4, .int v4), (5, .int v5), (6, .int v6), (7, .int v7), (8, .int v8)] [] (S, T, U, V) (f_X10_waysOf_120 v6 v7 ke298 m_ v8 V) := by
  intro m_
  induction m_ with
  | zero =>
    intro v8 V
    rw [f_X10_waysOf_120]
    exact r_none
  | succ m_ ih =>
    intro v8 V
    rw [f_X10_waysOf_120]
    refine r_iload dX10_waysOf_120 8 rfl ?_
    refine r_sipush (v := (169 : Int32)) dX10_waysOf_122 rfl ?_
    refine r_icmp_ge (tgt := 298) dX10_waysOf_125 (by decide) (fun h16 => ?_) (fun h16 => ?_)
    · exact r_pick [0, 1, 2, 3, 4, 5] rfl (hke298 V)
    · refine r_aload_n dX10_waysOf_128 0 rfl rfl ?_
      refine r_getr dX10_waysOf_129 fl_X10_38 (by decide) rfl rfl (by decide) ?_
      refine r_iload dX10_waysOf_132 8 rfl ?_
      refine rm_lald dX10_waysOf_134 (by decide) (by decide) rfl (fun h17 => ?_)
      refine r_lconst (v := (0 : Int64)) dX10_waysOf_135 rfl ?_
      refine r_lcmp_le (tgt := 292) dX10_waysOf_136 dX10_waysOf_137 (by decide) (fun h18 => ?_) (fun h18 => ?_)
      · refine r_iinc (v := v8 + (1 : Int32)) (L' := [(8, .int (v8 + (1 : Int32))), (0, .ref 78), (1, .int v1), (2, .int v2), (3, .int v3), (4, .int v4), (5, .int v5), (6, .int v6), (7, .int v7)]) dX10_waysOf_292 8 rfl rfl (by decide) rfl ?_
        refine r_goto (tgt := 120) dX10_waysOf_295 (by decide) ?_
        exact r_pick [1, 2, 3, 4, 5, 6, 7, 8, 0] rfl (ih (v8 + (1 : Int32)) V)
      · refine r_iload dX10_waysOf_140 8 rfl ?_
        refine r_bipush (v := (13 : Int32)) dX10_waysOf_142 rfl ?_
        refine r_idiv dX10_waysOf_144 (fun h19 => ?_)
        refine r_nmi (fun x20 => ?_)
        refine r_istore (L' := [(9, .int x20), (0, .ref 78), (1, .int v1), (2, .int v2), (3, .int v3), (4, .int v4), (5, .int v5), (6, .int v6), (7, .int v7), (8, .int v8)]) dX10_waysOf_145 (by decide) rfl ?_
        refine r_iload dX10_waysOf_147 9 rfl ?_
        refine r_bipush (v := (13 : Int32)) dX10_waysOf_149 rfl ?_
        refine r_irem dX10_waysOf_151 (fun h21 => ?_)
        refine r_nmi (fun x22 => ?_)
        refine r_istore (L' := [(10, .int x22), (9, .int x20), (0, .ref 78), (1, .int v1), (2, .int v2), (3, .int v3), (4, .int v4), (5, .int v5), (6, .int v6), (7, .int v7), (8, .int v8)]) dX10_waysOf_152 (by decide) rfl ?_
        refine r_aload_n dX10_waysOf_154 2 rfl rfl ?_
        refine r_getr dX10_waysOf_155 fl_X10_41 (by decide) rfl rfl (by decide) ?_
        refine r_bipush (v := (13 : Int32)) dX10_waysOf_158 rfl ?_
        refine r_iload dX10_waysOf_160 1 rfl ?_
        refine r_iload dX10_waysOf_162 8 rfl ?_
        refine r_iadd dX10_waysOf_164 ?_
        refine r_bipush (v := (12 : Int32)) dX10_waysOf_165 rfl ?_
        refine r_icmp_le (tgt := 175) dX10_waysOf_167 (by decide) (fun h23 => ?_) (fun h23 => ?_)
        · refine r_iload dX10_waysOf_175 1 rfl ?_
          refine r_iload dX10_waysOf_177 8 rfl ?_
          refine r_iadd dX10_waysOf_179 ?_
          exact r_pick [2, 3, 4, 5, 6, 7, 8, 9, 10, 1, 0] rfl (t_X10_waysOf_180 S T U V v1 v2 v3 v4 v5 v6 v7 v8 x20 x22 (x20 + v6) (13 : Int32) (f_X10_waysOf_120 v6 v7 ke298 m_) ih)
        · refine r_bipush (v := (12 : Int32)) dX10_waysOf_170 rfl ?_
          refine r_goto (tgt := 180) dX10_waysOf_172 (by decide) ?_
          exact r_pick [2, 3, 4, 5, 6, 7, 8, 9, 10, 1, 0] rfl (t_X10_waysOf_180 S T U V v1 v2 v3 v4 v5 v6 v7 v8 x20 x22 (12 : Int32) (13 : Int32) (f_X10_waysOf_120 v6 v7 ke298 m_) ih)
def f_X10_waysOf_301 (ke329 : SL → Option (Int64 × SL)) : Nat → Int32 → SL → Option (Int64 × SL)
  | 0, _, _ => none
  | m_ + 1, v8, V =>
    if (169 : Int32) ≤ v8 then
      ke329 V
    else
      gd (inB v8 169) <|
      gd (inB v8 169) <|
      nm (up2 V 88 (ix v8) (V 89 (ix v8))) fun V46 =>
      (f_X10_waysOf_301 ke329 m_) (v8 + (1 : Int32)) V46
set_option maxHeartbeats 4000000 in
set_option maxRecDepth 100000 in
theorem t_X10_waysOf_301 (S : SI) (T : SL) (U : SI) (v1 : Int32) (v2 : Int32) (v3 : Int32) (v4 : Int32) (v5 : Int32) (ke329 : SL → Option (Int64 × SL)) (hke329 : ∀ (V' : SL), Run 3 yX10_waysOf cX10_waysOf 11 (some .long) none (fun a : Int64 × SL => (some (.long a.1), (S, T, U, a.2))) 329 [(0, .ref 78), (1, .int v1), (2, .int v2), (3, .int v3), (4, .int v4), (5, .int v5)] [] (S, T, U, V') (ke329 V')) : ∀ (m_ : Nat) (v8 : Int32) (V : SL), Run 3 yX10_waysOf cX10_waysOf 11 (some .long) none (fun a : Int64 × SL => (some (.long a.1), (S, T, U, a.2))) 301 [(0, .ref 78), (1, .int v1), (2, .int v2), (3, .int v3), (4, .int v4), (5, .int v5), (8, .int v8)] [] (S, T, U, V) (f_X10_waysOf_301 ke329 m_ v8 V) := by
  intro m_
  induction m_ with
  | zero =>
    intro v8 V
    rw [f_X10_waysOf_301]
    exact r_none
  | succ m_ ih =>
    intro v8 V
    rw [f_X10_waysOf_301]
    refine r_iload dX10_waysOf_301 6 rfl ?_
    refine r_sipush (v := (169 : Int32)) dX10_waysOf_303 rfl ?_
    refine r_icmp_ge (tgt := 329) dX10_waysOf_306 (by decide) (fun h43 => ?_) (fun h43 => ?_)
    · exact r_pick [0, 1, 2, 3, 4, 5] rfl (hke329 V)
    · refine r_aload_n dX10_waysOf_309 0 rfl rfl ?_
      refine r_getr dX10_waysOf_310 fl_X10_38 (by decide) rfl rfl (by decide) ?_
      refine r_iload dX10_waysOf_313 6 rfl ?_
      refine r_aload_n dX10_waysOf_315 0 rfl rfl ?_
      refine r_getr dX10_waysOf_316 fl_X10_41 (by decide) rfl rfl (by decide) ?_
      refine r_iload dX10_waysOf_319 6 rfl ?_
      refine rm_lald dX10_waysOf_321 (by decide) (by decide) rfl (fun h44 => ?_)
      refine rm_last dX10_waysOf_322 (by decide) (by decide) rfl (fun h45 => ?_)
      refine r_nmV (fun V46 => ?_)
      refine r_iinc (v := v8 + (1 : Int32)) (L' := [(8, .int (v8 + (1 : Int32))), (0, .ref 78), (1, .int v1), (2, .int v2), (3, .int v3), (4, .int v4), (5, .int v5)]) dX10_waysOf_323 6 rfl rfl (by decide) rfl ?_
      refine r_goto (tgt := 301) dX10_waysOf_326 (by decide) ?_
      exact r_pick [1, 2, 3, 4, 5, 6, 0] rfl (ih (v8 + (1 : Int32)) V46)
def f_X10_waysOf_298 (V : SL) (v4 : Int32) (v5 : Int32) (kh40 : Int32 → Int32 → SL → Option (Int64 × SL)) : Option (Int64 × SL) :=
  f_X10_waysOf_301 (fun Vo => f_X10_waysOf_329 Vo v4 v5 kh40) fu (0 : Int32) V
set_option maxHeartbeats 4000000 in
set_option maxRecDepth 100000 in
theorem t_X10_waysOf_298 (S : SI) (T : SL) (U : SI) (V : SL) (v1 : Int32) (v2 : Int32) (v3 : Int32) (v4 : Int32) (v5 : Int32) (kh40 : Int32 → Int32 → SL → Option (Int64 × SL)) (hkh40 : ∀ (w4 : Int32) (w5 : Int32) (V' : SL), Run 3 yX10_waysOf cX10_waysOf 11 (some .long) none (fun a : Int64 × SL => (some (.long a.1), (S, T, U, a.2))) 40 [(0, .ref 78), (1, .int v1), (2, .int v2), (3, .int v3), (4, .int w4), (5, .int w5)] [] (S, T, U, V') (kh40 w4 w5 V')) : Run 3 yX10_waysOf cX10_waysOf 11 (some .long) none (fun a : Int64 × SL => (some (.long a.1), (S, T, U, a.2))) 298 [(0, .ref 78), (1, .int v1), (2, .int v2), (3, .int v3), (4, .int v4), (5, .int v5)] [] (S, T, U, V) (f_X10_waysOf_298 V v4 v5 kh40) := by
  rw [f_X10_waysOf_298]
  refine r_iconst (v := (0 : Int32)) dX10_waysOf_298 rfl ?_
  refine r_istore (L' := [(8, .int (0 : Int32)), (0, .ref 78), (1, .int v1), (2, .int v2), (3, .int v3), (4, .int v4), (5, .int v5)]) dX10_waysOf_299 (by decide) rfl ?_
  exact r_pick [1, 2, 3, 4, 5, 6, 0] rfl (t_X10_waysOf_301 S T U v1 v2 v3 v4 v5 (fun Vo => f_X10_waysOf_329 Vo v4 v5 kh40) (fun Vo => r_pick [0, 1, 2, 3, 4, 5] rfl (t_X10_waysOf_329 S T U Vo v1 v2 v3 v4 v5 kh40 hkh40)) fu (0 : Int32) V)
def f_X10_waysOf_117 (V : SL) (v4 : Int32) (v5 : Int32) (v6 : Int32) (v7 : Int32) (kh40 : Int32 → Int32 → SL → Option (Int64 × SL)) : Option (Int64 × SL) :=
  f_X10_waysOf_120 v6 v7 (fun Vo => f_X10_waysOf_298 Vo v4 v5 kh40) fu (0 : Int32) V
set_option maxHeartbeats 4000000 in
set_option maxRecDepth 100000 in
theorem t_X10_waysOf_117 (S : SI) (T : SL) (U : SI) (V : SL) (v1 : Int32) (v2 : Int32) (v3 : Int32) (v4 : Int32) (v5 : Int32) (v6 : Int32) (v7 : Int32) (kh40 : Int32 → Int32 → SL → Option (Int64 × SL)) (hkh40 : ∀ (w4 : Int32) (w5 : Int32) (V' : SL), Run 3 yX10_waysOf cX10_waysOf 11 (some .long) none (fun a : Int64 × SL => (some (.long a.1), (S, T, U, a.2))) 40 [(0, .ref 78), (1, .int v1), (2, .int v2), (3, .int v3), (4, .int w4), (5, .int w5)] [] (S, T, U, V') (kh40 w4 w5 V')) : Run 3 yX10_waysOf cX10_waysOf 11 (some .long) none (fun a : Int64 × SL => (some (.long a.1), (S, T, U, a.2))) 117 [(0, .ref 78), (1, .int v1), (2, .int v2), (3, .int v3), (4, .int v4), (5, .int v5), (6, .int v6), (7, .int v7)] [] (S, T, U, V) (f_X10_waysOf_117 V v4 v5 v6 v7 kh40) := by
  rw [f_X10_waysOf_117]
  refine r_iconst (v := (0 : Int32)) dX10_waysOf_117 rfl ?_
  refine r_istore (L' := [(8, .int (0 : Int32)), (0, .ref 78), (1, .int v1), (2, .int v2), (3, .int v3), (4, .int v4), (5, .int v5), (6, .int v6), (7, .int v7)]) dX10_waysOf_118 (by decide) rfl ?_
  exact r_pick [1, 2, 3, 4, 5, 6, 7, 8, 0] rfl (t_X10_waysOf_120 S T U v1 v2 v3 v4 v5 v6 v7 (fun Vo => f_X10_waysOf_298 Vo v4 v5 kh40) (fun Vo => r_pick [0, 1, 2, 3, 4, 5] rfl (t_X10_waysOf_298 S T U Vo v1 v2 v3 v4 v5 kh40 hkh40)) fu (0 : Int32) V)
def f_X10_waysOf_40 (U : SI) (v1 : Int32) (v2 : Int32) (v3 : Int32) (ke335 : Int32 → SL → Option (Int64 × SL)) : Nat → Int32 → Int32 → SL → Option (Int64 × SL)
  | 0, _, _, _ => none
  | m_ + 1, v4, v5, V =>
    gd (inB (0 : Int32) 205) <|
    if (U 79 (ix (0 : Int32))) ≤ v5 then
      ke335 v4 V
    else
      (f_X10_sizeOf U v5).bind fun q7 =>
      if q7 ≤ 0 then
        f_X10_waysOf_329 V v4 v5 (f_X10_waysOf_40 U v1 v2 v3 ke335 m_)
      else
        (f_X10_of U v5 (0 : Int32)).bind fun q9 =>
        if q9 = v1 then
          nm (v4 + q7) fun x11 =>
          (f_X10_mayOf U v5 v2 v3).bind fun q12 =>
          f_X10_waysOf_95 (fun Vo => f_X10_waysOf_117 Vo x11 v5 q7 q12 (f_X10_waysOf_40 U v1 v2 v3 ke335 m_)) fu (0 : Int32) V
        else
          f_X10_waysOf_329 V v4 v5 (f_X10_waysOf_40 U v1 v2 v3 ke335 m_)
set_option maxHeartbeats 4000000 in
set_option maxRecDepth 100000 in
theorem t_X10_waysOf_40 (S : SI) (T : SL) (U : SI) (v1 : Int32) (v2 : Int32) (v3 : Int32) (ke335 : Int32 → SL → Option (Int64 × SL)) (hke335 : ∀ (w4 : Int32) (V' : SL), Run 3 yX10_waysOf cX10_waysOf 11 (some .long) none (fun a : Int64 × SL => (some (.long a.1), (S, T, U, a.2))) 335 [(0, .ref 78), (1, .int v1), (4, .int w4)] [] (S, T, U, V') (ke335 w4 V')) : ∀ (m_ : Nat) (v4 : Int32) (v5 : Int32) (V : SL), Run 3 yX10_waysOf cX10_waysOf 11 (some .long) none (fun a : Int64 × SL => (some (.long a.1), (S, T, U, a.2))) 40 [(0, .ref 78), (1, .int v1), (2, .int v2), (3, .int v3), (4, .int v4), (5, .int v5)] [] (S, T, U, V) (f_X10_waysOf_40 U v1 v2 v3 ke335 m_ v4 v5 V) := by
  intro m_
  induction m_ with
  | zero =>
    intro v4 v5 V
    rw [f_X10_waysOf_40]
    exact r_none
  | succ m_ ih =>
    intro v4 v5 V
    rw [f_X10_waysOf_40]
    refine r_iload dX10_waysOf_40 5 rfl ?_
    refine r_aload_n dX10_waysOf_42 0 rfl rfl ?_
    refine r_getr dX10_waysOf_43 fl_X10_7 (by decide) rfl rfl (by decide) ?_
    refine r_iconst (v := (0 : Int32)) dX10_waysOf_46 rfl ?_
    refine rm_iald dX10_waysOf_47 (by decide) (by decide) rfl (fun h5 => ?_)
    refine r_icmp_ge (tgt := 335) dX10_waysOf_48 (by decide) (fun h6 => ?_) (fun h6 => ?_)
    · exact r_pick [0, 1, 4] rfl (hke335 v4 V)
    · refine r_aload_n dX10_waysOf_51 0 rfl rfl ?_
      refine r_iload dX10_waysOf_52 5 rfl ?_
      refine rV_i (as := [.int v5]) (st := []) dX10_waysOf_54 cl_X10_212 (by decide) rfl rfl (m_X10_sizeOf S T U V v5) (by decide) rfl (Nat.le_of_ble_eq_true rfl) (fun q7 _ => ?_)
      refine r_istore (L' := [(6, .int q7), (0, .ref 78), (1, .int v1), (2, .int v2), (3, .int v3), (4, .int v4), (5, .int v5)]) dX10_waysOf_57 (by decide) rfl ?_
      refine r_iload dX10_waysOf_59 0 rfl ?_
      refine r_if_le (tgt := 329) dX10_waysOf_61 (by decide) (fun h8 => ?_) (fun h8 => ?_)
      · exact r_pick [1, 2, 3, 4, 5, 6] rfl (t_X10_waysOf_329 S T U V v1 v2 v3 v4 v5 (f_X10_waysOf_40 U v1 v2 v3 ke335 m_) ih)
      · refine r_aload_n dX10_waysOf_64 1 rfl rfl ?_
        refine r_iload dX10_waysOf_65 6 rfl ?_
        refine r_iconst (v := (0 : Int32)) dX10_waysOf_67 rfl ?_
        refine rV_i (as := [.int v5, .int (0 : Int32)]) (st := []) dX10_waysOf_68 cl_X10_67 (by decide) rfl rfl (m_X10_of S T U V v5 (0 : Int32)) (by decide) rfl (Nat.le_of_ble_eq_true rfl) (fun q9 _ => ?_)
        refine r_iload_n dX10_waysOf_71 2 rfl rfl ?_
        refine r_icmp_ne (tgt := 329) dX10_waysOf_72 (by decide) (fun h10 => ?_) (fun h10 => ?_)
        · refine r_iload dX10_waysOf_75 5 rfl ?_
          refine r_iload dX10_waysOf_77 0 rfl ?_
          refine r_iadd dX10_waysOf_79 ?_
          refine r_nmi (fun x11 => ?_)
          refine r_istore (L' := [(4, .int x11), (6, .int q7), (0, .ref 78), (1, .int v1), (2, .int v2), (3, .int v3), (5, .int v5)]) dX10_waysOf_80 (by decide) rfl ?_
          refine r_aload_n dX10_waysOf_82 2 rfl rfl ?_
          refine r_iload dX10_waysOf_83 6 rfl ?_
          refine r_iload_n dX10_waysOf_85 4 rfl rfl ?_
          refine r_iload_n dX10_waysOf_86 5 rfl rfl ?_
          refine rV_i (as := [.int v5, .int v2, .int v3]) (st := []) dX10_waysOf_87 cl_X10_215 (by decide) rfl rfl (m_X10_mayOf S T U V v5 v2 v3) (by decide) rfl (Nat.le_of_ble_eq_true rfl) (fun q12 _ => ?_)
          refine r_istore (L' := [(7, .int q12), (4, .int x11), (6, .int q7), (0, .ref 78), (1, .int v1), (2, .int v2), (3, .int v3), (5, .int v5)]) dX10_waysOf_90 (by decide) rfl ?_
          refine r_iconst (v := (0 : Int32)) dX10_waysOf_92 rfl ?_
          refine r_istore (L' := [(8, .int (0 : Int32)), (7, .int q12), (4, .int x11), (6, .int q7), (0, .ref 78), (1, .int v1), (2, .int v2), (3, .int v3), (5, .int v5)]) dX10_waysOf_93 (by decide) rfl ?_
          exact r_pick [4, 5, 6, 7, 2, 8, 3, 1, 0] rfl (t_X10_waysOf_95 S T U v1 v2 v3 x11 v5 q7 q12 (fun Vo => f_X10_waysOf_117 Vo x11 v5 q7 q12 (f_X10_waysOf_40 U v1 v2 v3 ke335 m_)) (fun Vo => r_pick [0, 1, 2, 3, 4, 5, 6, 7] rfl (t_X10_waysOf_117 S T U Vo v1 v2 v3 x11 v5 q7 q12 (f_X10_waysOf_40 U v1 v2 v3 ke335 m_) ih)) fu (0 : Int32) V)
        · exact r_pick [1, 2, 3, 4, 5, 6] rfl (t_X10_waysOf_329 S T U V v1 v2 v3 v4 v5 (f_X10_waysOf_40 U v1 v2 v3 ke335 m_) ih)
def f_X10_waysOf_425 (v7 : Int32) (s0 : Int64) (s1 : Int64) (kh341 : Int64 → Int32 → Option (Int64 × SL)) : Option (Int64 × SL) :=
  nm (s1 + s0) fun x52 =>
  kh341 x52 (v7 + (1 : Int32))
set_option maxHeartbeats 4000000 in
set_option maxRecDepth 100000 in
theorem t_X10_waysOf_425 (S : SI) (T : SL) (U : SI) (V : SL) (v1 : Int32) (v4 : Int32) (v7 : Int32) (s0 : Int64) (s1 : Int64) (kh341 : Int64 → Int32 → Option (Int64 × SL)) (hkh341 : ∀ (w5 : Int64) (w7 : Int32), Run 3 yX10_waysOf cX10_waysOf 11 (some .long) none (fun a : Int64 × SL => (some (.long a.1), (S, T, U, a.2))) 341 [(0, .ref 78), (1, .int v1), (4, .int v4), (5, .long w5), (7, .int w7)] [] (S, T, U, V) (kh341 w5 w7)) : Run 3 yX10_waysOf cX10_waysOf 11 (some .long) none (fun a : Int64 × SL => (some (.long a.1), (S, T, U, a.2))) 425 [(0, .ref 78), (1, .int v1), (4, .int v4), (7, .int v7)] [.long s0, .long s1] (S, T, U, V) (f_X10_waysOf_425 v7 s0 s1 kh341) := by
  rw [f_X10_waysOf_425]
  refine r_ladd dX10_waysOf_425 ?_
  refine r_nml (fun x52 => ?_)
  refine r_lstore (L' := [(5, .long x52), (0, .ref 78), (1, .int v1), (4, .int v4), (7, .int v7)]) dX10_waysOf_426 (by decide) rfl ?_
  refine r_iinc (v := v7 + (1 : Int32)) (L' := [(7, .int (v7 + (1 : Int32))), (5, .long x52), (0, .ref 78), (1, .int v1), (4, .int v4)]) dX10_waysOf_428 4 rfl rfl (by decide) rfl ?_
  refine r_goto (tgt := 341) dX10_waysOf_431 (by decide) ?_
  exact r_pick [2, 3, 4, 1, 0] rfl (hkh341 x52 (v7 + (1 : Int32)))
def f_X10_waysOf_405 (V : SL) (v5 : Int64) (v7 : Int32) (s0 : Int32) (kh341 : Int64 → Int32 → Option (Int64 × SL)) : Option (Int64 × SL) :=
  if s0 = 0 then
    f_X10_waysOf_425 v7 (0 : Int64) v5 kh341
  else
    gd (inB v7 169) <|
    f_X10_waysOf_425 v7 (V 88 (ix v7)) v5 kh341
set_option maxHeartbeats 4000000 in
set_option maxRecDepth 100000 in
theorem t_X10_waysOf_405 (S : SI) (T : SL) (U : SI) (V : SL) (v1 : Int32) (v4 : Int32) (v5 : Int64) (v7 : Int32) (s0 : Int32) (kh341 : Int64 → Int32 → Option (Int64 × SL)) (hkh341 : ∀ (w5 : Int64) (w7 : Int32), Run 3 yX10_waysOf cX10_waysOf 11 (some .long) none (fun a : Int64 × SL => (some (.long a.1), (S, T, U, a.2))) 341 [(0, .ref 78), (1, .int v1), (4, .int v4), (5, .long w5), (7, .int w7)] [] (S, T, U, V) (kh341 w5 w7)) : Run 3 yX10_waysOf cX10_waysOf 11 (some .long) none (fun a : Int64 × SL => (some (.long a.1), (S, T, U, a.2))) 405 [(0, .ref 78), (1, .int v1), (4, .int v4), (5, .long v5), (7, .int v7)] [.int s0] (S, T, U, V) (f_X10_waysOf_405 V v5 v7 s0 kh341) := by
  rw [f_X10_waysOf_405]
  refine r_istore (L' := [(8, .int s0), (0, .ref 78), (1, .int v1), (4, .int v4), (5, .long v5), (7, .int v7)]) dX10_waysOf_405 (by decide) rfl ?_
  refine r_lload dX10_waysOf_407 4 rfl ?_
  refine r_iload dX10_waysOf_409 0 rfl ?_
  refine r_if_eq (tgt := 424) dX10_waysOf_411 (by decide) (fun h51 => ?_) (fun h51 => ?_)
  · refine r_lconst (v := (0 : Int64)) dX10_waysOf_424 rfl ?_
    exact r_pick [1, 2, 3, 5] rfl (t_X10_waysOf_425 S T U V v1 v4 v7 (0 : Int64) v5 kh341 hkh341)
  · refine r_aload_n dX10_waysOf_414 1 rfl rfl ?_
    refine r_getr dX10_waysOf_415 fl_X10_38 (by decide) rfl rfl (by decide) ?_
    refine r_iload dX10_waysOf_418 5 rfl ?_
    refine rm_lald dX10_waysOf_420 (by decide) (by decide) rfl (fun h53 => ?_)
    refine r_goto (tgt := 425) dX10_waysOf_421 (by decide) ?_
    exact r_pick [1, 2, 3, 5] rfl (t_X10_waysOf_425 S T U V v1 v4 v7 (V 88 (ix v7)) v5 kh341 hkh341)
def f_X10_waysOf_341 (U : SI) (V : SL) (v1 : Int32) (v4 : Int32) : Nat → Int64 → Int32 → Option (Int64 × SL)
  | 0, _, _ => none
  | m_ + 1, v5, v7 =>
    if (169 : Int32) ≤ v7 then
      some (v5, V)
    else
      if (13 : Int32) = 0 then none else
      (f_X10_isOwned U (0 : Int32) v1 (v7 / (13 : Int32))).bind fun q49 =>
      if q49 = 0 then
        f_X10_waysOf_405 V v5 v7 (0 : Int32) (f_X10_waysOf_341 U V v1 v4 m_)
      else
        if (13 : Int32) = 0 then none else
        (f_X10_isOwned U (1 : Int32) v1 (v7 - v7 / (13 : Int32) * (13 : Int32))).bind fun q55 =>
        if q55 = 0 then
          f_X10_waysOf_405 V v5 v7 (0 : Int32) (f_X10_waysOf_341 U V v1 v4 m_)
        else
          if (13 : Int32) = 0 then none else
          if (13 : Int32) = 0 then none else
          (f_X10_isOwned U (2 : Int32) v1 ((v4 - (v7 / (13 : Int32))) - (v7 - v7 / (13 : Int32) * (13 : Int32)))).bind fun q59 =>
          if q59 = 0 then
            f_X10_waysOf_405 V v5 v7 (0 : Int32) (f_X10_waysOf_341 U V v1 v4 m_)
          else
            f_X10_waysOf_405 V v5 v7 (1 : Int32) (f_X10_waysOf_341 U V v1 v4 m_)
set_option maxHeartbeats 4000000 in
set_option maxRecDepth 100000 in
theorem t_X10_waysOf_341 (S : SI) (T : SL) (U : SI) (V : SL) (v1 : Int32) (v4 : Int32) : ∀ (m_ : Nat) (v5 : Int64) (v7 : Int32), Run 3 yX10_waysOf cX10_waysOf 11 (some .long) none (fun a : Int64 × SL => (some (.long a.1), (S, T, U, a.2))) 341 [(0, .ref 78), (1, .int v1), (4, .int v4), (5, .long v5), (7, .int v7)] [] (S, T, U, V) (f_X10_waysOf_341 U V v1 v4 m_ v5 v7) := by
  intro m_
  induction m_ with
  | zero =>
    intro v5 v7
    rw [f_X10_waysOf_341]
    exact r_none
  | succ m_ ih =>
    intro v5 v7
    rw [f_X10_waysOf_341]
    refine r_iload dX10_waysOf_341 4 rfl ?_
    refine r_sipush (v := (169 : Int32)) dX10_waysOf_343 rfl ?_
    refine r_icmp_ge (tgt := 434) dX10_waysOf_346 (by decide) (fun h47 => ?_) (fun h47 => ?_)
    · refine r_lload dX10_waysOf_434 3 rfl ?_
      exact r_lreturn dX10_waysOf_436 rfl rfl
    · refine r_aload_n dX10_waysOf_349 0 rfl rfl ?_
      refine r_iconst (v := (0 : Int32)) dX10_waysOf_350 rfl ?_
      refine r_iload_n dX10_waysOf_351 1 rfl rfl ?_
      refine r_iload dX10_waysOf_352 4 rfl ?_
      refine r_bipush (v := (13 : Int32)) dX10_waysOf_354 rfl ?_
      refine r_idiv dX10_waysOf_356 (fun h48 => ?_)
      refine rV_i (as := [.int (0 : Int32), .int v1, .int (v7 / (13 : Int32))]) (st := []) dX10_waysOf_357 cl_X10_218 (by decide) rfl rfl (m_X10_isOwned S T U V (0 : Int32) v1 (v7 / (13 : Int32))) (by decide) rfl (Nat.le_of_ble_eq_true rfl) (fun q49 _ => ?_)
      refine r_if_eq (tgt := 404) dX10_waysOf_360 (by decide) (fun h50 => ?_) (fun h50 => ?_)
      · refine r_iconst (v := (0 : Int32)) dX10_waysOf_404 rfl ?_
        exact r_pick [0, 1, 2, 3, 4] rfl (t_X10_waysOf_405 S T U V v1 v4 v5 v7 (0 : Int32) (f_X10_waysOf_341 U V v1 v4 m_) ih)
      · refine r_aload_n dX10_waysOf_363 0 rfl rfl ?_
        refine r_iconst (v := (1 : Int32)) dX10_waysOf_364 rfl ?_
        refine r_iload_n dX10_waysOf_365 1 rfl rfl ?_
        refine r_iload dX10_waysOf_366 4 rfl ?_
        refine r_bipush (v := (13 : Int32)) dX10_waysOf_368 rfl ?_
        refine r_irem dX10_waysOf_370 (fun h54 => ?_)
        refine rV_i (as := [.int (1 : Int32), .int v1, .int (v7 - v7 / (13 : Int32) * (13 : Int32))]) (st := []) dX10_waysOf_371 cl_X10_218 (by decide) rfl rfl (m_X10_isOwned S T U V (1 : Int32) v1 (v7 - v7 / (13 : Int32) * (13 : Int32))) (by decide) rfl (Nat.le_of_ble_eq_true rfl) (fun q55 _ => ?_)
        refine r_if_eq (tgt := 404) dX10_waysOf_374 (by decide) (fun h56 => ?_) (fun h56 => ?_)
        · refine r_iconst (v := (0 : Int32)) dX10_waysOf_404 rfl ?_
          exact r_pick [0, 1, 2, 3, 4] rfl (t_X10_waysOf_405 S T U V v1 v4 v5 v7 (0 : Int32) (f_X10_waysOf_341 U V v1 v4 m_) ih)
        · refine r_aload_n dX10_waysOf_377 0 rfl rfl ?_
          refine r_iconst (v := (2 : Int32)) dX10_waysOf_378 rfl ?_
          refine r_iload_n dX10_waysOf_379 1 rfl rfl ?_
          refine r_iload dX10_waysOf_380 2 rfl ?_
          refine r_iload dX10_waysOf_382 4 rfl ?_
          refine r_bipush (v := (13 : Int32)) dX10_waysOf_384 rfl ?_
          refine r_idiv dX10_waysOf_386 (fun h57 => ?_)
          refine r_isub dX10_waysOf_387 ?_
          refine r_iload dX10_waysOf_388 4 rfl ?_
          refine r_bipush (v := (13 : Int32)) dX10_waysOf_390 rfl ?_
          refine r_irem dX10_waysOf_392 (fun h58 => ?_)
          refine r_isub dX10_waysOf_393 ?_
          refine rV_i (as := [.int (2 : Int32), .int v1, .int ((v4 - (v7 / (13 : Int32))) - (v7 - v7 / (13 : Int32) * (13 : Int32)))]) (st := []) dX10_waysOf_394 cl_X10_218 (by decide) rfl rfl (m_X10_isOwned S T U V (2 : Int32) v1 ((v4 - (v7 / (13 : Int32))) - (v7 - v7 / (13 : Int32) * (13 : Int32)))) (by decide) rfl (Nat.le_of_ble_eq_true rfl) (fun q59 _ => ?_)
          refine r_if_eq (tgt := 404) dX10_waysOf_397 (by decide) (fun h60 => ?_) (fun h60 => ?_)
          · refine r_iconst (v := (0 : Int32)) dX10_waysOf_404 rfl ?_
            exact r_pick [0, 1, 2, 3, 4] rfl (t_X10_waysOf_405 S T U V v1 v4 v5 v7 (0 : Int32) (f_X10_waysOf_341 U V v1 v4 m_) ih)
          · refine r_iconst (v := (1 : Int32)) dX10_waysOf_400 rfl ?_
            refine r_goto (tgt := 405) dX10_waysOf_401 (by decide) ?_
            exact r_pick [0, 1, 2, 3, 4] rfl (t_X10_waysOf_405 S T U V v1 v4 v5 v7 (1 : Int32) (f_X10_waysOf_341 U V v1 v4 m_) ih)
def f_X10_waysOf_335 (U : SI) (V : SL) (v1 : Int32) (v4 : Int32) : Option (Int64 × SL) :=
  f_X10_waysOf_341 U V v1 v4 fu (0 : Int64) (0 : Int32)
set_option maxHeartbeats 4000000 in
set_option maxRecDepth 100000 in
theorem t_X10_waysOf_335 (S : SI) (T : SL) (U : SI) (V : SL) (v1 : Int32) (v4 : Int32) : Run 3 yX10_waysOf cX10_waysOf 11 (some .long) none (fun a : Int64 × SL => (some (.long a.1), (S, T, U, a.2))) 335 [(0, .ref 78), (1, .int v1), (4, .int v4)] [] (S, T, U, V) (f_X10_waysOf_335 U V v1 v4) := by
  rw [f_X10_waysOf_335]
  refine r_lconst (v := (0 : Int64)) dX10_waysOf_335 rfl ?_
  refine r_lstore (L' := [(5, .long (0 : Int64)), (0, .ref 78), (1, .int v1), (4, .int v4)]) dX10_waysOf_336 (by decide) rfl ?_
  refine r_iconst (v := (0 : Int32)) dX10_waysOf_338 rfl ?_
  refine r_istore (L' := [(7, .int (0 : Int32)), (5, .long (0 : Int64)), (0, .ref 78), (1, .int v1), (4, .int v4)]) dX10_waysOf_339 (by decide) rfl ?_
  exact r_pick [2, 3, 4, 1, 0] rfl (t_X10_waysOf_341 S T U V v1 v4 fu (0 : Int64) (0 : Int32))
def f_X10_waysOf_34 (U : SI) (V : SL) (v1 : Int32) (v2 : Int32) (v3 : Int32) : Option (Int64 × SL) :=
  f_X10_waysOf_40 U v1 v2 v3 (fun o4 Vo => f_X10_waysOf_335 U Vo v1 o4) fu (0 : Int32) (0 : Int32) V
set_option maxHeartbeats 4000000 in
set_option maxRecDepth 100000 in
theorem t_X10_waysOf_34 (S : SI) (T : SL) (U : SI) (V : SL) (v1 : Int32) (v2 : Int32) (v3 : Int32) : Run 3 yX10_waysOf cX10_waysOf 11 (some .long) none (fun a : Int64 × SL => (some (.long a.1), (S, T, U, a.2))) 34 [(0, .ref 78), (1, .int v1), (2, .int v2), (3, .int v3)] [] (S, T, U, V) (f_X10_waysOf_34 U V v1 v2 v3) := by
  rw [f_X10_waysOf_34]
  refine r_iconst (v := (0 : Int32)) dX10_waysOf_34 rfl ?_
  refine r_istore (L' := [(4, .int (0 : Int32)), (0, .ref 78), (1, .int v1), (2, .int v2), (3, .int v3)]) dX10_waysOf_35 (by decide) rfl ?_
  refine r_iconst (v := (0 : Int32)) dX10_waysOf_37 rfl ?_
  refine r_istore (L' := [(5, .int (0 : Int32)), (4, .int (0 : Int32)), (0, .ref 78), (1, .int v1), (2, .int v2), (3, .int v3)]) dX10_waysOf_38 (by decide) rfl ?_
  exact r_pick [2, 3, 4, 5, 1, 0] rfl (t_X10_waysOf_40 S T U v1 v2 v3 (fun o4 Vo => f_X10_waysOf_335 U Vo v1 o4) (fun o4 Vo => r_pick [0, 1, 2] rfl (t_X10_waysOf_335 S T U Vo v1 o4)) fu (0 : Int32) (0 : Int32) V)
def f_X10_waysOf (U : SI) (V : SL) (v1 : Int32) (v2 : Int32) (v3 : Int32) : Option (Int64 × SL) :=
  f_X10_waysOf_3 (fun Vo => f_X10_waysOf_34 U Vo v1 v2 v3) fu (0 : Int32) V
set_option maxHeartbeats 4000000 in
set_option maxRecDepth 100000 in
theorem m_X10_waysOf (S : SI) (T : SL) (U : SI) (V : SL) (v1 : Int32) (v2 : Int32) (v3 : Int32) : Meth 3 yX10_waysOf cX10_waysOf 11 (some .long) [.ref 78, .int v1, .int v2, .int v3] (S, T, U, V) (f_X10_waysOf U V v1 v2 v3) (fun a : Int64 × SL => (some (.long a.1), (S, T, U, a.2))) := by
  refine meth_of (L := [(0, .ref 78), (1, .int v1), (2, .int v2), (3, .int v3)]) (by decide +kernel) (Nat.le_of_ble_eq_true rfl) rfl ?_
  rw [f_X10_waysOf]
  refine r_iconst (v := (0 : Int32)) dX10_waysOf_0 rfl ?_
  refine r_istore (L' := [(4, .int (0 : Int32)), (0, .ref 78), (1, .int v1), (2, .int v2), (3, .int v3)]) dX10_waysOf_1 (by decide) rfl ?_
  exact r_pick [1, 2, 3, 4, 0] rfl (t_X10_waysOf_3 S T U v1 v2 v3 (fun Vo => f_X10_waysOf_34 U Vo v1 v2 v3) (fun Vo => r_pick [0, 1, 2, 3] rfl (t_X10_waysOf_34 S T U Vo v1 v2 v3)) fu (0 : Int32) V)
def f_X10_allWays_5 (U : SI) (v1 : Int32) (v2 : Int32) : Nat → Int64 → Int32 → SL → Option (Int64 × SL)
  | 0, _, _, _ => none
  | m_ + 1, v3, v5, V =>
    if (6 : Int32) ≤ v5 then
      some (v3, V)
    else
      (f_X10_waysOf U V v5 v1 v2).bind fun q2 =>
      nm (v3 * q2.1) fun x3 =>
      (f_X10_allWays_5 U v1 v2 m_) x3 (v5 + (1 : Int32)) q2.2
set_option maxHeartbeats 4000000 in
set_option maxRecDepth 100000 in
theorem t_X10_allWays_5 (S : SI) (T : SL) (U : SI) (v1 : Int32) (v2 : Int32) : ∀ (m_ : Nat) (v3 : Int64) (v5 : Int32) (V : SL), Run 4 yX10_allWays cX10_allWays 6 (some .long) none (fun a : Int64 × SL => (some (.long a.1), (S, T, U, a.2))) 5 [(0, .ref 78), (1, .int v1), (2, .int v2), (3, .long v3), (5, .int v5)] [] (S, T, U, V) (f_X10_allWays_5 U v1 v2 m_ v3 v5 V) := by
  intro m_
  induction m_ with
  | zero =>
    intro v3 v5 V
    rw [f_X10_allWays_5]
    exact r_none
  | succ m_ ih =>
    intro v3 v5 V
    rw [f_X10_allWays_5]
    refine r_iload dX10_allWays_5 4 rfl ?_
    refine r_bipush (v := (6 : Int32)) dX10_allWays_7 rfl ?_
    refine r_icmp_ge (tgt := 29) dX10_allWays_9 (by decide) (fun h1 => ?_) (fun h1 => ?_)
    · refine r_lload_n dX10_allWays_29 3 rfl rfl ?_
      exact r_lreturn dX10_allWays_30 rfl rfl
    · refine r_lload_n dX10_allWays_12 3 rfl rfl ?_
      refine r_aload_n dX10_allWays_13 0 rfl rfl ?_
      refine r_iload dX10_allWays_14 4 rfl ?_
      refine r_iload_n dX10_allWays_16 1 rfl rfl ?_
      refine r_iload_n dX10_allWays_17 2 rfl rfl ?_
      refine rVm_lT (as := [.int v5, .int v1, .int v2]) (st := [.long v3]) dX10_allWays_18 cl_X10_222 (by decide) rfl rfl (m_X10_waysOf S T U V v5 v1 v2) (by decide) rfl (Nat.le_of_ble_eq_true rfl) (fun q2 _ => ?_)
      refine r_lmul dX10_allWays_21 ?_
      refine r_nml (fun x3 => ?_)
      refine r_lstore_n (L' := [(3, .long x3), (0, .ref 78), (1, .int v1), (2, .int v2), (5, .int v5)]) dX10_allWays_22 rfl (by decide) rfl ?_
      refine r_iinc (v := v5 + (1 : Int32)) (L' := [(5, .int (v5 + (1 : Int32))), (3, .long x3), (0, .ref 78), (1, .int v1), (2, .int v2)]) dX10_allWays_23 4 rfl rfl (by decide) rfl ?_
      refine r_goto (tgt := 5) dX10_allWays_26 (by decide) ?_
      exact r_pick [2, 3, 4, 1, 0] rfl (ih x3 (v5 + (1 : Int32)) q2.2)
def f_X10_allWays (U : SI) (V : SL) (v1 : Int32) (v2 : Int32) : Option (Int64 × SL) :=
  f_X10_allWays_5 U v1 v2 fu (1 : Int64) (0 : Int32) V
set_option maxHeartbeats 4000000 in
set_option maxRecDepth 100000 in
theorem m_X10_allWays (S : SI) (T : SL) (U : SI) (V : SL) (v1 : Int32) (v2 : Int32) : Meth 4 yX10_allWays cX10_allWays 6 (some .long) [.ref 78, .int v1, .int v2] (S, T, U, V) (f_X10_allWays U V v1 v2) (fun a : Int64 × SL => (some (.long a.1), (S, T, U, a.2))) := by
  refine meth_of (L := [(0, .ref 78), (1, .int v1), (2, .int v2)]) (by decide +kernel) (Nat.le_of_ble_eq_true rfl) rfl ?_
  rw [f_X10_allWays]
  refine r_lconst (v := (1 : Int64)) dX10_allWays_0 rfl ?_
  refine r_lstore_n (L' := [(3, .long (1 : Int64)), (0, .ref 78), (1, .int v1), (2, .int v2)]) dX10_allWays_1 rfl (by decide) rfl ?_
  refine r_iconst (v := (0 : Int32)) dX10_allWays_2 rfl ?_
  refine r_istore (L' := [(5, .int (0 : Int32)), (3, .long (1 : Int64)), (0, .ref 78), (1, .int v1), (2, .int v2)]) dX10_allWays_3 (by decide) rfl ?_
  exact r_pick [2, 3, 4, 1, 0] rfl (t_X10_allWays_5 S T U v1 v2 fu (1 : Int64) (0 : Int32) V)
def f_X10_ways (U : SI) (V : SL) : Option (Int64 × SL) :=
  (f_X10_allWays U V (-4 : Int32) (7 : Int32)).bind fun q1 =>
  some (q1.1, q1.2)
set_option maxHeartbeats 4000000 in
set_option maxRecDepth 100000 in
theorem m_X10_ways (S : SI) (T : SL) (U : SI) (V : SL)  : Meth 5 yX10_ways cX10_ways 1 (some .long) [.ref 78] (S, T, U, V) (f_X10_ways U V) (fun a : Int64 × SL => (some (.long a.1), (S, T, U, a.2))) := by
  refine meth_of (L := [(0, .ref 78)]) (by decide +kernel) (Nat.le_of_ble_eq_true rfl) rfl ?_
  rw [f_X10_ways]
  refine r_aload_n dX10_ways_0 0 rfl rfl ?_
  refine r_bipush (v := (-4 : Int32)) dX10_ways_1 rfl ?_
  refine r_bipush (v := (7 : Int32)) dX10_ways_3 rfl ?_
  refine rVm_lT (as := [.int (-4 : Int32), .int (7 : Int32)]) (st := []) dX10_ways_5 cl_X10_226 (by decide) rfl rfl (m_X10_allWays S T U V (-4 : Int32) (7 : Int32)) (by decide) rfl (Nat.le_of_ble_eq_true rfl) (fun q1 _ => ?_)
  exact r_lreturn dX10_ways_8 rfl rfl
def f_X10_whose_40 (V : SL) (v3 : Int32) (s0 : Int32) (s1 : Int32) (kh14 : Int32 → Int32 → SL → Option (Int32 × SL)) : Option (Int32 × SL) :=
  nm (s1 ||| s0) fun x6 =>
  kh14 x6 (v3 + (1 : Int32)) V
set_option maxHeartbeats 4000000 in
set_option maxRecDepth 100000 in
theorem t_X10_whose_40 (S : SI) (T : SL) (U : SI) (V : SL) (v1 : Int32) (v3 : Int32) (s0 : Int32) (s1 : Int32) (kh14 : Int32 → Int32 → SL → Option (Int32 × SL)) (hkh14 : ∀ (w2 : Int32) (w3 : Int32) (V' : SL), Run 5 yX10_whose cX10_whose 4 (some .int) none (fun a : Int32 × SL => (some (.int a.1), (S, T, U, a.2))) 14 [(0, .ref 78), (1, .int v1), (2, .int w2), (3, .int w3)] [] (S, T, U, V') (kh14 w2 w3 V')) : Run 5 yX10_whose cX10_whose 4 (some .int) none (fun a : Int32 × SL => (some (.int a.1), (S, T, U, a.2))) 40 [(0, .ref 78), (1, .int v1), (3, .int v3)] [.int s0, .int s1] (S, T, U, V) (f_X10_whose_40 V v3 s0 s1 kh14) := by
  rw [f_X10_whose_40]
  refine r_ior dX10_whose_40 ?_
  refine r_nmi (fun x6 => ?_)
  refine r_istore_n (L' := [(2, .int x6), (0, .ref 78), (1, .int v1), (3, .int v3)]) dX10_whose_41 rfl (by decide) rfl ?_
  refine r_iinc (v := v3 + (1 : Int32)) (L' := [(3, .int (v3 + (1 : Int32))), (2, .int x6), (0, .ref 78), (1, .int v1)]) dX10_whose_42 3 rfl rfl (by decide) rfl ?_
  refine r_goto (tgt := 14) dX10_whose_45 (by decide) ?_
  exact r_pick [2, 3, 1, 0] rfl (hkh14 x6 (v3 + (1 : Int32)) V)
def f_X10_whose_14 (U : SI) (v1 : Int32) (ke48 : Int32 → SL → Option (Int32 × SL)) : Nat → Int32 → Int32 → SL → Option (Int32 × SL)
  | 0, _, _, _ => none
  | m_ + 1, v2, v3, V =>
    if (3 : Int32) ≤ v3 then
      ke48 v2 V
    else
      (f_X10_allWays U V v1 ((1 : Int32) <<< (v3 &&& 31))).bind fun q4 =>
      if q4.1 ≤ (0 : Int64) then
        f_X10_whose_40 q4.2 v3 (0 : Int32) v2 (f_X10_whose_14 U v1 ke48 m_)
      else
        f_X10_whose_40 q4.2 v3 ((1 : Int32) <<< (v3 &&& 31)) v2 (f_X10_whose_14 U v1 ke48 m_)
set_option maxHeartbeats 4000000 in
set_option maxRecDepth 100000 in
theorem t_X10_whose_14 (S : SI) (T : SL) (U : SI) (v1 : Int32) (ke48 : Int32 → SL → Option (Int32 × SL)) (hke48 : ∀ (w2 : Int32) (V' : SL), Run 5 yX10_whose cX10_whose 4 (some .int) none (fun a : Int32 × SL => (some (.int a.1), (S, T, U, a.2))) 48 [(2, .int w2)] [] (S, T, U, V') (ke48 w2 V')) : ∀ (m_ : Nat) (v2 : Int32) (v3 : Int32) (V : SL), Run 5 yX10_whose cX10_whose 4 (some .int) none (fun a : Int32 × SL => (some (.int a.1), (S, T, U, a.2))) 14 [(0, .ref 78), (1, .int v1), (2, .int v2), (3, .int v3)] [] (S, T, U, V) (f_X10_whose_14 U v1 ke48 m_ v2 v3 V) := by
  intro m_
  induction m_ with
  | zero =>
    intro v2 v3 V
    rw [f_X10_whose_14]
    exact r_none
  | succ m_ ih =>
    intro v2 v3 V
    rw [f_X10_whose_14]
    refine r_iload_n dX10_whose_14 3 rfl rfl ?_
    refine r_iconst (v := (3 : Int32)) dX10_whose_15 rfl ?_
    refine r_icmp_ge (tgt := 48) dX10_whose_16 (by decide) (fun h3 => ?_) (fun h3 => ?_)
    · exact r_pick [2] rfl (hke48 v2 V)
    · refine r_iload_n dX10_whose_19 2 rfl rfl ?_
      refine r_aload_n dX10_whose_20 0 rfl rfl ?_
      refine r_iload_n dX10_whose_21 1 rfl rfl ?_
      refine r_iconst (v := (1 : Int32)) dX10_whose_22 rfl ?_
      refine r_iload_n dX10_whose_23 3 rfl rfl ?_
      refine r_ishl dX10_whose_24 ?_
      refine rVm_lT (as := [.int v1, .int ((1 : Int32) <<< (v3 &&& 31))]) (st := [.int v2]) dX10_whose_25 cl_X10_226 (by decide) rfl rfl (m_X10_allWays S T U V v1 ((1 : Int32) <<< (v3 &&& 31))) (by decide) rfl (Nat.le_of_ble_eq_true rfl) (fun q4 _ => ?_)
      refine r_lconst (v := (0 : Int64)) dX10_whose_28 rfl ?_
      refine r_lcmp_le (tgt := 39) dX10_whose_29 dX10_whose_30 (by decide) (fun h5 => ?_) (fun h5 => ?_)
      · refine r_iconst (v := (0 : Int32)) dX10_whose_39 rfl ?_
        exact r_pick [0, 1, 3] rfl (t_X10_whose_40 S T U q4.2 v1 v3 (0 : Int32) v2 (f_X10_whose_14 U v1 ke48 m_) ih)
      · refine r_iconst (v := (1 : Int32)) dX10_whose_33 rfl ?_
        refine r_iload_n dX10_whose_34 3 rfl rfl ?_
        refine r_ishl dX10_whose_35 ?_
        refine r_goto (tgt := 40) dX10_whose_36 (by decide) ?_
        exact r_pick [0, 1, 3] rfl (t_X10_whose_40 S T U q4.2 v1 v3 ((1 : Int32) <<< (v3 &&& 31)) v2 (f_X10_whose_14 U v1 ke48 m_) ih)
def f_X10_whose_48 (V : SL) (v2 : Int32) : Option (Int32 × SL) :=
  if v2 = 0 then
    some ((-4 : Int32), V)
  else
    some (v2, V)
set_option maxHeartbeats 4000000 in
set_option maxRecDepth 100000 in
theorem t_X10_whose_48 (S : SI) (T : SL) (U : SI) (V : SL) (v2 : Int32) : Run 5 yX10_whose cX10_whose 4 (some .int) none (fun a : Int32 × SL => (some (.int a.1), (S, T, U, a.2))) 48 [(2, .int v2)] [] (S, T, U, V) (f_X10_whose_48 V v2) := by
  rw [f_X10_whose_48]
  refine r_iload_n dX10_whose_48 0 rfl rfl ?_
  refine r_if_ne (tgt := 57) dX10_whose_49 (by decide) (fun h7 => ?_) (fun h7 => ?_)
  · refine r_bipush (v := (-4 : Int32)) dX10_whose_52 rfl ?_
    refine r_goto (tgt := 58) dX10_whose_54 (by decide) ?_
    exact r_ireturn (ty := .int) dX10_whose_58 rfl (nar_i _) rfl
  · refine r_iload_n dX10_whose_57 0 rfl rfl ?_
    exact r_ireturn (ty := .int) dX10_whose_58 rfl (nar_i _) rfl
def f_X10_whose (U : SI) (V : SL) (v1 : Int32) : Option (Int32 × SL) :=
  (f_X10_isSock U v1).bind fun q1 =>
  if q1 = 0 then
    some ((-1 : Int32), V)
  else
    f_X10_whose_14 U v1 (fun o2 Vo => f_X10_whose_48 Vo o2) fu (0 : Int32) (0 : Int32) V
set_option maxHeartbeats 4000000 in
set_option maxRecDepth 100000 in
theorem m_X10_whose (S : SI) (T : SL) (U : SI) (V : SL) (v1 : Int32) : Meth 5 yX10_whose cX10_whose 4 (some .int) [.ref 78, .int v1] (S, T, U, V) (f_X10_whose U V v1) (fun a : Int32 × SL => (some (.int a.1), (S, T, U, a.2))) := by
  refine meth_of (L := [(0, .ref 78), (1, .int v1)]) (by decide +kernel) (Nat.le_of_ble_eq_true rfl) rfl ?_
  rw [f_X10_whose]
  refine r_aload_n dX10_whose_0 0 rfl rfl ?_
  refine r_iload_n dX10_whose_1 1 rfl rfl ?_
  refine rV_i (as := [.int v1]) (st := []) dX10_whose_2 cl_X10_63 (by decide) rfl rfl (m_X10_isSock S T U V v1) (by decide) rfl (Nat.le_of_ble_eq_true rfl) (fun q1 _ => ?_)
  refine r_if_ne (tgt := 10) dX10_whose_5 (by decide) (fun h2 => ?_) (fun h2 => ?_)
  · refine r_iconst (v := (-1 : Int32)) dX10_whose_8 rfl ?_
    exact r_ireturn (ty := .int) dX10_whose_9 rfl (nar_i _) rfl
  · refine r_iconst (v := (0 : Int32)) dX10_whose_10 rfl ?_
    refine r_istore_n (L' := [(2, .int (0 : Int32)), (0, .ref 78), (1, .int v1)]) dX10_whose_11 rfl (by decide) rfl ?_
    refine r_iconst (v := (0 : Int32)) dX10_whose_12 rfl ?_
    refine r_istore_n (L' := [(3, .int (0 : Int32)), (2, .int (0 : Int32)), (0, .ref 78), (1, .int v1)]) dX10_whose_13 rfl (by decide) rfl ?_
    exact r_pick [2, 3, 1, 0] rfl (t_X10_whose_14 S T U v1 (fun o2 Vo => f_X10_whose_48 Vo o2) (fun o2 Vo => r_pick [0] rfl (t_X10_whose_48 S T U Vo o2)) fu (0 : Int32) (0 : Int32) V)
def f_X10_seldom_60 (v4 : Int32) (s0 : Int32) (s1 : Int32) (kh33 : Int32 → Int32 → Option (Int32)) : Option (Int32) :=
  nm (s1 + s0) fun x10 =>
  kh33 x10 (v4 + (1 : Int32))
set_option maxHeartbeats 4000000 in
set_option maxRecDepth 100000 in
theorem t_X10_seldom_60 (S : SI) (T : SL) (U : SI) (V : SL) (v1 : Int32) (v2 : Int32) (v4 : Int32) (s0 : Int32) (s1 : Int32) (kh33 : Int32 → Int32 → Option (Int32)) (hkh33 : ∀ (w3 : Int32) (w4 : Int32), Run 3 yX10_seldom cX10_seldom 7 (some .int) none (fun a : Int32 => (some (.int a), (S, T, U, V))) 33 [(0, .ref 78), (1, .int v1), (2, .int v2), (3, .int w3), (4, .int w4)] [] (S, T, U, V) (kh33 w3 w4)) : Run 3 yX10_seldom cX10_seldom 7 (some .int) none (fun a : Int32 => (some (.int a), (S, T, U, V))) 60 [(0, .ref 78), (1, .int v1), (2, .int v2), (4, .int v4)] [.int s0, .int s1] (S, T, U, V) (f_X10_seldom_60 v4 s0 s1 kh33) := by
  rw [f_X10_seldom_60]
  refine r_iadd dX10_seldom_60 ?_
  refine r_nmi (fun x10 => ?_)
  refine r_istore_n (L' := [(3, .int x10), (0, .ref 78), (1, .int v1), (2, .int v2), (4, .int v4)]) dX10_seldom_61 rfl (by decide) rfl ?_
  refine r_iinc (v := v4 + (1 : Int32)) (L' := [(4, .int (v4 + (1 : Int32))), (3, .int x10), (0, .ref 78), (1, .int v1), (2, .int v2)]) dX10_seldom_62 4 rfl rfl (by decide) rfl ?_
  refine r_goto (tgt := 33) dX10_seldom_65 (by decide) ?_
  exact r_pick [2, 3, 4, 1, 0] rfl (hkh33 x10 (v4 + (1 : Int32)))
def f_X10_seldom_33 (U : SI) (ke68 : Int32 → Option (Int32)) : Nat → Int32 → Int32 → Option (Int32)
  | 0, _, _ => none
  | m_ + 1, v3, v4 =>
    gd (inB (0 : Int32) 205) <|
    if (U 79 (ix (0 : Int32))) ≤ v4 then
      ke68 v3
    else
      (f_X10_of U v4 (1 : Int32)).bind fun q8 =>
      if q8 = 0 then
        f_X10_seldom_60 v4 (1 : Int32) v3 (f_X10_seldom_33 U ke68 m_)
      else
        f_X10_seldom_60 v4 (0 : Int32) v3 (f_X10_seldom_33 U ke68 m_)
set_option maxHeartbeats 4000000 in
set_option maxRecDepth 100000 in
theorem t_X10_seldom_33 (S : SI) (T : SL) (U : SI) (V : SL) (v1 : Int32) (v2 : Int32) (ke68 : Int32 → Option (Int32)) (hke68 : ∀ (w3 : Int32), Run 3 yX10_seldom cX10_seldom 7 (some .int) none (fun a : Int32 => (some (.int a), (S, T, U, V))) 68 [(0, .ref 78), (1, .int v1), (2, .int v2), (3, .int w3)] [] (S, T, U, V) (ke68 w3)) : ∀ (m_ : Nat) (v3 : Int32) (v4 : Int32), Run 3 yX10_seldom cX10_seldom 7 (some .int) none (fun a : Int32 => (some (.int a), (S, T, U, V))) 33 [(0, .ref 78), (1, .int v1), (2, .int v2), (3, .int v3), (4, .int v4)] [] (S, T, U, V) (f_X10_seldom_33 U ke68 m_ v3 v4) := by
  intro m_
  induction m_ with
  | zero =>
    intro v3 v4
    rw [f_X10_seldom_33]
    exact r_none
  | succ m_ ih =>
    intro v3 v4
    rw [f_X10_seldom_33]
    refine r_iload dX10_seldom_33 4 rfl ?_
    refine r_aload_n dX10_seldom_35 0 rfl rfl ?_
    refine r_getr dX10_seldom_36 fl_X10_7 (by decide) rfl rfl (by decide) ?_
    refine r_iconst (v := (0 : Int32)) dX10_seldom_39 rfl ?_
    refine rm_iald dX10_seldom_40 (by decide) (by decide) rfl (fun h6 => ?_)
    refine r_icmp_ge (tgt := 68) dX10_seldom_41 (by decide) (fun h7 => ?_) (fun h7 => ?_)
    · exact r_pick [0, 1, 2, 3] rfl (hke68 v3)
    · refine r_iload_n dX10_seldom_44 3 rfl rfl ?_
      refine r_aload_n dX10_seldom_45 0 rfl rfl ?_
      refine r_iload dX10_seldom_46 4 rfl ?_
      refine r_iconst (v := (1 : Int32)) dX10_seldom_48 rfl ?_
      refine rV_i (as := [.int v4, .int (1 : Int32)]) (st := [.int v3]) dX10_seldom_49 cl_X10_67 (by decide) rfl rfl (m_X10_of S T U V v4 (1 : Int32)) (by decide) rfl (Nat.le_of_ble_eq_true rfl) (fun q8 _ => ?_)
      refine r_if_ne (tgt := 59) dX10_seldom_52 (by decide) (fun h9 => ?_) (fun h9 => ?_)
      · refine r_iconst (v := (1 : Int32)) dX10_seldom_55 rfl ?_
        refine r_goto (tgt := 60) dX10_seldom_56 (by decide) ?_
        exact r_pick [0, 1, 2, 4] rfl (t_X10_seldom_60 S T U V v1 v2 v4 (1 : Int32) v3 (f_X10_seldom_33 U ke68 m_) ih)
      · refine r_iconst (v := (0 : Int32)) dX10_seldom_59 rfl ?_
        exact r_pick [0, 1, 2, 4] rfl (t_X10_seldom_60 S T U V v1 v2 v4 (0 : Int32) v3 (f_X10_seldom_33 U ke68 m_) ih)
def f_X10_seldom_80 (U : SI) (v2 : Int32) (v3 : Int32) (ke119 : Int32 → Option (Int32)) : Nat → Int32 → Int32 → Option (Int32)
  | 0, _, _ => none
  | m_ + 1, v4, v5 =>
    if v2 < v5 then
      ke119 v4
    else
      (f_X10_choose v3 v5).bind fun q13 =>
      gd (inB (0 : Int32) 205) <|
      (f_X10_choose ((U 79 (ix (0 : Int32))) - v3) (v2 - v5)).bind fun q15 =>
      nm (v4 + (q13 * q15)) fun x16 =>
      (f_X10_seldom_80 U v2 v3 ke119 m_) x16 (v5 + (1 : Int32))
set_option maxHeartbeats 4000000 in
set_option maxRecDepth 100000 in
theorem t_X10_seldom_80 (S : SI) (T : SL) (U : SI) (V : SL) (v1 : Int32) (v2 : Int32) (v3 : Int32) (ke119 : Int32 → Option (Int32)) (hke119 : ∀ (w4 : Int32), Run 3 yX10_seldom cX10_seldom 7 (some .int) none (fun a : Int32 => (some (.int a), (S, T, U, V))) 119 [(0, .ref 78), (1, .int v1), (2, .int v2), (4, .int w4)] [] (S, T, U, V) (ke119 w4)) : ∀ (m_ : Nat) (v4 : Int32) (v5 : Int32), Run 3 yX10_seldom cX10_seldom 7 (some .int) none (fun a : Int32 => (some (.int a), (S, T, U, V))) 80 [(0, .ref 78), (1, .int v1), (2, .int v2), (3, .int v3), (4, .int v4), (5, .int v5)] [] (S, T, U, V) (f_X10_seldom_80 U v2 v3 ke119 m_ v4 v5) := by
  intro m_
  induction m_ with
  | zero =>
    intro v4 v5
    rw [f_X10_seldom_80]
    exact r_none
  | succ m_ ih =>
    intro v4 v5
    rw [f_X10_seldom_80]
    refine r_iload dX10_seldom_80 5 rfl ?_
    refine r_iload_n dX10_seldom_82 2 rfl rfl ?_
    refine r_icmp_gt (tgt := 119) dX10_seldom_83 (by decide) (fun h12 => ?_) (fun h12 => ?_)
    · exact r_pick [0, 1, 2, 4] rfl (hke119 v4)
    · refine r_iload dX10_seldom_86 4 rfl ?_
      refine r_iload_n dX10_seldom_88 3 rfl rfl ?_
      refine r_iload dX10_seldom_89 5 rfl ?_
      refine rS_i (as := [.int v3, .int v5]) (st := [.int v4]) dX10_seldom_91 cl_X10_206 (m_X10_choose S T U V v3 v5) (by decide) rfl (Nat.le_of_ble_eq_true rfl) (fun q13 _ => ?_)
      refine r_aload_n dX10_seldom_94 0 rfl rfl ?_
      refine r_getr dX10_seldom_95 fl_X10_7 (by decide) rfl rfl (by decide) ?_
      refine r_iconst (v := (0 : Int32)) dX10_seldom_98 rfl ?_
      refine rm_iald dX10_seldom_99 (by decide) (by decide) rfl (fun h14 => ?_)
      refine r_iload_n dX10_seldom_100 3 rfl rfl ?_
      refine r_isub dX10_seldom_101 ?_
      refine r_iload_n dX10_seldom_102 2 rfl rfl ?_
      refine r_iload dX10_seldom_103 5 rfl ?_
      refine r_isub dX10_seldom_105 ?_
      refine rS_i (as := [.int ((U 79 (ix (0 : Int32))) - v3), .int (v2 - v5)]) (st := [.int q13, .int v4]) dX10_seldom_106 cl_X10_206 (m_X10_choose S T U V ((U 79 (ix (0 : Int32))) - v3) (v2 - v5)) (by decide) rfl (Nat.le_of_ble_eq_true rfl) (fun q15 _ => ?_)
      refine r_imul dX10_seldom_109 ?_
      refine r_iadd dX10_seldom_110 ?_
      refine r_nmi (fun x16 => ?_)
      refine r_istore (L' := [(4, .int x16), (0, .ref 78), (1, .int v1), (2, .int v2), (3, .int v3), (5, .int v5)]) dX10_seldom_111 (by decide) rfl ?_
      refine r_iinc (v := v5 + (1 : Int32)) (L' := [(5, .int (v5 + (1 : Int32))), (4, .int x16), (0, .ref 78), (1, .int v1), (2, .int v2), (3, .int v3)]) dX10_seldom_113 5 rfl rfl (by decide) rfl ?_
      refine r_goto (tgt := 80) dX10_seldom_116 (by decide) ?_
      exact r_pick [2, 3, 4, 5, 1, 0] rfl (ih x16 (v5 + (1 : Int32)))
def f_X10_seldom_119 (U : SI) (v1 : Int32) (v2 : Int32) (v4 : Int32) : Option (Int32) :=
  gd (inB (0 : Int32) 205) <|
  (f_X10_choose (U 79 (ix (0 : Int32))) v2).bind fun q18 =>
  (f_X10_common v4.toInt64 q18.toInt64).bind fun q19 =>
  if v1 = 0 then
    if q19.toInt32 = 0 then none else
    some (v4 / q19.toInt32)
  else
    if q19.toInt32 = 0 then none else
    some (q18 / q19.toInt32)
set_option maxHeartbeats 4000000 in
set_option maxRecDepth 100000 in
theorem t_X10_seldom_119 (S : SI) (T : SL) (U : SI) (V : SL) (v1 : Int32) (v2 : Int32) (v4 : Int32) : Run 3 yX10_seldom cX10_seldom 7 (some .int) none (fun a : Int32 => (some (.int a), (S, T, U, V))) 119 [(0, .ref 78), (1, .int v1), (2, .int v2), (4, .int v4)] [] (S, T, U, V) (f_X10_seldom_119 U v1 v2 v4) := by
  rw [f_X10_seldom_119]
  refine r_aload_n dX10_seldom_119 0 rfl rfl ?_
  refine r_getr dX10_seldom_120 fl_X10_7 (by decide) rfl rfl (by decide) ?_
  refine r_iconst (v := (0 : Int32)) dX10_seldom_123 rfl ?_
  refine rm_iald dX10_seldom_124 (by decide) (by decide) rfl (fun h17 => ?_)
  refine r_iload_n dX10_seldom_125 2 rfl rfl ?_
  refine rS_i (as := [.int (U 79 (ix (0 : Int32))), .int v2]) (st := []) dX10_seldom_126 cl_X10_206 (m_X10_choose S T U V (U 79 (ix (0 : Int32))) v2) (by decide) rfl (Nat.le_of_ble_eq_true rfl) (fun q18 _ => ?_)
  refine r_istore (L' := [(5, .int q18), (0, .ref 78), (1, .int v1), (2, .int v2), (4, .int v4)]) dX10_seldom_129 (by decide) rfl ?_
  refine r_iload dX10_seldom_131 4 rfl ?_
  refine r_i2l dX10_seldom_133 ?_
  refine r_iload dX10_seldom_134 0 rfl ?_
  refine r_i2l dX10_seldom_136 ?_
  refine rS_l (as := [.long v4.toInt64, .long q18.toInt64]) (st := []) dX10_seldom_137 cl_X10_199 (m_X10_common S T U V v4.toInt64 q18.toInt64) (by decide) rfl (Nat.le_of_ble_eq_true rfl) (fun q19 _ => ?_)
  refine r_l2i dX10_seldom_140 ?_
  refine r_istore (L' := [(6, .int q19.toInt32), (5, .int q18), (0, .ref 78), (1, .int v1), (2, .int v2), (4, .int v4)]) dX10_seldom_141 (by decide) rfl ?_
  refine r_iload_n dX10_seldom_143 3 rfl rfl ?_
  refine r_if_ne (tgt := 155) dX10_seldom_144 (by decide) (fun h20 => ?_) (fun h20 => ?_)
  · refine r_iload dX10_seldom_147 5 rfl ?_
    refine r_iload dX10_seldom_149 0 rfl ?_
    refine r_idiv dX10_seldom_151 (fun h21 => ?_)
    refine r_goto (tgt := 160) dX10_seldom_152 (by decide) ?_
    exact r_ireturn (ty := .int) dX10_seldom_160 rfl (nar_i _) rfl
  · refine r_iload dX10_seldom_155 1 rfl ?_
    refine r_iload dX10_seldom_157 0 rfl ?_
    refine r_idiv dX10_seldom_159 (fun h22 => ?_)
    exact r_ireturn (ty := .int) dX10_seldom_160 rfl (nar_i _) rfl
def f_X10_seldom_68 (U : SI) (v1 : Int32) (v2 : Int32) (v3 : Int32) : Option (Int32) :=
  (f_X10_lostOf U (-4 : Int32) (0 : Int32)).bind fun q11 =>
  f_X10_seldom_80 U v2 v3 (fun o4 => f_X10_seldom_119 U v1 v2 o4) fu (0 : Int32) q11
set_option maxHeartbeats 4000000 in
set_option maxRecDepth 100000 in
theorem t_X10_seldom_68 (S : SI) (T : SL) (U : SI) (V : SL) (v1 : Int32) (v2 : Int32) (v3 : Int32) : Run 3 yX10_seldom cX10_seldom 7 (some .int) none (fun a : Int32 => (some (.int a), (S, T, U, V))) 68 [(0, .ref 78), (1, .int v1), (2, .int v2), (3, .int v3)] [] (S, T, U, V) (f_X10_seldom_68 U v1 v2 v3) := by
  rw [f_X10_seldom_68]
  refine r_iconst (v := (0 : Int32)) dX10_seldom_68 rfl ?_
  refine r_istore (L' := [(4, .int (0 : Int32)), (0, .ref 78), (1, .int v1), (2, .int v2), (3, .int v3)]) dX10_seldom_69 (by decide) rfl ?_
  refine r_aload_n dX10_seldom_71 1 rfl rfl ?_
  refine r_bipush (v := (-4 : Int32)) dX10_seldom_72 rfl ?_
  refine r_iconst (v := (0 : Int32)) dX10_seldom_74 rfl ?_
  refine rV_i (as := [.int (-4 : Int32), .int (0 : Int32)]) (st := []) dX10_seldom_75 cl_X10_166 (by decide) rfl rfl (m_X10_lostOf S T U V (-4 : Int32) (0 : Int32)) (by decide) rfl (Nat.le_of_ble_eq_true rfl) (fun q11 _ => ?_)
  refine r_istore (L' := [(5, .int q11), (4, .int (0 : Int32)), (0, .ref 78), (1, .int v1), (2, .int v2), (3, .int v3)]) dX10_seldom_78 (by decide) rfl ?_
  exact r_pick [2, 3, 4, 5, 1, 0] rfl (t_X10_seldom_80 S T U V v1 v2 v3 (fun o4 => f_X10_seldom_119 U v1 v2 o4) (fun o4 => r_pick [0, 1, 2, 3] rfl (t_X10_seldom_119 S T U V v1 v2 o4)) fu (0 : Int32) q11)
def f_X10_seldom (U : SI) (v1 : Int32) : Option (Int32) :=
  (f_X10_in v1.toInt64 (0 : Int64) (1 : Int64)).bind fun q1 =>
  if q1 = 0 then
    some (-1 : Int32)
  else
    (f_X10_inPlace U (1 : Int32)).bind fun q3 =>
    (f_X10_ones q3).bind fun q4 =>
    if q4 = 0 then
      some (-2 : Int32)
    else
      f_X10_seldom_33 U (fun o3 => f_X10_seldom_68 U v1 q4 o3) fu (0 : Int32) (0 : Int32)
set_option maxHeartbeats 4000000 in
set_option maxRecDepth 100000 in
theorem m_X10_seldom (S : SI) (T : SL) (U : SI) (V : SL) (v1 : Int32) : Meth 3 yX10_seldom cX10_seldom 7 (some .int) [.ref 78, .int v1] (S, T, U, V) (f_X10_seldom U v1) (fun a : Int32 => (some (.int a), (S, T, U, V))) := by
  refine meth_of (L := [(0, .ref 78), (1, .int v1)]) (by decide +kernel) (Nat.le_of_ble_eq_true rfl) rfl ?_
  rw [f_X10_seldom]
  refine r_iload_n dX10_seldom_0 1 rfl rfl ?_
  refine r_i2l dX10_seldom_1 ?_
  refine r_lconst (v := (0 : Int64)) dX10_seldom_2 rfl ?_
  refine r_lconst (v := (1 : Int64)) dX10_seldom_3 rfl ?_
  refine rS_i (as := [.long v1.toInt64, .long (0 : Int64), .long (1 : Int64)]) (st := []) dX10_seldom_4 cl_X10_59 (m_X10_in S T U V v1.toInt64 (0 : Int64) (1 : Int64)) (by decide) rfl (Nat.le_of_ble_eq_true rfl) (fun q1 _ => ?_)
  refine r_if_ne (tgt := 12) dX10_seldom_7 (by decide) (fun h2 => ?_) (fun h2 => ?_)
  · refine r_iconst (v := (-1 : Int32)) dX10_seldom_10 rfl ?_
    exact r_ireturn (ty := .int) dX10_seldom_11 rfl (nar_i _) rfl
  · refine r_aload_n dX10_seldom_12 0 rfl rfl ?_
    refine r_iconst (v := (1 : Int32)) dX10_seldom_13 rfl ?_
    refine rV_i (as := [.int (1 : Int32)]) (st := []) dX10_seldom_14 cl_X10_140 (by decide) rfl rfl (m_X10_inPlace S T U V (1 : Int32)) (by decide) rfl (Nat.le_of_ble_eq_true rfl) (fun q3 _ => ?_)
    refine rS_i (as := [.int q3]) (st := []) dX10_seldom_17 cl_X10_151 (m_X10_ones S T U V q3) (by decide) rfl (Nat.le_of_ble_eq_true rfl) (fun q4 _ => ?_)
    refine r_istore_n (L' := [(2, .int q4), (0, .ref 78), (1, .int v1)]) dX10_seldom_20 rfl (by decide) rfl ?_
    refine r_iload_n dX10_seldom_21 0 rfl rfl ?_
    refine r_if_ne (tgt := 28) dX10_seldom_22 (by decide) (fun h5 => ?_) (fun h5 => ?_)
    · refine r_bipush (v := (-2 : Int32)) dX10_seldom_25 rfl ?_
      exact r_ireturn (ty := .int) dX10_seldom_27 rfl (nar_i _) rfl
    · refine r_iconst (v := (0 : Int32)) dX10_seldom_28 rfl ?_
      refine r_istore_n (L' := [(3, .int (0 : Int32)), (2, .int q4), (0, .ref 78), (1, .int v1)]) dX10_seldom_29 rfl (by decide) rfl ?_
      refine r_iconst (v := (0 : Int32)) dX10_seldom_30 rfl ?_
      refine r_istore (L' := [(4, .int (0 : Int32)), (3, .int (0 : Int32)), (2, .int q4), (0, .ref 78), (1, .int v1)]) dX10_seldom_31 (by decide) rfl ?_
      exact r_pick [3, 4, 2, 1, 0] rfl (t_X10_seldom_33 S T U V v1 q4 (fun o3 => f_X10_seldom_68 U v1 q4 o3) (fun o3 => r_pick [0, 1, 2, 3] rfl (t_X10_seldom_68 S T U V v1 q4 o3)) fu (0 : Int32) (0 : Int32))
def f_X10_lacks_97 (v4 : Int32) (s0 : Int32) (s1 : Int32) (kh31 : Int32 → Int32 → Option (Int32)) : Option (Int32) :=
  nm (s1 + s0) fun x15 =>
  kh31 x15 (v4 + (1 : Int32))
set_option maxHeartbeats 4000000 in
set_option maxRecDepth 100000 in
theorem t_X10_lacks_97 (S : SI) (T : SL) (U : SI) (V : SL) (v1 : Int32) (v2 : Int32) (v4 : Int32) (s0 : Int32) (s1 : Int32) (kh31 : Int32 → Int32 → Option (Int32)) (hkh31 : ∀ (w3 : Int32) (w4 : Int32), Run 2 yX10_lacks cX10_lacks 5 (some .int) none (fun a : Int32 => (some (.int a), (S, T, U, V))) 31 [(0, .ref 78), (1, .int v1), (2, .int v2), (3, .int w3), (4, .int w4)] [] (S, T, U, V) (kh31 w3 w4)) : Run 2 yX10_lacks cX10_lacks 5 (some .int) none (fun a : Int32 => (some (.int a), (S, T, U, V))) 97 [(0, .ref 78), (1, .int v1), (2, .int v2), (4, .int v4)] [.int s0, .int s1] (S, T, U, V) (f_X10_lacks_97 v4 s0 s1 kh31) := by
  rw [f_X10_lacks_97]
  refine r_iadd dX10_lacks_97 ?_
  refine r_nmi (fun x15 => ?_)
  refine r_istore_n (L' := [(3, .int x15), (0, .ref 78), (1, .int v1), (2, .int v2), (4, .int v4)]) dX10_lacks_98 rfl (by decide) rfl ?_
  refine r_iinc (v := v4 + (1 : Int32)) (L' := [(4, .int (v4 + (1 : Int32))), (3, .int x15), (0, .ref 78), (1, .int v1), (2, .int v2)]) dX10_lacks_99 4 rfl rfl (by decide) rfl ?_
  refine r_goto (tgt := 31) dX10_lacks_102 (by decide) ?_
  exact r_pick [2, 3, 4, 1, 0] rfl (hkh31 x15 (v4 + (1 : Int32)))
def f_X10_lacks_78 (U : SI) (v3 : Int32) (v4 : Int32) (s0 : Int32) (s1 : Int32) (kh31 : Int32 → Int32 → Option (Int32)) : Option (Int32) :=
  if s1 = s0 then
    (f_X10_of U v4 (1 : Int32)).bind fun q13 =>
    if q13 = 0 then
      f_X10_lacks_97 v4 (1 : Int32) v3 kh31
    else
      f_X10_lacks_97 v4 (-1 : Int32) v3 kh31
  else
    kh31 v3 (v4 + (1 : Int32))
set_option maxHeartbeats 4000000 in
set_option maxRecDepth 100000 in
theorem t_X10_lacks_78 (S : SI) (T : SL) (U : SI) (V : SL) (v1 : Int32) (v2 : Int32) (v3 : Int32) (v4 : Int32) (s0 : Int32) (s1 : Int32) (kh31 : Int32 → Int32 → Option (Int32)) (hkh31 : ∀ (w3 : Int32) (w4 : Int32), Run 2 yX10_lacks cX10_lacks 5 (some .int) none (fun a : Int32 => (some (.int a), (S, T, U, V))) 31 [(0, .ref 78), (1, .int v1), (2, .int v2), (3, .int w3), (4, .int w4)] [] (S, T, U, V) (kh31 w3 w4)) : Run 2 yX10_lacks cX10_lacks 5 (some .int) none (fun a : Int32 => (some (.int a), (S, T, U, V))) 78 [(0, .ref 78), (1, .int v1), (2, .int v2), (3, .int v3), (4, .int v4)] [.int s0, .int s1] (S, T, U, V) (f_X10_lacks_78 U v3 v4 s0 s1 kh31) := by
  rw [f_X10_lacks_78]
  refine r_icmp_ne (tgt := 99) dX10_lacks_78 (by decide) (fun h12 => ?_) (fun h12 => ?_)
  · refine r_iload_n dX10_lacks_81 3 rfl rfl ?_
    refine r_aload_n dX10_lacks_82 0 rfl rfl ?_
    refine r_iload dX10_lacks_83 4 rfl ?_
    refine r_iconst (v := (1 : Int32)) dX10_lacks_85 rfl ?_
    refine rV_i (as := [.int v4, .int (1 : Int32)]) (st := [.int v3]) dX10_lacks_86 cl_X10_67 (by decide) rfl rfl (m_X10_of S T U V v4 (1 : Int32)) (by decide) rfl (Nat.le_of_ble_eq_true rfl) (fun q13 _ => ?_)
    refine r_if_ne (tgt := 96) dX10_lacks_89 (by decide) (fun h14 => ?_) (fun h14 => ?_)
    · refine r_iconst (v := (1 : Int32)) dX10_lacks_92 rfl ?_
      refine r_goto (tgt := 97) dX10_lacks_93 (by decide) ?_
      exact r_pick [0, 1, 2, 4] rfl (t_X10_lacks_97 S T U V v1 v2 v4 (1 : Int32) v3 kh31 hkh31)
    · refine r_iconst (v := (-1 : Int32)) dX10_lacks_96 rfl ?_
      exact r_pick [0, 1, 2, 4] rfl (t_X10_lacks_97 S T U V v1 v2 v4 (-1 : Int32) v3 kh31 hkh31)
  · refine r_iinc (v := v4 + (1 : Int32)) (L' := [(4, .int (v4 + (1 : Int32))), (0, .ref 78), (1, .int v1), (2, .int v2), (3, .int v3)]) dX10_lacks_99 4 rfl rfl (by decide) rfl ?_
    refine r_goto (tgt := 31) dX10_lacks_102 (by decide) ?_
    exact r_pick [1, 2, 3, 4, 0] rfl (hkh31 v3 (v4 + (1 : Int32)))
def f_X10_lacks_69 (U : SI) (v2 : Int32) (v3 : Int32) (v4 : Int32) (s0 : Int32) (kh31 : Int32 → Int32 → Option (Int32)) : Option (Int32) :=
  if v2 = 0 then
    f_X10_lacks_78 U v3 v4 (1 : Int32) s0 kh31
  else
    f_X10_lacks_78 U v3 v4 (0 : Int32) s0 kh31
set_option maxHeartbeats 4000000 in
set_option maxRecDepth 100000 in
theorem t_X10_lacks_69 (S : SI) (T : SL) (U : SI) (V : SL) (v1 : Int32) (v2 : Int32) (v3 : Int32) (v4 : Int32) (s0 : Int32) (kh31 : Int32 → Int32 → Option (Int32)) (hkh31 : ∀ (w3 : Int32) (w4 : Int32), Run 2 yX10_lacks cX10_lacks 5 (some .int) none (fun a : Int32 => (some (.int a), (S, T, U, V))) 31 [(0, .ref 78), (1, .int v1), (2, .int v2), (3, .int w3), (4, .int w4)] [] (S, T, U, V) (kh31 w3 w4)) : Run 2 yX10_lacks cX10_lacks 5 (some .int) none (fun a : Int32 => (some (.int a), (S, T, U, V))) 69 [(0, .ref 78), (1, .int v1), (2, .int v2), (3, .int v3), (4, .int v4)] [.int s0] (S, T, U, V) (f_X10_lacks_69 U v2 v3 v4 s0 kh31) := by
  rw [f_X10_lacks_69]
  refine r_iload_n dX10_lacks_69 2 rfl rfl ?_
  refine r_if_ne (tgt := 77) dX10_lacks_70 (by decide) (fun h11 => ?_) (fun h11 => ?_)
  · refine r_iconst (v := (1 : Int32)) dX10_lacks_73 rfl ?_
    refine r_goto (tgt := 78) dX10_lacks_74 (by decide) ?_
    exact r_pick [0, 1, 2, 3, 4] rfl (t_X10_lacks_78 S T U V v1 v2 v3 v4 (1 : Int32) s0 kh31 hkh31)
  · refine r_iconst (v := (0 : Int32)) dX10_lacks_77 rfl ?_
    exact r_pick [0, 1, 2, 3, 4] rfl (t_X10_lacks_78 S T U V v1 v2 v3 v4 (0 : Int32) s0 kh31 hkh31)
def f_X10_lacks_31 (U : SI) (v1 : Int32) (v2 : Int32) : Nat → Int32 → Int32 → Option (Int32)
  | 0, _, _ => none
  | m_ + 1, v3, v4 =>
    gd (inB (0 : Int32) 205) <|
    if (U 79 (ix (0 : Int32))) ≤ v4 then
      some v3
    else
      (f_X10_of U v4 (0 : Int32)).bind fun q7 =>
      if q7 = v1 then
        (f_X10_of U v4 (4 : Int32)).bind fun q9 =>
        if q9 = (1 : Int32) then
          f_X10_lacks_69 U v2 v3 v4 (1 : Int32) (f_X10_lacks_31 U v1 v2 m_)
        else
          f_X10_lacks_69 U v2 v3 v4 (0 : Int32) (f_X10_lacks_31 U v1 v2 m_)
      else
        (f_X10_lacks_31 U v1 v2 m_) v3 (v4 + (1 : Int32))
set_option maxHeartbeats 4000000 in
set_option maxRecDepth 100000 in
theorem t_X10_lacks_31 (S : SI) (T : SL) (U : SI) (V : SL) (v1 : Int32) (v2 : Int32) : ∀ (m_ : Nat) (v3 : Int32) (v4 : Int32), Run 2 yX10_lacks cX10_lacks 5 (some .int) none (fun a : Int32 => (some (.int a), (S, T, U, V))) 31 [(0, .ref 78), (1, .int v1), (2, .int v2), (3, .int v3), (4, .int v4)] [] (S, T, U, V) (f_X10_lacks_31 U v1 v2 m_ v3 v4) := by
  intro m_
  induction m_ with
  | zero =>
    intro v3 v4
    rw [f_X10_lacks_31]
    exact r_none
  | succ m_ ih =>
    intro v3 v4
    rw [f_X10_lacks_31]
    refine r_iload dX10_lacks_31 4 rfl ?_
    refine r_aload_n dX10_lacks_33 0 rfl rfl ?_
    refine r_getr dX10_lacks_34 fl_X10_7 (by decide) rfl rfl (by decide) ?_
    refine r_iconst (v := (0 : Int32)) dX10_lacks_37 rfl ?_
    refine rm_iald dX10_lacks_38 (by decide) (by decide) rfl (fun h5 => ?_)
    refine r_icmp_ge (tgt := 105) dX10_lacks_39 (by decide) (fun h6 => ?_) (fun h6 => ?_)
    · refine r_iload_n dX10_lacks_105 3 rfl rfl ?_
      exact r_ireturn (ty := .int) dX10_lacks_106 rfl (nar_i _) rfl
    · refine r_aload_n dX10_lacks_42 0 rfl rfl ?_
      refine r_iload dX10_lacks_43 4 rfl ?_
      refine r_iconst (v := (0 : Int32)) dX10_lacks_45 rfl ?_
      refine rV_i (as := [.int v4, .int (0 : Int32)]) (st := []) dX10_lacks_46 cl_X10_67 (by decide) rfl rfl (m_X10_of S T U V v4 (0 : Int32)) (by decide) rfl (Nat.le_of_ble_eq_true rfl) (fun q7 _ => ?_)
      refine r_iload_n dX10_lacks_49 1 rfl rfl ?_
      refine r_icmp_ne (tgt := 99) dX10_lacks_50 (by decide) (fun h8 => ?_) (fun h8 => ?_)
      · refine r_aload_n dX10_lacks_53 0 rfl rfl ?_
        refine r_iload dX10_lacks_54 4 rfl ?_
        refine r_iconst (v := (4 : Int32)) dX10_lacks_56 rfl ?_
        refine rV_i (as := [.int v4, .int (4 : Int32)]) (st := []) dX10_lacks_57 cl_X10_67 (by decide) rfl rfl (m_X10_of S T U V v4 (4 : Int32)) (by decide) rfl (Nat.le_of_ble_eq_true rfl) (fun q9 _ => ?_)
        refine r_iconst (v := (1 : Int32)) dX10_lacks_60 rfl ?_
        refine r_icmp_ne (tgt := 68) dX10_lacks_61 (by decide) (fun h10 => ?_) (fun h10 => ?_)
        · refine r_iconst (v := (1 : Int32)) dX10_lacks_64 rfl ?_
          refine r_goto (tgt := 69) dX10_lacks_65 (by decide) ?_
          exact r_pick [0, 1, 2, 3, 4] rfl (t_X10_lacks_69 S T U V v1 v2 v3 v4 (1 : Int32) (f_X10_lacks_31 U v1 v2 m_) ih)
        · refine r_iconst (v := (0 : Int32)) dX10_lacks_68 rfl ?_
          exact r_pick [0, 1, 2, 3, 4] rfl (t_X10_lacks_69 S T U V v1 v2 v3 v4 (0 : Int32) (f_X10_lacks_31 U v1 v2 m_) ih)
      · refine r_iinc (v := v4 + (1 : Int32)) (L' := [(4, .int (v4 + (1 : Int32))), (0, .ref 78), (1, .int v1), (2, .int v2), (3, .int v3)]) dX10_lacks_99 4 rfl rfl (by decide) rfl ?_
        refine r_goto (tgt := 31) dX10_lacks_102 (by decide) ?_
        exact r_pick [1, 2, 3, 4, 0] rfl (ih v3 (v4 + (1 : Int32)))
def f_X10_lacks (U : SI) (v1 : Int32) (v2 : Int32) : Option (Int32) :=
  (f_X10_in v1.toInt64 (0 : Int64) (5 : Int64)).bind fun q1 =>
  if q1 = 0 then
    some (-1001 : Int32)
  else
    (f_X10_in v2.toInt64 (0 : Int64) (1 : Int64)).bind fun q3 =>
    if q3 = 0 then
      some (-1001 : Int32)
    else
      f_X10_lacks_31 U v1 v2 fu (0 : Int32) (0 : Int32)
set_option maxHeartbeats 4000000 in
set_option maxRecDepth 100000 in
theorem m_X10_lacks (S : SI) (T : SL) (U : SI) (V : SL) (v1 : Int32) (v2 : Int32) : Meth 2 yX10_lacks cX10_lacks 5 (some .int) [.ref 78, .int v1, .int v2] (S, T, U, V) (f_X10_lacks U v1 v2) (fun a : Int32 => (some (.int a), (S, T, U, V))) := by
  refine meth_of (L := [(0, .ref 78), (1, .int v1), (2, .int v2)]) (by decide +kernel) (Nat.le_of_ble_eq_true rfl) rfl ?_
  rw [f_X10_lacks]
  refine r_iload_n dX10_lacks_0 1 rfl rfl ?_
  refine r_i2l dX10_lacks_1 ?_
  refine r_lconst (v := (0 : Int64)) dX10_lacks_2 rfl ?_
  refine r_ldc2_w (v := (5 : Int64)) dX10_lacks_3 kw_X10_75 ?_
  refine rS_i (as := [.long v1.toInt64, .long (0 : Int64), .long (5 : Int64)]) (st := []) dX10_lacks_6 cl_X10_59 (m_X10_in S T U V v1.toInt64 (0 : Int64) (5 : Int64)) (by decide) rfl (Nat.le_of_ble_eq_true rfl) (fun q1 _ => ?_)
  refine r_if_eq (tgt := 22) dX10_lacks_9 (by decide) (fun h2 => ?_) (fun h2 => ?_)
  · refine r_sipush (v := (-1001 : Int32)) dX10_lacks_22 rfl ?_
    exact r_ireturn (ty := .int) dX10_lacks_25 rfl (nar_i _) rfl
  · refine r_iload_n dX10_lacks_12 2 rfl rfl ?_
    refine r_i2l dX10_lacks_13 ?_
    refine r_lconst (v := (0 : Int64)) dX10_lacks_14 rfl ?_
    refine r_lconst (v := (1 : Int64)) dX10_lacks_15 rfl ?_
    refine rS_i (as := [.long v2.toInt64, .long (0 : Int64), .long (1 : Int64)]) (st := []) dX10_lacks_16 cl_X10_59 (m_X10_in S T U V v2.toInt64 (0 : Int64) (1 : Int64)) (by decide) rfl (Nat.le_of_ble_eq_true rfl) (fun q3 _ => ?_)
    refine r_if_ne (tgt := 26) dX10_lacks_19 (by decide) (fun h4 => ?_) (fun h4 => ?_)
    · refine r_sipush (v := (-1001 : Int32)) dX10_lacks_22 rfl ?_
      exact r_ireturn (ty := .int) dX10_lacks_25 rfl (nar_i _) rfl
    · refine r_iconst (v := (0 : Int32)) dX10_lacks_26 rfl ?_
      refine r_istore_n (L' := [(3, .int (0 : Int32)), (0, .ref 78), (1, .int v1), (2, .int v2)]) dX10_lacks_27 rfl (by decide) rfl ?_
      refine r_iconst (v := (0 : Int32)) dX10_lacks_28 rfl ?_
      refine r_istore (L' := [(4, .int (0 : Int32)), (3, .int (0 : Int32)), (0, .ref 78), (1, .int v1), (2, .int v2)]) dX10_lacks_29 (by decide) rfl ?_
      exact r_pick [2, 3, 4, 1, 0] rfl (t_X10_lacks_31 S T U V v1 v2 fu (0 : Int32) (0 : Int32))
def f_X10_wish (U : SI) (v1 : Int32) (v2 : Int32) : Option (Int32 × SI) :=
  (f_X10_in v1.toInt64 (0 : Int64) (2 : Int64)).bind fun q1 =>
  if q1 = 0 then
    some ((-1 : Int32), U)
  else
    (f_X10_in v2.toInt64 (0 : Int64) (63 : Int64)).bind fun q3 =>
    if q3 = 0 then
      some ((-1 : Int32), U)
    else
      gd (inB ((10 : Int32) + v1) 205) <|
      nm (U 79 (ix ((10 : Int32) + v1))) fun x6 =>
      gd (inB ((10 : Int32) + v1) 205) <|
      nm (up2 U 79 (ix ((10 : Int32) + v1)) v2) fun U8 =>
      some (x6, U8)
set_option maxHeartbeats 4000000 in
set_option maxRecDepth 100000 in
theorem m_X10_wish (S : SI) (T : SL) (U : SI) (V : SL) (v1 : Int32) (v2 : Int32) : Meth 2 yX10_wish cX10_wish 4 (some .int) [.ref 78, .int v1, .int v2] (S, T, U, V) (f_X10_wish U v1 v2) (fun a : Int32 × SI => (some (.int a.1), (S, T, a.2, V))) := by
  refine meth_of (L := [(0, .ref 78), (1, .int v1), (2, .int v2)]) (by decide +kernel) (Nat.le_of_ble_eq_true rfl) rfl ?_
  rw [f_X10_wish]
  refine r_iload_n dX10_wish_0 1 rfl rfl ?_
  refine r_i2l dX10_wish_1 ?_
  refine r_lconst (v := (0 : Int64)) dX10_wish_2 rfl ?_
  refine r_ldc2_w (v := (2 : Int64)) dX10_wish_3 kw_X10_106 ?_
  refine rS_i (as := [.long v1.toInt64, .long (0 : Int64), .long (2 : Int64)]) (st := []) dX10_wish_6 cl_X10_59 (m_X10_in S T U V v1.toInt64 (0 : Int64) (2 : Int64)) (by decide) rfl (Nat.le_of_ble_eq_true rfl) (fun q1 _ => ?_)
  refine r_if_eq (tgt := 24) dX10_wish_9 (by decide) (fun h2 => ?_) (fun h2 => ?_)
  · refine r_iconst (v := (-1 : Int32)) dX10_wish_24 rfl ?_
    exact r_ireturn (ty := .int) dX10_wish_25 rfl (nar_i _) rfl
  · refine r_iload_n dX10_wish_12 2 rfl rfl ?_
    refine r_i2l dX10_wish_13 ?_
    refine r_lconst (v := (0 : Int64)) dX10_wish_14 rfl ?_
    refine r_ldc2_w (v := (63 : Int64)) dX10_wish_15 kw_X10_230 ?_
    refine rS_i (as := [.long v2.toInt64, .long (0 : Int64), .long (63 : Int64)]) (st := []) dX10_wish_18 cl_X10_59 (m_X10_in S T U V v2.toInt64 (0 : Int64) (63 : Int64)) (by decide) rfl (Nat.le_of_ble_eq_true rfl) (fun q3 _ => ?_)
    refine r_if_ne (tgt := 26) dX10_wish_21 (by decide) (fun h4 => ?_) (fun h4 => ?_)
    · refine r_iconst (v := (-1 : Int32)) dX10_wish_24 rfl ?_
      exact r_ireturn (ty := .int) dX10_wish_25 rfl (nar_i _) rfl
    · refine r_aload_n dX10_wish_26 0 rfl rfl ?_
      refine r_getr dX10_wish_27 fl_X10_7 (by decide) rfl rfl (by decide) ?_
      refine r_bipush (v := (10 : Int32)) dX10_wish_30 rfl ?_
      refine r_iload_n dX10_wish_32 1 rfl rfl ?_
      refine r_iadd dX10_wish_33 ?_
      refine rm_iald dX10_wish_34 (by decide) (by decide) rfl (fun h5 => ?_)
      refine r_nmi (fun x6 => ?_)
      refine r_istore_n (L' := [(3, .int x6), (0, .ref 78), (1, .int v1), (2, .int v2)]) dX10_wish_35 rfl (by decide) rfl ?_
      refine r_aload_n dX10_wish_36 1 rfl rfl ?_
      refine r_getr dX10_wish_37 fl_X10_7 (by decide) rfl rfl (by decide) ?_
      refine r_bipush (v := (10 : Int32)) dX10_wish_40 rfl ?_
      refine r_iload_n dX10_wish_42 2 rfl rfl ?_
      refine r_iadd dX10_wish_43 ?_
      refine r_iload_n dX10_wish_44 3 rfl rfl ?_
      refine rm_iast dX10_wish_45 (by decide) (by decide) rfl (fun h7 => ?_)
      refine r_nmU (fun U8 => ?_)
      refine r_iload_n dX10_wish_46 0 rfl rfl ?_
      exact r_ireturn (ty := .int) dX10_wish_47 rfl (nar_i _) rfl
def f_X10_buy_58 (v4 : Int32) (s0 : Int32) (kh15 : Int32 → Int32 → Option (Int32)) : Option (Int32) :=
  kh15 s0 (v4 + (1 : Int32))
set_option maxHeartbeats 4000000 in
set_option maxRecDepth 100000 in
theorem t_X10_buy_58 (S : SI) (T : SL) (U : SI) (V : SL) (v1 : Int32) (v2 : Int32) (v4 : Int32) (s0 : Int32) (kh15 : Int32 → Int32 → Option (Int32)) (hkh15 : ∀ (w3 : Int32) (w4 : Int32), Run 2 yX10_buy cX10_buy 5 (some .int) none (fun a : Int32 => (some (.int a), (S, T, U, V))) 15 [(0, .ref 78), (1, .int v1), (2, .int v2), (3, .int w3), (4, .int w4)] [] (S, T, U, V) (kh15 w3 w4)) : Run 2 yX10_buy cX10_buy 5 (some .int) none (fun a : Int32 => (some (.int a), (S, T, U, V))) 58 [(0, .ref 78), (1, .int v1), (2, .int v2), (4, .int v4)] [.int s0] (S, T, U, V) (f_X10_buy_58 v4 s0 kh15) := by
  rw [f_X10_buy_58]
  refine r_istore_n (L' := [(3, .int s0), (0, .ref 78), (1, .int v1), (2, .int v2), (4, .int v4)]) dX10_buy_58 rfl (by decide) rfl ?_
  refine r_iinc (v := v4 + (1 : Int32)) (L' := [(4, .int (v4 + (1 : Int32))), (3, .int s0), (0, .ref 78), (1, .int v1), (2, .int v2)]) dX10_buy_59 4 rfl rfl (by decide) rfl ?_
  refine r_goto (tgt := 15) dX10_buy_62 (by decide) ?_
  exact r_pick [2, 3, 4, 1, 0] rfl (hkh15 s0 (v4 + (1 : Int32)))
def f_X10_buy_15 (U : SI) (v2 : Int32) (ke65 : Int32 → Option (Int32)) : Nat → Int32 → Int32 → Option (Int32)
  | 0, _, _ => none
  | m_ + 1, v3, v4 =>
    if (3 : Int32) ≤ v4 then
      ke65 v3
    else
      if v3 = 0 then
        f_X10_buy_58 v4 (0 : Int32) (f_X10_buy_15 U v2 ke65 m_)
      else
        gd (inB ((10 : Int32) + v4) 205) <|
        if (U 79 (ix ((10 : Int32) + v4))) = 0 then
          f_X10_buy_58 v4 (1 : Int32) (f_X10_buy_15 U v2 ke65 m_)
        else
          gd (inB ((10 : Int32) + v4) 205) <|
          if ((U 79 (ix ((10 : Int32) + v4))) &&& v2) = 0 then
            f_X10_buy_58 v4 (0 : Int32) (f_X10_buy_15 U v2 ke65 m_)
          else
            f_X10_buy_58 v4 (1 : Int32) (f_X10_buy_15 U v2 ke65 m_)
set_option maxHeartbeats 4000000 in
set_option maxRecDepth 100000 in
theorem t_X10_buy_15 (S : SI) (T : SL) (U : SI) (V : SL) (v1 : Int32) (v2 : Int32) (ke65 : Int32 → Option (Int32)) (hke65 : ∀ (w3 : Int32), Run 2 yX10_buy cX10_buy 5 (some .int) none (fun a : Int32 => (some (.int a), (S, T, U, V))) 65 [(0, .ref 78), (1, .int v1), (2, .int v2), (3, .int w3)] [] (S, T, U, V) (ke65 w3)) : ∀ (m_ : Nat) (v3 : Int32) (v4 : Int32), Run 2 yX10_buy cX10_buy 5 (some .int) none (fun a : Int32 => (some (.int a), (S, T, U, V))) 15 [(0, .ref 78), (1, .int v1), (2, .int v2), (3, .int v3), (4, .int v4)] [] (S, T, U, V) (f_X10_buy_15 U v2 ke65 m_ v3 v4) := by
  intro m_
  induction m_ with
  | zero =>
    intro v3 v4
    rw [f_X10_buy_15]
    exact r_none
  | succ m_ ih =>
    intro v3 v4
    rw [f_X10_buy_15]
    refine r_iload dX10_buy_15 4 rfl ?_
    refine r_iconst (v := (3 : Int32)) dX10_buy_17 rfl ?_
    refine r_icmp_ge (tgt := 65) dX10_buy_18 (by decide) (fun h2 => ?_) (fun h2 => ?_)
    · exact r_pick [0, 1, 2, 3] rfl (hke65 v3)
    · refine r_iload_n dX10_buy_21 3 rfl rfl ?_
      refine r_if_eq (tgt := 57) dX10_buy_22 (by decide) (fun h3 => ?_) (fun h3 => ?_)
      · refine r_iconst (v := (0 : Int32)) dX10_buy_57 rfl ?_
        exact r_pick [0, 1, 2, 4] rfl (t_X10_buy_58 S T U V v1 v2 v4 (0 : Int32) (f_X10_buy_15 U v2 ke65 m_) ih)
      · refine r_aload_n dX10_buy_25 0 rfl rfl ?_
        refine r_getr dX10_buy_26 fl_X10_7 (by decide) rfl rfl (by decide) ?_
        refine r_bipush (v := (10 : Int32)) dX10_buy_29 rfl ?_
        refine r_iload dX10_buy_31 4 rfl ?_
        refine r_iadd dX10_buy_33 ?_
        refine rm_iald dX10_buy_34 (by decide) (by decide) rfl (fun h4 => ?_)
        refine r_if_eq (tgt := 53) dX10_buy_35 (by decide) (fun h5 => ?_) (fun h5 => ?_)
        · refine r_iconst (v := (1 : Int32)) dX10_buy_53 rfl ?_
          refine r_goto (tgt := 58) dX10_buy_54 (by decide) ?_
          exact r_pick [0, 1, 2, 4] rfl (t_X10_buy_58 S T U V v1 v2 v4 (1 : Int32) (f_X10_buy_15 U v2 ke65 m_) ih)
        · refine r_aload_n dX10_buy_38 0 rfl rfl ?_
          refine r_getr dX10_buy_39 fl_X10_7 (by decide) rfl rfl (by decide) ?_
          refine r_bipush (v := (10 : Int32)) dX10_buy_42 rfl ?_
          refine r_iload dX10_buy_44 4 rfl ?_
          refine r_iadd dX10_buy_46 ?_
          refine rm_iald dX10_buy_47 (by decide) (by decide) rfl (fun h6 => ?_)
          refine r_iload_n dX10_buy_48 2 rfl rfl ?_
          refine r_iand dX10_buy_49 ?_
          refine r_if_eq (tgt := 57) dX10_buy_50 (by decide) (fun h7 => ?_) (fun h7 => ?_)
          · refine r_iconst (v := (0 : Int32)) dX10_buy_57 rfl ?_
            exact r_pick [0, 1, 2, 4] rfl (t_X10_buy_58 S T U V v1 v2 v4 (0 : Int32) (f_X10_buy_15 U v2 ke65 m_) ih)
          · refine r_iconst (v := (1 : Int32)) dX10_buy_53 rfl ?_
            refine r_goto (tgt := 58) dX10_buy_54 (by decide) ?_
            exact r_pick [0, 1, 2, 4] rfl (t_X10_buy_58 S T U V v1 v2 v4 (1 : Int32) (f_X10_buy_15 U v2 ke65 m_) ih)
def f_X10_buy_85 (v2 : Int32) (s0 : Int32) (kh6 : Int32 → Int32 → Option (Int32)) : Option (Int32) :=
  kh6 s0 (v2 + (-1 : Int32))
set_option maxHeartbeats 4000000 in
set_option maxRecDepth 100000 in
theorem t_X10_buy_85 (S : SI) (T : SL) (U : SI) (V : SL) (v2 : Int32) (s0 : Int32) (kh6 : Int32 → Int32 → Option (Int32)) (hkh6 : ∀ (w1 : Int32) (w2 : Int32), Run 2 yX10_buy cX10_buy 5 (some .int) none (fun a : Int32 => (some (.int a), (S, T, U, V))) 6 [(0, .ref 78), (1, .int w1), (2, .int w2)] [] (S, T, U, V) (kh6 w1 w2)) : Run 2 yX10_buy cX10_buy 5 (some .int) none (fun a : Int32 => (some (.int a), (S, T, U, V))) 85 [(0, .ref 78), (2, .int v2)] [.int s0] (S, T, U, V) (f_X10_buy_85 v2 s0 kh6) := by
  rw [f_X10_buy_85]
  refine r_istore_n (L' := [(1, .int s0), (0, .ref 78), (2, .int v2)]) dX10_buy_85 rfl (by decide) rfl ?_
  refine r_iinc (v := v2 + (-1 : Int32)) (L' := [(2, .int (v2 + (-1 : Int32))), (1, .int s0), (0, .ref 78)]) dX10_buy_86 2 rfl rfl (by decide) rfl ?_
  refine r_goto (tgt := 6) dX10_buy_89 (by decide) ?_
  exact r_pick [2, 1, 0] rfl (hkh6 s0 (v2 + (-1 : Int32)))
def f_X10_buy_65 (v1 : Int32) (v2 : Int32) (v3 : Int32) (kh6 : Int32 → Int32 → Option (Int32)) : Option (Int32) :=
  if v3 = 0 then
    f_X10_buy_85 v2 v1 kh6
  else
    (f_X10_ones v2).bind fun q9 =>
    (f_X10_ones v1).bind fun q10 =>
    if q10 < q9 then
      f_X10_buy_85 v2 v1 kh6
    else
      f_X10_buy_85 v2 v2 kh6
set_option maxHeartbeats 4000000 in
set_option maxRecDepth 100000 in
theorem t_X10_buy_65 (S : SI) (T : SL) (U : SI) (V : SL) (v1 : Int32) (v2 : Int32) (v3 : Int32) (kh6 : Int32 → Int32 → Option (Int32)) (hkh6 : ∀ (w1 : Int32) (w2 : Int32), Run 2 yX10_buy cX10_buy 5 (some .int) none (fun a : Int32 => (some (.int a), (S, T, U, V))) 6 [(0, .ref 78), (1, .int w1), (2, .int w2)] [] (S, T, U, V) (kh6 w1 w2)) : Run 2 yX10_buy cX10_buy 5 (some .int) none (fun a : Int32 => (some (.int a), (S, T, U, V))) 65 [(0, .ref 78), (1, .int v1), (2, .int v2), (3, .int v3)] [] (S, T, U, V) (f_X10_buy_65 v1 v2 v3 kh6) := by
  rw [f_X10_buy_65]
  refine r_iload_n dX10_buy_65 3 rfl rfl ?_
  refine r_if_eq (tgt := 84) dX10_buy_66 (by decide) (fun h8 => ?_) (fun h8 => ?_)
  · refine r_iload_n dX10_buy_84 1 rfl rfl ?_
    exact r_pick [0, 2] rfl (t_X10_buy_85 S T U V v2 v1 kh6 hkh6)
  · refine r_iload_n dX10_buy_69 2 rfl rfl ?_
    refine rS_i (as := [.int v2]) (st := []) dX10_buy_70 cl_X10_151 (m_X10_ones S T U V v2) (by decide) rfl (Nat.le_of_ble_eq_true rfl) (fun q9 _ => ?_)
    refine r_iload_n dX10_buy_73 1 rfl rfl ?_
    refine rS_i (as := [.int v1]) (st := [.int q9]) dX10_buy_74 cl_X10_151 (m_X10_ones S T U V v1) (by decide) rfl (Nat.le_of_ble_eq_true rfl) (fun q10 _ => ?_)
    refine r_icmp_gt (tgt := 84) dX10_buy_77 (by decide) (fun h11 => ?_) (fun h11 => ?_)
    · refine r_iload_n dX10_buy_84 1 rfl rfl ?_
      exact r_pick [0, 2] rfl (t_X10_buy_85 S T U V v2 v1 kh6 hkh6)
    · refine r_iload_n dX10_buy_80 2 rfl rfl ?_
      refine r_goto (tgt := 85) dX10_buy_81 (by decide) ?_
      exact r_pick [0, 2] rfl (t_X10_buy_85 S T U V v2 v2 kh6 hkh6)
def f_X10_buy_6 (U : SI) : Nat → Int32 → Int32 → Option (Int32)
  | 0, _, _ => none
  | m_ + 1, v1, v2 =>
    if v2 < 0 then
      some v1
    else
      f_X10_buy_15 U v2 (fun o3 => f_X10_buy_65 v1 v2 o3 (f_X10_buy_6 U m_)) fu (1 : Int32) (0 : Int32)
set_option maxHeartbeats 4000000 in
set_option maxRecDepth 100000 in
theorem t_X10_buy_6 (S : SI) (T : SL) (U : SI) (V : SL) : ∀ (m_ : Nat) (v1 : Int32) (v2 : Int32), Run 2 yX10_buy cX10_buy 5 (some .int) none (fun a : Int32 => (some (.int a), (S, T, U, V))) 6 [(0, .ref 78), (1, .int v1), (2, .int v2)] [] (S, T, U, V) (f_X10_buy_6 U m_ v1 v2) := by
  intro m_
  induction m_ with
  | zero =>
    intro v1 v2
    rw [f_X10_buy_6]
    exact r_none
  | succ m_ ih =>
    intro v1 v2
    rw [f_X10_buy_6]
    refine r_iload_n dX10_buy_6 2 rfl rfl ?_
    refine r_if_lt (tgt := 92) dX10_buy_7 (by decide) (fun h1 => ?_) (fun h1 => ?_)
    · refine r_iload_n dX10_buy_92 1 rfl rfl ?_
      exact r_ireturn (ty := .int) dX10_buy_93 rfl (nar_i _) rfl
    · refine r_iconst (v := (1 : Int32)) dX10_buy_10 rfl ?_
      refine r_istore_n (L' := [(3, .int (1 : Int32)), (0, .ref 78), (1, .int v1), (2, .int v2)]) dX10_buy_11 rfl (by decide) rfl ?_
      refine r_iconst (v := (0 : Int32)) dX10_buy_12 rfl ?_
      refine r_istore (L' := [(4, .int (0 : Int32)), (3, .int (1 : Int32)), (0, .ref 78), (1, .int v1), (2, .int v2)]) dX10_buy_13 (by decide) rfl ?_
      exact r_pick [2, 3, 4, 1, 0] rfl (t_X10_buy_15 S T U V v1 v2 (fun o3 => f_X10_buy_65 v1 v2 o3 (f_X10_buy_6 U m_)) (fun o3 => r_pick [0, 1, 2, 3] rfl (t_X10_buy_65 S T U V v1 v2 o3 (f_X10_buy_6 U m_) ih)) fu (1 : Int32) (0 : Int32))
def f_X10_buy (U : SI) : Option (Int32) :=
  f_X10_buy_6 U fu (63 : Int32) (63 : Int32)
set_option maxHeartbeats 4000000 in
set_option maxRecDepth 100000 in
theorem m_X10_buy (S : SI) (T : SL) (U : SI) (V : SL)  : Meth 2 yX10_buy cX10_buy 5 (some .int) [.ref 78] (S, T, U, V) (f_X10_buy U) (fun a : Int32 => (some (.int a), (S, T, U, V))) := by
  refine meth_of (L := [(0, .ref 78)]) (by decide +kernel) (Nat.le_of_ble_eq_true rfl) rfl ?_
  rw [f_X10_buy]
  refine r_bipush (v := (63 : Int32)) dX10_buy_0 rfl ?_
  refine r_istore_n (L' := [(1, .int (63 : Int32)), (0, .ref 78)]) dX10_buy_2 rfl (by decide) rfl ?_
  refine r_bipush (v := (63 : Int32)) dX10_buy_3 rfl ?_
  refine r_istore_n (L' := [(2, .int (63 : Int32)), (1, .int (63 : Int32)), (0, .ref 78)]) dX10_buy_5 rfl (by decide) rfl ?_
  exact r_pick [2, 1, 0] rfl (t_X10_buy_6 S T U V fu (63 : Int32) (63 : Int32))
def f_X10_areApart (v0 : Int32) (v1 : Int32) (v2 : Int32) : Option (Int32) :=
  (f_X10_ones (v0 &&& (v1 ^^^ (-1 : Int32)))).bind fun q1 =>
  if v2 < q1 then
    some (1 : Int32)
  else
    (f_X10_ones (v1 &&& (v0 ^^^ (-1 : Int32)))).bind fun q3 =>
    if q3 ≤ v2 then
      some (0 : Int32)
    else
      some (1 : Int32)
set_option maxHeartbeats 4000000 in
set_option maxRecDepth 100000 in
theorem m_X10_areApart (S : SI) (T : SL) (U : SI) (V : SL) (v0 : Int32) (v1 : Int32) (v2 : Int32) : Meth 2 yX10_areApart cX10_areApart 3 (some .boolean) [.int v0, .int v1, .int v2] (S, T, U, V) (f_X10_areApart v0 v1 v2) (fun a : Int32 => (some (.int a), (S, T, U, V))) := by
  refine meth_of (L := [(0, .int v0), (1, .int v1), (2, .int v2)]) (by decide +kernel) (Nat.le_of_ble_eq_true rfl) rfl ?_
  rw [f_X10_areApart]
  refine r_iload_n dX10_areApart_0 0 rfl rfl ?_
  refine r_iload_n dX10_areApart_1 1 rfl rfl ?_
  refine r_iconst (v := (-1 : Int32)) dX10_areApart_2 rfl ?_
  refine r_ixor dX10_areApart_3 ?_
  refine r_iand dX10_areApart_4 ?_
  refine rS_i (as := [.int (v0 &&& (v1 ^^^ (-1 : Int32)))]) (st := []) dX10_areApart_5 cl_X10_151 (m_X10_ones S T U V (v0 &&& (v1 ^^^ (-1 : Int32)))) (by decide) rfl (Nat.le_of_ble_eq_true rfl) (fun q1 _ => ?_)
  refine r_iload_n dX10_areApart_8 2 rfl rfl ?_
  refine r_icmp_gt (tgt := 24) dX10_areApart_9 (by decide) (fun h2 => ?_) (fun h2 => ?_)
  · refine r_iconst (v := (1 : Int32)) dX10_areApart_24 rfl ?_
    refine r_goto (tgt := 29) dX10_areApart_25 (by decide) ?_
    exact r_ireturn (ty := .boolean) dX10_areApart_29 rfl rfl rfl
  · refine r_iload_n dX10_areApart_12 1 rfl rfl ?_
    refine r_iload_n dX10_areApart_13 0 rfl rfl ?_
    refine r_iconst (v := (-1 : Int32)) dX10_areApart_14 rfl ?_
    refine r_ixor dX10_areApart_15 ?_
    refine r_iand dX10_areApart_16 ?_
    refine rS_i (as := [.int (v1 &&& (v0 ^^^ (-1 : Int32)))]) (st := []) dX10_areApart_17 cl_X10_151 (m_X10_ones S T U V (v1 &&& (v0 ^^^ (-1 : Int32)))) (by decide) rfl (Nat.le_of_ble_eq_true rfl) (fun q3 _ => ?_)
    refine r_iload_n dX10_areApart_20 2 rfl rfl ?_
    refine r_icmp_le (tgt := 28) dX10_areApart_21 (by decide) (fun h4 => ?_) (fun h4 => ?_)
    · refine r_iconst (v := (0 : Int32)) dX10_areApart_28 rfl ?_
      exact r_ireturn (ty := .boolean) dX10_areApart_29 rfl rfl rfl
    · refine r_iconst (v := (1 : Int32)) dX10_areApart_24 rfl ?_
      refine r_goto (tgt := 29) dX10_areApart_25 (by decide) ?_
      exact r_ireturn (ty := .boolean) dX10_areApart_29 rfl rfl rfl
def f_X10_findMarks_44 (U : SI) (v2 : Int32) (v4 : Int32) (ke82 : Int32 → Option (Int32 × SI)) : Nat → Int32 → Int32 → Option (Int32 × SI)
  | 0, _, _ => none
  | m_ + 1, v5, v6 =>
    if v4 ≤ v6 then
      ke82 v5
    else
      if v5 = 0 then
        ke82 v5
      else
        gd (inB v6 5) <|
        gd (inB v4 5) <|
        (f_X10_areApart (U 90 (ix v6)) (U 90 (ix v4)) v2).bind fun q11 =>
        (f_X10_findMarks_44 U v2 v4 ke82 m_) q11 (v6 + (1 : Int32))
set_option maxHeartbeats 4000000 in
set_option maxRecDepth 100000 in
theorem t_X10_findMarks_44 (S : SI) (T : SL) (U : SI) (V : SL) (v1 : Int32) (v2 : Int32) (v3 : Int32) (v4 : Int32) (ke82 : Int32 → Option (Int32 × SI)) (hke82 : ∀ (w5 : Int32), Run 3 yX10_findMarks cX10_findMarks 7 (some .boolean) none (fun a : Int32 × SI => (some (.int a.1), (S, T, a.2, V))) 82 [(0, .ref 78), (1, .int v1), (2, .int v2), (3, .int v3), (4, .int v4), (5, .int w5)] [] (S, T, U, V) (ke82 w5)) : ∀ (m_ : Nat) (v5 : Int32) (v6 : Int32), Run 3 yX10_findMarks cX10_findMarks 7 (some .boolean) none (fun a : Int32 × SI => (some (.int a.1), (S, T, a.2, V))) 44 [(0, .ref 78), (1, .int v1), (2, .int v2), (3, .int v3), (4, .int v4), (5, .int v5), (6, .int v6)] [] (S, T, U, V) (f_X10_findMarks_44 U v2 v4 ke82 m_ v5 v6) := by
  intro m_
  induction m_ with
  | zero =>
    intro v5 v6
    rw [f_X10_findMarks_44]
    exact r_none
  | succ m_ ih =>
    intro v5 v6
    rw [f_X10_findMarks_44]
    refine r_iload dX10_findMarks_44 6 rfl ?_
    refine r_iload dX10_findMarks_46 4 rfl ?_
    refine r_icmp_ge (tgt := 82) dX10_findMarks_48 (by decide) (fun h7 => ?_) (fun h7 => ?_)
    · exact r_pick [0, 1, 2, 3, 4, 5] rfl (hke82 v5)
    · refine r_iload dX10_findMarks_51 5 rfl ?_
      refine r_if_eq (tgt := 82) dX10_findMarks_53 (by decide) (fun h8 => ?_) (fun h8 => ?_)
      · exact r_pick [0, 1, 2, 3, 4, 5] rfl (hke82 v5)
      · refine r_aload_n dX10_findMarks_56 0 rfl rfl ?_
        refine r_getr dX10_findMarks_57 fl_X10_44 (by decide) rfl rfl (by decide) ?_
        refine r_iload dX10_findMarks_60 6 rfl ?_
        refine rm_iald dX10_findMarks_62 (by decide) (by decide) rfl (fun h9 => ?_)
        refine r_aload_n dX10_findMarks_63 0 rfl rfl ?_
        refine r_getr dX10_findMarks_64 fl_X10_44 (by decide) rfl rfl (by decide) ?_
        refine r_iload dX10_findMarks_67 4 rfl ?_
        refine rm_iald dX10_findMarks_69 (by decide) (by decide) rfl (fun h10 => ?_)
        refine r_iload_n dX10_findMarks_70 2 rfl rfl ?_
        refine rS_i (as := [.int (U 90 (ix v6)), .int (U 90 (ix v4)), .int v2]) (st := []) dX10_findMarks_71 cl_X10_232 (m_X10_areApart S T U V (U 90 (ix v6)) (U 90 (ix v4)) v2) (by decide) rfl (Nat.le_of_ble_eq_true rfl) (fun q11 _ => ?_)
        refine r_istore (L' := [(5, .int q11), (0, .ref 78), (1, .int v1), (2, .int v2), (3, .int v3), (4, .int v4), (6, .int v6)]) dX10_findMarks_74 (by decide) rfl ?_
        refine r_iinc (v := v6 + (1 : Int32)) (L' := [(6, .int (v6 + (1 : Int32))), (5, .int q11), (0, .ref 78), (1, .int v1), (2, .int v2), (3, .int v3), (4, .int v4)]) dX10_findMarks_76 6 rfl rfl (by decide) rfl ?_
        refine r_goto (tgt := 44) dX10_findMarks_79 (by decide) ?_
        exact r_pick [2, 3, 4, 5, 6, 1, 0] rfl (ih q11 (v6 + (1 : Int32)))
def f_X10_findMarks_82 (U : SI) (v1 : Int32) (v3 : Int32) (v4 : Int32) (v5 : Int32) (kh10 : Int32 → SI → Option (Int32 × SI)) : Option (Int32 × SI) :=
  gd (inB v4 5) <|
  if (U 90 (ix v4)) < ((1 : Int32) <<< (v3 &&& 31)) then
    if v5 = 0 then
      gd (inB v4 5) <|
      gd (inB v4 5) <|
      nm (up2 U 90 (ix v4) ((U 90 (ix v4)) + (1 : Int32))) fun U17 =>
      kh10 v4 U17
    else
      if v1 ≤ (v4 + (1 : Int32)) then
        kh10 (v4 + (1 : Int32)) U
      else
        gd (inB ((v4 + (1 : Int32)) - (1 : Int32)) 5) <|
        gd (inB (v4 + (1 : Int32)) 5) <|
        nm (up2 U 90 (ix (v4 + (1 : Int32))) ((U 90 (ix ((v4 + (1 : Int32)) - (1 : Int32)))) + (1 : Int32))) fun U21 =>
        kh10 (v4 + (1 : Int32)) U21
  else
    if (v4 + (-1 : Int32)) < 0 then
      kh10 (v4 + (-1 : Int32)) U
    else
      gd (inB (v4 + (-1 : Int32)) 5) <|
      gd (inB (v4 + (-1 : Int32)) 5) <|
      nm (up2 U 90 (ix (v4 + (-1 : Int32))) ((U 90 (ix (v4 + (-1 : Int32)))) + (1 : Int32))) fun U25 =>
      kh10 (v4 + (-1 : Int32)) U25
set_option maxHeartbeats 4000000 in
set_option maxRecDepth 100000 in
theorem t_X10_findMarks_82 (S : SI) (T : SL) (U : SI) (V : SL) (v1 : Int32) (v2 : Int32) (v3 : Int32) (v4 : Int32) (v5 : Int32) (kh10 : Int32 → SI → Option (Int32 × SI)) (hkh10 : ∀ (w4 : Int32) (U' : SI), Run 3 yX10_findMarks cX10_findMarks 7 (some .boolean) none (fun a : Int32 × SI => (some (.int a.1), (S, T, a.2, V))) 10 [(0, .ref 78), (1, .int v1), (2, .int v2), (3, .int v3), (4, .int w4)] [] (S, T, U', V) (kh10 w4 U')) : Run 3 yX10_findMarks cX10_findMarks 7 (some .boolean) none (fun a : Int32 × SI => (some (.int a.1), (S, T, a.2, V))) 82 [(0, .ref 78), (1, .int v1), (2, .int v2), (3, .int v3), (4, .int v4), (5, .int v5)] [] (S, T, U, V) (f_X10_findMarks_82 U v1 v3 v4 v5 kh10) := by
  rw [f_X10_findMarks_82]
  refine r_aload_n dX10_findMarks_82 0 rfl rfl ?_
  refine r_getr dX10_findMarks_83 fl_X10_44 (by decide) rfl rfl (by decide) ?_
  refine r_iload dX10_findMarks_86 4 rfl ?_
  refine rm_iald dX10_findMarks_88 (by decide) (by decide) rfl (fun h12 => ?_)
  refine r_iconst (v := (1 : Int32)) dX10_findMarks_89 rfl ?_
  refine r_iload_n dX10_findMarks_90 3 rfl rfl ?_
  refine r_ishl dX10_findMarks_91 ?_
  refine r_icmp_lt (tgt := 117) dX10_findMarks_92 (by decide) (fun h13 => ?_) (fun h13 => ?_)
  · refine r_iload dX10_findMarks_117 5 rfl ?_
    refine r_if_eq (tgt := 152) dX10_findMarks_119 (by decide) (fun h14 => ?_) (fun h14 => ?_)
    · refine r_aload_n dX10_findMarks_152 0 rfl rfl ?_
      refine r_getr dX10_findMarks_153 fl_X10_44 (by decide) rfl rfl (by decide) ?_
      refine r_iload dX10_findMarks_156 4 rfl ?_
      refine r_dup2 dX10_findMarks_158 rfl rfl ?_
      refine rm_iald dX10_findMarks_159 (by decide) (by decide) rfl (fun h15 => ?_)
      refine r_iconst (v := (1 : Int32)) dX10_findMarks_160 rfl ?_
      refine r_iadd dX10_findMarks_161 ?_
      refine rm_iast dX10_findMarks_162 (by decide) (by decide) rfl (fun h16 => ?_)
      refine r_nmU (fun U17 => ?_)
      refine r_goto (tgt := 10) dX10_findMarks_163 (by decide) ?_
      exact r_pick [0, 1, 2, 3, 4] rfl (hkh10 v4 U17)
    · refine r_iinc (v := v4 + (1 : Int32)) (L' := [(4, .int (v4 + (1 : Int32))), (0, .ref 78), (1, .int v1), (2, .int v2), (3, .int v3), (5, .int v5)]) dX10_findMarks_122 4 rfl rfl (by decide) rfl ?_
      refine r_iload dX10_findMarks_125 0 rfl ?_
      refine r_iload_n dX10_findMarks_127 2 rfl rfl ?_
      refine r_icmp_ge (tgt := 163) dX10_findMarks_128 (by decide) (fun h18 => ?_) (fun h18 => ?_)
      · refine r_goto (tgt := 10) dX10_findMarks_163 (by decide) ?_
        exact r_pick [1, 2, 3, 4, 0] rfl (hkh10 (v4 + (1 : Int32)) U)
      · refine r_aload_n dX10_findMarks_131 1 rfl rfl ?_
        refine r_getr dX10_findMarks_132 fl_X10_44 (by decide) rfl rfl (by decide) ?_
        refine r_iload dX10_findMarks_135 0 rfl ?_
        refine r_aload_n dX10_findMarks_137 1 rfl rfl ?_
        refine r_getr dX10_findMarks_138 fl_X10_44 (by decide) rfl rfl (by decide) ?_
        refine r_iload dX10_findMarks_141 0 rfl ?_
        refine r_iconst (v := (1 : Int32)) dX10_findMarks_143 rfl ?_
        refine r_isub dX10_findMarks_144 ?_
        refine rm_iald dX10_findMarks_145 (by decide) (by decide) rfl (fun h19 => ?_)
        refine r_iconst (v := (1 : Int32)) dX10_findMarks_146 rfl ?_
        refine r_iadd dX10_findMarks_147 ?_
        refine rm_iast dX10_findMarks_148 (by decide) (by decide) rfl (fun h20 => ?_)
        refine r_nmU (fun U21 => ?_)
        refine r_goto (tgt := 163) dX10_findMarks_149 (by decide) ?_
        refine r_goto (tgt := 10) dX10_findMarks_163 (by decide) ?_
        exact r_pick [1, 2, 3, 4, 0] rfl (hkh10 (v4 + (1 : Int32)) U21)
  · refine r_iinc (v := v4 + (-1 : Int32)) (L' := [(4, .int (v4 + (-1 : Int32))), (0, .ref 78), (1, .int v1), (2, .int v2), (3, .int v3), (5, .int v5)]) dX10_findMarks_95 4 rfl rfl (by decide) rfl ?_
    refine r_iload dX10_findMarks_98 0 rfl ?_
    refine r_if_lt (tgt := 163) dX10_findMarks_100 (by decide) (fun h22 => ?_) (fun h22 => ?_)
    · refine r_goto (tgt := 10) dX10_findMarks_163 (by decide) ?_
      exact r_pick [1, 2, 3, 4, 0] rfl (hkh10 (v4 + (-1 : Int32)) U)
    · refine r_aload_n dX10_findMarks_103 1 rfl rfl ?_
      refine r_getr dX10_findMarks_104 fl_X10_44 (by decide) rfl rfl (by decide) ?_
      refine r_iload dX10_findMarks_107 0 rfl ?_
      refine r_dup2 dX10_findMarks_109 rfl rfl ?_
      refine rm_iald dX10_findMarks_110 (by decide) (by decide) rfl (fun h23 => ?_)
      refine r_iconst (v := (1 : Int32)) dX10_findMarks_111 rfl ?_
      refine r_iadd dX10_findMarks_112 ?_
      refine rm_iast dX10_findMarks_113 (by decide) (by decide) rfl (fun h24 => ?_)
      refine r_nmU (fun U25 => ?_)
      refine r_goto (tgt := 163) dX10_findMarks_114 (by decide) ?_
      refine r_goto (tgt := 10) dX10_findMarks_163 (by decide) ?_
      exact r_pick [1, 2, 3, 4, 0] rfl (hkh10 (v4 + (-1 : Int32)) U25)
def f_X10_findMarks_39 (U : SI) (v1 : Int32) (v2 : Int32) (v3 : Int32) (v4 : Int32) (s0 : Int32) (kh10 : Int32 → SI → Option (Int32 × SI)) : Option (Int32 × SI) :=
  f_X10_findMarks_44 U v2 v4 (fun o5 => f_X10_findMarks_82 U v1 v3 v4 o5 kh10) fu s0 (0 : Int32)
set_option maxHeartbeats 4000000 in
set_option maxRecDepth 100000 in
theorem t_X10_findMarks_39 (S : SI) (T : SL) (U : SI) (V : SL) (v1 : Int32) (v2 : Int32) (v3 : Int32) (v4 : Int32) (s0 : Int32) (kh10 : Int32 → SI → Option (Int32 × SI)) (hkh10 : ∀ (w4 : Int32) (U' : SI), Run 3 yX10_findMarks cX10_findMarks 7 (some .boolean) none (fun a : Int32 × SI => (some (.int a.1), (S, T, a.2, V))) 10 [(0, .ref 78), (1, .int v1), (2, .int v2), (3, .int v3), (4, .int w4)] [] (S, T, U', V) (kh10 w4 U')) : Run 3 yX10_findMarks cX10_findMarks 7 (some .boolean) none (fun a : Int32 × SI => (some (.int a.1), (S, T, a.2, V))) 39 [(0, .ref 78), (1, .int v1), (2, .int v2), (3, .int v3), (4, .int v4)] [.int s0] (S, T, U, V) (f_X10_findMarks_39 U v1 v2 v3 v4 s0 kh10) := by
  rw [f_X10_findMarks_39]
  refine r_istore (L' := [(5, .int s0), (0, .ref 78), (1, .int v1), (2, .int v2), (3, .int v3), (4, .int v4)]) dX10_findMarks_39 (by decide) rfl ?_
  refine r_iconst (v := (0 : Int32)) dX10_findMarks_41 rfl ?_
  refine r_istore (L' := [(6, .int (0 : Int32)), (5, .int s0), (0, .ref 78), (1, .int v1), (2, .int v2), (3, .int v3), (4, .int v4)]) dX10_findMarks_42 (by decide) rfl ?_
  exact r_pick [2, 3, 4, 5, 6, 1, 0] rfl (t_X10_findMarks_44 S T U V v1 v2 v3 v4 (fun o5 => f_X10_findMarks_82 U v1 v3 v4 o5 kh10) (fun o5 => r_pick [0, 1, 2, 3, 4, 5] rfl (t_X10_findMarks_82 S T U V v1 v2 v3 v4 o5 kh10 hkh10)) fu s0 (0 : Int32))
def f_X10_findMarks_10 (v1 : Int32) (v2 : Int32) (v3 : Int32) (ke166 : Int32 → SI → Option (Int32 × SI)) : Nat → Int32 → SI → Option (Int32 × SI)
  | 0, _, _ => none
  | m_ + 1, v4, U =>
    if v4 < 0 then
      ke166 v4 U
    else
      if v1 ≤ v4 then
        ke166 v4 U
      else
        gd (inB v4 5) <|
        if ((1 : Int32) <<< (v3 &&& 31)) ≤ (U 90 (ix v4)) then
          f_X10_findMarks_39 U v1 v2 v3 v4 (0 : Int32) (f_X10_findMarks_10 v1 v2 v3 ke166 m_)
        else
          f_X10_findMarks_39 U v1 v2 v3 v4 (1 : Int32) (f_X10_findMarks_10 v1 v2 v3 ke166 m_)
set_option maxHeartbeats 4000000 in
set_option maxRecDepth 100000 in
theorem t_X10_findMarks_10 (S : SI) (T : SL) (V : SL) (v1 : Int32) (v2 : Int32) (v3 : Int32) (ke166 : Int32 → SI → Option (Int32 × SI)) (hke166 : ∀ (w4 : Int32) (U' : SI), Run 3 yX10_findMarks cX10_findMarks 7 (some .boolean) none (fun a : Int32 × SI => (some (.int a.1), (S, T, a.2, V))) 166 [(1, .int v1), (4, .int w4)] [] (S, T, U', V) (ke166 w4 U')) : ∀ (m_ : Nat) (v4 : Int32) (U : SI), Run 3 yX10_findMarks cX10_findMarks 7 (some .boolean) none (fun a : Int32 × SI => (some (.int a.1), (S, T, a.2, V))) 10 [(0, .ref 78), (1, .int v1), (2, .int v2), (3, .int v3), (4, .int v4)] [] (S, T, U, V) (f_X10_findMarks_10 v1 v2 v3 ke166 m_ v4 U) := by
  intro m_
  induction m_ with
  | zero =>
    intro v4 U
    rw [f_X10_findMarks_10]
    exact r_none
  | succ m_ ih =>
    intro v4 U
    rw [f_X10_findMarks_10]
    refine r_iload dX10_findMarks_10 4 rfl ?_
    refine r_if_lt (tgt := 166) dX10_findMarks_12 (by decide) (fun h3 => ?_) (fun h3 => ?_)
    · exact r_pick [1, 4] rfl (hke166 v4 U)
    · refine r_iload dX10_findMarks_15 4 rfl ?_
      refine r_iload_n dX10_findMarks_17 1 rfl rfl ?_
      refine r_icmp_ge (tgt := 166) dX10_findMarks_18 (by decide) (fun h4 => ?_) (fun h4 => ?_)
      · exact r_pick [1, 4] rfl (hke166 v4 U)
      · refine r_aload_n dX10_findMarks_21 0 rfl rfl ?_
        refine r_getr dX10_findMarks_22 fl_X10_44 (by decide) rfl rfl (by decide) ?_
        refine r_iload dX10_findMarks_25 4 rfl ?_
        refine rm_iald dX10_findMarks_27 (by decide) (by decide) rfl (fun h5 => ?_)
        refine r_iconst (v := (1 : Int32)) dX10_findMarks_28 rfl ?_
        refine r_iload_n dX10_findMarks_29 3 rfl rfl ?_
        refine r_ishl dX10_findMarks_30 ?_
        refine r_icmp_ge (tgt := 38) dX10_findMarks_31 (by decide) (fun h6 => ?_) (fun h6 => ?_)
        · refine r_iconst (v := (0 : Int32)) dX10_findMarks_38 rfl ?_
          exact r_pick [0, 1, 2, 3, 4] rfl (t_X10_findMarks_39 S T U V v1 v2 v3 v4 (0 : Int32) (f_X10_findMarks_10 v1 v2 v3 ke166 m_) ih)
        · refine r_iconst (v := (1 : Int32)) dX10_findMarks_34 rfl ?_
          refine r_goto (tgt := 39) dX10_findMarks_35 (by decide) ?_
          exact r_pick [0, 1, 2, 3, 4] rfl (t_X10_findMarks_39 S T U V v1 v2 v3 v4 (1 : Int32) (f_X10_findMarks_10 v1 v2 v3 ke166 m_) ih)
def f_X10_findMarks_166 (U : SI) (v1 : Int32) (v4 : Int32) : Option (Int32 × SI) :=
  if v4 = v1 then
    some ((1 : Int32), U)
  else
    some ((0 : Int32), U)
set_option maxHeartbeats 4000000 in
set_option maxRecDepth 100000 in
theorem t_X10_findMarks_166 (S : SI) (T : SL) (U : SI) (V : SL) (v1 : Int32) (v4 : Int32) : Run 3 yX10_findMarks cX10_findMarks 7 (some .boolean) none (fun a : Int32 × SI => (some (.int a.1), (S, T, a.2, V))) 166 [(1, .int v1), (4, .int v4)] [] (S, T, U, V) (f_X10_findMarks_166 U v1 v4) := by
  rw [f_X10_findMarks_166]
  refine r_iload dX10_findMarks_166 1 rfl ?_
  refine r_iload_n dX10_findMarks_168 0 rfl rfl ?_
  refine r_icmp_ne (tgt := 176) dX10_findMarks_169 (by decide) (fun h26 => ?_) (fun h26 => ?_)
  · refine r_iconst (v := (1 : Int32)) dX10_findMarks_172 rfl ?_
    refine r_goto (tgt := 177) dX10_findMarks_173 (by decide) ?_
    exact r_ireturn (ty := .boolean) dX10_findMarks_177 rfl rfl rfl
  · refine r_iconst (v := (0 : Int32)) dX10_findMarks_176 rfl ?_
    exact r_ireturn (ty := .boolean) dX10_findMarks_177 rfl rfl rfl
def f_X10_findMarks (U : SI) (v1 : Int32) (v2 : Int32) (v3 : Int32) : Option (Int32 × SI) :=
  gd (inB (0 : Int32) 5) <|
  nm (up2 U 90 (ix (0 : Int32)) (0 : Int32)) fun U2 =>
  f_X10_findMarks_10 v1 v2 v3 (fun o4 Uo => f_X10_findMarks_166 Uo v1 o4) fu (0 : Int32) U2
set_option maxHeartbeats 4000000 in
set_option maxRecDepth 100000 in
theorem m_X10_findMarks (S : SI) (T : SL) (U : SI) (V : SL) (v1 : Int32) (v2 : Int32) (v3 : Int32) : Meth 3 yX10_findMarks cX10_findMarks 7 (some .boolean) [.ref 78, .int v1, .int v2, .int v3] (S, T, U, V) (f_X10_findMarks U v1 v2 v3) (fun a : Int32 × SI => (some (.int a.1), (S, T, a.2, V))) := by
  refine meth_of (L := [(0, .ref 78), (1, .int v1), (2, .int v2), (3, .int v3)]) (by decide +kernel) (Nat.le_of_ble_eq_true rfl) rfl ?_
  rw [f_X10_findMarks]
  refine r_iconst (v := (0 : Int32)) dX10_findMarks_0 rfl ?_
  refine r_istore (L' := [(4, .int (0 : Int32)), (0, .ref 78), (1, .int v1), (2, .int v2), (3, .int v3)]) dX10_findMarks_1 (by decide) rfl ?_
  refine r_aload_n dX10_findMarks_3 1 rfl rfl ?_
  refine r_getr dX10_findMarks_4 fl_X10_44 (by decide) rfl rfl (by decide) ?_
  refine r_iconst (v := (0 : Int32)) dX10_findMarks_7 rfl ?_
  refine r_iconst (v := (0 : Int32)) dX10_findMarks_8 rfl ?_
  refine rm_iast dX10_findMarks_9 (by decide) (by decide) rfl (fun h1 => ?_)
  refine r_nmU (fun U2 => ?_)
  exact r_pick [1, 2, 3, 4, 0] rfl (t_X10_findMarks_10 S T V v1 v2 v3 (fun o4 Uo => f_X10_findMarks_166 Uo v1 o4) (fun o4 Uo => r_pick [0, 1] rfl (t_X10_findMarks_166 S T Uo V v1 o4)) fu (0 : Int32) U2)
def f_X10_marks_44 (v1 : Int32) (v2 : Int32) (ke62 : Int32 → SI → Option (Int32 × SI)) : Nat → Int32 → SI → Option (Int32 × SI)
  | 0, _, _ => none
  | m_ + 1, v4, U =>
    if (6 : Int32) < v4 then
      some ((-4 : Int32), U)
    else
      (f_X10_findMarks U v1 v2 v4).bind fun q8 =>
      if q8.1 = 0 then
        (f_X10_marks_44 v1 v2 ke62 m_) (v4 + (1 : Int32)) q8.2
      else
        ke62 v4 q8.2
set_option maxHeartbeats 4000000 in
set_option maxRecDepth 100000 in
theorem t_X10_marks_44 (S : SI) (T : SL) (V : SL) (v1 : Int32) (v2 : Int32) (v3 : Int32) (ke62 : Int32 → SI → Option (Int32 × SI)) (hke62 : ∀ (w4 : Int32) (U' : SI), Run 4 yX10_marks cX10_marks 5 (some .int) none (fun a : Int32 × SI => (some (.int a.1), (S, T, a.2, V))) 62 [(0, .ref 78), (3, .int v3), (4, .int w4)] [] (S, T, U', V) (ke62 w4 U')) : ∀ (m_ : Nat) (v4 : Int32) (U : SI), Run 4 yX10_marks cX10_marks 5 (some .int) none (fun a : Int32 × SI => (some (.int a.1), (S, T, a.2, V))) 44 [(0, .ref 78), (1, .int v1), (2, .int v2), (3, .int v3), (4, .int v4)] [] (S, T, U, V) (f_X10_marks_44 v1 v2 ke62 m_ v4 U) := by
  intro m_
  induction m_ with
  | zero =>
    intro v4 U
    rw [f_X10_marks_44]
    exact r_none
  | succ m_ ih =>
    intro v4 U
    rw [f_X10_marks_44]
    refine r_iload dX10_marks_44 4 rfl ?_
    refine r_bipush (v := (6 : Int32)) dX10_marks_46 rfl ?_
    refine r_icmp_gt (tgt := 84) dX10_marks_48 (by decide) (fun h7 => ?_) (fun h7 => ?_)
    · refine r_bipush (v := (-4 : Int32)) dX10_marks_84 rfl ?_
      exact r_ireturn (ty := .int) dX10_marks_86 rfl (nar_i _) rfl
    · refine r_aload_n dX10_marks_51 0 rfl rfl ?_
      refine r_iload_n dX10_marks_52 1 rfl rfl ?_
      refine r_iload_n dX10_marks_53 2 rfl rfl ?_
      refine r_iload dX10_marks_54 4 rfl ?_
      refine rVm_iS (as := [.int v1, .int v2, .int v4]) (st := []) dX10_marks_56 cl_X10_237 (by decide) rfl rfl (m_X10_findMarks S T U V v1 v2 v4) (by decide) rfl (Nat.le_of_ble_eq_true rfl) (fun q8 _ => ?_)
      refine r_if_eq (tgt := 78) dX10_marks_59 (by decide) (fun h9 => ?_) (fun h9 => ?_)
      · refine r_iinc (v := v4 + (1 : Int32)) (L' := [(4, .int (v4 + (1 : Int32))), (0, .ref 78), (1, .int v1), (2, .int v2), (3, .int v3)]) dX10_marks_78 4 rfl rfl (by decide) rfl ?_
        refine r_goto (tgt := 44) dX10_marks_81 (by decide) ?_
        exact r_pick [1, 2, 3, 4, 0] rfl (ih (v4 + (1 : Int32)) q8.2)
      · exact r_pick [0, 3, 4] rfl (hke62 v4 q8.2)
def f_X10_marks_62 (U : SI) (v3 : Int32) (v4 : Int32) : Option (Int32 × SI) :=
  if 0 ≤ v3 then
    gd (inB v3 5) <|
    some (U 90 (ix v3), U)
  else
    some (v4, U)
set_option maxHeartbeats 4000000 in
set_option maxRecDepth 100000 in
theorem t_X10_marks_62 (S : SI) (T : SL) (U : SI) (V : SL) (v3 : Int32) (v4 : Int32) : Run 4 yX10_marks cX10_marks 5 (some .int) none (fun a : Int32 × SI => (some (.int a.1), (S, T, a.2, V))) 62 [(0, .ref 78), (3, .int v3), (4, .int v4)] [] (S, T, U, V) (f_X10_marks_62 U v3 v4) := by
  rw [f_X10_marks_62]
  refine r_iload_n dX10_marks_62 1 rfl rfl ?_
  refine r_if_ge (tgt := 71) dX10_marks_63 (by decide) (fun h10 => ?_) (fun h10 => ?_)
  · refine r_aload_n dX10_marks_71 0 rfl rfl ?_
    refine r_getr dX10_marks_72 fl_X10_44 (by decide) rfl rfl (by decide) ?_
    refine r_iload_n dX10_marks_75 1 rfl rfl ?_
    refine rm_iald dX10_marks_76 (by decide) (by decide) rfl (fun h11 => ?_)
    exact r_ireturn (ty := .int) dX10_marks_77 rfl (nar_i _) rfl
  · refine r_iload dX10_marks_66 2 rfl ?_
    refine r_goto (tgt := 77) dX10_marks_68 (by decide) ?_
    exact r_ireturn (ty := .int) dX10_marks_77 rfl (nar_i _) rfl
def f_X10_marks (U : SI) (v1 : Int32) (v2 : Int32) (v3 : Int32) : Option (Int32 × SI) :=
  (f_X10_in v1.toInt64 (1 : Int64) (5 : Int64)).bind fun q1 =>
  if q1 = 0 then
    some ((-1 : Int32), U)
  else
    (f_X10_in v2.toInt64 (0 : Int64) (3 : Int64)).bind fun q3 =>
    if q3 = 0 then
      some ((-1 : Int32), U)
    else
      (f_X10_in v3.toInt64 (-1 : Int64) ((v1 - (1 : Int32)).toInt64)).bind fun q5 =>
      if q5 = 0 then
        some ((-1 : Int32), U)
      else
        f_X10_marks_44 v1 v2 (fun o4 Uo => f_X10_marks_62 Uo v3 o4) fu (1 : Int32) U
set_option maxHeartbeats 4000000 in
set_option maxRecDepth 100000 in
theorem m_X10_marks (S : SI) (T : SL) (U : SI) (V : SL) (v1 : Int32) (v2 : Int32) (v3 : Int32) : Meth 4 yX10_marks cX10_marks 5 (some .int) [.ref 78, .int v1, .int v2, .int v3] (S, T, U, V) (f_X10_marks U v1 v2 v3) (fun a : Int32 × SI => (some (.int a.1), (S, T, a.2, V))) := by
  refine meth_of (L := [(0, .ref 78), (1, .int v1), (2, .int v2), (3, .int v3)]) (by decide +kernel) (Nat.le_of_ble_eq_true rfl) rfl ?_
  rw [f_X10_marks]
  refine r_iload_n dX10_marks_0 1 rfl rfl ?_
  refine r_i2l dX10_marks_1 ?_
  refine r_lconst (v := (1 : Int64)) dX10_marks_2 rfl ?_
  refine r_ldc2_w (v := (5 : Int64)) dX10_marks_3 kw_X10_75 ?_
  refine rS_i (as := [.long v1.toInt64, .long (1 : Int64), .long (5 : Int64)]) (st := []) dX10_marks_6 cl_X10_59 (m_X10_in S T U V v1.toInt64 (1 : Int64) (5 : Int64)) (by decide) rfl (Nat.le_of_ble_eq_true rfl) (fun q1 _ => ?_)
  refine r_if_eq (tgt := 39) dX10_marks_9 (by decide) (fun h2 => ?_) (fun h2 => ?_)
  · refine r_iconst (v := (-1 : Int32)) dX10_marks_39 rfl ?_
    exact r_ireturn (ty := .int) dX10_marks_40 rfl (nar_i _) rfl
  · refine r_iload_n dX10_marks_12 2 rfl rfl ?_
    refine r_i2l dX10_marks_13 ?_
    refine r_lconst (v := (0 : Int64)) dX10_marks_14 rfl ?_
    refine r_ldc2_w (v := (3 : Int64)) dX10_marks_15 kw_X10_235 ?_
    refine rS_i (as := [.long v2.toInt64, .long (0 : Int64), .long (3 : Int64)]) (st := []) dX10_marks_18 cl_X10_59 (m_X10_in S T U V v2.toInt64 (0 : Int64) (3 : Int64)) (by decide) rfl (Nat.le_of_ble_eq_true rfl) (fun q3 _ => ?_)
    refine r_if_eq (tgt := 39) dX10_marks_21 (by decide) (fun h4 => ?_) (fun h4 => ?_)
    · refine r_iconst (v := (-1 : Int32)) dX10_marks_39 rfl ?_
      exact r_ireturn (ty := .int) dX10_marks_40 rfl (nar_i _) rfl
    · refine r_iload_n dX10_marks_24 3 rfl rfl ?_
      refine r_i2l dX10_marks_25 ?_
      refine r_ldc2_w (v := (-1 : Int64)) dX10_marks_26 kw_X10_197 ?_
      refine r_iload_n dX10_marks_29 1 rfl rfl ?_
      refine r_iconst (v := (1 : Int32)) dX10_marks_30 rfl ?_
      refine r_isub dX10_marks_31 ?_
      refine r_i2l dX10_marks_32 ?_
      refine rS_i (as := [.long v3.toInt64, .long (-1 : Int64), .long ((v1 - (1 : Int32)).toInt64)]) (st := []) dX10_marks_33 cl_X10_59 (m_X10_in S T U V v3.toInt64 (-1 : Int64) ((v1 - (1 : Int32)).toInt64)) (by decide) rfl (Nat.le_of_ble_eq_true rfl) (fun q5 _ => ?_)
      refine r_if_ne (tgt := 41) dX10_marks_36 (by decide) (fun h6 => ?_) (fun h6 => ?_)
      · refine r_iconst (v := (-1 : Int32)) dX10_marks_39 rfl ?_
        exact r_ireturn (ty := .int) dX10_marks_40 rfl (nar_i _) rfl
      · refine r_iconst (v := (1 : Int32)) dX10_marks_41 rfl ?_
        refine r_istore (L' := [(4, .int (1 : Int32)), (0, .ref 78), (1, .int v1), (2, .int v2), (3, .int v3)]) dX10_marks_42 (by decide) rfl ?_
        exact r_pick [1, 2, 3, 4, 0] rfl (t_X10_marks_44 S T V v1 v2 v3 (fun o4 Uo => f_X10_marks_62 Uo v3 o4) (fun o4 Uo => r_pick [0, 1, 2] rfl (t_X10_marks_62 S T Uo V v3 o4)) fu (1 : Int32) U)
def f_X10_image_2 (ke27 : SI → Option (Int32 × SI)) : Nat → Int32 → SI → Option (Int32 × SI)
  | 0, _, _ => none
  | m_ + 1, v1, U =>
    if (205 : Int32) ≤ v1 then
      ke27 U
    else
      gd (inB v1 205) <|
      gd (inB v1 205) <|
      nm (up2 U 91 (ix v1) (U 79 (ix v1))) fun U4 =>
      (f_X10_image_2 ke27 m_) (v1 + (1 : Int32)) U4
set_option maxHeartbeats 4000000 in
set_option maxRecDepth 100000 in
theorem t_X10_image_2 (S : SI) (T : SL) (V : SL) (ke27 : SI → Option (Int32 × SI)) (hke27 : ∀ (U' : SI), Run 1 yX10_image cX10_image 2 (some .int) none (fun a : Int32 × SI => (some (.int a.1), (S, T, a.2, V))) 27 [(0, .ref 78)] [] (S, T, U', V) (ke27 U')) : ∀ (m_ : Nat) (v1 : Int32) (U : SI), Run 1 yX10_image cX10_image 2 (some .int) none (fun a : Int32 × SI => (some (.int a.1), (S, T, a.2, V))) 2 [(0, .ref 78), (1, .int v1)] [] (S, T, U, V) (f_X10_image_2 ke27 m_ v1 U) := by
  intro m_
  induction m_ with
  | zero =>
    intro v1 U
    rw [f_X10_image_2]
    exact r_none
  | succ m_ ih =>
    intro v1 U
    rw [f_X10_image_2]
    refine r_iload_n dX10_image_2 1 rfl rfl ?_
    refine r_sipush (v := (205 : Int32)) dX10_image_3 rfl ?_
    refine r_icmp_ge (tgt := 27) dX10_image_6 (by decide) (fun h1 => ?_) (fun h1 => ?_)
    · exact r_pick [0] rfl (hke27 U)
    · refine r_aload_n dX10_image_9 0 rfl rfl ?_
      refine r_getr dX10_image_10 fl_X10_47 (by decide) rfl rfl (by decide) ?_
      refine r_iload_n dX10_image_13 1 rfl rfl ?_
      refine r_aload_n dX10_image_14 0 rfl rfl ?_
      refine r_getr dX10_image_15 fl_X10_7 (by decide) rfl rfl (by decide) ?_
      refine r_iload_n dX10_image_18 1 rfl rfl ?_
      refine rm_iald dX10_image_19 (by decide) (by decide) rfl (fun h2 => ?_)
      refine rm_iast dX10_image_20 (by decide) (by decide) rfl (fun h3 => ?_)
      refine r_nmU (fun U4 => ?_)
      refine r_iinc (v := v1 + (1 : Int32)) (L' := [(1, .int (v1 + (1 : Int32))), (0, .ref 78)]) dX10_image_21 1 rfl rfl (by decide) rfl ?_
      refine r_goto (tgt := 2) dX10_image_24 (by decide) ?_
      exact r_pick [1, 0] rfl (ih (v1 + (1 : Int32)) U4)
def f_X10_image_27 (U : SI) : Option (Int32 × SI) :=
  nm (up2 U 78 15 (1 : Int32)) fun U5 =>
  some ((1 : Int32), U5)
set_option maxHeartbeats 4000000 in
set_option maxRecDepth 100000 in
theorem t_X10_image_27 (S : SI) (T : SL) (U : SI) (V : SL) : Run 1 yX10_image cX10_image 2 (some .int) none (fun a : Int32 × SI => (some (.int a.1), (S, T, a.2, V))) 27 [(0, .ref 78)] [] (S, T, U, V) (f_X10_image_27 U) := by
  rw [f_X10_image_27]
  refine r_aload_n dX10_image_27 0 rfl rfl ?_
  refine r_iconst (v := (1 : Int32)) dX10_image_28 rfl ?_
  refine rm_puti (ty := .boolean) dX10_image_29 fp_X10_240 rfl rfl (by decide) (by decide) rfl rfl ?_
  refine r_nmU (fun U5 => ?_)
  refine r_iconst (v := (1 : Int32)) dX10_image_32 rfl ?_
  exact r_ireturn (ty := .int) dX10_image_33 rfl (nar_i _) rfl
def f_X10_image (U : SI) : Option (Int32 × SI) :=
  f_X10_image_2 (fun Uo => f_X10_image_27 Uo) fu (0 : Int32) U
set_option maxHeartbeats 4000000 in
set_option maxRecDepth 100000 in
theorem m_X10_image (S : SI) (T : SL) (U : SI) (V : SL)  : Meth 1 yX10_image cX10_image 2 (some .int) [.ref 78] (S, T, U, V) (f_X10_image U) (fun a : Int32 × SI => (some (.int a.1), (S, T, a.2, V))) := by
  refine meth_of (L := [(0, .ref 78)]) (by decide +kernel) (Nat.le_of_ble_eq_true rfl) rfl ?_
  rw [f_X10_image]
  refine r_iconst (v := (0 : Int32)) dX10_image_0 rfl ?_
  refine r_istore_n (L' := [(1, .int (0 : Int32)), (0, .ref 78)]) dX10_image_1 rfl (by decide) rfl ?_
  exact r_pick [1, 0] rfl (t_X10_image_2 S T V (fun Uo => f_X10_image_27 Uo) (fun Uo => r_pick [0] rfl (t_X10_image_27 S T Uo V)) fu (0 : Int32) U)
def f_X10_restore_12  : Nat → Int32 → SI → Option (Int32 × SI)
  | 0, _, _ => none
  | m_ + 1, v1, U =>
    if (205 : Int32) ≤ v1 then
      some ((1 : Int32), U)
    else
      gd (inB v1 205) <|
      gd (inB v1 205) <|
      nm (up2 U 79 (ix v1) (U 91 (ix v1))) fun U5 =>
      (f_X10_restore_12 m_) (v1 + (1 : Int32)) U5
set_option maxHeartbeats 4000000 in
set_option maxRecDepth 100000 in
theorem t_X10_restore_12 (S : SI) (T : SL) (V : SL) : ∀ (m_ : Nat) (v1 : Int32) (U : SI), Run 1 yX10_restore cX10_restore 2 (some .int) none (fun a : Int32 × SI => (some (.int a.1), (S, T, a.2, V))) 12 [(0, .ref 78), (1, .int v1)] [] (S, T, U, V) (f_X10_restore_12 m_ v1 U) := by
  intro m_
  induction m_ with
  | zero =>
    intro v1 U
    rw [f_X10_restore_12]
    exact r_none
  | succ m_ ih =>
    intro v1 U
    rw [f_X10_restore_12]
    refine r_iload_n dX10_restore_12 1 rfl rfl ?_
    refine r_sipush (v := (205 : Int32)) dX10_restore_13 rfl ?_
    refine r_icmp_ge (tgt := 37) dX10_restore_16 (by decide) (fun h2 => ?_) (fun h2 => ?_)
    · refine r_iconst (v := (1 : Int32)) dX10_restore_37 rfl ?_
      exact r_ireturn (ty := .int) dX10_restore_38 rfl (nar_i _) rfl
    · refine r_aload_n dX10_restore_19 0 rfl rfl ?_
      refine r_getr dX10_restore_20 fl_X10_7 (by decide) rfl rfl (by decide) ?_
      refine r_iload_n dX10_restore_23 1 rfl rfl ?_
      refine r_aload_n dX10_restore_24 0 rfl rfl ?_
      refine r_getr dX10_restore_25 fl_X10_47 (by decide) rfl rfl (by decide) ?_
      refine r_iload_n dX10_restore_28 1 rfl rfl ?_
      refine rm_iald dX10_restore_29 (by decide) (by decide) rfl (fun h3 => ?_)
      refine rm_iast dX10_restore_30 (by decide) (by decide) rfl (fun h4 => ?_)
      refine r_nmU (fun U5 => ?_)
      refine r_iinc (v := v1 + (1 : Int32)) (L' := [(1, .int (v1 + (1 : Int32))), (0, .ref 78)]) dX10_restore_31 1 rfl rfl (by decide) rfl ?_
      refine r_goto (tgt := 12) dX10_restore_34 (by decide) ?_
      exact r_pick [1, 0] rfl (ih (v1 + (1 : Int32)) U5)
def f_X10_restore (U : SI) : Option (Int32 × SI) :=
  if (U 78 15) = 0 then
    some ((-4 : Int32), U)
  else
    f_X10_restore_12 fu (0 : Int32) U
set_option maxHeartbeats 4000000 in
set_option maxRecDepth 100000 in
theorem m_X10_restore (S : SI) (T : SL) (U : SI) (V : SL)  : Meth 1 yX10_restore cX10_restore 2 (some .int) [.ref 78] (S, T, U, V) (f_X10_restore U) (fun a : Int32 × SI => (some (.int a.1), (S, T, a.2, V))) := by
  refine meth_of (L := [(0, .ref 78)]) (by decide +kernel) (Nat.le_of_ble_eq_true rfl) rfl ?_
  rw [f_X10_restore]
  refine r_aload_n dX10_restore_0 0 rfl rfl ?_
  refine rm_geti dX10_restore_1 fl_X10_240 (by decide) (by decide) rfl rfl ?_
  refine r_if_ne (tgt := 10) dX10_restore_4 (by decide) (fun h1 => ?_) (fun h1 => ?_)
  · refine r_bipush (v := (-4 : Int32)) dX10_restore_7 rfl ?_
    exact r_ireturn (ty := .int) dX10_restore_9 rfl (nar_i _) rfl
  · refine r_iconst (v := (0 : Int32)) dX10_restore_10 rfl ?_
    refine r_istore_n (L' := [(1, .int (0 : Int32)), (0, .ref 78)]) dX10_restore_11 rfl (by decide) rfl ?_
    exact r_pick [1, 0] rfl (t_X10_restore_12 S T V fu (0 : Int32) U)
def f_X10_sheet_40 (v1 : Int32) (v3 : Int32) : Nat → Int32 → SI → Option (Int32 × SI)
  | 0, _, _ => none
  | m_ + 1, v4, U =>
    if (16 : Int32) ≤ v4 then
      some (v3, U)
    else
      gd (inB (((16 : Int32) * v1) + v4) 64) <|
      nm (up2 U 94 (ix (((16 : Int32) * v1) + v4)) (0 : Int32)) fun U11 =>
      (f_X10_sheet_40 v1 v3 m_) (v4 + (1 : Int32)) U11
set_option maxHeartbeats 4000000 in
set_option maxRecDepth 100000 in
theorem t_X10_sheet_40 (S : SI) (T : SL) (V : SL) (v1 : Int32) (v3 : Int32) : ∀ (m_ : Nat) (v4 : Int32) (U : SI), Run 3 yX10_sheet cX10_sheet 5 (some .int) none (fun a : Int32 × SI => (some (.int a.1), (S, T, a.2, V))) 40 [(0, .ref 78), (1, .int v1), (3, .int v3), (4, .int v4)] [] (S, T, U, V) (f_X10_sheet_40 v1 v3 m_ v4 U) := by
  intro m_
  induction m_ with
  | zero =>
    intro v4 U
    rw [f_X10_sheet_40]
    exact r_none
  | succ m_ ih =>
    intro v4 U
    rw [f_X10_sheet_40]
    refine r_iload dX10_sheet_40 3 rfl ?_
    refine r_bipush (v := (16 : Int32)) dX10_sheet_42 rfl ?_
    refine r_icmp_ge (tgt := 66) dX10_sheet_44 (by decide) (fun h9 => ?_) (fun h9 => ?_)
    · refine r_iload_n dX10_sheet_66 2 rfl rfl ?_
      exact r_ireturn (ty := .int) dX10_sheet_67 rfl (nar_i _) rfl
    · refine r_aload_n dX10_sheet_47 0 rfl rfl ?_
      refine r_getr dX10_sheet_48 fl_X10_56 (by decide) rfl rfl (by decide) ?_
      refine r_bipush (v := (16 : Int32)) dX10_sheet_51 rfl ?_
      refine r_iload_n dX10_sheet_53 1 rfl rfl ?_
      refine r_imul dX10_sheet_54 ?_
      refine r_iload dX10_sheet_55 3 rfl ?_
      refine r_iadd dX10_sheet_57 ?_
      refine r_iconst (v := (0 : Int32)) dX10_sheet_58 rfl ?_
      refine rm_iast dX10_sheet_59 (by decide) (by decide) rfl (fun h10 => ?_)
      refine r_nmU (fun U11 => ?_)
      refine r_iinc (v := v4 + (1 : Int32)) (L' := [(4, .int (v4 + (1 : Int32))), (0, .ref 78), (1, .int v1), (3, .int v3)]) dX10_sheet_60 3 rfl rfl (by decide) rfl ?_
      refine r_goto (tgt := 40) dX10_sheet_63 (by decide) ?_
      exact r_pick [1, 2, 3, 0] rfl (ih (v4 + (1 : Int32)) U11)
def f_X10_sheet (U : SI) (v1 : Int32) (v2 : Int32) (v3 : Int32) : Option (Int32 × SI) :=
  (f_X10_isSheet v1 v2).bind fun q1 =>
  if q1 = 0 then
    some ((-1 : Int32), U)
  else
    if v3 ≤ (16 : Int32) then
      if 0 ≤ v3 then
        gd (inB v1 4) <|
        nm (up2 U 92 (ix v1) v2) fun U6 =>
        gd (inB v1 4) <|
        nm (up2 U6 93 (ix v1) v3) fun U8 =>
        f_X10_sheet_40 v1 v3 fu (0 : Int32) U8
      else
        some ((-14 : Int32), U)
    else
      some ((-1 : Int32), U)
set_option maxHeartbeats 4000000 in
set_option maxRecDepth 100000 in
theorem m_X10_sheet (S : SI) (T : SL) (U : SI) (V : SL) (v1 : Int32) (v2 : Int32) (v3 : Int32) : Meth 3 yX10_sheet cX10_sheet 5 (some .int) [.ref 78, .int v1, .int v2, .int v3] (S, T, U, V) (f_X10_sheet U v1 v2 v3) (fun a : Int32 × SI => (some (.int a.1), (S, T, a.2, V))) := by
  refine meth_of (L := [(0, .ref 78), (1, .int v1), (2, .int v2), (3, .int v3)]) (by decide +kernel) (Nat.le_of_ble_eq_true rfl) rfl ?_
  rw [f_X10_sheet]
  refine r_iload_n dX10_sheet_0 1 rfl rfl ?_
  refine r_iload_n dX10_sheet_1 2 rfl rfl ?_
  refine rS_i (as := [.int v1, .int v2]) (st := []) dX10_sheet_2 cl_X10_182 (m_X10_isSheet S T U V v1 v2) (by decide) rfl (Nat.le_of_ble_eq_true rfl) (fun q1 _ => ?_)
  refine r_if_eq (tgt := 14) dX10_sheet_5 (by decide) (fun h2 => ?_) (fun h2 => ?_)
  · refine r_iconst (v := (-1 : Int32)) dX10_sheet_14 rfl ?_
    exact r_ireturn (ty := .int) dX10_sheet_15 rfl (nar_i _) rfl
  · refine r_iload_n dX10_sheet_8 3 rfl rfl ?_
    refine r_bipush (v := (16 : Int32)) dX10_sheet_9 rfl ?_
    refine r_icmp_le (tgt := 16) dX10_sheet_11 (by decide) (fun h3 => ?_) (fun h3 => ?_)
    · refine r_iload_n dX10_sheet_16 3 rfl rfl ?_
      refine r_if_ge (tgt := 23) dX10_sheet_17 (by decide) (fun h4 => ?_) (fun h4 => ?_)
      · refine r_aload_n dX10_sheet_23 0 rfl rfl ?_
        refine r_getr dX10_sheet_24 fl_X10_50 (by decide) rfl rfl (by decide) ?_
        refine r_iload_n dX10_sheet_27 1 rfl rfl ?_
        refine r_iload_n dX10_sheet_28 2 rfl rfl ?_
        refine rm_iast dX10_sheet_29 (by decide) (by decide) rfl (fun h5 => ?_)
        refine r_nmU (fun U6 => ?_)
        refine r_aload_n dX10_sheet_30 0 rfl rfl ?_
        refine r_getr dX10_sheet_31 fl_X10_53 (by decide) rfl rfl (by decide) ?_
        refine r_iload_n dX10_sheet_34 1 rfl rfl ?_
        refine r_iload_n dX10_sheet_35 3 rfl rfl ?_
        refine rm_iast dX10_sheet_36 (by decide) (by decide) rfl (fun h7 => ?_)
        refine r_nmU (fun U8 => ?_)
        refine r_iconst (v := (0 : Int32)) dX10_sheet_37 rfl ?_
        refine r_istore (L' := [(4, .int (0 : Int32)), (0, .ref 78), (1, .int v1), (2, .int v2), (3, .int v3)]) dX10_sheet_38 (by decide) rfl ?_
        exact r_pick [1, 2, 4, 0] rfl (t_X10_sheet_40 S T V v1 v3 fu (0 : Int32) U8)
      · refine r_bipush (v := (-14 : Int32)) dX10_sheet_20 rfl ?_
        exact r_ireturn (ty := .int) dX10_sheet_22 rfl (nar_i _) rfl
    · refine r_iconst (v := (-1 : Int32)) dX10_sheet_14 rfl ?_
      exact r_ireturn (ty := .int) dX10_sheet_15 rfl (nar_i _) rfl
def f_X10_drop (U : SI) (v1 : Int32) : Option (Int32 × SI) :=
  (f_X10_in v1.toInt64 (0 : Int64) (3 : Int64)).bind fun q1 =>
  if q1 = 0 then
    some ((-1 : Int32), U)
  else
    gd (inB v1 4) <|
    if 0 ≤ (U 92 (ix v1)) then
      gd (inB v1 4) <|
      nm (up2 U 92 (ix v1) (-1 : Int32)) fun U6 =>
      gd (inB v1 4) <|
      some (U6 93 (ix v1), U6)
    else
      some ((-11 : Int32), U)
set_option maxHeartbeats 4000000 in
set_option maxRecDepth 100000 in
theorem m_X10_drop (S : SI) (T : SL) (U : SI) (V : SL) (v1 : Int32) : Meth 2 yX10_drop cX10_drop 2 (some .int) [.ref 78, .int v1] (S, T, U, V) (f_X10_drop U v1) (fun a : Int32 × SI => (some (.int a.1), (S, T, a.2, V))) := by
  refine meth_of (L := [(0, .ref 78), (1, .int v1)]) (by decide +kernel) (Nat.le_of_ble_eq_true rfl) rfl ?_
  rw [f_X10_drop]
  refine r_iload_n dX10_drop_0 1 rfl rfl ?_
  refine r_i2l dX10_drop_1 ?_
  refine r_lconst (v := (0 : Int64)) dX10_drop_2 rfl ?_
  refine r_ldc2_w (v := (3 : Int64)) dX10_drop_3 kw_X10_235 ?_
  refine rS_i (as := [.long v1.toInt64, .long (0 : Int64), .long (3 : Int64)]) (st := []) dX10_drop_6 cl_X10_59 (m_X10_in S T U V v1.toInt64 (0 : Int64) (3 : Int64)) (by decide) rfl (Nat.le_of_ble_eq_true rfl) (fun q1 _ => ?_)
  refine r_if_ne (tgt := 14) dX10_drop_9 (by decide) (fun h2 => ?_) (fun h2 => ?_)
  · refine r_iconst (v := (-1 : Int32)) dX10_drop_12 rfl ?_
    exact r_ireturn (ty := .int) dX10_drop_13 rfl (nar_i _) rfl
  · refine r_aload_n dX10_drop_14 0 rfl rfl ?_
    refine r_getr dX10_drop_15 fl_X10_50 (by decide) rfl rfl (by decide) ?_
    refine r_iload_n dX10_drop_18 1 rfl rfl ?_
    refine rm_iald dX10_drop_19 (by decide) (by decide) rfl (fun h3 => ?_)
    refine r_if_ge (tgt := 26) dX10_drop_20 (by decide) (fun h4 => ?_) (fun h4 => ?_)
    · refine r_aload_n dX10_drop_26 0 rfl rfl ?_
      refine r_getr dX10_drop_27 fl_X10_50 (by decide) rfl rfl (by decide) ?_
      refine r_iload_n dX10_drop_30 1 rfl rfl ?_
      refine r_iconst (v := (-1 : Int32)) dX10_drop_31 rfl ?_
      refine rm_iast dX10_drop_32 (by decide) (by decide) rfl (fun h5 => ?_)
      refine r_nmU (fun U6 => ?_)
      refine r_aload_n dX10_drop_33 0 rfl rfl ?_
      refine r_getr dX10_drop_34 fl_X10_53 (by decide) rfl rfl (by decide) ?_
      refine r_iload_n dX10_drop_37 1 rfl rfl ?_
      refine rm_iald dX10_drop_38 (by decide) (by decide) rfl (fun h7 => ?_)
      exact r_ireturn (ty := .int) dX10_drop_39 rfl (nar_i _) rfl
    · refine r_bipush (v := (-11 : Int32)) dX10_drop_23 rfl ?_
      exact r_ireturn (ty := .int) dX10_drop_25 rfl (nar_i _) rfl
def f_X10_item_71 (U : SI) (s0 : Int32) (s1 : Int32) : Option (Int32 × SI) :=
  gd (inB s1 64) <|
  nm (up2 U 94 (ix s1) s0) fun U7 =>
  some ((1 : Int32), U7)
set_option maxHeartbeats 4000000 in
set_option maxRecDepth 100000 in
theorem t_X10_item_71 (S : SI) (T : SL) (U : SI) (V : SL) (s0 : Int32) (s1 : Int32) : Run 3 yX10_item cX10_item 6 (some .int) none (fun a : Int32 × SI => (some (.int a.1), (S, T, a.2, V))) 71 [] [.int s0, .int s1, .ref 94] (S, T, U, V) (f_X10_item_71 U s0 s1) := by
  rw [f_X10_item_71]
  refine rm_iast dX10_item_71 (by decide) (by decide) rfl (fun h6 => ?_)
  refine r_nmU (fun U7 => ?_)
  refine r_iconst (v := (1 : Int32)) dX10_item_72 rfl ?_
  exact r_ireturn (ty := .int) dX10_item_73 rfl (nar_i _) rfl
def f_X10_item (U : SI) (v1 : Int32) (v2 : Int32) (v3 : Int32) (v4 : Int32) : Option (Int32 × SI) :=
  (f_X10_isSheet v1 v2).bind fun q1 =>
  if q1 = 0 then
    some ((-1 : Int32), U)
  else
    (f_X10_lacksRow U v1 v2 v3 (1 : Int32)).bind fun q3 =>
    if 0 ≤ q3 then
      if v2 = 0 then
        f_X10_item_71 U ((v4 <<< ((24 : Int32) &&& 31)) >>> ((24 : Int32) &&& 31)) (((16 : Int32) * v1) + v3)
      else
        if v2 = (1 : Int32) then
          f_X10_item_71 U ((v4 <<< ((16 : Int32) &&& 31)) >>> ((16 : Int32) &&& 31)) (((16 : Int32) * v1) + v3)
        else
          f_X10_item_71 U v4 (((16 : Int32) * v1) + v3)
    else
      some (q3, U)
set_option maxHeartbeats 4000000 in
set_option maxRecDepth 100000 in
theorem m_X10_item (S : SI) (T : SL) (U : SI) (V : SL) (v1 : Int32) (v2 : Int32) (v3 : Int32) (v4 : Int32) : Meth 3 yX10_item cX10_item 6 (some .int) [.ref 78, .int v1, .int v2, .int v3, .int v4] (S, T, U, V) (f_X10_item U v1 v2 v3 v4) (fun a : Int32 × SI => (some (.int a.1), (S, T, a.2, V))) := by
  refine meth_of (L := [(0, .ref 78), (1, .int v1), (2, .int v2), (3, .int v3), (4, .int v4)]) (by decide +kernel) (Nat.le_of_ble_eq_true rfl) rfl ?_
  rw [f_X10_item]
  refine r_iload_n dX10_item_0 1 rfl rfl ?_
  refine r_iload_n dX10_item_1 2 rfl rfl ?_
  refine rS_i (as := [.int v1, .int v2]) (st := []) dX10_item_2 cl_X10_182 (m_X10_isSheet S T U V v1 v2) (by decide) rfl (Nat.le_of_ble_eq_true rfl) (fun q1 _ => ?_)
  refine r_if_ne (tgt := 10) dX10_item_5 (by decide) (fun h2 => ?_) (fun h2 => ?_)
  · refine r_iconst (v := (-1 : Int32)) dX10_item_8 rfl ?_
    exact r_ireturn (ty := .int) dX10_item_9 rfl (nar_i _) rfl
  · refine r_aload_n dX10_item_10 0 rfl rfl ?_
    refine r_iload_n dX10_item_11 1 rfl rfl ?_
    refine r_iload_n dX10_item_12 2 rfl rfl ?_
    refine r_iload_n dX10_item_13 3 rfl rfl ?_
    refine r_iconst (v := (1 : Int32)) dX10_item_14 rfl ?_
    refine rV_i (as := [.int v1, .int v2, .int v3, .int (1 : Int32)]) (st := []) dX10_item_15 cl_X10_185 (by decide) rfl rfl (m_X10_lacksRow S T U V v1 v2 v3 (1 : Int32)) (by decide) rfl (Nat.le_of_ble_eq_true rfl) (fun q3 _ => ?_)
    refine r_istore (L' := [(5, .int q3), (0, .ref 78), (1, .int v1), (2, .int v2), (3, .int v3), (4, .int v4)]) dX10_item_18 (by decide) rfl ?_
    refine r_iload dX10_item_20 0 rfl ?_
    refine r_if_ge (tgt := 28) dX10_item_22 (by decide) (fun h4 => ?_) (fun h4 => ?_)
    · refine r_aload_n dX10_item_28 1 rfl rfl ?_
      refine r_getr dX10_item_29 fl_X10_56 (by decide) rfl rfl (by decide) ?_
      refine r_bipush (v := (16 : Int32)) dX10_item_32 rfl ?_
      refine r_iload_n dX10_item_34 2 rfl rfl ?_
      refine r_imul dX10_item_35 ?_
      refine r_iload_n dX10_item_36 4 rfl rfl ?_
      refine r_iadd dX10_item_37 ?_
      refine r_iload_n dX10_item_38 3 rfl rfl ?_
      refine r_if_ne (tgt := 53) dX10_item_39 (by decide) (fun h5 => ?_) (fun h5 => ?_)
      · refine r_iload dX10_item_42 5 rfl ?_
        refine r_bipush (v := (24 : Int32)) dX10_item_44 rfl ?_
        refine r_ishl dX10_item_46 ?_
        refine r_bipush (v := (24 : Int32)) dX10_item_47 rfl ?_
        refine r_ishr dX10_item_49 ?_
        refine r_goto (tgt := 71) dX10_item_50 (by decide) ?_
        exact r_pick [] rfl (t_X10_item_71 S T U V ((v4 <<< ((24 : Int32) &&& 31)) >>> ((24 : Int32) &&& 31)) (((16 : Int32) * v1) + v3))
      · refine r_iload_n dX10_item_53 3 rfl rfl ?_
        refine r_iconst (v := (1 : Int32)) dX10_item_54 rfl ?_
        refine r_icmp_ne (tgt := 69) dX10_item_55 (by decide) (fun h8 => ?_) (fun h8 => ?_)
        · refine r_iload dX10_item_58 5 rfl ?_
          refine r_bipush (v := (16 : Int32)) dX10_item_60 rfl ?_
          refine r_ishl dX10_item_62 ?_
          refine r_bipush (v := (16 : Int32)) dX10_item_63 rfl ?_
          refine r_ishr dX10_item_65 ?_
          refine r_goto (tgt := 71) dX10_item_66 (by decide) ?_
          exact r_pick [] rfl (t_X10_item_71 S T U V ((v4 <<< ((16 : Int32) &&& 31)) >>> ((16 : Int32) &&& 31)) (((16 : Int32) * v1) + v3))
        · refine r_iload dX10_item_69 5 rfl ?_
          exact r_pick [] rfl (t_X10_item_71 S T U V v4 (((16 : Int32) * v1) + v3))
    · refine r_iload dX10_item_25 0 rfl ?_
      exact r_ireturn (ty := .int) dX10_item_27 rfl (nar_i _) rfl
