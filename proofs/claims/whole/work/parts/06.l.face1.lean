def f_X9_sock (S : SI) (v1 : Int32) (v2 : Int32) (v3 : Int32) (v4 : Int32) : Option (Int32 × SI) :=
  (f_X9_within v1 (6 : Int32)).bind fun q1 =>
  if q1 = 0 then
    some ((-1 : Int32), S)
  else
    (f_X9_within v2 (2 : Int32)).bind fun q3 =>
    if q3 = 0 then
      some ((-1 : Int32), S)
    else
      if v3 < 0 then
        some ((-1 : Int32), S)
      else
        if (99 : Int32) < v4 then
          some ((-1 : Int32), S)
        else
          if v3 ≤ v4 then
            (f_X5_begin S 52 v1 v2 v3 v4 (7 : Int32)).bind fun q8 =>
            (f_X1_add q8 52).bind fun q9 =>
            some (q9.1, q9.2)
          else
            some ((-1 : Int32), S)
set_option maxHeartbeats 4000000 in
set_option maxRecDepth 100000 in
theorem m_X9_sock (S : SI) (T : SL) (U : SI) (V : SL) (v1 : Int32) (v2 : Int32) (v3 : Int32) (v4 : Int32) : Meth 3 yX9_sock cX9_sock 5 (some .int) [.ref 0, .int v1, .int v2, .int v3, .int v4] (S, T, U, V) (f_X9_sock S v1 v2 v3 v4) (fun a : Int32 × SI => (some (.int a.1), (a.2, T, U, V))) := by
  refine meth_of (L := [(0, .ref 0), (1, .int v1), (2, .int v2), (3, .int v3), (4, .int v4)]) (by decide +kernel) (Nat.le_of_ble_eq_true rfl) rfl ?_
  rw [f_X9_sock]
  refine r_iload_n dX9_sock_0 1 rfl rfl ?_
  refine r_bipush (v := (6 : Int32)) dX9_sock_1 rfl ?_
  refine rS_i (as := [.int v1, .int (6 : Int32)]) (st := []) dX9_sock_3 cl_X9_75 (m_X9_within S T U V v1 (6 : Int32)) (by decide) rfl (Nat.le_of_ble_eq_true rfl) (fun q1 _ => ?_)
  refine r_if_eq (tgt := 17) dX9_sock_6 (by decide) (fun h2 => ?_) (fun h2 => ?_)
  · refine r_iconst (v := (-1 : Int32)) dX9_sock_17 rfl ?_
    exact r_ireturn (ty := .int) dX9_sock_18 rfl (nar_i _) rfl
  · refine r_iload_n dX9_sock_9 2 rfl rfl ?_
    refine r_iconst (v := (2 : Int32)) dX9_sock_10 rfl ?_
    refine rS_i (as := [.int v2, .int (2 : Int32)]) (st := []) dX9_sock_11 cl_X9_75 (m_X9_within S T U V v2 (2 : Int32)) (by decide) rfl (Nat.le_of_ble_eq_true rfl) (fun q3 _ => ?_)
    refine r_if_ne (tgt := 19) dX9_sock_14 (by decide) (fun h4 => ?_) (fun h4 => ?_)
    · refine r_iconst (v := (-1 : Int32)) dX9_sock_17 rfl ?_
      exact r_ireturn (ty := .int) dX9_sock_18 rfl (nar_i _) rfl
    · refine r_iload_n dX9_sock_19 3 rfl rfl ?_
      refine r_if_lt (tgt := 36) dX9_sock_20 (by decide) (fun h5 => ?_) (fun h5 => ?_)
      · refine r_iconst (v := (-1 : Int32)) dX9_sock_36 rfl ?_
        exact r_ireturn (ty := .int) dX9_sock_37 rfl (nar_i _) rfl
      · refine r_iload dX9_sock_23 4 rfl ?_
        refine r_bipush (v := (99 : Int32)) dX9_sock_25 rfl ?_
        refine r_icmp_gt (tgt := 36) dX9_sock_27 (by decide) (fun h6 => ?_) (fun h6 => ?_)
        · refine r_iconst (v := (-1 : Int32)) dX9_sock_36 rfl ?_
          exact r_ireturn (ty := .int) dX9_sock_37 rfl (nar_i _) rfl
        · refine r_iload_n dX9_sock_30 3 rfl rfl ?_
          refine r_iload dX9_sock_31 4 rfl ?_
          refine r_icmp_le (tgt := 38) dX9_sock_33 (by decide) (fun h7 => ?_) (fun h7 => ?_)
          · refine r_aload_n dX9_sock_38 0 rfl rfl ?_
            refine r_getr dX9_sock_39 fl_X9_29 (by decide) rfl rfl (by decide) ?_
            refine r_iload_n dX9_sock_42 1 rfl rfl ?_
            refine r_iload_n dX9_sock_43 2 rfl rfl ?_
            refine r_iload_n dX9_sock_44 3 rfl rfl ?_
            refine r_iload dX9_sock_45 4 rfl ?_
            refine r_bipush (v := (7 : Int32)) dX9_sock_47 rfl ?_
            refine rVc_vS (as := [.int v1, .int v2, .int v3, .int v4, .int (7 : Int32)]) (st := []) dX9_sock_49 cl_X9_79 (by decide) rfl rfl (m_X5_begin S T U V 52 isS_52 v1 v2 v3 v4 (7 : Int32)) (by decide) rfl (Nat.le_of_ble_eq_true rfl) (fun q8 _ => ?_)
            refine r_aload_n dX9_sock_52 0 rfl rfl ?_
            refine r_getr dX9_sock_53 fl_X9_10 (by decide) rfl rfl (by decide) ?_
            refine r_aload_n dX9_sock_56 0 rfl rfl ?_
            refine r_getr dX9_sock_57 fl_X9_29 (by decide) rfl rfl (by decide) ?_
            refine rVc_iS (as := [.ref 52]) (st := []) dX9_sock_60 cl_X9_83 (by decide) rfl rfl (m_X1_add q8 T U V 52 isS_52) (by decide) rfl (Nat.le_of_ble_eq_true rfl) (fun q9 _ => ?_)
            exact r_ireturn (ty := .int) dX9_sock_63 rfl (nar_i _) rfl
          · refine r_iconst (v := (-1 : Int32)) dX9_sock_36 rfl ?_
            exact r_ireturn (ty := .int) dX9_sock_37 rfl (nar_i _) rfl
def f_X9_type (S : SI) (v1 : Int64) (v3 : Int32) : Option (Int32 × SI) :=
  (f_X6_append S v1 v3).bind fun q1 =>
  some (q1.1, q1.2)
set_option maxHeartbeats 4000000 in
set_option maxRecDepth 100000 in
theorem m_X9_type (S : SI) (T : SL) (U : SI) (V : SL) (v1 : Int64) (v3 : Int32) : Meth 3 yX9_type cX9_type 4 (some .int) [.ref 0, .long v1, .int v3] (S, T, U, V) (f_X9_type S v1 v3) (fun a : Int32 × SI => (some (.int a.1), (a.2, T, U, V))) := by
  refine meth_of (L := [(0, .ref 0), (1, .long v1), (3, .int v3)]) (by decide +kernel) (Nat.le_of_ble_eq_true rfl) rfl ?_
  rw [f_X9_type]
  refine r_aload_n dX9_type_0 0 rfl rfl ?_
  refine r_getr dX9_type_1 fl_X9_22 (by decide) rfl rfl (by decide) ?_
  refine r_lload_n dX9_type_4 1 rfl rfl ?_
  refine r_iload_n dX9_type_5 2 rfl rfl ?_
  refine rVc_iS (as := [.long v1, .int v3]) (st := []) dX9_type_6 cl_X9_87 (by decide) rfl rfl (m_X6_append S T U V v1 v3) (by decide) rfl (Nat.le_of_ble_eq_true rfl) (fun q1 _ => ?_)
  exact r_ireturn (ty := .int) dX9_type_9 rfl (nar_i _) rfl
def f_X9_socks_41 (v1 : Int32) : Nat → Int32 → SI → Option (Int32 × SI)
  | 0, _, _ => none
  | m_ + 1, v2, S =>
    if v1 ≤ v2 then
      some (v1, S)
    else
      gd (inB v2 8) <|
      (f_X1_add S (44 + ix v2)).bind fun q7 =>
      (f_X9_socks_41 v1 m_) (v2 + (1 : Int32)) q7.2
set_option maxHeartbeats 4000000 in
set_option maxRecDepth 100000 in
theorem t_X9_socks_41 (T : SL) (U : SI) (V : SL) (v1 : Int32) : ∀ (m_ : Nat) (v2 : Int32) (S : SI), Run 6 yX9_socks cX9_socks 3 (some .int) none (fun a : Int32 × SI => (some (.int a.1), (a.2, T, U, V))) 41 [(0, .ref 0), (1, .int v1), (2, .int v2)] [] (S, T, U, V) (f_X9_socks_41 v1 m_ v2 S) := by
  intro m_
  induction m_ with
  | zero =>
    intro v2 S
    rw [f_X9_socks_41]
    exact r_none
  | succ m_ ih =>
    intro v2 S
    rw [f_X9_socks_41]
    refine r_iload_n dX9_socks_41 2 rfl rfl ?_
    refine r_iload_n dX9_socks_42 1 rfl rfl ?_
    refine r_icmp_ge (tgt := 69) dX9_socks_43 (by decide) (fun h5 => ?_) (fun h5 => ?_)
    · refine r_iload_n dX9_socks_69 1 rfl rfl ?_
      exact r_ireturn (ty := .int) dX9_socks_70 rfl (nar_i _) rfl
    · refine r_aload_n dX9_socks_46 0 rfl rfl ?_
      refine r_getr dX9_socks_47 fl_X9_10 (by decide) rfl rfl (by decide) ?_
      refine r_aload_n dX9_socks_50 0 rfl rfl ?_
      refine r_getr dX9_socks_51 fl_X9_22 (by decide) rfl rfl (by decide) ?_
      refine r_getr dX9_socks_54 fl_X9_102 (by decide) rfl rfl (by decide) ?_
      refine r_iload_n dX9_socks_57 2 rfl rfl ?_
      refine r_aald (x := 44 + ix v2) dX9_socks_58 (by decide) rfl (by decide) (by decide) rfl (fun h6 => ?_)
      refine rVc_iS (as := [.ref (44 + ix v2)]) (st := []) dX9_socks_59 cl_X9_83 (by decide) rfl rfl (m_X1_add S T U V (44 + ix v2) (isS_44 h6)) (by decide) rfl (Nat.le_of_ble_eq_true rfl) (fun q7 _ => ?_)
      refine r_pop dX9_socks_62 rfl ?_
      refine r_iinc (v := v2 + (1 : Int32)) (L' := [(2, .int (v2 + (1 : Int32))), (0, .ref 0), (1, .int v1)]) dX9_socks_63 2 rfl rfl (by decide) rfl ?_
      refine r_goto (tgt := 41) dX9_socks_66 (by decide) ?_
      exact r_pick [1, 2, 0] rfl (ih (v2 + (1 : Int32)) q7.2)
def f_X9_socks (S : SI) : Option (Int32 × SI) :=
  (f_X6_read S).bind fun q1 =>
  nm (up2 q1.2 41 1 (0 : Int32)) fun S2 =>
  if 0 ≤ q1.1 then
    if ((S2 1 1) + q1.1) ≤ (12 : Int32) then
      f_X9_socks_41 q1.1 fu (0 : Int32) S2
    else
      some ((-3 : Int32), S2)
  else
    some (q1.1, S2)
set_option maxHeartbeats 4000000 in
set_option maxRecDepth 100000 in
theorem m_X9_socks (S : SI) (T : SL) (U : SI) (V : SL)  : Meth 6 yX9_socks cX9_socks 3 (some .int) [.ref 0] (S, T, U, V) (f_X9_socks S) (fun a : Int32 × SI => (some (.int a.1), (a.2, T, U, V))) := by
  refine meth_of (L := [(0, .ref 0)]) (by decide +kernel) (Nat.le_of_ble_eq_true rfl) rfl ?_
  rw [f_X9_socks]
  refine r_aload_n dX9_socks_0 0 rfl rfl ?_
  refine r_getr dX9_socks_1 fl_X9_22 (by decide) rfl rfl (by decide) ?_
  refine rVc_iS (as := []) (st := []) dX9_socks_4 cl_X9_91 (by decide) rfl rfl (m_X6_read S T U V) (by decide) rfl (Nat.le_of_ble_eq_true rfl) (fun q1 _ => ?_)
  refine r_istore_n (L' := [(1, .int q1.1), (0, .ref 0)]) dX9_socks_7 rfl (by decide) rfl ?_
  refine r_aload_n dX9_socks_8 1 rfl rfl ?_
  refine r_getr dX9_socks_9 fl_X9_22 (by decide) rfl rfl (by decide) ?_
  refine r_iconst (v := (0 : Int32)) dX9_socks_12 rfl ?_
  refine rc_puti (ty := .int) dX9_socks_13 fp_X9_95 (nar_i _) (fit_i _) (by decide) (by decide) rfl rfl ?_
  refine r_nmS (fun S2 => ?_)
  refine r_iload_n dX9_socks_16 0 rfl rfl ?_
  refine r_if_ge (tgt := 22) dX9_socks_17 (by decide) (fun h3 => ?_) (fun h3 => ?_)
  · refine r_aload_n dX9_socks_22 1 rfl rfl ?_
    refine r_getr dX9_socks_23 fl_X9_10 (by decide) rfl rfl (by decide) ?_
    refine rc_geti dX9_socks_26 fl_X9_99 (by decide) (by decide) rfl rfl ?_
    refine r_iload_n dX9_socks_29 0 rfl rfl ?_
    refine r_iadd dX9_socks_30 ?_
    refine r_bipush (v := (12 : Int32)) dX9_socks_31 rfl ?_
    refine r_icmp_le (tgt := 39) dX9_socks_33 (by decide) (fun h4 => ?_) (fun h4 => ?_)
    · refine r_iconst (v := (0 : Int32)) dX9_socks_39 rfl ?_
      refine r_istore_n (L' := [(2, .int (0 : Int32)), (1, .int q1.1), (0, .ref 0)]) dX9_socks_40 rfl (by decide) rfl ?_
      exact r_pick [2, 1, 0] rfl (t_X9_socks_41 T U V q1.1 fu (0 : Int32) S2)
    · refine r_bipush (v := (-3 : Int32)) dX9_socks_36 rfl ?_
      exact r_ireturn (ty := .int) dX9_socks_38 rfl (nar_i _) rfl
  · refine r_iload_n dX9_socks_20 0 rfl rfl ?_
    exact r_ireturn (ty := .int) dX9_socks_21 rfl (nar_i _) rfl
def f_X9_isSock (S : SI) (v1 : Int32) : Option (Int32) :=
  (f_X9_within v1 (S 1 1)).bind fun q1 =>
  gd (b01 q1) <|
  some q1
set_option maxHeartbeats 4000000 in
set_option maxRecDepth 100000 in
theorem m_X9_isSock (S : SI) (T : SL) (U : SI) (V : SL) (v1 : Int32) : Meth 2 yX9_isSock cX9_isSock 2 (some .boolean) [.ref 0, .int v1] (S, T, U, V) (f_X9_isSock S v1) (fun a : Int32 => (some (.int a), (S, T, U, V))) := by
  refine meth_of (L := [(0, .ref 0), (1, .int v1)]) (by decide +kernel) (Nat.le_of_ble_eq_true rfl) rfl ?_
  rw [f_X9_isSock]
  refine r_iload_n dX9_isSock_0 1 rfl rfl ?_
  refine r_aload_n dX9_isSock_1 0 rfl rfl ?_
  refine r_getr dX9_isSock_2 fl_X9_10 (by decide) rfl rfl (by decide) ?_
  refine rc_geti dX9_isSock_5 fl_X9_99 (by decide) (by decide) rfl rfl ?_
  refine rS_i (as := [.int v1, .int (S 1 1)]) (st := []) dX9_isSock_8 cl_X9_75 (m_X9_within S T U V v1 (S 1 1)) (by decide) rfl (Nat.le_of_ble_eq_true rfl) (fun q1 _ => ?_)
  refine r_gd (fun h2 => ?_)
  exact r_ireturn (ty := .boolean) dX9_isSock_11 rfl (nar_z h2) rfl
def f_X9_told (S : SI) (v1 : Int32) (v2 : Int32) : Option (Int32) :=
  (f_X9_isSock S v1).bind fun q1 =>
  if q1 = 0 then
    some (-1 : Int32)
  else
    (f_X9_within v2 (8 : Int32)).bind fun q3 =>
    if q3 = 0 then
      some (-1 : Int32)
    else
      if v2 = (6 : Int32) then
        (f_X1_outingsOf S v1).bind fun q6 =>
        some q6
      else
        gd (inB v1 12) <|
        (f_X5_trait S (9 + ix v1) v2).bind fun q8 =>
        some q8
set_option maxHeartbeats 4000000 in
set_option maxRecDepth 100000 in
theorem m_X9_told (S : SI) (T : SL) (U : SI) (V : SL) (v1 : Int32) (v2 : Int32) : Meth 3 yX9_told cX9_told 3 (some .int) [.ref 0, .int v1, .int v2] (S, T, U, V) (f_X9_told S v1 v2) (fun a : Int32 => (some (.int a), (S, T, U, V))) := by
  refine meth_of (L := [(0, .ref 0), (1, .int v1), (2, .int v2)]) (by decide +kernel) (Nat.le_of_ble_eq_true rfl) rfl ?_
  rw [f_X9_told]
  refine r_aload_n dX9_told_0 0 rfl rfl ?_
  refine r_iload_n dX9_told_1 1 rfl rfl ?_
  refine rV_i (as := [.int v1]) (st := []) dX9_told_2 cl_X9_106 (by decide) rfl rfl (m_X9_isSock S T U V v1) (by decide) rfl (Nat.le_of_ble_eq_true rfl) (fun q1 _ => ?_)
  refine r_if_eq (tgt := 17) dX9_told_5 (by decide) (fun h2 => ?_) (fun h2 => ?_)
  · refine r_iconst (v := (-1 : Int32)) dX9_told_17 rfl ?_
    exact r_ireturn (ty := .int) dX9_told_18 rfl (nar_i _) rfl
  · refine r_iload_n dX9_told_8 2 rfl rfl ?_
    refine r_bipush (v := (8 : Int32)) dX9_told_9 rfl ?_
    refine rS_i (as := [.int v2, .int (8 : Int32)]) (st := []) dX9_told_11 cl_X9_75 (m_X9_within S T U V v2 (8 : Int32)) (by decide) rfl (Nat.le_of_ble_eq_true rfl) (fun q3 _ => ?_)
    refine r_if_ne (tgt := 19) dX9_told_14 (by decide) (fun h4 => ?_) (fun h4 => ?_)
    · refine r_iconst (v := (-1 : Int32)) dX9_told_17 rfl ?_
      exact r_ireturn (ty := .int) dX9_told_18 rfl (nar_i _) rfl
    · refine r_iload_n dX9_told_19 2 rfl rfl ?_
      refine r_bipush (v := (6 : Int32)) dX9_told_20 rfl ?_
      refine r_icmp_ne (tgt := 36) dX9_told_22 (by decide) (fun h5 => ?_) (fun h5 => ?_)
      · refine r_aload_n dX9_told_25 0 rfl rfl ?_
        refine r_getr dX9_told_26 fl_X9_10 (by decide) rfl rfl (by decide) ?_
        refine r_iload_n dX9_told_29 1 rfl rfl ?_
        refine rV_i (as := [.int v1]) (st := []) dX9_told_30 cl_X9_110 (by decide) rfl rfl (m_X1_outingsOf S T U V v1) (by decide) rfl (Nat.le_of_ble_eq_true rfl) (fun q6 _ => ?_)
        refine r_goto (tgt := 49) dX9_told_33 (by decide) ?_
        exact r_ireturn (ty := .int) dX9_told_49 rfl (nar_i _) rfl
      · refine r_aload_n dX9_told_36 0 rfl rfl ?_
        refine r_getr dX9_told_37 fl_X9_10 (by decide) rfl rfl (by decide) ?_
        refine r_getr dX9_told_40 fl_X9_114 (by decide) rfl rfl (by decide) ?_
        refine r_iload_n dX9_told_43 1 rfl rfl ?_
        refine r_aald (x := 9 + ix v1) dX9_told_44 (by decide) rfl (by decide) (by decide) rfl (fun h7 => ?_)
        refine r_iload_n dX9_told_45 2 rfl rfl ?_
        refine rV_i (as := [.int v2]) (st := []) dX9_told_46 cl_X9_117 (isS_9 h7).a (isS_9 h7).2 rfl (m_X5_trait S T U V (9 + ix v1) (isS_9 h7) v2) (by decide) rfl (Nat.le_of_ble_eq_true rfl) (fun q8 _ => ?_)
        exact r_ireturn (ty := .int) dX9_told_49 rfl (nar_i _) rfl
def f_X9_fade (S : SI) (v1 : Int32) (v2 : Int32) : Option (Int32 × SI) :=
  (f_X9_within v1 (6 : Int32)).bind fun q1 =>
  if q1 = 0 then
    some ((-1 : Int32), S)
  else
    (f_X9_within v2 (10 : Int32)).bind fun q3 =>
    if q3 = 0 then
      some ((-1 : Int32), S)
    else
      gd (inB v1 6) <|
      nm (S 5 (ix v1)) fun x6 =>
      gd (inB v1 6) <|
      nm (up2 S 5 (ix v1) v2) fun S8 =>
      some (x6, S8)
set_option maxHeartbeats 4000000 in
set_option maxRecDepth 100000 in
theorem m_X9_fade (S : SI) (T : SL) (U : SI) (V : SL) (v1 : Int32) (v2 : Int32) : Meth 2 yX9_fade cX9_fade 4 (some .int) [.ref 0, .int v1, .int v2] (S, T, U, V) (f_X9_fade S v1 v2) (fun a : Int32 × SI => (some (.int a.1), (a.2, T, U, V))) := by
  refine meth_of (L := [(0, .ref 0), (1, .int v1), (2, .int v2)]) (by decide +kernel) (Nat.le_of_ble_eq_true rfl) rfl ?_
  rw [f_X9_fade]
  refine r_iload_n dX9_fade_0 1 rfl rfl ?_
  refine r_bipush (v := (6 : Int32)) dX9_fade_1 rfl ?_
  refine rS_i (as := [.int v1, .int (6 : Int32)]) (st := []) dX9_fade_3 cl_X9_75 (m_X9_within S T U V v1 (6 : Int32)) (by decide) rfl (Nat.le_of_ble_eq_true rfl) (fun q1 _ => ?_)
  refine r_if_eq (tgt := 18) dX9_fade_6 (by decide) (fun h2 => ?_) (fun h2 => ?_)
  · refine r_iconst (v := (-1 : Int32)) dX9_fade_18 rfl ?_
    exact r_ireturn (ty := .int) dX9_fade_19 rfl (nar_i _) rfl
  · refine r_iload_n dX9_fade_9 2 rfl rfl ?_
    refine r_bipush (v := (10 : Int32)) dX9_fade_10 rfl ?_
    refine rS_i (as := [.int v2, .int (10 : Int32)]) (st := []) dX9_fade_12 cl_X9_75 (m_X9_within S T U V v2 (10 : Int32)) (by decide) rfl (Nat.le_of_ble_eq_true rfl) (fun q3 _ => ?_)
    refine r_if_ne (tgt := 20) dX9_fade_15 (by decide) (fun h4 => ?_) (fun h4 => ?_)
    · refine r_iconst (v := (-1 : Int32)) dX9_fade_18 rfl ?_
      exact r_ireturn (ty := .int) dX9_fade_19 rfl (nar_i _) rfl
    · refine r_aload_n dX9_fade_20 0 rfl rfl ?_
      refine r_getr dX9_fade_21 fl_X9_10 (by decide) rfl rfl (by decide) ?_
      refine r_getr dX9_fade_24 fl_X9_120 (by decide) rfl rfl (by decide) ?_
      refine r_iload_n dX9_fade_27 1 rfl rfl ?_
      refine rc_iald dX9_fade_28 (by decide) (by decide) rfl (fun h5 => ?_)
      refine r_nmi (fun x6 => ?_)
      refine r_istore_n (L' := [(3, .int x6), (0, .ref 0), (1, .int v1), (2, .int v2)]) dX9_fade_29 rfl (by decide) rfl ?_
      refine r_aload_n dX9_fade_30 1 rfl rfl ?_
      refine r_getr dX9_fade_31 fl_X9_10 (by decide) rfl rfl (by decide) ?_
      refine r_getr dX9_fade_34 fl_X9_120 (by decide) rfl rfl (by decide) ?_
      refine r_iload_n dX9_fade_37 2 rfl rfl ?_
      refine r_iload_n dX9_fade_38 3 rfl rfl ?_
      refine rc_iast dX9_fade_39 (by decide) (by decide) rfl (fun h7 => ?_)
      refine r_nmS (fun S8 => ?_)
      refine r_iload_n dX9_fade_40 0 rfl rfl ?_
      exact r_ireturn (ty := .int) dX9_fade_41 rfl (nar_i _) rfl
def f_X9_set_31 (S : SI) (v1 : Int32) (v2 : Int32) : Option (Int32 × SI) :=
  if v1 = (1 : Int32) then
    (f_X9_within v2 (2 : Int32)).bind fun q5 =>
    if q5 = 0 then
      some ((-1 : Int32), S)
    else
      nm (S 1 7) fun x7 =>
      nm (up2 S 1 7 v2) fun S8 =>
      some (x7, S8)
  else
    some ((-1 : Int32), S)
set_option maxHeartbeats 4000000 in
set_option maxRecDepth 100000 in
theorem t_X9_set_31 (S : SI) (T : SL) (U : SI) (V : SL) (v1 : Int32) (v2 : Int32) : Run 2 yX9_set cX9_set 4 (some .int) none (fun a : Int32 × SI => (some (.int a.1), (a.2, T, U, V))) 31 [(0, .ref 0), (1, .int v1), (2, .int v2)] [] (S, T, U, V) (f_X9_set_31 S v1 v2) := by
  rw [f_X9_set_31]
  refine r_iload_n dX9_set_31 1 rfl rfl ?_
  refine r_iconst (v := (1 : Int32)) dX9_set_32 rfl ?_
  refine r_icmp_ne (tgt := 62) dX9_set_33 (by decide) (fun h4 => ?_) (fun h4 => ?_)
  · refine r_iload_n dX9_set_36 2 rfl rfl ?_
    refine r_iconst (v := (2 : Int32)) dX9_set_37 rfl ?_
    refine rS_i (as := [.int v2, .int (2 : Int32)]) (st := []) dX9_set_38 cl_X9_75 (m_X9_within S T U V v2 (2 : Int32)) (by decide) rfl (Nat.le_of_ble_eq_true rfl) (fun q5 _ => ?_)
    refine r_if_eq (tgt := 62) dX9_set_41 (by decide) (fun h6 => ?_) (fun h6 => ?_)
    · refine r_iconst (v := (-1 : Int32)) dX9_set_62 rfl ?_
      exact r_ireturn (ty := .int) dX9_set_63 rfl (nar_i _) rfl
    · refine r_aload_n dX9_set_44 0 rfl rfl ?_
      refine r_getr dX9_set_45 fl_X9_10 (by decide) rfl rfl (by decide) ?_
      refine rc_geti dX9_set_48 fl_X9_127 (by decide) (by decide) rfl rfl ?_
      refine r_nmi (fun x7 => ?_)
      refine r_istore_n (L' := [(3, .int x7), (0, .ref 0), (1, .int v1), (2, .int v2)]) dX9_set_51 rfl (by decide) rfl ?_
      refine r_aload_n dX9_set_52 1 rfl rfl ?_
      refine r_getr dX9_set_53 fl_X9_10 (by decide) rfl rfl (by decide) ?_
      refine r_iload_n dX9_set_56 3 rfl rfl ?_
      refine rc_puti (ty := .int) dX9_set_57 fp_X9_127 (nar_i _) (fit_i _) (by decide) (by decide) rfl rfl ?_
      refine r_nmS (fun S8 => ?_)
      refine r_iload_n dX9_set_60 0 rfl rfl ?_
      exact r_ireturn (ty := .int) dX9_set_61 rfl (nar_i _) rfl
  · refine r_iconst (v := (-1 : Int32)) dX9_set_62 rfl ?_
    exact r_ireturn (ty := .int) dX9_set_63 rfl (nar_i _) rfl
def f_X9_set (S : SI) (v1 : Int32) (v2 : Int32) : Option (Int32 × SI) :=
  if v1 = 0 then
    (f_X9_within v2 (21 : Int32)).bind fun q2 =>
    if q2 = 0 then
      f_X9_set_31 S v1 v2
    else
      nm (S 1 6) fun x9 =>
      nm (up2 S 1 6 v2) fun S10 =>
      some (x9, S10)
  else
    f_X9_set_31 S v1 v2
set_option maxHeartbeats 4000000 in
set_option maxRecDepth 100000 in
theorem m_X9_set (S : SI) (T : SL) (U : SI) (V : SL) (v1 : Int32) (v2 : Int32) : Meth 2 yX9_set cX9_set 4 (some .int) [.ref 0, .int v1, .int v2] (S, T, U, V) (f_X9_set S v1 v2) (fun a : Int32 × SI => (some (.int a.1), (a.2, T, U, V))) := by
  refine meth_of (L := [(0, .ref 0), (1, .int v1), (2, .int v2)]) (by decide +kernel) (Nat.le_of_ble_eq_true rfl) rfl ?_
  rw [f_X9_set]
  refine r_iload_n dX9_set_0 1 rfl rfl ?_
  refine r_if_ne (tgt := 31) dX9_set_1 (by decide) (fun h1 => ?_) (fun h1 => ?_)
  · refine r_iload_n dX9_set_4 2 rfl rfl ?_
    refine r_bipush (v := (21 : Int32)) dX9_set_5 rfl ?_
    refine rS_i (as := [.int v2, .int (21 : Int32)]) (st := []) dX9_set_7 cl_X9_75 (m_X9_within S T U V v2 (21 : Int32)) (by decide) rfl (Nat.le_of_ble_eq_true rfl) (fun q2 _ => ?_)
    refine r_if_eq (tgt := 31) dX9_set_10 (by decide) (fun h3 => ?_) (fun h3 => ?_)
    · exact r_pick [0, 1, 2] rfl (t_X9_set_31 S T U V v1 v2)
    · refine r_aload_n dX9_set_13 0 rfl rfl ?_
      refine r_getr dX9_set_14 fl_X9_10 (by decide) rfl rfl (by decide) ?_
      refine rc_geti dX9_set_17 fl_X9_124 (by decide) (by decide) rfl rfl ?_
      refine r_nmi (fun x9 => ?_)
      refine r_istore_n (L' := [(3, .int x9), (0, .ref 0), (1, .int v1), (2, .int v2)]) dX9_set_20 rfl (by decide) rfl ?_
      refine r_aload_n dX9_set_21 1 rfl rfl ?_
      refine r_getr dX9_set_22 fl_X9_10 (by decide) rfl rfl (by decide) ?_
      refine r_iload_n dX9_set_25 3 rfl rfl ?_
      refine rc_puti (ty := .int) dX9_set_26 fp_X9_124 (nar_i _) (fit_i _) (by decide) (by decide) rfl rfl ?_
      refine r_nmS (fun S10 => ?_)
      refine r_iload_n dX9_set_29 0 rfl rfl ?_
      exact r_ireturn (ty := .int) dX9_set_30 rfl (nar_i _) rfl
  · exact r_pick [0, 1, 2] rfl (t_X9_set_31 S T U V v1 v2)
def f_X9_monday (S : SI) (v1 : Int32) (v2 : Int32) : Option (Int32 × SI) :=
  (f_X1_everyone S).bind fun q1 =>
  if (v1 &&& (q1 ^^^ (-1 : Int32))) = 0 then
    if (v2 &&& (v1 ^^^ (-1 : Int32))) = 0 then
      (f_X1_canGo S v1).bind fun q4 =>
      if q4 = 0 then
        some ((-2 : Int32), S)
      else
        (f_X1_wash S v1 v2).bind fun q6 =>
        some (q6.1, q6.2)
    else
      some ((-1 : Int32), S)
  else
    some ((-1 : Int32), S)
set_option maxHeartbeats 4000000 in
set_option maxRecDepth 100000 in
theorem m_X9_monday (S : SI) (T : SL) (U : SI) (V : SL) (v1 : Int32) (v2 : Int32) : Meth 5 yX9_monday cX9_monday 3 (some .int) [.ref 0, .int v1, .int v2] (S, T, U, V) (f_X9_monday S v1 v2) (fun a : Int32 × SI => (some (.int a.1), (a.2, T, U, V))) := by
  refine meth_of (L := [(0, .ref 0), (1, .int v1), (2, .int v2)]) (by decide +kernel) (Nat.le_of_ble_eq_true rfl) rfl ?_
  rw [f_X9_monday]
  refine r_iload_n dX9_monday_0 1 rfl rfl ?_
  refine r_aload_n dX9_monday_1 0 rfl rfl ?_
  refine r_getr dX9_monday_2 fl_X9_10 (by decide) rfl rfl (by decide) ?_
  refine rV_i (as := []) (st := [.int v1]) dX9_monday_5 cl_X9_130 (by decide) rfl rfl (m_X1_everyone S T U V) (by decide) rfl (Nat.le_of_ble_eq_true rfl) (fun q1 _ => ?_)
  refine r_iconst (v := (-1 : Int32)) dX9_monday_8 rfl ?_
  refine r_ixor dX9_monday_9 ?_
  refine r_iand dX9_monday_10 ?_
  refine r_if_ne (tgt := 22) dX9_monday_11 (by decide) (fun h2 => ?_) (fun h2 => ?_)
  · refine r_iload_n dX9_monday_14 2 rfl rfl ?_
    refine r_iload_n dX9_monday_15 1 rfl rfl ?_
    refine r_iconst (v := (-1 : Int32)) dX9_monday_16 rfl ?_
    refine r_ixor dX9_monday_17 ?_
    refine r_iand dX9_monday_18 ?_
    refine r_if_eq (tgt := 24) dX9_monday_19 (by decide) (fun h3 => ?_) (fun h3 => ?_)
    · refine r_aload_n dX9_monday_24 0 rfl rfl ?_
      refine r_getr dX9_monday_25 fl_X9_10 (by decide) rfl rfl (by decide) ?_
      refine r_iload_n dX9_monday_28 1 rfl rfl ?_
      refine rV_i (as := [.int v1]) (st := []) dX9_monday_29 cl_X9_133 (by decide) rfl rfl (m_X1_canGo S T U V v1) (by decide) rfl (Nat.le_of_ble_eq_true rfl) (fun q4 _ => ?_)
      refine r_if_ne (tgt := 38) dX9_monday_32 (by decide) (fun h5 => ?_) (fun h5 => ?_)
      · refine r_bipush (v := (-2 : Int32)) dX9_monday_35 rfl ?_
        exact r_ireturn (ty := .int) dX9_monday_37 rfl (nar_i _) rfl
      · refine r_aload_n dX9_monday_38 0 rfl rfl ?_
        refine r_getr dX9_monday_39 fl_X9_10 (by decide) rfl rfl (by decide) ?_
        refine r_iload_n dX9_monday_42 1 rfl rfl ?_
        refine r_iload_n dX9_monday_43 2 rfl rfl ?_
        refine rVc_iS (as := [.int v1, .int v2]) (st := []) dX9_monday_44 cl_X9_136 (by decide) rfl rfl (m_X1_wash S T U V v1 v2) (by decide) rfl (Nat.le_of_ble_eq_true rfl) (fun q6 _ => ?_)
        exact r_ireturn (ty := .int) dX9_monday_47 rfl (nar_i _) rfl
    · refine r_iconst (v := (-1 : Int32)) dX9_monday_22 rfl ?_
      exact r_ireturn (ty := .int) dX9_monday_23 rfl (nar_i _) rfl
  · refine r_iconst (v := (-1 : Int32)) dX9_monday_22 rfl ?_
    exact r_ireturn (ty := .int) dX9_monday_23 rfl (nar_i _) rfl
def f_X9_found (S : SI) (v1 : Int32) : Option (Int32 × SI) :=
  (f_X9_isSock S v1).bind fun q1 =>
  if q1 = 0 then
    some ((-1 : Int32), S)
  else
    gd (inB v1 12) <|
    if (S (9 + ix v1) 4) = (1 : Int32) then
      nm (S (9 + ix v1) 6) fun x5 =>
      (f_X5_toBox S (9 + ix v1)).bind fun q6 =>
      some (x5, q6)
    else
      some ((-2 : Int32), S)
set_option maxHeartbeats 4000000 in
set_option maxRecDepth 100000 in
theorem m_X9_found (S : SI) (T : SL) (U : SI) (V : SL) (v1 : Int32) : Meth 3 yX9_found cX9_found 4 (some .int) [.ref 0, .int v1] (S, T, U, V) (f_X9_found S v1) (fun a : Int32 × SI => (some (.int a.1), (a.2, T, U, V))) := by
  refine meth_of (L := [(0, .ref 0), (1, .int v1)]) (by decide +kernel) (Nat.le_of_ble_eq_true rfl) rfl ?_
  rw [f_X9_found]
  refine r_aload_n dX9_found_0 0 rfl rfl ?_
  refine r_iload_n dX9_found_1 1 rfl rfl ?_
  refine rV_i (as := [.int v1]) (st := []) dX9_found_2 cl_X9_106 (by decide) rfl rfl (m_X9_isSock S T U V v1) (by decide) rfl (Nat.le_of_ble_eq_true rfl) (fun q1 _ => ?_)
  refine r_if_ne (tgt := 10) dX9_found_5 (by decide) (fun h2 => ?_) (fun h2 => ?_)
  · refine r_iconst (v := (-1 : Int32)) dX9_found_8 rfl ?_
    exact r_ireturn (ty := .int) dX9_found_9 rfl (nar_i _) rfl
  · refine r_aload_n dX9_found_10 0 rfl rfl ?_
    refine r_getr dX9_found_11 fl_X9_10 (by decide) rfl rfl (by decide) ?_
    refine r_getr dX9_found_14 fl_X9_114 (by decide) rfl rfl (by decide) ?_
    refine r_iload_n dX9_found_17 1 rfl rfl ?_
    refine r_aald (x := 9 + ix v1) dX9_found_18 (by decide) rfl (by decide) (by decide) rfl (fun h3 => ?_)
    refine r_astore_n (L' := [(2, .ref (9 + ix v1)), (0, .ref 0), (1, .int v1)]) dX9_found_19 rfl (by decide) rfl ?_
    refine r_aload_n dX9_found_20 0 rfl rfl ?_
    refine rc_geti dX9_found_21 fl_X9_140 (isS_9 h3).1 (isS_9 h3).a (isS_9 h3).2 rfl ?_
    refine r_iconst (v := (1 : Int32)) dX9_found_24 rfl ?_
    refine r_icmp_eq (tgt := 31) dX9_found_25 (by decide) (fun h4 => ?_) (fun h4 => ?_)
    · refine r_aload_n dX9_found_31 0 rfl rfl ?_
      refine rc_geti dX9_found_32 fl_X9_143 (isS_9 h3).1 (isS_9 h3).a (isS_9 h3).2 rfl ?_
      refine r_nmi (fun x5 => ?_)
      refine r_istore_n (L' := [(3, .int x5), (2, .ref (9 + ix v1)), (0, .ref 0), (1, .int v1)]) dX9_found_35 rfl (by decide) rfl ?_
      refine r_aload_n dX9_found_36 1 rfl rfl ?_
      refine rVc_vS (as := []) (st := []) dX9_found_37 cl_X9_146 (isS_9 h3).a (isS_9 h3).2 rfl (m_X5_toBox S T U V (9 + ix v1) (isS_9 h3)) (by decide) rfl (Nat.le_of_ble_eq_true rfl) (fun q6 _ => ?_)
      refine r_iload_n dX9_found_40 0 rfl rfl ?_
      exact r_ireturn (ty := .int) dX9_found_41 rfl (nar_i _) rfl
    · refine r_bipush (v := (-2 : Int32)) dX9_found_28 rfl ?_
      exact r_ireturn (ty := .int) dX9_found_30 rfl (nar_i _) rfl
def f_X9_areTwo (S : SI) (v1 : Int32) (v2 : Int32) : Option (Int32) :=
  (f_X9_isSock S v1).bind fun q1 =>
  if q1 = 0 then
    some (0 : Int32)
  else
    (f_X9_isSock S v2).bind fun q3 =>
    if q3 = 0 then
      some (0 : Int32)
    else
      if v1 = v2 then
        some (0 : Int32)
      else
        some (1 : Int32)
set_option maxHeartbeats 4000000 in
set_option maxRecDepth 100000 in
theorem m_X9_areTwo (S : SI) (T : SL) (U : SI) (V : SL) (v1 : Int32) (v2 : Int32) : Meth 3 yX9_areTwo cX9_areTwo 3 (some .boolean) [.ref 0, .int v1, .int v2] (S, T, U, V) (f_X9_areTwo S v1 v2) (fun a : Int32 => (some (.int a), (S, T, U, V))) := by
  refine meth_of (L := [(0, .ref 0), (1, .int v1), (2, .int v2)]) (by decide +kernel) (Nat.le_of_ble_eq_true rfl) rfl ?_
  rw [f_X9_areTwo]
  refine r_aload_n dX9_areTwo_0 0 rfl rfl ?_
  refine r_iload_n dX9_areTwo_1 1 rfl rfl ?_
  refine rV_i (as := [.int v1]) (st := []) dX9_areTwo_2 cl_X9_106 (by decide) rfl rfl (m_X9_isSock S T U V v1) (by decide) rfl (Nat.le_of_ble_eq_true rfl) (fun q1 _ => ?_)
  refine r_if_eq (tgt := 25) dX9_areTwo_5 (by decide) (fun h2 => ?_) (fun h2 => ?_)
  · refine r_iconst (v := (0 : Int32)) dX9_areTwo_25 rfl ?_
    exact r_ireturn (ty := .boolean) dX9_areTwo_26 rfl rfl rfl
  · refine r_aload_n dX9_areTwo_8 0 rfl rfl ?_
    refine r_iload_n dX9_areTwo_9 2 rfl rfl ?_
    refine rV_i (as := [.int v2]) (st := []) dX9_areTwo_10 cl_X9_106 (by decide) rfl rfl (m_X9_isSock S T U V v2) (by decide) rfl (Nat.le_of_ble_eq_true rfl) (fun q3 _ => ?_)
    refine r_if_eq (tgt := 25) dX9_areTwo_13 (by decide) (fun h4 => ?_) (fun h4 => ?_)
    · refine r_iconst (v := (0 : Int32)) dX9_areTwo_25 rfl ?_
      exact r_ireturn (ty := .boolean) dX9_areTwo_26 rfl rfl rfl
    · refine r_iload_n dX9_areTwo_16 1 rfl rfl ?_
      refine r_iload_n dX9_areTwo_17 2 rfl rfl ?_
      refine r_icmp_eq (tgt := 25) dX9_areTwo_18 (by decide) (fun h5 => ?_) (fun h5 => ?_)
      · refine r_iconst (v := (0 : Int32)) dX9_areTwo_25 rfl ?_
        exact r_ireturn (ty := .boolean) dX9_areTwo_26 rfl rfl rfl
      · refine r_iconst (v := (1 : Int32)) dX9_areTwo_21 rfl ?_
        refine r_goto (tgt := 26) dX9_areTwo_22 (by decide) ?_
        exact r_ireturn (ty := .boolean) dX9_areTwo_26 rfl rfl rfl
def f_X9_alike (S : SI) (v1 : Int32) (v2 : Int32) : Option (Int32) :=
  (f_X9_areTwo S v1 v2).bind fun q1 =>
  if q1 = 0 then
    some (-1 : Int32)
  else
    (f_X1_likenessOf S v1 v2).bind fun q3 =>
    some q3
set_option maxHeartbeats 4000000 in
set_option maxRecDepth 100000 in
theorem m_X9_alike (S : SI) (T : SL) (U : SI) (V : SL) (v1 : Int32) (v2 : Int32) : Meth 4 yX9_alike cX9_alike 3 (some .int) [.ref 0, .int v1, .int v2] (S, T, U, V) (f_X9_alike S v1 v2) (fun a : Int32 => (some (.int a), (S, T, U, V))) := by
  refine meth_of (L := [(0, .ref 0), (1, .int v1), (2, .int v2)]) (by decide +kernel) (Nat.le_of_ble_eq_true rfl) rfl ?_
  rw [f_X9_alike]
  refine r_aload_n dX9_alike_0 0 rfl rfl ?_
  refine r_iload_n dX9_alike_1 1 rfl rfl ?_
  refine r_iload_n dX9_alike_2 2 rfl rfl ?_
  refine rV_i (as := [.int v1, .int v2]) (st := []) dX9_alike_3 cl_X9_149 (by decide) rfl rfl (m_X9_areTwo S T U V v1 v2) (by decide) rfl (Nat.le_of_ble_eq_true rfl) (fun q1 _ => ?_)
  refine r_if_eq (tgt := 21) dX9_alike_6 (by decide) (fun h2 => ?_) (fun h2 => ?_)
  · refine r_iconst (v := (-1 : Int32)) dX9_alike_21 rfl ?_
    exact r_ireturn (ty := .int) dX9_alike_22 rfl (nar_i _) rfl
  · refine r_aload_n dX9_alike_9 0 rfl rfl ?_
    refine r_getr dX9_alike_10 fl_X9_10 (by decide) rfl rfl (by decide) ?_
    refine r_iload_n dX9_alike_13 1 rfl rfl ?_
    refine r_iload_n dX9_alike_14 2 rfl rfl ?_
    refine rV_i (as := [.int v1, .int v2]) (st := []) dX9_alike_15 cl_X9_152 (by decide) rfl rfl (m_X1_likenessOf S T U V v1 v2) (by decide) rfl (Nat.le_of_ble_eq_true rfl) (fun q3 _ => ?_)
    refine r_goto (tgt := 22) dX9_alike_18 (by decide) ?_
    exact r_ireturn (ty := .int) dX9_alike_22 rfl (nar_i _) rfl
def f_X9_fellows (S : SI) (v1 : Int32) (v2 : Int32) : Option (Int32) :=
  (f_X9_areTwo S v1 v2).bind fun q1 =>
  if q1 = 0 then
    some (-1 : Int32)
  else
    (f_X1_bars S v1 v2).bind fun q3 =>
    some q3
set_option maxHeartbeats 4000000 in
set_option maxRecDepth 100000 in
theorem m_X9_fellows (S : SI) (T : SL) (U : SI) (V : SL) (v1 : Int32) (v2 : Int32) : Meth 4 yX9_fellows cX9_fellows 3 (some .int) [.ref 0, .int v1, .int v2] (S, T, U, V) (f_X9_fellows S v1 v2) (fun a : Int32 => (some (.int a), (S, T, U, V))) := by
  refine meth_of (L := [(0, .ref 0), (1, .int v1), (2, .int v2)]) (by decide +kernel) (Nat.le_of_ble_eq_true rfl) rfl ?_
  rw [f_X9_fellows]
  refine r_aload_n dX9_fellows_0 0 rfl rfl ?_
  refine r_iload_n dX9_fellows_1 1 rfl rfl ?_
  refine r_iload_n dX9_fellows_2 2 rfl rfl ?_
  refine rV_i (as := [.int v1, .int v2]) (st := []) dX9_fellows_3 cl_X9_149 (by decide) rfl rfl (m_X9_areTwo S T U V v1 v2) (by decide) rfl (Nat.le_of_ble_eq_true rfl) (fun q1 _ => ?_)
  refine r_if_eq (tgt := 21) dX9_fellows_6 (by decide) (fun h2 => ?_) (fun h2 => ?_)
  · refine r_iconst (v := (-1 : Int32)) dX9_fellows_21 rfl ?_
    exact r_ireturn (ty := .int) dX9_fellows_22 rfl (nar_i _) rfl
  · refine r_aload_n dX9_fellows_9 0 rfl rfl ?_
    refine r_getr dX9_fellows_10 fl_X9_10 (by decide) rfl rfl (by decide) ?_
    refine r_iload_n dX9_fellows_13 1 rfl rfl ?_
    refine r_iload_n dX9_fellows_14 2 rfl rfl ?_
    refine rV_i (as := [.int v1, .int v2]) (st := []) dX9_fellows_15 cl_X9_155 (by decide) rfl rfl (m_X1_bars S T U V v1 v2) (by decide) rfl (Nat.le_of_ble_eq_true rfl) (fun q3 _ => ?_)
    refine r_goto (tgt := 22) dX9_fellows_18 (by decide) ?_
    exact r_ireturn (ty := .int) dX9_fellows_22 rfl (nar_i _) rfl
def f_X9_count (S : SI) (v1 : Int32) : Option (Int32) :=
  if v1 = (0 : Int32) then
    some (S 1 1)
  else if v1 = (1 : Int32) then
    (f_X1_placed S (0 : Int32)).bind fun q3 =>
    (f_J6_bitCount_0f7a4 q3).bind fun q4 =>
    some q4
  else if v1 = (2 : Int32) then
    (f_X1_placed S (1 : Int32)).bind fun q6 =>
    (f_J6_bitCount_0f7a4 q6).bind fun q7 =>
    some q7
  else if v1 = (3 : Int32) then
    (f_X1_placed S (2 : Int32)).bind fun q9 =>
    (f_J6_bitCount_0f7a4 q9).bind fun q10 =>
    some q10
  else if v1 = (4 : Int32) then
    some (S 1 4)
  else if v1 = (5 : Int32) then
    (f_X1_placed S (1 : Int32)).bind fun q13 =>
    (f_X1_having S (1 : Int32) (0 : Int32)).bind fun q14 =>
    (f_J6_bitCount_0f7a4 (q13 &&& q14)).bind fun q15 =>
    some q15
  else some (-1 : Int32)
set_option maxHeartbeats 4000000 in
set_option maxRecDepth 100000 in
theorem m_X9_count (S : SI) (T : SL) (U : SI) (V : SL) (v1 : Int32) : Meth 4 yX9_count cX9_count 2 (some .int) [.ref 0, .int v1] (S, T, U, V) (f_X9_count S v1) (fun a : Int32 => (some (.int a), (S, T, U, V))) := by
  refine meth_of (L := [(0, .ref 0), (1, .int v1)]) (by decide +kernel) (Nat.le_of_ble_eq_true rfl) rfl ?_
  rw [f_X9_count]
  refine r_iload_n dX9_count_0 1 rfl rfl ?_
  refine r_if (fun h1 => ?_) (fun h1 => ?_)
  · refine r_tableIn (off := 39) (tgt := 40) dX9_count_1 0 h1 (by decide) (by decide) (by decide) (by decide) ?_
    refine r_aload_n dX9_count_40 0 rfl rfl ?_
    refine r_getr dX9_count_41 fl_X9_10 (by decide) rfl rfl (by decide) ?_
    refine rc_geti dX9_count_44 fl_X9_99 (by decide) (by decide) rfl rfl ?_
    exact r_ireturn (ty := .int) dX9_count_47 rfl (nar_i _) rfl
  · skip
    refine r_if (fun h2 => ?_) (fun h2 => ?_)
    · refine r_tableIn (off := 47) (tgt := 48) dX9_count_1 1 h2 (by decide) (by decide) (by decide) (by decide) ?_
      refine r_aload_n dX9_count_48 0 rfl rfl ?_
      refine r_getr dX9_count_49 fl_X9_10 (by decide) rfl rfl (by decide) ?_
      refine r_iconst (v := (0 : Int32)) dX9_count_52 rfl ?_
      refine rV_i (as := [.int (0 : Int32)]) (st := []) dX9_count_53 cl_X9_158 (by decide) rfl rfl (m_X1_placed S T U V (0 : Int32)) (by decide) rfl (Nat.le_of_ble_eq_true rfl) (fun q3 _ => ?_)
      refine rS_i (as := [.int q3]) (st := []) dX9_count_56 cl_X9_161 (m_J6_bitCount_0f7a4 S T U V q3) (by decide) rfl (Nat.le_of_ble_eq_true rfl) (fun q4 _ => ?_)
      exact r_ireturn (ty := .int) dX9_count_59 rfl (nar_i _) rfl
    · skip
      refine r_if (fun h5 => ?_) (fun h5 => ?_)
      · refine r_tableIn (off := 59) (tgt := 60) dX9_count_1 2 h5 (by decide) (by decide) (by decide) (by decide) ?_
        refine r_aload_n dX9_count_60 0 rfl rfl ?_
        refine r_getr dX9_count_61 fl_X9_10 (by decide) rfl rfl (by decide) ?_
        refine r_iconst (v := (1 : Int32)) dX9_count_64 rfl ?_
        refine rV_i (as := [.int (1 : Int32)]) (st := []) dX9_count_65 cl_X9_158 (by decide) rfl rfl (m_X1_placed S T U V (1 : Int32)) (by decide) rfl (Nat.le_of_ble_eq_true rfl) (fun q6 _ => ?_)
        refine rS_i (as := [.int q6]) (st := []) dX9_count_68 cl_X9_161 (m_J6_bitCount_0f7a4 S T U V q6) (by decide) rfl (Nat.le_of_ble_eq_true rfl) (fun q7 _ => ?_)
        exact r_ireturn (ty := .int) dX9_count_71 rfl (nar_i _) rfl
      · skip
        refine r_if (fun h8 => ?_) (fun h8 => ?_)
        · refine r_tableIn (off := 71) (tgt := 72) dX9_count_1 3 h8 (by decide) (by decide) (by decide) (by decide) ?_
          refine r_aload_n dX9_count_72 0 rfl rfl ?_
          refine r_getr dX9_count_73 fl_X9_10 (by decide) rfl rfl (by decide) ?_
          refine r_iconst (v := (2 : Int32)) dX9_count_76 rfl ?_
          refine rV_i (as := [.int (2 : Int32)]) (st := []) dX9_count_77 cl_X9_158 (by decide) rfl rfl (m_X1_placed S T U V (2 : Int32)) (by decide) rfl (Nat.le_of_ble_eq_true rfl) (fun q9 _ => ?_)
          refine rS_i (as := [.int q9]) (st := []) dX9_count_80 cl_X9_161 (m_J6_bitCount_0f7a4 S T U V q9) (by decide) rfl (Nat.le_of_ble_eq_true rfl) (fun q10 _ => ?_)
          exact r_ireturn (ty := .int) dX9_count_83 rfl (nar_i _) rfl
        · skip
          refine r_if (fun h11 => ?_) (fun h11 => ?_)
          · refine r_tableIn (off := 83) (tgt := 84) dX9_count_1 4 h11 (by decide) (by decide) (by decide) (by decide) ?_
            refine r_aload_n dX9_count_84 0 rfl rfl ?_
            refine r_getr dX9_count_85 fl_X9_10 (by decide) rfl rfl (by decide) ?_
            refine rc_geti dX9_count_88 fl_X9_166 (by decide) (by decide) rfl rfl ?_
            exact r_ireturn (ty := .int) dX9_count_91 rfl (nar_i _) rfl
          · skip
            refine r_if (fun h12 => ?_) (fun h12 => ?_)
            · refine r_tableIn (off := 91) (tgt := 92) dX9_count_1 5 h12 (by decide) (by decide) (by decide) (by decide) ?_
              refine r_aload_n dX9_count_92 0 rfl rfl ?_
              refine r_getr dX9_count_93 fl_X9_10 (by decide) rfl rfl (by decide) ?_
              refine r_iconst (v := (1 : Int32)) dX9_count_96 rfl ?_
              refine rV_i (as := [.int (1 : Int32)]) (st := []) dX9_count_97 cl_X9_158 (by decide) rfl rfl (m_X1_placed S T U V (1 : Int32)) (by decide) rfl (Nat.le_of_ble_eq_true rfl) (fun q13 _ => ?_)
              refine r_aload_n dX9_count_100 0 rfl rfl ?_
              refine r_getr dX9_count_101 fl_X9_10 (by decide) rfl rfl (by decide) ?_
              refine r_iconst (v := (1 : Int32)) dX9_count_104 rfl ?_
              refine r_iconst (v := (0 : Int32)) dX9_count_105 rfl ?_
              refine rV_i (as := [.int (1 : Int32), .int (0 : Int32)]) (st := [.int q13]) dX9_count_106 cl_X9_169 (by decide) rfl rfl (m_X1_having S T U V (1 : Int32) (0 : Int32)) (by decide) rfl (Nat.le_of_ble_eq_true rfl) (fun q14 _ => ?_)
              refine r_iand dX9_count_109 ?_
              refine rS_i (as := [.int (q13 &&& q14)]) (st := []) dX9_count_110 cl_X9_161 (m_J6_bitCount_0f7a4 S T U V (q13 &&& q14)) (by decide) rfl (Nat.le_of_ble_eq_true rfl) (fun q15 _ => ?_)
              exact r_ireturn (ty := .int) dX9_count_113 rfl (nar_i _) rfl
            · skip
              refine r_tableOut (tgt := 114) dX9_count_1 (by have e0 : ¬ v1.toInt = 0 := fun hh => h1 (Int32.toInt_inj.mp hh); have e1 : ¬ v1.toInt = 1 := fun hh => h2 (Int32.toInt_inj.mp hh); have e2 : ¬ v1.toInt = 2 := fun hh => h5 (Int32.toInt_inj.mp hh); have e3 : ¬ v1.toInt = 3 := fun hh => h8 (Int32.toInt_inj.mp hh); have e4 : ¬ v1.toInt = 4 := fun hh => h11 (Int32.toInt_inj.mp hh); have e5 : ¬ v1.toInt = 5 := fun hh => h12 (Int32.toInt_inj.mp hh); omega) (by decide) ?_
              refine r_iconst (v := (-1 : Int32)) dX9_count_114 rfl ?_
              exact r_ireturn (ty := .int) dX9_count_115 rfl (nar_i _) rfl
def f_X9_pairs (S : SI) (v1 : Int32) : Option (Int32 × SI) :=
  (f_X9_within v1 (2 : Int32)).bind fun q1 =>
  if q1 = 0 then
    some ((-1 : Int32), S)
  else
    (f_X3_make S).bind fun q3 =>
    if v1 = 0 then
      some (q3 53 3, q3)
    else
      some (q3 53 4, q3)
set_option maxHeartbeats 4000000 in
set_option maxRecDepth 100000 in
theorem m_X9_pairs (S : SI) (T : SL) (U : SI) (V : SL) (v1 : Int32) : Meth 46 yX9_pairs cX9_pairs 2 (some .int) [.ref 0, .int v1] (S, T, U, V) (f_X9_pairs S v1) (fun a : Int32 × SI => (some (.int a.1), (a.2, T, U, V))) := by
  refine meth_of (L := [(0, .ref 0), (1, .int v1)]) (by decide +kernel) (Nat.le_of_ble_eq_true rfl) rfl ?_
  rw [f_X9_pairs]
  refine r_iload_n dX9_pairs_0 1 rfl rfl ?_
  refine r_iconst (v := (2 : Int32)) dX9_pairs_1 rfl ?_
  refine rS_i (as := [.int v1, .int (2 : Int32)]) (st := []) dX9_pairs_2 cl_X9_75 (m_X9_within S T U V v1 (2 : Int32)) (by decide) rfl (Nat.le_of_ble_eq_true rfl) (fun q1 _ => ?_)
  refine r_if_ne (tgt := 10) dX9_pairs_5 (by decide) (fun h2 => ?_) (fun h2 => ?_)
  · refine r_iconst (v := (-1 : Int32)) dX9_pairs_8 rfl ?_
    exact r_ireturn (ty := .int) dX9_pairs_9 rfl (nar_i _) rfl
  · refine r_aload_n dX9_pairs_10 0 rfl rfl ?_
    refine r_getr dX9_pairs_11 fl_X9_36 (by decide) rfl rfl (by decide) ?_
    refine r_aload_n dX9_pairs_14 0 rfl rfl ?_
    refine r_getr dX9_pairs_15 fl_X9_10 (by decide) rfl rfl (by decide) ?_
    refine rVc_vS (as := [.ref 1]) (st := []) dX9_pairs_18 cl_X9_172 (by decide) rfl rfl (m_X3_make S T U V) (by decide) rfl (Nat.le_of_ble_eq_true rfl) (fun q3 _ => ?_)
    refine r_iload_n dX9_pairs_21 1 rfl rfl ?_
    refine r_if_ne (tgt := 35) dX9_pairs_22 (by decide) (fun h4 => ?_) (fun h4 => ?_)
    · refine r_aload_n dX9_pairs_25 0 rfl rfl ?_
      refine r_getr dX9_pairs_26 fl_X9_36 (by decide) rfl rfl (by decide) ?_
      refine rc_geti dX9_pairs_29 fl_X9_176 (by decide) (by decide) rfl rfl ?_
      refine r_goto (tgt := 42) dX9_pairs_32 (by decide) ?_
      exact r_ireturn (ty := .int) dX9_pairs_42 rfl (nar_i _) rfl
    · refine r_aload_n dX9_pairs_35 0 rfl rfl ?_
      refine r_getr dX9_pairs_36 fl_X9_36 (by decide) rfl rfl (by decide) ?_
      refine rc_geti dX9_pairs_39 fl_X9_179 (by decide) (by decide) rfl rfl ?_
      exact r_ireturn (ty := .int) dX9_pairs_42 rfl (nar_i _) rfl
def f_X9_fellow (S : SI) (v1 : Int32) : Option (Int32 × SI) :=
  (f_X9_isSock S v1).bind fun q1 =>
  if q1 = 0 then
    some ((-1 : Int32), S)
  else
    (f_X3_make S).bind fun q3 =>
    gd (inB v1 12) <|
    some (q3 56 (ix v1), q3)
set_option maxHeartbeats 4000000 in
set_option maxRecDepth 100000 in
theorem m_X9_fellow (S : SI) (T : SL) (U : SI) (V : SL) (v1 : Int32) : Meth 46 yX9_fellow cX9_fellow 2 (some .int) [.ref 0, .int v1] (S, T, U, V) (f_X9_fellow S v1) (fun a : Int32 × SI => (some (.int a.1), (a.2, T, U, V))) := by
  refine meth_of (L := [(0, .ref 0), (1, .int v1)]) (by decide +kernel) (Nat.le_of_ble_eq_true rfl) rfl ?_
  rw [f_X9_fellow]
  refine r_aload_n dX9_fellow_0 0 rfl rfl ?_
  refine r_iload_n dX9_fellow_1 1 rfl rfl ?_
  refine rV_i (as := [.int v1]) (st := []) dX9_fellow_2 cl_X9_106 (by decide) rfl rfl (m_X9_isSock S T U V v1) (by decide) rfl (Nat.le_of_ble_eq_true rfl) (fun q1 _ => ?_)
  refine r_if_ne (tgt := 10) dX9_fellow_5 (by decide) (fun h2 => ?_) (fun h2 => ?_)
  · refine r_iconst (v := (-1 : Int32)) dX9_fellow_8 rfl ?_
    exact r_ireturn (ty := .int) dX9_fellow_9 rfl (nar_i _) rfl
  · refine r_aload_n dX9_fellow_10 0 rfl rfl ?_
    refine r_getr dX9_fellow_11 fl_X9_36 (by decide) rfl rfl (by decide) ?_
    refine r_aload_n dX9_fellow_14 0 rfl rfl ?_
    refine r_getr dX9_fellow_15 fl_X9_10 (by decide) rfl rfl (by decide) ?_
    refine rVc_vS (as := [.ref 1]) (st := []) dX9_fellow_18 cl_X9_172 (by decide) rfl rfl (m_X3_make S T U V) (by decide) rfl (Nat.le_of_ble_eq_true rfl) (fun q3 _ => ?_)
    refine r_aload_n dX9_fellow_21 0 rfl rfl ?_
    refine r_getr dX9_fellow_22 fl_X9_36 (by decide) rfl rfl (by decide) ?_
    refine r_getr dX9_fellow_25 fl_X9_182 (by decide) rfl rfl (by decide) ?_
    refine r_iload_n dX9_fellow_28 1 rfl rfl ?_
    refine rc_iald dX9_fellow_29 (by decide) (by decide) rfl (fun h4 => ?_)
    exact r_ireturn (ty := .int) dX9_fellow_30 rfl (nar_i _) rfl
def f_X9_pairUp_13  : Nat → Int32 → SI → Option (Int32 × SI)
  | 0, _, _ => none
  | m_ + 1, v1, S =>
    if (S 1 1) ≤ v1 then
      some (S 53 3, S)
    else
      gd (inB v1 12) <|
      if (S 56 (ix v1)) = (-4 : Int32) then
        (f_X9_pairUp_13 m_) (v1 + (1 : Int32)) S
      else
        gd (inB v1 12) <|
        gd (inB v1 12) <|
        (f_X5_toPair S (9 + ix v1) (S 56 (ix v1))).bind fun q7 =>
        (f_X9_pairUp_13 m_) (v1 + (1 : Int32)) q7
set_option maxHeartbeats 4000000 in
set_option maxRecDepth 100000 in
theorem t_X9_pairUp_13 (T : SL) (U : SI) (V : SL) : ∀ (m_ : Nat) (v1 : Int32) (S : SI), Run 46 yX9_pairUp cX9_pairUp 2 (some .int) none (fun a : Int32 × SI => (some (.int a.1), (a.2, T, U, V))) 13 [(0, .ref 0), (1, .int v1)] [] (S, T, U, V) (f_X9_pairUp_13 m_ v1 S) := by
  intro m_
  induction m_ with
  | zero =>
    intro v1 S
    rw [f_X9_pairUp_13]
    exact r_none
  | succ m_ ih =>
    intro v1 S
    rw [f_X9_pairUp_13]
    refine r_iload_n dX9_pairUp_13 1 rfl rfl ?_
    refine r_aload_n dX9_pairUp_14 0 rfl rfl ?_
    refine r_getr dX9_pairUp_15 fl_X9_10 (by decide) rfl rfl (by decide) ?_
    refine rc_geti dX9_pairUp_18 fl_X9_99 (by decide) (by decide) rfl rfl ?_
    refine r_icmp_ge (tgt := 65) dX9_pairUp_21 (by decide) (fun h2 => ?_) (fun h2 => ?_)
    · refine r_aload_n dX9_pairUp_65 0 rfl rfl ?_
      refine r_getr dX9_pairUp_66 fl_X9_36 (by decide) rfl rfl (by decide) ?_
      refine rc_geti dX9_pairUp_69 fl_X9_176 (by decide) (by decide) rfl rfl ?_
      exact r_ireturn (ty := .int) dX9_pairUp_72 rfl (nar_i _) rfl
    · refine r_aload_n dX9_pairUp_24 0 rfl rfl ?_
      refine r_getr dX9_pairUp_25 fl_X9_36 (by decide) rfl rfl (by decide) ?_
      refine r_getr dX9_pairUp_28 fl_X9_182 (by decide) rfl rfl (by decide) ?_
      refine r_iload_n dX9_pairUp_31 1 rfl rfl ?_
      refine rc_iald dX9_pairUp_32 (by decide) (by decide) rfl (fun h3 => ?_)
      refine r_bipush (v := (-4 : Int32)) dX9_pairUp_33 rfl ?_
      refine r_icmp_eq (tgt := 59) dX9_pairUp_35 (by decide) (fun h4 => ?_) (fun h4 => ?_)
      · refine r_iinc (v := v1 + (1 : Int32)) (L' := [(1, .int (v1 + (1 : Int32))), (0, .ref 0)]) dX9_pairUp_59 1 rfl rfl (by decide) rfl ?_
        refine r_goto (tgt := 13) dX9_pairUp_62 (by decide) ?_
        exact r_pick [1, 0] rfl (ih (v1 + (1 : Int32)) S)
      · refine r_aload_n dX9_pairUp_38 0 rfl rfl ?_
        refine r_getr dX9_pairUp_39 fl_X9_10 (by decide) rfl rfl (by decide) ?_
        refine r_getr dX9_pairUp_42 fl_X9_114 (by decide) rfl rfl (by decide) ?_
        refine r_iload_n dX9_pairUp_45 1 rfl rfl ?_
        refine r_aald (x := 9 + ix v1) dX9_pairUp_46 (by decide) rfl (by decide) (by decide) rfl (fun h5 => ?_)
        refine r_aload_n dX9_pairUp_47 0 rfl rfl ?_
        refine r_getr dX9_pairUp_48 fl_X9_36 (by decide) rfl rfl (by decide) ?_
        refine r_getr dX9_pairUp_51 fl_X9_182 (by decide) rfl rfl (by decide) ?_
        refine r_iload_n dX9_pairUp_54 1 rfl rfl ?_
        refine rc_iald dX9_pairUp_55 (by decide) (by decide) rfl (fun h6 => ?_)
        refine rVc_vS (as := [.int (S 56 (ix v1))]) (st := []) dX9_pairUp_56 cl_X9_185 (isS_9 h5).a (isS_9 h5).2 rfl (m_X5_toPair S T U V (9 + ix v1) (isS_9 h5) (S 56 (ix v1))) (by decide) rfl (Nat.le_of_ble_eq_true rfl) (fun q7 _ => ?_)
        refine r_iinc (v := v1 + (1 : Int32)) (L' := [(1, .int (v1 + (1 : Int32))), (0, .ref 0)]) dX9_pairUp_59 1 rfl rfl (by decide) rfl ?_
        refine r_goto (tgt := 13) dX9_pairUp_62 (by decide) ?_
        exact r_pick [1, 0] rfl (ih (v1 + (1 : Int32)) q7)
def f_X9_pairUp (S : SI) : Option (Int32 × SI) :=
  (f_X3_make S).bind fun q1 =>
  f_X9_pairUp_13 fu (0 : Int32) q1
set_option maxHeartbeats 4000000 in
set_option maxRecDepth 100000 in
theorem m_X9_pairUp (S : SI) (T : SL) (U : SI) (V : SL)  : Meth 46 yX9_pairUp cX9_pairUp 2 (some .int) [.ref 0] (S, T, U, V) (f_X9_pairUp S) (fun a : Int32 × SI => (some (.int a.1), (a.2, T, U, V))) := by
  refine meth_of (L := [(0, .ref 0)]) (by decide +kernel) (Nat.le_of_ble_eq_true rfl) rfl ?_
  rw [f_X9_pairUp]
  refine r_aload_n dX9_pairUp_0 0 rfl rfl ?_
  refine r_getr dX9_pairUp_1 fl_X9_36 (by decide) rfl rfl (by decide) ?_
  refine r_aload_n dX9_pairUp_4 0 rfl rfl ?_
  refine r_getr dX9_pairUp_5 fl_X9_10 (by decide) rfl rfl (by decide) ?_
  refine rVc_vS (as := [.ref 1]) (st := []) dX9_pairUp_8 cl_X9_172 (by decide) rfl rfl (m_X3_make S T U V) (by decide) rfl (Nat.le_of_ble_eq_true rfl) (fun q1 _ => ?_)
  refine r_iconst (v := (0 : Int32)) dX9_pairUp_11 rfl ?_
  refine r_istore_n (L' := [(1, .int (0 : Int32)), (0, .ref 0)]) dX9_pairUp_12 rfl (by decide) rfl ?_
  exact r_pick [1, 0] rfl (t_X9_pairUp_13 T U V fu (0 : Int32) q1)
def f_X9_part (S : SI) (v1 : Int32) : Option (Int32 × SI) :=
  (f_X9_isSock S v1).bind fun q1 =>
  if q1 = 0 then
    some ((-1 : Int32), S)
  else
    (f_X1_unpair S v1).bind fun q3 =>
    some (q3.1, q3.2)
set_option maxHeartbeats 4000000 in
set_option maxRecDepth 100000 in
theorem m_X9_part (S : SI) (T : SL) (U : SI) (V : SL) (v1 : Int32) : Meth 3 yX9_part cX9_part 2 (some .int) [.ref 0, .int v1] (S, T, U, V) (f_X9_part S v1) (fun a : Int32 × SI => (some (.int a.1), (a.2, T, U, V))) := by
  refine meth_of (L := [(0, .ref 0), (1, .int v1)]) (by decide +kernel) (Nat.le_of_ble_eq_true rfl) rfl ?_
  rw [f_X9_part]
  refine r_aload_n dX9_part_0 0 rfl rfl ?_
  refine r_iload_n dX9_part_1 1 rfl rfl ?_
  refine rV_i (as := [.int v1]) (st := []) dX9_part_2 cl_X9_106 (by decide) rfl rfl (m_X9_isSock S T U V v1) (by decide) rfl (Nat.le_of_ble_eq_true rfl) (fun q1 _ => ?_)
  refine r_if_ne (tgt := 10) dX9_part_5 (by decide) (fun h2 => ?_) (fun h2 => ?_)
  · refine r_iconst (v := (-1 : Int32)) dX9_part_8 rfl ?_
    exact r_ireturn (ty := .int) dX9_part_9 rfl (nar_i _) rfl
  · refine r_aload_n dX9_part_10 0 rfl rfl ?_
    refine r_getr dX9_part_11 fl_X9_10 (by decide) rfl rfl (by decide) ?_
    refine r_iload_n dX9_part_14 1 rfl rfl ?_
    refine rVc_iS (as := [.int v1]) (st := []) dX9_part_15 cl_X9_189 (by decide) rfl rfl (m_X1_unpair S T U V v1) (by decide) rfl (Nat.le_of_ble_eq_true rfl) (fun q3 _ => ?_)
    exact r_ireturn (ty := .int) dX9_part_18 rfl (nar_i _) rfl
def f_X9_isWellTold_79 (S : SI) (v3 : Int32) (v4 : Int32) (s0 : Int32) : Option (Int32) :=
  if s0 = 0 then
    some (0 : Int32)
  else
    (f_X1_bars S v3 v4).bind fun q13 =>
    if q13 = 0 then
      some (1 : Int32)
    else
      some (0 : Int32)
set_option maxHeartbeats 4000000 in
set_option maxRecDepth 100000 in
theorem t_X9_isWellTold_79 (S : SI) (T : SL) (U : SI) (V : SL) (v3 : Int32) (v4 : Int32) (s0 : Int32) : Run 4 yX9_isWellTold cX9_isWellTold 6 (some .boolean) none (fun a : Int32 => (some (.int a), (S, T, U, V))) 79 [(0, .ref 0), (3, .int v3), (4, .int v4)] [.int s0] (S, T, U, V) (f_X9_isWellTold_79 S v3 v4 s0) := by
  rw [f_X9_isWellTold_79]
  refine r_istore (L' := [(5, .int s0), (0, .ref 0), (3, .int v3), (4, .int v4)]) dX9_isWellTold_79 (by decide) rfl ?_
  refine r_iload dX9_isWellTold_81 0 rfl ?_
  refine r_if_eq (tgt := 103) dX9_isWellTold_83 (by decide) (fun h12 => ?_) (fun h12 => ?_)
  · refine r_iconst (v := (0 : Int32)) dX9_isWellTold_103 rfl ?_
    exact r_ireturn (ty := .boolean) dX9_isWellTold_104 rfl rfl rfl
  · refine r_aload_n dX9_isWellTold_86 1 rfl rfl ?_
    refine r_getr dX9_isWellTold_87 fl_X9_10 (by decide) rfl rfl (by decide) ?_
    refine r_iload_n dX9_isWellTold_90 2 rfl rfl ?_
    refine r_iload dX9_isWellTold_91 3 rfl ?_
    refine rV_i (as := [.int v3, .int v4]) (st := []) dX9_isWellTold_93 cl_X9_155 (by decide) rfl rfl (m_X1_bars S T U V v3 v4) (by decide) rfl (Nat.le_of_ble_eq_true rfl) (fun q13 _ => ?_)
    refine r_if_ne (tgt := 103) dX9_isWellTold_96 (by decide) (fun h14 => ?_) (fun h14 => ?_)
    · refine r_iconst (v := (1 : Int32)) dX9_isWellTold_99 rfl ?_
      refine r_goto (tgt := 104) dX9_isWellTold_100 (by decide) ?_
      exact r_ireturn (ty := .boolean) dX9_isWellTold_104 rfl rfl rfl
    · refine r_iconst (v := (0 : Int32)) dX9_isWellTold_103 rfl ?_
      exact r_ireturn (ty := .boolean) dX9_isWellTold_104 rfl rfl rfl
def f_X9_isWellTold (S : SI) (a1 : Nat) (v2 : Int32) (v3 : Int32) : Option (Int32) :=
  gd (inB (v2 + v3) 16) <|
  nm (S (a1 + 1) (ix (v2 + v3))) fun x2 =>
  if x2 = (-1 : Int32) then
    some (1 : Int32)
  else
    (f_X9_areTwo S v3 x2).bind fun q4 =>
    if q4 = 0 then
      some (0 : Int32)
    else
      gd (inB (v2 + x2) 16) <|
      if (S (a1 + 1) (ix (v2 + x2))) = v3 then
        gd (inB v3 12) <|
        if (S (9 + ix v3) 4) = 0 then
          gd (inB x2 12) <|
          if (S (9 + ix x2) 4) = 0 then
            f_X9_isWellTold_79 S v3 x2 (1 : Int32)
          else
            f_X9_isWellTold_79 S v3 x2 (0 : Int32)
        else
          f_X9_isWellTold_79 S v3 x2 (0 : Int32)
      else
        some (0 : Int32)
set_option maxHeartbeats 4000000 in
set_option maxRecDepth 100000 in
theorem m_X9_isWellTold (S : SI) (T : SL) (U : SI) (V : SL) (a1 : Nat) (ha1 : IsH a1) (v2 : Int32) (v3 : Int32) : Meth 4 yX9_isWellTold cX9_isWellTold 6 (some .boolean) [.ref 0, .ref a1, .int v2, .int v3] (S, T, U, V) (f_X9_isWellTold S a1 v2 v3) (fun a : Int32 => (some (.int a), (S, T, U, V))) := by
  refine meth_of (L := [(0, .ref 0), (1, .ref a1), (2, .int v2), (3, .int v3)]) (by decide +kernel) (Nat.le_of_ble_eq_true rfl) rfl ?_
  rw [f_X9_isWellTold]
  refine r_aload_n dX9_isWellTold_0 1 rfl rfl ?_
  refine r_getr dX9_isWellTold_1 fl_X9_290 ha1.a ha1.2.1 rfl ha1.a1 ?_
  refine r_iload_n dX9_isWellTold_4 2 rfl rfl ?_
  refine r_iload_n dX9_isWellTold_5 3 rfl rfl ?_
  refine r_iadd dX9_isWellTold_6 ?_
  refine rc_iald dX9_isWellTold_7 ha1.q1 ha1.a1 ha1.2.2 (fun h1 => ?_)
  refine r_nmi (fun x2 => ?_)
  refine r_istore (L' := [(4, .int x2), (0, .ref 0), (1, .ref a1), (2, .int v2), (3, .int v3)]) dX9_isWellTold_8 (by decide) rfl ?_
  refine r_iload dX9_isWellTold_10 0 rfl ?_
  refine r_iconst (v := (-1 : Int32)) dX9_isWellTold_12 rfl ?_
  refine r_icmp_ne (tgt := 18) dX9_isWellTold_13 (by decide) (fun h3 => ?_) (fun h3 => ?_)
  · refine r_iconst (v := (1 : Int32)) dX9_isWellTold_16 rfl ?_
    exact r_ireturn (ty := .boolean) dX9_isWellTold_17 rfl rfl rfl
  · refine r_aload_n dX9_isWellTold_18 1 rfl rfl ?_
    refine r_iload_n dX9_isWellTold_19 4 rfl rfl ?_
    refine r_iload dX9_isWellTold_20 0 rfl ?_
    refine rV_i (as := [.int v3, .int x2]) (st := []) dX9_isWellTold_22 cl_X9_149 (by decide) rfl rfl (m_X9_areTwo S T U V v3 x2) (by decide) rfl (Nat.le_of_ble_eq_true rfl) (fun q4 _ => ?_)
    refine r_if_eq (tgt := 41) dX9_isWellTold_25 (by decide) (fun h5 => ?_) (fun h5 => ?_)
    · refine r_iconst (v := (0 : Int32)) dX9_isWellTold_41 rfl ?_
      exact r_ireturn (ty := .boolean) dX9_isWellTold_42 rfl rfl rfl
    · refine r_aload_n dX9_isWellTold_28 2 rfl rfl ?_
      refine r_getr dX9_isWellTold_29 fl_X9_290 ha1.a ha1.2.1 rfl ha1.a1 ?_
      refine r_iload_n dX9_isWellTold_32 3 rfl rfl ?_
      refine r_iload dX9_isWellTold_33 0 rfl ?_
      refine r_iadd dX9_isWellTold_35 ?_
      refine rc_iald dX9_isWellTold_36 ha1.q1 ha1.a1 ha1.2.2 (fun h6 => ?_)
      refine r_iload_n dX9_isWellTold_37 4 rfl rfl ?_
      refine r_icmp_eq (tgt := 43) dX9_isWellTold_38 (by decide) (fun h7 => ?_) (fun h7 => ?_)
      · refine r_aload_n dX9_isWellTold_43 1 rfl rfl ?_
        refine r_getr dX9_isWellTold_44 fl_X9_10 (by decide) rfl rfl (by decide) ?_
        refine r_getr dX9_isWellTold_47 fl_X9_114 (by decide) rfl rfl (by decide) ?_
        refine r_iload_n dX9_isWellTold_50 4 rfl rfl ?_
        refine r_aald (x := 9 + ix v3) dX9_isWellTold_51 (by decide) rfl (by decide) (by decide) rfl (fun h8 => ?_)
        refine rc_geti dX9_isWellTold_52 fl_X9_140 (isS_9 h8).1 (isS_9 h8).a (isS_9 h8).2 rfl ?_
        refine r_if_ne (tgt := 78) dX9_isWellTold_55 (by decide) (fun h9 => ?_) (fun h9 => ?_)
        · refine r_aload_n dX9_isWellTold_58 1 rfl rfl ?_
          refine r_getr dX9_isWellTold_59 fl_X9_10 (by decide) rfl rfl (by decide) ?_
          refine r_getr dX9_isWellTold_62 fl_X9_114 (by decide) rfl rfl (by decide) ?_
          refine r_iload dX9_isWellTold_65 0 rfl ?_
          refine r_aald (x := 9 + ix x2) dX9_isWellTold_67 (by decide) rfl (by decide) (by decide) rfl (fun h10 => ?_)
          refine rc_geti dX9_isWellTold_68 fl_X9_140 (isS_9 h10).1 (isS_9 h10).a (isS_9 h10).2 rfl ?_
          refine r_if_ne (tgt := 78) dX9_isWellTold_71 (by decide) (fun h11 => ?_) (fun h11 => ?_)
          · refine r_iconst (v := (1 : Int32)) dX9_isWellTold_74 rfl ?_
            refine r_goto (tgt := 79) dX9_isWellTold_75 (by decide) ?_
            exact r_pick [1, 4, 0] rfl (t_X9_isWellTold_79 S T U V v3 x2 (1 : Int32))
          · refine r_iconst (v := (0 : Int32)) dX9_isWellTold_78 rfl ?_
            exact r_pick [1, 4, 0] rfl (t_X9_isWellTold_79 S T U V v3 x2 (0 : Int32))
        · refine r_iconst (v := (0 : Int32)) dX9_isWellTold_78 rfl ?_
          exact r_pick [1, 4, 0] rfl (t_X9_isWellTold_79 S T U V v3 x2 (0 : Int32))
      · refine r_iconst (v := (0 : Int32)) dX9_isWellTold_41 rfl ?_
        exact r_ireturn (ty := .boolean) dX9_isWellTold_42 rfl rfl rfl
def f_X9_judge_53 (S : SI) (v3 : Int32) (a4 : Nat) : Nat → Int32 → Option (Int32)
  | 0, _ => none
  | m_ + 1, v6 =>
    if (S 1 1) ≤ v6 then
      some (-4 : Int32)
    else
      (f_X9_isWellTold S a4 v3 v6).bind fun q9 =>
      if q9 = 0 then
        some v6
      else
        (f_X9_judge_53 S v3 a4 m_) (v6 + (1 : Int32))
set_option maxHeartbeats 4000000 in
set_option maxRecDepth 100000 in
theorem t_X9_judge_53 (S : SI) (T : SL) (U : SI) (V : SL) (v3 : Int32) (a4 : Nat) (ha4 : IsH a4) : ∀ (m_ : Nat) (v6 : Int32), Run 5 yX9_judge cX9_judge 7 (some .int) none (fun a : Int32 => (some (.int a), (S, T, U, V))) 53 [(0, .ref 0), (3, .int v3), (4, .ref a4), (6, .int v6)] [] (S, T, U, V) (f_X9_judge_53 S v3 a4 m_ v6) := by
  intro m_
  induction m_ with
  | zero =>
    intro v6
    rw [f_X9_judge_53]
    exact r_none
  | succ m_ ih =>
    intro v6
    rw [f_X9_judge_53]
    refine r_iload dX9_judge_53 3 rfl ?_
    refine r_aload_n dX9_judge_55 0 rfl rfl ?_
    refine r_getr dX9_judge_56 fl_X9_10 (by decide) rfl rfl (by decide) ?_
    refine rc_geti dX9_judge_59 fl_X9_99 (by decide) (by decide) rfl rfl ?_
    refine r_icmp_ge (tgt := 86) dX9_judge_62 (by decide) (fun h8 => ?_) (fun h8 => ?_)
    · refine r_bipush (v := (-4 : Int32)) dX9_judge_86 rfl ?_
      exact r_ireturn (ty := .int) dX9_judge_88 rfl (nar_i _) rfl
    · refine r_aload_n dX9_judge_65 0 rfl rfl ?_
      refine r_aload dX9_judge_66 2 rfl ?_
      refine r_iload_n dX9_judge_68 1 rfl rfl ?_
      refine r_iload dX9_judge_69 3 rfl ?_
      refine rV_i (as := [.ref a4, .int v3, .int v6]) (st := []) dX9_judge_71 cl_X9_196 (by decide) rfl rfl (m_X9_isWellTold S T U V a4 ha4 v3 v6) (by decide) rfl (Nat.le_of_ble_eq_true rfl) (fun q9 _ => ?_)
      refine r_if_ne (tgt := 80) dX9_judge_74 (by decide) (fun h10 => ?_) (fun h10 => ?_)
      · refine r_iload dX9_judge_77 3 rfl ?_
        exact r_ireturn (ty := .int) dX9_judge_79 rfl (nar_i _) rfl
      · refine r_iinc (v := v6 + (1 : Int32)) (L' := [(6, .int (v6 + (1 : Int32))), (0, .ref 0), (3, .int v3), (4, .ref a4)]) dX9_judge_80 3 rfl rfl (by decide) rfl ?_
        refine r_goto (tgt := 53) dX9_judge_83 (by decide) ?_
        exact r_pick [1, 2, 3, 0] rfl (ih (v6 + (1 : Int32)))
def f_X9_judge (S : SI) (v1 : Int32) (v2 : Int32) (v3 : Int32) : Option (Int32) :=
  (f_X9_within v1 (4 : Int32)).bind fun q1 =>
  if q1 = 0 then
    some (-1 : Int32)
  else
    (f_X9_within v2 (3 : Int32)).bind fun q3 =>
    if q3 = 0 then
      some (-1 : Int32)
    else
      gd (inB v1 4) <|
      (f_X4_refusal S (70 + 2 * ix v1) v2 v3 (S 1 1)).bind fun q6 =>
      if q6 = 0 then
        f_X9_judge_53 S v3 (70 + 2 * ix v1) fu (0 : Int32)
      else
        some q6
set_option maxHeartbeats 4000000 in
set_option maxRecDepth 100000 in
theorem m_X9_judge (S : SI) (T : SL) (U : SI) (V : SL) (v1 : Int32) (v2 : Int32) (v3 : Int32) : Meth 5 yX9_judge cX9_judge 7 (some .int) [.ref 0, .int v1, .int v2, .int v3] (S, T, U, V) (f_X9_judge S v1 v2 v3) (fun a : Int32 => (some (.int a), (S, T, U, V))) := by
  refine meth_of (L := [(0, .ref 0), (1, .int v1), (2, .int v2), (3, .int v3)]) (by decide +kernel) (Nat.le_of_ble_eq_true rfl) rfl ?_
  rw [f_X9_judge]
  refine r_iload_n dX9_judge_0 1 rfl rfl ?_
  refine r_iconst (v := (4 : Int32)) dX9_judge_1 rfl ?_
  refine rS_i (as := [.int v1, .int (4 : Int32)]) (st := []) dX9_judge_2 cl_X9_75 (m_X9_within S T U V v1 (4 : Int32)) (by decide) rfl (Nat.le_of_ble_eq_true rfl) (fun q1 _ => ?_)
  refine r_if_eq (tgt := 16) dX9_judge_5 (by decide) (fun h2 => ?_) (fun h2 => ?_)
  · refine r_iconst (v := (-1 : Int32)) dX9_judge_16 rfl ?_
    exact r_ireturn (ty := .int) dX9_judge_17 rfl (nar_i _) rfl
  · refine r_iload_n dX9_judge_8 2 rfl rfl ?_
    refine r_iconst (v := (3 : Int32)) dX9_judge_9 rfl ?_
    refine rS_i (as := [.int v2, .int (3 : Int32)]) (st := []) dX9_judge_10 cl_X9_75 (m_X9_within S T U V v2 (3 : Int32)) (by decide) rfl (Nat.le_of_ble_eq_true rfl) (fun q3 _ => ?_)
    refine r_if_ne (tgt := 18) dX9_judge_13 (by decide) (fun h4 => ?_) (fun h4 => ?_)
    · refine r_iconst (v := (-1 : Int32)) dX9_judge_16 rfl ?_
      exact r_ireturn (ty := .int) dX9_judge_17 rfl (nar_i _) rfl
    · refine r_aload_n dX9_judge_18 0 rfl rfl ?_
      refine r_getr dX9_judge_19 fl_X9_70 (by decide) rfl rfl (by decide) ?_
      refine r_iload_n dX9_judge_22 1 rfl rfl ?_
      refine r_aald (x := 70 + 2 * ix v1) dX9_judge_23 (by decide) rfl (by decide) (by decide) rfl (fun h5 => ?_)
      refine r_astore (L' := [(4, .ref (70 + 2 * ix v1)), (0, .ref 0), (1, .int v1), (2, .int v2), (3, .int v3)]) dX9_judge_24 (by decide) rfl ?_
      refine r_aload dX9_judge_26 0 rfl ?_
      refine r_iload_n dX9_judge_28 3 rfl rfl ?_
      refine r_iload_n dX9_judge_29 4 rfl rfl ?_
      refine r_aload_n dX9_judge_30 1 rfl rfl ?_
      refine r_getr dX9_judge_31 fl_X9_10 (by decide) rfl rfl (by decide) ?_
      refine rc_geti dX9_judge_34 fl_X9_99 (by decide) (by decide) rfl rfl ?_
      refine rV_i (as := [.int v2, .int v3, .int (S 1 1)]) (st := []) dX9_judge_37 cl_X9_192 (isH_70 h5).a (isH_70 h5).2.1 rfl (m_X4_refusal S T U V (70 + 2 * ix v1) (isH_70 h5) v2 v3 (S 1 1)) (by decide) rfl (Nat.le_of_ble_eq_true rfl) (fun q6 _ => ?_)
      refine r_istore (L' := [(5, .int q6), (4, .ref (70 + 2 * ix v1)), (0, .ref 0), (1, .int v1), (2, .int v2), (3, .int v3)]) dX9_judge_40 (by decide) rfl ?_
      refine r_iload dX9_judge_42 0 rfl ?_
      refine r_if_eq (tgt := 50) dX9_judge_44 (by decide) (fun h7 => ?_) (fun h7 => ?_)
      · refine r_iconst (v := (0 : Int32)) dX9_judge_50 rfl ?_
        refine r_istore (L' := [(6, .int (0 : Int32)), (5, .int q6), (4, .ref (70 + 2 * ix v1)), (0, .ref 0), (1, .int v1), (2, .int v2), (3, .int v3)]) dX9_judge_51 (by decide) rfl ?_
        exact r_pick [3, 6, 2, 0] rfl (t_X9_judge_53 S T U V v3 (70 + 2 * ix v1) (isH_70 h5) fu (0 : Int32))
      · refine r_iload dX9_judge_47 0 rfl ?_
        exact r_ireturn (ty := .int) dX9_judge_49 rfl (nar_i _) rfl
