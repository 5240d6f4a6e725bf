def f_X6_byteOf (v0 : Int64) (v2 : Int32) : Option (Int32) :=
  some ((((v0.toUInt64 >>> (((8 : Int32) * v2).toInt64.toUInt64 &&& Int64.toUInt64 63)).toInt64) &&& (255 : Int64)).toInt32)
set_option maxHeartbeats 4000000 in
set_option maxRecDepth 100000 in
theorem m_X6_byteOf (S : SI) (T : SL) (U : SI) (V : SL) (v0 : Int64) (v2 : Int32) : Meth 1 yX6_byteOf cX6_byteOf 3 (some .int) [.long v0, .int v2] (S, T, U, V) (f_X6_byteOf v0 v2) (fun a : Int32 => (some (.int a), (S, T, U, V))) := by
  refine meth_of (L := [(0, .long v0), (2, .int v2)]) (by decide +kernel) (Nat.le_of_ble_eq_true rfl) rfl ?_
  rw [f_X6_byteOf]
  refine r_lload_n dX6_byteOf_0 0 rfl rfl ?_
  refine r_bipush (v := (8 : Int32)) dX6_byteOf_1 rfl ?_
  refine r_iload_n dX6_byteOf_3 1 rfl rfl ?_
  refine r_imul dX6_byteOf_4 ?_
  refine r_lushr dX6_byteOf_5 ?_
  refine r_ldc2_w (v := (255 : Int64)) dX6_byteOf_6 kw_X6_30 ?_
  refine r_land dX6_byteOf_9 ?_
  refine r_l2i dX6_byteOf_10 ?_
  exact r_ireturn (ty := .int) dX6_byteOf_11 rfl (nar_i _) rfl
def f_X6_append_16 (S : SI) (v1 : Int64) (v3 : Int32) (ke52 : Option (Int32 × SI)) : Nat → Int32 → Option (Int32 × SI)
  | 0, _ => none
  | m_ + 1, v4 =>
    if v3 ≤ v4 then
      ke52
    else
      (f_X6_byteOf v1 v4).bind fun q4 =>
      if q4 < (32 : Int32) then
        some ((-1 : Int32), S)
      else
        if q4 ≤ (126 : Int32) then
          (f_X6_append_16 S v1 v3 ke52 m_) (v4 + (1 : Int32))
        else
          some ((-1 : Int32), S)
set_option maxHeartbeats 4000000 in
set_option maxRecDepth 100000 in
theorem t_X6_append_16 (S : SI) (T : SL) (U : SI) (V : SL) (v1 : Int64) (v3 : Int32) (ke52 : Option (Int32 × SI)) (hke52 : Run 2 yX6_append cX6_append 6 (some .int) none (fun a : Int32 × SI => (some (.int a.1), (a.2, T, U, V))) 52 [(0, .ref 41), (1, .long v1), (3, .int v3)] [] (S, T, U, V) (ke52)) : ∀ (m_ : Nat) (v4 : Int32), Run 2 yX6_append cX6_append 6 (some .int) none (fun a : Int32 × SI => (some (.int a.1), (a.2, T, U, V))) 16 [(0, .ref 41), (1, .long v1), (3, .int v3), (4, .int v4)] [] (S, T, U, V) (f_X6_append_16 S v1 v3 ke52 m_ v4) := by
  intro m_
  induction m_ with
  | zero =>
    intro v4
    rw [f_X6_append_16]
    exact r_none
  | succ m_ ih =>
    intro v4
    rw [f_X6_append_16]
    refine r_iload dX6_append_16 3 rfl ?_
    refine r_iload_n dX6_append_18 2 rfl rfl ?_
    refine r_icmp_ge (tgt := 52) dX6_append_19 (by decide) (fun h3 => ?_) (fun h3 => ?_)
    · exact r_pick [0, 1, 2] rfl (hke52)
    · refine r_lload_n dX6_append_22 1 rfl rfl ?_
      refine r_iload dX6_append_23 3 rfl ?_
      refine rS_i (as := [.long v1, .int v4]) (st := []) dX6_append_25 cl_X6_22 (m_X6_byteOf S T U V v1 v4) (by decide) rfl (Nat.le_of_ble_eq_true rfl) (fun q4 _ => ?_)
      refine r_istore (L' := [(5, .int q4), (0, .ref 41), (1, .long v1), (3, .int v3), (4, .int v4)]) dX6_append_28 (by decide) rfl ?_
      refine r_iload dX6_append_30 0 rfl ?_
      refine r_bipush (v := (32 : Int32)) dX6_append_32 rfl ?_
      refine r_icmp_lt (tgt := 44) dX6_append_34 (by decide) (fun h5 => ?_) (fun h5 => ?_)
      · refine r_iconst (v := (-1 : Int32)) dX6_append_44 rfl ?_
        exact r_ireturn (ty := .int) dX6_append_45 rfl (nar_i _) rfl
      · refine r_iload dX6_append_37 0 rfl ?_
        refine r_bipush (v := (126 : Int32)) dX6_append_39 rfl ?_
        refine r_icmp_le (tgt := 46) dX6_append_41 (by decide) (fun h6 => ?_) (fun h6 => ?_)
        · refine r_iinc (v := v4 + (1 : Int32)) (L' := [(4, .int (v4 + (1 : Int32))), (5, .int q4), (0, .ref 41), (1, .long v1), (3, .int v3)]) dX6_append_46 4 rfl rfl (by decide) rfl ?_
          refine r_goto (tgt := 16) dX6_append_49 (by decide) ?_
          exact r_pick [2, 3, 4, 0] rfl (ih (v4 + (1 : Int32)))
        · refine r_iconst (v := (-1 : Int32)) dX6_append_44 rfl ?_
          exact r_ireturn (ty := .int) dX6_append_45 rfl (nar_i _) rfl
def f_X6_append_71 (v1 : Int64) : Nat → Int32 → SI → Option (Int32 × SI)
  | 0, _, _ => none
  | m_ + 1, v4, S =>
    if v4 < 0 then
      some (S 41 1, S)
    else
      (f_X6_byteOf v1 v4).bind fun q10 =>
      gd (inB (S 41 1) 80) <|
      nm (up2 S 42 (ix (S 41 1)) q10) fun S12 =>
      nm (up2 S12 41 1 ((S12 41 1) + (1 : Int32))) fun S13 =>
      (f_X6_append_71 v1 m_) (v4 + (-1 : Int32)) S13
set_option maxHeartbeats 4000000 in
set_option maxRecDepth 100000 in
theorem t_X6_append_71 (T : SL) (U : SI) (V : SL) (v1 : Int64) : ∀ (m_ : Nat) (v4 : Int32) (S : SI), Run 2 yX6_append cX6_append 6 (some .int) none (fun a : Int32 × SI => (some (.int a.1), (a.2, T, U, V))) 71 [(0, .ref 41), (1, .long v1), (4, .int v4)] [] (S, T, U, V) (f_X6_append_71 v1 m_ v4 S) := by
  intro m_
  induction m_ with
  | zero =>
    intro v4 S
    rw [f_X6_append_71]
    exact r_none
  | succ m_ ih =>
    intro v4 S
    rw [f_X6_append_71]
    refine r_iload dX6_append_71 2 rfl ?_
    refine r_if_lt (tgt := 107) dX6_append_73 (by decide) (fun h9 => ?_) (fun h9 => ?_)
    · refine r_aload_n dX6_append_107 0 rfl rfl ?_
      refine rc_geti dX6_append_108 fl_X6_26 (by decide) (by decide) rfl rfl ?_
      exact r_ireturn (ty := .int) dX6_append_111 rfl (nar_i _) rfl
    · refine r_aload_n dX6_append_76 0 rfl rfl ?_
      refine r_getr dX6_append_77 fl_X6_11 (by decide) rfl rfl (by decide) ?_
      refine r_aload_n dX6_append_80 0 rfl rfl ?_
      refine rc_geti dX6_append_81 fl_X6_26 (by decide) (by decide) rfl rfl ?_
      refine r_lload_n dX6_append_84 1 rfl rfl ?_
      refine r_iload dX6_append_85 2 rfl ?_
      refine rS_i (as := [.long v1, .int v4]) (st := [.int (S 41 1), .ref 42]) dX6_append_87 cl_X6_22 (m_X6_byteOf S T U V v1 v4) (by decide) rfl (Nat.le_of_ble_eq_true rfl) (fun q10 _ => ?_)
      refine rc_iast dX6_append_90 (by decide) (by decide) rfl (fun h11 => ?_)
      refine r_nmS (fun S12 => ?_)
      refine r_aload_n dX6_append_91 0 rfl rfl ?_
      refine r_dup dX6_append_92 rfl ?_
      refine rc_geti dX6_append_93 fl_X6_26 (by decide) (by decide) rfl rfl ?_
      refine r_iconst (v := (1 : Int32)) dX6_append_96 rfl ?_
      refine r_iadd dX6_append_97 ?_
      refine rc_puti (ty := .int) dX6_append_98 fp_X6_26 (nar_i _) (fit_i _) (by decide) (by decide) rfl rfl ?_
      refine r_nmS (fun S13 => ?_)
      refine r_iinc (v := v4 + (-1 : Int32)) (L' := [(4, .int (v4 + (-1 : Int32))), (0, .ref 41), (1, .long v1)]) dX6_append_101 2 rfl rfl (by decide) rfl ?_
      refine r_goto (tgt := 71) dX6_append_104 (by decide) ?_
      exact r_pick [1, 2, 0] rfl (ih (v4 + (-1 : Int32)) S13)
def f_X6_append_52 (S : SI) (v1 : Int64) (v3 : Int32) : Option (Int32 × SI) :=
  if ((S 41 1) + v3) ≤ (80 : Int32) then
    nm (v3 - (1 : Int32)) fun x8 =>
    f_X6_append_71 v1 fu x8 S
  else
    some ((-3 : Int32), S)
set_option maxHeartbeats 4000000 in
set_option maxRecDepth 100000 in
theorem t_X6_append_52 (S : SI) (T : SL) (U : SI) (V : SL) (v1 : Int64) (v3 : Int32) : Run 2 yX6_append cX6_append 6 (some .int) none (fun a : Int32 × SI => (some (.int a.1), (a.2, T, U, V))) 52 [(0, .ref 41), (1, .long v1), (3, .int v3)] [] (S, T, U, V) (f_X6_append_52 S v1 v3) := by
  rw [f_X6_append_52]
  refine r_aload_n dX6_append_52 0 rfl rfl ?_
  refine rc_geti dX6_append_53 fl_X6_26 (by decide) (by decide) rfl rfl ?_
  refine r_iload_n dX6_append_56 2 rfl rfl ?_
  refine r_iadd dX6_append_57 ?_
  refine r_bipush (v := (80 : Int32)) dX6_append_58 rfl ?_
  refine r_icmp_le (tgt := 66) dX6_append_60 (by decide) (fun h7 => ?_) (fun h7 => ?_)
  · refine r_iload_n dX6_append_66 2 rfl rfl ?_
    refine r_iconst (v := (1 : Int32)) dX6_append_67 rfl ?_
    refine r_isub dX6_append_68 ?_
    refine r_nmi (fun x8 => ?_)
    refine r_istore (L' := [(4, .int x8), (0, .ref 41), (1, .long v1), (3, .int v3)]) dX6_append_69 (by decide) rfl ?_
    exact r_pick [1, 2, 0] rfl (t_X6_append_71 T U V v1 fu x8 S)
  · refine r_bipush (v := (-3 : Int32)) dX6_append_63 rfl ?_
    exact r_ireturn (ty := .int) dX6_append_65 rfl (nar_i _) rfl
def f_X6_append (S : SI) (v1 : Int64) (v3 : Int32) : Option (Int32 × SI) :=
  if v3 < (1 : Int32) then
    some ((-1 : Int32), S)
  else
    if v3 ≤ (8 : Int32) then
      f_X6_append_16 S v1 v3 (f_X6_append_52 S v1 v3) fu (0 : Int32)
    else
      some ((-1 : Int32), S)
set_option maxHeartbeats 4000000 in
set_option maxRecDepth 100000 in
theorem m_X6_append (S : SI) (T : SL) (U : SI) (V : SL) (v1 : Int64) (v3 : Int32) : Meth 2 yX6_append cX6_append 6 (some .int) [.ref 41, .long v1, .int v3] (S, T, U, V) (f_X6_append S v1 v3) (fun a : Int32 × SI => (some (.int a.1), (a.2, T, U, V))) := by
  refine meth_of (L := [(0, .ref 41), (1, .long v1), (3, .int v3)]) (by decide +kernel) (Nat.le_of_ble_eq_true rfl) rfl ?_
  rw [f_X6_append]
  refine r_iload_n dX6_append_0 2 rfl rfl ?_
  refine r_iconst (v := (1 : Int32)) dX6_append_1 rfl ?_
  refine r_icmp_lt (tgt := 11) dX6_append_2 (by decide) (fun h1 => ?_) (fun h1 => ?_)
  · refine r_iconst (v := (-1 : Int32)) dX6_append_11 rfl ?_
    exact r_ireturn (ty := .int) dX6_append_12 rfl (nar_i _) rfl
  · refine r_iload_n dX6_append_5 2 rfl rfl ?_
    refine r_bipush (v := (8 : Int32)) dX6_append_6 rfl ?_
    refine r_icmp_le (tgt := 13) dX6_append_8 (by decide) (fun h2 => ?_) (fun h2 => ?_)
    · refine r_iconst (v := (0 : Int32)) dX6_append_13 rfl ?_
      refine r_istore (L' := [(4, .int (0 : Int32)), (0, .ref 41), (1, .long v1), (3, .int v3)]) dX6_append_14 (by decide) rfl ?_
      exact r_pick [1, 2, 3, 0] rfl (t_X6_append_16 S T U V v1 v3 (f_X6_append_52 S v1 v3) (r_pick [0, 1, 2] rfl (t_X6_append_52 S T U V v1 v3)) fu (0 : Int32))
    · refine r_iconst (v := (-1 : Int32)) dX6_append_11 rfl ?_
      exact r_ireturn (ty := .int) dX6_append_12 rfl (nar_i _) rfl
def f_X6_nextSign_0 (ke38 : SI → Option (Int32 × SI)) : Nat → SI → Option (Int32 × SI)
  | 0, _ => none
  | m_ + 1, S =>
    if (S 41 1) ≤ (S 41 2) then
      ke38 S
    else
      gd (inB (S 41 2) 80) <|
      if (S 42 (ix (S 41 2))) = (32 : Int32) then
        nm (up2 S 41 2 ((S 41 2) + (1 : Int32))) fun S4 =>
        (f_X6_nextSign_0 ke38 m_) S4
      else
        ke38 S
set_option maxHeartbeats 4000000 in
set_option maxRecDepth 100000 in
theorem t_X6_nextSign_0 (T : SL) (U : SI) (V : SL) (ke38 : SI → Option (Int32 × SI)) (hke38 : ∀ (S' : SI), Run 1 yX6_nextSign cX6_nextSign 1 (some .int) none (fun a : Int32 × SI => (some (.int a.1), (a.2, T, U, V))) 38 [(0, .ref 41)] [] (S', T, U, V) (ke38 S')) : ∀ (m_ : Nat) (S : SI), Run 1 yX6_nextSign cX6_nextSign 1 (some .int) none (fun a : Int32 × SI => (some (.int a.1), (a.2, T, U, V))) 0 [(0, .ref 41)] [] (S, T, U, V) (f_X6_nextSign_0 ke38 m_ S) := by
  intro m_
  induction m_ with
  | zero =>
    intro S
    rw [f_X6_nextSign_0]
    exact r_none
  | succ m_ ih =>
    intro S
    rw [f_X6_nextSign_0]
    refine r_aload_n dX6_nextSign_0 0 rfl rfl ?_
    refine rc_geti dX6_nextSign_1 fl_X6_32 (by decide) (by decide) rfl rfl ?_
    refine r_aload_n dX6_nextSign_4 0 rfl rfl ?_
    refine rc_geti dX6_nextSign_5 fl_X6_26 (by decide) (by decide) rfl rfl ?_
    refine r_icmp_ge (tgt := 38) dX6_nextSign_8 (by decide) (fun h1 => ?_) (fun h1 => ?_)
    · exact r_pick [0] rfl (hke38 S)
    · refine r_aload_n dX6_nextSign_11 0 rfl rfl ?_
      refine r_getr dX6_nextSign_12 fl_X6_11 (by decide) rfl rfl (by decide) ?_
      refine r_aload_n dX6_nextSign_15 0 rfl rfl ?_
      refine rc_geti dX6_nextSign_16 fl_X6_32 (by decide) (by decide) rfl rfl ?_
      refine rc_iald dX6_nextSign_19 (by decide) (by decide) rfl (fun h2 => ?_)
      refine r_bipush (v := (32 : Int32)) dX6_nextSign_20 rfl ?_
      refine r_icmp_ne (tgt := 38) dX6_nextSign_22 (by decide) (fun h3 => ?_) (fun h3 => ?_)
      · refine r_aload_n dX6_nextSign_25 0 rfl rfl ?_
        refine r_dup dX6_nextSign_26 rfl ?_
        refine rc_geti dX6_nextSign_27 fl_X6_32 (by decide) (by decide) rfl rfl ?_
        refine r_iconst (v := (1 : Int32)) dX6_nextSign_30 rfl ?_
        refine r_iadd dX6_nextSign_31 ?_
        refine rc_puti (ty := .int) dX6_nextSign_32 fp_X6_32 (nar_i _) (fit_i _) (by decide) (by decide) rfl rfl ?_
        refine r_nmS (fun S4 => ?_)
        refine r_goto (tgt := 0) dX6_nextSign_35 (by decide) ?_
        exact r_pick [0] rfl (ih S4)
      · exact r_pick [0] rfl (hke38 S)
def f_X6_nextSign_38 (S : SI) : Option (Int32 × SI) :=
  if (S 41 1) ≤ (S 41 2) then
    some ((-1 : Int32), S)
  else
    gd (inB (S 41 2) 80) <|
    some (S 42 (ix (S 41 2)), S)
set_option maxHeartbeats 4000000 in
set_option maxRecDepth 100000 in
theorem t_X6_nextSign_38 (S : SI) (T : SL) (U : SI) (V : SL) : Run 1 yX6_nextSign cX6_nextSign 1 (some .int) none (fun a : Int32 × SI => (some (.int a.1), (a.2, T, U, V))) 38 [(0, .ref 41)] [] (S, T, U, V) (f_X6_nextSign_38 S) := by
  rw [f_X6_nextSign_38]
  refine r_aload_n dX6_nextSign_38 0 rfl rfl ?_
  refine rc_geti dX6_nextSign_39 fl_X6_32 (by decide) (by decide) rfl rfl ?_
  refine r_aload_n dX6_nextSign_42 0 rfl rfl ?_
  refine rc_geti dX6_nextSign_43 fl_X6_26 (by decide) (by decide) rfl rfl ?_
  refine r_icmp_ge (tgt := 61) dX6_nextSign_46 (by decide) (fun h5 => ?_) (fun h5 => ?_)
  · refine r_iconst (v := (-1 : Int32)) dX6_nextSign_61 rfl ?_
    exact r_ireturn (ty := .int) dX6_nextSign_62 rfl (nar_i _) rfl
  · refine r_aload_n dX6_nextSign_49 0 rfl rfl ?_
    refine r_getr dX6_nextSign_50 fl_X6_11 (by decide) rfl rfl (by decide) ?_
    refine r_aload_n dX6_nextSign_53 0 rfl rfl ?_
    refine rc_geti dX6_nextSign_54 fl_X6_32 (by decide) (by decide) rfl rfl ?_
    refine rc_iald dX6_nextSign_57 (by decide) (by decide) rfl (fun h6 => ?_)
    refine r_goto (tgt := 62) dX6_nextSign_58 (by decide) ?_
    exact r_ireturn (ty := .int) dX6_nextSign_62 rfl (nar_i _) rfl
def f_X6_nextSign (S : SI) : Option (Int32 × SI) :=
  f_X6_nextSign_0 (fun So => f_X6_nextSign_38 So) fu S
set_option maxHeartbeats 4000000 in
set_option maxRecDepth 100000 in
theorem m_X6_nextSign (S : SI) (T : SL) (U : SI) (V : SL)  : Meth 1 yX6_nextSign cX6_nextSign 1 (some .int) [.ref 41] (S, T, U, V) (f_X6_nextSign S) (fun a : Int32 × SI => (some (.int a.1), (a.2, T, U, V))) := by
  refine meth_of (L := [(0, .ref 41)]) (by decide +kernel) (Nat.le_of_ble_eq_true rfl) rfl ?_
  rw [f_X6_nextSign]
  exact r_pick [0] rfl (t_X6_nextSign_0 T U V (fun So => f_X6_nextSign_38 So) (fun So => r_pick [0] rfl (t_X6_nextSign_38 So T U V)) fu S)
def f_X6_skipSign (S : SI) (v1 : Int32) : Option (Int32 × SI) :=
  (f_X6_nextSign S).bind fun q1 =>
  if q1.1 = v1 then
    nm (up2 q1.2 41 2 ((q1.2 41 2) + (1 : Int32))) fun S3 =>
    some ((1 : Int32), S3)
  else
    some ((0 : Int32), q1.2)
set_option maxHeartbeats 4000000 in
set_option maxRecDepth 100000 in
theorem m_X6_skipSign (S : SI) (T : SL) (U : SI) (V : SL) (v1 : Int32) : Meth 2 yX6_skipSign cX6_skipSign 2 (some .boolean) [.ref 41, .int v1] (S, T, U, V) (f_X6_skipSign S v1) (fun a : Int32 × SI => (some (.int a.1), (a.2, T, U, V))) := by
  refine meth_of (L := [(0, .ref 41), (1, .int v1)]) (by decide +kernel) (Nat.le_of_ble_eq_true rfl) rfl ?_
  rw [f_X6_skipSign]
  refine r_aload_n dX6_skipSign_0 0 rfl rfl ?_
  refine rVc_iS (as := []) (st := []) dX6_skipSign_1 cl_X6_39 (by decide) rfl rfl (m_X6_nextSign S T U V) (by decide) rfl (Nat.le_of_ble_eq_true rfl) (fun q1 _ => ?_)
  refine r_iload_n dX6_skipSign_4 1 rfl rfl ?_
  refine r_icmp_eq (tgt := 10) dX6_skipSign_5 (by decide) (fun h2 => ?_) (fun h2 => ?_)
  · refine r_aload_n dX6_skipSign_10 0 rfl rfl ?_
    refine r_dup dX6_skipSign_11 rfl ?_
    refine rc_geti dX6_skipSign_12 fl_X6_32 (by decide) (by decide) rfl rfl ?_
    refine r_iconst (v := (1 : Int32)) dX6_skipSign_15 rfl ?_
    refine r_iadd dX6_skipSign_16 ?_
    refine rc_puti (ty := .int) dX6_skipSign_17 fp_X6_32 (nar_i _) (fit_i _) (by decide) (by decide) rfl rfl ?_
    refine r_nmS (fun S3 => ?_)
    refine r_iconst (v := (1 : Int32)) dX6_skipSign_20 rfl ?_
    exact r_ireturn (ty := .boolean) dX6_skipSign_21 rfl rfl rfl
  · refine r_iconst (v := (0 : Int32)) dX6_skipSign_8 rfl ?_
    exact r_ireturn (ty := .boolean) dX6_skipSign_9 rfl rfl rfl
def f_X6_readHand (S : SI) : Option (Int32 × SI) :=
  (f_X6_skipSign S (108 : Int32)).bind fun q1 =>
  if q1.1 = 0 then
    (f_X6_skipSign q1.2 (114 : Int32)).bind fun q3 =>
    if q3.1 = 0 then
      some ((-20 : Int32) - (q3.2 41 2), q3.2)
    else
      some ((1 : Int32), q3.2)
  else
    some ((0 : Int32), q1.2)
set_option maxHeartbeats 4000000 in
set_option maxRecDepth 100000 in
theorem m_X6_readHand (S : SI) (T : SL) (U : SI) (V : SL)  : Meth 3 yX6_readHand cX6_readHand 1 (some .int) [.ref 41] (S, T, U, V) (f_X6_readHand S) (fun a : Int32 × SI => (some (.int a.1), (a.2, T, U, V))) := by
  refine meth_of (L := [(0, .ref 41)]) (by decide +kernel) (Nat.le_of_ble_eq_true rfl) rfl ?_
  rw [f_X6_readHand]
  refine r_aload_n dX6_readHand_0 0 rfl rfl ?_
  refine r_bipush (v := (108 : Int32)) dX6_readHand_1 rfl ?_
  refine rVc_iS (as := [.int (108 : Int32)]) (st := []) dX6_readHand_3 cl_X6_53 (by decide) rfl rfl (m_X6_skipSign S T U V (108 : Int32)) (by decide) rfl (Nat.le_of_ble_eq_true rfl) (fun q1 _ => ?_)
  refine r_if_eq (tgt := 11) dX6_readHand_6 (by decide) (fun h2 => ?_) (fun h2 => ?_)
  · refine r_aload_n dX6_readHand_11 0 rfl rfl ?_
    refine r_bipush (v := (114 : Int32)) dX6_readHand_12 rfl ?_
    refine rVc_iS (as := [.int (114 : Int32)]) (st := []) dX6_readHand_14 cl_X6_53 (by decide) rfl rfl (m_X6_skipSign q1.2 T U V (114 : Int32)) (by decide) rfl (Nat.le_of_ble_eq_true rfl) (fun q3 _ => ?_)
    refine r_if_eq (tgt := 24) dX6_readHand_17 (by decide) (fun h4 => ?_) (fun h4 => ?_)
    · refine r_bipush (v := (-20 : Int32)) dX6_readHand_24 rfl ?_
      refine r_aload_n dX6_readHand_26 0 rfl rfl ?_
      refine rc_geti dX6_readHand_27 fl_X6_32 (by decide) (by decide) rfl rfl ?_
      refine r_isub dX6_readHand_30 ?_
      exact r_ireturn (ty := .int) dX6_readHand_31 rfl (nar_i _) rfl
    · refine r_iconst (v := (1 : Int32)) dX6_readHand_20 rfl ?_
      refine r_goto (tgt := 31) dX6_readHand_21 (by decide) ?_
      exact r_ireturn (ty := .int) dX6_readHand_31 rfl (nar_i _) rfl
  · refine r_iconst (v := (0 : Int32)) dX6_readHand_9 rfl ?_
    exact r_ireturn (ty := .int) dX6_readHand_10 rfl (nar_i _) rfl
def f_X6_readKind (S : SI) : Option (Int32 × SI) :=
  (f_X6_nextSign S).bind fun q1 =>
  if q1.1 < (97 : Int32) then
    some ((-20 : Int32) - (q1.2 41 2), q1.2)
  else
    if q1.1 ≤ (102 : Int32) then
      nm (up2 q1.2 41 2 ((q1.2 41 2) + (1 : Int32))) fun S4 =>
      some (q1.1 - (97 : Int32), S4)
    else
      some ((-20 : Int32) - (q1.2 41 2), q1.2)
set_option maxHeartbeats 4000000 in
set_option maxRecDepth 100000 in
theorem m_X6_readKind (S : SI) (T : SL) (U : SI) (V : SL)  : Meth 2 yX6_readKind cX6_readKind 2 (some .int) [.ref 41] (S, T, U, V) (f_X6_readKind S) (fun a : Int32 × SI => (some (.int a.1), (a.2, T, U, V))) := by
  refine meth_of (L := [(0, .ref 41)]) (by decide +kernel) (Nat.le_of_ble_eq_true rfl) rfl ?_
  rw [f_X6_readKind]
  refine r_aload_n dX6_readKind_0 0 rfl rfl ?_
  refine rVc_iS (as := []) (st := []) dX6_readKind_1 cl_X6_39 (by decide) rfl rfl (m_X6_nextSign S T U V) (by decide) rfl (Nat.le_of_ble_eq_true rfl) (fun q1 _ => ?_)
  refine r_istore_n (L' := [(1, .int q1.1), (0, .ref 41)]) dX6_readKind_4 rfl (by decide) rfl ?_
  refine r_iload_n dX6_readKind_5 0 rfl rfl ?_
  refine r_bipush (v := (97 : Int32)) dX6_readKind_6 rfl ?_
  refine r_icmp_lt (tgt := 17) dX6_readKind_8 (by decide) (fun h2 => ?_) (fun h2 => ?_)
  · refine r_bipush (v := (-20 : Int32)) dX6_readKind_17 rfl ?_
    refine r_aload_n dX6_readKind_19 1 rfl rfl ?_
    refine rc_geti dX6_readKind_20 fl_X6_32 (by decide) (by decide) rfl rfl ?_
    refine r_isub dX6_readKind_23 ?_
    exact r_ireturn (ty := .int) dX6_readKind_24 rfl (nar_i _) rfl
  · refine r_iload_n dX6_readKind_11 0 rfl rfl ?_
    refine r_bipush (v := (102 : Int32)) dX6_readKind_12 rfl ?_
    refine r_icmp_le (tgt := 25) dX6_readKind_14 (by decide) (fun h3 => ?_) (fun h3 => ?_)
    · refine r_aload_n dX6_readKind_25 1 rfl rfl ?_
      refine r_dup dX6_readKind_26 rfl ?_
      refine rc_geti dX6_readKind_27 fl_X6_32 (by decide) (by decide) rfl rfl ?_
      refine r_iconst (v := (1 : Int32)) dX6_readKind_30 rfl ?_
      refine r_iadd dX6_readKind_31 ?_
      refine rc_puti (ty := .int) dX6_readKind_32 fp_X6_32 (nar_i _) (fit_i _) (by decide) (by decide) rfl rfl ?_
      refine r_nmS (fun S4 => ?_)
      refine r_iload_n dX6_readKind_35 0 rfl rfl ?_
      refine r_bipush (v := (97 : Int32)) dX6_readKind_36 rfl ?_
      refine r_isub dX6_readKind_38 ?_
      exact r_ireturn (ty := .int) dX6_readKind_39 rfl (nar_i _) rfl
    · refine r_bipush (v := (-20 : Int32)) dX6_readKind_17 rfl ?_
      refine r_aload_n dX6_readKind_19 1 rfl rfl ?_
      refine rc_geti dX6_readKind_20 fl_X6_32 (by decide) (by decide) rfl rfl ?_
      refine r_isub dX6_readKind_23 ?_
      exact r_ireturn (ty := .int) dX6_readKind_24 rfl (nar_i _) rfl
def f_X6_readLodgers_4 (ke26 : Int32 → SI → Option (Int32 × SI)) (ke72 : Int32 → SI → Option (Int32 × SI)) : Nat → Int32 → Int32 → SI → Option (Int32 × SI)
  | 0, _, _, _ => none
  | m_ + 1, v1, v2, S =>
    if (3 : Int32) < v2 then
      ke72 v1 S
    else
      (f_X6_nextSign S).bind fun q2 =>
      if q2.1 < (120 : Int32) then
        ke72 v1 q2.2
      else
        if q2.1 ≤ (122 : Int32) then
          nm ((1 : Int32) <<< ((q2.1 - (120 : Int32)) &&& 31)) fun x5 =>
          if v1 < x5 then
            nm (v1 ||| x5) fun x7 =>
            nm (up2 q2.2 41 2 ((q2.2 41 2) + (1 : Int32))) fun S8 =>
            (f_X6_readLodgers_4 ke26 ke72 m_) x7 (v2 + (1 : Int32)) S8
          else
            some ((-20 : Int32) - (q2.2 41 2), q2.2)
        else
          ke26 v1 q2.2
set_option maxHeartbeats 4000000 in
set_option maxRecDepth 100000 in
theorem t_X6_readLodgers_4 (T : SL) (U : SI) (V : SL) (ke26 : Int32 → SI → Option (Int32 × SI)) (hke26 : ∀ (w1 : Int32) (S' : SI), Run 2 yX6_readLodgers cX6_readLodgers 5 (some .int) none (fun a : Int32 × SI => (some (.int a.1), (a.2, T, U, V))) 26 [(0, .ref 41), (1, .int w1)] [] (S', T, U, V) (ke26 w1 S')) (ke72 : Int32 → SI → Option (Int32 × SI)) (hke72 : ∀ (w1 : Int32) (S' : SI), Run 2 yX6_readLodgers cX6_readLodgers 5 (some .int) none (fun a : Int32 × SI => (some (.int a.1), (a.2, T, U, V))) 72 [(0, .ref 41), (1, .int w1)] [] (S', T, U, V) (ke72 w1 S')) : ∀ (m_ : Nat) (v1 : Int32) (v2 : Int32) (S : SI), Run 2 yX6_readLodgers cX6_readLodgers 5 (some .int) none (fun a : Int32 × SI => (some (.int a.1), (a.2, T, U, V))) 4 [(0, .ref 41), (1, .int v1), (2, .int v2)] [] (S, T, U, V) (f_X6_readLodgers_4 ke26 ke72 m_ v1 v2 S) := by
  intro m_
  induction m_ with
  | zero =>
    intro v1 v2 S
    rw [f_X6_readLodgers_4]
    exact r_none
  | succ m_ ih =>
    intro v1 v2 S
    rw [f_X6_readLodgers_4]
    refine r_iload_n dX6_readLodgers_4 2 rfl rfl ?_
    refine r_iconst (v := (3 : Int32)) dX6_readLodgers_5 rfl ?_
    refine r_icmp_gt (tgt := 72) dX6_readLodgers_6 (by decide) (fun h1 => ?_) (fun h1 => ?_)
    · exact r_pick [0, 1] rfl (hke72 v1 S)
    · refine r_aload_n dX6_readLodgers_9 0 rfl rfl ?_
      refine rVc_iS (as := []) (st := []) dX6_readLodgers_10 cl_X6_39 (by decide) rfl rfl (m_X6_nextSign S T U V) (by decide) rfl (Nat.le_of_ble_eq_true rfl) (fun q2 _ => ?_)
      refine r_istore_n (L' := [(3, .int q2.1), (0, .ref 41), (1, .int v1), (2, .int v2)]) dX6_readLodgers_13 rfl (by decide) rfl ?_
      refine r_iload_n dX6_readLodgers_14 0 rfl rfl ?_
      refine r_bipush (v := (120 : Int32)) dX6_readLodgers_15 rfl ?_
      refine r_icmp_lt (tgt := 72) dX6_readLodgers_17 (by decide) (fun h3 => ?_) (fun h3 => ?_)
      · exact r_pick [1, 2] rfl (hke72 v1 q2.2)
      · refine r_iload_n dX6_readLodgers_20 0 rfl rfl ?_
        refine r_bipush (v := (122 : Int32)) dX6_readLodgers_21 rfl ?_
        refine r_icmp_le (tgt := 29) dX6_readLodgers_23 (by decide) (fun h4 => ?_) (fun h4 => ?_)
        · refine r_iconst (v := (1 : Int32)) dX6_readLodgers_29 rfl ?_
          refine r_iload_n dX6_readLodgers_30 0 rfl rfl ?_
          refine r_bipush (v := (120 : Int32)) dX6_readLodgers_31 rfl ?_
          refine r_isub dX6_readLodgers_33 ?_
          refine r_ishl dX6_readLodgers_34 ?_
          refine r_nmi (fun x5 => ?_)
          refine r_istore (L' := [(4, .int x5), (3, .int q2.1), (0, .ref 41), (1, .int v1), (2, .int v2)]) dX6_readLodgers_35 (by decide) rfl ?_
          refine r_iload dX6_readLodgers_37 0 rfl ?_
          refine r_iload_n dX6_readLodgers_39 3 rfl rfl ?_
          refine r_icmp_gt (tgt := 51) dX6_readLodgers_40 (by decide) (fun h6 => ?_) (fun h6 => ?_)
          · refine r_iload_n dX6_readLodgers_51 3 rfl rfl ?_
            refine r_iload dX6_readLodgers_52 0 rfl ?_
            refine r_ior dX6_readLodgers_54 ?_
            refine r_nmi (fun x7 => ?_)
            refine r_istore_n (L' := [(1, .int x7), (4, .int x5), (3, .int q2.1), (0, .ref 41), (2, .int v2)]) dX6_readLodgers_55 rfl (by decide) rfl ?_
            refine r_aload_n dX6_readLodgers_56 3 rfl rfl ?_
            refine r_dup dX6_readLodgers_57 rfl ?_
            refine rc_geti dX6_readLodgers_58 fl_X6_32 (by decide) (by decide) rfl rfl ?_
            refine r_iconst (v := (1 : Int32)) dX6_readLodgers_61 rfl ?_
            refine r_iadd dX6_readLodgers_62 ?_
            refine rc_puti (ty := .int) dX6_readLodgers_63 fp_X6_32 (nar_i _) (fit_i _) (by decide) (by decide) rfl rfl ?_
            refine r_nmS (fun S8 => ?_)
            refine r_iinc (v := v2 + (1 : Int32)) (L' := [(2, .int (v2 + (1 : Int32))), (1, .int x7), (4, .int x5), (3, .int q2.1), (0, .ref 41)]) dX6_readLodgers_66 4 rfl rfl (by decide) rfl ?_
            refine r_goto (tgt := 4) dX6_readLodgers_69 (by decide) ?_
            exact r_pick [4, 1, 0] rfl (ih x7 (v2 + (1 : Int32)) S8)
          · refine r_bipush (v := (-20 : Int32)) dX6_readLodgers_43 rfl ?_
            refine r_aload_n dX6_readLodgers_45 2 rfl rfl ?_
            refine rc_geti dX6_readLodgers_46 fl_X6_32 (by decide) (by decide) rfl rfl ?_
            refine r_isub dX6_readLodgers_49 ?_
            exact r_ireturn (ty := .int) dX6_readLodgers_50 rfl (nar_i _) rfl
        · exact r_pick [1, 2] rfl (hke26 v1 q2.2)
def f_X6_readLodgers_72 (S : SI) (v1 : Int32) : Option (Int32 × SI) :=
  if v1 = 0 then
    some ((-20 : Int32) - (S 41 2), S)
  else
    some (v1, S)
set_option maxHeartbeats 4000000 in
set_option maxRecDepth 100000 in
theorem t_X6_readLodgers_72 (S : SI) (T : SL) (U : SI) (V : SL) (v1 : Int32) : Run 2 yX6_readLodgers cX6_readLodgers 5 (some .int) none (fun a : Int32 × SI => (some (.int a.1), (a.2, T, U, V))) 72 [(0, .ref 41), (1, .int v1)] [] (S, T, U, V) (f_X6_readLodgers_72 S v1) := by
  rw [f_X6_readLodgers_72]
  refine r_iload_n dX6_readLodgers_72 1 rfl rfl ?_
  refine r_if_ne (tgt := 86) dX6_readLodgers_73 (by decide) (fun h9 => ?_) (fun h9 => ?_)
  · refine r_bipush (v := (-20 : Int32)) dX6_readLodgers_76 rfl ?_
    refine r_aload_n dX6_readLodgers_78 0 rfl rfl ?_
    refine rc_geti dX6_readLodgers_79 fl_X6_32 (by decide) (by decide) rfl rfl ?_
    refine r_isub dX6_readLodgers_82 ?_
    refine r_goto (tgt := 87) dX6_readLodgers_83 (by decide) ?_
    exact r_ireturn (ty := .int) dX6_readLodgers_87 rfl (nar_i _) rfl
  · refine r_iload_n dX6_readLodgers_86 1 rfl rfl ?_
    exact r_ireturn (ty := .int) dX6_readLodgers_87 rfl (nar_i _) rfl
def f_X6_readLodgers_26 (S : SI) (v1 : Int32) : Option (Int32 × SI) :=
  f_X6_readLodgers_72 S v1
set_option maxHeartbeats 4000000 in
set_option maxRecDepth 100000 in
theorem t_X6_readLodgers_26 (S : SI) (T : SL) (U : SI) (V : SL) (v1 : Int32) : Run 2 yX6_readLodgers cX6_readLodgers 5 (some .int) none (fun a : Int32 × SI => (some (.int a.1), (a.2, T, U, V))) 26 [(0, .ref 41), (1, .int v1)] [] (S, T, U, V) (f_X6_readLodgers_26 S v1) := by
  rw [f_X6_readLodgers_26]
  refine r_goto (tgt := 72) dX6_readLodgers_26 (by decide) ?_
  exact r_pick [0, 1] rfl (t_X6_readLodgers_72 S T U V v1)
def f_X6_readLodgers (S : SI) : Option (Int32 × SI) :=
  f_X6_readLodgers_4 (fun o1 So => f_X6_readLodgers_26 So o1) (fun o1 So => f_X6_readLodgers_72 So o1) fu (0 : Int32) (0 : Int32) S
set_option maxHeartbeats 4000000 in
set_option maxRecDepth 100000 in
theorem m_X6_readLodgers (S : SI) (T : SL) (U : SI) (V : SL)  : Meth 2 yX6_readLodgers cX6_readLodgers 5 (some .int) [.ref 41] (S, T, U, V) (f_X6_readLodgers S) (fun a : Int32 × SI => (some (.int a.1), (a.2, T, U, V))) := by
  refine meth_of (L := [(0, .ref 41)]) (by decide +kernel) (Nat.le_of_ble_eq_true rfl) rfl ?_
  rw [f_X6_readLodgers]
  refine r_iconst (v := (0 : Int32)) dX6_readLodgers_0 rfl ?_
  refine r_istore_n (L' := [(1, .int (0 : Int32)), (0, .ref 41)]) dX6_readLodgers_1 rfl (by decide) rfl ?_
  refine r_iconst (v := (0 : Int32)) dX6_readLodgers_2 rfl ?_
  refine r_istore_n (L' := [(2, .int (0 : Int32)), (1, .int (0 : Int32)), (0, .ref 41)]) dX6_readLodgers_3 rfl (by decide) rfl ?_
  exact r_pick [2, 1, 0] rfl (t_X6_readLodgers_4 T U V (fun o1 So => f_X6_readLodgers_26 So o1) (fun o1 So => r_pick [0, 1] rfl (t_X6_readLodgers_26 So T U V o1)) (fun o1 So => f_X6_readLodgers_72 So o1) (fun o1 So => r_pick [0, 1] rfl (t_X6_readLodgers_72 So T U V o1)) fu (0 : Int32) (0 : Int32) S)
def f_X6_readNumber_29 (ke106 : Int32 → SI → Option (Int32 × SI)) : Nat → Int32 → SI → Option (Int32 × SI)
  | 0, _, _ => none
  | m_ + 1, v4, S =>
    if (S 41 1) ≤ (S 41 2) then
      ke106 v4 S
    else
      gd (inB (S 41 2) 80) <|
      if (S 42 (ix (S 41 2))) < (48 : Int32) then
        ke106 v4 S
      else
        gd (inB (S 41 2) 80) <|
        if (57 : Int32) < (S 42 (ix (S 41 2))) then
          ke106 v4 S
        else
          gd (inB (S 41 2) 80) <|
          nm (mnI (100 : Int32) (((v4 * (10 : Int32)) + (S 42 (ix (S 41 2)))) - (48 : Int32))) fun x10 =>
          nm (up2 S 41 2 ((S 41 2) + (1 : Int32))) fun S11 =>
          (f_X6_readNumber_29 ke106 m_) x10 S11
set_option maxHeartbeats 4000000 in
set_option maxRecDepth 100000 in
theorem t_X6_readNumber_29 (T : SL) (U : SI) (V : SL) (v1 : Int32) (v3 : Int32) (ke106 : Int32 → SI → Option (Int32 × SI)) (hke106 : ∀ (w4 : Int32) (S' : SI), Run 2 yX6_readNumber cX6_readNumber 5 (some .int) none (fun a : Int32 × SI => (some (.int a.1), (a.2, T, U, V))) 106 [(1, .int v1), (3, .int v3), (4, .int w4)] [] (S', T, U, V) (ke106 w4 S')) : ∀ (m_ : Nat) (v4 : Int32) (S : SI), Run 2 yX6_readNumber cX6_readNumber 5 (some .int) none (fun a : Int32 × SI => (some (.int a.1), (a.2, T, U, V))) 29 [(0, .ref 41), (1, .int v1), (3, .int v3), (4, .int v4)] [] (S, T, U, V) (f_X6_readNumber_29 ke106 m_ v4 S) := by
  intro m_
  induction m_ with
  | zero =>
    intro v4 S
    rw [f_X6_readNumber_29]
    exact r_none
  | succ m_ ih =>
    intro v4 S
    rw [f_X6_readNumber_29]
    refine r_aload_n dX6_readNumber_29 0 rfl rfl ?_
    refine rc_geti dX6_readNumber_30 fl_X6_32 (by decide) (by decide) rfl rfl ?_
    refine r_aload_n dX6_readNumber_33 0 rfl rfl ?_
    refine rc_geti dX6_readNumber_34 fl_X6_26 (by decide) (by decide) rfl rfl ?_
    refine r_icmp_ge (tgt := 106) dX6_readNumber_37 (by decide) (fun h4 => ?_) (fun h4 => ?_)
    · exact r_pick [1, 2, 3] rfl (hke106 v4 S)
    · refine r_aload_n dX6_readNumber_40 0 rfl rfl ?_
      refine r_getr dX6_readNumber_41 fl_X6_11 (by decide) rfl rfl (by decide) ?_
      refine r_aload_n dX6_readNumber_44 0 rfl rfl ?_
      refine rc_geti dX6_readNumber_45 fl_X6_32 (by decide) (by decide) rfl rfl ?_
      refine rc_iald dX6_readNumber_48 (by decide) (by decide) rfl (fun h5 => ?_)
      refine r_bipush (v := (48 : Int32)) dX6_readNumber_49 rfl ?_
      refine r_icmp_lt (tgt := 106) dX6_readNumber_51 (by decide) (fun h6 => ?_) (fun h6 => ?_)
      · exact r_pick [1, 2, 3] rfl (hke106 v4 S)
      · refine r_aload_n dX6_readNumber_54 0 rfl rfl ?_
        refine r_getr dX6_readNumber_55 fl_X6_11 (by decide) rfl rfl (by decide) ?_
        refine r_aload_n dX6_readNumber_58 0 rfl rfl ?_
        refine rc_geti dX6_readNumber_59 fl_X6_32 (by decide) (by decide) rfl rfl ?_
        refine rc_iald dX6_readNumber_62 (by decide) (by decide) rfl (fun h7 => ?_)
        refine r_bipush (v := (57 : Int32)) dX6_readNumber_63 rfl ?_
        refine r_icmp_gt (tgt := 106) dX6_readNumber_65 (by decide) (fun h8 => ?_) (fun h8 => ?_)
        · exact r_pick [1, 2, 3] rfl (hke106 v4 S)
        · refine r_bipush (v := (100 : Int32)) dX6_readNumber_68 rfl ?_
          refine r_iload dX6_readNumber_70 3 rfl ?_
          refine r_bipush (v := (10 : Int32)) dX6_readNumber_72 rfl ?_
          refine r_imul dX6_readNumber_74 ?_
          refine r_aload_n dX6_readNumber_75 0 rfl rfl ?_
          refine r_getr dX6_readNumber_76 fl_X6_11 (by decide) rfl rfl (by decide) ?_
          refine r_aload_n dX6_readNumber_79 0 rfl rfl ?_
          refine rc_geti dX6_readNumber_80 fl_X6_32 (by decide) (by decide) rfl rfl ?_
          refine rc_iald dX6_readNumber_83 (by decide) (by decide) rfl (fun h9 => ?_)
          refine r_iadd dX6_readNumber_84 ?_
          refine r_bipush (v := (48 : Int32)) dX6_readNumber_85 rfl ?_
          refine r_isub dX6_readNumber_87 ?_
          refine r_mmin dX6_readNumber_88 cl_X6_64 (by decide) (Nat.le_of_ble_eq_true rfl) ?_
          refine r_nmi (fun x10 => ?_)
          refine r_istore (L' := [(4, .int x10), (0, .ref 41), (1, .int v1), (3, .int v3)]) dX6_readNumber_91 (by decide) rfl ?_
          refine r_aload_n dX6_readNumber_93 1 rfl rfl ?_
          refine r_dup dX6_readNumber_94 rfl ?_
          refine rc_geti dX6_readNumber_95 fl_X6_32 (by decide) (by decide) rfl rfl ?_
          refine r_iconst (v := (1 : Int32)) dX6_readNumber_98 rfl ?_
          refine r_iadd dX6_readNumber_99 ?_
          refine rc_puti (ty := .int) dX6_readNumber_100 fp_X6_32 (nar_i _) (fit_i _) (by decide) (by decide) rfl rfl ?_
          refine r_nmS (fun S11 => ?_)
          refine r_goto (tgt := 29) dX6_readNumber_103 (by decide) ?_
          exact r_pick [1, 2, 3, 0] rfl (ih x10 S11)
def f_X6_readNumber_119 (S : SI) (v3 : Int32) : Option (Int32 × SI) :=
  some ((-20 : Int32) - v3, S)
set_option maxHeartbeats 4000000 in
set_option maxRecDepth 100000 in
theorem t_X6_readNumber_119 (S : SI) (T : SL) (U : SI) (V : SL) (v3 : Int32) : Run 2 yX6_readNumber cX6_readNumber 5 (some .int) none (fun a : Int32 × SI => (some (.int a.1), (a.2, T, U, V))) 119 [(3, .int v3)] [] (S, T, U, V) (f_X6_readNumber_119 S v3) := by
  rw [f_X6_readNumber_119]
  refine r_bipush (v := (-20 : Int32)) dX6_readNumber_119 rfl ?_
  refine r_iload_n dX6_readNumber_121 0 rfl rfl ?_
  refine r_isub dX6_readNumber_122 ?_
  refine r_goto (tgt := 128) dX6_readNumber_123 (by decide) ?_
  exact r_ireturn (ty := .int) dX6_readNumber_128 rfl (nar_i _) rfl
def f_X6_readNumber_106 (S : SI) (v1 : Int32) (v3 : Int32) (v4 : Int32) : Option (Int32 × SI) :=
  if v4 < v1 then
    f_X6_readNumber_119 S v3
  else
    if v4 ≤ (99 : Int32) then
      some (v4, S)
    else
      f_X6_readNumber_119 S v3
set_option maxHeartbeats 4000000 in
set_option maxRecDepth 100000 in
theorem t_X6_readNumber_106 (S : SI) (T : SL) (U : SI) (V : SL) (v1 : Int32) (v3 : Int32) (v4 : Int32) : Run 2 yX6_readNumber cX6_readNumber 5 (some .int) none (fun a : Int32 × SI => (some (.int a.1), (a.2, T, U, V))) 106 [(1, .int v1), (3, .int v3), (4, .int v4)] [] (S, T, U, V) (f_X6_readNumber_106 S v1 v3 v4) := by
  rw [f_X6_readNumber_106]
  refine r_iload dX6_readNumber_106 2 rfl ?_
  refine r_iload_n dX6_readNumber_108 0 rfl rfl ?_
  refine r_icmp_lt (tgt := 119) dX6_readNumber_109 (by decide) (fun h12 => ?_) (fun h12 => ?_)
  · exact r_pick [1] rfl (t_X6_readNumber_119 S T U V v3)
  · refine r_iload dX6_readNumber_112 2 rfl ?_
    refine r_bipush (v := (99 : Int32)) dX6_readNumber_114 rfl ?_
    refine r_icmp_le (tgt := 126) dX6_readNumber_116 (by decide) (fun h13 => ?_) (fun h13 => ?_)
    · refine r_iload dX6_readNumber_126 2 rfl ?_
      exact r_ireturn (ty := .int) dX6_readNumber_128 rfl (nar_i _) rfl
    · exact r_pick [1] rfl (t_X6_readNumber_119 S T U V v3)
def f_X6_readNumber_27 (S : SI) (v1 : Int32) (v3 : Int32) (s0 : Int32) : Option (Int32 × SI) :=
  f_X6_readNumber_29 (fun o4 So => f_X6_readNumber_106 So v1 v3 o4) fu s0 S
set_option maxHeartbeats 4000000 in
set_option maxRecDepth 100000 in
theorem t_X6_readNumber_27 (S : SI) (T : SL) (U : SI) (V : SL) (v1 : Int32) (v3 : Int32) (s0 : Int32) : Run 2 yX6_readNumber cX6_readNumber 5 (some .int) none (fun a : Int32 × SI => (some (.int a.1), (a.2, T, U, V))) 27 [(0, .ref 41), (1, .int v1), (3, .int v3)] [.int s0] (S, T, U, V) (f_X6_readNumber_27 S v1 v3 s0) := by
  rw [f_X6_readNumber_27]
  refine r_istore (L' := [(4, .int s0), (0, .ref 41), (1, .int v1), (3, .int v3)]) dX6_readNumber_27 (by decide) rfl ?_
  exact r_pick [1, 2, 3, 0] rfl (t_X6_readNumber_29 T U V v1 v3 (fun o4 So => f_X6_readNumber_106 So v1 v3 o4) (fun o4 So => r_pick [0, 1, 2] rfl (t_X6_readNumber_106 So T U V v1 v3 o4)) fu s0 S)
def f_X6_readNumber (S : SI) (v1 : Int32) : Option (Int32 × SI) :=
  (f_X6_nextSign S).bind fun q1 =>
  nm (q1.2 41 2) fun x2 =>
  if q1.1 < (48 : Int32) then
    f_X6_readNumber_27 q1.2 v1 x2 (-1 : Int32)
  else
    if (57 : Int32) < q1.1 then
      f_X6_readNumber_27 q1.2 v1 x2 (-1 : Int32)
    else
      f_X6_readNumber_27 q1.2 v1 x2 (0 : Int32)
set_option maxHeartbeats 4000000 in
set_option maxRecDepth 100000 in
theorem m_X6_readNumber (S : SI) (T : SL) (U : SI) (V : SL) (v1 : Int32) : Meth 2 yX6_readNumber cX6_readNumber 5 (some .int) [.ref 41, .int v1] (S, T, U, V) (f_X6_readNumber S v1) (fun a : Int32 × SI => (some (.int a.1), (a.2, T, U, V))) := by
  refine meth_of (L := [(0, .ref 41), (1, .int v1)]) (by decide +kernel) (Nat.le_of_ble_eq_true rfl) rfl ?_
  rw [f_X6_readNumber]
  refine r_aload_n dX6_readNumber_0 0 rfl rfl ?_
  refine rVc_iS (as := []) (st := []) dX6_readNumber_1 cl_X6_39 (by decide) rfl rfl (m_X6_nextSign S T U V) (by decide) rfl (Nat.le_of_ble_eq_true rfl) (fun q1 _ => ?_)
  refine r_istore_n (L' := [(2, .int q1.1), (0, .ref 41), (1, .int v1)]) dX6_readNumber_4 rfl (by decide) rfl ?_
  refine r_aload_n dX6_readNumber_5 1 rfl rfl ?_
  refine rc_geti dX6_readNumber_6 fl_X6_32 (by decide) (by decide) rfl rfl ?_
  refine r_nmi (fun x2 => ?_)
  refine r_istore_n (L' := [(3, .int x2), (2, .int q1.1), (0, .ref 41), (1, .int v1)]) dX6_readNumber_9 rfl (by decide) rfl ?_
  refine r_iload_n dX6_readNumber_10 1 rfl rfl ?_
  refine r_bipush (v := (48 : Int32)) dX6_readNumber_11 rfl ?_
  refine r_icmp_lt (tgt := 26) dX6_readNumber_13 (by decide) (fun h3 => ?_) (fun h3 => ?_)
  · refine r_iconst (v := (-1 : Int32)) dX6_readNumber_26 rfl ?_
    exact r_pick [2, 3, 0] rfl (t_X6_readNumber_27 q1.2 T U V v1 x2 (-1 : Int32))
  · refine r_iload_n dX6_readNumber_16 1 rfl rfl ?_
    refine r_bipush (v := (57 : Int32)) dX6_readNumber_17 rfl ?_
    refine r_icmp_gt (tgt := 26) dX6_readNumber_19 (by decide) (fun h14 => ?_) (fun h14 => ?_)
    · refine r_iconst (v := (-1 : Int32)) dX6_readNumber_26 rfl ?_
      exact r_pick [2, 3, 0] rfl (t_X6_readNumber_27 q1.2 T U V v1 x2 (-1 : Int32))
    · refine r_iconst (v := (0 : Int32)) dX6_readNumber_22 rfl ?_
      refine r_goto (tgt := 27) dX6_readNumber_23 (by decide) ?_
      exact r_pick [2, 3, 0] rfl (t_X6_readNumber_27 q1.2 T U V v1 x2 (0 : Int32))
def f_X6_readSock_85 (S : SI) (a1 : Nat) (v2 : Int32) (v3 : Int32) (v4 : Int32) (v5 : Int32) (s0 : Int32) : Option (Int32 × SI) :=
  if 0 ≤ s0 then
    (f_X5_begin S a1 v2 v3 v4 v5 s0).bind fun q13 =>
    some ((0 : Int32), q13)
  else
    some (s0, S)
set_option maxHeartbeats 4000000 in
set_option maxRecDepth 100000 in
theorem t_X6_readSock_85 (S : SI) (T : SL) (U : SI) (V : SL) (a1 : Nat) (ha1 : IsS a1) (v2 : Int32) (v3 : Int32) (v4 : Int32) (v5 : Int32) (s0 : Int32) : Run 4 yX6_readSock cX6_readSock 7 (some .int) none (fun a : Int32 × SI => (some (.int a.1), (a.2, T, U, V))) 85 [(1, .ref a1), (2, .int v2), (3, .int v3), (4, .int v4), (5, .int v5)] [.int s0] (S, T, U, V) (f_X6_readSock_85 S a1 v2 v3 v4 v5 s0) := by
  rw [f_X6_readSock_85]
  refine r_istore (L' := [(6, .int s0), (1, .ref a1), (2, .int v2), (3, .int v3), (4, .int v4), (5, .int v5)]) dX6_readSock_85 (by decide) rfl ?_
  refine r_iload dX6_readSock_87 0 rfl ?_
  refine r_if_ge (tgt := 95) dX6_readSock_89 (by decide) (fun h12 => ?_) (fun h12 => ?_)
  · refine r_aload_n dX6_readSock_95 1 rfl rfl ?_
    refine r_iload_n dX6_readSock_96 2 rfl rfl ?_
    refine r_iload_n dX6_readSock_97 3 rfl rfl ?_
    refine r_iload dX6_readSock_98 4 rfl ?_
    refine r_iload dX6_readSock_100 5 rfl ?_
    refine r_iload dX6_readSock_102 0 rfl ?_
    refine rVc_vS (as := [.int v2, .int v3, .int v4, .int v5, .int s0]) (st := []) dX6_readSock_104 cl_X6_60 ha1.a ha1.2 rfl (m_X5_begin S T U V a1 ha1 v2 v3 v4 v5 s0) (by decide) rfl (Nat.le_of_ble_eq_true rfl) (fun q13 _ => ?_)
    refine r_iconst (v := (0 : Int32)) dX6_readSock_107 rfl ?_
    exact r_ireturn (ty := .int) dX6_readSock_108 rfl (nar_i _) rfl
  · refine r_iload dX6_readSock_92 0 rfl ?_
    exact r_ireturn (ty := .int) dX6_readSock_94 rfl (nar_i _) rfl
def f_X6_readSock_57 (S : SI) (a1 : Nat) (v2 : Int32) (v3 : Int32) (v4 : Int32) (s0 : Int32) : Option (Int32 × SI) :=
  if 0 ≤ s0 then
    (f_X6_skipSign S (58 : Int32)).bind fun q10 =>
    if q10.1 = 0 then
      f_X6_readSock_85 q10.2 a1 v2 v3 v4 s0 (7 : Int32)
    else
      (f_X6_readLodgers q10.2).bind fun q14 =>
      f_X6_readSock_85 q14.2 a1 v2 v3 v4 s0 q14.1
  else
    some (s0, S)
set_option maxHeartbeats 4000000 in
set_option maxRecDepth 100000 in
theorem t_X6_readSock_57 (S : SI) (T : SL) (U : SI) (V : SL) (a1 : Nat) (ha1 : IsS a1) (v2 : Int32) (v3 : Int32) (v4 : Int32) (s0 : Int32) : Run 4 yX6_readSock cX6_readSock 7 (some .int) none (fun a : Int32 × SI => (some (.int a.1), (a.2, T, U, V))) 57 [(0, .ref 41), (1, .ref a1), (2, .int v2), (3, .int v3), (4, .int v4)] [.int s0] (S, T, U, V) (f_X6_readSock_57 S a1 v2 v3 v4 s0) := by
  rw [f_X6_readSock_57]
  refine r_istore (L' := [(5, .int s0), (0, .ref 41), (1, .ref a1), (2, .int v2), (3, .int v3), (4, .int v4)]) dX6_readSock_57 (by decide) rfl ?_
  refine r_iload dX6_readSock_59 0 rfl ?_
  refine r_if_ge (tgt := 67) dX6_readSock_61 (by decide) (fun h9 => ?_) (fun h9 => ?_)
  · refine r_aload_n dX6_readSock_67 1 rfl rfl ?_
    refine r_bipush (v := (58 : Int32)) dX6_readSock_68 rfl ?_
    refine rVc_iS (as := [.int (58 : Int32)]) (st := []) dX6_readSock_70 cl_X6_53 (by decide) rfl rfl (m_X6_skipSign S T U V (58 : Int32)) (by decide) rfl (Nat.le_of_ble_eq_true rfl) (fun q10 _ => ?_)
    refine r_if_eq (tgt := 83) dX6_readSock_73 (by decide) (fun h11 => ?_) (fun h11 => ?_)
    · refine r_bipush (v := (7 : Int32)) dX6_readSock_83 rfl ?_
      exact r_pick [2, 3, 4, 5, 0] rfl (t_X6_readSock_85 q10.2 T U V a1 ha1 v2 v3 v4 s0 (7 : Int32))
    · refine r_aload_n dX6_readSock_76 1 rfl rfl ?_
      refine rVc_iS (as := []) (st := []) dX6_readSock_77 cl_X6_57 (by decide) rfl rfl (m_X6_readLodgers q10.2 T U V) (by decide) rfl (Nat.le_of_ble_eq_true rfl) (fun q14 _ => ?_)
      refine r_goto (tgt := 85) dX6_readSock_80 (by decide) ?_
      exact r_pick [2, 3, 4, 5, 0] rfl (t_X6_readSock_85 q14.2 T U V a1 ha1 v2 v3 v4 s0 q14.1)
  · refine r_iload dX6_readSock_64 0 rfl ?_
    exact r_ireturn (ty := .int) dX6_readSock_66 rfl (nar_i _) rfl
def f_X6_readSock (S : SI) (a1 : Nat) : Option (Int32 × SI) :=
  (f_X6_readKind S).bind fun q1 =>
  if 0 ≤ q1.1 then
    (f_X6_readHand q1.2).bind fun q3 =>
    if 0 ≤ q3.1 then
      (f_X6_readNumber q3.2 (0 : Int32)).bind fun q5 =>
      if 0 ≤ q5.1 then
        (f_X6_skipSign q5.2 (45 : Int32)).bind fun q7 =>
        if q7.1 = 0 then
          f_X6_readSock_57 q7.2 a1 q1.1 q3.1 q5.1 q5.1
        else
          (f_X6_readNumber q7.2 q5.1).bind fun q15 =>
          f_X6_readSock_57 q15.2 a1 q1.1 q3.1 q5.1 q15.1
      else
        some (q5.1, q5.2)
    else
      some (q3.1, q3.2)
  else
    some (q1.1, q1.2)
set_option maxHeartbeats 4000000 in
set_option maxRecDepth 100000 in
theorem m_X6_readSock (S : SI) (T : SL) (U : SI) (V : SL) (a1 : Nat) (ha1 : IsS a1) : Meth 4 yX6_readSock cX6_readSock 7 (some .int) [.ref 41, .ref a1] (S, T, U, V) (f_X6_readSock S a1) (fun a : Int32 × SI => (some (.int a.1), (a.2, T, U, V))) := by
  refine meth_of (L := [(0, .ref 41), (1, .ref a1)]) (by decide +kernel) (Nat.le_of_ble_eq_true rfl) rfl ?_
  rw [f_X6_readSock]
  refine r_aload_n dX6_readSock_0 0 rfl rfl ?_
  refine rVc_iS (as := []) (st := []) dX6_readSock_1 cl_X6_43 (by decide) rfl rfl (m_X6_readKind S T U V) (by decide) rfl (Nat.le_of_ble_eq_true rfl) (fun q1 _ => ?_)
  refine r_istore_n (L' := [(2, .int q1.1), (0, .ref 41), (1, .ref a1)]) dX6_readSock_4 rfl (by decide) rfl ?_
  refine r_iload_n dX6_readSock_5 0 rfl rfl ?_
  refine r_if_ge (tgt := 11) dX6_readSock_6 (by decide) (fun h2 => ?_) (fun h2 => ?_)
  · refine r_aload_n dX6_readSock_11 1 rfl rfl ?_
    refine rVc_iS (as := []) (st := []) dX6_readSock_12 cl_X6_46 (by decide) rfl rfl (m_X6_readHand q1.2 T U V) (by decide) rfl (Nat.le_of_ble_eq_true rfl) (fun q3 _ => ?_)
    refine r_istore_n (L' := [(3, .int q3.1), (2, .int q1.1), (0, .ref 41), (1, .ref a1)]) dX6_readSock_15 rfl (by decide) rfl ?_
    refine r_iload_n dX6_readSock_16 0 rfl rfl ?_
    refine r_if_ge (tgt := 22) dX6_readSock_17 (by decide) (fun h4 => ?_) (fun h4 => ?_)
    · refine r_aload_n dX6_readSock_22 2 rfl rfl ?_
      refine r_iconst (v := (0 : Int32)) dX6_readSock_23 rfl ?_
      refine rVc_iS (as := [.int (0 : Int32)]) (st := []) dX6_readSock_24 cl_X6_49 (by decide) rfl rfl (m_X6_readNumber q3.2 T U V (0 : Int32)) (by decide) rfl (Nat.le_of_ble_eq_true rfl) (fun q5 _ => ?_)
      refine r_istore (L' := [(4, .int q5.1), (3, .int q3.1), (2, .int q1.1), (0, .ref 41), (1, .ref a1)]) dX6_readSock_27 (by decide) rfl ?_
      refine r_iload dX6_readSock_29 0 rfl ?_
      refine r_if_ge (tgt := 37) dX6_readSock_31 (by decide) (fun h6 => ?_) (fun h6 => ?_)
      · refine r_aload_n dX6_readSock_37 3 rfl rfl ?_
        refine r_bipush (v := (45 : Int32)) dX6_readSock_38 rfl ?_
        refine rVc_iS (as := [.int (45 : Int32)]) (st := []) dX6_readSock_40 cl_X6_53 (by decide) rfl rfl (m_X6_skipSign q5.2 T U V (45 : Int32)) (by decide) rfl (Nat.le_of_ble_eq_true rfl) (fun q7 _ => ?_)
        refine r_if_eq (tgt := 55) dX6_readSock_43 (by decide) (fun h8 => ?_) (fun h8 => ?_)
        · refine r_iload dX6_readSock_55 0 rfl ?_
          exact r_pick [3, 4, 2, 1, 0] rfl (t_X6_readSock_57 q7.2 T U V a1 ha1 q1.1 q3.1 q5.1 q5.1)
        · refine r_aload_n dX6_readSock_46 3 rfl rfl ?_
          refine r_iload dX6_readSock_47 0 rfl ?_
          refine rVc_iS (as := [.int q5.1]) (st := []) dX6_readSock_49 cl_X6_49 (by decide) rfl rfl (m_X6_readNumber q7.2 T U V q5.1) (by decide) rfl (Nat.le_of_ble_eq_true rfl) (fun q15 _ => ?_)
          refine r_goto (tgt := 57) dX6_readSock_52 (by decide) ?_
          exact r_pick [3, 4, 2, 1, 0] rfl (t_X6_readSock_57 q15.2 T U V a1 ha1 q1.1 q3.1 q5.1 q15.1)
      · refine r_iload dX6_readSock_34 0 rfl ?_
        exact r_ireturn (ty := .int) dX6_readSock_36 rfl (nar_i _) rfl
    · refine r_iload_n dX6_readSock_20 0 rfl rfl ?_
      exact r_ireturn (ty := .int) dX6_readSock_21 rfl (nar_i _) rfl
  · refine r_iload_n dX6_readSock_9 0 rfl rfl ?_
    exact r_ireturn (ty := .int) dX6_readSock_10 rfl (nar_i _) rfl
def f_X6_read_7 (ke56 : SI → Option (Int32 × SI)) : Nat → Int32 → SI → Option (Int32 × SI)
  | 0, _, _ => none
  | m_ + 1, v1, S =>
    if (8 : Int32) ≤ v1 then
      some ((-20 : Int32) - (S 41 2), S)
    else
      gd (inB v1 8) <|
      (f_X6_readSock S (44 + ix v1)).bind fun q4 =>
      if q4.1 = 0 then
        (f_X6_nextSign q4.2).bind fun q6 =>
        if q6.1 = (-1 : Int32) then
          some (v1 + (1 : Int32), q6.2)
        else
          if q6.1 = (44 : Int32) then
            if v1 = (7 : Int32) then
              ke56 q6.2
            else
              nm (up2 q6.2 41 2 ((q6.2 41 2) + (1 : Int32))) fun S10 =>
              (f_X6_read_7 ke56 m_) (v1 + (1 : Int32)) S10
          else
            some ((-20 : Int32) - (q6.2 41 2), q6.2)
      else
        some (q4.1, q4.2)
set_option maxHeartbeats 4000000 in
set_option maxRecDepth 100000 in
theorem t_X6_read_7 (T : SL) (U : SI) (V : SL) (ke56 : SI → Option (Int32 × SI)) (hke56 : ∀ (S' : SI), Run 5 yX6_read cX6_read 4 (some .int) none (fun a : Int32 × SI => (some (.int a.1), (a.2, T, U, V))) 56 [(0, .ref 41)] [] (S', T, U, V) (ke56 S')) : ∀ (m_ : Nat) (v1 : Int32) (S : SI), Run 5 yX6_read cX6_read 4 (some .int) none (fun a : Int32 × SI => (some (.int a.1), (a.2, T, U, V))) 7 [(0, .ref 41), (1, .int v1)] [] (S, T, U, V) (f_X6_read_7 ke56 m_ v1 S) := by
  intro m_
  induction m_ with
  | zero =>
    intro v1 S
    rw [f_X6_read_7]
    exact r_none
  | succ m_ ih =>
    intro v1 S
    rw [f_X6_read_7]
    refine r_iload_n dX6_read_7 1 rfl rfl ?_
    refine r_bipush (v := (8 : Int32)) dX6_read_8 rfl ?_
    refine r_icmp_ge (tgt := 75) dX6_read_10 (by decide) (fun h2 => ?_) (fun h2 => ?_)
    · refine r_bipush (v := (-20 : Int32)) dX6_read_75 rfl ?_
      refine r_aload_n dX6_read_77 0 rfl rfl ?_
      refine rc_geti dX6_read_78 fl_X6_32 (by decide) (by decide) rfl rfl ?_
      refine r_isub dX6_read_81 ?_
      exact r_ireturn (ty := .int) dX6_read_82 rfl (nar_i _) rfl
    · refine r_aload_n dX6_read_13 0 rfl rfl ?_
      refine r_aload_n dX6_read_14 0 rfl rfl ?_
      refine r_getr dX6_read_15 fl_X6_17 (by decide) rfl rfl (by decide) ?_
      refine r_iload_n dX6_read_18 1 rfl rfl ?_
      refine r_aald (x := 44 + ix v1) dX6_read_19 (by decide) rfl (by decide) (by decide) rfl (fun h3 => ?_)
      refine rVc_iS (as := [.ref (44 + ix v1)]) (st := []) dX6_read_20 cl_X6_35 (by decide) rfl rfl (m_X6_readSock S T U V (44 + ix v1) (isS_44 h3)) (by decide) rfl (Nat.le_of_ble_eq_true rfl) (fun q4 _ => ?_)
      refine r_istore_n (L' := [(2, .int q4.1), (0, .ref 41), (1, .int v1)]) dX6_read_23 rfl (by decide) rfl ?_
      refine r_iload_n dX6_read_24 0 rfl rfl ?_
      refine r_if_eq (tgt := 30) dX6_read_25 (by decide) (fun h5 => ?_) (fun h5 => ?_)
      · refine r_aload_n dX6_read_30 1 rfl rfl ?_
        refine rVc_iS (as := []) (st := []) dX6_read_31 cl_X6_39 (by decide) rfl rfl (m_X6_nextSign q4.2 T U V) (by decide) rfl (Nat.le_of_ble_eq_true rfl) (fun q6 _ => ?_)
        refine r_istore_n (L' := [(3, .int q6.1), (2, .int q4.1), (0, .ref 41), (1, .int v1)]) dX6_read_34 rfl (by decide) rfl ?_
        refine r_iload_n dX6_read_35 0 rfl rfl ?_
        refine r_iconst (v := (-1 : Int32)) dX6_read_36 rfl ?_
        refine r_icmp_ne (tgt := 44) dX6_read_37 (by decide) (fun h7 => ?_) (fun h7 => ?_)
        · refine r_iload_n dX6_read_40 3 rfl rfl ?_
          refine r_iconst (v := (1 : Int32)) dX6_read_41 rfl ?_
          refine r_iadd dX6_read_42 ?_
          exact r_ireturn (ty := .int) dX6_read_43 rfl (nar_i _) rfl
        · refine r_iload_n dX6_read_44 0 rfl rfl ?_
          refine r_bipush (v := (44 : Int32)) dX6_read_45 rfl ?_
          refine r_icmp_ne (tgt := 75) dX6_read_47 (by decide) (fun h8 => ?_) (fun h8 => ?_)
          · refine r_iload_n dX6_read_50 3 rfl rfl ?_
            refine r_bipush (v := (7 : Int32)) dX6_read_51 rfl ?_
            refine r_icmp_ne (tgt := 59) dX6_read_53 (by decide) (fun h9 => ?_) (fun h9 => ?_)
            · exact r_pick [2] rfl (hke56 q6.2)
            · refine r_aload_n dX6_read_59 2 rfl rfl ?_
              refine r_dup dX6_read_60 rfl ?_
              refine rc_geti dX6_read_61 fl_X6_32 (by decide) (by decide) rfl rfl ?_
              refine r_iconst (v := (1 : Int32)) dX6_read_64 rfl ?_
              refine r_iadd dX6_read_65 ?_
              refine rc_puti (ty := .int) dX6_read_66 fp_X6_32 (nar_i _) (fit_i _) (by decide) (by decide) rfl rfl ?_
              refine r_nmS (fun S10 => ?_)
              refine r_iinc (v := v1 + (1 : Int32)) (L' := [(1, .int (v1 + (1 : Int32))), (3, .int q6.1), (2, .int q4.1), (0, .ref 41)]) dX6_read_69 3 rfl rfl (by decide) rfl ?_
              refine r_goto (tgt := 7) dX6_read_72 (by decide) ?_
              exact r_pick [3, 0] rfl (ih (v1 + (1 : Int32)) S10)
          · refine r_bipush (v := (-20 : Int32)) dX6_read_75 rfl ?_
            refine r_aload_n dX6_read_77 2 rfl rfl ?_
            refine rc_geti dX6_read_78 fl_X6_32 (by decide) (by decide) rfl rfl ?_
            refine r_isub dX6_read_81 ?_
            exact r_ireturn (ty := .int) dX6_read_82 rfl (nar_i _) rfl
      · refine r_iload_n dX6_read_28 0 rfl rfl ?_
        exact r_ireturn (ty := .int) dX6_read_29 rfl (nar_i _) rfl
def f_X6_read_56 (S : SI) : Option (Int32 × SI) :=
  some ((-20 : Int32) - (S 41 2), S)
set_option maxHeartbeats 4000000 in
set_option maxRecDepth 100000 in
theorem t_X6_read_56 (S : SI) (T : SL) (U : SI) (V : SL) : Run 5 yX6_read cX6_read 4 (some .int) none (fun a : Int32 × SI => (some (.int a.1), (a.2, T, U, V))) 56 [(0, .ref 41)] [] (S, T, U, V) (f_X6_read_56 S) := by
  rw [f_X6_read_56]
  refine r_goto (tgt := 75) dX6_read_56 (by decide) ?_
  refine r_bipush (v := (-20 : Int32)) dX6_read_75 rfl ?_
  refine r_aload_n dX6_read_77 0 rfl rfl ?_
  refine rc_geti dX6_read_78 fl_X6_32 (by decide) (by decide) rfl rfl ?_
  refine r_isub dX6_read_81 ?_
  exact r_ireturn (ty := .int) dX6_read_82 rfl (nar_i _) rfl
def f_X6_read (S : SI) : Option (Int32 × SI) :=
  nm (up2 S 41 2 (0 : Int32)) fun S1 =>
  f_X6_read_7 (fun So => f_X6_read_56 So) fu (0 : Int32) S1
set_option maxHeartbeats 4000000 in
set_option maxRecDepth 100000 in
theorem m_X6_read (S : SI) (T : SL) (U : SI) (V : SL)  : Meth 5 yX6_read cX6_read 4 (some .int) [.ref 41] (S, T, U, V) (f_X6_read S) (fun a : Int32 × SI => (some (.int a.1), (a.2, T, U, V))) := by
  refine meth_of (L := [(0, .ref 41)]) (by decide +kernel) (Nat.le_of_ble_eq_true rfl) rfl ?_
  rw [f_X6_read]
  refine r_aload_n dX6_read_0 0 rfl rfl ?_
  refine r_iconst (v := (0 : Int32)) dX6_read_1 rfl ?_
  refine rc_puti (ty := .int) dX6_read_2 fp_X6_32 (nar_i _) (fit_i _) (by decide) (by decide) rfl rfl ?_
  refine r_nmS (fun S1 => ?_)
  refine r_iconst (v := (0 : Int32)) dX6_read_5 rfl ?_
  refine r_istore_n (L' := [(1, .int (0 : Int32)), (0, .ref 41)]) dX6_read_6 rfl (by decide) rfl ?_
  exact r_pick [1, 0] rfl (t_X6_read_7 T U V (fun So => f_X6_read_56 So) (fun So => r_pick [0] rfl (t_X6_read_56 So T U V)) fu (0 : Int32) S1)
