def f_X9_reckonWeeks (S : SI) (T : SL) (v1 : Int32) (v2 : Int32) (v3 : Int32) (v4 : Int32) (v5 : Int32) (v6 : Int32) : Option (Int32 × SI × SL) :=
  (f_X9_within v1 (4 : Int32)).bind fun q1 =>
  if q1 = 0 then
    some ((-1 : Int32), S, T)
  else
    (f_X9_within v2 (3 : Int32)).bind fun q3 =>
    if q3 = 0 then
      some ((-1 : Int32), S, T)
    else
      if v4 < (1 : Int32) then
        some ((-1 : Int32), S, T)
      else
        if v4 ≤ (8 : Int32) then
          (f_X9_within v5 (1000 : Int32)).bind fun q7 =>
          if q7 = 0 then
            some ((-1 : Int32), S, T)
          else
            (f_X9_within v6 (100 : Int32)).bind fun q9 =>
            if q9 = 0 then
              some ((-1 : Int32), S, T)
            else
              gd (inB v1 4) <|
              (f_X4_refusal S (70 + 2 * ix v1) v2 v3 v4).bind fun q12 =>
              if q12 = 0 then
                gd (inB v1 4) <|
                (f_X8_takeChances S (70 + 2 * ix v1) v3 v4).bind fun q15 =>
                if q15.1 = 0 then
                  some ((-2 : Int32), q15.2, T)
                else
                  (f_X8_reckon q15.2 T v5 v6).bind fun q17 =>
                  some ((0 : Int32), q15.2, q17)
              else
                some (q12, S, T)
        else
          some ((-1 : Int32), S, T)
set_option maxHeartbeats 4000000 in
set_option maxRecDepth 100000 in
theorem m_X9_reckonWeeks (S : SI) (T : SL) (U : SI) (V : SL) (v1 : Int32) (v2 : Int32) (v3 : Int32) (v4 : Int32) (v5 : Int32) (v6 : Int32) : Meth 3 yX9_reckonWeeks cX9_reckonWeeks 8 (some .int) [.ref 0, .int v1, .int v2, .int v3, .int v4, .int v5, .int v6] (S, T, U, V) (f_X9_reckonWeeks S T v1 v2 v3 v4 v5 v6) (fun a : Int32 × SI × SL => (some (.int a.1), (a.2.1, a.2.2, U, V))) := by
  refine meth_of (L := [(0, .ref 0), (1, .int v1), (2, .int v2), (3, .int v3), (4, .int v4), (5, .int v5), (6, .int v6)]) (by decide +kernel) (Nat.le_of_ble_eq_true rfl) rfl ?_
  rw [f_X9_reckonWeeks]
  refine r_iload_n dX9_reckonWeeks_0 1 rfl rfl ?_
  refine r_iconst (v := (4 : Int32)) dX9_reckonWeeks_1 rfl ?_
  refine rS_i (as := [.int v1, .int (4 : Int32)]) (st := []) dX9_reckonWeeks_2 cl_X9_75 (m_X9_within S T U V v1 (4 : Int32)) (by decide) rfl (Nat.le_of_ble_eq_true rfl) (fun q1 _ => ?_)
  refine r_if_eq (tgt := 29) dX9_reckonWeeks_5 (by decide) (fun h2 => ?_) (fun h2 => ?_)
  · refine r_iconst (v := (-1 : Int32)) dX9_reckonWeeks_29 rfl ?_
    exact r_ireturn (ty := .int) dX9_reckonWeeks_30 rfl (nar_i _) rfl
  · refine r_iload_n dX9_reckonWeeks_8 2 rfl rfl ?_
    refine r_iconst (v := (3 : Int32)) dX9_reckonWeeks_9 rfl ?_
    refine rS_i (as := [.int v2, .int (3 : Int32)]) (st := []) dX9_reckonWeeks_10 cl_X9_75 (m_X9_within S T U V v2 (3 : Int32)) (by decide) rfl (Nat.le_of_ble_eq_true rfl) (fun q3 _ => ?_)
    refine r_if_eq (tgt := 29) dX9_reckonWeeks_13 (by decide) (fun h4 => ?_) (fun h4 => ?_)
    · refine r_iconst (v := (-1 : Int32)) dX9_reckonWeeks_29 rfl ?_
      exact r_ireturn (ty := .int) dX9_reckonWeeks_30 rfl (nar_i _) rfl
    · refine r_iload dX9_reckonWeeks_16 4 rfl ?_
      refine r_iconst (v := (1 : Int32)) dX9_reckonWeeks_18 rfl ?_
      refine r_icmp_lt (tgt := 29) dX9_reckonWeeks_19 (by decide) (fun h5 => ?_) (fun h5 => ?_)
      · refine r_iconst (v := (-1 : Int32)) dX9_reckonWeeks_29 rfl ?_
        exact r_ireturn (ty := .int) dX9_reckonWeeks_30 rfl (nar_i _) rfl
      · refine r_iload dX9_reckonWeeks_22 4 rfl ?_
        refine r_bipush (v := (8 : Int32)) dX9_reckonWeeks_24 rfl ?_
        refine r_icmp_le (tgt := 31) dX9_reckonWeeks_26 (by decide) (fun h6 => ?_) (fun h6 => ?_)
        · refine r_iload dX9_reckonWeeks_31 5 rfl ?_
          refine r_sipush (v := (1000 : Int32)) dX9_reckonWeeks_33 rfl ?_
          refine rS_i (as := [.int v5, .int (1000 : Int32)]) (st := []) dX9_reckonWeeks_36 cl_X9_75 (m_X9_within S T U V v5 (1000 : Int32)) (by decide) rfl (Nat.le_of_ble_eq_true rfl) (fun q7 _ => ?_)
          refine r_if_eq (tgt := 52) dX9_reckonWeeks_39 (by decide) (fun h8 => ?_) (fun h8 => ?_)
          · refine r_iconst (v := (-1 : Int32)) dX9_reckonWeeks_52 rfl ?_
            exact r_ireturn (ty := .int) dX9_reckonWeeks_53 rfl (nar_i _) rfl
          · refine r_iload dX9_reckonWeeks_42 6 rfl ?_
            refine r_bipush (v := (100 : Int32)) dX9_reckonWeeks_44 rfl ?_
            refine rS_i (as := [.int v6, .int (100 : Int32)]) (st := []) dX9_reckonWeeks_46 cl_X9_75 (m_X9_within S T U V v6 (100 : Int32)) (by decide) rfl (Nat.le_of_ble_eq_true rfl) (fun q9 _ => ?_)
            refine r_if_ne (tgt := 54) dX9_reckonWeeks_49 (by decide) (fun h10 => ?_) (fun h10 => ?_)
            · refine r_iconst (v := (-1 : Int32)) dX9_reckonWeeks_52 rfl ?_
              exact r_ireturn (ty := .int) dX9_reckonWeeks_53 rfl (nar_i _) rfl
            · refine r_aload_n dX9_reckonWeeks_54 0 rfl rfl ?_
              refine r_getr dX9_reckonWeeks_55 fl_X9_70 (by decide) rfl rfl (by decide) ?_
              refine r_iload_n dX9_reckonWeeks_58 1 rfl rfl ?_
              refine r_aald (x := 70 + 2 * ix v1) dX9_reckonWeeks_59 (by decide) rfl (by decide) (by decide) rfl (fun h11 => ?_)
              refine r_iload_n dX9_reckonWeeks_60 2 rfl rfl ?_
              refine r_iload_n dX9_reckonWeeks_61 3 rfl rfl ?_
              refine r_iload dX9_reckonWeeks_62 4 rfl ?_
              refine rV_i (as := [.int v2, .int v3, .int v4]) (st := []) dX9_reckonWeeks_64 cl_X9_192 (isH_70 h11).a (isH_70 h11).2.1 rfl (m_X4_refusal S T U V (70 + 2 * ix v1) (isH_70 h11) v2 v3 v4) (by decide) rfl (Nat.le_of_ble_eq_true rfl) (fun q12 _ => ?_)
              refine r_istore (L' := [(7, .int q12), (0, .ref 0), (1, .int v1), (2, .int v2), (3, .int v3), (4, .int v4), (5, .int v5), (6, .int v6)]) dX9_reckonWeeks_67 (by decide) rfl ?_
              refine r_iload dX9_reckonWeeks_69 0 rfl ?_
              refine r_if_eq (tgt := 77) dX9_reckonWeeks_71 (by decide) (fun h13 => ?_) (fun h13 => ?_)
              · refine r_aload_n dX9_reckonWeeks_77 1 rfl rfl ?_
                refine r_getr dX9_reckonWeeks_78 fl_X9_43 (by decide) rfl rfl (by decide) ?_
                refine r_aload_n dX9_reckonWeeks_81 1 rfl rfl ?_
                refine r_getr dX9_reckonWeeks_82 fl_X9_70 (by decide) rfl rfl (by decide) ?_
                refine r_iload_n dX9_reckonWeeks_85 2 rfl rfl ?_
                refine r_aald (x := 70 + 2 * ix v1) dX9_reckonWeeks_86 (by decide) rfl (by decide) (by decide) rfl (fun h14 => ?_)
                refine r_iload_n dX9_reckonWeeks_87 4 rfl rfl ?_
                refine r_iload dX9_reckonWeeks_88 5 rfl ?_
                refine rVc_iS (as := [.ref (70 + 2 * ix v1), .int v3, .int v4]) (st := []) dX9_reckonWeeks_90 cl_X9_293 (by decide) rfl rfl (m_X8_takeChances S T U V (70 + 2 * ix v1) (isH_70 h14) v3 v4) (by decide) rfl (Nat.le_of_ble_eq_true rfl) (fun q15 _ => ?_)
                refine r_if_ne (tgt := 99) dX9_reckonWeeks_93 (by decide) (fun h16 => ?_) (fun h16 => ?_)
                · refine r_bipush (v := (-2 : Int32)) dX9_reckonWeeks_96 rfl ?_
                  exact r_ireturn (ty := .int) dX9_reckonWeeks_98 rfl (nar_i _) rfl
                · refine r_aload_n dX9_reckonWeeks_99 1 rfl rfl ?_
                  refine r_getr dX9_reckonWeeks_100 fl_X9_43 (by decide) rfl rfl (by decide) ?_
                  refine r_iload dX9_reckonWeeks_103 6 rfl ?_
                  refine r_iload dX9_reckonWeeks_105 7 rfl ?_
                  refine rVc_vT (as := [.int v5, .int v6]) (st := []) dX9_reckonWeeks_107 cl_X9_296 (by decide) rfl rfl (m_X8_reckon q15.2 T U V v5 v6) (by decide) rfl (Nat.le_of_ble_eq_true rfl) (fun q17 _ => ?_)
                  refine r_iconst (v := (0 : Int32)) dX9_reckonWeeks_110 rfl ?_
                  exact r_ireturn (ty := .int) dX9_reckonWeeks_111 rfl (nar_i _) rfl
              · refine r_iload dX9_reckonWeeks_74 0 rfl ?_
                exact r_ireturn (ty := .int) dX9_reckonWeeks_76 rfl (nar_i _) rfl
        · refine r_iconst (v := (-1 : Int32)) dX9_reckonWeeks_29 rfl ?_
          exact r_ireturn (ty := .int) dX9_reckonWeeks_30 rfl (nar_i _) rfl
def f_X9_thrown (S : SI) (T : SL) (v1 : Int32) (v2 : Int32) (v3 : Int32) (v4 : Int32) (v5 : Int32) (v6 : Int32) : Option (Int32 × SI × SL) :=
  (f_X9_reckonWeeks S T v1 v2 v3 v4 v5 v6).bind fun q1 =>
  if q1.1 = 0 then
    (f_X8_firstWorthless q1.2.1 q1.2.2).bind fun q3 =>
    some (q3, q1.2.1, q1.2.2)
  else
    some (q1.1, q1.2.1, q1.2.2)
set_option maxHeartbeats 4000000 in
set_option maxRecDepth 100000 in
theorem m_X9_thrown (S : SI) (T : SL) (U : SI) (V : SL) (v1 : Int32) (v2 : Int32) (v3 : Int32) (v4 : Int32) (v5 : Int32) (v6 : Int32) : Meth 4 yX9_thrown cX9_thrown 8 (some .int) [.ref 0, .int v1, .int v2, .int v3, .int v4, .int v5, .int v6] (S, T, U, V) (f_X9_thrown S T v1 v2 v3 v4 v5 v6) (fun a : Int32 × SI × SL => (some (.int a.1), (a.2.1, a.2.2, U, V))) := by
  refine meth_of (L := [(0, .ref 0), (1, .int v1), (2, .int v2), (3, .int v3), (4, .int v4), (5, .int v5), (6, .int v6)]) (by decide +kernel) (Nat.le_of_ble_eq_true rfl) rfl ?_
  rw [f_X9_thrown]
  refine r_aload_n dX9_thrown_0 0 rfl rfl ?_
  refine r_iload_n dX9_thrown_1 1 rfl rfl ?_
  refine r_iload_n dX9_thrown_2 2 rfl rfl ?_
  refine r_iload_n dX9_thrown_3 3 rfl rfl ?_
  refine r_iload dX9_thrown_4 4 rfl ?_
  refine r_iload dX9_thrown_6 5 rfl ?_
  refine r_iload dX9_thrown_8 6 rfl ?_
  refine rVc_iB (as := [.int v1, .int v2, .int v3, .int v4, .int v5, .int v6]) (st := []) dX9_thrown_10 cl_X9_200 (by decide) rfl rfl (m_X9_reckonWeeks S T U V v1 v2 v3 v4 v5 v6) (by decide) rfl (Nat.le_of_ble_eq_true rfl) (fun q1 _ => ?_)
  refine r_istore (L' := [(7, .int q1.1), (0, .ref 0), (1, .int v1), (2, .int v2), (3, .int v3), (4, .int v4), (5, .int v5), (6, .int v6)]) dX9_thrown_13 (by decide) rfl ?_
  refine r_iload dX9_thrown_15 0 rfl ?_
  refine r_if_eq (tgt := 25) dX9_thrown_17 (by decide) (fun h2 => ?_) (fun h2 => ?_)
  · refine r_aload_n dX9_thrown_25 1 rfl rfl ?_
    refine r_getr dX9_thrown_26 fl_X9_43 (by decide) rfl rfl (by decide) ?_
    refine rV_i (as := []) (st := []) dX9_thrown_29 cl_X9_204 (by decide) rfl rfl (m_X8_firstWorthless q1.2.1 q1.2.2 U V) (by decide) rfl (Nat.le_of_ble_eq_true rfl) (fun q3 _ => ?_)
    exact r_ireturn (ty := .int) dX9_thrown_32 rfl (nar_i _) rfl
  · refine r_iload dX9_thrown_20 0 rfl ?_
    refine r_goto (tgt := 32) dX9_thrown_22 (by decide) ?_
    exact r_ireturn (ty := .int) dX9_thrown_32 rfl (nar_i _) rfl
def f_X9_worth (S : SI) (T : SL) (v1 : Int32) (v2 : Int32) (v3 : Int32) (v4 : Int32) (v5 : Int32) (v6 : Int32) (v7 : Int32) : Option (Int64 × SI × SL) :=
  (f_X9_within v7 (2 : Int32)).bind fun q1 =>
  if q1 = 0 then
    some ((-1 : Int64), S, T)
  else
    (f_X9_reckonWeeks S T v1 v2 v3 v4 v5 v6).bind fun q3 =>
    if q3.1 = 0 then
      gd (inB (0 : Int32) 9) <|
      (f_X9_inLowestTerms (q3.2.2 59 (ix (0 : Int32))) (q3.2.2 57 2) v7).bind fun q6 =>
      some (q6, q3.2.1, q3.2.2)
    else
      some (q3.1.toInt64, q3.2.1, q3.2.2)
set_option maxHeartbeats 4000000 in
set_option maxRecDepth 100000 in
theorem m_X9_worth (S : SI) (T : SL) (U : SI) (V : SL) (v1 : Int32) (v2 : Int32) (v3 : Int32) (v4 : Int32) (v5 : Int32) (v6 : Int32) (v7 : Int32) : Meth 4 yX9_worth cX9_worth 9 (some .long) [.ref 0, .int v1, .int v2, .int v3, .int v4, .int v5, .int v6, .int v7] (S, T, U, V) (f_X9_worth S T v1 v2 v3 v4 v5 v6 v7) (fun a : Int64 × SI × SL => (some (.long a.1), (a.2.1, a.2.2, U, V))) := by
  refine meth_of (L := [(0, .ref 0), (1, .int v1), (2, .int v2), (3, .int v3), (4, .int v4), (5, .int v5), (6, .int v6), (7, .int v7)]) (by decide +kernel) (Nat.le_of_ble_eq_true rfl) rfl ?_
  rw [f_X9_worth]
  refine r_iload dX9_worth_0 7 rfl ?_
  refine r_iconst (v := (2 : Int32)) dX9_worth_2 rfl ?_
  refine rS_i (as := [.int v7, .int (2 : Int32)]) (st := []) dX9_worth_3 cl_X9_75 (m_X9_within S T U V v7 (2 : Int32)) (by decide) rfl (Nat.le_of_ble_eq_true rfl) (fun q1 _ => ?_)
  refine r_if_ne (tgt := 13) dX9_worth_6 (by decide) (fun h2 => ?_) (fun h2 => ?_)
  · refine r_ldc2_w (v := (-1 : Int64)) dX9_worth_9 kw_X9_207 ?_
    exact r_lreturn dX9_worth_12 rfl rfl
  · refine r_aload_n dX9_worth_13 0 rfl rfl ?_
    refine r_iload_n dX9_worth_14 1 rfl rfl ?_
    refine r_iload_n dX9_worth_15 2 rfl rfl ?_
    refine r_iload_n dX9_worth_16 3 rfl rfl ?_
    refine r_iload dX9_worth_17 4 rfl ?_
    refine r_iload dX9_worth_19 5 rfl ?_
    refine r_iload dX9_worth_21 6 rfl ?_
    refine rVc_iB (as := [.int v1, .int v2, .int v3, .int v4, .int v5, .int v6]) (st := []) dX9_worth_23 cl_X9_200 (by decide) rfl rfl (m_X9_reckonWeeks S T U V v1 v2 v3 v4 v5 v6) (by decide) rfl (Nat.le_of_ble_eq_true rfl) (fun q3 _ => ?_)
    refine r_istore (L' := [(8, .int q3.1), (0, .ref 0), (1, .int v1), (2, .int v2), (3, .int v3), (4, .int v4), (5, .int v5), (6, .int v6), (7, .int v7)]) dX9_worth_26 (by decide) rfl ?_
    refine r_iload dX9_worth_28 0 rfl ?_
    refine r_if_eq (tgt := 39) dX9_worth_30 (by decide) (fun h4 => ?_) (fun h4 => ?_)
    · refine r_aload_n dX9_worth_39 1 rfl rfl ?_
      refine r_getr dX9_worth_40 fl_X9_43 (by decide) rfl rfl (by decide) ?_
      refine r_getr dX9_worth_43 fl_X9_209 (by decide) rfl rfl (by decide) ?_
      refine r_iconst (v := (0 : Int32)) dX9_worth_46 rfl ?_
      refine rc_lald dX9_worth_47 (by decide) (by decide) rfl (fun h5 => ?_)
      refine r_aload_n dX9_worth_48 1 rfl rfl ?_
      refine r_getr dX9_worth_49 fl_X9_43 (by decide) rfl rfl (by decide) ?_
      refine rc_getl dX9_worth_52 fl_X9_213 (by decide) (by decide) rfl rfl ?_
      refine r_iload dX9_worth_55 8 rfl ?_
      refine rS_l (as := [.long (q3.2.2 59 (ix (0 : Int32))), .long (q3.2.2 57 2), .int v7]) (st := []) dX9_worth_57 cl_X9_217 (m_X9_inLowestTerms q3.2.1 q3.2.2 U V (q3.2.2 59 (ix (0 : Int32))) (q3.2.2 57 2) v7) (by decide) rfl (Nat.le_of_ble_eq_true rfl) (fun q6 _ => ?_)
      exact r_lreturn dX9_worth_60 rfl rfl
    · refine r_iload dX9_worth_33 0 rfl ?_
      refine r_i2l dX9_worth_35 ?_
      refine r_goto (tgt := 60) dX9_worth_36 (by decide) ?_
      exact r_lreturn dX9_worth_60 rfl rfl
def f_X9_worst (S : SI) (T : SL) : Option (Int32 × SI × SL) :=
  (f_X0_lay S T).bind fun q1 =>
  (f_X0_longestPairless q1.1 q1.2).bind fun q2 =>
  nm (q2 + (1 : Int32)) fun x3 =>
  if x3 ≤ (q1.1 60 1) then
    some (x3, q1.1, q1.2)
  else
    some ((-4 : Int32), q1.1, q1.2)
set_option maxHeartbeats 4000000 in
set_option maxRecDepth 100000 in
theorem m_X9_worst (S : SI) (T : SL) (U : SI) (V : SL)  : Meth 5 yX9_worst cX9_worst 2 (some .int) [.ref 0] (S, T, U, V) (f_X9_worst S T) (fun a : Int32 × SI × SL => (some (.int a.1), (a.2.1, a.2.2, U, V))) := by
  refine meth_of (L := [(0, .ref 0)]) (by decide +kernel) (Nat.le_of_ble_eq_true rfl) rfl ?_
  rw [f_X9_worst]
  refine r_aload_n dX9_worst_0 0 rfl rfl ?_
  refine r_getr dX9_worst_1 fl_X9_50 (by decide) rfl rfl (by decide) ?_
  refine r_aload_n dX9_worst_4 0 rfl rfl ?_
  refine r_getr dX9_worst_5 fl_X9_10 (by decide) rfl rfl (by decide) ?_
  refine rVc_vB (as := [.ref 1]) (st := []) dX9_worst_8 cl_X9_221 (by decide) rfl rfl (m_X0_lay S T U V) (by decide) rfl (Nat.le_of_ble_eq_true rfl) (fun q1 _ => ?_)
  refine r_aload_n dX9_worst_11 0 rfl rfl ?_
  refine r_getr dX9_worst_12 fl_X9_50 (by decide) rfl rfl (by decide) ?_
  refine rV_i (as := []) (st := []) dX9_worst_15 cl_X9_224 (by decide) rfl rfl (m_X0_longestPairless q1.1 q1.2 U V) (by decide) rfl (Nat.le_of_ble_eq_true rfl) (fun q2 _ => ?_)
  refine r_iconst (v := (1 : Int32)) dX9_worst_18 rfl ?_
  refine r_iadd dX9_worst_19 ?_
  refine r_nmi (fun x3 => ?_)
  refine r_istore_n (L' := [(1, .int x3), (0, .ref 0)]) dX9_worst_20 rfl (by decide) rfl ?_
  refine r_iload_n dX9_worst_21 0 rfl rfl ?_
  refine r_aload_n dX9_worst_22 1 rfl rfl ?_
  refine r_getr dX9_worst_23 fl_X9_50 (by decide) rfl rfl (by decide) ?_
  refine rc_geti dX9_worst_26 fl_X9_227 (by decide) (by decide) rfl rfl ?_
  refine r_icmp_le (tgt := 37) dX9_worst_29 (by decide) (fun h4 => ?_) (fun h4 => ?_)
  · refine r_iload_n dX9_worst_37 0 rfl rfl ?_
    exact r_ireturn (ty := .int) dX9_worst_38 rfl (nar_i _) rfl
  · refine r_bipush (v := (-4 : Int32)) dX9_worst_32 rfl ?_
    refine r_goto (tgt := 38) dX9_worst_34 (by decide) ?_
    exact r_ireturn (ty := .int) dX9_worst_38 rfl (nar_i _) rfl
def f_X9_odds (S : SI) (T : SL) (v1 : Int32) (v2 : Int32) : Option (Int32 × SI × SL) :=
  (f_X9_within v1 (13 : Int32)).bind fun q1 =>
  if q1 = 0 then
    some ((-1 : Int32), S, T)
  else
    (f_X9_within v2 (2 : Int32)).bind fun q3 =>
    if q3 = 0 then
      some ((-1 : Int32), S, T)
    else
      (f_X0_lay S T).bind fun q5 =>
      if v1 ≤ (q5.1 60 1) then
        (f_X9_choose (q5.1 60 1) v1).bind fun q7 =>
        gd (inB v1 13) <|
        (f_X9_inLowestTerms (q7 - (q5.2 61 (ix v1))) q7 v2).bind fun q9 =>
        some (q9.toInt32, q5.1, q5.2)
      else
        some ((-2 : Int32), q5.1, q5.2)
set_option maxHeartbeats 4000000 in
set_option maxRecDepth 100000 in
theorem m_X9_odds (S : SI) (T : SL) (U : SI) (V : SL) (v1 : Int32) (v2 : Int32) : Meth 5 yX9_odds cX9_odds 5 (some .int) [.ref 0, .int v1, .int v2] (S, T, U, V) (f_X9_odds S T v1 v2) (fun a : Int32 × SI × SL => (some (.int a.1), (a.2.1, a.2.2, U, V))) := by
  refine meth_of (L := [(0, .ref 0), (1, .int v1), (2, .int v2)]) (by decide +kernel) (Nat.le_of_ble_eq_true rfl) rfl ?_
  rw [f_X9_odds]
  refine r_iload_n dX9_odds_0 1 rfl rfl ?_
  refine r_bipush (v := (13 : Int32)) dX9_odds_1 rfl ?_
  refine rS_i (as := [.int v1, .int (13 : Int32)]) (st := []) dX9_odds_3 cl_X9_75 (m_X9_within S T U V v1 (13 : Int32)) (by decide) rfl (Nat.le_of_ble_eq_true rfl) (fun q1 _ => ?_)
  refine r_if_eq (tgt := 17) dX9_odds_6 (by decide) (fun h2 => ?_) (fun h2 => ?_)
  · refine r_iconst (v := (-1 : Int32)) dX9_odds_17 rfl ?_
    exact r_ireturn (ty := .int) dX9_odds_18 rfl (nar_i _) rfl
  · refine r_iload_n dX9_odds_9 2 rfl rfl ?_
    refine r_iconst (v := (2 : Int32)) dX9_odds_10 rfl ?_
    refine rS_i (as := [.int v2, .int (2 : Int32)]) (st := []) dX9_odds_11 cl_X9_75 (m_X9_within S T U V v2 (2 : Int32)) (by decide) rfl (Nat.le_of_ble_eq_true rfl) (fun q3 _ => ?_)
    refine r_if_ne (tgt := 19) dX9_odds_14 (by decide) (fun h4 => ?_) (fun h4 => ?_)
    · refine r_iconst (v := (-1 : Int32)) dX9_odds_17 rfl ?_
      exact r_ireturn (ty := .int) dX9_odds_18 rfl (nar_i _) rfl
    · refine r_aload_n dX9_odds_19 0 rfl rfl ?_
      refine r_getr dX9_odds_20 fl_X9_50 (by decide) rfl rfl (by decide) ?_
      refine r_aload_n dX9_odds_23 0 rfl rfl ?_
      refine r_getr dX9_odds_24 fl_X9_10 (by decide) rfl rfl (by decide) ?_
      refine rVc_vB (as := [.ref 1]) (st := []) dX9_odds_27 cl_X9_221 (by decide) rfl rfl (m_X0_lay S T U V) (by decide) rfl (Nat.le_of_ble_eq_true rfl) (fun q5 _ => ?_)
      refine r_iload_n dX9_odds_30 1 rfl rfl ?_
      refine r_aload_n dX9_odds_31 0 rfl rfl ?_
      refine r_getr dX9_odds_32 fl_X9_50 (by decide) rfl rfl (by decide) ?_
      refine rc_geti dX9_odds_35 fl_X9_227 (by decide) (by decide) rfl rfl ?_
      refine r_icmp_le (tgt := 44) dX9_odds_38 (by decide) (fun h6 => ?_) (fun h6 => ?_)
      · refine r_aload_n dX9_odds_44 0 rfl rfl ?_
        refine r_getr dX9_odds_45 fl_X9_50 (by decide) rfl rfl (by decide) ?_
        refine rc_geti dX9_odds_48 fl_X9_227 (by decide) (by decide) rfl rfl ?_
        refine r_iload_n dX9_odds_51 1 rfl rfl ?_
        refine rS_l (as := [.int (q5.1 60 1), .int v1]) (st := []) dX9_odds_52 cl_X9_230 (m_X9_choose q5.1 q5.2 U V (q5.1 60 1) v1) (by decide) rfl (Nat.le_of_ble_eq_true rfl) (fun q7 _ => ?_)
        refine r_lstore_n (L' := [(3, .long q7), (0, .ref 0), (1, .int v1), (2, .int v2)]) dX9_odds_55 rfl (by decide) rfl ?_
        refine r_lload_n dX9_odds_56 0 rfl rfl ?_
        refine r_aload_n dX9_odds_57 1 rfl rfl ?_
        refine r_getr dX9_odds_58 fl_X9_50 (by decide) rfl rfl (by decide) ?_
        refine r_getr dX9_odds_61 fl_X9_234 (by decide) rfl rfl (by decide) ?_
        refine r_iload_n dX9_odds_64 2 rfl rfl ?_
        refine rc_lald dX9_odds_65 (by decide) (by decide) rfl (fun h8 => ?_)
        refine r_lsub dX9_odds_66 ?_
        refine r_lload_n dX9_odds_67 0 rfl rfl ?_
        refine r_iload_n dX9_odds_68 3 rfl rfl ?_
        refine rS_l (as := [.long (q7 - (q5.2 61 (ix v1))), .long q7, .int v2]) (st := []) dX9_odds_69 cl_X9_217 (m_X9_inLowestTerms q5.1 q5.2 U V (q7 - (q5.2 61 (ix v1))) q7 v2) (by decide) rfl (Nat.le_of_ble_eq_true rfl) (fun q9 _ => ?_)
        refine r_l2i dX9_odds_72 ?_
        exact r_ireturn (ty := .int) dX9_odds_73 rfl (nar_i _) rfl
      · refine r_bipush (v := (-2 : Int32)) dX9_odds_41 rfl ?_
        exact r_ireturn (ty := .int) dX9_odds_43 rfl (nar_i _) rfl
def f_X9_owns (S : SI) (v1 : Int32) (v2 : Int32) (v3 : Int32) (v4 : Int32) : Option (Int32 × SI) :=
  (f_X9_within v1 (3 : Int32)).bind fun q1 =>
  if q1 = 0 then
    some ((-1 : Int32), S)
  else
    (f_X9_within v2 (6 : Int32)).bind fun q3 =>
    if q3 = 0 then
      some ((-1 : Int32), S)
    else
      if v3 < 0 then
        some ((-1 : Int32), S)
      else
        if (12 : Int32) < v4 then
          some ((-1 : Int32), S)
        else
          if v3 ≤ v4 then
            nm ((v1 * (6 : Int32)) + v2) fun x8 =>
            gd (inB x8 18) <|
            gd (inB x8 18) <|
            nm ((S 6 (ix x8)) + ((16 : Int32) * (S 7 (ix x8)))) fun x11 =>
            gd (inB x8 18) <|
            nm (up2 S 6 (ix x8) v3) fun S13 =>
            gd (inB x8 18) <|
            nm (up2 S13 7 (ix x8) v4) fun S15 =>
            some (x11, S15)
          else
            some ((-1 : Int32), S)
set_option maxHeartbeats 4000000 in
set_option maxRecDepth 100000 in
theorem m_X9_owns (S : SI) (T : SL) (U : SI) (V : SL) (v1 : Int32) (v2 : Int32) (v3 : Int32) (v4 : Int32) : Meth 2 yX9_owns cX9_owns 7 (some .int) [.ref 0, .int v1, .int v2, .int v3, .int v4] (S, T, U, V) (f_X9_owns S v1 v2 v3 v4) (fun a : Int32 × SI => (some (.int a.1), (a.2, T, U, V))) := by
  refine meth_of (L := [(0, .ref 0), (1, .int v1), (2, .int v2), (3, .int v3), (4, .int v4)]) (by decide +kernel) (Nat.le_of_ble_eq_true rfl) rfl ?_
  rw [f_X9_owns]
  refine r_iload_n dX9_owns_0 1 rfl rfl ?_
  refine r_iconst (v := (3 : Int32)) dX9_owns_1 rfl ?_
  refine rS_i (as := [.int v1, .int (3 : Int32)]) (st := []) dX9_owns_2 cl_X9_75 (m_X9_within S T U V v1 (3 : Int32)) (by decide) rfl (Nat.le_of_ble_eq_true rfl) (fun q1 _ => ?_)
  refine r_if_eq (tgt := 17) dX9_owns_5 (by decide) (fun h2 => ?_) (fun h2 => ?_)
  · refine r_iconst (v := (-1 : Int32)) dX9_owns_17 rfl ?_
    exact r_ireturn (ty := .int) dX9_owns_18 rfl (nar_i _) rfl
  · refine r_iload_n dX9_owns_8 2 rfl rfl ?_
    refine r_bipush (v := (6 : Int32)) dX9_owns_9 rfl ?_
    refine rS_i (as := [.int v2, .int (6 : Int32)]) (st := []) dX9_owns_11 cl_X9_75 (m_X9_within S T U V v2 (6 : Int32)) (by decide) rfl (Nat.le_of_ble_eq_true rfl) (fun q3 _ => ?_)
    refine r_if_ne (tgt := 19) dX9_owns_14 (by decide) (fun h4 => ?_) (fun h4 => ?_)
    · refine r_iconst (v := (-1 : Int32)) dX9_owns_17 rfl ?_
      exact r_ireturn (ty := .int) dX9_owns_18 rfl (nar_i _) rfl
    · refine r_iload_n dX9_owns_19 3 rfl rfl ?_
      refine r_if_lt (tgt := 36) dX9_owns_20 (by decide) (fun h5 => ?_) (fun h5 => ?_)
      · refine r_iconst (v := (-1 : Int32)) dX9_owns_36 rfl ?_
        exact r_ireturn (ty := .int) dX9_owns_37 rfl (nar_i _) rfl
      · refine r_iload dX9_owns_23 4 rfl ?_
        refine r_bipush (v := (12 : Int32)) dX9_owns_25 rfl ?_
        refine r_icmp_gt (tgt := 36) dX9_owns_27 (by decide) (fun h6 => ?_) (fun h6 => ?_)
        · refine r_iconst (v := (-1 : Int32)) dX9_owns_36 rfl ?_
          exact r_ireturn (ty := .int) dX9_owns_37 rfl (nar_i _) rfl
        · refine r_iload_n dX9_owns_30 3 rfl rfl ?_
          refine r_iload dX9_owns_31 4 rfl ?_
          refine r_icmp_le (tgt := 38) dX9_owns_33 (by decide) (fun h7 => ?_) (fun h7 => ?_)
          · refine r_iload_n dX9_owns_38 1 rfl rfl ?_
            refine r_bipush (v := (6 : Int32)) dX9_owns_39 rfl ?_
            refine r_imul dX9_owns_41 ?_
            refine r_iload_n dX9_owns_42 2 rfl rfl ?_
            refine r_iadd dX9_owns_43 ?_
            refine r_nmi (fun x8 => ?_)
            refine r_istore (L' := [(5, .int x8), (0, .ref 0), (1, .int v1), (2, .int v2), (3, .int v3), (4, .int v4)]) dX9_owns_44 (by decide) rfl ?_
            refine r_aload_n dX9_owns_46 1 rfl rfl ?_
            refine r_getr dX9_owns_47 fl_X9_10 (by decide) rfl rfl (by decide) ?_
            refine r_getr dX9_owns_50 fl_X9_237 (by decide) rfl rfl (by decide) ?_
            refine r_iload dX9_owns_53 0 rfl ?_
            refine rc_iald dX9_owns_55 (by decide) (by decide) rfl (fun h9 => ?_)
            refine r_bipush (v := (16 : Int32)) dX9_owns_56 rfl ?_
            refine r_aload_n dX9_owns_58 1 rfl rfl ?_
            refine r_getr dX9_owns_59 fl_X9_10 (by decide) rfl rfl (by decide) ?_
            refine r_getr dX9_owns_62 fl_X9_240 (by decide) rfl rfl (by decide) ?_
            refine r_iload dX9_owns_65 0 rfl ?_
            refine rc_iald dX9_owns_67 (by decide) (by decide) rfl (fun h10 => ?_)
            refine r_imul dX9_owns_68 ?_
            refine r_iadd dX9_owns_69 ?_
            refine r_nmi (fun x11 => ?_)
            refine r_istore (L' := [(6, .int x11), (5, .int x8), (0, .ref 0), (1, .int v1), (2, .int v2), (3, .int v3), (4, .int v4)]) dX9_owns_70 (by decide) rfl ?_
            refine r_aload_n dX9_owns_72 2 rfl rfl ?_
            refine r_getr dX9_owns_73 fl_X9_10 (by decide) rfl rfl (by decide) ?_
            refine r_getr dX9_owns_76 fl_X9_237 (by decide) rfl rfl (by decide) ?_
            refine r_iload dX9_owns_79 1 rfl ?_
            refine r_iload_n dX9_owns_81 5 rfl rfl ?_
            refine rc_iast dX9_owns_82 (by decide) (by decide) rfl (fun h12 => ?_)
            refine r_nmS (fun S13 => ?_)
            refine r_aload_n dX9_owns_83 2 rfl rfl ?_
            refine r_getr dX9_owns_84 fl_X9_10 (by decide) rfl rfl (by decide) ?_
            refine r_getr dX9_owns_87 fl_X9_240 (by decide) rfl rfl (by decide) ?_
            refine r_iload dX9_owns_90 1 rfl ?_
            refine r_iload dX9_owns_92 6 rfl ?_
            refine rc_iast dX9_owns_94 (by decide) (by decide) rfl (fun h14 => ?_)
            refine r_nmS (fun S15 => ?_)
            refine r_iload dX9_owns_95 0 rfl ?_
            exact r_ireturn (ty := .int) dX9_owns_97 rfl (nar_i _) rfl
          · refine r_iconst (v := (-1 : Int32)) dX9_owns_36 rfl ?_
            exact r_ireturn (ty := .int) dX9_owns_37 rfl (nar_i _) rfl
def f_X9_may (S : SI) (v1 : Int32) (v2 : Int32) : Option (Int32 × SI) :=
  (f_X9_isSock S v1).bind fun q1 =>
  if q1 = 0 then
    some ((-1 : Int32), S)
  else
    if v2 < (1 : Int32) then
      some ((-1 : Int32), S)
    else
      if v2 ≤ (7 : Int32) then
        gd (inB v1 12) <|
        nm (S (9 + ix v1) 7) fun x6 =>
        gd (inB v1 12) <|
        nm (up2 S (9 + ix v1) 7 v2) fun S8 =>
        some (x6, S8)
      else
        some ((-1 : Int32), S)
set_option maxHeartbeats 4000000 in
set_option maxRecDepth 100000 in
theorem m_X9_may (S : SI) (T : SL) (U : SI) (V : SL) (v1 : Int32) (v2 : Int32) : Meth 3 yX9_may cX9_may 4 (some .int) [.ref 0, .int v1, .int v2] (S, T, U, V) (f_X9_may S v1 v2) (fun a : Int32 × SI => (some (.int a.1), (a.2, T, U, V))) := by
  refine meth_of (L := [(0, .ref 0), (1, .int v1), (2, .int v2)]) (by decide +kernel) (Nat.le_of_ble_eq_true rfl) rfl ?_
  rw [f_X9_may]
  refine r_aload_n dX9_may_0 0 rfl rfl ?_
  refine r_iload_n dX9_may_1 1 rfl rfl ?_
  refine rV_i (as := [.int v1]) (st := []) dX9_may_2 cl_X9_106 (by decide) rfl rfl (m_X9_isSock S T U V v1) (by decide) rfl (Nat.le_of_ble_eq_true rfl) (fun q1 _ => ?_)
  refine r_if_eq (tgt := 19) dX9_may_5 (by decide) (fun h2 => ?_) (fun h2 => ?_)
  · refine r_iconst (v := (-1 : Int32)) dX9_may_19 rfl ?_
    exact r_ireturn (ty := .int) dX9_may_20 rfl (nar_i _) rfl
  · refine r_iload_n dX9_may_8 2 rfl rfl ?_
    refine r_iconst (v := (1 : Int32)) dX9_may_9 rfl ?_
    refine r_icmp_lt (tgt := 19) dX9_may_10 (by decide) (fun h3 => ?_) (fun h3 => ?_)
    · refine r_iconst (v := (-1 : Int32)) dX9_may_19 rfl ?_
      exact r_ireturn (ty := .int) dX9_may_20 rfl (nar_i _) rfl
    · refine r_iload_n dX9_may_13 2 rfl rfl ?_
      refine r_bipush (v := (7 : Int32)) dX9_may_14 rfl ?_
      refine r_icmp_le (tgt := 21) dX9_may_16 (by decide) (fun h4 => ?_) (fun h4 => ?_)
      · refine r_aload_n dX9_may_21 0 rfl rfl ?_
        refine r_getr dX9_may_22 fl_X9_10 (by decide) rfl rfl (by decide) ?_
        refine r_getr dX9_may_25 fl_X9_114 (by decide) rfl rfl (by decide) ?_
        refine r_iload_n dX9_may_28 1 rfl rfl ?_
        refine r_aald (x := 9 + ix v1) dX9_may_29 (by decide) rfl (by decide) (by decide) rfl (fun h5 => ?_)
        refine rc_geti dX9_may_30 fl_X9_243 (isS_9 h5).1 (isS_9 h5).a (isS_9 h5).2 rfl ?_
        refine r_nmi (fun x6 => ?_)
        refine r_istore_n (L' := [(3, .int x6), (0, .ref 0), (1, .int v1), (2, .int v2)]) dX9_may_33 rfl (by decide) rfl ?_
        refine r_aload_n dX9_may_34 1 rfl rfl ?_
        refine r_getr dX9_may_35 fl_X9_10 (by decide) rfl rfl (by decide) ?_
        refine r_getr dX9_may_38 fl_X9_114 (by decide) rfl rfl (by decide) ?_
        refine r_iload_n dX9_may_41 2 rfl rfl ?_
        refine r_aald (x := 9 + ix v1) dX9_may_42 (by decide) rfl (by decide) (by decide) rfl (fun h7 => ?_)
        refine r_iload_n dX9_may_43 3 rfl rfl ?_
        refine rc_puti (ty := .int) dX9_may_44 fp_X9_243 (nar_i _) (fit_i _) (isS_9 h7).1 (isS_9 h7).a (isS_9 h7).2 rfl ?_
        refine r_nmS (fun S8 => ?_)
        refine r_iload_n dX9_may_47 0 rfl rfl ?_
        exact r_ireturn (ty := .int) dX9_may_48 rfl (nar_i _) rfl
      · refine r_iconst (v := (-1 : Int32)) dX9_may_19 rfl ?_
        exact r_ireturn (ty := .int) dX9_may_20 rfl (nar_i _) rfl
def f_X9_bind (S : SI) (v1 : Int32) (v2 : Int32) : Option (Int32 × SI) :=
  (f_X9_areTwo S v1 v2).bind fun q1 =>
  if q1 = 0 then
    some ((-1 : Int32), S)
  else
    gd (inB v1 12) <|
    gd (inB v2 12) <|
    if (S (9 + ix v1) 0) = (S (9 + ix v2) 0) then
      (f_X1_join S v1 v2).bind fun q6 =>
      if q6.1 = 0 then
        some ((-4 : Int32), q6.2)
      else
        some ((1 : Int32), q6.2)
    else
      some ((-2 : Int32), S)
set_option maxHeartbeats 4000000 in
set_option maxRecDepth 100000 in
theorem m_X9_bind (S : SI) (T : SL) (U : SI) (V : SL) (v1 : Int32) (v2 : Int32) : Meth 4 yX9_bind cX9_bind 3 (some .int) [.ref 0, .int v1, .int v2] (S, T, U, V) (f_X9_bind S v1 v2) (fun a : Int32 × SI => (some (.int a.1), (a.2, T, U, V))) := by
  refine meth_of (L := [(0, .ref 0), (1, .int v1), (2, .int v2)]) (by decide +kernel) (Nat.le_of_ble_eq_true rfl) rfl ?_
  rw [f_X9_bind]
  refine r_aload_n dX9_bind_0 0 rfl rfl ?_
  refine r_iload_n dX9_bind_1 1 rfl rfl ?_
  refine r_iload_n dX9_bind_2 2 rfl rfl ?_
  refine rV_i (as := [.int v1, .int v2]) (st := []) dX9_bind_3 cl_X9_149 (by decide) rfl rfl (m_X9_areTwo S T U V v1 v2) (by decide) rfl (Nat.le_of_ble_eq_true rfl) (fun q1 _ => ?_)
  refine r_if_ne (tgt := 11) dX9_bind_6 (by decide) (fun h2 => ?_) (fun h2 => ?_)
  · refine r_iconst (v := (-1 : Int32)) dX9_bind_9 rfl ?_
    exact r_ireturn (ty := .int) dX9_bind_10 rfl (nar_i _) rfl
  · refine r_aload_n dX9_bind_11 0 rfl rfl ?_
    refine r_getr dX9_bind_12 fl_X9_10 (by decide) rfl rfl (by decide) ?_
    refine r_getr dX9_bind_15 fl_X9_114 (by decide) rfl rfl (by decide) ?_
    refine r_iload_n dX9_bind_18 1 rfl rfl ?_
    refine r_aald (x := 9 + ix v1) dX9_bind_19 (by decide) rfl (by decide) (by decide) rfl (fun h3 => ?_)
    refine rc_geti dX9_bind_20 fl_X9_246 (isS_9 h3).1 (isS_9 h3).a (isS_9 h3).2 rfl ?_
    refine r_aload_n dX9_bind_23 0 rfl rfl ?_
    refine r_getr dX9_bind_24 fl_X9_10 (by decide) rfl rfl (by decide) ?_
    refine r_getr dX9_bind_27 fl_X9_114 (by decide) rfl rfl (by decide) ?_
    refine r_iload_n dX9_bind_30 2 rfl rfl ?_
    refine r_aald (x := 9 + ix v2) dX9_bind_31 (by decide) rfl (by decide) (by decide) rfl (fun h4 => ?_)
    refine rc_geti dX9_bind_32 fl_X9_246 (isS_9 h4).1 (isS_9 h4).a (isS_9 h4).2 rfl ?_
    refine r_icmp_eq (tgt := 41) dX9_bind_35 (by decide) (fun h5 => ?_) (fun h5 => ?_)
    · refine r_aload_n dX9_bind_41 0 rfl rfl ?_
      refine r_getr dX9_bind_42 fl_X9_10 (by decide) rfl rfl (by decide) ?_
      refine r_iload_n dX9_bind_45 1 rfl rfl ?_
      refine r_iload_n dX9_bind_46 2 rfl rfl ?_
      refine rVc_iS (as := [.int v1, .int v2]) (st := []) dX9_bind_47 cl_X9_249 (by decide) rfl rfl (m_X1_join S T U V v1 v2) (by decide) rfl (Nat.le_of_ble_eq_true rfl) (fun q6 _ => ?_)
      refine r_if_eq (tgt := 57) dX9_bind_50 (by decide) (fun h7 => ?_) (fun h7 => ?_)
      · refine r_bipush (v := (-4 : Int32)) dX9_bind_57 rfl ?_
        exact r_ireturn (ty := .int) dX9_bind_59 rfl (nar_i _) rfl
      · refine r_iconst (v := (1 : Int32)) dX9_bind_53 rfl ?_
        refine r_goto (tgt := 59) dX9_bind_54 (by decide) ?_
        exact r_ireturn (ty := .int) dX9_bind_59 rfl (nar_i _) rfl
    · refine r_bipush (v := (-2 : Int32)) dX9_bind_38 rfl ?_
      exact r_ireturn (ty := .int) dX9_bind_40 rfl (nar_i _) rfl
def f_X9_ways (S : SI) (T : SL) : Option (Int64 × SL) :=
  (f_X2_waysIf S T (-4 : Int32) (7 : Int32)).bind fun q1 =>
  some (q1.1, q1.2)
set_option maxHeartbeats 4000000 in
set_option maxRecDepth 100000 in
theorem m_X9_ways (S : SI) (T : SL) (U : SI) (V : SL)  : Meth 5 yX9_ways cX9_ways 1 (some .long) [.ref 0] (S, T, U, V) (f_X9_ways S T) (fun a : Int64 × SL => (some (.long a.1), (S, a.2, U, V))) := by
  refine meth_of (L := [(0, .ref 0)]) (by decide +kernel) (Nat.le_of_ble_eq_true rfl) rfl ?_
  rw [f_X9_ways]
  refine r_aload_n dX9_ways_0 0 rfl rfl ?_
  refine r_getr dX9_ways_1 fl_X9_57 (by decide) rfl rfl (by decide) ?_
  refine r_aload_n dX9_ways_4 0 rfl rfl ?_
  refine r_getr dX9_ways_5 fl_X9_10 (by decide) rfl rfl (by decide) ?_
  refine r_bipush (v := (-4 : Int32)) dX9_ways_8 rfl ?_
  refine r_bipush (v := (7 : Int32)) dX9_ways_10 rfl ?_
  refine rVc_lT (as := [.ref 1, .int (-4 : Int32), .int (7 : Int32)]) (st := []) dX9_ways_12 cl_X9_252 (by decide) rfl rfl (m_X2_waysIf S T U V (-4 : Int32) (7 : Int32)) (by decide) rfl (Nat.le_of_ble_eq_true rfl) (fun q1 _ => ?_)
  exact r_lreturn dX9_ways_15 rfl rfl
def f_X9_whose_14 (S : SI) (v1 : Int32) (ke51 : Int32 → SL → Option (Int32 × SL)) : Nat → Int32 → Int32 → SL → Option (Int32 × SL)
  | 0, _, _, _ => none
  | m_ + 1, v2, v3, T =>
    if (3 : Int32) ≤ v3 then
      ke51 v2 T
    else
      (f_X2_waysIf S T v1 ((1 : Int32) <<< (v3 &&& 31))).bind fun q4 =>
      if q4.1 ≤ (0 : Int64) then
        (f_X9_whose_14 S v1 ke51 m_) v2 (v3 + (1 : Int32)) q4.2
      else
        nm (v2 ||| ((1 : Int32) <<< (v3 &&& 31))) fun x6 =>
        (f_X9_whose_14 S v1 ke51 m_) x6 (v3 + (1 : Int32)) q4.2
set_option maxHeartbeats 4000000 in
set_option maxRecDepth 100000 in
theorem t_X9_whose_14 (S : SI) (U : SI) (V : SL) (v1 : Int32) (ke51 : Int32 → SL → Option (Int32 × SL)) (hke51 : ∀ (w2 : Int32) (T' : SL), Run 5 yX9_whose cX9_whose 4 (some .int) none (fun a : Int32 × SL => (some (.int a.1), (S, a.2, U, V))) 51 [(2, .int w2)] [] (S, T', U, V) (ke51 w2 T')) : ∀ (m_ : Nat) (v2 : Int32) (v3 : Int32) (T : SL), Run 5 yX9_whose cX9_whose 4 (some .int) none (fun a : Int32 × SL => (some (.int a.1), (S, a.2, U, V))) 14 [(0, .ref 0), (1, .int v1), (2, .int v2), (3, .int v3)] [] (S, T, U, V) (f_X9_whose_14 S v1 ke51 m_ v2 v3 T) := by
  intro m_
  induction m_ with
  | zero =>
    intro v2 v3 T
    rw [f_X9_whose_14]
    exact r_none
  | succ m_ ih =>
    intro v2 v3 T
    rw [f_X9_whose_14]
    refine r_iload_n dX9_whose_14 3 rfl rfl ?_
    refine r_iconst (v := (3 : Int32)) dX9_whose_15 rfl ?_
    refine r_icmp_ge (tgt := 51) dX9_whose_16 (by decide) (fun h3 => ?_) (fun h3 => ?_)
    · exact r_pick [2] rfl (hke51 v2 T)
    · refine r_aload_n dX9_whose_19 0 rfl rfl ?_
      refine r_getr dX9_whose_20 fl_X9_57 (by decide) rfl rfl (by decide) ?_
      refine r_aload_n dX9_whose_23 0 rfl rfl ?_
      refine r_getr dX9_whose_24 fl_X9_10 (by decide) rfl rfl (by decide) ?_
      refine r_iload_n dX9_whose_27 1 rfl rfl ?_
      refine r_iconst (v := (1 : Int32)) dX9_whose_28 rfl ?_
      refine r_iload_n dX9_whose_29 3 rfl rfl ?_
      refine r_ishl dX9_whose_30 ?_
      refine rVc_lT (as := [.ref 1, .int v1, .int ((1 : Int32) <<< (v3 &&& 31))]) (st := []) dX9_whose_31 cl_X9_252 (by decide) rfl rfl (m_X2_waysIf S T U V v1 ((1 : Int32) <<< (v3 &&& 31))) (by decide) rfl (Nat.le_of_ble_eq_true rfl) (fun q4 _ => ?_)
      refine r_lconst (v := (0 : Int64)) dX9_whose_34 rfl ?_
      refine r_lcmp_le (tgt := 45) dX9_whose_35 dX9_whose_36 (by decide) (fun h5 => ?_) (fun h5 => ?_)
      · refine r_iinc (v := v3 + (1 : Int32)) (L' := [(3, .int (v3 + (1 : Int32))), (0, .ref 0), (1, .int v1), (2, .int v2)]) dX9_whose_45 3 rfl rfl (by decide) rfl ?_
        refine r_goto (tgt := 14) dX9_whose_48 (by decide) ?_
        exact r_pick [1, 2, 3, 0] rfl (ih v2 (v3 + (1 : Int32)) q4.2)
      · refine r_iload_n dX9_whose_39 2 rfl rfl ?_
        refine r_iconst (v := (1 : Int32)) dX9_whose_40 rfl ?_
        refine r_iload_n dX9_whose_41 3 rfl rfl ?_
        refine r_ishl dX9_whose_42 ?_
        refine r_ior dX9_whose_43 ?_
        refine r_nmi (fun x6 => ?_)
        refine r_istore_n (L' := [(2, .int x6), (0, .ref 0), (1, .int v1), (3, .int v3)]) dX9_whose_44 rfl (by decide) rfl ?_
        refine r_iinc (v := v3 + (1 : Int32)) (L' := [(3, .int (v3 + (1 : Int32))), (2, .int x6), (0, .ref 0), (1, .int v1)]) dX9_whose_45 3 rfl rfl (by decide) rfl ?_
        refine r_goto (tgt := 14) dX9_whose_48 (by decide) ?_
        exact r_pick [2, 3, 1, 0] rfl (ih x6 (v3 + (1 : Int32)) q4.2)
def f_X9_whose_51 (T : SL) (v2 : Int32) : Option (Int32 × SL) :=
  if v2 = 0 then
    some ((-4 : Int32), T)
  else
    some (v2, T)
set_option maxHeartbeats 4000000 in
set_option maxRecDepth 100000 in
theorem t_X9_whose_51 (S : SI) (T : SL) (U : SI) (V : SL) (v2 : Int32) : Run 5 yX9_whose cX9_whose 4 (some .int) none (fun a : Int32 × SL => (some (.int a.1), (S, a.2, U, V))) 51 [(2, .int v2)] [] (S, T, U, V) (f_X9_whose_51 T v2) := by
  rw [f_X9_whose_51]
  refine r_iload_n dX9_whose_51 0 rfl rfl ?_
  refine r_if_ne (tgt := 60) dX9_whose_52 (by decide) (fun h7 => ?_) (fun h7 => ?_)
  · refine r_bipush (v := (-4 : Int32)) dX9_whose_55 rfl ?_
    refine r_goto (tgt := 61) dX9_whose_57 (by decide) ?_
    exact r_ireturn (ty := .int) dX9_whose_61 rfl (nar_i _) rfl
  · refine r_iload_n dX9_whose_60 0 rfl rfl ?_
    exact r_ireturn (ty := .int) dX9_whose_61 rfl (nar_i _) rfl
def f_X9_whose (S : SI) (T : SL) (v1 : Int32) : Option (Int32 × SL) :=
  (f_X9_isSock S v1).bind fun q1 =>
  if q1 = 0 then
    some ((-1 : Int32), T)
  else
    f_X9_whose_14 S v1 (fun o2 To => f_X9_whose_51 To o2) fu (0 : Int32) (0 : Int32) T
set_option maxHeartbeats 4000000 in
set_option maxRecDepth 100000 in
theorem m_X9_whose (S : SI) (T : SL) (U : SI) (V : SL) (v1 : Int32) : Meth 5 yX9_whose cX9_whose 4 (some .int) [.ref 0, .int v1] (S, T, U, V) (f_X9_whose S T v1) (fun a : Int32 × SL => (some (.int a.1), (S, a.2, U, V))) := by
  refine meth_of (L := [(0, .ref 0), (1, .int v1)]) (by decide +kernel) (Nat.le_of_ble_eq_true rfl) rfl ?_
  rw [f_X9_whose]
  refine r_aload_n dX9_whose_0 0 rfl rfl ?_
  refine r_iload_n dX9_whose_1 1 rfl rfl ?_
  refine rV_i (as := [.int v1]) (st := []) dX9_whose_2 cl_X9_106 (by decide) rfl rfl (m_X9_isSock S T U V v1) (by decide) rfl (Nat.le_of_ble_eq_true rfl) (fun q1 _ => ?_)
  refine r_if_ne (tgt := 10) dX9_whose_5 (by decide) (fun h2 => ?_) (fun h2 => ?_)
  · refine r_iconst (v := (-1 : Int32)) dX9_whose_8 rfl ?_
    exact r_ireturn (ty := .int) dX9_whose_9 rfl (nar_i _) rfl
  · refine r_iconst (v := (0 : Int32)) dX9_whose_10 rfl ?_
    refine r_istore_n (L' := [(2, .int (0 : Int32)), (0, .ref 0), (1, .int v1)]) dX9_whose_11 rfl (by decide) rfl ?_
    refine r_iconst (v := (0 : Int32)) dX9_whose_12 rfl ?_
    refine r_istore_n (L' := [(3, .int (0 : Int32)), (2, .int (0 : Int32)), (0, .ref 0), (1, .int v1)]) dX9_whose_13 rfl (by decide) rfl ?_
    exact r_pick [2, 3, 1, 0] rfl (t_X9_whose_14 S U V v1 (fun o2 To => f_X9_whose_51 To o2) (fun o2 To => r_pick [0] rfl (t_X9_whose_51 S To U V o2)) fu (0 : Int32) (0 : Int32) T)
def f_X9_seldom_59 (S : SI) (v4 : Int32) (v5 : Int32) (ke103 : Int64 → Option (Int32)) : Nat → Int64 → Int32 → Option (Int32)
  | 0, _, _ => none
  | m_ + 1, v6, v8 =>
    if v4 < v8 then
      ke103 v6
    else
      (f_X9_choose v5 v8).bind fun q10 =>
      (f_X9_choose ((S 1 1) - v5) (v4 - v8)).bind fun q11 =>
      nm (v6 + (q10 * q11)) fun x12 =>
      (f_X9_seldom_59 S v4 v5 ke103 m_) x12 (v8 + (1 : Int32))
set_option maxHeartbeats 4000000 in
set_option maxRecDepth 100000 in
theorem t_X9_seldom_59 (S : SI) (T : SL) (U : SI) (V : SL) (v1 : Int32) (v4 : Int32) (v5 : Int32) (ke103 : Int64 → Option (Int32)) (hke103 : ∀ (w6 : Int64), Run 4 yX9_seldom cX9_seldom 9 (some .int) none (fun a : Int32 => (some (.int a), (S, T, U, V))) 103 [(0, .ref 0), (1, .int v1), (4, .int v4), (6, .long w6)] [] (S, T, U, V) (ke103 w6)) : ∀ (m_ : Nat) (v6 : Int64) (v8 : Int32), Run 4 yX9_seldom cX9_seldom 9 (some .int) none (fun a : Int32 => (some (.int a), (S, T, U, V))) 59 [(0, .ref 0), (1, .int v1), (4, .int v4), (5, .int v5), (6, .long v6), (8, .int v8)] [] (S, T, U, V) (f_X9_seldom_59 S v4 v5 ke103 m_ v6 v8) := by
  intro m_
  induction m_ with
  | zero =>
    intro v6 v8
    rw [f_X9_seldom_59]
    exact r_none
  | succ m_ ih =>
    intro v6 v8
    rw [f_X9_seldom_59]
    refine r_iload dX9_seldom_59 5 rfl ?_
    refine r_iload dX9_seldom_61 2 rfl ?_
    refine r_icmp_gt (tgt := 103) dX9_seldom_63 (by decide) (fun h9 => ?_) (fun h9 => ?_)
    · exact r_pick [0, 1, 2, 4] rfl (hke103 v6)
    · refine r_lload dX9_seldom_66 4 rfl ?_
      refine r_iload dX9_seldom_68 3 rfl ?_
      refine r_iload dX9_seldom_70 5 rfl ?_
      refine rS_l (as := [.int v5, .int v8]) (st := [.long v6]) dX9_seldom_72 cl_X9_230 (m_X9_choose S T U V v5 v8) (by decide) rfl (Nat.le_of_ble_eq_true rfl) (fun q10 _ => ?_)
      refine r_aload_n dX9_seldom_75 0 rfl rfl ?_
      refine r_getr dX9_seldom_76 fl_X9_10 (by decide) rfl rfl (by decide) ?_
      refine rc_geti dX9_seldom_79 fl_X9_99 (by decide) (by decide) rfl rfl ?_
      refine r_iload dX9_seldom_82 3 rfl ?_
      refine r_isub dX9_seldom_84 ?_
      refine r_iload dX9_seldom_85 2 rfl ?_
      refine r_iload dX9_seldom_87 5 rfl ?_
      refine r_isub dX9_seldom_89 ?_
      refine rS_l (as := [.int ((S 1 1) - v5), .int (v4 - v8)]) (st := [.long q10, .long v6]) dX9_seldom_90 cl_X9_230 (m_X9_choose S T U V ((S 1 1) - v5) (v4 - v8)) (by decide) rfl (Nat.le_of_ble_eq_true rfl) (fun q11 _ => ?_)
      refine r_lmul dX9_seldom_93 ?_
      refine r_ladd dX9_seldom_94 ?_
      refine r_nml (fun x12 => ?_)
      refine r_lstore (L' := [(6, .long x12), (0, .ref 0), (1, .int v1), (4, .int v4), (5, .int v5), (8, .int v8)]) dX9_seldom_95 (by decide) rfl ?_
      refine r_iinc (v := v8 + (1 : Int32)) (L' := [(8, .int (v8 + (1 : Int32))), (6, .long x12), (0, .ref 0), (1, .int v1), (4, .int v4), (5, .int v5)]) dX9_seldom_97 5 rfl rfl (by decide) rfl ?_
      refine r_goto (tgt := 59) dX9_seldom_100 (by decide) ?_
      exact r_pick [2, 3, 4, 5, 1, 0] rfl (ih x12 (v8 + (1 : Int32)))
def f_X9_seldom_103 (S : SI) (v1 : Int32) (v4 : Int32) (v6 : Int64) : Option (Int32) :=
  (f_X9_choose (S 1 1) v4).bind fun q13 =>
  (f_X9_inLowestTerms v6 q13 v1).bind fun q14 =>
  some q14.toInt32
set_option maxHeartbeats 4000000 in
set_option maxRecDepth 100000 in
theorem t_X9_seldom_103 (S : SI) (T : SL) (U : SI) (V : SL) (v1 : Int32) (v4 : Int32) (v6 : Int64) : Run 4 yX9_seldom cX9_seldom 9 (some .int) none (fun a : Int32 => (some (.int a), (S, T, U, V))) 103 [(0, .ref 0), (1, .int v1), (4, .int v4), (6, .long v6)] [] (S, T, U, V) (f_X9_seldom_103 S v1 v4 v6) := by
  rw [f_X9_seldom_103]
  refine r_lload dX9_seldom_103 3 rfl ?_
  refine r_aload_n dX9_seldom_105 0 rfl rfl ?_
  refine r_getr dX9_seldom_106 fl_X9_10 (by decide) rfl rfl (by decide) ?_
  refine rc_geti dX9_seldom_109 fl_X9_99 (by decide) (by decide) rfl rfl ?_
  refine r_iload dX9_seldom_112 2 rfl ?_
  refine rS_l (as := [.int (S 1 1), .int v4]) (st := [.long v6]) dX9_seldom_114 cl_X9_230 (m_X9_choose S T U V (S 1 1) v4) (by decide) rfl (Nat.le_of_ble_eq_true rfl) (fun q13 _ => ?_)
  refine r_iload_n dX9_seldom_117 1 rfl rfl ?_
  refine rS_l (as := [.long v6, .long q13, .int v1]) (st := []) dX9_seldom_118 cl_X9_217 (m_X9_inLowestTerms S T U V v6 q13 v1) (by decide) rfl (Nat.le_of_ble_eq_true rfl) (fun q14 _ => ?_)
  refine r_l2i dX9_seldom_121 ?_
  exact r_ireturn (ty := .int) dX9_seldom_122 rfl (nar_i _) rfl
def f_X9_seldom (S : SI) (v1 : Int32) : Option (Int32) :=
  (f_X9_within v1 (2 : Int32)).bind fun q1 =>
  if q1 = 0 then
    some (-1 : Int32)
  else
    (f_X1_placed S (1 : Int32)).bind fun q3 =>
    if q3 = 0 then
      some (-2 : Int32)
    else
      (f_X1_having S (1 : Int32) (0 : Int32)).bind fun q5 =>
      (f_J6_bitCount_0f7a4 q3).bind fun q6 =>
      (f_J6_bitCount_0f7a4 q5).bind fun q7 =>
      (f_J6_bitCount_0f7a4 (q3 &&& q5)).bind fun q8 =>
      f_X9_seldom_59 S q6 q7 (fun o6 => f_X9_seldom_103 S v1 q6 o6) fu (0 : Int64) q8
set_option maxHeartbeats 4000000 in
set_option maxRecDepth 100000 in
theorem m_X9_seldom (S : SI) (T : SL) (U : SI) (V : SL) (v1 : Int32) : Meth 4 yX9_seldom cX9_seldom 9 (some .int) [.ref 0, .int v1] (S, T, U, V) (f_X9_seldom S v1) (fun a : Int32 => (some (.int a), (S, T, U, V))) := by
  refine meth_of (L := [(0, .ref 0), (1, .int v1)]) (by decide +kernel) (Nat.le_of_ble_eq_true rfl) rfl ?_
  rw [f_X9_seldom]
  refine r_iload_n dX9_seldom_0 1 rfl rfl ?_
  refine r_iconst (v := (2 : Int32)) dX9_seldom_1 rfl ?_
  refine rS_i (as := [.int v1, .int (2 : Int32)]) (st := []) dX9_seldom_2 cl_X9_75 (m_X9_within S T U V v1 (2 : Int32)) (by decide) rfl (Nat.le_of_ble_eq_true rfl) (fun q1 _ => ?_)
  refine r_if_ne (tgt := 10) dX9_seldom_5 (by decide) (fun h2 => ?_) (fun h2 => ?_)
  · refine r_iconst (v := (-1 : Int32)) dX9_seldom_8 rfl ?_
    exact r_ireturn (ty := .int) dX9_seldom_9 rfl (nar_i _) rfl
  · refine r_aload_n dX9_seldom_10 0 rfl rfl ?_
    refine r_getr dX9_seldom_11 fl_X9_10 (by decide) rfl rfl (by decide) ?_
    refine r_iconst (v := (1 : Int32)) dX9_seldom_14 rfl ?_
    refine rV_i (as := [.int (1 : Int32)]) (st := []) dX9_seldom_15 cl_X9_158 (by decide) rfl rfl (m_X1_placed S T U V (1 : Int32)) (by decide) rfl (Nat.le_of_ble_eq_true rfl) (fun q3 _ => ?_)
    refine r_istore_n (L' := [(2, .int q3), (0, .ref 0), (1, .int v1)]) dX9_seldom_18 rfl (by decide) rfl ?_
    refine r_iload_n dX9_seldom_19 0 rfl rfl ?_
    refine r_if_ne (tgt := 26) dX9_seldom_20 (by decide) (fun h4 => ?_) (fun h4 => ?_)
    · refine r_bipush (v := (-2 : Int32)) dX9_seldom_23 rfl ?_
      exact r_ireturn (ty := .int) dX9_seldom_25 rfl (nar_i _) rfl
    · refine r_aload_n dX9_seldom_26 1 rfl rfl ?_
      refine r_getr dX9_seldom_27 fl_X9_10 (by decide) rfl rfl (by decide) ?_
      refine r_iconst (v := (1 : Int32)) dX9_seldom_30 rfl ?_
      refine r_iconst (v := (0 : Int32)) dX9_seldom_31 rfl ?_
      refine rV_i (as := [.int (1 : Int32), .int (0 : Int32)]) (st := []) dX9_seldom_32 cl_X9_169 (by decide) rfl rfl (m_X1_having S T U V (1 : Int32) (0 : Int32)) (by decide) rfl (Nat.le_of_ble_eq_true rfl) (fun q5 _ => ?_)
      refine r_istore_n (L' := [(3, .int q5), (2, .int q3), (0, .ref 0), (1, .int v1)]) dX9_seldom_35 rfl (by decide) rfl ?_
      refine r_iload_n dX9_seldom_36 1 rfl rfl ?_
      refine rS_i (as := [.int q3]) (st := []) dX9_seldom_37 cl_X9_161 (m_J6_bitCount_0f7a4 S T U V q3) (by decide) rfl (Nat.le_of_ble_eq_true rfl) (fun q6 _ => ?_)
      refine r_istore (L' := [(4, .int q6), (3, .int q5), (2, .int q3), (0, .ref 0), (1, .int v1)]) dX9_seldom_40 (by decide) rfl ?_
      refine r_iload_n dX9_seldom_42 1 rfl rfl ?_
      refine rS_i (as := [.int q5]) (st := []) dX9_seldom_43 cl_X9_161 (m_J6_bitCount_0f7a4 S T U V q5) (by decide) rfl (Nat.le_of_ble_eq_true rfl) (fun q7 _ => ?_)
      refine r_istore (L' := [(5, .int q7), (4, .int q6), (3, .int q5), (2, .int q3), (0, .ref 0), (1, .int v1)]) dX9_seldom_46 (by decide) rfl ?_
      refine r_lconst (v := (0 : Int64)) dX9_seldom_48 rfl ?_
      refine r_lstore (L' := [(6, .long (0 : Int64)), (5, .int q7), (4, .int q6), (3, .int q5), (2, .int q3), (0, .ref 0), (1, .int v1)]) dX9_seldom_49 (by decide) rfl ?_
      refine r_iload_n dX9_seldom_51 4 rfl rfl ?_
      refine r_iload_n dX9_seldom_52 3 rfl rfl ?_
      refine r_iand dX9_seldom_53 ?_
      refine rS_i (as := [.int (q3 &&& q5)]) (st := []) dX9_seldom_54 cl_X9_161 (m_J6_bitCount_0f7a4 S T U V (q3 &&& q5)) (by decide) rfl (Nat.le_of_ble_eq_true rfl) (fun q8 _ => ?_)
      refine r_istore (L' := [(8, .int q8), (6, .long (0 : Int64)), (5, .int q7), (4, .int q6), (3, .int q5), (2, .int q3), (0, .ref 0), (1, .int v1)]) dX9_seldom_57 (by decide) rfl ?_
      exact r_pick [6, 7, 3, 2, 1, 0] rfl (t_X9_seldom_59 S T U V v1 q6 q7 (fun o6 => f_X9_seldom_103 S v1 q6 o6) (fun o6 => r_pick [0, 1, 2, 3] rfl (t_X9_seldom_103 S T U V v1 q6 o6)) fu (0 : Int64) q8)
def f_X9_lacks_50 (S : SI) (s0 : Int32) (s1 : Int32) : Option (Int32) :=
  nm (s1 &&& s0) fun x8 =>
  (f_X1_having S (1 : Int32) (0 : Int32)).bind fun q9 =>
  (f_J6_bitCount_0f7a4 (x8 &&& q9)).bind fun q10 =>
  (f_J6_bitCount_0f7a4 x8).bind fun q11 =>
  some (q10 - (q11 - q10))
set_option maxHeartbeats 4000000 in
set_option maxRecDepth 100000 in
theorem t_X9_lacks_50 (S : SI) (T : SL) (U : SI) (V : SL) (s0 : Int32) (s1 : Int32) : Run 4 yX9_lacks cX9_lacks 6 (some .int) none (fun a : Int32 => (some (.int a), (S, T, U, V))) 50 [(0, .ref 0)] [.int s0, .int s1] (S, T, U, V) (f_X9_lacks_50 S s0 s1) := by
  rw [f_X9_lacks_50]
  refine r_iand dX9_lacks_50 ?_
  refine r_nmi (fun x8 => ?_)
  refine r_istore (L' := [(4, .int x8), (0, .ref 0)]) dX9_lacks_51 (by decide) rfl ?_
  refine r_iload dX9_lacks_53 0 rfl ?_
  refine r_aload_n dX9_lacks_55 1 rfl rfl ?_
  refine r_getr dX9_lacks_56 fl_X9_10 (by decide) rfl rfl (by decide) ?_
  refine r_iconst (v := (1 : Int32)) dX9_lacks_59 rfl ?_
  refine r_iconst (v := (0 : Int32)) dX9_lacks_60 rfl ?_
  refine rV_i (as := [.int (1 : Int32), .int (0 : Int32)]) (st := [.int x8]) dX9_lacks_61 cl_X9_169 (by decide) rfl rfl (m_X1_having S T U V (1 : Int32) (0 : Int32)) (by decide) rfl (Nat.le_of_ble_eq_true rfl) (fun q9 _ => ?_)
  refine r_iand dX9_lacks_64 ?_
  refine rS_i (as := [.int (x8 &&& q9)]) (st := []) dX9_lacks_65 cl_X9_161 (m_J6_bitCount_0f7a4 S T U V (x8 &&& q9)) (by decide) rfl (Nat.le_of_ble_eq_true rfl) (fun q10 _ => ?_)
  refine r_istore (L' := [(5, .int q10), (4, .int x8), (0, .ref 0)]) dX9_lacks_68 (by decide) rfl ?_
  refine r_iload dX9_lacks_70 0 rfl ?_
  refine r_iload dX9_lacks_72 1 rfl ?_
  refine rS_i (as := [.int x8]) (st := [.int q10]) dX9_lacks_74 cl_X9_161 (m_J6_bitCount_0f7a4 S T U V x8) (by decide) rfl (Nat.le_of_ble_eq_true rfl) (fun q11 _ => ?_)
  refine r_iload dX9_lacks_77 0 rfl ?_
  refine r_isub dX9_lacks_79 ?_
  refine r_isub dX9_lacks_80 ?_
  exact r_ireturn (ty := .int) dX9_lacks_81 rfl (nar_i _) rfl
def f_X9_lacks (S : SI) (v1 : Int32) (v2 : Int32) : Option (Int32) :=
  (f_X9_within v1 (6 : Int32)).bind fun q1 =>
  if q1 = 0 then
    some (-1001 : Int32)
  else
    (f_X9_within v2 (2 : Int32)).bind fun q3 =>
    if q3 = 0 then
      some (-1001 : Int32)
    else
      (f_X1_placed S (1 : Int32)).bind fun q5 =>
      (f_X1_having S (0 : Int32) v1).bind fun q6 =>
      if v2 = 0 then
        f_X9_lacks_50 S q5 q6
      else
        f_X9_lacks_50 S (q5 ^^^ (-1 : Int32)) q6
set_option maxHeartbeats 4000000 in
set_option maxRecDepth 100000 in
theorem m_X9_lacks (S : SI) (T : SL) (U : SI) (V : SL) (v1 : Int32) (v2 : Int32) : Meth 4 yX9_lacks cX9_lacks 6 (some .int) [.ref 0, .int v1, .int v2] (S, T, U, V) (f_X9_lacks S v1 v2) (fun a : Int32 => (some (.int a), (S, T, U, V))) := by
  refine meth_of (L := [(0, .ref 0), (1, .int v1), (2, .int v2)]) (by decide +kernel) (Nat.le_of_ble_eq_true rfl) rfl ?_
  rw [f_X9_lacks]
  refine r_iload_n dX9_lacks_0 1 rfl rfl ?_
  refine r_bipush (v := (6 : Int32)) dX9_lacks_1 rfl ?_
  refine rS_i (as := [.int v1, .int (6 : Int32)]) (st := []) dX9_lacks_3 cl_X9_75 (m_X9_within S T U V v1 (6 : Int32)) (by decide) rfl (Nat.le_of_ble_eq_true rfl) (fun q1 _ => ?_)
  refine r_if_eq (tgt := 17) dX9_lacks_6 (by decide) (fun h2 => ?_) (fun h2 => ?_)
  · refine r_sipush (v := (-1001 : Int32)) dX9_lacks_17 rfl ?_
    exact r_ireturn (ty := .int) dX9_lacks_20 rfl (nar_i _) rfl
  · refine r_iload_n dX9_lacks_9 2 rfl rfl ?_
    refine r_iconst (v := (2 : Int32)) dX9_lacks_10 rfl ?_
    refine rS_i (as := [.int v2, .int (2 : Int32)]) (st := []) dX9_lacks_11 cl_X9_75 (m_X9_within S T U V v2 (2 : Int32)) (by decide) rfl (Nat.le_of_ble_eq_true rfl) (fun q3 _ => ?_)
    refine r_if_ne (tgt := 21) dX9_lacks_14 (by decide) (fun h4 => ?_) (fun h4 => ?_)
    · refine r_sipush (v := (-1001 : Int32)) dX9_lacks_17 rfl ?_
      exact r_ireturn (ty := .int) dX9_lacks_20 rfl (nar_i _) rfl
    · refine r_aload_n dX9_lacks_21 0 rfl rfl ?_
      refine r_getr dX9_lacks_22 fl_X9_10 (by decide) rfl rfl (by decide) ?_
      refine r_iconst (v := (1 : Int32)) dX9_lacks_25 rfl ?_
      refine rV_i (as := [.int (1 : Int32)]) (st := []) dX9_lacks_26 cl_X9_158 (by decide) rfl rfl (m_X1_placed S T U V (1 : Int32)) (by decide) rfl (Nat.le_of_ble_eq_true rfl) (fun q5 _ => ?_)
      refine r_istore_n (L' := [(3, .int q5), (0, .ref 0), (1, .int v1), (2, .int v2)]) dX9_lacks_29 rfl (by decide) rfl ?_
      refine r_aload_n dX9_lacks_30 1 rfl rfl ?_
      refine r_getr dX9_lacks_31 fl_X9_10 (by decide) rfl rfl (by decide) ?_
      refine r_iconst (v := (0 : Int32)) dX9_lacks_34 rfl ?_
      refine r_iload_n dX9_lacks_35 2 rfl rfl ?_
      refine rV_i (as := [.int (0 : Int32), .int v1]) (st := []) dX9_lacks_36 cl_X9_169 (by decide) rfl rfl (m_X1_having S T U V (0 : Int32) v1) (by decide) rfl (Nat.le_of_ble_eq_true rfl) (fun q6 _ => ?_)
      refine r_iload_n dX9_lacks_39 3 rfl rfl ?_
      refine r_if_ne (tgt := 47) dX9_lacks_40 (by decide) (fun h7 => ?_) (fun h7 => ?_)
      · refine r_iload_n dX9_lacks_43 0 rfl rfl ?_
        refine r_goto (tgt := 50) dX9_lacks_44 (by decide) ?_
        exact r_pick [1] rfl (t_X9_lacks_50 S T U V q5 q6)
      · refine r_iload_n dX9_lacks_47 0 rfl rfl ?_
        refine r_iconst (v := (-1 : Int32)) dX9_lacks_48 rfl ?_
        refine r_ixor dX9_lacks_49 ?_
        exact r_pick [1] rfl (t_X9_lacks_50 S T U V (q5 ^^^ (-1 : Int32)) q6)
def f_X9_wish (S : SI) (v1 : Int32) (v2 : Int32) : Option (Int32 × SI) :=
  (f_X9_within v1 (3 : Int32)).bind fun q1 =>
  if q1 = 0 then
    some ((-1 : Int32), S)
  else
    (f_X9_within v2 (64 : Int32)).bind fun q3 =>
    if q3 = 0 then
      some ((-1 : Int32), S)
    else
      gd (inB v1 3) <|
      nm (S 8 (ix v1)) fun x6 =>
      gd (inB v1 3) <|
      nm (up2 S 8 (ix v1) v2) fun S8 =>
      some (x6, S8)
set_option maxHeartbeats 4000000 in
set_option maxRecDepth 100000 in
theorem m_X9_wish (S : SI) (T : SL) (U : SI) (V : SL) (v1 : Int32) (v2 : Int32) : Meth 2 yX9_wish cX9_wish 4 (some .int) [.ref 0, .int v1, .int v2] (S, T, U, V) (f_X9_wish S v1 v2) (fun a : Int32 × SI => (some (.int a.1), (a.2, T, U, V))) := by
  refine meth_of (L := [(0, .ref 0), (1, .int v1), (2, .int v2)]) (by decide +kernel) (Nat.le_of_ble_eq_true rfl) rfl ?_
  rw [f_X9_wish]
  refine r_iload_n dX9_wish_0 1 rfl rfl ?_
  refine r_iconst (v := (3 : Int32)) dX9_wish_1 rfl ?_
  refine rS_i (as := [.int v1, .int (3 : Int32)]) (st := []) dX9_wish_2 cl_X9_75 (m_X9_within S T U V v1 (3 : Int32)) (by decide) rfl (Nat.le_of_ble_eq_true rfl) (fun q1 _ => ?_)
  refine r_if_eq (tgt := 17) dX9_wish_5 (by decide) (fun h2 => ?_) (fun h2 => ?_)
  · refine r_iconst (v := (-1 : Int32)) dX9_wish_17 rfl ?_
    exact r_ireturn (ty := .int) dX9_wish_18 rfl (nar_i _) rfl
  · refine r_iload_n dX9_wish_8 2 rfl rfl ?_
    refine r_bipush (v := (64 : Int32)) dX9_wish_9 rfl ?_
    refine rS_i (as := [.int v2, .int (64 : Int32)]) (st := []) dX9_wish_11 cl_X9_75 (m_X9_within S T U V v2 (64 : Int32)) (by decide) rfl (Nat.le_of_ble_eq_true rfl) (fun q3 _ => ?_)
    refine r_if_ne (tgt := 19) dX9_wish_14 (by decide) (fun h4 => ?_) (fun h4 => ?_)
    · refine r_iconst (v := (-1 : Int32)) dX9_wish_17 rfl ?_
      exact r_ireturn (ty := .int) dX9_wish_18 rfl (nar_i _) rfl
    · refine r_aload_n dX9_wish_19 0 rfl rfl ?_
      refine r_getr dX9_wish_20 fl_X9_10 (by decide) rfl rfl (by decide) ?_
      refine r_getr dX9_wish_23 fl_X9_256 (by decide) rfl rfl (by decide) ?_
      refine r_iload_n dX9_wish_26 1 rfl rfl ?_
      refine rc_iald dX9_wish_27 (by decide) (by decide) rfl (fun h5 => ?_)
      refine r_nmi (fun x6 => ?_)
      refine r_istore_n (L' := [(3, .int x6), (0, .ref 0), (1, .int v1), (2, .int v2)]) dX9_wish_28 rfl (by decide) rfl ?_
      refine r_aload_n dX9_wish_29 1 rfl rfl ?_
      refine r_getr dX9_wish_30 fl_X9_10 (by decide) rfl rfl (by decide) ?_
      refine r_getr dX9_wish_33 fl_X9_256 (by decide) rfl rfl (by decide) ?_
      refine r_iload_n dX9_wish_36 2 rfl rfl ?_
      refine r_iload_n dX9_wish_37 3 rfl rfl ?_
      refine rc_iast dX9_wish_38 (by decide) (by decide) rfl (fun h7 => ?_)
      refine r_nmS (fun S8 => ?_)
      refine r_iload_n dX9_wish_39 0 rfl rfl ?_
      exact r_ireturn (ty := .int) dX9_wish_40 rfl (nar_i _) rfl
def f_X9_buy_6 (S : SI) : Nat → Int32 → Int32 → Option (Int32)
  | 0, _, _ => none
  | m_ + 1, v1, v2 =>
    if v2 < 0 then
      some v1
    else
      (f_X1_meetsAllWishes S v2).bind fun q2 =>
      if q2 = 0 then
        (f_X9_buy_6 S m_) v1 (v2 + (-1 : Int32))
      else
        (f_J6_bitCount_0f7a4 v2).bind fun q4 =>
        (f_J6_bitCount_0f7a4 v1).bind fun q5 =>
        if q5 < q4 then
          (f_X9_buy_6 S m_) v1 (v2 + (-1 : Int32))
        else
          (f_X9_buy_6 S m_) v2 (v2 + (-1 : Int32))
set_option maxHeartbeats 4000000 in
set_option maxRecDepth 100000 in
theorem t_X9_buy_6 (S : SI) (T : SL) (U : SI) (V : SL) : ∀ (m_ : Nat) (v1 : Int32) (v2 : Int32), Run 2 yX9_buy cX9_buy 3 (some .int) none (fun a : Int32 => (some (.int a), (S, T, U, V))) 6 [(0, .ref 0), (1, .int v1), (2, .int v2)] [] (S, T, U, V) (f_X9_buy_6 S m_ v1 v2) := by
  intro m_
  induction m_ with
  | zero =>
    intro v1 v2
    rw [f_X9_buy_6]
    exact r_none
  | succ m_ ih =>
    intro v1 v2
    rw [f_X9_buy_6]
    refine r_iload_n dX9_buy_6 2 rfl rfl ?_
    refine r_if_lt (tgt := 40) dX9_buy_7 (by decide) (fun h1 => ?_) (fun h1 => ?_)
    · refine r_iload_n dX9_buy_40 1 rfl rfl ?_
      exact r_ireturn (ty := .int) dX9_buy_41 rfl (nar_i _) rfl
    · refine r_aload_n dX9_buy_10 0 rfl rfl ?_
      refine r_getr dX9_buy_11 fl_X9_10 (by decide) rfl rfl (by decide) ?_
      refine r_iload_n dX9_buy_14 2 rfl rfl ?_
      refine rV_i (as := [.int v2]) (st := []) dX9_buy_15 cl_X9_259 (by decide) rfl rfl (m_X1_meetsAllWishes S T U V v2) (by decide) rfl (Nat.le_of_ble_eq_true rfl) (fun q2 _ => ?_)
      refine r_if_eq (tgt := 34) dX9_buy_18 (by decide) (fun h3 => ?_) (fun h3 => ?_)
      · refine r_iinc (v := v2 + (-1 : Int32)) (L' := [(2, .int (v2 + (-1 : Int32))), (0, .ref 0), (1, .int v1)]) dX9_buy_34 2 rfl rfl (by decide) rfl ?_
        refine r_goto (tgt := 6) dX9_buy_37 (by decide) ?_
        exact r_pick [1, 2, 0] rfl (ih v1 (v2 + (-1 : Int32)))
      · refine r_iload_n dX9_buy_21 2 rfl rfl ?_
        refine rS_i (as := [.int v2]) (st := []) dX9_buy_22 cl_X9_161 (m_J6_bitCount_0f7a4 S T U V v2) (by decide) rfl (Nat.le_of_ble_eq_true rfl) (fun q4 _ => ?_)
        refine r_iload_n dX9_buy_25 1 rfl rfl ?_
        refine rS_i (as := [.int v1]) (st := [.int q4]) dX9_buy_26 cl_X9_161 (m_J6_bitCount_0f7a4 S T U V v1) (by decide) rfl (Nat.le_of_ble_eq_true rfl) (fun q5 _ => ?_)
        refine r_icmp_gt (tgt := 34) dX9_buy_29 (by decide) (fun h6 => ?_) (fun h6 => ?_)
        · refine r_iinc (v := v2 + (-1 : Int32)) (L' := [(2, .int (v2 + (-1 : Int32))), (0, .ref 0), (1, .int v1)]) dX9_buy_34 2 rfl rfl (by decide) rfl ?_
          refine r_goto (tgt := 6) dX9_buy_37 (by decide) ?_
          exact r_pick [1, 2, 0] rfl (ih v1 (v2 + (-1 : Int32)))
        · refine r_iload_n dX9_buy_32 2 rfl rfl ?_
          refine r_istore_n (L' := [(1, .int v2), (0, .ref 0), (2, .int v2)]) dX9_buy_33 rfl (by decide) rfl ?_
          refine r_iinc (v := v2 + (-1 : Int32)) (L' := [(2, .int (v2 + (-1 : Int32))), (1, .int v2), (0, .ref 0)]) dX9_buy_34 2 rfl rfl (by decide) rfl ?_
          refine r_goto (tgt := 6) dX9_buy_37 (by decide) ?_
          exact r_pick [2, 1, 0] rfl (ih v2 (v2 + (-1 : Int32)))
def f_X9_buy (S : SI) : Option (Int32) :=
  f_X9_buy_6 S fu (63 : Int32) (63 : Int32)
set_option maxHeartbeats 4000000 in
set_option maxRecDepth 100000 in
theorem m_X9_buy (S : SI) (T : SL) (U : SI) (V : SL)  : Meth 2 yX9_buy cX9_buy 3 (some .int) [.ref 0] (S, T, U, V) (f_X9_buy S) (fun a : Int32 => (some (.int a), (S, T, U, V))) := by
  refine meth_of (L := [(0, .ref 0)]) (by decide +kernel) (Nat.le_of_ble_eq_true rfl) rfl ?_
  rw [f_X9_buy]
  refine r_bipush (v := (63 : Int32)) dX9_buy_0 rfl ?_
  refine r_istore_n (L' := [(1, .int (63 : Int32)), (0, .ref 0)]) dX9_buy_2 rfl (by decide) rfl ?_
  refine r_bipush (v := (63 : Int32)) dX9_buy_3 rfl ?_
  refine r_istore_n (L' := [(2, .int (63 : Int32)), (1, .int (63 : Int32)), (0, .ref 0)]) dX9_buy_5 rfl (by decide) rfl ?_
  exact r_pick [2, 1, 0] rfl (t_X9_buy_6 S T U V fu (63 : Int32) (63 : Int32))
def f_X9_marks (S : SI) (T : SL) (v1 : Int32) (v2 : Int32) (v3 : Int32) : Option (Int32 × SI × SL) :=
  if v1 < (1 : Int32) then
    some ((-1 : Int32), S, T)
  else
    if (5 : Int32) < v1 then
      some ((-1 : Int32), S, T)
    else
      (f_X9_within v2 (4 : Int32)).bind fun q3 =>
      if q3 = 0 then
        some ((-1 : Int32), S, T)
      else
        if v3 < (-1 : Int32) then
          some ((-1 : Int32), S, T)
        else
          if v3 < v1 then
            (f_X7_fewest S T v1 v2).bind fun q7 =>
            if v3 < 0 then
              some (q7.1, q7.2.1, q7.2.2)
            else
              if q7.1 = (-4 : Int32) then
                some (q7.1, q7.2.1, q7.2.2)
              else
                (f_X7_markOf q7.2.1 v1 v2 v3).bind fun q10 =>
                some (q10, q7.2.1, q7.2.2)
          else
            some ((-1 : Int32), S, T)
set_option maxHeartbeats 4000000 in
set_option maxRecDepth 100000 in
theorem m_X9_marks (S : SI) (T : SL) (U : SI) (V : SL) (v1 : Int32) (v2 : Int32) (v3 : Int32) : Meth 46 yX9_marks cX9_marks 5 (some .int) [.ref 0, .int v1, .int v2, .int v3] (S, T, U, V) (f_X9_marks S T v1 v2 v3) (fun a : Int32 × SI × SL => (some (.int a.1), (a.2.1, a.2.2, U, V))) := by
  refine meth_of (L := [(0, .ref 0), (1, .int v1), (2, .int v2), (3, .int v3)]) (by decide +kernel) (Nat.le_of_ble_eq_true rfl) rfl ?_
  rw [f_X9_marks]
  refine r_iload_n dX9_marks_0 1 rfl rfl ?_
  refine r_iconst (v := (1 : Int32)) dX9_marks_1 rfl ?_
  refine r_icmp_lt (tgt := 28) dX9_marks_2 (by decide) (fun h1 => ?_) (fun h1 => ?_)
  · refine r_iconst (v := (-1 : Int32)) dX9_marks_28 rfl ?_
    exact r_ireturn (ty := .int) dX9_marks_29 rfl (nar_i _) rfl
  · refine r_iload_n dX9_marks_5 1 rfl rfl ?_
    refine r_iconst (v := (5 : Int32)) dX9_marks_6 rfl ?_
    refine r_icmp_gt (tgt := 28) dX9_marks_7 (by decide) (fun h2 => ?_) (fun h2 => ?_)
    · refine r_iconst (v := (-1 : Int32)) dX9_marks_28 rfl ?_
      exact r_ireturn (ty := .int) dX9_marks_29 rfl (nar_i _) rfl
    · refine r_iload_n dX9_marks_10 2 rfl rfl ?_
      refine r_iconst (v := (4 : Int32)) dX9_marks_11 rfl ?_
      refine rS_i (as := [.int v2, .int (4 : Int32)]) (st := []) dX9_marks_12 cl_X9_75 (m_X9_within S T U V v2 (4 : Int32)) (by decide) rfl (Nat.le_of_ble_eq_true rfl) (fun q3 _ => ?_)
      refine r_if_eq (tgt := 28) dX9_marks_15 (by decide) (fun h4 => ?_) (fun h4 => ?_)
      · refine r_iconst (v := (-1 : Int32)) dX9_marks_28 rfl ?_
        exact r_ireturn (ty := .int) dX9_marks_29 rfl (nar_i _) rfl
      · refine r_iload_n dX9_marks_18 3 rfl rfl ?_
        refine r_iconst (v := (-1 : Int32)) dX9_marks_19 rfl ?_
        refine r_icmp_lt (tgt := 28) dX9_marks_20 (by decide) (fun h5 => ?_) (fun h5 => ?_)
        · refine r_iconst (v := (-1 : Int32)) dX9_marks_28 rfl ?_
          exact r_ireturn (ty := .int) dX9_marks_29 rfl (nar_i _) rfl
        · refine r_iload_n dX9_marks_23 3 rfl rfl ?_
          refine r_iload_n dX9_marks_24 1 rfl rfl ?_
          refine r_icmp_lt (tgt := 30) dX9_marks_25 (by decide) (fun h6 => ?_) (fun h6 => ?_)
          · refine r_aload_n dX9_marks_30 0 rfl rfl ?_
            refine r_getr dX9_marks_31 fl_X9_64 (by decide) rfl rfl (by decide) ?_
            refine r_iload_n dX9_marks_34 1 rfl rfl ?_
            refine r_iload_n dX9_marks_35 2 rfl rfl ?_
            refine rVc_iB (as := [.int v1, .int v2]) (st := []) dX9_marks_36 cl_X9_262 (by decide) rfl rfl (m_X7_fewest S T U V v1 v2) (by decide) rfl (Nat.le_of_ble_eq_true rfl) (fun q7 _ => ?_)
            refine r_istore (L' := [(4, .int q7.1), (0, .ref 0), (1, .int v1), (2, .int v2), (3, .int v3)]) dX9_marks_39 (by decide) rfl ?_
            refine r_iload_n dX9_marks_41 4 rfl rfl ?_
            refine r_if_lt (tgt := 52) dX9_marks_42 (by decide) (fun h8 => ?_) (fun h8 => ?_)
            · refine r_iload dX9_marks_52 0 rfl ?_
              refine r_goto (tgt := 67) dX9_marks_54 (by decide) ?_
              exact r_ireturn (ty := .int) dX9_marks_67 rfl (nar_i _) rfl
            · refine r_iload dX9_marks_45 0 rfl ?_
              refine r_bipush (v := (-4 : Int32)) dX9_marks_47 rfl ?_
              refine r_icmp_ne (tgt := 57) dX9_marks_49 (by decide) (fun h9 => ?_) (fun h9 => ?_)
              · refine r_iload dX9_marks_52 0 rfl ?_
                refine r_goto (tgt := 67) dX9_marks_54 (by decide) ?_
                exact r_ireturn (ty := .int) dX9_marks_67 rfl (nar_i _) rfl
              · refine r_aload_n dX9_marks_57 1 rfl rfl ?_
                refine r_getr dX9_marks_58 fl_X9_64 (by decide) rfl rfl (by decide) ?_
                refine r_iload_n dX9_marks_61 2 rfl rfl ?_
                refine r_iload_n dX9_marks_62 3 rfl rfl ?_
                refine r_iload_n dX9_marks_63 4 rfl rfl ?_
                refine rV_i (as := [.int v1, .int v2, .int v3]) (st := []) dX9_marks_64 cl_X9_265 (by decide) rfl rfl (m_X7_markOf q7.2.1 q7.2.2 U V v1 v2 v3) (by decide) rfl (Nat.le_of_ble_eq_true rfl) (fun q10 _ => ?_)
                exact r_ireturn (ty := .int) dX9_marks_67 rfl (nar_i _) rfl
          · refine r_iconst (v := (-1 : Int32)) dX9_marks_28 rfl ?_
            exact r_ireturn (ty := .int) dX9_marks_29 rfl (nar_i _) rfl
def f_X9_image (S : SI) : Option (Int32 × SI) :=
  (f_X1_copyFromA S).bind fun q1 =>
  nm (up2 q1 0 2 (1 : Int32)) fun S2 =>
  some ((1 : Int32), S2)
set_option maxHeartbeats 4000000 in
set_option maxRecDepth 100000 in
theorem m_X9_image (S : SI) (T : SL) (U : SI) (V : SL)  : Meth 3 yX9_image cX9_image 1 (some .int) [.ref 0] (S, T, U, V) (f_X9_image S) (fun a : Int32 × SI => (some (.int a.1), (a.2, T, U, V))) := by
  refine meth_of (L := [(0, .ref 0)]) (by decide +kernel) (Nat.le_of_ble_eq_true rfl) rfl ?_
  rw [f_X9_image]
  refine r_aload_n dX9_image_0 0 rfl rfl ?_
  refine r_getr dX9_image_1 fl_X9_16 (by decide) rfl rfl (by decide) ?_
  refine r_aload_n dX9_image_4 0 rfl rfl ?_
  refine r_getr dX9_image_5 fl_X9_10 (by decide) rfl rfl (by decide) ?_
  refine rVc_vS (as := [.ref 1]) (st := []) dX9_image_8 cl_X9_268 (by decide) rfl rfl (m_X1_copyFromA S T U V) (by decide) rfl (Nat.le_of_ble_eq_true rfl) (fun q1 _ => ?_)
  refine r_aload_n dX9_image_11 0 rfl rfl ?_
  refine r_iconst (v := (1 : Int32)) dX9_image_12 rfl ?_
  refine rc_puti (ty := .boolean) dX9_image_13 fp_X9_271 rfl rfl (by decide) (by decide) rfl rfl ?_
  refine r_nmS (fun S2 => ?_)
  refine r_iconst (v := (1 : Int32)) dX9_image_16 rfl ?_
  exact r_ireturn (ty := .int) dX9_image_17 rfl (nar_i _) rfl
def f_X9_restore (S : SI) : Option (Int32 × SI) :=
  if (S 0 2) = 0 then
    some ((-4 : Int32), S)
  else
    (f_X1_copyFromB S).bind fun q2 =>
    some ((1 : Int32), q2)
set_option maxHeartbeats 4000000 in
set_option maxRecDepth 100000 in
theorem m_X9_restore (S : SI) (T : SL) (U : SI) (V : SL)  : Meth 3 yX9_restore cX9_restore 1 (some .int) [.ref 0] (S, T, U, V) (f_X9_restore S) (fun a : Int32 × SI => (some (.int a.1), (a.2, T, U, V))) := by
  refine meth_of (L := [(0, .ref 0)]) (by decide +kernel) (Nat.le_of_ble_eq_true rfl) rfl ?_
  rw [f_X9_restore]
  refine r_aload_n dX9_restore_0 0 rfl rfl ?_
  refine rc_geti dX9_restore_1 fl_X9_271 (by decide) (by decide) rfl rfl ?_
  refine r_if_ne (tgt := 10) dX9_restore_4 (by decide) (fun h1 => ?_) (fun h1 => ?_)
  · refine r_bipush (v := (-4 : Int32)) dX9_restore_7 rfl ?_
    exact r_ireturn (ty := .int) dX9_restore_9 rfl (nar_i _) rfl
  · refine r_aload_n dX9_restore_10 0 rfl rfl ?_
    refine r_getr dX9_restore_11 fl_X9_10 (by decide) rfl rfl (by decide) ?_
    refine r_aload_n dX9_restore_14 0 rfl rfl ?_
    refine r_getr dX9_restore_15 fl_X9_16 (by decide) rfl rfl (by decide) ?_
    refine rVc_vS (as := [.ref 21]) (st := []) dX9_restore_18 cl_X9_268 (by decide) rfl rfl (m_X1_copyFromB S T U V) (by decide) rfl (Nat.le_of_ble_eq_true rfl) (fun q2 _ => ?_)
    refine r_iconst (v := (1 : Int32)) dX9_restore_21 rfl ?_
    exact r_ireturn (ty := .int) dX9_restore_22 rfl (nar_i _) rfl
def f_X9_sheet (S : SI) (v1 : Int32) (v2 : Int32) (v3 : Int32) : Option (Int32 × SI) :=
  (f_X9_within v1 (4 : Int32)).bind fun q1 =>
  if q1 = 0 then
    some ((-1 : Int32), S)
  else
    (f_X9_within v2 (3 : Int32)).bind fun q3 =>
    if q3 = 0 then
      some ((-1 : Int32), S)
    else
      if v3 ≤ (16 : Int32) then
        if 0 ≤ v3 then
          gd (inB v1 4) <|
          (f_X4_renew S (70 + 2 * ix v1) v2 v3).bind fun q8 =>
          some (v3, q8)
        else
          some ((-14 : Int32), S)
      else
        some ((-1 : Int32), S)
set_option maxHeartbeats 4000000 in
set_option maxRecDepth 100000 in
theorem m_X9_sheet (S : SI) (T : SL) (U : SI) (V : SL) (v1 : Int32) (v2 : Int32) (v3 : Int32) : Meth 2 yX9_sheet cX9_sheet 4 (some .int) [.ref 0, .int v1, .int v2, .int v3] (S, T, U, V) (f_X9_sheet S v1 v2 v3) (fun a : Int32 × SI => (some (.int a.1), (a.2, T, U, V))) := by
  refine meth_of (L := [(0, .ref 0), (1, .int v1), (2, .int v2), (3, .int v3)]) (by decide +kernel) (Nat.le_of_ble_eq_true rfl) rfl ?_
  rw [f_X9_sheet]
  refine r_iload_n dX9_sheet_0 1 rfl rfl ?_
  refine r_iconst (v := (4 : Int32)) dX9_sheet_1 rfl ?_
  refine rS_i (as := [.int v1, .int (4 : Int32)]) (st := []) dX9_sheet_2 cl_X9_75 (m_X9_within S T U V v1 (4 : Int32)) (by decide) rfl (Nat.le_of_ble_eq_true rfl) (fun q1 _ => ?_)
  refine r_if_eq (tgt := 22) dX9_sheet_5 (by decide) (fun h2 => ?_) (fun h2 => ?_)
  · refine r_iconst (v := (-1 : Int32)) dX9_sheet_22 rfl ?_
    exact r_ireturn (ty := .int) dX9_sheet_23 rfl (nar_i _) rfl
  · refine r_iload_n dX9_sheet_8 2 rfl rfl ?_
    refine r_iconst (v := (3 : Int32)) dX9_sheet_9 rfl ?_
    refine rS_i (as := [.int v2, .int (3 : Int32)]) (st := []) dX9_sheet_10 cl_X9_75 (m_X9_within S T U V v2 (3 : Int32)) (by decide) rfl (Nat.le_of_ble_eq_true rfl) (fun q3 _ => ?_)
    refine r_if_eq (tgt := 22) dX9_sheet_13 (by decide) (fun h4 => ?_) (fun h4 => ?_)
    · refine r_iconst (v := (-1 : Int32)) dX9_sheet_22 rfl ?_
      exact r_ireturn (ty := .int) dX9_sheet_23 rfl (nar_i _) rfl
    · refine r_iload_n dX9_sheet_16 3 rfl rfl ?_
      refine r_bipush (v := (16 : Int32)) dX9_sheet_17 rfl ?_
      refine r_icmp_le (tgt := 24) dX9_sheet_19 (by decide) (fun h5 => ?_) (fun h5 => ?_)
      · refine r_iload_n dX9_sheet_24 3 rfl rfl ?_
        refine r_if_ge (tgt := 31) dX9_sheet_25 (by decide) (fun h6 => ?_) (fun h6 => ?_)
        · refine r_aload_n dX9_sheet_31 0 rfl rfl ?_
          refine r_getr dX9_sheet_32 fl_X9_70 (by decide) rfl rfl (by decide) ?_
          refine r_iload_n dX9_sheet_35 1 rfl rfl ?_
          refine r_aald (x := 70 + 2 * ix v1) dX9_sheet_36 (by decide) rfl (by decide) (by decide) rfl (fun h7 => ?_)
          refine r_iload_n dX9_sheet_37 2 rfl rfl ?_
          refine r_iload_n dX9_sheet_38 3 rfl rfl ?_
          refine rVc_vS (as := [.int v2, .int v3]) (st := []) dX9_sheet_39 cl_X9_275 (isH_70 h7).a (isH_70 h7).2.1 rfl (m_X4_renew S T U V (70 + 2 * ix v1) (isH_70 h7) v2 v3) (by decide) rfl (Nat.le_of_ble_eq_true rfl) (fun q8 _ => ?_)
          refine r_iload_n dX9_sheet_42 3 rfl rfl ?_
          exact r_ireturn (ty := .int) dX9_sheet_43 rfl (nar_i _) rfl
        · refine r_bipush (v := (-14 : Int32)) dX9_sheet_28 rfl ?_
          exact r_ireturn (ty := .int) dX9_sheet_30 rfl (nar_i _) rfl
      · refine r_iconst (v := (-1 : Int32)) dX9_sheet_22 rfl ?_
        exact r_ireturn (ty := .int) dX9_sheet_23 rfl (nar_i _) rfl
def f_X9_drop (S : SI) (v1 : Int32) : Option (Int32 × SI) :=
  (f_X9_within v1 (4 : Int32)).bind fun q1 =>
  if q1 = 0 then
    some ((-1 : Int32), S)
  else
    gd (inB v1 4) <|
    (f_X4_isThere S (70 + 2 * ix v1)).bind fun q4 =>
    if q4 = 0 then
      some ((-11 : Int32), S)
    else
      nm (up2 S (70 + 2 * ix v1) 1 (-1 : Int32)) fun S6 =>
      some (S6 (70 + 2 * ix v1) 2, S6)
set_option maxHeartbeats 4000000 in
set_option maxRecDepth 100000 in
theorem m_X9_drop (S : SI) (T : SL) (U : SI) (V : SL) (v1 : Int32) : Meth 2 yX9_drop cX9_drop 3 (some .int) [.ref 0, .int v1] (S, T, U, V) (f_X9_drop S v1) (fun a : Int32 × SI => (some (.int a.1), (a.2, T, U, V))) := by
  refine meth_of (L := [(0, .ref 0), (1, .int v1)]) (by decide +kernel) (Nat.le_of_ble_eq_true rfl) rfl ?_
  rw [f_X9_drop]
  refine r_iload_n dX9_drop_0 1 rfl rfl ?_
  refine r_iconst (v := (4 : Int32)) dX9_drop_1 rfl ?_
  refine rS_i (as := [.int v1, .int (4 : Int32)]) (st := []) dX9_drop_2 cl_X9_75 (m_X9_within S T U V v1 (4 : Int32)) (by decide) rfl (Nat.le_of_ble_eq_true rfl) (fun q1 _ => ?_)
  refine r_if_ne (tgt := 10) dX9_drop_5 (by decide) (fun h2 => ?_) (fun h2 => ?_)
  · refine r_iconst (v := (-1 : Int32)) dX9_drop_8 rfl ?_
    exact r_ireturn (ty := .int) dX9_drop_9 rfl (nar_i _) rfl
  · refine r_aload_n dX9_drop_10 0 rfl rfl ?_
    refine r_getr dX9_drop_11 fl_X9_70 (by decide) rfl rfl (by decide) ?_
    refine r_iload_n dX9_drop_14 1 rfl rfl ?_
    refine r_aald (x := 70 + 2 * ix v1) dX9_drop_15 (by decide) rfl (by decide) (by decide) rfl (fun h3 => ?_)
    refine r_astore_n (L' := [(2, .ref (70 + 2 * ix v1)), (0, .ref 0), (1, .int v1)]) dX9_drop_16 rfl (by decide) rfl ?_
    refine r_aload_n dX9_drop_17 0 rfl rfl ?_
    refine rV_i (as := []) (st := []) dX9_drop_18 cl_X9_279 (isH_70 h3).a (isH_70 h3).2.1 rfl (m_X4_isThere S T U V (70 + 2 * ix v1) (isH_70 h3)) (by decide) rfl (Nat.le_of_ble_eq_true rfl) (fun q4 _ => ?_)
    refine r_if_ne (tgt := 27) dX9_drop_21 (by decide) (fun h5 => ?_) (fun h5 => ?_)
    · refine r_bipush (v := (-11 : Int32)) dX9_drop_24 rfl ?_
      exact r_ireturn (ty := .int) dX9_drop_26 rfl (nar_i _) rfl
    · refine r_aload_n dX9_drop_27 0 rfl rfl ?_
      refine r_iconst (v := (-1 : Int32)) dX9_drop_28 rfl ?_
      refine rc_puti (ty := .int) dX9_drop_29 fp_X9_283 (nar_i _) (fit_i _) (isH_70 h3).q (isH_70 h3).a (isH_70 h3).2.1 rfl ?_
      refine r_nmS (fun S6 => ?_)
      refine r_aload_n dX9_drop_32 0 rfl rfl ?_
      refine rc_geti dX9_drop_33 fl_X9_286 (isH_70 h3).q (isH_70 h3).a (isH_70 h3).2.1 rfl ?_
      exact r_ireturn (ty := .int) dX9_drop_36 rfl (nar_i _) rfl
def f_X9_item (S : SI) (v1 : Int32) (v2 : Int32) (v3 : Int32) (v4 : Int32) : Option (Int32 × SI) :=
  (f_X9_within v1 (4 : Int32)).bind fun q1 =>
  if q1 = 0 then
    some ((-1 : Int32), S)
  else
    (f_X9_within v2 (3 : Int32)).bind fun q3 =>
    if q3 = 0 then
      some ((-1 : Int32), S)
    else
      gd (inB v1 4) <|
      (f_X4_refusal S (70 + 2 * ix v1) v2 v3 (1 : Int32)).bind fun q6 =>
      if q6 = 0 then
        gd (inB v1 4) <|
        (f_X4_put S (70 + 2 * ix v1) v3 v4).bind fun q9 =>
        some ((1 : Int32), q9)
      else
        some (q6, S)
set_option maxHeartbeats 4000000 in
set_option maxRecDepth 100000 in
theorem m_X9_item (S : SI) (T : SL) (U : SI) (V : SL) (v1 : Int32) (v2 : Int32) (v3 : Int32) (v4 : Int32) : Meth 3 yX9_item cX9_item 6 (some .int) [.ref 0, .int v1, .int v2, .int v3, .int v4] (S, T, U, V) (f_X9_item S v1 v2 v3 v4) (fun a : Int32 × SI => (some (.int a.1), (a.2, T, U, V))) := by
  refine meth_of (L := [(0, .ref 0), (1, .int v1), (2, .int v2), (3, .int v3), (4, .int v4)]) (by decide +kernel) (Nat.le_of_ble_eq_true rfl) rfl ?_
  rw [f_X9_item]
  refine r_iload_n dX9_item_0 1 rfl rfl ?_
  refine r_iconst (v := (4 : Int32)) dX9_item_1 rfl ?_
  refine rS_i (as := [.int v1, .int (4 : Int32)]) (st := []) dX9_item_2 cl_X9_75 (m_X9_within S T U V v1 (4 : Int32)) (by decide) rfl (Nat.le_of_ble_eq_true rfl) (fun q1 _ => ?_)
  refine r_if_eq (tgt := 16) dX9_item_5 (by decide) (fun h2 => ?_) (fun h2 => ?_)
  · refine r_iconst (v := (-1 : Int32)) dX9_item_16 rfl ?_
    exact r_ireturn (ty := .int) dX9_item_17 rfl (nar_i _) rfl
  · refine r_iload_n dX9_item_8 2 rfl rfl ?_
    refine r_iconst (v := (3 : Int32)) dX9_item_9 rfl ?_
    refine rS_i (as := [.int v2, .int (3 : Int32)]) (st := []) dX9_item_10 cl_X9_75 (m_X9_within S T U V v2 (3 : Int32)) (by decide) rfl (Nat.le_of_ble_eq_true rfl) (fun q3 _ => ?_)
    refine r_if_ne (tgt := 18) dX9_item_13 (by decide) (fun h4 => ?_) (fun h4 => ?_)
    · refine r_iconst (v := (-1 : Int32)) dX9_item_16 rfl ?_
      exact r_ireturn (ty := .int) dX9_item_17 rfl (nar_i _) rfl
    · refine r_aload_n dX9_item_18 0 rfl rfl ?_
      refine r_getr dX9_item_19 fl_X9_70 (by decide) rfl rfl (by decide) ?_
      refine r_iload_n dX9_item_22 1 rfl rfl ?_
      refine r_aald (x := 70 + 2 * ix v1) dX9_item_23 (by decide) rfl (by decide) (by decide) rfl (fun h5 => ?_)
      refine r_iload_n dX9_item_24 2 rfl rfl ?_
      refine r_iload_n dX9_item_25 3 rfl rfl ?_
      refine r_iconst (v := (1 : Int32)) dX9_item_26 rfl ?_
      refine rV_i (as := [.int v2, .int v3, .int (1 : Int32)]) (st := []) dX9_item_27 cl_X9_192 (isH_70 h5).a (isH_70 h5).2.1 rfl (m_X4_refusal S T U V (70 + 2 * ix v1) (isH_70 h5) v2 v3 (1 : Int32)) (by decide) rfl (Nat.le_of_ble_eq_true rfl) (fun q6 _ => ?_)
      refine r_istore (L' := [(5, .int q6), (0, .ref 0), (1, .int v1), (2, .int v2), (3, .int v3), (4, .int v4)]) dX9_item_30 (by decide) rfl ?_
      refine r_iload dX9_item_32 0 rfl ?_
      refine r_if_eq (tgt := 40) dX9_item_34 (by decide) (fun h7 => ?_) (fun h7 => ?_)
      · refine r_aload_n dX9_item_40 1 rfl rfl ?_
        refine r_getr dX9_item_41 fl_X9_70 (by decide) rfl rfl (by decide) ?_
        refine r_iload_n dX9_item_44 2 rfl rfl ?_
        refine r_aald (x := 70 + 2 * ix v1) dX9_item_45 (by decide) rfl (by decide) (by decide) rfl (fun h8 => ?_)
        refine r_iload_n dX9_item_46 4 rfl rfl ?_
        refine r_iload dX9_item_47 5 rfl ?_
        refine rVc_vS (as := [.int v3, .int v4]) (st := []) dX9_item_49 cl_X9_287 (isH_70 h8).a (isH_70 h8).2.1 rfl (m_X4_put S T U V (70 + 2 * ix v1) (isH_70 h8) v3 v4) (by decide) rfl (Nat.le_of_ble_eq_true rfl) (fun q9 _ => ?_)
        refine r_iconst (v := (1 : Int32)) dX9_item_52 rfl ?_
        exact r_ireturn (ty := .int) dX9_item_53 rfl (nar_i _) rfl
      · refine r_iload dX9_item_37 0 rfl ?_
        exact r_ireturn (ty := .int) dX9_item_39 rfl (nar_i _) rfl
