def f_X8_takeChances_8 (a1 : Nat) (v2 : Int32) : Nat → Int32 → SI → Option (Int32 × SI)
  | 0, _, _ => none
  | m_ + 1, v4, S =>
    if (S 57 3) ≤ v4 then
      some ((1 : Int32), S)
    else
      gd (inB (v2 + v4) 16) <|
      gd (inB v4 8) <|
      nm (up2 S 58 (ix v4) (S (a1 + 1) (ix (v2 + v4)))) fun S5 =>
      gd (inB v4 8) <|
      (f_X9_within (S5 58 (ix v4)) (13 : Int32)).bind fun q7 =>
      if q7 = 0 then
        some ((0 : Int32), S5)
      else
        (f_X8_takeChances_8 a1 v2 m_) (v4 + (1 : Int32)) S5
set_option maxHeartbeats 4000000 in
set_option maxRecDepth 100000 in
theorem t_X8_takeChances_8 (T : SL) (U : SI) (V : SL) (a1 : Nat) (ha1 : IsH a1) (v2 : Int32) : ∀ (m_ : Nat) (v4 : Int32) (S : SI), Run 2 yX8_takeChances cX8_takeChances 5 (some .boolean) none (fun a : Int32 × SI => (some (.int a.1), (a.2, T, U, V))) 8 [(0, .ref 57), (1, .ref a1), (2, .int v2), (4, .int v4)] [] (S, T, U, V) (f_X8_takeChances_8 a1 v2 m_ v4 S) := by
  intro m_
  induction m_ with
  | zero =>
    intro v4 S
    rw [f_X8_takeChances_8]
    exact r_none
  | succ m_ ih =>
    intro v4 S
    rw [f_X8_takeChances_8]
    refine r_iload dX8_takeChances_8 3 rfl ?_
    refine r_aload_n dX8_takeChances_10 0 rfl rfl ?_
    refine rc_geti dX8_takeChances_11 fl_X8_23 (by decide) (by decide) rfl rfl ?_
    refine r_icmp_ge (tgt := 56) dX8_takeChances_14 (by decide) (fun h2 => ?_) (fun h2 => ?_)
    · refine r_iconst (v := (1 : Int32)) dX8_takeChances_56 rfl ?_
      exact r_ireturn (ty := .boolean) dX8_takeChances_57 rfl rfl rfl
    · refine r_aload_n dX8_takeChances_17 0 rfl rfl ?_
      refine r_getr dX8_takeChances_18 fl_X8_9 (by decide) rfl rfl (by decide) ?_
      refine r_iload dX8_takeChances_21 3 rfl ?_
      refine r_aload_n dX8_takeChances_23 1 rfl rfl ?_
      refine r_getr dX8_takeChances_24 fl_X8_27 ha1.a ha1.2.1 rfl ha1.a1 ?_
      refine r_iload_n dX8_takeChances_27 2 rfl rfl ?_
      refine r_iload dX8_takeChances_28 3 rfl ?_
      refine r_iadd dX8_takeChances_30 ?_
      refine rc_iald dX8_takeChances_31 ha1.q1 ha1.a1 ha1.2.2 (fun h3 => ?_)
      refine rc_iast dX8_takeChances_32 (by decide) (by decide) rfl (fun h4 => ?_)
      refine r_nmS (fun S5 => ?_)
      refine r_aload_n dX8_takeChances_33 0 rfl rfl ?_
      refine r_getr dX8_takeChances_34 fl_X8_9 (by decide) rfl rfl (by decide) ?_
      refine r_iload dX8_takeChances_37 3 rfl ?_
      refine rc_iald dX8_takeChances_39 (by decide) (by decide) rfl (fun h6 => ?_)
      refine r_bipush (v := (13 : Int32)) dX8_takeChances_40 rfl ?_
      refine rN_i (as := [.int (S5 58 (ix v4)), .int (13 : Int32)]) (st := []) dX8_takeChances_42 cl_X8_32 (m_X9_within S5 T U V (S5 58 (ix v4)) (13 : Int32)) (by decide) rfl (Nat.le_of_ble_eq_true rfl) (fun q7 _ => ?_)
      refine r_if_ne (tgt := 50) dX8_takeChances_45 (by decide) (fun h8 => ?_) (fun h8 => ?_)
      · refine r_iconst (v := (0 : Int32)) dX8_takeChances_48 rfl ?_
        exact r_ireturn (ty := .boolean) dX8_takeChances_49 rfl rfl rfl
      · refine r_iinc (v := v4 + (1 : Int32)) (L' := [(4, .int (v4 + (1 : Int32))), (0, .ref 57), (1, .ref a1), (2, .int v2)]) dX8_takeChances_50 3 rfl rfl (by decide) rfl ?_
        refine r_goto (tgt := 8) dX8_takeChances_53 (by decide) ?_
        exact r_pick [1, 2, 3, 0] rfl (ih (v4 + (1 : Int32)) S5)
def f_X8_takeChances (S : SI) (a1 : Nat) (v2 : Int32) (v3 : Int32) : Option (Int32 × SI) :=
  nm (up2 S 57 3 v3) fun S1 =>
  f_X8_takeChances_8 a1 v2 fu (0 : Int32) S1
set_option maxHeartbeats 4000000 in
set_option maxRecDepth 100000 in
theorem m_X8_takeChances (S : SI) (T : SL) (U : SI) (V : SL) (a1 : Nat) (ha1 : IsH a1) (v2 : Int32) (v3 : Int32) : Meth 2 yX8_takeChances cX8_takeChances 5 (some .boolean) [.ref 57, .ref a1, .int v2, .int v3] (S, T, U, V) (f_X8_takeChances S a1 v2 v3) (fun a : Int32 × SI => (some (.int a.1), (a.2, T, U, V))) := by
  refine meth_of (L := [(0, .ref 57), (1, .ref a1), (2, .int v2), (3, .int v3)]) (by decide +kernel) (Nat.le_of_ble_eq_true rfl) rfl ?_
  rw [f_X8_takeChances]
  refine r_aload_n dX8_takeChances_0 0 rfl rfl ?_
  refine r_iload_n dX8_takeChances_1 3 rfl rfl ?_
  refine rc_puti (ty := .int) dX8_takeChances_2 fp_X8_23 (nar_i _) (fit_i _) (by decide) (by decide) rfl rfl ?_
  refine r_nmS (fun S1 => ?_)
  refine r_iconst (v := (0 : Int32)) dX8_takeChances_5 rfl ?_
  refine r_istore (L' := [(4, .int (0 : Int32)), (0, .ref 57), (1, .ref a1), (2, .int v2), (3, .int v3)]) dX8_takeChances_6 (by decide) rfl ?_
  exact r_pick [1, 2, 3, 0] rfl (t_X8_takeChances_8 T U V a1 ha1 v2 fu (0 : Int32) S1)
def f_X8_reckon_22 (S : SI) (v1 : Int32) (v2 : Int32) : Nat → Int32 → SL → Option (SL)
  | 0, _, _ => none
  | m_ + 1, v3, T =>
    if v3 < 0 then
      some T
    else
      gd (inB v3 8) <|
      nm (((T 57 2) * v1.toInt64) * ((S 58 (ix v3)).toInt64)) fun x7 =>
      gd (inB (v3 + (1 : Int32)) 9) <|
      gd (inB v3 8) <|
      nm ((T 59 (ix (v3 + (1 : Int32)))) * (((12 : Int32) - (S 58 (ix v3))).toInt64)) fun x10 =>
      nm (up2 T 57 2 ((T 57 2) * (12 : Int64))) fun T11 =>
      gd (inB v3 9) <|
      nm (up2 T11 59 (ix v3) (mxL (0 : Int64) ((x7 + x10) - ((T11 57 2) * v2.toInt64)))) fun T13 =>
      (f_X8_reckon_22 S v1 v2 m_) (v3 + (-1 : Int32)) T13
set_option maxHeartbeats 4000000 in
set_option maxRecDepth 100000 in
theorem t_X8_reckon_22 (S : SI) (U : SI) (V : SL) (v1 : Int32) (v2 : Int32) : ∀ (m_ : Nat) (v3 : Int32) (T : SL), Run 1 yX8_reckon cX8_reckon 8 none none (fun a : SL => (none, (S, a, U, V))) 22 [(0, .ref 57), (1, .int v1), (2, .int v2), (3, .int v3)] [] (S, T, U, V) (f_X8_reckon_22 S v1 v2 m_ v3 T) := by
  intro m_
  induction m_ with
  | zero =>
    intro v3 T
    rw [f_X8_reckon_22]
    exact r_none
  | succ m_ ih =>
    intro v3 T
    rw [f_X8_reckon_22]
    refine r_iload_n dX8_reckon_22 3 rfl rfl ?_
    refine r_if_lt (tgt := 105) dX8_reckon_23 (by decide) (fun h5 => ?_) (fun h5 => ?_)
    · exact r_return dX8_reckon_105 rfl rfl
    · refine r_aload_n dX8_reckon_26 0 rfl rfl ?_
      refine rc_getl dX8_reckon_27 fl_X8_19 (by decide) (by decide) rfl rfl ?_
      refine r_iload_n dX8_reckon_30 1 rfl rfl ?_
      refine r_i2l dX8_reckon_31 ?_
      refine r_lmul dX8_reckon_32 ?_
      refine r_aload_n dX8_reckon_33 0 rfl rfl ?_
      refine r_getr dX8_reckon_34 fl_X8_9 (by decide) rfl rfl (by decide) ?_
      refine r_iload_n dX8_reckon_37 3 rfl rfl ?_
      refine rc_iald dX8_reckon_38 (by decide) (by decide) rfl (fun h6 => ?_)
      refine r_i2l dX8_reckon_39 ?_
      refine r_lmul dX8_reckon_40 ?_
      refine r_nml (fun x7 => ?_)
      refine r_lstore (L' := [(4, .long x7), (0, .ref 57), (1, .int v1), (2, .int v2), (3, .int v3)]) dX8_reckon_41 (by decide) rfl ?_
      refine r_aload_n dX8_reckon_43 1 rfl rfl ?_
      refine r_getr dX8_reckon_44 fl_X8_15 (by decide) rfl rfl (by decide) ?_
      refine r_iload_n dX8_reckon_47 4 rfl rfl ?_
      refine r_iconst (v := (1 : Int32)) dX8_reckon_48 rfl ?_
      refine r_iadd dX8_reckon_49 ?_
      refine rc_lald dX8_reckon_50 (by decide) (by decide) rfl (fun h8 => ?_)
      refine r_bipush (v := (12 : Int32)) dX8_reckon_51 rfl ?_
      refine r_aload_n dX8_reckon_53 1 rfl rfl ?_
      refine r_getr dX8_reckon_54 fl_X8_9 (by decide) rfl rfl (by decide) ?_
      refine r_iload_n dX8_reckon_57 4 rfl rfl ?_
      refine rc_iald dX8_reckon_58 (by decide) (by decide) rfl (fun h9 => ?_)
      refine r_isub dX8_reckon_59 ?_
      refine r_i2l dX8_reckon_60 ?_
      refine r_lmul dX8_reckon_61 ?_
      refine r_nml (fun x10 => ?_)
      refine r_lstore (L' := [(6, .long x10), (4, .long x7), (0, .ref 57), (1, .int v1), (2, .int v2), (3, .int v3)]) dX8_reckon_62 (by decide) rfl ?_
      refine r_aload_n dX8_reckon_64 2 rfl rfl ?_
      refine r_dup dX8_reckon_65 rfl ?_
      refine rc_getl dX8_reckon_66 fl_X8_19 (by decide) (by decide) rfl rfl ?_
      refine r_ldc2_w (v := (12 : Int64)) dX8_reckon_69 kw_X8_36 ?_
      refine r_lmul dX8_reckon_72 ?_
      refine rc_putl (ty := .long) dX8_reckon_73 fp_X8_19 rfl rfl (by decide) (by decide) rfl rfl ?_
      refine r_nmT (fun T11 => ?_)
      refine r_aload_n dX8_reckon_76 2 rfl rfl ?_
      refine r_getr dX8_reckon_77 fl_X8_15 (by decide) rfl rfl (by decide) ?_
      refine r_iload_n dX8_reckon_80 5 rfl rfl ?_
      refine r_lconst (v := (0 : Int64)) dX8_reckon_81 rfl ?_
      refine r_lload dX8_reckon_82 1 rfl ?_
      refine r_lload dX8_reckon_84 0 rfl ?_
      refine r_ladd dX8_reckon_86 ?_
      refine r_aload_n dX8_reckon_87 2 rfl rfl ?_
      refine rc_getl dX8_reckon_88 fl_X8_19 (by decide) (by decide) rfl rfl ?_
      refine r_iload_n dX8_reckon_91 4 rfl rfl ?_
      refine r_i2l dX8_reckon_92 ?_
      refine r_lmul dX8_reckon_93 ?_
      refine r_lsub dX8_reckon_94 ?_
      refine r_mmaxl dX8_reckon_95 cl_X8_38 (by decide) (Nat.le_of_ble_eq_true rfl) ?_
      refine rc_last dX8_reckon_98 (by decide) (by decide) rfl (fun h12 => ?_)
      refine r_nmT (fun T13 => ?_)
      refine r_iinc (v := v3 + (-1 : Int32)) (L' := [(3, .int (v3 + (-1 : Int32))), (6, .long x10), (4, .long x7), (0, .ref 57), (1, .int v1), (2, .int v2)]) dX8_reckon_99 5 rfl rfl (by decide) rfl ?_
      refine r_goto (tgt := 22) dX8_reckon_102 (by decide) ?_
      exact r_pick [3, 4, 5, 0] rfl (ih (v3 + (-1 : Int32)) T13)
def f_X8_reckon (S : SI) (T : SL) (v1 : Int32) (v2 : Int32) : Option (SL) :=
  gd (inB (S 57 3) 9) <|
  nm (up2 T 59 (ix (S 57 3)) (0 : Int64)) fun T2 =>
  nm (up2 T2 57 2 (1 : Int64)) fun T3 =>
  nm ((S 57 3) - (1 : Int32)) fun x4 =>
  f_X8_reckon_22 S v1 v2 fu x4 T3
set_option maxHeartbeats 4000000 in
set_option maxRecDepth 100000 in
theorem m_X8_reckon (S : SI) (T : SL) (U : SI) (V : SL) (v1 : Int32) (v2 : Int32) : Meth 1 yX8_reckon cX8_reckon 8 none [.ref 57, .int v1, .int v2] (S, T, U, V) (f_X8_reckon S T v1 v2) (fun a : SL => (none, (S, a, U, V))) := by
  refine meth_of (L := [(0, .ref 57), (1, .int v1), (2, .int v2)]) (by decide +kernel) (Nat.le_of_ble_eq_true rfl) rfl ?_
  rw [f_X8_reckon]
  refine r_aload_n dX8_reckon_0 0 rfl rfl ?_
  refine r_getr dX8_reckon_1 fl_X8_15 (by decide) rfl rfl (by decide) ?_
  refine r_aload_n dX8_reckon_4 0 rfl rfl ?_
  refine rc_geti dX8_reckon_5 fl_X8_23 (by decide) (by decide) rfl rfl ?_
  refine r_lconst (v := (0 : Int64)) dX8_reckon_8 rfl ?_
  refine rc_last dX8_reckon_9 (by decide) (by decide) rfl (fun h1 => ?_)
  refine r_nmT (fun T2 => ?_)
  refine r_aload_n dX8_reckon_10 0 rfl rfl ?_
  refine r_lconst (v := (1 : Int64)) dX8_reckon_11 rfl ?_
  refine rc_putl (ty := .long) dX8_reckon_12 fp_X8_19 rfl rfl (by decide) (by decide) rfl rfl ?_
  refine r_nmT (fun T3 => ?_)
  refine r_aload_n dX8_reckon_15 0 rfl rfl ?_
  refine rc_geti dX8_reckon_16 fl_X8_23 (by decide) (by decide) rfl rfl ?_
  refine r_iconst (v := (1 : Int32)) dX8_reckon_19 rfl ?_
  refine r_isub dX8_reckon_20 ?_
  refine r_nmi (fun x4 => ?_)
  refine r_istore_n (L' := [(3, .int x4), (0, .ref 57), (1, .int v1), (2, .int v2)]) dX8_reckon_21 rfl (by decide) rfl ?_
  exact r_pick [1, 2, 3, 0] rfl (t_X8_reckon_22 S U V v1 v2 fu x4 T3)
def f_X8_firstWorthless_2 (S : SI) (T : SL) : Nat → Int32 → Option (Int32)
  | 0, _ => none
  | m_ + 1, v1 =>
    if (S 57 3) ≤ v1 then
      some (-4 : Int32)
    else
      gd (inB v1 9) <|
      if (T 59 (ix v1)) = (0 : Int64) then
        some v1
      else
        (f_X8_firstWorthless_2 S T m_) (v1 + (1 : Int32))
set_option maxHeartbeats 4000000 in
set_option maxRecDepth 100000 in
theorem t_X8_firstWorthless_2 (S : SI) (T : SL) (U : SI) (V : SL) : ∀ (m_ : Nat) (v1 : Int32), Run 1 yX8_firstWorthless cX8_firstWorthless 2 (some .int) none (fun a : Int32 => (some (.int a), (S, T, U, V))) 2 [(0, .ref 57), (1, .int v1)] [] (S, T, U, V) (f_X8_firstWorthless_2 S T m_ v1) := by
  intro m_
  induction m_ with
  | zero =>
    intro v1
    rw [f_X8_firstWorthless_2]
    exact r_none
  | succ m_ ih =>
    intro v1
    rw [f_X8_firstWorthless_2]
    refine r_iload_n dX8_firstWorthless_2 1 rfl rfl ?_
    refine r_aload_n dX8_firstWorthless_3 0 rfl rfl ?_
    refine rc_geti dX8_firstWorthless_4 fl_X8_23 (by decide) (by decide) rfl rfl ?_
    refine r_icmp_ge (tgt := 29) dX8_firstWorthless_7 (by decide) (fun h1 => ?_) (fun h1 => ?_)
    · refine r_bipush (v := (-4 : Int32)) dX8_firstWorthless_29 rfl ?_
      exact r_ireturn (ty := .int) dX8_firstWorthless_31 rfl (nar_i _) rfl
    · refine r_aload_n dX8_firstWorthless_10 0 rfl rfl ?_
      refine r_getr dX8_firstWorthless_11 fl_X8_15 (by decide) rfl rfl (by decide) ?_
      refine r_iload_n dX8_firstWorthless_14 1 rfl rfl ?_
      refine rc_lald dX8_firstWorthless_15 (by decide) (by decide) rfl (fun h2 => ?_)
      refine r_lconst (v := (0 : Int64)) dX8_firstWorthless_16 rfl ?_
      refine r_lcmp_ne (tgt := 23) dX8_firstWorthless_17 dX8_firstWorthless_18 (by decide) (fun h3 => ?_) (fun h3 => ?_)
      · refine r_iload_n dX8_firstWorthless_21 1 rfl rfl ?_
        exact r_ireturn (ty := .int) dX8_firstWorthless_22 rfl (nar_i _) rfl
      · refine r_iinc (v := v1 + (1 : Int32)) (L' := [(1, .int (v1 + (1 : Int32))), (0, .ref 57)]) dX8_firstWorthless_23 1 rfl rfl (by decide) rfl ?_
        refine r_goto (tgt := 2) dX8_firstWorthless_26 (by decide) ?_
        exact r_pick [1, 0] rfl (ih (v1 + (1 : Int32)))
def f_X8_firstWorthless (S : SI) (T : SL) : Option (Int32) :=
  f_X8_firstWorthless_2 S T fu (0 : Int32)
set_option maxHeartbeats 4000000 in
set_option maxRecDepth 100000 in
theorem m_X8_firstWorthless (S : SI) (T : SL) (U : SI) (V : SL)  : Meth 1 yX8_firstWorthless cX8_firstWorthless 2 (some .int) [.ref 57] (S, T, U, V) (f_X8_firstWorthless S T) (fun a : Int32 => (some (.int a), (S, T, U, V))) := by
  refine meth_of (L := [(0, .ref 57)]) (by decide +kernel) (Nat.le_of_ble_eq_true rfl) rfl ?_
  rw [f_X8_firstWorthless]
  refine r_iconst (v := (0 : Int32)) dX8_firstWorthless_0 rfl ?_
  refine r_istore_n (L' := [(1, .int (0 : Int32)), (0, .ref 57)]) dX8_firstWorthless_1 rfl (by decide) rfl ?_
  exact r_pick [1, 0] rfl (t_X8_firstWorthless_2 S T U V fu (0 : Int32))
