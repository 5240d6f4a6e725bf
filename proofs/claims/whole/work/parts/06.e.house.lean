def f_X1_having_5 (S : SI) (v1 : Int32) (v2 : Int32) : Nat → Int32 → Int32 → Option (Int32)
  | 0, _, _ => none
  | m_ + 1, v3, v4 =>
    if (S 1 1) ≤ v4 then
      some v3
    else
      gd (inB v4 12) <|
      (f_X5_trait S (9 + ix v4) v1).bind fun q3 =>
      if q3 = v2 then
        nm (v3 ||| ((1 : Int32) <<< (v4 &&& 31))) fun x5 =>
        (f_X1_having_5 S v1 v2 m_) x5 (v4 + (1 : Int32))
      else
        (f_X1_having_5 S v1 v2 m_) v3 (v4 + (1 : Int32))
set_option maxHeartbeats 4000000 in
set_option maxRecDepth 100000 in
theorem t_X1_having_5 (S : SI) (T : SL) (U : SI) (V : SL) (v1 : Int32) (v2 : Int32) : ∀ (m_ : Nat) (v3 : Int32) (v4 : Int32), Run 2 yX1_having cX1_having 5 (some .int) none (fun a : Int32 => (some (.int a), (S, T, U, V))) 5 [(0, .ref 1), (1, .int v1), (2, .int v2), (3, .int v3), (4, .int v4)] [] (S, T, U, V) (f_X1_having_5 S v1 v2 m_ v3 v4) := by
  intro m_
  induction m_ with
  | zero =>
    intro v3 v4
    rw [f_X1_having_5]
    exact r_none
  | succ m_ ih =>
    intro v3 v4
    rw [f_X1_having_5]
    refine r_iload dX1_having_5 4 rfl ?_
    refine r_aload_n dX1_having_7 0 rfl rfl ?_
    refine rc_geti dX1_having_8 fl_X1_41 (by decide) (by decide) rfl rfl ?_
    refine r_icmp_ge (tgt := 42) dX1_having_11 (by decide) (fun h1 => ?_) (fun h1 => ?_)
    · refine r_iload_n dX1_having_42 3 rfl rfl ?_
      exact r_ireturn (ty := .int) dX1_having_43 rfl (nar_i _) rfl
    · refine r_aload_n dX1_having_14 0 rfl rfl ?_
      refine r_getr dX1_having_15 fl_X1_11 (by decide) rfl rfl (by decide) ?_
      refine r_iload dX1_having_18 4 rfl ?_
      refine r_aald (x := 9 + ix v4) dX1_having_20 (by decide) rfl (by decide) (by decide) rfl (fun h2 => ?_)
      refine r_iload_n dX1_having_21 1 rfl rfl ?_
      refine rV_i (as := [.int v1]) (st := []) dX1_having_22 cl_X1_63 (isS_9 h2).a (isS_9 h2).2 rfl (m_X5_trait S T U V (9 + ix v4) (isS_9 h2) v1) (by decide) rfl (Nat.le_of_ble_eq_true rfl) (fun q3 _ => ?_)
      refine r_iload_n dX1_having_25 2 rfl rfl ?_
      refine r_icmp_ne (tgt := 36) dX1_having_26 (by decide) (fun h4 => ?_) (fun h4 => ?_)
      · refine r_iload_n dX1_having_29 3 rfl rfl ?_
        refine r_iconst (v := (1 : Int32)) dX1_having_30 rfl ?_
        refine r_iload dX1_having_31 4 rfl ?_
        refine r_ishl dX1_having_33 ?_
        refine r_ior dX1_having_34 ?_
        refine r_nmi (fun x5 => ?_)
        refine r_istore_n (L' := [(3, .int x5), (0, .ref 1), (1, .int v1), (2, .int v2), (4, .int v4)]) dX1_having_35 rfl (by decide) rfl ?_
        refine r_iinc (v := v4 + (1 : Int32)) (L' := [(4, .int (v4 + (1 : Int32))), (3, .int x5), (0, .ref 1), (1, .int v1), (2, .int v2)]) dX1_having_36 4 rfl rfl (by decide) rfl ?_
        refine r_goto (tgt := 5) dX1_having_39 (by decide) ?_
        exact r_pick [2, 3, 4, 1, 0] rfl (ih x5 (v4 + (1 : Int32)))
      · refine r_iinc (v := v4 + (1 : Int32)) (L' := [(4, .int (v4 + (1 : Int32))), (0, .ref 1), (1, .int v1), (2, .int v2), (3, .int v3)]) dX1_having_36 4 rfl rfl (by decide) rfl ?_
        refine r_goto (tgt := 5) dX1_having_39 (by decide) ?_
        exact r_pick [1, 2, 3, 4, 0] rfl (ih v3 (v4 + (1 : Int32)))
def f_X1_having (S : SI) (v1 : Int32) (v2 : Int32) : Option (Int32) :=
  f_X1_having_5 S v1 v2 fu (0 : Int32) (0 : Int32)
set_option maxHeartbeats 4000000 in
set_option maxRecDepth 100000 in
theorem m_X1_having (S : SI) (T : SL) (U : SI) (V : SL) (v1 : Int32) (v2 : Int32) : Meth 2 yX1_having cX1_having 5 (some .int) [.ref 1, .int v1, .int v2] (S, T, U, V) (f_X1_having S v1 v2) (fun a : Int32 => (some (.int a), (S, T, U, V))) := by
  refine meth_of (L := [(0, .ref 1), (1, .int v1), (2, .int v2)]) (by decide +kernel) (Nat.le_of_ble_eq_true rfl) rfl ?_
  rw [f_X1_having]
  refine r_iconst (v := (0 : Int32)) dX1_having_0 rfl ?_
  refine r_istore_n (L' := [(3, .int (0 : Int32)), (0, .ref 1), (1, .int v1), (2, .int v2)]) dX1_having_1 rfl (by decide) rfl ?_
  refine r_iconst (v := (0 : Int32)) dX1_having_2 rfl ?_
  refine r_istore (L' := [(4, .int (0 : Int32)), (3, .int (0 : Int32)), (0, .ref 1), (1, .int v1), (2, .int v2)]) dX1_having_3 (by decide) rfl ?_
  exact r_pick [2, 3, 4, 1, 0] rfl (t_X1_having_5 S T U V v1 v2 fu (0 : Int32) (0 : Int32))
def f_X1_placed (S : SI) (v1 : Int32) : Option (Int32) :=
  (f_X1_having S (4 : Int32) v1).bind fun q1 =>
  some q1
set_option maxHeartbeats 4000000 in
set_option maxRecDepth 100000 in
theorem m_X1_placed (S : SI) (T : SL) (U : SI) (V : SL) (v1 : Int32) : Meth 3 yX1_placed cX1_placed 2 (some .int) [.ref 1, .int v1] (S, T, U, V) (f_X1_placed S v1) (fun a : Int32 => (some (.int a), (S, T, U, V))) := by
  refine meth_of (L := [(0, .ref 1), (1, .int v1)]) (by decide +kernel) (Nat.le_of_ble_eq_true rfl) rfl ?_
  rw [f_X1_placed]
  refine r_aload_n dX1_placed_0 0 rfl rfl ?_
  refine r_iconst (v := (4 : Int32)) dX1_placed_1 rfl ?_
  refine r_iload_n dX1_placed_2 1 rfl rfl ?_
  refine rV_i (as := [.int (4 : Int32), .int v1]) (st := []) dX1_placed_3 cl_X1_67 (by decide) rfl rfl (m_X1_having S T U V (4 : Int32) v1) (by decide) rfl (Nat.le_of_ble_eq_true rfl) (fun q1 _ => ?_)
  exact r_ireturn (ty := .int) dX1_placed_6 rfl (nar_i _) rfl
def f_X1_copyFromA_34 (ke61 : SI → Option (SI)) : Nat → Int32 → SI → Option (SI)
  | 0, _, _ => none
  | m_ + 1, v2, S =>
    if (12 : Int32) ≤ v2 then
      ke61 S
    else
      gd (inB v2 12) <|
      gd (inB v2 12) <|
      (f_X5_copyFrom S (29 + ix v2) (9 + ix v2)).bind fun q8 =>
      (f_X1_copyFromA_34 ke61 m_) (v2 + (1 : Int32)) q8
set_option maxHeartbeats 4000000 in
set_option maxRecDepth 100000 in
theorem t_X1_copyFromA_34 (T : SL) (U : SI) (V : SL) (ke61 : SI → Option (SI)) (hke61 : ∀ (S' : SI), Run 2 yX1_copyFrom cX1_copyFrom 3 none none (fun a : SI => (none, (a, T, U, V))) 61 [(0, .ref 21), (1, .ref 1)] [] (S', T, U, V) (ke61 S')) : ∀ (m_ : Nat) (v2 : Int32) (S : SI), Run 2 yX1_copyFrom cX1_copyFrom 3 none none (fun a : SI => (none, (a, T, U, V))) 34 [(0, .ref 21), (1, .ref 1), (2, .int v2)] [] (S, T, U, V) (f_X1_copyFromA_34 ke61 m_ v2 S) := by
  intro m_
  induction m_ with
  | zero =>
    intro v2 S
    rw [f_X1_copyFromA_34]
    exact r_none
  | succ m_ ih =>
    intro v2 S
    rw [f_X1_copyFromA_34]
    refine r_iload_n dX1_copyFrom_34 2 rfl rfl ?_
    refine r_bipush (v := (12 : Int32)) dX1_copyFrom_35 rfl ?_
    refine r_icmp_ge (tgt := 61) dX1_copyFrom_37 (by decide) (fun h5 => ?_) (fun h5 => ?_)
    · exact r_pick [0, 1] rfl (hke61 S)
    · refine r_aload_n dX1_copyFrom_40 0 rfl rfl ?_
      refine r_getr dX1_copyFrom_41 fl_X1_11 (by decide) rfl rfl (by decide) ?_
      refine r_iload_n dX1_copyFrom_44 2 rfl rfl ?_
      refine r_aald (x := 29 + ix v2) dX1_copyFrom_45 (by decide) rfl (by decide) (by decide) rfl (fun h6 => ?_)
      refine r_aload_n dX1_copyFrom_46 1 rfl rfl ?_
      refine r_getr dX1_copyFrom_47 fl_X1_11 (by decide) rfl rfl (by decide) ?_
      refine r_iload_n dX1_copyFrom_50 2 rfl rfl ?_
      refine r_aald (x := 9 + ix v2) dX1_copyFrom_51 (by decide) rfl (by decide) (by decide) rfl (fun h7 => ?_)
      refine rVc_vS (as := [.ref (9 + ix v2)]) (st := []) dX1_copyFrom_52 cl_X1_50 (isS_29 h6).a (isS_29 h6).2 rfl (m_X5_copyFrom S T U V (29 + ix v2) (isS_29 h6) (9 + ix v2) (isS_9 h7)) (by decide) rfl (Nat.le_of_ble_eq_true rfl) (fun q8 _ => ?_)
      refine r_iinc (v := v2 + (1 : Int32)) (L' := [(2, .int (v2 + (1 : Int32))), (0, .ref 21), (1, .ref 1)]) dX1_copyFrom_55 2 rfl rfl (by decide) rfl ?_
      refine r_goto (tgt := 34) dX1_copyFrom_58 (by decide) ?_
      exact r_pick [1, 2, 0] rfl (ih (v2 + (1 : Int32)) q8)
def f_X1_copyFromA_61 (S : SI) : Option (SI) :=
  gd (cpB (0 : Int32) (0 : Int32) (12 : Int32) 12 12) <|
  nm (va_up S 23 (va_cpy (S 3) (S 23) (ix (0 : Int32)) (ix (0 : Int32)) (ix (12 : Int32)))) fun S10 =>
  gd (cpB (0 : Int32) (0 : Int32) (12 : Int32) 12 12) <|
  nm (va_up S10 24 (va_cpy (S10 4) (S10 24) (ix (0 : Int32)) (ix (0 : Int32)) (ix (12 : Int32)))) fun S12 =>
  gd (cpB (0 : Int32) (0 : Int32) (6 : Int32) 6 6) <|
  nm (va_up S12 25 (va_cpy (S12 5) (S12 25) (ix (0 : Int32)) (ix (0 : Int32)) (ix (6 : Int32)))) fun S14 =>
  gd (cpB (0 : Int32) (0 : Int32) (18 : Int32) 18 18) <|
  nm (va_up S14 26 (va_cpy (S14 6) (S14 26) (ix (0 : Int32)) (ix (0 : Int32)) (ix (18 : Int32)))) fun S16 =>
  gd (cpB (0 : Int32) (0 : Int32) (18 : Int32) 18 18) <|
  nm (va_up S16 27 (va_cpy (S16 7) (S16 27) (ix (0 : Int32)) (ix (0 : Int32)) (ix (18 : Int32)))) fun S18 =>
  gd (cpB (0 : Int32) (0 : Int32) (3 : Int32) 3 3) <|
  nm (va_up S18 28 (va_cpy (S18 8) (S18 28) (ix (0 : Int32)) (ix (0 : Int32)) (ix (3 : Int32)))) fun S20 =>
  some S20
set_option maxHeartbeats 4000000 in
set_option maxRecDepth 100000 in
theorem t_X1_copyFromA_61 (S : SI) (T : SL) (U : SI) (V : SL) : Run 2 yX1_copyFrom cX1_copyFrom 3 none none (fun a : SI => (none, (a, T, U, V))) 61 [(0, .ref 21), (1, .ref 1)] [] (S, T, U, V) (f_X1_copyFromA_61 S) := by
  rw [f_X1_copyFromA_61]
  refine r_aload_n dX1_copyFrom_61 1 rfl rfl ?_
  refine r_getr dX1_copyFrom_62 fl_X1_17 (by decide) rfl rfl (by decide) ?_
  refine r_iconst (v := (0 : Int32)) dX1_copyFrom_65 rfl ?_
  refine r_aload_n dX1_copyFrom_66 0 rfl rfl ?_
  refine r_getr dX1_copyFrom_67 fl_X1_17 (by decide) rfl rfl (by decide) ?_
  refine r_iconst (v := (0 : Int32)) dX1_copyFrom_70 rfl ?_
  refine r_bipush (v := (12 : Int32)) dX1_copyFrom_71 rfl ?_
  refine rc_copy dX1_copyFrom_73 cp_X1_54 (by decide) (by decide) (by decide) rfl rfl (Nat.le_of_ble_eq_true rfl) (fun h9 => ?_)
  refine r_nmS (fun S10 => ?_)
  refine r_aload_n dX1_copyFrom_76 1 rfl rfl ?_
  refine r_getr dX1_copyFrom_77 fl_X1_21 (by decide) rfl rfl (by decide) ?_
  refine r_iconst (v := (0 : Int32)) dX1_copyFrom_80 rfl ?_
  refine r_aload_n dX1_copyFrom_81 0 rfl rfl ?_
  refine r_getr dX1_copyFrom_82 fl_X1_21 (by decide) rfl rfl (by decide) ?_
  refine r_iconst (v := (0 : Int32)) dX1_copyFrom_85 rfl ?_
  refine r_bipush (v := (12 : Int32)) dX1_copyFrom_86 rfl ?_
  refine rc_copy dX1_copyFrom_88 cp_X1_54 (by decide) (by decide) (by decide) rfl rfl (Nat.le_of_ble_eq_true rfl) (fun h11 => ?_)
  refine r_nmS (fun S12 => ?_)
  refine r_aload_n dX1_copyFrom_91 1 rfl rfl ?_
  refine r_getr dX1_copyFrom_92 fl_X1_24 (by decide) rfl rfl (by decide) ?_
  refine r_iconst (v := (0 : Int32)) dX1_copyFrom_95 rfl ?_
  refine r_aload_n dX1_copyFrom_96 0 rfl rfl ?_
  refine r_getr dX1_copyFrom_97 fl_X1_24 (by decide) rfl rfl (by decide) ?_
  refine r_iconst (v := (0 : Int32)) dX1_copyFrom_100 rfl ?_
  refine r_bipush (v := (6 : Int32)) dX1_copyFrom_101 rfl ?_
  refine rc_copy dX1_copyFrom_103 cp_X1_54 (by decide) (by decide) (by decide) rfl rfl (Nat.le_of_ble_eq_true rfl) (fun h13 => ?_)
  refine r_nmS (fun S14 => ?_)
  refine r_aload_n dX1_copyFrom_106 1 rfl rfl ?_
  refine r_getr dX1_copyFrom_107 fl_X1_31 (by decide) rfl rfl (by decide) ?_
  refine r_iconst (v := (0 : Int32)) dX1_copyFrom_110 rfl ?_
  refine r_aload_n dX1_copyFrom_111 0 rfl rfl ?_
  refine r_getr dX1_copyFrom_112 fl_X1_31 (by decide) rfl rfl (by decide) ?_
  refine r_iconst (v := (0 : Int32)) dX1_copyFrom_115 rfl ?_
  refine r_bipush (v := (18 : Int32)) dX1_copyFrom_116 rfl ?_
  refine rc_copy dX1_copyFrom_118 cp_X1_54 (by decide) (by decide) (by decide) rfl rfl (Nat.le_of_ble_eq_true rfl) (fun h15 => ?_)
  refine r_nmS (fun S16 => ?_)
  refine r_aload_n dX1_copyFrom_121 1 rfl rfl ?_
  refine r_getr dX1_copyFrom_122 fl_X1_34 (by decide) rfl rfl (by decide) ?_
  refine r_iconst (v := (0 : Int32)) dX1_copyFrom_125 rfl ?_
  refine r_aload_n dX1_copyFrom_126 0 rfl rfl ?_
  refine r_getr dX1_copyFrom_127 fl_X1_34 (by decide) rfl rfl (by decide) ?_
  refine r_iconst (v := (0 : Int32)) dX1_copyFrom_130 rfl ?_
  refine r_bipush (v := (18 : Int32)) dX1_copyFrom_131 rfl ?_
  refine rc_copy dX1_copyFrom_133 cp_X1_54 (by decide) (by decide) (by decide) rfl rfl (Nat.le_of_ble_eq_true rfl) (fun h17 => ?_)
  refine r_nmS (fun S18 => ?_)
  refine r_aload_n dX1_copyFrom_136 1 rfl rfl ?_
  refine r_getr dX1_copyFrom_137 fl_X1_37 (by decide) rfl rfl (by decide) ?_
  refine r_iconst (v := (0 : Int32)) dX1_copyFrom_140 rfl ?_
  refine r_aload_n dX1_copyFrom_141 0 rfl rfl ?_
  refine r_getr dX1_copyFrom_142 fl_X1_37 (by decide) rfl rfl (by decide) ?_
  refine r_iconst (v := (0 : Int32)) dX1_copyFrom_145 rfl ?_
  refine r_iconst (v := (3 : Int32)) dX1_copyFrom_146 rfl ?_
  refine rc_copy dX1_copyFrom_147 cp_X1_54 (by decide) (by decide) (by decide) rfl rfl (Nat.le_of_ble_eq_true rfl) (fun h19 => ?_)
  refine r_nmS (fun S20 => ?_)
  exact r_return dX1_copyFrom_150 rfl rfl
def f_X1_copyFromA (S : SI) : Option (SI) :=
  nm (up2 S 21 1 (S 1 1)) fun S1 =>
  nm (up2 S1 21 4 (S1 1 4)) fun S2 =>
  nm (up2 S2 21 6 (S2 1 6)) fun S3 =>
  nm (up2 S3 21 7 (S3 1 7)) fun S4 =>
  f_X1_copyFromA_34 (fun So => f_X1_copyFromA_61 So) fu (0 : Int32) S4
set_option maxHeartbeats 4000000 in
set_option maxRecDepth 100000 in
theorem m_X1_copyFromA (S : SI) (T : SL) (U : SI) (V : SL)  : Meth 2 yX1_copyFrom cX1_copyFrom 3 none [.ref 21, .ref 1] (S, T, U, V) (f_X1_copyFromA S) (fun a : SI => (none, (a, T, U, V))) := by
  refine meth_of (L := [(0, .ref 21), (1, .ref 1)]) (by decide +kernel) (Nat.le_of_ble_eq_true rfl) rfl ?_
  rw [f_X1_copyFromA]
  refine r_aload_n dX1_copyFrom_0 0 rfl rfl ?_
  refine r_aload_n dX1_copyFrom_1 1 rfl rfl ?_
  refine rc_geti dX1_copyFrom_2 fl_X1_41 (by decide) (by decide) rfl rfl ?_
  refine rc_puti (ty := .int) dX1_copyFrom_5 fp_X1_41 (nar_i _) (fit_i _) (by decide) (by decide) rfl rfl ?_
  refine r_nmS (fun S1 => ?_)
  refine r_aload_n dX1_copyFrom_8 0 rfl rfl ?_
  refine r_aload_n dX1_copyFrom_9 1 rfl rfl ?_
  refine rc_geti dX1_copyFrom_10 fl_X1_44 (by decide) (by decide) rfl rfl ?_
  refine rc_puti (ty := .int) dX1_copyFrom_13 fp_X1_44 (nar_i _) (fit_i _) (by decide) (by decide) rfl rfl ?_
  refine r_nmS (fun S2 => ?_)
  refine r_aload_n dX1_copyFrom_16 0 rfl rfl ?_
  refine r_aload_n dX1_copyFrom_17 1 rfl rfl ?_
  refine rc_geti dX1_copyFrom_18 fl_X1_27 (by decide) (by decide) rfl rfl ?_
  refine rc_puti (ty := .int) dX1_copyFrom_21 fp_X1_27 (nar_i _) (fit_i _) (by decide) (by decide) rfl rfl ?_
  refine r_nmS (fun S3 => ?_)
  refine r_aload_n dX1_copyFrom_24 0 rfl rfl ?_
  refine r_aload_n dX1_copyFrom_25 1 rfl rfl ?_
  refine rc_geti dX1_copyFrom_26 fl_X1_47 (by decide) (by decide) rfl rfl ?_
  refine rc_puti (ty := .int) dX1_copyFrom_29 fp_X1_47 (nar_i _) (fit_i _) (by decide) (by decide) rfl rfl ?_
  refine r_nmS (fun S4 => ?_)
  refine r_iconst (v := (0 : Int32)) dX1_copyFrom_32 rfl ?_
  refine r_istore_n (L' := [(2, .int (0 : Int32)), (0, .ref 21), (1, .ref 1)]) dX1_copyFrom_33 rfl (by decide) rfl ?_
  exact r_pick [1, 2, 0] rfl (t_X1_copyFromA_34 T U V (fun So => f_X1_copyFromA_61 So) (fun So => r_pick [0, 1] rfl (t_X1_copyFromA_61 So T U V)) fu (0 : Int32) S4)
def f_X1_copyFromB_34 (ke61 : SI → Option (SI)) : Nat → Int32 → SI → Option (SI)
  | 0, _, _ => none
  | m_ + 1, v2, S =>
    if (12 : Int32) ≤ v2 then
      ke61 S
    else
      gd (inB v2 12) <|
      gd (inB v2 12) <|
      (f_X5_copyFrom S (9 + ix v2) (29 + ix v2)).bind fun q8 =>
      (f_X1_copyFromB_34 ke61 m_) (v2 + (1 : Int32)) q8
set_option maxHeartbeats 4000000 in
set_option maxRecDepth 100000 in
theorem t_X1_copyFromB_34 (T : SL) (U : SI) (V : SL) (ke61 : SI → Option (SI)) (hke61 : ∀ (S' : SI), Run 2 yX1_copyFrom cX1_copyFrom 3 none none (fun a : SI => (none, (a, T, U, V))) 61 [(0, .ref 1), (1, .ref 21)] [] (S', T, U, V) (ke61 S')) : ∀ (m_ : Nat) (v2 : Int32) (S : SI), Run 2 yX1_copyFrom cX1_copyFrom 3 none none (fun a : SI => (none, (a, T, U, V))) 34 [(0, .ref 1), (1, .ref 21), (2, .int v2)] [] (S, T, U, V) (f_X1_copyFromB_34 ke61 m_ v2 S) := by
  intro m_
  induction m_ with
  | zero =>
    intro v2 S
    rw [f_X1_copyFromB_34]
    exact r_none
  | succ m_ ih =>
    intro v2 S
    rw [f_X1_copyFromB_34]
    refine r_iload_n dX1_copyFrom_34 2 rfl rfl ?_
    refine r_bipush (v := (12 : Int32)) dX1_copyFrom_35 rfl ?_
    refine r_icmp_ge (tgt := 61) dX1_copyFrom_37 (by decide) (fun h5 => ?_) (fun h5 => ?_)
    · exact r_pick [0, 1] rfl (hke61 S)
    · refine r_aload_n dX1_copyFrom_40 0 rfl rfl ?_
      refine r_getr dX1_copyFrom_41 fl_X1_11 (by decide) rfl rfl (by decide) ?_
      refine r_iload_n dX1_copyFrom_44 2 rfl rfl ?_
      refine r_aald (x := 9 + ix v2) dX1_copyFrom_45 (by decide) rfl (by decide) (by decide) rfl (fun h6 => ?_)
      refine r_aload_n dX1_copyFrom_46 1 rfl rfl ?_
      refine r_getr dX1_copyFrom_47 fl_X1_11 (by decide) rfl rfl (by decide) ?_
      refine r_iload_n dX1_copyFrom_50 2 rfl rfl ?_
      refine r_aald (x := 29 + ix v2) dX1_copyFrom_51 (by decide) rfl (by decide) (by decide) rfl (fun h7 => ?_)
      refine rVc_vS (as := [.ref (29 + ix v2)]) (st := []) dX1_copyFrom_52 cl_X1_50 (isS_9 h6).a (isS_9 h6).2 rfl (m_X5_copyFrom S T U V (9 + ix v2) (isS_9 h6) (29 + ix v2) (isS_29 h7)) (by decide) rfl (Nat.le_of_ble_eq_true rfl) (fun q8 _ => ?_)
      refine r_iinc (v := v2 + (1 : Int32)) (L' := [(2, .int (v2 + (1 : Int32))), (0, .ref 1), (1, .ref 21)]) dX1_copyFrom_55 2 rfl rfl (by decide) rfl ?_
      refine r_goto (tgt := 34) dX1_copyFrom_58 (by decide) ?_
      exact r_pick [1, 2, 0] rfl (ih (v2 + (1 : Int32)) q8)
def f_X1_copyFromB_61 (S : SI) : Option (SI) :=
  gd (cpB (0 : Int32) (0 : Int32) (12 : Int32) 12 12) <|
  nm (va_up S 3 (va_cpy (S 23) (S 3) (ix (0 : Int32)) (ix (0 : Int32)) (ix (12 : Int32)))) fun S10 =>
  gd (cpB (0 : Int32) (0 : Int32) (12 : Int32) 12 12) <|
  nm (va_up S10 4 (va_cpy (S10 24) (S10 4) (ix (0 : Int32)) (ix (0 : Int32)) (ix (12 : Int32)))) fun S12 =>
  gd (cpB (0 : Int32) (0 : Int32) (6 : Int32) 6 6) <|
  nm (va_up S12 5 (va_cpy (S12 25) (S12 5) (ix (0 : Int32)) (ix (0 : Int32)) (ix (6 : Int32)))) fun S14 =>
  gd (cpB (0 : Int32) (0 : Int32) (18 : Int32) 18 18) <|
  nm (va_up S14 6 (va_cpy (S14 26) (S14 6) (ix (0 : Int32)) (ix (0 : Int32)) (ix (18 : Int32)))) fun S16 =>
  gd (cpB (0 : Int32) (0 : Int32) (18 : Int32) 18 18) <|
  nm (va_up S16 7 (va_cpy (S16 27) (S16 7) (ix (0 : Int32)) (ix (0 : Int32)) (ix (18 : Int32)))) fun S18 =>
  gd (cpB (0 : Int32) (0 : Int32) (3 : Int32) 3 3) <|
  nm (va_up S18 8 (va_cpy (S18 28) (S18 8) (ix (0 : Int32)) (ix (0 : Int32)) (ix (3 : Int32)))) fun S20 =>
  some S20
set_option maxHeartbeats 4000000 in
set_option maxRecDepth 100000 in
theorem t_X1_copyFromB_61 (S : SI) (T : SL) (U : SI) (V : SL) : Run 2 yX1_copyFrom cX1_copyFrom 3 none none (fun a : SI => (none, (a, T, U, V))) 61 [(0, .ref 1), (1, .ref 21)] [] (S, T, U, V) (f_X1_copyFromB_61 S) := by
  rw [f_X1_copyFromB_61]
  refine r_aload_n dX1_copyFrom_61 1 rfl rfl ?_
  refine r_getr dX1_copyFrom_62 fl_X1_17 (by decide) rfl rfl (by decide) ?_
  refine r_iconst (v := (0 : Int32)) dX1_copyFrom_65 rfl ?_
  refine r_aload_n dX1_copyFrom_66 0 rfl rfl ?_
  refine r_getr dX1_copyFrom_67 fl_X1_17 (by decide) rfl rfl (by decide) ?_
  refine r_iconst (v := (0 : Int32)) dX1_copyFrom_70 rfl ?_
  refine r_bipush (v := (12 : Int32)) dX1_copyFrom_71 rfl ?_
  refine rc_copy dX1_copyFrom_73 cp_X1_54 (by decide) (by decide) (by decide) rfl rfl (Nat.le_of_ble_eq_true rfl) (fun h9 => ?_)
  refine r_nmS (fun S10 => ?_)
  refine r_aload_n dX1_copyFrom_76 1 rfl rfl ?_
  refine r_getr dX1_copyFrom_77 fl_X1_21 (by decide) rfl rfl (by decide) ?_
  refine r_iconst (v := (0 : Int32)) dX1_copyFrom_80 rfl ?_
  refine r_aload_n dX1_copyFrom_81 0 rfl rfl ?_
  refine r_getr dX1_copyFrom_82 fl_X1_21 (by decide) rfl rfl (by decide) ?_
  refine r_iconst (v := (0 : Int32)) dX1_copyFrom_85 rfl ?_
  refine r_bipush (v := (12 : Int32)) dX1_copyFrom_86 rfl ?_
  refine rc_copy dX1_copyFrom_88 cp_X1_54 (by decide) (by decide) (by decide) rfl rfl (Nat.le_of_ble_eq_true rfl) (fun h11 => ?_)
  refine r_nmS (fun S12 => ?_)
  refine r_aload_n dX1_copyFrom_91 1 rfl rfl ?_
  refine r_getr dX1_copyFrom_92 fl_X1_24 (by decide) rfl rfl (by decide) ?_
  refine r_iconst (v := (0 : Int32)) dX1_copyFrom_95 rfl ?_
  refine r_aload_n dX1_copyFrom_96 0 rfl rfl ?_
  refine r_getr dX1_copyFrom_97 fl_X1_24 (by decide) rfl rfl (by decide) ?_
  refine r_iconst (v := (0 : Int32)) dX1_copyFrom_100 rfl ?_
  refine r_bipush (v := (6 : Int32)) dX1_copyFrom_101 rfl ?_
  refine rc_copy dX1_copyFrom_103 cp_X1_54 (by decide) (by decide) (by decide) rfl rfl (Nat.le_of_ble_eq_true rfl) (fun h13 => ?_)
  refine r_nmS (fun S14 => ?_)
  refine r_aload_n dX1_copyFrom_106 1 rfl rfl ?_
  refine r_getr dX1_copyFrom_107 fl_X1_31 (by decide) rfl rfl (by decide) ?_
  refine r_iconst (v := (0 : Int32)) dX1_copyFrom_110 rfl ?_
  refine r_aload_n dX1_copyFrom_111 0 rfl rfl ?_
  refine r_getr dX1_copyFrom_112 fl_X1_31 (by decide) rfl rfl (by decide) ?_
  refine r_iconst (v := (0 : Int32)) dX1_copyFrom_115 rfl ?_
  refine r_bipush (v := (18 : Int32)) dX1_copyFrom_116 rfl ?_
  refine rc_copy dX1_copyFrom_118 cp_X1_54 (by decide) (by decide) (by decide) rfl rfl (Nat.le_of_ble_eq_true rfl) (fun h15 => ?_)
  refine r_nmS (fun S16 => ?_)
  refine r_aload_n dX1_copyFrom_121 1 rfl rfl ?_
  refine r_getr dX1_copyFrom_122 fl_X1_34 (by decide) rfl rfl (by decide) ?_
  refine r_iconst (v := (0 : Int32)) dX1_copyFrom_125 rfl ?_
  refine r_aload_n dX1_copyFrom_126 0 rfl rfl ?_
  refine r_getr dX1_copyFrom_127 fl_X1_34 (by decide) rfl rfl (by decide) ?_
  refine r_iconst (v := (0 : Int32)) dX1_copyFrom_130 rfl ?_
  refine r_bipush (v := (18 : Int32)) dX1_copyFrom_131 rfl ?_
  refine rc_copy dX1_copyFrom_133 cp_X1_54 (by decide) (by decide) (by decide) rfl rfl (Nat.le_of_ble_eq_true rfl) (fun h17 => ?_)
  refine r_nmS (fun S18 => ?_)
  refine r_aload_n dX1_copyFrom_136 1 rfl rfl ?_
  refine r_getr dX1_copyFrom_137 fl_X1_37 (by decide) rfl rfl (by decide) ?_
  refine r_iconst (v := (0 : Int32)) dX1_copyFrom_140 rfl ?_
  refine r_aload_n dX1_copyFrom_141 0 rfl rfl ?_
  refine r_getr dX1_copyFrom_142 fl_X1_37 (by decide) rfl rfl (by decide) ?_
  refine r_iconst (v := (0 : Int32)) dX1_copyFrom_145 rfl ?_
  refine r_iconst (v := (3 : Int32)) dX1_copyFrom_146 rfl ?_
  refine rc_copy dX1_copyFrom_147 cp_X1_54 (by decide) (by decide) (by decide) rfl rfl (Nat.le_of_ble_eq_true rfl) (fun h19 => ?_)
  refine r_nmS (fun S20 => ?_)
  exact r_return dX1_copyFrom_150 rfl rfl
def f_X1_copyFromB (S : SI) : Option (SI) :=
  nm (up2 S 1 1 (S 21 1)) fun S1 =>
  nm (up2 S1 1 4 (S1 21 4)) fun S2 =>
  nm (up2 S2 1 6 (S2 21 6)) fun S3 =>
  nm (up2 S3 1 7 (S3 21 7)) fun S4 =>
  f_X1_copyFromB_34 (fun So => f_X1_copyFromB_61 So) fu (0 : Int32) S4
set_option maxHeartbeats 4000000 in
set_option maxRecDepth 100000 in
theorem m_X1_copyFromB (S : SI) (T : SL) (U : SI) (V : SL)  : Meth 2 yX1_copyFrom cX1_copyFrom 3 none [.ref 1, .ref 21] (S, T, U, V) (f_X1_copyFromB S) (fun a : SI => (none, (a, T, U, V))) := by
  refine meth_of (L := [(0, .ref 1), (1, .ref 21)]) (by decide +kernel) (Nat.le_of_ble_eq_true rfl) rfl ?_
  rw [f_X1_copyFromB]
  refine r_aload_n dX1_copyFrom_0 0 rfl rfl ?_
  refine r_aload_n dX1_copyFrom_1 1 rfl rfl ?_
  refine rc_geti dX1_copyFrom_2 fl_X1_41 (by decide) (by decide) rfl rfl ?_
  refine rc_puti (ty := .int) dX1_copyFrom_5 fp_X1_41 (nar_i _) (fit_i _) (by decide) (by decide) rfl rfl ?_
  refine r_nmS (fun S1 => ?_)
  refine r_aload_n dX1_copyFrom_8 0 rfl rfl ?_
  refine r_aload_n dX1_copyFrom_9 1 rfl rfl ?_
  refine rc_geti dX1_copyFrom_10 fl_X1_44 (by decide) (by decide) rfl rfl ?_
  refine rc_puti (ty := .int) dX1_copyFrom_13 fp_X1_44 (nar_i _) (fit_i _) (by decide) (by decide) rfl rfl ?_
  refine r_nmS (fun S2 => ?_)
  refine r_aload_n dX1_copyFrom_16 0 rfl rfl ?_
  refine r_aload_n dX1_copyFrom_17 1 rfl rfl ?_
  refine rc_geti dX1_copyFrom_18 fl_X1_27 (by decide) (by decide) rfl rfl ?_
  refine rc_puti (ty := .int) dX1_copyFrom_21 fp_X1_27 (nar_i _) (fit_i _) (by decide) (by decide) rfl rfl ?_
  refine r_nmS (fun S3 => ?_)
  refine r_aload_n dX1_copyFrom_24 0 rfl rfl ?_
  refine r_aload_n dX1_copyFrom_25 1 rfl rfl ?_
  refine rc_geti dX1_copyFrom_26 fl_X1_47 (by decide) (by decide) rfl rfl ?_
  refine rc_puti (ty := .int) dX1_copyFrom_29 fp_X1_47 (nar_i _) (fit_i _) (by decide) (by decide) rfl rfl ?_
  refine r_nmS (fun S4 => ?_)
  refine r_iconst (v := (0 : Int32)) dX1_copyFrom_32 rfl ?_
  refine r_istore_n (L' := [(2, .int (0 : Int32)), (0, .ref 1), (1, .ref 21)]) dX1_copyFrom_33 rfl (by decide) rfl ?_
  exact r_pick [1, 2, 0] rfl (t_X1_copyFromB_34 T U V (fun So => f_X1_copyFromB_61 So) (fun So => r_pick [0, 1] rfl (t_X1_copyFromB_61 So T U V)) fu (0 : Int32) S4)
def f_X1_add (S : SI) (a1 : Nat) : Option (Int32 × SI) :=
  if (S 1 1) < (12 : Int32) then
    nm (S 1 1) fun x2 =>
    gd (inB x2 12) <|
    (f_X5_copyFrom S (9 + ix x2) a1).bind fun q4 =>
    gd (inB x2 12) <|
    nm (up2 q4 (9 + ix x2) 8 x2) fun S6 =>
    nm (up2 S6 1 1 ((S6 1 1) + (1 : Int32))) fun S7 =>
    some (x2, S7)
  else
    some ((-3 : Int32), S)
set_option maxHeartbeats 4000000 in
set_option maxRecDepth 100000 in
theorem m_X1_add (S : SI) (T : SL) (U : SI) (V : SL) (a1 : Nat) (ha1 : IsS a1) : Meth 2 yX1_add cX1_add 3 (some .int) [.ref 1, .ref a1] (S, T, U, V) (f_X1_add S a1) (fun a : Int32 × SI => (some (.int a.1), (a.2, T, U, V))) := by
  refine meth_of (L := [(0, .ref 1), (1, .ref a1)]) (by decide +kernel) (Nat.le_of_ble_eq_true rfl) rfl ?_
  rw [f_X1_add]
  refine r_aload_n dX1_add_0 0 rfl rfl ?_
  refine rc_geti dX1_add_1 fl_X1_41 (by decide) (by decide) rfl rfl ?_
  refine r_bipush (v := (12 : Int32)) dX1_add_4 rfl ?_
  refine r_icmp_lt (tgt := 12) dX1_add_6 (by decide) (fun h1 => ?_) (fun h1 => ?_)
  · refine r_aload_n dX1_add_12 0 rfl rfl ?_
    refine rc_geti dX1_add_13 fl_X1_41 (by decide) (by decide) rfl rfl ?_
    refine r_nmi (fun x2 => ?_)
    refine r_istore_n (L' := [(2, .int x2), (0, .ref 1), (1, .ref a1)]) dX1_add_16 rfl (by decide) rfl ?_
    refine r_aload_n dX1_add_17 1 rfl rfl ?_
    refine r_getr dX1_add_18 fl_X1_11 (by decide) rfl rfl (by decide) ?_
    refine r_iload_n dX1_add_21 0 rfl rfl ?_
    refine r_aald (x := 9 + ix x2) dX1_add_22 (by decide) rfl (by decide) (by decide) rfl (fun h3 => ?_)
    refine r_aload_n dX1_add_23 2 rfl rfl ?_
    refine rVc_vS (as := [.ref a1]) (st := []) dX1_add_24 cl_X1_50 (isS_9 h3).a (isS_9 h3).2 rfl (m_X5_copyFrom S T U V (9 + ix x2) (isS_9 h3) a1 ha1) (by decide) rfl (Nat.le_of_ble_eq_true rfl) (fun q4 _ => ?_)
    refine r_aload_n dX1_add_27 1 rfl rfl ?_
    refine r_getr dX1_add_28 fl_X1_11 (by decide) rfl rfl (by decide) ?_
    refine r_iload_n dX1_add_31 0 rfl rfl ?_
    refine r_aald (x := 9 + ix x2) dX1_add_32 (by decide) rfl (by decide) (by decide) rfl (fun h5 => ?_)
    refine r_iload_n dX1_add_33 0 rfl rfl ?_
    refine rc_puti (ty := .int) dX1_add_34 fp_X1_60 (nar_i _) (fit_i _) (isS_9 h5).1 (isS_9 h5).a (isS_9 h5).2 rfl ?_
    refine r_nmS (fun S6 => ?_)
    refine r_aload_n dX1_add_37 1 rfl rfl ?_
    refine r_dup dX1_add_38 rfl ?_
    refine rc_geti dX1_add_39 fl_X1_41 (by decide) (by decide) rfl rfl ?_
    refine r_iconst (v := (1 : Int32)) dX1_add_42 rfl ?_
    refine r_iadd dX1_add_43 ?_
    refine rc_puti (ty := .int) dX1_add_44 fp_X1_41 (nar_i _) (fit_i _) (by decide) (by decide) rfl rfl ?_
    refine r_nmS (fun S7 => ?_)
    refine r_iload_n dX1_add_47 0 rfl rfl ?_
    exact r_ireturn (ty := .int) dX1_add_48 rfl (nar_i _) rfl
  · refine r_bipush (v := (-3 : Int32)) dX1_add_9 rfl ?_
    exact r_ireturn (ty := .int) dX1_add_11 rfl (nar_i _) rfl
def f_X1_everyone (S : SI) : Option (Int32) :=
  some (((1 : Int32) <<< ((S 1 1) &&& 31)) - (1 : Int32))
set_option maxHeartbeats 4000000 in
set_option maxRecDepth 100000 in
theorem m_X1_everyone (S : SI) (T : SL) (U : SI) (V : SL)  : Meth 1 yX1_everyone cX1_everyone 1 (some .int) [.ref 1] (S, T, U, V) (f_X1_everyone S) (fun a : Int32 => (some (.int a), (S, T, U, V))) := by
  refine meth_of (L := [(0, .ref 1)]) (by decide +kernel) (Nat.le_of_ble_eq_true rfl) rfl ?_
  rw [f_X1_everyone]
  refine r_iconst (v := (1 : Int32)) dX1_everyone_0 rfl ?_
  refine r_aload_n dX1_everyone_1 0 rfl rfl ?_
  refine rc_geti dX1_everyone_2 fl_X1_41 (by decide) (by decide) rfl rfl ?_
  refine r_ishl dX1_everyone_5 ?_
  refine r_iconst (v := (1 : Int32)) dX1_everyone_6 rfl ?_
  refine r_isub dX1_everyone_7 ?_
  exact r_ireturn (ty := .int) dX1_everyone_8 rfl (nar_i _) rfl
def f_X1_outingsOf_4 (S : SI) (v1 : Int32) : Nat → Int32 → Int32 → Option (Int32)
  | 0, _, _ => none
  | m_ + 1, v2, v3 =>
    if (S 1 4) ≤ v3 then
      some v2
    else
      gd (inB v3 12) <|
      nm (v2 + (((S 3 (ix v3)) >>> (v1 &&& 31)) &&& (1 : Int32))) fun x3 =>
      (f_X1_outingsOf_4 S v1 m_) x3 (v3 + (1 : Int32))
set_option maxHeartbeats 4000000 in
set_option maxRecDepth 100000 in
theorem t_X1_outingsOf_4 (S : SI) (T : SL) (U : SI) (V : SL) (v1 : Int32) : ∀ (m_ : Nat) (v2 : Int32) (v3 : Int32), Run 1 yX1_outingsOf cX1_outingsOf 4 (some .int) none (fun a : Int32 => (some (.int a), (S, T, U, V))) 4 [(0, .ref 1), (1, .int v1), (2, .int v2), (3, .int v3)] [] (S, T, U, V) (f_X1_outingsOf_4 S v1 m_ v2 v3) := by
  intro m_
  induction m_ with
  | zero =>
    intro v2 v3
    rw [f_X1_outingsOf_4]
    exact r_none
  | succ m_ ih =>
    intro v2 v3
    rw [f_X1_outingsOf_4]
    refine r_iload_n dX1_outingsOf_4 3 rfl rfl ?_
    refine r_aload_n dX1_outingsOf_5 0 rfl rfl ?_
    refine rc_geti dX1_outingsOf_6 fl_X1_44 (by decide) (by decide) rfl rfl ?_
    refine r_icmp_ge (tgt := 31) dX1_outingsOf_9 (by decide) (fun h1 => ?_) (fun h1 => ?_)
    · refine r_iload_n dX1_outingsOf_31 2 rfl rfl ?_
      exact r_ireturn (ty := .int) dX1_outingsOf_32 rfl (nar_i _) rfl
    · refine r_iload_n dX1_outingsOf_12 2 rfl rfl ?_
      refine r_aload_n dX1_outingsOf_13 0 rfl rfl ?_
      refine r_getr dX1_outingsOf_14 fl_X1_17 (by decide) rfl rfl (by decide) ?_
      refine r_iload_n dX1_outingsOf_17 3 rfl rfl ?_
      refine rc_iald dX1_outingsOf_18 (by decide) (by decide) rfl (fun h2 => ?_)
      refine r_iload_n dX1_outingsOf_19 1 rfl rfl ?_
      refine r_ishr dX1_outingsOf_20 ?_
      refine r_iconst (v := (1 : Int32)) dX1_outingsOf_21 rfl ?_
      refine r_iand dX1_outingsOf_22 ?_
      refine r_iadd dX1_outingsOf_23 ?_
      refine r_nmi (fun x3 => ?_)
      refine r_istore_n (L' := [(2, .int x3), (0, .ref 1), (1, .int v1), (3, .int v3)]) dX1_outingsOf_24 rfl (by decide) rfl ?_
      refine r_iinc (v := v3 + (1 : Int32)) (L' := [(3, .int (v3 + (1 : Int32))), (2, .int x3), (0, .ref 1), (1, .int v1)]) dX1_outingsOf_25 3 rfl rfl (by decide) rfl ?_
      refine r_goto (tgt := 4) dX1_outingsOf_28 (by decide) ?_
      exact r_pick [2, 3, 1, 0] rfl (ih x3 (v3 + (1 : Int32)))
def f_X1_outingsOf (S : SI) (v1 : Int32) : Option (Int32) :=
  f_X1_outingsOf_4 S v1 fu (0 : Int32) (0 : Int32)
set_option maxHeartbeats 4000000 in
set_option maxRecDepth 100000 in
theorem m_X1_outingsOf (S : SI) (T : SL) (U : SI) (V : SL) (v1 : Int32) : Meth 1 yX1_outingsOf cX1_outingsOf 4 (some .int) [.ref 1, .int v1] (S, T, U, V) (f_X1_outingsOf S v1) (fun a : Int32 => (some (.int a), (S, T, U, V))) := by
  refine meth_of (L := [(0, .ref 1), (1, .int v1)]) (by decide +kernel) (Nat.le_of_ble_eq_true rfl) rfl ?_
  rw [f_X1_outingsOf]
  refine r_iconst (v := (0 : Int32)) dX1_outingsOf_0 rfl ?_
  refine r_istore_n (L' := [(2, .int (0 : Int32)), (0, .ref 1), (1, .int v1)]) dX1_outingsOf_1 rfl (by decide) rfl ?_
  refine r_iconst (v := (0 : Int32)) dX1_outingsOf_2 rfl ?_
  refine r_istore_n (L' := [(3, .int (0 : Int32)), (2, .int (0 : Int32)), (0, .ref 1), (1, .int v1)]) dX1_outingsOf_3 rfl (by decide) rfl ?_
  exact r_pick [2, 3, 1, 0] rfl (t_X1_outingsOf_4 S T U V v1 fu (0 : Int32) (0 : Int32))
def f_X1_canGo_2 (S : SI) (v1 : Int32) : Nat → Int32 → Option (Int32)
  | 0, _ => none
  | m_ + 1, v2 =>
    if (S 1 1) ≤ v2 then
      some (1 : Int32)
    else
      if ((v1 >>> (v2 &&& 31)) &&& (1 : Int32)) = 0 then
        (f_X1_canGo_2 S v1 m_) (v2 + (1 : Int32))
      else
        gd (inB v2 12) <|
        if (S (9 + ix v2) 4) = (1 : Int32) then
          some (0 : Int32)
        else
          gd (inB v2 12) <|
          if (S (9 + ix v2) 4) = (2 : Int32) then
            gd (inB v2 12) <|
            if ((v1 >>> ((S (9 + ix v2) 5) &&& 31)) &&& (1 : Int32)) = 0 then
              some (0 : Int32)
            else
              (f_X1_canGo_2 S v1 m_) (v2 + (1 : Int32))
          else
            (f_X1_canGo_2 S v1 m_) (v2 + (1 : Int32))
set_option maxHeartbeats 4000000 in
set_option maxRecDepth 100000 in
theorem t_X1_canGo_2 (S : SI) (T : SL) (U : SI) (V : SL) (v1 : Int32) : ∀ (m_ : Nat) (v2 : Int32), Run 1 yX1_canGo cX1_canGo 3 (some .boolean) none (fun a : Int32 => (some (.int a), (S, T, U, V))) 2 [(0, .ref 1), (1, .int v1), (2, .int v2)] [] (S, T, U, V) (f_X1_canGo_2 S v1 m_ v2) := by
  intro m_
  induction m_ with
  | zero =>
    intro v2
    rw [f_X1_canGo_2]
    exact r_none
  | succ m_ ih =>
    intro v2
    rw [f_X1_canGo_2]
    refine r_iload_n dX1_canGo_2 2 rfl rfl ?_
    refine r_aload_n dX1_canGo_3 0 rfl rfl ?_
    refine rc_geti dX1_canGo_4 fl_X1_41 (by decide) (by decide) rfl rfl ?_
    refine r_icmp_ge (tgt := 73) dX1_canGo_7 (by decide) (fun h1 => ?_) (fun h1 => ?_)
    · refine r_iconst (v := (1 : Int32)) dX1_canGo_73 rfl ?_
      exact r_ireturn (ty := .boolean) dX1_canGo_74 rfl rfl rfl
    · refine r_iload_n dX1_canGo_10 1 rfl rfl ?_
      refine r_iload_n dX1_canGo_11 2 rfl rfl ?_
      refine r_ishr dX1_canGo_12 ?_
      refine r_iconst (v := (1 : Int32)) dX1_canGo_13 rfl ?_
      refine r_iand dX1_canGo_14 ?_
      refine r_if_ne (tgt := 21) dX1_canGo_15 (by decide) (fun h2 => ?_) (fun h2 => ?_)
      · refine r_goto (tgt := 67) dX1_canGo_18 (by decide) ?_
        refine r_iinc (v := v2 + (1 : Int32)) (L' := [(2, .int (v2 + (1 : Int32))), (0, .ref 1), (1, .int v1)]) dX1_canGo_67 2 rfl rfl (by decide) rfl ?_
        refine r_goto (tgt := 2) dX1_canGo_70 (by decide) ?_
        exact r_pick [1, 2, 0] rfl (ih (v2 + (1 : Int32)))
      · refine r_aload_n dX1_canGo_21 0 rfl rfl ?_
        refine r_getr dX1_canGo_22 fl_X1_11 (by decide) rfl rfl (by decide) ?_
        refine r_iload_n dX1_canGo_25 2 rfl rfl ?_
        refine r_aald (x := 9 + ix v2) dX1_canGo_26 (by decide) rfl (by decide) (by decide) rfl (fun h3 => ?_)
        refine rc_geti dX1_canGo_27 fl_X1_71 (isS_9 h3).1 (isS_9 h3).a (isS_9 h3).2 rfl ?_
        refine r_iconst (v := (1 : Int32)) dX1_canGo_30 rfl ?_
        refine r_icmp_ne (tgt := 36) dX1_canGo_31 (by decide) (fun h4 => ?_) (fun h4 => ?_)
        · refine r_iconst (v := (0 : Int32)) dX1_canGo_34 rfl ?_
          exact r_ireturn (ty := .boolean) dX1_canGo_35 rfl rfl rfl
        · refine r_aload_n dX1_canGo_36 0 rfl rfl ?_
          refine r_getr dX1_canGo_37 fl_X1_11 (by decide) rfl rfl (by decide) ?_
          refine r_iload_n dX1_canGo_40 2 rfl rfl ?_
          refine r_aald (x := 9 + ix v2) dX1_canGo_41 (by decide) rfl (by decide) (by decide) rfl (fun h5 => ?_)
          refine rc_geti dX1_canGo_42 fl_X1_71 (isS_9 h5).1 (isS_9 h5).a (isS_9 h5).2 rfl ?_
          refine r_iconst (v := (2 : Int32)) dX1_canGo_45 rfl ?_
          refine r_icmp_ne (tgt := 67) dX1_canGo_46 (by decide) (fun h6 => ?_) (fun h6 => ?_)
          · refine r_iload_n dX1_canGo_49 1 rfl rfl ?_
            refine r_aload_n dX1_canGo_50 0 rfl rfl ?_
            refine r_getr dX1_canGo_51 fl_X1_11 (by decide) rfl rfl (by decide) ?_
            refine r_iload_n dX1_canGo_54 2 rfl rfl ?_
            refine r_aald (x := 9 + ix v2) dX1_canGo_55 (by decide) rfl (by decide) (by decide) rfl (fun h7 => ?_)
            refine rc_geti dX1_canGo_56 fl_X1_74 (isS_9 h7).1 (isS_9 h7).a (isS_9 h7).2 rfl ?_
            refine r_ishr dX1_canGo_59 ?_
            refine r_iconst (v := (1 : Int32)) dX1_canGo_60 rfl ?_
            refine r_iand dX1_canGo_61 ?_
            refine r_if_ne (tgt := 67) dX1_canGo_62 (by decide) (fun h8 => ?_) (fun h8 => ?_)
            · refine r_iconst (v := (0 : Int32)) dX1_canGo_65 rfl ?_
              exact r_ireturn (ty := .boolean) dX1_canGo_66 rfl rfl rfl
            · refine r_iinc (v := v2 + (1 : Int32)) (L' := [(2, .int (v2 + (1 : Int32))), (0, .ref 1), (1, .int v1)]) dX1_canGo_67 2 rfl rfl (by decide) rfl ?_
              refine r_goto (tgt := 2) dX1_canGo_70 (by decide) ?_
              exact r_pick [1, 2, 0] rfl (ih (v2 + (1 : Int32)))
          · refine r_iinc (v := v2 + (1 : Int32)) (L' := [(2, .int (v2 + (1 : Int32))), (0, .ref 1), (1, .int v1)]) dX1_canGo_67 2 rfl rfl (by decide) rfl ?_
            refine r_goto (tgt := 2) dX1_canGo_70 (by decide) ?_
            exact r_pick [1, 2, 0] rfl (ih (v2 + (1 : Int32)))
def f_X1_canGo (S : SI) (v1 : Int32) : Option (Int32) :=
  f_X1_canGo_2 S v1 fu (0 : Int32)
set_option maxHeartbeats 4000000 in
set_option maxRecDepth 100000 in
theorem m_X1_canGo (S : SI) (T : SL) (U : SI) (V : SL) (v1 : Int32) : Meth 1 yX1_canGo cX1_canGo 3 (some .boolean) [.ref 1, .int v1] (S, T, U, V) (f_X1_canGo S v1) (fun a : Int32 => (some (.int a), (S, T, U, V))) := by
  refine meth_of (L := [(0, .ref 1), (1, .int v1)]) (by decide +kernel) (Nat.le_of_ble_eq_true rfl) rfl ?_
  rw [f_X1_canGo]
  refine r_iconst (v := (0 : Int32)) dX1_canGo_0 rfl ?_
  refine r_istore_n (L' := [(2, .int (0 : Int32)), (0, .ref 1), (1, .int v1)]) dX1_canGo_1 rfl (by decide) rfl ?_
  exact r_pick [1, 2, 0] rfl (t_X1_canGo_2 S T U V v1 fu (0 : Int32))
def f_X1_unpair (S : SI) (v1 : Int32) : Option (Int32 × SI) :=
  gd (inB v1 12) <|
  nm (S (9 + ix v1) 5) fun x2 =>
  gd (inB v1 12) <|
  if (S (9 + ix v1) 4) = (2 : Int32) then
    (f_X9_within x2 (S 1 1)).bind fun q5 =>
    if q5 = 0 then
      some ((-2 : Int32), S)
    else
      gd (inB v1 12) <|
      (f_X5_toBox S (9 + ix v1)).bind fun q8 =>
      gd (inB x2 12) <|
      (f_X5_toBox q8 (9 + ix x2)).bind fun q10 =>
      some (x2, q10)
  else
    some ((-2 : Int32), S)
set_option maxHeartbeats 4000000 in
set_option maxRecDepth 100000 in
theorem m_X1_unpair (S : SI) (T : SL) (U : SI) (V : SL) (v1 : Int32) : Meth 2 yX1_unpair cX1_unpair 3 (some .int) [.ref 1, .int v1] (S, T, U, V) (f_X1_unpair S v1) (fun a : Int32 × SI => (some (.int a.1), (a.2, T, U, V))) := by
  refine meth_of (L := [(0, .ref 1), (1, .int v1)]) (by decide +kernel) (Nat.le_of_ble_eq_true rfl) rfl ?_
  rw [f_X1_unpair]
  refine r_aload_n dX1_unpair_0 0 rfl rfl ?_
  refine r_getr dX1_unpair_1 fl_X1_11 (by decide) rfl rfl (by decide) ?_
  refine r_iload_n dX1_unpair_4 1 rfl rfl ?_
  refine r_aald (x := 9 + ix v1) dX1_unpair_5 (by decide) rfl (by decide) (by decide) rfl (fun h1 => ?_)
  refine rc_geti dX1_unpair_6 fl_X1_74 (isS_9 h1).1 (isS_9 h1).a (isS_9 h1).2 rfl ?_
  refine r_nmi (fun x2 => ?_)
  refine r_istore_n (L' := [(2, .int x2), (0, .ref 1), (1, .int v1)]) dX1_unpair_9 rfl (by decide) rfl ?_
  refine r_aload_n dX1_unpair_10 1 rfl rfl ?_
  refine r_getr dX1_unpair_11 fl_X1_11 (by decide) rfl rfl (by decide) ?_
  refine r_iload_n dX1_unpair_14 2 rfl rfl ?_
  refine r_aald (x := 9 + ix v1) dX1_unpair_15 (by decide) rfl (by decide) (by decide) rfl (fun h3 => ?_)
  refine rc_geti dX1_unpair_16 fl_X1_71 (isS_9 h3).1 (isS_9 h3).a (isS_9 h3).2 rfl ?_
  refine r_iconst (v := (2 : Int32)) dX1_unpair_19 rfl ?_
  refine r_icmp_ne (tgt := 34) dX1_unpair_20 (by decide) (fun h4 => ?_) (fun h4 => ?_)
  · refine r_iload_n dX1_unpair_23 0 rfl rfl ?_
    refine r_aload_n dX1_unpair_24 1 rfl rfl ?_
    refine rc_geti dX1_unpair_25 fl_X1_41 (by decide) (by decide) rfl rfl ?_
    refine rN_i (as := [.int x2, .int (S 1 1)]) (st := []) dX1_unpair_28 cl_X1_102 (m_X9_within S T U V x2 (S 1 1)) (by decide) rfl (Nat.le_of_ble_eq_true rfl) (fun q5 _ => ?_)
    refine r_if_ne (tgt := 37) dX1_unpair_31 (by decide) (fun h6 => ?_) (fun h6 => ?_)
    · refine r_bipush (v := (-2 : Int32)) dX1_unpair_34 rfl ?_
      exact r_ireturn (ty := .int) dX1_unpair_36 rfl (nar_i _) rfl
    · refine r_aload_n dX1_unpair_37 1 rfl rfl ?_
      refine r_getr dX1_unpair_38 fl_X1_11 (by decide) rfl rfl (by decide) ?_
      refine r_iload_n dX1_unpair_41 2 rfl rfl ?_
      refine r_aald (x := 9 + ix v1) dX1_unpair_42 (by decide) rfl (by decide) (by decide) rfl (fun h7 => ?_)
      refine rVc_vS (as := []) (st := []) dX1_unpair_43 cl_X1_106 (isS_9 h7).a (isS_9 h7).2 rfl (m_X5_toBox S T U V (9 + ix v1) (isS_9 h7)) (by decide) rfl (Nat.le_of_ble_eq_true rfl) (fun q8 _ => ?_)
      refine r_aload_n dX1_unpair_46 1 rfl rfl ?_
      refine r_getr dX1_unpair_47 fl_X1_11 (by decide) rfl rfl (by decide) ?_
      refine r_iload_n dX1_unpair_50 0 rfl rfl ?_
      refine r_aald (x := 9 + ix x2) dX1_unpair_51 (by decide) rfl (by decide) (by decide) rfl (fun h9 => ?_)
      refine rVc_vS (as := []) (st := []) dX1_unpair_52 cl_X1_106 (isS_9 h9).a (isS_9 h9).2 rfl (m_X5_toBox q8 T U V (9 + ix x2) (isS_9 h9)) (by decide) rfl (Nat.le_of_ble_eq_true rfl) (fun q10 _ => ?_)
      refine r_iload_n dX1_unpair_55 0 rfl rfl ?_
      exact r_ireturn (ty := .int) dX1_unpair_56 rfl (nar_i _) rfl
  · refine r_bipush (v := (-2 : Int32)) dX1_unpair_34 rfl ?_
    exact r_ireturn (ty := .int) dX1_unpair_36 rfl (nar_i _) rfl
def f_X1_wash_49 (v1 : Int32) (v2 : Int32) (ke124 : SI → Option (Int32 × SI)) : Nat → Int32 → SI → Option (Int32 × SI)
  | 0, _, _ => none
  | m_ + 1, v3, S =>
    if (S 1 1) ≤ v3 then
      ke124 S
    else
      if ((v1 >>> (v3 &&& 31)) &&& (1 : Int32)) = 0 then
        (f_X1_wash_49 v1 v2 ke124 m_) (v3 + (1 : Int32)) S
      else
        gd (inB v3 12) <|
        gd (inB v3 12) <|
        gd (inB (S (9 + ix v3) 0) 6) <|
        (f_X5_wear S (9 + ix v3) (S 5 (ix (S (9 + ix v3) 0)))).bind fun q13 =>
        if ((v2 >>> (v3 &&& 31)) &&& (1 : Int32)) = 0 then
          (f_X1_unpair q13 v3).bind fun q15 =>
          gd (inB v3 12) <|
          (f_X5_toLost q15.2 (9 + ix v3) (q15.2 1 4)).bind fun q17 =>
          (f_X1_wash_49 v1 v2 ke124 m_) (v3 + (1 : Int32)) q17
        else
          (f_X1_wash_49 v1 v2 ke124 m_) (v3 + (1 : Int32)) q13
set_option maxHeartbeats 4000000 in
set_option maxRecDepth 100000 in
theorem t_X1_wash_49 (T : SL) (U : SI) (V : SL) (v1 : Int32) (v2 : Int32) (ke124 : SI → Option (Int32 × SI)) (hke124 : ∀ (S' : SI), Run 4 yX1_wash cX1_wash 4 (some .int) none (fun a : Int32 × SI => (some (.int a.1), (a.2, T, U, V))) 124 [(0, .ref 1), (1, .int v1), (2, .int v2)] [] (S', T, U, V) (ke124 S')) : ∀ (m_ : Nat) (v3 : Int32) (S : SI), Run 4 yX1_wash cX1_wash 4 (some .int) none (fun a : Int32 × SI => (some (.int a.1), (a.2, T, U, V))) 49 [(0, .ref 1), (1, .int v1), (2, .int v2), (3, .int v3)] [] (S, T, U, V) (f_X1_wash_49 v1 v2 ke124 m_ v3 S) := by
  intro m_
  induction m_ with
  | zero =>
    intro v3 S
    rw [f_X1_wash_49]
    exact r_none
  | succ m_ ih =>
    intro v3 S
    rw [f_X1_wash_49]
    refine r_iload_n dX1_wash_49 3 rfl rfl ?_
    refine r_aload_n dX1_wash_50 0 rfl rfl ?_
    refine rc_geti dX1_wash_51 fl_X1_41 (by decide) (by decide) rfl rfl ?_
    refine r_icmp_ge (tgt := 124) dX1_wash_54 (by decide) (fun h8 => ?_) (fun h8 => ?_)
    · exact r_pick [0, 1, 2] rfl (hke124 S)
    · refine r_iload_n dX1_wash_57 1 rfl rfl ?_
      refine r_iload_n dX1_wash_58 3 rfl rfl ?_
      refine r_ishr dX1_wash_59 ?_
      refine r_iconst (v := (1 : Int32)) dX1_wash_60 rfl ?_
      refine r_iand dX1_wash_61 ?_
      refine r_if_ne (tgt := 68) dX1_wash_62 (by decide) (fun h9 => ?_) (fun h9 => ?_)
      · refine r_goto (tgt := 118) dX1_wash_65 (by decide) ?_
        refine r_iinc (v := v3 + (1 : Int32)) (L' := [(3, .int (v3 + (1 : Int32))), (0, .ref 1), (1, .int v1), (2, .int v2)]) dX1_wash_118 3 rfl rfl (by decide) rfl ?_
        refine r_goto (tgt := 49) dX1_wash_121 (by decide) ?_
        exact r_pick [1, 2, 3, 0] rfl (ih (v3 + (1 : Int32)) S)
      · refine r_aload_n dX1_wash_68 0 rfl rfl ?_
        refine r_getr dX1_wash_69 fl_X1_11 (by decide) rfl rfl (by decide) ?_
        refine r_iload_n dX1_wash_72 3 rfl rfl ?_
        refine r_aald (x := 9 + ix v3) dX1_wash_73 (by decide) rfl (by decide) (by decide) rfl (fun h10 => ?_)
        refine r_aload_n dX1_wash_74 0 rfl rfl ?_
        refine r_getr dX1_wash_75 fl_X1_24 (by decide) rfl rfl (by decide) ?_
        refine r_aload_n dX1_wash_78 0 rfl rfl ?_
        refine r_getr dX1_wash_79 fl_X1_11 (by decide) rfl rfl (by decide) ?_
        refine r_iload_n dX1_wash_82 3 rfl rfl ?_
        refine r_aald (x := 9 + ix v3) dX1_wash_83 (by decide) rfl (by decide) (by decide) rfl (fun h11 => ?_)
        refine rc_geti dX1_wash_84 fl_X1_84 (isS_9 h11).1 (isS_9 h11).a (isS_9 h11).2 rfl ?_
        refine rc_iald dX1_wash_87 (by decide) (by decide) rfl (fun h12 => ?_)
        refine rVc_vS (as := [.int (S 5 (ix (S (9 + ix v3) 0)))]) (st := []) dX1_wash_88 cl_X1_87 (isS_9 h10).a (isS_9 h10).2 rfl (m_X5_wear S T U V (9 + ix v3) (isS_9 h10) (S 5 (ix (S (9 + ix v3) 0)))) (by decide) rfl (Nat.le_of_ble_eq_true rfl) (fun q13 _ => ?_)
        refine r_iload_n dX1_wash_91 2 rfl rfl ?_
        refine r_iload_n dX1_wash_92 3 rfl rfl ?_
        refine r_ishr dX1_wash_93 ?_
        refine r_iconst (v := (1 : Int32)) dX1_wash_94 rfl ?_
        refine r_iand dX1_wash_95 ?_
        refine r_if_ne (tgt := 118) dX1_wash_96 (by decide) (fun h14 => ?_) (fun h14 => ?_)
        · refine r_aload_n dX1_wash_99 0 rfl rfl ?_
          refine r_iload_n dX1_wash_100 3 rfl rfl ?_
          refine rVc_iS (as := [.int v3]) (st := []) dX1_wash_101 cl_X1_91 (by decide) rfl rfl (m_X1_unpair q13 T U V v3) (by decide) rfl (Nat.le_of_ble_eq_true rfl) (fun q15 _ => ?_)
          refine r_pop dX1_wash_104 rfl ?_
          refine r_aload_n dX1_wash_105 0 rfl rfl ?_
          refine r_getr dX1_wash_106 fl_X1_11 (by decide) rfl rfl (by decide) ?_
          refine r_iload_n dX1_wash_109 3 rfl rfl ?_
          refine r_aald (x := 9 + ix v3) dX1_wash_110 (by decide) rfl (by decide) (by decide) rfl (fun h16 => ?_)
          refine r_aload_n dX1_wash_111 0 rfl rfl ?_
          refine rc_geti dX1_wash_112 fl_X1_44 (by decide) (by decide) rfl rfl ?_
          refine rVc_vS (as := [.int (q15.2 1 4)]) (st := []) dX1_wash_115 cl_X1_94 (isS_9 h16).a (isS_9 h16).2 rfl (m_X5_toLost q15.2 T U V (9 + ix v3) (isS_9 h16) (q15.2 1 4)) (by decide) rfl (Nat.le_of_ble_eq_true rfl) (fun q17 _ => ?_)
          refine r_iinc (v := v3 + (1 : Int32)) (L' := [(3, .int (v3 + (1 : Int32))), (0, .ref 1), (1, .int v1), (2, .int v2)]) dX1_wash_118 3 rfl rfl (by decide) rfl ?_
          refine r_goto (tgt := 49) dX1_wash_121 (by decide) ?_
          exact r_pick [1, 2, 3, 0] rfl (ih (v3 + (1 : Int32)) q17)
        · refine r_iinc (v := v3 + (1 : Int32)) (L' := [(3, .int (v3 + (1 : Int32))), (0, .ref 1), (1, .int v1), (2, .int v2)]) dX1_wash_118 3 rfl rfl (by decide) rfl ?_
          refine r_goto (tgt := 49) dX1_wash_121 (by decide) ?_
          exact r_pick [1, 2, 3, 0] rfl (ih (v3 + (1 : Int32)) q13)
def f_X1_wash_124 (S : SI) (v1 : Int32) (v2 : Int32) : Option (Int32 × SI) :=
  nm (up2 S 1 4 ((S 1 4) + (1 : Int32))) fun S18 =>
  (f_J6_bitCount_0f7a4 (v1 &&& (v2 ^^^ (-1 : Int32)))).bind fun q19 =>
  some (q19, S18)
set_option maxHeartbeats 4000000 in
set_option maxRecDepth 100000 in
theorem t_X1_wash_124 (S : SI) (T : SL) (U : SI) (V : SL) (v1 : Int32) (v2 : Int32) : Run 4 yX1_wash cX1_wash 4 (some .int) none (fun a : Int32 × SI => (some (.int a.1), (a.2, T, U, V))) 124 [(0, .ref 1), (1, .int v1), (2, .int v2)] [] (S, T, U, V) (f_X1_wash_124 S v1 v2) := by
  rw [f_X1_wash_124]
  refine r_aload_n dX1_wash_124 0 rfl rfl ?_
  refine r_dup dX1_wash_125 rfl ?_
  refine rc_geti dX1_wash_126 fl_X1_44 (by decide) (by decide) rfl rfl ?_
  refine r_iconst (v := (1 : Int32)) dX1_wash_129 rfl ?_
  refine r_iadd dX1_wash_130 ?_
  refine rc_puti (ty := .int) dX1_wash_131 fp_X1_44 (nar_i _) (fit_i _) (by decide) (by decide) rfl rfl ?_
  refine r_nmS (fun S18 => ?_)
  refine r_iload_n dX1_wash_134 1 rfl rfl ?_
  refine r_iload_n dX1_wash_135 2 rfl rfl ?_
  refine r_iconst (v := (-1 : Int32)) dX1_wash_136 rfl ?_
  refine r_ixor dX1_wash_137 ?_
  refine r_iand dX1_wash_138 ?_
  refine rS_i (as := [.int (v1 &&& (v2 ^^^ (-1 : Int32)))]) (st := []) dX1_wash_139 cl_X1_97 (m_J6_bitCount_0f7a4 S18 T U V (v1 &&& (v2 ^^^ (-1 : Int32)))) (by decide) rfl (Nat.le_of_ble_eq_true rfl) (fun q19 _ => ?_)
  exact r_ireturn (ty := .int) dX1_wash_142 rfl (nar_i _) rfl
def f_X1_wash (S : SI) (v1 : Int32) (v2 : Int32) : Option (Int32 × SI) :=
  if (S 1 4) < (12 : Int32) then
    gd (inB (S 1 4) 12) <|
    nm (up2 S 3 (ix (S 1 4)) v1) fun S3 =>
    (f_X1_everyone S3).bind fun q4 =>
    (f_X1_placed S3 (1 : Int32)).bind fun q5 =>
    gd (inB (S3 1 4) 12) <|
    nm (up2 S3 4 (ix (S3 1 4)) ((q4 &&& (v1 ^^^ (-1 : Int32))) &&& (q5 ^^^ (-1 : Int32)))) fun S7 =>
    f_X1_wash_49 v1 v2 (fun So => f_X1_wash_124 So v1 v2) fu (0 : Int32) S7
  else
    some ((-3 : Int32), S)
set_option maxHeartbeats 4000000 in
set_option maxRecDepth 100000 in
theorem m_X1_wash (S : SI) (T : SL) (U : SI) (V : SL) (v1 : Int32) (v2 : Int32) : Meth 4 yX1_wash cX1_wash 4 (some .int) [.ref 1, .int v1, .int v2] (S, T, U, V) (f_X1_wash S v1 v2) (fun a : Int32 × SI => (some (.int a.1), (a.2, T, U, V))) := by
  refine meth_of (L := [(0, .ref 1), (1, .int v1), (2, .int v2)]) (by decide +kernel) (Nat.le_of_ble_eq_true rfl) rfl ?_
  rw [f_X1_wash]
  refine r_aload_n dX1_wash_0 0 rfl rfl ?_
  refine rc_geti dX1_wash_1 fl_X1_44 (by decide) (by decide) rfl rfl ?_
  refine r_bipush (v := (12 : Int32)) dX1_wash_4 rfl ?_
  refine r_icmp_lt (tgt := 12) dX1_wash_6 (by decide) (fun h1 => ?_) (fun h1 => ?_)
  · refine r_aload_n dX1_wash_12 0 rfl rfl ?_
    refine r_getr dX1_wash_13 fl_X1_17 (by decide) rfl rfl (by decide) ?_
    refine r_aload_n dX1_wash_16 0 rfl rfl ?_
    refine rc_geti dX1_wash_17 fl_X1_44 (by decide) (by decide) rfl rfl ?_
    refine r_iload_n dX1_wash_20 1 rfl rfl ?_
    refine rc_iast dX1_wash_21 (by decide) (by decide) rfl (fun h2 => ?_)
    refine r_nmS (fun S3 => ?_)
    refine r_aload_n dX1_wash_22 0 rfl rfl ?_
    refine r_getr dX1_wash_23 fl_X1_21 (by decide) rfl rfl (by decide) ?_
    refine r_aload_n dX1_wash_26 0 rfl rfl ?_
    refine rc_geti dX1_wash_27 fl_X1_44 (by decide) (by decide) rfl rfl ?_
    refine r_aload_n dX1_wash_30 0 rfl rfl ?_
    refine rV_i (as := []) (st := [.int (S3 1 4), .ref 4]) dX1_wash_31 cl_X1_77 (by decide) rfl rfl (m_X1_everyone S3 T U V) (by decide) rfl (Nat.le_of_ble_eq_true rfl) (fun q4 _ => ?_)
    refine r_iload_n dX1_wash_34 1 rfl rfl ?_
    refine r_iconst (v := (-1 : Int32)) dX1_wash_35 rfl ?_
    refine r_ixor dX1_wash_36 ?_
    refine r_iand dX1_wash_37 ?_
    refine r_aload_n dX1_wash_38 0 rfl rfl ?_
    refine r_iconst (v := (1 : Int32)) dX1_wash_39 rfl ?_
    refine rV_i (as := [.int (1 : Int32)]) (st := [.int (q4 &&& (v1 ^^^ (-1 : Int32))), .int (S3 1 4), .ref 4]) dX1_wash_40 cl_X1_81 (by decide) rfl rfl (m_X1_placed S3 T U V (1 : Int32)) (by decide) rfl (Nat.le_of_ble_eq_true rfl) (fun q5 _ => ?_)
    refine r_iconst (v := (-1 : Int32)) dX1_wash_43 rfl ?_
    refine r_ixor dX1_wash_44 ?_
    refine r_iand dX1_wash_45 ?_
    refine rc_iast dX1_wash_46 (by decide) (by decide) rfl (fun h6 => ?_)
    refine r_nmS (fun S7 => ?_)
    refine r_iconst (v := (0 : Int32)) dX1_wash_47 rfl ?_
    refine r_istore_n (L' := [(3, .int (0 : Int32)), (0, .ref 1), (1, .int v1), (2, .int v2)]) dX1_wash_48 rfl (by decide) rfl ?_
    exact r_pick [1, 2, 3, 0] rfl (t_X1_wash_49 T U V v1 v2 (fun So => f_X1_wash_124 So v1 v2) (fun So => r_pick [0, 1, 2] rfl (t_X1_wash_124 So T U V v1 v2)) fu (0 : Int32) S7)
  · refine r_bipush (v := (-3 : Int32)) dX1_wash_9 rfl ?_
    exact r_ireturn (ty := .int) dX1_wash_11 rfl (nar_i _) rfl
def f_X1_likenessOf (S : SI) (v1 : Int32) (v2 : Int32) : Option (Int32) :=
  gd (inB v1 12) <|
  gd (inB v2 12) <|
  nm (mxI ((S (9 + ix v1) 3) - (S (9 + ix v2) 2)) ((S (9 + ix v2) 3) - (S (9 + ix v1) 2))) fun x3 =>
  nm (mxI ((S (9 + ix v1) 2) - (S (9 + ix v2) 3)) ((S (9 + ix v2) 2) - (S (9 + ix v1) 3))) fun x4 =>
  if (S 1 6) < x3 then
    if (S 1 6) < x4 then
      some (0 : Int32)
    else
      some (1 : Int32)
  else
    some (2 : Int32)
set_option maxHeartbeats 4000000 in
set_option maxRecDepth 100000 in
theorem m_X1_likenessOf (S : SI) (T : SL) (U : SI) (V : SL) (v1 : Int32) (v2 : Int32) : Meth 1 yX1_likenessOf cX1_likenessOf 7 (some .int) [.ref 1, .int v1, .int v2] (S, T, U, V) (f_X1_likenessOf S v1 v2) (fun a : Int32 => (some (.int a), (S, T, U, V))) := by
  refine meth_of (L := [(0, .ref 1), (1, .int v1), (2, .int v2)]) (by decide +kernel) (Nat.le_of_ble_eq_true rfl) rfl ?_
  rw [f_X1_likenessOf]
  refine r_aload_n dX1_likenessOf_0 0 rfl rfl ?_
  refine r_getr dX1_likenessOf_1 fl_X1_11 (by decide) rfl rfl (by decide) ?_
  refine r_iload_n dX1_likenessOf_4 1 rfl rfl ?_
  refine r_aald (x := 9 + ix v1) dX1_likenessOf_5 (by decide) rfl (by decide) (by decide) rfl (fun h1 => ?_)
  refine r_astore_n (L' := [(3, .ref (9 + ix v1)), (0, .ref 1), (1, .int v1), (2, .int v2)]) dX1_likenessOf_6 rfl (by decide) rfl ?_
  refine r_aload_n dX1_likenessOf_7 1 rfl rfl ?_
  refine r_getr dX1_likenessOf_8 fl_X1_11 (by decide) rfl rfl (by decide) ?_
  refine r_iload_n dX1_likenessOf_11 3 rfl rfl ?_
  refine r_aald (x := 9 + ix v2) dX1_likenessOf_12 (by decide) rfl (by decide) (by decide) rfl (fun h2 => ?_)
  refine r_astore (L' := [(4, .ref (9 + ix v2)), (3, .ref (9 + ix v1)), (0, .ref 1), (1, .int v1), (2, .int v2)]) dX1_likenessOf_13 (by decide) rfl ?_
  refine r_aload_n dX1_likenessOf_15 1 rfl rfl ?_
  refine rc_geti dX1_likenessOf_16 fl_X1_109 (isS_9 h1).1 (isS_9 h1).a (isS_9 h1).2 rfl ?_
  refine r_aload dX1_likenessOf_19 0 rfl ?_
  refine rc_geti dX1_likenessOf_21 fl_X1_112 (isS_9 h2).1 (isS_9 h2).a (isS_9 h2).2 rfl ?_
  refine r_isub dX1_likenessOf_24 ?_
  refine r_aload dX1_likenessOf_25 0 rfl ?_
  refine rc_geti dX1_likenessOf_27 fl_X1_109 (isS_9 h2).1 (isS_9 h2).a (isS_9 h2).2 rfl ?_
  refine r_aload_n dX1_likenessOf_30 1 rfl rfl ?_
  refine rc_geti dX1_likenessOf_31 fl_X1_112 (isS_9 h1).1 (isS_9 h1).a (isS_9 h1).2 rfl ?_
  refine r_isub dX1_likenessOf_34 ?_
  refine r_mmax dX1_likenessOf_35 cl_X1_115 (by decide) (Nat.le_of_ble_eq_true rfl) ?_
  refine r_nmi (fun x3 => ?_)
  refine r_istore (L' := [(5, .int x3), (4, .ref (9 + ix v2)), (3, .ref (9 + ix v1)), (0, .ref 1), (1, .int v1), (2, .int v2)]) dX1_likenessOf_38 (by decide) rfl ?_
  refine r_aload_n dX1_likenessOf_40 2 rfl rfl ?_
  refine rc_geti dX1_likenessOf_41 fl_X1_112 (isS_9 h1).1 (isS_9 h1).a (isS_9 h1).2 rfl ?_
  refine r_aload dX1_likenessOf_44 1 rfl ?_
  refine rc_geti dX1_likenessOf_46 fl_X1_109 (isS_9 h2).1 (isS_9 h2).a (isS_9 h2).2 rfl ?_
  refine r_isub dX1_likenessOf_49 ?_
  refine r_aload dX1_likenessOf_50 1 rfl ?_
  refine rc_geti dX1_likenessOf_52 fl_X1_112 (isS_9 h2).1 (isS_9 h2).a (isS_9 h2).2 rfl ?_
  refine r_aload_n dX1_likenessOf_55 2 rfl rfl ?_
  refine rc_geti dX1_likenessOf_56 fl_X1_109 (isS_9 h1).1 (isS_9 h1).a (isS_9 h1).2 rfl ?_
  refine r_isub dX1_likenessOf_59 ?_
  refine r_mmax dX1_likenessOf_60 cl_X1_115 (by decide) (Nat.le_of_ble_eq_true rfl) ?_
  refine r_nmi (fun x4 => ?_)
  refine r_istore (L' := [(6, .int x4), (5, .int x3), (4, .ref (9 + ix v2)), (3, .ref (9 + ix v1)), (0, .ref 1), (1, .int v1), (2, .int v2)]) dX1_likenessOf_63 (by decide) rfl ?_
  refine r_iload dX1_likenessOf_65 1 rfl ?_
  refine r_aload_n dX1_likenessOf_67 4 rfl rfl ?_
  refine rc_geti dX1_likenessOf_68 fl_X1_27 (by decide) (by decide) rfl rfl ?_
  refine r_icmp_gt (tgt := 76) dX1_likenessOf_71 (by decide) (fun h5 => ?_) (fun h5 => ?_)
  · refine r_iload dX1_likenessOf_76 0 rfl ?_
    refine r_aload_n dX1_likenessOf_78 4 rfl rfl ?_
    refine rc_geti dX1_likenessOf_79 fl_X1_27 (by decide) (by decide) rfl rfl ?_
    refine r_icmp_gt (tgt := 89) dX1_likenessOf_82 (by decide) (fun h6 => ?_) (fun h6 => ?_)
    · refine r_iconst (v := (0 : Int32)) dX1_likenessOf_89 rfl ?_
      exact r_ireturn (ty := .int) dX1_likenessOf_90 rfl (nar_i _) rfl
    · refine r_iconst (v := (1 : Int32)) dX1_likenessOf_85 rfl ?_
      refine r_goto (tgt := 90) dX1_likenessOf_86 (by decide) ?_
      exact r_ireturn (ty := .int) dX1_likenessOf_90 rfl (nar_i _) rfl
  · refine r_iconst (v := (2 : Int32)) dX1_likenessOf_74 rfl ?_
    exact r_ireturn (ty := .int) dX1_likenessOf_75 rfl (nar_i _) rfl
def f_X1_wereParted_2 (S : SI) (v1 : Int32) (v2 : Int32) : Nat → Int32 → Option (Int32)
  | 0, _ => none
  | m_ + 1, v3 =>
    if (S 1 4) ≤ v3 then
      some (0 : Int32)
    else
      gd (inB v3 12) <|
      gd (inB v3 12) <|
      gd (inB v3 12) <|
      gd (inB v3 12) <|
      nm ((((S 3 (ix v3)) >>> (v1 &&& 31)) &&& ((S 4 (ix v3)) >>> (v2 &&& 31))) ||| (((S 3 (ix v3)) >>> (v2 &&& 31)) &&& ((S 4 (ix v3)) >>> (v1 &&& 31)))) fun x6 =>
      if (x6 &&& (1 : Int32)) = (1 : Int32) then
        some (1 : Int32)
      else
        (f_X1_wereParted_2 S v1 v2 m_) (v3 + (1 : Int32))
set_option maxHeartbeats 4000000 in
set_option maxRecDepth 100000 in
theorem t_X1_wereParted_2 (S : SI) (T : SL) (U : SI) (V : SL) (v1 : Int32) (v2 : Int32) : ∀ (m_ : Nat) (v3 : Int32), Run 1 yX1_wereParted cX1_wereParted 5 (some .boolean) none (fun a : Int32 => (some (.int a), (S, T, U, V))) 2 [(0, .ref 1), (1, .int v1), (2, .int v2), (3, .int v3)] [] (S, T, U, V) (f_X1_wereParted_2 S v1 v2 m_ v3) := by
  intro m_
  induction m_ with
  | zero =>
    intro v3
    rw [f_X1_wereParted_2]
    exact r_none
  | succ m_ ih =>
    intro v3
    rw [f_X1_wereParted_2]
    refine r_iload_n dX1_wereParted_2 3 rfl rfl ?_
    refine r_aload_n dX1_wereParted_3 0 rfl rfl ?_
    refine rc_geti dX1_wereParted_4 fl_X1_44 (by decide) (by decide) rfl rfl ?_
    refine r_icmp_ge (tgt := 63) dX1_wereParted_7 (by decide) (fun h1 => ?_) (fun h1 => ?_)
    · refine r_iconst (v := (0 : Int32)) dX1_wereParted_63 rfl ?_
      exact r_ireturn (ty := .boolean) dX1_wereParted_64 rfl rfl rfl
    · refine r_aload_n dX1_wereParted_10 0 rfl rfl ?_
      refine r_getr dX1_wereParted_11 fl_X1_17 (by decide) rfl rfl (by decide) ?_
      refine r_iload_n dX1_wereParted_14 3 rfl rfl ?_
      refine rc_iald dX1_wereParted_15 (by decide) (by decide) rfl (fun h2 => ?_)
      refine r_iload_n dX1_wereParted_16 1 rfl rfl ?_
      refine r_ishr dX1_wereParted_17 ?_
      refine r_aload_n dX1_wereParted_18 0 rfl rfl ?_
      refine r_getr dX1_wereParted_19 fl_X1_21 (by decide) rfl rfl (by decide) ?_
      refine r_iload_n dX1_wereParted_22 3 rfl rfl ?_
      refine rc_iald dX1_wereParted_23 (by decide) (by decide) rfl (fun h3 => ?_)
      refine r_iload_n dX1_wereParted_24 2 rfl rfl ?_
      refine r_ishr dX1_wereParted_25 ?_
      refine r_iand dX1_wereParted_26 ?_
      refine r_aload_n dX1_wereParted_27 0 rfl rfl ?_
      refine r_getr dX1_wereParted_28 fl_X1_17 (by decide) rfl rfl (by decide) ?_
      refine r_iload_n dX1_wereParted_31 3 rfl rfl ?_
      refine rc_iald dX1_wereParted_32 (by decide) (by decide) rfl (fun h4 => ?_)
      refine r_iload_n dX1_wereParted_33 2 rfl rfl ?_
      refine r_ishr dX1_wereParted_34 ?_
      refine r_aload_n dX1_wereParted_35 0 rfl rfl ?_
      refine r_getr dX1_wereParted_36 fl_X1_21 (by decide) rfl rfl (by decide) ?_
      refine r_iload_n dX1_wereParted_39 3 rfl rfl ?_
      refine rc_iald dX1_wereParted_40 (by decide) (by decide) rfl (fun h5 => ?_)
      refine r_iload_n dX1_wereParted_41 1 rfl rfl ?_
      refine r_ishr dX1_wereParted_42 ?_
      refine r_iand dX1_wereParted_43 ?_
      refine r_ior dX1_wereParted_44 ?_
      refine r_nmi (fun x6 => ?_)
      refine r_istore (L' := [(4, .int x6), (0, .ref 1), (1, .int v1), (2, .int v2), (3, .int v3)]) dX1_wereParted_45 (by decide) rfl ?_
      refine r_iload dX1_wereParted_47 0 rfl ?_
      refine r_iconst (v := (1 : Int32)) dX1_wereParted_49 rfl ?_
      refine r_iand dX1_wereParted_50 ?_
      refine r_iconst (v := (1 : Int32)) dX1_wereParted_51 rfl ?_
      refine r_icmp_ne (tgt := 57) dX1_wereParted_52 (by decide) (fun h7 => ?_) (fun h7 => ?_)
      · refine r_iconst (v := (1 : Int32)) dX1_wereParted_55 rfl ?_
        exact r_ireturn (ty := .boolean) dX1_wereParted_56 rfl rfl rfl
      · refine r_iinc (v := v3 + (1 : Int32)) (L' := [(3, .int (v3 + (1 : Int32))), (4, .int x6), (0, .ref 1), (1, .int v1), (2, .int v2)]) dX1_wereParted_57 4 rfl rfl (by decide) rfl ?_
        refine r_goto (tgt := 2) dX1_wereParted_60 (by decide) ?_
        exact r_pick [2, 3, 4, 0] rfl (ih (v3 + (1 : Int32)))
def f_X1_wereParted (S : SI) (v1 : Int32) (v2 : Int32) : Option (Int32) :=
  f_X1_wereParted_2 S v1 v2 fu (0 : Int32)
set_option maxHeartbeats 4000000 in
set_option maxRecDepth 100000 in
theorem m_X1_wereParted (S : SI) (T : SL) (U : SI) (V : SL) (v1 : Int32) (v2 : Int32) : Meth 1 yX1_wereParted cX1_wereParted 5 (some .boolean) [.ref 1, .int v1, .int v2] (S, T, U, V) (f_X1_wereParted S v1 v2) (fun a : Int32 => (some (.int a), (S, T, U, V))) := by
  refine meth_of (L := [(0, .ref 1), (1, .int v1), (2, .int v2)]) (by decide +kernel) (Nat.le_of_ble_eq_true rfl) rfl ?_
  rw [f_X1_wereParted]
  refine r_iconst (v := (0 : Int32)) dX1_wereParted_0 rfl ?_
  refine r_istore_n (L' := [(3, .int (0 : Int32)), (0, .ref 1), (1, .int v1), (2, .int v2)]) dX1_wereParted_1 rfl (by decide) rfl ?_
  exact r_pick [1, 2, 3, 0] rfl (t_X1_wereParted_2 S T U V v1 v2 fu (0 : Int32))
def f_X1_bars_73 (S : SI) (v1 : Int32) (v2 : Int32) (v3 : Int32) : Option (Int32) :=
  (f_X1_wereParted S v1 v2).bind fun q12 =>
  if q12 = 0 then
    some v3
  else
    nm (v3 ||| (8 : Int32)) fun x14 =>
    some x14
set_option maxHeartbeats 4000000 in
set_option maxRecDepth 100000 in
theorem t_X1_bars_73 (S : SI) (T : SL) (U : SI) (V : SL) (v1 : Int32) (v2 : Int32) (v3 : Int32) : Run 2 yX1_bars cX1_bars 4 (some .int) none (fun a : Int32 => (some (.int a), (S, T, U, V))) 73 [(0, .ref 1), (1, .int v1), (2, .int v2), (3, .int v3)] [] (S, T, U, V) (f_X1_bars_73 S v1 v2 v3) := by
  rw [f_X1_bars_73]
  refine r_aload_n dX1_bars_73 0 rfl rfl ?_
  refine r_iload_n dX1_bars_74 1 rfl rfl ?_
  refine r_iload_n dX1_bars_75 2 rfl rfl ?_
  refine rV_i (as := [.int v1, .int v2]) (st := []) dX1_bars_76 cl_X1_126 (by decide) rfl rfl (m_X1_wereParted S T U V v1 v2) (by decide) rfl (Nat.le_of_ble_eq_true rfl) (fun q12 _ => ?_)
  refine r_if_eq (tgt := 87) dX1_bars_79 (by decide) (fun h13 => ?_) (fun h13 => ?_)
  · refine r_iload_n dX1_bars_87 3 rfl rfl ?_
    exact r_ireturn (ty := .int) dX1_bars_88 rfl (nar_i _) rfl
  · refine r_iload_n dX1_bars_82 3 rfl rfl ?_
    refine r_bipush (v := (8 : Int32)) dX1_bars_83 rfl ?_
    refine r_ior dX1_bars_85 ?_
    refine r_nmi (fun x14 => ?_)
    refine r_istore_n (L' := [(3, .int x14), (0, .ref 1), (1, .int v1), (2, .int v2)]) dX1_bars_86 rfl (by decide) rfl ?_
    refine r_iload_n dX1_bars_87 0 rfl rfl ?_
    exact r_ireturn (ty := .int) dX1_bars_88 rfl (nar_i _) rfl
def f_X1_bars_60 (S : SI) (v1 : Int32) (v2 : Int32) (v3 : Int32) : Option (Int32) :=
  (f_X1_likenessOf S v1 v2).bind fun q9 =>
  if q9 = 0 then
    nm (v3 ||| (4 : Int32)) fun x11 =>
    f_X1_bars_73 S v1 v2 x11
  else
    f_X1_bars_73 S v1 v2 v3
set_option maxHeartbeats 4000000 in
set_option maxRecDepth 100000 in
theorem t_X1_bars_60 (S : SI) (T : SL) (U : SI) (V : SL) (v1 : Int32) (v2 : Int32) (v3 : Int32) : Run 2 yX1_bars cX1_bars 4 (some .int) none (fun a : Int32 => (some (.int a), (S, T, U, V))) 60 [(0, .ref 1), (1, .int v1), (2, .int v2), (3, .int v3)] [] (S, T, U, V) (f_X1_bars_60 S v1 v2 v3) := by
  rw [f_X1_bars_60]
  refine r_aload_n dX1_bars_60 0 rfl rfl ?_
  refine r_iload_n dX1_bars_61 1 rfl rfl ?_
  refine r_iload_n dX1_bars_62 2 rfl rfl ?_
  refine rV_i (as := [.int v1, .int v2]) (st := []) dX1_bars_63 cl_X1_123 (by decide) rfl rfl (m_X1_likenessOf S T U V v1 v2) (by decide) rfl (Nat.le_of_ble_eq_true rfl) (fun q9 _ => ?_)
  refine r_if_ne (tgt := 73) dX1_bars_66 (by decide) (fun h10 => ?_) (fun h10 => ?_)
  · refine r_iload_n dX1_bars_69 3 rfl rfl ?_
    refine r_iconst (v := (4 : Int32)) dX1_bars_70 rfl ?_
    refine r_ior dX1_bars_71 ?_
    refine r_nmi (fun x11 => ?_)
    refine r_istore_n (L' := [(3, .int x11), (0, .ref 1), (1, .int v1), (2, .int v2)]) dX1_bars_72 rfl (by decide) rfl ?_
    exact r_pick [1, 2, 3, 0] rfl (t_X1_bars_73 S T U V v1 v2 x11)
  · exact r_pick [0, 1, 2, 3] rfl (t_X1_bars_73 S T U V v1 v2 v3)
def f_X1_bars_27 (S : SI) (v1 : Int32) (v2 : Int32) (v3 : Int32) : Option (Int32) :=
  if (S 1 7) = (1 : Int32) then
    gd (inB v1 12) <|
    gd (inB v2 12) <|
    if (S (9 + ix v1) 1) = (S (9 + ix v2) 1) then
      nm (v3 ||| (2 : Int32)) fun x8 =>
      f_X1_bars_60 S v1 v2 x8
    else
      f_X1_bars_60 S v1 v2 v3
  else
    f_X1_bars_60 S v1 v2 v3
set_option maxHeartbeats 4000000 in
set_option maxRecDepth 100000 in
theorem t_X1_bars_27 (S : SI) (T : SL) (U : SI) (V : SL) (v1 : Int32) (v2 : Int32) (v3 : Int32) : Run 2 yX1_bars cX1_bars 4 (some .int) none (fun a : Int32 => (some (.int a), (S, T, U, V))) 27 [(0, .ref 1), (1, .int v1), (2, .int v2), (3, .int v3)] [] (S, T, U, V) (f_X1_bars_27 S v1 v2 v3) := by
  rw [f_X1_bars_27]
  refine r_aload_n dX1_bars_27 0 rfl rfl ?_
  refine rc_geti dX1_bars_28 fl_X1_47 (by decide) (by decide) rfl rfl ?_
  refine r_iconst (v := (1 : Int32)) dX1_bars_31 rfl ?_
  refine r_icmp_ne (tgt := 60) dX1_bars_32 (by decide) (fun h4 => ?_) (fun h4 => ?_)
  · refine r_aload_n dX1_bars_35 0 rfl rfl ?_
    refine r_getr dX1_bars_36 fl_X1_11 (by decide) rfl rfl (by decide) ?_
    refine r_iload_n dX1_bars_39 1 rfl rfl ?_
    refine r_aald (x := 9 + ix v1) dX1_bars_40 (by decide) rfl (by decide) (by decide) rfl (fun h5 => ?_)
    refine rc_geti dX1_bars_41 fl_X1_120 (isS_9 h5).1 (isS_9 h5).a (isS_9 h5).2 rfl ?_
    refine r_aload_n dX1_bars_44 0 rfl rfl ?_
    refine r_getr dX1_bars_45 fl_X1_11 (by decide) rfl rfl (by decide) ?_
    refine r_iload_n dX1_bars_48 2 rfl rfl ?_
    refine r_aald (x := 9 + ix v2) dX1_bars_49 (by decide) rfl (by decide) (by decide) rfl (fun h6 => ?_)
    refine rc_geti dX1_bars_50 fl_X1_120 (isS_9 h6).1 (isS_9 h6).a (isS_9 h6).2 rfl ?_
    refine r_icmp_ne (tgt := 60) dX1_bars_53 (by decide) (fun h7 => ?_) (fun h7 => ?_)
    · refine r_iload_n dX1_bars_56 3 rfl rfl ?_
      refine r_iconst (v := (2 : Int32)) dX1_bars_57 rfl ?_
      refine r_ior dX1_bars_58 ?_
      refine r_nmi (fun x8 => ?_)
      refine r_istore_n (L' := [(3, .int x8), (0, .ref 1), (1, .int v1), (2, .int v2)]) dX1_bars_59 rfl (by decide) rfl ?_
      exact r_pick [1, 2, 3, 0] rfl (t_X1_bars_60 S T U V v1 v2 x8)
    · exact r_pick [0, 1, 2, 3] rfl (t_X1_bars_60 S T U V v1 v2 v3)
  · exact r_pick [0, 1, 2, 3] rfl (t_X1_bars_60 S T U V v1 v2 v3)
def f_X1_bars (S : SI) (v1 : Int32) (v2 : Int32) : Option (Int32) :=
  gd (inB v1 12) <|
  gd (inB v2 12) <|
  if (S (9 + ix v1) 0) = (S (9 + ix v2) 0) then
    f_X1_bars_27 S v1 v2 (0 : Int32)
  else
    nm ((0 : Int32) ||| (1 : Int32)) fun x15 =>
    f_X1_bars_27 S v1 v2 x15
set_option maxHeartbeats 4000000 in
set_option maxRecDepth 100000 in
theorem m_X1_bars (S : SI) (T : SL) (U : SI) (V : SL) (v1 : Int32) (v2 : Int32) : Meth 2 yX1_bars cX1_bars 4 (some .int) [.ref 1, .int v1, .int v2] (S, T, U, V) (f_X1_bars S v1 v2) (fun a : Int32 => (some (.int a), (S, T, U, V))) := by
  refine meth_of (L := [(0, .ref 1), (1, .int v1), (2, .int v2)]) (by decide +kernel) (Nat.le_of_ble_eq_true rfl) rfl ?_
  rw [f_X1_bars]
  refine r_iconst (v := (0 : Int32)) dX1_bars_0 rfl ?_
  refine r_istore_n (L' := [(3, .int (0 : Int32)), (0, .ref 1), (1, .int v1), (2, .int v2)]) dX1_bars_1 rfl (by decide) rfl ?_
  refine r_aload_n dX1_bars_2 1 rfl rfl ?_
  refine r_getr dX1_bars_3 fl_X1_11 (by decide) rfl rfl (by decide) ?_
  refine r_iload_n dX1_bars_6 2 rfl rfl ?_
  refine r_aald (x := 9 + ix v1) dX1_bars_7 (by decide) rfl (by decide) (by decide) rfl (fun h1 => ?_)
  refine rc_geti dX1_bars_8 fl_X1_84 (isS_9 h1).1 (isS_9 h1).a (isS_9 h1).2 rfl ?_
  refine r_aload_n dX1_bars_11 1 rfl rfl ?_
  refine r_getr dX1_bars_12 fl_X1_11 (by decide) rfl rfl (by decide) ?_
  refine r_iload_n dX1_bars_15 3 rfl rfl ?_
  refine r_aald (x := 9 + ix v2) dX1_bars_16 (by decide) rfl (by decide) (by decide) rfl (fun h2 => ?_)
  refine rc_geti dX1_bars_17 fl_X1_84 (isS_9 h2).1 (isS_9 h2).a (isS_9 h2).2 rfl ?_
  refine r_icmp_eq (tgt := 27) dX1_bars_20 (by decide) (fun h3 => ?_) (fun h3 => ?_)
  · exact r_pick [1, 2, 3, 0] rfl (t_X1_bars_27 S T U V v1 v2 (0 : Int32))
  · refine r_iload_n dX1_bars_23 0 rfl rfl ?_
    refine r_iconst (v := (1 : Int32)) dX1_bars_24 rfl ?_
    refine r_ior dX1_bars_25 ?_
    refine r_nmi (fun x15 => ?_)
    refine r_istore_n (L' := [(3, .int x15), (0, .ref 1), (1, .int v1), (2, .int v2)]) dX1_bars_26 rfl (by decide) rfl ?_
    exact r_pick [1, 2, 3, 0] rfl (t_X1_bars_27 S T U V v1 v2 x15)
def f_X1_distance (S : SI) (v1 : Int32) (v2 : Int32) : Option (Int32) :=
  gd (inB v1 12) <|
  gd (inB v1 12) <|
  gd (inB v2 12) <|
  gd (inB v2 12) <|
  some (abI ((((S (9 + ix v1) 2) + (S (9 + ix v1) 3)) - (S (9 + ix v2) 2)) - (S (9 + ix v2) 3)))
set_option maxHeartbeats 4000000 in
set_option maxRecDepth 100000 in
theorem m_X1_distance (S : SI) (T : SL) (U : SI) (V : SL) (v1 : Int32) (v2 : Int32) : Meth 1 yX1_distance cX1_distance 3 (some .int) [.ref 1, .int v1, .int v2] (S, T, U, V) (f_X1_distance S v1 v2) (fun a : Int32 => (some (.int a), (S, T, U, V))) := by
  refine meth_of (L := [(0, .ref 1), (1, .int v1), (2, .int v2)]) (by decide +kernel) (Nat.le_of_ble_eq_true rfl) rfl ?_
  rw [f_X1_distance]
  refine r_aload_n dX1_distance_0 0 rfl rfl ?_
  refine r_getr dX1_distance_1 fl_X1_11 (by decide) rfl rfl (by decide) ?_
  refine r_iload_n dX1_distance_4 1 rfl rfl ?_
  refine r_aald (x := 9 + ix v1) dX1_distance_5 (by decide) rfl (by decide) (by decide) rfl (fun h1 => ?_)
  refine rc_geti dX1_distance_6 fl_X1_112 (isS_9 h1).1 (isS_9 h1).a (isS_9 h1).2 rfl ?_
  refine r_aload_n dX1_distance_9 0 rfl rfl ?_
  refine r_getr dX1_distance_10 fl_X1_11 (by decide) rfl rfl (by decide) ?_
  refine r_iload_n dX1_distance_13 1 rfl rfl ?_
  refine r_aald (x := 9 + ix v1) dX1_distance_14 (by decide) rfl (by decide) (by decide) rfl (fun h2 => ?_)
  refine rc_geti dX1_distance_15 fl_X1_109 (isS_9 h2).1 (isS_9 h2).a (isS_9 h2).2 rfl ?_
  refine r_iadd dX1_distance_18 ?_
  refine r_aload_n dX1_distance_19 0 rfl rfl ?_
  refine r_getr dX1_distance_20 fl_X1_11 (by decide) rfl rfl (by decide) ?_
  refine r_iload_n dX1_distance_23 2 rfl rfl ?_
  refine r_aald (x := 9 + ix v2) dX1_distance_24 (by decide) rfl (by decide) (by decide) rfl (fun h3 => ?_)
  refine rc_geti dX1_distance_25 fl_X1_112 (isS_9 h3).1 (isS_9 h3).a (isS_9 h3).2 rfl ?_
  refine r_isub dX1_distance_28 ?_
  refine r_aload_n dX1_distance_29 0 rfl rfl ?_
  refine r_getr dX1_distance_30 fl_X1_11 (by decide) rfl rfl (by decide) ?_
  refine r_iload_n dX1_distance_33 2 rfl rfl ?_
  refine r_aald (x := 9 + ix v2) dX1_distance_34 (by decide) rfl (by decide) (by decide) rfl (fun h4 => ?_)
  refine rc_geti dX1_distance_35 fl_X1_109 (isS_9 h4).1 (isS_9 h4).a (isS_9 h4).2 rfl ?_
  refine r_isub dX1_distance_38 ?_
  refine r_mabs dX1_distance_39 cl_X1_129 (by decide) (Nat.le_of_ble_eq_true rfl) ?_
  exact r_ireturn (ty := .int) dX1_distance_42 rfl (nar_i _) rfl
def f_X1_join_32 (v3 : Int32) (v4 : Int32) : Nat → Int32 → SI → Option (Int32 × SI)
  | 0, _, _ => none
  | m_ + 1, v5, S =>
    if (S 1 1) ≤ v5 then
      some ((1 : Int32), S)
    else
      gd (inB v5 12) <|
      if (S (9 + ix v5) 8) = v4 then
        gd (inB v5 12) <|
        nm (up2 S (9 + ix v5) 8 v3) fun S10 =>
        (f_X1_join_32 v3 v4 m_) (v5 + (1 : Int32)) S10
      else
        (f_X1_join_32 v3 v4 m_) (v5 + (1 : Int32)) S
set_option maxHeartbeats 4000000 in
set_option maxRecDepth 100000 in
theorem t_X1_join_32 (T : SL) (U : SI) (V : SL) (v3 : Int32) (v4 : Int32) : ∀ (m_ : Nat) (v5 : Int32) (S : SI), Run 1 yX1_join cX1_join 6 (some .boolean) none (fun a : Int32 × SI => (some (.int a.1), (a.2, T, U, V))) 32 [(0, .ref 1), (3, .int v3), (4, .int v4), (5, .int v5)] [] (S, T, U, V) (f_X1_join_32 v3 v4 m_ v5 S) := by
  intro m_
  induction m_ with
  | zero =>
    intro v5 S
    rw [f_X1_join_32]
    exact r_none
  | succ m_ ih =>
    intro v5 S
    rw [f_X1_join_32]
    refine r_iload dX1_join_32 3 rfl ?_
    refine r_aload_n dX1_join_34 0 rfl rfl ?_
    refine rc_geti dX1_join_35 fl_X1_41 (by decide) (by decide) rfl rfl ?_
    refine r_icmp_ge (tgt := 73) dX1_join_38 (by decide) (fun h6 => ?_) (fun h6 => ?_)
    · refine r_iconst (v := (1 : Int32)) dX1_join_73 rfl ?_
      exact r_ireturn (ty := .boolean) dX1_join_74 rfl rfl rfl
    · refine r_aload_n dX1_join_41 0 rfl rfl ?_
      refine r_getr dX1_join_42 fl_X1_11 (by decide) rfl rfl (by decide) ?_
      refine r_iload dX1_join_45 3 rfl ?_
      refine r_aald (x := 9 + ix v5) dX1_join_47 (by decide) rfl (by decide) (by decide) rfl (fun h7 => ?_)
      refine rc_geti dX1_join_48 fl_X1_60 (isS_9 h7).1 (isS_9 h7).a (isS_9 h7).2 rfl ?_
      refine r_iload dX1_join_51 2 rfl ?_
      refine r_icmp_ne (tgt := 67) dX1_join_53 (by decide) (fun h8 => ?_) (fun h8 => ?_)
      · refine r_aload_n dX1_join_56 0 rfl rfl ?_
        refine r_getr dX1_join_57 fl_X1_11 (by decide) rfl rfl (by decide) ?_
        refine r_iload dX1_join_60 3 rfl ?_
        refine r_aald (x := 9 + ix v5) dX1_join_62 (by decide) rfl (by decide) (by decide) rfl (fun h9 => ?_)
        refine r_iload_n dX1_join_63 1 rfl rfl ?_
        refine rc_puti (ty := .int) dX1_join_64 fp_X1_60 (nar_i _) (fit_i _) (isS_9 h9).1 (isS_9 h9).a (isS_9 h9).2 rfl ?_
        refine r_nmS (fun S10 => ?_)
        refine r_iinc (v := v5 + (1 : Int32)) (L' := [(5, .int (v5 + (1 : Int32))), (0, .ref 1), (3, .int v3), (4, .int v4)]) dX1_join_67 3 rfl rfl (by decide) rfl ?_
        refine r_goto (tgt := 32) dX1_join_70 (by decide) ?_
        exact r_pick [1, 2, 3, 0] rfl (ih (v5 + (1 : Int32)) S10)
      · refine r_iinc (v := v5 + (1 : Int32)) (L' := [(5, .int (v5 + (1 : Int32))), (0, .ref 1), (3, .int v3), (4, .int v4)]) dX1_join_67 3 rfl rfl (by decide) rfl ?_
        refine r_goto (tgt := 32) dX1_join_70 (by decide) ?_
        exact r_pick [1, 2, 3, 0] rfl (ih (v5 + (1 : Int32)) S)
def f_X1_join (S : SI) (v1 : Int32) (v2 : Int32) : Option (Int32 × SI) :=
  gd (inB v1 12) <|
  nm (S (9 + ix v1) 8) fun x2 =>
  gd (inB v2 12) <|
  nm (S (9 + ix v2) 8) fun x4 =>
  if x2 = x4 then
    some ((0 : Int32), S)
  else
    f_X1_join_32 x2 x4 fu (0 : Int32) S
set_option maxHeartbeats 4000000 in
set_option maxRecDepth 100000 in
theorem m_X1_join (S : SI) (T : SL) (U : SI) (V : SL) (v1 : Int32) (v2 : Int32) : Meth 1 yX1_join cX1_join 6 (some .boolean) [.ref 1, .int v1, .int v2] (S, T, U, V) (f_X1_join S v1 v2) (fun a : Int32 × SI => (some (.int a.1), (a.2, T, U, V))) := by
  refine meth_of (L := [(0, .ref 1), (1, .int v1), (2, .int v2)]) (by decide +kernel) (Nat.le_of_ble_eq_true rfl) rfl ?_
  rw [f_X1_join]
  refine r_aload_n dX1_join_0 0 rfl rfl ?_
  refine r_getr dX1_join_1 fl_X1_11 (by decide) rfl rfl (by decide) ?_
  refine r_iload_n dX1_join_4 1 rfl rfl ?_
  refine r_aald (x := 9 + ix v1) dX1_join_5 (by decide) rfl (by decide) (by decide) rfl (fun h1 => ?_)
  refine rc_geti dX1_join_6 fl_X1_60 (isS_9 h1).1 (isS_9 h1).a (isS_9 h1).2 rfl ?_
  refine r_nmi (fun x2 => ?_)
  refine r_istore_n (L' := [(3, .int x2), (0, .ref 1), (1, .int v1), (2, .int v2)]) dX1_join_9 rfl (by decide) rfl ?_
  refine r_aload_n dX1_join_10 1 rfl rfl ?_
  refine r_getr dX1_join_11 fl_X1_11 (by decide) rfl rfl (by decide) ?_
  refine r_iload_n dX1_join_14 3 rfl rfl ?_
  refine r_aald (x := 9 + ix v2) dX1_join_15 (by decide) rfl (by decide) (by decide) rfl (fun h3 => ?_)
  refine rc_geti dX1_join_16 fl_X1_60 (isS_9 h3).1 (isS_9 h3).a (isS_9 h3).2 rfl ?_
  refine r_nmi (fun x4 => ?_)
  refine r_istore (L' := [(4, .int x4), (3, .int x2), (0, .ref 1), (1, .int v1), (2, .int v2)]) dX1_join_19 (by decide) rfl ?_
  refine r_iload_n dX1_join_21 1 rfl rfl ?_
  refine r_iload dX1_join_22 0 rfl ?_
  refine r_icmp_ne (tgt := 29) dX1_join_24 (by decide) (fun h5 => ?_) (fun h5 => ?_)
  · refine r_iconst (v := (0 : Int32)) dX1_join_27 rfl ?_
    exact r_ireturn (ty := .boolean) dX1_join_28 rfl rfl rfl
  · refine r_iconst (v := (0 : Int32)) dX1_join_29 rfl ?_
    refine r_istore (L' := [(5, .int (0 : Int32)), (4, .int x4), (3, .int x2), (0, .ref 1), (1, .int v1), (2, .int v2)]) dX1_join_30 (by decide) rfl ?_
    exact r_pick [3, 2, 1, 0] rfl (t_X1_join_32 T U V x2 x4 fu (0 : Int32) S)
def f_X1_boundTo_4 (S : SI) (v1 : Int32) : Nat → Int32 → Int32 → Option (Int32)
  | 0, _, _ => none
  | m_ + 1, v2, v3 =>
    if (S 1 1) ≤ v3 then
      some v2
    else
      gd (inB v3 12) <|
      if (S (9 + ix v3) 8) = v1 then
        nm (v2 ||| ((1 : Int32) <<< (v3 &&& 31))) fun x4 =>
        (f_X1_boundTo_4 S v1 m_) x4 (v3 + (1 : Int32))
      else
        (f_X1_boundTo_4 S v1 m_) v2 (v3 + (1 : Int32))
set_option maxHeartbeats 4000000 in
set_option maxRecDepth 100000 in
theorem t_X1_boundTo_4 (S : SI) (T : SL) (U : SI) (V : SL) (v1 : Int32) : ∀ (m_ : Nat) (v2 : Int32) (v3 : Int32), Run 1 yX1_boundTo cX1_boundTo 4 (some .int) none (fun a : Int32 => (some (.int a), (S, T, U, V))) 4 [(0, .ref 1), (1, .int v1), (2, .int v2), (3, .int v3)] [] (S, T, U, V) (f_X1_boundTo_4 S v1 m_ v2 v3) := by
  intro m_
  induction m_ with
  | zero =>
    intro v2 v3
    rw [f_X1_boundTo_4]
    exact r_none
  | succ m_ ih =>
    intro v2 v3
    rw [f_X1_boundTo_4]
    refine r_iload_n dX1_boundTo_4 3 rfl rfl ?_
    refine r_aload_n dX1_boundTo_5 0 rfl rfl ?_
    refine rc_geti dX1_boundTo_6 fl_X1_41 (by decide) (by decide) rfl rfl ?_
    refine r_icmp_ge (tgt := 37) dX1_boundTo_9 (by decide) (fun h1 => ?_) (fun h1 => ?_)
    · refine r_iload_n dX1_boundTo_37 2 rfl rfl ?_
      exact r_ireturn (ty := .int) dX1_boundTo_38 rfl (nar_i _) rfl
    · refine r_aload_n dX1_boundTo_12 0 rfl rfl ?_
      refine r_getr dX1_boundTo_13 fl_X1_11 (by decide) rfl rfl (by decide) ?_
      refine r_iload_n dX1_boundTo_16 3 rfl rfl ?_
      refine r_aald (x := 9 + ix v3) dX1_boundTo_17 (by decide) rfl (by decide) (by decide) rfl (fun h2 => ?_)
      refine rc_geti dX1_boundTo_18 fl_X1_60 (isS_9 h2).1 (isS_9 h2).a (isS_9 h2).2 rfl ?_
      refine r_iload_n dX1_boundTo_21 1 rfl rfl ?_
      refine r_icmp_ne (tgt := 31) dX1_boundTo_22 (by decide) (fun h3 => ?_) (fun h3 => ?_)
      · refine r_iload_n dX1_boundTo_25 2 rfl rfl ?_
        refine r_iconst (v := (1 : Int32)) dX1_boundTo_26 rfl ?_
        refine r_iload_n dX1_boundTo_27 3 rfl rfl ?_
        refine r_ishl dX1_boundTo_28 ?_
        refine r_ior dX1_boundTo_29 ?_
        refine r_nmi (fun x4 => ?_)
        refine r_istore_n (L' := [(2, .int x4), (0, .ref 1), (1, .int v1), (3, .int v3)]) dX1_boundTo_30 rfl (by decide) rfl ?_
        refine r_iinc (v := v3 + (1 : Int32)) (L' := [(3, .int (v3 + (1 : Int32))), (2, .int x4), (0, .ref 1), (1, .int v1)]) dX1_boundTo_31 3 rfl rfl (by decide) rfl ?_
        refine r_goto (tgt := 4) dX1_boundTo_34 (by decide) ?_
        exact r_pick [2, 3, 1, 0] rfl (ih x4 (v3 + (1 : Int32)))
      · refine r_iinc (v := v3 + (1 : Int32)) (L' := [(3, .int (v3 + (1 : Int32))), (0, .ref 1), (1, .int v1), (2, .int v2)]) dX1_boundTo_31 3 rfl rfl (by decide) rfl ?_
        refine r_goto (tgt := 4) dX1_boundTo_34 (by decide) ?_
        exact r_pick [1, 2, 3, 0] rfl (ih v2 (v3 + (1 : Int32)))
def f_X1_boundTo (S : SI) (v1 : Int32) : Option (Int32) :=
  f_X1_boundTo_4 S v1 fu (0 : Int32) (0 : Int32)
set_option maxHeartbeats 4000000 in
set_option maxRecDepth 100000 in
theorem m_X1_boundTo (S : SI) (T : SL) (U : SI) (V : SL) (v1 : Int32) : Meth 1 yX1_boundTo cX1_boundTo 4 (some .int) [.ref 1, .int v1] (S, T, U, V) (f_X1_boundTo S v1) (fun a : Int32 => (some (.int a), (S, T, U, V))) := by
  refine meth_of (L := [(0, .ref 1), (1, .int v1)]) (by decide +kernel) (Nat.le_of_ble_eq_true rfl) rfl ?_
  rw [f_X1_boundTo]
  refine r_iconst (v := (0 : Int32)) dX1_boundTo_0 rfl ?_
  refine r_istore_n (L' := [(2, .int (0 : Int32)), (0, .ref 1), (1, .int v1)]) dX1_boundTo_1 rfl (by decide) rfl ?_
  refine r_iconst (v := (0 : Int32)) dX1_boundTo_2 rfl ?_
  refine r_istore_n (L' := [(3, .int (0 : Int32)), (2, .int (0 : Int32)), (0, .ref 1), (1, .int v1)]) dX1_boundTo_3 rfl (by decide) rfl ?_
  exact r_pick [2, 3, 1, 0] rfl (t_X1_boundTo_4 S T U V v1 fu (0 : Int32) (0 : Int32))
def f_X1_meetsAllWishes_2 (S : SI) (v1 : Int32) : Nat → Int32 → Option (Int32)
  | 0, _ => none
  | m_ + 1, v2 =>
    if (3 : Int32) ≤ v2 then
      some (1 : Int32)
    else
      gd (inB v2 3) <|
      if (S 8 (ix v2)) = 0 then
        (f_X1_meetsAllWishes_2 S v1 m_) (v2 + (1 : Int32))
      else
        gd (inB v2 3) <|
        if ((S 8 (ix v2)) &&& v1) = 0 then
          some (0 : Int32)
        else
          (f_X1_meetsAllWishes_2 S v1 m_) (v2 + (1 : Int32))
set_option maxHeartbeats 4000000 in
set_option maxRecDepth 100000 in
theorem t_X1_meetsAllWishes_2 (S : SI) (T : SL) (U : SI) (V : SL) (v1 : Int32) : ∀ (m_ : Nat) (v2 : Int32), Run 1 yX1_meetsAllWishes cX1_meetsAllWishes 3 (some .boolean) none (fun a : Int32 => (some (.int a), (S, T, U, V))) 2 [(0, .ref 1), (1, .int v1), (2, .int v2)] [] (S, T, U, V) (f_X1_meetsAllWishes_2 S v1 m_ v2) := by
  intro m_
  induction m_ with
  | zero =>
    intro v2
    rw [f_X1_meetsAllWishes_2]
    exact r_none
  | succ m_ ih =>
    intro v2
    rw [f_X1_meetsAllWishes_2]
    refine r_iload_n dX1_meetsAllWishes_2 2 rfl rfl ?_
    refine r_iconst (v := (3 : Int32)) dX1_meetsAllWishes_3 rfl ?_
    refine r_icmp_ge (tgt := 35) dX1_meetsAllWishes_4 (by decide) (fun h1 => ?_) (fun h1 => ?_)
    · refine r_iconst (v := (1 : Int32)) dX1_meetsAllWishes_35 rfl ?_
      exact r_ireturn (ty := .boolean) dX1_meetsAllWishes_36 rfl rfl rfl
    · refine r_aload_n dX1_meetsAllWishes_7 0 rfl rfl ?_
      refine r_getr dX1_meetsAllWishes_8 fl_X1_37 (by decide) rfl rfl (by decide) ?_
      refine r_iload_n dX1_meetsAllWishes_11 2 rfl rfl ?_
      refine rc_iald dX1_meetsAllWishes_12 (by decide) (by decide) rfl (fun h2 => ?_)
      refine r_if_eq (tgt := 29) dX1_meetsAllWishes_13 (by decide) (fun h3 => ?_) (fun h3 => ?_)
      · refine r_iinc (v := v2 + (1 : Int32)) (L' := [(2, .int (v2 + (1 : Int32))), (0, .ref 1), (1, .int v1)]) dX1_meetsAllWishes_29 2 rfl rfl (by decide) rfl ?_
        refine r_goto (tgt := 2) dX1_meetsAllWishes_32 (by decide) ?_
        exact r_pick [1, 2, 0] rfl (ih (v2 + (1 : Int32)))
      · refine r_aload_n dX1_meetsAllWishes_16 0 rfl rfl ?_
        refine r_getr dX1_meetsAllWishes_17 fl_X1_37 (by decide) rfl rfl (by decide) ?_
        refine r_iload_n dX1_meetsAllWishes_20 2 rfl rfl ?_
        refine rc_iald dX1_meetsAllWishes_21 (by decide) (by decide) rfl (fun h4 => ?_)
        refine r_iload_n dX1_meetsAllWishes_22 1 rfl rfl ?_
        refine r_iand dX1_meetsAllWishes_23 ?_
        refine r_if_ne (tgt := 29) dX1_meetsAllWishes_24 (by decide) (fun h5 => ?_) (fun h5 => ?_)
        · refine r_iconst (v := (0 : Int32)) dX1_meetsAllWishes_27 rfl ?_
          exact r_ireturn (ty := .boolean) dX1_meetsAllWishes_28 rfl rfl rfl
        · refine r_iinc (v := v2 + (1 : Int32)) (L' := [(2, .int (v2 + (1 : Int32))), (0, .ref 1), (1, .int v1)]) dX1_meetsAllWishes_29 2 rfl rfl (by decide) rfl ?_
          refine r_goto (tgt := 2) dX1_meetsAllWishes_32 (by decide) ?_
          exact r_pick [1, 2, 0] rfl (ih (v2 + (1 : Int32)))
def f_X1_meetsAllWishes (S : SI) (v1 : Int32) : Option (Int32) :=
  f_X1_meetsAllWishes_2 S v1 fu (0 : Int32)
set_option maxHeartbeats 4000000 in
set_option maxRecDepth 100000 in
theorem m_X1_meetsAllWishes (S : SI) (T : SL) (U : SI) (V : SL) (v1 : Int32) : Meth 1 yX1_meetsAllWishes cX1_meetsAllWishes 3 (some .boolean) [.ref 1, .int v1] (S, T, U, V) (f_X1_meetsAllWishes S v1) (fun a : Int32 => (some (.int a), (S, T, U, V))) := by
  refine meth_of (L := [(0, .ref 1), (1, .int v1)]) (by decide +kernel) (Nat.le_of_ble_eq_true rfl) rfl ?_
  rw [f_X1_meetsAllWishes]
  refine r_iconst (v := (0 : Int32)) dX1_meetsAllWishes_0 rfl ?_
  refine r_istore_n (L' := [(2, .int (0 : Int32)), (0, .ref 1), (1, .int v1)]) dX1_meetsAllWishes_1 rfl (by decide) rfl ?_
  exact r_pick [1, 2, 0] rfl (t_X1_meetsAllWishes_2 S T U V v1 fu (0 : Int32))
