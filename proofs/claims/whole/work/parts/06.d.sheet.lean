def f_X4_isThere (S : SI) (a0 : Nat) : Option (Int32) :=
  if (S a0 1) = (-1 : Int32) then
    some (0 : Int32)
  else
    some (1 : Int32)
set_option maxHeartbeats 4000000 in
set_option maxRecDepth 100000 in
theorem m_X4_isThere (S : SI) (T : SL) (U : SI) (V : SL) (a0 : Nat) (ha0 : IsH a0) : Meth 1 yX4_isThere cX4_isThere 1 (some .boolean) [.ref a0] (S, T, U, V) (f_X4_isThere S a0) (fun a : Int32 => (some (.int a), (S, T, U, V))) := by
  refine meth_of (L := [(0, .ref a0)]) (by decide +kernel) (Nat.le_of_ble_eq_true rfl) rfl ?_
  rw [f_X4_isThere]
  refine r_aload_n dX4_isThere_0 0 rfl rfl ?_
  refine rc_geti dX4_isThere_1 fl_X4_15 ha0.q ha0.a ha0.2.1 rfl ?_
  refine r_iconst (v := (-1 : Int32)) dX4_isThere_4 rfl ?_
  refine r_icmp_eq (tgt := 12) dX4_isThere_5 (by decide) (fun h1 => ?_) (fun h1 => ?_)
  · refine r_iconst (v := (0 : Int32)) dX4_isThere_12 rfl ?_
    exact r_ireturn (ty := .boolean) dX4_isThere_13 rfl rfl rfl
  · refine r_iconst (v := (1 : Int32)) dX4_isThere_8 rfl ?_
    refine r_goto (tgt := 13) dX4_isThere_9 (by decide) ?_
    exact r_ireturn (ty := .boolean) dX4_isThere_13 rfl rfl rfl
def f_X4_renew_12 (a0 : Nat) : Nat → Int32 → SI → Option (SI)
  | 0, _, _ => none
  | m_ + 1, v3, S =>
    if (16 : Int32) ≤ v3 then
      some S
    else
      gd (inB v3 16) <|
      nm (up2 S (a0 + 1) (ix v3) (0 : Int32)) fun S5 =>
      (f_X4_renew_12 a0 m_) (v3 + (1 : Int32)) S5
set_option maxHeartbeats 4000000 in
set_option maxRecDepth 100000 in
theorem t_X4_renew_12 (T : SL) (U : SI) (V : SL) (a0 : Nat) (ha0 : IsH a0) : ∀ (m_ : Nat) (v3 : Int32) (S : SI), Run 1 yX4_renew cX4_renew 4 none none (fun a : SI => (none, (a, T, U, V))) 12 [(0, .ref a0), (3, .int v3)] [] (S, T, U, V) (f_X4_renew_12 a0 m_ v3 S) := by
  intro m_
  induction m_ with
  | zero =>
    intro v3 S
    rw [f_X4_renew_12]
    exact r_none
  | succ m_ ih =>
    intro v3 S
    rw [f_X4_renew_12]
    refine r_iload_n dX4_renew_12 1 rfl rfl ?_
    refine r_bipush (v := (16 : Int32)) dX4_renew_13 rfl ?_
    refine r_icmp_ge (tgt := 31) dX4_renew_15 (by decide) (fun h3 => ?_) (fun h3 => ?_)
    · exact r_return dX4_renew_31 rfl rfl
    · refine r_aload_n dX4_renew_18 0 rfl rfl ?_
      refine r_getr dX4_renew_19 fl_X4_9 ha0.a ha0.2.1 rfl ha0.a1 ?_
      refine r_iload_n dX4_renew_22 1 rfl rfl ?_
      refine r_iconst (v := (0 : Int32)) dX4_renew_23 rfl ?_
      refine rc_iast dX4_renew_24 ha0.q1 ha0.a1 ha0.2.2 (fun h4 => ?_)
      refine r_nmS (fun S5 => ?_)
      refine r_iinc (v := v3 + (1 : Int32)) (L' := [(3, .int (v3 + (1 : Int32))), (0, .ref a0)]) dX4_renew_25 1 rfl rfl (by decide) rfl ?_
      refine r_goto (tgt := 12) dX4_renew_28 (by decide) ?_
      exact r_pick [1, 0] rfl (ih (v3 + (1 : Int32)) S5)
def f_X4_renew (S : SI) (a0 : Nat) (v1 : Int32) (v2 : Int32) : Option (SI) :=
  nm (up2 S a0 1 v1) fun S1 =>
  nm (up2 S1 a0 2 v2) fun S2 =>
  f_X4_renew_12 a0 fu (0 : Int32) S2
set_option maxHeartbeats 4000000 in
set_option maxRecDepth 100000 in
theorem m_X4_renew (S : SI) (T : SL) (U : SI) (V : SL) (a0 : Nat) (ha0 : IsH a0) (v1 : Int32) (v2 : Int32) : Meth 1 yX4_renew cX4_renew 4 none [.ref a0, .int v1, .int v2] (S, T, U, V) (f_X4_renew S a0 v1 v2) (fun a : SI => (none, (a, T, U, V))) := by
  refine meth_of (L := [(0, .ref a0), (1, .int v1), (2, .int v2)]) (by decide +kernel) (Nat.le_of_ble_eq_true rfl) rfl ?_
  rw [f_X4_renew]
  refine r_aload_n dX4_renew_0 0 rfl rfl ?_
  refine r_iload_n dX4_renew_1 1 rfl rfl ?_
  refine rc_puti (ty := .int) dX4_renew_2 fp_X4_15 (nar_i _) (fit_i _) ha0.q ha0.a ha0.2.1 rfl ?_
  refine r_nmS (fun S1 => ?_)
  refine r_aload_n dX4_renew_5 0 rfl rfl ?_
  refine r_iload_n dX4_renew_6 2 rfl rfl ?_
  refine rc_puti (ty := .int) dX4_renew_7 fp_X4_19 (nar_i _) (fit_i _) ha0.q ha0.a ha0.2.1 rfl ?_
  refine r_nmS (fun S2 => ?_)
  refine r_iconst (v := (0 : Int32)) dX4_renew_10 rfl ?_
  refine r_istore_n (L' := [(3, .int (0 : Int32)), (0, .ref a0), (1, .int v1), (2, .int v2)]) dX4_renew_11 rfl (by decide) rfl ?_
  exact r_pick [1, 0] rfl (t_X4_renew_12 T U V a0 ha0 fu (0 : Int32) S2)
def f_X4_refusal (S : SI) (a0 : Nat) (v1 : Int32) (v2 : Int32) (v3 : Int32) : Option (Int32) :=
  (f_X4_isThere S a0).bind fun q1 =>
  if q1 = 0 then
    some (-11 : Int32)
  else
    if (S a0 1) = v1 then
      if v2 < 0 then
        some (-13 : Int32)
      else
        if v2 ≤ ((S a0 2) - v3) then
          some (0 : Int32)
        else
          some (-13 : Int32)
    else
      some (-12 : Int32)
set_option maxHeartbeats 4000000 in
set_option maxRecDepth 100000 in
theorem m_X4_refusal (S : SI) (T : SL) (U : SI) (V : SL) (a0 : Nat) (ha0 : IsH a0) (v1 : Int32) (v2 : Int32) (v3 : Int32) : Meth 2 yX4_refusal cX4_refusal 4 (some .int) [.ref a0, .int v1, .int v2, .int v3] (S, T, U, V) (f_X4_refusal S a0 v1 v2 v3) (fun a : Int32 => (some (.int a), (S, T, U, V))) := by
  refine meth_of (L := [(0, .ref a0), (1, .int v1), (2, .int v2), (3, .int v3)]) (by decide +kernel) (Nat.le_of_ble_eq_true rfl) rfl ?_
  rw [f_X4_refusal]
  refine r_aload_n dX4_refusal_0 0 rfl rfl ?_
  refine rV_i (as := []) (st := []) dX4_refusal_1 cl_X4_22 ha0.a ha0.2.1 rfl (m_X4_isThere S T U V a0 ha0) (by decide) rfl (Nat.le_of_ble_eq_true rfl) (fun q1 _ => ?_)
  refine r_if_ne (tgt := 10) dX4_refusal_4 (by decide) (fun h2 => ?_) (fun h2 => ?_)
  · refine r_bipush (v := (-11 : Int32)) dX4_refusal_7 rfl ?_
    exact r_ireturn (ty := .int) dX4_refusal_9 rfl (nar_i _) rfl
  · refine r_aload_n dX4_refusal_10 0 rfl rfl ?_
    refine rc_geti dX4_refusal_11 fl_X4_15 ha0.q ha0.a ha0.2.1 rfl ?_
    refine r_iload_n dX4_refusal_14 1 rfl rfl ?_
    refine r_icmp_eq (tgt := 21) dX4_refusal_15 (by decide) (fun h3 => ?_) (fun h3 => ?_)
    · refine r_iload_n dX4_refusal_21 2 rfl rfl ?_
      refine r_if_lt (tgt := 35) dX4_refusal_22 (by decide) (fun h4 => ?_) (fun h4 => ?_)
      · refine r_bipush (v := (-13 : Int32)) dX4_refusal_35 rfl ?_
        refine r_goto (tgt := 41) dX4_refusal_37 (by decide) ?_
        exact r_ireturn (ty := .int) dX4_refusal_41 rfl (nar_i _) rfl
      · refine r_iload_n dX4_refusal_25 2 rfl rfl ?_
        refine r_aload_n dX4_refusal_26 0 rfl rfl ?_
        refine rc_geti dX4_refusal_27 fl_X4_19 ha0.q ha0.a ha0.2.1 rfl ?_
        refine r_iload_n dX4_refusal_30 3 rfl rfl ?_
        refine r_isub dX4_refusal_31 ?_
        refine r_icmp_le (tgt := 40) dX4_refusal_32 (by decide) (fun h5 => ?_) (fun h5 => ?_)
        · refine r_iconst (v := (0 : Int32)) dX4_refusal_40 rfl ?_
          exact r_ireturn (ty := .int) dX4_refusal_41 rfl (nar_i _) rfl
        · refine r_bipush (v := (-13 : Int32)) dX4_refusal_35 rfl ?_
          refine r_goto (tgt := 41) dX4_refusal_37 (by decide) ?_
          exact r_ireturn (ty := .int) dX4_refusal_41 rfl (nar_i _) rfl
    · refine r_bipush (v := (-12 : Int32)) dX4_refusal_18 rfl ?_
      exact r_ireturn (ty := .int) dX4_refusal_20 rfl (nar_i _) rfl
def f_X4_put (S : SI) (a0 : Nat) (v1 : Int32) (v2 : Int32) : Option (SI) :=
  if (S a0 1) = 0 then
    gd (inB v1 16) <|
    nm (up2 S (a0 + 1) (ix v1) v2.toInt8.toInt32) fun S3 =>
    some S3
  else
    if (S a0 1) = (1 : Int32) then
      gd (inB v1 16) <|
      nm (up2 S (a0 + 1) (ix v1) v2.toInt16.toInt32) fun S6 =>
      some S6
    else
      gd (inB v1 16) <|
      nm (up2 S (a0 + 1) (ix v1) v2) fun S8 =>
      some S8
set_option maxHeartbeats 4000000 in
set_option maxRecDepth 100000 in
theorem m_X4_put (S : SI) (T : SL) (U : SI) (V : SL) (a0 : Nat) (ha0 : IsH a0) (v1 : Int32) (v2 : Int32) : Meth 1 yX4_put cX4_put 3 none [.ref a0, .int v1, .int v2] (S, T, U, V) (f_X4_put S a0 v1 v2) (fun a : SI => (none, (a, T, U, V))) := by
  refine meth_of (L := [(0, .ref a0), (1, .int v1), (2, .int v2)]) (by decide +kernel) (Nat.le_of_ble_eq_true rfl) rfl ?_
  rw [f_X4_put]
  refine r_aload_n dX4_put_0 0 rfl rfl ?_
  refine rc_geti dX4_put_1 fl_X4_15 ha0.q ha0.a ha0.2.1 rfl ?_
  refine r_if_ne (tgt := 18) dX4_put_4 (by decide) (fun h1 => ?_) (fun h1 => ?_)
  · refine r_aload_n dX4_put_7 0 rfl rfl ?_
    refine r_getr dX4_put_8 fl_X4_9 ha0.a ha0.2.1 rfl ha0.a1 ?_
    refine r_iload_n dX4_put_11 1 rfl rfl ?_
    refine r_iload_n dX4_put_12 2 rfl rfl ?_
    refine r_i2b dX4_put_13 ?_
    refine rc_iast dX4_put_14 ha0.q1 ha0.a1 ha0.2.2 (fun h2 => ?_)
    refine r_nmS (fun S3 => ?_)
    refine r_goto (tgt := 44) dX4_put_15 (by decide) ?_
    exact r_return dX4_put_44 rfl rfl
  · refine r_aload_n dX4_put_18 0 rfl rfl ?_
    refine rc_geti dX4_put_19 fl_X4_15 ha0.q ha0.a ha0.2.1 rfl ?_
    refine r_iconst (v := (1 : Int32)) dX4_put_22 rfl ?_
    refine r_icmp_ne (tgt := 37) dX4_put_23 (by decide) (fun h4 => ?_) (fun h4 => ?_)
    · refine r_aload_n dX4_put_26 0 rfl rfl ?_
      refine r_getr dX4_put_27 fl_X4_9 ha0.a ha0.2.1 rfl ha0.a1 ?_
      refine r_iload_n dX4_put_30 1 rfl rfl ?_
      refine r_iload_n dX4_put_31 2 rfl rfl ?_
      refine r_i2s dX4_put_32 ?_
      refine rc_iast dX4_put_33 ha0.q1 ha0.a1 ha0.2.2 (fun h5 => ?_)
      refine r_nmS (fun S6 => ?_)
      refine r_goto (tgt := 44) dX4_put_34 (by decide) ?_
      exact r_return dX4_put_44 rfl rfl
    · refine r_aload_n dX4_put_37 0 rfl rfl ?_
      refine r_getr dX4_put_38 fl_X4_9 ha0.a ha0.2.1 rfl ha0.a1 ?_
      refine r_iload_n dX4_put_41 1 rfl rfl ?_
      refine r_iload_n dX4_put_42 2 rfl rfl ?_
      refine rc_iast dX4_put_43 ha0.q1 ha0.a1 ha0.2.2 (fun h7 => ?_)
      refine r_nmS (fun S8 => ?_)
      exact r_return dX4_put_44 rfl rfl
