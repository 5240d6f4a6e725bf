def f_X5_trait (S : SI) (a0 : Nat) (v1 : Int32) : Option (Int32) :=
  if v1 = (0 : Int32) then
    some (S a0 0)
  else if v1 = (1 : Int32) then
    some (S a0 1)
  else if v1 = (2 : Int32) then
    some (S a0 2)
  else if v1 = (3 : Int32) then
    some (S a0 3)
  else if v1 = (4 : Int32) then
    some (S a0 4)
  else if v1 = (5 : Int32) then
    some (S a0 5)
  else if v1 = (6 : Int32) then
    some (-1 : Int32)
  else if v1 = (7 : Int32) then
    some (S a0 6)
  else some (-1 : Int32)
set_option maxHeartbeats 4000000 in
set_option maxRecDepth 100000 in
theorem m_X5_trait (S : SI) (T : SL) (U : SI) (V : SL) (a0 : Nat) (ha0 : IsS a0) (v1 : Int32) : Meth 1 yX5_trait cX5_trait 2 (some .int) [.ref a0, .int v1] (S, T, U, V) (f_X5_trait S a0 v1) (fun a : Int32 => (some (.int a), (S, T, U, V))) := by
  refine meth_of (L := [(0, .ref a0), (1, .int v1)]) (by decide +kernel) (Nat.le_of_ble_eq_true rfl) rfl ?_
  rw [f_X5_trait]
  refine r_iload_n dX5_trait_0 1 rfl rfl ?_
  refine r_if (fun h1 => ?_) (fun h1 => ?_)
  · refine r_tableIn (off := 47) (tgt := 48) dX5_trait_1 0 h1 (by decide) (by decide) (by decide) (by decide) ?_
    refine r_aload_n dX5_trait_48 0 rfl rfl ?_
    refine rc_geti dX5_trait_49 fl_X5_18 ha0.1 ha0.a ha0.2 rfl ?_
    exact r_ireturn (ty := .int) dX5_trait_52 rfl (nar_i _) rfl
  · skip
    refine r_if (fun h2 => ?_) (fun h2 => ?_)
    · refine r_tableIn (off := 52) (tgt := 53) dX5_trait_1 1 h2 (by decide) (by decide) (by decide) (by decide) ?_
      refine r_aload_n dX5_trait_53 0 rfl rfl ?_
      refine rc_geti dX5_trait_54 fl_X5_21 ha0.1 ha0.a ha0.2 rfl ?_
      exact r_ireturn (ty := .int) dX5_trait_57 rfl (nar_i _) rfl
    · skip
      refine r_if (fun h3 => ?_) (fun h3 => ?_)
      · refine r_tableIn (off := 57) (tgt := 58) dX5_trait_1 2 h3 (by decide) (by decide) (by decide) (by decide) ?_
        refine r_aload_n dX5_trait_58 0 rfl rfl ?_
        refine rc_geti dX5_trait_59 fl_X5_24 ha0.1 ha0.a ha0.2 rfl ?_
        exact r_ireturn (ty := .int) dX5_trait_62 rfl (nar_i _) rfl
      · skip
        refine r_if (fun h4 => ?_) (fun h4 => ?_)
        · refine r_tableIn (off := 62) (tgt := 63) dX5_trait_1 3 h4 (by decide) (by decide) (by decide) (by decide) ?_
          refine r_aload_n dX5_trait_63 0 rfl rfl ?_
          refine rc_geti dX5_trait_64 fl_X5_27 ha0.1 ha0.a ha0.2 rfl ?_
          exact r_ireturn (ty := .int) dX5_trait_67 rfl (nar_i _) rfl
        · skip
          refine r_if (fun h5 => ?_) (fun h5 => ?_)
          · refine r_tableIn (off := 67) (tgt := 68) dX5_trait_1 4 h5 (by decide) (by decide) (by decide) (by decide) ?_
            refine r_aload_n dX5_trait_68 0 rfl rfl ?_
            refine rc_geti dX5_trait_69 fl_X5_36 ha0.1 ha0.a ha0.2 rfl ?_
            exact r_ireturn (ty := .int) dX5_trait_72 rfl (nar_i _) rfl
          · skip
            refine r_if (fun h6 => ?_) (fun h6 => ?_)
            · refine r_tableIn (off := 72) (tgt := 73) dX5_trait_1 5 h6 (by decide) (by decide) (by decide) (by decide) ?_
              refine r_aload_n dX5_trait_73 0 rfl rfl ?_
              refine rc_geti dX5_trait_74 fl_X5_9 ha0.1 ha0.a ha0.2 rfl ?_
              exact r_ireturn (ty := .int) dX5_trait_77 rfl (nar_i _) rfl
            · skip
              refine r_if (fun h7 => ?_) (fun h7 => ?_)
              · refine r_tableIn (off := 82) (tgt := 83) dX5_trait_1 6 h7 (by decide) (by decide) (by decide) (by decide) ?_
                refine r_iconst (v := (-1 : Int32)) dX5_trait_83 rfl ?_
                exact r_ireturn (ty := .int) dX5_trait_84 rfl (nar_i _) rfl
              · skip
                refine r_if (fun h8 => ?_) (fun h8 => ?_)
                · refine r_tableIn (off := 77) (tgt := 78) dX5_trait_1 7 h8 (by decide) (by decide) (by decide) (by decide) ?_
                  refine r_aload_n dX5_trait_78 0 rfl rfl ?_
                  refine rc_geti dX5_trait_79 fl_X5_15 ha0.1 ha0.a ha0.2 rfl ?_
                  exact r_ireturn (ty := .int) dX5_trait_82 rfl (nar_i _) rfl
                · skip
                  refine r_tableOut (tgt := 83) dX5_trait_1 (by have e0 : ¬ v1.toInt = 0 := fun hh => h1 (Int32.toInt_inj.mp hh); have e1 : ¬ v1.toInt = 1 := fun hh => h2 (Int32.toInt_inj.mp hh); have e2 : ¬ v1.toInt = 2 := fun hh => h3 (Int32.toInt_inj.mp hh); have e3 : ¬ v1.toInt = 3 := fun hh => h4 (Int32.toInt_inj.mp hh); have e4 : ¬ v1.toInt = 4 := fun hh => h5 (Int32.toInt_inj.mp hh); have e5 : ¬ v1.toInt = 5 := fun hh => h6 (Int32.toInt_inj.mp hh); have e6 : ¬ v1.toInt = 6 := fun hh => h7 (Int32.toInt_inj.mp hh); have e7 : ¬ v1.toInt = 7 := fun hh => h8 (Int32.toInt_inj.mp hh); omega) (by decide) ?_
                  refine r_iconst (v := (-1 : Int32)) dX5_trait_83 rfl ?_
                  exact r_ireturn (ty := .int) dX5_trait_84 rfl (nar_i _) rfl
def f_X5_copyFrom (S : SI) (a0 : Nat) (a1 : Nat) : Option (SI) :=
  nm (up2 S a0 0 (S a1 0)) fun S1 =>
  nm (up2 S1 a0 1 (S1 a1 1)) fun S2 =>
  nm (up2 S2 a0 2 (S2 a1 2)) fun S3 =>
  nm (up2 S3 a0 3 (S3 a1 3)) fun S4 =>
  nm (up2 S4 a0 4 (S4 a1 4)) fun S5 =>
  nm (up2 S5 a0 5 (S5 a1 5)) fun S6 =>
  nm (up2 S6 a0 6 (S6 a1 6)) fun S7 =>
  nm (up2 S7 a0 7 (S7 a1 7)) fun S8 =>
  nm (up2 S8 a0 8 (S8 a1 8)) fun S9 =>
  some S9
set_option maxHeartbeats 4000000 in
set_option maxRecDepth 100000 in
theorem m_X5_copyFrom (S : SI) (T : SL) (U : SI) (V : SL) (a0 : Nat) (ha0 : IsS a0) (a1 : Nat) (ha1 : IsS a1) : Meth 1 yX5_copyFrom cX5_copyFrom 2 none [.ref a0, .ref a1] (S, T, U, V) (f_X5_copyFrom S a0 a1) (fun a : SI => (none, (a, T, U, V))) := by
  refine meth_of (L := [(0, .ref a0), (1, .ref a1)]) (by decide +kernel) (Nat.le_of_ble_eq_true rfl) rfl ?_
  rw [f_X5_copyFrom]
  refine r_aload_n dX5_copyFrom_0 0 rfl rfl ?_
  refine r_aload_n dX5_copyFrom_1 1 rfl rfl ?_
  refine rc_geti dX5_copyFrom_2 fl_X5_18 ha1.1 ha1.a ha1.2 rfl ?_
  refine rc_puti (ty := .int) dX5_copyFrom_5 fp_X5_18 (nar_i _) (fit_i _) ha0.1 ha0.a ha0.2 rfl ?_
  refine r_nmS (fun S1 => ?_)
  refine r_aload_n dX5_copyFrom_8 0 rfl rfl ?_
  refine r_aload_n dX5_copyFrom_9 1 rfl rfl ?_
  refine rc_geti dX5_copyFrom_10 fl_X5_21 ha1.1 ha1.a ha1.2 rfl ?_
  refine rc_puti (ty := .int) dX5_copyFrom_13 fp_X5_21 (nar_i _) (fit_i _) ha0.1 ha0.a ha0.2 rfl ?_
  refine r_nmS (fun S2 => ?_)
  refine r_aload_n dX5_copyFrom_16 0 rfl rfl ?_
  refine r_aload_n dX5_copyFrom_17 1 rfl rfl ?_
  refine rc_geti dX5_copyFrom_18 fl_X5_24 ha1.1 ha1.a ha1.2 rfl ?_
  refine rc_puti (ty := .int) dX5_copyFrom_21 fp_X5_24 (nar_i _) (fit_i _) ha0.1 ha0.a ha0.2 rfl ?_
  refine r_nmS (fun S3 => ?_)
  refine r_aload_n dX5_copyFrom_24 0 rfl rfl ?_
  refine r_aload_n dX5_copyFrom_25 1 rfl rfl ?_
  refine rc_geti dX5_copyFrom_26 fl_X5_27 ha1.1 ha1.a ha1.2 rfl ?_
  refine rc_puti (ty := .int) dX5_copyFrom_29 fp_X5_27 (nar_i _) (fit_i _) ha0.1 ha0.a ha0.2 rfl ?_
  refine r_nmS (fun S4 => ?_)
  refine r_aload_n dX5_copyFrom_32 0 rfl rfl ?_
  refine r_aload_n dX5_copyFrom_33 1 rfl rfl ?_
  refine rc_geti dX5_copyFrom_34 fl_X5_36 ha1.1 ha1.a ha1.2 rfl ?_
  refine rc_puti (ty := .int) dX5_copyFrom_37 fp_X5_36 (nar_i _) (fit_i _) ha0.1 ha0.a ha0.2 rfl ?_
  refine r_nmS (fun S5 => ?_)
  refine r_aload_n dX5_copyFrom_40 0 rfl rfl ?_
  refine r_aload_n dX5_copyFrom_41 1 rfl rfl ?_
  refine rc_geti dX5_copyFrom_42 fl_X5_9 ha1.1 ha1.a ha1.2 rfl ?_
  refine rc_puti (ty := .int) dX5_copyFrom_45 fp_X5_9 (nar_i _) (fit_i _) ha0.1 ha0.a ha0.2 rfl ?_
  refine r_nmS (fun S6 => ?_)
  refine r_aload_n dX5_copyFrom_48 0 rfl rfl ?_
  refine r_aload_n dX5_copyFrom_49 1 rfl rfl ?_
  refine rc_geti dX5_copyFrom_50 fl_X5_15 ha1.1 ha1.a ha1.2 rfl ?_
  refine rc_puti (ty := .int) dX5_copyFrom_53 fp_X5_15 (nar_i _) (fit_i _) ha0.1 ha0.a ha0.2 rfl ?_
  refine r_nmS (fun S7 => ?_)
  refine r_aload_n dX5_copyFrom_56 0 rfl rfl ?_
  refine r_aload_n dX5_copyFrom_57 1 rfl rfl ?_
  refine rc_geti dX5_copyFrom_58 fl_X5_30 ha1.1 ha1.a ha1.2 rfl ?_
  refine rc_puti (ty := .int) dX5_copyFrom_61 fp_X5_30 (nar_i _) (fit_i _) ha0.1 ha0.a ha0.2 rfl ?_
  refine r_nmS (fun S8 => ?_)
  refine r_aload_n dX5_copyFrom_64 0 rfl rfl ?_
  refine r_aload_n dX5_copyFrom_65 1 rfl rfl ?_
  refine rc_geti dX5_copyFrom_66 fl_X5_45 ha1.1 ha1.a ha1.2 rfl ?_
  refine rc_puti (ty := .int) dX5_copyFrom_69 fp_X5_45 (nar_i _) (fit_i _) ha0.1 ha0.a ha0.2 rfl ?_
  refine r_nmS (fun S9 => ?_)
  exact r_return dX5_copyFrom_72 rfl rfl
def f_X5_toBox (S : SI) (a0 : Nat) : Option (SI) :=
  nm (up2 S a0 4 (0 : Int32)) fun S1 =>
  nm (up2 S1 a0 5 (-4 : Int32)) fun S2 =>
  nm (up2 S2 a0 6 (-4 : Int32)) fun S3 =>
  some S3
set_option maxHeartbeats 4000000 in
set_option maxRecDepth 100000 in
theorem m_X5_toBox (S : SI) (T : SL) (U : SI) (V : SL) (a0 : Nat) (ha0 : IsS a0) : Meth 1 yX5_toBox cX5_toBox 1 none [.ref a0] (S, T, U, V) (f_X5_toBox S a0) (fun a : SI => (none, (a, T, U, V))) := by
  refine meth_of (L := [(0, .ref a0)]) (by decide +kernel) (Nat.le_of_ble_eq_true rfl) rfl ?_
  rw [f_X5_toBox]
  refine r_aload_n dX5_toBox_0 0 rfl rfl ?_
  refine r_iconst (v := (0 : Int32)) dX5_toBox_1 rfl ?_
  refine rc_puti (ty := .int) dX5_toBox_2 fp_X5_36 (nar_i _) (fit_i _) ha0.1 ha0.a ha0.2 rfl ?_
  refine r_nmS (fun S1 => ?_)
  refine r_aload_n dX5_toBox_5 0 rfl rfl ?_
  refine r_bipush (v := (-4 : Int32)) dX5_toBox_6 rfl ?_
  refine rc_puti (ty := .int) dX5_toBox_8 fp_X5_9 (nar_i _) (fit_i _) ha0.1 ha0.a ha0.2 rfl ?_
  refine r_nmS (fun S2 => ?_)
  refine r_aload_n dX5_toBox_11 0 rfl rfl ?_
  refine r_bipush (v := (-4 : Int32)) dX5_toBox_12 rfl ?_
  refine rc_puti (ty := .int) dX5_toBox_14 fp_X5_15 (nar_i _) (fit_i _) ha0.1 ha0.a ha0.2 rfl ?_
  refine r_nmS (fun S3 => ?_)
  exact r_return dX5_toBox_17 rfl rfl
def f_X5_toLost (S : SI) (a0 : Nat) (v1 : Int32) : Option (SI) :=
  nm (up2 S a0 4 (1 : Int32)) fun S1 =>
  nm (up2 S1 a0 5 (-4 : Int32)) fun S2 =>
  nm (up2 S2 a0 6 v1) fun S3 =>
  some S3
set_option maxHeartbeats 4000000 in
set_option maxRecDepth 100000 in
theorem m_X5_toLost (S : SI) (T : SL) (U : SI) (V : SL) (a0 : Nat) (ha0 : IsS a0) (v1 : Int32) : Meth 1 yX5_toLost cX5_toLost 2 none [.ref a0, .int v1] (S, T, U, V) (f_X5_toLost S a0 v1) (fun a : SI => (none, (a, T, U, V))) := by
  refine meth_of (L := [(0, .ref a0), (1, .int v1)]) (by decide +kernel) (Nat.le_of_ble_eq_true rfl) rfl ?_
  rw [f_X5_toLost]
  refine r_aload_n dX5_toLost_0 0 rfl rfl ?_
  refine r_iconst (v := (1 : Int32)) dX5_toLost_1 rfl ?_
  refine rc_puti (ty := .int) dX5_toLost_2 fp_X5_36 (nar_i _) (fit_i _) ha0.1 ha0.a ha0.2 rfl ?_
  refine r_nmS (fun S1 => ?_)
  refine r_aload_n dX5_toLost_5 0 rfl rfl ?_
  refine r_bipush (v := (-4 : Int32)) dX5_toLost_6 rfl ?_
  refine rc_puti (ty := .int) dX5_toLost_8 fp_X5_9 (nar_i _) (fit_i _) ha0.1 ha0.a ha0.2 rfl ?_
  refine r_nmS (fun S2 => ?_)
  refine r_aload_n dX5_toLost_11 0 rfl rfl ?_
  refine r_iload_n dX5_toLost_12 1 rfl rfl ?_
  refine rc_puti (ty := .int) dX5_toLost_13 fp_X5_15 (nar_i _) (fit_i _) ha0.1 ha0.a ha0.2 rfl ?_
  refine r_nmS (fun S3 => ?_)
  exact r_return dX5_toLost_16 rfl rfl
def f_X5_wear (S : SI) (a0 : Nat) (v1 : Int32) : Option (SI) :=
  nm (up2 S a0 2 (mnI (99 : Int32) ((S a0 2) + v1))) fun S1 =>
  nm (up2 S1 a0 3 (mnI (99 : Int32) ((S1 a0 3) + v1))) fun S2 =>
  some S2
set_option maxHeartbeats 4000000 in
set_option maxRecDepth 100000 in
theorem m_X5_wear (S : SI) (T : SL) (U : SI) (V : SL) (a0 : Nat) (ha0 : IsS a0) (v1 : Int32) : Meth 1 yX5_wear cX5_wear 2 none [.ref a0, .int v1] (S, T, U, V) (f_X5_wear S a0 v1) (fun a : SI => (none, (a, T, U, V))) := by
  refine meth_of (L := [(0, .ref a0), (1, .int v1)]) (by decide +kernel) (Nat.le_of_ble_eq_true rfl) rfl ?_
  rw [f_X5_wear]
  refine r_aload_n dX5_wear_0 0 rfl rfl ?_
  refine r_bipush (v := (99 : Int32)) dX5_wear_1 rfl ?_
  refine r_aload_n dX5_wear_3 0 rfl rfl ?_
  refine rc_geti dX5_wear_4 fl_X5_24 ha0.1 ha0.a ha0.2 rfl ?_
  refine r_iload_n dX5_wear_7 1 rfl rfl ?_
  refine r_iadd dX5_wear_8 ?_
  refine r_mmin dX5_wear_9 cl_X5_39 (by decide) (Nat.le_of_ble_eq_true rfl) ?_
  refine rc_puti (ty := .int) dX5_wear_12 fp_X5_24 (nar_i _) (fit_i _) ha0.1 ha0.a ha0.2 rfl ?_
  refine r_nmS (fun S1 => ?_)
  refine r_aload_n dX5_wear_15 0 rfl rfl ?_
  refine r_bipush (v := (99 : Int32)) dX5_wear_16 rfl ?_
  refine r_aload_n dX5_wear_18 0 rfl rfl ?_
  refine rc_geti dX5_wear_19 fl_X5_27 ha0.1 ha0.a ha0.2 rfl ?_
  refine r_iload_n dX5_wear_22 1 rfl rfl ?_
  refine r_iadd dX5_wear_23 ?_
  refine r_mmin dX5_wear_24 cl_X5_39 (by decide) (Nat.le_of_ble_eq_true rfl) ?_
  refine rc_puti (ty := .int) dX5_wear_27 fp_X5_27 (nar_i _) (fit_i _) ha0.1 ha0.a ha0.2 rfl ?_
  refine r_nmS (fun S2 => ?_)
  exact r_return dX5_wear_30 rfl rfl
def f_X5_begin (S : SI) (a0 : Nat) (v1 : Int32) (v2 : Int32) (v3 : Int32) (v4 : Int32) (v5 : Int32) : Option (SI) :=
  nm (up2 S a0 0 v1) fun S1 =>
  nm (up2 S1 a0 1 v2) fun S2 =>
  nm (up2 S2 a0 2 v3) fun S3 =>
  nm (up2 S3 a0 3 v4) fun S4 =>
  nm (up2 S4 a0 7 v5) fun S5 =>
  (f_X5_toBox S5 a0).bind fun q6 =>
  some q6
set_option maxHeartbeats 4000000 in
set_option maxRecDepth 100000 in
theorem m_X5_begin (S : SI) (T : SL) (U : SI) (V : SL) (a0 : Nat) (ha0 : IsS a0) (v1 : Int32) (v2 : Int32) (v3 : Int32) (v4 : Int32) (v5 : Int32) : Meth 2 yX5_begin cX5_begin 6 none [.ref a0, .int v1, .int v2, .int v3, .int v4, .int v5] (S, T, U, V) (f_X5_begin S a0 v1 v2 v3 v4 v5) (fun a : SI => (none, (a, T, U, V))) := by
  refine meth_of (L := [(0, .ref a0), (1, .int v1), (2, .int v2), (3, .int v3), (4, .int v4), (5, .int v5)]) (by decide +kernel) (Nat.le_of_ble_eq_true rfl) rfl ?_
  rw [f_X5_begin]
  refine r_aload_n dX5_begin_0 0 rfl rfl ?_
  refine r_iload_n dX5_begin_1 1 rfl rfl ?_
  refine rc_puti (ty := .int) dX5_begin_2 fp_X5_18 (nar_i _) (fit_i _) ha0.1 ha0.a ha0.2 rfl ?_
  refine r_nmS (fun S1 => ?_)
  refine r_aload_n dX5_begin_5 0 rfl rfl ?_
  refine r_iload_n dX5_begin_6 2 rfl rfl ?_
  refine rc_puti (ty := .int) dX5_begin_7 fp_X5_21 (nar_i _) (fit_i _) ha0.1 ha0.a ha0.2 rfl ?_
  refine r_nmS (fun S2 => ?_)
  refine r_aload_n dX5_begin_10 0 rfl rfl ?_
  refine r_iload_n dX5_begin_11 3 rfl rfl ?_
  refine rc_puti (ty := .int) dX5_begin_12 fp_X5_24 (nar_i _) (fit_i _) ha0.1 ha0.a ha0.2 rfl ?_
  refine r_nmS (fun S3 => ?_)
  refine r_aload_n dX5_begin_15 0 rfl rfl ?_
  refine r_iload dX5_begin_16 4 rfl ?_
  refine rc_puti (ty := .int) dX5_begin_18 fp_X5_27 (nar_i _) (fit_i _) ha0.1 ha0.a ha0.2 rfl ?_
  refine r_nmS (fun S4 => ?_)
  refine r_aload_n dX5_begin_21 0 rfl rfl ?_
  refine r_iload dX5_begin_22 5 rfl ?_
  refine rc_puti (ty := .int) dX5_begin_24 fp_X5_30 (nar_i _) (fit_i _) ha0.1 ha0.a ha0.2 rfl ?_
  refine r_nmS (fun S5 => ?_)
  refine r_aload_n dX5_begin_27 0 rfl rfl ?_
  refine rVc_vS (as := []) (st := []) dX5_begin_28 cl_X5_33 ha0.a ha0.2 rfl (m_X5_toBox S5 T U V a0 ha0) (by decide) rfl (Nat.le_of_ble_eq_true rfl) (fun q6 _ => ?_)
  exact r_return dX5_begin_31 rfl rfl
def f_X5_toPair (S : SI) (a0 : Nat) (v1 : Int32) : Option (SI) :=
  nm (up2 S a0 4 (2 : Int32)) fun S1 =>
  nm (up2 S1 a0 5 v1) fun S2 =>
  some S2
set_option maxHeartbeats 4000000 in
set_option maxRecDepth 100000 in
theorem m_X5_toPair (S : SI) (T : SL) (U : SI) (V : SL) (a0 : Nat) (ha0 : IsS a0) (v1 : Int32) : Meth 1 yX5_toPair cX5_toPair 2 none [.ref a0, .int v1] (S, T, U, V) (f_X5_toPair S a0 v1) (fun a : SI => (none, (a, T, U, V))) := by
  refine meth_of (L := [(0, .ref a0), (1, .int v1)]) (by decide +kernel) (Nat.le_of_ble_eq_true rfl) rfl ?_
  rw [f_X5_toPair]
  refine r_aload_n dX5_toPair_0 0 rfl rfl ?_
  refine r_iconst (v := (2 : Int32)) dX5_toPair_1 rfl ?_
  refine rc_puti (ty := .int) dX5_toPair_2 fp_X5_36 (nar_i _) (fit_i _) ha0.1 ha0.a ha0.2 rfl ?_
  refine r_nmS (fun S1 => ?_)
  refine r_aload_n dX5_toPair_5 0 rfl rfl ?_
  refine r_iload_n dX5_toPair_6 1 rfl rfl ?_
  refine rc_puti (ty := .int) dX5_toPair_7 fp_X5_9 (nar_i _) (fit_i _) ha0.1 ha0.a ha0.2 rfl ?_
  refine r_nmS (fun S2 => ?_)
  exact r_return dX5_toPair_10 rfl rfl
