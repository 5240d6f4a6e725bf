def f_J6_bitCount_0f7a4 (v0 : Int32) : Option (Int32) :=
  nm (v0 - (((v0.toUInt32 >>> ((1 : Int32).toUInt32 &&& Int32.toUInt32 31)).toInt32) &&& (1431655765 : Int32))) fun x1 =>
  nm ((x1 &&& (858993459 : Int32)) + (((x1.toUInt32 >>> ((2 : Int32).toUInt32 &&& Int32.toUInt32 31)).toInt32) &&& (858993459 : Int32))) fun x2 =>
  nm ((x2 + ((x2.toUInt32 >>> ((4 : Int32).toUInt32 &&& Int32.toUInt32 31)).toInt32)) &&& (252645135 : Int32)) fun x3 =>
  nm (x3 + ((x3.toUInt32 >>> ((8 : Int32).toUInt32 &&& Int32.toUInt32 31)).toInt32)) fun x4 =>
  nm (x4 + ((x4.toUInt32 >>> ((16 : Int32).toUInt32 &&& Int32.toUInt32 31)).toInt32)) fun x5 =>
  some (x5 &&& (63 : Int32))
set_option maxHeartbeats 4000000 in
set_option maxRecDepth 100000 in
theorem m_J6_bitCount_0f7a4 (S : SI) (T : SL) (U : SI) (V : SL) (v0 : Int32) : Meth 1 yJ6_bitCount_0f7a4 cJ6_bitCount_0f7a4 1 (some .int) [.int v0] (S, T, U, V) (f_J6_bitCount_0f7a4 v0) (fun a : Int32 => (some (.int a), (S, T, U, V))) := by
  refine meth_of (L := [(0, .int v0)]) (by decide +kernel) (Nat.le_of_ble_eq_true rfl) rfl ?_
  rw [f_J6_bitCount_0f7a4]
  refine r_iload_n dJ6_bitCount_0f7a4_0 0 rfl rfl ?_
  refine r_iload_n dJ6_bitCount_0f7a4_1 0 rfl rfl ?_
  refine r_iconst (v := (1 : Int32)) dJ6_bitCount_0f7a4_2 rfl ?_
  refine r_iushr dJ6_bitCount_0f7a4_3 ?_
  refine r_ldc_w (v := (1431655765 : Int32)) dJ6_bitCount_0f7a4_4 kw_J6_265 ?_
  refine r_iand dJ6_bitCount_0f7a4_7 ?_
  refine r_isub dJ6_bitCount_0f7a4_8 ?_
  refine r_nmi (fun x1 => ?_)
  refine r_istore_n (L' := [(0, .int x1)]) dJ6_bitCount_0f7a4_9 rfl (by decide) rfl ?_
  refine r_iload_n dJ6_bitCount_0f7a4_10 0 rfl rfl ?_
  refine r_ldc_w (v := (858993459 : Int32)) dJ6_bitCount_0f7a4_11 kw_J6_266 ?_
  refine r_iand dJ6_bitCount_0f7a4_14 ?_
  refine r_iload_n dJ6_bitCount_0f7a4_15 0 rfl rfl ?_
  refine r_iconst (v := (2 : Int32)) dJ6_bitCount_0f7a4_16 rfl ?_
  refine r_iushr dJ6_bitCount_0f7a4_17 ?_
  refine r_ldc_w (v := (858993459 : Int32)) dJ6_bitCount_0f7a4_18 kw_J6_266 ?_
  refine r_iand dJ6_bitCount_0f7a4_21 ?_
  refine r_iadd dJ6_bitCount_0f7a4_22 ?_
  refine r_nmi (fun x2 => ?_)
  refine r_istore_n (L' := [(0, .int x2)]) dJ6_bitCount_0f7a4_23 rfl (by decide) rfl ?_
  refine r_iload_n dJ6_bitCount_0f7a4_24 0 rfl rfl ?_
  refine r_iload_n dJ6_bitCount_0f7a4_25 0 rfl rfl ?_
  refine r_iconst (v := (4 : Int32)) dJ6_bitCount_0f7a4_26 rfl ?_
  refine r_iushr dJ6_bitCount_0f7a4_27 ?_
  refine r_iadd dJ6_bitCount_0f7a4_28 ?_
  refine r_ldc_w (v := (252645135 : Int32)) dJ6_bitCount_0f7a4_29 kw_J6_267 ?_
  refine r_iand dJ6_bitCount_0f7a4_32 ?_
  refine r_nmi (fun x3 => ?_)
  refine r_istore_n (L' := [(0, .int x3)]) dJ6_bitCount_0f7a4_33 rfl (by decide) rfl ?_
  refine r_iload_n dJ6_bitCount_0f7a4_34 0 rfl rfl ?_
  refine r_iload_n dJ6_bitCount_0f7a4_35 0 rfl rfl ?_
  refine r_bipush (v := (8 : Int32)) dJ6_bitCount_0f7a4_36 rfl ?_
  refine r_iushr dJ6_bitCount_0f7a4_38 ?_
  refine r_iadd dJ6_bitCount_0f7a4_39 ?_
  refine r_nmi (fun x4 => ?_)
  refine r_istore_n (L' := [(0, .int x4)]) dJ6_bitCount_0f7a4_40 rfl (by decide) rfl ?_
  refine r_iload_n dJ6_bitCount_0f7a4_41 0 rfl rfl ?_
  refine r_iload_n dJ6_bitCount_0f7a4_42 0 rfl rfl ?_
  refine r_bipush (v := (16 : Int32)) dJ6_bitCount_0f7a4_43 rfl ?_
  refine r_iushr dJ6_bitCount_0f7a4_45 ?_
  refine r_iadd dJ6_bitCount_0f7a4_46 ?_
  refine r_nmi (fun x5 => ?_)
  refine r_istore_n (L' := [(0, .int x5)]) dJ6_bitCount_0f7a4_47 rfl (by decide) rfl ?_
  refine r_iload_n dJ6_bitCount_0f7a4_48 0 rfl rfl ?_
  refine r_bipush (v := (63 : Int32)) dJ6_bitCount_0f7a4_49 rfl ?_
  refine r_iand dJ6_bitCount_0f7a4_51 ?_
  exact r_ireturn (ty := .int) dJ6_bitCount_0f7a4_52 rfl (nar_i _) rfl
def f_J13_bitCount_95d88 (v0 : Int64) : Option (Int32) :=
  nm (v0 - (((v0.toUInt64 >>> ((1 : Int32).toInt64.toUInt64 &&& Int64.toUInt64 63)).toInt64) &&& (6148914691236517205 : Int64))) fun x1 =>
  nm ((x1 &&& (3689348814741910323 : Int64)) + (((x1.toUInt64 >>> ((2 : Int32).toInt64.toUInt64 &&& Int64.toUInt64 63)).toInt64) &&& (3689348814741910323 : Int64))) fun x2 =>
  nm ((x2 + ((x2.toUInt64 >>> ((4 : Int32).toInt64.toUInt64 &&& Int64.toUInt64 63)).toInt64)) &&& (1085102592571150095 : Int64)) fun x3 =>
  nm (x3 + ((x3.toUInt64 >>> ((8 : Int32).toInt64.toUInt64 &&& Int64.toUInt64 63)).toInt64)) fun x4 =>
  nm (x4 + ((x4.toUInt64 >>> ((16 : Int32).toInt64.toUInt64 &&& Int64.toUInt64 63)).toInt64)) fun x5 =>
  nm (x5 + ((x5.toUInt64 >>> ((32 : Int32).toInt64.toUInt64 &&& Int64.toUInt64 63)).toInt64)) fun x6 =>
  some (x6.toInt32 &&& (127 : Int32))
set_option maxHeartbeats 4000000 in
set_option maxRecDepth 100000 in
theorem m_J13_bitCount_95d88 (S : SI) (T : SL) (U : SI) (V : SL) (v0 : Int64) : Meth 1 yJ13_bitCount_95d88 cJ13_bitCount_95d88 2 (some .int) [.long v0] (S, T, U, V) (f_J13_bitCount_95d88 v0) (fun a : Int32 => (some (.int a), (S, T, U, V))) := by
  refine meth_of (L := [(0, .long v0)]) (by decide +kernel) (Nat.le_of_ble_eq_true rfl) rfl ?_
  rw [f_J13_bitCount_95d88]
  refine r_lload_n dJ13_bitCount_95d88_0 0 rfl rfl ?_
  refine r_lload_n dJ13_bitCount_95d88_1 0 rfl rfl ?_
  refine r_iconst (v := (1 : Int32)) dJ13_bitCount_95d88_2 rfl ?_
  refine r_lushr dJ13_bitCount_95d88_3 ?_
  refine r_ldc2_w (v := (6148914691236517205 : Int64)) dJ13_bitCount_95d88_4 kw_J13_314 ?_
  refine r_land dJ13_bitCount_95d88_7 ?_
  refine r_lsub dJ13_bitCount_95d88_8 ?_
  refine r_nml (fun x1 => ?_)
  refine r_lstore_n (L' := [(0, .long x1)]) dJ13_bitCount_95d88_9 rfl (by decide) rfl ?_
  refine r_lload_n dJ13_bitCount_95d88_10 0 rfl rfl ?_
  refine r_ldc2_w (v := (3689348814741910323 : Int64)) dJ13_bitCount_95d88_11 kw_J13_316 ?_
  refine r_land dJ13_bitCount_95d88_14 ?_
  refine r_lload_n dJ13_bitCount_95d88_15 0 rfl rfl ?_
  refine r_iconst (v := (2 : Int32)) dJ13_bitCount_95d88_16 rfl ?_
  refine r_lushr dJ13_bitCount_95d88_17 ?_
  refine r_ldc2_w (v := (3689348814741910323 : Int64)) dJ13_bitCount_95d88_18 kw_J13_316 ?_
  refine r_land dJ13_bitCount_95d88_21 ?_
  refine r_ladd dJ13_bitCount_95d88_22 ?_
  refine r_nml (fun x2 => ?_)
  refine r_lstore_n (L' := [(0, .long x2)]) dJ13_bitCount_95d88_23 rfl (by decide) rfl ?_
  refine r_lload_n dJ13_bitCount_95d88_24 0 rfl rfl ?_
  refine r_lload_n dJ13_bitCount_95d88_25 0 rfl rfl ?_
  refine r_iconst (v := (4 : Int32)) dJ13_bitCount_95d88_26 rfl ?_
  refine r_lushr dJ13_bitCount_95d88_27 ?_
  refine r_ladd dJ13_bitCount_95d88_28 ?_
  refine r_ldc2_w (v := (1085102592571150095 : Int64)) dJ13_bitCount_95d88_29 kw_J13_318 ?_
  refine r_land dJ13_bitCount_95d88_32 ?_
  refine r_nml (fun x3 => ?_)
  refine r_lstore_n (L' := [(0, .long x3)]) dJ13_bitCount_95d88_33 rfl (by decide) rfl ?_
  refine r_lload_n dJ13_bitCount_95d88_34 0 rfl rfl ?_
  refine r_lload_n dJ13_bitCount_95d88_35 0 rfl rfl ?_
  refine r_bipush (v := (8 : Int32)) dJ13_bitCount_95d88_36 rfl ?_
  refine r_lushr dJ13_bitCount_95d88_38 ?_
  refine r_ladd dJ13_bitCount_95d88_39 ?_
  refine r_nml (fun x4 => ?_)
  refine r_lstore_n (L' := [(0, .long x4)]) dJ13_bitCount_95d88_40 rfl (by decide) rfl ?_
  refine r_lload_n dJ13_bitCount_95d88_41 0 rfl rfl ?_
  refine r_lload_n dJ13_bitCount_95d88_42 0 rfl rfl ?_
  refine r_bipush (v := (16 : Int32)) dJ13_bitCount_95d88_43 rfl ?_
  refine r_lushr dJ13_bitCount_95d88_45 ?_
  refine r_ladd dJ13_bitCount_95d88_46 ?_
  refine r_nml (fun x5 => ?_)
  refine r_lstore_n (L' := [(0, .long x5)]) dJ13_bitCount_95d88_47 rfl (by decide) rfl ?_
  refine r_lload_n dJ13_bitCount_95d88_48 0 rfl rfl ?_
  refine r_lload_n dJ13_bitCount_95d88_49 0 rfl rfl ?_
  refine r_bipush (v := (32 : Int32)) dJ13_bitCount_95d88_50 rfl ?_
  refine r_lushr dJ13_bitCount_95d88_52 ?_
  refine r_ladd dJ13_bitCount_95d88_53 ?_
  refine r_nml (fun x6 => ?_)
  refine r_lstore_n (L' := [(0, .long x6)]) dJ13_bitCount_95d88_54 rfl (by decide) rfl ?_
  refine r_lload_n dJ13_bitCount_95d88_55 0 rfl rfl ?_
  refine r_l2i dJ13_bitCount_95d88_56 ?_
  refine r_bipush (v := (127 : Int32)) dJ13_bitCount_95d88_57 rfl ?_
  refine r_iand dJ13_bitCount_95d88_59 ?_
  exact r_ireturn (ty := .int) dJ13_bitCount_95d88_60 rfl (nar_i _) rfl
