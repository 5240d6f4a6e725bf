def g_X5_init (z : Zc) (a0 : Nat) : Option Zc :=
  gd (pfB z a0 5 5 (.inr false)) <|
  nm (piZ z a0 5 (-4 : Int32)) fun z1 =>
  gd (pfB z1 a0 5 6 (.inr false)) <|
  nm (piZ z1 a0 6 (-4 : Int32)) fun z2 =>
  some z2
set_option maxHeartbeats 4000000 in
set_option maxRecDepth 100000 in
theorem n_X5_init (z : Zc) (a0 : Nat) : MethC 1 yX5_init cX5_init 1 [.ref a0] z (g_X5_init z a0) := by
  refine methC_of (L := [(0, .ref a0)]) (by decide +kernel) (Nat.le_of_ble_eq_true rfl) rfl ?_
  rw [g_X5_init]
  refine c_aload_n dX5_init_0 0 rfl rfl ?_
  refine c_obj dX5_init_1 co_X5_3 (by decide) (Nat.le_of_ble_eq_true rfl) ?_
  refine c_aload_n dX5_init_4 0 rfl rfl ?_
  refine c_bipush (v := (-4 : Int32)) dX5_init_5 rfl ?_
  refine c_puti (ty := .int) dX5_init_7 fp_X5_9 (nar_i _) (fit_i _) ?_
  refine c_nm (fun z1 => ?_)
  refine c_aload_n dX5_init_10 0 rfl rfl ?_
  refine c_bipush (v := (-4 : Int32)) dX5_init_11 rfl ?_
  refine c_puti (ty := .int) dX5_init_13 fp_X5_15 (nar_i _) (fit_i _) ?_
  refine c_nm (fun z2 => ?_)
  exact c_return dX5_init_16
def g_X4_init (z : Zc) (a0 : Nat) : Option Zc :=
  gd (naB z.1 (ix (16 : Int32)) 0 && decide (0 ≤ (16 : Int32).toInt)) <|
  nm (nwZ z) fun z1 =>
  gd (pfB z1 a0 4 0 (.inl z.1) && decide (z.1 < 95)) <|
  nm (prZ z1 a0 0) fun z2 =>
  gd (pfB z2 a0 4 1 (.inr false)) <|
  nm (piZ z2 a0 1 (-1 : Int32)) fun z3 =>
  some z3
set_option maxHeartbeats 4000000 in
set_option maxRecDepth 100000 in
theorem n_X4_init (z : Zc) (a0 : Nat) : MethC 1 yX4_init cX4_init 1 [.ref a0] z (g_X4_init z a0) := by
  refine methC_of (L := [(0, .ref a0)]) (by decide +kernel) (Nat.le_of_ble_eq_true rfl) rfl ?_
  rw [g_X4_init]
  refine c_aload_n dX4_init_0 0 rfl rfl ?_
  refine c_obj dX4_init_1 co_X4_3 (by decide) (Nat.le_of_ble_eq_true rfl) ?_
  refine c_aload_n dX4_init_4 0 rfl rfl ?_
  refine c_bipush (v := (16 : Int32)) dX4_init_5 rfl ?_
  refine c_newi dX4_init_7 ?_
  refine c_nm (fun z1 => ?_)
  refine c_putr dX4_init_9 ff_X4_9 rfl ?_
  refine c_nm (fun z2 => ?_)
  refine c_aload_n dX4_init_12 0 rfl rfl ?_
  refine c_iconst (v := (-1 : Int32)) dX4_init_13 rfl ?_
  refine c_puti (ty := .int) dX4_init_14 fp_X4_15 (nar_i _) (fit_i _) ?_
  refine c_nm (fun z3 => ?_)
  exact c_return dX4_init_17
def g_X3_init (z : Zc) (a0 : Nat) : Option Zc :=
  gd (naB z.1 (ix (144 : Int32)) 0 && decide (0 ≤ (144 : Int32).toInt)) <|
  nm (nwZ z) fun z1 =>
  gd (pfB z1 a0 3 0 (.inl z.1) && decide (z.1 < 95)) <|
  nm (prZ z1 a0 0) fun z2 =>
  gd (naB z2.1 (ix (4096 : Int32)) 0 && decide (0 ≤ (4096 : Int32).toInt)) <|
  nm (nwZ z2) fun z3 =>
  gd (pfB z3 a0 3 1 (.inl z2.1) && decide (z2.1 < 95)) <|
  nm (prZ z3 a0 1) fun z4 =>
  gd (naB z4.1 (ix (12 : Int32)) 0 && decide (0 ≤ (12 : Int32).toInt)) <|
  nm (nwZ z4) fun z5 =>
  gd (pfB z5 a0 3 2 (.inl z4.1) && decide (z4.1 < 95)) <|
  nm (prZ z5 a0 2) fun z6 =>
  some z6
set_option maxHeartbeats 4000000 in
set_option maxRecDepth 100000 in
theorem n_X3_init (z : Zc) (a0 : Nat) : MethC 1 yX3_init cX3_init 1 [.ref a0] z (g_X3_init z a0) := by
  refine methC_of (L := [(0, .ref a0)]) (by decide +kernel) (Nat.le_of_ble_eq_true rfl) rfl ?_
  rw [g_X3_init]
  refine c_aload_n dX3_init_0 0 rfl rfl ?_
  refine c_obj dX3_init_1 co_X3_3 (by decide) (Nat.le_of_ble_eq_true rfl) ?_
  refine c_aload_n dX3_init_4 0 rfl rfl ?_
  refine c_sipush (v := (144 : Int32)) dX3_init_5 rfl ?_
  refine c_newi dX3_init_8 ?_
  refine c_nm (fun z1 => ?_)
  refine c_putr dX3_init_10 ff_X3_9 rfl ?_
  refine c_nm (fun z2 => ?_)
  refine c_aload_n dX3_init_13 0 rfl rfl ?_
  refine c_sipush (v := (4096 : Int32)) dX3_init_14 rfl ?_
  refine c_newi dX3_init_17 ?_
  refine c_nm (fun z3 => ?_)
  refine c_putr dX3_init_19 ff_X3_15 rfl ?_
  refine c_nm (fun z4 => ?_)
  refine c_aload_n dX3_init_22 0 rfl rfl ?_
  refine c_bipush (v := (12 : Int32)) dX3_init_23 rfl ?_
  refine c_newi dX3_init_25 ?_
  refine c_nm (fun z5 => ?_)
  refine c_putr dX3_init_27 ff_X3_18 rfl ?_
  refine c_nm (fun z6 => ?_)
  exact c_return dX3_init_30
def g_X8_init (z : Zc) (a0 : Nat) : Option Zc :=
  gd (naB z.1 (ix (8 : Int32)) 0 && decide (0 ≤ (8 : Int32).toInt)) <|
  nm (nwZ z) fun z1 =>
  gd (pfB z1 a0 8 0 (.inl z.1) && decide (z.1 < 95)) <|
  nm (prZ z1 a0 0) fun z2 =>
  gd (naB z2.1 (ix (9 : Int32)) 1 && decide (0 ≤ (9 : Int32).toInt)) <|
  nm (nwZ z2) fun z3 =>
  gd (pfB z3 a0 8 1 (.inl z2.1) && decide (z2.1 < 95)) <|
  nm (prZ z3 a0 1) fun z4 =>
  gd (pfB z4 a0 8 2 (.inr true)) <|
  nm (plZ z4 a0 2 (1 : Int64)) fun z5 =>
  some z5
set_option maxHeartbeats 4000000 in
set_option maxRecDepth 100000 in
theorem n_X8_init (z : Zc) (a0 : Nat) : MethC 1 yX8_init cX8_init 1 [.ref a0] z (g_X8_init z a0) := by
  refine methC_of (L := [(0, .ref a0)]) (by decide +kernel) (Nat.le_of_ble_eq_true rfl) rfl ?_
  rw [g_X8_init]
  refine c_aload_n dX8_init_0 0 rfl rfl ?_
  refine c_obj dX8_init_1 co_X8_3 (by decide) (Nat.le_of_ble_eq_true rfl) ?_
  refine c_aload_n dX8_init_4 0 rfl rfl ?_
  refine c_bipush (v := (8 : Int32)) dX8_init_5 rfl ?_
  refine c_newi dX8_init_7 ?_
  refine c_nm (fun z1 => ?_)
  refine c_putr dX8_init_9 ff_X8_9 rfl ?_
  refine c_nm (fun z2 => ?_)
  refine c_aload_n dX8_init_12 0 rfl rfl ?_
  refine c_bipush (v := (9 : Int32)) dX8_init_13 rfl ?_
  refine c_newl dX8_init_15 ?_
  refine c_nm (fun z3 => ?_)
  refine c_putr dX8_init_17 ff_X8_15 rfl ?_
  refine c_nm (fun z4 => ?_)
  refine c_aload_n dX8_init_20 0 rfl rfl ?_
  refine c_lconst (v := (1 : Int64)) dX8_init_21 rfl ?_
  refine c_putl (ty := .long) dX8_init_22 fp_X8_19 rfl rfl ?_
  refine c_nm (fun z5 => ?_)
  exact c_return dX8_init_25
def g_X0_init (z : Zc) (a0 : Nat) : Option Zc :=
  gd (naB z.1 (ix (13 : Int32)) 1 && decide (0 ≤ (13 : Int32).toInt)) <|
  nm (nwZ z) fun z1 =>
  gd (pfB z1 a0 0 0 (.inl z.1) && decide (z.1 < 95)) <|
  nm (prZ z1 a0 0) fun z2 =>
  some z2
set_option maxHeartbeats 4000000 in
set_option maxRecDepth 100000 in
theorem n_X0_init (z : Zc) (a0 : Nat) : MethC 1 yX0_init cX0_init 1 [.ref a0] z (g_X0_init z a0) := by
  refine methC_of (L := [(0, .ref a0)]) (by decide +kernel) (Nat.le_of_ble_eq_true rfl) rfl ?_
  rw [g_X0_init]
  refine c_aload_n dX0_init_0 0 rfl rfl ?_
  refine c_obj dX0_init_1 co_X0_3 (by decide) (Nat.le_of_ble_eq_true rfl) ?_
  refine c_aload_n dX0_init_4 0 rfl rfl ?_
  refine c_bipush (v := (13 : Int32)) dX0_init_5 rfl ?_
  refine c_newl dX0_init_7 ?_
  refine c_nm (fun z1 => ?_)
  refine c_putr dX0_init_9 ff_X0_9 rfl ?_
  refine c_nm (fun z2 => ?_)
  exact c_return dX0_init_12
def g_X2_init (z : Zc) (a0 : Nat) : Option Zc :=
  gd (naB z.1 (ix (169 : Int32)) 1 && decide (0 ≤ (169 : Int32).toInt)) <|
  nm (nwZ z) fun z1 =>
  gd (pfB z1 a0 2 0 (.inl z.1) && decide (z.1 < 95)) <|
  nm (prZ z1 a0 0) fun z2 =>
  some z2
set_option maxHeartbeats 4000000 in
set_option maxRecDepth 100000 in
theorem n_X2_init (z : Zc) (a0 : Nat) : MethC 1 yX2_init cX2_init 1 [.ref a0] z (g_X2_init z a0) := by
  refine methC_of (L := [(0, .ref a0)]) (by decide +kernel) (Nat.le_of_ble_eq_true rfl) rfl ?_
  rw [g_X2_init]
  refine c_aload_n dX2_init_0 0 rfl rfl ?_
  refine c_obj dX2_init_1 co_X2_3 (by decide) (Nat.le_of_ble_eq_true rfl) ?_
  refine c_aload_n dX2_init_4 0 rfl rfl ?_
  refine c_sipush (v := (169 : Int32)) dX2_init_5 rfl ?_
  refine c_newl dX2_init_8 ?_
  refine c_nm (fun z1 => ?_)
  refine c_putr dX2_init_10 ff_X2_11 rfl ?_
  refine c_nm (fun z2 => ?_)
  exact c_return dX2_init_13
def g_X7_init (z : Zc) (a0 : Nat) : Option Zc :=
  gd (naB z.1 (ix (20 : Int32)) 0 && decide (0 ≤ (20 : Int32).toInt)) <|
  nm (nwZ z) fun z1 =>
  gd (pfB z1 a0 7 0 (.inl z.1) && decide (z.1 < 95)) <|
  nm (prZ z1 a0 0) fun z2 =>
  gd (naB z2.1 (ix (100 : Int32)) 0 && decide (0 ≤ (100 : Int32).toInt)) <|
  nm (nwZ z2) fun z3 =>
  gd (pfB z3 a0 7 1 (.inl z2.1) && decide (z2.1 < 95)) <|
  nm (prZ z3 a0 1) fun z4 =>
  gd (naB z4.1 (ix (5 : Int32)) 0 && decide (0 ≤ (5 : Int32).toInt)) <|
  nm (nwZ z4) fun z5 =>
  gd (pfB z5 a0 7 2 (.inl z4.1) && decide (z4.1 < 95)) <|
  nm (prZ z5 a0 2) fun z6 =>
  gd (naB z6.1 (ix (64 : Int32)) 1 && decide (0 ≤ (64 : Int32).toInt)) <|
  nm (nwZ z6) fun z7 =>
  gd (pfB z7 a0 7 3 (.inl z6.1) && decide (z6.1 < 95)) <|
  nm (prZ z7 a0 3) fun z8 =>
  some z8
set_option maxHeartbeats 4000000 in
set_option maxRecDepth 100000 in
theorem n_X7_init (z : Zc) (a0 : Nat) : MethC 1 yX7_init cX7_init 1 [.ref a0] z (g_X7_init z a0) := by
  refine methC_of (L := [(0, .ref a0)]) (by decide +kernel) (Nat.le_of_ble_eq_true rfl) rfl ?_
  rw [g_X7_init]
  refine c_aload_n dX7_init_0 0 rfl rfl ?_
  refine c_obj dX7_init_1 co_X7_3 (by decide) (Nat.le_of_ble_eq_true rfl) ?_
  refine c_aload_n dX7_init_4 0 rfl rfl ?_
  refine c_bipush (v := (20 : Int32)) dX7_init_5 rfl ?_
  refine c_newi dX7_init_7 ?_
  refine c_nm (fun z1 => ?_)
  refine c_putr dX7_init_9 ff_X7_11 rfl ?_
  refine c_nm (fun z2 => ?_)
  refine c_aload_n dX7_init_12 0 rfl rfl ?_
  refine c_bipush (v := (100 : Int32)) dX7_init_13 rfl ?_
  refine c_newi dX7_init_15 ?_
  refine c_nm (fun z3 => ?_)
  refine c_putr dX7_init_17 ff_X7_15 rfl ?_
  refine c_nm (fun z4 => ?_)
  refine c_aload_n dX7_init_20 0 rfl rfl ?_
  refine c_iconst (v := (5 : Int32)) dX7_init_21 rfl ?_
  refine c_newi dX7_init_22 ?_
  refine c_nm (fun z5 => ?_)
  refine c_putr dX7_init_24 ff_X7_18 rfl ?_
  refine c_nm (fun z6 => ?_)
  refine c_aload_n dX7_init_27 0 rfl rfl ?_
  refine c_bipush (v := (64 : Int32)) dX7_init_28 rfl ?_
  refine c_newl dX7_init_30 ?_
  refine c_nm (fun z7 => ?_)
  refine c_putr dX7_init_32 ff_X7_21 rfl ?_
  refine c_nm (fun z8 => ?_)
  exact c_return dX7_init_35
def g_X1_init_67 (a0 : Nat) (ke92 : Zc → Option (Zc)) : Nat → Int32 → Zc → Option (Zc)
  | 0, _, _ => none
  | m_ + 1, v1, Z =>
    if (12 : Int32) ≤ v1 then
      ke92 Z
    else
      gd ((pfB Z a0 1 0 (.inl (rfO a0 0)) && Z.2.2.2 a0 0) && decide (rfO a0 0 < 95)) <|
      gd (nwB Z.1 5 [1, 1, 1, 1, 1, 1, 1, 1, 1]) <|
      nm (nwZ Z) fun z17 =>
      gd (decide (Z.1 < 95)) <|
      (g_X5_init z17 Z.1).bind fun z18 =>
      gd (aaB z18 (rfO a0 0) v1 Z.1 0 5) <|
      nm (prZ z18 (rfO a0 0) (ix v1)) fun z19 =>
      (g_X1_init_67 a0 ke92 m_) (v1 + (1 : Int32)) z19
set_option maxHeartbeats 4000000 in
set_option maxRecDepth 100000 in
theorem u_X1_init_67 (a0 : Nat) (ke92 : Zc → Option (Zc)) (hke92 : ∀ (Z' : Zc), RunC 2 yX1_init cX1_init 2 (Eret cX1_init) 92 [(0, .ref a0)] [] Z' (ke92 Z')) : ∀ (m_ : Nat) (v1 : Int32) (Z : Zc), RunC 2 yX1_init cX1_init 2 (Eret cX1_init) 67 [(0, .ref a0), (1, .int v1)] [] Z (g_X1_init_67 a0 ke92 m_ v1 Z) := by
  intro m_
  induction m_ with
  | zero =>
    intro v1 Z
    rw [g_X1_init_67]
    exact c_none
  | succ m_ ih =>
    intro v1 Z
    rw [g_X1_init_67]
    refine c_iload_n dX1_init_67 1 rfl rfl ?_
    refine c_bipush (v := (12 : Int32)) dX1_init_68 rfl ?_
    refine c_icmp_ge (tgt := 92) dX1_init_70 (by decide) (fun h16 => ?_) (fun h16 => ?_)
    · exact c_pick [0] rfl (hke92 Z)
    · refine c_aload_n dX1_init_73 0 rfl rfl ?_
      refine c_getr dX1_init_74 fl_X1_11 ?_
      refine c_iload_n dX1_init_77 1 rfl rfl ?_
      refine c_new dX1_init_78 nw_X1_9 ?_
      refine c_nm (fun z17 => ?_)
      refine c_dup dX1_init_81 rfl ?_
      refine c_callJ dX1_init_82 ci_X1_40 (n_X5_init z17 Z.1) (by decide) (Nat.le_of_ble_eq_true rfl) (fun z18 _ => ?_)
      refine c_aast (kd := 0) (ci := 5) dX1_init_85 rfl kd_5 ?_
      refine c_nm (fun z19 => ?_)
      refine c_iinc (v := v1 + (1 : Int32)) (L' := [(1, .int (v1 + (1 : Int32))), (0, .ref a0)]) dX1_init_86 1 rfl rfl (by decide) rfl ?_
      refine c_goto (tgt := 67) dX1_init_89 (by decide) ?_
      exact c_pick [1, 0] rfl (ih (v1 + (1 : Int32)) z19)
def g_X1_init_94 (a0 : Nat) : Nat → Int32 → Zc → Option (Zc)
  | 0, _, _ => none
  | m_ + 1, v1, Z =>
    if (18 : Int32) ≤ v1 then
      some Z
    else
      gd ((pfB Z a0 1 9 (.inl (rfO a0 9)) && Z.2.2.2 a0 9) && decide (rfO a0 9 < 95)) <|
      gd (iaB Z (rfO a0 9) v1) <|
      nm (piZ Z (rfO a0 9) (ix v1) (12 : Int32)) fun z21 =>
      (g_X1_init_94 a0 m_) (v1 + (1 : Int32)) z21
set_option maxHeartbeats 4000000 in
set_option maxRecDepth 100000 in
theorem u_X1_init_94 (a0 : Nat) : ∀ (m_ : Nat) (v1 : Int32) (Z : Zc), RunC 2 yX1_init cX1_init 2 (Eret cX1_init) 94 [(0, .ref a0), (1, .int v1)] [] Z (g_X1_init_94 a0 m_ v1 Z) := by
  intro m_
  induction m_ with
  | zero =>
    intro v1 Z
    rw [g_X1_init_94]
    exact c_none
  | succ m_ ih =>
    intro v1 Z
    rw [g_X1_init_94]
    refine c_iload_n dX1_init_94 1 rfl rfl ?_
    refine c_bipush (v := (18 : Int32)) dX1_init_95 rfl ?_
    refine c_icmp_ge (tgt := 114) dX1_init_97 (by decide) (fun h20 => ?_) (fun h20 => ?_)
    · exact c_return dX1_init_114
    · refine c_aload_n dX1_init_100 0 rfl rfl ?_
      refine c_getr dX1_init_101 fl_X1_34 ?_
      refine c_iload_n dX1_init_104 1 rfl rfl ?_
      refine c_bipush (v := (12 : Int32)) dX1_init_105 rfl ?_
      refine c_iast dX1_init_107 ?_
      refine c_nm (fun z21 => ?_)
      refine c_iinc (v := v1 + (1 : Int32)) (L' := [(1, .int (v1 + (1 : Int32))), (0, .ref a0)]) dX1_init_108 1 rfl rfl (by decide) rfl ?_
      refine c_goto (tgt := 94) dX1_init_111 (by decide) ?_
      exact c_pick [1, 0] rfl (ih (v1 + (1 : Int32)) z21)
def g_X1_init_92 (Z : Zc) (a0 : Nat) : Option (Zc) :=
  g_X1_init_94 a0 fu (0 : Int32) Z
set_option maxHeartbeats 4000000 in
set_option maxRecDepth 100000 in
theorem u_X1_init_92 (Z : Zc) (a0 : Nat) : RunC 2 yX1_init cX1_init 2 (Eret cX1_init) 92 [(0, .ref a0)] [] Z (g_X1_init_92 Z a0) := by
  rw [g_X1_init_92]
  refine c_iconst (v := (0 : Int32)) dX1_init_92 rfl ?_
  refine c_istore_n (L' := [(1, .int (0 : Int32)), (0, .ref a0)]) dX1_init_93 rfl (by decide) rfl ?_
  exact c_pick [1, 0] rfl (u_X1_init_94 a0 fu (0 : Int32) Z)
def g_X1_init (z : Zc) (a0 : Nat) : Option Zc :=
  gd (naB z.1 (ix (12 : Int32)) (0 + 2) && decide (0 ≤ (12 : Int32).toInt)) <|
  nm (nwZ z) fun z1 =>
  gd (pfB z1 a0 1 0 (.inl z.1) && decide (z.1 < 95)) <|
  nm (prZ z1 a0 0) fun z2 =>
  gd (naB z2.1 (ix (12 : Int32)) 0 && decide (0 ≤ (12 : Int32).toInt)) <|
  nm (nwZ z2) fun z3 =>
  gd (pfB z3 a0 1 2 (.inl z2.1) && decide (z2.1 < 95)) <|
  nm (prZ z3 a0 2) fun z4 =>
  gd (naB z4.1 (ix (12 : Int32)) 0 && decide (0 ≤ (12 : Int32).toInt)) <|
  nm (nwZ z4) fun z5 =>
  gd (pfB z5 a0 1 3 (.inl z4.1) && decide (z4.1 < 95)) <|
  nm (prZ z5 a0 3) fun z6 =>
  gd (naB z6.1 (ix (6 : Int32)) 0 && decide (0 ≤ (6 : Int32).toInt)) <|
  nm (nwZ z6) fun z7 =>
  gd (pfB z7 a0 1 5 (.inl z6.1) && decide (z6.1 < 95)) <|
  nm (prZ z7 a0 5) fun z8 =>
  gd (pfB z8 a0 1 6 (.inr false)) <|
  nm (piZ z8 a0 6 (5 : Int32)) fun z9 =>
  gd (naB z9.1 (ix (18 : Int32)) 0 && decide (0 ≤ (18 : Int32).toInt)) <|
  nm (nwZ z9) fun z10 =>
  gd (pfB z10 a0 1 8 (.inl z9.1) && decide (z9.1 < 95)) <|
  nm (prZ z10 a0 8) fun z11 =>
  gd (naB z11.1 (ix (18 : Int32)) 0 && decide (0 ≤ (18 : Int32).toInt)) <|
  nm (nwZ z11) fun z12 =>
  gd (pfB z12 a0 1 9 (.inl z11.1) && decide (z11.1 < 95)) <|
  nm (prZ z12 a0 9) fun z13 =>
  gd (naB z13.1 (ix (3 : Int32)) 0 && decide (0 ≤ (3 : Int32).toInt)) <|
  nm (nwZ z13) fun z14 =>
  gd (pfB z14 a0 1 10 (.inl z13.1) && decide (z13.1 < 95)) <|
  nm (prZ z14 a0 10) fun z15 =>
  g_X1_init_67 a0 (fun Zo => g_X1_init_92 Zo a0) fu (0 : Int32) z15
set_option maxHeartbeats 4000000 in
set_option maxRecDepth 100000 in
theorem n_X1_init (z : Zc) (a0 : Nat) : MethC 2 yX1_init cX1_init 2 [.ref a0] z (g_X1_init z a0) := by
  refine methC_of (L := [(0, .ref a0)]) (by decide +kernel) (Nat.le_of_ble_eq_true rfl) rfl ?_
  rw [g_X1_init]
  refine c_aload_n dX1_init_0 0 rfl rfl ?_
  refine c_obj dX1_init_1 co_X1_3 (by decide) (Nat.le_of_ble_eq_true rfl) ?_
  refine c_aload_n dX1_init_4 0 rfl rfl ?_
  refine c_bipush (v := (12 : Int32)) dX1_init_5 rfl ?_
  refine c_newq (kd := 0) dX1_init_7 lk_X1_9 (fun _ h => h.1) kd_5 ?_
  refine c_nm (fun z1 => ?_)
  refine c_putr dX1_init_10 ff_X1_11 rfl ?_
  refine c_nm (fun z2 => ?_)
  refine c_aload_n dX1_init_13 0 rfl rfl ?_
  refine c_bipush (v := (12 : Int32)) dX1_init_14 rfl ?_
  refine c_newi dX1_init_16 ?_
  refine c_nm (fun z3 => ?_)
  refine c_putr dX1_init_18 ff_X1_17 rfl ?_
  refine c_nm (fun z4 => ?_)
  refine c_aload_n dX1_init_21 0 rfl rfl ?_
  refine c_bipush (v := (12 : Int32)) dX1_init_22 rfl ?_
  refine c_newi dX1_init_24 ?_
  refine c_nm (fun z5 => ?_)
  refine c_putr dX1_init_26 ff_X1_21 rfl ?_
  refine c_nm (fun z6 => ?_)
  refine c_aload_n dX1_init_29 0 rfl rfl ?_
  refine c_bipush (v := (6 : Int32)) dX1_init_30 rfl ?_
  refine c_newi dX1_init_32 ?_
  refine c_nm (fun z7 => ?_)
  refine c_putr dX1_init_34 ff_X1_24 rfl ?_
  refine c_nm (fun z8 => ?_)
  refine c_aload_n dX1_init_37 0 rfl rfl ?_
  refine c_iconst (v := (5 : Int32)) dX1_init_38 rfl ?_
  refine c_puti (ty := .int) dX1_init_39 fp_X1_27 (nar_i _) (fit_i _) ?_
  refine c_nm (fun z9 => ?_)
  refine c_aload_n dX1_init_42 0 rfl rfl ?_
  refine c_bipush (v := (18 : Int32)) dX1_init_43 rfl ?_
  refine c_newi dX1_init_45 ?_
  refine c_nm (fun z10 => ?_)
  refine c_putr dX1_init_47 ff_X1_31 rfl ?_
  refine c_nm (fun z11 => ?_)
  refine c_aload_n dX1_init_50 0 rfl rfl ?_
  refine c_bipush (v := (18 : Int32)) dX1_init_51 rfl ?_
  refine c_newi dX1_init_53 ?_
  refine c_nm (fun z12 => ?_)
  refine c_putr dX1_init_55 ff_X1_34 rfl ?_
  refine c_nm (fun z13 => ?_)
  refine c_aload_n dX1_init_58 0 rfl rfl ?_
  refine c_iconst (v := (3 : Int32)) dX1_init_59 rfl ?_
  refine c_newi dX1_init_60 ?_
  refine c_nm (fun z14 => ?_)
  refine c_putr dX1_init_62 ff_X1_37 rfl ?_
  refine c_nm (fun z15 => ?_)
  refine c_iconst (v := (0 : Int32)) dX1_init_65 rfl ?_
  refine c_istore_n (L' := [(1, .int (0 : Int32)), (0, .ref a0)]) dX1_init_66 rfl (by decide) rfl ?_
  exact c_pick [1, 0] rfl (u_X1_init_67 a0 (fun Zo => g_X1_init_92 Zo a0) (fun Zo => c_pick [0] rfl (u_X1_init_92 Zo a0)) fu (0 : Int32) z15)
def g_X6_init_23 (a0 : Nat) : Nat → Int32 → Zc → Option (Zc)
  | 0, _, _ => none
  | m_ + 1, v1, Z =>
    if (8 : Int32) ≤ v1 then
      some Z
    else
      gd ((pfB Z a0 6 3 (.inl (rfO a0 3)) && Z.2.2.2 a0 3) && decide (rfO a0 3 < 95)) <|
      gd (nwB Z.1 5 [1, 1, 1, 1, 1, 1, 1, 1, 1]) <|
      nm (nwZ Z) fun z6 =>
      gd (decide (Z.1 < 95)) <|
      (g_X5_init z6 Z.1).bind fun z7 =>
      gd (aaB z7 (rfO a0 3) v1 Z.1 0 5) <|
      nm (prZ z7 (rfO a0 3) (ix v1)) fun z8 =>
      (g_X6_init_23 a0 m_) (v1 + (1 : Int32)) z8
set_option maxHeartbeats 4000000 in
set_option maxRecDepth 100000 in
theorem u_X6_init_23 (a0 : Nat) : ∀ (m_ : Nat) (v1 : Int32) (Z : Zc), RunC 2 yX6_init cX6_init 2 (Eret cX6_init) 23 [(0, .ref a0), (1, .int v1)] [] Z (g_X6_init_23 a0 m_ v1 Z) := by
  intro m_
  induction m_ with
  | zero =>
    intro v1 Z
    rw [g_X6_init_23]
    exact c_none
  | succ m_ ih =>
    intro v1 Z
    rw [g_X6_init_23]
    refine c_iload_n dX6_init_23 1 rfl rfl ?_
    refine c_bipush (v := (8 : Int32)) dX6_init_24 rfl ?_
    refine c_icmp_ge (tgt := 48) dX6_init_26 (by decide) (fun h5 => ?_) (fun h5 => ?_)
    · exact c_return dX6_init_48
    · refine c_aload_n dX6_init_29 0 rfl rfl ?_
      refine c_getr dX6_init_30 fl_X6_17 ?_
      refine c_iload_n dX6_init_33 1 rfl rfl ?_
      refine c_new dX6_init_34 nw_X6_15 ?_
      refine c_nm (fun z6 => ?_)
      refine c_dup dX6_init_37 rfl ?_
      refine c_callJ dX6_init_38 ci_X6_21 (n_X5_init z6 Z.1) (by decide) (Nat.le_of_ble_eq_true rfl) (fun z7 _ => ?_)
      refine c_aast (kd := 0) (ci := 5) dX6_init_41 rfl kd_5 ?_
      refine c_nm (fun z8 => ?_)
      refine c_iinc (v := v1 + (1 : Int32)) (L' := [(1, .int (v1 + (1 : Int32))), (0, .ref a0)]) dX6_init_42 1 rfl rfl (by decide) rfl ?_
      refine c_goto (tgt := 23) dX6_init_45 (by decide) ?_
      exact c_pick [1, 0] rfl (ih (v1 + (1 : Int32)) z8)
def g_X6_init (z : Zc) (a0 : Nat) : Option Zc :=
  gd (naB z.1 (ix (80 : Int32)) 0 && decide (0 ≤ (80 : Int32).toInt)) <|
  nm (nwZ z) fun z1 =>
  gd (pfB z1 a0 6 0 (.inl z.1) && decide (z.1 < 95)) <|
  nm (prZ z1 a0 0) fun z2 =>
  gd (naB z2.1 (ix (8 : Int32)) (0 + 2) && decide (0 ≤ (8 : Int32).toInt)) <|
  nm (nwZ z2) fun z3 =>
  gd (pfB z3 a0 6 3 (.inl z2.1) && decide (z2.1 < 95)) <|
  nm (prZ z3 a0 3) fun z4 =>
  g_X6_init_23 a0 fu (0 : Int32) z4
set_option maxHeartbeats 4000000 in
set_option maxRecDepth 100000 in
theorem n_X6_init (z : Zc) (a0 : Nat) : MethC 2 yX6_init cX6_init 2 [.ref a0] z (g_X6_init z a0) := by
  refine methC_of (L := [(0, .ref a0)]) (by decide +kernel) (Nat.le_of_ble_eq_true rfl) rfl ?_
  rw [g_X6_init]
  refine c_aload_n dX6_init_0 0 rfl rfl ?_
  refine c_obj dX6_init_1 co_X6_3 (by decide) (Nat.le_of_ble_eq_true rfl) ?_
  refine c_aload_n dX6_init_4 0 rfl rfl ?_
  refine c_bipush (v := (80 : Int32)) dX6_init_5 rfl ?_
  refine c_newi dX6_init_7 ?_
  refine c_nm (fun z1 => ?_)
  refine c_putr dX6_init_9 ff_X6_11 rfl ?_
  refine c_nm (fun z2 => ?_)
  refine c_aload_n dX6_init_12 0 rfl rfl ?_
  refine c_bipush (v := (8 : Int32)) dX6_init_13 rfl ?_
  refine c_newq (kd := 0) dX6_init_15 lk_X6_15 (fun _ h => h.1) kd_5 ?_
  refine c_nm (fun z3 => ?_)
  refine c_putr dX6_init_18 ff_X6_17 rfl ?_
  refine c_nm (fun z4 => ?_)
  refine c_iconst (v := (0 : Int32)) dX6_init_21 rfl ?_
  refine c_istore_n (L' := [(1, .int (0 : Int32)), (0, .ref a0)]) dX6_init_22 rfl (by decide) rfl ?_
  exact c_pick [1, 0] rfl (u_X6_init_23 a0 fu (0 : Int32) z4)
def g_X9_init_113 (a0 : Nat) : Nat → Int32 → Zc → Option (Zc)
  | 0, _, _ => none
  | m_ + 1, v1, Z =>
    if (4 : Int32) ≤ v1 then
      some Z
    else
      gd ((pfB Z a0 9 10 (.inl (rfO a0 10)) && Z.2.2.2 a0 10) && decide (rfO a0 10 < 95)) <|
      gd (nwB Z.1 4 [0, 1, 1]) <|
      nm (nwZ Z) fun z31 =>
      gd (decide (Z.1 < 95)) <|
      (g_X4_init z31 Z.1).bind fun z32 =>
      gd (aaB z32 (rfO a0 10) v1 Z.1 1 4) <|
      nm (prZ z32 (rfO a0 10) (ix v1)) fun z33 =>
      (g_X9_init_113 a0 m_) (v1 + (1 : Int32)) z33
set_option maxHeartbeats 4000000 in
set_option maxRecDepth 100000 in
theorem u_X9_init_113 (a0 : Nat) : ∀ (m_ : Nat) (v1 : Int32) (Z : Zc), RunC 3 yX9_init cX9_init 2 (Eret cX9_init) 113 [(0, .ref a0), (1, .int v1)] [] Z (g_X9_init_113 a0 m_ v1 Z) := by
  intro m_
  induction m_ with
  | zero =>
    intro v1 Z
    rw [g_X9_init_113]
    exact c_none
  | succ m_ ih =>
    intro v1 Z
    rw [g_X9_init_113]
    refine c_iload_n dX9_init_113 1 rfl rfl ?_
    refine c_iconst (v := (4 : Int32)) dX9_init_114 rfl ?_
    refine c_icmp_ge (tgt := 137) dX9_init_115 (by decide) (fun h30 => ?_) (fun h30 => ?_)
    · exact c_return dX9_init_137
    · refine c_aload_n dX9_init_118 0 rfl rfl ?_
      refine c_getr dX9_init_119 fl_X9_70 ?_
      refine c_iload_n dX9_init_122 1 rfl rfl ?_
      refine c_new dX9_init_123 nw_X9_68 ?_
      refine c_nm (fun z31 => ?_)
      refine c_dup dX9_init_126 rfl ?_
      refine c_callJ dX9_init_127 ci_X9_74 (n_X4_init z31 Z.1) (by decide) (Nat.le_of_ble_eq_true rfl) (fun z32 _ => ?_)
      refine c_aast (kd := 1) (ci := 4) dX9_init_130 rfl kd_4 ?_
      refine c_nm (fun z33 => ?_)
      refine c_iinc (v := v1 + (1 : Int32)) (L' := [(1, .int (v1 + (1 : Int32))), (0, .ref a0)]) dX9_init_131 1 rfl rfl (by decide) rfl ?_
      refine c_goto (tgt := 113) dX9_init_134 (by decide) ?_
      exact c_pick [1, 0] rfl (ih (v1 + (1 : Int32)) z33)
def g_X9_init (z : Zc) (a0 : Nat) : Option Zc :=
  gd (nwB z.1 1 [0, 1, 0, 0, 1, 0, 1, 1, 0, 0, 0]) <|
  nm (nwZ z) fun z1 =>
  gd (decide (z.1 < 95)) <|
  (g_X1_init z1 z.1).bind fun z2 =>
  gd (pfB z2 a0 9 0 (.inl z.1) && decide (z.1 < 95)) <|
  nm (prZ z2 a0 0) fun z3 =>
  gd (nwB z3.1 1 [0, 1, 0, 0, 1, 0, 1, 1, 0, 0, 0]) <|
  nm (nwZ z3) fun z4 =>
  gd (decide (z3.1 < 95)) <|
  (g_X1_init z4 z3.1).bind fun z5 =>
  gd (pfB z5 a0 9 1 (.inl z3.1) && decide (z3.1 < 95)) <|
  nm (prZ z5 a0 1) fun z6 =>
  gd (nwB z6.1 6 [0, 1, 1, 0]) <|
  nm (nwZ z6) fun z7 =>
  gd (decide (z6.1 < 95)) <|
  (g_X6_init z7 z6.1).bind fun z8 =>
  gd (pfB z8 a0 9 3 (.inl z6.1) && decide (z6.1 < 95)) <|
  nm (prZ z8 a0 3) fun z9 =>
  gd (nwB z9.1 5 [1, 1, 1, 1, 1, 1, 1, 1, 1]) <|
  nm (nwZ z9) fun z10 =>
  gd (decide (z9.1 < 95)) <|
  (g_X5_init z10 z9.1).bind fun z11 =>
  gd (pfB z11 a0 9 4 (.inl z9.1) && decide (z9.1 < 95)) <|
  nm (prZ z11 a0 4) fun z12 =>
  gd (nwB z12.1 3 [0, 0, 0, 1, 1]) <|
  nm (nwZ z12) fun z13 =>
  gd (decide (z12.1 < 95)) <|
  (g_X3_init z13 z12.1).bind fun z14 =>
  gd (pfB z14 a0 9 5 (.inl z12.1) && decide (z12.1 < 95)) <|
  nm (prZ z14 a0 5) fun z15 =>
  gd (nwB z15.1 8 [0, 0, 2, 1]) <|
  nm (nwZ z15) fun z16 =>
  gd (decide (z15.1 < 95)) <|
  (g_X8_init z16 z15.1).bind fun z17 =>
  gd (pfB z17 a0 9 6 (.inl z15.1) && decide (z15.1 < 95)) <|
  nm (prZ z17 a0 6) fun z18 =>
  gd (nwB z18.1 0 [0, 1]) <|
  nm (nwZ z18) fun z19 =>
  gd (decide (z18.1 < 95)) <|
  (g_X0_init z19 z18.1).bind fun z20 =>
  gd (pfB z20 a0 9 7 (.inl z18.1) && decide (z18.1 < 95)) <|
  nm (prZ z20 a0 7) fun z21 =>
  gd (nwB z21.1 2 [0]) <|
  nm (nwZ z21) fun z22 =>
  gd (decide (z21.1 < 95)) <|
  (g_X2_init z22 z21.1).bind fun z23 =>
  gd (pfB z23 a0 9 8 (.inl z21.1) && decide (z21.1 < 95)) <|
  nm (prZ z23 a0 8) fun z24 =>
  gd (nwB z24.1 7 [0, 0, 0, 0]) <|
  nm (nwZ z24) fun z25 =>
  gd (decide (z24.1 < 95)) <|
  (g_X7_init z25 z24.1).bind fun z26 =>
  gd (pfB z26 a0 9 9 (.inl z24.1) && decide (z24.1 < 95)) <|
  nm (prZ z26 a0 9) fun z27 =>
  gd (naB z27.1 (ix (4 : Int32)) (1 + 2) && decide (0 ≤ (4 : Int32).toInt)) <|
  nm (nwZ z27) fun z28 =>
  gd (pfB z28 a0 9 10 (.inl z27.1) && decide (z27.1 < 95)) <|
  nm (prZ z28 a0 10) fun z29 =>
  g_X9_init_113 a0 fu (0 : Int32) z29
set_option maxHeartbeats 4000000 in
set_option maxRecDepth 100000 in
theorem n_X9_init (z : Zc) (a0 : Nat) : MethC 3 yX9_init cX9_init 2 [.ref a0] z (g_X9_init z a0) := by
  refine methC_of (L := [(0, .ref a0)]) (by decide +kernel) (Nat.le_of_ble_eq_true rfl) rfl ?_
  rw [g_X9_init]
  refine c_aload_n dX9_init_0 0 rfl rfl ?_
  refine c_obj dX9_init_1 co_X9_1 (by decide) (Nat.le_of_ble_eq_true rfl) ?_
  refine c_aload_n dX9_init_4 0 rfl rfl ?_
  refine c_new dX9_init_5 nw_X9_7 ?_
  refine c_nm (fun z1 => ?_)
  refine c_dup dX9_init_8 rfl ?_
  refine c_callI dX9_init_9 ci_X9_9 (n_X1_init z1 z.1) (by decide) (Nat.le_of_ble_eq_true rfl) (fun z2 _ => ?_)
  refine c_putr dX9_init_12 ff_X9_10 rfl ?_
  refine c_nm (fun z3 => ?_)
  refine c_aload_n dX9_init_15 0 rfl rfl ?_
  refine c_new dX9_init_16 nw_X9_7 ?_
  refine c_nm (fun z4 => ?_)
  refine c_dup dX9_init_19 rfl ?_
  refine c_callI dX9_init_20 ci_X9_9 (n_X1_init z4 z3.1) (by decide) (Nat.le_of_ble_eq_true rfl) (fun z5 _ => ?_)
  refine c_putr dX9_init_23 ff_X9_16 rfl ?_
  refine c_nm (fun z6 => ?_)
  refine c_aload_n dX9_init_26 0 rfl rfl ?_
  refine c_new dX9_init_27 nw_X9_19 ?_
  refine c_nm (fun z7 => ?_)
  refine c_dup dX9_init_30 rfl ?_
  refine c_callI dX9_init_31 ci_X9_21 (n_X6_init z7 z6.1) (by decide) (Nat.le_of_ble_eq_true rfl) (fun z8 _ => ?_)
  refine c_putr dX9_init_34 ff_X9_22 rfl ?_
  refine c_nm (fun z9 => ?_)
  refine c_aload_n dX9_init_37 0 rfl rfl ?_
  refine c_new dX9_init_38 nw_X9_26 ?_
  refine c_nm (fun z10 => ?_)
  refine c_dup dX9_init_41 rfl ?_
  refine c_callJ dX9_init_42 ci_X9_28 (n_X5_init z10 z9.1) (by decide) (Nat.le_of_ble_eq_true rfl) (fun z11 _ => ?_)
  refine c_putr dX9_init_45 ff_X9_29 rfl ?_
  refine c_nm (fun z12 => ?_)
  refine c_aload_n dX9_init_48 0 rfl rfl ?_
  refine c_new dX9_init_49 nw_X9_33 ?_
  refine c_nm (fun z13 => ?_)
  refine c_dup dX9_init_52 rfl ?_
  refine c_callJ dX9_init_53 ci_X9_35 (n_X3_init z13 z12.1) (by decide) (Nat.le_of_ble_eq_true rfl) (fun z14 _ => ?_)
  refine c_putr dX9_init_56 ff_X9_36 rfl ?_
  refine c_nm (fun z15 => ?_)
  refine c_aload_n dX9_init_59 0 rfl rfl ?_
  refine c_new dX9_init_60 nw_X9_40 ?_
  refine c_nm (fun z16 => ?_)
  refine c_dup dX9_init_63 rfl ?_
  refine c_callJ dX9_init_64 ci_X9_42 (n_X8_init z16 z15.1) (by decide) (Nat.le_of_ble_eq_true rfl) (fun z17 _ => ?_)
  refine c_putr dX9_init_67 ff_X9_43 rfl ?_
  refine c_nm (fun z18 => ?_)
  refine c_aload_n dX9_init_70 0 rfl rfl ?_
  refine c_new dX9_init_71 nw_X9_47 ?_
  refine c_nm (fun z19 => ?_)
  refine c_dup dX9_init_74 rfl ?_
  refine c_callJ dX9_init_75 ci_X9_49 (n_X0_init z19 z18.1) (by decide) (Nat.le_of_ble_eq_true rfl) (fun z20 _ => ?_)
  refine c_putr dX9_init_78 ff_X9_50 rfl ?_
  refine c_nm (fun z21 => ?_)
  refine c_aload_n dX9_init_81 0 rfl rfl ?_
  refine c_new dX9_init_82 nw_X9_54 ?_
  refine c_nm (fun z22 => ?_)
  refine c_dup dX9_init_85 rfl ?_
  refine c_callJ dX9_init_86 ci_X9_56 (n_X2_init z22 z21.1) (by decide) (Nat.le_of_ble_eq_true rfl) (fun z23 _ => ?_)
  refine c_putr dX9_init_89 ff_X9_57 rfl ?_
  refine c_nm (fun z24 => ?_)
  refine c_aload_n dX9_init_92 0 rfl rfl ?_
  refine c_new dX9_init_93 nw_X9_61 ?_
  refine c_nm (fun z25 => ?_)
  refine c_dup dX9_init_96 rfl ?_
  refine c_callJ dX9_init_97 ci_X9_63 (n_X7_init z25 z24.1) (by decide) (Nat.le_of_ble_eq_true rfl) (fun z26 _ => ?_)
  refine c_putr dX9_init_100 ff_X9_64 rfl ?_
  refine c_nm (fun z27 => ?_)
  refine c_aload_n dX9_init_103 0 rfl rfl ?_
  refine c_iconst (v := (4 : Int32)) dX9_init_104 rfl ?_
  refine c_newq (kd := 1) dX9_init_105 lk_X9_68 (fun _ h => h.2) kd_4 ?_
  refine c_nm (fun z28 => ?_)
  refine c_putr dX9_init_108 ff_X9_70 rfl ?_
  refine c_nm (fun z29 => ?_)
  refine c_iconst (v := (0 : Int32)) dX9_init_111 rfl ?_
  refine c_istore_n (L' := [(1, .int (0 : Int32)), (0, .ref a0)]) dX9_init_112 rfl (by decide) rfl ?_
  exact c_pick [1, 0] rfl (u_X9_init_113 a0 fu (0 : Int32) z29)
def g_X10_init_136 (a0 : Nat) (ke154 : Zc → Option (Zc)) : Nat → Int32 → Zc → Option (Zc)
  | 0, _, _ => none
  | m_ + 1, v1, Z =>
    if (4 : Int32) ≤ v1 then
      ke154 Z
    else
      gd ((pfB Z a0 10 17 (.inl (rfO a0 17)) && Z.2.2.2 a0 17) && decide (rfO a0 17 < 95)) <|
      gd (iaB Z (rfO a0 17) v1) <|
      nm (piZ Z (rfO a0 17) (ix v1) (-1 : Int32)) fun z34 =>
      (g_X10_init_136 a0 ke154 m_) (v1 + (1 : Int32)) z34
set_option maxHeartbeats 4000000 in
set_option maxRecDepth 100000 in
theorem u_X10_init_136 (a0 : Nat) (ke154 : Zc → Option (Zc)) (hke154 : ∀ (Z' : Zc), RunC 1 yX10_init cX10_init 2 (Eret cX10_init) 154 [(0, .ref a0)] [] Z' (ke154 Z')) : ∀ (m_ : Nat) (v1 : Int32) (Z : Zc), RunC 1 yX10_init cX10_init 2 (Eret cX10_init) 136 [(0, .ref a0), (1, .int v1)] [] Z (g_X10_init_136 a0 ke154 m_ v1 Z) := by
  intro m_
  induction m_ with
  | zero =>
    intro v1 Z
    rw [g_X10_init_136]
    exact c_none
  | succ m_ ih =>
    intro v1 Z
    rw [g_X10_init_136]
    refine c_iload_n dX10_init_136 1 rfl rfl ?_
    refine c_iconst (v := (4 : Int32)) dX10_init_137 rfl ?_
    refine c_icmp_ge (tgt := 154) dX10_init_138 (by decide) (fun h33 => ?_) (fun h33 => ?_)
    · exact c_pick [0] rfl (hke154 Z)
    · refine c_aload_n dX10_init_141 0 rfl rfl ?_
      refine c_getr dX10_init_142 fl_X10_50 ?_
      refine c_iload_n dX10_init_145 1 rfl rfl ?_
      refine c_iconst (v := (-1 : Int32)) dX10_init_146 rfl ?_
      refine c_iast dX10_init_147 ?_
      refine c_nm (fun z34 => ?_)
      refine c_iinc (v := v1 + (1 : Int32)) (L' := [(1, .int (v1 + (1 : Int32))), (0, .ref a0)]) dX10_init_148 1 rfl rfl (by decide) rfl ?_
      refine c_goto (tgt := 136) dX10_init_151 (by decide) ?_
      exact c_pick [1, 0] rfl (ih (v1 + (1 : Int32)) z34)
def g_X10_init_163 (a0 : Nat) : Nat → Int32 → Zc → Option (Zc)
  | 0, _, _ => none
  | m_ + 1, v1, Z =>
    if (18 : Int32) ≤ v1 then
      some Z
    else
      gd ((pfB Z a0 10 0 (.inl (rfO a0 0)) && Z.2.2.2 a0 0) && decide (rfO a0 0 < 95)) <|
      gd (iaB Z (rfO a0 0) (((169 : Int32) + ((2 : Int32) * v1)) + (1 : Int32))) <|
      nm (piZ Z (rfO a0 0) (ix (((169 : Int32) + ((2 : Int32) * v1)) + (1 : Int32))) (12 : Int32)) fun z37 =>
      (g_X10_init_163 a0 m_) (v1 + (1 : Int32)) z37
set_option maxHeartbeats 4000000 in
set_option maxRecDepth 100000 in
theorem u_X10_init_163 (a0 : Nat) : ∀ (m_ : Nat) (v1 : Int32) (Z : Zc), RunC 1 yX10_init cX10_init 2 (Eret cX10_init) 163 [(0, .ref a0), (1, .int v1)] [] Z (g_X10_init_163 a0 m_ v1 Z) := by
  intro m_
  induction m_ with
  | zero =>
    intro v1 Z
    rw [g_X10_init_163]
    exact c_none
  | succ m_ ih =>
    intro v1 Z
    rw [g_X10_init_163]
    refine c_iload_n dX10_init_163 1 rfl rfl ?_
    refine c_bipush (v := (18 : Int32)) dX10_init_164 rfl ?_
    refine c_icmp_ge (tgt := 191) dX10_init_166 (by decide) (fun h36 => ?_) (fun h36 => ?_)
    · exact c_return dX10_init_191
    · refine c_aload_n dX10_init_169 0 rfl rfl ?_
      refine c_getr dX10_init_170 fl_X10_7 ?_
      refine c_sipush (v := (169 : Int32)) dX10_init_173 rfl ?_
      refine c_iconst (v := (2 : Int32)) dX10_init_176 rfl ?_
      refine c_iload_n dX10_init_177 1 rfl rfl ?_
      refine c_imul dX10_init_178 ?_
      refine c_iadd dX10_init_179 ?_
      refine c_iconst (v := (1 : Int32)) dX10_init_180 rfl ?_
      refine c_iadd dX10_init_181 ?_
      refine c_bipush (v := (12 : Int32)) dX10_init_182 rfl ?_
      refine c_iast dX10_init_184 ?_
      refine c_nm (fun z37 => ?_)
      refine c_iinc (v := v1 + (1 : Int32)) (L' := [(1, .int (v1 + (1 : Int32))), (0, .ref a0)]) dX10_init_185 1 rfl rfl (by decide) rfl ?_
      refine c_goto (tgt := 163) dX10_init_188 (by decide) ?_
      exact c_pick [1, 0] rfl (ih (v1 + (1 : Int32)) z37)
def g_X10_init_154 (Z : Zc) (a0 : Nat) : Option (Zc) :=
  gd ((pfB Z a0 10 0 (.inl (rfO a0 0)) && Z.2.2.2 a0 0) && decide (rfO a0 0 < 95)) <|
  gd (iaB Z (rfO a0 0) (2 : Int32)) <|
  nm (piZ Z (rfO a0 0) (ix (2 : Int32)) (5 : Int32)) fun z35 =>
  g_X10_init_163 a0 fu (0 : Int32) z35
set_option maxHeartbeats 4000000 in
set_option maxRecDepth 100000 in
theorem u_X10_init_154 (Z : Zc) (a0 : Nat) : RunC 1 yX10_init cX10_init 2 (Eret cX10_init) 154 [(0, .ref a0)] [] Z (g_X10_init_154 Z a0) := by
  rw [g_X10_init_154]
  refine c_aload_n dX10_init_154 0 rfl rfl ?_
  refine c_getr dX10_init_155 fl_X10_7 ?_
  refine c_iconst (v := (2 : Int32)) dX10_init_158 rfl ?_
  refine c_iconst (v := (5 : Int32)) dX10_init_159 rfl ?_
  refine c_iast dX10_init_160 ?_
  refine c_nm (fun z35 => ?_)
  refine c_iconst (v := (0 : Int32)) dX10_init_161 rfl ?_
  refine c_istore_n (L' := [(1, .int (0 : Int32)), (0, .ref a0)]) dX10_init_162 rfl (by decide) rfl ?_
  exact c_pick [1, 0] rfl (u_X10_init_163 a0 fu (0 : Int32) z35)
def g_X10_init (z : Zc) (a0 : Nat) : Option Zc :=
  gd (naB z.1 (ix (205 : Int32)) 0 && decide (0 ≤ (205 : Int32).toInt)) <|
  nm (nwZ z) fun z1 =>
  gd (pfB z1 a0 10 0 (.inl z.1) && decide (z.1 < 95)) <|
  nm (prZ z1 a0 0) fun z2 =>
  gd (naB z2.1 (ix (80 : Int32)) 0 && decide (0 ≤ (80 : Int32).toInt)) <|
  nm (nwZ z2) fun z3 =>
  gd (pfB z3 a0 10 1 (.inl z2.1) && decide (z2.1 < 95)) <|
  nm (prZ z3 a0 1) fun z4 =>
  gd (naB z4.1 (ix (40 : Int32)) 0 && decide (0 ≤ (40 : Int32).toInt)) <|
  nm (nwZ z4) fun z5 =>
  gd (pfB z5 a0 10 5 (.inl z4.1) && decide (z4.1 < 95)) <|
  nm (prZ z5 a0 5) fun z6 =>
  gd (naB z6.1 (ix (4096 : Int32)) 0 && decide (0 ≤ (4096 : Int32).toInt)) <|
  nm (nwZ z6) fun z7 =>
  gd (pfB z7 a0 10 6 (.inl z6.1) && decide (z6.1 < 95)) <|
  nm (prZ z7 a0 6) fun z8 =>
  gd (naB z8.1 (ix (12 : Int32)) 0 && decide (0 ≤ (12 : Int32).toInt)) <|
  nm (nwZ z8) fun z9 =>
  gd (pfB z9 a0 10 7 (.inl z8.1) && decide (z8.1 < 95)) <|
  nm (prZ z9 a0 7) fun z10 =>
  gd (naB z10.1 (ix (9 : Int32)) 1 && decide (0 ≤ (9 : Int32).toInt)) <|
  nm (nwZ z10) fun z11 =>
  gd (pfB z11 a0 10 8 (.inl z10.1) && decide (z10.1 < 95)) <|
  nm (prZ z11 a0 8) fun z12 =>
  gd (naB z12.1 (ix (9 : Int32)) 1 && decide (0 ≤ (9 : Int32).toInt)) <|
  nm (nwZ z12) fun z13 =>
  gd (pfB z13 a0 10 9 (.inl z12.1) && decide (z12.1 < 95)) <|
  nm (prZ z13 a0 9) fun z14 =>
  gd (naB z14.1 (ix (13 : Int32)) 0 && decide (0 ≤ (13 : Int32).toInt)) <|
  nm (nwZ z14) fun z15 =>
  gd (pfB z15 a0 10 10 (.inl z14.1) && decide (z14.1 < 95)) <|
  nm (prZ z15 a0 10) fun z16 =>
  gd (naB z16.1 (ix (13 : Int32)) 0 && decide (0 ≤ (13 : Int32).toInt)) <|
  nm (nwZ z16) fun z17 =>
  gd (pfB z17 a0 10 11 (.inl z16.1) && decide (z16.1 < 95)) <|
  nm (prZ z17 a0 11) fun z18 =>
  gd (naB z18.1 (ix (169 : Int32)) 1 && decide (0 ≤ (169 : Int32).toInt)) <|
  nm (nwZ z18) fun z19 =>
  gd (pfB z19 a0 10 12 (.inl z18.1) && decide (z18.1 < 95)) <|
  nm (prZ z19 a0 12) fun z20 =>
  gd (naB z20.1 (ix (169 : Int32)) 1 && decide (0 ≤ (169 : Int32).toInt)) <|
  nm (nwZ z20) fun z21 =>
  gd (pfB z21 a0 10 13 (.inl z20.1) && decide (z20.1 < 95)) <|
  nm (prZ z21 a0 13) fun z22 =>
  gd (naB z22.1 (ix (5 : Int32)) 0 && decide (0 ≤ (5 : Int32).toInt)) <|
  nm (nwZ z22) fun z23 =>
  gd (pfB z23 a0 10 14 (.inl z22.1) && decide (z22.1 < 95)) <|
  nm (prZ z23 a0 14) fun z24 =>
  gd (naB z24.1 (ix (205 : Int32)) 0 && decide (0 ≤ (205 : Int32).toInt)) <|
  nm (nwZ z24) fun z25 =>
  gd (pfB z25 a0 10 16 (.inl z24.1) && decide (z24.1 < 95)) <|
  nm (prZ z25 a0 16) fun z26 =>
  gd (naB z26.1 (ix (4 : Int32)) 0 && decide (0 ≤ (4 : Int32).toInt)) <|
  nm (nwZ z26) fun z27 =>
  gd (pfB z27 a0 10 17 (.inl z26.1) && decide (z26.1 < 95)) <|
  nm (prZ z27 a0 17) fun z28 =>
  gd (naB z28.1 (ix (4 : Int32)) 0 && decide (0 ≤ (4 : Int32).toInt)) <|
  nm (nwZ z28) fun z29 =>
  gd (pfB z29 a0 10 18 (.inl z28.1) && decide (z28.1 < 95)) <|
  nm (prZ z29 a0 18) fun z30 =>
  gd (naB z30.1 (ix (64 : Int32)) 0 && decide (0 ≤ (64 : Int32).toInt)) <|
  nm (nwZ z30) fun z31 =>
  gd (pfB z31 a0 10 19 (.inl z30.1) && decide (z30.1 < 95)) <|
  nm (prZ z31 a0 19) fun z32 =>
  g_X10_init_136 a0 (fun Zo => g_X10_init_154 Zo a0) fu (0 : Int32) z32
set_option maxHeartbeats 4000000 in
set_option maxRecDepth 100000 in
theorem n_X10_init (z : Zc) (a0 : Nat) : MethC 1 yX10_init cX10_init 2 [.ref a0] z (g_X10_init z a0) := by
  refine methC_of (L := [(0, .ref a0)]) (by decide +kernel) (Nat.le_of_ble_eq_true rfl) rfl ?_
  rw [g_X10_init]
  refine c_aload_n dX10_init_0 0 rfl rfl ?_
  refine c_obj dX10_init_1 co_X10_1 (by decide) (Nat.le_of_ble_eq_true rfl) ?_
  refine c_aload_n dX10_init_4 0 rfl rfl ?_
  refine c_sipush (v := (205 : Int32)) dX10_init_5 rfl ?_
  refine c_newi dX10_init_8 ?_
  refine c_nm (fun z1 => ?_)
  refine c_putr dX10_init_10 ff_X10_7 rfl ?_
  refine c_nm (fun z2 => ?_)
  refine c_aload_n dX10_init_13 0 rfl rfl ?_
  refine c_bipush (v := (80 : Int32)) dX10_init_14 rfl ?_
  refine c_newi dX10_init_16 ?_
  refine c_nm (fun z3 => ?_)
  refine c_putr dX10_init_18 ff_X10_13 rfl ?_
  refine c_nm (fun z4 => ?_)
  refine c_aload_n dX10_init_21 0 rfl rfl ?_
  refine c_bipush (v := (40 : Int32)) dX10_init_22 rfl ?_
  refine c_newi dX10_init_24 ?_
  refine c_nm (fun z5 => ?_)
  refine c_putr dX10_init_26 ff_X10_16 rfl ?_
  refine c_nm (fun z6 => ?_)
  refine c_aload_n dX10_init_29 0 rfl rfl ?_
  refine c_sipush (v := (4096 : Int32)) dX10_init_30 rfl ?_
  refine c_newi dX10_init_33 ?_
  refine c_nm (fun z7 => ?_)
  refine c_putr dX10_init_35 ff_X10_19 rfl ?_
  refine c_nm (fun z8 => ?_)
  refine c_aload_n dX10_init_38 0 rfl rfl ?_
  refine c_bipush (v := (12 : Int32)) dX10_init_39 rfl ?_
  refine c_newi dX10_init_41 ?_
  refine c_nm (fun z9 => ?_)
  refine c_putr dX10_init_43 ff_X10_22 rfl ?_
  refine c_nm (fun z10 => ?_)
  refine c_aload_n dX10_init_46 0 rfl rfl ?_
  refine c_bipush (v := (9 : Int32)) dX10_init_47 rfl ?_
  refine c_newl dX10_init_49 ?_
  refine c_nm (fun z11 => ?_)
  refine c_putr dX10_init_51 ff_X10_25 rfl ?_
  refine c_nm (fun z12 => ?_)
  refine c_aload_n dX10_init_54 0 rfl rfl ?_
  refine c_bipush (v := (9 : Int32)) dX10_init_55 rfl ?_
  refine c_newl dX10_init_57 ?_
  refine c_nm (fun z13 => ?_)
  refine c_putr dX10_init_59 ff_X10_29 rfl ?_
  refine c_nm (fun z14 => ?_)
  refine c_aload_n dX10_init_62 0 rfl rfl ?_
  refine c_bipush (v := (13 : Int32)) dX10_init_63 rfl ?_
  refine c_newi dX10_init_65 ?_
  refine c_nm (fun z15 => ?_)
  refine c_putr dX10_init_67 ff_X10_32 rfl ?_
  refine c_nm (fun z16 => ?_)
  refine c_aload_n dX10_init_70 0 rfl rfl ?_
  refine c_bipush (v := (13 : Int32)) dX10_init_71 rfl ?_
  refine c_newi dX10_init_73 ?_
  refine c_nm (fun z17 => ?_)
  refine c_putr dX10_init_75 ff_X10_35 rfl ?_
  refine c_nm (fun z18 => ?_)
  refine c_aload_n dX10_init_78 0 rfl rfl ?_
  refine c_sipush (v := (169 : Int32)) dX10_init_79 rfl ?_
  refine c_newl dX10_init_82 ?_
  refine c_nm (fun z19 => ?_)
  refine c_putr dX10_init_84 ff_X10_38 rfl ?_
  refine c_nm (fun z20 => ?_)
  refine c_aload_n dX10_init_87 0 rfl rfl ?_
  refine c_sipush (v := (169 : Int32)) dX10_init_88 rfl ?_
  refine c_newl dX10_init_91 ?_
  refine c_nm (fun z21 => ?_)
  refine c_putr dX10_init_93 ff_X10_41 rfl ?_
  refine c_nm (fun z22 => ?_)
  refine c_aload_n dX10_init_96 0 rfl rfl ?_
  refine c_iconst (v := (5 : Int32)) dX10_init_97 rfl ?_
  refine c_newi dX10_init_98 ?_
  refine c_nm (fun z23 => ?_)
  refine c_putr dX10_init_100 ff_X10_44 rfl ?_
  refine c_nm (fun z24 => ?_)
  refine c_aload_n dX10_init_103 0 rfl rfl ?_
  refine c_sipush (v := (205 : Int32)) dX10_init_104 rfl ?_
  refine c_newi dX10_init_107 ?_
  refine c_nm (fun z25 => ?_)
  refine c_putr dX10_init_109 ff_X10_47 rfl ?_
  refine c_nm (fun z26 => ?_)
  refine c_aload_n dX10_init_112 0 rfl rfl ?_
  refine c_iconst (v := (4 : Int32)) dX10_init_113 rfl ?_
  refine c_newi dX10_init_114 ?_
  refine c_nm (fun z27 => ?_)
  refine c_putr dX10_init_116 ff_X10_50 rfl ?_
  refine c_nm (fun z28 => ?_)
  refine c_aload_n dX10_init_119 0 rfl rfl ?_
  refine c_iconst (v := (4 : Int32)) dX10_init_120 rfl ?_
  refine c_newi dX10_init_121 ?_
  refine c_nm (fun z29 => ?_)
  refine c_putr dX10_init_123 ff_X10_53 rfl ?_
  refine c_nm (fun z30 => ?_)
  refine c_aload_n dX10_init_126 0 rfl rfl ?_
  refine c_bipush (v := (64 : Int32)) dX10_init_127 rfl ?_
  refine c_newi dX10_init_129 ?_
  refine c_nm (fun z31 => ?_)
  refine c_putr dX10_init_131 ff_X10_56 rfl ?_
  refine c_nm (fun z32 => ?_)
  refine c_iconst (v := (0 : Int32)) dX10_init_134 rfl ?_
  refine c_istore_n (L' := [(1, .int (0 : Int32)), (0, .ref a0)]) dX10_init_135 rfl (by decide) rfl ?_
  exact c_pick [1, 0] rfl (u_X10_init_136 a0 (fun Zo => g_X10_init_154 Zo a0) (fun Zo => c_pick [0] rfl (u_X10_init_154 Zo a0)) fu (0 : Int32) z32)
def Elaw : Nat → List (Nat × Value) → List Value → Prop := fun pc L st => pc = 16 ∧ (∃ a b : Nat, L = [(2, .ref b), (1, .ref a), (0, .ref 1000)] ∧ a = 0 ∧ b = 78) ∧ st = []
def g_law0 (z : Zc) : Option Zc :=
  gd (nwB z.1 9 [0, 0, 1, 0, 0, 0, 0, 0, 0, 0, 0]) <|
  nm (nwZ z) fun z1 =>
  gd (decide (z.1 < 95)) <|
  (g_X9_init z1 z.1).bind fun z2 =>
  gd (nwB z2.1 10 [0, 0, 1, 1, 1, 0, 0, 0, 0, 0, 0, 0, 0, 0, 0, 1, 0, 0, 0, 0]) <|
  nm (nwZ z2) fun z3 =>
  gd (decide (z2.1 < 95)) <|
  (g_X10_init z3 z2.1).bind fun z4 =>
  gd (decide (z.1 = 0 ∧ z2.1 = 78)) <|
  some z4
set_option maxHeartbeats 4000000 in
set_option maxRecDepth 100000 in
theorem n_law0 (z : Zc) : RunC 4 yL_law cL_law 4 Elaw 0 [(0, .ref 1000)] [] z (g_law0 z) := by
  rw [g_law0]
  refine c_new dL_law_0 nw_L_7 ?_
  refine c_nm (fun z1 => ?_)
  refine c_dup dL_law_3 rfl ?_
  refine c_callI dL_law_4 ci_L_9 (n_X9_init z1 z.1) (by decide) (Nat.le_of_ble_eq_true rfl) (fun z2 _ => ?_)
  refine c_astore_n (L' := [(1, .ref z.1), (0, .ref 1000)]) dL_law_7 rfl (by decide) rfl ?_
  refine c_new dL_law_8 nw_L_10 ?_
  refine c_nm (fun z3 => ?_)
  refine c_dup dL_law_11 rfl ?_
  refine c_callI dL_law_12 ci_L_12 (n_X10_init z3 z2.1) (by decide) (Nat.le_of_ble_eq_true rfl) (fun z4 _ => ?_)
  refine c_astore_n (L' := [(2, .ref z2.1), (1, .ref z.1), (0, .ref 1000)]) dL_law_15 rfl (by decide) rfl ?_
  refine c_gd (fun hg => ?_)
  have hg := of_decide_eq_true hg
  exact c_end ⟨rfl, ⟨_, _, rfl, hg.1, hg.2⟩, rfl⟩
