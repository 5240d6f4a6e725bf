def f_X3_mostGain_66 (v0 : Int32) (v2 : Int32) (v5 : Int32) (ke134 : Int32 → SI → Option (Int32 × SI)) (rc : SI → Int32 → Int32 → Int32 → Option (Int32 × SI)) : Nat → Int32 → Int32 → SI → Option (Int32 × SI)
  | 0, _, _, _ => none
  | m_ + 1, v6, v7, S =>
    if v2 ≤ v7 then
      ke134 v6 S
    else
      gd (inB ((v0 * (12 : Int32)) + v7) 144) <|
      nm (S 54 (ix ((v0 * (12 : Int32)) + v7))) fun x11 =>
      if x11 ≤ 0 then
        (f_X3_mostGain_66 v0 v2 v5 ke134 rc m_) v6 (v7 + (1 : Int32)) S
      else
        if ((v5 >>> (v7 &&& 31)) &&& (1 : Int32)) = (1 : Int32) then
          (rc S (v0 + (1 : Int32)) (v5 &&& (((1 : Int32) <<< (v7 &&& 31)) ^^^ (-1 : Int32))) v2).bind fun q14 =>
          nm (mxI v6 (x11 + q14.1)) fun x15 =>
          (f_X3_mostGain_66 v0 v2 v5 ke134 rc m_) x15 (v7 + (1 : Int32)) q14.2
        else
          (f_X3_mostGain_66 v0 v2 v5 ke134 rc m_) v6 (v7 + (1 : Int32)) S
set_option maxHeartbeats 4000000 in
set_option maxRecDepth 100000 in
theorem t_X3_mostGain_66 (d : Nat) (T : SL) (U : SI) (V : SL) (v0 : Int32) (v1 : Int32) (v2 : Int32) (v5 : Int32) (ke134 : Int32 → SI → Option (Int32 × SI)) (hke134 : ∀ (w6 : Int32) (S' : SI), Run (d + 1 + 1) yX3_mostGain cX3_mostGain 9 (some .int) none (fun a : Int32 × SI => (some (.int a.1), (a.2, T, U, V))) 134 [(1, .int v1), (4, .ref 55), (6, .int w6)] [] (S', T, U, V) (ke134 w6 S')) (rc : SI → Int32 → Int32 → Int32 → Option (Int32 × SI)) (hrc : ∀ (S : SI) (T : SL) (U : SI) (V : SL) (v0 : Int32) (v1 : Int32) (v2 : Int32), Meth (d + 1) yX3_mostGain cX3_mostGain 9 (some .int) [.int v0, .int v1, .int v2, .ref 54, .ref 55] (S, T, U, V) (rc S v0 v1 v2) (fun a : Int32 × SI => (some (.int a.1), (a.2, T, U, V)))) : ∀ (m_ : Nat) (v6 : Int32) (v7 : Int32) (S : SI), Run (d + 1 + 1) yX3_mostGain cX3_mostGain 9 (some .int) none (fun a : Int32 × SI => (some (.int a.1), (a.2, T, U, V))) 66 [(0, .int v0), (1, .int v1), (2, .int v2), (3, .ref 54), (4, .ref 55), (5, .int v5), (6, .int v6), (7, .int v7)] [] (S, T, U, V) (f_X3_mostGain_66 v0 v2 v5 ke134 rc m_ v6 v7 S) := by
  intro m_
  induction m_ with
  | zero =>
    intro v6 v7 S
    rw [f_X3_mostGain_66]
    exact r_none
  | succ m_ ih =>
    intro v6 v7 S
    rw [f_X3_mostGain_66]
    refine r_iload dX3_mostGain_66 7 rfl ?_
    refine r_iload_n dX3_mostGain_68 2 rfl rfl ?_
    refine r_icmp_ge (tgt := 134) dX3_mostGain_69 (by decide) (fun h9 => ?_) (fun h9 => ?_)
    · exact r_pick [1, 4, 6] rfl (hke134 v6 S)
    · refine r_aload_n dX3_mostGain_72 3 rfl rfl ?_
      refine r_iload_n dX3_mostGain_73 0 rfl rfl ?_
      refine r_bipush (v := (12 : Int32)) dX3_mostGain_74 rfl ?_
      refine r_imul dX3_mostGain_76 ?_
      refine r_iload dX3_mostGain_77 7 rfl ?_
      refine r_iadd dX3_mostGain_79 ?_
      refine rc_iald dX3_mostGain_80 (by decide) (by decide) rfl (fun h10 => ?_)
      refine r_nmi (fun x11 => ?_)
      refine r_istore (L' := [(8, .int x11), (0, .int v0), (1, .int v1), (2, .int v2), (3, .ref 54), (4, .ref 55), (5, .int v5), (6, .int v6), (7, .int v7)]) dX3_mostGain_81 (by decide) rfl ?_
      refine r_iload dX3_mostGain_83 0 rfl ?_
      refine r_if_le (tgt := 128) dX3_mostGain_85 (by decide) (fun h12 => ?_) (fun h12 => ?_)
      · refine r_iinc (v := v7 + (1 : Int32)) (L' := [(7, .int (v7 + (1 : Int32))), (8, .int x11), (0, .int v0), (1, .int v1), (2, .int v2), (3, .ref 54), (4, .ref 55), (5, .int v5), (6, .int v6)]) dX3_mostGain_128 8 rfl rfl (by decide) rfl ?_
        refine r_goto (tgt := 66) dX3_mostGain_131 (by decide) ?_
        exact r_pick [2, 3, 4, 5, 6, 7, 8, 0] rfl (ih v6 (v7 + (1 : Int32)) S)
      · refine r_iload dX3_mostGain_88 6 rfl ?_
        refine r_iload dX3_mostGain_90 8 rfl ?_
        refine r_ishr dX3_mostGain_92 ?_
        refine r_iconst (v := (1 : Int32)) dX3_mostGain_93 rfl ?_
        refine r_iand dX3_mostGain_94 ?_
        refine r_iconst (v := (1 : Int32)) dX3_mostGain_95 rfl ?_
        refine r_icmp_ne (tgt := 128) dX3_mostGain_96 (by decide) (fun h13 => ?_) (fun h13 => ?_)
        · refine r_iload dX3_mostGain_99 7 rfl ?_
          refine r_iload dX3_mostGain_101 0 rfl ?_
          refine r_iload_n dX3_mostGain_103 1 rfl rfl ?_
          refine r_iconst (v := (1 : Int32)) dX3_mostGain_104 rfl ?_
          refine r_iadd dX3_mostGain_105 ?_
          refine r_iload dX3_mostGain_106 6 rfl ?_
          refine r_iconst (v := (1 : Int32)) dX3_mostGain_108 rfl ?_
          refine r_iload dX3_mostGain_109 8 rfl ?_
          refine r_ishl dX3_mostGain_111 ?_
          refine r_iconst (v := (-1 : Int32)) dX3_mostGain_112 rfl ?_
          refine r_ixor dX3_mostGain_113 ?_
          refine r_iand dX3_mostGain_114 ?_
          refine r_iload_n dX3_mostGain_115 3 rfl rfl ?_
          refine r_aload_n dX3_mostGain_116 4 rfl rfl ?_
          refine r_aload dX3_mostGain_117 5 rfl ?_
          refine rSc_iS (as := [.int (v0 + (1 : Int32)), .int (v5 &&& (((1 : Int32) <<< (v7 &&& 31)) ^^^ (-1 : Int32))), .int v2, .ref 54, .ref 55]) (st := [.int x11, .int v6]) dX3_mostGain_119 cl_X3_45 (hrc S T U V (v0 + (1 : Int32)) (v5 &&& (((1 : Int32) <<< (v7 &&& 31)) ^^^ (-1 : Int32))) v2) (by omega) rfl (Nat.le_of_ble_eq_true rfl) (fun q14 _ => ?_)
          refine r_iadd dX3_mostGain_122 ?_
          refine r_mmax dX3_mostGain_123 cl_X3_49 (by omega) (Nat.le_of_ble_eq_true rfl) ?_
          refine r_nmi (fun x15 => ?_)
          refine r_istore (L' := [(6, .int x15), (8, .int x11), (0, .int v0), (1, .int v1), (2, .int v2), (3, .ref 54), (4, .ref 55), (5, .int v5), (7, .int v7)]) dX3_mostGain_126 (by decide) rfl ?_
          refine r_iinc (v := v7 + (1 : Int32)) (L' := [(7, .int (v7 + (1 : Int32))), (6, .int x15), (8, .int x11), (0, .int v0), (1, .int v1), (2, .int v2), (3, .ref 54), (4, .ref 55), (5, .int v5)]) dX3_mostGain_128 8 rfl rfl (by decide) rfl ?_
          refine r_goto (tgt := 66) dX3_mostGain_131 (by decide) ?_
          exact r_pick [3, 4, 5, 6, 7, 8, 1, 0] rfl (ih x15 (v7 + (1 : Int32)) q14.2)
        · refine r_iinc (v := v7 + (1 : Int32)) (L' := [(7, .int (v7 + (1 : Int32))), (8, .int x11), (0, .int v0), (1, .int v1), (2, .int v2), (3, .ref 54), (4, .ref 55), (5, .int v5), (6, .int v6)]) dX3_mostGain_128 8 rfl rfl (by decide) rfl ?_
          refine r_goto (tgt := 66) dX3_mostGain_131 (by decide) ?_
          exact r_pick [2, 3, 4, 5, 6, 7, 8, 0] rfl (ih v6 (v7 + (1 : Int32)) S)
def f_X3_mostGain_134 (S : SI) (v1 : Int32) (v6 : Int32) : Option (Int32 × SI) :=
  gd (inB v1 4096) <|
  nm (up2 S 55 (ix v1) v6) fun S17 =>
  some (v6, S17)
set_option maxHeartbeats 4000000 in
set_option maxRecDepth 100000 in
theorem t_X3_mostGain_134 (d : Nat) (S : SI) (T : SL) (U : SI) (V : SL) (v1 : Int32) (v6 : Int32) : Run (d + 1 + 1) yX3_mostGain cX3_mostGain 9 (some .int) none (fun a : Int32 × SI => (some (.int a.1), (a.2, T, U, V))) 134 [(1, .int v1), (4, .ref 55), (6, .int v6)] [] (S, T, U, V) (f_X3_mostGain_134 S v1 v6) := by
  rw [f_X3_mostGain_134]
  refine r_aload dX3_mostGain_134 1 rfl ?_
  refine r_iload_n dX3_mostGain_136 0 rfl rfl ?_
  refine r_iload dX3_mostGain_137 2 rfl ?_
  refine rc_iast dX3_mostGain_139 (by decide) (by decide) rfl (fun h16 => ?_)
  refine r_nmS (fun S17 => ?_)
  refine r_iload dX3_mostGain_140 2 rfl ?_
  exact r_ireturn (ty := .int) dX3_mostGain_142 rfl (nar_i _) rfl
def f_X3_mostGain : Nat → SI → Int32 → Int32 → Int32 → Option (Int32 × SI)
  | 0, _, _, _, _ => none
  | d + 1, S, v0, v1, v2 =>
    if v0 < v2 then
      nm (v1 &&& (((1 : Int32) <<< (v0 &&& 31)) ^^^ (-1 : Int32))) fun x2 =>
      if x2 = v1 then
        ((f_X3_mostGain d) S (v0 + (1 : Int32)) v1 v2).bind fun q4 =>
        some (q4.1, q4.2)
      else
        gd (inB v1 4096) <|
        if (S 55 (ix v1)) = (-1 : Int32) then
          ((f_X3_mostGain d) S (v0 + (1 : Int32)) x2 v2).bind fun q7 =>
          nm (v0 + (1 : Int32)) fun x8 =>
          f_X3_mostGain_66 v0 v2 x2 (fun o6 So => f_X3_mostGain_134 So v1 o6) (f_X3_mostGain d) fu q7.1 x8 q7.2
        else
          gd (inB v1 4096) <|
          some (S 55 (ix v1), S)
    else
      some ((0 : Int32), S)
set_option maxHeartbeats 4000000 in
set_option maxRecDepth 100000 in
theorem m_X3_mostGain : ∀ (d : Nat) (S : SI) (T : SL) (U : SI) (V : SL) (v0 : Int32) (v1 : Int32) (v2 : Int32), Meth (d + 1) yX3_mostGain cX3_mostGain 9 (some .int) [.int v0, .int v1, .int v2, .ref 54, .ref 55] (S, T, U, V) (f_X3_mostGain d S v0 v1 v2) (fun a : Int32 × SI => (some (.int a.1), (a.2, T, U, V))) := by
  intro d
  induction d with
  | zero =>
    intro S T U V v0 v1 v2 z hz
    rw [f_X3_mostGain] at hz
    exact nomatch hz
  | succ d ih =>
    intro S T U V v0 v1 v2
    refine meth_of (L := [(0, .int v0), (1, .int v1), (2, .int v2), (3, .ref 54), (4, .ref 55)]) (by decide +kernel) (Nat.le_of_ble_eq_true rfl) rfl ?_
    rw [f_X3_mostGain]
    refine r_iload_n dX3_mostGain_0 0 rfl rfl ?_
    refine r_iload_n dX3_mostGain_1 2 rfl rfl ?_
    refine r_icmp_lt (tgt := 7) dX3_mostGain_2 (by decide) (fun h1 => ?_) (fun h1 => ?_)
    · refine r_iload_n dX3_mostGain_7 1 rfl rfl ?_
      refine r_iconst (v := (1 : Int32)) dX3_mostGain_8 rfl ?_
      refine r_iload_n dX3_mostGain_9 0 rfl rfl ?_
      refine r_ishl dX3_mostGain_10 ?_
      refine r_iconst (v := (-1 : Int32)) dX3_mostGain_11 rfl ?_
      refine r_ixor dX3_mostGain_12 ?_
      refine r_iand dX3_mostGain_13 ?_
      refine r_nmi (fun x2 => ?_)
      refine r_istore (L' := [(5, .int x2), (0, .int v0), (1, .int v1), (2, .int v2), (3, .ref 54), (4, .ref 55)]) dX3_mostGain_14 (by decide) rfl ?_
      refine r_iload dX3_mostGain_16 0 rfl ?_
      refine r_iload_n dX3_mostGain_18 2 rfl rfl ?_
      refine r_icmp_ne (tgt := 34) dX3_mostGain_19 (by decide) (fun h3 => ?_) (fun h3 => ?_)
      · refine r_iload_n dX3_mostGain_22 1 rfl rfl ?_
        refine r_iconst (v := (1 : Int32)) dX3_mostGain_23 rfl ?_
        refine r_iadd dX3_mostGain_24 ?_
        refine r_iload_n dX3_mostGain_25 2 rfl rfl ?_
        refine r_iload_n dX3_mostGain_26 3 rfl rfl ?_
        refine r_aload_n dX3_mostGain_27 4 rfl rfl ?_
        refine r_aload dX3_mostGain_28 5 rfl ?_
        refine rSc_iS (as := [.int (v0 + (1 : Int32)), .int v1, .int v2, .ref 54, .ref 55]) (st := []) dX3_mostGain_30 cl_X3_45 (ih S T U V (v0 + (1 : Int32)) v1 v2) (by omega) rfl (Nat.le_of_ble_eq_true rfl) (fun q4 _ => ?_)
        exact r_ireturn (ty := .int) dX3_mostGain_33 rfl (nar_i _) rfl
      · refine r_aload dX3_mostGain_34 5 rfl ?_
        refine r_iload_n dX3_mostGain_36 2 rfl rfl ?_
        refine rc_iald dX3_mostGain_37 (by decide) (by decide) rfl (fun h5 => ?_)
        refine r_iconst (v := (-1 : Int32)) dX3_mostGain_38 rfl ?_
        refine r_icmp_eq (tgt := 47) dX3_mostGain_39 (by decide) (fun h6 => ?_) (fun h6 => ?_)
        · refine r_iload_n dX3_mostGain_47 1 rfl rfl ?_
          refine r_iconst (v := (1 : Int32)) dX3_mostGain_48 rfl ?_
          refine r_iadd dX3_mostGain_49 ?_
          refine r_iload dX3_mostGain_50 0 rfl ?_
          refine r_iload_n dX3_mostGain_52 3 rfl rfl ?_
          refine r_aload_n dX3_mostGain_53 4 rfl rfl ?_
          refine r_aload dX3_mostGain_54 5 rfl ?_
          refine rSc_iS (as := [.int (v0 + (1 : Int32)), .int x2, .int v2, .ref 54, .ref 55]) (st := []) dX3_mostGain_56 cl_X3_45 (ih S T U V (v0 + (1 : Int32)) x2 v2) (by omega) rfl (Nat.le_of_ble_eq_true rfl) (fun q7 _ => ?_)
          refine r_istore (L' := [(6, .int q7.1), (5, .int x2), (0, .int v0), (1, .int v1), (2, .int v2), (3, .ref 54), (4, .ref 55)]) dX3_mostGain_59 (by decide) rfl ?_
          refine r_iload_n dX3_mostGain_61 2 rfl rfl ?_
          refine r_iconst (v := (1 : Int32)) dX3_mostGain_62 rfl ?_
          refine r_iadd dX3_mostGain_63 ?_
          refine r_nmi (fun x8 => ?_)
          refine r_istore (L' := [(7, .int x8), (6, .int q7.1), (5, .int x2), (0, .int v0), (1, .int v1), (2, .int v2), (3, .ref 54), (4, .ref 55)]) dX3_mostGain_64 (by decide) rfl ?_
          exact r_pick [3, 4, 5, 6, 7, 2, 1, 0] rfl (t_X3_mostGain_66 d T U V v0 v1 v2 x2 (fun o6 So => f_X3_mostGain_134 So v1 o6) (fun o6 So => r_pick [0, 1, 2] rfl (t_X3_mostGain_134 d So T U V v1 o6)) (f_X3_mostGain d) ih fu q7.1 x8 q7.2)
        · refine r_aload dX3_mostGain_42 5 rfl ?_
          refine r_iload_n dX3_mostGain_44 2 rfl rfl ?_
          refine rc_iald dX3_mostGain_45 (by decide) (by decide) rfl (fun h18 => ?_)
          exact r_ireturn (ty := .int) dX3_mostGain_46 rfl (nar_i _) rfl
    · refine r_iconst (v := (0 : Int32)) dX3_mostGain_5 rfl ?_
      exact r_ireturn (ty := .int) dX3_mostGain_6 rfl (nar_i _) rfl
def f_X3_firstFellow_39 (v1 : Int32) (v3 : Int32) (v4 : Int32) (v5 : Int32) : Nat → Int32 → SI → Option (Int32 × SI)
  | 0, _, _ => none
  | m_ + 1, v6, S =>
    if v3 ≤ v6 then
      some ((-4 : Int32), S)
    else
      gd (inB ((v1 * (12 : Int32)) + v6) 144) <|
      nm (S 54 (ix ((v1 * (12 : Int32)) + v6))) fun x7 =>
      if x7 ≤ 0 then
        (f_X3_firstFellow_39 v1 v3 v4 v5 m_) (v6 + (1 : Int32)) S
      else
        if ((v4 >>> (v6 &&& 31)) &&& (1 : Int32)) = (1 : Int32) then
          (f_X3_mostGain 41 S (v1 + (1 : Int32)) (v4 &&& (((1 : Int32) <<< (v6 &&& 31)) ^^^ (-1 : Int32))) v3).bind fun q10 =>
          if (x7 + q10.1) = v5 then
            some (v6, q10.2)
          else
            (f_X3_firstFellow_39 v1 v3 v4 v5 m_) (v6 + (1 : Int32)) q10.2
        else
          (f_X3_firstFellow_39 v1 v3 v4 v5 m_) (v6 + (1 : Int32)) S
set_option maxHeartbeats 4000000 in
set_option maxRecDepth 100000 in
theorem t_X3_firstFellow_39 (T : SL) (U : SI) (V : SL) (v1 : Int32) (v3 : Int32) (v4 : Int32) (v5 : Int32) : ∀ (m_ : Nat) (v6 : Int32) (S : SI), Run 43 yX3_firstFellow cX3_firstFellow 8 (some .int) none (fun a : Int32 × SI => (some (.int a.1), (a.2, T, U, V))) 39 [(0, .ref 53), (1, .int v1), (3, .int v3), (4, .int v4), (5, .int v5), (6, .int v6)] [] (S, T, U, V) (f_X3_firstFellow_39 v1 v3 v4 v5 m_ v6 S) := by
  intro m_
  induction m_ with
  | zero =>
    intro v6 S
    rw [f_X3_firstFellow_39]
    exact r_none
  | succ m_ ih =>
    intro v6 S
    rw [f_X3_firstFellow_39]
    refine r_iload dX3_firstFellow_39 5 rfl ?_
    refine r_iload_n dX3_firstFellow_41 2 rfl rfl ?_
    refine r_icmp_ge (tgt := 116) dX3_firstFellow_42 (by decide) (fun h5 => ?_) (fun h5 => ?_)
    · refine r_bipush (v := (-4 : Int32)) dX3_firstFellow_116 rfl ?_
      exact r_ireturn (ty := .int) dX3_firstFellow_118 rfl (nar_i _) rfl
    · refine r_aload_n dX3_firstFellow_45 0 rfl rfl ?_
      refine r_getr dX3_firstFellow_46 fl_X3_9 (by decide) rfl rfl (by decide) ?_
      refine r_iload_n dX3_firstFellow_49 1 rfl rfl ?_
      refine r_bipush (v := (12 : Int32)) dX3_firstFellow_50 rfl ?_
      refine r_imul dX3_firstFellow_52 ?_
      refine r_iload dX3_firstFellow_53 5 rfl ?_
      refine r_iadd dX3_firstFellow_55 ?_
      refine rc_iald dX3_firstFellow_56 (by decide) (by decide) rfl (fun h6 => ?_)
      refine r_nmi (fun x7 => ?_)
      refine r_istore (L' := [(7, .int x7), (0, .ref 53), (1, .int v1), (3, .int v3), (4, .int v4), (5, .int v5), (6, .int v6)]) dX3_firstFellow_57 (by decide) rfl ?_
      refine r_iload dX3_firstFellow_59 0 rfl ?_
      refine r_if_le (tgt := 110) dX3_firstFellow_61 (by decide) (fun h8 => ?_) (fun h8 => ?_)
      · refine r_iinc (v := v6 + (1 : Int32)) (L' := [(6, .int (v6 + (1 : Int32))), (7, .int x7), (0, .ref 53), (1, .int v1), (3, .int v3), (4, .int v4), (5, .int v5)]) dX3_firstFellow_110 6 rfl rfl (by decide) rfl ?_
        refine r_goto (tgt := 39) dX3_firstFellow_113 (by decide) ?_
        exact r_pick [2, 3, 4, 5, 6, 0] rfl (ih (v6 + (1 : Int32)) S)
      · refine r_iload dX3_firstFellow_64 4 rfl ?_
        refine r_iload dX3_firstFellow_66 6 rfl ?_
        refine r_ishr dX3_firstFellow_68 ?_
        refine r_iconst (v := (1 : Int32)) dX3_firstFellow_69 rfl ?_
        refine r_iand dX3_firstFellow_70 ?_
        refine r_iconst (v := (1 : Int32)) dX3_firstFellow_71 rfl ?_
        refine r_icmp_ne (tgt := 110) dX3_firstFellow_72 (by decide) (fun h9 => ?_) (fun h9 => ?_)
        · refine r_iload dX3_firstFellow_75 0 rfl ?_
          refine r_iload_n dX3_firstFellow_77 2 rfl rfl ?_
          refine r_iconst (v := (1 : Int32)) dX3_firstFellow_78 rfl ?_
          refine r_iadd dX3_firstFellow_79 ?_
          refine r_iload dX3_firstFellow_80 4 rfl ?_
          refine r_iconst (v := (1 : Int32)) dX3_firstFellow_82 rfl ?_
          refine r_iload dX3_firstFellow_83 6 rfl ?_
          refine r_ishl dX3_firstFellow_85 ?_
          refine r_iconst (v := (-1 : Int32)) dX3_firstFellow_86 rfl ?_
          refine r_ixor dX3_firstFellow_87 ?_
          refine r_iand dX3_firstFellow_88 ?_
          refine r_iload_n dX3_firstFellow_89 3 rfl rfl ?_
          refine r_aload_n dX3_firstFellow_90 1 rfl rfl ?_
          refine r_getr dX3_firstFellow_91 fl_X3_9 (by decide) rfl rfl (by decide) ?_
          refine r_aload_n dX3_firstFellow_94 1 rfl rfl ?_
          refine r_getr dX3_firstFellow_95 fl_X3_15 (by decide) rfl rfl (by decide) ?_
          refine rSc_iS (as := [.int (v1 + (1 : Int32)), .int (v4 &&& (((1 : Int32) <<< (v6 &&& 31)) ^^^ (-1 : Int32))), .int v3, .ref 54, .ref 55]) (st := [.int x7]) dX3_firstFellow_98 cl_X3_45 (m_X3_mostGain 41 S T U V (v1 + (1 : Int32)) (v4 &&& (((1 : Int32) <<< (v6 &&& 31)) ^^^ (-1 : Int32))) v3) (by decide) rfl (Nat.le_of_ble_eq_true rfl) (fun q10 _ => ?_)
          refine r_iadd dX3_firstFellow_101 ?_
          refine r_iload dX3_firstFellow_102 5 rfl ?_
          refine r_icmp_ne (tgt := 110) dX3_firstFellow_104 (by decide) (fun h11 => ?_) (fun h11 => ?_)
          · refine r_iload dX3_firstFellow_107 6 rfl ?_
            exact r_ireturn (ty := .int) dX3_firstFellow_109 rfl (nar_i _) rfl
          · refine r_iinc (v := v6 + (1 : Int32)) (L' := [(6, .int (v6 + (1 : Int32))), (7, .int x7), (0, .ref 53), (1, .int v1), (3, .int v3), (4, .int v4), (5, .int v5)]) dX3_firstFellow_110 6 rfl rfl (by decide) rfl ?_
            refine r_goto (tgt := 39) dX3_firstFellow_113 (by decide) ?_
            exact r_pick [2, 3, 4, 5, 6, 0] rfl (ih (v6 + (1 : Int32)) q10.2)
        · refine r_iinc (v := v6 + (1 : Int32)) (L' := [(6, .int (v6 + (1 : Int32))), (7, .int x7), (0, .ref 53), (1, .int v1), (3, .int v3), (4, .int v4), (5, .int v5)]) dX3_firstFellow_110 6 rfl rfl (by decide) rfl ?_
          refine r_goto (tgt := 39) dX3_firstFellow_113 (by decide) ?_
          exact r_pick [2, 3, 4, 5, 6, 0] rfl (ih (v6 + (1 : Int32)) S)
def f_X3_firstFellow (S : SI) (v1 : Int32) (v2 : Int32) (v3 : Int32) : Option (Int32 × SI) :=
  nm (v2 &&& (((1 : Int32) <<< (v1 &&& 31)) ^^^ (-1 : Int32))) fun x1 =>
  if x1 = v2 then
    some ((-4 : Int32), S)
  else
    (f_X3_mostGain 41 S v1 v2 v3).bind fun q3 =>
    nm (v1 + (1 : Int32)) fun x4 =>
    f_X3_firstFellow_39 v1 v3 x1 q3.1 fu x4 q3.2
set_option maxHeartbeats 4000000 in
set_option maxRecDepth 100000 in
theorem m_X3_firstFellow (S : SI) (T : SL) (U : SI) (V : SL) (v1 : Int32) (v2 : Int32) (v3 : Int32) : Meth 43 yX3_firstFellow cX3_firstFellow 8 (some .int) [.ref 53, .int v1, .int v2, .int v3] (S, T, U, V) (f_X3_firstFellow S v1 v2 v3) (fun a : Int32 × SI => (some (.int a.1), (a.2, T, U, V))) := by
  refine meth_of (L := [(0, .ref 53), (1, .int v1), (2, .int v2), (3, .int v3)]) (by decide +kernel) (Nat.le_of_ble_eq_true rfl) rfl ?_
  rw [f_X3_firstFellow]
  refine r_iload_n dX3_firstFellow_0 2 rfl rfl ?_
  refine r_iconst (v := (1 : Int32)) dX3_firstFellow_1 rfl ?_
  refine r_iload_n dX3_firstFellow_2 1 rfl rfl ?_
  refine r_ishl dX3_firstFellow_3 ?_
  refine r_iconst (v := (-1 : Int32)) dX3_firstFellow_4 rfl ?_
  refine r_ixor dX3_firstFellow_5 ?_
  refine r_iand dX3_firstFellow_6 ?_
  refine r_nmi (fun x1 => ?_)
  refine r_istore (L' := [(4, .int x1), (0, .ref 53), (1, .int v1), (2, .int v2), (3, .int v3)]) dX3_firstFellow_7 (by decide) rfl ?_
  refine r_iload dX3_firstFellow_9 0 rfl ?_
  refine r_iload_n dX3_firstFellow_11 3 rfl rfl ?_
  refine r_icmp_ne (tgt := 18) dX3_firstFellow_12 (by decide) (fun h2 => ?_) (fun h2 => ?_)
  · refine r_bipush (v := (-4 : Int32)) dX3_firstFellow_15 rfl ?_
    exact r_ireturn (ty := .int) dX3_firstFellow_17 rfl (nar_i _) rfl
  · refine r_iload_n dX3_firstFellow_18 2 rfl rfl ?_
    refine r_iload_n dX3_firstFellow_19 3 rfl rfl ?_
    refine r_iload_n dX3_firstFellow_20 4 rfl rfl ?_
    refine r_aload_n dX3_firstFellow_21 1 rfl rfl ?_
    refine r_getr dX3_firstFellow_22 fl_X3_9 (by decide) rfl rfl (by decide) ?_
    refine r_aload_n dX3_firstFellow_25 1 rfl rfl ?_
    refine r_getr dX3_firstFellow_26 fl_X3_15 (by decide) rfl rfl (by decide) ?_
    refine rSc_iS (as := [.int v1, .int v2, .int v3, .ref 54, .ref 55]) (st := []) dX3_firstFellow_29 cl_X3_45 (m_X3_mostGain 41 S T U V v1 v2 v3) (by decide) rfl (Nat.le_of_ble_eq_true rfl) (fun q3 _ => ?_)
    refine r_istore (L' := [(5, .int q3.1), (4, .int x1), (0, .ref 53), (1, .int v1), (2, .int v2), (3, .int v3)]) dX3_firstFellow_32 (by decide) rfl ?_
    refine r_iload_n dX3_firstFellow_34 3 rfl rfl ?_
    refine r_iconst (v := (1 : Int32)) dX3_firstFellow_35 rfl ?_
    refine r_iadd dX3_firstFellow_36 ?_
    refine r_nmi (fun x4 => ?_)
    refine r_istore (L' := [(6, .int x4), (5, .int q3.1), (4, .int x1), (0, .ref 53), (1, .int v1), (2, .int v2), (3, .int v3)]) dX3_firstFellow_37 (by decide) rfl ?_
    exact r_pick [3, 4, 6, 2, 1, 0] rfl (t_X3_firstFellow_39 T U V v1 v3 x1 q3.1 fu x4 q3.2)
def f_X3_trace_12 (ke32 : SI → Option (SI)) : Nat → Int32 → SI → Option (SI)
  | 0, _, _ => none
  | m_ + 1, v3, S =>
    if (12 : Int32) ≤ v3 then
      ke32 S
    else
      gd (inB v3 12) <|
      nm (up2 S 56 (ix v3) (-4 : Int32)) fun S5 =>
      (f_X3_trace_12 ke32 m_) (v3 + (1 : Int32)) S5
set_option maxHeartbeats 4000000 in
set_option maxRecDepth 100000 in
theorem t_X3_trace_12 (T : SL) (U : SI) (V : SL) (v2 : Int32) (ke32 : SI → Option (SI)) (hke32 : ∀ (S' : SI), Run 44 yX3_trace cX3_trace 6 none none (fun a : SI => (none, (a, T, U, V))) 32 [(0, .ref 53), (1, .ref 1), (2, .int v2)] [] (S', T, U, V) (ke32 S')) : ∀ (m_ : Nat) (v3 : Int32) (S : SI), Run 44 yX3_trace cX3_trace 6 none none (fun a : SI => (none, (a, T, U, V))) 12 [(0, .ref 53), (1, .ref 1), (2, .int v2), (3, .int v3)] [] (S, T, U, V) (f_X3_trace_12 ke32 m_ v3 S) := by
  intro m_
  induction m_ with
  | zero =>
    intro v3 S
    rw [f_X3_trace_12]
    exact r_none
  | succ m_ ih =>
    intro v3 S
    rw [f_X3_trace_12]
    refine r_iload_n dX3_trace_12 3 rfl rfl ?_
    refine r_bipush (v := (12 : Int32)) dX3_trace_13 rfl ?_
    refine r_icmp_ge (tgt := 32) dX3_trace_15 (by decide) (fun h3 => ?_) (fun h3 => ?_)
    · exact r_pick [0, 1, 2] rfl (hke32 S)
    · refine r_aload_n dX3_trace_18 0 rfl rfl ?_
      refine r_getr dX3_trace_19 fl_X3_18 (by decide) rfl rfl (by decide) ?_
      refine r_iload_n dX3_trace_22 3 rfl rfl ?_
      refine r_bipush (v := (-4 : Int32)) dX3_trace_23 rfl ?_
      refine rc_iast dX3_trace_25 (by decide) (by decide) rfl (fun h4 => ?_)
      refine r_nmS (fun S5 => ?_)
      refine r_iinc (v := v3 + (1 : Int32)) (L' := [(3, .int (v3 + (1 : Int32))), (0, .ref 53), (1, .ref 1), (2, .int v2)]) dX3_trace_26 3 rfl rfl (by decide) rfl ?_
      refine r_goto (tgt := 12) dX3_trace_29 (by decide) ?_
      exact r_pick [1, 2, 3, 0] rfl (ih (v3 + (1 : Int32)) S5)
def f_X3_trace_37  : Nat → Int32 → Int32 → SI → Option (SI)
  | 0, _, _, _ => none
  | m_ + 1, v3, v4, S =>
    if (S 1 1) ≤ v4 then
      some S
    else
      (f_X3_firstFellow S v4 v3 (S 1 1)).bind fun q7 =>
      nm (v3 &&& (((1 : Int32) <<< (v4 &&& 31)) ^^^ (-1 : Int32))) fun x8 =>
      if q7.1 = (-4 : Int32) then
        (f_X3_trace_37 m_) x8 (v4 + (1 : Int32)) q7.2
      else
        nm (x8 &&& (((1 : Int32) <<< (q7.1 &&& 31)) ^^^ (-1 : Int32))) fun x10 =>
        gd (inB v4 12) <|
        nm (up2 q7.2 56 (ix v4) q7.1) fun S12 =>
        gd (inB q7.1 12) <|
        nm (up2 S12 56 (ix q7.1) v4) fun S14 =>
        nm (up2 S14 53 3 ((S14 53 3) + (1 : Int32))) fun S15 =>
        (f_X1_distance S15 v4 q7.1).bind fun q16 =>
        nm (up2 S15 53 4 ((S15 53 4) + q16)) fun S17 =>
        (f_X3_trace_37 m_) x10 (v4 + (1 : Int32)) S17
set_option maxHeartbeats 4000000 in
set_option maxRecDepth 100000 in
theorem t_X3_trace_37 (T : SL) (U : SI) (V : SL) : ∀ (m_ : Nat) (v3 : Int32) (v4 : Int32) (S : SI), Run 44 yX3_trace cX3_trace 6 none none (fun a : SI => (none, (a, T, U, V))) 37 [(0, .ref 53), (1, .ref 1), (3, .int v3), (4, .int v4)] [] (S, T, U, V) (f_X3_trace_37 m_ v3 v4 S) := by
  intro m_
  induction m_ with
  | zero =>
    intro v3 v4 S
    rw [f_X3_trace_37]
    exact r_none
  | succ m_ ih =>
    intro v3 v4 S
    rw [f_X3_trace_37]
    refine r_iload dX3_trace_37 3 rfl ?_
    refine r_aload_n dX3_trace_39 1 rfl rfl ?_
    refine rc_geti dX3_trace_40 fl_X3_31 (by decide) (by decide) rfl rfl ?_
    refine r_icmp_ge (tgt := 135) dX3_trace_43 (by decide) (fun h6 => ?_) (fun h6 => ?_)
    · exact r_return dX3_trace_135 rfl rfl
    · refine r_aload_n dX3_trace_46 0 rfl rfl ?_
      refine r_iload dX3_trace_47 3 rfl ?_
      refine r_iload_n dX3_trace_49 2 rfl rfl ?_
      refine r_aload_n dX3_trace_50 1 rfl rfl ?_
      refine rc_geti dX3_trace_51 fl_X3_31 (by decide) (by decide) rfl rfl ?_
      refine rVc_iS (as := [.int v4, .int v3, .int (S 1 1)]) (st := []) dX3_trace_54 cl_X3_59 (by decide) rfl rfl (m_X3_firstFellow S T U V v4 v3 (S 1 1)) (by decide) rfl (Nat.le_of_ble_eq_true rfl) (fun q7 _ => ?_)
      refine r_istore (L' := [(5, .int q7.1), (0, .ref 53), (1, .ref 1), (3, .int v3), (4, .int v4)]) dX3_trace_57 (by decide) rfl ?_
      refine r_iload_n dX3_trace_59 3 rfl rfl ?_
      refine r_iconst (v := (1 : Int32)) dX3_trace_60 rfl ?_
      refine r_iload dX3_trace_61 4 rfl ?_
      refine r_ishl dX3_trace_63 ?_
      refine r_iconst (v := (-1 : Int32)) dX3_trace_64 rfl ?_
      refine r_ixor dX3_trace_65 ?_
      refine r_iand dX3_trace_66 ?_
      refine r_nmi (fun x8 => ?_)
      refine r_istore_n (L' := [(3, .int x8), (5, .int q7.1), (0, .ref 53), (1, .ref 1), (4, .int v4)]) dX3_trace_67 rfl (by decide) rfl ?_
      refine r_iload dX3_trace_68 1 rfl ?_
      refine r_bipush (v := (-4 : Int32)) dX3_trace_70 rfl ?_
      refine r_icmp_eq (tgt := 129) dX3_trace_72 (by decide) (fun h9 => ?_) (fun h9 => ?_)
      · refine r_iinc (v := v4 + (1 : Int32)) (L' := [(4, .int (v4 + (1 : Int32))), (3, .int x8), (5, .int q7.1), (0, .ref 53), (1, .ref 1)]) dX3_trace_129 4 rfl rfl (by decide) rfl ?_
        refine r_goto (tgt := 37) dX3_trace_132 (by decide) ?_
        exact r_pick [3, 4, 1, 0] rfl (ih x8 (v4 + (1 : Int32)) q7.2)
      · refine r_iload_n dX3_trace_75 0 rfl rfl ?_
        refine r_iconst (v := (1 : Int32)) dX3_trace_76 rfl ?_
        refine r_iload dX3_trace_77 1 rfl ?_
        refine r_ishl dX3_trace_79 ?_
        refine r_iconst (v := (-1 : Int32)) dX3_trace_80 rfl ?_
        refine r_ixor dX3_trace_81 ?_
        refine r_iand dX3_trace_82 ?_
        refine r_nmi (fun x10 => ?_)
        refine r_istore_n (L' := [(3, .int x10), (5, .int q7.1), (0, .ref 53), (1, .ref 1), (4, .int v4)]) dX3_trace_83 rfl (by decide) rfl ?_
        refine r_aload_n dX3_trace_84 2 rfl rfl ?_
        refine r_getr dX3_trace_85 fl_X3_18 (by decide) rfl rfl (by decide) ?_
        refine r_iload dX3_trace_88 4 rfl ?_
        refine r_iload dX3_trace_90 1 rfl ?_
        refine rc_iast dX3_trace_92 (by decide) (by decide) rfl (fun h11 => ?_)
        refine r_nmS (fun S12 => ?_)
        refine r_aload_n dX3_trace_93 2 rfl rfl ?_
        refine r_getr dX3_trace_94 fl_X3_18 (by decide) rfl rfl (by decide) ?_
        refine r_iload dX3_trace_97 1 rfl ?_
        refine r_iload dX3_trace_99 4 rfl ?_
        refine rc_iast dX3_trace_101 (by decide) (by decide) rfl (fun h13 => ?_)
        refine r_nmS (fun S14 => ?_)
        refine r_aload_n dX3_trace_102 2 rfl rfl ?_
        refine r_dup dX3_trace_103 rfl ?_
        refine rc_geti dX3_trace_104 fl_X3_54 (by decide) (by decide) rfl rfl ?_
        refine r_iconst (v := (1 : Int32)) dX3_trace_107 rfl ?_
        refine r_iadd dX3_trace_108 ?_
        refine rc_puti (ty := .int) dX3_trace_109 fp_X3_54 (nar_i _) (fit_i _) (by decide) (by decide) rfl rfl ?_
        refine r_nmS (fun S15 => ?_)
        refine r_aload_n dX3_trace_112 2 rfl rfl ?_
        refine r_dup dX3_trace_113 rfl ?_
        refine rc_geti dX3_trace_114 fl_X3_57 (by decide) (by decide) rfl rfl ?_
        refine r_aload_n dX3_trace_117 3 rfl rfl ?_
        refine r_iload dX3_trace_118 4 rfl ?_
        refine r_iload dX3_trace_120 1 rfl ?_
        refine rV_i (as := [.int v4, .int q7.1]) (st := [.int (S15 53 4), .ref 53]) dX3_trace_122 cl_X3_42 (by decide) rfl rfl (m_X1_distance S15 T U V v4 q7.1) (by decide) rfl (Nat.le_of_ble_eq_true rfl) (fun q16 _ => ?_)
        refine r_iadd dX3_trace_125 ?_
        refine rc_puti (ty := .int) dX3_trace_126 fp_X3_57 (nar_i _) (fit_i _) (by decide) (by decide) rfl rfl ?_
        refine r_nmS (fun S17 => ?_)
        refine r_iinc (v := v4 + (1 : Int32)) (L' := [(4, .int (v4 + (1 : Int32))), (3, .int x10), (5, .int q7.1), (0, .ref 53), (1, .ref 1)]) dX3_trace_129 4 rfl rfl (by decide) rfl ?_
        refine r_goto (tgt := 37) dX3_trace_132 (by decide) ?_
        exact r_pick [3, 4, 1, 0] rfl (ih x10 (v4 + (1 : Int32)) S17)
def f_X3_trace_32 (S : SI) (v2 : Int32) : Option (SI) :=
  f_X3_trace_37 fu v2 (0 : Int32) S
set_option maxHeartbeats 4000000 in
set_option maxRecDepth 100000 in
theorem t_X3_trace_32 (S : SI) (T : SL) (U : SI) (V : SL) (v2 : Int32) : Run 44 yX3_trace cX3_trace 6 none none (fun a : SI => (none, (a, T, U, V))) 32 [(0, .ref 53), (1, .ref 1), (2, .int v2)] [] (S, T, U, V) (f_X3_trace_32 S v2) := by
  rw [f_X3_trace_32]
  refine r_iload_n dX3_trace_32 2 rfl rfl ?_
  refine r_istore_n (L' := [(3, .int v2), (0, .ref 53), (1, .ref 1), (2, .int v2)]) dX3_trace_33 rfl (by decide) rfl ?_
  refine r_iconst (v := (0 : Int32)) dX3_trace_34 rfl ?_
  refine r_istore (L' := [(4, .int (0 : Int32)), (3, .int v2), (0, .ref 53), (1, .ref 1), (2, .int v2)]) dX3_trace_35 (by decide) rfl ?_
  exact r_pick [2, 3, 1, 0] rfl (t_X3_trace_37 T U V fu v2 (0 : Int32) S)
def f_X3_trace (S : SI) (v2 : Int32) : Option (SI) :=
  nm (up2 S 53 3 (0 : Int32)) fun S1 =>
  nm (up2 S1 53 4 (0 : Int32)) fun S2 =>
  f_X3_trace_12 (fun So => f_X3_trace_32 So v2) fu (0 : Int32) S2
set_option maxHeartbeats 4000000 in
set_option maxRecDepth 100000 in
theorem m_X3_trace (S : SI) (T : SL) (U : SI) (V : SL) (v2 : Int32) : Meth 44 yX3_trace cX3_trace 6 none [.ref 53, .ref 1, .int v2] (S, T, U, V) (f_X3_trace S v2) (fun a : SI => (none, (a, T, U, V))) := by
  refine meth_of (L := [(0, .ref 53), (1, .ref 1), (2, .int v2)]) (by decide +kernel) (Nat.le_of_ble_eq_true rfl) rfl ?_
  rw [f_X3_trace]
  refine r_aload_n dX3_trace_0 0 rfl rfl ?_
  refine r_iconst (v := (0 : Int32)) dX3_trace_1 rfl ?_
  refine rc_puti (ty := .int) dX3_trace_2 fp_X3_54 (nar_i _) (fit_i _) (by decide) (by decide) rfl rfl ?_
  refine r_nmS (fun S1 => ?_)
  refine r_aload_n dX3_trace_5 0 rfl rfl ?_
  refine r_iconst (v := (0 : Int32)) dX3_trace_6 rfl ?_
  refine rc_puti (ty := .int) dX3_trace_7 fp_X3_57 (nar_i _) (fit_i _) (by decide) (by decide) rfl rfl ?_
  refine r_nmS (fun S2 => ?_)
  refine r_iconst (v := (0 : Int32)) dX3_trace_10 rfl ?_
  refine r_istore_n (L' := [(3, .int (0 : Int32)), (0, .ref 53), (1, .ref 1), (2, .int v2)]) dX3_trace_11 rfl (by decide) rfl ?_
  exact r_pick [1, 2, 3, 0] rfl (t_X3_trace_12 T U V v2 (fun So => f_X3_trace_32 So v2) (fun So => r_pick [0, 1, 2] rfl (t_X3_trace_32 So T U V v2)) fu (0 : Int32) S2)
def f_X3_weigh_86 (S : SI) (v4 : Int32) (s0 : Int32) (s1 : Int32) (kh15 : Int32 → SI → Option (SI)) : Option (SI) :=
  gd (inB s1 144) <|
  nm (up2 S 54 (ix s1) s0) fun S7 =>
  kh15 (v4 + (1 : Int32)) S7
set_option maxHeartbeats 4000000 in
set_option maxRecDepth 100000 in
theorem t_X3_weigh_86 (S : SI) (T : SL) (U : SI) (V : SL) (v2 : Int32) (v3 : Int32) (v4 : Int32) (s0 : Int32) (s1 : Int32) (kh15 : Int32 → SI → Option (SI)) (hkh15 : ∀ (w4 : Int32) (S' : SI), Run 3 yX3_weigh cX3_weigh 6 none none (fun a : SI => (none, (a, T, U, V))) 15 [(0, .ref 53), (1, .ref 1), (2, .int v2), (3, .int v3), (4, .int w4)] [] (S', T, U, V) (kh15 w4 S')) : Run 3 yX3_weigh cX3_weigh 6 none none (fun a : SI => (none, (a, T, U, V))) 86 [(0, .ref 53), (1, .ref 1), (2, .int v2), (3, .int v3), (4, .int v4)] [.int s0, .int s1, .ref 54] (S, T, U, V) (f_X3_weigh_86 S v4 s0 s1 kh15) := by
  rw [f_X3_weigh_86]
  refine rc_iast dX3_weigh_86 (by decide) (by decide) rfl (fun h6 => ?_)
  refine r_nmS (fun S7 => ?_)
  refine r_iinc (v := v4 + (1 : Int32)) (L' := [(4, .int (v4 + (1 : Int32))), (0, .ref 53), (1, .ref 1), (2, .int v2), (3, .int v3)]) dX3_weigh_87 4 rfl rfl (by decide) rfl ?_
  refine r_goto (tgt := 15) dX3_weigh_90 (by decide) ?_
  exact r_pick [1, 2, 3, 4, 0] rfl (hkh15 (v4 + (1 : Int32)) S7)
def f_X3_weigh_43 (S : SI) (v3 : Int32) (v4 : Int32) (s0 : Int32) (kh15 : Int32 → SI → Option (SI)) : Option (SI) :=
  if s0 = 0 then
    f_X3_weigh_86 S v4 (0 : Int32) ((v3 * (12 : Int32)) + v4) kh15
  else
    (f_X1_bars S v3 v4).bind fun q8 =>
    if q8 = 0 then
      (f_X1_distance S v3 v4).bind fun q10 =>
      f_X3_weigh_86 S v4 ((2000 : Int32) - q10) ((v3 * (12 : Int32)) + v4) kh15
    else
      f_X3_weigh_86 S v4 (0 : Int32) ((v3 * (12 : Int32)) + v4) kh15
set_option maxHeartbeats 4000000 in
set_option maxRecDepth 100000 in
theorem t_X3_weigh_43 (S : SI) (T : SL) (U : SI) (V : SL) (v2 : Int32) (v3 : Int32) (v4 : Int32) (s0 : Int32) (kh15 : Int32 → SI → Option (SI)) (hkh15 : ∀ (w4 : Int32) (S' : SI), Run 3 yX3_weigh cX3_weigh 6 none none (fun a : SI => (none, (a, T, U, V))) 15 [(0, .ref 53), (1, .ref 1), (2, .int v2), (3, .int v3), (4, .int w4)] [] (S', T, U, V) (kh15 w4 S')) : Run 3 yX3_weigh cX3_weigh 6 none none (fun a : SI => (none, (a, T, U, V))) 43 [(0, .ref 53), (1, .ref 1), (2, .int v2), (3, .int v3), (4, .int v4)] [.int s0] (S, T, U, V) (f_X3_weigh_43 S v3 v4 s0 kh15) := by
  rw [f_X3_weigh_43]
  refine r_istore (L' := [(5, .int s0), (0, .ref 53), (1, .ref 1), (2, .int v2), (3, .int v3), (4, .int v4)]) dX3_weigh_43 (by decide) rfl ?_
  refine r_aload_n dX3_weigh_45 1 rfl rfl ?_
  refine r_getr dX3_weigh_46 fl_X3_9 (by decide) rfl rfl (by decide) ?_
  refine r_iload_n dX3_weigh_49 4 rfl rfl ?_
  refine r_bipush (v := (12 : Int32)) dX3_weigh_50 rfl ?_
  refine r_imul dX3_weigh_52 ?_
  refine r_iload dX3_weigh_53 5 rfl ?_
  refine r_iadd dX3_weigh_55 ?_
  refine r_iload dX3_weigh_56 0 rfl ?_
  refine r_if_eq (tgt := 85) dX3_weigh_58 (by decide) (fun h5 => ?_) (fun h5 => ?_)
  · refine r_iconst (v := (0 : Int32)) dX3_weigh_85 rfl ?_
    exact r_pick [1, 2, 3, 4, 5] rfl (t_X3_weigh_86 S T U V v2 v3 v4 (0 : Int32) ((v3 * (12 : Int32)) + v4) kh15 hkh15)
  · refine r_aload_n dX3_weigh_61 2 rfl rfl ?_
    refine r_iload_n dX3_weigh_62 4 rfl rfl ?_
    refine r_iload dX3_weigh_63 5 rfl ?_
    refine rV_i (as := [.int v3, .int v4]) (st := [.int ((v3 * (12 : Int32)) + v4), .ref 54]) dX3_weigh_65 cl_X3_38 (by decide) rfl rfl (m_X1_bars S T U V v3 v4) (by decide) rfl (Nat.le_of_ble_eq_true rfl) (fun q8 _ => ?_)
    refine r_if_ne (tgt := 85) dX3_weigh_68 (by decide) (fun h9 => ?_) (fun h9 => ?_)
    · refine r_sipush (v := (2000 : Int32)) dX3_weigh_71 rfl ?_
      refine r_aload_n dX3_weigh_74 2 rfl rfl ?_
      refine r_iload_n dX3_weigh_75 4 rfl rfl ?_
      refine r_iload dX3_weigh_76 5 rfl ?_
      refine rV_i (as := [.int v3, .int v4]) (st := [.int (2000 : Int32), .int ((v3 * (12 : Int32)) + v4), .ref 54]) dX3_weigh_78 cl_X3_42 (by decide) rfl rfl (m_X1_distance S T U V v3 v4) (by decide) rfl (Nat.le_of_ble_eq_true rfl) (fun q10 _ => ?_)
      refine r_isub dX3_weigh_81 ?_
      refine r_goto (tgt := 86) dX3_weigh_82 (by decide) ?_
      exact r_pick [1, 2, 3, 4, 5] rfl (t_X3_weigh_86 S T U V v2 v3 v4 ((2000 : Int32) - q10) ((v3 * (12 : Int32)) + v4) kh15 hkh15)
    · refine r_iconst (v := (0 : Int32)) dX3_weigh_85 rfl ?_
      exact r_pick [1, 2, 3, 4, 5] rfl (t_X3_weigh_86 S T U V v2 v3 v4 (0 : Int32) ((v3 * (12 : Int32)) + v4) kh15 hkh15)
def f_X3_weigh_15 (v2 : Int32) (v3 : Int32) (ke93 : SI → Option (SI)) : Nat → Int32 → SI → Option (SI)
  | 0, _, _ => none
  | m_ + 1, v4, S =>
    if (S 1 1) ≤ v4 then
      ke93 S
    else
      if (((v2 >>> (v3 &&& 31)) &&& (v2 >>> (v4 &&& 31))) &&& (1 : Int32)) = (1 : Int32) then
        f_X3_weigh_43 S v3 v4 (1 : Int32) (f_X3_weigh_15 v2 v3 ke93 m_)
      else
        f_X3_weigh_43 S v3 v4 (0 : Int32) (f_X3_weigh_15 v2 v3 ke93 m_)
set_option maxHeartbeats 4000000 in
set_option maxRecDepth 100000 in
theorem t_X3_weigh_15 (T : SL) (U : SI) (V : SL) (v2 : Int32) (v3 : Int32) (ke93 : SI → Option (SI)) (hke93 : ∀ (S' : SI), Run 3 yX3_weigh cX3_weigh 6 none none (fun a : SI => (none, (a, T, U, V))) 93 [(0, .ref 53), (1, .ref 1), (2, .int v2), (3, .int v3)] [] (S', T, U, V) (ke93 S')) : ∀ (m_ : Nat) (v4 : Int32) (S : SI), Run 3 yX3_weigh cX3_weigh 6 none none (fun a : SI => (none, (a, T, U, V))) 15 [(0, .ref 53), (1, .ref 1), (2, .int v2), (3, .int v3), (4, .int v4)] [] (S, T, U, V) (f_X3_weigh_15 v2 v3 ke93 m_ v4 S) := by
  intro m_
  induction m_ with
  | zero =>
    intro v4 S
    rw [f_X3_weigh_15]
    exact r_none
  | succ m_ ih =>
    intro v4 S
    rw [f_X3_weigh_15]
    refine r_iload dX3_weigh_15 4 rfl ?_
    refine r_aload_n dX3_weigh_17 1 rfl rfl ?_
    refine rc_geti dX3_weigh_18 fl_X3_31 (by decide) (by decide) rfl rfl ?_
    refine r_icmp_ge (tgt := 93) dX3_weigh_21 (by decide) (fun h3 => ?_) (fun h3 => ?_)
    · exact r_pick [0, 1, 2, 3] rfl (hke93 S)
    · refine r_iload_n dX3_weigh_24 2 rfl rfl ?_
      refine r_iload_n dX3_weigh_25 3 rfl rfl ?_
      refine r_ishr dX3_weigh_26 ?_
      refine r_iload_n dX3_weigh_27 2 rfl rfl ?_
      refine r_iload dX3_weigh_28 4 rfl ?_
      refine r_ishr dX3_weigh_30 ?_
      refine r_iand dX3_weigh_31 ?_
      refine r_iconst (v := (1 : Int32)) dX3_weigh_32 rfl ?_
      refine r_iand dX3_weigh_33 ?_
      refine r_iconst (v := (1 : Int32)) dX3_weigh_34 rfl ?_
      refine r_icmp_ne (tgt := 42) dX3_weigh_35 (by decide) (fun h4 => ?_) (fun h4 => ?_)
      · refine r_iconst (v := (1 : Int32)) dX3_weigh_38 rfl ?_
        refine r_goto (tgt := 43) dX3_weigh_39 (by decide) ?_
        exact r_pick [0, 1, 2, 3, 4] rfl (t_X3_weigh_43 S T U V v2 v3 v4 (1 : Int32) (f_X3_weigh_15 v2 v3 ke93 m_) ih)
      · refine r_iconst (v := (0 : Int32)) dX3_weigh_42 rfl ?_
        exact r_pick [0, 1, 2, 3, 4] rfl (t_X3_weigh_43 S T U V v2 v3 v4 (0 : Int32) (f_X3_weigh_15 v2 v3 ke93 m_) ih)
def f_X3_weigh_93 (S : SI) (v3 : Int32) (kh2 : Int32 → SI → Option (SI)) : Option (SI) :=
  kh2 (v3 + (1 : Int32)) S
set_option maxHeartbeats 4000000 in
set_option maxRecDepth 100000 in
theorem t_X3_weigh_93 (S : SI) (T : SL) (U : SI) (V : SL) (v2 : Int32) (v3 : Int32) (kh2 : Int32 → SI → Option (SI)) (hkh2 : ∀ (w3 : Int32) (S' : SI), Run 3 yX3_weigh cX3_weigh 6 none none (fun a : SI => (none, (a, T, U, V))) 2 [(0, .ref 53), (1, .ref 1), (2, .int v2), (3, .int w3)] [] (S', T, U, V) (kh2 w3 S')) : Run 3 yX3_weigh cX3_weigh 6 none none (fun a : SI => (none, (a, T, U, V))) 93 [(0, .ref 53), (1, .ref 1), (2, .int v2), (3, .int v3)] [] (S, T, U, V) (f_X3_weigh_93 S v3 kh2) := by
  rw [f_X3_weigh_93]
  refine r_iinc (v := v3 + (1 : Int32)) (L' := [(3, .int (v3 + (1 : Int32))), (0, .ref 53), (1, .ref 1), (2, .int v2)]) dX3_weigh_93 3 rfl rfl (by decide) rfl ?_
  refine r_goto (tgt := 2) dX3_weigh_96 (by decide) ?_
  exact r_pick [1, 2, 3, 0] rfl (hkh2 (v3 + (1 : Int32)) S)
def f_X3_weigh_2 (v2 : Int32) : Nat → Int32 → SI → Option (SI)
  | 0, _, _ => none
  | m_ + 1, v3, S =>
    if (S 1 1) ≤ v3 then
      some S
    else
      nm (v3 + (1 : Int32)) fun x2 =>
      f_X3_weigh_15 v2 v3 (fun So => f_X3_weigh_93 So v3 (f_X3_weigh_2 v2 m_)) fu x2 S
set_option maxHeartbeats 4000000 in
set_option maxRecDepth 100000 in
theorem t_X3_weigh_2 (T : SL) (U : SI) (V : SL) (v2 : Int32) : ∀ (m_ : Nat) (v3 : Int32) (S : SI), Run 3 yX3_weigh cX3_weigh 6 none none (fun a : SI => (none, (a, T, U, V))) 2 [(0, .ref 53), (1, .ref 1), (2, .int v2), (3, .int v3)] [] (S, T, U, V) (f_X3_weigh_2 v2 m_ v3 S) := by
  intro m_
  induction m_ with
  | zero =>
    intro v3 S
    rw [f_X3_weigh_2]
    exact r_none
  | succ m_ ih =>
    intro v3 S
    rw [f_X3_weigh_2]
    refine r_iload_n dX3_weigh_2 3 rfl rfl ?_
    refine r_aload_n dX3_weigh_3 1 rfl rfl ?_
    refine rc_geti dX3_weigh_4 fl_X3_31 (by decide) (by decide) rfl rfl ?_
    refine r_icmp_ge (tgt := 99) dX3_weigh_7 (by decide) (fun h1 => ?_) (fun h1 => ?_)
    · exact r_return dX3_weigh_99 rfl rfl
    · refine r_iload_n dX3_weigh_10 3 rfl rfl ?_
      refine r_iconst (v := (1 : Int32)) dX3_weigh_11 rfl ?_
      refine r_iadd dX3_weigh_12 ?_
      refine r_nmi (fun x2 => ?_)
      refine r_istore (L' := [(4, .int x2), (0, .ref 53), (1, .ref 1), (2, .int v2), (3, .int v3)]) dX3_weigh_13 (by decide) rfl ?_
      exact r_pick [1, 2, 3, 4, 0] rfl (t_X3_weigh_15 T U V v2 v3 (fun So => f_X3_weigh_93 So v3 (f_X3_weigh_2 v2 m_)) (fun So => r_pick [0, 1, 2, 3] rfl (t_X3_weigh_93 So T U V v2 v3 (f_X3_weigh_2 v2 m_) ih)) fu x2 S)
def f_X3_weigh (S : SI) (v2 : Int32) : Option (SI) :=
  f_X3_weigh_2 v2 fu (0 : Int32) S
set_option maxHeartbeats 4000000 in
set_option maxRecDepth 100000 in
theorem m_X3_weigh (S : SI) (T : SL) (U : SI) (V : SL) (v2 : Int32) : Meth 3 yX3_weigh cX3_weigh 6 none [.ref 53, .ref 1, .int v2] (S, T, U, V) (f_X3_weigh S v2) (fun a : SI => (none, (a, T, U, V))) := by
  refine meth_of (L := [(0, .ref 53), (1, .ref 1), (2, .int v2)]) (by decide +kernel) (Nat.le_of_ble_eq_true rfl) rfl ?_
  rw [f_X3_weigh]
  refine r_iconst (v := (0 : Int32)) dX3_weigh_0 rfl ?_
  refine r_istore_n (L' := [(3, .int (0 : Int32)), (0, .ref 53), (1, .ref 1), (2, .int v2)]) dX3_weigh_1 rfl (by decide) rfl ?_
  exact r_pick [1, 2, 3, 0] rfl (t_X3_weigh_2 T U V v2 fu (0 : Int32) S)
def f_X3_make_14 (ke37 : SI → Option (SI)) : Nat → Int32 → SI → Option (SI)
  | 0, _, _ => none
  | m_ + 1, v3, S =>
    if ((1 : Int32) <<< ((S 1 1) &&& 31)) ≤ v3 then
      ke37 S
    else
      gd (inB v3 4096) <|
      nm (up2 S 55 (ix v3) (-1 : Int32)) fun S5 =>
      (f_X3_make_14 ke37 m_) (v3 + (1 : Int32)) S5
set_option maxHeartbeats 4000000 in
set_option maxRecDepth 100000 in
theorem t_X3_make_14 (T : SL) (U : SI) (V : SL) (v2 : Int32) (ke37 : SI → Option (SI)) (hke37 : ∀ (S' : SI), Run 45 yX3_make cX3_make 4 none none (fun a : SI => (none, (a, T, U, V))) 37 [(0, .ref 53), (1, .ref 1), (2, .int v2)] [] (S', T, U, V) (ke37 S')) : ∀ (m_ : Nat) (v3 : Int32) (S : SI), Run 45 yX3_make cX3_make 4 none none (fun a : SI => (none, (a, T, U, V))) 14 [(0, .ref 53), (1, .ref 1), (2, .int v2), (3, .int v3)] [] (S, T, U, V) (f_X3_make_14 ke37 m_ v3 S) := by
  intro m_
  induction m_ with
  | zero =>
    intro v3 S
    rw [f_X3_make_14]
    exact r_none
  | succ m_ ih =>
    intro v3 S
    rw [f_X3_make_14]
    refine r_iload_n dX3_make_14 3 rfl rfl ?_
    refine r_iconst (v := (1 : Int32)) dX3_make_15 rfl ?_
    refine r_aload_n dX3_make_16 1 rfl rfl ?_
    refine rc_geti dX3_make_17 fl_X3_31 (by decide) (by decide) rfl rfl ?_
    refine r_ishl dX3_make_20 ?_
    refine r_icmp_ge (tgt := 37) dX3_make_21 (by decide) (fun h3 => ?_) (fun h3 => ?_)
    · exact r_pick [0, 1, 2] rfl (hke37 S)
    · refine r_aload_n dX3_make_24 0 rfl rfl ?_
      refine r_getr dX3_make_25 fl_X3_15 (by decide) rfl rfl (by decide) ?_
      refine r_iload_n dX3_make_28 3 rfl rfl ?_
      refine r_iconst (v := (-1 : Int32)) dX3_make_29 rfl ?_
      refine rc_iast dX3_make_30 (by decide) (by decide) rfl (fun h4 => ?_)
      refine r_nmS (fun S5 => ?_)
      refine r_iinc (v := v3 + (1 : Int32)) (L' := [(3, .int (v3 + (1 : Int32))), (0, .ref 53), (1, .ref 1), (2, .int v2)]) dX3_make_31 3 rfl rfl (by decide) rfl ?_
      refine r_goto (tgt := 14) dX3_make_34 (by decide) ?_
      exact r_pick [1, 2, 3, 0] rfl (ih (v3 + (1 : Int32)) S5)
def f_X3_make_37 (S : SI) (v2 : Int32) : Option (SI) :=
  (f_X3_trace S v2).bind fun q6 =>
  some q6
set_option maxHeartbeats 4000000 in
set_option maxRecDepth 100000 in
theorem t_X3_make_37 (S : SI) (T : SL) (U : SI) (V : SL) (v2 : Int32) : Run 45 yX3_make cX3_make 4 none none (fun a : SI => (none, (a, T, U, V))) 37 [(0, .ref 53), (1, .ref 1), (2, .int v2)] [] (S, T, U, V) (f_X3_make_37 S v2) := by
  rw [f_X3_make_37]
  refine r_aload_n dX3_make_37 0 rfl rfl ?_
  refine r_aload_n dX3_make_38 1 rfl rfl ?_
  refine r_iload_n dX3_make_39 2 rfl rfl ?_
  refine rVc_vS (as := [.ref 1, .int v2]) (st := []) dX3_make_40 cl_X3_35 (by decide) rfl rfl (m_X3_trace S T U V v2) (by decide) rfl (Nat.le_of_ble_eq_true rfl) (fun q6 _ => ?_)
  exact r_return dX3_make_43 rfl rfl
def f_X3_make (S : SI) : Option (SI) :=
  (f_X1_placed S (0 : Int32)).bind fun q1 =>
  (f_X3_weigh S q1).bind fun q2 =>
  f_X3_make_14 (fun So => f_X3_make_37 So q1) fu (0 : Int32) q2
set_option maxHeartbeats 4000000 in
set_option maxRecDepth 100000 in
theorem m_X3_make (S : SI) (T : SL) (U : SI) (V : SL)  : Meth 45 yX3_make cX3_make 4 none [.ref 53, .ref 1] (S, T, U, V) (f_X3_make S) (fun a : SI => (none, (a, T, U, V))) := by
  refine meth_of (L := [(0, .ref 53), (1, .ref 1)]) (by decide +kernel) (Nat.le_of_ble_eq_true rfl) rfl ?_
  rw [f_X3_make]
  refine r_aload_n dX3_make_0 1 rfl rfl ?_
  refine r_iconst (v := (0 : Int32)) dX3_make_1 rfl ?_
  refine rV_i (as := [.int (0 : Int32)]) (st := []) dX3_make_2 cl_X3_21 (by decide) rfl rfl (m_X1_placed S T U V (0 : Int32)) (by decide) rfl (Nat.le_of_ble_eq_true rfl) (fun q1 _ => ?_)
  refine r_istore_n (L' := [(2, .int q1), (0, .ref 53), (1, .ref 1)]) dX3_make_5 rfl (by decide) rfl ?_
  refine r_aload_n dX3_make_6 1 rfl rfl ?_
  refine r_aload_n dX3_make_7 2 rfl rfl ?_
  refine r_iload_n dX3_make_8 0 rfl rfl ?_
  refine rVc_vS (as := [.ref 1, .int q1]) (st := []) dX3_make_9 cl_X3_27 (by decide) rfl rfl (m_X3_weigh S T U V q1) (by decide) rfl (Nat.le_of_ble_eq_true rfl) (fun q2 _ => ?_)
  refine r_iconst (v := (0 : Int32)) dX3_make_12 rfl ?_
  refine r_istore_n (L' := [(3, .int (0 : Int32)), (2, .int q1), (0, .ref 53), (1, .ref 1)]) dX3_make_13 rfl (by decide) rfl ?_
  exact r_pick [2, 3, 1, 0] rfl (t_X3_make_14 T U V q1 (fun So => f_X3_make_37 So q1) (fun So => r_pick [0, 1, 2] rfl (t_X3_make_37 So T U V q1)) fu (0 : Int32) q2)
