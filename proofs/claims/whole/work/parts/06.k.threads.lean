def f_X7_compare_19 (v1 : Int32) (v2 : Int32) (v3 : Int32) (ke69 : SL → Option (SL)) : Nat → Int32 → SL → Option (SL)
  | 0, _, _ => none
  | m_ + 1, v4, T =>
    if v1 ≤ v4 then
      ke69 T
    else
      (f_J6_bitCount_0f7a4 (v3 &&& (v4 ^^^ (-1 : Int32)))).bind fun q6 =>
      (f_J6_bitCount_0f7a4 (v4 &&& (v3 ^^^ (-1 : Int32)))).bind fun q7 =>
      if (mxI q6 q7) ≤ v2 then
        (f_X7_compare_19 v1 v2 v3 ke69 m_) (v4 + (1 : Int32)) T
      else
        gd (inB v3 64) <|
        gd (inB v3 64) <|
        nm (up2 T 68 (ix v3) ((T 68 (ix v3)) ||| ((1 : Int64) <<< (v4.toInt64 &&& 63)))) fun T11 =>
        (f_X7_compare_19 v1 v2 v3 ke69 m_) (v4 + (1 : Int32)) T11
set_option maxHeartbeats 4000000 in
set_option maxRecDepth 100000 in
theorem t_X7_compare_19 (S : SI) (U : SI) (V : SL) (v1 : Int32) (v2 : Int32) (v3 : Int32) (ke69 : SL → Option (SL)) (hke69 : ∀ (T' : SL), Run 2 yX7_compare cX7_compare 5 none none (fun a : SL => (none, (S, a, U, V))) 69 [(0, .ref 64), (1, .int v1), (2, .int v2), (3, .int v3)] [] (S, T', U, V) (ke69 T')) : ∀ (m_ : Nat) (v4 : Int32) (T : SL), Run 2 yX7_compare cX7_compare 5 none none (fun a : SL => (none, (S, a, U, V))) 19 [(0, .ref 64), (1, .int v1), (2, .int v2), (3, .int v3), (4, .int v4)] [] (S, T, U, V) (f_X7_compare_19 v1 v2 v3 ke69 m_ v4 T) := by
  intro m_
  induction m_ with
  | zero =>
    intro v4 T
    rw [f_X7_compare_19]
    exact r_none
  | succ m_ ih =>
    intro v4 T
    rw [f_X7_compare_19]
    refine r_iload dX7_compare_19 4 rfl ?_
    refine r_iload_n dX7_compare_21 1 rfl rfl ?_
    refine r_icmp_ge (tgt := 69) dX7_compare_22 (by decide) (fun h5 => ?_) (fun h5 => ?_)
    · exact r_pick [0, 1, 2, 3] rfl (hke69 T)
    · refine r_iload_n dX7_compare_25 3 rfl rfl ?_
      refine r_iload dX7_compare_26 4 rfl ?_
      refine r_iconst (v := (-1 : Int32)) dX7_compare_28 rfl ?_
      refine r_ixor dX7_compare_29 ?_
      refine r_iand dX7_compare_30 ?_
      refine rS_i (as := [.int (v3 &&& (v4 ^^^ (-1 : Int32)))]) (st := []) dX7_compare_31 cl_X7_45 (m_J6_bitCount_0f7a4 S T U V (v3 &&& (v4 ^^^ (-1 : Int32)))) (by decide) rfl (Nat.le_of_ble_eq_true rfl) (fun q6 _ => ?_)
      refine r_iload dX7_compare_34 4 rfl ?_
      refine r_iload_n dX7_compare_36 3 rfl rfl ?_
      refine r_iconst (v := (-1 : Int32)) dX7_compare_37 rfl ?_
      refine r_ixor dX7_compare_38 ?_
      refine r_iand dX7_compare_39 ?_
      refine rS_i (as := [.int (v4 &&& (v3 ^^^ (-1 : Int32)))]) (st := [.int q6]) dX7_compare_40 cl_X7_45 (m_J6_bitCount_0f7a4 S T U V (v4 &&& (v3 ^^^ (-1 : Int32)))) (by decide) rfl (Nat.le_of_ble_eq_true rfl) (fun q7 _ => ?_)
      refine r_mmax dX7_compare_43 cl_X7_51 (by decide) (Nat.le_of_ble_eq_true rfl) ?_
      refine r_iload_n dX7_compare_46 2 rfl rfl ?_
      refine r_icmp_le (tgt := 63) dX7_compare_47 (by decide) (fun h8 => ?_) (fun h8 => ?_)
      · refine r_iinc (v := v4 + (1 : Int32)) (L' := [(4, .int (v4 + (1 : Int32))), (0, .ref 64), (1, .int v1), (2, .int v2), (3, .int v3)]) dX7_compare_63 4 rfl rfl (by decide) rfl ?_
        refine r_goto (tgt := 19) dX7_compare_66 (by decide) ?_
        exact r_pick [1, 2, 3, 4, 0] rfl (ih (v4 + (1 : Int32)) T)
      · refine r_aload_n dX7_compare_50 0 rfl rfl ?_
        refine r_getr dX7_compare_51 fl_X7_21 (by decide) rfl rfl (by decide) ?_
        refine r_iload_n dX7_compare_54 3 rfl rfl ?_
        refine r_dup2 dX7_compare_55 rfl rfl ?_
        refine rc_lald dX7_compare_56 (by decide) (by decide) rfl (fun h9 => ?_)
        refine r_lconst (v := (1 : Int64)) dX7_compare_57 rfl ?_
        refine r_iload dX7_compare_58 4 rfl ?_
        refine r_lshl dX7_compare_60 ?_
        refine r_lor dX7_compare_61 ?_
        refine rc_last dX7_compare_62 (by decide) (by decide) rfl (fun h10 => ?_)
        refine r_nmT (fun T11 => ?_)
        refine r_iinc (v := v4 + (1 : Int32)) (L' := [(4, .int (v4 + (1 : Int32))), (0, .ref 64), (1, .int v1), (2, .int v2), (3, .int v3)]) dX7_compare_63 4 rfl rfl (by decide) rfl ?_
        refine r_goto (tgt := 19) dX7_compare_66 (by decide) ?_
        exact r_pick [1, 2, 3, 4, 0] rfl (ih (v4 + (1 : Int32)) T11)
def f_X7_compare_69 (T : SL) (v3 : Int32) (kh2 : Int32 → SL → Option (SL)) : Option (SL) :=
  kh2 (v3 + (1 : Int32)) T
set_option maxHeartbeats 4000000 in
set_option maxRecDepth 100000 in
theorem t_X7_compare_69 (S : SI) (T : SL) (U : SI) (V : SL) (v1 : Int32) (v2 : Int32) (v3 : Int32) (kh2 : Int32 → SL → Option (SL)) (hkh2 : ∀ (w3 : Int32) (T' : SL), Run 2 yX7_compare cX7_compare 5 none none (fun a : SL => (none, (S, a, U, V))) 2 [(0, .ref 64), (1, .int v1), (2, .int v2), (3, .int w3)] [] (S, T', U, V) (kh2 w3 T')) : Run 2 yX7_compare cX7_compare 5 none none (fun a : SL => (none, (S, a, U, V))) 69 [(0, .ref 64), (1, .int v1), (2, .int v2), (3, .int v3)] [] (S, T, U, V) (f_X7_compare_69 T v3 kh2) := by
  rw [f_X7_compare_69]
  refine r_iinc (v := v3 + (1 : Int32)) (L' := [(3, .int (v3 + (1 : Int32))), (0, .ref 64), (1, .int v1), (2, .int v2)]) dX7_compare_69 3 rfl rfl (by decide) rfl ?_
  refine r_goto (tgt := 2) dX7_compare_72 (by decide) ?_
  exact r_pick [1, 2, 3, 0] rfl (hkh2 (v3 + (1 : Int32)) T)
def f_X7_compare_2 (v1 : Int32) (v2 : Int32) : Nat → Int32 → SL → Option (SL)
  | 0, _, _ => none
  | m_ + 1, v3, T =>
    if v1 ≤ v3 then
      some T
    else
      gd (inB v3 64) <|
      nm (up2 T 68 (ix v3) (0 : Int64)) fun T3 =>
      nm (v3 + (1 : Int32)) fun x4 =>
      f_X7_compare_19 v1 v2 v3 (fun To => f_X7_compare_69 To v3 (f_X7_compare_2 v1 v2 m_)) fu x4 T3
set_option maxHeartbeats 4000000 in
set_option maxRecDepth 100000 in
theorem t_X7_compare_2 (S : SI) (U : SI) (V : SL) (v1 : Int32) (v2 : Int32) : ∀ (m_ : Nat) (v3 : Int32) (T : SL), Run 2 yX7_compare cX7_compare 5 none none (fun a : SL => (none, (S, a, U, V))) 2 [(0, .ref 64), (1, .int v1), (2, .int v2), (3, .int v3)] [] (S, T, U, V) (f_X7_compare_2 v1 v2 m_ v3 T) := by
  intro m_
  induction m_ with
  | zero =>
    intro v3 T
    rw [f_X7_compare_2]
    exact r_none
  | succ m_ ih =>
    intro v3 T
    rw [f_X7_compare_2]
    refine r_iload_n dX7_compare_2 3 rfl rfl ?_
    refine r_iload_n dX7_compare_3 1 rfl rfl ?_
    refine r_icmp_ge (tgt := 75) dX7_compare_4 (by decide) (fun h1 => ?_) (fun h1 => ?_)
    · exact r_return dX7_compare_75 rfl rfl
    · refine r_aload_n dX7_compare_7 0 rfl rfl ?_
      refine r_getr dX7_compare_8 fl_X7_21 (by decide) rfl rfl (by decide) ?_
      refine r_iload_n dX7_compare_11 3 rfl rfl ?_
      refine r_lconst (v := (0 : Int64)) dX7_compare_12 rfl ?_
      refine rc_last dX7_compare_13 (by decide) (by decide) rfl (fun h2 => ?_)
      refine r_nmT (fun T3 => ?_)
      refine r_iload_n dX7_compare_14 3 rfl rfl ?_
      refine r_iconst (v := (1 : Int32)) dX7_compare_15 rfl ?_
      refine r_iadd dX7_compare_16 ?_
      refine r_nmi (fun x4 => ?_)
      refine r_istore (L' := [(4, .int x4), (0, .ref 64), (1, .int v1), (2, .int v2), (3, .int v3)]) dX7_compare_17 (by decide) rfl ?_
      exact r_pick [1, 2, 3, 4, 0] rfl (t_X7_compare_19 S U V v1 v2 v3 (fun To => f_X7_compare_69 To v3 (f_X7_compare_2 v1 v2 m_)) (fun To => r_pick [0, 1, 2, 3] rfl (t_X7_compare_69 S To U V v1 v2 v3 (f_X7_compare_2 v1 v2 m_) ih)) fu x4 T3)
def f_X7_compare (T : SL) (v1 : Int32) (v2 : Int32) : Option (SL) :=
  f_X7_compare_2 v1 v2 fu (0 : Int32) T
set_option maxHeartbeats 4000000 in
set_option maxRecDepth 100000 in
theorem m_X7_compare (S : SI) (T : SL) (U : SI) (V : SL) (v1 : Int32) (v2 : Int32) : Meth 2 yX7_compare cX7_compare 5 none [.ref 64, .int v1, .int v2] (S, T, U, V) (f_X7_compare T v1 v2) (fun a : SL => (none, (S, a, U, V))) := by
  refine meth_of (L := [(0, .ref 64), (1, .int v1), (2, .int v2)]) (by decide +kernel) (Nat.le_of_ble_eq_true rfl) rfl ?_
  rw [f_X7_compare]
  refine r_iconst (v := (0 : Int32)) dX7_compare_0 rfl ?_
  refine r_istore_n (L' := [(3, .int (0 : Int32)), (0, .ref 64), (1, .int v1), (2, .int v2)]) dX7_compare_1 rfl (by decide) rfl ?_
  exact r_pick [1, 2, 3, 0] rfl (t_X7_compare_2 S U V v1 v2 fu (0 : Int32) T)
def f_X7_extend_22 (T : SL) (v0 : Int32) (v1 : Int32) (v2 : Int64) (rc : SI → SL → Int32 → Int32 → Int64 → Option (Int32 × SI)) : Nat → Int32 → SI → Option (Int32 × SI)
  | 0, _, _ => none
  | m_ + 1, v6, S =>
    if (64 : Int32) ≤ v6 then
      some ((0 : Int32), S)
    else
      if (((v2.toUInt64 >>> (v6.toInt64.toUInt64 &&& Int64.toUInt64 63)).toInt64) &&& (1 : Int64)) = (1 : Int64) then
        gd (inB v0 5) <|
        nm (up2 S 67 (ix v0) v6) fun S7 =>
        gd (inB v6 64) <|
        (rc S7 T (v0 + (1 : Int32)) v1 (v2 &&& (T 68 (ix v6)))).bind fun q9 =>
        if q9.1 = 0 then
          (f_X7_extend_22 T v0 v1 v2 rc m_) (v6 + (1 : Int32)) q9.2
        else
          some ((1 : Int32), q9.2)
      else
        (f_X7_extend_22 T v0 v1 v2 rc m_) (v6 + (1 : Int32)) S
set_option maxHeartbeats 4000000 in
set_option maxRecDepth 100000 in
theorem t_X7_extend_22 (d : Nat) (T : SL) (U : SI) (V : SL) (v0 : Int32) (v1 : Int32) (v2 : Int64) (rc : SI → SL → Int32 → Int32 → Int64 → Option (Int32 × SI)) (hrc : ∀ (S : SI) (T : SL) (U : SI) (V : SL) (v0 : Int32) (v1 : Int32) (v2 : Int64), Meth (d + 2) yX7_extend cX7_extend 7 (some .boolean) [.int v0, .int v1, .long v2, .ref 68, .ref 67] (S, T, U, V) (rc S T v0 v1 v2) (fun a : Int32 × SI => (some (.int a.1), (a.2, T, U, V)))) : ∀ (m_ : Nat) (v6 : Int32) (S : SI), Run (d + 1 + 2) yX7_extend cX7_extend 7 (some .boolean) none (fun a : Int32 × SI => (some (.int a.1), (a.2, T, U, V))) 22 [(0, .int v0), (1, .int v1), (2, .long v2), (4, .ref 68), (5, .ref 67), (6, .int v6)] [] (S, T, U, V) (f_X7_extend_22 T v0 v1 v2 rc m_ v6 S) := by
  intro m_
  induction m_ with
  | zero =>
    intro v6 S
    rw [f_X7_extend_22]
    exact r_none
  | succ m_ ih =>
    intro v6 S
    rw [f_X7_extend_22]
    refine r_iload dX7_extend_22 5 rfl ?_
    refine r_bipush (v := (64 : Int32)) dX7_extend_24 rfl ?_
    refine r_icmp_ge (tgt := 75) dX7_extend_26 (by decide) (fun h4 => ?_) (fun h4 => ?_)
    · refine r_iconst (v := (0 : Int32)) dX7_extend_75 rfl ?_
      exact r_ireturn (ty := .boolean) dX7_extend_76 rfl rfl rfl
    · refine r_lload_n dX7_extend_29 2 rfl rfl ?_
      refine r_iload dX7_extend_30 5 rfl ?_
      refine r_lushr dX7_extend_32 ?_
      refine r_lconst (v := (1 : Int64)) dX7_extend_33 rfl ?_
      refine r_land dX7_extend_34 ?_
      refine r_lconst (v := (1 : Int64)) dX7_extend_35 rfl ?_
      refine r_lcmp_ne (tgt := 69) dX7_extend_36 dX7_extend_37 (by decide) (fun h5 => ?_) (fun h5 => ?_)
      · refine r_aload dX7_extend_40 4 rfl ?_
        refine r_iload_n dX7_extend_42 0 rfl rfl ?_
        refine r_iload dX7_extend_43 5 rfl ?_
        refine rc_iast dX7_extend_45 (by decide) (by decide) rfl (fun h6 => ?_)
        refine r_nmS (fun S7 => ?_)
        refine r_iload_n dX7_extend_46 0 rfl rfl ?_
        refine r_iconst (v := (1 : Int32)) dX7_extend_47 rfl ?_
        refine r_iadd dX7_extend_48 ?_
        refine r_iload_n dX7_extend_49 1 rfl rfl ?_
        refine r_lload_n dX7_extend_50 2 rfl rfl ?_
        refine r_aload dX7_extend_51 3 rfl ?_
        refine r_iload dX7_extend_53 5 rfl ?_
        refine rc_lald dX7_extend_55 (by decide) (by decide) rfl (fun h8 => ?_)
        refine r_land dX7_extend_56 ?_
        refine r_aload dX7_extend_57 3 rfl ?_
        refine r_aload dX7_extend_59 4 rfl ?_
        refine rSc_iS (as := [.int (v0 + (1 : Int32)), .int v1, .long (v2 &&& (T 68 (ix v6))), .ref 68, .ref 67]) (st := []) dX7_extend_61 cl_X7_41 (hrc S7 T U V (v0 + (1 : Int32)) v1 (v2 &&& (T 68 (ix v6)))) (by omega) rfl (Nat.le_of_ble_eq_true rfl) (fun q9 _ => ?_)
        refine r_if_eq (tgt := 69) dX7_extend_64 (by decide) (fun h10 => ?_) (fun h10 => ?_)
        · refine r_iinc (v := v6 + (1 : Int32)) (L' := [(6, .int (v6 + (1 : Int32))), (0, .int v0), (1, .int v1), (2, .long v2), (4, .ref 68), (5, .ref 67)]) dX7_extend_69 5 rfl rfl (by decide) rfl ?_
          refine r_goto (tgt := 22) dX7_extend_72 (by decide) ?_
          exact r_pick [1, 2, 3, 4, 5, 0] rfl (ih (v6 + (1 : Int32)) q9.2)
        · refine r_iconst (v := (1 : Int32)) dX7_extend_67 rfl ?_
          exact r_ireturn (ty := .boolean) dX7_extend_68 rfl rfl rfl
      · refine r_iinc (v := v6 + (1 : Int32)) (L' := [(6, .int (v6 + (1 : Int32))), (0, .int v0), (1, .int v1), (2, .long v2), (4, .ref 68), (5, .ref 67)]) dX7_extend_69 5 rfl rfl (by decide) rfl ?_
        refine r_goto (tgt := 22) dX7_extend_72 (by decide) ?_
        exact r_pick [1, 2, 3, 4, 5, 0] rfl (ih (v6 + (1 : Int32)) S)
def f_X7_extend : Nat → SI → SL → Int32 → Int32 → Int64 → Option (Int32 × SI)
  | 0, _, _, _, _, _ => none
  | d + 1, S, T, v0, v1, v2 =>
    if v0 < v1 then
      (f_J13_bitCount_95d88 v2).bind fun q2 =>
      if (v1 - v0) ≤ q2 then
        f_X7_extend_22 T v0 v1 v2 (f_X7_extend d) fu (0 : Int32) S
      else
        some ((0 : Int32), S)
    else
      some ((1 : Int32), S)
set_option maxHeartbeats 4000000 in
set_option maxRecDepth 100000 in
theorem m_X7_extend : ∀ (d : Nat) (S : SI) (T : SL) (U : SI) (V : SL) (v0 : Int32) (v1 : Int32) (v2 : Int64), Meth (d + 2) yX7_extend cX7_extend 7 (some .boolean) [.int v0, .int v1, .long v2, .ref 68, .ref 67] (S, T, U, V) (f_X7_extend d S T v0 v1 v2) (fun a : Int32 × SI => (some (.int a.1), (a.2, T, U, V))) := by
  intro d
  induction d with
  | zero =>
    intro S T U V v0 v1 v2 z hz
    rw [f_X7_extend] at hz
    exact nomatch hz
  | succ d ih =>
    intro S T U V v0 v1 v2
    refine meth_of (L := [(0, .int v0), (1, .int v1), (2, .long v2), (4, .ref 68), (5, .ref 67)]) (by decide +kernel) (Nat.le_of_ble_eq_true rfl) rfl ?_
    rw [f_X7_extend]
    refine r_iload_n dX7_extend_0 0 rfl rfl ?_
    refine r_iload_n dX7_extend_1 1 rfl rfl ?_
    refine r_icmp_lt (tgt := 7) dX7_extend_2 (by decide) (fun h1 => ?_) (fun h1 => ?_)
    · refine r_lload_n dX7_extend_7 2 rfl rfl ?_
      refine rS_i (as := [.long v2]) (st := []) dX7_extend_8 cl_X7_56 (m_J13_bitCount_95d88 S T U V v2) (by omega) rfl (Nat.le_of_ble_eq_true rfl) (fun q2 _ => ?_)
      refine r_iload_n dX7_extend_11 1 rfl rfl ?_
      refine r_iload_n dX7_extend_12 0 rfl rfl ?_
      refine r_isub dX7_extend_13 ?_
      refine r_icmp_ge (tgt := 19) dX7_extend_14 (by decide) (fun h3 => ?_) (fun h3 => ?_)
      · refine r_iconst (v := (0 : Int32)) dX7_extend_19 rfl ?_
        refine r_istore (L' := [(6, .int (0 : Int32)), (0, .int v0), (1, .int v1), (2, .long v2), (4, .ref 68), (5, .ref 67)]) dX7_extend_20 (by decide) rfl ?_
        exact r_pick [1, 2, 3, 4, 5, 0] rfl (t_X7_extend_22 d T U V v0 v1 v2 (f_X7_extend d) ih fu (0 : Int32) S)
      · refine r_iconst (v := (0 : Int32)) dX7_extend_17 rfl ?_
        exact r_ireturn (ty := .boolean) dX7_extend_18 rfl rfl rfl
    · refine r_iconst (v := (1 : Int32)) dX7_extend_5 rfl ?_
      exact r_ireturn (ty := .boolean) dX7_extend_6 rfl rfl rfl
def f_X7_search_2 (v1 : Int32) (v2 : Int32) : Nat → Int32 → SI → SL → Option (Int32 × SI × SL)
  | 0, _, _, _ => none
  | m_ + 1, v3, S, T =>
    if (6 : Int32) < v3 then
      some ((-4 : Int32), S, T)
    else
      nm ((1 : Int32) <<< (v3 &&& 31)) fun x2 =>
      (f_X7_compare T x2 v2).bind fun q3 =>
      (f_X7_extend 41 S q3 (0 : Int32) v1 (((-1 : Int64).toUInt64 >>> (((64 : Int32) - x2).toInt64.toUInt64 &&& Int64.toUInt64 63)).toInt64)).bind fun q4 =>
      if q4.1 = 0 then
        (f_X7_search_2 v1 v2 m_) (v3 + (1 : Int32)) q4.2 q3
      else
        some (v3, q4.2, q3)
set_option maxHeartbeats 4000000 in
set_option maxRecDepth 100000 in
theorem t_X7_search_2 (U : SI) (V : SL) (v1 : Int32) (v2 : Int32) : ∀ (m_ : Nat) (v3 : Int32) (S : SI) (T : SL), Run 44 yX7_search cX7_search 5 (some .int) none (fun a : Int32 × SI × SL => (some (.int a.1), (a.2.1, a.2.2, U, V))) 2 [(0, .ref 64), (1, .int v1), (2, .int v2), (3, .int v3)] [] (S, T, U, V) (f_X7_search_2 v1 v2 m_ v3 S T) := by
  intro m_
  induction m_ with
  | zero =>
    intro v3 S T
    rw [f_X7_search_2]
    exact r_none
  | succ m_ ih =>
    intro v3 S T
    rw [f_X7_search_2]
    refine r_iload_n dX7_search_2 3 rfl rfl ?_
    refine r_bipush (v := (6 : Int32)) dX7_search_3 rfl ?_
    refine r_icmp_gt (tgt := 53) dX7_search_5 (by decide) (fun h1 => ?_) (fun h1 => ?_)
    · refine r_bipush (v := (-4 : Int32)) dX7_search_53 rfl ?_
      exact r_ireturn (ty := .int) dX7_search_55 rfl (nar_i _) rfl
    · refine r_iconst (v := (1 : Int32)) dX7_search_8 rfl ?_
      refine r_iload_n dX7_search_9 3 rfl rfl ?_
      refine r_ishl dX7_search_10 ?_
      refine r_nmi (fun x2 => ?_)
      refine r_istore (L' := [(4, .int x2), (0, .ref 64), (1, .int v1), (2, .int v2), (3, .int v3)]) dX7_search_11 (by decide) rfl ?_
      refine r_aload_n dX7_search_13 1 rfl rfl ?_
      refine r_iload dX7_search_14 0 rfl ?_
      refine r_iload_n dX7_search_16 3 rfl rfl ?_
      refine rVc_vT (as := [.int x2, .int v2]) (st := []) dX7_search_17 cl_X7_35 (by decide) rfl rfl (m_X7_compare S T U V x2 v2) (by decide) rfl (Nat.le_of_ble_eq_true rfl) (fun q3 _ => ?_)
      refine r_iconst (v := (0 : Int32)) dX7_search_20 rfl ?_
      refine r_iload_n dX7_search_21 2 rfl rfl ?_
      refine r_ldc2_w (v := (-1 : Int64)) dX7_search_22 kw_X7_39 ?_
      refine r_bipush (v := (64 : Int32)) dX7_search_25 rfl ?_
      refine r_iload dX7_search_27 0 rfl ?_
      refine r_isub dX7_search_29 ?_
      refine r_lushr dX7_search_30 ?_
      refine r_aload_n dX7_search_31 1 rfl rfl ?_
      refine r_getr dX7_search_32 fl_X7_21 (by decide) rfl rfl (by decide) ?_
      refine r_aload_n dX7_search_35 1 rfl rfl ?_
      refine r_getr dX7_search_36 fl_X7_18 (by decide) rfl rfl (by decide) ?_
      refine rSc_iS (as := [.int (0 : Int32), .int v1, .long (((-1 : Int64).toUInt64 >>> (((64 : Int32) - x2).toInt64.toUInt64 &&& Int64.toUInt64 63)).toInt64), .ref 68, .ref 67]) (st := []) dX7_search_39 cl_X7_41 (m_X7_extend 41 S q3 U V (0 : Int32) v1 (((-1 : Int64).toUInt64 >>> (((64 : Int32) - x2).toInt64.toUInt64 &&& Int64.toUInt64 63)).toInt64)) (by decide) rfl (Nat.le_of_ble_eq_true rfl) (fun q4 _ => ?_)
      refine r_if_eq (tgt := 47) dX7_search_42 (by decide) (fun h5 => ?_) (fun h5 => ?_)
      · refine r_iinc (v := v3 + (1 : Int32)) (L' := [(3, .int (v3 + (1 : Int32))), (4, .int x2), (0, .ref 64), (1, .int v1), (2, .int v2)]) dX7_search_47 4 rfl rfl (by decide) rfl ?_
        refine r_goto (tgt := 2) dX7_search_50 (by decide) ?_
        exact r_pick [2, 3, 4, 0] rfl (ih (v3 + (1 : Int32)) q4.2 q3)
      · refine r_iload_n dX7_search_45 4 rfl rfl ?_
        exact r_ireturn (ty := .int) dX7_search_46 rfl (nar_i _) rfl
def f_X7_search (S : SI) (T : SL) (v1 : Int32) (v2 : Int32) : Option (Int32 × SI × SL) :=
  f_X7_search_2 v1 v2 fu (1 : Int32) S T
set_option maxHeartbeats 4000000 in
set_option maxRecDepth 100000 in
theorem m_X7_search (S : SI) (T : SL) (U : SI) (V : SL) (v1 : Int32) (v2 : Int32) : Meth 44 yX7_search cX7_search 5 (some .int) [.ref 64, .int v1, .int v2] (S, T, U, V) (f_X7_search S T v1 v2) (fun a : Int32 × SI × SL => (some (.int a.1), (a.2.1, a.2.2, U, V))) := by
  refine meth_of (L := [(0, .ref 64), (1, .int v1), (2, .int v2)]) (by decide +kernel) (Nat.le_of_ble_eq_true rfl) rfl ?_
  rw [f_X7_search]
  refine r_iconst (v := (1 : Int32)) dX7_search_0 rfl ?_
  refine r_istore_n (L' := [(3, .int (1 : Int32)), (0, .ref 64), (1, .int v1), (2, .int v2)]) dX7_search_1 rfl (by decide) rfl ?_
  exact r_pick [1, 2, 3, 0] rfl (t_X7_search_2 U V v1 v2 fu (1 : Int32) S T)
def f_X7_fewest (S : SI) (T : SL) (v1 : Int32) (v2 : Int32) : Option (Int32 × SI × SL) :=
  nm (((v1 - (1 : Int32)) * (4 : Int32)) + v2) fun x1 =>
  gd (inB x1 20) <|
  if (S 65 (ix x1)) = 0 then
    (f_X7_search S T v1 v2).bind fun q4 =>
    gd (inB x1 20) <|
    nm (up2 q4.2.1 65 (ix x1) q4.1) fun S6 =>
    gd (cpB (0 : Int32) (x1 * (5 : Int32)) v1 5 100) <|
    nm (va_up S6 66 (va_cpy (S6 67) (S6 66) (ix (0 : Int32)) (ix (x1 * (5 : Int32))) (ix v1))) fun S8 =>
    gd (inB x1 20) <|
    some (S8 65 (ix x1), S8, q4.2.2)
  else
    gd (inB x1 20) <|
    some (S 65 (ix x1), S, T)
set_option maxHeartbeats 4000000 in
set_option maxRecDepth 100000 in
theorem m_X7_fewest (S : SI) (T : SL) (U : SI) (V : SL) (v1 : Int32) (v2 : Int32) : Meth 45 yX7_fewest cX7_fewest 4 (some .int) [.ref 64, .int v1, .int v2] (S, T, U, V) (f_X7_fewest S T v1 v2) (fun a : Int32 × SI × SL => (some (.int a.1), (a.2.1, a.2.2, U, V))) := by
  refine meth_of (L := [(0, .ref 64), (1, .int v1), (2, .int v2)]) (by decide +kernel) (Nat.le_of_ble_eq_true rfl) rfl ?_
  rw [f_X7_fewest]
  refine r_iload_n dX7_fewest_0 1 rfl rfl ?_
  refine r_iconst (v := (1 : Int32)) dX7_fewest_1 rfl ?_
  refine r_isub dX7_fewest_2 ?_
  refine r_iconst (v := (4 : Int32)) dX7_fewest_3 rfl ?_
  refine r_imul dX7_fewest_4 ?_
  refine r_iload_n dX7_fewest_5 2 rfl rfl ?_
  refine r_iadd dX7_fewest_6 ?_
  refine r_nmi (fun x1 => ?_)
  refine r_istore_n (L' := [(3, .int x1), (0, .ref 64), (1, .int v1), (2, .int v2)]) dX7_fewest_7 rfl (by decide) rfl ?_
  refine r_aload_n dX7_fewest_8 1 rfl rfl ?_
  refine r_getr dX7_fewest_9 fl_X7_11 (by decide) rfl rfl (by decide) ?_
  refine r_iload_n dX7_fewest_12 0 rfl rfl ?_
  refine rc_iald dX7_fewest_13 (by decide) (by decide) rfl (fun h2 => ?_)
  refine r_if_ne (tgt := 45) dX7_fewest_14 (by decide) (fun h3 => ?_) (fun h3 => ?_)
  · refine r_aload_n dX7_fewest_17 1 rfl rfl ?_
    refine r_getr dX7_fewest_18 fl_X7_11 (by decide) rfl rfl (by decide) ?_
    refine r_iload_n dX7_fewest_21 0 rfl rfl ?_
    refine r_aload_n dX7_fewest_22 1 rfl rfl ?_
    refine r_iload_n dX7_fewest_23 2 rfl rfl ?_
    refine r_iload_n dX7_fewest_24 3 rfl rfl ?_
    refine rVc_iB (as := [.int v1, .int v2]) (st := [.int x1, .ref 65]) dX7_fewest_25 cl_X7_25 (by decide) rfl rfl (m_X7_search S T U V v1 v2) (by decide) rfl (Nat.le_of_ble_eq_true rfl) (fun q4 _ => ?_)
    refine rc_iast dX7_fewest_28 (by decide) (by decide) rfl (fun h5 => ?_)
    refine r_nmS (fun S6 => ?_)
    refine r_aload_n dX7_fewest_29 1 rfl rfl ?_
    refine r_getr dX7_fewest_30 fl_X7_18 (by decide) rfl rfl (by decide) ?_
    refine r_iconst (v := (0 : Int32)) dX7_fewest_33 rfl ?_
    refine r_aload_n dX7_fewest_34 1 rfl rfl ?_
    refine r_getr dX7_fewest_35 fl_X7_15 (by decide) rfl rfl (by decide) ?_
    refine r_iload_n dX7_fewest_38 0 rfl rfl ?_
    refine r_iconst (v := (5 : Int32)) dX7_fewest_39 rfl ?_
    refine r_imul dX7_fewest_40 ?_
    refine r_iload_n dX7_fewest_41 2 rfl rfl ?_
    refine rc_copy dX7_fewest_42 cp_X7_29 (by decide) (by decide) (by decide) rfl rfl (Nat.le_of_ble_eq_true rfl) (fun h7 => ?_)
    refine r_nmS (fun S8 => ?_)
    refine r_aload_n dX7_fewest_45 1 rfl rfl ?_
    refine r_getr dX7_fewest_46 fl_X7_11 (by decide) rfl rfl (by decide) ?_
    refine r_iload_n dX7_fewest_49 0 rfl rfl ?_
    refine rc_iald dX7_fewest_50 (by decide) (by decide) rfl (fun h9 => ?_)
    exact r_ireturn (ty := .int) dX7_fewest_51 rfl (nar_i _) rfl
  · refine r_aload_n dX7_fewest_45 1 rfl rfl ?_
    refine r_getr dX7_fewest_46 fl_X7_11 (by decide) rfl rfl (by decide) ?_
    refine r_iload_n dX7_fewest_49 0 rfl rfl ?_
    refine rc_iald dX7_fewest_50 (by decide) (by decide) rfl (fun h10 => ?_)
    exact r_ireturn (ty := .int) dX7_fewest_51 rfl (nar_i _) rfl
def f_X7_markOf (S : SI) (v1 : Int32) (v2 : Int32) (v3 : Int32) : Option (Int32) :=
  gd (inB (((((v1 - (1 : Int32)) * (4 : Int32)) + v2) * (5 : Int32)) + v3) 100) <|
  some (S 66 (ix (((((v1 - (1 : Int32)) * (4 : Int32)) + v2) * (5 : Int32)) + v3)))
set_option maxHeartbeats 4000000 in
set_option maxRecDepth 100000 in
theorem m_X7_markOf (S : SI) (T : SL) (U : SI) (V : SL) (v1 : Int32) (v2 : Int32) (v3 : Int32) : Meth 1 yX7_markOf cX7_markOf 4 (some .int) [.ref 64, .int v1, .int v2, .int v3] (S, T, U, V) (f_X7_markOf S v1 v2 v3) (fun a : Int32 => (some (.int a), (S, T, U, V))) := by
  refine meth_of (L := [(0, .ref 64), (1, .int v1), (2, .int v2), (3, .int v3)]) (by decide +kernel) (Nat.le_of_ble_eq_true rfl) rfl ?_
  rw [f_X7_markOf]
  refine r_aload_n dX7_markOf_0 0 rfl rfl ?_
  refine r_getr dX7_markOf_1 fl_X7_15 (by decide) rfl rfl (by decide) ?_
  refine r_iload_n dX7_markOf_4 1 rfl rfl ?_
  refine r_iconst (v := (1 : Int32)) dX7_markOf_5 rfl ?_
  refine r_isub dX7_markOf_6 ?_
  refine r_iconst (v := (4 : Int32)) dX7_markOf_7 rfl ?_
  refine r_imul dX7_markOf_8 ?_
  refine r_iload_n dX7_markOf_9 2 rfl rfl ?_
  refine r_iadd dX7_markOf_10 ?_
  refine r_iconst (v := (5 : Int32)) dX7_markOf_11 rfl ?_
  refine r_imul dX7_markOf_12 ?_
  refine r_iload_n dX7_markOf_13 3 rfl rfl ?_
  refine r_iadd dX7_markOf_14 ?_
  refine rc_iald dX7_markOf_15 (by decide) (by decide) rfl (fun h1 => ?_)
  exact r_ireturn (ty := .int) dX7_markOf_16 rfl (nar_i _) rfl
