def f_X0_setsWithoutPair (v0 : Int32) (v1 : Int32) (v2 : Int32) (v3 : Int32) : Option (Int64) :=
  if v2 = 0 then
    if v3 = (1 : Int32) then
      some ((v0 + v1).toInt64)
    else
      some (0 : Int64)
  else
    (f_X9_choose v0 v3).bind fun q3 =>
    (f_X9_choose v1 v3).bind fun q4 =>
    some (q3 + q4)
set_option maxHeartbeats 4000000 in
set_option maxRecDepth 100000 in
theorem m_X0_setsWithoutPair (S : SI) (T : SL) (U : SI) (V : SL) (v0 : Int32) (v1 : Int32) (v2 : Int32) (v3 : Int32) : Meth 2 yX0_setsWithoutPair cX0_setsWithoutPair 4 (some .long) [.int v0, .int v1, .int v2, .int v3] (S, T, U, V) (f_X0_setsWithoutPair v0 v1 v2 v3) (fun a : Int64 => (some (.long a), (S, T, U, V))) := by
  refine meth_of (L := [(0, .int v0), (1, .int v1), (2, .int v2), (3, .int v3)]) (by decide +kernel) (Nat.le_of_ble_eq_true rfl) rfl ?_
  rw [f_X0_setsWithoutPair]
  refine r_iload_n dX0_setsWithoutPair_0 2 rfl rfl ?_
  refine r_if_eq (tgt := 16) dX0_setsWithoutPair_1 (by decide) (fun h1 => ?_) (fun h1 => ?_)
  · refine r_iload_n dX0_setsWithoutPair_16 3 rfl rfl ?_
    refine r_iconst (v := (1 : Int32)) dX0_setsWithoutPair_17 rfl ?_
    refine r_icmp_ne (tgt := 28) dX0_setsWithoutPair_18 (by decide) (fun h2 => ?_) (fun h2 => ?_)
    · refine r_iload_n dX0_setsWithoutPair_21 0 rfl rfl ?_
      refine r_iload_n dX0_setsWithoutPair_22 1 rfl rfl ?_
      refine r_iadd dX0_setsWithoutPair_23 ?_
      refine r_i2l dX0_setsWithoutPair_24 ?_
      refine r_goto (tgt := 29) dX0_setsWithoutPair_25 (by decide) ?_
      exact r_lreturn dX0_setsWithoutPair_29 rfl rfl
    · refine r_lconst (v := (0 : Int64)) dX0_setsWithoutPair_28 rfl ?_
      exact r_lreturn dX0_setsWithoutPair_29 rfl rfl
  · refine r_iload_n dX0_setsWithoutPair_4 0 rfl rfl ?_
    refine r_iload_n dX0_setsWithoutPair_5 3 rfl rfl ?_
    refine rN_l (as := [.int v0, .int v3]) (st := []) dX0_setsWithoutPair_6 cl_X0_47 (m_X9_choose S T U V v0 v3) (by decide) rfl (Nat.le_of_ble_eq_true rfl) (fun q3 _ => ?_)
    refine r_iload_n dX0_setsWithoutPair_9 1 rfl rfl ?_
    refine r_iload_n dX0_setsWithoutPair_10 3 rfl rfl ?_
    refine rN_l (as := [.int v1, .int v3]) (st := [.long q3]) dX0_setsWithoutPair_11 cl_X0_47 (m_X9_choose S T U V v1 v3) (by decide) rfl (Nat.le_of_ble_eq_true rfl) (fun q4 _ => ?_)
    refine r_ladd dX0_setsWithoutPair_14 ?_
    exact r_lreturn dX0_setsWithoutPair_15 rfl rfl
def f_X0_addKind_15 (v1 : Int32) (v2 : Int32) (v3 : Int32) (v4 : Int32) (ke57 : SL → Option (SL)) : Nat → Int32 → SL → Option (SL)
  | 0, _, _ => none
  | m_ + 1, v5, T =>
    if v4 < v5 then
      ke57 T
    else
      gd (inB v4 13) <|
      gd (inB (v4 - v5) 13) <|
      (f_X0_setsWithoutPair v1 v2 v3 v5).bind fun q6 =>
      gd (inB v4 13) <|
      nm (up2 T 61 (ix v4) ((T 61 (ix v4)) + ((T 61 (ix (v4 - v5))) * q6))) fun T8 =>
      (f_X0_addKind_15 v1 v2 v3 v4 ke57 m_) (v5 + (1 : Int32)) T8
set_option maxHeartbeats 4000000 in
set_option maxRecDepth 100000 in
theorem t_X0_addKind_15 (S : SI) (U : SI) (V : SL) (v1 : Int32) (v2 : Int32) (v3 : Int32) (v4 : Int32) (ke57 : SL → Option (SL)) (hke57 : ∀ (T' : SL), Run 3 yX0_addKind cX0_addKind 6 none none (fun a : SL => (none, (S, a, U, V))) 57 [(0, .ref 60), (1, .int v1), (2, .int v2), (3, .int v3), (4, .int v4)] [] (S, T', U, V) (ke57 T')) : ∀ (m_ : Nat) (v5 : Int32) (T : SL), Run 3 yX0_addKind cX0_addKind 6 none none (fun a : SL => (none, (S, a, U, V))) 15 [(0, .ref 60), (1, .int v1), (2, .int v2), (3, .int v3), (4, .int v4), (5, .int v5)] [] (S, T, U, V) (f_X0_addKind_15 v1 v2 v3 v4 ke57 m_ v5 T) := by
  intro m_
  induction m_ with
  | zero =>
    intro v5 T
    rw [f_X0_addKind_15]
    exact r_none
  | succ m_ ih =>
    intro v5 T
    rw [f_X0_addKind_15]
    refine r_iload dX0_addKind_15 5 rfl ?_
    refine r_iload dX0_addKind_17 4 rfl ?_
    refine r_icmp_gt (tgt := 57) dX0_addKind_19 (by decide) (fun h3 => ?_) (fun h3 => ?_)
    · exact r_pick [0, 1, 2, 3, 4] rfl (hke57 T)
    · refine r_aload_n dX0_addKind_22 0 rfl rfl ?_
      refine r_getr dX0_addKind_23 fl_X0_9 (by decide) rfl rfl (by decide) ?_
      refine r_iload dX0_addKind_26 4 rfl ?_
      refine r_dup2 dX0_addKind_28 rfl rfl ?_
      refine rc_lald dX0_addKind_29 (by decide) (by decide) rfl (fun h4 => ?_)
      refine r_aload_n dX0_addKind_30 0 rfl rfl ?_
      refine r_getr dX0_addKind_31 fl_X0_9 (by decide) rfl rfl (by decide) ?_
      refine r_iload dX0_addKind_34 4 rfl ?_
      refine r_iload dX0_addKind_36 5 rfl ?_
      refine r_isub dX0_addKind_38 ?_
      refine rc_lald dX0_addKind_39 (by decide) (by decide) rfl (fun h5 => ?_)
      refine r_iload_n dX0_addKind_40 1 rfl rfl ?_
      refine r_iload_n dX0_addKind_41 2 rfl rfl ?_
      refine r_iload_n dX0_addKind_42 3 rfl rfl ?_
      refine r_iload dX0_addKind_43 5 rfl ?_
      refine rS_l (as := [.int v1, .int v2, .int v3, .int v5]) (st := [.long (T 61 (ix (v4 - v5))), .long (T 61 (ix v4)), .int v4, .ref 61]) dX0_addKind_45 cl_X0_43 (m_X0_setsWithoutPair S T U V v1 v2 v3 v5) (by decide) rfl (Nat.le_of_ble_eq_true rfl) (fun q6 _ => ?_)
      refine r_lmul dX0_addKind_48 ?_
      refine r_ladd dX0_addKind_49 ?_
      refine rc_last dX0_addKind_50 (by decide) (by decide) rfl (fun h7 => ?_)
      refine r_nmT (fun T8 => ?_)
      refine r_iinc (v := v5 + (1 : Int32)) (L' := [(5, .int (v5 + (1 : Int32))), (0, .ref 60), (1, .int v1), (2, .int v2), (3, .int v3), (4, .int v4)]) dX0_addKind_51 5 rfl rfl (by decide) rfl ?_
      refine r_goto (tgt := 15) dX0_addKind_54 (by decide) ?_
      exact r_pick [1, 2, 3, 4, 5, 0] rfl (ih (v5 + (1 : Int32)) T8)
def f_X0_addKind_57 (T : SL) (v4 : Int32) (kh6 : Int32 → SL → Option (SL)) : Option (SL) :=
  kh6 (v4 + (-1 : Int32)) T
set_option maxHeartbeats 4000000 in
set_option maxRecDepth 100000 in
theorem t_X0_addKind_57 (S : SI) (T : SL) (U : SI) (V : SL) (v1 : Int32) (v2 : Int32) (v3 : Int32) (v4 : Int32) (kh6 : Int32 → SL → Option (SL)) (hkh6 : ∀ (w4 : Int32) (T' : SL), Run 3 yX0_addKind cX0_addKind 6 none none (fun a : SL => (none, (S, a, U, V))) 6 [(0, .ref 60), (1, .int v1), (2, .int v2), (3, .int v3), (4, .int w4)] [] (S, T', U, V) (kh6 w4 T')) : Run 3 yX0_addKind cX0_addKind 6 none none (fun a : SL => (none, (S, a, U, V))) 57 [(0, .ref 60), (1, .int v1), (2, .int v2), (3, .int v3), (4, .int v4)] [] (S, T, U, V) (f_X0_addKind_57 T v4 kh6) := by
  rw [f_X0_addKind_57]
  refine r_iinc (v := v4 + (-1 : Int32)) (L' := [(4, .int (v4 + (-1 : Int32))), (0, .ref 60), (1, .int v1), (2, .int v2), (3, .int v3)]) dX0_addKind_57 4 rfl rfl (by decide) rfl ?_
  refine r_goto (tgt := 6) dX0_addKind_60 (by decide) ?_
  exact r_pick [1, 2, 3, 4, 0] rfl (hkh6 (v4 + (-1 : Int32)) T)
def f_X0_addKind_6 (v1 : Int32) (v2 : Int32) (v3 : Int32) : Nat → Int32 → SL → Option (SL)
  | 0, _, _ => none
  | m_ + 1, v4, T =>
    if v4 < (1 : Int32) then
      some T
    else
      f_X0_addKind_15 v1 v2 v3 v4 (fun To => f_X0_addKind_57 To v4 (f_X0_addKind_6 v1 v2 v3 m_)) fu (1 : Int32) T
set_option maxHeartbeats 4000000 in
set_option maxRecDepth 100000 in
theorem t_X0_addKind_6 (S : SI) (U : SI) (V : SL) (v1 : Int32) (v2 : Int32) (v3 : Int32) : ∀ (m_ : Nat) (v4 : Int32) (T : SL), Run 3 yX0_addKind cX0_addKind 6 none none (fun a : SL => (none, (S, a, U, V))) 6 [(0, .ref 60), (1, .int v1), (2, .int v2), (3, .int v3), (4, .int v4)] [] (S, T, U, V) (f_X0_addKind_6 v1 v2 v3 m_ v4 T) := by
  intro m_
  induction m_ with
  | zero =>
    intro v4 T
    rw [f_X0_addKind_6]
    exact r_none
  | succ m_ ih =>
    intro v4 T
    rw [f_X0_addKind_6]
    refine r_iload dX0_addKind_6 4 rfl ?_
    refine r_iconst (v := (1 : Int32)) dX0_addKind_8 rfl ?_
    refine r_icmp_lt (tgt := 63) dX0_addKind_9 (by decide) (fun h2 => ?_) (fun h2 => ?_)
    · exact r_return dX0_addKind_63 rfl rfl
    · refine r_iconst (v := (1 : Int32)) dX0_addKind_12 rfl ?_
      refine r_istore (L' := [(5, .int (1 : Int32)), (0, .ref 60), (1, .int v1), (2, .int v2), (3, .int v3), (4, .int v4)]) dX0_addKind_13 (by decide) rfl ?_
      exact r_pick [1, 2, 3, 4, 5, 0] rfl (t_X0_addKind_15 S U V v1 v2 v3 v4 (fun To => f_X0_addKind_57 To v4 (f_X0_addKind_6 v1 v2 v3 m_)) (fun To => r_pick [0, 1, 2, 3, 4] rfl (t_X0_addKind_57 S To U V v1 v2 v3 v4 (f_X0_addKind_6 v1 v2 v3 m_) ih)) fu (1 : Int32) T)
def f_X0_addKind (S : SI) (T : SL) (v1 : Int32) (v2 : Int32) (v3 : Int32) : Option (SL) :=
  nm (S 60 1) fun x1 =>
  f_X0_addKind_6 v1 v2 v3 fu x1 T
set_option maxHeartbeats 4000000 in
set_option maxRecDepth 100000 in
theorem m_X0_addKind (S : SI) (T : SL) (U : SI) (V : SL) (v1 : Int32) (v2 : Int32) (v3 : Int32) : Meth 3 yX0_addKind cX0_addKind 6 none [.ref 60, .int v1, .int v2, .int v3] (S, T, U, V) (f_X0_addKind S T v1 v2 v3) (fun a : SL => (none, (S, a, U, V))) := by
  refine meth_of (L := [(0, .ref 60), (1, .int v1), (2, .int v2), (3, .int v3)]) (by decide +kernel) (Nat.le_of_ble_eq_true rfl) rfl ?_
  rw [f_X0_addKind]
  refine r_aload_n dX0_addKind_0 0 rfl rfl ?_
  refine rc_geti dX0_addKind_1 fl_X0_32 (by decide) (by decide) rfl rfl ?_
  refine r_nmi (fun x1 => ?_)
  refine r_istore (L' := [(4, .int x1), (0, .ref 60), (1, .int v1), (2, .int v2), (3, .int v3)]) dX0_addKind_4 (by decide) rfl ?_
  exact r_pick [1, 2, 3, 4, 0] rfl (t_X0_addKind_6 S U V v1 v2 v3 fu x1 T)
def f_X0_lay_47 (T : SL) (v4 : Int32) (s0 : Int64) (s1 : Int32) (kh24 : Int32 → SL → Option (SI × SL)) : Option (SI × SL) :=
  gd (inB s1 13) <|
  nm (up2 T 61 (ix s1) s0) fun T8 =>
  kh24 (v4 + (1 : Int32)) T8
set_option maxHeartbeats 4000000 in
set_option maxRecDepth 100000 in
theorem t_X0_lay_47 (S : SI) (T : SL) (U : SI) (V : SL) (v2 : Int32) (v3 : Int32) (v4 : Int32) (s0 : Int64) (s1 : Int32) (kh24 : Int32 → SL → Option (SI × SL)) (hkh24 : ∀ (w4 : Int32) (T' : SL), Run 4 yX0_lay cX0_lay 7 none none (fun a : SI × SL => (none, (a.1, a.2, U, V))) 24 [(0, .ref 60), (1, .ref 1), (2, .int v2), (3, .int v3), (4, .int w4)] [] (S, T', U, V) (kh24 w4 T')) : Run 4 yX0_lay cX0_lay 7 none none (fun a : SI × SL => (none, (a.1, a.2, U, V))) 47 [(0, .ref 60), (1, .ref 1), (2, .int v2), (3, .int v3), (4, .int v4)] [.long s0, .int s1, .ref 61] (S, T, U, V) (f_X0_lay_47 T v4 s0 s1 kh24) := by
  rw [f_X0_lay_47]
  refine rc_last dX0_lay_47 (by decide) (by decide) rfl (fun h7 => ?_)
  refine r_nmT (fun T8 => ?_)
  refine r_iinc (v := v4 + (1 : Int32)) (L' := [(4, .int (v4 + (1 : Int32))), (0, .ref 60), (1, .ref 1), (2, .int v2), (3, .int v3)]) dX0_lay_48 4 rfl rfl (by decide) rfl ?_
  refine r_goto (tgt := 24) dX0_lay_51 (by decide) ?_
  exact r_pick [1, 2, 3, 4, 0] rfl (hkh24 (v4 + (1 : Int32)) T8)
def f_X0_lay_24 (ke54 : SL → Option (SI × SL)) : Nat → Int32 → SL → Option (SI × SL)
  | 0, _, _ => none
  | m_ + 1, v4, T =>
    if (12 : Int32) < v4 then
      ke54 T
    else
      if v4 = 0 then
        f_X0_lay_47 T v4 (1 : Int64) v4 (f_X0_lay_24 ke54 m_)
      else
        f_X0_lay_47 T v4 (0 : Int64) v4 (f_X0_lay_24 ke54 m_)
set_option maxHeartbeats 4000000 in
set_option maxRecDepth 100000 in
theorem t_X0_lay_24 (S : SI) (U : SI) (V : SL) (v2 : Int32) (v3 : Int32) (ke54 : SL → Option (SI × SL)) (hke54 : ∀ (T' : SL), Run 4 yX0_lay cX0_lay 7 none none (fun a : SI × SL => (none, (a.1, a.2, U, V))) 54 [(0, .ref 60), (1, .ref 1), (2, .int v2), (3, .int v3)] [] (S, T', U, V) (ke54 T')) : ∀ (m_ : Nat) (v4 : Int32) (T : SL), Run 4 yX0_lay cX0_lay 7 none none (fun a : SI × SL => (none, (a.1, a.2, U, V))) 24 [(0, .ref 60), (1, .ref 1), (2, .int v2), (3, .int v3), (4, .int v4)] [] (S, T, U, V) (f_X0_lay_24 ke54 m_ v4 T) := by
  intro m_
  induction m_ with
  | zero =>
    intro v4 T
    rw [f_X0_lay_24]
    exact r_none
  | succ m_ ih =>
    intro v4 T
    rw [f_X0_lay_24]
    refine r_iload dX0_lay_24 4 rfl ?_
    refine r_bipush (v := (12 : Int32)) dX0_lay_26 rfl ?_
    refine r_icmp_gt (tgt := 54) dX0_lay_28 (by decide) (fun h5 => ?_) (fun h5 => ?_)
    · exact r_pick [0, 1, 2, 3] rfl (hke54 T)
    · refine r_aload_n dX0_lay_31 0 rfl rfl ?_
      refine r_getr dX0_lay_32 fl_X0_9 (by decide) rfl rfl (by decide) ?_
      refine r_iload dX0_lay_35 4 rfl ?_
      refine r_iload dX0_lay_37 4 rfl ?_
      refine r_if_ne (tgt := 46) dX0_lay_39 (by decide) (fun h6 => ?_) (fun h6 => ?_)
      · refine r_lconst (v := (1 : Int64)) dX0_lay_42 rfl ?_
        refine r_goto (tgt := 47) dX0_lay_43 (by decide) ?_
        exact r_pick [0, 1, 2, 3, 4] rfl (t_X0_lay_47 S T U V v2 v3 v4 (1 : Int64) v4 (f_X0_lay_24 ke54 m_) ih)
      · refine r_lconst (v := (0 : Int64)) dX0_lay_46 rfl ?_
        exact r_pick [0, 1, 2, 3, 4] rfl (t_X0_lay_47 S T U V v2 v3 v4 (0 : Int64) v4 (f_X0_lay_24 ke54 m_) ih)
def f_X0_lay_108 (S : SI) (T : SL) (v4 : Int32) (s0 : Int32) (s1 : Int32) (s2 : Int32) (kh57 : Int32 → SL → Option (SI × SL)) : Option (SI × SL) :=
  (f_X0_addKind S T s2 s1 s0).bind fun q15 =>
  kh57 (v4 + (1 : Int32)) q15
set_option maxHeartbeats 4000000 in
set_option maxRecDepth 100000 in
theorem t_X0_lay_108 (S : SI) (T : SL) (U : SI) (V : SL) (v2 : Int32) (v3 : Int32) (v4 : Int32) (s0 : Int32) (s1 : Int32) (s2 : Int32) (kh57 : Int32 → SL → Option (SI × SL)) (hkh57 : ∀ (w4 : Int32) (T' : SL), Run 4 yX0_lay cX0_lay 7 none none (fun a : SI × SL => (none, (a.1, a.2, U, V))) 57 [(0, .ref 60), (1, .ref 1), (2, .int v2), (3, .int v3), (4, .int w4)] [] (S, T', U, V) (kh57 w4 T')) : Run 4 yX0_lay cX0_lay 7 none none (fun a : SI × SL => (none, (a.1, a.2, U, V))) 108 [(0, .ref 60), (1, .ref 1), (2, .int v2), (3, .int v3), (4, .int v4)] [.int s0, .int s1, .int s2, .ref 60] (S, T, U, V) (f_X0_lay_108 S T v4 s0 s1 s2 kh57) := by
  rw [f_X0_lay_108]
  refine rVc_vT (as := [.int s2, .int s1, .int s0]) (st := []) dX0_lay_108 cl_X0_39 (by decide) rfl rfl (m_X0_addKind S T U V s2 s1 s0) (by decide) rfl (Nat.le_of_ble_eq_true rfl) (fun q15 _ => ?_)
  refine r_iinc (v := v4 + (1 : Int32)) (L' := [(4, .int (v4 + (1 : Int32))), (0, .ref 60), (1, .ref 1), (2, .int v2), (3, .int v3)]) dX0_lay_111 4 rfl rfl (by decide) rfl ?_
  refine r_goto (tgt := 57) dX0_lay_114 (by decide) ?_
  exact r_pick [1, 2, 3, 4, 0] rfl (hkh57 (v4 + (1 : Int32)) q15)
def f_X0_lay_57 (S : SI) (v2 : Int32) (v3 : Int32) : Nat → Int32 → SL → Option (SI × SL)
  | 0, _, _ => none
  | m_ + 1, v4, T =>
    if (6 : Int32) ≤ v4 then
      some (S, T)
    else
      (f_X1_having S (0 : Int32) v4).bind fun q10 =>
      nm (v2 &&& q10) fun x11 =>
      (f_J6_bitCount_0f7a4 (x11 &&& v3)).bind fun q12 =>
      (f_J6_bitCount_0f7a4 x11).bind fun q13 =>
      if (S 1 7) = (1 : Int32) then
        f_X0_lay_108 S T v4 (1 : Int32) (q13 - q12) q12 (f_X0_lay_57 S v2 v3 m_)
      else
        f_X0_lay_108 S T v4 (0 : Int32) (q13 - q12) q12 (f_X0_lay_57 S v2 v3 m_)
set_option maxHeartbeats 4000000 in
set_option maxRecDepth 100000 in
theorem t_X0_lay_57 (S : SI) (U : SI) (V : SL) (v2 : Int32) (v3 : Int32) : ∀ (m_ : Nat) (v4 : Int32) (T : SL), Run 4 yX0_lay cX0_lay 7 none none (fun a : SI × SL => (none, (a.1, a.2, U, V))) 57 [(0, .ref 60), (1, .ref 1), (2, .int v2), (3, .int v3), (4, .int v4)] [] (S, T, U, V) (f_X0_lay_57 S v2 v3 m_ v4 T) := by
  intro m_
  induction m_ with
  | zero =>
    intro v4 T
    rw [f_X0_lay_57]
    exact r_none
  | succ m_ ih =>
    intro v4 T
    rw [f_X0_lay_57]
    refine r_iload dX0_lay_57 4 rfl ?_
    refine r_bipush (v := (6 : Int32)) dX0_lay_59 rfl ?_
    refine r_icmp_ge (tgt := 117) dX0_lay_61 (by decide) (fun h9 => ?_) (fun h9 => ?_)
    · exact r_return dX0_lay_117 rfl rfl
    · refine r_iload_n dX0_lay_64 2 rfl rfl ?_
      refine r_aload_n dX0_lay_65 1 rfl rfl ?_
      refine r_iconst (v := (0 : Int32)) dX0_lay_66 rfl ?_
      refine r_iload dX0_lay_67 4 rfl ?_
      refine rV_i (as := [.int (0 : Int32), .int v4]) (st := [.int v2]) dX0_lay_69 cl_X0_23 (by decide) rfl rfl (m_X1_having S T U V (0 : Int32) v4) (by decide) rfl (Nat.le_of_ble_eq_true rfl) (fun q10 _ => ?_)
      refine r_iand dX0_lay_72 ?_
      refine r_nmi (fun x11 => ?_)
      refine r_istore (L' := [(5, .int x11), (0, .ref 60), (1, .ref 1), (2, .int v2), (3, .int v3), (4, .int v4)]) dX0_lay_73 (by decide) rfl ?_
      refine r_iload dX0_lay_75 0 rfl ?_
      refine r_iload_n dX0_lay_77 4 rfl rfl ?_
      refine r_iand dX0_lay_78 ?_
      refine rS_i (as := [.int (x11 &&& v3)]) (st := []) dX0_lay_79 cl_X0_27 (m_J6_bitCount_0f7a4 S T U V (x11 &&& v3)) (by decide) rfl (Nat.le_of_ble_eq_true rfl) (fun q12 _ => ?_)
      refine r_istore (L' := [(6, .int q12), (5, .int x11), (0, .ref 60), (1, .ref 1), (2, .int v2), (3, .int v3), (4, .int v4)]) dX0_lay_82 (by decide) rfl ?_
      refine r_aload_n dX0_lay_84 2 rfl rfl ?_
      refine r_iload dX0_lay_85 0 rfl ?_
      refine r_iload dX0_lay_87 1 rfl ?_
      refine rS_i (as := [.int x11]) (st := [.int q12, .ref 60]) dX0_lay_89 cl_X0_27 (m_J6_bitCount_0f7a4 S T U V x11) (by decide) rfl (Nat.le_of_ble_eq_true rfl) (fun q13 _ => ?_)
      refine r_iload dX0_lay_92 0 rfl ?_
      refine r_isub dX0_lay_94 ?_
      refine r_aload_n dX0_lay_95 3 rfl rfl ?_
      refine rc_geti dX0_lay_96 fl_X0_36 (by decide) (by decide) rfl rfl ?_
      refine r_iconst (v := (1 : Int32)) dX0_lay_99 rfl ?_
      refine r_icmp_ne (tgt := 107) dX0_lay_100 (by decide) (fun h14 => ?_) (fun h14 => ?_)
      · refine r_iconst (v := (1 : Int32)) dX0_lay_103 rfl ?_
        refine r_goto (tgt := 108) dX0_lay_104 (by decide) ?_
        exact r_pick [2, 3, 4, 5, 6] rfl (t_X0_lay_108 S T U V v2 v3 v4 (1 : Int32) (q13 - q12) q12 (f_X0_lay_57 S v2 v3 m_) ih)
      · refine r_iconst (v := (0 : Int32)) dX0_lay_107 rfl ?_
        exact r_pick [2, 3, 4, 5, 6] rfl (t_X0_lay_108 S T U V v2 v3 v4 (0 : Int32) (q13 - q12) q12 (f_X0_lay_57 S v2 v3 m_) ih)
def f_X0_lay_54 (S : SI) (T : SL) (v2 : Int32) (v3 : Int32) : Option (SI × SL) :=
  f_X0_lay_57 S v2 v3 fu (0 : Int32) T
set_option maxHeartbeats 4000000 in
set_option maxRecDepth 100000 in
theorem t_X0_lay_54 (S : SI) (T : SL) (U : SI) (V : SL) (v2 : Int32) (v3 : Int32) : Run 4 yX0_lay cX0_lay 7 none none (fun a : SI × SL => (none, (a.1, a.2, U, V))) 54 [(0, .ref 60), (1, .ref 1), (2, .int v2), (3, .int v3)] [] (S, T, U, V) (f_X0_lay_54 S T v2 v3) := by
  rw [f_X0_lay_54]
  refine r_iconst (v := (0 : Int32)) dX0_lay_54 rfl ?_
  refine r_istore (L' := [(4, .int (0 : Int32)), (0, .ref 60), (1, .ref 1), (2, .int v2), (3, .int v3)]) dX0_lay_55 (by decide) rfl ?_
  exact r_pick [1, 2, 3, 4, 0] rfl (t_X0_lay_57 S U V v2 v3 fu (0 : Int32) T)
def f_X0_lay (S : SI) (T : SL) : Option (SI × SL) :=
  (f_X1_placed S (0 : Int32)).bind fun q1 =>
  (f_X1_having S (1 : Int32) (0 : Int32)).bind fun q2 =>
  (f_J6_bitCount_0f7a4 q1).bind fun q3 =>
  nm (up2 S 60 1 q3) fun S4 =>
  f_X0_lay_24 (fun To => f_X0_lay_54 S4 To q1 q2) fu (0 : Int32) T
set_option maxHeartbeats 4000000 in
set_option maxRecDepth 100000 in
theorem m_X0_lay (S : SI) (T : SL) (U : SI) (V : SL)  : Meth 4 yX0_lay cX0_lay 7 none [.ref 60, .ref 1] (S, T, U, V) (f_X0_lay S T) (fun a : SI × SL => (none, (a.1, a.2, U, V))) := by
  refine meth_of (L := [(0, .ref 60), (1, .ref 1)]) (by decide +kernel) (Nat.le_of_ble_eq_true rfl) rfl ?_
  rw [f_X0_lay]
  refine r_aload_n dX0_lay_0 1 rfl rfl ?_
  refine r_iconst (v := (0 : Int32)) dX0_lay_1 rfl ?_
  refine rV_i (as := [.int (0 : Int32)]) (st := []) dX0_lay_2 cl_X0_15 (by decide) rfl rfl (m_X1_placed S T U V (0 : Int32)) (by decide) rfl (Nat.le_of_ble_eq_true rfl) (fun q1 _ => ?_)
  refine r_istore_n (L' := [(2, .int q1), (0, .ref 60), (1, .ref 1)]) dX0_lay_5 rfl (by decide) rfl ?_
  refine r_aload_n dX0_lay_6 2 rfl rfl ?_
  refine r_iconst (v := (1 : Int32)) dX0_lay_7 rfl ?_
  refine r_iconst (v := (0 : Int32)) dX0_lay_8 rfl ?_
  refine rV_i (as := [.int (1 : Int32), .int (0 : Int32)]) (st := []) dX0_lay_9 cl_X0_23 (by decide) rfl rfl (m_X1_having S T U V (1 : Int32) (0 : Int32)) (by decide) rfl (Nat.le_of_ble_eq_true rfl) (fun q2 _ => ?_)
  refine r_istore_n (L' := [(3, .int q2), (2, .int q1), (0, .ref 60), (1, .ref 1)]) dX0_lay_12 rfl (by decide) rfl ?_
  refine r_aload_n dX0_lay_13 2 rfl rfl ?_
  refine r_iload_n dX0_lay_14 1 rfl rfl ?_
  refine rS_i (as := [.int q1]) (st := [.ref 60]) dX0_lay_15 cl_X0_27 (m_J6_bitCount_0f7a4 S T U V q1) (by decide) rfl (Nat.le_of_ble_eq_true rfl) (fun q3 _ => ?_)
  refine rc_puti (ty := .int) dX0_lay_18 fp_X0_32 (nar_i _) (fit_i _) (by decide) (by decide) rfl rfl ?_
  refine r_nmS (fun S4 => ?_)
  refine r_iconst (v := (0 : Int32)) dX0_lay_21 rfl ?_
  refine r_istore (L' := [(4, .int (0 : Int32)), (3, .int q2), (2, .int q1), (0, .ref 60), (1, .ref 1)]) dX0_lay_22 (by decide) rfl ?_
  exact r_pick [3, 4, 2, 1, 0] rfl (t_X0_lay_24 S4 U V q1 q2 (fun To => f_X0_lay_54 S4 To q1 q2) (fun To => r_pick [0, 1, 2, 3] rfl (t_X0_lay_54 S4 To U V q1 q2)) fu (0 : Int32) T)
def f_X0_longestPairless_4 (S : SI) (T : SL) : Nat → Int32 → Int32 → Option (Int32)
  | 0, _, _ => none
  | m_ + 1, v1, v2 =>
    if (S 60 1) < v2 then
      some v1
    else
      gd (inB v2 13) <|
      if (T 61 (ix v2)) ≤ (0 : Int64) then
        (f_X0_longestPairless_4 S T m_) v1 (v2 + (1 : Int32))
      else
        (f_X0_longestPairless_4 S T m_) v2 (v2 + (1 : Int32))
set_option maxHeartbeats 4000000 in
set_option maxRecDepth 100000 in
theorem t_X0_longestPairless_4 (S : SI) (T : SL) (U : SI) (V : SL) : ∀ (m_ : Nat) (v1 : Int32) (v2 : Int32), Run 1 yX0_longestPairless cX0_longestPairless 3 (some .int) none (fun a : Int32 => (some (.int a), (S, T, U, V))) 4 [(0, .ref 60), (1, .int v1), (2, .int v2)] [] (S, T, U, V) (f_X0_longestPairless_4 S T m_ v1 v2) := by
  intro m_
  induction m_ with
  | zero =>
    intro v1 v2
    rw [f_X0_longestPairless_4]
    exact r_none
  | succ m_ ih =>
    intro v1 v2
    rw [f_X0_longestPairless_4]
    refine r_iload_n dX0_longestPairless_4 2 rfl rfl ?_
    refine r_aload_n dX0_longestPairless_5 0 rfl rfl ?_
    refine rc_geti dX0_longestPairless_6 fl_X0_32 (by decide) (by decide) rfl rfl ?_
    refine r_icmp_gt (tgt := 31) dX0_longestPairless_9 (by decide) (fun h1 => ?_) (fun h1 => ?_)
    · refine r_iload_n dX0_longestPairless_31 1 rfl rfl ?_
      exact r_ireturn (ty := .int) dX0_longestPairless_32 rfl (nar_i _) rfl
    · refine r_aload_n dX0_longestPairless_12 0 rfl rfl ?_
      refine r_getr dX0_longestPairless_13 fl_X0_9 (by decide) rfl rfl (by decide) ?_
      refine r_iload_n dX0_longestPairless_16 2 rfl rfl ?_
      refine rc_lald dX0_longestPairless_17 (by decide) (by decide) rfl (fun h2 => ?_)
      refine r_lconst (v := (0 : Int64)) dX0_longestPairless_18 rfl ?_
      refine r_lcmp_le (tgt := 25) dX0_longestPairless_19 dX0_longestPairless_20 (by decide) (fun h3 => ?_) (fun h3 => ?_)
      · refine r_iinc (v := v2 + (1 : Int32)) (L' := [(2, .int (v2 + (1 : Int32))), (0, .ref 60), (1, .int v1)]) dX0_longestPairless_25 2 rfl rfl (by decide) rfl ?_
        refine r_goto (tgt := 4) dX0_longestPairless_28 (by decide) ?_
        exact r_pick [1, 2, 0] rfl (ih v1 (v2 + (1 : Int32)))
      · refine r_iload_n dX0_longestPairless_23 2 rfl rfl ?_
        refine r_istore_n (L' := [(1, .int v2), (0, .ref 60), (2, .int v2)]) dX0_longestPairless_24 rfl (by decide) rfl ?_
        refine r_iinc (v := v2 + (1 : Int32)) (L' := [(2, .int (v2 + (1 : Int32))), (1, .int v2), (0, .ref 60)]) dX0_longestPairless_25 2 rfl rfl (by decide) rfl ?_
        refine r_goto (tgt := 4) dX0_longestPairless_28 (by decide) ?_
        exact r_pick [2, 1, 0] rfl (ih v2 (v2 + (1 : Int32)))
def f_X0_longestPairless (S : SI) (T : SL) : Option (Int32) :=
  f_X0_longestPairless_4 S T fu (0 : Int32) (1 : Int32)
set_option maxHeartbeats 4000000 in
set_option maxRecDepth 100000 in
theorem m_X0_longestPairless (S : SI) (T : SL) (U : SI) (V : SL)  : Meth 1 yX0_longestPairless cX0_longestPairless 3 (some .int) [.ref 60] (S, T, U, V) (f_X0_longestPairless S T) (fun a : Int32 => (some (.int a), (S, T, U, V))) := by
  refine meth_of (L := [(0, .ref 60)]) (by decide +kernel) (Nat.le_of_ble_eq_true rfl) rfl ?_
  rw [f_X0_longestPairless]
  refine r_iconst (v := (0 : Int32)) dX0_longestPairless_0 rfl ?_
  refine r_istore_n (L' := [(1, .int (0 : Int32)), (0, .ref 60)]) dX0_longestPairless_1 rfl (by decide) rfl ?_
  refine r_iconst (v := (1 : Int32)) dX0_longestPairless_2 rfl ?_
  refine r_istore_n (L' := [(2, .int (1 : Int32)), (1, .int (0 : Int32)), (0, .ref 60)]) dX0_longestPairless_3 rfl (by decide) rfl ?_
  exact r_pick [2, 1, 0] rfl (t_X0_longestPairless_4 S T U V fu (0 : Int32) (1 : Int32))
