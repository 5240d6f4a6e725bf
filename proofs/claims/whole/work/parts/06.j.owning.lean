def f_X2_deal_108 (T : SL) (v4 : Int32) (v5 : Int32) (v6 : Int64) (kh14 : Int32 → SL → Option (SL)) : Option (SL) :=
  gd (inB ((v4 * (13 : Int32)) + v5) 169) <|
  nm (up2 T 63 (ix ((v4 * (13 : Int32)) + v5)) v6) fun T8 =>
  kh14 (v5 + (-1 : Int32)) T8
set_option maxHeartbeats 4000000 in
set_option maxRecDepth 100000 in
theorem t_X2_deal_108 (S : SI) (T : SL) (U : SI) (V : SL) (v1 : Int32) (v2 : Int32) (v3 : Int32) (v4 : Int32) (v5 : Int32) (v6 : Int64) (kh14 : Int32 → SL → Option (SL)) (hkh14 : ∀ (w5 : Int32) (T' : SL), Run 1 yX2_deal cX2_deal 8 none none (fun a : SL => (none, (S, a, U, V))) 14 [(0, .ref 62), (1, .int v1), (2, .int v2), (3, .int v3), (4, .int v4), (5, .int w5)] [] (S, T', U, V) (kh14 w5 T')) : Run 1 yX2_deal cX2_deal 8 none none (fun a : SL => (none, (S, a, U, V))) 108 [(0, .ref 62), (1, .int v1), (2, .int v2), (3, .int v3), (4, .int v4), (5, .int v5), (6, .long v6)] [] (S, T, U, V) (f_X2_deal_108 T v4 v5 v6 kh14) := by
  rw [f_X2_deal_108]
  refine r_aload_n dX2_deal_108 0 rfl rfl ?_
  refine r_getr dX2_deal_109 fl_X2_11 (by decide) rfl rfl (by decide) ?_
  refine r_iload dX2_deal_112 4 rfl ?_
  refine r_bipush (v := (13 : Int32)) dX2_deal_114 rfl ?_
  refine r_imul dX2_deal_116 ?_
  refine r_iload dX2_deal_117 5 rfl ?_
  refine r_iadd dX2_deal_119 ?_
  refine r_lload dX2_deal_120 6 rfl ?_
  refine rc_last dX2_deal_122 (by decide) (by decide) rfl (fun h7 => ?_)
  refine r_nmT (fun T8 => ?_)
  refine r_iinc (v := v5 + (-1 : Int32)) (L' := [(5, .int (v5 + (-1 : Int32))), (0, .ref 62), (1, .int v1), (2, .int v2), (3, .int v3), (4, .int v4), (6, .long v6)]) dX2_deal_123 5 rfl rfl (by decide) rfl ?_
  refine r_goto (tgt := 14) dX2_deal_126 (by decide) ?_
  exact r_pick [1, 2, 3, 4, 5, 0] rfl (hkh14 (v5 + (-1 : Int32)) T8)
def f_X2_deal_76 (T : SL) (v1 : Int32) (v2 : Int32) (v4 : Int32) (v5 : Int32) (v6 : Int64) (kh14 : Int32 → SL → Option (SL)) : Option (SL) :=
  if (v2 &&& (2 : Int32)) = 0 then
    f_X2_deal_108 T v4 v5 v6 kh14
  else
    if v5 < v1 then
      f_X2_deal_108 T v4 v5 v6 kh14
    else
      gd (inB (((v4 * (13 : Int32)) + v5) - v1) 169) <|
      nm (v6 + (T 63 (ix (((v4 * (13 : Int32)) + v5) - v1)))) fun x11 =>
      f_X2_deal_108 T v4 v5 x11 kh14
set_option maxHeartbeats 4000000 in
set_option maxRecDepth 100000 in
theorem t_X2_deal_76 (S : SI) (T : SL) (U : SI) (V : SL) (v1 : Int32) (v2 : Int32) (v3 : Int32) (v4 : Int32) (v5 : Int32) (v6 : Int64) (kh14 : Int32 → SL → Option (SL)) (hkh14 : ∀ (w5 : Int32) (T' : SL), Run 1 yX2_deal cX2_deal 8 none none (fun a : SL => (none, (S, a, U, V))) 14 [(0, .ref 62), (1, .int v1), (2, .int v2), (3, .int v3), (4, .int v4), (5, .int w5)] [] (S, T', U, V) (kh14 w5 T')) : Run 1 yX2_deal cX2_deal 8 none none (fun a : SL => (none, (S, a, U, V))) 76 [(0, .ref 62), (1, .int v1), (2, .int v2), (3, .int v3), (4, .int v4), (5, .int v5), (6, .long v6)] [] (S, T, U, V) (f_X2_deal_76 T v1 v2 v4 v5 v6 kh14) := by
  rw [f_X2_deal_76]
  refine r_iload_n dX2_deal_76 2 rfl rfl ?_
  refine r_iconst (v := (2 : Int32)) dX2_deal_77 rfl ?_
  refine r_iand dX2_deal_78 ?_
  refine r_if_eq (tgt := 108) dX2_deal_79 (by decide) (fun h6 => ?_) (fun h6 => ?_)
  · exact r_pick [0, 1, 2, 3, 4, 5, 6] rfl (t_X2_deal_108 S T U V v1 v2 v3 v4 v5 v6 kh14 hkh14)
  · refine r_iload dX2_deal_82 5 rfl ?_
    refine r_iload_n dX2_deal_84 1 rfl rfl ?_
    refine r_icmp_lt (tgt := 108) dX2_deal_85 (by decide) (fun h9 => ?_) (fun h9 => ?_)
    · exact r_pick [0, 1, 2, 3, 4, 5, 6] rfl (t_X2_deal_108 S T U V v1 v2 v3 v4 v5 v6 kh14 hkh14)
    · refine r_lload dX2_deal_88 6 rfl ?_
      refine r_aload_n dX2_deal_90 0 rfl rfl ?_
      refine r_getr dX2_deal_91 fl_X2_11 (by decide) rfl rfl (by decide) ?_
      refine r_iload dX2_deal_94 4 rfl ?_
      refine r_bipush (v := (13 : Int32)) dX2_deal_96 rfl ?_
      refine r_imul dX2_deal_98 ?_
      refine r_iload dX2_deal_99 5 rfl ?_
      refine r_iadd dX2_deal_101 ?_
      refine r_iload_n dX2_deal_102 1 rfl rfl ?_
      refine r_isub dX2_deal_103 ?_
      refine rc_lald dX2_deal_104 (by decide) (by decide) rfl (fun h10 => ?_)
      refine r_ladd dX2_deal_105 ?_
      refine r_nml (fun x11 => ?_)
      refine r_lstore (L' := [(6, .long x11), (0, .ref 62), (1, .int v1), (2, .int v2), (3, .int v3), (4, .int v4), (5, .int v5)]) dX2_deal_106 (by decide) rfl ?_
      exact r_pick [1, 2, 3, 4, 5, 6, 0] rfl (t_X2_deal_108 S T U V v1 v2 v3 v4 v5 x11 kh14 hkh14)
def f_X2_deal_42 (T : SL) (v1 : Int32) (v2 : Int32) (v4 : Int32) (v5 : Int32) (s0 : Int64) (kh14 : Int32 → SL → Option (SL)) : Option (SL) :=
  if (v2 &&& (1 : Int32)) = 0 then
    f_X2_deal_76 T v1 v2 v4 v5 s0 kh14
  else
    if v4 < v1 then
      f_X2_deal_76 T v1 v2 v4 v5 s0 kh14
    else
      gd (inB (((v4 - v1) * (13 : Int32)) + v5) 169) <|
      nm (s0 + (T 63 (ix (((v4 - v1) * (13 : Int32)) + v5)))) fun x14 =>
      f_X2_deal_76 T v1 v2 v4 v5 x14 kh14
set_option maxHeartbeats 4000000 in
set_option maxRecDepth 100000 in
theorem t_X2_deal_42 (S : SI) (T : SL) (U : SI) (V : SL) (v1 : Int32) (v2 : Int32) (v3 : Int32) (v4 : Int32) (v5 : Int32) (s0 : Int64) (kh14 : Int32 → SL → Option (SL)) (hkh14 : ∀ (w5 : Int32) (T' : SL), Run 1 yX2_deal cX2_deal 8 none none (fun a : SL => (none, (S, a, U, V))) 14 [(0, .ref 62), (1, .int v1), (2, .int v2), (3, .int v3), (4, .int v4), (5, .int w5)] [] (S, T', U, V) (kh14 w5 T')) : Run 1 yX2_deal cX2_deal 8 none none (fun a : SL => (none, (S, a, U, V))) 42 [(0, .ref 62), (1, .int v1), (2, .int v2), (3, .int v3), (4, .int v4), (5, .int v5)] [.long s0] (S, T, U, V) (f_X2_deal_42 T v1 v2 v4 v5 s0 kh14) := by
  rw [f_X2_deal_42]
  refine r_lstore (L' := [(6, .long s0), (0, .ref 62), (1, .int v1), (2, .int v2), (3, .int v3), (4, .int v4), (5, .int v5)]) dX2_deal_42 (by decide) rfl ?_
  refine r_iload_n dX2_deal_44 3 rfl rfl ?_
  refine r_iconst (v := (1 : Int32)) dX2_deal_45 rfl ?_
  refine r_iand dX2_deal_46 ?_
  refine r_if_eq (tgt := 76) dX2_deal_47 (by decide) (fun h5 => ?_) (fun h5 => ?_)
  · exact r_pick [1, 2, 3, 4, 5, 6, 0] rfl (t_X2_deal_76 S T U V v1 v2 v3 v4 v5 s0 kh14 hkh14)
  · refine r_iload dX2_deal_50 5 rfl ?_
    refine r_iload_n dX2_deal_52 2 rfl rfl ?_
    refine r_icmp_lt (tgt := 76) dX2_deal_53 (by decide) (fun h12 => ?_) (fun h12 => ?_)
    · exact r_pick [1, 2, 3, 4, 5, 6, 0] rfl (t_X2_deal_76 S T U V v1 v2 v3 v4 v5 s0 kh14 hkh14)
    · refine r_lload dX2_deal_56 0 rfl ?_
      refine r_aload_n dX2_deal_58 1 rfl rfl ?_
      refine r_getr dX2_deal_59 fl_X2_11 (by decide) rfl rfl (by decide) ?_
      refine r_iload dX2_deal_62 5 rfl ?_
      refine r_iload_n dX2_deal_64 2 rfl rfl ?_
      refine r_isub dX2_deal_65 ?_
      refine r_bipush (v := (13 : Int32)) dX2_deal_66 rfl ?_
      refine r_imul dX2_deal_68 ?_
      refine r_iload dX2_deal_69 6 rfl ?_
      refine r_iadd dX2_deal_71 ?_
      refine rc_lald dX2_deal_72 (by decide) (by decide) rfl (fun h13 => ?_)
      refine r_ladd dX2_deal_73 ?_
      refine r_nml (fun x14 => ?_)
      refine r_lstore (L' := [(6, .long x14), (0, .ref 62), (1, .int v1), (2, .int v2), (3, .int v3), (4, .int v4), (5, .int v5)]) dX2_deal_74 (by decide) rfl ?_
      exact r_pick [1, 2, 3, 4, 5, 6, 0] rfl (t_X2_deal_76 S T U V v1 v2 v3 v4 v5 x14 kh14 hkh14)
def f_X2_deal_14 (v1 : Int32) (v2 : Int32) (v4 : Int32) (ke129 : SL → Option (SL)) : Nat → Int32 → SL → Option (SL)
  | 0, _, _ => none
  | m_ + 1, v5, T =>
    if v5 < 0 then
      ke129 T
    else
      if (v2 &&& (4 : Int32)) = 0 then
        f_X2_deal_42 T v1 v2 v4 v5 (0 : Int64) (f_X2_deal_14 v1 v2 v4 ke129 m_)
      else
        gd (inB ((v4 * (13 : Int32)) + v5) 169) <|
        f_X2_deal_42 T v1 v2 v4 v5 (T 63 (ix ((v4 * (13 : Int32)) + v5))) (f_X2_deal_14 v1 v2 v4 ke129 m_)
set_option maxHeartbeats 4000000 in
set_option maxRecDepth 100000 in
theorem t_X2_deal_14 (S : SI) (U : SI) (V : SL) (v1 : Int32) (v2 : Int32) (v3 : Int32) (v4 : Int32) (ke129 : SL → Option (SL)) (hke129 : ∀ (T' : SL), Run 1 yX2_deal cX2_deal 8 none none (fun a : SL => (none, (S, a, U, V))) 129 [(0, .ref 62), (1, .int v1), (2, .int v2), (3, .int v3), (4, .int v4)] [] (S, T', U, V) (ke129 T')) : ∀ (m_ : Nat) (v5 : Int32) (T : SL), Run 1 yX2_deal cX2_deal 8 none none (fun a : SL => (none, (S, a, U, V))) 14 [(0, .ref 62), (1, .int v1), (2, .int v2), (3, .int v3), (4, .int v4), (5, .int v5)] [] (S, T, U, V) (f_X2_deal_14 v1 v2 v4 ke129 m_ v5 T) := by
  intro m_
  induction m_ with
  | zero =>
    intro v5 T
    rw [f_X2_deal_14]
    exact r_none
  | succ m_ ih =>
    intro v5 T
    rw [f_X2_deal_14]
    refine r_iload dX2_deal_14 5 rfl ?_
    refine r_if_lt (tgt := 129) dX2_deal_16 (by decide) (fun h3 => ?_) (fun h3 => ?_)
    · exact r_pick [0, 1, 2, 3, 4] rfl (hke129 T)
    · refine r_iload_n dX2_deal_19 2 rfl rfl ?_
      refine r_iconst (v := (4 : Int32)) dX2_deal_20 rfl ?_
      refine r_iand dX2_deal_21 ?_
      refine r_if_eq (tgt := 41) dX2_deal_22 (by decide) (fun h4 => ?_) (fun h4 => ?_)
      · refine r_lconst (v := (0 : Int64)) dX2_deal_41 rfl ?_
        exact r_pick [0, 1, 2, 3, 4, 5] rfl (t_X2_deal_42 S T U V v1 v2 v3 v4 v5 (0 : Int64) (f_X2_deal_14 v1 v2 v4 ke129 m_) ih)
      · refine r_aload_n dX2_deal_25 0 rfl rfl ?_
        refine r_getr dX2_deal_26 fl_X2_11 (by decide) rfl rfl (by decide) ?_
        refine r_iload dX2_deal_29 4 rfl ?_
        refine r_bipush (v := (13 : Int32)) dX2_deal_31 rfl ?_
        refine r_imul dX2_deal_33 ?_
        refine r_iload dX2_deal_34 5 rfl ?_
        refine r_iadd dX2_deal_36 ?_
        refine rc_lald dX2_deal_37 (by decide) (by decide) rfl (fun h15 => ?_)
        refine r_goto (tgt := 42) dX2_deal_38 (by decide) ?_
        exact r_pick [0, 1, 2, 3, 4, 5] rfl (t_X2_deal_42 S T U V v1 v2 v3 v4 v5 (T 63 (ix ((v4 * (13 : Int32)) + v5))) (f_X2_deal_14 v1 v2 v4 ke129 m_) ih)
def f_X2_deal_129 (T : SL) (v4 : Int32) (kh3 : Int32 → SL → Option (SL)) : Option (SL) :=
  kh3 (v4 + (-1 : Int32)) T
set_option maxHeartbeats 4000000 in
set_option maxRecDepth 100000 in
theorem t_X2_deal_129 (S : SI) (T : SL) (U : SI) (V : SL) (v1 : Int32) (v2 : Int32) (v3 : Int32) (v4 : Int32) (kh3 : Int32 → SL → Option (SL)) (hkh3 : ∀ (w4 : Int32) (T' : SL), Run 1 yX2_deal cX2_deal 8 none none (fun a : SL => (none, (S, a, U, V))) 3 [(0, .ref 62), (1, .int v1), (2, .int v2), (3, .int v3), (4, .int w4)] [] (S, T', U, V) (kh3 w4 T')) : Run 1 yX2_deal cX2_deal 8 none none (fun a : SL => (none, (S, a, U, V))) 129 [(0, .ref 62), (1, .int v1), (2, .int v2), (3, .int v3), (4, .int v4)] [] (S, T, U, V) (f_X2_deal_129 T v4 kh3) := by
  rw [f_X2_deal_129]
  refine r_iinc (v := v4 + (-1 : Int32)) (L' := [(4, .int (v4 + (-1 : Int32))), (0, .ref 62), (1, .int v1), (2, .int v2), (3, .int v3)]) dX2_deal_129 4 rfl rfl (by decide) rfl ?_
  refine r_goto (tgt := 3) dX2_deal_132 (by decide) ?_
  exact r_pick [1, 2, 3, 4, 0] rfl (hkh3 (v4 + (-1 : Int32)) T)
def f_X2_deal_3 (v1 : Int32) (v2 : Int32) (v3 : Int32) : Nat → Int32 → SL → Option (SL)
  | 0, _, _ => none
  | m_ + 1, v4, T =>
    if v4 < 0 then
      some T
    else
      nm (v3 - v4) fun x2 =>
      f_X2_deal_14 v1 v2 v4 (fun To => f_X2_deal_129 To v4 (f_X2_deal_3 v1 v2 v3 m_)) fu x2 T
set_option maxHeartbeats 4000000 in
set_option maxRecDepth 100000 in
theorem t_X2_deal_3 (S : SI) (U : SI) (V : SL) (v1 : Int32) (v2 : Int32) (v3 : Int32) : ∀ (m_ : Nat) (v4 : Int32) (T : SL), Run 1 yX2_deal cX2_deal 8 none none (fun a : SL => (none, (S, a, U, V))) 3 [(0, .ref 62), (1, .int v1), (2, .int v2), (3, .int v3), (4, .int v4)] [] (S, T, U, V) (f_X2_deal_3 v1 v2 v3 m_ v4 T) := by
  intro m_
  induction m_ with
  | zero =>
    intro v4 T
    rw [f_X2_deal_3]
    exact r_none
  | succ m_ ih =>
    intro v4 T
    rw [f_X2_deal_3]
    refine r_iload dX2_deal_3 4 rfl ?_
    refine r_if_lt (tgt := 135) dX2_deal_5 (by decide) (fun h1 => ?_) (fun h1 => ?_)
    · exact r_return dX2_deal_135 rfl rfl
    · refine r_iload_n dX2_deal_8 3 rfl rfl ?_
      refine r_iload dX2_deal_9 4 rfl ?_
      refine r_isub dX2_deal_11 ?_
      refine r_nmi (fun x2 => ?_)
      refine r_istore (L' := [(5, .int x2), (0, .ref 62), (1, .int v1), (2, .int v2), (3, .int v3), (4, .int v4)]) dX2_deal_12 (by decide) rfl ?_
      exact r_pick [1, 2, 3, 4, 5, 0] rfl (t_X2_deal_14 S U V v1 v2 v3 v4 (fun To => f_X2_deal_129 To v4 (f_X2_deal_3 v1 v2 v3 m_)) (fun To => r_pick [0, 1, 2, 3, 4] rfl (t_X2_deal_129 S To U V v1 v2 v3 v4 (f_X2_deal_3 v1 v2 v3 m_) ih)) fu x2 T)
def f_X2_deal (T : SL) (v1 : Int32) (v2 : Int32) (v3 : Int32) : Option (SL) :=
  f_X2_deal_3 v1 v2 v3 fu v3 T
set_option maxHeartbeats 4000000 in
set_option maxRecDepth 100000 in
theorem m_X2_deal (S : SI) (T : SL) (U : SI) (V : SL) (v1 : Int32) (v2 : Int32) (v3 : Int32) : Meth 1 yX2_deal cX2_deal 8 none [.ref 62, .int v1, .int v2, .int v3] (S, T, U, V) (f_X2_deal T v1 v2 v3) (fun a : SL => (none, (S, a, U, V))) := by
  refine meth_of (L := [(0, .ref 62), (1, .int v1), (2, .int v2), (3, .int v3)]) (by decide +kernel) (Nat.le_of_ble_eq_true rfl) rfl ?_
  rw [f_X2_deal]
  refine r_iload_n dX2_deal_0 3 rfl rfl ?_
  refine r_istore (L' := [(4, .int v3), (0, .ref 62), (1, .int v1), (2, .int v2), (3, .int v3)]) dX2_deal_1 (by decide) rfl ?_
  exact r_pick [1, 2, 3, 4, 0] rfl (t_X2_deal_3 S U V v1 v2 v3 fu v3 T)
def f_X2_ownersOf_59 (v5 : Int32) (s0 : Int32) (s1 : Int32) (kh7 : Int32 → Int32 → Option (Int32)) : Option (Int32) :=
  nm (s1 &&& s0) fun x5 =>
  kh7 x5 (v5 + (1 : Int32))
set_option maxHeartbeats 4000000 in
set_option maxRecDepth 100000 in
theorem t_X2_ownersOf_59 (S : SI) (T : SL) (U : SI) (V : SL) (v1 : Int32) (v2 : Int32) (v3 : Int32) (v5 : Int32) (s0 : Int32) (s1 : Int32) (kh7 : Int32 → Int32 → Option (Int32)) (hkh7 : ∀ (w4 : Int32) (w5 : Int32), Run 1 yX2_ownersOf cX2_ownersOf 6 (some .int) none (fun a : Int32 => (some (.int a), (S, T, U, V))) 7 [(0, .ref 1), (1, .int v1), (2, .int v2), (3, .int v3), (4, .int w4), (5, .int w5)] [] (S, T, U, V) (kh7 w4 w5)) : Run 1 yX2_ownersOf cX2_ownersOf 6 (some .int) none (fun a : Int32 => (some (.int a), (S, T, U, V))) 59 [(0, .ref 1), (1, .int v1), (2, .int v2), (3, .int v3), (5, .int v5)] [.int s0, .int s1] (S, T, U, V) (f_X2_ownersOf_59 v5 s0 s1 kh7) := by
  rw [f_X2_ownersOf_59]
  refine r_iand dX2_ownersOf_59 ?_
  refine r_nmi (fun x5 => ?_)
  refine r_istore (L' := [(4, .int x5), (0, .ref 1), (1, .int v1), (2, .int v2), (3, .int v3), (5, .int v5)]) dX2_ownersOf_60 (by decide) rfl ?_
  refine r_iinc (v := v5 + (1 : Int32)) (L' := [(5, .int (v5 + (1 : Int32))), (4, .int x5), (0, .ref 1), (1, .int v1), (2, .int v2), (3, .int v3)]) dX2_ownersOf_62 5 rfl rfl (by decide) rfl ?_
  refine r_goto (tgt := 7) dX2_ownersOf_65 (by decide) ?_
  exact r_pick [2, 3, 4, 5, 1, 0] rfl (hkh7 x5 (v5 + (1 : Int32)))
def f_X2_ownersOf_7 (S : SI) (v1 : Int32) (v2 : Int32) (v3 : Int32) : Nat → Int32 → Int32 → Option (Int32)
  | 0, _, _ => none
  | m_ + 1, v4, v5 =>
    if (S 1 1) ≤ v5 then
      some v4
    else
      if ((v1 >>> (v5 &&& 31)) &&& (1 : Int32)) = (1 : Int32) then
        if v5 = v2 then
          gd (inB v5 12) <|
          f_X2_ownersOf_59 v5 ((S (9 + ix v5) 7) &&& v3) v4 (f_X2_ownersOf_7 S v1 v2 v3 m_)
        else
          gd (inB v5 12) <|
          f_X2_ownersOf_59 v5 (S (9 + ix v5) 7) v4 (f_X2_ownersOf_7 S v1 v2 v3 m_)
      else
        (f_X2_ownersOf_7 S v1 v2 v3 m_) v4 (v5 + (1 : Int32))
set_option maxHeartbeats 4000000 in
set_option maxRecDepth 100000 in
theorem t_X2_ownersOf_7 (S : SI) (T : SL) (U : SI) (V : SL) (v1 : Int32) (v2 : Int32) (v3 : Int32) : ∀ (m_ : Nat) (v4 : Int32) (v5 : Int32), Run 1 yX2_ownersOf cX2_ownersOf 6 (some .int) none (fun a : Int32 => (some (.int a), (S, T, U, V))) 7 [(0, .ref 1), (1, .int v1), (2, .int v2), (3, .int v3), (4, .int v4), (5, .int v5)] [] (S, T, U, V) (f_X2_ownersOf_7 S v1 v2 v3 m_ v4 v5) := by
  intro m_
  induction m_ with
  | zero =>
    intro v4 v5
    rw [f_X2_ownersOf_7]
    exact r_none
  | succ m_ ih =>
    intro v4 v5
    rw [f_X2_ownersOf_7]
    refine r_iload dX2_ownersOf_7 5 rfl ?_
    refine r_aload_n dX2_ownersOf_9 0 rfl rfl ?_
    refine rc_geti dX2_ownersOf_10 fl_X2_31 (by decide) (by decide) rfl rfl ?_
    refine r_icmp_ge (tgt := 68) dX2_ownersOf_13 (by decide) (fun h1 => ?_) (fun h1 => ?_)
    · refine r_iload dX2_ownersOf_68 4 rfl ?_
      exact r_ireturn (ty := .int) dX2_ownersOf_70 rfl (nar_i _) rfl
    · refine r_iload_n dX2_ownersOf_16 1 rfl rfl ?_
      refine r_iload dX2_ownersOf_17 5 rfl ?_
      refine r_ishr dX2_ownersOf_19 ?_
      refine r_iconst (v := (1 : Int32)) dX2_ownersOf_20 rfl ?_
      refine r_iand dX2_ownersOf_21 ?_
      refine r_iconst (v := (1 : Int32)) dX2_ownersOf_22 rfl ?_
      refine r_icmp_ne (tgt := 62) dX2_ownersOf_23 (by decide) (fun h2 => ?_) (fun h2 => ?_)
      · refine r_iload dX2_ownersOf_26 4 rfl ?_
        refine r_iload dX2_ownersOf_28 5 rfl ?_
        refine r_iload_n dX2_ownersOf_30 2 rfl rfl ?_
        refine r_icmp_ne (tgt := 49) dX2_ownersOf_31 (by decide) (fun h3 => ?_) (fun h3 => ?_)
        · refine r_aload_n dX2_ownersOf_34 0 rfl rfl ?_
          refine r_getr dX2_ownersOf_35 fl_X2_51 (by decide) rfl rfl (by decide) ?_
          refine r_iload dX2_ownersOf_38 5 rfl ?_
          refine r_aald (x := 9 + ix v5) dX2_ownersOf_40 (by decide) rfl (by decide) (by decide) rfl (fun h4 => ?_)
          refine rc_geti dX2_ownersOf_41 fl_X2_55 (isS_9 h4).1 (isS_9 h4).a (isS_9 h4).2 rfl ?_
          refine r_iload_n dX2_ownersOf_44 3 rfl rfl ?_
          refine r_iand dX2_ownersOf_45 ?_
          refine r_goto (tgt := 59) dX2_ownersOf_46 (by decide) ?_
          exact r_pick [0, 1, 2, 3, 5] rfl (t_X2_ownersOf_59 S T U V v1 v2 v3 v5 ((S (9 + ix v5) 7) &&& v3) v4 (f_X2_ownersOf_7 S v1 v2 v3 m_) ih)
        · refine r_aload_n dX2_ownersOf_49 0 rfl rfl ?_
          refine r_getr dX2_ownersOf_50 fl_X2_51 (by decide) rfl rfl (by decide) ?_
          refine r_iload dX2_ownersOf_53 5 rfl ?_
          refine r_aald (x := 9 + ix v5) dX2_ownersOf_55 (by decide) rfl (by decide) (by decide) rfl (fun h6 => ?_)
          refine rc_geti dX2_ownersOf_56 fl_X2_55 (isS_9 h6).1 (isS_9 h6).a (isS_9 h6).2 rfl ?_
          exact r_pick [0, 1, 2, 3, 5] rfl (t_X2_ownersOf_59 S T U V v1 v2 v3 v5 (S (9 + ix v5) 7) v4 (f_X2_ownersOf_7 S v1 v2 v3 m_) ih)
      · refine r_iinc (v := v5 + (1 : Int32)) (L' := [(5, .int (v5 + (1 : Int32))), (0, .ref 1), (1, .int v1), (2, .int v2), (3, .int v3), (4, .int v4)]) dX2_ownersOf_62 5 rfl rfl (by decide) rfl ?_
        refine r_goto (tgt := 7) dX2_ownersOf_65 (by decide) ?_
        exact r_pick [1, 2, 3, 4, 5, 0] rfl (ih v4 (v5 + (1 : Int32)))
def f_X2_ownersOf (S : SI) (v1 : Int32) (v2 : Int32) (v3 : Int32) : Option (Int32) :=
  f_X2_ownersOf_7 S v1 v2 v3 fu (7 : Int32) (0 : Int32)
set_option maxHeartbeats 4000000 in
set_option maxRecDepth 100000 in
theorem m_X2_ownersOf (S : SI) (T : SL) (U : SI) (V : SL) (v1 : Int32) (v2 : Int32) (v3 : Int32) : Meth 1 yX2_ownersOf cX2_ownersOf 6 (some .int) [.ref 1, .int v1, .int v2, .int v3] (S, T, U, V) (f_X2_ownersOf S v1 v2 v3) (fun a : Int32 => (some (.int a), (S, T, U, V))) := by
  refine meth_of (L := [(0, .ref 1), (1, .int v1), (2, .int v2), (3, .int v3)]) (by decide +kernel) (Nat.le_of_ble_eq_true rfl) rfl ?_
  rw [f_X2_ownersOf]
  refine r_bipush (v := (7 : Int32)) dX2_ownersOf_0 rfl ?_
  refine r_istore (L' := [(4, .int (7 : Int32)), (0, .ref 1), (1, .int v1), (2, .int v2), (3, .int v3)]) dX2_ownersOf_2 (by decide) rfl ?_
  refine r_iconst (v := (0 : Int32)) dX2_ownersOf_4 rfl ?_
  refine r_istore (L' := [(5, .int (0 : Int32)), (4, .int (7 : Int32)), (0, .ref 1), (1, .int v1), (2, .int v2), (3, .int v3)]) dX2_ownersOf_5 (by decide) rfl ?_
  exact r_pick [2, 3, 4, 5, 1, 0] rfl (t_X2_ownersOf_7 S T U V v1 v2 v3 fu (7 : Int32) (0 : Int32))
def f_X2_dealKind_27 (T : SL) (v5 : Int32) (s0 : Int64) (s1 : Int32) (kh3 : Int32 → SL → Option (Int32 × SL)) : Option (Int32 × SL) :=
  gd (inB s1 169) <|
  nm (up2 T 63 (ix s1) s0) fun T4 =>
  kh3 (v5 + (1 : Int32)) T4
set_option maxHeartbeats 4000000 in
set_option maxRecDepth 100000 in
theorem t_X2_dealKind_27 (S : SI) (T : SL) (U : SI) (V : SL) (v2 : Int32) (v3 : Int32) (v4 : Int32) (v5 : Int32) (s0 : Int64) (s1 : Int32) (kh3 : Int32 → SL → Option (Int32 × SL)) (hkh3 : ∀ (w5 : Int32) (T' : SL), Run 3 yX2_dealKind cX2_dealKind 9 (some .int) none (fun a : Int32 × SL => (some (.int a.1), (S, a.2, U, V))) 3 [(0, .ref 62), (1, .ref 1), (2, .int v2), (3, .int v3), (4, .int v4), (5, .int w5)] [] (S, T', U, V) (kh3 w5 T')) : Run 3 yX2_dealKind cX2_dealKind 9 (some .int) none (fun a : Int32 × SL => (some (.int a.1), (S, a.2, U, V))) 27 [(0, .ref 62), (1, .ref 1), (2, .int v2), (3, .int v3), (4, .int v4), (5, .int v5)] [.long s0, .int s1, .ref 63] (S, T, U, V) (f_X2_dealKind_27 T v5 s0 s1 kh3) := by
  rw [f_X2_dealKind_27]
  refine rc_last dX2_dealKind_27 (by decide) (by decide) rfl (fun h3 => ?_)
  refine r_nmT (fun T4 => ?_)
  refine r_iinc (v := v5 + (1 : Int32)) (L' := [(5, .int (v5 + (1 : Int32))), (0, .ref 62), (1, .ref 1), (2, .int v2), (3, .int v3), (4, .int v4)]) dX2_dealKind_28 5 rfl rfl (by decide) rfl ?_
  refine r_goto (tgt := 3) dX2_dealKind_31 (by decide) ?_
  exact r_pick [1, 2, 3, 4, 5, 0] rfl (hkh3 (v5 + (1 : Int32)) T4)
def f_X2_dealKind_3 (ke34 : SL → Option (Int32 × SL)) : Nat → Int32 → SL → Option (Int32 × SL)
  | 0, _, _ => none
  | m_ + 1, v5, T =>
    if (169 : Int32) ≤ v5 then
      ke34 T
    else
      if v5 = 0 then
        f_X2_dealKind_27 T v5 (1 : Int64) v5 (f_X2_dealKind_3 ke34 m_)
      else
        f_X2_dealKind_27 T v5 (0 : Int64) v5 (f_X2_dealKind_3 ke34 m_)
set_option maxHeartbeats 4000000 in
set_option maxRecDepth 100000 in
theorem t_X2_dealKind_3 (S : SI) (U : SI) (V : SL) (v2 : Int32) (v3 : Int32) (v4 : Int32) (ke34 : SL → Option (Int32 × SL)) (hke34 : ∀ (T' : SL), Run 3 yX2_dealKind cX2_dealKind 9 (some .int) none (fun a : Int32 × SL => (some (.int a.1), (S, a.2, U, V))) 34 [(0, .ref 62), (1, .ref 1), (2, .int v2), (3, .int v3), (4, .int v4)] [] (S, T', U, V) (ke34 T')) : ∀ (m_ : Nat) (v5 : Int32) (T : SL), Run 3 yX2_dealKind cX2_dealKind 9 (some .int) none (fun a : Int32 × SL => (some (.int a.1), (S, a.2, U, V))) 3 [(0, .ref 62), (1, .ref 1), (2, .int v2), (3, .int v3), (4, .int v4), (5, .int v5)] [] (S, T, U, V) (f_X2_dealKind_3 ke34 m_ v5 T) := by
  intro m_
  induction m_ with
  | zero =>
    intro v5 T
    rw [f_X2_dealKind_3]
    exact r_none
  | succ m_ ih =>
    intro v5 T
    rw [f_X2_dealKind_3]
    refine r_iload dX2_dealKind_3 5 rfl ?_
    refine r_sipush (v := (169 : Int32)) dX2_dealKind_5 rfl ?_
    refine r_icmp_ge (tgt := 34) dX2_dealKind_8 (by decide) (fun h1 => ?_) (fun h1 => ?_)
    · exact r_pick [0, 1, 2, 3, 4] rfl (hke34 T)
    · refine r_aload_n dX2_dealKind_11 0 rfl rfl ?_
      refine r_getr dX2_dealKind_12 fl_X2_11 (by decide) rfl rfl (by decide) ?_
      refine r_iload dX2_dealKind_15 5 rfl ?_
      refine r_iload dX2_dealKind_17 5 rfl ?_
      refine r_if_ne (tgt := 26) dX2_dealKind_19 (by decide) (fun h2 => ?_) (fun h2 => ?_)
      · refine r_lconst (v := (1 : Int64)) dX2_dealKind_22 rfl ?_
        refine r_goto (tgt := 27) dX2_dealKind_23 (by decide) ?_
        exact r_pick [0, 1, 2, 3, 4, 5] rfl (t_X2_dealKind_27 S T U V v2 v3 v4 v5 (1 : Int64) v5 (f_X2_dealKind_3 ke34 m_) ih)
      · refine r_lconst (v := (0 : Int64)) dX2_dealKind_26 rfl ?_
        exact r_pick [0, 1, 2, 3, 4, 5] rfl (t_X2_dealKind_27 S T U V v2 v3 v4 v5 (0 : Int64) v5 (f_X2_dealKind_3 ke34 m_) ih)
def f_X2_dealKind_48 (S : SI) (v3 : Int32) (v4 : Int32) (v6 : Int32) : Nat → Int32 → Int32 → SL → Option (Int32 × SL)
  | 0, _, _, _ => none
  | m_ + 1, v5, v7, T =>
    if (S 1 1) ≤ v7 then
      some (v5, T)
    else
      (f_X1_boundTo S v7).bind fun q7 =>
      nm (v6 &&& q7) fun x8 =>
      if x8 = 0 then
        (f_X2_dealKind_48 S v3 v4 v6 m_) v5 (v7 + (1 : Int32)) T
      else
        (f_J6_bitCount_0f7a4 x8).bind fun q10 =>
        nm (v5 + q10) fun x11 =>
        (f_J6_bitCount_0f7a4 x8).bind fun q12 =>
        (f_X2_ownersOf S x8 v3 v4).bind fun q13 =>
        (f_X2_deal T q12 q13 x11).bind fun q14 =>
        (f_X2_dealKind_48 S v3 v4 v6 m_) x11 (v7 + (1 : Int32)) q14
set_option maxHeartbeats 4000000 in
set_option maxRecDepth 100000 in
theorem t_X2_dealKind_48 (S : SI) (U : SI) (V : SL) (v3 : Int32) (v4 : Int32) (v6 : Int32) : ∀ (m_ : Nat) (v5 : Int32) (v7 : Int32) (T : SL), Run 3 yX2_dealKind cX2_dealKind 9 (some .int) none (fun a : Int32 × SL => (some (.int a.1), (S, a.2, U, V))) 48 [(0, .ref 62), (1, .ref 1), (3, .int v3), (4, .int v4), (5, .int v5), (6, .int v6), (7, .int v7)] [] (S, T, U, V) (f_X2_dealKind_48 S v3 v4 v6 m_ v5 v7 T) := by
  intro m_
  induction m_ with
  | zero =>
    intro v5 v7 T
    rw [f_X2_dealKind_48]
    exact r_none
  | succ m_ ih =>
    intro v5 v7 T
    rw [f_X2_dealKind_48]
    refine r_iload dX2_dealKind_48 6 rfl ?_
    refine r_aload_n dX2_dealKind_50 1 rfl rfl ?_
    refine rc_geti dX2_dealKind_51 fl_X2_31 (by decide) (by decide) rfl rfl ?_
    refine r_icmp_ge (tgt := 109) dX2_dealKind_54 (by decide) (fun h6 => ?_) (fun h6 => ?_)
    · refine r_iload dX2_dealKind_109 4 rfl ?_
      exact r_ireturn (ty := .int) dX2_dealKind_111 rfl (nar_i _) rfl
    · refine r_iload dX2_dealKind_57 5 rfl ?_
      refine r_aload_n dX2_dealKind_59 1 rfl rfl ?_
      refine r_iload dX2_dealKind_60 6 rfl ?_
      refine rV_i (as := [.int v7]) (st := [.int v6]) dX2_dealKind_62 cl_X2_35 (by decide) rfl rfl (m_X1_boundTo S T U V v7) (by decide) rfl (Nat.le_of_ble_eq_true rfl) (fun q7 _ => ?_)
      refine r_iand dX2_dealKind_65 ?_
      refine r_nmi (fun x8 => ?_)
      refine r_istore (L' := [(8, .int x8), (0, .ref 62), (1, .ref 1), (3, .int v3), (4, .int v4), (5, .int v5), (6, .int v6), (7, .int v7)]) dX2_dealKind_66 (by decide) rfl ?_
      refine r_iload dX2_dealKind_68 0 rfl ?_
      refine r_if_eq (tgt := 103) dX2_dealKind_70 (by decide) (fun h9 => ?_) (fun h9 => ?_)
      · refine r_iinc (v := v7 + (1 : Int32)) (L' := [(7, .int (v7 + (1 : Int32))), (8, .int x8), (0, .ref 62), (1, .ref 1), (3, .int v3), (4, .int v4), (5, .int v5), (6, .int v6)]) dX2_dealKind_103 7 rfl rfl (by decide) rfl ?_
        refine r_goto (tgt := 48) dX2_dealKind_106 (by decide) ?_
        exact r_pick [2, 3, 4, 5, 6, 7, 0] rfl (ih v5 (v7 + (1 : Int32)) T)
      · refine r_iload dX2_dealKind_73 5 rfl ?_
        refine r_iload dX2_dealKind_75 0 rfl ?_
        refine rS_i (as := [.int x8]) (st := [.int v5]) dX2_dealKind_77 cl_X2_39 (m_J6_bitCount_0f7a4 S T U V x8) (by decide) rfl (Nat.le_of_ble_eq_true rfl) (fun q10 _ => ?_)
        refine r_iadd dX2_dealKind_80 ?_
        refine r_nmi (fun x11 => ?_)
        refine r_istore (L' := [(5, .int x11), (8, .int x8), (0, .ref 62), (1, .ref 1), (3, .int v3), (4, .int v4), (6, .int v6), (7, .int v7)]) dX2_dealKind_81 (by decide) rfl ?_
        refine r_aload_n dX2_dealKind_83 2 rfl rfl ?_
        refine r_iload dX2_dealKind_84 1 rfl ?_
        refine rS_i (as := [.int x8]) (st := [.ref 62]) dX2_dealKind_86 cl_X2_39 (m_J6_bitCount_0f7a4 S T U V x8) (by decide) rfl (Nat.le_of_ble_eq_true rfl) (fun q12 _ => ?_)
        refine r_aload_n dX2_dealKind_89 3 rfl rfl ?_
        refine r_iload dX2_dealKind_90 1 rfl ?_
        refine r_iload_n dX2_dealKind_92 4 rfl rfl ?_
        refine r_iload dX2_dealKind_93 5 rfl ?_
        refine rS_i (as := [.ref 1, .int x8, .int v3, .int v4]) (st := [.int q12, .ref 62]) dX2_dealKind_95 cl_X2_44 (m_X2_ownersOf S T U V x8 v3 v4) (by decide) rfl (Nat.le_of_ble_eq_true rfl) (fun q13 _ => ?_)
        refine r_iload dX2_dealKind_98 0 rfl ?_
        refine rVc_vT (as := [.int q12, .int q13, .int x11]) (st := []) dX2_dealKind_100 cl_X2_47 (by decide) rfl rfl (m_X2_deal S T U V q12 q13 x11) (by decide) rfl (Nat.le_of_ble_eq_true rfl) (fun q14 _ => ?_)
        refine r_iinc (v := v7 + (1 : Int32)) (L' := [(7, .int (v7 + (1 : Int32))), (5, .int x11), (8, .int x8), (0, .ref 62), (1, .ref 1), (3, .int v3), (4, .int v4), (6, .int v6)]) dX2_dealKind_103 7 rfl rfl (by decide) rfl ?_
        refine r_goto (tgt := 48) dX2_dealKind_106 (by decide) ?_
        exact r_pick [3, 4, 5, 6, 1, 7, 0] rfl (ih x11 (v7 + (1 : Int32)) q14)
def f_X2_dealKind_34 (S : SI) (T : SL) (v2 : Int32) (v3 : Int32) (v4 : Int32) : Option (Int32 × SL) :=
  (f_X1_having S (0 : Int32) v2).bind fun q5 =>
  f_X2_dealKind_48 S v3 v4 q5 fu (0 : Int32) (0 : Int32) T
set_option maxHeartbeats 4000000 in
set_option maxRecDepth 100000 in
theorem t_X2_dealKind_34 (S : SI) (T : SL) (U : SI) (V : SL) (v2 : Int32) (v3 : Int32) (v4 : Int32) : Run 3 yX2_dealKind cX2_dealKind 9 (some .int) none (fun a : Int32 × SL => (some (.int a.1), (S, a.2, U, V))) 34 [(0, .ref 62), (1, .ref 1), (2, .int v2), (3, .int v3), (4, .int v4)] [] (S, T, U, V) (f_X2_dealKind_34 S T v2 v3 v4) := by
  rw [f_X2_dealKind_34]
  refine r_iconst (v := (0 : Int32)) dX2_dealKind_34 rfl ?_
  refine r_istore (L' := [(5, .int (0 : Int32)), (0, .ref 62), (1, .ref 1), (2, .int v2), (3, .int v3), (4, .int v4)]) dX2_dealKind_35 (by decide) rfl ?_
  refine r_aload_n dX2_dealKind_37 2 rfl rfl ?_
  refine r_iconst (v := (0 : Int32)) dX2_dealKind_38 rfl ?_
  refine r_iload_n dX2_dealKind_39 3 rfl rfl ?_
  refine rV_i (as := [.int (0 : Int32), .int v2]) (st := []) dX2_dealKind_40 cl_X2_25 (by decide) rfl rfl (m_X1_having S T U V (0 : Int32) v2) (by decide) rfl (Nat.le_of_ble_eq_true rfl) (fun q5 _ => ?_)
  refine r_istore (L' := [(6, .int q5), (5, .int (0 : Int32)), (0, .ref 62), (1, .ref 1), (2, .int v2), (3, .int v3), (4, .int v4)]) dX2_dealKind_43 (by decide) rfl ?_
  refine r_iconst (v := (0 : Int32)) dX2_dealKind_45 rfl ?_
  refine r_istore (L' := [(7, .int (0 : Int32)), (6, .int q5), (5, .int (0 : Int32)), (0, .ref 62), (1, .ref 1), (2, .int v2), (3, .int v3), (4, .int v4)]) dX2_dealKind_46 (by decide) rfl ?_
  exact r_pick [3, 4, 6, 7, 2, 1, 0] rfl (t_X2_dealKind_48 S U V v3 v4 q5 fu (0 : Int32) (0 : Int32) T)
def f_X2_dealKind (S : SI) (T : SL) (v2 : Int32) (v3 : Int32) (v4 : Int32) : Option (Int32 × SL) :=
  f_X2_dealKind_3 (fun To => f_X2_dealKind_34 S To v2 v3 v4) fu (0 : Int32) T
set_option maxHeartbeats 4000000 in
set_option maxRecDepth 100000 in
theorem m_X2_dealKind (S : SI) (T : SL) (U : SI) (V : SL) (v2 : Int32) (v3 : Int32) (v4 : Int32) : Meth 3 yX2_dealKind cX2_dealKind 9 (some .int) [.ref 62, .ref 1, .int v2, .int v3, .int v4] (S, T, U, V) (f_X2_dealKind S T v2 v3 v4) (fun a : Int32 × SL => (some (.int a.1), (S, a.2, U, V))) := by
  refine meth_of (L := [(0, .ref 62), (1, .ref 1), (2, .int v2), (3, .int v3), (4, .int v4)]) (by decide +kernel) (Nat.le_of_ble_eq_true rfl) rfl ?_
  rw [f_X2_dealKind]
  refine r_iconst (v := (0 : Int32)) dX2_dealKind_0 rfl ?_
  refine r_istore (L' := [(5, .int (0 : Int32)), (0, .ref 62), (1, .ref 1), (2, .int v2), (3, .int v3), (4, .int v4)]) dX2_dealKind_1 (by decide) rfl ?_
  exact r_pick [1, 2, 3, 4, 5, 0] rfl (t_X2_dealKind_3 S U V v2 v3 v4 (fun To => f_X2_dealKind_34 S To v2 v3 v4) (fun To => r_pick [0, 1, 2, 3, 4] rfl (t_X2_dealKind_34 S To U V v2 v3 v4)) fu (0 : Int32) T)
def f_X2_isAsTold (S : SI) (v1 : Int32) (v2 : Int32) : Option (Int32) :=
  gd (inB v1 18) <|
  if v2 < (S 6 (ix v1)) then
    some (0 : Int32)
  else
    gd (inB v1 18) <|
    if (S 7 (ix v1)) < v2 then
      some (0 : Int32)
    else
      some (1 : Int32)
set_option maxHeartbeats 4000000 in
set_option maxRecDepth 100000 in
theorem m_X2_isAsTold (S : SI) (T : SL) (U : SI) (V : SL) (v1 : Int32) (v2 : Int32) : Meth 1 yX2_isAsTold cX2_isAsTold 3 (some .boolean) [.ref 1, .int v1, .int v2] (S, T, U, V) (f_X2_isAsTold S v1 v2) (fun a : Int32 => (some (.int a), (S, T, U, V))) := by
  refine meth_of (L := [(0, .ref 1), (1, .int v1), (2, .int v2)]) (by decide +kernel) (Nat.le_of_ble_eq_true rfl) rfl ?_
  rw [f_X2_isAsTold]
  refine r_iload_n dX2_isAsTold_0 2 rfl rfl ?_
  refine r_aload_n dX2_isAsTold_1 0 rfl rfl ?_
  refine r_getr dX2_isAsTold_2 fl_X2_62 (by decide) rfl rfl (by decide) ?_
  refine r_iload_n dX2_isAsTold_5 1 rfl rfl ?_
  refine rc_iald dX2_isAsTold_6 (by decide) (by decide) rfl (fun h1 => ?_)
  refine r_icmp_lt (tgt := 24) dX2_isAsTold_7 (by decide) (fun h2 => ?_) (fun h2 => ?_)
  · refine r_iconst (v := (0 : Int32)) dX2_isAsTold_24 rfl ?_
    exact r_ireturn (ty := .boolean) dX2_isAsTold_25 rfl rfl rfl
  · refine r_iload_n dX2_isAsTold_10 2 rfl rfl ?_
    refine r_aload_n dX2_isAsTold_11 0 rfl rfl ?_
    refine r_getr dX2_isAsTold_12 fl_X2_66 (by decide) rfl rfl (by decide) ?_
    refine r_iload_n dX2_isAsTold_15 1 rfl rfl ?_
    refine rc_iald dX2_isAsTold_16 (by decide) (by decide) rfl (fun h3 => ?_)
    refine r_icmp_gt (tgt := 24) dX2_isAsTold_17 (by decide) (fun h4 => ?_) (fun h4 => ?_)
    · refine r_iconst (v := (0 : Int32)) dX2_isAsTold_24 rfl ?_
      exact r_ireturn (ty := .boolean) dX2_isAsTold_25 rfl rfl rfl
    · refine r_iconst (v := (1 : Int32)) dX2_isAsTold_20 rfl ?_
      refine r_goto (tgt := 25) dX2_isAsTold_21 (by decide) ?_
      exact r_ireturn (ty := .boolean) dX2_isAsTold_25 rfl rfl rfl
def f_X2_sumAsTold_15 (S : SI) (T : SL) (v2 : Int32) (v3 : Int32) (v6 : Int32) (ke89 : Int64 → Option (Int64)) : Nat → Int64 → Int32 → Option (Int64)
  | 0, _, _ => none
  | m_ + 1, v4, v7 =>
    if (v3 - v6) < v7 then
      ke89 v4
    else
      (f_X2_isAsTold S v2 v6).bind fun q3 =>
      if q3 = 0 then
        (f_X2_sumAsTold_15 S T v2 v3 v6 ke89 m_) v4 (v7 + (1 : Int32))
      else
        (f_X2_isAsTold S ((6 : Int32) + v2) v7).bind fun q5 =>
        if q5 = 0 then
          (f_X2_sumAsTold_15 S T v2 v3 v6 ke89 m_) v4 (v7 + (1 : Int32))
        else
          (f_X2_isAsTold S ((12 : Int32) + v2) ((v3 - v6) - v7)).bind fun q7 =>
          if q7 = 0 then
            (f_X2_sumAsTold_15 S T v2 v3 v6 ke89 m_) v4 (v7 + (1 : Int32))
          else
            gd (inB ((v6 * (13 : Int32)) + v7) 169) <|
            nm (v4 + (T 63 (ix ((v6 * (13 : Int32)) + v7)))) fun x10 =>
            (f_X2_sumAsTold_15 S T v2 v3 v6 ke89 m_) x10 (v7 + (1 : Int32))
set_option maxHeartbeats 4000000 in
set_option maxRecDepth 100000 in
theorem t_X2_sumAsTold_15 (S : SI) (T : SL) (U : SI) (V : SL) (v2 : Int32) (v3 : Int32) (v6 : Int32) (ke89 : Int64 → Option (Int64)) (hke89 : ∀ (w4 : Int64), Run 2 yX2_sumAsTold cX2_sumAsTold 8 (some .long) none (fun a : Int64 => (some (.long a), (S, T, U, V))) 89 [(0, .ref 62), (1, .ref 1), (2, .int v2), (3, .int v3), (4, .long w4), (6, .int v6)] [] (S, T, U, V) (ke89 w4)) : ∀ (m_ : Nat) (v4 : Int64) (v7 : Int32), Run 2 yX2_sumAsTold cX2_sumAsTold 8 (some .long) none (fun a : Int64 => (some (.long a), (S, T, U, V))) 15 [(0, .ref 62), (1, .ref 1), (2, .int v2), (3, .int v3), (4, .long v4), (6, .int v6), (7, .int v7)] [] (S, T, U, V) (f_X2_sumAsTold_15 S T v2 v3 v6 ke89 m_ v4 v7) := by
  intro m_
  induction m_ with
  | zero =>
    intro v4 v7
    rw [f_X2_sumAsTold_15]
    exact r_none
  | succ m_ ih =>
    intro v4 v7
    rw [f_X2_sumAsTold_15]
    refine r_iload dX2_sumAsTold_15 6 rfl ?_
    refine r_iload_n dX2_sumAsTold_17 3 rfl rfl ?_
    refine r_iload dX2_sumAsTold_18 5 rfl ?_
    refine r_isub dX2_sumAsTold_20 ?_
    refine r_icmp_gt (tgt := 89) dX2_sumAsTold_21 (by decide) (fun h2 => ?_) (fun h2 => ?_)
    · exact r_pick [0, 1, 2, 3, 4, 5] rfl (hke89 v4)
    · refine r_aload_n dX2_sumAsTold_24 1 rfl rfl ?_
      refine r_iload_n dX2_sumAsTold_25 2 rfl rfl ?_
      refine r_iload dX2_sumAsTold_26 5 rfl ?_
      refine rS_i (as := [.ref 1, .int v2, .int v6]) (st := []) dX2_sumAsTold_28 cl_X2_58 (m_X2_isAsTold S T U V v2 v6) (by decide) rfl (Nat.le_of_ble_eq_true rfl) (fun q3 _ => ?_)
      refine r_if_eq (tgt := 83) dX2_sumAsTold_31 (by decide) (fun h4 => ?_) (fun h4 => ?_)
      · refine r_iinc (v := v7 + (1 : Int32)) (L' := [(7, .int (v7 + (1 : Int32))), (0, .ref 62), (1, .ref 1), (2, .int v2), (3, .int v3), (4, .long v4), (6, .int v6)]) dX2_sumAsTold_83 6 rfl rfl (by decide) rfl ?_
        refine r_goto (tgt := 15) dX2_sumAsTold_86 (by decide) ?_
        exact r_pick [1, 2, 3, 4, 5, 6, 0] rfl (ih v4 (v7 + (1 : Int32)))
      · refine r_aload_n dX2_sumAsTold_34 1 rfl rfl ?_
        refine r_bipush (v := (6 : Int32)) dX2_sumAsTold_35 rfl ?_
        refine r_iload_n dX2_sumAsTold_37 2 rfl rfl ?_
        refine r_iadd dX2_sumAsTold_38 ?_
        refine r_iload dX2_sumAsTold_39 6 rfl ?_
        refine rS_i (as := [.ref 1, .int ((6 : Int32) + v2), .int v7]) (st := []) dX2_sumAsTold_41 cl_X2_58 (m_X2_isAsTold S T U V ((6 : Int32) + v2) v7) (by decide) rfl (Nat.le_of_ble_eq_true rfl) (fun q5 _ => ?_)
        refine r_if_eq (tgt := 83) dX2_sumAsTold_44 (by decide) (fun h6 => ?_) (fun h6 => ?_)
        · refine r_iinc (v := v7 + (1 : Int32)) (L' := [(7, .int (v7 + (1 : Int32))), (0, .ref 62), (1, .ref 1), (2, .int v2), (3, .int v3), (4, .long v4), (6, .int v6)]) dX2_sumAsTold_83 6 rfl rfl (by decide) rfl ?_
          refine r_goto (tgt := 15) dX2_sumAsTold_86 (by decide) ?_
          exact r_pick [1, 2, 3, 4, 5, 6, 0] rfl (ih v4 (v7 + (1 : Int32)))
        · refine r_aload_n dX2_sumAsTold_47 1 rfl rfl ?_
          refine r_bipush (v := (12 : Int32)) dX2_sumAsTold_48 rfl ?_
          refine r_iload_n dX2_sumAsTold_50 2 rfl rfl ?_
          refine r_iadd dX2_sumAsTold_51 ?_
          refine r_iload_n dX2_sumAsTold_52 3 rfl rfl ?_
          refine r_iload dX2_sumAsTold_53 5 rfl ?_
          refine r_isub dX2_sumAsTold_55 ?_
          refine r_iload dX2_sumAsTold_56 6 rfl ?_
          refine r_isub dX2_sumAsTold_58 ?_
          refine rS_i (as := [.ref 1, .int ((12 : Int32) + v2), .int ((v3 - v6) - v7)]) (st := []) dX2_sumAsTold_59 cl_X2_58 (m_X2_isAsTold S T U V ((12 : Int32) + v2) ((v3 - v6) - v7)) (by decide) rfl (Nat.le_of_ble_eq_true rfl) (fun q7 _ => ?_)
          refine r_if_eq (tgt := 83) dX2_sumAsTold_62 (by decide) (fun h8 => ?_) (fun h8 => ?_)
          · refine r_iinc (v := v7 + (1 : Int32)) (L' := [(7, .int (v7 + (1 : Int32))), (0, .ref 62), (1, .ref 1), (2, .int v2), (3, .int v3), (4, .long v4), (6, .int v6)]) dX2_sumAsTold_83 6 rfl rfl (by decide) rfl ?_
            refine r_goto (tgt := 15) dX2_sumAsTold_86 (by decide) ?_
            exact r_pick [1, 2, 3, 4, 5, 6, 0] rfl (ih v4 (v7 + (1 : Int32)))
          · refine r_lload dX2_sumAsTold_65 4 rfl ?_
            refine r_aload_n dX2_sumAsTold_67 0 rfl rfl ?_
            refine r_getr dX2_sumAsTold_68 fl_X2_11 (by decide) rfl rfl (by decide) ?_
            refine r_iload dX2_sumAsTold_71 5 rfl ?_
            refine r_bipush (v := (13 : Int32)) dX2_sumAsTold_73 rfl ?_
            refine r_imul dX2_sumAsTold_75 ?_
            refine r_iload dX2_sumAsTold_76 6 rfl ?_
            refine r_iadd dX2_sumAsTold_78 ?_
            refine rc_lald dX2_sumAsTold_79 (by decide) (by decide) rfl (fun h9 => ?_)
            refine r_ladd dX2_sumAsTold_80 ?_
            refine r_nml (fun x10 => ?_)
            refine r_lstore (L' := [(4, .long x10), (0, .ref 62), (1, .ref 1), (2, .int v2), (3, .int v3), (6, .int v6), (7, .int v7)]) dX2_sumAsTold_81 (by decide) rfl ?_
            refine r_iinc (v := v7 + (1 : Int32)) (L' := [(7, .int (v7 + (1 : Int32))), (4, .long x10), (0, .ref 62), (1, .ref 1), (2, .int v2), (3, .int v3), (6, .int v6)]) dX2_sumAsTold_83 6 rfl rfl (by decide) rfl ?_
            refine r_goto (tgt := 15) dX2_sumAsTold_86 (by decide) ?_
            exact r_pick [2, 3, 4, 5, 1, 6, 0] rfl (ih x10 (v7 + (1 : Int32)))
def f_X2_sumAsTold_89 (v4 : Int64) (v6 : Int32) (kh6 : Int64 → Int32 → Option (Int64)) : Option (Int64) :=
  kh6 v4 (v6 + (1 : Int32))
set_option maxHeartbeats 4000000 in
set_option maxRecDepth 100000 in
theorem t_X2_sumAsTold_89 (S : SI) (T : SL) (U : SI) (V : SL) (v2 : Int32) (v3 : Int32) (v4 : Int64) (v6 : Int32) (kh6 : Int64 → Int32 → Option (Int64)) (hkh6 : ∀ (w4 : Int64) (w6 : Int32), Run 2 yX2_sumAsTold cX2_sumAsTold 8 (some .long) none (fun a : Int64 => (some (.long a), (S, T, U, V))) 6 [(0, .ref 62), (1, .ref 1), (2, .int v2), (3, .int v3), (4, .long w4), (6, .int w6)] [] (S, T, U, V) (kh6 w4 w6)) : Run 2 yX2_sumAsTold cX2_sumAsTold 8 (some .long) none (fun a : Int64 => (some (.long a), (S, T, U, V))) 89 [(0, .ref 62), (1, .ref 1), (2, .int v2), (3, .int v3), (4, .long v4), (6, .int v6)] [] (S, T, U, V) (f_X2_sumAsTold_89 v4 v6 kh6) := by
  rw [f_X2_sumAsTold_89]
  refine r_iinc (v := v6 + (1 : Int32)) (L' := [(6, .int (v6 + (1 : Int32))), (0, .ref 62), (1, .ref 1), (2, .int v2), (3, .int v3), (4, .long v4)]) dX2_sumAsTold_89 5 rfl rfl (by decide) rfl ?_
  refine r_goto (tgt := 6) dX2_sumAsTold_92 (by decide) ?_
  exact r_pick [1, 2, 3, 4, 5, 0] rfl (hkh6 v4 (v6 + (1 : Int32)))
def f_X2_sumAsTold_6 (S : SI) (T : SL) (v2 : Int32) (v3 : Int32) : Nat → Int64 → Int32 → Option (Int64)
  | 0, _, _ => none
  | m_ + 1, v4, v6 =>
    if v3 < v6 then
      some v4
    else
      f_X2_sumAsTold_15 S T v2 v3 v6 (fun o4 => f_X2_sumAsTold_89 o4 v6 (f_X2_sumAsTold_6 S T v2 v3 m_)) fu v4 (0 : Int32)
set_option maxHeartbeats 4000000 in
set_option maxRecDepth 100000 in
theorem t_X2_sumAsTold_6 (S : SI) (T : SL) (U : SI) (V : SL) (v2 : Int32) (v3 : Int32) : ∀ (m_ : Nat) (v4 : Int64) (v6 : Int32), Run 2 yX2_sumAsTold cX2_sumAsTold 8 (some .long) none (fun a : Int64 => (some (.long a), (S, T, U, V))) 6 [(0, .ref 62), (1, .ref 1), (2, .int v2), (3, .int v3), (4, .long v4), (6, .int v6)] [] (S, T, U, V) (f_X2_sumAsTold_6 S T v2 v3 m_ v4 v6) := by
  intro m_
  induction m_ with
  | zero =>
    intro v4 v6
    rw [f_X2_sumAsTold_6]
    exact r_none
  | succ m_ ih =>
    intro v4 v6
    rw [f_X2_sumAsTold_6]
    refine r_iload dX2_sumAsTold_6 5 rfl ?_
    refine r_iload_n dX2_sumAsTold_8 3 rfl rfl ?_
    refine r_icmp_gt (tgt := 95) dX2_sumAsTold_9 (by decide) (fun h1 => ?_) (fun h1 => ?_)
    · refine r_lload dX2_sumAsTold_95 4 rfl ?_
      exact r_lreturn dX2_sumAsTold_97 rfl rfl
    · refine r_iconst (v := (0 : Int32)) dX2_sumAsTold_12 rfl ?_
      refine r_istore (L' := [(7, .int (0 : Int32)), (0, .ref 62), (1, .ref 1), (2, .int v2), (3, .int v3), (4, .long v4), (6, .int v6)]) dX2_sumAsTold_13 (by decide) rfl ?_
      exact r_pick [1, 2, 3, 4, 5, 6, 0] rfl (t_X2_sumAsTold_15 S T U V v2 v3 v6 (fun o4 => f_X2_sumAsTold_89 o4 v6 (f_X2_sumAsTold_6 S T v2 v3 m_)) (fun o4 => r_pick [0, 1, 2, 3, 4, 5] rfl (t_X2_sumAsTold_89 S T U V v2 v3 o4 v6 (f_X2_sumAsTold_6 S T v2 v3 m_) ih)) fu v4 (0 : Int32))
def f_X2_sumAsTold (S : SI) (T : SL) (v2 : Int32) (v3 : Int32) : Option (Int64) :=
  f_X2_sumAsTold_6 S T v2 v3 fu (0 : Int64) (0 : Int32)
set_option maxHeartbeats 4000000 in
set_option maxRecDepth 100000 in
theorem m_X2_sumAsTold (S : SI) (T : SL) (U : SI) (V : SL) (v2 : Int32) (v3 : Int32) : Meth 2 yX2_sumAsTold cX2_sumAsTold 8 (some .long) [.ref 62, .ref 1, .int v2, .int v3] (S, T, U, V) (f_X2_sumAsTold S T v2 v3) (fun a : Int64 => (some (.long a), (S, T, U, V))) := by
  refine meth_of (L := [(0, .ref 62), (1, .ref 1), (2, .int v2), (3, .int v3)]) (by decide +kernel) (Nat.le_of_ble_eq_true rfl) rfl ?_
  rw [f_X2_sumAsTold]
  refine r_lconst (v := (0 : Int64)) dX2_sumAsTold_0 rfl ?_
  refine r_lstore (L' := [(4, .long (0 : Int64)), (0, .ref 62), (1, .ref 1), (2, .int v2), (3, .int v3)]) dX2_sumAsTold_1 (by decide) rfl ?_
  refine r_iconst (v := (0 : Int32)) dX2_sumAsTold_3 rfl ?_
  refine r_istore (L' := [(6, .int (0 : Int32)), (4, .long (0 : Int64)), (0, .ref 62), (1, .ref 1), (2, .int v2), (3, .int v3)]) dX2_sumAsTold_4 (by decide) rfl ?_
  exact r_pick [2, 3, 4, 5, 1, 0] rfl (t_X2_sumAsTold_6 S T U V v2 v3 fu (0 : Int64) (0 : Int32))
def f_X2_waysIf_6 (S : SI) (v2 : Int32) (v3 : Int32) : Nat → Int64 → Int32 → SL → Option (Int64 × SL)
  | 0, _, _, _ => none
  | m_ + 1, v4, v6, T =>
    if (6 : Int32) ≤ v6 then
      some (v4, T)
    else
      if v4 ≤ (0 : Int64) then
        some (v4, T)
      else
        (f_X2_dealKind S T v6 v2 v3).bind fun q3 =>
        (f_X2_sumAsTold S q3.2 v6 q3.1).bind fun q4 =>
        nm (v4 * q4) fun x5 =>
        (f_X2_waysIf_6 S v2 v3 m_) x5 (v6 + (1 : Int32)) q3.2
set_option maxHeartbeats 4000000 in
set_option maxRecDepth 100000 in
theorem t_X2_waysIf_6 (S : SI) (U : SI) (V : SL) (v2 : Int32) (v3 : Int32) : ∀ (m_ : Nat) (v4 : Int64) (v6 : Int32) (T : SL), Run 4 yX2_waysIf cX2_waysIf 8 (some .long) none (fun a : Int64 × SL => (some (.long a.1), (S, a.2, U, V))) 6 [(0, .ref 62), (1, .ref 1), (2, .int v2), (3, .int v3), (4, .long v4), (6, .int v6)] [] (S, T, U, V) (f_X2_waysIf_6 S v2 v3 m_ v4 v6 T) := by
  intro m_
  induction m_ with
  | zero =>
    intro v4 v6 T
    rw [f_X2_waysIf_6]
    exact r_none
  | succ m_ ih =>
    intro v4 v6 T
    rw [f_X2_waysIf_6]
    refine r_iload dX2_waysIf_6 5 rfl ?_
    refine r_bipush (v := (6 : Int32)) dX2_waysIf_8 rfl ?_
    refine r_icmp_ge (tgt := 51) dX2_waysIf_10 (by decide) (fun h1 => ?_) (fun h1 => ?_)
    · refine r_lload dX2_waysIf_51 4 rfl ?_
      exact r_lreturn dX2_waysIf_53 rfl rfl
    · refine r_lload dX2_waysIf_13 4 rfl ?_
      refine r_lconst (v := (0 : Int64)) dX2_waysIf_15 rfl ?_
      refine r_lcmp_le (tgt := 51) dX2_waysIf_16 dX2_waysIf_17 (by decide) (fun h2 => ?_) (fun h2 => ?_)
      · refine r_lload dX2_waysIf_51 4 rfl ?_
        exact r_lreturn dX2_waysIf_53 rfl rfl
      · refine r_aload_n dX2_waysIf_20 0 rfl rfl ?_
        refine r_aload_n dX2_waysIf_21 1 rfl rfl ?_
        refine r_iload dX2_waysIf_22 5 rfl ?_
        refine r_iload_n dX2_waysIf_24 2 rfl rfl ?_
        refine r_iload_n dX2_waysIf_25 3 rfl rfl ?_
        refine rVc_iT (as := [.ref 1, .int v6, .int v2, .int v3]) (st := []) dX2_waysIf_26 cl_X2_15 (by decide) rfl rfl (m_X2_dealKind S T U V v6 v2 v3) (by decide) rfl (Nat.le_of_ble_eq_true rfl) (fun q3 _ => ?_)
        refine r_istore (L' := [(7, .int q3.1), (0, .ref 62), (1, .ref 1), (2, .int v2), (3, .int v3), (4, .long v4), (6, .int v6)]) dX2_waysIf_29 (by decide) rfl ?_
        refine r_lload dX2_waysIf_31 5 rfl ?_
        refine r_aload_n dX2_waysIf_33 1 rfl rfl ?_
        refine r_aload_n dX2_waysIf_34 2 rfl rfl ?_
        refine r_iload dX2_waysIf_35 6 rfl ?_
        refine r_iload dX2_waysIf_37 0 rfl ?_
        refine rV_l (as := [.ref 1, .int v6, .int q3.1]) (st := [.long v4]) dX2_waysIf_39 cl_X2_19 (by decide) rfl rfl (m_X2_sumAsTold S q3.2 U V v6 q3.1) (by decide) rfl (Nat.le_of_ble_eq_true rfl) (fun q4 _ => ?_)
        refine r_lmul dX2_waysIf_42 ?_
        refine r_nml (fun x5 => ?_)
        refine r_lstore (L' := [(4, .long x5), (7, .int q3.1), (0, .ref 62), (1, .ref 1), (2, .int v2), (3, .int v3), (6, .int v6)]) dX2_waysIf_43 (by decide) rfl ?_
        refine r_iinc (v := v6 + (1 : Int32)) (L' := [(6, .int (v6 + (1 : Int32))), (4, .long x5), (7, .int q3.1), (0, .ref 62), (1, .ref 1), (2, .int v2), (3, .int v3)]) dX2_waysIf_45 6 rfl rfl (by decide) rfl ?_
        refine r_goto (tgt := 6) dX2_waysIf_48 (by decide) ?_
        exact r_pick [3, 4, 5, 6, 1, 0] rfl (ih x5 (v6 + (1 : Int32)) q3.2)
def f_X2_waysIf (S : SI) (T : SL) (v2 : Int32) (v3 : Int32) : Option (Int64 × SL) :=
  f_X2_waysIf_6 S v2 v3 fu (1 : Int64) (0 : Int32) T
set_option maxHeartbeats 4000000 in
set_option maxRecDepth 100000 in
theorem m_X2_waysIf (S : SI) (T : SL) (U : SI) (V : SL) (v2 : Int32) (v3 : Int32) : Meth 4 yX2_waysIf cX2_waysIf 8 (some .long) [.ref 62, .ref 1, .int v2, .int v3] (S, T, U, V) (f_X2_waysIf S T v2 v3) (fun a : Int64 × SL => (some (.long a.1), (S, a.2, U, V))) := by
  refine meth_of (L := [(0, .ref 62), (1, .ref 1), (2, .int v2), (3, .int v3)]) (by decide +kernel) (Nat.le_of_ble_eq_true rfl) rfl ?_
  rw [f_X2_waysIf]
  refine r_lconst (v := (1 : Int64)) dX2_waysIf_0 rfl ?_
  refine r_lstore (L' := [(4, .long (1 : Int64)), (0, .ref 62), (1, .ref 1), (2, .int v2), (3, .int v3)]) dX2_waysIf_1 (by decide) rfl ?_
  refine r_iconst (v := (0 : Int32)) dX2_waysIf_3 rfl ?_
  refine r_istore (L' := [(6, .int (0 : Int32)), (4, .long (1 : Int64)), (0, .ref 62), (1, .ref 1), (2, .int v2), (3, .int v3)]) dX2_waysIf_4 (by decide) rfl ?_
  exact r_pick [2, 3, 4, 5, 1, 0] rfl (t_X2_waysIf_6 S U V v2 v3 fu (1 : Int64) (0 : Int32) T)
