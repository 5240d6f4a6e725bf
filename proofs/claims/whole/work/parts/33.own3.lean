theorem se_zero (p : Nat → Bool) {n : Nat} (h : n ≤ 12) : seN p n = 0 ↔ fb_ct p n = 0 := by
  constructor
  · intro e
    rw [← pop_se p h, e]
    decide
  · intro e
    have hp := fb_ct_zero.mp e
    apply Nat.eq_of_testBit_eq
    intro i
    rw [se_bit, Nat.zero_testBit]
    by_cases hi : i < n
    · rw [hp i hi]; simp
    · simp [hi]
theorem dm_eq {A : VW} (hV : HV A) {kd g : Nat} : fb_ct (fun i => A (10 + 0) i == kd && A 18 i == g) (A 0 0) = dmN A kd g := by
  unfold dmN szN
  by_cases c : A 10 g = kd
  · rw [if_pos c]
    apply fb_ct_cong
    intro i hi
    have hv := (hV.2.2.2 i hi).2.2.2
    by_cases e : A 18 i = g
    · have : A 10 i = kd := by rw [← hv.2.2, e, c]
      simp [e, this]
    · simp [e]
  · rw [if_neg c]
    apply fb_ct_zero.mpr
    intro i hi
    have hv := (hV.2.2.2 i hi).2.2.2
    by_cases e : A 18 i = g
    · have : A 10 i ≠ kd := by rw [← hv.2.2, e]; exact c
      simp [this]
    · simp [e]
theorem gr0_l {A : VW} {kd : Nat} {v2 : Int32} {lod : Nat} (ke : SL → Option (Int32 × SL)) : ∀ (d m k : Nat) (T : SL), k + d = 169 → d < m → (∀ c, c < k → T 63 c = lN (grN A kd v2 lod 0 c)) → ∃ T', f_X2_dealKind_3 ke m (nI k) T = ke T' ∧ ∀ c, c < 169 → T' 63 c = lN (grN A kd v2 lod 0 c) := by
  intro d
  induction d with
  | zero =>
    intro m k T hk hm h
    obtain ⟨q, rfl⟩ : ∃ q, m = q + 1 := ⟨m - 1, by omega⟩
    rw [f_X2_dealKind_3, if_pos (show (169 : Int32) ≤ nI k from nI_le (a := 169) (by omega) (by omega))]
    exact ⟨T, rfl, fun e he => h e (by omega)⟩
  | succ d ih =>
    intro m k T hk hm h
    obtain ⟨q, rfl⟩ : ∃ q, m = q + 1 := ⟨m - 1, by omega⟩
    rw [f_X2_dealKind_3, if_neg (show ¬ (169 : Int32) ≤ nI k from nI_ge (b := 169) (by omega) (by omega))]
    unfold f_X2_dealKind_27
    rw [inBn (show k < 169 by omega) (by omega), gd_t, gd_t, nm_eq, nm_eq, ixn (by omega), nI_1]
    simp only [show (nI k = (0 : Int32)) = (k = 0) from propext (nI_eq (b := 0) (by omega) (by omega))]
    have hs : ∀ v, v = lN (grN A kd v2 lod 0 k) → ∃ T', f_X2_dealKind_3 ke q (nI (k + 1)) (up2 T 63 k v) = ke T' ∧ ∀ e, e < 169 → T' 63 e = lN (grN A kd v2 lod 0 e) := fun v hv => ih q (k + 1) _ (by omega) (by omega) (fun e he => by
      by_cases e2 : e = k
      · rw [e2, up2_eq, hv]
      · rw [up2_ne _ (by omega)]; exact h e (by omega))
    by_cases c : k = 0
    · rw [if_pos c]
      exact hs 1 (by rw [c]; rfl)
    · rw [if_neg c]
      refine hs 0 ?_
      show _ = lN (if k = 0 then 1 else 0)
      rw [if_neg c]
      rfl
theorem gr_l {S : SI} {A : VW} (hV : HV A) (hC : HC S 1 A) {kd lod : Nat} (v2 : Int32) : ∀ (d m g : Nat) (T : SL), g + d = A 0 0 → d < m → (∀ c, c < 169 → T 63 c = lN (grN A kd v2 lod g c)) → ∃ T', f_X2_dealKind_48 S v2 (nI lod) (nI (seN (fun i => A (10 + 0) i == kd) (A 0 0))) m (nI (ddN A kd g)) (nI g) T = some (nI (ddN A kd (A 0 0)), T') ∧ ∀ c, c < 169 → T' 63 c = lN (grN A kd v2 lod (A 0 0) c) := by
  intro d
  have hF := fu_big
  have hn := hV.1.1
  induction d with
  | zero =>
    intro m k T hk hm h
    obtain ⟨q, rfl⟩ : ∃ q, m = q + 1 := ⟨m - 1, by omega⟩
    rw [f_X2_dealKind_48, hC.1.1, if_pos (nI_le (by omega) (by omega))]
    rw [show k = A 0 0 by omega] at h ⊢
    exact ⟨T, rfl, h⟩
  | succ d ih =>
    intro m g T hk hm h
    obtain ⟨q, rfl⟩ : ∃ q, m = q + 1 := ⟨m - 1, by omega⟩
    have hgn : g < A 0 0 := by omega
    have hbt := bnd_l hV hC (g := g) (by omega) (A 0 0) fu 0 (by omega) (by omega)
    have ed : ddN A kd (g + 1) = ddN A kd g + dmN A kd g := rfl
    have hd1 := dd_le A kd (g + 1)
    have hdm := dm_eq hV (kd := kd) (g := g)
    have hi := fun T' => ih q (g + 1) T' (by omega) (by omega)
    rw [f_X2_dealKind_48, hC.1.1, if_neg (nI_ge (by omega) (by omega))]
    unfold f_X1_boundTo
    rw [show seN (fun i => A 18 i == g) 0 = 0 from rfl] at hbt
    rw [show (0 : Int32) = nI 0 from rfl, hbt, sb, nm_eq, nx_and, se_and, nI_1]
    have hsm := se_small (fun i => A (10 + 0) i == kd && A 18 i == g) hn
    have hsz := se_zero (fun i => A (10 + 0) i == kd && A 18 i == g) hn
    rw [hdm] at hsz
    simp only [nI_eq (show seN (fun i => A (10 + 0) i == kd && A 18 i == g) (A 0 0) < 2 ^ 31 by omega) (show 0 < 2 ^ 31 by omega)]
    by_cases c : dmN A kd g = 0
    · rw [if_pos (hsz.mpr c)]
      rw [ed, c, Nat.add_zero] at hi
      have eg : grN A kd v2 lod (g + 1) = grN A kd v2 lod g := by
        show (if A 10 g = kd ∧ 0 < szN A g then _ else _) = _
        rw [if_neg]
        intro q
        unfold dmN at c
        rw [if_pos q.1] at c
        omega
      rw [eg] at hi
      exact hi T h
    · rw [if_neg (fun e => c (hsz.mp e)), bc_eq hsm, sb, nm_eq, sb, pop_se _ hn, hdm, nI_add]
      have hkg : A 10 g = kd := by
        unfold dmN at c
        by_cases e : A 10 g = kd
        · exact e
        · rw [if_neg e] at c; exact absurd rfl c
      have hds : dmN A kd g = szN A g := if_pos hkg
      have ho := own_l hV hC (g := g) (lod := lod) (b := seN (fun i => A (10 + 0) i == kd && A 18 i == g) (A 0 0)) v2 hsm (fun i hi => by
        rw [se_bit, decide_eq_true hi, Bool.true_and]
        have hv := (hV.2.2.2 i hi).2.2.2
        by_cases e : A 18 i = g
        · have : A 10 i = kd := by rw [← hv.2.2, e, hkg]
          simp [e, this]
        · simp [e]) (A 0 0) fu 0 (by omega) (by omega)
      unfold f_X2_ownersOf
      rw [show owN A v2 lod g 0 = 7 from rfl] at ho
      rw [show (7 : Int32) = nI 7 from rfl, show (0 : Int32) = nI 0 from rfl, ho, sb]
      have how := ow_le A v2 lod g (A 0 0)
      obtain ⟨T1, b1, b2⟩ := deal_C (s := dmN A kd g) (mk := owN A v2 lod g (A 0 0)) (dd := ddN A kd g + dmN A kd g) (d0 := ddN A kd g) (G := grN A kd v2 lod g) (T := T) (by omega) (by omega) rfl (by omega) (gr_supp A kd v2 lod g) h
      rw [b1, sb]
      rw [ed] at hi
      refine hi T1 (fun c hc => ?_)
      rw [b2 c hc]
      show _ = lN ((if A 10 g = kd ∧ 0 < szN A g then dlN (szN A g) (owN A v2 lod g (A 0 0)) (grN A kd v2 lod g) else grN A kd v2 lod g) c)
      rw [if_pos ⟨hkg, by omega⟩, hds]
theorem dk_C {S : SI} {A : VW} (T : SL) (hV : HV A) (hC : HC S 1 A) {kd lod : Nat} (hkd : kd < 6) (v2 : Int32) : ∃ T', f_X2_dealKind S T (nI kd) v2 (nI lod) = some (nI (ddN A kd (A 0 0)), T') ∧ ∀ c, c < 169 → T' 63 c = lN (grN A kd v2 lod (A 0 0) c) := by
  have hF := fu_big
  have hn := hV.1.1
  unfold f_X2_dealKind
  obtain ⟨T1, a1, a2⟩ := gr0_l (A := A) (kd := kd) (v2 := v2) (lod := lod) (fun To => f_X2_dealKind_34 S To (nI kd) v2 (nI lod)) 169 fu 0 T (by omega) (by omega) (fun c hc => by omega)
  obtain ⟨T2, b1, b2⟩ := gr_l hV hC (kd := kd) (lod := lod) v2 (A 0 0) fu 0 T1 (by omega) (by omega) a2
  refine ⟨T2, ?_, b2⟩
  have ck := hav_C hV hC (t := 0) (v := kd) (by omega) (by omega)
  rw [show (0 : Int32) = nI 0 from rfl, a1]
  unfold f_X2_dealKind_34
  rw [show (0 : Int32) = nI 0 from rfl, ck, sb]
  exact b1
theorem ias_C {S : SI} {A : VW} (hV : HV A) (hC : HC S 1 A) {at' x : Nat} (ha : at' < 18) (hx : x < 100) : f_X2_isAsTold S (nI at') (nI x) = some (if A 3 at' ≤ x ∧ x ≤ A 4 at' then 1 else 0) := by
  have hv := hV.2.1.2.2 at' ha
  unfold f_X2_isAsTold
  rw [inBn ha (by omega), gd_t, gd_t, ixn (by omega), show S 6 at' = nI (A 3 at') from hC.2.1.2.2.1 at' ha, show S 7 at' = nI (A 4 at') from hC.2.1.2.2.2 at' ha]
  simp only [nI_ltI (show x < 2 ^ 31 by omega) (show A 3 at' < 2 ^ 31 by omega), nI_ltI (show A 4 at' < 2 ^ 31 by omega) (show x < 2 ^ 31 by omega)]
  by_cases c1 : x < A 3 at'
  · rw [if_pos c1, if_neg (by omega)]
  · rw [if_neg c1]
    by_cases c2 : A 4 at' < x
    · rw [if_pos c2, if_neg (by omega)]
    · rw [if_neg c2, if_pos (by omega)]
theorem sat_i {S : SI} {T : SL} {A : VW} (hV : HV A) (hC : HC S 1 A) {kd cnt o : Nat} {G : Nat → Nat} (hkd : kd < 6) (hcn : cnt ≤ 12) (ho : o ≤ cnt) (hT : ∀ c, c < 169 → T 63 c = lN (G c)) (ke : Int64 → Option Int64) : ∀ (d m t : Nat), o + t + d = cnt + 1 → d < m → f_X2_sumAsTold_15 S T (nI kd) (nI cnt) (nI o) ke m (lN (smN (tsF A kd cnt G) (13 * o + t))) (nI t) = ke (lN (smN (tsF A kd cnt G) (13 * (o + 1)))) := by
  intro d
  induction d with
  | zero =>
    intro m t ht hm
    obtain ⟨q, rfl⟩ : ∃ q, m = q + 1 := ⟨m - 1, by omega⟩
    rw [f_X2_sumAsTold_15, pk_sub ho, if_pos (nI_lt (by omega) (by omega))]
    have := smN_z (f := tsF A kd cnt G) (a := 13 * o + t) (13 - t) (fun i h1 h2 => ts_0 (by omega))
    rw [show 13 * o + t + (13 - t) = 13 * (o + 1) by omega] at this
    rw [this]
  | succ d ih =>
    intro m t ht hm
    obtain ⟨q, rfl⟩ : ∃ q, m = q + 1 := ⟨m - 1, by omega⟩
    have i := ih q (t + 1) (by omega) (by omega)
    have e : smN (tsF A kd cnt G) (13 * o + (t + 1)) = smN (tsF A kd cnt G) (13 * o + t) + tsF A kd cnt G (13 * o + t) := rfl
    have ed : (13 * o + t) / 13 = o ∧ (13 * o + t) % 13 = t := by omega
    have e1 : (6 : Int32) + nI kd = nI (6 + kd) := nI_add 6 kd
    have e2 : (12 : Int32) + nI kd = nI (12 + kd) := nI_add 12 kd
    have e13 : nI o * (13 : Int32) = nI (o * 13) := pk_mul o 13
    have et : tsF A kd cnt G (13 * o + t) = if (A 3 kd ≤ o ∧ o ≤ A 4 kd) ∧ (A 3 (6 + kd) ≤ t ∧ t ≤ A 4 (6 + kd)) ∧ (A 3 (12 + kd) ≤ cnt - o - t ∧ cnt - o - t ≤ A 4 (12 + kd)) then G (13 * o + t) else 0 := by
      unfold tsF tolB
      rw [ed.1, ed.2, decide_eq_true (show o + t ≤ cnt by omega)]
      simp only [Bool.true_and, Bool.and_eq_true, decide_eq_true_eq]
    rw [e, et] at i
    rw [f_X2_sumAsTold_15, pk_sub ho, if_neg (show ¬ nI (cnt - o) < nI t by rw [nI_ltI (by omega) (by omega)]; omega), ias_C hV hC (show kd < 18 by omega) (by omega), sb, e1, ias_C hV hC (show 6 + kd < 18 by omega) (by omega), sb, e2, pk_sub (show t ≤ cnt - o by omega), ias_C hV hC (show 12 + kd < 18 by omega) (by omega), sb, e13, nI_add, inBn (show o * 13 + t < 169 by omega) (by omega), gd_t, nm_eq, ixn (by omega), hT _ (by omega), lN_add, nI_1, Nat.mul_comm o 13]
    by_cases c1 : A 3 kd ≤ o ∧ o ≤ A 4 kd
    · rw [if_pos c1, if_neg (show ¬ (1 : Int32) = 0 by decide)]
      by_cases c2 : A 3 (6 + kd) ≤ t ∧ t ≤ A 4 (6 + kd)
      · rw [if_pos c2, if_neg (show ¬ (1 : Int32) = 0 by decide)]
        by_cases c3 : A 3 (12 + kd) ≤ cnt - o - t ∧ cnt - o - t ≤ A 4 (12 + kd)
        · rw [if_pos c3, if_neg (show ¬ (1 : Int32) = 0 by decide)]
          rw [if_pos ⟨c1, c2, c3⟩] at i
          exact i
        · rw [if_neg c3, if_pos rfl]
          rw [if_neg (fun z => c3 z.2.2), Nat.add_zero] at i
          exact i
      · rw [if_neg c2, if_pos rfl]
        rw [if_neg (fun z => c2 z.2.1), Nat.add_zero] at i
        exact i
    · rw [if_neg c1, if_pos rfl]
      rw [if_neg (fun z => c1 z.1), Nat.add_zero] at i
      exact i
theorem sat_o {S : SI} {T : SL} {A : VW} (hV : HV A) (hC : HC S 1 A) {kd cnt : Nat} {G : Nat → Nat} (hkd : kd < 6) (hcn : cnt ≤ 12) (hT : ∀ c, c < 169 → T 63 c = lN (G c)) : ∀ (d m o : Nat), o + d = cnt + 1 → d < m → f_X2_sumAsTold_6 S T (nI kd) (nI cnt) m (lN (smN (tsF A kd cnt G) (13 * o))) (nI o) = some (lN (tsN A kd cnt G)) := by
  intro d
  have hF := fu_big
  induction d with
  | zero =>
    intro m o ho hm
    obtain ⟨q, rfl⟩ : ∃ q, m = q + 1 := ⟨m - 1, by omega⟩
    rw [f_X2_sumAsTold_6, if_pos (nI_lt (by omega) (by omega))]
    have := smN_z (f := tsF A kd cnt G) (a := 13 * o) (169 - 13 * o) (fun i h1 h2 => ts_0 (by omega))
    rw [show 13 * o + (169 - 13 * o) = 169 by omega] at this
    rw [← this]
    rfl
  | succ d ih =>
    intro m o ho hm
    obtain ⟨q, rfl⟩ : ∃ q, m = q + 1 := ⟨m - 1, by omega⟩
    have h := sat_i hV hC (T := T) (kd := kd) (cnt := cnt) (o := o) (G := G) hkd hcn (by omega) hT (fun o4 => f_X2_sumAsTold_89 o4 (nI o) (f_X2_sumAsTold_6 S T (nI kd) (nI cnt) q)) (cnt - o + 1) fu 0 (by omega) (by omega)
    rw [f_X2_sumAsTold_6, if_neg (show ¬ nI cnt < nI o by rw [nI_ltI (by omega) (by omega)]; omega), show (0 : Int32) = nI 0 from rfl]
    rw [Nat.add_zero] at h
    rw [h]
    unfold f_X2_sumAsTold_89
    rw [nI_1]
    exact ih q (o + 1) (by omega) (by omega)
theorem way_C {S : SI} {A : VW} (hV : HV A) (hC : HC S 1 A) {lod : Nat} (v2 : Int32) : ∀ (d m k : Nat) (T : SL), k + d = 6 → d < m → ∃ T', f_X2_waysIf_6 S v2 (nI lod) m (lN (wyN A v2 lod k)) (nI k) T = some (lN (wyN A v2 lod 6), T') := by
  intro d
  have hF := fu_big
  have hn := hV.1.1
  induction d with
  | zero =>
    intro m k T hk hm
    obtain ⟨q, rfl⟩ : ∃ q, m = q + 1 := ⟨m - 1, by omega⟩
    rw [f_X2_waysIf_6, if_pos (show (6 : Int32) ≤ nI k from nI_le (a := 6) (by omega) (by omega)), show k = 6 by omega]
    exact ⟨T, rfl⟩
  | succ d ih =>
    intro m k T hk hm
    obtain ⟨q, rfl⟩ : ∃ q, m = q + 1 := ⟨m - 1, by omega⟩
    have hw := wy_lt hn v2 lod (k := k) (by omega)
    rw [f_X2_waysIf_6, if_neg (show ¬ (6 : Int32) ≤ nI k from nI_ge (b := 6) (by omega) (by omega))]
    simp only [show (lN (wyN A v2 lod k) ≤ (0 : Int64)) = (wyN A v2 lod k ≤ 0) from propext (pk_lLE (b := 0) (by omega) (by omega))]
    by_cases c : wyN A v2 lod k ≤ 0
    · rw [if_pos c, wy_z (show wyN A v2 lod k = 0 by omega) 6 (by omega), show wyN A v2 lod k = 0 by omega]
      exact ⟨T, rfl⟩
    · rw [if_neg c]
      obtain ⟨T1, a1, a2⟩ := dk_C T hV hC (kd := k) (lod := lod) (by omega) v2
      have hs := sat_o hV hC (T := T1) (kd := k) (cnt := ddN A k (A 0 0)) (G := grN A k v2 lod (A 0 0)) (by omega) (Nat.le_trans (dd_le A k _) hn) a2 (ddN A k (A 0 0) + 1) fu 0 (by omega) (by have := dd_le A k (A 0 0); omega)
      rw [a1, sb]
      unfold f_X2_sumAsTold
      rw [Nat.mul_zero, show smN (tsF A k (ddN A k (A 0 0)) (grN A k v2 lod (A 0 0))) 0 = 0 from rfl, show lN 0 = (0 : Int64) from rfl, show nI 0 = (0 : Int32) from rfl] at hs
      dsimp only
      rw [hs, sb, nm_eq, lN_mul, nI_1]
      exact ih q (k + 1) T1 (by omega) (by omega)
