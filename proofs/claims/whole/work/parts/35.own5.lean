theorem dl_grp {A : VW} {kd : Nat} {v2 : Int32} {lod g : Nat} (hkg : A 10 g = kd) (hz : 0 < szN A g) : grN A kd v2 lod (g + 1) = dlN (szN A g) (owN A v2 lod g (A 0 0)) (grN A kd v2 lod g) := by
  show (if A 10 g = kd ∧ 0 < szN A g then dlN (szN A g) (owN A v2 lod g (A 0 0)) (grN A kd v2 lod g) else grN A kd v2 lod g) = _
  rw [if_pos ⟨hkg, hz⟩]
theorem gr_lt {A : VW} (hn : A 0 0 ≤ 12) (kd : Nat) (v2 : Int32) (lod g : Nat) : ∀ c, c < 169 → grN A kd v2 lod g c < 2 ^ 62 := fun c hc => by
  have h1 := gr_le A kd v2 lod g c hc
  have h2 : 3 ^ ddN A kd g ≤ 3 ^ 12 := Nat.pow_le_pow_right (by omega) (Nat.le_trans (dd_le A kd g) hn)
  have h3 : (3 : Nat) ^ 12 = 531441 := rfl
  omega
theorem gm_l {U : SI} {A : VW} (hV : HV A) (hM : HM (U 79) A) {kd lod : Nat} (hkd : kd < 6) (v2 : Int32) (ke : Int32 → SL → Option (Int64 × SL)) : ∀ (d m g : Nat) (V : SL), g + d = A 0 0 → d < m → (∀ c, c < 169 → V 88 c = lN (grN A kd v2 lod g c)) → ∃ V', f_X10_waysOf_40 U (nI kd) v2 (nI lod) ke m (nI (ddN A kd g)) (nI g) V = ke (nI (ddN A kd (A 0 0))) V' ∧ ∀ c, c < 169 → V' 88 c = lN (grN A kd v2 lod (A 0 0) c) := by
  intro d
  have hF := fu_big
  have hn := hV.1.1
  induction d with
  | zero =>
    intro m g V hk hm h
    obtain ⟨q, rfl⟩ : ∃ q, m = q + 1 := ⟨m - 1, by omega⟩
    rw [f_X10_waysOf_40, show inB (0 : Int32) 205 = true from rfl, gd_t, show ix (0 : Int32) = 0 from rfl, hM.1.1, if_pos (nI_le (by omega) (by omega))]
    rw [show g = A 0 0 by omega] at h ⊢
    exact ⟨V, rfl, h⟩
  | succ d ih =>
    intro m g V hk hm h
    obtain ⟨q, rfl⟩ : ∃ q, m = q + 1 := ⟨m - 1, by omega⟩
    have hgn : g < A 0 0 := by omega
    have hsz := sz_l hV hM (g := g) (by omega) (A 0 0) fu 0 (by omega) (by omega)
    rw [show fb_ct (fun i => A 18 i == g) 0 = 0 from rfl] at hsz
    have hk0 := (hV.2.2.2 g hgn).1.1
    have g0 : U 79 (13 + 10 * g + 0) = nI (A 10 g) := (hM.2.2.2 g hgn).1
    have ed : ddN A kd (g + 1) = ddN A kd g + dmN A kd g := rfl
    have hd1 := dd_le A kd (g + 1)
    have hszl : szN A g ≤ 12 := Nat.le_trans (fb_ct_le _ _) hn
    have hi := fun V' => ih q (g + 1) V' (by omega) (by omega)
    rw [f_X10_waysOf_40, show inB (0 : Int32) 205 = true from rfl, gd_t, show ix (0 : Int32) = 0 from rfl, hM.1.1, if_neg (nI_ge (by omega) (by omega)), of0 (by omega)]
    unfold f_X10_sizeOf f_X10_waysOf_329
    rw [show (0 : Int32) = nI 0 from rfl, hsz]
    simp only [sb, g0, nI_1, nm_eq, nI_add]
    simp only [show (nI (szN A g) ≤ nI 0) = (szN A g ≤ 0) from propext ⟨fun z => Classical.byContradiction fun w => nI_ge (a := 0) (b := szN A g) (by omega) (by omega) z, fun z => nI_le z (by omega)⟩, nI_eq (show A 10 g < 2 ^ 31 by omega) (show kd < 2 ^ 31 by omega)]
    by_cases c1 : szN A g ≤ 0
    · rw [if_pos c1]
      have e0 : dmN A kd g = 0 := by unfold dmN; split <;> omega
      have eg : grN A kd v2 lod (g + 1) = grN A kd v2 lod g := by
        show (if A 10 g = kd ∧ 0 < szN A g then _ else _) = _
        rw [if_neg (fun z => by omega)]
      rw [ed, e0, Nat.add_zero, eg] at hi
      exact hi V h
    · rw [if_neg c1]
      by_cases c2 : A 10 g = kd
      · rw [if_pos c2]
        have hkg := c2
        have e0 : dmN A kd g = szN A g := if_pos c2
        rw [ed, e0] at hi hd1
        have hmay := may_l hV hM (g := g) (lod := lod) (by omega) v2 (A 0 0) fu 0 (by omega) (by omega)
        rw [show owN A v2 lod g 0 = 7 from rfl] at hmay
        unfold f_X10_mayOf
        rw [show (7 : Int32) = nI 7 from rfl, show (0 : Int32) = nI 0 from rfl, hmay, sb]
        obtain ⟨V1, a1, a2, a3⟩ := th0_l (fun Vo => f_X10_waysOf_117 Vo (nI (ddN A kd g + szN A g)) (nI g) (nI (szN A g)) (nI (owN A v2 lod g (A 0 0))) (f_X10_waysOf_40 U (nI kd) v2 (nI lod) ke q)) 169 fu 0 V (by omega) (by omega) (fun c hc => by omega)
        rw [a1]
        unfold f_X10_waysOf_117
        have how := ow_le A v2 lod g (A 0 0)
        obtain ⟨V2, b1, b2⟩ := psh_l (s := szN A g) (mk := owN A v2 lod g (A 0 0)) (d0 := ddN A kd g) (G := grN A kd v2 lod g) (by omega) (by omega) (by omega) (gr_supp A kd v2 lod g) (gr_lt hn kd v2 lod g) (fun Vo => f_X10_waysOf_298 Vo (nI (ddN A kd g + szN A g)) (nI g) (f_X10_waysOf_40 U (nI kd) v2 (nI lod) ke q)) 169 fu 0 V1 (by omega) (by omega) (fun c hc => by rw [a3]; exact h c hc) (fun c hc => by
          rw [a2 c hc]
          unfold thN
          simp)
        rw [show (0 : Int32) = nI 0 from rfl, b1]
        unfold f_X10_waysOf_298
        obtain ⟨V3, c1, c2⟩ := cp_l (dlN (szN A g) (owN A v2 lod g (A 0 0)) (grN A kd v2 lod g)) (fun Vo => f_X10_waysOf_329 Vo (nI (ddN A kd g + szN A g)) (nI g) (f_X10_waysOf_40 U (nI kd) v2 (nI lod) ke q)) 169 fu 0 V2 (by omega) (by omega) b2 (fun c hc => by omega)
        rw [show (0 : Int32) = nI 0 from rfl, c1]
        unfold f_X10_waysOf_329
        rw [nI_1]
        refine hi V3 (fun c hc => ?_)
        rw [c2 c hc, dl_grp hkg (by omega)]
      · rw [if_neg c2]
        have e0 : dmN A kd g = 0 := if_neg c2
        have eg : grN A kd v2 lod (g + 1) = grN A kd v2 lod g := by
          show (if A 10 g = kd ∧ 0 < szN A g then _ else _) = _
          rw [if_neg (fun z => c2 z.1)]
        rw [ed, e0, Nat.add_zero, eg] at hi
        exact hi V h
theorem ios_M {U : SI} {A : VW} (hV : HV A) (hM : HM (U 79) A) {l kd : Nat} (hl : l < 3) (hkd : kd < 6) {v1 : Int32} (hv1 : v1 = nI l) (v : Int32) : f_X10_isOwned U v1 (nI kd) v = some (if (A 3 (6 * l + kd) : Int) ≤ v.toInt ∧ v.toInt ≤ A 4 (6 * l + kd) then 1 else 0) := by
  subst hv1
  have hv := hV.2.1.2.2 (6 * l + kd) (by omega)
  have e2 : (169 : Int32) + (2 : Int32) * ((6 : Int32) * nI l + nI kd) = nI (169 + 2 * (6 * l + kd)) := by rw [show (6 : Int32) = nI 6 from rfl, show (2 : Int32) = nI 2 from rfl, show (169 : Int32) = nI 169 from rfl, pk_mul, nI_add, pk_mul, nI_add]
  have e3 : nI (169 + 2 * (6 * l + kd)) + (1 : Int32) = nI (170 + 2 * (6 * l + kd)) := by rw [nI_1]; congr 1; omega
  unfold f_X10_isOwned
  rw [e2, nm_eq, e3, inBn (show 169 + 2 * (6 * l + kd) < 205 by omega) (by omega), inBn (show 170 + 2 * (6 * l + kd) < 205 by omega) (by omega), gd_t, gd_t, ixn (by omega), ixn (by omega), hM.2.1.2.2.1 _ (by omega), hM.2.1.2.2.2 _ (by omega), in_gen, sb, wide, wide, wide, nI_toInt (by omega), nI_toInt (by omega)]
  by_cases c : (A 3 (6 * l + kd) : Int) ≤ v.toInt ∧ v.toInt ≤ A 4 (6 * l + kd)
  · rw [if_pos c, if_pos c]; rfl
  · rw [if_neg c, if_neg c]; rfl
theorem sub3 {a b c : Nat} (ha : a < 1000) (hb : b < 1000) (hc : c < 1000) : (nI a - nI b - nI c).toInt = (a : Int) - b - c := by
  rw [Int32.toInt_sub, pk_sub_toInt (by omega) (by omega), nI_toInt (by omega)]
  exact Int.bmod_eq_of_le (by omega) (by omega)
theorem sum_M {U : SI} {V : SL} {A : VW} (hV : HV A) (hM : HM (U 79) A) {kd cnt : Nat} {G : Nat → Nat} (hkd : kd < 6) (hcn : cnt ≤ 12) (hT : ∀ c, c < 169 → V 88 c = lN (G c)) : ∀ (d m c : Nat), c + d = 169 → d < m → f_X10_waysOf_341 U V (nI kd) (nI cnt) m (lN (smN (tsF A kd cnt G) c)) (nI c) = some (lN (tsN A kd cnt G), V) := by
  intro d
  induction d with
  | zero =>
    intro m c hc hm
    obtain ⟨q, rfl⟩ : ∃ q, m = q + 1 := ⟨m - 1, by omega⟩
    rw [f_X10_waysOf_341, if_pos (show (169 : Int32) ≤ nI c from nI_le (a := 169) (by omega) (by omega)), show c = 169 by omega]
    rfl
  | succ d ih =>
    intro m c hc hm
    obtain ⟨q, rfl⟩ : ∃ q, m = q + 1 := ⟨m - 1, by omega⟩
    have i := ih q (c + 1) (by omega) (by omega)
    have e : smN (tsF A kd cnt G) (c + 1) = smN (tsF A kd cnt G) c + tsF A kd cnt G c := rfl
    have hd : c / 13 < 13 := by omega
    have hr : c % 13 < 13 := by omega
    have et : tsF A kd cnt G c = if ((A 3 (6 * 0 + kd) : Int) ≤ (c / 13 : Nat) ∧ ((c / 13 : Nat) : Int) ≤ A 4 (6 * 0 + kd)) ∧ ((A 3 (6 * 1 + kd) : Int) ≤ (c % 13 : Nat) ∧ ((c % 13 : Nat) : Int) ≤ A 4 (6 * 1 + kd)) ∧ ((A 3 (6 * 2 + kd) : Int) ≤ (cnt : Int) - (c / 13 : Nat) - (c % 13 : Nat) ∧ (cnt : Int) - (c / 13 : Nat) - (c % 13 : Nat) ≤ A 4 (6 * 2 + kd)) then G c else 0 := by
      unfold tsF tolB
      simp only [Bool.and_eq_true, decide_eq_true_eq, Nat.mul_zero, Nat.zero_add, show 6 * 1 = 6 from rfl, show 6 * 2 = 12 from rfl]
      by_cases z : ((A 3 kd ≤ c / 13 ∧ c / 13 ≤ A 4 kd) ∧ (A 3 (6 + kd) ≤ c % 13 ∧ c % 13 ≤ A 4 (6 + kd)) ∧ c / 13 + c % 13 ≤ cnt ∧ A 3 (12 + kd) ≤ cnt - c / 13 - c % 13 ∧ cnt - c / 13 - c % 13 ≤ A 4 (12 + kd))
      · rw [if_pos z, if_pos (by omega)]
      · rw [if_neg z, if_neg (by omega)]
    rw [e, et] at i
    have w0 := ios_M hV hM (l := 0) (kd := kd) (by omega) hkd (show (0 : Int32) = nI 0 from rfl) (nI (c / 13))
    have w1 := ios_M hV hM (l := 1) (kd := kd) (by omega) hkd (show (1 : Int32) = nI 1 from rfl) (nI (c % 13))
    have w2 := ios_M hV hM (l := 2) (kd := kd) (by omega) hkd (show (2 : Int32) = nI 2 from rfl) (nI cnt - nI (c / 13) - nI (c % 13))
    rw [nI_toInt (by omega)] at w0 w1
    rw [sub3 (by omega) (by omega) (by omega)] at w2
    rw [f_X10_waysOf_341, if_neg (show ¬ (169 : Int32) ≤ nI c from nI_ge (b := 169) (by omega) (by omega)), if_neg (show ¬ (13 : Int32) = 0 by decide), if_neg (show ¬ (13 : Int32) = 0 by decide), if_neg (show ¬ (13 : Int32) = 0 by decide), if_neg (show ¬ (13 : Int32) = 0 by decide), show (13 : Int32) = nI 13 from rfl, pk_rem (show c < 2 ^ 31 by omega) (by omega) (by omega), pk_div (show c < 2 ^ 31 by omega) (by omega) (by omega), w0, w1, w2, sb, sb, sb]
    unfold f_X10_waysOf_405 f_X10_waysOf_425
    simp only [nm_eq, nI_1, inBn (show c < 169 by omega) (show 169 < 2 ^ 31 by omega), gd_t, ixn (show c < 2 ^ 31 by omega), hT c (by omega), if_true, show ¬ (1 : Int32) = 0 by decide, if_false, show ∀ x : Nat, lN x + (0 : Int64) = lN x from fun x => lN_add x 0, lN_add]
    by_cases c1 : ((A 3 (6 * 0 + kd) : Int) ≤ (c / 13 : Nat) ∧ ((c / 13 : Nat) : Int) ≤ A 4 (6 * 0 + kd))
    · rw [if_pos c1, if_neg (show ¬ (1 : Int32) = 0 by decide)]
      by_cases c2 : ((A 3 (6 * 1 + kd) : Int) ≤ (c % 13 : Nat) ∧ ((c % 13 : Nat) : Int) ≤ A 4 (6 * 1 + kd))
      · rw [if_pos c2, if_neg (show ¬ (1 : Int32) = 0 by decide)]
        by_cases c3 : ((A 3 (6 * 2 + kd) : Int) ≤ (cnt : Int) - (c / 13 : Nat) - (c % 13 : Nat) ∧ (cnt : Int) - (c / 13 : Nat) - (c % 13 : Nat) ≤ A 4 (6 * 2 + kd))
        · rw [if_pos c3, if_neg (show ¬ (1 : Int32) = 0 by decide)]
          rw [if_pos ⟨c1, c2, c3⟩] at i
          exact i
        · rw [if_neg c3, if_pos rfl]
          rw [if_neg (fun z => c3 z.2.2), Nat.add_zero] at i
          exact i
      · rw [if_neg c2, if_pos rfl]
        rw [if_neg (fun z => c2 z.2.1), Nat.add_zero] at i
        exact i
    · rw [if_neg c1, if_pos rfl]
      rw [if_neg (fun z => c1 z.1), Nat.add_zero] at i
      exact i
theorem wof_M {U : SI} {A : VW} (V : SL) (hV : HV A) (hM : HM (U 79) A) {kd lod : Nat} (hkd : kd < 6) (v2 : Int32) : ∃ V', f_X10_waysOf U V (nI kd) v2 (nI lod) = some (lN (tsN A kd (ddN A kd (A 0 0)) (grN A kd v2 lod (A 0 0))), V') := by
  have hF := fu_big
  have hn := hV.1.1
  unfold f_X10_waysOf
  obtain ⟨V1, a1, a2⟩ := gm0_l (A := A) (kd := kd) (v2 := v2) (lod := lod) (fun Vo => f_X10_waysOf_34 U Vo (nI kd) v2 (nI lod)) 169 fu 0 V (by omega) (by omega) (fun c hc => by omega)
  obtain ⟨V2, b1, b2⟩ := gm_l hV hM (kd := kd) (lod := lod) hkd v2 (fun o4 Vo => f_X10_waysOf_335 U Vo (nI kd) o4) (A 0 0) fu 0 V1 (by omega) (by omega) a2
  have hs := sum_M hV hM (V := V2) (kd := kd) (cnt := ddN A kd (A 0 0)) (G := grN A kd v2 lod (A 0 0)) hkd (Nat.le_trans (dd_le A kd _) hn) b2 169 fu 0 (by omega) (by omega)
  rw [show (0 : Int32) = nI 0 from rfl, a1]
  unfold f_X10_waysOf_34
  rw [show ddN A kd 0 = 0 from rfl] at b1
  rw [show (0 : Int32) = nI 0 from rfl, b1]
  unfold f_X10_waysOf_335
  rw [show smN (tsF A kd (ddN A kd (A 0 0)) (grN A kd v2 lod (A 0 0))) 0 = 0 from rfl] at hs
  rw [show (0 : Int32) = nI 0 from rfl, show (0 : Int64) = lN 0 from rfl]
  exact ⟨V2, hs⟩
theorem way_M {U : SI} {A : VW} (hV : HV A) (hM : HM (U 79) A) {lod : Nat} (v2 : Int32) : ∀ (d m k : Nat) (V : SL), k + d = 6 → d < m → ∃ V', f_X10_allWays_5 U v2 (nI lod) m (lN (wyN A v2 lod k)) (nI k) V = some (lN (wyN A v2 lod 6), V') := by
  intro d
  have hF := fu_big
  have hn := hV.1.1
  induction d with
  | zero =>
    intro m k V hk hm
    obtain ⟨q, rfl⟩ : ∃ q, m = q + 1 := ⟨m - 1, by omega⟩
    rw [f_X10_allWays_5, if_pos (show (6 : Int32) ≤ nI k from nI_le (a := 6) (by omega) (by omega)), show k = 6 by omega]
    exact ⟨V, rfl⟩
  | succ d ih =>
    intro m k V hk hm
    obtain ⟨q, rfl⟩ : ∃ q, m = q + 1 := ⟨m - 1, by omega⟩
    obtain ⟨V1, a1⟩ := wof_M V hV hM (kd := k) (lod := lod) (by omega) v2
    rw [f_X10_allWays_5, if_neg (show ¬ (6 : Int32) ≤ nI k from nI_ge (b := 6) (by omega) (by omega)), a1, sb, nm_eq, lN_mul, nI_1]
    exact ih q (k + 1) V1 (by omega) (by omega)
theorem wif_C {S : SI} {A : VW} (T : SL) (hV : HV A) (hC : HC S 1 A) (v2 : Int32) (lod : Nat) : ∃ T', f_X2_waysIf S T v2 (nI lod) = some (lN (wyN A v2 lod 6), T') := by
  have hF := fu_big
  unfold f_X2_waysIf
  exact way_C hV hC v2 6 fu 0 T (by omega) (by omega)
theorem wif_M {U : SI} {A : VW} (V : SL) (hV : HV A) (hM : HM (U 79) A) (v2 : Int32) (lod : Nat) : ∃ V', f_X10_allWays U V v2 (nI lod) = some (lN (wyN A v2 lod 6), V') := by
  have hF := fu_big
  unfold f_X10_allWays
  exact way_M hV hM v2 6 fu 0 V (by omega) (by omega)
theorem op_ways {P : Nat → Int32 → (Nat → Int32) → Prop} {S U : SI} (h : RR P S U) (T V : SL) : ∃ (r : Int64) (T1 V1 : SL), f_X9_ways S T = some (r, T1) ∧ f_X10_ways U V = some (r, V1) := by
  obtain ⟨A, hV, hC, hM⟩ := h.1
  obtain ⟨T1, a1⟩ := wif_C T hV hC (-4) 7
  obtain ⟨V1, b1⟩ := wif_M V hV hM (-4) 7
  unfold f_X9_ways f_X10_ways
  rw [show (7 : Int32) = nI 7 from rfl, a1, b1, sb, sb]
  exact ⟨_, _, _, rfl, rfl⟩
theorem who_l {S U : SI} {A : VW} (hV : HV A) (hC : HC S 1 A) (hM : HM (U 79) A) (v1 : Int32) : ∀ (d m k x : Nat) (T V : SL), k + d = 3 → d < m → x < 2 ^ k → ∃ (r : Nat) (T1 V1 : SL), f_X9_whose_14 S v1 (fun o2 To => f_X9_whose_51 To o2) m (nI x) (nI k) T = f_X9_whose_51 T1 (nI r) ∧ f_X10_whose_14 U v1 (fun o2 Vo => f_X10_whose_48 Vo o2) m (nI x) (nI k) V = f_X10_whose_48 V1 (nI r) := by
  intro d
  have hn := hV.1.1
  induction d with
  | zero =>
    intro m k x T V hk hm hx
    obtain ⟨q, rfl⟩ : ∃ q, m = q + 1 := ⟨m - 1, by omega⟩
    rw [f_X9_whose_14, f_X10_whose_14, if_pos (show (3 : Int32) ≤ nI k from nI_le (a := 3) (by omega) (by omega)), if_pos (show (3 : Int32) ≤ nI k from nI_le (a := 3) (by omega) (by omega))]
    exact ⟨x, T, V, rfl, rfl⟩
  | succ d ih =>
    intro m k x T V hk hm hx
    obtain ⟨q, rfl⟩ : ∃ q, m = q + 1 := ⟨m - 1, by omega⟩
    obtain ⟨T1, a1⟩ := wif_C T hV hC v1 (2 ^ k)
    obtain ⟨V1, b1⟩ := wif_M V hV hM v1 (2 ^ k)
    have hw := wy_lt hn v1 (2 ^ k) (k := 6) (by omega)
    have hp : 2 ^ k < 2 ^ (k + 1) := Nat.pow_lt_pow_right (by omega) (by omega)
    rw [f_X9_whose_14, f_X10_whose_14, if_neg (show ¬ (3 : Int32) ≤ nI k from nI_ge (b := 3) (by omega) (by omega)), if_neg (show ¬ (3 : Int32) ≤ nI k from nI_ge (b := 3) (by omega) (by omega)), shl1 (show k < 31 by omega), a1, b1, sb, sb]
    unfold f_X10_whose_40
    simp only [nm_eq, nI_1, fa_or, show ∀ y : Nat, nI y ||| (0 : Int32) = nI y from fun y => by rw [show (0 : Int32) = nI 0 from rfl, fa_or, Nat.or_zero], show (lN (wyN A v1 (2 ^ k) 6) ≤ (0 : Int64)) = (wyN A v1 (2 ^ k) 6 ≤ 0) from propext (pk_lLE (b := 0) (by omega) (by omega))]
    by_cases c : wyN A v1 (2 ^ k) 6 ≤ 0
    · rw [if_pos c, if_pos c]
      exact ih q (k + 1) x T1 V1 (by omega) (by omega) (by omega)
    · rw [if_neg c, if_neg c]
      exact ih q (k + 1) (x ||| 2 ^ k) T1 V1 (by omega) (by omega) (Nat.or_lt_two_pow (by omega) (by omega))
theorem op_whose {P : Nat → Int32 → (Nat → Int32) → Prop} {S U : SI} (h : RR P S U) (T V : SL) (v1 : Int32) : ∃ (r : Int32) (T1 V1 : SL), f_X9_whose S T v1 = some (r, T1) ∧ f_X10_whose U V v1 = some (r, V1) := by
  obtain ⟨A, hV, hC, hM⟩ := h.1
  have hF := fu_big
  unfold f_X9_whose f_X10_whose
  rw [isC hC hV.1.1, isM hM hV.1.1, sb, sb]
  cases hv1 : inB v1 (A 0 0) with
  | false => exact ⟨_, _, _, rfl, rfl⟩
  | true =>
    rw [if_pos rfl, if_neg (show ¬ (1 : Int32) = 0 by decide), if_neg (show ¬ (1 : Int32) = 0 by decide)]
    obtain ⟨r, T1, V1, a1, b1⟩ := who_l hV hC hM v1 3 fu 0 0 T V (by omega) (by omega) (by omega)
    rw [show (0 : Int32) = nI 0 from rfl, a1, b1]
    unfold f_X9_whose_51 f_X10_whose_48
    by_cases c : nI r = (0 : Int32)
    · rw [if_pos c, if_pos c]
      exact ⟨_, _, _, rfl, rfl⟩
    · rw [if_neg c, if_neg c]
      exact ⟨_, _, _, rfl, rfl⟩
