/-- only the two rows of the odds have changed -/
def frO (U U' : SI) : Prop := ∀ a k, a ≠ 86 → a ≠ 87 → U' a k = U a k
theorem frO.rf (U : SI) : frO U U := fun _ _ _ _ => rfl
theorem frO.tr {U U1 U2 : SI} (h : frO U U1) (h2 : frO U1 U2) : frO U U2 := fun a k a1 a2 => (h2 a k a1 a2).trans (h a k a1 a2)
theorem unp_M {U : SI} {A : VW} (hV : HV A) (hM : HM (U 79) A) {k j : Nat} (hk : k < 6) (hj : j ≤ 12) : f_X10_unpaired U (nI k) (nI j) = some (nI (spN A k j)) := by
  have b0 := bx_le hV k 0
  have b1 := bx_le hV k 1
  have b2 := bk_two hV k
  have hh := hV.1.2.2.2
  have x0 := box_h hV hM (kd := k) (h := 0) hk (by omega)
  have x1 := box_h hV hM (kd := k) (h := 1) hk (by omega)
  rw [show nI 0 = (0 : Int32) from rfl] at x0
  rw [show nI 1 = (1 : Int32) from rfl] at x1
  unfold f_X10_unpaired
  rw [show inB (3 : Int32) 205 = true from rfl, gd_t, show ix (3 : Int32) = 3 from rfl, hM.1.2.2.2, x0, x1, box_k hV hM hk]
  simp only [sb, cho_M b0 hj, cho_M b1 hj, nI_add]
  simp only [show (nI (A 0 3) = (0 : Int32)) = (A 0 3 = 0) from propext (nI_eq (b := 0) (by omega) (by omega)), show (nI j = (0 : Int32)) = (j = 0) from propext (nI_eq (b := 0) (by omega) (by omega)), show (nI j = (1 : Int32)) = (j = 1) from propext (nI_eq (b := 1) (by omega) (by omega))]
  unfold spN
  by_cases c0 : j = 0
  · rw [if_pos c0, if_pos c0, if_pos c0]
    split <;> rfl
  · rw [if_neg c0, if_neg c0, if_neg c0]
    by_cases c : A 0 3 = 1
    · rw [if_pos c, if_neg (by omega)]
    · rw [if_neg c, if_pos (by omega)]
      by_cases c1 : j = 1
      · rw [if_pos c1, if_pos c1, b2]
      · rw [if_neg c1, if_neg c1]
        rfl
theorem od0_l {A : VW} (ke : SI → Option (Int32 × SI)) : ∀ (d m k : Nat) (U : SI), k + d = 13 → d < m → (∀ e, e < k → U 86 e = nI (pkN A 0 e)) → ∃ U', f_X10_odds_44 ke m (nI k) U = ke U' ∧ (∀ e, e < 13 → U' 86 e = nI (pkN A 0 e)) ∧ frO U U' := by
  intro d
  induction d with
  | zero =>
    intro m k U hk hm h
    obtain ⟨q, rfl⟩ : ∃ q, m = q + 1 := ⟨m - 1, by omega⟩
    rw [f_X10_odds_44, if_pos (show (12 : Int32) < nI k from nI_lt (a := 12) (by omega) (by omega))]
    exact ⟨U, rfl, fun e he => h e (by omega), frO.rf _⟩
  | succ d ih =>
    intro m k U hk hm h
    obtain ⟨q, rfl⟩ : ∃ q, m = q + 1 := ⟨m - 1, by omega⟩
    rw [f_X10_odds_44, if_neg (show ¬ (12 : Int32) < nI k by rw [lt_toInt, nI_toInt (by omega), show (12 : Int32).toInt = 12 from rfl]; omega)]
    unfold f_X10_odds_67
    rw [inBn (show k < 13 by omega) (by omega), gd_t, gd_t, nm_eq, nm_eq, ixn (by omega), nI_1]
    simp only [show (nI k = (0 : Int32)) = (k = 0) from propext (nI_eq (b := 0) (by omega) (by omega))]
    have hs : ∀ v, v = nI (pkN A 0 k) → ∃ U', f_X10_odds_44 ke q (nI (k + 1)) (up2 U 86 k v) = ke U' ∧ (∀ e, e < 13 → U' 86 e = nI (pkN A 0 e)) ∧ frO U U' := fun v hv => by
      obtain ⟨U', a1, a2, a3⟩ := ih q (k + 1) (up2 U 86 k v) (by omega) (by omega) (fun e he => by
        by_cases e2 : e = k
        · rw [e2, up2_eq, hv]
        · rw [up2_ne _ (by omega)]; exact h e (by omega))
      exact ⟨U', a1, a2, fun a k h1 h2 => by rw [a3 a k h1 h2, up2_ne _ (by omega)]⟩
    by_cases c : k = 0
    · rw [if_pos c]
      exact hs 1 (by rw [c]; rfl)
    · rw [if_neg c]
      refine hs 0 ?_
      show _ = nI (if k = 0 then 1 else 0)
      rw [if_neg c]
      rfl
theorem odi_l {A : VW} (hV : HV A) {k d : Nat} (hk : k < 6) (p : Nat → Nat) (hd : d ≤ 12) (ke : SI → Option (Int32 × SI)) : ∀ (r m j : Nat) (U : SI), j + r = d + 1 → r < m → HM (U 79) A → U 87 d = nI (smN (fun i => p (d - i) * spN A k i) j) → (∀ e, e < 13 → U 86 e = nI (p e)) → ∃ U', f_X10_odds_105 (nI k) (nI d) ke m (nI j) U = ke U' ∧ U' 87 d = nI (coN (spN A k) p d) ∧ (∀ a e, ¬ (a = 87 ∧ e = d) → U' a e = U a e) := by
  intro r
  induction r with
  | zero =>
    intro m j U hj hm hM hd2 hl
    obtain ⟨q, rfl⟩ : ∃ q, m = q + 1 := ⟨m - 1, by omega⟩
    rw [f_X10_odds_105, if_pos (nI_lt (by omega) (by omega))]
    refine ⟨U, rfl, ?_, fun _ _ _ => rfl⟩
    rw [hd2, show j = d + 1 by omega]
    rfl
  | succ r ih =>
    intro m j U hj hm hM hd2 hl
    obtain ⟨q, rfl⟩ : ∃ q, m = q + 1 := ⟨m - 1, by omega⟩
    rw [f_X10_odds_105, if_neg (show ¬ nI d < nI j by rw [nI_ltI (by omega) (by omega)]; omega), inBn (show d < 13 by omega) (by omega), gd_t, pk_sub (show j ≤ d by omega), inBn (show d - j < 13 by omega) (by omega), gd_t, unp_M hV hM hk (by omega), sb, gd_t, nm_eq, ixn (show d < 2 ^ 31 by omega), ixn (show d - j < 2 ^ 31 by omega), hd2, hl _ (by omega), pk_mul, nI_add, nI_1]
    have h79 : up2 U 87 d (nI (smN (fun i => p (d - i) * spN A k i) j + p (d - j) * spN A k j)) 79 = U 79 := up2_row _ (by omega)
    obtain ⟨U', a1, a2, a3⟩ := ih q (j + 1) (up2 U 87 d (nI (smN (fun i => p (d - i) * spN A k i) j + p (d - j) * spN A k j))) (by omega) (by omega) (by rw [h79]; exact hM) (by rw [up2_eq]; rfl) (fun e he => by rw [up2_ne _ (by omega)]; exact hl e he)
    exact ⟨U', a1, a2, fun a e he => by rw [a3 a e he, up2_ne _ (by omega)]⟩
theorem odo_l {A : VW} (hV : HV A) {k : Nat} (hk : k < 6) (p : Nat → Nat) (ke : SI → Option (Int32 × SI)) : ∀ (r m d : Nat) (U : SI), d + r = 13 → r < m → HM (U 79) A → (∀ e, e < d → U 87 e = nI (coN (spN A k) p e)) → (∀ e, e < 13 → U 86 e = nI (p e)) → ∃ U', f_X10_odds_87 (nI k) ke m (nI d) U = ke U' ∧ (∀ e, e < 13 → U' 87 e = nI (coN (spN A k) p e)) ∧ frO U U' := by
  intro r
  have hF := fu_big
  induction r with
  | zero =>
    intro m d U hj hm hM h1 h2
    obtain ⟨q, rfl⟩ : ∃ q, m = q + 1 := ⟨m - 1, by omega⟩
    rw [f_X10_odds_87, if_pos (show (12 : Int32) < nI d from nI_lt (a := 12) (by omega) (by omega))]
    exact ⟨U, rfl, fun e he => h1 e (by omega), frO.rf _⟩
  | succ r ih =>
    intro m d U hj hm hM h1 h2
    obtain ⟨q, rfl⟩ : ∃ q, m = q + 1 := ⟨m - 1, by omega⟩
    rw [f_X10_odds_87, if_neg (show ¬ (12 : Int32) < nI d by rw [lt_toInt, nI_toInt (by omega), show (12 : Int32).toInt = 12 from rfl]; omega), inBn (show d < 13 by omega) (by omega), gd_t, nm_eq, ixn (by omega), show (0 : Int32) = nI 0 from rfl]
    have h79 : up2 U 87 d (nI 0) 79 = U 79 := up2_row _ (by omega)
    obtain ⟨U1, a1, a2, a3⟩ := odi_l hV (k := k) (d := d) hk p (by omega) (fun Uo => f_X10_odds_147 Uo (nI d) (f_X10_odds_87 (nI k) ke q)) (d + 1) fu 0 (up2 U 87 d (nI 0)) (by omega) (by omega) (by rw [h79]; exact hM) (by rw [up2_eq]; rfl) (fun e he => by rw [up2_ne _ (by omega)]; exact h2 e he)
    rw [a1]
    unfold f_X10_odds_147
    rw [nI_1]
    have f1 : ∀ a e, ¬ (a = 87 ∧ e = d) → U1 a e = U a e := fun a e he => by rw [a3 a e he, up2_ne _ (by omega)]
    obtain ⟨U2, b1, b2, b3⟩ := ih q (d + 1) U1 (by omega) (by omega) (by rw [show U1 79 = U 79 from funext fun e => f1 _ _ (by omega)]; exact hM) (fun e he => by
      by_cases c : e = d
      · rw [c]; exact a2
      · rw [f1 _ _ (by omega)]; exact h1 e (by omega)) (fun e he => by rw [f1 _ _ (by omega)]; exact h2 e he)
    exact ⟨U2, b1, b2, fun a e h1 h2 => by rw [b3 a e h1 h2, f1 _ _ (by omega)]⟩
theorem odc_l (p : Nat → Nat) (ke : SI → Option (Int32 × SI)) : ∀ (r m d : Nat) (U : SI), d + r = 13 → r < m → (∀ e, e < 13 → U 87 e = nI (p e)) → (∀ e, e < d → U 86 e = nI (p e)) → ∃ U', f_X10_odds_156 ke m (nI d) U = ke U' ∧ (∀ e, e < 13 → U' 86 e = nI (p e)) ∧ frO U U' := by
  intro r
  induction r with
  | zero =>
    intro m d U hj hm h1 h2
    obtain ⟨q, rfl⟩ : ∃ q, m = q + 1 := ⟨m - 1, by omega⟩
    rw [f_X10_odds_156, if_pos (show (12 : Int32) < nI d from nI_lt (a := 12) (by omega) (by omega))]
    exact ⟨U, rfl, fun e he => h2 e (by omega), frO.rf _⟩
  | succ r ih =>
    intro m d U hj hm h1 h2
    obtain ⟨q, rfl⟩ : ∃ q, m = q + 1 := ⟨m - 1, by omega⟩
    rw [f_X10_odds_156, if_neg (show ¬ (12 : Int32) < nI d by rw [lt_toInt, nI_toInt (by omega), show (12 : Int32).toInt = 12 from rfl]; omega), inBn (show d < 13 by omega) (by omega), gd_t, gd_t, nm_eq, ixn (by omega), nI_1, h1 d (by omega)]
    obtain ⟨U2, b1, b2, b3⟩ := ih q (d + 1) (up2 U 86 d (nI (p d))) (by omega) (by omega) (fun e he => by rw [up2_ne _ (by omega)]; exact h1 e he) (fun e he => by
      by_cases c : e = d
      · rw [c, up2_eq]
      · rw [up2_ne _ (by omega)]; exact h2 e (by omega))
    exact ⟨U2, b1, b2, fun a e h1 h2 => by rw [b3 a e h1 h2, up2_ne _ (by omega)]⟩
theorem odk_l {A : VW} (hV : HV A) (ke : SI → Option (Int32 × SI)) : ∀ (r m k : Nat) (U : SI), k + r = 6 → r < m → HM (U 79) A → (∀ e, e < 13 → U 86 e = nI (pkN A k e)) → ∃ U', f_X10_odds_77 ke m (nI k) U = ke U' ∧ (∀ e, e < 13 → U' 86 e = nI (pkN A 6 e)) ∧ frO U U' := by
  intro r
  have hF := fu_big
  induction r with
  | zero =>
    intro m k U hj hm hM h2
    obtain ⟨q, rfl⟩ : ∃ q, m = q + 1 := ⟨m - 1, by omega⟩
    rw [f_X10_odds_77, if_pos (show (6 : Int32) ≤ nI k from nI_le (a := 6) (by omega) (by omega))]
    rw [show k = 6 by omega] at h2
    exact ⟨U, rfl, h2, frO.rf _⟩
  | succ r ih =>
    intro m k U hj hm hM h2
    obtain ⟨q, rfl⟩ : ∃ q, m = q + 1 := ⟨m - 1, by omega⟩
    rw [f_X10_odds_77, if_neg (show ¬ (6 : Int32) ≤ nI k from nI_ge (b := 6) (by omega) (by omega)), show (0 : Int32) = nI 0 from rfl]
    obtain ⟨U1, a1, a2, a3⟩ := odo_l hV (k := k) (by omega) (pkN A k) (fun Uo => f_X10_odds_153 Uo (nI k) (f_X10_odds_77 ke q)) 13 fu 0 U (by omega) (by omega) hM (fun e he => by omega) h2
    rw [a1]
    unfold f_X10_odds_153
    rw [show (0 : Int32) = nI 0 from rfl]
    obtain ⟨U2, b1, b2, b3⟩ := odc_l (coN (spN A k) (pkN A k)) (fun Uo => f_X10_odds_183 Uo (nI k) (f_X10_odds_77 ke q)) 13 fu 0 U1 (by omega) (by omega) a2 (fun e he => by omega)
    rw [b1]
    unfold f_X10_odds_183
    rw [nI_1]
    have f2 : frO U U2 := a3.tr b3
    obtain ⟨U3, c1, c2, c3⟩ := ih q (k + 1) U2 (by omega) (by omega) (by rw [show U2 79 = U 79 from funext fun e => f2 _ _ (by omega) (by omega)]; exact hM) b2
    exact ⟨U3, c1, c2, f2.tr c3⟩
theorem op_odds {P : Nat → Int32 → (Nat → Int32) → Prop} {S U : SI} (h : RR P S U) (T : SL) (v1 v2 : Int32) : ∃ (r : Int32) (S1 : SI) (T1 : SL) (U1 : SI), f_X9_odds S T v1 v2 = some (r, S1, T1) ∧ f_X10_odds U v1 v2 = some (r, U1) ∧ RR P S1 U1 := by
  obtain ⟨A, hV, hC, hM⟩ := h.1
  have hF := fu_big
  have hn := hV.1.1
  have hbo := bo_le hV
  have pm := plc_M hV hM (v := 0) (by omega)
  have e1 : pop (seN (fun i => A 14 i == 0) (A 0 0)) = boN A := pop_se _ hn
  rw [show nI 0 = (0 : Int32) from rfl] at pm
  obtain ⟨T1, a1, a2⟩ := lay_C T hV hC
  have heq : RR P (up2 S 60 1 (nI (boN A))) U := h.same (fun a k hl => up2_ne _ (by unfold liC at hl; omega)) eqM.rf
  unfold f_X9_odds f_X10_odds
  rw [wi _ 13 13 rfl, wi _ 2 2 rfl, mi _ 12 12 rfl, mi _ 1 1 rfl, sb, sb, sb, sb, pm, sb, ones_eq (se_small _ hn), sb, a1, sb, e1]
  cases hv1 : inB v1 13 with
  | false => exact ⟨_, _, _, _, rfl, rfl, h⟩
  | true =>
    cases hv2 : inB v2 2 with
    | false => exact ⟨_, _, _, _, rfl, rfl, h⟩
    | true =>
      simp only [if_true, show ¬ (1 : Int32) = 0 by decide, if_false, up2_eq]
      obtain ⟨d, hd, rfl⟩ := inB_of hv1 (by omega)
      obtain ⟨w, hw, rfl⟩ := inB_of hv2 (by omega)
      by_cases hdb : d ≤ boN A
      · rw [if_pos (nI_le hdb (by omega)), if_pos (nI_le hdb (by omega)), cho_C hbo (by omega), sb, gd_t, ixn (by omega), a2 d hdb]
        have hle : pkN A 6 d ≤ chN (boN A) d := by
          have := pkn_le hV 6 (by omega) d (by omega)
          rw [nk_6 hV] at this
          exact this
        have hc := ch_le (a := boN A) (j := d) hbo (by omega)
        have hc0 := hc.2 hdb
        rw [lN_sub hle, low_C (by omega) (by omega) hc0 hw, sb, lN_i]
        obtain ⟨U1, b1, b2, b3⟩ := od0_l (A := A) (fun Uo => f_X10_odds_74 Uo (nI d) (nI w) (nI (boN A))) 13 fu 0 U (by omega) (by omega) (fun e he => by omega)
        obtain ⟨U2, c1, c2, c3⟩ := odk_l hV (fun Uo => f_X10_odds_189 Uo (nI d) (nI w) (nI (boN A))) 6 fu 0 U1 (by omega) (by omega) (by rw [show U1 79 = U 79 from funext fun e => b3 _ _ (by omega) (by omega)]; exact hM) b2
        have f2 := b3.tr c3
        refine ⟨_, _, _, U2, rfl, ?_, heq.same eqC.rf (fun a k hl => f2 _ _ (by unfold liM at hl; omega) (by unfold liM at hl; omega))⟩
        rw [show (0 : Int32) = nI 0 from rfl, b1]
        unfold f_X10_odds_74
        rw [show (0 : Int32) = nI 0 from rfl, c1]
        unfold f_X10_odds_189
        have hg : 0 < Nat.gcd (chN (boN A) d) (chN (boN A) d - pkN A 6 d) := Nat.gcd_pos_of_pos_left _ hc0
        have hg2 : Nat.gcd (chN (boN A) d) (chN (boN A) d - pkN A 6 d) ≤ chN (boN A) d := Nat.le_of_dvd hc0 (Nat.gcd_dvd_left _ _)
        rw [cho_M hbo (by omega), sb, inBn hd (by omega), gd_t, ixn (by omega), c2 d hd, pk_sub hle, nI_l (by omega), nI_l (by omega), com_M (by omega) (by omega), sb, gd_t, lN_i]
        have hg3 : ¬ nI (Nat.gcd (chN (boN A) d) (chN (boN A) d - pkN A 6 d)) = 0 := nI_ne0 (by omega) (by omega)
        have hw2 : w = 0 ∨ w = 1 := by omega
        rcases hw2 with rfl | rfl
        · rw [if_pos (show nI 0 = (0 : Int32) from rfl), if_pos rfl, if_neg hg3, pk_div (by omega) hg (by omega)]
        · rw [if_neg (show ¬ nI 1 = (0 : Int32) by decide), if_neg (show ¬ 1 = 0 by omega), if_neg hg3, pk_div (by omega) hg (by omega)]
      · rw [if_neg (nI_ge (by omega) (by omega)), if_neg (nI_ge (by omega) (by omega))]
        exact ⟨_, _, _, _, rfl, rfl, heq⟩
