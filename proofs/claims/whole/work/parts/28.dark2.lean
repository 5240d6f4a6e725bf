theorem lay0_l {A : VW} (ke : SL → Option (SI × SL)) : ∀ (d m k : Nat) (T : SL), k + d = 13 → d < m → (∀ e, e < k → T 61 e = lN (pkN A 0 e)) → ∃ T', f_X0_lay_24 ke m (nI k) T = ke T' ∧ ∀ e, e < 13 → T' 61 e = lN (pkN A 0 e) := by
  intro d
  induction d with
  | zero =>
    intro m k T hk hm h
    obtain ⟨q, rfl⟩ : ∃ q, m = q + 1 := ⟨m - 1, by omega⟩
    rw [f_X0_lay_24, if_pos (show (12 : Int32) < nI k from nI_lt (a := 12) (by omega) (by omega))]
    exact ⟨T, rfl, fun e he => h e (by omega)⟩
  | succ d ih =>
    intro m k T hk hm h
    obtain ⟨q, rfl⟩ : ∃ q, m = q + 1 := ⟨m - 1, by omega⟩
    rw [f_X0_lay_24, if_neg (show ¬ (12 : Int32) < nI k by rw [lt_toInt, nI_toInt (by omega), show (12 : Int32).toInt = 12 from rfl]; omega)]
    unfold f_X0_lay_47
    rw [inBn (show k < 13 by omega) (by omega), gd_t, gd_t, nm_eq, nm_eq, ixn (by omega), nI_1]
    simp only [show (nI k = (0 : Int32)) = (k = 0) from propext (nI_eq (b := 0) (by omega) (by omega))]
    have hs : ∀ v, v = lN (pkN A 0 k) → ∃ T', f_X0_lay_24 ke q (nI (k + 1)) (up2 T 61 k v) = ke T' ∧ ∀ e, e < 13 → T' 61 e = lN (pkN A 0 e) := fun v hv => ih q (k + 1) _ (by omega) (by omega) (fun e he => by
      by_cases e2 : e = k
      · rw [e2, up2_eq, hv]
      · rw [up2_ne _ (by omega)]; exact h e (by omega))
    by_cases c : k = 0
    · rw [if_pos c]
      exact hs 1 (by rw [c]; rfl)
    · rw [if_neg c]
      refine hs 0 ?_
      show _ = lN (if k = 0 then 1 else 0)
      rw [if_neg c]
      rfl
theorem swp_C {A : VW} (hV : HV A) {k j : Nat} (h0 : 1 ≤ j) (hj : j ≤ 12) : f_X0_setsWithoutPair (nI (bxN A k 0)) (nI (bxN A k 1)) (if A 0 3 = 1 then 1 else 0) (nI j) = some (lN (spN A k j)) := by
  have b0 := bx_le hV k 0
  have b1 := bx_le hV k 1
  unfold f_X0_setsWithoutPair spN
  rw [if_neg (show ¬ j = 0 by omega)]
  by_cases c : A 0 3 = 1
  · rw [if_pos c, if_pos c, if_neg (show ¬ (1 : Int32) = 0 by decide), cho_C b0 hj, cho_C b1 hj, sb, sb, lN_add]
  · rw [if_neg c, if_neg c, if_pos rfl]
    by_cases c1 : j = 1
    · rw [if_pos (show nI j = (1 : Int32) by rw [c1]; rfl), if_pos c1, nI_add, nI_l (by omega)]
    · rw [if_neg (show ¬ nI j = (1 : Int32) by rw [show (1 : Int32) = nI 1 from rfl, nI_eq (by omega) (by omega)]; exact c1), if_neg c1]
      rfl
theorem adi_l {A : VW} (hV : HV A) {k d : Nat} (p : Nat → Nat) (hd : d ≤ 12) (ke : SL → Option SL) : ∀ (r m j : Nat) (T : SL), j + r = d + 1 → 1 ≤ j → r < m → T 61 d = lN (smN (fun i => p (d - i) * spN A k i) j) → (∀ e, e < d → T 61 e = lN (p e)) → ∃ T', f_X0_addKind_15 (nI (bxN A k 0)) (nI (bxN A k 1)) (if A 0 3 = 1 then 1 else 0) (nI d) ke m (nI j) T = ke T' ∧ T' 61 d = lN (coN (spN A k) p d) ∧ ∀ e, e ≠ d → T' 61 e = T 61 e := by
  intro r
  induction r with
  | zero =>
    intro m j T hj h1 hm hd2 hl
    obtain ⟨q, rfl⟩ : ∃ q, m = q + 1 := ⟨m - 1, by omega⟩
    rw [f_X0_addKind_15, if_pos (nI_lt (by omega) (by omega))]
    refine ⟨T, rfl, ?_, fun _ _ => rfl⟩
    rw [hd2, show j = d + 1 by omega]
    rfl
  | succ r ih =>
    intro m j T hj h1 hm hd2 hl
    obtain ⟨q, rfl⟩ : ∃ q, m = q + 1 := ⟨m - 1, by omega⟩
    rw [f_X0_addKind_15, if_neg (show ¬ nI d < nI j by rw [nI_ltI (by omega) (by omega)]; omega), inBn (show d < 13 by omega) (by omega), gd_t, pk_sub (show j ≤ d by omega), inBn (show d - j < 13 by omega) (by omega), gd_t, swp_C hV h1 (by omega), sb, gd_t, nm_eq, ixn (show d < 2 ^ 31 by omega), ixn (show d - j < 2 ^ 31 by omega), hd2, hl _ (by omega), lN_mul, lN_add, nI_1]
    obtain ⟨T', a1, a2, a3⟩ := ih q (j + 1) (up2 T 61 d (lN (smN (fun i => p (d - i) * spN A k i) j + p (d - j) * spN A k j))) (by omega) (by omega) (by omega) (by rw [up2_eq]; rfl) (fun e he => by rw [up2_ne _ (by omega)]; exact hl e he)
    exact ⟨T', a1, a2, fun e he => by rw [a3 e he, up2_ne _ (by omega)]⟩
theorem ado_l {A : VW} (hV : HV A) {k b : Nat} (p : Nat → Nat) (hb : b ≤ 12) : ∀ (d m : Nat) (T : SL), d ≤ b → d < m → (∀ e, e ≤ b → T 61 e = lN (if e ≤ d then p e else coN (spN A k) p e)) → ∃ T', f_X0_addKind_6 (nI (bxN A k 0)) (nI (bxN A k 1)) (if A 0 3 = 1 then 1 else 0) m (nI d) T = some T' ∧ ∀ e, e ≤ b → T' 61 e = lN (coN (spN A k) p e) := by
  intro d
  have hF := fu_big
  induction d with
  | zero =>
    intro m T _ hm h
    obtain ⟨q, rfl⟩ : ∃ q, m = q + 1 := ⟨m - 1, by omega⟩
    rw [f_X0_addKind_6, if_pos (show nI 0 < (1 : Int32) by decide)]
    refine ⟨T, rfl, fun e he => ?_⟩
    rw [h e he]
    by_cases c : e ≤ 0
    · rw [if_pos c, show e = 0 by omega]
      show _ = lN (smN (fun j => p (0 - j) * spN A k j) 1)
      unfold smN smN spN
      simp
    · rw [if_neg c]
  | succ d ih =>
    intro m T hd hm h
    obtain ⟨q, rfl⟩ : ∃ q, m = q + 1 := ⟨m - 1, by omega⟩
    rw [f_X0_addKind_6, if_neg (show ¬ nI (d + 1) < (1 : Int32) by rw [lt_toInt, nI_toInt (by omega), show (1 : Int32).toInt = 1 from rfl]; omega), show (1 : Int32) = nI 1 from rfl]
    have hsp : spN A k 0 = 1 := by unfold spN; rw [if_pos rfl]
    obtain ⟨T1, a1, a2, a3⟩ := adi_l hV (k := k) (d := d + 1) p (by omega) (fun To => f_X0_addKind_57 To (nI (d + 1)) (f_X0_addKind_6 (nI (bxN A k 0)) (nI (bxN A k 1)) (if A 0 3 = 1 then 1 else 0) q)) (d + 1) fu 1 T (by omega) (by omega) (by omega) (by
      rw [h (d + 1) hd, if_pos (by omega)]
      show _ = lN (0 + p (d + 1 - 0) * spN A k 0)
      rw [hsp]
      simp) (fun e he => by rw [h e (by omega), if_pos (by omega)])
    refine (fun ⟨T', c1, c2⟩ => ⟨T', a1.trans c1, c2⟩) (?_ : ∃ T', f_X0_addKind_57 T1 (nI (d + 1)) (f_X0_addKind_6 (nI (bxN A k 0)) (nI (bxN A k 1)) (if A 0 3 = 1 then 1 else 0) q) = some T' ∧ ∀ e, e ≤ b → T' 61 e = lN (coN (spN A k) p e))
    unfold f_X0_addKind_57
    rw [show nI (d + 1) + (-1 : Int32) = nI d from (by rw [← Int32.sub_eq_add_neg]; exact nI_pred d)]
    refine ih q T1 (by omega) (by omega) (fun e he => ?_)
    by_cases c : e = d + 1
    · rw [c, a2, if_neg (by omega)]
    · rw [a3 e c, h e he]
      by_cases c2 : e ≤ d
      · rw [if_pos c2, if_pos (by omega)]
      · rw [if_neg c2, if_neg (by omega)]
theorem lay_l {S : SI} {A : VW} (hV : HV A) (hC : HC S 1 A) (hb : S 60 1 = nI (boN A)) : ∀ (d m k : Nat) (T : SL), k + d = 6 → d < m → (∀ e, e ≤ boN A → T 61 e = lN (pkN A k e)) → ∃ T', f_X0_lay_57 S (nI (seN (fun i => A 14 i == 0) (A 0 0))) (nI (seN (fun i => A 11 i == 0) (A 0 0))) m (nI k) T = some (S, T') ∧ ∀ e, e ≤ boN A → T' 61 e = lN (pkN A 6 e) := by
  intro d
  have hF := fu_big
  have hn := hV.1.1
  have hh := hV.1.2.2.2
  have hbo := bo_le hV
  induction d with
  | zero =>
    intro m k T hk hm h
    obtain ⟨q, rfl⟩ : ∃ q, m = q + 1 := ⟨m - 1, by omega⟩
    rw [f_X0_lay_57, if_pos (show (6 : Int32) ≤ nI k from nI_le (a := 6) (by omega) (by omega))]
    refine ⟨T, rfl, ?_⟩
    rw [show k = 6 by omega] at h
    exact h
  | succ d ih =>
    intro m k T hk hm h
    obtain ⟨q, rfl⟩ : ∃ q, m = q + 1 := ⟨m - 1, by omega⟩
    have ck := hav_C hV hC (t := 0) (v := k) (by omega) (by omega)
    rw [show nI 0 = (0 : Int32) from rfl] at ck
    have b0 := bx_le hV k 0
    have b1 := bx_le hV k 1
    have b2 := bk_two hV k
    have e1 : pop (seN (fun i => A 14 i == 0 && A (10 + 0) i == k) (A 0 0)) = bkN A k := pop_se _ hn
    have e2 : pop (seN (fun i => (A 14 i == 0 && A (10 + 0) i == k) && A 11 i == 0) (A 0 0)) = bxN A k 0 := by
      rw [pop_se _ hn]
      unfold bxN
      apply fb_ct_cong
      intro i _
      cases (A 14 i == 0) <;> cases (A 10 i == k) <;> rfl
    rw [f_X0_lay_57, if_neg (show ¬ (6 : Int32) ≤ nI k from nI_ge (b := 6) (by omega) (by omega)), ck, sb, nm_eq, nx_and, se_and, nx_and, se_and, bc_eq (se_small _ hn), sb, bc_eq (se_small _ hn), sb, e1, e2, pk_sub (show bxN A k 0 ≤ bkN A k by omega), show bkN A k - bxN A k 0 = bxN A k 1 by omega, hC.1.2.2.2]
    unfold f_X0_lay_108 f_X0_addKind
    rw [hb, nm_eq, nm_eq]
    obtain ⟨T1, a1, a2⟩ := ado_l hV (k := k) (b := boN A) (pkN A k) hbo (boN A) fu T (by omega) (by omega) (fun e he => by rw [h e he, if_pos he])
    simp only [show (nI (A 0 3) = (1 : Int32)) = (A 0 3 = 1) from propext (nI_eq (b := 1) (by omega) (by omega)), nI_1]
    by_cases c : A 0 3 = 1
    · rw [if_pos c] at a1 ⊢
      rw [a1, sb]
      exact ih q (k + 1) T1 (by omega) (by omega) a2
    · rw [if_neg c] at a1 ⊢
      rw [a1, sb]
      exact ih q (k + 1) T1 (by omega) (by omega) a2
theorem lay_C {S : SI} {A : VW} (T : SL) (hV : HV A) (hC : HC S 1 A) : ∃ T', f_X0_lay S T = some (up2 S 60 1 (nI (boN A)), T') ∧ ∀ e, e ≤ boN A → T' 61 e = lN (pkN A 6 e) := by
  have hF := fu_big
  have hn := hV.1.1
  have hbo := bo_le hV
  have c1 := plc_C hV hC (v := 0) (by omega)
  have ch := hav_C hV hC (t := 1) (v := 0) (by omega) (by omega)
  rw [show nI 0 = (0 : Int32) from rfl] at c1 ch
  rw [show nI 1 = (1 : Int32) from rfl] at ch
  have e1 : pop (seN (fun i => A 14 i == 0) (A 0 0)) = boN A := pop_se _ hn
  have hC2 : HC (up2 S 60 1 (nI (boN A))) 1 A := hC.cg (fun a k _ h2 => up2_ne _ (by omega)) hn
  unfold f_X0_lay
  rw [c1, sb, ch, sb, bc_eq (se_small _ hn), sb, e1, nm_eq]
  obtain ⟨T1, a1, a2⟩ := lay0_l (A := A) (fun To => f_X0_lay_54 (up2 S 60 1 (nI (boN A))) To (nI (seN (fun i => A 14 i == 0) (A 0 0))) (nI (seN (fun i => A (10 + 1) i == 0) (A 0 0)))) 13 fu 0 T (by omega) (by omega) (fun e he => by omega)
  obtain ⟨T2, b1, b2⟩ := lay_l hV hC2 (up2_eq _ _ _ _) 6 fu 0 T1 (by omega) (by omega) (fun e he => a2 e (by omega))
  refine ⟨T2, ?_, b2⟩
  rw [show (0 : Int32) = nI 0 from rfl, a1]
  unfold f_X0_lay_54
  rw [show (0 : Int32) = nI 0 from rfl]
  exact b1
theorem lon_l {S : SI} {T : SL} {b M : Nat} {p : Nat → Nat} (hb : b ≤ 12) (hM : M ≤ b) (hS : S 60 1 = nI b) (hT : ∀ e, e ≤ b → T 61 e = lN (p e)) (hp : ∀ e, e ≤ b → p e < 2 ^ 31) (hpos : ∀ e, e ≤ b → (0 < p e ↔ e ≤ M)) : ∀ (d m k : Nat), k + d = b + 1 → 1 ≤ k → d < m → f_X0_longestPairless_4 S T m (nI (min M (k - 1))) (nI k) = some (nI M) := by
  intro d
  induction d with
  | zero =>
    intro m k hk h1 hm
    obtain ⟨q, rfl⟩ : ∃ q, m = q + 1 := ⟨m - 1, by omega⟩
    rw [f_X0_longestPairless_4, hS, if_pos (nI_lt (by omega) (by omega)), Nat.min_eq_left (by omega)]
  | succ d ih =>
    intro m k hk h1 hm
    obtain ⟨q, rfl⟩ : ∃ q, m = q + 1 := ⟨m - 1, by omega⟩
    have i := ih q (k + 1) (by omega) (by omega) (by omega)
    rw [f_X0_longestPairless_4, hS, if_neg (show ¬ nI b < nI k by rw [nI_ltI (by omega) (by omega)]; omega), inBn (show k < 13 by omega) (by omega), gd_t, ixn (by omega), hT k (by omega), nI_1]
    have hpk := hp k (by omega)
    have hq := hpos k (by omega)
    simp only [show (lN (p k) ≤ (0 : Int64)) = (p k ≤ 0) from propext (pk_lLE (b := 0) (by omega) (by omega))]
    by_cases c : k ≤ M
    · rw [if_neg (by omega)]
      rw [show min M (k + 1 - 1) = k by omega] at i
      exact i
    · rw [if_pos (by omega)]
      rw [show min M (k + 1 - 1) = min M (k - 1) by omega] at i
      exact i
theorem op_worst {P : Nat → Int32 → (Nat → Int32) → Prop} {S U : SI} (h : RR P S U) (T : SL) : ∃ (r : Int32) (S1 : SI) (T1 : SL), f_X9_worst S T = some (r, S1, T1) ∧ f_X10_worst U = some r ∧ RR P S1 U := by
  obtain ⟨A, hV, hC, hM⟩ := h.1
  have hF := fu_big
  have hn := hV.1.1
  have hbo := bo_le hV
  have hms := mk_sum hV
  obtain ⟨T1, a1, a2⟩ := lay_C T hV hC
  have hlt : ∀ e, e ≤ boN A → pkN A 6 e ≤ 1000 := fun e he => Nat.le_trans (pkn_le hV 6 (by omega) e (by omega)) (ch_le (by rw [nk_6 hV]; omega) (by omega)).1
  have hl := lon_l (S := up2 S 60 1 (nI (boN A))) (T := T1) (b := boN A) (M := smN (mkN A) 6) hbo hms (up2_eq _ _ _ _) a2 (fun e he => by have := hlt e he; omega) (fun e he => pkn_pos hV 6 e (by omega)) (boN A) fu 1 (by omega) (by omega) (by omega)
  have hw := worM_l hV hM (fun o1 => f_X10_worst_62 U o1) 6 fu 0 (by omega) (by omega)
  have pm := plc_M hV hM (v := 0) (by omega)
  have e1 : pop (seN (fun i => A 14 i == 0) (A 0 0)) = boN A := pop_se _ hn
  rw [show nI 0 = (0 : Int32) from rfl] at pm
  unfold f_X9_worst f_X10_worst f_X0_longestPairless
  rw [a1, sb]
  rw [show (min (smN (mkN A) 6) (1 - 1)) = 0 by omega] at hl
  rw [show smN (mkN A) 0 = 0 from rfl] at hw
  rw [show (0 : Int32) = nI 0 from rfl, hw, show (1 : Int32) = nI 1 from rfl, hl, sb, nm_eq, nI_add]
  simp only [up2_eq]
  unfold f_X10_worst_62
  rw [pm, sb, ones_eq (se_small _ hn), sb, e1]
  have heq : RR P (up2 S 60 1 (nI (boN A))) U := h.same (fun a k hl => up2_ne _ (by unfold liC at hl; omega)) eqM.rf
  by_cases c : smN (mkN A) 6 + 1 ≤ boN A
  · rw [if_pos (nI_le c (by omega)), if_neg (show ¬ nI (boN A) ≤ nI (smN (mkN A) 6) from nI_ge (by omega) (by omega)), nI_1]
    exact ⟨_, _, _, rfl, rfl, heq⟩
  · rw [if_neg (nI_ge (by omega) (by omega)), if_pos (nI_le (by omega) (by omega))]
    exact ⟨_, _, _, rfl, rfl, heq⟩
