theorem HC_up {S S' : SI} {A : VW} (hC : HC S 1 A) (hn : A 0 0 ≤ 12) (e : ∀ a k, a < 21 → ¬ ((a = 3 ∨ a = 4) ∧ k = A 0 1) → S' a k = S a k) : HC S' 1 A := by
  obtain ⟨⟨h1, h2, h3, h4⟩, ⟨h5, h6, h7, h8⟩, h9, h10⟩ := hC
  refine ⟨⟨?_, ?_, ?_, ?_⟩, ⟨fun j hj => ?_, fun j hj => ?_, fun j hj => ?_, fun j hj => ?_⟩, fun m hm => ⟨?_, ?_⟩, fun i hi => ?_⟩
  · rw [e _ _ (by omega) (by omega), h1]
  · rw [e _ _ (by omega) (by omega), h2]
  · rw [e _ _ (by omega) (by omega), h3]
  · rw [e _ _ (by omega) (by omega), h4]
  · rw [e _ _ (by omega) (by omega), h5 j hj]
  · rw [e _ _ (by omega) (by omega), h6 j hj]
  · rw [e _ _ (by omega) (by omega), h7 j hj]
  · rw [e _ _ (by omega) (by omega), h8 j hj]
  · rw [e _ _ (by omega) (by omega), (h9 m hm).1]
  · rw [e _ _ (by omega) (by omega), (h9 m hm).2]
  · have := h10 i hi
    rw [show S' (1 + 8 + i) = S (1 + 8 + i) from funext (fun k => e _ k (by omega) (by omega))]
    exact this
theorem HM_up {Z Z' : Nat → Int32} {A : VW} (hM : HM Z A) (hn : A 0 0 ≤ 12) (h12 : A 0 1 ≤ 11) (e : ∀ k, ¬ (133 + 3 * A 0 1 ≤ k ∧ k < 136 + 3 * A 0 1) → Z' k = Z k) : HM Z' A := by
  obtain ⟨⟨h1, h2, h3, h4⟩, ⟨h5, h6, h7, h8⟩, h9, h10⟩ := hM
  refine ⟨⟨?_, ?_, ?_, ?_⟩, ⟨fun j hj => ?_, fun j hj => ?_, fun j hj => ?_, fun j hj => ?_⟩, fun m hm => ⟨?_, ?_, ?_⟩, fun i hi => ?_⟩
  · rw [e _ (by omega), h1]
  · rw [e _ (by omega), h2]
  · rw [e _ (by omega), h3]
  · rw [e _ (by omega), h4]
  · rw [e _ (by omega), h5 j hj]
  · rw [e _ (by omega), h6 j hj]
  · rw [e _ (by omega), h7 j hj]
  · rw [e _ (by omega), h8 j hj]
  · rw [e _ (by omega), (h9 m hm).1]
  · rw [e _ (by omega), (h9 m hm).2.1]
  · rw [e _ (by omega), (h9 m hm).2.2]
  · exact skM_cg (h10 i hi) (fun k _ => e _ (by omega))
theorem lo_set {w c n : Nat} (hw : w < 2 ^ n) (hn : n ≤ 12) : nI w &&& (nI c ^^^ (-1 : Int32)) = nI (seN (loB w c) n) := by
  rw [not_set, nx_and]
  congr 1
  apply Nat.eq_of_testBit_eq
  intro i
  rw [Nat.testBit_and, Nat.testBit_xor, se_bit, show (4294967295 : Nat) = 2 ^ 32 - 1 from rfl, Nat.testBit_two_pow_sub_one]
  unfold loB
  by_cases hi : i < n
  · simp [hi, show i < 32 by omega]
  · have : w.testBit i = false := Nat.testBit_lt_two_pow (Nat.lt_of_lt_of_le hw (Nat.pow_le_pow_right (by omega) (by omega)))
    simp [this]
theorem st_set {w l n : Nat} (hw : w < 2 ^ n) (hl : l < 2 ^ n) (hn : n ≤ 12) : (nI (2 ^ n - 1) &&& (nI w ^^^ (-1 : Int32))) &&& (nI l ^^^ (-1 : Int32)) = nI ((2 ^ n - 1) ^^^ (w ||| l)) := by
  rw [not_set, not_set, nx_and, nx_and]
  congr 1
  apply Nat.eq_of_testBit_eq
  intro i
  rw [Nat.testBit_and, Nat.testBit_and, Nat.testBit_xor, Nat.testBit_xor, Nat.testBit_xor, Nat.testBit_or, show (4294967295 : Nat) = 2 ^ 32 - 1 from rfl, Nat.testBit_two_pow_sub_one, Nat.testBit_two_pow_sub_one]
  by_cases hi : i < n
  · simp [hi, show i < 32 by omega]
  · have e1 : w.testBit i = false := Nat.testBit_lt_two_pow (Nat.lt_of_lt_of_le hw (Nat.pow_le_pow_right (by omega) (by omega)))
    have e2 : l.testBit i = false := Nat.testBit_lt_two_pow (Nat.lt_of_lt_of_le hl (Nat.pow_le_pow_right (by omega) (by omega)))
    simp [hi, e1, e2]
theorem mV_0 {A : VW} {w c l r j : Nat} (h1 : 10 ≤ r) (h2 : r ≤ 18) : mV A w c l 0 r j = A r j := by
  by_cases hr : r = 12 ∨ r = 13
  · rw [mV_t _ _ _ _ _ _ hr, if_neg (by omega)]
  · by_cases h14 : r = 14
    · subst h14
      rw [mV_14, if_neg (by omega), if_neg (by omega)]
    · by_cases h16 : r = 16
      · subst h16
        rw [mV_16, if_neg (by omega)]
      · rw [mV_lo _ _ _ _ _ (by omega)]
theorem mY_0 {A : VW} {w c r j : Nat} : mY A w c 0 0 r j = A r j := by
  by_cases hr : r = 12 ∨ r = 13
  · rw [mY_t _ _ _ _ _ _ hr, if_neg (by omega)]
  · by_cases h14 : r = 14
    · subst h14
      rw [mY_14, if_neg (by omega), if_neg (by omega)]
    · by_cases h16 : r = 16
      · subst h16
        rw [mY_16, if_neg (by omega)]
      · rw [mY_lo _ _ _ _ _ (by omega)]
theorem mY_mV {A : VW} {w c l r j : Nat} (hV : HV A) (hj : j < A 0 0) (h1 : 10 ≤ r) (h2 : r ≤ 18) : mV A w c l (A 0 0) r j = mY A w c (A 0 0) (A 0 0) r j := by
  by_cases hr : r = 12 ∨ r = 13
  · rw [mV_t _ _ _ _ _ _ hr, mY_t _ _ _ _ _ _ hr]
  · by_cases h14 : r = 14
    · subst h14
      rw [mV_14, mY_14]
      by_cases g : loB w c j = true
      · rw [if_pos ⟨hj, g⟩, if_pos ⟨hj, g⟩]
      · rw [if_neg (show ¬ (j < A 0 0 ∧ loB w c j = true) from fun z => g z.2), if_neg (show ¬ (j < A 0 0 ∧ loB w c j = true) from fun z => g z.2)]
        simp [g]
    · by_cases h16 : r = 16
      · subst h16
        rw [mV_16, mY_16]
      · rw [mV_lo _ _ _ _ _ (by omega), mY_lo _ _ _ _ _ (by omega)]
theorem mon_V {A : VW} (hV : HV A) {w c : Nat} (hw : w < 2 ^ A 0 0) (h11 : A 0 1 ≤ 11) (hgo : ∀ i, i < A 0 0 → goB A w i = true) : HV (mV A w c (seN (fun i => A 14 i == 1) (A 0 0)) (A 0 0)) := by
  have hn := hV.1.1
  obtain ⟨⟨v1, v2, v3, v4⟩, ⟨v5, v6, v7⟩, v8, v9⟩ := id hV
  generalize hl : seN (fun i => A 14 i == 1) (A 0 0) = l
  obtain ⟨m5, m6, m7, m1⟩ := mV_5 A w c l (A 0 0)
  have lo' : ∀ r j, (r = 1 ∨ r = 2 ∨ r = 3 ∨ r = 4 ∨ r = 10 ∨ r = 11 ∨ r = 15 ∨ r = 17 ∨ r = 18 ∨ (r = 0 ∧ j ≠ 1) ∨ ((r = 5 ∨ r = 6 ∨ r = 7) ∧ j ≠ A 0 1)) → mV A w c l (A 0 0) r j = A r j := fun r j h => mV_lo _ _ _ _ _ h
  refine ⟨⟨by rw [lo' _ _ (by omega)]; exact v1, by rw [m1]; omega, by rw [lo' _ _ (by omega)]; exact v3, by rw [lo' _ _ (by omega)]; exact v4⟩, ⟨fun j hj => by rw [lo' _ _ (by omega)]; exact v5 j hj, fun j hj => by rw [lo' _ _ (by omega)]; exact v6 j hj, fun j hj => by rw [lo' _ _ (by omega), lo' _ _ (by omega)]; exact v7 j hj⟩, fun m hm => ?_, fun i hi => ?_⟩
  · rw [m1] at hm
    by_cases e : m = A 0 1
    · subst e
      refine ⟨A 0 0, by rw [lo' 0 0 (by omega)]; omega, m7, by rw [m5]; exact hw, by rw [m6, ← hl]; exact se_lt _ _, ?_⟩
      rw [m5, m6, ← hl]
      apply Nat.eq_of_testBit_eq
      intro i
      rw [Nat.testBit_and, se_bit, Nat.zero_testBit]
      by_cases hi : i < A 0 0
      · have := hgo i hi
        unfold goB at this
        revert this
        cases w.testBit i <;> cases (A 14 i == 1) <;> simp
      · simp [hi]
    · obtain ⟨k, h1, h2, h3, h4, h5⟩ := v8 m (by omega)
      unfold wkV
      rw [lo' 0 0 (by omega), lo' 5 m (by omega), lo' 6 m (by omega), lo' 7 m (by omega)]
      exact ⟨k, h1, h2, h3, h4, h5⟩
  · rw [lo' 0 0 (by omega)] at hi
    have g := v9 i hi
    have h14 := mV_14 A w c l (A 0 0)
    unfold skV at g ⊢
    rw [lo' 10 i (by omega), lo' 11 i (by omega), lo' 15 i (by omega), lo' 17 i (by omega), lo' 18 i (by omega), lo' 0 0 (by omega), m1, lo' 18 (A 18 i) (by omega), lo' 10 (A 18 i) (by omega), lo' 15 (A 15 i) (by omega)]
    refine ⟨⟨g.1.1, g.1.2.1, ?_, ?_⟩, ⟨?_, fun h2 => ?_, fun h1 => ?_⟩, g.2.2.1, g.2.2.2⟩
    · rw [mV_t _ _ _ _ _ _ (by omega), mV_t _ _ _ _ _ _ (by omega)]
      unfold fdN
      split <;> omega
    · rw [mV_t _ _ _ _ _ _ (by omega)]
      unfold fdN
      split <;> omega
    · rw [h14]
      split
      · omega
      · split <;> omega
    · rw [h14] at h2
      by_cases a1 : i < A 0 0 ∧ loB w c i = true
      · rw [if_pos a1] at h2; omega
      · rw [if_neg a1] at h2
        by_cases a2 : A 14 i = 2 ∧ A 15 i < A 0 0 ∧ loB w c (A 15 i) = true
        · rw [if_pos a2] at h2; omega
        · rw [if_neg a2] at h2
          obtain ⟨o1, o2, o3, o4⟩ := g.2.1.2.1 h2
          refine ⟨o1, o2, ?_, o4⟩
          rw [h14, if_neg (fun z => a2 ⟨h2, z⟩), o4, if_neg (fun z => a1 z.2)]
          exact o3
    · rw [mV_16]
      rw [h14] at h1
      by_cases a1 : i < A 0 0 ∧ loB w c i = true
      · rw [if_pos a1]; omega
      · rw [if_neg a1] at h1 ⊢
        split at h1
        · omega
        · have := g.2.1.2.2 h1
          omega
theorem op_monday {P : Nat → Int32 → (Nat → Int32) → Prop} {S U : SI} (h : RR P S U) (v1 v2 : Int32) : ∃ (r : Int32) (S1 U1 : SI), f_X9_monday S v1 v2 = some (r, S1) ∧ f_X10_monday U v1 v2 = some (r, U1) ∧ RR P S1 U1 := by
  obtain ⟨A, hA⟩ := h.1
  obtain ⟨hV, hC, hM⟩ := id hA
  have hn := hV.1.1
  have hF := fu_big
  have hp := pow12 hn
  unfold f_X9_monday f_X10_monday
  rw [evr_C hn hC.1.1, evr_M hn hM.1.1, sb, sb, in_set hn, sb]
  by_cases hin : inB v1 (2 ^ A 0 0) = true
  · rw [if_pos ((sub_set hn v1).mpr hin), hin, if_pos rfl, if_neg (show ¬ (1 : Int32) = 0 by decide)]
    obtain ⟨w, hw, rfl⟩ := inB_of hin (by omega)
    by_cases hs : v2 &&& (nI w ^^^ (-1 : Int32)) = 0
    · rw [if_pos hs, if_pos hs]
      obtain ⟨c, hc, rfl, hcw⟩ := sub_of hn hw hs
      unfold f_X1_canGo
      rw [show (0 : Int32) = nI 0 from rfl, go_l hV hC (by omega) (A 0 0) fu 0 (by omega) (by omega), goM_l hV hM (by omega) _ (A 0 0) fu 0 (by omega) (by omega), sb]
      by_cases hg : alB (goB A w) 0 (A 0 0) = true
      · have hg2 := (go_same hV w).mp hg
        have hgo : ∀ i, i < A 0 0 → goB A w i = true := fun i hi => (alB_iff _ _ _).mp hg i (by omega) (by omega)
        rw [if_pos hg, if_pos hg2, if_neg (show ¬ (1 : Int32) = nI 0 by decide)]
        unfold f_X1_wash f_X10_monday_102
        rw [show inB (1 : Int32) 205 = true from rfl, gd_t, show ix (1 : Int32) = 1 from rfl, hC.1.2.1, hM.1.2.1]
        have hm12 := hV.1.2.1
        by_cases h12 : A 0 1 = 12
        · rw [if_neg (show ¬ nI (A 0 1) < (12 : Int32) by rw [h12]; decide), if_pos (show nI (A 0 1) = (12 : Int32) by rw [h12]; rfl)]
          exact ⟨_, _, _, rfl, rfl, h⟩
        · have h11 : A 0 1 ≤ 11 := by omega
          rw [if_pos (show nI (A 0 1) < (12 : Int32) from nI_lt (b := 12) (by omega) (by omega)), if_neg (show ¬ nI (A 0 1) = (12 : Int32) by rw [show (12 : Int32) = nI 12 from rfl, nI_eq (by omega) (by omega)]; exact h12)]
          have e0 : (133 : Int32) + (3 : Int32) * nI (A 0 1) = nI (133 + 3 * A 0 1) := by rw [show (133 : Int32) = nI 133 from rfl, show (3 : Int32) = nI 3 from rfl, pk_mul, nI_add]
          have e1 : nI (133 + 3 * A 0 1) + (1 : Int32) = nI (134 + 3 * A 0 1) := by rw [nI_1]; congr 1; omega
          have e2 : nI (133 + 3 * A 0 1) + (2 : Int32) = nI (135 + 3 * A 0 1) := by rw [show (2 : Int32) = nI 2 from rfl, nI_add]; congr 1; omega
          -- the class
          have hC3 : HC (up2 S 3 (A 0 1) (nI w)) 1 A := HC_up hC hn (fun a k _ hk => up2_ne _ (by omega))
          have hM3 : HM (up2 U 79 (133 + 3 * A 0 1) (nI w) 79) A := HM_up hM hn h11 (fun k hk => up2_ne _ (by omega))
          generalize hlq : seN (fun i => A 14 i == 1) (A 0 0) = l
          have hl : l < 2 ^ A 0 0 := by rw [← hlq]; exact se_lt _ _
          have pc := plc_C hV hC3 (v := 1) (by omega)
          have pm := plc_M hV hM3 (v := 1) (by omega)
          rw [hlq, show nI 1 = (1 : Int32) from rfl] at pc pm
          generalize hS3 : up2 S 3 (A 0 1) (nI w) = S3 at *
          generalize hU3 : up2 U 79 (133 + 3 * A 0 1) (nI w) = U3 at *
          have hM4 : HM (up2 U3 79 (134 + 3 * A 0 1) (nI l) 79) A := HM_up hM3 hn h11 (fun k hk => up2_ne _ (by omega))
          generalize hU4 : up2 U3 79 (134 + 3 * A 0 1) (nI l) = U4 at *
          have ec : (inB (nI (A 0 1)) 12) = true := inBn (by omega) (by omega)
          rw [ec, gd_t, nm_eq, ixn (show A 0 1 < 2 ^ 31 by omega), hS3, evr_C hn hC3.1.1, sb, pc, sb, hC3.1.2.1, ec, gd_t, nm_eq, ixn (show A 0 1 < 2 ^ 31 by omega), st_set hw hl hn]
          rw [gd_t, e0, inBn (show 133 + 3 * A 0 1 < 205 by omega) (by omega), gd_t, nm_eq, ixn (show 133 + 3 * A 0 1 < 2 ^ 31 by omega), hU3, gd_t, pm, sb, hM3.1.2.1, e0, e1, inBn (show 134 + 3 * A 0 1 < 205 by omega) (by omega), gd_t, nm_eq, ixn (show 134 + 3 * A 0 1 < 2 ^ 31 by omega), hU4, gd_t, evr_M hn hM4.1.1, sb, hM4.1.2.1, e0, e2, inBn (show 135 + 3 * A 0 1 < 205 by omega) (by omega), gd_t, nm_eq, ixn (show 135 + 3 * A 0 1 < 2 ^ 31 by omega)]
          generalize hS5 : up2 S3 4 (A 0 1) (nI ((2 ^ A 0 0 - 1) ^^^ (w ||| l))) = S5
          generalize hU5 : up2 U4 79 (135 + 3 * A 0 1) (nI (2 ^ A 0 0 - 1)) = U5
          have fS : ∀ a k, ¬ ((a = 3 ∨ a = 4) ∧ k = A 0 1) → S5 a k = S a k := fun a k hk => by rw [← hS5, up2_ne _ (by omega), ← hS3, up2_ne _ (by omega)]
          have fU : ∀ a k, ¬ (a = 79 ∧ 133 + 3 * A 0 1 ≤ k ∧ k < 136 + 3 * A 0 1) → U5 a k = U a k := fun a k hk => by rw [← hU5, up2_ne _ (by omega), ← hU4, up2_ne _ (by omega), ← hU3, up2_ne _ (by omega)]
          have uM : U5 79 (133 + 3 * A 0 1) = nI w ∧ U5 79 (134 + 3 * A 0 1) = nI l ∧ U5 79 (135 + 3 * A 0 1) = nI (2 ^ A 0 0 - 1) := by
            refine ⟨?_, ?_, ?_⟩
            · rw [← hU5, up2_ne _ (by omega), ← hU4, up2_ne _ (by omega), ← hU3, up2_eq]
            · rw [← hU5, up2_ne _ (by omega), ← hU4, up2_eq]
            · rw [← hU5, up2_eq]
          have sM : S5 3 (A 0 1) = nI w ∧ S5 4 (A 0 1) = nI ((2 ^ A 0 0 - 1) ^^^ (w ||| l)) := by
            refine ⟨?_, ?_⟩
            · rw [← hS5, up2_ne _ (by omega), ← hS3, up2_eq]
            · rw [← hS5, up2_eq]
          clear pc pm hC3 hM3 hM4
          obtain ⟨S6, a1, a2, a3⟩ := wash_l hV (w := w) (c := c) (l := l) (by omega) (by omega) hgo (fun So => f_X1_wash_124 So (nI w) (nI c)) (A 0 0) fu 0 S5 (by omega) (by omega) (by rw [fS _ _ (by omega)]; exact hC.1.1) (by rw [fS _ _ (by omega)]; exact hC.1.2.1) (fun j hj => by rw [fS _ _ (by omega)]; exact hC.2.1.1 j hj) (fun j hj => skC_vw (skC_cg (hC.2.2.2 j hj) (fun k _ => fS _ _ (by omega))) (fun r r1 r2 => mV_0 r1 r2))
          obtain ⟨U6, b1, b2, b3⟩ := monA_l hV (w := w) (c := c) (by omega) (by omega) hgo (fun o3 Uo => f_X10_monday_316 Uo o3) (fun j => outN A j (A 0 1)) (A 0 0) fu 0 U5 (by omega) (by omega) (by rw [fU _ _ (by omega)]; exact hM.1.1) (fun j hj => by rw [fU _ _ (by omega)]; exact hM.2.1.1 j hj) (fun j hj => by
            have g := hM.2.2.2 j hj
            refine skN_vw (skN_cg (f := fun k => U 79 (13 + 10 * j + k)) ?_ (fun k _ => fU _ _ (by omega))) (fun r _ _ => mY_0)
            simp only [Nat.not_lt_zero, false_and, if_false, Nat.add_zero]
            exact g)
          obtain ⟨U7, c1, c2, c3⟩ := monB_l hV (w := w) (c := c) hgo (fun Uo => f_X10_monday_367 Uo (nI (seN (loB w c) (A 0 0)))) (fun j => outN A j (A 0 1) + if w.testBit j = true then 1 else 0) (A 0 0) fu 0 U6 (by omega) (by omega) (by rw [b3 _ _ (by omega), fU _ _ (by omega)]; exact hM.1.1) (by rw [b3 _ _ (by omega), fU _ _ (by omega)]; exact hM.1.2.1) b2
          rw [show (0 : Int32) = nI 0 from rfl]
          rw [show seN (loB w c) 0 = 0 from rfl] at b1
          have a1' := a1
          have hsm := se_small (loB w c) hn
          have s14 : S6 1 4 = nI (A 0 1) := by rw [a3 _ _ (by omega), fS _ _ (by omega)]; exact hC.1.2.1
          have u79 : U7 79 1 = nI (A 0 1) := by rw [c3 _ _ (by omega), b3 _ _ (by omega), fU _ _ (by omega)]; exact hM.1.2.1
          rw [a1, b1]
          unfold f_X10_monday_316
          rw [show (0 : Int32) = nI 0 from rfl, c1]
          unfold f_X1_wash_124 f_X10_monday_367
          rw [lo_set hw hn, nm_eq, bc_eq hsm, ones_eq hsm, show inB (1 : Int32) 205 = true from rfl, gd_t, gd_t, nm_eq, sb, sb, show ix (1 : Int32) = 1 from rfl, s14, u79, nI_1]
          refine ⟨nI (pop (seN (loB w c) (A 0 0))), up2 S6 1 4 (nI (A 0 1 + 1)), up2 U7 79 1 (nI (A 0 1 + 1)), rfl, rfl, ?_⟩
          have gS : ∀ a k, ¬ ((9 ≤ a ∧ a < 21) ∨ ((a = 3 ∨ a = 4) ∧ k = A 0 1) ∨ (a = 1 ∧ k = 4)) → up2 S6 1 4 (nI (A 0 1 + 1)) a k = S a k := fun a k hk => by rw [up2_ne _ (by omega), a3 _ _ (by omega), fS _ _ (by omega)]
          have gU : ∀ a k, ¬ (a = 79 ∧ ((13 ≤ k ∧ k < 133) ∨ (133 + 3 * A 0 1 ≤ k ∧ k < 136 + 3 * A 0 1) ∨ k = 1)) → up2 U7 79 1 (nI (A 0 1 + 1)) a k = U a k := fun a k hk => by rw [up2_ne _ (by omega), c3 _ _ (by omega), b3 _ _ (by omega), fU _ _ (by omega)]
          have hVn := mon_V hV (w := w) (c := c) hw h11 hgo
          rw [hlq] at hVn
          obtain ⟨m5, m6, m7, m1⟩ := mV_5 A w c l (A 0 0)
          have lo' : ∀ r j, (r = 1 ∨ r = 2 ∨ r = 3 ∨ r = 4 ∨ r = 10 ∨ r = 11 ∨ r = 15 ∨ r = 17 ∨ r = 18 ∨ (r = 0 ∧ j ≠ 1) ∨ ((r = 5 ∨ r = 6 ∨ r = 7) ∧ j ≠ A 0 1)) → mV A w c l (A 0 0) r j = A r j := fun r j h => mV_lo _ _ _ _ _ h
          refine h.core (A := mV A w c l (A 0 0)) ⟨hVn, ⟨⟨?_, ?_, ?_, ?_⟩, ⟨fun j hj => ?_, fun j hj => ?_, fun j hj => ?_, fun j hj => ?_⟩, fun m hm => ?_, fun i hi => ?_⟩, ⟨⟨?_, ?_, ?_, ?_⟩, ⟨fun j hj => ?_, fun j hj => ?_, fun j hj => ?_, fun j hj => ?_⟩, fun m hm => ?_, fun i hi => ?_⟩⟩ (fun a k _ h2 => gS _ _ (by omega)) (fun a k _ h2 => gU _ _ (by omega))
          · rw [gS _ _ (by omega), lo' 0 0 (by omega)]; exact hC.1.1
          · rw [up2_eq, m1]
          · rw [gS _ _ (by omega), lo' 0 2 (by omega)]; exact hC.1.2.2.1
          · rw [gS _ _ (by omega), lo' 0 3 (by omega)]; exact hC.1.2.2.2
          · rw [gS _ _ (by omega), lo' _ _ (by omega)]; exact hC.2.1.1 j hj
          · rw [gS _ _ (by omega), lo' _ _ (by omega)]; exact hC.2.1.2.1 j hj
          · rw [gS _ _ (by omega), lo' _ _ (by omega)]; exact hC.2.1.2.2.1 j hj
          · rw [gS _ _ (by omega), lo' _ _ (by omega)]; exact hC.2.1.2.2.2 j hj
          · rw [m1] at hm
            unfold stN
            by_cases e : m = A 0 1
            · subst e
              rw [m5, m6, m7, up2_ne _ (by omega), up2_ne _ (by omega), a3 _ _ (by omega), a3 _ _ (by omega)]
              exact sM
            · rw [lo' 5 m (by omega), lo' 6 m (by omega), lo' 7 m (by omega), gS _ _ (by omega), gS _ _ (by omega)]
              exact hC.2.2.1 m (by omega)
          · rw [lo' 0 0 (by omega)] at hi
            exact skC_cg (a2 i hi) (fun k _ => up2_ne _ (by omega))
          · rw [gU _ _ (by omega), lo' 0 0 (by omega)]; exact hM.1.1
          · rw [up2_eq, m1]
          · rw [gU _ _ (by omega), lo' 0 2 (by omega)]; exact hM.1.2.2.1
          · rw [gU _ _ (by omega), lo' 0 3 (by omega)]; exact hM.1.2.2.2
          · rw [gU _ _ (by omega), lo' _ _ (by omega)]; exact hM.2.1.1 j hj
          · rw [gU _ _ (by omega), lo' _ _ (by omega)]; exact hM.2.1.2.1 j hj
          · rw [gU _ _ (by omega), lo' _ _ (by omega)]; exact hM.2.1.2.2.1 j hj
          · rw [gU _ _ (by omega), lo' _ _ (by omega)]; exact hM.2.1.2.2.2 j hj
          · rw [m1] at hm
            by_cases e : m = A 0 1
            · subst e
              rw [m5, m6, m7, up2_ne _ (by omega), up2_ne _ (by omega), up2_ne _ (by omega), c3 _ _ (by omega), c3 _ _ (by omega), c3 _ _ (by omega), b3 _ _ (by omega), b3 _ _ (by omega), b3 _ _ (by omega)]
              exact uM
            · rw [lo' 5 m (by omega), lo' 6 m (by omega), lo' 7 m (by omega), gU _ _ (by omega), gU _ _ (by omega), gU _ _ (by omega)]
              exact hM.2.2.1 m (by omega)
          · rw [lo' 0 0 (by omega)] at hi
            have g : skN (fun k => up2 U7 79 1 (nI (A 0 1 + 1)) 79 (13 + 10 * i + k)) (mV A w c l (A 0 0)) (outN A i (A 0 1) + if w.testBit i = true then 1 else 0) i := skN_vw (skN_cg (c2 i hi) (fun k _ => up2_ne _ (by omega))) (fun r r1 r2 => mY_mV hV hi r1 r2)
            have eo : outN (mV A w c l (A 0 0)) i (mV A w c l (A 0 0) 0 1) = outN A i (A 0 1) + if w.testBit i = true then 1 else 0 := by
              rw [m1]
              show outN (mV A w c l (A 0 0)) i (A 0 1) + (if (mV A w c l (A 0 0) 5 (A 0 1)).testBit i = true then 1 else 0) = _
              rw [m5, outN_cg (A' := mV A w c l (A 0 0)) (A := A) _ (fun q hq => lo' 5 q (by omega))]
            unfold skM
            rw [eo]
            exact g
      · have hg2 : ¬ alB (goM A w) 0 (A 0 0) = true := fun e => hg ((go_same hV w).mpr e)
        rw [if_neg hg, if_neg hg2, if_pos (show (0 : Int32) = nI 0 from rfl)]
        exact ⟨_, _, _, rfl, rfl, h⟩
    · rw [if_neg hs, if_neg hs]
      exact ⟨_, _, _, rfl, rfl, h⟩
  · rw [if_neg (fun e => hin ((sub_set hn v1).mp e)), if_neg hin, if_pos rfl]
    exact ⟨_, _, _, rfl, rfl, h⟩
