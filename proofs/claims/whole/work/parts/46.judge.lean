theorem jud_l {S U : SI} {A : VW} (hV : HV A) (hC : HC S 1 A) (hM : HM (U 79) A) {k j : Nat} (hk : k < 4) (hj : j + A 0 0 ≤ 16) (hq : ∀ i, i < 16 → S (70 + 2 * k + 1) i = U 94 (16 * k + i)) : ∀ (d m i : Nat), i + d = A 0 0 → d < m → ∃ r, f_X9_judge_53 S (nI j) (70 + 2 * k) m (nI i) = some r ∧ f_X10_judge_51 U (nI (boX A)) (nI (16 * k + j)) m (nI i) = some r := by
  intro d
  have hn := hV.1.1
  have hbo := (bo_lt hn).2
  induction d with
  | zero =>
    intro m i hi hm
    obtain ⟨q, rfl⟩ : ∃ q, m = q + 1 := ⟨m - 1, by omega⟩
    rw [f_X9_judge_53, f_X10_judge_51, hC.1.1, if_pos (nI_le (by omega) (by omega)), show inB (0 : Int32) 205 = true from rfl, gd_t, show ix (0 : Int32) = 0 from rfl, hM.1.1, if_pos (nI_le (by omega) (by omega))]
    exact ⟨_, rfl, rfl⟩
  | succ d ih =>
    intro m i hi hm
    obtain ⟨q, rfl⟩ : ∃ q, m = q + 1 := ⟨m - 1, by omega⟩
    have hin : i < A 0 0 := by omega
    have iq := ih q (i + 1) (by omega) (by omega)
    obtain ⟨g0, g1, g2, g3, g4, g5, g6, g7, g8⟩ : skC (S (9 + i)) A i := hC.2.2.2 i hin
    have v14 := (hV.2.2.2 i hin).2.1.1
    rw [f_X9_judge_53, f_X10_judge_51, hC.1.1, if_neg (nI_ge (by omega) (by omega)), show inB (0 : Int32) 205 = true from rfl, gd_t, show ix (0 : Int32) = 0 from rfl, hM.1.1, if_neg (nI_ge (by omega) (by omega)), nI_add, inBn (show 16 * k + j + i < 64 by omega) (by omega), gd_t, nm_eq, ixn (show 16 * k + j + i < 2 ^ 31 by omega), nI_1]
    unfold f_X9_isWellTold
    rw [nI_add, inBn (show j + i < 16 by omega) (by omega), gd_t, nm_eq, ixn (show j + i < 2 ^ 31 by omega), hq (j + i) (by omega), show 16 * k + (j + i) = 16 * k + j + i by omega]
    generalize U 94 (16 * k + j + i) = x
    have stop : ∃ r, some (nI i) = some r ∧ some (nI i) = some r := ⟨_, rfl, rfl⟩
    by_cases c0 : x = -1
    · rw [if_pos c0, if_pos c0, sb, if_neg (show ¬ (1 : Int32) = 0 by decide)]
      exact iq
    · rw [if_neg c0, if_neg c0, twoC hC hn, sb, has_eq (by omega) (by omega), sb, isM hM hn, sb, bo_bit, decide_eq_true hin, Bool.true_and, inBn hin (by omega)]
      cases hx : inB x (A 0 0) with
      | false =>
        rw [if_neg (show ¬ (true = true ∧ false = true ∧ nI i ≠ x) by simp), if_pos rfl, sb, if_pos rfl]
        by_cases c1 : A 14 i = 0
        · rw [if_neg (show ¬ (if (A 14 i == 0) = true then (1 : Int32) else 0) = 0 by rw [c1]; decide), if_pos (show (if false = true then (1 : Int32) else 0) = 0 from rfl)]
          exact stop
        · rw [if_pos (show (if (A 14 i == 0) = true then (1 : Int32) else 0) = 0 by simp [c1])]
          exact stop
      | true =>
        obtain ⟨p, hp, rfl⟩ := inB_of hx (by omega)
        obtain ⟨k0, k1, k2, k3, k4, k5, k6, k7, k8⟩ : skC (S (9 + p)) A p := hC.2.2.2 p hp
        have w14 := (hV.2.2.2 p hp).2.1.1
        have hbr := br_lt A i p
        rw [if_neg (show ¬ (if true = true then (1 : Int32) else 0) = 0 by decide), has_eq (by omega) (by omega), sb, bo_bit, decide_eq_true hp, Bool.true_and, nI_add, nI_add, inBn (show 16 * k + j + p < 64 by omega) (by omega), gd_t, ixn (show 16 * k + j + p < 2 ^ 31 by omega), inBn (show j + p < 16 by omega) (by omega), gd_t, ixn (show j + p < 2 ^ 31 by omega), hq (j + p) (by omega), show 16 * k + (j + p) = 16 * k + j + p by omega, inBn (show i < 12 by omega) (by omega), inBn (show p < 12 by omega) (by omega), gd_t, gd_t, ixn (show i < 2 ^ 31 by omega), ixn (show p < 2 ^ 31 by omega), g4, k4, bars_M hV hM hin hp, sb]
        unfold f_X9_isWellTold_79
        rw [bars_C hV hC hin hp, sb]
        simp only [nI_eq (show p < 2 ^ 31 by omega) (show i < 2 ^ 31 by omega), ne_eq, nI_eq (show i < 2 ^ 31 by omega) (show p < 2 ^ 31 by omega), show (nI (A 14 i) = (0 : Int32)) = (A 14 i = 0) from propext (nI_eq (b := 0) (by omega) (by omega)), show (nI (A 14 p) = (0 : Int32)) = (A 14 p = 0) from propext (nI_eq (b := 0) (by omega) (by omega)), show (nI (brN A i p) = (0 : Int32)) = (brN A i p = 0) from propext (nI_eq (b := 0) (by omega) (by omega))]
        by_cases c1 : A 14 i = 0
        · by_cases c2 : A 14 p = 0
          · by_cases c3 : i = p
            · have c3' : p = i := c3.symm
              simp [c1, c2, c3, sb]
            · have c3' : ¬ p = i := fun e => c3 e.symm
              by_cases c4 : U 94 (16 * k + j + p) = nI i
              · by_cases c5 : brN A i p = 0
                · simp [c1, c2, c3, c3', c4, c5, sb]
                  exact iq
                · simp [c1, c2, c3, c3', c4, c5, sb]
              · simp [c1, c2, c3, c3', c4, sb]
          · by_cases c3 : i = p
            · rw [c3] at c1
              exact absurd c1 c2
            · have c3' : ¬ p = i := fun e => c3 e.symm
              by_cases c4 : U 94 (16 * k + j + p) = nI i
              · simp [c1, c2, c3, c3', c4, sb]
              · simp [c1, c2, c3, c3', c4, sb]
        · by_cases c3 : i = p
          · simp [c1, c3, sb]
          · have c3' : ¬ p = i := fun e => c3 e.symm
            by_cases c4 : U 94 (16 * k + j + p) = nI i
            · simp [c1, c3, c3', c4, sb]
            · simp [c1, c3, c3', c4, sb]
theorem op_judge {P : Nat → Int32 → (Nat → Int32) → Prop} {S U : SI} (h : RR P S U) (v1 v2 v3 : Int32) : ∃ r : Int32, f_X9_judge S v1 v2 v3 = some r ∧ f_X10_judge U v1 v2 v3 = some r := by
  obtain ⟨A, hV, hC, hM⟩ := h.1
  have hn := hV.1.1
  have hF := fu_big
  unfold f_X9_judge f_X10_judge
  rw [wi _ 4 4 rfl, wi _ 3 3 rfl, isSheet_eq, sb, sb, sb]
  cases hv1 : inB v1 4 with
  | false => exact ⟨_, rfl, by simp⟩
  | true =>
    cases hv2 : inB v2 3 with
    | false => exact ⟨_, rfl, by simp⟩
    | true =>
      simp only [and_self, if_true, show ¬ (1 : Int32) = 0 by decide, if_false, gd_t, show inB (0 : Int32) 205 = true from rfl, show ix (0 : Int32) = 0 from rfl, hC.1.1, hM.1.1]
      obtain ⟨k, hk, rfl⟩ := inB_of hv1 (by omega)
      obtain ⟨l, hl, rfl⟩ := inB_of hv2 (by omega)
      rw [ixn (show k < 2 ^ 31 by omega)]
      obtain ⟨r, hr1, hr2, hr3⟩ := refuse_eq h.2.2.2.1 hk hl v3 (q := A 0 0) (by omega)
      rw [hr1, hr2, sb, sb]
      rcases hr3 with ⟨rfl, hlane, j, rfl, hj⟩ | hr
      · have e : (16 : Int32) * nI k + nI j = nI (16 * k + j) := by rw [show (16 : Int32) = nI 16 from rfl, pk_mul, nI_add]
        have pm := plc_M hV hM (v := 0) (by omega)
        rw [show nI 0 = (0 : Int32) from rfl] at pm
        rw [if_pos rfl, if_pos (by decide), pm, sb, nm_eq, e]
        exact jud_l hV hC hM hk (by omega) (h.2.2.2.1 k hk).2.2 (A 0 0) fu 0 (by omega) (by omega)
      · rw [if_neg hr.1, if_neg (ge_0 hr)]
        exact ⟨_, rfl, rfl⟩
