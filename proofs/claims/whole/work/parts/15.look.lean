theorem smod_i {i : Nat} (h : i < 32) : ((nI i &&& 31).toBitVec.smod 32).toNat = i := s_l i h
theorem bitI {w i : Nat} (hw : w < 2 ^ 31) (hi : i < 32) : ((nI w) >>> (nI i &&& 31)) &&& (1 : Int32) = nI (if w.testBit i = true then 1 else 0) := by
  rw [pk_shrN hw _ i (smod_i hi), show (1 : Int32) = nI 1 from rfl, nx_and, Nat.and_one_is_mod, Nat.testBit_eq_decide_div_mod_eq]
  by_cases h : w / 2 ^ i % 2 = 1
  · simp [h]
  · simp [h]; congr 1; omega
theorem has_eq {w i : Nat} (hw : w < 2 ^ 31) (hi : i < 32) : f_X10_has (nI w) (nI i) = some (if w.testBit i = true then 1 else 0) := by
  unfold f_X10_has
  rw [bitI hw hi]
  cases w.testBit i <;> rfl
/-- a week's numbers are small -/
theorem wk_small {A : VW} {m : Nat} (hn : A 0 0 ≤ 12) (h : wkV A m) : A 5 m < 4096 ∧ A 6 m < 4096 ∧ A 7 m < 4096 := by
  obtain ⟨k, h1, h2, h3, h4, -⟩ := h
  have : 2 ^ k ≤ 2 ^ 12 := Nat.pow_le_pow_right (by omega) (by omega)
  omega
theorem outN_le (A : VW) (i : Nat) : ∀ m, outN A i m ≤ m
  | 0 => Nat.le_refl _
  | m + 1 => by
    have := outN_le A i m
    unfold outN
    split <;> omega
theorem out_l {S : SI} {A : VW} (hV : HV A) (hC : HC S 1 A) {i : Nat} (hi : i < 12) : ∀ (d m k : Nat), k + d = A 0 1 → d < m → f_X1_outingsOf_4 S (nI i) m (nI (outN A i k)) (nI k) = some (nI (outN A i (A 0 1))) := by
  intro d
  have hmd := hV.1.2.1
  induction d with
  | zero =>
    intro m k hk hm
    obtain ⟨q, rfl⟩ : ∃ q, m = q + 1 := ⟨m - 1, by omega⟩
    rw [f_X1_outingsOf_4, hC.1.2.1, if_pos (nI_le (by omega) (by omega)), show k = A 0 1 by omega]
  | succ d ih =>
    intro m k hk hm
    obtain ⟨q, rfl⟩ : ∃ q, m = q + 1 := ⟨m - 1, by omega⟩
    have hkm : k < A 0 1 := by omega
    rw [f_X1_outingsOf_4, hC.1.2.1, if_neg (nI_ge (by omega) (by omega)), inBn (show k < 12 by omega) (by omega), gd_t, nm_eq, ixn (by omega), show S 3 k = nI (A 5 k) from (hC.2.2.1 k hkm).1, bitI (by have := wk_small hV.1.1 (hV.2.2.1 k hkm); omega) (by omega), nI_add, nI_1]
    exact ih q (k + 1) (by omega) (by omega)
theorem op_told {P : Nat → Int32 → (Nat → Int32) → Prop} {S U : SI} (h : RR P S U) (v1 v2 : Int32) : ∃ r : Int32, f_X9_told S v1 v2 = some r ∧ f_X10_told U v1 v2 = some r := by
  obtain ⟨A, hA⟩ := h.1
  obtain ⟨hV, hC, hM⟩ := id hA
  have hn := hV.1.1
  unfold f_X9_told f_X10_told
  rw [isC hC hn, isM hM hn]
  simp only [sb, wi _ 8 8 rfl, mi _ 7 7 rfl]
  cases hv1 : inB v1 (A 0 0) with
  | false => exact ⟨_, rfl, rfl⟩
  | true =>
    simp only [if_true, show ¬ (1 : Int32) = 0 by decide, if_false]
    obtain ⟨i, hi, rfl⟩ := inB_of hv1 (by omega)
    cases hv2 : inB v2 8 with
    | false => exact ⟨_, rfl, rfl⟩
    | true =>
      simp only [if_true, show ¬ (1 : Int32) = 0 by decide, if_false]
      obtain ⟨k, hk, rfl⟩ := inB_of hv2 (by omega)
      rw [of_eq (U := U) (i := i) (k := k) (by omega) (by omega) rfl, sb, inBn (show i < 12 by omega) (by omega), ixn (show i < 2 ^ 31 by omega), gd_t]
      obtain ⟨g0, g1, g2, g3, g4, g5, g6, g7, g8⟩ : skC (S (9 + i)) A i := hC.2.2.2 i hi
      obtain ⟨k0, k1, k2, k3, k4, k5, k6, k7, k8, k9⟩ := hM.2.2.2 i hi
      have hk8 : k = 0 ∨ k = 1 ∨ k = 2 ∨ k = 3 ∨ k = 4 ∨ k = 5 ∨ k = 6 ∨ k = 7 := by omega
      rcases hk8 with rfl | rfl | rfl | rfl | rfl | rfl | rfl | rfl
      · exact ⟨nI (A 10 i), by rw [if_neg (by decide)]; show (some (S (9 + i) 0)).bind _ = _; rw [g0]; rfl, congrArg some k0⟩
      · exact ⟨nI (A 11 i), by rw [if_neg (by decide)]; show (some (S (9 + i) 1)).bind _ = _; rw [g1]; rfl, congrArg some k1⟩
      · exact ⟨nI (A 12 i), by rw [if_neg (by decide)]; show (some (S (9 + i) 2)).bind _ = _; rw [g2]; rfl, congrArg some k2⟩
      · exact ⟨nI (A 13 i), by rw [if_neg (by decide)]; show (some (S (9 + i) 3)).bind _ = _; rw [g3]; rfl, congrArg some k3⟩
      · exact ⟨nI (A 14 i), by rw [if_neg (by decide)]; show (some (S (9 + i) 4)).bind _ = _; rw [g4]; rfl, congrArg some k4⟩
      · exact ⟨otI A i, by rw [if_neg (by decide)]; show (some (S (9 + i) 5)).bind _ = _; rw [g5]; rfl, congrArg some k5⟩
      · refine ⟨nI (outN A i (A 0 1)), ?_, congrArg some k6⟩
        rw [if_pos (show nI 6 = (6 : Int32) from rfl)]
        unfold f_X1_outingsOf
        rw [show (0 : Int32) = nI 0 from rfl]
        have e := out_l hV hC (i := i) (by omega) (A 0 1) fu 0 (by omega) (by have := fu_big; have := hV.1.2.1; omega)
        rw [show outN A i 0 = 0 from rfl] at e
        rw [e, sb]
      · exact ⟨siI A i, by rw [if_neg (by decide)]; show (some (S (9 + i) 6)).bind _ = _; rw [g6]; rfl, congrArg some k7⟩
/-- the state if a SOCK's place changes and nothing else of it, but what goes with the place -/
theorem op_found {P : Nat → Int32 → (Nat → Int32) → Prop} {S U : SI} (h : RR P S U) (v1 : Int32) : ∃ (r : Int32) (S1 U1 : SI), f_X9_found S v1 = some (r, S1) ∧ f_X10_found U v1 = some (r, U1) ∧ RR P S1 U1 := by
  obtain ⟨A, hA⟩ := h.1
  obtain ⟨hV, hC, hM⟩ := id hA
  have hn := hV.1.1
  unfold f_X9_found f_X10_found f_X5_toBox
  rw [isC hC hn, isM hM hn]
  simp only [sb, nm_eq]
  cases hv1 : inB v1 (A 0 0) with
  | false => exact ⟨_, _, _, rfl, rfl, h⟩
  | true =>
    simp only [if_true, show ¬ (1 : Int32) = 0 by decide, if_false]
    obtain ⟨i, hi, rfl⟩ := inB_of hv1 (by omega)
    have hi12 : i < 12 := by omega
    simp only [sb, of4 hi12, of7 hi12, pu4 hi12, pu7 hi12, inBn hi12 (show 12 < 2 ^ 31 by omega), ixn (show i < 2 ^ 31 by omega), gd_t]
    obtain ⟨g0, g1, g2, g3, g4, g5, g6, g7, g8⟩ : skC (S (9 + i)) A i := hC.2.2.2 i hi
    obtain ⟨k0, k1, k2, k3, k4, k5, k6, k7, k8, k9⟩ := hM.2.2.2 i hi
    have k4 : U 79 (13 + 10 * i + 4) = nI (A 14 i) := k4
    have k7 : U 79 (13 + 10 * i + 7) = siI A i := k7
    have hpl := (hV.2.2.2 i hi).2.1.1
    rw [g4, k4, g6, k7]
    by_cases hp : A 14 i = 1
    · rw [if_pos (by rw [hp]; rfl), if_pos (by rw [hp]; rfl)]
      refine ⟨_, _, _, rfl, rfl, ?_⟩
      have hne : ∀ j, j < A 0 0 → A 14 j = 2 → A 15 j ≠ i := fun j hj h2 e => by
        have := (hV.2.2.2 j hj).2.1.2.1 h2
        rw [e] at this
        omega
      refine h.core (A := up2 A 14 i 0) (hA.sk (fun r hr => up2_row _ (by omega)) (fun a k _ _ => by rw [up2_ne _ (by omega), up2_ne _ (by omega), up2_ne _ (by omega)]) (fun k hk => by rw [up2_ne _ (by omega), up2_ne _ (by omega)]) (fun j hj => ?_) (fun j hj => ?_) (fun j hj => ?_)) (fun a k _ h2 => by rw [up2_ne _ (by omega), up2_ne _ (by omega), up2_ne _ (by omega)]) (fun a k _ h2 => by rw [up2_ne _ (by omega), up2_ne _ (by omega)])
      · have g : skC (S (9 + j)) A j := hC.2.2.2 j hj
        by_cases hij : j = i
        · subst hij
          unfold skC otI siI
          simp only [up2_at]
          simp
          exact ⟨g0, g1, g2, g3, rfl, g7, g8⟩
        · rw [up2_row _ (by omega), up2_row _ (by omega), up2_row _ (by omega)]
          exact skC_vw g (fun r _ _ => up2_ne _ (by omega))
      · have g := hM.2.2.2 j hj
        by_cases hij : j = i
        · subst hij
          unfold skM otI siI at g ⊢
          obtain ⟨q0, q1, q2, q3, q4, q5, q6, q7, q8, q9⟩ := g
          rw [outN_cg (A' := up2 A 14 j 0) (A := A) _ (fun q _ => up2_ne _ (by omega))]
          rw [hp] at q5
          simp only [up2_at]
          simp
          exact ⟨q0, q1, q2, q3, rfl, q5, q6, q8, q9⟩
        · exact skM_vw (skM_cg g (fun k _ => by rw [up2_ne _ (by omega), up2_ne _ (by omega)])) (fun r _ _ => up2_ne _ (by omega)) (up2_ne _ (by omega)) (fun q _ => up2_ne _ (by omega))
      · have g := hV.2.2.2 j hj
        have hne := hne j hj
        unfold skV at g ⊢
        simp only [up2_at]
        simp
        refine ⟨g.1, ?_, g.2.2.1, g.2.2.2⟩
        by_cases hij : j = i
        · simp [hij]
        · simp [hij]
          refine ⟨g.2.1.1, fun h2 => ?_, g.2.1.2.2⟩
          have := g.2.1.2.1 h2
          have h3 := hne h2
          simp [h3]
          exact this
    · have e1 : ¬ nI (A 14 i) = (1 : Int32) := by
        rw [show (1 : Int32) = nI 1 from rfl, nI_eq (by omega) (by omega)]
        exact hp
      rw [if_neg e1, if_neg e1]
      exact ⟨_, _, _, rfl, rfl, h⟩
/-- likeness by numbers -/
def alN (A : VW) (i j : Nat) : Nat :=
  if (A 13 i : Int) - A 12 j ≤ A 0 2 ∧ (A 13 j : Int) - A 12 i ≤ A 0 2 then 2
  else if (A 12 i : Int) - A 13 j ≤ A 0 2 ∧ (A 12 j : Int) - A 13 i ≤ A 0 2 then 1 else 0
theorem mxI_toInt (a b : Int32) : (mxI a b).toInt = max a.toInt b.toInt := by
  unfold mxI
  split
  · rename_i h
    rw [lt_toInt] at h
    omega
  · rename_i h
    rw [lt_toInt] at h
    omega
theorem more_eq (a b : Int32) : f_X10_more a b = some (mxI a b) := by
  unfold f_X10_more mxI
  by_cases h : a < b
  · rw [if_pos h, if_pos (by rw [lt_toInt] at h; rw [le_toInt]; omega)]
  · rw [if_neg h]
    by_cases h2 : a ≤ b
    · rw [if_pos h2]
      have : a = b := by
        apply Int32.toInt_inj.mp
        rw [lt_toInt] at h
        rw [le_toInt] at h2
        omega
      rw [this]
    · rw [if_neg h2]
theorem lik_C {S : SI} {A : VW} (hV : HV A) (hC : HC S 1 A) {i j : Nat} (hi : i < A 0 0) (hj : j < A 0 0) : f_X1_likenessOf S (nI i) (nI j) = some (nI (alN A i j)) := by
  have hn := hV.1.1
  obtain ⟨g0, g1, g2, g3, g4, g5, g6, g7, g8⟩ : skC (S (9 + i)) A i := hC.2.2.2 i hi
  obtain ⟨k0, k1, k2, k3, k4, k5, k6, k7, k8⟩ : skC (S (9 + j)) A j := hC.2.2.2 j hj
  have v1 := (hV.2.2.2 i hi).1
  have v2 := (hV.2.2.2 j hj).1
  have v3 := hV.1.2.2.1
  unfold f_X1_likenessOf
  rw [inBn (show i < 12 by omega) (by omega), inBn (show j < 12 by omega) (by omega), ixn (show i < 2 ^ 31 by omega), ixn (show j < 2 ^ 31 by omega), g2, g3, k2, k3, hC.1.2.2.1]
  simp only [gd_t, nm_eq, lt_toInt, mxI_toInt, nI_toInt (show A 0 2 < 2 ^ 31 by omega), pk_sub_toInt (show A 13 i < 2 ^ 30 by omega) (show A 12 j < 2 ^ 30 by omega), pk_sub_toInt (show A 13 j < 2 ^ 30 by omega) (show A 12 i < 2 ^ 30 by omega), pk_sub_toInt (show A 12 i < 2 ^ 30 by omega) (show A 13 j < 2 ^ 30 by omega), pk_sub_toInt (show A 12 j < 2 ^ 30 by omega) (show A 13 i < 2 ^ 30 by omega)]
  unfold alN
  by_cases h1 : (A 13 i : Int) - A 12 j ≤ A 0 2 ∧ (A 13 j : Int) - A 12 i ≤ A 0 2
  · rw [if_pos h1, if_neg (by omega)]; rfl
  · rw [if_neg h1, if_pos (by omega)]
    by_cases h2 : (A 12 i : Int) - A 13 j ≤ A 0 2 ∧ (A 12 j : Int) - A 13 i ≤ A 0 2
    · rw [if_pos h2, if_neg (by omega)]; rfl
    · rw [if_neg h2, if_pos (by omega)]; rfl
theorem lik_M {U : SI} {A : VW} (hV : HV A) (hM : HM (U 79) A) {i j : Nat} (hi : i < A 0 0) (hj : j < A 0 0) : f_X10_alikeOf U (nI i) (nI j) = some (nI (alN A i j)) := by
  have hn := hV.1.1
  obtain ⟨g0, g1, g2, g3, g4, g5, g6, g7, g8⟩ := hM.2.2.2 i hi
  obtain ⟨k0, k1, k2, k3, k4, k5, k6, k7, k8⟩ := hM.2.2.2 j hj
  have g2 : U 79 (13 + 10 * i + 2) = nI (A 12 i) := g2
  have g3 : U 79 (13 + 10 * i + 3) = nI (A 13 i) := g3
  have k2 : U 79 (13 + 10 * j + 2) = nI (A 12 j) := k2
  have k3 : U 79 (13 + 10 * j + 3) = nI (A 13 j) := k3
  have v1 := (hV.2.2.2 i hi).1
  have v2 := (hV.2.2.2 j hj).1
  have v3 := hV.1.2.2.1
  unfold f_X10_alikeOf
  simp only [of_eq (U := U) (i := i) (k := 3) (show i < 12 by omega) (show 3 < 10 by omega) (show (3 : Int32) = nI 3 from rfl), of_eq (U := U) (i := j) (k := 3) (show j < 12 by omega) (show 3 < 10 by omega) (show (3 : Int32) = nI 3 from rfl), of_eq (U := U) (i := i) (k := 2) (show i < 12 by omega) (show 2 < 10 by omega) (show (2 : Int32) = nI 2 from rfl), of_eq (U := U) (i := j) (k := 2) (show j < 12 by omega) (show 2 < 10 by omega) (show (2 : Int32) = nI 2 from rfl), sb, nm_eq, more_eq, g2, g3, k2, k3]
  rw [show inB (2 : Int32) 205 = true from rfl, show ix (2 : Int32) = 2 from rfl, hM.1.2.2.1]
  simp only [gd_t, lt_toInt, mxI_toInt, nI_toInt (show A 0 2 < 2 ^ 31 by omega), show (0 : Int32).toInt = 0 from rfl, pk_sub_toInt (show A 13 i < 2 ^ 30 by omega) (show A 12 j < 2 ^ 30 by omega), pk_sub_toInt (show A 13 j < 2 ^ 30 by omega) (show A 12 i < 2 ^ 30 by omega), pk_sub_toInt (show A 12 i < 2 ^ 30 by omega) (show A 13 j < 2 ^ 30 by omega), pk_sub_toInt (show A 12 j < 2 ^ 30 by omega) (show A 13 i < 2 ^ 30 by omega)]
  unfold alN
  by_cases h1 : (A 13 i : Int) - A 12 j ≤ A 0 2 ∧ (A 13 j : Int) - A 12 i ≤ A 0 2
  · rw [if_pos h1, if_neg (by omega)]; rfl
  · rw [if_neg h1, if_pos (by omega)]
    by_cases h2 : (A 12 i : Int) - A 13 j ≤ A 0 2 ∧ (A 12 j : Int) - A 13 i ≤ A 0 2
    · rw [if_pos h2, if_neg (by omega)]; rfl
    · rw [if_neg h2, if_pos (by omega)]; rfl
theorem op_alike {P : Nat → Int32 → (Nat → Int32) → Prop} {S U : SI} (h : RR P S U) (v1 v2 : Int32) : ∃ r : Int32, f_X9_alike S v1 v2 = some r ∧ f_X10_alike U v1 v2 = some r := by
  obtain ⟨A, hV, hC, hM⟩ := h.1
  have hn := hV.1.1
  unfold f_X9_alike f_X10_alike
  rw [twoC hC hn, twoM hM hn]
  simp only [sb]
  by_cases hv : inB v1 (A 0 0) = true ∧ inB v2 (A 0 0) = true ∧ v1 ≠ v2
  · simp only [if_pos hv, show ¬ (1 : Int32) = 0 by decide, if_false]
    obtain ⟨i, hi, rfl⟩ := inB_of hv.1 (by omega)
    obtain ⟨j, hj, rfl⟩ := inB_of hv.2.1 (by omega)
    rw [lik_C hV hC hi hj, lik_M hV hM hi hj]
    exact ⟨_, rfl, rfl⟩
  · simp only [if_neg hv, if_true]
    exact ⟨_, rfl, rfl⟩
