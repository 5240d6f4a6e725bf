theorem imR.cg {S S' U U' : SI} (h : imR S U) (h1 : S' 0 2 = S 0 2) (h2 : U' 78 15 = U 78 15) (h3 : ∀ a k, 21 ≤ a → a < 41 → S' a k = S a k) (h4 : U' 91 = U 91) : imR S' U' := by
  rcases h with ⟨q1, q2⟩ | ⟨q1, q2, B, hB⟩
  · exact Or.inl ⟨h1.trans q1, h2.trans q2⟩
  · exact Or.inr ⟨h1.trans q1, h2.trans q2, B, hB.1, hB.2.1.cg (fun a k g1 g2 => h3 a k g1 g2) hB.1.1.1, by rw [h4]; exact hB.2.2⟩
theorem tpR.cg {S S' U U' : SI} (h : tpR S U) (h1 : S' 41 1 = S 41 1) (h2 : S' 42 = S 42) (h3 : U' 78 2 = U 78 2) (h4 : U' 80 = U 80) : tpR S' U' := by
  obtain ⟨t, q1, q2, q3, q4⟩ := h
  exact ⟨t, q1, h1.trans q2, h3.trans q3, by rw [h2, h4]; exact q4⟩
theorem shR.cg {S S' U U' : SI} (h : shR S U) (h1 : ∀ a k, 70 ≤ a → a < 78 → S' a k = S a k) (h2 : U' 92 = U 92) (h3 : U' 93 = U 93) (h4 : U' 94 = U 94) : shR S' U' := by
  intro k hk
  obtain ⟨⟨q1, q2⟩, ⟨n, q3, q4, q5⟩, q6⟩ := h k hk
  rw [h2, h3, h4, h1 _ _ (by omega) (by omega), h1 _ _ (by omega) (by omega)]
  exact ⟨⟨q1, q2⟩, ⟨n, q3, q4, q5⟩, fun j hj => by rw [h1 _ _ (by omega) (by omega)]; exact q6 j hj⟩
theorem mkQ.cg {P : Nat → Int32 → (Nat → Int32) → Prop} {S S' : SI} (h : mkQ S P) (h1 : S' 65 = S 65) (h2 : S' 66 = S 66) : mkQ S' P := by
  intro k hk
  rw [h1, h2]
  exact h k hk
theorem RR.sht {P : Nat → Int32 → (Nat → Int32) → Prop} {S S' U U' : SI} (h : RR P S U) (hs : shR S' U') (hc : ∀ a k, a < 70 → S' a k = S a k) (hm : ∀ a k, a ≠ 92 → a ≠ 93 → a ≠ 94 → U' a k = U a k) : RR P S' U' := by
  obtain ⟨⟨A, hA⟩, hi, ht, -, hk⟩ := h
  refine ⟨⟨A, hA.1, hA.2.1.cg (fun a k h1 h2 => hc a k (by omega)) hA.1.1.1, ?_⟩, hi.cg (hc _ _ (by omega)) (hm _ _ (by omega) (by omega) (by omega)) (fun a k _ _ => hc _ _ (by omega)) (funext fun k => hm _ k (by omega) (by omega) (by omega)), ht.cg (hc _ _ (by omega)) (funext fun k => hc _ k (by omega)) (hm _ _ (by omega) (by omega) (by omega)) (funext fun k => hm _ k (by omega) (by omega) (by omega)), hs, hk.cg (funext fun k => hc _ k (by omega)) (funext fun k => hc _ k (by omega))⟩
  rw [show U' 79 = U 79 from funext fun k => hm _ k (by omega) (by omega) (by omega)]
  exact hA.2.2
theorem fu_big : 5000 < fu := Nat.le_of_ble_eq_true rfl
theorem fu_lt {k : Nat} (h : k < 1000000) : k < fu := h
theorem nI_le16 {k : Nat} (h : 16 ≤ k) (hk : k < 2 ^ 31) : (16 : Int32) ≤ nI k := nI_le (a := 16) h hk
/-- the first items of a row become 0 -/
theorem renew_l (a : Nat) : ∀ (d m k : Nat) (S : SI), k + d = 16 → d < m → ∃ S', f_X4_renew_12 a m (nI k) S = some S' ∧ (∀ j, k ≤ j → j < 16 → S' (a + 1) j = 0) ∧ ∀ a' j, ¬ (a' = a + 1 ∧ k ≤ j ∧ j < 16) → S' a' j = S a' j := by
  intro d
  induction d with
  | zero =>
    intro m k S hk hm
    obtain ⟨q, rfl⟩ : ∃ q, m = q + 1 := ⟨m - 1, by omega⟩
    rw [f_X4_renew_12, if_pos (show (16 : Int32) ≤ nI k from nI_le (a := 16) (by omega) (by omega))]
    exact ⟨S, rfl, fun j h1 h2 => by omega, fun _ _ _ => rfl⟩
  | succ d ih =>
    intro m k S hk hm
    obtain ⟨q, rfl⟩ : ∃ q, m = q + 1 := ⟨m - 1, by omega⟩
    rw [f_X4_renew_12, if_neg (show ¬ (16 : Int32) ≤ nI k from nI_ge (b := 16) (by omega) (by omega)), inBn (show k < 16 by omega) (by omega), gd_t, nm_eq, ixn (by omega), nI_1]
    obtain ⟨S', h1, h2, h3⟩ := ih q (k + 1) (up2 S (a + 1) k 0) (by omega) (by omega)
    refine ⟨S', h1, fun j g1 g2 => ?_, fun a' j hj => ?_⟩
    · by_cases hjk : j = k
      · rw [h3 _ _ (by omega), hjk, up2_eq]
      · exact h2 j (by omega) g2
    · rw [h3 _ _ (by omega), up2_ne _ (by omega)]
theorem sheet_l (k3 : Int32) (w : Nat) (hw : w < 4) : ∀ (d m k : Nat) (U : SI), k + d = 16 → d < m → ∃ U', f_X10_sheet_40 (nI w) k3 m (nI k) U = some (k3, U') ∧ (∀ j, k ≤ j → j < 16 → U' 94 (16 * w + j) = 0) ∧ ∀ a' j, ¬ (a' = 94 ∧ 16 * w + k ≤ j ∧ j < 16 * w + 16) → U' a' j = U a' j := by
  intro d
  induction d with
  | zero =>
    intro m k U hk hm
    obtain ⟨q, rfl⟩ : ∃ q, m = q + 1 := ⟨m - 1, by omega⟩
    rw [f_X10_sheet_40, if_pos (show (16 : Int32) ≤ nI k from nI_le (a := 16) (by omega) (by omega))]
    exact ⟨U, rfl, fun j h1 h2 => by omega, fun _ _ _ => rfl⟩
  | succ d ih =>
    intro m k U hk hm
    obtain ⟨q, rfl⟩ : ∃ q, m = q + 1 := ⟨m - 1, by omega⟩
    have e : (16 : Int32) * nI w + nI k = nI (16 * w + k) := by rw [show (16 : Int32) = nI 16 from rfl, pk_mul, nI_add]
    rw [f_X10_sheet_40, if_neg (show ¬ (16 : Int32) ≤ nI k from nI_ge (b := 16) (by omega) (by omega)), e, inBn (show 16 * w + k < 64 by omega) (by omega), gd_t, nm_eq, ixn (by omega), nI_1]
    obtain ⟨U', h1, h2, h3⟩ := ih q (k + 1) (up2 U 94 (16 * w + k) 0) (by omega) (by omega)
    refine ⟨U', h1, fun j g1 g2 => ?_, fun a' j hj => ?_⟩
    · by_cases hjk : j = k
      · rw [h3 _ _ (by omega), hjk, up2_eq]
      · exact h2 j (by omega) g2
    · rw [h3 _ _ (by omega), up2_ne _ (by omega)]
theorem isSheet_eq (v1 v2 : Int32) : f_X10_isSheet v1 v2 = some (if inB v1 4 = true ∧ inB v2 3 = true then 1 else 0) := by
  unfold f_X10_isSheet
  simp only [mi _ 3 3 rfl, mi _ 2 2 rfl, sb]
  cases inB v1 4 <;> cases inB v2 3 <;> simp
theorem op_sheet {P : Nat → Int32 → (Nat → Int32) → Prop} {S U : SI} (h : RR P S U) (v1 v2 v3 : Int32) : ∃ (r : Int32) (S1 U1 : SI), f_X9_sheet S v1 v2 v3 = some (r, S1) ∧ f_X10_sheet U v1 v2 v3 = some (r, U1) ∧ RR P S1 U1 := by
  unfold f_X9_sheet f_X10_sheet f_X4_renew
  have hF := fu_big
  generalize fu = F at hF ⊢
  simp only [wi _ 4 4 rfl, wi _ 3 3 rfl, isSheet_eq, sb, nm_eq]
  cases hv1 : inB v1 4 with
  | false => exact ⟨_, _, _, rfl, by simp, h⟩
  | true =>
    cases hv2 : inB v2 3 with
    | false => exact ⟨_, _, _, rfl, by simp, h⟩
    | true =>
      simp only [and_self, if_true, show ¬ (1 : Int32) = 0 by decide, if_false, gd_t]
      by_cases h16 : v3 ≤ 16
      · simp only [if_pos h16]
        by_cases h0 : 0 ≤ v3
        · simp only [if_pos h0]
          obtain ⟨w, hw, rfl⟩ := inB_of hv1 (by omega)
          obtain ⟨l, hl, rfl⟩ := inB_of hv2 (by omega)
          obtain ⟨n, hn, rfl⟩ : ∃ n, n ≤ 16 ∧ v3 = nI n := by
            rw [le_toInt] at h16 h0
            have e16 : (16 : Int32).toInt = 16 := rfl
            have e0 : (0 : Int32).toInt = 0 := rfl
            obtain ⟨n, hn, e⟩ := inB_of (v := v3) (n := 17) (decide_eq_true (by omega)) (by omega)
            exact ⟨n, by omega, e⟩
          rw [ixn (show w < 2 ^ 31 by omega)]
          obtain ⟨S', hS1, hS2, hS3⟩ := renew_l (70 + 2 * w) 16 F 0 (up2 (up2 S (70 + 2 * w) 1 (nI l)) (70 + 2 * w) 2 (nI n)) (by omega) (by omega)
          obtain ⟨U', hU1, hU2, hU3⟩ := sheet_l (nI n) w hw 16 F 0 (up2 (up2 U 92 w (nI l)) 93 w (nI n)) (by omega) (by omega)
          refine ⟨nI n, S', U', ?_, by rw [show (0 : Int32) = nI 0 from rfl]; exact hU1, ?_⟩
          · rw [show (0 : Int32) = nI 0 from rfl, hS1]
            rfl
          · refine h.sht ?_ (fun a k ha => ?_) (fun a k g1 g2 g3 => ?_)
            · intro k hk
              obtain ⟨⟨q1, q2⟩, ⟨n', q3, q4, q5⟩, q6⟩ := h.2.2.2.1 k hk
              by_cases hkw : k = w
              · subst hkw
                rw [hS3 _ _ (by omega), hS3 _ _ (by omega), hU3 92 _ (by omega), hU3 93 _ (by omega)]
                refine ⟨⟨?_, Or.inr ⟨l, hl, ?_⟩⟩, ⟨n, hn, ?_, ?_⟩, fun j hj => ?_⟩
                · simp [up2_at]
                · simp [up2_at]
                · simp [up2_at]
                · simp [up2_at]
                · rw [hS2 j (by omega) hj, hU2 j (by omega) hj]
              · rw [hS3 _ _ (by omega), hS3 _ _ (by omega), hU3 92 _ (by omega), hU3 93 _ (by omega)]
                rw [up2_ne _ (by omega), up2_ne _ (by omega), up2_ne _ (by omega), up2_ne _ (by omega), up2_ne _ (by omega), up2_ne _ (by omega), up2_ne _ (by omega), up2_ne _ (by omega)]
                refine ⟨⟨q1, q2⟩, ⟨n', q3, q4, q5⟩, fun j hj => ?_⟩
                rw [hS3 _ _ (by omega), hU3 94 _ (by omega), up2_ne _ (by omega), up2_ne _ (by omega), up2_ne _ (by omega), up2_ne _ (by omega)]
                exact q6 j hj
            · rw [hS3 _ _ (by omega), up2_ne _ (by omega), up2_ne _ (by omega)]
            · rw [hU3 _ _ (by omega), up2_ne _ (by omega), up2_ne _ (by omega)]
        · simp only [if_neg h0]
          exact ⟨_, _, _, rfl, rfl, h⟩
      · simp only [if_neg h16]
        exact ⟨_, _, _, rfl, rfl, h⟩
theorem lane_neg {x : Int32} (h : x = -1 ∨ ∃ l, l < 3 ∧ x = nI l) : (x = -1 ↔ ¬ 0 ≤ x) := by
  rcases h with rfl | ⟨l, hl, rfl⟩
  · decide
  · constructor
    · intro e
      have : (nI l).toInt = (-1 : Int32).toInt := by rw [e]
      rw [nI_toInt (by omega)] at this
      have e1 : (-1 : Int32).toInt = -1 := rfl
      omega
    · intro hn
      exact absurd (nI_pos' (by omega)) hn
theorem op_drop {P : Nat → Int32 → (Nat → Int32) → Prop} {S U : SI} (h : RR P S U) (v1 : Int32) : ∃ (r : Int32) (S1 U1 : SI), f_X9_drop S v1 = some (r, S1) ∧ f_X10_drop U v1 = some (r, U1) ∧ RR P S1 U1 := by
  unfold f_X9_drop f_X10_drop f_X4_isThere
  simp only [wi _ 4 4 rfl, mi _ 3 3 rfl, sb, nm_eq]
  cases hv1 : inB v1 4 with
  | false => exact ⟨_, _, _, rfl, rfl, h⟩
  | true =>
    simp only [if_true, show ¬ (1 : Int32) = 0 by decide, if_false, gd_t]
    obtain ⟨w, hw, rfl⟩ := inB_of hv1 (by omega)
    rw [ixn (show w < 2 ^ 31 by omega)]
    obtain ⟨⟨q1, q2⟩, ⟨n, q3, q4, q5⟩, q6⟩ := h.2.2.2.1 w hw
    have hneg := lane_neg q2
    rw [q1]
    by_cases hl : U 92 w = -1
    · rw [if_pos hl, if_neg (hneg.mp hl)]
      exact ⟨_, _, _, rfl, rfl, h⟩
    · rw [if_neg hl, if_pos (Classical.byContradiction fun e => hl (hneg.mpr e))]
      refine ⟨nI n, up2 S (70 + 2 * w) 1 (-1), up2 U 92 w (-1), ?_, ?_, ?_⟩
      · show some (up2 S (70 + 2 * w) 1 (-1) (70 + 2 * w) 2, _) = _
        rw [up2_ne _ (by omega), q4]
      · rw [up2_ne _ (by omega), q5]
      · refine h.sht ?_ (fun a k ha => up2_ne _ (by omega)) (fun a k g1 g2 g3 => up2_ne _ (by omega))
        intro k hk
        obtain ⟨⟨r1, r2⟩, ⟨n', r3, r4, r5⟩, r6⟩ := h.2.2.2.1 k hk
        by_cases hkw : k = w
        · rw [hkw] at r1 r2 r4 r5 r6 ⊢
          rw [up2_eq, up2_eq, up2_ne _ (by omega), up2_ne _ (by omega)]
          exact ⟨⟨rfl, Or.inl rfl⟩, ⟨n', r3, r4, r5⟩, fun j hj => by rw [up2_ne _ (by omega), up2_ne _ (by omega)]; exact r6 j hj⟩
        · rw [up2_ne _ (by omega), up2_ne _ (by omega), up2_ne _ (by omega), up2_ne _ (by omega)]
          exact ⟨⟨r1, r2⟩, ⟨n', r3, r4, r5⟩, fun j hj => by rw [up2_ne _ (by omega), up2_ne _ (by omega)]; exact r6 j hj⟩
/-- a row as it is taken: what is lacking -/
theorem refuse_eq {S U : SI} (hs : shR S U) {w l : Nat} (hw : w < 4) (hl : l < 3) (v3 : Int32) {q : Nat} (hq : q ≤ 16) : ∃ r : Int32, f_X4_refusal S (70 + 2 * w) (nI l) v3 (nI q) = some r ∧ f_X10_lacksRow U (nI w) (nI l) v3 (nI q) = some r ∧ ((r = 0 ∧ U 92 w = nI l ∧ ∃ j, v3 = nI j ∧ j + q ≤ 16) ∨ (r ≠ 0 ∧ r < 0)) := by
  obtain ⟨⟨q1, q2⟩, ⟨n, q3, q4, q5⟩, q6⟩ := hs w hw
  have hneg := lane_neg q2
  unfold f_X4_refusal f_X4_isThere f_X10_lacksRow
  rw [inBn hw (by omega), ixn (show w < 2 ^ 31 by omega), q1, q4, q5]
  simp only [gd_t, in_gen, sb, wide, show (0 : Int64).toInt = 0 from rfl, lt_toInt, le_toInt, pk_sub_toInt (show n < 2 ^ 30 by omega) (show q < 2 ^ 30 by omega), show (0 : Int32).toInt = 0 from rfl]
  by_cases h1 : U 92 w = -1
  · have h2 : ¬ U 92 w = nI l := by
      rw [h1]
      intro e
      have : (nI l).toInt = (-1 : Int32).toInt := by rw [← e]
      rw [nI_toInt (by omega)] at this
      have e1 : (-1 : Int32).toInt = -1 := rfl
      omega
    have h3 : ¬ 0 ≤ (U 92 w).toInt := fun e => hneg.mp h1 ((le_toInt _ _).mpr e)
    simp only [if_pos h1, if_neg h2, if_neg h3]
    exact ⟨-11, rfl, rfl, Or.inr ⟨by decide, by decide⟩⟩
  · rw [if_neg h1]
    have h3 : 0 ≤ (U 92 w).toInt := (le_toInt 0 _).mp (Classical.byContradiction fun e => h1 (hneg.mpr e))
    by_cases h2 : U 92 w = nI l
    · rw [if_pos h2, if_pos h2]
      by_cases hin : 0 ≤ v3.toInt ∧ v3.toInt ≤ (n : Int) - q
      · obtain ⟨j, hj, rfl⟩ := inB_of (v := v3) (n := n + 1) (decide_eq_true (by omega)) (by omega)
        rw [nI_toInt (show j < 2 ^ 31 by omega)] at hin ⊢
        refine ⟨0, ?_, ?_, Or.inl ⟨rfl, h2, j, rfl, by omega⟩⟩
        · simp [show ¬ (j : Int) < 0 by omega, hin.2]
        · simp [hin]
          decide
      · refine ⟨-13, ?_, ?_, Or.inr ⟨by decide, by decide⟩⟩
        · by_cases g : v3.toInt < 0
          · simp [g]
          · simp [g, show ¬ v3.toInt ≤ (n : Int) - q by omega]
        · simp [hin]
          decide
    · rw [if_neg h2, if_neg h2]
      refine ⟨-12, by simp, by rw [if_pos h3], Or.inr ⟨by decide, by decide⟩⟩
theorem low8 (x : Int32) : (x <<< ((24 : Int32) &&& 31)) >>> ((24 : Int32) &&& 31) = x.toInt8.toInt32 := by
  apply b_ext
  intro i hi
  rw [show ((24 : Int32) &&& 31) = (nI 24 &&& 31) from rfl, b_sshr 24 (by omega) _ hi]
  have e : bt x.toInt8.toInt32 i = if i < 8 then bt x i else bt x 7 := by
    unfold bt
    rw [Int8.toBitVec_toInt32, Int32.toBitVec_toInt8, BitVec.getLsbD_signExtend, BitVec.msb_eq_getLsbD_last, BitVec.getLsbD_signExtend, BitVec.getLsbD_signExtend]
    by_cases h8 : i < 8
    · simp [hi, h8]
    · simp [hi, h8]
  rw [e]
  by_cases h : 24 + i < 32
  · rw [if_pos h, b_shl 24 (by omega) _ (by omega), if_pos (by omega)]
    simp
  · rw [if_neg h, b_shl 24 (by omega) _ (by omega), if_neg (by omega)]
    simp
theorem low16 (x : Int32) : (x <<< ((16 : Int32) &&& 31)) >>> ((16 : Int32) &&& 31) = x.toInt16.toInt32 := by
  apply b_ext
  intro i hi
  rw [show ((16 : Int32) &&& 31) = (nI 16 &&& 31) from rfl, b_sshr 16 (by omega) _ hi]
  have e : bt x.toInt16.toInt32 i = if i < 16 then bt x i else bt x 15 := by
    unfold bt
    rw [Int16.toBitVec_toInt32, Int32.toBitVec_toInt16, BitVec.getLsbD_signExtend, BitVec.msb_eq_getLsbD_last, BitVec.getLsbD_signExtend, BitVec.getLsbD_signExtend]
    by_cases h8 : i < 16
    · simp [hi, h8]
    · simp [hi, h8]
  rw [e]
  by_cases h : 16 + i < 32
  · rw [if_pos h, b_shl 16 (by omega) _ (by omega), if_pos (by omega)]
    simp
  · rw [if_neg h, b_shl 16 (by omega) _ (by omega), if_neg (by omega)]
    simp
theorem op_item {P : Nat → Int32 → (Nat → Int32) → Prop} {S U : SI} (h : RR P S U) (v1 v2 v3 v4 : Int32) : ∃ (r : Int32) (S1 U1 : SI), f_X9_item S v1 v2 v3 v4 = some (r, S1) ∧ f_X10_item U v1 v2 v3 v4 = some (r, U1) ∧ RR P S1 U1 := by
  unfold f_X9_item f_X10_item f_X10_item_71
  simp only [wi _ 4 4 rfl, wi _ 3 3 rfl, isSheet_eq, sb, nm_eq, low8, low16]
  cases hv1 : inB v1 4 with
  | false => exact ⟨_, _, _, rfl, by simp, h⟩
  | true =>
    cases hv2 : inB v2 3 with
    | false => exact ⟨_, _, _, rfl, by simp, h⟩
    | true =>
      simp only [and_self, if_true, show ¬ (1 : Int32) = 0 by decide, if_false, gd_t]
      obtain ⟨w, hw, rfl⟩ := inB_of hv1 (by omega)
      obtain ⟨l, hl, rfl⟩ := inB_of hv2 (by omega)
      rw [ixn (show w < 2 ^ 31 by omega)]
      obtain ⟨r, hr1, hr2, hr3⟩ := refuse_eq h.2.2.2.1 hw hl v3 (q := 1) (by omega)
      rw [show (1 : Int32) = nI 1 from rfl, hr1, hr2]
      simp only [sb]
      rcases hr3 with ⟨rfl, hlane, j, rfl, hj⟩ | ⟨hr0, hrn⟩
      · have e : (16 : Int32) * nI w + nI j = nI (16 * w + j) := by rw [show (16 : Int32) = nI 16 from rfl, pk_mul, nI_add]
        obtain ⟨⟨q1, q2⟩, ⟨n, q3, q4, q5⟩, q6⟩ := h.2.2.2.1 w hw
        rw [e, inBn (show 16 * w + j < 64 by omega) (by omega), ixn (show 16 * w + j < 2 ^ 31 by omega)]
        unfold f_X4_put
        rw [inBn (show j < 16 by omega) (by omega), ixn (show j < 2 ^ 31 by omega), q1, hlane]
        simp only [if_true, gd_t, nm_eq, show (0 : Int32) ≤ 0 by decide]
        have key : ∀ x : Int32, RR P (up2 S (70 + 2 * w + 1) j x) (up2 U 94 (16 * w + j) x) := by
          intro x
          refine h.sht ?_ (fun a k ha => up2_ne _ (by omega)) (fun a k g1 g2 g3 => up2_ne _ (by omega))
          intro k hk
          obtain ⟨⟨q1, q2⟩, ⟨n', q3, q4, q5⟩, q6⟩ := h.2.2.2.1 k hk
          rw [up2_ne _ (by omega), up2_ne _ (by omega), up2_ne _ (by omega), up2_ne _ (by omega)]
          refine ⟨⟨q1, q2⟩, ⟨n', q3, q4, q5⟩, fun i hi => ?_⟩
          by_cases hkw : k = w ∧ i = j
          · obtain ⟨rfl, rfl⟩ := hkw
            rw [up2_eq, up2_eq]
          · rw [up2_ne _ (by omega), up2_ne _ (by omega)]
            exact q6 i hi
        by_cases h0 : nI l = 0
        · simp only [if_pos h0, sb]
          exact ⟨_, _, _, rfl, rfl, key _⟩
        · simp only [if_neg h0]
          by_cases h1 : nI l = (1 : Int32)
          · simp only [if_pos h1, if_pos (show nI l = nI 1 from h1), sb]
            exact ⟨_, _, _, rfl, rfl, key _⟩
          · simp only [if_neg h1, if_neg (show ¬ nI l = nI 1 from h1), sb]
            exact ⟨_, _, _, rfl, rfl, key _⟩
      · rw [if_neg hr0, if_neg (by rw [le_toInt]; rw [lt_toInt] at hrn; omega)]
        exact ⟨_, _, _, rfl, rfl, h⟩
