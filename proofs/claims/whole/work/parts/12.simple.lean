theorem wi (v : Int32) (c : Nat) (k : Int32) (h : k.toInt = (c : Int)) : f_X9_within v k = some (if inB v c = true then 1 else 0) := by
  unfold f_X9_within
  have e : (0 : Int32).toInt = 0 := rfl
  simp only [lt_toInt, le_toInt, h, e]
  unfold inB
  by_cases h1 : v.toInt < 0
  · rw [if_pos h1, decide_eq_false (by omega)]; rfl
  · rw [if_neg h1]
    by_cases h2 : (c : Int) ≤ v.toInt
    · rw [if_pos h2, decide_eq_false (by omega)]; rfl
    · rw [if_neg h2, decide_eq_true (by omega)]; rfl
theorem mi (v : Int32) (c : Nat) (k : Int64) (h : k.toInt = (c : Int)) : f_X10_in v.toInt64 0 k = some (if inB v (c + 1) = true then 1 else 0) := by
  unfold f_X10_in
  have e : (0 : Int64).toInt = 0 := rfl
  simp only [lt_toL, wide, e, h]
  unfold inB
  by_cases h1 : v.toInt < 0
  · rw [if_pos h1, decide_eq_false (by omega)]; rfl
  · rw [if_neg h1]
    by_cases h2 : (c : Int) < v.toInt
    · rw [if_pos h2, decide_eq_false (by omega)]; rfl
    · rw [if_neg h2, decide_eq_true (by omega)]; rfl
theorem outN_cg {A A' : VW} {i : Nat} : ∀ (m : Nat), (∀ q, q < m → A' 5 q = A 5 q) → outN A' i m = outN A i m
  | 0, _ => rfl
  | m + 1, h => by
    unfold outN
    rw [outN_cg m (fun q hq => h q (by omega)), h m (by omega)]
/-- the small tables change -/
theorem HR.sm {S S' U U' : SI} {A A' : VW} (h : HR S 1 (U 79) A) (h00 : A' 0 0 = A 0 0) (h01 : A' 0 1 = A 0 1) (h5 : ∀ r, 5 ≤ r → A' r = A r)
    (hsc : S' 1 6 = nI (A' 0 2) ∧ S' 1 7 = nI (A' 0 3) ∧ U' 79 2 = nI (A' 0 2) ∧ U' 79 3 = nI (A' 0 3) ∧ A' 0 2 ≤ 20 ∧ A' 0 3 ≤ 1)
    (hf : ∀ j, j < 6 → S' 5 j = nI (A' 1 j) ∧ U' 79 (4 + j) = nI (A' 1 j) ∧ A' 1 j ≤ 9)
    (hw : ∀ j, j < 3 → S' 8 j = nI (A' 2 j) ∧ U' 79 (10 + j) = nI (A' 2 j) ∧ A' 2 j ≤ 63)
    (ho : ∀ j, j < 18 → S' 6 j = nI (A' 3 j) ∧ S' 7 j = nI (A' 4 j) ∧ U' 79 (169 + 2 * j) = nI (A' 3 j) ∧ U' 79 (170 + 2 * j) = nI (A' 4 j) ∧ A' 3 j ≤ A' 4 j ∧ A' 4 j ≤ 12)
    (hS : ∀ a k, ((a = 1 ∧ (k = 1 ∨ k = 4)) ∨ a = 3 ∨ a = 4 ∨ (9 ≤ a ∧ a ≤ 20)) → S' a k = S a k)
    (hU : ∀ k, (k = 0 ∨ k = 1 ∨ (13 ≤ k ∧ k < 169)) → U' 79 k = U 79 k) : HR S' 1 (U' 79) A' := by
  obtain ⟨⟨⟨v1, v2, v3, v4⟩, ⟨v5, v6, v7⟩, v8, v9⟩, ⟨⟨c1, c2, c3, c4⟩, ⟨c5, c6, c7, c8⟩, c9, c10⟩, ⟨m1, m2, m3, m4⟩, ⟨m5, m6, m7, m8⟩, m9, m10⟩ := h
  refine ⟨⟨⟨by rw [h00]; exact v1, by rw [h01]; exact v2, hsc.2.2.2.2.1, hsc.2.2.2.2.2⟩, ⟨fun j hj => (hf j hj).2.2, fun j hj => (hw j hj).2.2, fun j hj => ⟨(ho j hj).2.2.2.2.1, (ho j hj).2.2.2.2.2⟩⟩, fun m hm => ?_, fun i hi => ?_⟩, ⟨⟨?_, ?_, hsc.1, hsc.2.1⟩, ⟨fun j hj => (hf j hj).1, fun j hj => (hw j hj).1, fun j hj => (ho j hj).1, fun j hj => (ho j hj).2.1⟩, fun m hm => ?_, fun i hi => ?_⟩, ⟨?_, ?_, hsc.2.2.1, hsc.2.2.2.1⟩, ⟨fun j hj => (hf j hj).2.1, fun j hj => (hw j hj).2.1, fun j hj => (ho j hj).2.2.1, fun j hj => (ho j hj).2.2.2.1⟩, fun m hm => ?_, fun i hi => ?_⟩
  · rw [h01] at hm
    have := v8 m hm
    unfold wkV at this ⊢
    rw [h00, h5 5 (by omega), h5 6 (by omega), h5 7 (by omega)]
    exact this
  · rw [h00] at hi
    have := v9 i hi
    unfold skV at this ⊢
    rw [h00, h01, h5 10 (by omega), h5 11 (by omega), h5 12 (by omega), h5 13 (by omega), h5 14 (by omega), h5 15 (by omega), h5 16 (by omega), h5 17 (by omega), h5 18 (by omega)]
    exact this
  · rw [hS 1 1 (by omega), h00]; exact c1
  · rw [hS 1 4 (by omega), h01]; exact c2
  · rw [h01] at hm
    have := c9 m hm
    rw [hS _ _ (by omega), hS _ _ (by omega), h5 5 (by omega)]
    unfold stN at this ⊢
    rw [h5 5 (by omega), h5 6 (by omega), h5 7 (by omega)]
    exact this
  · rw [h00] at hi
    have := c10 i hi
    rw [show S' (1 + 8 + i) = S (1 + 8 + i) from funext fun k => hS _ k (by omega)]
    unfold skC otI siI at this ⊢
    rw [h5 10 (by omega), h5 11 (by omega), h5 12 (by omega), h5 13 (by omega), h5 14 (by omega), h5 15 (by omega), h5 16 (by omega), h5 17 (by omega), h5 18 (by omega)]
    exact this
  · rw [hU 0 (by omega), h00]; exact m1
  · rw [hU 1 (by omega), h01]; exact m2
  · rw [h01] at hm
    have := m9 m hm
    rw [hU _ (by omega), hU _ (by omega), hU _ (by omega), h5 5 (by omega), h5 6 (by omega), h5 7 (by omega)]
    exact this
  · rw [h00] at hi
    have := m10 i hi
    unfold skM otI siI at this ⊢
    rw [h5 10 (by omega), h5 11 (by omega), h5 12 (by omega), h5 13 (by omega), h5 14 (by omega), h5 15 (by omega), h5 16 (by omega), h5 17 (by omega), h5 18 (by omega), h01, outN_cg (A' := A') (A := A) _ (fun q _ => by rw [h5 5 (by omega)])]
    have e : ∀ k, k < 10 → U' 79 (13 + 10 * i + k) = U 79 (13 + 10 * i + k) := fun k hk => hU _ (by omega)
    obtain ⟨q0, q1, q2, q3, q4, q5, q6, q7, q8, q9⟩ := this
    exact ⟨(e 0 (by omega)).trans q0, (e 1 (by omega)).trans q1, (e 2 (by omega)).trans q2, (e 3 (by omega)).trans q3, (e 4 (by omega)).trans q4, (e 5 (by omega)).trans q5, (e 6 (by omega)).trans q6, (e 7 (by omega)).trans q7, (e 8 (by omega)).trans q8, (e 9 (by omega)).trans q9⟩
theorem op_fade {P : Nat → Int32 → (Nat → Int32) → Prop} {S U : SI} (h : RR P S U) (v1 v2 : Int32) : ∃ (r : Int32) (S1 U1 : SI), f_X9_fade S v1 v2 = some (r, S1) ∧ f_X10_fade U v1 v2 = some (r, U1) ∧ RR P S1 U1 := by
  unfold f_X9_fade f_X10_fade
  simp only [wi _ 6 6 rfl, wi _ 10 10 rfl, mi _ 5 5 rfl, mi _ 9 9 rfl, sb, nm_eq]
  cases hv1 : inB v1 6 with
  | false => exact ⟨_, _, _, rfl, rfl, h⟩
  | true =>
    cases hv2 : inB v2 10 with
    | false => exact ⟨_, _, _, rfl, rfl, h⟩
    | true =>
      obtain ⟨j, hj, rfl⟩ := inB_of hv1 (by omega)
      obtain ⟨x, hx, rfl⟩ := inB_of hv2 (by omega)
      obtain ⟨A, hA⟩ := h.1
      have e4 : (4 : Int32) + nI j = nI (4 + j) := nI_add 4 j
      simp only [e4, inBn (show 4 + j < 205 by omega) (by omega), ixn (show j < 2 ^ 31 by omega), ixn (show 4 + j < 2 ^ 31 by omega)]
      refine ⟨nI (A 1 j), up2 S 5 j (nI x), up2 U 79 (4 + j) (nI x), ?_, ?_, ?_⟩
      · show some (S 5 j, _) = _
        rw [hA.2.1.2.1.1 j hj]
      · show some (U 79 (4 + j), _) = _
        rw [hA.2.2.2.1.1 j hj]
      · refine h.core (A := up2 A 1 j x) (hA.sm (by simp [up2_at]) (by simp [up2_at]) (fun r hr => up2_row _ (by omega)) ?_ (fun i hi => ?_) (fun i hi => ?_) (fun i hi => ?_) (fun a k hk => up2_ne _ (by omega)) (fun k hk => up2_ne _ (by omega))) (fun a k _ h2 => up2_ne _ (by omega)) (fun a k _ h2 => up2_ne _ (by omega))
        · obtain ⟨⟨-, -, v3, v4⟩, -⟩ := hA.1
          obtain ⟨⟨-, -, c3, c4⟩, -⟩ := hA.2.1
          obtain ⟨⟨-, -, m3, m4⟩, -⟩ := hA.2.2
          simp [up2_at, c3, c4, m3, m4, v3, v4]
          omega
        · have h1 := hA.2.1.2.1.1 i hi
          have h2 := hA.2.2.2.1.1 i hi
          have h3 := hA.1.2.1.1 i hi
          by_cases hij : i = j
          · subst hij
            simp [up2_at]
            omega
          · rw [up2_ne _ (by omega), up2_ne _ (by omega), up2_ne _ (by omega)]
            exact ⟨h1, h2, h3⟩
        · rw [up2_ne _ (by omega), up2_ne _ (by omega), up2_ne _ (by omega)]
          exact ⟨hA.2.1.2.1.2.1 i hi, hA.2.2.2.1.2.1 i hi, hA.1.2.1.2.1 i hi⟩
        · rw [up2_ne _ (by omega), up2_ne _ (by omega), up2_ne _ (by omega), up2_ne _ (by omega), up2_ne _ (by omega), up2_ne _ (by omega)]
          exact ⟨hA.2.1.2.1.2.2.1 i hi, hA.2.1.2.1.2.2.2 i hi, hA.2.2.2.1.2.2.1 i hi, hA.2.2.2.1.2.2.2 i hi, (hA.1.2.1.2.2 i hi).1, (hA.1.2.1.2.2 i hi).2⟩
theorem op_wish {P : Nat → Int32 → (Nat → Int32) → Prop} {S U : SI} (h : RR P S U) (v1 v2 : Int32) : ∃ (r : Int32) (S1 U1 : SI), f_X9_wish S v1 v2 = some (r, S1) ∧ f_X10_wish U v1 v2 = some (r, U1) ∧ RR P S1 U1 := by
  unfold f_X9_wish f_X10_wish
  simp only [wi _ 3 3 rfl, wi _ 64 64 rfl, mi _ 2 2 rfl, mi _ 63 63 rfl, sb, nm_eq]
  cases hv1 : inB v1 3 with
  | false => exact ⟨_, _, _, rfl, rfl, h⟩
  | true =>
    cases hv2 : inB v2 64 with
    | false => exact ⟨_, _, _, rfl, rfl, h⟩
    | true =>
      obtain ⟨j, hj, rfl⟩ := inB_of hv1 (by omega)
      obtain ⟨x, hx, rfl⟩ := inB_of hv2 (by omega)
      obtain ⟨A, hA⟩ := h.1
      have e4 : (10 : Int32) + nI j = nI (10 + j) := nI_add 10 j
      simp only [e4, inBn (show 10 + j < 205 by omega) (by omega), ixn (show j < 2 ^ 31 by omega), ixn (show 10 + j < 2 ^ 31 by omega)]
      refine ⟨nI (A 2 j), up2 S 8 j (nI x), up2 U 79 (10 + j) (nI x), ?_, ?_, ?_⟩
      · show some (S 8 j, _) = _
        rw [hA.2.1.2.1.2.1 j hj]
      · show some (U 79 (10 + j), _) = _
        rw [hA.2.2.2.1.2.1 j hj]
      · refine h.core (A := up2 A 2 j x) (hA.sm (by simp [up2_at]) (by simp [up2_at]) (fun r hr => up2_row _ (by omega)) ?_ (fun i hi => ?_) (fun i hi => ?_) (fun i hi => ?_) (fun a k hk => up2_ne _ (by omega)) (fun k hk => up2_ne _ (by omega))) (fun a k _ h2 => up2_ne _ (by omega)) (fun a k _ h2 => up2_ne _ (by omega))
        · obtain ⟨⟨-, -, v3, v4⟩, -⟩ := hA.1
          obtain ⟨⟨-, -, c3, c4⟩, -⟩ := hA.2.1
          obtain ⟨⟨-, -, m3, m4⟩, -⟩ := hA.2.2
          simp [up2_at, c3, c4, m3, m4, v3, v4]
          try omega
        · rw [up2_ne _ (by omega), up2_ne _ (by omega), up2_ne _ (by omega)]
          exact ⟨hA.2.1.2.1.1 i hi, hA.2.2.2.1.1 i hi, hA.1.2.1.1 i hi⟩
        · have h1 := hA.2.1.2.1.2.1 i hi
          have h2 := hA.2.2.2.1.2.1 i hi
          have h3 := hA.1.2.1.2.1 i hi
          by_cases hij : i = j
          · subst hij
            simp [up2_at]
            omega
          · rw [up2_ne _ (by omega), up2_ne _ (by omega), up2_ne _ (by omega)]
            exact ⟨h1, h2, h3⟩
        · rw [up2_ne _ (by omega), up2_ne _ (by omega), up2_ne _ (by omega), up2_ne _ (by omega), up2_ne _ (by omega), up2_ne _ (by omega)]
          exact ⟨hA.2.1.2.1.2.2.1 i hi, hA.2.1.2.1.2.2.2 i hi, hA.2.2.2.1.2.2.1 i hi, hA.2.2.2.1.2.2.2 i hi, (hA.1.2.1.2.2 i hi).1, (hA.1.2.1.2.2 i hi).2⟩
theorem op_set {P : Nat → Int32 → (Nat → Int32) → Prop} {S U : SI} (h : RR P S U) (v1 v2 : Int32) : ∃ (r : Int32) (S1 U1 : SI), f_X9_set S v1 v2 = some (r, S1) ∧ f_X10_set U v1 v2 = some (r, U1) ∧ RR P S1 U1 := by
  unfold f_X9_set f_X10_set f_X9_set_31 f_X10_set_36
  simp only [wi _ 21 21 rfl, wi _ 2 2 rfl, mi _ 20 20 rfl, mi _ 1 1 rfl, sb, nm_eq]
  by_cases h0 : v1 = 0
  · subst h0
    simp only [if_true, show ¬ (0 : Int32) = 1 by decide, if_false]
    cases hv2 : inB v2 21 with
    | false => exact ⟨_, _, _, rfl, rfl, h⟩
    | true =>
      obtain ⟨x, hx, rfl⟩ := inB_of hv2 (by omega)
      obtain ⟨A, hA⟩ := h.1
      refine ⟨nI (A 0 2), up2 S 1 6 (nI x), up2 U 79 2 (nI x), ?_, ?_, ?_⟩
      · simp [gd, inB, hA.2.1.1.2.2.1]
      · simp [gd, inB, ix, hA.2.2.1.2.2.1]
        try rfl
      · refine h.core (A := up2 A 0 2 x) (hA.sm (by simp [up2_at]) (by simp [up2_at]) (fun r hr => up2_row _ (by omega)) ?_ (fun i hi => ?_) (fun i hi => ?_) (fun i hi => ?_) (fun a k hk => up2_ne _ (by omega)) (fun k hk => up2_ne _ (by omega))) (fun a k _ h2 => up2_ne _ (by omega)) (fun a k _ h2 => up2_ne _ (by omega))
        · obtain ⟨⟨-, -, v3, v4⟩, -⟩ := hA.1
          obtain ⟨⟨-, -, c3, c4⟩, -⟩ := hA.2.1
          obtain ⟨⟨-, -, m3, m4⟩, -⟩ := hA.2.2
          simp [up2_at, c3, c4, m3, m4, v3, v4]
          try omega
        · rw [up2_ne _ (by omega), up2_ne _ (by omega), up2_ne _ (by omega)]
          exact ⟨hA.2.1.2.1.1 i hi, hA.2.2.2.1.1 i hi, hA.1.2.1.1 i hi⟩
        · rw [up2_ne _ (by omega), up2_ne _ (by omega), up2_ne _ (by omega)]
          exact ⟨hA.2.1.2.1.2.1 i hi, hA.2.2.2.1.2.1 i hi, hA.1.2.1.2.1 i hi⟩
        · rw [up2_ne _ (by omega), up2_ne _ (by omega), up2_ne _ (by omega), up2_ne _ (by omega), up2_ne _ (by omega), up2_ne _ (by omega)]
          exact ⟨hA.2.1.2.1.2.2.1 i hi, hA.2.1.2.1.2.2.2 i hi, hA.2.2.2.1.2.2.1 i hi, hA.2.2.2.1.2.2.2 i hi, (hA.1.2.1.2.2 i hi).1, (hA.1.2.1.2.2 i hi).2⟩
  · simp only [if_neg h0]
    by_cases h1 : v1 = 1
    · subst h1
      simp only [if_true]
      cases hv2 : inB v2 2 with
      | false => exact ⟨_, _, _, rfl, rfl, h⟩
      | true =>
        obtain ⟨x, hx, rfl⟩ := inB_of hv2 (by omega)
        obtain ⟨A, hA⟩ := h.1
        refine ⟨nI (A 0 3), up2 S 1 7 (nI x), up2 U 79 3 (nI x), ?_, ?_, ?_⟩
        · simp [gd, inB, hA.2.1.1.2.2.2]
        · simp [gd, inB, ix, hA.2.2.1.2.2.2]
          try rfl
        · refine h.core (A := up2 A 0 3 x) (hA.sm (by simp [up2_at]) (by simp [up2_at]) (fun r hr => up2_row _ (by omega)) ?_ (fun i hi => ?_) (fun i hi => ?_) (fun i hi => ?_) (fun a k hk => up2_ne _ (by omega)) (fun k hk => up2_ne _ (by omega))) (fun a k _ h2 => up2_ne _ (by omega)) (fun a k _ h2 => up2_ne _ (by omega))
          · obtain ⟨⟨-, -, v3, v4⟩, -⟩ := hA.1
            obtain ⟨⟨-, -, c3, c4⟩, -⟩ := hA.2.1
            obtain ⟨⟨-, -, m3, m4⟩, -⟩ := hA.2.2
            simp [up2_at, c3, c4, m3, m4, v3, v4]
            try omega
          · rw [up2_ne _ (by omega), up2_ne _ (by omega), up2_ne _ (by omega)]
            exact ⟨hA.2.1.2.1.1 i hi, hA.2.2.2.1.1 i hi, hA.1.2.1.1 i hi⟩
          · rw [up2_ne _ (by omega), up2_ne _ (by omega), up2_ne _ (by omega)]
            exact ⟨hA.2.1.2.1.2.1 i hi, hA.2.2.2.1.2.1 i hi, hA.1.2.1.2.1 i hi⟩
          · rw [up2_ne _ (by omega), up2_ne _ (by omega), up2_ne _ (by omega), up2_ne _ (by omega), up2_ne _ (by omega), up2_ne _ (by omega)]
            exact ⟨hA.2.1.2.1.2.2.1 i hi, hA.2.1.2.1.2.2.2 i hi, hA.2.2.2.1.2.2.1 i hi, hA.2.2.2.1.2.2.2 i hi, (hA.1.2.1.2.2 i hi).1, (hA.1.2.1.2.2 i hi).2⟩
    · simp only [if_neg h1]
      exact ⟨_, _, _, rfl, rfl, h⟩
theorem wid_le (a b : Int32) : a.toInt64 < b.toInt64 ↔ a < b := by rw [lt_toL, wide, wide, lt_toInt]
theorem op_owns {P : Nat → Int32 → (Nat → Int32) → Prop} {S U : SI} (h : RR P S U) (v1 v2 v3 v4 : Int32) : ∃ (r : Int32) (S1 U1 : SI), f_X9_owns S v1 v2 v3 v4 = some (r, S1) ∧ f_X10_owns U v1 v2 v3 v4 = some (r, U1) ∧ RR P S1 U1 := by
  unfold f_X9_owns f_X10_owns
  simp only [wi _ 3 3 rfl, wi _ 6 6 rfl, mi _ 2 2 rfl, mi _ 5 5 rfl, mi _ 12 12 rfl, in_gen, sb, nm_eq]
  cases hv1 : inB v1 3 with
  | false => exact ⟨_, _, _, rfl, rfl, h⟩
  | true =>
    cases hv2 : inB v2 6 with
    | false => exact ⟨_, _, _, rfl, rfl, h⟩
    | true =>
      simp only [lt_toInt, le_toInt, wide, show (0 : Int32).toInt = 0 from rfl, show (12 : Int32).toInt = 12 from rfl, show (12 : Int64).toInt = 12 from rfl, if_true, show ¬ (1 : Int32) = 0 by decide, if_false]
      cases hv3 : inB v3 13 with
      | false =>
        have q3 := inB_neg hv3
        refine ⟨-1, S, U, ?_, rfl, h⟩
        by_cases a1 : v3.toInt < 0
        · rw [if_pos a1]
        · rw [if_neg a1]
          by_cases a2 : 12 < v4.toInt
          · rw [if_pos a2]
          · rw [if_neg a2, if_neg (by omega)]
      | true =>
        obtain ⟨x, hx, rfl⟩ := inB_of hv3 (by omega)
        rw [nI_toInt (show x < 2 ^ 31 by omega)]
        by_cases hin : (x : Int) ≤ v4.toInt ∧ v4.toInt ≤ 12
        · obtain ⟨j, hj, rfl⟩ := inB_of hv1 (by omega)
          obtain ⟨k, hk, rfl⟩ := inB_of hv2 (by omega)
          obtain ⟨y, hy, rfl⟩ := inB_of (v := v4) (n := 13) (decide_eq_true (by omega)) (by omega)
          rw [nI_toInt (show y < 2 ^ 31 by omega)] at hin ⊢
          obtain ⟨A, hA⟩ := h.1
          have e1 : nI j * (6 : Int32) + nI k = nI (j * 6 + k) := by rw [show (6 : Int32) = nI 6 from rfl, pk_mul, nI_add]
          have e2 : (169 : Int32) + (2 : Int32) * ((6 : Int32) * nI j + nI k) = nI (169 + 2 * (j * 6 + k)) := by rw [show (6 : Int32) = nI 6 from rfl, show (2 : Int32) = nI 2 from rfl, show (169 : Int32) = nI 169 from rfl, pk_mul, nI_add, pk_mul, nI_add, Nat.mul_comm 6 j]
          have e3 : nI (169 + 2 * (j * 6 + k)) + (1 : Int32) = nI (170 + 2 * (j * 6 + k)) := by rw [nI_1]; congr 1; omega
          generalize hq : j * 6 + k = q at e1 e2 e3
          have hq18 : q < 18 := by omega
          simp only [e1, e2, e3, if_pos hin, inBn (show q < 18 by omega) (by omega), inBn (show 169 + 2 * q < 205 by omega) (by omega), inBn (show 170 + 2 * q < 205 by omega) (by omega), ixn (show q < 2 ^ 31 by omega), ixn (show 169 + 2 * q < 2 ^ 31 by omega), ixn (show 170 + 2 * q < 2 ^ 31 by omega), gd_t, show ¬ (x : Int) < 0 by omega, show ¬ (12 : Int) < (y : Int) by omega, hin.1, if_true, if_false, show ¬ nI 1 = (0 : Int32) by decide]
          refine ⟨nI (A 3 q) + 16 * nI (A 4 q), up2 (up2 S 6 q (nI x)) 7 q (nI y), up2 (up2 U 79 (169 + 2 * q) (nI x)) 79 (170 + 2 * q) (nI y), ?_, ?_, ?_⟩
          · rw [hA.2.1.2.1.2.2.1 q hq18, hA.2.1.2.1.2.2.2 q hq18]
          · rw [hA.2.2.2.1.2.2.1 q hq18, hA.2.2.2.1.2.2.2 q hq18, if_neg (show ¬ (1 : Int32) = 0 by decide)]
            have htt : True ∧ (y : Int) ≤ 12 := ⟨trivial, hin.2⟩
            rw [if_pos htt]
            rfl
          · have hxy : x ≤ y := by omega
            refine h.core (A := up2 (up2 A 3 q x) 4 q y) (hA.sm (by simp [up2_at]) (by simp [up2_at]) (fun r hr => by rw [up2_row _ (by omega), up2_row _ (by omega)]) ?_ (fun i hi => ?_) (fun i hi => ?_) (fun i hi => ?_) (fun a k hk => by rw [up2_ne _ (by omega), up2_ne _ (by omega)]) (fun k hk => by rw [up2_ne _ (by omega), up2_ne _ (by omega)])) (fun a k _ h2 => by rw [up2_ne _ (by omega), up2_ne _ (by omega)]) (fun a k _ h2 => by rw [up2_ne _ (by omega), up2_ne _ (by omega)])
            · obtain ⟨⟨-, -, v3, v4⟩, -⟩ := hA.1
              obtain ⟨⟨-, -, c3, c4⟩, -⟩ := hA.2.1
              obtain ⟨⟨-, -, m3, m4⟩, -⟩ := hA.2.2
              rw [up2_ne _ (by omega), up2_ne _ (by omega), up2_ne _ (by omega), up2_ne _ (by omega), up2_ne _ (by omega), up2_ne _ (by omega), up2_ne _ (by omega), up2_ne _ (by omega), up2_ne _ (by omega), up2_ne _ (by omega), up2_ne _ (by omega), up2_ne _ (by omega)]
              exact ⟨c3, c4, m3, m4, v3, v4⟩
            · rw [up2_ne _ (by omega), up2_ne _ (by omega), up2_ne _ (by omega), up2_ne _ (by omega), up2_ne _ (by omega), up2_ne _ (by omega)]
              exact ⟨hA.2.1.2.1.1 i hi, hA.2.2.2.1.1 i hi, hA.1.2.1.1 i hi⟩
            · rw [up2_ne _ (by omega), up2_ne _ (by omega), up2_ne _ (by omega), up2_ne _ (by omega), up2_ne _ (by omega), up2_ne _ (by omega)]
              exact ⟨hA.2.1.2.1.2.1 i hi, hA.2.2.2.1.2.1 i hi, hA.1.2.1.2.1 i hi⟩
            · have g1 := hA.2.1.2.1.2.2.1 i hi
              have g2 := hA.2.1.2.1.2.2.2 i hi
              have g3 := hA.2.2.2.1.2.2.1 i hi
              have g4 := hA.2.2.2.1.2.2.2 i hi
              have g5 := hA.1.2.1.2.2 i hi
              simp only [up2_at]
              by_cases hiq : i = q
              · subst hiq
                simp
                omega
              · simp [hiq, show ¬ (169 + 2 * i = 170 + 2 * q) by omega, show ¬ (170 + 2 * i = 169 + 2 * q) by omega, show ¬ (2 * i = 2 * q) by omega]
                exact ⟨g1, g2, g3, g4, g5.1, g5.2⟩
        · refine ⟨-1, S, U, ?_, ?_, h⟩
          · rw [if_neg (show ¬ (x : Int) < 0 by omega)]
            by_cases a2 : 12 < v4.toInt
            · rw [if_pos a2]
            · rw [if_neg a2, if_neg (by omega)]
          · rw [if_neg hin]
            rfl
