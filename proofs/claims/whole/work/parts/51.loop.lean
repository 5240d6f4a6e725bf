def A0 : VW := fun a j => if a = 0 then (if j = 2 then 5 else 0) else if a = 4 then 12 else 0
theorem s0_C : (S0 1 1 = nI 0 ∧ S0 1 4 = nI 0 ∧ S0 1 6 = nI 5 ∧ S0 1 7 = nI 0) ∧ (∀ j, j < 6 → S0 5 j = nI 0) ∧ (∀ j, j < 3 → S0 8 j = nI 0) ∧ (∀ j, j < 18 → S0 6 j = nI 0) ∧ (∀ j, j < 18 → S0 7 j = nI 12) := by decide +kernel
theorem s0_M : (S0 79 0 = nI 0 ∧ S0 79 1 = nI 0 ∧ S0 79 2 = nI 5 ∧ S0 79 3 = nI 0) ∧ (∀ j, j < 6 → S0 79 (4 + j) = nI 0) ∧ (∀ j, j < 3 → S0 79 (10 + j) = nI 0) ∧ (∀ j, j < 18 → S0 79 (169 + 2 * j) = nI 0) ∧ (∀ j, j < 18 → S0 79 (170 + 2 * j) = nI 12) := by decide +kernel
theorem s0_I : S0 0 2 = 0 ∧ S0 78 15 = 0 ∧ S0 41 1 = nI 0 ∧ S0 78 2 = nI 0 := by decide +kernel
theorem s0_S : ∀ k, k < 4 → S0 (70 + 2 * k) 1 = S0 92 k ∧ S0 92 k = -1 ∧ S0 (70 + 2 * k) 2 = nI 0 ∧ S0 93 k = nI 0 ∧ ∀ j, j < 16 → S0 (70 + 2 * k + 1) j = S0 94 (16 * k + j) := by decide +kernel
theorem s0_K : ∀ k, k < 20 → S0 65 k = 0 := by decide +kernel
theorem s0_V : HV A0 := by
  refine ⟨⟨by decide, by decide, by decide, by decide⟩, ⟨fun j _ => ?_, fun j _ => ?_, fun j _ => ⟨?_, ?_⟩⟩, fun m hm => absurd hm (Nat.not_lt_zero _), fun m hm => absurd hm (Nat.not_lt_zero _)⟩
  · show (0 : Nat) ≤ 9
    omega
  · show (0 : Nat) ≤ 63
    omega
  · show (0 : Nat) ≤ 12
    omega
  · show (12 : Nat) ≤ 12
    omega
theorem s0_R : RR PP S0 S0 := by
  obtain ⟨c1, c2, c3, c4, c5⟩ := s0_C
  obtain ⟨m1, m2, m3, m4, m5⟩ := s0_M
  obtain ⟨i1, i2, i3, i4⟩ := s0_I
  have hC : HC S0 1 A0 := ⟨c1, ⟨c2, c3, c4, c5⟩, fun m hm => absurd hm (Nat.not_lt_zero _), fun m hm => absurd hm (Nat.not_lt_zero _)⟩
  have hM : HM (S0 79) A0 := ⟨m1, ⟨m2, m3, m4, m5⟩, fun m hm => absurd hm (Nat.not_lt_zero _), fun m hm => absurd hm (Nat.not_lt_zero _)⟩
  refine ⟨⟨A0, s0_V, hC, hM⟩, Or.inl ⟨i1, i2⟩, ⟨0, Nat.zero_le _, i3, i4, fun j hj => absurd hj (Nat.not_lt_zero _)⟩, fun k hk => ?_, fun k hk => Or.inl (s0_K k hk)⟩
  obtain ⟨a1, a2, a3, a4, a5⟩ := s0_S k hk
  exact ⟨⟨a1, Or.inl a2⟩, ⟨0, Nat.zero_le _, a3, a4⟩, a5⟩
set_option maxHeartbeats 4000000 in
set_option maxRecDepth 100000 in
theorem law_l {n : Nat} (hn : n ≤ 4096) (xs : Nat → Int32) : ∀ (m i : Nat) (S : SI) (T : SL) (U : SI) (V : SL), i ≤ n → n < i + m → RR PP S U → ∃ q, f_L_law_18 n xs m (nI i) S T U V = some q ∧ q.1 = 1 := by
  intro m
  induction m with
  | zero =>
    intro i S T U V h1 h2
    omega
  | succ m ih =>
    intro i S T U V h1 h2 h
    have hcond : (Int32.ofNat n - (8 : Int32) < nI i) ↔ n < i + 8 := by
      show (nI n - nI 8 < nI i) ↔ _
      rw [lt_toInt, pk_sub_toInt (show n < 2 ^ 30 by omega) (show 8 < 2 ^ 30 by omega), nI_toInt (show i < 2 ^ 31 by omega)]
      omega
    by_cases c : n < i + 8
    · rw [f_L_law_18, if_pos (hcond.mpr c)]
      exact ⟨_, rfl, rfl⟩
    have ih' : ∀ (S : SI) (T : SL) (U : SI) (V : SL), RR PP S U → ∃ q, f_L_law_18 n xs m (nI i + (8 : Int32)) S T U V = some q ∧ q.1 = 1 := fun S T U V hR => by
      rw [show nI i + (8 : Int32) = nI (i + 8) from nI_add i 8]
      exact ih (i + 8) S T U V (by omega) (by omega) hR
    have b0 : inB (nI i) n = true := inBn (by omega) (by omega)
    have b1 : inB (nI i + (1 : Int32)) n = true := by
      rw [show nI i + (1 : Int32) = nI (i + 1) from nI_add i 1]
      exact inBn (by omega) (by omega)
    have b2 : inB (nI i + (2 : Int32)) n = true := by
      rw [show nI i + (2 : Int32) = nI (i + 2) from nI_add i 2]
      exact inBn (by omega) (by omega)
    have b3 : inB (nI i + (3 : Int32)) n = true := by
      rw [show nI i + (3 : Int32) = nI (i + 3) from nI_add i 3]
      exact inBn (by omega) (by omega)
    have b4 : inB (nI i + (4 : Int32)) n = true := by
      rw [show nI i + (4 : Int32) = nI (i + 4) from nI_add i 4]
      exact inBn (by omega) (by omega)
    have b5 : inB (nI i + (5 : Int32)) n = true := by
      rw [show nI i + (5 : Int32) = nI (i + 5) from nI_add i 5]
      exact inBn (by omega) (by omega)
    have b6 : inB (nI i + (6 : Int32)) n = true := by
      rw [show nI i + (6 : Int32) = nI (i + 6) from nI_add i 6]
      exact inBn (by omega) (by omega)
    have b7 : inB (nI i + (7 : Int32)) n = true := by
      rw [show nI i + (7 : Int32) = nI (i + 7) from nI_add i 7]
      exact inBn (by omega) (by omega)
    rw [f_L_law_18, if_neg (fun hc => c (hcond.mp hc)), b0, gd_t, b1, b2, b3, b4, b5, b6, b7]
    clear hcond b0 b1 b2 b3 b4 b5 b6 b7
    by_cases c0 : xs (ix (nI i)) &&& (63 : Int32) = (0 : Int32)
    · obtain ⟨r, S1, U1, e1, e2, e3⟩ := op_sock h (xs (ix (nI i + (1 : Int32)))) (xs (ix (nI i + (2 : Int32)))) (xs (ix (nI i + (3 : Int32)))) (xs (ix (nI i + (4 : Int32))))
      rw [if_pos c0, gd_t, gd_t, gd_t, gd_t, e1, sb, gd_t, gd_t, gd_t, gd_t, e2, sb]
      dsimp only
      rw [if_pos (rfl : r = r)]
      exact ih' _ _ _ _ e3
    rw [if_neg c0]
    clear c0
    by_cases c1 : xs (ix (nI i)) &&& (63 : Int32) = (1 : Int32)
    · obtain ⟨r, S1, U1, e1, e2, e3⟩ := op_type h ((((xs (ix (nI i + (1 : Int32)))).toInt64) <<< ((32 : Int32).toInt64 &&& 63)) ||| (((xs (ix (nI i + (2 : Int32)))).toInt64) &&& (4294967295 : Int64))) (xs (ix (nI i + (3 : Int32))))
      rw [if_pos c1, gd_t, gd_t, gd_t, e1, sb, gd_t, gd_t, gd_t, e2, sb]
      dsimp only
      rw [if_pos (rfl : r = r)]
      exact ih' _ _ _ _ e3
    rw [if_neg c1]
    clear c1
    by_cases c2 : xs (ix (nI i)) &&& (63 : Int32) = (2 : Int32)
    · obtain ⟨r, S1, U1, e1, e2, e3⟩ := op_socks h 
      rw [if_pos c2, e1, sb, e2, sb]
      dsimp only
      rw [if_pos (rfl : r = r)]
      exact ih' _ _ _ _ e3
    rw [if_neg c2]
    clear c2
    by_cases c3 : xs (ix (nI i)) &&& (63 : Int32) = (3 : Int32)
    · obtain ⟨r, e1, e2⟩ := op_told h (xs (ix (nI i + (1 : Int32)))) (xs (ix (nI i + (2 : Int32))))
      rw [if_pos c3, gd_t, gd_t, e1, sb, gd_t, gd_t, e2, sb]
      rw [if_pos (rfl : r = r)]
      exact ih' _ _ _ _ h
    rw [if_neg c3]
    clear c3
    by_cases c4 : xs (ix (nI i)) &&& (63 : Int32) = (4 : Int32)
    · obtain ⟨r, S1, U1, e1, e2, e3⟩ := op_fade h (xs (ix (nI i + (1 : Int32)))) (xs (ix (nI i + (2 : Int32))))
      rw [if_pos c4, gd_t, gd_t, e1, sb, gd_t, gd_t, e2, sb]
      dsimp only
      rw [if_pos (rfl : r = r)]
      exact ih' _ _ _ _ e3
    rw [if_neg c4]
    clear c4
    by_cases c5 : xs (ix (nI i)) &&& (63 : Int32) = (5 : Int32)
    · obtain ⟨r, S1, U1, e1, e2, e3⟩ := op_set h (xs (ix (nI i + (1 : Int32)))) (xs (ix (nI i + (2 : Int32))))
      rw [if_pos c5, gd_t, gd_t, e1, sb, gd_t, gd_t, e2, sb]
      dsimp only
      rw [if_pos (rfl : r = r)]
      exact ih' _ _ _ _ e3
    rw [if_neg c5]
    clear c5
    by_cases c6 : xs (ix (nI i)) &&& (63 : Int32) = (6 : Int32)
    · obtain ⟨r, S1, U1, e1, e2, e3⟩ := op_monday h (xs (ix (nI i + (1 : Int32)))) (xs (ix (nI i + (2 : Int32))))
      rw [if_pos c6, gd_t, gd_t, e1, sb, gd_t, gd_t, e2, sb]
      dsimp only
      rw [if_pos (rfl : r = r)]
      exact ih' _ _ _ _ e3
    rw [if_neg c6]
    clear c6
    by_cases c7 : xs (ix (nI i)) &&& (63 : Int32) = (7 : Int32)
    · obtain ⟨r, S1, U1, e1, e2, e3⟩ := op_found h (xs (ix (nI i + (1 : Int32))))
      rw [if_pos c7, gd_t, e1, sb, gd_t, e2, sb]
      dsimp only
      rw [if_pos (rfl : r = r)]
      exact ih' _ _ _ _ e3
    rw [if_neg c7]
    clear c7
    by_cases c8 : xs (ix (nI i)) &&& (63 : Int32) = (8 : Int32)
    · obtain ⟨r, e1, e2⟩ := op_alike h (xs (ix (nI i + (1 : Int32)))) (xs (ix (nI i + (2 : Int32))))
      rw [if_pos c8, gd_t, gd_t, e1, sb, gd_t, gd_t, e2, sb]
      rw [if_pos (rfl : r = r)]
      exact ih' _ _ _ _ h
    rw [if_neg c8]
    clear c8
    by_cases c9 : xs (ix (nI i)) &&& (63 : Int32) = (9 : Int32)
    · obtain ⟨r, e1, e2⟩ := op_fellows h (xs (ix (nI i + (1 : Int32)))) (xs (ix (nI i + (2 : Int32))))
      rw [if_pos c9, gd_t, gd_t, e1, sb, gd_t, gd_t, e2, sb]
      rw [if_pos (rfl : r = r)]
      exact ih' _ _ _ _ h
    rw [if_neg c9]
    clear c9
    by_cases c10 : xs (ix (nI i)) &&& (63 : Int32) = (10 : Int32)
    · obtain ⟨r, e1, e2⟩ := op_count h (xs (ix (nI i + (1 : Int32))))
      rw [if_pos c10, gd_t, e1, sb, gd_t, e2, sb]
      rw [if_pos (rfl : r = r)]
      exact ih' _ _ _ _ h
    rw [if_neg c10]
    clear c10
    by_cases c11 : xs (ix (nI i)) &&& (63 : Int32) = (11 : Int32)
    · obtain ⟨r, S1, U1, e1, e2, e3⟩ := op_pairs h (xs (ix (nI i + (1 : Int32))))
      rw [if_pos c11, gd_t, e1, sb, gd_t, e2, sb]
      dsimp only
      rw [if_pos (rfl : r = r)]
      exact ih' _ _ _ _ e3
    rw [if_neg c11]
    clear c11
    by_cases c12 : xs (ix (nI i)) &&& (63 : Int32) = (12 : Int32)
    · obtain ⟨r, S1, U1, e1, e2, e3⟩ := op_fellow h (xs (ix (nI i + (1 : Int32))))
      rw [if_pos c12, gd_t, e1, sb, gd_t, e2, sb]
      dsimp only
      rw [if_pos (rfl : r = r)]
      exact ih' _ _ _ _ e3
    rw [if_neg c12]
    clear c12
    by_cases c13 : xs (ix (nI i)) &&& (63 : Int32) = (13 : Int32)
    · obtain ⟨r, S1, U1, e1, e2, e3⟩ := op_pairUp h 
      rw [if_pos c13, e1, sb, e2, sb]
      dsimp only
      rw [if_pos (rfl : r = r)]
      exact ih' _ _ _ _ e3
    rw [if_neg c13]
    clear c13
    by_cases c14 : xs (ix (nI i)) &&& (63 : Int32) = (14 : Int32)
    · obtain ⟨r, S1, U1, e1, e2, e3⟩ := op_part h (xs (ix (nI i + (1 : Int32))))
      rw [if_pos c14, gd_t, e1, sb, gd_t, e2, sb]
      dsimp only
      rw [if_pos (rfl : r = r)]
      exact ih' _ _ _ _ e3
    rw [if_neg c14]
    clear c14
    by_cases c15 : xs (ix (nI i)) &&& (63 : Int32) = (15 : Int32)
    · obtain ⟨r, e1, e2⟩ := op_judge h (xs (ix (nI i + (1 : Int32)))) (xs (ix (nI i + (2 : Int32)))) (xs (ix (nI i + (3 : Int32))))
      rw [if_pos c15, gd_t, gd_t, gd_t, e1, sb, gd_t, gd_t, gd_t, e2, sb]
      rw [if_pos (rfl : r = r)]
      exact ih' _ _ _ _ h
    rw [if_neg c15]
    clear c15
    by_cases c16 : xs (ix (nI i)) &&& (63 : Int32) = (16 : Int32)
    · obtain ⟨r, S1, T1, V1, e1, e2, e3⟩ := op_thrown h T V (xs (ix (nI i + (1 : Int32)))) (xs (ix (nI i + (2 : Int32)))) (xs (ix (nI i + (3 : Int32)))) (xs (ix (nI i + (4 : Int32)))) (xs (ix (nI i + (5 : Int32)))) (xs (ix (nI i + (6 : Int32))))
      rw [if_pos c16, gd_t, gd_t, gd_t, gd_t, gd_t, gd_t, e1, sb, gd_t, gd_t, gd_t, gd_t, gd_t, gd_t, e2, sb]
      dsimp only
      rw [if_pos (rfl : r = r)]
      exact ih' _ _ _ _ e3
    rw [if_neg c16]
    clear c16
    by_cases c17 : xs (ix (nI i)) &&& (63 : Int32) = (17 : Int32)
    · obtain ⟨r, S1, T1, V1, e1, e2, e3⟩ := op_worth h T V (xs (ix (nI i + (1 : Int32)))) (xs (ix (nI i + (2 : Int32)))) (xs (ix (nI i + (3 : Int32)))) (xs (ix (nI i + (4 : Int32)))) (xs (ix (nI i + (5 : Int32)))) (xs (ix (nI i + (6 : Int32)))) (xs (ix (nI i + (7 : Int32))))
      rw [if_pos c17, gd_t, gd_t, gd_t, gd_t, gd_t, gd_t, gd_t, e1, sb, gd_t, gd_t, gd_t, gd_t, gd_t, gd_t, gd_t, e2, sb]
      dsimp only
      rw [if_pos (rfl : r = r)]
      exact ih' _ _ _ _ e3
    rw [if_neg c17]
    clear c17
    by_cases c18 : xs (ix (nI i)) &&& (63 : Int32) = (18 : Int32)
    · obtain ⟨r, S1, T1, e1, e2, e3⟩ := op_worst h T 
      rw [if_pos c18, e1, sb, e2, sb]
      dsimp only
      rw [if_pos (rfl : r = r)]
      exact ih' _ _ _ _ e3
    rw [if_neg c18]
    clear c18
    by_cases c19 : xs (ix (nI i)) &&& (63 : Int32) = (19 : Int32)
    · obtain ⟨r, S1, T1, U1, e1, e2, e3⟩ := op_odds h T (xs (ix (nI i + (1 : Int32)))) (xs (ix (nI i + (2 : Int32))))
      rw [if_pos c19, gd_t, gd_t, e1, sb, gd_t, gd_t, e2, sb]
      dsimp only
      rw [if_pos (rfl : r = r)]
      exact ih' _ _ _ _ e3
    rw [if_neg c19]
    clear c19
    by_cases c20 : xs (ix (nI i)) &&& (63 : Int32) = (20 : Int32)
    · obtain ⟨r, S1, U1, e1, e2, e3⟩ := op_owns h (xs (ix (nI i + (1 : Int32)))) (xs (ix (nI i + (2 : Int32)))) (xs (ix (nI i + (3 : Int32)))) (xs (ix (nI i + (4 : Int32))))
      rw [if_pos c20, gd_t, gd_t, gd_t, gd_t, e1, sb, gd_t, gd_t, gd_t, gd_t, e2, sb]
      dsimp only
      rw [if_pos (rfl : r = r)]
      exact ih' _ _ _ _ e3
    rw [if_neg c20]
    clear c20
    by_cases c21 : xs (ix (nI i)) &&& (63 : Int32) = (21 : Int32)
    · obtain ⟨r, S1, U1, e1, e2, e3⟩ := op_may h (xs (ix (nI i + (1 : Int32)))) (xs (ix (nI i + (2 : Int32))))
      rw [if_pos c21, gd_t, gd_t, e1, sb, gd_t, gd_t, e2, sb]
      dsimp only
      rw [if_pos (rfl : r = r)]
      exact ih' _ _ _ _ e3
    rw [if_neg c21]
    clear c21
    by_cases c22 : xs (ix (nI i)) &&& (63 : Int32) = (22 : Int32)
    · obtain ⟨r, S1, U1, e1, e2, e3⟩ := op_bind h (xs (ix (nI i + (1 : Int32)))) (xs (ix (nI i + (2 : Int32))))
      rw [if_pos c22, gd_t, gd_t, e1, sb, gd_t, gd_t, e2, sb]
      dsimp only
      rw [if_pos (rfl : r = r)]
      exact ih' _ _ _ _ e3
    rw [if_neg c22]
    clear c22
    by_cases c23 : xs (ix (nI i)) &&& (63 : Int32) = (23 : Int32)
    · obtain ⟨r, T1, V1, e1, e2⟩ := op_ways h T V 
      rw [if_pos c23, e1, sb, e2, sb]
      dsimp only
      rw [if_pos (rfl : r = r)]
      exact ih' _ _ _ _ h
    rw [if_neg c23]
    clear c23
    by_cases c24 : xs (ix (nI i)) &&& (63 : Int32) = (24 : Int32)
    · obtain ⟨r, T1, V1, e1, e2⟩ := op_whose h T V (xs (ix (nI i + (1 : Int32))))
      rw [if_pos c24, gd_t, e1, sb, gd_t, e2, sb]
      dsimp only
      rw [if_pos (rfl : r = r)]
      exact ih' _ _ _ _ h
    rw [if_neg c24]
    clear c24
    by_cases c25 : xs (ix (nI i)) &&& (63 : Int32) = (25 : Int32)
    · obtain ⟨r, e1, e2⟩ := op_seldom h (xs (ix (nI i + (1 : Int32))))
      rw [if_pos c25, gd_t, e1, sb, gd_t, e2, sb]
      rw [if_pos (rfl : r = r)]
      exact ih' _ _ _ _ h
    rw [if_neg c25]
    clear c25
    by_cases c26 : xs (ix (nI i)) &&& (63 : Int32) = (26 : Int32)
    · obtain ⟨r, e1, e2⟩ := op_lacks h (xs (ix (nI i + (1 : Int32)))) (xs (ix (nI i + (2 : Int32))))
      rw [if_pos c26, gd_t, gd_t, e1, sb, gd_t, gd_t, e2, sb]
      rw [if_pos (rfl : r = r)]
      exact ih' _ _ _ _ h
    rw [if_neg c26]
    clear c26
    by_cases c27 : xs (ix (nI i)) &&& (63 : Int32) = (27 : Int32)
    · obtain ⟨r, S1, U1, e1, e2, e3⟩ := op_wish h (xs (ix (nI i + (1 : Int32)))) (xs (ix (nI i + (2 : Int32))))
      rw [if_pos c27, gd_t, gd_t, e1, sb, gd_t, gd_t, e2, sb]
      dsimp only
      rw [if_pos (rfl : r = r)]
      exact ih' _ _ _ _ e3
    rw [if_neg c27]
    clear c27
    by_cases c28 : xs (ix (nI i)) &&& (63 : Int32) = (28 : Int32)
    · obtain ⟨r, e1, e2⟩ := op_buy h 
      rw [if_pos c28, e1, sb, e2, sb]
      rw [if_pos (rfl : r = r)]
      exact ih' _ _ _ _ h
    rw [if_neg c28]
    clear c28
    by_cases c29 : xs (ix (nI i)) &&& (63 : Int32) = (29 : Int32)
    · obtain ⟨r, S1, T1, U1, e1, e2, e3⟩ := op_marks h T (xs (ix (nI i + (1 : Int32)))) (xs (ix (nI i + (2 : Int32)))) (xs (ix (nI i + (3 : Int32))))
      rw [if_pos c29, gd_t, gd_t, gd_t, e1, sb, gd_t, gd_t, gd_t, e2, sb]
      dsimp only
      rw [if_pos (rfl : r = r)]
      exact ih' _ _ _ _ e3
    rw [if_neg c29]
    clear c29
    by_cases c30 : xs (ix (nI i)) &&& (63 : Int32) = (30 : Int32)
    · obtain ⟨r, S1, U1, e1, e2, e3⟩ := op_image h 
      rw [if_pos c30, e1, sb, e2, sb]
      dsimp only
      rw [if_pos (rfl : r = r)]
      exact ih' _ _ _ _ e3
    rw [if_neg c30]
    clear c30
    by_cases c31 : xs (ix (nI i)) &&& (63 : Int32) = (31 : Int32)
    · obtain ⟨r, S1, U1, e1, e2, e3⟩ := op_restore h 
      rw [if_pos c31, e1, sb, e2, sb]
      dsimp only
      rw [if_pos (rfl : r = r)]
      exact ih' _ _ _ _ e3
    rw [if_neg c31]
    clear c31
    by_cases c32 : xs (ix (nI i)) &&& (63 : Int32) = (32 : Int32)
    · obtain ⟨r, S1, U1, e1, e2, e3⟩ := op_sheet h (xs (ix (nI i + (1 : Int32)))) (xs (ix (nI i + (2 : Int32)))) (xs (ix (nI i + (3 : Int32))))
      rw [if_pos c32, gd_t, gd_t, gd_t, e1, sb, gd_t, gd_t, gd_t, e2, sb]
      dsimp only
      rw [if_pos (rfl : r = r)]
      exact ih' _ _ _ _ e3
    rw [if_neg c32]
    clear c32
    by_cases c33 : xs (ix (nI i)) &&& (63 : Int32) = (33 : Int32)
    · obtain ⟨r, S1, U1, e1, e2, e3⟩ := op_drop h (xs (ix (nI i + (1 : Int32))))
      rw [if_pos c33, gd_t, e1, sb, gd_t, e2, sb]
      dsimp only
      rw [if_pos (rfl : r = r)]
      exact ih' _ _ _ _ e3
    rw [if_neg c33]
    clear c33
    by_cases c34 : xs (ix (nI i)) &&& (63 : Int32) = (34 : Int32)
    · obtain ⟨r, S1, U1, e1, e2, e3⟩ := op_item h (xs (ix (nI i + (1 : Int32)))) (xs (ix (nI i + (2 : Int32)))) (xs (ix (nI i + (3 : Int32)))) (xs (ix (nI i + (4 : Int32))))
      rw [if_pos c34, gd_t, gd_t, gd_t, gd_t, e1, sb, gd_t, gd_t, gd_t, gd_t, e2, sb]
      dsimp only
      rw [if_pos (rfl : r = r)]
      exact ih' _ _ _ _ e3
    rw [if_neg c34]
    clear c34
    exact ih' _ _ _ _ h
theorem hall : ∀ (n : Nat) (xs : Nat → Int32), n ≤ 4096 → ∃ q, f_L_law_18 n xs fu (0 : Int32) S0 T0 S0 T0 = some q ∧ q.1 = 1 := by
  intro n xs hn
  have hF := fu_big
  generalize fu = F at hF ⊢
  exact law_l hn xs F 0 S0 T0 S0 T0 (Nat.zero_le _) (by omega) s0_R
