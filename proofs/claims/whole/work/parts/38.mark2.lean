theorem fT_bit (x k : Nat) : Nat.beq (Nat.land (Nat.shiftRight x k) 1) 1 = x.testBit k := by
  show Nat.beq ((x >>> k) &&& 1) 1 = x.testBit k
  rw [Nat.testBit, Nat.and_comm]
  have h : (1 &&& (x >>> k)) = 0 ∨ (1 &&& (x >>> k)) = 1 := by
    rw [Nat.and_comm, Nat.and_one_is_mod]; omega
  rcases h with h | h <;> rw [h] <;> rfl
theorem ar_bit (t N a i : Nat) : (arN t N a).testBit i = (decide (a < i) && (decide (i < N) && (apT t).testBit (64 * a + i))) := by
  show ((((apT t >>> (64 * a)) % 2 ^ N) >>> (a + 1)) <<< (a + 1)).testBit i = _
  rw [Nat.testBit_shiftLeft]
  by_cases h : a < i
  · rw [Nat.testBit_shiftRight, show a + 1 + (i - (a + 1)) = i by omega, Nat.testBit_mod_two_pow, Nat.testBit_shiftRight]
    simp [h, show i ≥ a + 1 by omega]
  · simp [h, show ¬ i ≥ a + 1 by omega]
theorem ar_se {t N a : Nat} (ht : t < 4) (hN : N ≤ 64) (ha : a < N) : seN (fun b => decide (a < b) && apN t a b) N = arN t N a := by
  apply Nat.eq_of_testBit_eq
  intro i
  rw [se_bit, ar_bit]
  by_cases hi : i < N
  · rw [decide_eq_true hi, ← ap_eq ht (by omega) (show i < 64 by omega)]
    unfold apF
    rw [fT_bit]
    simp
  · simp [hi]
theorem se_lt64 (p : Nat → Bool) {n : Nat} (h : n ≤ 64) : seN p n < 2 ^ 64 := Nat.lt_of_lt_of_le (se_lt p n) (Nat.pow_le_pow_right (by omega) h)
theorem cmp_i {t N a : Nat} (ht : t < 4) (hN : N ≤ 64) (ha : a < N) (ke : SL → Option SL) : ∀ (d m b : Nat) (T : SL), b + d = N → a < b → d < m → T 68 a = lN (seN (fun b => decide (a < b) && apN t a b) b) → ∃ T', f_X7_compare_19 (nI N) (nI t) (nI a) ke m (nI b) T = ke T' ∧ T' 68 a = lN (arN t N a) ∧ ∀ c, c ≠ a → T' 68 c = T 68 c := by
  intro d
  induction d with
  | zero =>
    intro m b T hb hab hm h
    obtain ⟨q, rfl⟩ : ∃ q, m = q + 1 := ⟨m - 1, by omega⟩
    rw [f_X7_compare_19, if_pos (nI_le (by omega) (by omega))]
    refine ⟨T, rfl, ?_, fun _ _ => rfl⟩
    rw [h, show b = N by omega, ar_se ht hN ha]
  | succ d ih =>
    intro m b T hb hab hm h
    obtain ⟨q, rfl⟩ : ∃ q, m = q + 1 := ⟨m - 1, by omega⟩
    have e : seN (fun b => decide (a < b) && apN t a b) (b + 1) = seN (fun b => decide (a < b) && apN t a b) b ||| (if (decide (a < b) && apN t a b) = true then 2 ^ b else 0) := rfl
    rw [decide_eq_true hab, Bool.true_and] at e
    have p1 := pop_le (seN (loB a b) 6)
    have p2 := pop_le (seN (loB b a) 6)
    rw [f_X7_compare_19, if_neg (nI_ge (by omega) (by omega)), lo_set (n := 6) (show a < 2 ^ 6 by omega) (by omega), bc_eq (se_small _ (by omega)), sb, lo_set (n := 6) (show b < 2 ^ 6 by omega) (by omega), bc_eq (se_small _ (by omega)), sb, mx_nI (by omega) (by omega), inBn (show a < 64 by omega) (by omega), gd_t, gd_t, nm_eq, ixn (by omega), nI_1]
    by_cases c : t < max (pop (seN (loB a b) 6)) (pop (seN (loB b a) 6))
    · rw [if_neg (nI_ge c (by omega)), h, show (1 : Int64) = lN 1 from rfl, wb_shl 1 (show b < 64 by omega), fb_orL, Nat.one_mul]
      have ea : apN t a b = true := decide_eq_true c
      rw [ea, if_pos rfl] at e
      obtain ⟨T', a1, a2, a3⟩ := ih q (b + 1) (up2 T 68 a (lN (seN (fun b => decide (a < b) && apN t a b) b ||| 2 ^ b))) (by omega) (by omega) (by omega) (by rw [up2_eq, e])
      exact ⟨T', a1, a2, fun c hc => by rw [a3 c hc, up2_ne _ (by omega)]⟩
    · rw [if_pos (nI_le (by omega) (by omega))]
      have ea : apN t a b = false := decide_eq_false c
      rw [ea, if_neg (by simp), Nat.or_zero] at e
      exact ih q (b + 1) T (by omega) (by omega) (by omega) (by rw [e]; exact h)
theorem cmp_o {t N : Nat} (ht : t < 4) (hN : N ≤ 64) : ∀ (d m a : Nat) (T : SL), a + d = N → d < m → (∀ c, c < a → T 68 c = lN (arN t N c)) → ∃ T', f_X7_compare_2 (nI N) (nI t) m (nI a) T = some T' ∧ ∀ c, c < N → T' 68 c = lN (arN t N c) := by
  intro d
  have hF := fu_big
  induction d with
  | zero =>
    intro m a T ha hm h
    obtain ⟨q, rfl⟩ : ∃ q, m = q + 1 := ⟨m - 1, by omega⟩
    rw [f_X7_compare_2, if_pos (nI_le (by omega) (by omega))]
    exact ⟨T, rfl, fun c hc => h c (by omega)⟩
  | succ d ih =>
    intro m a T ha hm h
    obtain ⟨q, rfl⟩ : ∃ q, m = q + 1 := ⟨m - 1, by omega⟩
    rw [f_X7_compare_2, if_neg (nI_ge (by omega) (by omega)), inBn (show a < 64 by omega) (by omega), gd_t, nm_eq, nm_eq, ixn (by omega), nI_1]
    have hz : ∀ k, k ≤ a + 1 → seN (fun b => decide (a < b) && apN t a b) k = 0 := fun k hk => by
      apply Nat.eq_of_testBit_eq
      intro i
      rw [se_bit, Nat.zero_testBit]
      by_cases h1 : i < k
      · simp [show ¬ a < i by omega]
      · simp [h1]
    obtain ⟨T1, a1, a2, a3⟩ := cmp_i ht hN (a := a) (by omega) (fun To => f_X7_compare_69 To (nI a) (f_X7_compare_2 (nI N) (nI t) q)) (N - (a + 1)) fu (a + 1) (up2 T 68 a 0) (by omega) (by omega) (by omega) (by rw [up2_eq, hz (a + 1) (by omega)]; rfl)
    rw [a1]
    unfold f_X7_compare_69
    rw [nI_1]
    exact ih q (a + 1) T1 (by omega) (by omega) (fun c hc => by
      by_cases e : c = a
      · rw [e]; exact a2
      · rw [a3 c e, up2_ne _ (by omega)]; exact h c (by omega))
theorem cmp_C {t N : Nat} (T : SL) (ht : t < 4) (hN : N ≤ 64) : ∃ T', f_X7_compare T (nI N) (nI t) = some T' ∧ ∀ c, c < N → T' 68 c = lN (arN t N c) := by
  have hF := fu_big
  unfold f_X7_compare
  exact cmp_o ht hN N fu 0 T (by omega) (by omega) (fun c hc => by omega)
/-- the row written from a place on -/
def rwS (S S' : SI) (pl : Nat) (l : List Nat) : Prop := (∀ a k, ¬ (a = 67 ∧ pl ≤ k ∧ k < 5) → S' a k = S a k) ∧ ∀ i (h : i < l.length), S' 67 (pl + i) = nI l[i]
def exO (S : SI) (m pl : Nat) (r : Option (Option (List Nat))) (f : Option (Int32 × SI)) : Prop := match r with
  | none => True
  | some none => ∃ S', f = some (0, S') ∧ ∀ a k, ¬ (a = 67 ∧ pl ≤ k ∧ k < 5) → S' a k = S a k
  | some (some l) => pl + l.length = m ∧ ∃ S', f = some (1, S') ∧ rwS S S' pl l
theorem ex_sim {m t N : Nat} {T : SL} (hm : m ≤ 5) (hN : N ≤ 64) (hT : ∀ c, c < N → T 68 c = lN (arN t N c)) : ∀ (d pl c : Nat) (S : SI), pl ≤ m → c < 2 ^ N → exO S m pl (exN m t N d pl c) (f_X7_extend d S T (nI pl) (nI m) (lN c)) := by
  intro d
  have hF := fu_big
  induction d with
  | zero => intro pl c S _ _; exact trivial
  | succ d ih =>
    intro pl c S hpl hc
    have hp64 : 2 ^ N ≤ 2 ^ 64 := Nat.pow_le_pow_right (by omega) hN
    unfold exN
    rw [f_X7_extend]
    by_cases c1 : m ≤ pl
    · rw [if_pos (Nat.ble_eq_true_of_le c1), if_neg (show ¬ nI pl < nI m by rw [nI_ltI (by omega) (by omega)]; omega)]
      exact ⟨by show pl + 0 = m; omega, S, rfl, fun _ _ _ => rfl, fun i h => absurd h (by simp)⟩
    · rw [if_neg (show ¬ Nat.ble m pl = true from fun e => c1 (Nat.le_of_ble_eq_true e)), if_pos (nI_lt (by omega) (by omega)), pk_sub (show pl ≤ m by omega)]
      cases hbc : f_J13_bitCount_95d88 (lN c) with
      | none => exact trivial
      | some q =>
        rw [sb]
        show exO S m pl (if nI (m - pl) ≤ q then exL t N c (exN m t N d (pl + 1)) 64 0 else some none) _
        by_cases c2 : nI (m - pl) ≤ q
        · rw [if_pos c2, if_pos c2]
          have lp : ∀ (r k fl : Nat) (S2 : SI), k + r = 64 → r < fl → (∀ a e, ¬ (a = 67 ∧ pl ≤ e ∧ e < 5) → S2 a e = S a e) → exO S m pl (exL t N c (exN m t N d (pl + 1)) r k) (f_X7_extend_22 T (nI pl) (nI m) (lN c) (f_X7_extend d) fl (nI k) S2) := by
            intro r
            induction r with
            | zero =>
              intro k fl S2 hk hfl hS
              obtain ⟨w, rfl⟩ : ∃ w, fl = w + 1 := ⟨fl - 1, by omega⟩
              rw [f_X7_extend_22, if_pos (show (64 : Int32) ≤ nI k from nI_le (a := 64) (by omega) (by omega))]
              exact ⟨S2, rfl, hS⟩
            | succ r ihr =>
              intro k fl S2 hk hfl hS
              obtain ⟨w, rfl⟩ : ∃ w, fl = w + 1 := ⟨fl - 1, by omega⟩
              rw [f_X7_extend_22, if_neg (show ¬ (64 : Int32) ≤ nI k from nI_ge (b := 64) (by omega) (by omega)), wb_bit (show c < 2 ^ 64 by omega) (show k < 64 by omega), inBn (show pl < 5 by omega) (by omega), gd_t, nm_eq, inBn (show k < 64 by omega) (by omega), gd_t, ixn (show pl < 2 ^ 31 by omega), ixn (show k < 2 ^ 31 by omega), nI_1, nI_1]
              unfold exL
              rw [fc_eq, fT_bit]
              have hb : c.testBit k = decide (c / 2 ^ k % 2 = 1) := Nat.testBit_eq_decide_div_mod_eq
              have h2 : c / 2 ^ k % 2 < 2 := Nat.mod_lt _ (by omega)
              by_cases c3 : c / 2 ^ k % 2 = 1
              · rw [hb, decide_eq_true c3, if_pos rfl, if_pos (show lN (c / 2 ^ k % 2) = (1 : Int64) by rw [c3]; rfl), fc_eq]
                have hkN : k < N := Classical.byContradiction fun z => by
                  have : c.testBit k = false := Nat.testBit_lt_two_pow (Nat.lt_of_lt_of_le hc (Nat.pow_le_pow_right (by omega) (by omega)))
                  rw [hb, decide_eq_true c3] at this
                  cases this
                rw [hT k hkN, fb_andL]
                have i := ih (pl + 1) (c &&& arN t N k) (up2 S2 67 pl (nI k)) (by omega) (Nat.lt_of_le_of_lt Nat.and_le_left hc)
                show exO S m pl (match exN m t N d (pl + 1) (c &&& arN t N k) with
                  | none => none
                  | some none => exL t N c (exN m t N d (pl + 1)) r (k + 1)
                  | some (some l) => some (some (k :: l))) _
                cases he : exN m t N d (pl + 1) (c &&& arN t N k) with
                | none => exact trivial
                | some o =>
                  rw [he] at i
                  cases o with
                  | none =>
                    obtain ⟨S3, j1, j2⟩ := i
                    rw [j1, sb]
                    simp only [if_true]
                    exact ihr (k + 1) w S3 (by omega) (by omega) (fun a e hae => by rw [j2 a e (by omega), up2_ne _ (by omega)]; exact hS a e hae)
                  | some l =>
                    obtain ⟨j0, S3, j1, j2, j3⟩ := i
                    rw [j1, sb]
                    simp only [show ¬ (1 : Int32) = 0 by decide, if_false]
                    refine ⟨by show pl + (l.length + 1) = m; omega, S3, rfl, fun a e hae => by rw [j2 a e (by omega), up2_ne _ (by omega)]; exact hS a e hae, fun z hz => ?_⟩
                    cases z with
                    | zero =>
                      rw [Nat.add_zero, j2 _ _ (by omega), up2_eq]
                      rfl
                    | succ z =>
                      have := j3 z (by simp at hz; exact hz)
                      rw [show pl + (z + 1) = pl + 1 + z by omega, this]
                      rfl
              · rw [hb, decide_eq_false c3, if_neg (by simp), if_neg (show ¬ lN (c / 2 ^ k % 2) = (1 : Int64) by rw [show (1 : Int64) = lN 1 from rfl, pk_lEQ (by omega) (by omega)]; exact c3)]
                exact ihr (k + 1) w S2 (by omega) (by omega) hS
          exact lp 64 0 fu S (by omega) (by omega) (fun _ _ _ => rfl)
        · rw [if_neg c2, if_neg c2]
          exact ⟨S, rfl, fun _ _ _ => rfl⟩
theorem ful_all : (List.range 6).all (fun n => decide ((((-1 : Int64).toUInt64 >>> (((64 : Int32) - nI (2 ^ (n + 1))).toInt64.toUInt64 &&& Int64.toUInt64 63)).toInt64) = lN (2 ^ 2 ^ (n + 1) - 1))) = true := by decide +kernel
theorem ful_eq {n : Nat} (h : n < 6) : (((-1 : Int64).toUInt64 >>> (((64 : Int32) - nI (2 ^ (n + 1))).toInt64.toUInt64 &&& Int64.toUInt64 63)).toInt64) = lN (2 ^ 2 ^ (n + 1) - 1) := of_decide_eq_true (List.all_eq_true.mp ful_all n (List.mem_range.mpr h))
theorem ex_tab {k n : Nat} (hk : k < 20) (hn : n < 6) (h : (mkT k).1 = 0 ∨ n + 1 ≤ (mkT k).1) : exN (k / 4 + 1) (k % 4) (2 ^ (n + 1)) 41 0 (2 ^ 2 ^ (n + 1) - 1) = some (mkR k (n + 1)) := by
  have h1 := List.all_eq_true.mp (List.all_eq_true.mp exN_all k (List.mem_range.mpr hk)) n (List.mem_range.mpr hn)
  rw [decide_eq_false (by omega), Bool.false_or] at h1
  simpa using h1
theorem od_tab {k n : Nat} (hk : k < 20) (hn : n < 6) (h : (mkT k).1 = 0 ∨ n + 1 ≤ (mkT k).1) : odN (k / 4 + 1) (k % 4) (2 ^ (n + 1)) 30000 [] 0 = some ((mkR k (n + 1)).map List.reverse) := by
  have h1 := List.all_eq_true.mp (List.all_eq_true.mp odN_all k (List.mem_range.mpr hk)) n (List.mem_range.mpr hn)
  rw [decide_eq_false (by omega), Bool.false_or] at h1
  simpa using h1
theorem mk_all : (List.range 20).all (fun k => decide ((mkT k).1 ≤ 6 ∧ ((mkT k).1 ≠ 0 → (mkT k).2.length = k / 4 + 1))) = true := by decide
theorem mk_len {k : Nat} (hk : k < 20) : (mkT k).1 ≤ 6 ∧ ((mkT k).1 ≠ 0 → (mkT k).2.length = k / 4 + 1) := of_decide_eq_true (List.all_eq_true.mp mk_all k (List.mem_range.mpr hk))
/-- how a search ends -/
def ansI (k : Nat) : Int32 := if (mkT k).1 = 0 then -4 else nI (mkT k).1
theorem sea_l {k : Nat} (hk : k < 20) : ∀ (d fl n : Nat) (S : SI) (T : SL), n + d = 7 → 1 ≤ n → d < fl → ((mkT k).1 = 0 ∨ n ≤ (mkT k).1) → ∃ S' T', f_X7_search_2 (nI (k / 4 + 1)) (nI (k % 4)) fl (nI n) S T = some (ansI k, S', T') ∧ (∀ a e, a ≠ 67 → S' a e = S a e) ∧ ((mkT k).1 ≠ 0 → ∀ i (h : i < (mkT k).2.length), S' 67 i = nI (mkT k).2[i]) := by
  intro d
  have hml := mk_len hk
  induction d with
  | zero =>
    intro fl n S T hn h1 hfl h
    obtain ⟨w, rfl⟩ : ∃ w, fl = w + 1 := ⟨fl - 1, by omega⟩
    have h0 : (mkT k).1 = 0 := by omega
    rw [f_X7_search_2, if_pos (show (6 : Int32) < nI n from nI_lt (a := 6) (by omega) (by omega))]
    refine ⟨S, T, ?_, fun _ _ _ => rfl, fun z => absurd h0 z⟩
    unfold ansI
    rw [if_pos h0]
  | succ d ih =>
    intro fl n S T hn h1 hfl h
    obtain ⟨w, rfl⟩ : ∃ w, fl = w + 1 := ⟨fl - 1, by omega⟩
    obtain ⟨q, rfl⟩ : ∃ q, n = q + 1 := ⟨n - 1, by omega⟩
    have hp : 2 ^ (q + 1) ≤ 2 ^ 6 := Nat.pow_le_pow_right (by omega) (by omega)
    have hpp := pow1 (2 ^ (q + 1))
    rw [f_X7_search_2, if_neg (show ¬ (6 : Int32) < nI (q + 1) by rw [lt_toInt, nI_toInt (by omega), show (6 : Int32).toInt = 6 from rfl]; omega), nm_eq, shl1 (by omega)]
    obtain ⟨T1, a1, a2⟩ := cmp_C (t := k % 4) (N := 2 ^ (q + 1)) T (by omega) (by omega)
    rw [a1, sb, ful_eq (by omega)]
    have hs := ex_sim (m := k / 4 + 1) (t := k % 4) (N := 2 ^ (q + 1)) (T := T1) (by omega) (by omega) a2 41 0 (2 ^ 2 ^ (q + 1) - 1) S (by omega) (by omega)
    rw [ex_tab hk (by omega) (by omega)] at hs
    unfold mkR at hs
    by_cases c : q + 1 = (mkT k).1
    · rw [if_pos c] at hs
      obtain ⟨j0, S', j1, j2, j3⟩ := hs
      rw [show (0 : Int32) = nI 0 from rfl, j1, sb]
      simp only [show ¬ (1 : Int32) = nI 0 by decide, if_false]
      refine ⟨S', T1, ?_, fun a e ha => j2 a e (by omega), fun _ i hi => by have := j3 i hi; rw [Nat.zero_add] at this; exact this⟩
      unfold ansI
      rw [if_neg (by omega), c]
    · rw [if_neg c] at hs
      obtain ⟨S', j1, j2⟩ := hs
      rw [show (0 : Int32) = nI 0 from rfl, j1, sb]
      simp only [show (0 : Int32) = nI 0 from rfl, if_true, nI_1]
      obtain ⟨S2, T2, b1, b2, b3⟩ := ih w (q + 1 + 1) S' T1 (by omega) (by omega) (by omega) (by omega)
      exact ⟨S2, T2, b1, fun a e ha => by rw [b2 a e ha, j2 a e (by omega)], b3⟩
