/-- a byte of a word -/
def byN (x k : Nat) : Nat := x / 2 ^ (8 * k) % 256
theorem by_lt (x k : Nat) : byN x k < 256 := Nat.mod_lt _ (by omega)
theorem i8 {k : Nat} : (8 : Int32) * nI k = nI (8 * k) := pk_mul 8 k
theorem byt_C {x k : Nat} (hx : x < 2 ^ 64) (hk : k < 8) : f_X6_byteOf (lN x) (nI k) = some (nI (byN x k)) := by
  unfold f_X6_byteOf
  rw [i8, wb_shr hx (by omega), show (255 : Int64) = lN (2 ^ 8 - 1) from rfl, wb_mask (Nat.lt_of_le_of_lt (Nat.div_le_self _ _) hx) (by omega), lN_i]
  rfl
theorem byt_M {x k : Nat} (hk : k < 8) : (lN x >>> (((8 : Int32) * nI k).toInt64 &&& 63)) &&& (255 : Int64) = lN (byN x k) := by
  rw [i8, wb_c (8 * k) (by omega)]
  apply wb_inj
  rw [Int64.toBitVec_and, Int64.toBitVec_shiftRight, wb_tb, wb_tb, wb_tb, wb_sm (8 * k) (by omega), show (255 : Int64).toBitVec = BitVec.ofNat 64 255 from rfl]
  apply BitVec.eq_of_getLsbD_eq
  intro i hi
  have h64 : (BitVec.ofNat 64 (8 * k)).toNat = 8 * k := by rw [BitVec.toNat_ofNat]; omega
  rw [BitVec.getLsbD_and, BitVec.sshiftRight_eq', h64, BitVec.getLsbD_sshiftRight, BitVec.getLsbD_ofNat, BitVec.getLsbD_ofNat, BitVec.getLsbD_ofNat, show (255 : Nat) = 2 ^ 8 - 1 from rfl, Nat.testBit_two_pow_sub_one]
  unfold byN
  rw [show (256 : Nat) = 2 ^ 8 from rfl, Nat.testBit_mod_two_pow, Nat.testBit_div_two_pow]
  by_cases c : i < 8
  · rw [if_pos (by omega)]
    simp [hi, c, show 8 * k + i < 64 by omega, show i + 8 * k < 64 by omega, show ¬ 64 ≤ i by omega, Nat.add_comm]
  · simp [c]
def okB (x k : Nat) : Bool := decide (32 ≤ byN x k) && decide (byN x k ≤ 126)
theorem chk_C {S : SI} {x n : Nat} (hx : x < 2 ^ 64) (hn : n ≤ 8) (ke : Option (Int32 × SI)) : ∀ (d m k : Nat), k + d = n → d < m → f_X6_append_16 S (lN x) (nI n) ke m (nI k) = if alB (okB x) k d = true then ke else some (-1, S) := by
  intro d
  induction d with
  | zero =>
    intro m k hk hm
    obtain ⟨q, rfl⟩ : ∃ q, m = q + 1 := ⟨m - 1, by omega⟩
    rw [f_X6_append_16, if_pos (nI_le (by omega) (by omega))]
    rfl
  | succ d ih =>
    intro m k hk hm
    obtain ⟨q, rfl⟩ : ∃ q, m = q + 1 := ⟨m - 1, by omega⟩
    have hb := by_lt x k
    rw [f_X6_append_16, if_neg (nI_ge (by omega) (by omega)), byt_C hx (by omega), sb, nI_1, ih q (k + 1) (by omega) (by omega)]
    show _ = if (okB x k && alB (okB x) (k + 1) d) = true then ke else some (-1, S)
    unfold okB
    by_cases c1 : byN x k < 32
    · rw [if_pos (show nI (byN x k) < (32 : Int32) from nI_lt (b := 32) c1 (by omega)), decide_eq_false (show ¬ 32 ≤ byN x k by omega)]
      simp
    · rw [if_neg (show ¬ nI (byN x k) < (32 : Int32) by rw [lt_toInt, nI_toInt (by omega), show (32 : Int32).toInt = 32 from rfl]; omega), decide_eq_true (show 32 ≤ byN x k by omega)]
      by_cases c2 : byN x k ≤ 126
      · rw [if_pos (show nI (byN x k) ≤ (126 : Int32) from nI_le (b := 126) c2 (by omega)), decide_eq_true c2]
        simp
      · rw [if_neg (show ¬ nI (byN x k) ≤ (126 : Int32) by rw [le_toInt, nI_toInt (by omega), show (126 : Int32).toInt = 126 from rfl]; omega), decide_eq_false c2]
        simp
theorem chk_M {U : SI} {x : Nat} (ke : Option (Int32 × SI)) : ∀ (k m : Nat), k ≤ 8 → k < m → f_X10_type_19 U (lN x) ke m (nI k - 1) = if (∀ i, i < k → okB x i = true) then ke else some (-1, U) := by
  intro k
  induction k with
  | zero =>
    intro m _ hm
    obtain ⟨q, rfl⟩ : ∃ q, m = q + 1 := ⟨m - 1, by omega⟩
    rw [f_X10_type_19, if_pos (show nI 0 - 1 < (0 : Int32) by decide), if_pos (fun i hi => by omega)]
  | succ k ih =>
    intro m hk hm
    obtain ⟨q, rfl⟩ : ∃ q, m = q + 1 := ⟨m - 1, by omega⟩
    have hb := by_lt x k
    rw [f_X10_type_19, nI_pred, if_neg (show ¬ nI k < (0 : Int32) from nI_pos (by omega)), byt_M (by omega), in_gen, sb, show nI k + (-1 : Int32) = nI k - 1 by rw [Int32.sub_eq_add_neg], ih q (by omega) (by omega), pk_lT (by omega), show (32 : Int64).toInt = 32 from rfl, show (126 : Int64).toInt = 126 from rfl]
    by_cases c : (32 : Int) ≤ (byN x k : Int) ∧ (byN x k : Int) ≤ 126
    · have hok : okB x k = true := by unfold okB; rw [decide_eq_true (by omega), decide_eq_true (by omega)]; rfl
      rw [if_pos c, if_neg (show ¬ nI 1 = (0 : Int32) by decide)]
      by_cases c2 : ∀ i, i < k → okB x i = true
      · rw [if_pos c2, if_pos (fun i hi => by
          by_cases e : i = k
          · rw [e]; exact hok
          · exact c2 i (by omega))]
      · rw [if_neg c2, if_neg (fun z => c2 (fun i hi => z i (by omega)))]
    · rw [if_neg c, if_pos (show nI 0 = (0 : Int32) from rfl), if_neg (fun z => c (by
        have := z k (by omega)
        unfold okB at this
        simp at this
        omega))]
theorem app_l {x : Nat} (hx : x < 2 ^ 64) : ∀ (k m t : Nat) (S U : SI), k ≤ 8 → t + k ≤ 80 → k < m → S 41 1 = nI t → U 78 2 = nI t → (∀ j, j < t → S 42 j = U 80 j ∧ ∃ c, 32 ≤ c ∧ c ≤ 126 ∧ U 80 j = nI c) → (∀ i, i < k → okB x i = true) → ∃ S' U', f_X6_append_71 (lN x) m (nI k - 1) S = some (nI (t + k), S') ∧ f_X10_type_74 (lN x) m (nI k - 1) U = some (nI (t + k), U') ∧ tpR S' U' ∧ (∀ a e, ¬ ((a = 41 ∧ e = 1) ∨ a = 42) → S' a e = S a e) ∧ (∀ a e, ¬ ((a = 78 ∧ e = 2) ∨ a = 80) → U' a e = U a e) := by
  intro k
  induction k with
  | zero =>
    intro m t S U _ ht hm h1 h2 h3 h4
    obtain ⟨q, rfl⟩ : ∃ q, m = q + 1 := ⟨m - 1, by omega⟩
    rw [f_X6_append_71, f_X10_type_74, if_pos (show nI 0 - 1 < (0 : Int32) by decide), if_pos (show nI 0 - 1 < (0 : Int32) by decide), h1, h2]
    exact ⟨S, U, rfl, rfl, ⟨t, by omega, h1, h2, h3⟩, fun _ _ _ => rfl, fun _ _ _ => rfl⟩
  | succ k ih =>
    intro m t S U hk ht hm h1 h2 h3 h4
    obtain ⟨q, rfl⟩ : ∃ q, m = q + 1 := ⟨m - 1, by omega⟩
    have hok := h4 k (by omega)
    unfold okB at hok
    simp at hok
    rw [f_X6_append_71, f_X10_type_74, nI_pred, if_neg (show ¬ nI k < (0 : Int32) from nI_pos (by omega)), if_neg (show ¬ nI k < (0 : Int32) from nI_pos (by omega)), byt_C hx (by omega), byt_M (by omega), sb, h1, h2, inBn (show t < 80 by omega) (by omega), gd_t, gd_t, nm_eq, nm_eq, nm_eq, nm_eq, ixn (by omega), up2_ne _ (by omega), up2_ne _ (by omega), h1, h2, nI_1, lN_i, show nI k + (-1 : Int32) = nI k - 1 by rw [Int32.sub_eq_add_neg]]
    obtain ⟨S', U', a1, a2, a3, a4, a5⟩ := ih q (t + 1) (up2 (up2 S 42 t (nI (byN x k))) 41 1 (nI (t + 1))) (up2 (up2 U 80 t (nI (byN x k))) 78 2 (nI (t + 1))) (by omega) (by omega) (by omega) (up2_eq _ _ _ _) (up2_eq _ _ _ _) (fun j hj => by
      have e1 : up2 (up2 S 42 t (nI (byN x k))) 41 1 (nI (t + 1)) 42 j = up2 S 42 t (nI (byN x k)) 42 j := up2_ne _ (by omega)
      have e2 : up2 (up2 U 80 t (nI (byN x k))) 78 2 (nI (t + 1)) 80 j = up2 U 80 t (nI (byN x k)) 80 j := up2_ne _ (by omega)
      rw [e1, e2]
      by_cases e : j = t
      · rw [e, up2_eq, up2_eq]
        exact ⟨rfl, byN x k, hok.1, hok.2, rfl⟩
      · rw [up2_ne _ (by omega), up2_ne _ (by omega)]
        exact h3 j (by omega)) (fun i hi => h4 i (by omega))
    rw [show t + 1 + k = t + (k + 1) by omega] at a1 a2
    exact ⟨S', U', a1, a2, a3, fun a e he => by rw [a4 a e he, up2_ne _ (by omega), up2_ne _ (by omega)], fun a e he => by rw [a5 a e he, up2_ne _ (by omega), up2_ne _ (by omega)]⟩
theorem op_type {P : Nat → Int32 → (Nat → Int32) → Prop} {S U : SI} (h : RR P S U) (v1 : Int64) (v3 : Int32) : ∃ (r : Int32) (S1 U1 : SI), f_X9_type S v1 v3 = some (r, S1) ∧ f_X10_type U v1 v3 = some (r, U1) ∧ RR P S1 U1 := by
  have hF := fu_big
  obtain ⟨x, hx, rfl⟩ := wb_of v1
  unfold f_X9_type f_X10_type f_X6_append
  rw [in_gen, sb]
  simp only [wide, lt_toInt, le_toInt, show (1 : Int32).toInt = 1 from rfl, show (8 : Int32).toInt = 8 from rfl, show (1 : Int64).toInt = 1 from rfl, show (8 : Int64).toInt = 8 from rfl]
  by_cases c1 : v3.toInt < 1
  · rw [if_pos c1, if_neg (show ¬ (1 ≤ v3.toInt ∧ v3.toInt ≤ 8) by omega), if_pos (show nI 0 = (0 : Int32) from rfl), sb]
    exact ⟨_, _, _, rfl, rfl, h⟩
  · rw [if_neg c1]
    by_cases c2 : v3.toInt ≤ 8
    · rw [if_pos c2, if_pos (show (1 ≤ v3.toInt ∧ v3.toInt ≤ 8) by omega), if_neg (show ¬ nI 1 = (0 : Int32) by decide)]
      obtain ⟨n, hn, rfl⟩ := inB_of (v := v3) (n := 9) (decide_eq_true (by omega)) (by omega)
      have hn8 : n ≤ 8 := by omega
      rw [nm_eq, show (0 : Int32) = nI 0 from rfl, chk_C hx hn8 _ n fu 0 (by omega) (by omega), chk_M _ n fu hn8 (by omega)]
      by_cases c3 : ∀ i, i < n → okB x i = true
      · rw [if_pos c3, if_pos ((alB_iff _ _ _).mpr (fun i _ hi => c3 i (by omega)))]
        unfold f_X6_append_52 f_X10_type_55
        obtain ⟨t, t1, t2, t3, t4⟩ := h.2.2.1
        rw [t2, t3, nI_add, nm_eq, nm_eq]
        by_cases c4 : t + n ≤ 80
        · rw [if_pos (show nI (t + n) ≤ (80 : Int32) from nI_le (b := 80) c4 (by omega)), if_pos (show nI (t + n) ≤ (80 : Int32) from nI_le (b := 80) c4 (by omega))]
          obtain ⟨S', U', a1, a2, a3, a4, a5⟩ := app_l hx n fu t S U hn8 c4 (by omega) t2 t3 t4 c3
          rw [a1, a2, sb]
          refine ⟨_, _, _, rfl, rfl, ?_⟩
          obtain ⟨⟨A, hV, hC, hM⟩, hi, -, hs, hk⟩ := h
          refine ⟨⟨A, hV, hC.cg (fun a e _ _ => a4 _ _ (by omega)) hV.1.1, ?_⟩, hi.cg (a4 _ _ (by omega)) (a5 _ _ (by omega)) (fun a e _ _ => a4 _ _ (by omega)) (funext fun e => a5 _ _ (by omega)), a3, hs.cg (fun a e _ _ => a4 _ _ (by omega)) (funext fun e => a5 _ _ (by omega)) (funext fun e => a5 _ _ (by omega)) (funext fun e => a5 _ _ (by omega)), hk.cg (funext fun e => a4 _ _ (by omega)) (funext fun e => a4 _ _ (by omega))⟩
          show HM (U' 79) A
          rw [show U' 79 = U 79 from funext fun e => a5 _ _ (by omega)]
          exact hM
        · rw [if_neg (show ¬ nI (t + n) ≤ (80 : Int32) by rw [le_toInt, nI_toInt (by omega), show (80 : Int32).toInt = 80 from rfl]; omega), if_neg (show ¬ nI (t + n) ≤ (80 : Int32) by rw [le_toInt, nI_toInt (by omega), show (80 : Int32).toInt = 80 from rfl]; omega), sb]
          exact ⟨_, _, _, rfl, rfl, h⟩
      · rw [if_neg c3, if_neg (fun z => c3 (fun i hi => (alB_iff _ _ _).mp z i (by omega) (by omega))), sb]
        exact ⟨_, _, _, rfl, rfl, h⟩
    · rw [if_neg c2, if_neg (show ¬ (1 ≤ v3.toInt ∧ v3.toInt ≤ 8) by omega), if_pos (show nI 0 = (0 : Int32) from rfl), sb]
      exact ⟨_, _, _, rfl, rfl, h⟩
