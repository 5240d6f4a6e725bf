/-- the set of those below n that have a property, as bits -/
def seN (p : Nat → Bool) : Nat → Nat
  | 0 => 0
  | n + 1 => seN p n ||| (if p n = true then 2 ^ n else 0)
theorem se_bit (p : Nat → Bool) (i : Nat) : ∀ n, (seN p n).testBit i = (decide (i < n) && p i)
  | 0 => by simp [seN]
  | n + 1 => by
    unfold seN
    rw [Nat.testBit_or, se_bit p i n]
    by_cases h : i = n
    · subst h
      cases hp : p i <;> simp [hp]
    · have e : (if p n = true then 2 ^ n else 0).testBit i = false := by
        split
        · rw [Nat.testBit_two_pow]; simp; omega
        · simp
      rw [e]
      by_cases h2 : i < n
      · simp [h2, show i < n + 1 by omega]
      · simp [h2, show ¬ i < n + 1 by omega]
theorem se_lt (p : Nat → Bool) (n : Nat) : seN p n < 2 ^ n := by
  apply Nat.lt_pow_two_of_testBit
  intro i hi
  rw [se_bit]
  simp
  omega
theorem se_small (p : Nat → Bool) {n : Nat} (h : n ≤ 12) : seN p n < 4096 :=
  Nat.lt_of_lt_of_le (se_lt p n) (Nat.pow_le_pow_right (by omega) h : 2 ^ n ≤ 2 ^ 12)
theorem pop_le (x : Nat) : pop x ≤ 12 := fb_ct_le _ 12
theorem pop_se (p : Nat → Bool) {n : Nat} (h : n ≤ 12) : pop (seN p n) = fb_ct p n := by
  unfold pop
  have e : ∀ k, n + k = 12 → fb_ct (fun i => (seN p n).testBit i) 12 = fb_ct p n := by
    intro k hk
    rw [← hk, fb_ct_split]
    have e1 : fb_ct (fun i => (seN p n).testBit i) n = fb_ct p n := fb_ct_cong (fun i hi => by rw [se_bit]; simp [hi])
    have e2 : fb_ct (fun i => (seN p n).testBit (n + i)) k = 0 := fb_ct_zero.mpr (fun i hi => by rw [se_bit, decide_eq_false (by omega)]; rfl)
    rw [e1, e2]
    omega
  exact e (12 - n) (by omega)
theorem pop_and (p q : Nat → Bool) {n : Nat} (h : n ≤ 12) : pop (seN p n &&& seN q n) = fb_ct (fun i => p i && q i) n := by
  rw [← pop_se (fun i => p i && q i) h]
  congr 1
  apply Nat.eq_of_testBit_eq
  intro i
  rw [Nat.testBit_and, se_bit, se_bit, se_bit]
  cases decide (i < n) <;> simp
theorem se_and (p q : Nat → Bool) (n : Nat) : seN p n &&& seN q n = seN (fun i => p i && q i) n := by
  apply Nat.eq_of_testBit_eq
  intro i
  rw [Nat.testBit_and, se_bit, se_bit, se_bit]
  cases decide (i < n) <;> simp
theorem ones_l : ∀ (m x c : Nat), x < 4096 → pop x < m → f_X10_ones_4 m (nI c) (nI x) = some (nI (c + pop x)) := by
  intro m
  induction m with
  | zero => intro x c hx hm; omega
  | succ m ih =>
    intro x c hx hm
    rw [f_X10_ones_4]
    by_cases h0 : x = 0
    · subst h0
      have e : pop 0 = 0 := by decide
      rw [if_pos (show nI 0 = (0 : Int32) from rfl), e]
      rfl
    · have e0 : ¬ nI x = 0 := nI_ne0 (by omega) (by omega)
      have e1 : nI x - (1 : Int32) = nI (x - 1) := pk_sub (b := 1) (by omega)
      have h2 := low_eq hx h0
      rw [if_neg e0, nm_eq, e1, nx_and, nI_1, ih (x &&& (x - 1)) (c + 1) (Nat.lt_of_le_of_lt Nat.and_le_left hx) (by omega)]
      congr 2
      omega
theorem ones_eq {x : Nat} (h : x < 4096) : f_X10_ones (nI x) = some (nI (pop x)) := by
  unfold f_X10_ones
  have e := ones_l fu x 0 h (by have := pop_le x; have := fu_big; omega)
  rw [Nat.zero_add] at e
  exact e
theorem shl1 {k : Nat} (h : k < 31) : (1 : Int32) <<< (nI k &&& 31) = nI (2 ^ k) := by
  have := pk_shlN (n := 1) (nI k &&& 31) k (smod_i (by omega)) (by rw [Nat.one_mul]; exact Nat.pow_lt_pow_right (by omega) (by omega))
  rw [Nat.one_mul] at this
  exact this
/-- which of a SOCK's numbers a trait is -/
theorem trait_C {S : SI} {A : VW} {i : Nat} (hg : skC (S (9 + i)) A i) {t : Nat} (ht : t = 0 ∨ t = 1 ∨ t = 4) : f_X5_trait S (9 + i) (nI t) = some (nI (A (10 + t) i)) := by
  obtain ⟨g0, g1, g2, g3, g4, g5, g6, g7, g8⟩ := hg
  unfold f_X5_trait
  rcases ht with rfl | rfl | rfl
  · show some (S (9 + i) 0) = _
    rw [g0]
  · show some (S (9 + i) 1) = _
    rw [g1]
  · show some (S (9 + i) 4) = _
    rw [g4]
theorem nI_beq {a b : Nat} (ha : a < 2 ^ 31) (hb : b < 2 ^ 31) : (nI a = nI b) = ((a == b) = true) := by
  rw [nI_eq ha hb]
  simp
theorem hav_l {S : SI} {A : VW} (hV : HV A) (hC : HC S 1 A) {t v : Nat} (ht : t = 0 ∨ t = 1 ∨ t = 4) (hv : v < 100) : ∀ (d m k : Nat), k + d = A 0 0 → d < m → f_X1_having_5 S (nI t) (nI v) m (nI (seN (fun i => A (10 + t) i == v) k)) (nI k) = some (nI (seN (fun i => A (10 + t) i == v) (A 0 0))) := by
  intro d
  have hn := hV.1.1
  induction d with
  | zero =>
    intro m k hk hm
    obtain ⟨q, rfl⟩ : ∃ q, m = q + 1 := ⟨m - 1, by omega⟩
    rw [f_X1_having_5, hC.1.1, if_pos (nI_le (by omega) (by omega)), show k = A 0 0 by omega]
  | succ d ih =>
    intro m k hk hm
    obtain ⟨q, rfl⟩ : ∃ q, m = q + 1 := ⟨m - 1, by omega⟩
    have hkn : k < A 0 0 := by omega
    have hb : A (10 + t) k < 100 := by
      have g := hV.2.2.2 k hkn
      unfold skV at g
      rcases ht with rfl | rfl | rfl
      · show A 10 k < 100; omega
      · show A 11 k < 100; omega
      · show A 14 k < 100; omega
    rw [f_X1_having_5, hC.1.1, if_neg (nI_ge (by omega) (by omega)), inBn (show k < 12 by omega) (by omega), gd_t, ixn (by omega), trait_C (hC.2.2.2 k hkn) ht, sb]
    simp only [nm_eq, nI_1, shl1 (show k < 31 by omega), fa_or]
    have e : seN (fun i => A (10 + t) i == v) (k + 1) = seN (fun i => A (10 + t) i == v) k ||| (if (A (10 + t) k == v) = true then 2 ^ k else 0) := rfl
    by_cases h : A (10 + t) k = v
    · rw [if_pos (by rw [h])]
      have := ih q (k + 1) (by omega) (by omega)
      rw [e, if_pos (by simp [h])] at this
      exact this
    · rw [if_neg (by rw [nI_eq (by omega) (by omega)]; exact h)]
      have := ih q (k + 1) (by omega) (by omega)
      rw [e, if_neg (by simp [h]), Nat.or_zero] at this
      exact this
theorem hav_C {S : SI} {A : VW} (hV : HV A) (hC : HC S 1 A) {t v : Nat} (ht : t = 0 ∨ t = 1 ∨ t = 4) (hv : v < 100) : f_X1_having S (nI t) (nI v) = some (nI (seN (fun i => A (10 + t) i == v) (A 0 0))) := by
  unfold f_X1_having
  exact hav_l hV hC ht hv (A 0 0) fu 0 (by omega) (by have := fu_big; have := hV.1.1; omega)
theorem plc_C {S : SI} {A : VW} (hV : HV A) (hC : HC S 1 A) {v : Nat} (hv : v < 100) : f_X1_placed S (nI v) = some (nI (seN (fun i => A 14 i == v) (A 0 0))) := by
  unfold f_X1_placed
  rw [show (4 : Int32) = nI 4 from rfl, hav_C hV hC (t := 4) (by omega) hv, sb]
theorem plc_l {U : SI} {A : VW} (hV : HV A) (hM : HM (U 79) A) {v : Nat} (hv : v < 100) : ∀ (d m k : Nat), k + d = A 0 0 → d < m → f_X10_inPlace_4 U (nI v) m (nI (seN (fun i => A 14 i == v) k)) (nI k) = some (nI (seN (fun i => A 14 i == v) (A 0 0))) := by
  intro d
  have hn := hV.1.1
  induction d with
  | zero =>
    intro m k hk hm
    obtain ⟨q, rfl⟩ : ∃ q, m = q + 1 := ⟨m - 1, by omega⟩
    rw [f_X10_inPlace_4, show inB (0 : Int32) 205 = true from rfl, gd_t, show ix (0 : Int32) = 0 from rfl, hM.1.1, if_pos (nI_le (by omega) (by omega)), show k = A 0 0 by omega]
  | succ d ih =>
    intro m k hk hm
    obtain ⟨q, rfl⟩ : ∃ q, m = q + 1 := ⟨m - 1, by omega⟩
    have hkn : k < A 0 0 := by omega
    have hb : A 14 k < 3 := (hV.2.2.2 k hkn).2.1.1
    have g4 : U 79 (13 + 10 * k + 4) = nI (A 14 k) := (hM.2.2.2 k hkn).2.2.2.2.1
    rw [f_X10_inPlace_4, show inB (0 : Int32) 205 = true from rfl, gd_t, show ix (0 : Int32) = 0 from rfl, hM.1.1, if_neg (nI_ge (by omega) (by omega)), of4 (by omega), sb, g4]
    unfold f_X10_inPlace_32
    simp only [nm_eq, nI_1, shl1 (show k < 31 by omega), show (0 : Int32) = nI 0 from rfl, fa_or, Nat.or_zero]
    have e : seN (fun i => A 14 i == v) (k + 1) = seN (fun i => A 14 i == v) k ||| (if (A 14 k == v) = true then 2 ^ k else 0) := rfl
    by_cases h : A 14 k = v
    · rw [if_pos (by rw [h])]
      have := ih q (k + 1) (by omega) (by omega)
      rw [e, if_pos (by simp [h])] at this
      exact this
    · rw [if_neg (by rw [nI_eq (by omega) (by omega)]; exact h)]
      have := ih q (k + 1) (by omega) (by omega)
      rw [e, if_neg (by simp [h]), Nat.or_zero] at this
      exact this
theorem plc_M {U : SI} {A : VW} (hV : HV A) (hM : HM (U 79) A) {v : Nat} (hv : v < 100) : f_X10_inPlace U (nI v) = some (nI (seN (fun i => A 14 i == v) (A 0 0))) := by
  unfold f_X10_inPlace
  exact plc_l hV hM hv (A 0 0) fu 0 (by omega) (by have := fu_big; have := hV.1.1; omega)
theorem lof_l {U : SI} {A : VW} (hV : HV A) (hM : HM (U 79) A) : ∀ (d m k : Nat), k + d = A 0 0 → d < m → f_X10_lostOf_5 U (-4) (nI 0) m (nI (fb_ct (fun i => A 14 i == 1 && A 11 i == 0) k)) (nI k) = some (nI (fb_ct (fun i => A 14 i == 1 && A 11 i == 0) (A 0 0))) := by
  intro d
  have hn := hV.1.1
  induction d with
  | zero =>
    intro m k hk hm
    obtain ⟨q, rfl⟩ : ∃ q, m = q + 1 := ⟨m - 1, by omega⟩
    rw [f_X10_lostOf_5, show inB (0 : Int32) 205 = true from rfl, gd_t, show ix (0 : Int32) = 0 from rfl, hM.1.1, if_pos (nI_le (by omega) (by omega)), show k = A 0 0 by omega]
  | succ d ih =>
    intro m k hk hm
    obtain ⟨q, rfl⟩ : ∃ q, m = q + 1 := ⟨m - 1, by omega⟩
    have hkn : k < A 0 0 := by omega
    have hv := hV.2.2.2 k hkn
    have hb : A 14 k < 3 := hv.2.1.1
    have hb2 : A 11 k < 2 := hv.1.2.1
    have g4 : U 79 (13 + 10 * k + 4) = nI (A 14 k) := (hM.2.2.2 k hkn).2.2.2.2.1
    have g1 : U 79 (13 + 10 * k + 1) = nI (A 11 k) := (hM.2.2.2 k hkn).2.1
    rw [f_X10_lostOf_5, show inB (0 : Int32) 205 = true from rfl, gd_t, show ix (0 : Int32) = 0 from rfl, hM.1.1, if_neg (nI_ge (by omega) (by omega)), of4 (by omega), sb, g4, of1 (by omega), sb, g1]
    unfold f_X10_lostOf_59
    rw [if_pos (show (-4 : Int32) < 0 by decide)]
    simp only [nm_eq, nI_1, show (0 : Int32) = nI 0 from rfl, show (1 : Int32) = nI 1 from rfl, nI_add, Nat.add_zero]
    have e : fb_ct (fun i => A 14 i == 1 && A 11 i == 0) (k + 1) = fb_ct (fun i => A 14 i == 1 && A 11 i == 0) k + (if (A 14 k == 1 && A 11 k == 0) = true then 1 else 0) := rfl
    have := ih q (k + 1) (by omega) (by omega)
    by_cases h : A 14 k = 1
    · rw [if_pos (by rw [h])]
      by_cases h2 : A 11 k = 0
      · rw [if_pos (by rw [h2])]
        rw [e, if_pos (by simp [h, h2])] at this
        exact this
      · rw [if_neg (by rw [nI_eq (by omega) (by omega)]; exact h2)]
        rw [e, if_neg (by simp [h2])] at this
        exact this
    · rw [if_neg (by rw [nI_eq (by omega) (by omega)]; exact h)]
      rw [e, if_neg (by simp [h])] at this
      exact this
theorem lof_M {U : SI} {A : VW} (hV : HV A) (hM : HM (U 79) A) : f_X10_lostOf U (-4) 0 = some (nI (fb_ct (fun i => A 14 i == 1 && A 11 i == 0) (A 0 0))) := by
  unfold f_X10_lostOf
  exact lof_l hV hM (A 0 0) fu 0 (by omega) (by have := fu_big; have := hV.1.1; omega)
theorem op_count {P : Nat → Int32 → (Nat → Int32) → Prop} {S U : SI} (h : RR P S U) (v1 : Int32) : ∃ r : Int32, f_X9_count S v1 = some r ∧ f_X10_count U v1 = some r := by
  obtain ⟨A, hV, hC, hM⟩ := h.1
  have hn := hV.1.1
  unfold f_X9_count f_X10_count
  have c0 := plc_C hV hC (v := 0) (by omega)
  have c1 := plc_C hV hC (v := 1) (by omega)
  have c2 := plc_C hV hC (v := 2) (by omega)
  have m0 := plc_M hV hM (v := 0) (by omega)
  have m1 := plc_M hV hM (v := 1) (by omega)
  have m2 := plc_M hV hM (v := 2) (by omega)
  have ch := hav_C hV hC (t := 1) (v := 0) (by omega) (by omega)
  by_cases h0 : v1 = 0
  · subst h0
    exact ⟨nI (A 0 0), by rw [if_pos rfl, hC.1.1], by rw [if_pos rfl]; exact congrArg some hM.1.1⟩
  · rw [if_neg h0, if_neg h0]
    by_cases h1 : v1 = 1
    · subst h1
      rw [if_pos rfl, if_pos rfl, show (1 : Int32) - 1 = nI 0 from rfl, show (0 : Int32) = nI 0 from rfl, c0, m0]
      simp only [sb, bc_eq (se_small _ hn), ones_eq (se_small _ hn)]
      exact ⟨_, rfl, rfl⟩
    · rw [if_neg h1, if_neg h1]
      by_cases h2 : v1 = 2
      · subst h2
        rw [if_pos rfl, if_pos rfl, show (2 : Int32) - 1 = nI 1 from rfl, show (1 : Int32) = nI 1 from rfl, c1, m1]
        simp only [sb, bc_eq (se_small _ hn), ones_eq (se_small _ hn)]
        exact ⟨_, rfl, rfl⟩
      · rw [if_neg h2, if_neg h2]
        by_cases h3 : v1 = 3
        · subst h3
          rw [if_pos rfl, if_pos rfl, show (3 : Int32) - 1 = nI 2 from rfl, show (2 : Int32) = nI 2 from rfl, c2, m2]
          simp only [sb, bc_eq (se_small _ hn), ones_eq (se_small _ hn)]
          exact ⟨_, rfl, rfl⟩
        · rw [if_neg h3, if_neg h3]
          by_cases h4 : v1 = 4
          · subst h4
            exact ⟨nI (A 0 1), by rw [if_pos rfl, hC.1.2.1], by rw [if_pos rfl]; exact congrArg some hM.1.2.1⟩
          · rw [if_neg h4, if_neg h4]
            by_cases h5 : v1 = 5
            · subst h5
              rw [if_pos rfl, if_pos rfl, lof_M hV hM, show (1 : Int32) = nI 1 from rfl, show (0 : Int32) = nI 0 from rfl, c1, ch]
              simp only [sb, nx_and, se_and]
              rw [bc_eq (se_small _ hn), sb, pop_se _ hn]
              exact ⟨_, rfl, rfl⟩
            · rw [if_neg h5, if_neg h5]
              exact ⟨_, rfl, rfl⟩
