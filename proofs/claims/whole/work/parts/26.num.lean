/-- sums -/
def smN (f : Nat → Nat) : Nat → Nat
  | 0 => 0
  | n + 1 => smN f n + f n
theorem smN_cg {f g : Nat → Nat} : ∀ n, (∀ i, i < n → f i = g i) → smN f n = smN g n
  | 0, _ => rfl
  | n + 1, h => by
    unfold smN
    rw [smN_cg n (fun i hi => h i (by omega)), h n (by omega)]
theorem smN_le {f g : Nat → Nat} : ∀ n, (∀ i, i < n → f i ≤ g i) → smN f n ≤ smN g n
  | 0, _ => Nat.le_refl _
  | n + 1, h => by
    unfold smN
    have h1 := smN_le n (fun i hi => h i (by omega))
    have h2 := h n (by omega)
    omega
theorem smN_pos {f : Nat → Nat} : ∀ n, 0 < smN f n ↔ ∃ i, i < n ∧ 0 < f i
  | 0 => ⟨fun h => absurd (show 0 < 0 from h) (by omega), fun ⟨_, h, _⟩ => by omega⟩
  | n + 1 => by
    unfold smN
    constructor
    · intro h
      by_cases h2 : 0 < smN f n
      · obtain ⟨i, h3, h4⟩ := (smN_pos n).mp h2
        exact ⟨i, by omega, h4⟩
      · exact ⟨n, by omega, by omega⟩
    · intro ⟨i, h3, h4⟩
      by_cases e : i = n
      · subst e; omega
      · have := (smN_pos n).mpr ⟨i, by omega, h4⟩
        omega
theorem smN_add {f g : Nat → Nat} : ∀ n, smN (fun i => f i + g i) n = smN f n + smN g n
  | 0 => rfl
  | n + 1 => by
    unfold smN
    rw [smN_add n]
    omega
theorem gcd_M : ∀ (e a b m : Nat), a < 2 ^ 63 → b < 2 ^ e → e ≤ 63 → 2 * e < m → f_X10_common_6 m (lN a) (lN b) = some (lN (Nat.gcd b a)) := by
  intro e
  induction e with
  | zero =>
    intro a b m ha hb he hm
    obtain ⟨q, rfl⟩ : ∃ q, m = q + 1 := ⟨m - 1, by omega⟩
    have : b = 0 := by simp at hb; exact hb
    subst this
    rw [f_X10_common_6, if_pos (show lN 0 = (0 : Int64) from rfl), Nat.gcd_zero_left]
  | succ e ih =>
    intro a b m ha hb he hm
    obtain ⟨q, rfl⟩ : ∃ q, m = q + 2 := ⟨m - 2, by omega⟩
    have hp : 2 ^ (e + 1) ≤ 2 ^ 63 := Nat.pow_le_pow_right (by omega) he
    have hb63 : b < 2 ^ 63 := by omega
    rw [f_X10_common_6]
    by_cases h0 : b = 0
    · subst h0
      rw [if_pos (show lN 0 = (0 : Int64) from rfl), Nat.gcd_zero_left]
    · have e0 : ¬ lN b = (0 : Int64) := by rw [show (0 : Int64) = lN 0 from rfl, pk_lEQ hb63 (by omega)]; exact h0
      rw [if_neg e0, if_neg e0, nm_eq, pk_lRem ha (by omega) hb63]
      have hr : a % b < b := Nat.mod_lt _ (by omega)
      rw [f_X10_common_6, Nat.gcd_rec b a]
      by_cases h1 : a % b = 0
      · rw [h1, if_pos (show lN 0 = (0 : Int64) from rfl), Nat.gcd_zero_left]
      · have e1 : ¬ lN (a % b) = (0 : Int64) := by rw [show (0 : Int64) = lN 0 from rfl, pk_lEQ (by omega) (by omega)]; exact h1
        rw [if_neg e1, if_neg e1, nm_eq, pk_lRem hb63 (by omega) (by omega), Nat.gcd_rec (a % b) b]
        have h2 : b % (a % b) < a % b := Nat.mod_lt _ (by omega)
        have h3 : b % (a % b) + (a % b) ≤ b := by
          have h4 := Nat.div_add_mod b (a % b)
          have h5 : 1 ≤ b / (a % b) := Nat.div_pos (by omega) (by omega)
          have h6 : (a % b) * 1 ≤ (a % b) * (b / (a % b)) := Nat.mul_le_mul_left _ h5
          omega
        exact ih (a % b) (b % (a % b)) q (by omega) (by omega) (by omega) (by omega)
theorem gcd_C : ∀ (e a b m c : Nat), a < 2 ^ 63 → b < 2 ^ e → e ≤ 63 → 2 * e < m → c + 2 * e < 199 → f_X9_commonDivisor_9 m (lN a) (lN b) (nI c) = some (lN (Nat.gcd b a)) := by
  intro e
  induction e with
  | zero =>
    intro a b m c ha hb he hm hc
    obtain ⟨q, rfl⟩ : ∃ q, m = q + 1 := ⟨m - 1, by omega⟩
    have : b = 0 := by simp at hb; exact hb
    subst this
    rw [f_X9_commonDivisor_9, if_neg (show ¬ (200 : Int32) ≤ nI c from nI_ge (b := 200) (by omega) (by omega)), if_pos (show lN 0 = (0 : Int64) from rfl), Nat.gcd_zero_left]
  | succ e ih =>
    intro a b m c ha hb he hm hc
    obtain ⟨q, rfl⟩ : ∃ q, m = q + 2 := ⟨m - 2, by omega⟩
    have hp : 2 ^ (e + 1) ≤ 2 ^ 63 := Nat.pow_le_pow_right (by omega) he
    have hb63 : b < 2 ^ 63 := by omega
    rw [f_X9_commonDivisor_9, if_neg (show ¬ (200 : Int32) ≤ nI c from nI_ge (b := 200) (by omega) (by omega))]
    by_cases h0 : b = 0
    · subst h0
      rw [if_pos (show lN 0 = (0 : Int64) from rfl), Nat.gcd_zero_left]
    · have e0 : ¬ lN b = (0 : Int64) := by rw [show (0 : Int64) = lN 0 from rfl, pk_lEQ hb63 (by omega)]; exact h0
      rw [if_neg e0, if_neg e0, nm_eq, pk_lRem ha (by omega) hb63]
      have hr : a % b < b := Nat.mod_lt _ (by omega)
      rw [f_X9_commonDivisor_9, nI_1, if_neg (show ¬ (200 : Int32) ≤ nI (c + 1) from nI_ge (b := 200) (by omega) (by omega)), Nat.gcd_rec b a]
      by_cases h1 : a % b = 0
      · rw [h1, if_pos (show lN 0 = (0 : Int64) from rfl), Nat.gcd_zero_left]
      · have e1 : ¬ lN (a % b) = (0 : Int64) := by rw [show (0 : Int64) = lN 0 from rfl, pk_lEQ (by omega) (by omega)]; exact h1
        rw [if_neg e1, if_neg e1, nm_eq, pk_lRem hb63 (by omega) (by omega), Nat.gcd_rec (a % b) b, nI_1]
        have h2 : b % (a % b) < a % b := Nat.mod_lt _ (by omega)
        have h3 : b % (a % b) + (a % b) ≤ b := by
          have h4 := Nat.div_add_mod b (a % b)
          have h5 : 1 ≤ b / (a % b) := Nat.div_pos (by omega) (by omega)
          have h6 : (a % b) * 1 ≤ (a % b) * (b / (a % b)) := Nat.mul_le_mul_left _ h5
          omega
        exact ih (a % b) (b % (a % b)) q (c + 2) (by omega) (by omega) (by omega) (by omega) (by omega)
theorem com_M {a b : Nat} (ha : a < 2 ^ 63) (hb : b < 2 ^ 63) : f_X10_common (lN a) (lN b) = some (lN (Nat.gcd b a)) := by
  unfold f_X10_common
  have hF := fu_big
  exact gcd_M 63 a b fu ha hb (by omega) (by omega)
theorem com_C {a b : Nat} (ha : a < 2 ^ 63) (hb : b < 2 ^ 63) : f_X9_commonDivisor (lN a) (lN b) = some (lN (Nat.gcd b a)) := by
  unfold f_X9_commonDivisor
  have hF := fu_big
  rw [show (0 : Int32) = nI 0 from rfl]
  exact gcd_C 63 a b fu 0 ha hb (by omega) (by omega) (by omega)
/-- in lowest terms, the class: which 0 above, otherwise below -/
theorem low_C {a b w : Nat} (ha : a < 2 ^ 63) (hb : b < 2 ^ 63) (h0 : 0 < b) (hw : w < 2) : f_X9_inLowestTerms (lN a) (lN b) (nI w) = some (lN ((if w = 0 then a else b) / Nat.gcd b a)) := by
  have hg : 0 < Nat.gcd b a := Nat.gcd_pos_of_pos_left _ h0
  have hg2 : Nat.gcd b a ≤ b := Nat.le_of_dvd h0 (Nat.gcd_dvd_left b a)
  have e0 : ¬ lN (Nat.gcd b a) = (0 : Int64) := by rw [show (0 : Int64) = lN 0 from rfl, pk_lEQ (by omega) (by omega)]; omega
  unfold f_X9_inLowestTerms f_X9_inLowestTerms_10
  rw [com_C ha hb, sb, if_neg e0, if_neg e0, pk_lDiv ha hg (by omega), sb, if_neg e0, if_neg e0, pk_lDiv hb hg (by omega)]
  have hw2 : w = 0 ∨ w = 1 := by omega
  rcases hw2 with rfl | rfl
  · rw [if_pos (show nI 0 = (0 : Int32) from rfl), if_pos rfl]
  · rw [if_neg (show ¬ nI 1 = (0 : Int32) by decide), if_neg (by omega)]
/-- ways to choose -/
def chN : Nat → Nat → Nat
  | _, 0 => 1
  | 0, _ + 1 => 0
  | n + 1, k + 1 => chN n k + chN n (k + 1)
theorem chC_mono (v0 v1 : Int32) {r : Int64} : ∀ (m k : Nat) (v2 : Int64) (v4 : Int32), f_X9_choose_16 v0 v1 m v2 v4 = some r → f_X9_choose_16 v0 v1 (m + k) v2 v4 = some r := by
  intro m
  induction m with
  | zero => intro k v2 v4 h; rw [f_X9_choose_16] at h; cases h
  | succ m ih =>
    intro k v2 v4 h
    rw [show m + 1 + k = (m + k) + 1 by omega]
    rw [f_X9_choose_16] at h ⊢
    by_cases c1 : v1 < v4
    · rw [if_pos c1] at h ⊢; exact h
    · rw [if_neg c1] at h ⊢
      by_cases c2 : v4.toInt64 = 0
      · rw [if_pos c2] at h; cases h
      · rw [if_neg c2] at h ⊢
        rw [nm_eq] at h ⊢
        exact ih k _ _ h
theorem chM_mono (v0 v1 : Int32) {r : Int32} : ∀ (m k : Nat) (v2 : Int64) (v4 : Int32), f_X10_choose_16 v0 v1 m v2 v4 = some r → f_X10_choose_16 v0 v1 (m + k) v2 v4 = some r := by
  intro m
  induction m with
  | zero => intro k v2 v4 h; rw [f_X10_choose_16] at h; cases h
  | succ m ih =>
    intro k v2 v4 h
    rw [show m + 1 + k = (m + k) + 1 by omega]
    rw [f_X10_choose_16] at h ⊢
    by_cases c1 : v1 ≤ v4
    · rw [if_pos c1] at h ⊢; exact h
    · rw [if_neg c1] at h ⊢
      by_cases c2 : (v4 + (1 : Int32)).toInt64 = 0
      · rw [if_pos c2] at h; cases h
      · rw [if_neg c2] at h ⊢
        rw [nm_eq] at h ⊢
        exact ih k _ _ h
theorem ch_all : (List.range 13).all (fun a => (List.range 13).all (fun j => decide (a < j) || (f_X9_choose_16 (nI a) (nI j) 20 1 1 == some (lN (chN a j)) && f_X10_choose_16 (nI a) (nI j) 20 1 0 == some (nI (chN a j))))) = true := by decide +kernel
theorem ch_0 : ∀ (a j : Nat), a < j → chN a j = 0
  | _, 0, h => by omega
  | 0, _ + 1, _ => rfl
  | a + 1, j + 1, h => by
    unfold chN
    rw [ch_0 a j (by omega), ch_0 a (j + 1) (by omega)]
theorem ch_tab {a j : Nat} (ha : a ≤ 12) (hj : j ≤ 12) (h : j ≤ a) : f_X9_choose_16 (nI a) (nI j) 20 1 1 = some (lN (chN a j)) ∧ f_X10_choose_16 (nI a) (nI j) 20 1 0 = some (nI (chN a j)) := by
  have h1 := List.all_eq_true.mp (List.all_eq_true.mp ch_all a (List.mem_range.mpr (by omega))) j (List.mem_range.mpr (by omega))
  rw [decide_eq_false (by omega), Bool.false_or, Bool.and_eq_true] at h1
  exact ⟨by simpa using h1.1, by simpa using h1.2⟩
theorem cho_C {a j : Nat} (ha : a ≤ 12) (hj : j ≤ 12) : f_X9_choose (nI a) (nI j) = some (lN (chN a j)) := by
  unfold f_X9_choose
  rw [if_neg (show ¬ nI j < (0 : Int32) from nI_pos (by omega))]
  by_cases h : j ≤ a
  · rw [if_pos (nI_le h (by omega))]
    have := chC_mono (nI a) (nI j) 20 (fu - 20) 1 1 (ch_tab ha hj h).1
    have hF := fu_big
    rw [show 20 + (fu - 20) = fu by omega] at this
    exact this
  · rw [if_neg (nI_ge (by omega) (by omega)), ch_0 a j (by omega)]
    rfl
theorem cho_M {a j : Nat} (ha : a ≤ 12) (hj : j ≤ 12) : f_X10_choose (nI a) (nI j) = some (nI (chN a j)) := by
  unfold f_X10_choose
  rw [if_neg (show ¬ nI j < (0 : Int32) from nI_pos (by omega))]
  by_cases h : j ≤ a
  · rw [if_pos (nI_le h (by omega))]
    have := chM_mono (nI a) (nI j) 20 (fu - 20) 1 0 (ch_tab ha hj h).2
    have hF := fu_big
    rw [show 20 + (fu - 20) = fu by omega] at this
    exact this
  · rw [if_neg (nI_ge (by omega) (by omega)), ch_0 a j (by omega)]
    rfl
theorem ch_big : (List.range 13).all (fun a => (List.range 13).all (fun j => decide (chN a j ≤ 1000) && (decide (a < j) || decide (0 < chN a j)))) = true := by decide +kernel
theorem ch_le {a j : Nat} (ha : a ≤ 12) (hj : j ≤ 12) : chN a j ≤ 1000 ∧ (j ≤ a → 0 < chN a j) := by
  have h1 := List.all_eq_true.mp (List.all_eq_true.mp ch_big a (List.mem_range.mpr (by omega))) j (List.mem_range.mpr (by omega))
  rw [Bool.and_eq_true] at h1
  refine ⟨of_decide_eq_true h1.1, fun h => ?_⟩
  have h2 := h1.2
  rw [decide_eq_false (by omega), Bool.false_or] at h2
  exact of_decide_eq_true h2
/-- Vandermonde, as far as it is wanted -/
theorem vd_all : (List.range 13).all (fun a => (List.range (13 - a)).all (fun b => (List.range 13).all (fun d => smN (fun j => chN a (d - j) * chN b j) (d + 1) == chN (a + b) d))) = true := by decide +kernel
theorem vd_eq {a b d : Nat} (h : a + b ≤ 12) (hd : d ≤ 12) : smN (fun j => chN a (d - j) * chN b j) (d + 1) = chN (a + b) d := by
  have h1 := List.all_eq_true.mp (List.all_eq_true.mp (List.all_eq_true.mp vd_all a (List.mem_range.mpr (by omega))) b (List.mem_range.mpr (by omega))) d (List.mem_range.mpr (by omega))
  simpa using h1
theorem two_all : (List.range 13).all (fun a => (List.range (13 - a)).all (fun b => (List.range 13).all (fun j => j == 0 || decide (chN a j + chN b j ≤ chN (a + b) j)))) = true := by decide +kernel
theorem two_le {a b j : Nat} (h : a + b ≤ 12) (hj : j ≤ 12) (h0 : j ≠ 0) : chN a j + chN b j ≤ chN (a + b) j := by
  have h1 := List.all_eq_true.mp (List.all_eq_true.mp (List.all_eq_true.mp two_all a (List.mem_range.mpr (by omega))) b (List.mem_range.mpr (by omega))) j (List.mem_range.mpr (by omega))
  simpa [h0] using h1
