/-- on this MONDAY one of them went and the other one stayed -/
def pt1 (A : VW) (i j q : Nat) : Bool := ((A 5 q).testBit i && (stN A q).testBit j) || ((A 5 q).testBit j && (stN A q).testBit i)
def anP (A : VW) (i j : Nat) : Nat → Nat → Bool
  | _, 0 => false
  | k, d + 1 => pt1 A i j k || anP A i j (k + 1) d
theorem st_bit {A : VW} {q : Nat} (h : wkV A q) (j : Nat) : (stN A q).testBit j = ((A 7 q).testBit j && !(A 5 q).testBit j && !(A 6 q).testBit j) := by
  obtain ⟨k, h1, h2, h3, h4, h5⟩ := h
  unfold stN
  rw [Nat.testBit_xor, Nat.testBit_or, h2, Nat.testBit_two_pow_sub_one]
  by_cases hj : j < k
  · simp [hj]
  · have e1 : (A 5 q).testBit j = false := Nat.testBit_lt_two_pow (Nat.lt_of_lt_of_le h3 (Nat.pow_le_pow_right (by omega) (by omega)))
    have e2 : (A 6 q).testBit j = false := Nat.testBit_lt_two_pow (Nat.lt_of_lt_of_le h4 (Nat.pow_le_pow_right (by omega) (by omega)))
    simp [hj, e1, e2]
theorem went_there {A : VW} {q : Nat} (h : wkV A q) {j : Nat} (hj : (A 5 q).testBit j = true) : (A 7 q).testBit j = true := by
  obtain ⟨k, h1, h2, h3, h4, h5⟩ := h
  rw [h2, Nat.testBit_two_pow_sub_one]
  by_cases hk : j < k
  · simp [hk]
  · have e1 : (A 5 q).testBit j = false := Nat.testBit_lt_two_pow (Nat.lt_of_lt_of_le h3 (Nat.pow_le_pow_right (by omega) (by omega)))
    rw [e1] at hj
    cases hj
theorem st_small {A : VW} {q : Nat} (hn : A 0 0 ≤ 12) (h : wkV A q) : stN A q < 4096 := by
  have h1 := wk_small hn h
  unfold stN
  have h2 : A 5 q ||| A 6 q < 2 ^ 12 := Nat.or_lt_two_pow h1.1 h1.2.1
  exact Nat.xor_lt_two_pow (n := 12) h1.2.2 h2
theorem shrI {w i : Nat} (hw : w < 2 ^ 31) (hi : i < 32) : (nI w) >>> (nI i &&& 31) = nI (w >>> i) := by
  rw [pk_shrN hw _ i (smod_i hi), Nat.shiftRight_eq_div_pow]
theorem and1_bit (x : Nat) : nI x &&& (1 : Int32) = if x.testBit 0 = true then 1 else 0 := by
  rw [show (1 : Int32) = nI 1 from rfl, nx_and, Nat.and_one_is_mod, Nat.testBit_zero]
  by_cases h : x % 2 = 1
  · simp [h]
  · simp [h, show x % 2 = 0 by omega]; rfl
theorem part_bit {w s i j : Nat} (hw : w < 4096) (hs : s < 4096) (hi : i < 32) (hj : j < 32) : ((((nI w) >>> (nI i &&& 31)) &&& ((nI s) >>> (nI j &&& 31))) ||| (((nI w) >>> (nI j &&& 31)) &&& ((nI s) >>> (nI i &&& 31)))) &&& (1 : Int32) = if ((w.testBit i && s.testBit j) || (w.testBit j && s.testBit i)) = true then 1 else 0 := by
  rw [shrI (by omega) hi, shrI (by omega) hj, shrI (by omega) hj, shrI (by omega) hi, nx_and, nx_and, fa_or, and1_bit]
  simp only [Nat.testBit_or, Nat.testBit_and, Nat.testBit_shiftRight, Nat.add_zero]
theorem par_l {S : SI} {A : VW} (hV : HV A) (hC : HC S 1 A) {i j : Nat} (hi : i < 12) (hj : j < 12) : ∀ (d m k : Nat), k + d = A 0 1 → d < m → f_X1_wereParted_2 S (nI i) (nI j) m (nI k) = some (if anP A i j k d = true then 1 else 0) := by
  intro d
  have hmd := hV.1.2.1
  induction d with
  | zero =>
    intro m k hk hm
    obtain ⟨q, rfl⟩ : ∃ q, m = q + 1 := ⟨m - 1, by omega⟩
    rw [f_X1_wereParted_2, hC.1.2.1, if_pos (nI_le (by omega) (by omega))]
    rfl
  | succ d ih =>
    intro m k hk hm
    obtain ⟨q, rfl⟩ : ∃ q, m = q + 1 := ⟨m - 1, by omega⟩
    have hkm : k < A 0 1 := by omega
    have hw := hV.2.2.1 k hkm
    have hs := wk_small hV.1.1 hw
    rw [f_X1_wereParted_2, hC.1.2.1, if_neg (nI_ge (by omega) (by omega)), inBn (show k < 12 by omega) (by omega), gd_t, gd_t, gd_t, gd_t, nm_eq, ixn (by omega), show S 3 k = nI (A 5 k) from (hC.2.2.1 k hkm).1, show S 4 k = nI (stN A k) from (hC.2.2.1 k hkm).2, part_bit hs.1 (st_small hV.1.1 hw) (by omega) (by omega), nI_1, ih q (k + 1) (by omega) (by omega)]
    show (if (if pt1 A i j k = true then (1 : Int32) else 0) = 1 then some 1 else _) = some (if (pt1 A i j k || anP A i j (k + 1) d) = true then 1 else 0)
    cases pt1 A i j k with
    | true => rfl
    | false => simp
/-- what bars it, by numbers -/
def brN (A : VW) (i j : Nat) : Nat := ((if A 10 i = A 10 j then 0 else 1) ||| (if A 0 3 = 1 ∧ A 11 i = A 11 j then 2 else 0)) ||| ((if alN A i j = 0 then 4 else 0) ||| (if anP A i j 0 (A 0 1) = true then 8 else 0))
theorem alN_lt (A : VW) (i j : Nat) : alN A i j < 3 := by
  unfold alN
  split
  · omega
  · split <;> omega
theorem bars_C {S : SI} {A : VW} (hV : HV A) (hC : HC S 1 A) {i j : Nat} (hi : i < A 0 0) (hj : j < A 0 0) : f_X1_bars S (nI i) (nI j) = some (nI (brN A i j)) := by
  have hn := hV.1.1
  have hh := hV.1.2.2.2
  obtain ⟨g0, g1, g2, g3, g4, g5, g6, g7, g8⟩ : skC (S (9 + i)) A i := hC.2.2.2 i hi
  obtain ⟨k0, k1, k2, k3, k4, k5, k6, k7, k8⟩ : skC (S (9 + j)) A j := hC.2.2.2 j hj
  have v1 := (hV.2.2.2 i hi).1
  have v2 := (hV.2.2.2 j hj).1
  have e := par_l hV hC (i := i) (j := j) (by omega) (by omega) (A 0 1) fu 0 (by omega) (by have := fu_big; have := hV.1.2.1; omega)
  have hal := alN_lt A i j
  unfold f_X1_bars f_X1_bars_27 f_X1_bars_60 f_X1_bars_73 f_X1_wereParted
  rw [show (0 : Int32) = nI 0 from rfl, e, lik_C hV hC hi hj, inBn (show i < 12 by omega) (by omega), inBn (show j < 12 by omega) (by omega), ixn (show i < 2 ^ 31 by omega), ixn (show j < 2 ^ 31 by omega), g0, g1, k0, k1, hC.1.2.2.2]
  simp only [gd_t, nm_eq, sb, nI_eq (show A 10 i < 2 ^ 31 by omega) (show A 10 j < 2 ^ 31 by omega), nI_eq (show A 11 i < 2 ^ 31 by omega) (show A 11 j < 2 ^ 31 by omega), show (1 : Int32) = nI 1 from rfl, nI_eq (show A 0 3 < 2 ^ 31 by omega) (show 1 < 2 ^ 31 by omega), nI_eq (show alN A i j < 2 ^ 31 by omega) (show 0 < 2 ^ 31 by omega)]
  unfold brN
  generalize anP A i j 0 (A 0 1) = bb
  by_cases c1 : A 10 i = A 10 j <;> by_cases c2 : A 0 3 = 1 <;> by_cases c3 : A 11 i = A 11 j <;> by_cases c4 : alN A i j = 0 <;> cases bb <;> simp [c1, c2, c3, c4] <;> first | rfl | decide
theorem mbit_eq {A : VW} {q i j : Nat} (h : wkV A q) : ((A 7 q).testBit i && (A 7 q).testBit j && (((A 5 q).testBit i && !(A 5 q).testBit j && !(A 6 q).testBit j) || ((A 5 q).testBit j && !(A 5 q).testBit i && !(A 6 q).testBit i))) = pt1 A i j q := by
  unfold pt1
  rw [st_bit h, st_bit h]
  have a1 := went_there h (j := i)
  have a2 := went_there h (j := j)
  revert a1 a2
  cases (A 7 q).testBit i <;> cases (A 7 q).testBit j <;> cases (A 5 q).testBit i <;> cases (A 5 q).testBit j <;> cases (A 6 q).testBit i <;> cases (A 6 q).testBit j <;> simp
theorem bar_l {U : SI} {A : VW} (hV : HV A) (hM : HM (U 79) A) {i j : Nat} (hi : i < 12) (hj : j < 12) : ∀ (d m k b : Nat), k + d = A 0 1 → d < m → f_X10_bars_74 U (nI i) (nI j) m (nI b) (nI k) = some (nI (b ||| (if anP A i j k d = true then 8 else 0))) := by
  intro d
  have hmd := hV.1.2.1
  induction d with
  | zero =>
    intro m k b hk hm
    obtain ⟨q, rfl⟩ : ∃ q, m = q + 1 := ⟨m - 1, by omega⟩
    rw [f_X10_bars_74, show inB (1 : Int32) 205 = true from rfl, gd_t, show ix (1 : Int32) = 1 from rfl, hM.1.2.1, if_pos (nI_le (by omega) (by omega))]
    simp [anP]
  | succ d ih =>
    intro m k b hk hm
    obtain ⟨q, rfl⟩ : ∃ q, m = q + 1 := ⟨m - 1, by omega⟩
    have hkm : k < A 0 1 := by omega
    have hw := hV.2.2.1 k hkm
    have hs := wk_small hV.1.1 hw
    obtain ⟨w1, w2, w3⟩ := hM.2.2.1 k hkm
    have e0 : (133 : Int32) + (3 : Int32) * nI k = nI (133 + 3 * k) := by rw [show (133 : Int32) = nI 133 from rfl, show (3 : Int32) = nI 3 from rfl, pk_mul, nI_add]
    have e1 : nI (133 + 3 * k) + (1 : Int32) = nI (134 + 3 * k) := by rw [nI_1]; congr 1; omega
    have e2 : nI (133 + 3 * k) + (2 : Int32) = nI (135 + 3 * k) := by rw [show (2 : Int32) = nI 2 from rfl, nI_add]; congr 1; omega
    rw [f_X10_bars_74, show inB (1 : Int32) 205 = true from rfl, gd_t, show ix (1 : Int32) = 1 from rfl, hM.1.2.1, if_neg (nI_ge (by omega) (by omega)), e0, e1, e2, inBn (show 133 + 3 * k < 205 by omega) (by omega), inBn (show 134 + 3 * k < 205 by omega) (by omega), inBn (show 135 + 3 * k < 205 by omega) (by omega), gd_t, nm_eq, gd_t, nm_eq, gd_t, nm_eq, ixn (by omega), ixn (by omega), ixn (by omega), w1, w2, w3]
    unfold f_X10_bars_161 f_X10_bars_193 f_X10_bars_225
    have h1 := has_eq (w := A 5 k) (i := i) (by omega) (by omega)
    have h2 := has_eq (w := A 5 k) (i := j) (by omega) (by omega)
    have h3 := has_eq (w := A 6 k) (i := i) (by omega) (by omega)
    have h4 := has_eq (w := A 6 k) (i := j) (by omega) (by omega)
    have h5 := has_eq (w := A 7 k) (i := i) (by omega) (by omega)
    have h6 := has_eq (w := A 7 k) (i := j) (by omega) (by omega)
    simp only [h1, h2, h3, h4, h5, h6, sb, nm_eq, nI_1, show (8 : Int32) = nI 8 from rfl, show nI b ||| (0 : Int32) = nI b by rw [show (0 : Int32) = nI 0 from rfl, fa_or]; simp, fa_or, ih q (k + 1) b (by omega) (by omega), ih q (k + 1) (b ||| 8) (by omega) (by omega)]
    have hp := mbit_eq hw (i := i) (j := j)
    show _ = some (nI (b ||| (if (pt1 A i j k || anP A i j (k + 1) d) = true then 8 else 0)))
    rw [← hp]
    have e8 : (b ||| 8) ||| 8 = b ||| 8 := by rw [Nat.or_assoc, Nat.or_self]
    generalize anP A i j (k + 1) d = bb
    cases (A 7 k).testBit i <;> cases (A 7 k).testBit j <;> cases (A 5 k).testBit i <;> cases (A 5 k).testBit j <;> cases (A 6 k).testBit i <;> cases (A 6 k).testBit j <;> cases bb <;> simp [e8]
theorem bars_M {U : SI} {A : VW} (hV : HV A) (hM : HM (U 79) A) {i j : Nat} (hi : i < A 0 0) (hj : j < A 0 0) : f_X10_bars U (nI i) (nI j) = some (nI (brN A i j)) := by
  have hn := hV.1.1
  have hh := hV.1.2.2.2
  obtain ⟨g0, g1, g2, g3, g4, g5, g6, g7, g8, g9⟩ := hM.2.2.2 i hi
  obtain ⟨k0, k1, k2, k3, k4, k5, k6, k7, k8, k9⟩ := hM.2.2.2 j hj
  have g0 : U 79 (13 + 10 * i + 0) = nI (A 10 i) := g0
  have g1 : U 79 (13 + 10 * i + 1) = nI (A 11 i) := g1
  have k0 : U 79 (13 + 10 * j + 0) = nI (A 10 j) := k0
  have k1 : U 79 (13 + 10 * j + 1) = nI (A 11 j) := k1
  have v1 := (hV.2.2.2 i hi).1
  have v2 := (hV.2.2.2 j hj).1
  have e := fun b => bar_l hV hM (i := i) (j := j) (by omega) (by omega) (A 0 1) fu 0 b (by omega) (by have := fu_big; have := hV.1.2.1; omega)
  have hal := alN_lt A i j
  unfold f_X10_bars f_X10_bars_20 f_X10_bars_52 f_X10_bars_69
  simp only [of0 (show i < 12 by omega), of0 (show j < 12 by omega), of1 (show i < 12 by omega), of1 (show j < 12 by omega), lik_M hV hM hi hj, sb, nm_eq, g0, g1, k0, k1]
  rw [show inB (3 : Int32) 205 = true from rfl, show ix (3 : Int32) = 3 from rfl, hM.1.2.2.2]
  simp only [gd_t, show (0 : Int32) = nI 0 from rfl, show (1 : Int32) = nI 1 from rfl, show (2 : Int32) = nI 2 from rfl, show (4 : Int32) = nI 4 from rfl, fa_or, e, nI_eq (show A 10 i < 2 ^ 31 by omega) (show A 10 j < 2 ^ 31 by omega), nI_eq (show A 11 i < 2 ^ 31 by omega) (show A 11 j < 2 ^ 31 by omega), nI_eq (show A 0 3 < 2 ^ 31 by omega) (show 1 < 2 ^ 31 by omega), nI_eq (show alN A i j < 2 ^ 31 by omega) (show 0 < 2 ^ 31 by omega)]
  unfold brN
  generalize anP A i j 0 (A 0 1) = bb
  by_cases c1 : A 10 i = A 10 j <;> by_cases c2 : A 0 3 = 1 <;> by_cases c3 : A 11 i = A 11 j <;> by_cases c4 : alN A i j = 0 <;> cases bb <;> simp [c1, c2, c3, c4]
theorem op_fellows {P : Nat → Int32 → (Nat → Int32) → Prop} {S U : SI} (h : RR P S U) (v1 v2 : Int32) : ∃ r : Int32, f_X9_fellows S v1 v2 = some r ∧ f_X10_fellows U v1 v2 = some r := by
  obtain ⟨A, hV, hC, hM⟩ := h.1
  have hn := hV.1.1
  unfold f_X9_fellows f_X10_fellows
  rw [twoC hC hn, twoM hM hn]
  simp only [sb]
  by_cases hv : inB v1 (A 0 0) = true ∧ inB v2 (A 0 0) = true ∧ v1 ≠ v2
  · simp only [if_pos hv, show ¬ (1 : Int32) = 0 by decide, if_false]
    obtain ⟨i, hi, rfl⟩ := inB_of hv.1 (by omega)
    obtain ⟨j, hj, rfl⟩ := inB_of hv.2.1 (by omega)
    rw [bars_C hV hC hi hj, bars_M hV hM hi hj]
    exact ⟨_, rfl, rfl⟩
  · simp only [if_neg hv, if_true]
    exact ⟨_, rfl, rfl⟩
