/-- all from k on -/
def alB (p : Nat → Bool) : Nat → Nat → Bool
  | _, 0 => true
  | k, d + 1 => p k && alB p (k + 1) d
theorem alB_iff (p : Nat → Bool) : ∀ (d k : Nat), alB p k d = true ↔ ∀ i, k ≤ i → i < k + d → p i = true
  | 0, k => ⟨fun _ i h1 h2 => by omega, fun _ => rfl⟩
  | d + 1, k => by
    unfold alB
    rw [Bool.and_eq_true, alB_iff p d (k + 1)]
    constructor
    · intro ⟨h1, h2⟩ i h3 h4
      by_cases e : i = k
      · rw [e]; exact h1
      · exact h2 i (by omega) (by omega)
    · intro h
      exact ⟨h k (by omega) (by omega), fun i h3 h4 => h i (by omega) (by omega)⟩
theorem pow12 {n : Nat} (h : n ≤ 12) : 2 ^ n ≤ 4096 := Nat.pow_le_pow_right (by omega) h
theorem pow1 (n : Nat) : 1 ≤ 2 ^ n := Nat.one_le_two_pow
theorem evr {n : Nat} (h : n ≤ 12) : ((1 : Int32) <<< (nI n &&& 31)) - (1 : Int32) = nI (2 ^ n - 1) := by
  rw [shl1 (by omega), show (1 : Int32) = nI 1 from rfl, pk_sub (pow1 n)]
theorem evr_C {S : SI} {n : Nat} (h : n ≤ 12) (h1 : S 1 1 = nI n) : f_X1_everyone S = some (nI (2 ^ n - 1)) := by
  unfold f_X1_everyone
  rw [h1, evr h]
theorem evr_M {U : SI} {n : Nat} (h : n ≤ 12) (h1 : U 79 0 = nI n) : f_X10_allSocks U = some (nI (2 ^ n - 1)) := by
  unfold f_X10_allSocks
  rw [show inB (0 : Int32) 205 = true from rfl, gd_t, show ix (0 : Int32) = 0 from rfl, h1, evr h]
theorem not_set (w : Nat) : nI w ^^^ (-1 : Int32) = nI (w ^^^ 4294967295) := by
  rw [m1_n, nx_xor]
theorem nI_32 (a : Nat) : nI a = nI (a % 4294967296) := by
  unfold nI
  apply Int32.toBitVec_inj.mp
  apply BitVec.eq_of_toNat_eq
  show a % 4294967296 = a % 4294967296 % 4294967296
  omega
theorem nI_ex (v : Int32) : ∃ x, x < 2 ^ 32 ∧ v = nI x := ⟨v.toBitVec.toNat, v.toBitVec.isLt, Int32.toBitVec_inj.mp (BitVec.eq_of_toNat_eq (by
  show v.toBitVec.toNat = v.toBitVec.toNat % 4294967296
  have := v.toBitVec.isLt
  omega))⟩
theorem nI_inj32 {a b : Nat} (ha : a < 2 ^ 32) (hb : b < 2 ^ 32) (h : nI a = nI b) : a = b := by
  have := congrArg (fun v => v.toBitVec.toNat) h
  have e1 : (nI a).toBitVec.toNat = a % 4294967296 := rfl
  have e2 : (nI b).toBitVec.toNat = b % 4294967296 := rfl
  simp only [e1, e2] at this
  omega
/-- the class's test for a set of the first n is the reference's -/
theorem sub_set {n : Nat} (h : n ≤ 12) (v : Int32) : (v &&& (nI (2 ^ n - 1) ^^^ (-1 : Int32)) = 0) ↔ inB v (2 ^ n) = true := by
  obtain ⟨x, hx, rfl⟩ := nI_ex v
  have hp := pow12 h
  have hp1 := pow1 n
  rw [not_set, nx_and]
  have hlt : x &&& (2 ^ n - 1 ^^^ 4294967295) < 2 ^ 32 := Nat.lt_of_le_of_lt Nat.and_le_left hx
  have bt : ∀ i, (x &&& (2 ^ n - 1 ^^^ 4294967295)).testBit i = (x.testBit i && !decide (i < n)) := fun i => by
    rw [Nat.testBit_and, Nat.testBit_xor, Nat.testBit_two_pow_sub_one, show (4294967295 : Nat) = 2 ^ 32 - 1 from rfl, Nat.testBit_two_pow_sub_one]
    by_cases hi : i < 32
    · simp [hi]
    · have : x.testBit i = false := Nat.testBit_lt_two_pow (Nat.lt_of_lt_of_le hx (Nat.pow_le_pow_right (by omega) (by omega)))
      simp [this]
  constructor
  · intro e
    have e0 := nI_inj32 hlt (by omega) (e.trans (show (0 : Int32) = nI 0 from rfl))
    have hxn : x < 2 ^ n := by
      apply Nat.lt_pow_two_of_testBit
      intro i hi
      have := bt i
      rw [e0, decide_eq_false (by omega)] at this
      simp at this
      exact this
    exact inBn hxn (by omega)
  · intro e
    obtain ⟨j, hj, e2⟩ := inB_of e (by omega)
    have := nI_inj32 hx (by omega) e2
    subst this
    have : x &&& (2 ^ n - 1 ^^^ 4294967295) = 0 := by
      apply Nat.eq_of_testBit_eq
      intro i
      rw [bt, Nat.zero_testBit]
      by_cases hi : i < n
      · simp [hi]
      · have : x.testBit i = false := Nat.testBit_lt_two_pow (Nat.lt_of_lt_of_le hj (Nat.pow_le_pow_right (by omega) (by omega)))
        simp [this]
    rw [this]
    rfl
theorem in_set {n : Nat} (h : n ≤ 12) (v : Int32) : f_X10_in v.toInt64 (0 : Int64) (nI (2 ^ n - 1)).toInt64 = some (if inB v (2 ^ n) = true then 1 else 0) := by
  have hp := pow12 h
  have hp1 := pow1 n
  rw [mi v (2 ^ n - 1) _ (by rw [wide, nI_toInt (by omega)]), show 2 ^ n - 1 + 1 = 2 ^ n by omega]
/-- a set within one -/
theorem sub_of {n w : Nat} (h : n ≤ 12) (hw : w < 2 ^ n) {v : Int32} (e : v &&& (nI w ^^^ (-1 : Int32)) = 0) : ∃ c, c < 2 ^ n ∧ v = nI c ∧ ∀ i, c.testBit i = true → w.testBit i = true := by
  obtain ⟨x, hx, rfl⟩ := nI_ex v
  have hp := pow12 h
  rw [not_set, nx_and] at e
  have e0 := nI_inj32 (Nat.lt_of_le_of_lt Nat.and_le_left hx) (by omega) (e.trans (show (0 : Int32) = nI 0 from rfl))
  have bt : ∀ i, x.testBit i = true → w.testBit i = true := fun i hi => by
    have h0 : (x &&& (w ^^^ 4294967295)).testBit i = false := by rw [e0, Nat.zero_testBit]
    rw [Nat.testBit_and, Nat.testBit_xor, show (4294967295 : Nat) = 2 ^ 32 - 1 from rfl, Nat.testBit_two_pow_sub_one, hi] at h0
    by_cases h32 : i < 32
    · simp [h32] at h0
      exact h0
    · have : x.testBit i = false := Nat.testBit_lt_two_pow (Nat.lt_of_lt_of_le hx (Nat.pow_le_pow_right (by omega) (by omega)))
      rw [this] at hi
      cases hi
  refine ⟨x, ?_, rfl, bt⟩
  apply Nat.lt_pow_two_of_testBit
  intro i hi
  cases hb : x.testBit i with
  | false => rfl
  | true =>
    have := bt i hb
    rw [Nat.testBit_lt_two_pow (Nat.lt_of_lt_of_le hw (Nat.pow_le_pow_right (by omega) hi))] at this
    cases this
/-- may this set go -/
def goB (A : VW) (w i : Nat) : Bool := !w.testBit i || (!(A 14 i == 1) && (!(A 14 i == 2) || w.testBit (A 15 i)))
def goM (A : VW) (w i : Nat) : Bool := (!(A 14 i == 2) || (w.testBit i == w.testBit (A 15 i))) && (!w.testBit i || !(A 14 i == 1))
theorem bit_if {w i : Nat} (hw : w < 2 ^ 31) (hi : i < 32) : (((nI w) >>> (nI i &&& 31)) &&& (1 : Int32) = 0) = (w.testBit i = false) := by
  rw [bitI hw hi]
  cases w.testBit i <;> simp <;> decide
theorem go_l {S : SI} {A : VW} (hV : HV A) (hC : HC S 1 A) {w : Nat} (hw : w < 4096) : ∀ (d m k : Nat), k + d = A 0 0 → d < m → f_X1_canGo_2 S (nI w) m (nI k) = some (if alB (goB A w) k d = true then 1 else 0) := by
  intro d
  have hn := hV.1.1
  induction d with
  | zero =>
    intro m k hk hm
    obtain ⟨q, rfl⟩ : ∃ q, m = q + 1 := ⟨m - 1, by omega⟩
    rw [f_X1_canGo_2, hC.1.1, if_pos (nI_le (by omega) (by omega))]
    rfl
  | succ d ih =>
    intro m k hk hm
    obtain ⟨q, rfl⟩ : ∃ q, m = q + 1 := ⟨m - 1, by omega⟩
    have hkn : k < A 0 0 := by omega
    obtain ⟨g0, g1, g2, g3, g4, g5, g6, g7, g8⟩ : skC (S (9 + k)) A k := hC.2.2.2 k hkn
    have hv := hV.2.2.2 k hkn
    have hb : A 14 k < 3 := hv.2.1.1
    rw [f_X1_canGo_2, hC.1.1, if_neg (nI_ge (by omega) (by omega)), inBn (show k < 12 by omega) (by omega), ixn (by omega), g4, g5]
    simp only [gd_t, nI_1, ih q (k + 1) (by omega) (by omega), bit_if (show w < 2 ^ 31 by omega) (show k < 32 by omega), show (nI (A 14 k) = (1 : Int32)) = (A 14 k = 1) from propext (nI_eq (b := 1) (by omega) (by omega)), show (nI (A 14 k) = (2 : Int32)) = (A 14 k = 2) from propext (nI_eq (b := 2) (by omega) (by omega))]
    show _ = some (if (goB A w k && alB (goB A w) (k + 1) d) = true then 1 else 0)
    unfold goB
    cases hwk : w.testBit k with
    | false => simp
    | true =>
      by_cases h1 : A 14 k = 1
      · simp [h1]
      · by_cases h2 : A 14 k = 2
        · have ho := hv.2.1.2.1 h2
          rw [otI_2 h2]
          simp only [bit_if (show w < 2 ^ 31 by omega) (show A 15 k < 32 by omega)]
          cases w.testBit (A 15 k) <;> simp [h2]
        · simp [h1, h2]
theorem goM_l {U : SI} {A : VW} (hV : HV A) (hM : HM (U 79) A) {w : Nat} (hw : w < 4096) (ke : Option (Int32 × SI)) : ∀ (d m k : Nat), k + d = A 0 0 → d < m → f_X10_monday_26 U (nI w) ke m (nI k) = if alB (goM A w) k d = true then ke else some (-2, U) := by
  intro d
  have hn := hV.1.1
  induction d with
  | zero =>
    intro m k hk hm
    obtain ⟨q, rfl⟩ : ∃ q, m = q + 1 := ⟨m - 1, by omega⟩
    rw [f_X10_monday_26, show inB (0 : Int32) 205 = true from rfl, gd_t, show ix (0 : Int32) = 0 from rfl, hM.1.1, if_pos (nI_le (by omega) (by omega))]
    rfl
  | succ d ih =>
    intro m k hk hm
    obtain ⟨q, rfl⟩ : ∃ q, m = q + 1 := ⟨m - 1, by omega⟩
    have hkn : k < A 0 0 := by omega
    have g4 : U 79 (13 + 10 * k + 4) = nI (A 14 k) := (hM.2.2.2 k hkn).2.2.2.2.1
    have g5 : U 79 (13 + 10 * k + 5) = otI A k := (hM.2.2.2 k hkn).2.2.2.2.2.1
    have hv := hV.2.2.2 k hkn
    have hb : A 14 k < 3 := hv.2.1.1
    rw [f_X10_monday_26, show inB (0 : Int32) 205 = true from rfl, gd_t, show ix (0 : Int32) = 0 from rfl, hM.1.1, if_neg (nI_ge (by omega) (by omega))]
    unfold f_X10_monday_68 f_X10_monday_88
    simp only [of4 (show k < 12 by omega), of5 (show k < 12 by omega), sb, g4, g5, has_eq (show w < 2 ^ 31 by omega) (show k < 32 by omega)]
    simp only [nI_1, ih q (k + 1) (by omega) (by omega), show (nI (A 14 k) = (1 : Int32)) = (A 14 k = 1) from propext (nI_eq (b := 1) (by omega) (by omega))]
    show _ = if (goM A w k && alB (goM A w) (k + 1) d) = true then ke else some (-2, U)
    unfold goM
    by_cases h2 : A 14 k = 2
    · have ho := hv.2.1.2.1 h2
      rw [otI_2 h2, if_neg (show ¬ nI (A 15 k) < (0 : Int32) from nI_pos (by omega))]
      simp only [has_eq (show w < 2 ^ 31 by omega) (show A 15 k < 32 by omega), sb]
      cases w.testBit (A 15 k) <;> cases w.testBit k <;> simp [h2]
    · rw [otI_n h2, if_pos (show (-4 : Int32) < 0 by decide)]
      by_cases h1 : A 14 k = 1
      · cases w.testBit k <;> simp [h1]
      · cases w.testBit k <;> simp [h1, h2]
theorem go_same {A : VW} (hV : HV A) (w : Nat) : (alB (goB A w) 0 (A 0 0) = true) ↔ (alB (goM A w) 0 (A 0 0) = true) := by
  rw [alB_iff, alB_iff]
  constructor
  · intro h i h1 h2
    have hi := h i h1 h2
    have hv := (hV.2.2.2 i (by omega)).2.1.2.1
    unfold goB at hi
    unfold goM
    by_cases c2 : A 14 i = 2
    · obtain ⟨o1, o2, o3, o4⟩ := hv c2
      have ho := h (A 15 i) (by omega) (by omega)
      unfold goB at ho
      rw [o3, o4] at ho
      rw [c2] at hi ⊢
      revert hi ho
      cases w.testBit i <;> cases w.testBit (A 15 i) <;> simp
    · simp [c2] at hi ⊢
      exact hi
  · intro h i h1 h2
    have hi := h i h1 h2
    unfold goM at hi
    unfold goB
    by_cases c2 : A 14 i = 2
    · rw [c2] at hi ⊢
      revert hi
      cases w.testBit i <;> cases w.testBit (A 15 i) <;> simp
    · simp [c2] at hi ⊢
      exact hi
