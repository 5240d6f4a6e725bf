theorem low_ex {X : Nat} : ∀ n, (∃ i, i < n ∧ X.testBit i = true) → ∃ i, i < n ∧ X.testBit i = true ∧ noB X i
  | 0, ⟨_, h, _⟩ => by omega
  | n + 1, ⟨i, h1, h2⟩ => by
    by_cases c : ∃ i, i < n ∧ X.testBit i = true
    · obtain ⟨j, j1, j2, j3⟩ := low_ex n c
      exact ⟨j, by omega, j2, j3⟩
    · refine ⟨i, h1, h2, fun j hj => ?_⟩
      cases hb : X.testBit j with
      | false => rfl
      | true => exact absurd ⟨j, by omega, hb⟩ c
theorem lowb {X : Nat} (h0 : X ≠ 0) (hX : X < 4096) : ∃ i, i < 12 ∧ X.testBit i = true ∧ noB X i := by
  apply low_ex
  apply Classical.byContradiction
  intro h
  apply h0
  apply Nat.eq_of_testBit_eq
  intro i
  rw [Nat.zero_testBit]
  by_cases hi : i < 12
  · cases hb : X.testBit i with
    | false => rfl
    | true => exact absurd ⟨i, hi, hb⟩ h
  · exact Nat.testBit_lt_two_pow (Nat.lt_of_lt_of_le hX (Nat.pow_le_pow_right (by omega : 2 > 0) (by omega : 12 ≤ i)))
theorem lws_l {X i : Nat} (hX : X < 4096) (hi : i < 12) (hb : X.testBit i = true) (hno : noB X i) : ∀ (d m k : Nat), k + d = i → d < m → f_X10_lowest_2 (nI X) m (nI k) = some (nI i) := by
  intro d
  induction d with
  | zero =>
    intro m k hk hm
    obtain ⟨q, rfl⟩ : ∃ q, m = q + 1 := ⟨m - 1, by omega⟩
    rw [f_X10_lowest_2, has_eq (by omega) (by omega), sb, show k = i by omega, hb, if_pos rfl, if_neg (show ¬ (1 : Int32) = 0 by decide)]
  | succ d ih =>
    intro m k hk hm
    obtain ⟨q, rfl⟩ : ∃ q, m = q + 1 := ⟨m - 1, by omega⟩
    rw [f_X10_lowest_2, has_eq (by omega) (by omega), sb, hno k (by omega), if_pos (show (if false = true then (1 : Int32) else 0) = 0 from rfl), nI_1]
    exact ih q (k + 1) (by omega) (by omega)
theorem lws_M {X i : Nat} (hX : X < 4096) (hi : i < 12) (hb : X.testBit i = true) (hno : noB X i) : f_X10_lowest (nI X) = some (nI i) := by
  have hF := fu_big
  unfold f_X10_lowest
  exact lws_l hX hi hb hno i fu 0 (by omega) (by omega)
/-- within the box -/
def inX (A : VW) (Y : Nat) : Prop := ∀ k, Y.testBit k = true → k < A 0 0 ∧ A 14 k = 0
theorem inX_rm {A : VW} {Y i : Nat} (hY : Y < 4096) (hi : i < 12) (h : inX A Y) : inX A (rmN Y i) := fun k hk => by
  rw [rm_bit hY hi] at hk
  exact h k (by revert hk; cases Y.testBit k <;> simp)
def BT (U : SI) (A : VW) (m : Nat) : Prop := ∀ Y, Y < m → inX A Y → U 82 Y = nI (bs10 A Y)
theorem b10_le {A : VW} (hV : HV A) {X : Nat} (hX : X < 4096) : bs10 A X ≤ 100000 := by
  rw [bs_10 hV hX]
  have := bs_le hV hX
  unfold fiN
  omega
theorem rm_lt {X i : Nat} (hX : X < 4096) (hi : i < 12) (hb : X.testBit i = true) : rmN X i < X := by
  have h1 := rm_le X i
  have h2 := rm_ne hX hi hb
  omega
theorem wb_1 {U : SI} {X i : Nat} (hX : X < 4096) (hi : i < 12) : f_X10_worthBy U (nI X) (nI i) (nI i) = some (U 82 (rmN X i)) := by
  have := rm_le X i
  unfold f_X10_worthBy
  rw [if_pos rfl, rm_I hi, inBn (show rmN X i < 4096 by omega) (by omega), gd_t, ixn (by omega)]
theorem wb_2 {U : SI} {A : VW} (hV : HV A) (hM : HM (U 79) A) {X i j : Nat} (hX : X < 4096) (hi : i < A 0 0) (hj : j < A 0 0) (hij : i ≠ j) {w : Nat} (hw : U 82 (rmN (rmN X i) j) = nI w) : f_X10_worthBy U (nI X) (nI i) (nI j) = some (nI (10000 - dsN A i j + w)) := by
  have hn := hV.1.1
  have h1 := rm_le X i
  have h2 := rm_le (rmN X i) j
  have hd := ds_le hV hi hj
  unfold f_X10_worthBy
  rw [if_neg (by rw [nI_eq (by omega) (by omega)]; exact hij), rm_I (show i < 12 by omega), rm_I (show j < 12 by omega), inBn (show rmN (rmN X i) j < 4096 by omega) (by omega), gd_t, dis_M hV hM hi hj, sb, ixn (by omega), hw, show (10000 : Int32) = nI 10000 from rfl, nI_add, pk_sub (by omega), show w + 10000 - dsN A i j = 10000 - dsN A i j + w by omega]
theorem g10_pos {A : VW} (hV : HV A) {i j : Nat} (hi : i < A 0 0) (hj : j < A 0 0) (h1 : A 14 i = 0) (h2 : A 14 j = 0) : (brN A i j = 0 → g10 A i j = 10000 - dsN A i j ∧ fitB A i j = true) ∧ (brN A i j ≠ 0 → g10 A i j = 0 ∧ fitB A i j = false) := by
  constructor
  · intro h
    have hf : fitB A i j = true := by unfold fitB; rw [h1, h2, h]; rfl
    exact ⟨by unfold g10; rw [if_pos hf], hf⟩
  · intro h
    have hf : fitB A i j = false := by unfold fitB; simp [h]
    exact ⟨by unfold g10; rw [hf]; rfl, hf⟩
theorem fpi_l {A : VW} (hV : HV A) {X i : Nat} (hX : X < 4096) (hi : i < A 0 0) (hb : X.testBit i = true) (hx : inX A X) (ke : SI → Option SI) : ∀ (c m k v : Nat) (U : SI), k + c = A 0 0 → i < k → c < m → v ≤ 1000000 → HM (U 79) A → BT U A X → U 82 X = nI v → ∃ U', f_X10_findPairs_51 (nI X) (nI i) ke m (nI k) U = ke U' ∧ U' 82 X = nI (mlN (fun j => g10 A i j + bs10 A (rmN (rmN X i) j)) (fun j => decide (0 < g10 A i j) && X.testBit j) c k v) ∧ ∀ a e, ¬ (a = 82 ∧ e = X) → U' a e = U a e := by
  intro c
  have hn := hV.1.1
  have hX2 : rmN X i < 4096 := Nat.lt_of_le_of_lt (rm_le _ _) hX
  induction c with
  | zero =>
    intro m k v U hk hik hm hv hM hB hU
    obtain ⟨q, rfl⟩ : ∃ q, m = q + 1 := ⟨m - 1, by omega⟩
    rw [f_X10_findPairs_51, show inB (0 : Int32) 205 = true from rfl, gd_t, show ix (0 : Int32) = 0 from rfl, hM.1.1, if_pos (nI_le (by omega) (by omega))]
    exact ⟨U, rfl, hU, fun _ _ _ => rfl⟩
  | succ c ih =>
    intro m k v U hk hik hm hv hM hB hU
    obtain ⟨q, rfl⟩ : ∃ q, m = q + 1 := ⟨m - 1, by omega⟩
    have hkn : k < A 0 0 := by omega
    rw [f_X10_findPairs_51, show inB (0 : Int32) 205 = true from rfl, gd_t, show ix (0 : Int32) = 0 from rfl, hM.1.1, if_neg (nI_ge (by omega) (by omega)), has_eq (by omega) (by omega), sb, nI_1]
    show ∃ U' : SI, _ ∧ U' 82 X = nI (mlN (fun j => g10 A i j + bs10 A (rmN (rmN X i) j)) (fun j => decide (0 < g10 A i j) && X.testBit j) c (k + 1) (if (decide (0 < g10 A i k) && X.testBit k) = true then max v (g10 A i k + bs10 A (rmN (rmN X i) k)) else v)) ∧ _
    cases hbk : X.testBit k with
    | false =>
      rw [if_neg (show ¬ (false = true) by simp), if_pos rfl, Bool.and_false, if_neg (by simp)]
      exact ih q (k + 1) v U (by omega) (by omega) (by omega) hv hM hB hU
    | true =>
      rw [if_pos rfl, if_neg (show ¬ (1 : Int32) = 0 by decide), bars_M hV hM hi hkn, sb, Bool.and_true]
      have hbr := br_lt A i k
      obtain ⟨p1, p2⟩ := g10_pos hV hi hkn (hx i hb).2 (hx k hbk).2
      simp only [show (nI (brN A i k) = (0 : Int32)) = (brN A i k = 0) from propext (nI_eq (b := 0) (by omega) (by omega))]
      by_cases c0 : brN A i k = 0
      · obtain ⟨g1, g2⟩ := p1 c0
        have hd := ds_le hV hi hkn
        have hX3 : rmN (rmN X i) k < 4096 := Nat.lt_of_le_of_lt (rm_le _ _) hX2
        have hlt : rmN (rmN X i) k < X := Nat.lt_of_le_of_lt (rm_le _ _) (rm_lt hX (by omega) hb)
        have hB2 := hB _ hlt (inX_rm hX2 (by omega) (inX_rm hX (by omega) hx))
        have hbl := b10_le hV hX3
        rw [if_pos c0, inBn hX (by omega), gd_t, wb_2 hV hM hX hi hkn (by omega) hB2, sb, ixn (by omega), hU, more_eq, sb, mx_nI (by omega) (by omega), gd_t, nm_eq, decide_eq_true (by omega), if_pos rfl, g1]
        obtain ⟨U', a1, a2, a3⟩ := ih q (k + 1) (max v (10000 - dsN A i k + bs10 A (rmN (rmN X i) k))) (up2 U 82 X (nI (max v (10000 - dsN A i k + bs10 A (rmN (rmN X i) k))))) (by omega) (by omega) (by omega) (by omega) (by rw [up2_row _ (by omega)]; exact hM) (fun Y h1 h2 => by rw [up2_ne _ (by omega)]; exact hB Y h1 h2) (up2_eq _ _ _ _)
        exact ⟨U', a1, a2, fun a e he => by rw [a3 a e he, up2_ne _ (by omega)]⟩
      · obtain ⟨g1, g2⟩ := p2 c0
        rw [if_neg c0, g1, decide_eq_false (by omega), if_neg (by simp)]
        exact ih q (k + 1) v U (by omega) (by omega) (by omega) hv hM hB hU
theorem sub_in {A : VW} (hn : A 0 0 ≤ 12) {X : Nat} (hX : X < 4096) : (nI X &&& (nI (boX A) ^^^ (-1 : Int32)) = 0) ↔ inX A X := by
  rw [not_set, nx_and]
  have hlt : X &&& (boX A ^^^ 4294967295) < 2 ^ 32 := Nat.lt_of_le_of_lt Nat.and_le_left (by omega)
  have bt : ∀ i, (X &&& (boX A ^^^ 4294967295)).testBit i = (X.testBit i && !(boX A).testBit i) := fun i => by
    rw [Nat.testBit_and, Nat.testBit_xor, show (4294967295 : Nat) = 2 ^ 32 - 1 from rfl, Nat.testBit_two_pow_sub_one]
    by_cases hi : i < 32
    · simp [hi]
    · have : X.testBit i = false := Nat.testBit_lt_two_pow (Nat.lt_of_lt_of_le hX (Nat.pow_le_pow_right (by omega : 2 > 0) (by omega : 12 ≤ i)))
      simp [this]
  constructor
  · intro e k hk
    have e0 := nI_inj32 hlt (by omega) (e.trans (show (0 : Int32) = nI 0 from rfl))
    have := bt k
    rw [e0, Nat.zero_testBit, hk, Bool.true_and, bo_bit] at this
    have h2 : (decide (k < A 0 0) && A 14 k == 0) = true := by
      cases h3 : (decide (k < A 0 0) && A 14 k == 0) with
      | true => rfl
      | false => rw [h3] at this; cases this
    simp at h2
    exact h2
  · intro h
    have : X &&& (boX A ^^^ 4294967295) = 0 := by
      apply Nat.eq_of_testBit_eq
      intro i
      rw [bt, Nat.zero_testBit]
      cases hb : X.testBit i with
      | false => rfl
      | true =>
        obtain ⟨h1, h2⟩ := h i hb
        rw [bo_bit, decide_eq_true h1, h2]
        rfl
    rw [this]
    rfl
theorem fpo_l {A : VW} (hV : HV A) (ke : SI → Option SI) : ∀ (d m X : Nat) (U : SI), X + d = boX A + 1 → 1 ≤ X → d < m → HM (U 79) A → BT U A X → ∃ U', f_X10_findPairs_15 (nI (boX A)) ke m (nI X) U = ke U' ∧ BT U' A (boX A + 1) ∧ ∀ a e, a ≠ 82 → U' a e = U a e := by
  intro d
  have hn := hV.1.1
  have hF := fu_big
  have hbo := bo_lt hn
  induction d with
  | zero =>
    intro m X U hX h1 hm hM hB
    obtain ⟨q, rfl⟩ : ∃ q, m = q + 1 := ⟨m - 1, by omega⟩
    rw [f_X10_findPairs_15, if_pos (nI_lt (by omega) (by omega))]
    rw [show X = boX A + 1 by omega] at hB
    exact ⟨U, rfl, hB, fun _ _ _ => rfl⟩
  | succ d ih =>
    intro m X U hX h1 hm hM hB
    obtain ⟨q, rfl⟩ : ∃ q, m = q + 1 := ⟨m - 1, by omega⟩
    have hX4 : X < 4096 := by omega
    rw [f_X10_findPairs_15, if_neg (show ¬ nI (boX A) < nI X by rw [nI_ltI (by omega) (by omega)]; omega)]
    by_cases c : inX A X
    · rw [if_pos ((sub_in hn hX4).mpr c)]
      obtain ⟨i, hi12, hb, hno⟩ := lowb (by omega) hX4
      have hin := (c i hb).1
      have hlt := rm_lt hX4 hi12 hb
      have hX2 : rmN X i < 4096 := by omega
      have hbl := b10_le hV hX2
      rw [lws_M hX4 hi12 hb hno, sb, wb_1 hX4 hi12, sb, inBn hX4 (by omega), gd_t, nm_eq, nm_eq, ixn (by omega), nI_1, hB _ hlt (inX_rm hX4 hi12 c)]
      obtain ⟨U1, a1, a2, a3⟩ := fpi_l hV hX4 hin hb c (fun Uo => f_X10_findPairs_110 Uo (nI X) (f_X10_findPairs_15 (nI (boX A)) ke q)) (A 0 0 - (i + 1)) fu (i + 1) (bs10 A (rmN X i)) (up2 U 82 X (nI (bs10 A (rmN X i)))) (by omega) (by omega) (by omega) (by omega) (by rw [up2_row _ (by omega)]; exact hM) (fun Y h1 h2 => by rw [up2_ne _ (by omega)]; exact hB Y h1 h2) (up2_eq _ _ _ _)
      rw [a1]
      unfold f_X10_findPairs_110
      have hbs := bs_low (g10 A) (n := A 0 0) (X := X) (i := i) hn hX4 hin hb hno
      have a2' : U1 82 X = nI (bs10 A X) := by rw [a2]; exact congrArg nI hbs.symm
      have f1 : ∀ a e, ¬ (a = 82 ∧ e = X) → U1 a e = U a e := fun a e he => by rw [a3 a e he, up2_ne _ (by omega)]
      rw [nI_1]
      obtain ⟨U2, b1, b2, b3⟩ := ih q (X + 1) U1 (by omega) (by omega) (by omega) (by rw [show U1 79 = U 79 from funext fun e => f1 _ _ (by omega)]; exact hM) (fun Y h1 h2 => by
        by_cases e : Y = X
        · rw [e]; exact a2'
        · rw [f1 _ _ (by omega)]; exact hB Y (by omega) h2)
      exact ⟨U2, b1, b2, fun a e he => by rw [b3 a e he, f1 _ _ (by omega)]⟩
    · rw [if_neg (fun z => c ((sub_in hn hX4).mp z))]
      unfold f_X10_findPairs_110
      rw [nI_1]
      exact ih q (X + 1) U (by omega) (by omega) (by omega) hM (fun Y h1 h2 => by
        by_cases e : Y = X
        · rw [e] at h2; exact absurd h2 c
        · exact hB Y (by omega) h2)
theorem fs_snoc (b : Nat → Bool) : ∀ (d k : Nat), fsN b (d + 1) k = match fsN b d k with
    | some j => some j
    | none => if b (k + d) = true then some (k + d) else none
  | 0, k => by
    show (if b k = true then some k else none) = _
    rfl
  | d + 1, k => by
    have ih := fs_snoc b d (k + 1)
    show (if b k = true then some k else fsN b (d + 1) (k + 1)) = match (if b k = true then some k else fsN b d (k + 1)) with
      | some j => some j
      | none => if b (k + (d + 1)) = true then some (k + (d + 1)) else none
    by_cases c : b k = true
    · rw [if_pos c, if_pos c]
    · rw [if_neg c, if_neg c, ih, show k + 1 + d = k + (d + 1) by omega]
def oD (o : Option Nat) (c : Int32) : Int32 := match o with
  | some j => nI j
  | none => c
theorem fpc_l {U : SI} {A : VW} (hV : HV A) (hM : HM (U 79) A) {X i : Nat} (hX : X < 4096) (hi : i < A 0 0) (hb : X.testBit i = true) (hx : inX A X) (hB : BT U A (X + 1)) (ke : Int32 → Option SI) : ∀ (c m : Nat) (cur : Int32), i + 1 + c ≤ A 0 0 → c < m → f_X10_findPairs_162 U (nI X) (nI i) ke m cur (nI (i + 1 + c) - 1) = ke (oD (fsN (chB A X i) c (i + 1)) cur) := by
  intro c
  have hn := hV.1.1
  have hX2 : rmN X i < 4096 := Nat.lt_of_le_of_lt (rm_le _ _) hX
  induction c with
  | zero =>
    intro m cur hc hm
    obtain ⟨q, rfl⟩ : ∃ q, m = q + 1 := ⟨m - 1, by omega⟩
    rw [f_X10_findPairs_162, Nat.add_zero, nI_pred, if_pos (nI_le (by omega) (by omega))]
    rfl
  | succ c ih =>
    intro m cur hc hm
    obtain ⟨q, rfl⟩ : ∃ q, m = q + 1 := ⟨m - 1, by omega⟩
    generalize hk : i + 1 + c = k
    have hkn : k < A 0 0 := by omega
    rw [f_X10_findPairs_162, show i + 1 + (c + 1) = k + 1 by omega, nI_pred, if_neg (nI_ge (by omega) (by omega)), has_eq (by omega) (by omega), sb]
    unfold f_X10_findPairs_211
    rw [show nI k + (-1 : Int32) = nI k - 1 by rw [Int32.sub_eq_add_neg], fs_snoc, hk]
    have i1 := ih q cur (by omega) (by omega)
    have i2 := ih q (nI k) (by omega) (by omega)
    rw [hk] at i1 i2
    rw [i1, i2]
    have hbr := br_lt A i k
    have hbX := b10_le hV hX
    have fin0 : chB A X i k = false → ke (oD (fsN (chB A X i) c (i + 1)) cur) = ke (oD (match fsN (chB A X i) c (i + 1) with
        | some j => some j
        | none => if chB A X i k = true then some k else none) cur) := fun h => by
      rw [h]
      cases fsN (chB A X i) c (i + 1) <;> rfl
    cases hbk : X.testBit k with
    | false =>
      rw [if_neg (show ¬ (false = true) by simp), if_pos rfl]
      exact fin0 (by unfold chB; rw [hbk]; simp)
    | true =>
      rw [if_pos rfl, if_neg (show ¬ (1 : Int32) = 0 by decide), bars_M hV hM hi hkn, sb]
      obtain ⟨p1, p2⟩ := g10_pos hV hi hkn (hx i hb).2 (hx k hbk).2
      simp only [show (nI (brN A i k) = (0 : Int32)) = (brN A i k = 0) from propext (nI_eq (b := 0) (by omega) (by omega))]
      by_cases c0 : brN A i k = 0
      · obtain ⟨g1, g2⟩ := p1 c0
        have hd := ds_le hV hi hkn
        have hX3 : rmN (rmN X i) k < 4096 := Nat.lt_of_le_of_lt (rm_le _ _) hX2
        have hlt : rmN (rmN X i) k < X := Nat.lt_of_le_of_lt (rm_le _ _) (rm_lt hX (by omega) hb)
        have hB2 := hB (rmN (rmN X i) k) (by omega) (inX_rm hX2 (by omega) (inX_rm hX (by omega) hx))
        have hbl := b10_le hV hX3
        rw [if_pos c0, wb_2 hV hM hX hi hkn (by omega) hB2, sb, inBn hX (by omega), gd_t, ixn (by omega), hB X (by omega) hx]
        simp only [nI_eq (show 10000 - dsN A i k + bs10 A (rmN (rmN X i) k) < 2 ^ 31 by omega) (show bs10 A X < 2 ^ 31 by omega)]
        have hch := ch_10 hV hX hi hkn (by omega) hb g2 hbk
        rw [g1] at hch
        by_cases c1 : 10000 - dsN A i k + bs10 A (rmN (rmN X i) k) = bs10 A X
        · rw [if_pos c1]
          have : chB A X i k = true := by unfold chB; rw [g2, hbk, hch.mp c1]; simp
          rw [this]
          cases fsN (chB A X i) c (i + 1) <;> rfl
        · rw [if_neg c1]
          refine fin0 ?_
          unfold chB
          rw [g2, hbk]
          simp only [Bool.true_and]
          exact beq_false_of_ne (fun z => c1 (hch.mpr z))
      · obtain ⟨g1, g2⟩ := p2 c0
        rw [if_neg c0]
        exact fin0 (by unfold chB; rw [g2]; simp)
theorem fpt_M {A : VW} (hV : HV A) : ∀ (r m X : Nat) (f : Nat → Int32) (U : SI), r ≤ A 0 0 → r < m → X ≤ boX A → inX A X → noB X (A 0 0 - r) → BT U A (boX A + 1) → HM (U 79) A → (∀ k, k < 12 → U 83 k = f k) → ∃ U', f_X10_findPairs_140 m (nI X) U = some U' ∧ (∀ k, k < 12 → U' 83 k = ptN A r X f k) ∧ ∀ a e, a ≠ 83 → U' a e = U a e := by
  intro r
  have hn := hV.1.1
  have hF := fu_big
  have hbo := bo_lt hn
  induction r with
  | zero =>
    intro m X f U _ hm hX hx hno hB hM h83
    obtain ⟨q, rfl⟩ : ∃ q, m = q + 1 := ⟨m - 1, by omega⟩
    have h0 : X = 0 := by
      apply Nat.eq_of_testBit_eq
      intro i
      rw [Nat.zero_testBit]
      cases hb : X.testBit i with
      | false => rfl
      | true =>
        have := hno i (by rw [Nat.sub_zero]; exact (hx i hb).1)
        rw [hb] at this
        cases this
    rw [f_X10_findPairs_140, h0, if_pos (show nI 0 = (0 : Int32) from rfl)]
    exact ⟨U, rfl, h83, fun _ _ _ => rfl⟩
  | succ r ih =>
    intro m X f U hr hm hX hx hno hB hM h83
    rw [ptN_s]
    generalize hi : A 0 0 - (r + 1) = i at hno ⊢
    have hin : i < A 0 0 := by omega
    have hi12 : i < 12 := by omega
    have hri : A 0 0 - r = i + 1 := by omega
    have hX4 : X < 4096 := by omega
    have hX2 : rmN X i < 4096 := Nat.lt_of_le_of_lt (rm_le _ _) hX4
    have hle := rm_le X i
    cases hb : X.testBit i with
    | false =>
      rw [if_neg (by simp)]
      have hno2 : noB X (i + 1) := fun j hj => by
        by_cases e : j = i
        · rw [e]; exact hb
        · exact hno j (by omega)
      exact ih m X f U (by omega) (by omega) hX hx (by rw [hri]; exact hno2) hB hM h83
    | true =>
      rw [if_pos rfl]
      obtain ⟨q, rfl⟩ : ∃ q, m = q + 1 := ⟨m - 1, by omega⟩
      have hlow := noB_low hX4 hi12 hno
      have h0 : X ≠ 0 := fun e => by rw [e, Nat.zero_testBit] at hb; cases hb
      have hfp := fpc_l hV hM hX4 hin hb hx (fun Y h1 h2 => hB Y (by omega) h2) (fun o4 => f_X10_findPairs_219 U (nI X) (nI i) o4 (f_X10_findPairs_140 q)) (A 0 0 - (i + 1)) fu (nI i) (by omega) (by omega)
      rw [show i + 1 + (A 0 0 - (i + 1)) = A 0 0 by omega] at hfp
      rw [f_X10_findPairs_140, if_neg (nI_ne0 (by omega) (by omega)), lws_M hX4 hi12 hb hno, sb, show inB (0 : Int32) 205 = true from rfl, gd_t, show ix (0 : Int32) = 0 from rfl, hM.1.1, nm_eq, hfp, show fsN (chB A X i) (A 0 0 - (i + 1)) (i + 1) = chN2 A X i from rfl]
      unfold f_X10_findPairs_219
      cases hc : chN2 A X i with
      | none =>
        show ∃ U', nm (nI X &&& ((((1 : Int32) <<< (nI i &&& 31)) ^^^ (-1 : Int32)) &&& (((1 : Int32) <<< (nI i &&& 31)) ^^^ (-1 : Int32)))) _ = some U' ∧ _
        rw [nm_eq, ← Int32.and_assoc, rm_I hi12, rm_I hi12, rm_same hX2 hi12 (by rw [rm_bit hX4 hi12]; simp)]
        show ∃ U', (if nI i = nI i then f_X10_findPairs_140 q (nI (rmN X i)) U else _) = some U' ∧ _
        rw [if_pos rfl]
        exact ih q (rmN X i) f U (by omega) (by omega) (by omega) (inX_rm hX4 hi12 hx) (by rw [hri]; exact hlow) hB hM h83
      | some j =>
        obtain ⟨j1, j2, j3⟩ := ch_some hc
        have hj12 : j < 12 := by omega
        have hle2 := rm_le (rmN X i) j
        show ∃ U', nm (nI X &&& ((((1 : Int32) <<< (nI i &&& 31)) ^^^ (-1 : Int32)) &&& (((1 : Int32) <<< (nI j &&& 31)) ^^^ (-1 : Int32)))) (fun x37 => if nI j = nI i then _ else gd (inB (nI i) 12) (nm (up2 U 83 (ix (nI i)) (nI j)) fun U40 => gd (inB (nI j) 12) (nm (up2 U40 83 (ix (nI j)) (nI i)) fun U42 => f_X10_findPairs_140 q x37 U42))) = some U' ∧ _
        rw [nm_eq, ← Int32.and_assoc, rm_I hi12, rm_I hj12, if_neg (by rw [nI_eq (by omega) (by omega)]; omega), inBn hi12 (by omega), gd_t, nm_eq, inBn hj12 (by omega), gd_t, nm_eq, ixn (show i < 2 ^ 31 by omega), ixn (show j < 2 ^ 31 by omega)]
        obtain ⟨U2, b1, b2, b3⟩ := ih q (rmN (rmN X i) j) (upF (upF f i (nI j)) j (nI i)) (up2 (up2 U 83 i (nI j)) 83 j (nI i)) (by omega) (by omega) (by omega) (inX_rm hX2 hj12 (inX_rm hX4 hi12 hx)) (by rw [hri]; exact noB_rm hX2 hj12 hlow) (fun Y h1 h2 => by rw [up2_ne _ (by omega), up2_ne _ (by omega)]; exact hB Y h1 h2) (by rw [up2_row _ (by omega), up2_row _ (by omega)]; exact hM) (fun k hk => by
          unfold upF
          by_cases e1 : k = j
          · rw [e1, up2_eq, if_pos rfl]
          · rw [up2_ne _ (by omega), if_neg e1]
            by_cases e2 : k = i
            · rw [e2, up2_eq, if_pos rfl]
            · rw [up2_ne _ (by omega), if_neg e2]
              exact h83 k hk)
        exact ⟨U2, b1, b2, fun a e ha => by rw [b3 a e ha, up2_ne _ (by omega), up2_ne _ (by omega)]⟩
theorem f83_l (ke : SI → Option SI) : ∀ (d m k : Nat) (U : SI), k + d = 12 → d < m → (∀ j, j < k → U 83 j = -4) → ∃ U', f_X10_findPairs_118 ke m (nI k) U = ke U' ∧ (∀ j, j < 12 → U' 83 j = -4) ∧ ∀ x e, x ≠ 83 → U' x e = U x e := by
  intro d
  induction d with
  | zero =>
    intro m k S hk hm h
    obtain ⟨q, rfl⟩ : ∃ q, m = q + 1 := ⟨m - 1, by omega⟩
    rw [f_X10_findPairs_118, if_pos (show (12 : Int32) ≤ nI k from nI_le (a := 12) (by omega) (by omega))]
    exact ⟨S, rfl, fun j hj => h j (by omega), fun _ _ _ => rfl⟩
  | succ d ih =>
    intro m k S hk hm h
    obtain ⟨q, rfl⟩ : ∃ q, m = q + 1 := ⟨m - 1, by omega⟩
    rw [f_X10_findPairs_118, if_neg (show ¬ (12 : Int32) ≤ nI k from nI_ge (b := 12) (by omega) (by omega)), inBn (show k < 12 by omega) (by omega), gd_t, nm_eq, ixn (by omega), nI_1]
    obtain ⟨S', a1, a2, a3⟩ := ih q (k + 1) (up2 S 83 k (-4)) (by omega) (by omega) (fun j hj => by
      by_cases e : j = k
      · rw [e, up2_eq]
      · rw [up2_ne _ (by omega)]; exact h j (by omega))
    exact ⟨S', a1, a2, fun x e hx => by rw [a3 x e hx, up2_ne _ (by omega)]⟩
theorem fnd_M {U : SI} {A : VW} (hV : HV A) (hM : HM (U 79) A) : ∃ U', f_X10_findPairs U = some U' ∧ (∀ k, k < 12 → U' 83 k = ptF A k) ∧ ∀ a e, a ≠ 82 → a ≠ 83 → U' a e = U a e := by
  have hn := hV.1.1
  have hF := fu_big
  have hbo := bo_lt hn
  have pm := plc_M hV hM (v := 0) (by omega)
  rw [show nI 0 = (0 : Int32) from rfl] at pm
  have h00 : bs10 A 0 = 0 := by
    have := bs_all (g10 A) (n := A 0 0) (X := 0) (r := 0) (by omega) (fun j _ => Nat.zero_testBit j)
    exact this.symm
  unfold f_X10_findPairs
  rw [pm, sb, show inB (0 : Int32) 4096 = true from rfl, gd_t, nm_eq, show ix (0 : Int32) = 0 from rfl, show nI (seN (fun i => A 14 i == 0) (A 0 0)) = nI (boX A) from rfl]
  obtain ⟨U1, a1, a2, a3⟩ := fpo_l hV (fun Uo => f_X10_findPairs_116 Uo (nI (boX A))) (boX A) fu 1 (up2 U 82 0 0) (by omega) (by omega) (by omega) (by rw [up2_row _ (by omega)]; exact hM) (fun Y h1 h2 => by rw [show Y = 0 by omega, up2_eq, h00]; rfl)
  rw [show (1 : Int32) = nI 1 from rfl, a1]
  unfold f_X10_findPairs_116
  obtain ⟨U2, b1, b2, b3⟩ := f83_l (fun Uo => f_X10_findPairs_138 Uo (nI (boX A))) 12 fu 0 U1 (by omega) (by omega) (fun j hj => by omega)
  rw [show (0 : Int32) = nI 0 from rfl, b1]
  unfold f_X10_findPairs_138
  have f2 : ∀ a e, a ≠ 82 → a ≠ 83 → U2 a e = U a e := fun a e h1 h2 => by rw [b3 a e h2, a3 a e h1, up2_ne _ (by omega)]
  obtain ⟨U3, c1, c2, c3⟩ := fpt_M hV (A 0 0) fu (boX A) (fun _ => -4) U2 (by omega) (by omega) (Nat.le_refl _) (fun k hk => by
    rw [bo_bit] at hk
    simp at hk
    exact hk) (by rw [Nat.sub_self]; exact noB_0 _) (fun Y h1 h2 => by rw [b3 _ _ (by omega)]; exact a2 Y h1 h2) (by rw [show U2 79 = U 79 from funext fun e => f2 _ _ (by omega) (by omega)]; exact hM) b2
  exact ⟨U3, c1, c2, fun a e h1 h2 => by rw [c3 a e h2, f2 a e h1 h2]⟩
