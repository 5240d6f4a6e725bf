theorem ab_nI {a b c d : Nat} (ha : a ≤ 99) (hb : b ≤ 99) (hc : c ≤ 99) (hd : d ≤ 99) : (nI a + nI b - nI c - nI d).toInt = (a : Int) + b - c - d := by
  rw [nI_add, Int32.toInt_sub, pk_sub_toInt (by omega) (by omega), nI_toInt (by omega)]
  exact Int.bmod_eq_of_le (by omega) (by omega)
theorem neg_toI {x : Int32} {k : Nat} (hk : k < 2 ^ 30) (h : x.toInt = -(k : Int)) : -x = nI k := by
  apply Int32.toInt_inj.mp
  rw [Int32.toInt_neg, h, nI_toInt (by omega)]
  rw [Int.bmod_eq_of_le (by omega) (by omega)]
  omega
theorem pos_toI {x : Int32} {k : Nat} (hk : k < 2 ^ 30) (h : x.toInt = (k : Int)) : x = nI k := by
  apply Int32.toInt_inj.mp
  rw [h, nI_toInt (by omega)]
theorem dis_C {S : SI} {A : VW} (hV : HV A) (hC : HC S 1 A) {i j : Nat} (hi : i < A 0 0) (hj : j < A 0 0) : f_X1_distance S (nI i) (nI j) = some (nI (dsN A i j)) := by
  have hn := hV.1.1
  obtain ⟨g0, g1, g2, g3, g4, g5, g6, g7, g8⟩ : skC (S (9 + i)) A i := hC.2.2.2 i hi
  obtain ⟨k0, k1, k2, k3, k4, k5, k6, k7, k8⟩ : skC (S (9 + j)) A j := hC.2.2.2 j hj
  have v1 := (hV.2.2.2 i hi).1
  have v2 := (hV.2.2.2 j hj).1
  have hd := ds_le hV hi hj
  unfold f_X1_distance
  rw [inBn (show i < 12 by omega) (by omega), inBn (show j < 12 by omega) (by omega), gd_t, gd_t, gd_t, gd_t, ixn (show i < 2 ^ 31 by omega), ixn (show j < 2 ^ 31 by omega), g2, g3, k2, k3]
  have e := ab_nI (show A 12 i ≤ 99 by omega) (show A 13 i ≤ 99 by omega) (show A 12 j ≤ 99 by omega) (show A 13 j ≤ 99 by omega)
  congr 1
  unfold abI dsN at *
  by_cases c : (0 : Int32) ≤ nI (A 12 i) + nI (A 13 i) - nI (A 12 j) - nI (A 13 j)
  · rw [if_pos c]
    rw [le_toInt, e, show (0 : Int32).toInt = 0 from rfl] at c
    exact pos_toI (by omega) (by rw [e]; omega)
  · rw [if_neg c]
    rw [le_toInt, e, show (0 : Int32).toInt = 0 from rfl] at c
    rw [Int32.zero_sub]
    exact neg_toI (by omega) (by rw [e]; omega)
theorem dis_M {U : SI} {A : VW} (hV : HV A) (hM : HM (U 79) A) {i j : Nat} (hi : i < A 0 0) (hj : j < A 0 0) : f_X10_distance U (nI i) (nI j) = some (nI (dsN A i j)) := by
  have hn := hV.1.1
  have g2 : U 79 (13 + 10 * i + 2) = nI (A 12 i) := (hM.2.2.2 i hi).2.2.1
  have g3 : U 79 (13 + 10 * i + 3) = nI (A 13 i) := (hM.2.2.2 i hi).2.2.2.1
  have k2 : U 79 (13 + 10 * j + 2) = nI (A 12 j) := (hM.2.2.2 j hj).2.2.1
  have k3 : U 79 (13 + 10 * j + 3) = nI (A 13 j) := (hM.2.2.2 j hj).2.2.2.1
  have v1 := (hV.2.2.2 i hi).1
  have v2 := (hV.2.2.2 j hj).1
  have hd := ds_le hV hi hj
  unfold f_X10_distance
  rw [of2 (by omega), sb, of3 (by omega), sb, of2 (by omega), sb, of3 (by omega), sb, nm_eq, g2, g3, k2, k3]
  have e := ab_nI (show A 12 i ≤ 99 by omega) (show A 13 i ≤ 99 by omega) (show A 12 j ≤ 99 by omega) (show A 13 j ≤ 99 by omega)
  unfold dsN at *
  by_cases c : (0 : Int32) ≤ nI (A 12 i) + nI (A 13 i) - nI (A 12 j) - nI (A 13 j)
  · rw [if_pos c]
    rw [le_toInt, e, show (0 : Int32).toInt = 0 from rfl] at c
    exact congrArg some (pos_toI (by omega) (by rw [e]; omega))
  · rw [if_neg c]
    rw [le_toInt, e, show (0 : Int32).toInt = 0 from rfl] at c
    exact congrArg some (neg_toI (by omega) (by rw [e]; omega))
/-- the class's gains; what it knows -/
def PG (S : SI) (A : VW) : Prop := ∀ i j, i < j → j < A 0 0 → S 54 (12 * i + j) = nI (g2N A i j)
def KN (S : SI) (A : VW) : Prop := ∀ X, X < 2 ^ A 0 0 → S 55 X = -1 ∨ S 55 X = nI (bsN A X)
theorem g2_le (A : VW) (i j : Nat) : g2N A i j ≤ 2000 := by
  unfold g2N
  split <;> omega
theorem g2_pos {A : VW} (hV : HV A) {i j : Nat} (hi : i < A 0 0) (hj : j < A 0 0) : 0 < g2N A i j ↔ fitB A i j = true := by
  have hd := ds_le hV hi hj
  unfold g2N
  split
  · rename_i h
    exact ⟨fun _ => h, fun _ => by omega⟩
  · rename_i h
    exact ⟨fun z => by omega, fun z => absurd z h⟩
theorem nI_le0 {a : Nat} (h : a < 2 ^ 31) : (nI a ≤ (0 : Int32)) = (a ≤ 0) := propext ⟨fun z => Classical.byContradiction fun w => nI_ge (a := 0) (b := a) (by omega) (by omega) z, fun z => by rw [show a = 0 by omega]; decide⟩
theorem bit1_if {w i : Nat} (hw : w < 2 ^ 31) (hi : i < 32) : (((nI w) >>> (nI i &&& 31)) &&& (1 : Int32) = 1) = (w.testBit i = true) := by
  rw [bitI hw hi]
  cases w.testBit i <;> simp <;> decide
theorem n_m1 {v : Nat} (h : v < 2 ^ 31) : ¬ nI v = (-1 : Int32) := fun e => by
  have := congrArg Int32.toInt e
  rw [nI_toInt h, show (-1 : Int32).toInt = -1 from rfl] at this
  omega
theorem n_m4 {v : Nat} (h : v < 2 ^ 31) : ¬ nI v = (-4 : Int32) := fun e => by
  have := congrArg Int32.toInt e
  rw [nI_toInt h, show (-4 : Int32).toInt = -4 from rfl] at this
  omega
theorem mg_C {A : VW} (hV : HV A) : ∀ (d r X : Nat) (S : SI), r < d → r ≤ A 0 0 → X < 2 ^ A 0 0 → noB X (A 0 0 - r) → PG S A → KN S A → ∃ S', f_X3_mostGain d S (nI (A 0 0 - r)) (nI X) (nI (A 0 0)) = some (nI (bsN A X), S') ∧ KN S' A ∧ ∀ a k, a ≠ 55 → S' a k = S a k := by
  intro d
  have hn := hV.1.1
  have hF := fu_big
  have hp := pow12 hn
  induction d with
  | zero => intro r X S h; omega
  | succ d ih =>
    intro r X S hrd hr hX hno hg hk
    have hX4 : X < 4096 := by omega
    rw [f_X3_mostGain]
    cases r with
    | zero =>
      rw [Nat.sub_zero] at hno ⊢
      rw [if_neg (show ¬ nI (A 0 0) < nI (A 0 0) by rw [nI_ltI (by omega) (by omega)]; omega)]
      have e0 : bsN A X = 0 := by
        have := bs_all (g2N A) (n := A 0 0) (X := X) (r := 0) (by omega) (by rw [Nat.sub_zero]; exact hno)
        exact this.symm
      rw [e0]
      exact ⟨S, rfl, hk, fun _ _ _ => rfl⟩
    | succ r =>
      generalize hi : A 0 0 - (r + 1) = i at hno ⊢
      have hin : i < A 0 0 := by omega
      have hi12 : i < 12 := by omega
      have hri : A 0 0 - r = i + 1 := by omega
      have hX2 : rmN X i < 4096 := Nat.lt_of_le_of_lt (rm_le _ _) hX4
      rw [if_pos (nI_lt hin (by omega)), nm_eq, rm_I hi12, nI_1]
      cases hb : X.testBit i with
      | false =>
        rw [if_pos (by rw [rm_same hX4 hi12 hb])]
        obtain ⟨S1, a1, a2, a3⟩ := ih r X S (by omega) (by omega) hX (fun j hj => by
          by_cases e : j = i
          · rw [e]; exact hb
          · exact hno j (by omega)) hg hk
        rw [hri] at a1
        rw [a1, sb]
        exact ⟨S1, rfl, a2, a3⟩
      | true =>
        rw [if_neg (by rw [nI_eq (by omega) (by omega)]; exact rm_ne hX4 hi12 hb), inBn (show X < 4096 from hX4) (by omega), gd_t, ixn (show X < 2 ^ 31 by omega)]
        have hbl := bs_le hV hX4
        have hlow := noB_low hX4 hi12 hno
        rcases hk X hX with h1 | h1
        · rw [if_pos h1]
          obtain ⟨S1, a1, a2, a3⟩ := ih r (rmN X i) S (by omega) (by omega) (Nat.lt_of_le_of_lt (rm_le _ _) hX) (by rw [hri]; exact hlow) hg hk
          rw [hri] at a1
          rw [a1, sb, nm_eq]
          dsimp only
          have hg1 : PG S1 A := fun x y h1 h2 => by rw [a3 _ _ (by omega)]; exact hg x y h1 h2
          -- the loop
          have lp : ∀ (c m k v : Nat) (S2 : SI), k + c = A 0 0 → i < k → c < m → v ≤ 100000 → PG S2 A → KN S2 A → (∀ a e, a ≠ 55 → S2 a e = S a e) → ∃ S3, f_X3_mostGain_66 (nI i) (nI (A 0 0)) (nI (rmN X i)) (fun o6 So => f_X3_mostGain_134 So (nI X) o6) (f_X3_mostGain d) m (nI v) (nI k) S2 = f_X3_mostGain_134 S3 (nI X) (nI (mlN (fun j => g2N A i j + bsN A (rmN (rmN X i) j)) (fun j => decide (0 < g2N A i j) && X.testBit j) c k v)) ∧ KN S3 A ∧ ∀ a e, a ≠ 55 → S3 a e = S a e := by
            intro c
            induction c with
            | zero =>
              intro m k v S2 hk0 hik hm hv hg2 hk2 hf2
              obtain ⟨q, rfl⟩ : ∃ q, m = q + 1 := ⟨m - 1, by omega⟩
              rw [f_X3_mostGain_66, if_pos (nI_le (by omega) (by omega))]
              exact ⟨S2, rfl, hk2, hf2⟩
            | succ c ihc =>
              intro m k v S2 hk0 hik hm hv hg2 hk2 hf2
              obtain ⟨q, rfl⟩ : ∃ q, m = q + 1 := ⟨m - 1, by omega⟩
              have hkn : k < A 0 0 := by omega
              have hgl := g2_le A i k
              have hX3 : rmN (rmN X i) k < 4096 := Nat.lt_of_le_of_lt (rm_le _ _) hX2
              have hbl3 := bs_le hV hX3
              have e12 : nI i * (12 : Int32) + nI k = nI (12 * i + k) := by rw [show (12 : Int32) = nI 12 from rfl, pk_mul, nI_add, Nat.mul_comm]
              rw [f_X3_mostGain_66, if_neg (nI_ge (by omega) (by omega)), e12, inBn (show 12 * i + k < 144 by omega) (by omega), gd_t, nm_eq, ixn (by omega), hg2 i k hik hkn]
              simp only [nI_le0 (show g2N A i k < 2 ^ 31 by omega), bit1_if (show rmN X i < 2 ^ 31 by omega) (show k < 32 by omega), nI_1, rm_I (X := rmN X i) (show k < 12 by omega)]
              show ∃ S3, _ = f_X3_mostGain_134 S3 (nI X) (nI (mlN (fun j => g2N A i j + bsN A (rmN (rmN X i) j)) (fun j => decide (0 < g2N A i j) && X.testBit j) c (k + 1) (if (decide (0 < g2N A i k) && X.testBit k) = true then max v (g2N A i k + bsN A (rmN (rmN X i) k)) else v))) ∧ _
              have hbk : (rmN X i).testBit k = X.testBit k := by rw [rm_bit hX4 hi12]; simp; omega
              rw [hbk]
              by_cases c1 : g2N A i k ≤ 0
              · rw [if_pos c1, decide_eq_false (show ¬ 0 < g2N A i k by omega), Bool.false_and, if_neg (by simp)]
                exact ihc q (k + 1) v S2 (by omega) (by omega) (by omega) hv hg2 hk2 hf2
              · rw [if_neg c1, decide_eq_true (show 0 < g2N A i k by omega), Bool.true_and]
                by_cases c2 : X.testBit k = true
                · rw [if_pos c2, if_pos c2]
                  obtain ⟨S4, b1, b2, b3⟩ := ih r (rmN (rmN X i) k) S2 (by omega) (by omega) (Nat.lt_of_le_of_lt (rm_le _ _) (Nat.lt_of_le_of_lt (rm_le _ _) hX)) (by rw [hri]; exact noB_rm hX2 (by omega) hlow) hg2 hk2
                  rw [hri] at b1
                  rw [b1, sb, nm_eq, nI_add, mx_nI (by omega) (by omega)]
                  exact ihc q (k + 1) _ S4 (by omega) (by omega) (by omega) (by omega) (fun x y h1 h2 => by rw [b3 _ _ (by omega)]; exact hg2 x y h1 h2) b2 (fun a e ha => by rw [b3 a e ha]; exact hf2 a e ha)
                · rw [if_neg c2, if_neg c2]
                  exact ihc q (k + 1) v S2 (by omega) (by omega) (by omega) hv hg2 hk2 hf2
          obtain ⟨S3, b1, b2, b3⟩ := lp r fu (i + 1) (bsN A (rmN X i)) S1 (by omega) (by omega) (by omega) (by have := bs_le hV hX2; omega) hg1 a2 a3
          rw [b1]
          unfold f_X3_mostGain_134
          have hbs := bs_low (g2N A) (n := A 0 0) (X := X) (i := i) hn hX4 hin hb hno
          rw [show A 0 0 - (i + 1) = r by omega] at hbs
          rw [inBn hX4 (by omega), gd_t, nm_eq, ixn (by omega), show mlN (fun j => g2N A i j + bsN A (rmN (rmN X i) j)) (fun j => decide (0 < g2N A i j) && X.testBit j) r (i + 1) (bsN A (rmN X i)) = bsN A X from hbs.symm]
          refine ⟨_, rfl, fun Y hY => ?_, fun a e ha => by rw [up2_ne _ (by omega)]; exact b3 a e ha⟩
          by_cases e : Y = X
          · rw [e, up2_eq]; exact Or.inr rfl
          · rw [up2_ne _ (by omega)]; exact b2 Y hY
        · rw [h1, if_neg (n_m1 (by omega)), gd_t]
          exact ⟨S, rfl, hk, fun _ _ _ => rfl⟩
def o4I : Option Nat → Int32
  | none => -4
  | some j => nI j
theorem ff_C {A : VW} (hV : HV A) {X i : Nat} {S : SI} (hi : i < A 0 0) (hX : X < 2 ^ A 0 0) (hno : noB X i) (hg : PG S A) (hk : KN S A) : ∃ S', f_X3_firstFellow S (nI i) (nI X) (nI (A 0 0)) = some (if X.testBit i = true then o4I (chN2 A X i) else -4, S') ∧ KN S' A ∧ ∀ a k, a ≠ 55 → S' a k = S a k := by
  have hn := hV.1.1
  have hF := fu_big
  have hp := pow12 hn
  have hX4 : X < 4096 := by omega
  have hi12 : i < 12 := by omega
  have hX2 : rmN X i < 4096 := Nat.lt_of_le_of_lt (rm_le _ _) hX4
  have hlow := noB_low hX4 hi12 hno
  unfold f_X3_firstFellow
  rw [nm_eq, rm_I hi12]
  cases hb : X.testBit i with
  | false =>
    rw [if_pos (by rw [rm_same hX4 hi12 hb]), if_neg (by simp)]
    exact ⟨S, rfl, hk, fun _ _ _ => rfl⟩
  | true =>
    rw [if_neg (by rw [nI_eq (by omega) (by omega)]; exact rm_ne hX4 hi12 hb), if_pos rfl]
    obtain ⟨S1, a1, a2, a3⟩ := mg_C hV 41 (A 0 0 - i) X S (by omega) (by omega) hX (by rw [show A 0 0 - (A 0 0 - i) = i by omega]; exact hno) hg hk
    rw [show A 0 0 - (A 0 0 - i) = i by omega] at a1
    rw [a1, sb, nm_eq, nI_1]
    dsimp only
    have hbX := bs_le hV hX4
    have lp : ∀ (c m k : Nat) (S2 : SI), k + c = A 0 0 → i < k → c < m → PG S2 A → KN S2 A → (∀ a e, a ≠ 55 → S2 a e = S a e) → ∃ S3, f_X3_firstFellow_39 (nI i) (nI (A 0 0)) (nI (rmN X i)) (nI (bsN A X)) m (nI k) S2 = some (o4I (fsN (chB A X i) c k), S3) ∧ KN S3 A ∧ ∀ a e, a ≠ 55 → S3 a e = S a e := by
      intro c
      induction c with
      | zero =>
        intro m k S2 hk0 hik hm hg2 hk2 hf2
        obtain ⟨q, rfl⟩ : ∃ q, m = q + 1 := ⟨m - 1, by omega⟩
        rw [f_X3_firstFellow_39, if_pos (nI_le (by omega) (by omega))]
        exact ⟨S2, rfl, hk2, hf2⟩
      | succ c ihc =>
        intro m k S2 hk0 hik hm hg2 hk2 hf2
        obtain ⟨q, rfl⟩ : ∃ q, m = q + 1 := ⟨m - 1, by omega⟩
        have hkn : k < A 0 0 := by omega
        have hgl := g2_le A i k
        have hX3 : rmN (rmN X i) k < 4096 := Nat.lt_of_le_of_lt (rm_le _ _) hX2
        have hbl3 := bs_le hV hX3
        have e12 : nI i * (12 : Int32) + nI k = nI (12 * i + k) := by rw [show (12 : Int32) = nI 12 from rfl, pk_mul, nI_add, Nat.mul_comm]
        have hgp := g2_pos hV hi hkn
        rw [f_X3_firstFellow_39, if_neg (nI_ge (by omega) (by omega)), e12, inBn (show 12 * i + k < 144 by omega) (by omega), gd_t, nm_eq, ixn (by omega), hg2 i k hik hkn]
        simp only [nI_le0 (show g2N A i k < 2 ^ 31 by omega), bit1_if (show rmN X i < 2 ^ 31 by omega) (show k < 32 by omega), nI_1, rm_I (X := rmN X i) (show k < 12 by omega)]
        have hbk : (rmN X i).testBit k = X.testBit k := by rw [rm_bit hX4 hi12]; simp; omega
        rw [hbk]
        unfold fsN chB
        by_cases c1 : g2N A i k ≤ 0
        · have hf : fitB A i k = false := by
            cases hz : fitB A i k with
            | false => rfl
            | true => have := hgp.mpr hz; omega
          rw [if_pos c1, hf, Bool.false_and, Bool.false_and, if_neg (by simp)]
          exact ihc q (k + 1) S2 (by omega) (by omega) (by omega) hg2 hk2 hf2
        · have hf : fitB A i k = true := hgp.mp (by omega)
          rw [if_neg c1, hf, Bool.true_and]
          by_cases c2 : X.testBit k = true
          · rw [if_pos c2, c2, Bool.true_and]
            obtain ⟨S4, b1, b2, b3⟩ := mg_C hV 41 (A 0 0 - (i + 1)) (rmN (rmN X i) k) S2 (by omega) (by omega) (Nat.lt_of_le_of_lt (rm_le _ _) (Nat.lt_of_le_of_lt (rm_le _ _) hX)) (by rw [show A 0 0 - (A 0 0 - (i + 1)) = i + 1 by omega]; exact noB_rm hX2 (by omega) hlow) hg2 hk2
            rw [show A 0 0 - (A 0 0 - (i + 1)) = i + 1 by omega] at b1
            rw [b1, sb]
            simp only [nI_add, nI_eq (show g2N A i k + bsN A (rmN (rmN X i) k) < 2 ^ 31 by omega) (show bsN A X < 2 ^ 31 by omega)]
            by_cases c3 : g2N A i k + bsN A (rmN (rmN X i) k) = bsN A X
            · rw [if_pos c3, if_pos (by simp [c3])]
              exact ⟨S4, rfl, b2, fun a e ha => by rw [b3 a e ha]; exact hf2 a e ha⟩
            · rw [if_neg c3, if_neg (by simp [c3])]
              exact ihc q (k + 1) S4 (by omega) (by omega) (by omega) (fun x y h1 h2 => by rw [b3 _ _ (by omega)]; exact hg2 x y h1 h2) b2 (fun a e ha => by rw [b3 a e ha]; exact hf2 a e ha)
          · have hz : X.testBit k = false := by cases hq : X.testBit k with
              | false => rfl
              | true => exact absurd hq c2
            rw [if_neg c2, hz, Bool.false_and, if_neg (by simp)]
            exact ihc q (k + 1) S2 (by omega) (by omega) (by omega) hg2 hk2 hf2
    exact lp (A 0 0 - (i + 1)) fu (i + 1) S1 (by omega) (by omega) (by omega) (fun x y h1 h2 => by rw [a3 _ _ (by omega)]; exact hg x y h1 h2) a2 a3
