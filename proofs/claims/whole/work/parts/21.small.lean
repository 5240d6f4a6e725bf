theorem m1_n : (-1 : Int32) = nI 4294967295 := by decide
theorem se_not (p q : Nat → Bool) {n : Nat} (h : n ≤ 12) : nI (seN p n) &&& (nI (seN q n) ^^^ (-1 : Int32)) = nI (seN (fun i => p i && !q i) n) := by
  rw [m1_n, nx_xor, nx_and]
  congr 1
  apply Nat.eq_of_testBit_eq
  intro i
  rw [Nat.testBit_and, Nat.testBit_xor, se_bit, se_bit, se_bit, show (4294967295 : Nat) = 2 ^ 32 - 1 from rfl, Nat.testBit_two_pow_sub_one]
  by_cases hi : i < n
  · simp [hi, show i < 32 by omega]
  · simp [hi]
theorem i_add1 (a b : Nat) : nI a - nI b + (1 : Int32) = nI (a + 1) - nI b := by
  rw [← nI_1, Int32.sub_eq_add_neg, Int32.sub_eq_add_neg, Int32.add_assoc, Int32.add_assoc, Int32.add_comm (-nI b)]
theorem i_sub1 (a b : Nat) : nI a - nI b + (-1 : Int32) = nI a - nI (b + 1) := by
  rw [← nI_1, Int32.sub_eq_add_neg, Int32.sub_eq_add_neg, Int32.add_assoc, Int32.neg_add, Int32.sub_eq_add_neg]
def asN (A : VW) (k w i : Nat) : Bool := A 10 i == k && ((A 14 i == 1) == (w == 0))
theorem lac_l {U : SI} {A : VW} (hV : HV A) (hM : HM (U 79) A) {kd w : Nat} (hkd : kd < 6) (hw : w < 2) : ∀ (d m k : Nat), k + d = A 0 0 → d < m → f_X10_lacks_31 U (nI kd) (nI w) m (nI (fb_ct (fun i => asN A kd w i && A 11 i == 0) k) - nI (fb_ct (fun i => asN A kd w i && !(A 11 i == 0)) k)) (nI k) = some (nI (fb_ct (fun i => asN A kd w i && A 11 i == 0) (A 0 0)) - nI (fb_ct (fun i => asN A kd w i && !(A 11 i == 0)) (A 0 0))) := by
  intro d
  have hn := hV.1.1
  induction d with
  | zero =>
    intro m k hk hm
    obtain ⟨q, rfl⟩ : ∃ q, m = q + 1 := ⟨m - 1, by omega⟩
    rw [f_X10_lacks_31, show inB (0 : Int32) 205 = true from rfl, gd_t, show ix (0 : Int32) = 0 from rfl, hM.1.1, if_pos (nI_le (by omega) (by omega)), show k = A 0 0 by omega]
  | succ d ih =>
    intro m k hk hm
    obtain ⟨q, rfl⟩ : ∃ q, m = q + 1 := ⟨m - 1, by omega⟩
    have hkn : k < A 0 0 := by omega
    have hv := hV.2.2.2 k hkn
    have hb : A 14 k < 3 := hv.2.1.1
    have hb1 : A 11 k < 2 := hv.1.2.1
    have hb0 : A 10 k < 6 := hv.1.1
    have g4 : U 79 (13 + 10 * k + 4) = nI (A 14 k) := (hM.2.2.2 k hkn).2.2.2.2.1
    have g1 : U 79 (13 + 10 * k + 1) = nI (A 11 k) := (hM.2.2.2 k hkn).2.1
    have g0 : U 79 (13 + 10 * k + 0) = nI (A 10 k) := (hM.2.2.2 k hkn).1
    rw [f_X10_lacks_31, show inB (0 : Int32) 205 = true from rfl, gd_t, show ix (0 : Int32) = 0 from rfl, hM.1.1, if_neg (nI_ge (by omega) (by omega))]
    unfold f_X10_lacks_69 f_X10_lacks_78 f_X10_lacks_97
    simp only [of0 (show k < 12 by omega), of1 (show k < 12 by omega), of4 (show k < 12 by omega), sb, g0, g1, g4, nm_eq]
    simp only [nI_1]
    simp only [show (nI (A 10 k) = nI kd) = (A 10 k = kd) from propext (nI_eq (by omega) (by omega)), show (nI (A 14 k) = (1 : Int32)) = (A 14 k = 1) from propext (nI_eq (b := 1) (by omega) (by omega)), show (nI (A 11 k) = (0 : Int32)) = (A 11 k = 0) from propext (nI_eq (b := 0) (by omega) (by omega)), show (nI w = (0 : Int32)) = (w = 0) from propext (nI_eq (b := 0) (by omega) (by omega))]
    have e1 : fb_ct (fun i => asN A kd w i && A 11 i == 0) (k + 1) = fb_ct (fun i => asN A kd w i && A 11 i == 0) k + (if (asN A kd w k && A 11 k == 0) = true then 1 else 0) := rfl
    have e2 : fb_ct (fun i => asN A kd w i && !(A 11 i == 0)) (k + 1) = fb_ct (fun i => asN A kd w i && !(A 11 i == 0)) k + (if (asN A kd w k && !(A 11 k == 0)) = true then 1 else 0) := rfl
    have hh := ih q (k + 1) (by omega) (by omega)
    rw [e1, e2] at hh
    have a1 := i_add1 (fb_ct (fun i => asN A kd w i && A 11 i == 0) k) (fb_ct (fun i => asN A kd w i && !(A 11 i == 0)) k)
    have a2 := i_sub1 (fb_ct (fun i => asN A kd w i && A 11 i == 0) k) (fb_ct (fun i => asN A kd w i && !(A 11 i == 0)) k)
    rw [a1, a2]
    generalize fb_ct (fun i => asN A kd w i && A 11 i == 0) k = ca at hh ⊢
    generalize fb_ct (fun i => asN A kd w i && !(A 11 i == 0)) k = cb at hh ⊢
    generalize fb_ct (fun i => asN A kd w i && A 11 i == 0) (A 0 0) = da at hh ⊢
    generalize fb_ct (fun i => asN A kd w i && !(A 11 i == 0)) (A 0 0) = db at hh ⊢
    unfold asN at hh
    have hw2 : w = 0 ∨ w = 1 := by omega
    by_cases c0 : A 10 k = kd <;> by_cases c4 : A 14 k = 1 <;> by_cases c1 : A 11 k = 0 <;> rcases hw2 with rfl | rfl <;> simp [c0, c4, c1] at hh ⊢ <;> exact hh
theorem op_lacks {P : Nat → Int32 → (Nat → Int32) → Prop} {S U : SI} (h : RR P S U) (v1 v2 : Int32) : ∃ r : Int32, f_X9_lacks S v1 v2 = some r ∧ f_X10_lacks U v1 v2 = some r := by
  obtain ⟨A, hV, hC, hM⟩ := h.1
  have hn := hV.1.1
  unfold f_X9_lacks f_X10_lacks
  simp only [wi _ 6 6 rfl, wi _ 2 2 rfl, mi _ 5 5 rfl, mi _ 1 1 rfl, sb]
  cases hv1 : inB v1 6 with
  | false => exact ⟨_, rfl, rfl⟩
  | true =>
    cases hv2 : inB v2 2 with
    | false => exact ⟨_, rfl, rfl⟩
    | true =>
      simp only [if_true, show ¬ (1 : Int32) = 0 by decide, if_false]
      obtain ⟨kd, hkd, rfl⟩ := inB_of hv1 (by omega)
      obtain ⟨w, hw, rfl⟩ := inB_of hv2 (by omega)
      have c1 := plc_C hV hC (v := 1) (by omega)
      have ch := hav_C hV hC (t := 1) (v := 0) (by omega) (by omega)
      have ck := hav_C hV hC (t := 0) (v := kd) (by omega) (by omega)
      have em := lac_l hV hM hkd hw (A 0 0) fu 0 (by omega) (by have := fu_big; omega)
      rw [show fb_ct (fun i => asN A kd w i && A 11 i == 0) 0 = 0 from rfl, show fb_ct (fun i => asN A kd w i && !(A 11 i == 0)) 0 = 0 from rfl, show nI 0 - nI 0 = (0 : Int32) from rfl, show nI 0 = (0 : Int32) from rfl] at em
      refine ⟨_, ?_, em⟩
      have key : ∀ p : Nat → Bool, (∀ i, p i = asN A kd w i) → (nI (pop (seN p (A 0 0) &&& seN (fun i => A (10 + 1) i == 0) (A 0 0))) - (nI (pop (seN p (A 0 0))) - nI (pop (seN p (A 0 0) &&& seN (fun i => A (10 + 1) i == 0) (A 0 0))))) = nI (fb_ct (fun i => asN A kd w i && A 11 i == 0) (A 0 0)) - nI (fb_ct (fun i => asN A kd w i && !(A 11 i == 0)) (A 0 0)) := by
        intro p hp
        have hpp : p = fun i => asN A kd w i := funext hp
        rw [hpp, pop_and _ _ hn, pop_se _ hn]
        have e := fb_ct_or (p := fun i => asN A kd w i && A 11 i == 0) (q := fun i => asN A kd w i && !(A 11 i == 0)) (n := A 0 0) (fun i _ => by cases asN A kd w i <;> cases (A 11 i == 0) <;> simp)
        have e3 : (fun i => (asN A kd w i && A 11 i == 0) || (asN A kd w i && !(A 11 i == 0))) = fun i => asN A kd w i := by
          funext i
          cases asN A kd w i <;> cases (A 11 i == 0) <;> rfl
        rw [e3] at e
        rw [e]
        congr 1
        rw [show (10 + 1 : Nat) = 11 from rfl, pk_sub (by omega)]
        congr 1
        omega
      rw [show (1 : Int32) = nI 1 from rfl, c1, sb, show (0 : Int32) = nI 0 from rfl, ck, sb]
      unfold f_X9_lacks_50
      rw [show (1 : Int32) = nI 1 from rfl, show (0 : Int32) = nI 0 from rfl, ch]
      simp only [nm_eq, sb]
      have hw2 : w = 0 ∨ w = 1 := by omega
      rcases hw2 with rfl | rfl
      · rw [if_pos rfl, nx_and, nx_and, se_and, bc_eq (Nat.lt_of_le_of_lt Nat.and_le_left (se_small _ hn)), sb, bc_eq (se_small _ hn), sb]
        congr 1
        exact key _ (fun i => by unfold asN; simp)
      · rw [if_neg (by decide), show (-nI 1 : Int32) = -1 from rfl, se_not _ _ hn, nx_and, bc_eq (Nat.lt_of_le_of_lt Nat.and_le_left (se_small _ hn)), sb, bc_eq (se_small _ hn), sb]
        congr 1
        exact key _ (fun i => by unfold asN; simp)
/-- does this set of KINDS do for all WISHES -/
def meet1 (A : VW) (x l : Nat) : Bool := A 2 l == 0 || !((A 2 l &&& x) == 0)
def meets (A : VW) (x : Nat) : Nat → Nat → Bool
  | _, 0 => true
  | k, d + 1 => meet1 A x k && meets A x (k + 1) d
theorem meet_l {S : SI} {A : VW} (hV : HV A) (hC : HC S 1 A) {x : Nat} (hx : x < 64) : ∀ (d m k : Nat), k + d = 3 → d < m → f_X1_meetsAllWishes_2 S (nI x) m (nI k) = some (if meets A x k d = true then 1 else 0) := by
  intro d
  induction d with
  | zero =>
    intro m k hk hm
    obtain ⟨q, rfl⟩ : ∃ q, m = q + 1 := ⟨m - 1, by omega⟩
    rw [f_X1_meetsAllWishes_2, if_pos (show (3 : Int32) ≤ nI k from nI_le (a := 3) (by omega) (by omega))]
    rfl
  | succ d ih =>
    intro m k hk hm
    obtain ⟨q, rfl⟩ : ∃ q, m = q + 1 := ⟨m - 1, by omega⟩
    have hw := hV.2.1.2.1 k (by omega)
    have hl : A 2 k &&& x < 64 := Nat.lt_of_le_of_lt Nat.and_le_right hx
    rw [f_X1_meetsAllWishes_2, if_neg (show ¬ (3 : Int32) ≤ nI k from nI_ge (b := 3) (by omega) (by omega)), inBn (show k < 3 by omega) (by omega), gd_t, gd_t, ixn (by omega), show S 8 k = nI (A 2 k) from hC.2.1.2.1 k (by omega), nx_and, nI_1, ih q (k + 1) (by omega) (by omega), show (0 : Int32) = nI 0 from rfl]
    simp only [nI_eq (show A 2 k < 2 ^ 31 by omega) (show 0 < 2 ^ 31 by omega), nI_eq (show A 2 k &&& x < 2 ^ 31 by omega) (show 0 < 2 ^ 31 by omega)]
    show _ = some (if (meet1 A x k && meets A x (k + 1) d) = true then 1 else nI 0)
    unfold meet1
    by_cases c1 : A 2 k = 0 <;> by_cases c2 : A 2 k &&& x = 0 <;> simp [c1, c2]
def bestN (A : VW) : Nat → Nat → Nat
  | 0, b => b
  | x + 1, b => bestN A x (if meets A x 0 3 = true ∧ pop x ≤ pop b then x else b)
theorem buyC_l {S : SI} {A : VW} (hV : HV A) (hC : HC S 1 A) : ∀ (x m b : Nat), x ≤ 64 → b < 64 → x < m → f_X9_buy_6 S m (nI b) (nI x - 1) = some (nI (bestN A x b)) := by
  intro x
  induction x with
  | zero =>
    intro m b _ hb hm
    obtain ⟨q, rfl⟩ : ∃ q, m = q + 1 := ⟨m - 1, by omega⟩
    rw [f_X9_buy_6, if_pos (show nI 0 - 1 < (0 : Int32) by decide)]
    rfl
  | succ x ih =>
    intro m b hx hb hm
    obtain ⟨q, rfl⟩ : ∃ q, m = q + 1 := ⟨m - 1, by omega⟩
    have e := meet_l hV hC (x := x) (by omega) 3 fu 0 (by omega) (by have := fu_big; omega)
    have p1 := pop_le x
    have p2 := pop_le b
    rw [f_X9_buy_6, nI_pred, if_neg (show ¬ nI x < (0 : Int32) from nI_pos (by omega))]
    unfold f_X1_meetsAllWishes
    rw [show (0 : Int32) = nI 0 from rfl, e, sb, bc_eq (show x < 4096 by omega), sb, bc_eq (show b < 4096 by omega), sb, show nI x + (-1 : Int32) = nI x - 1 by rw [Int32.sub_eq_add_neg], ih q b (by omega) hb (by omega), ih q x (by omega) (by omega) (by omega)]
    show _ = some (nI (bestN A x (if meets A x 0 3 = true ∧ pop x ≤ pop b then x else b)))
    simp only [nI_ltI (show pop b < 2 ^ 31 by omega) (show pop x < 2 ^ 31 by omega)]
    simp only [show (nI 0) = (0 : Int32) from rfl]
    cases hmx : meets A x 0 3 with
    | false => simp
    | true =>
      by_cases c : pop b < pop x
      · simp [c, show ¬ pop x ≤ pop b by omega]
      · simp [c, show pop x ≤ pop b by omega]
theorem buyI_l {U : SI} {A : VW} (hV : HV A) (hM : HM (U 79) A) {x : Nat} (hx : x < 64) (ke : Int32 → Option Int32) : ∀ (d m k : Nat) (b : Bool), k + d = 3 → d < m → f_X10_buy_15 U (nI x) ke m (if b = true then 1 else 0) (nI k) = ke (if (b && meets A x k d) = true then 1 else 0) := by
  intro d
  induction d with
  | zero =>
    intro m k b hk hm
    obtain ⟨q, rfl⟩ : ∃ q, m = q + 1 := ⟨m - 1, by omega⟩
    rw [f_X10_buy_15, if_pos (show (3 : Int32) ≤ nI k from nI_le (a := 3) (by omega) (by omega))]
    simp [meets]
  | succ d ih =>
    intro m k b hk hm
    obtain ⟨q, rfl⟩ : ∃ q, m = q + 1 := ⟨m - 1, by omega⟩
    have hw := hV.2.1.2.1 k (by omega)
    have hl : A 2 k &&& x < 64 := Nat.lt_of_le_of_lt Nat.and_le_right hx
    have e4 : (10 : Int32) + nI k = nI (10 + k) := nI_add 10 k
    have i0 := ih q (k + 1) false (by omega) (by omega)
    have i1 := ih q (k + 1) true (by omega) (by omega)
    simp only [if_true, Bool.false_eq_true, if_false, Bool.false_and, Bool.true_and] at i0 i1
    rw [f_X10_buy_15, if_neg (show ¬ (3 : Int32) ≤ nI k from nI_ge (b := 3) (by omega) (by omega)), e4, inBn (show 10 + k < 205 by omega) (by omega), gd_t, gd_t, ixn (by omega), hM.2.1.2.1 k (by omega), nx_and]
    unfold f_X10_buy_58
    rw [nI_1, i0, i1]
    show _ = ke (if (b && (meet1 A x k && meets A x (k + 1) d)) = true then 1 else 0)
    unfold meet1
    cases b with
    | false => simp
    | true =>
      simp only [if_true, show ¬ (1 : Int32) = 0 by decide, if_false, show (nI (A 2 k) = (0 : Int32)) = (A 2 k = 0) from propext (nI_eq (b := 0) (by omega) (by omega)), show (nI (A 2 k &&& x) = (0 : Int32)) = (A 2 k &&& x = 0) from propext (nI_eq (b := 0) (by omega) (by omega))]
      by_cases c1 : A 2 k = 0 <;> by_cases c2 : A 2 k &&& x = 0 <;> simp [c1, c2]
theorem buyM_l {U : SI} {A : VW} (hV : HV A) (hM : HM (U 79) A) : ∀ (x m b : Nat), x ≤ 64 → b < 64 → x < m → f_X10_buy_6 U m (nI b) (nI x - 1) = some (nI (bestN A x b)) := by
  intro x
  induction x with
  | zero =>
    intro m b _ hb hm
    obtain ⟨q, rfl⟩ : ∃ q, m = q + 1 := ⟨m - 1, by omega⟩
    rw [f_X10_buy_6, if_pos (show nI 0 - 1 < (0 : Int32) by decide)]
    rfl
  | succ x ih =>
    intro m b hx hb hm
    obtain ⟨q, rfl⟩ : ∃ q, m = q + 1 := ⟨m - 1, by omega⟩
    have p1 := pop_le x
    have p2 := pop_le b
    rw [f_X10_buy_6, nI_pred, if_neg (show ¬ nI x < (0 : Int32) from nI_pos (by omega))]
    have e := buyI_l hV hM (x := x) (by omega) (fun o3 => f_X10_buy_65 (nI b) (nI x) o3 (f_X10_buy_6 U q)) 3 fu 0 true (by omega) (by have := fu_big; omega)
    simp only [if_true, Bool.true_and] at e
    rw [show (0 : Int32) = nI 0 from rfl]
    refine e.trans ?_
    unfold f_X10_buy_65 f_X10_buy_85
    rw [ones_eq (show x < 4096 by omega), sb, ones_eq (show b < 4096 by omega), sb, show nI x + (-1 : Int32) = nI x - 1 by rw [Int32.sub_eq_add_neg], ih q b (by omega) hb (by omega), ih q x (by omega) (by omega) (by omega)]
    show _ = some (nI (bestN A x (if meets A x 0 3 = true ∧ pop x ≤ pop b then x else b)))
    simp only [nI_ltI (show pop b < 2 ^ 31 by omega) (show pop x < 2 ^ 31 by omega)]
    cases hmx : meets A x 0 3 with
    | false => simp
    | true =>
      by_cases c : pop b < pop x
      · simp [c, show ¬ pop x ≤ pop b by omega]
      · simp [c, show pop x ≤ pop b by omega]
theorem op_buy {P : Nat → Int32 → (Nat → Int32) → Prop} {S U : SI} (h : RR P S U) : ∃ r : Int32, f_X9_buy S = some r ∧ f_X10_buy U = some r := by
  obtain ⟨A, hV, hC, hM⟩ := h.1
  unfold f_X9_buy f_X10_buy
  have e1 := buyC_l hV hC 64 fu 63 (by omega) (by omega) (by have := fu_big; omega)
  have e2 := buyM_l hV hM 64 fu 63 (by omega) (by omega) (by have := fu_big; omega)
  rw [show nI 64 - 1 = nI 63 from rfl] at e1 e2
  rw [show (63 : Int32) = nI 63 from rfl]
  exact ⟨_, e1, e2⟩
