/-- the view with one SOCK more -/
def addV (A : VW) (kd hd lo hi my : Nat) : VW := fun r c =>
  if r = 0 ∧ c = 0 then A 0 0 + 1
  else if c = A 0 0 ∧ 10 ≤ r then (if r = 10 then kd else if r = 11 then hd else if r = 12 then lo else if r = 13 then hi else if r = 14 then 0 else if r = 17 then my else if r = 18 then A 0 0 else 0)
  else A r c
theorem addV_0 (A : VW) (kd hd lo hi my : Nat) : addV A kd hd lo hi my 0 0 = A 0 0 + 1 := if_pos ⟨rfl, rfl⟩
theorem addV_lo (A : VW) (kd hd lo hi my : Nat) {r c : Nat} (h : ¬ (r = 0 ∧ c = 0)) (hr : r < 10) : addV A kd hd lo hi my r c = A r c := by
  unfold addV
  rw [if_neg h, if_neg (by omega)]
theorem addV_old (A : VW) (kd hd lo hi my : Nat) {r c : Nat} (hr : 10 ≤ r) (hc : c < A 0 0) : addV A kd hd lo hi my r c = A r c := by
  unfold addV
  rw [if_neg (by omega), if_neg (by omega)]
theorem addV_new (A : VW) (kd hd lo hi my : Nat) : addV A kd hd lo hi my 10 (A 0 0) = kd ∧ addV A kd hd lo hi my 11 (A 0 0) = hd ∧ addV A kd hd lo hi my 12 (A 0 0) = lo ∧ addV A kd hd lo hi my 13 (A 0 0) = hi ∧ addV A kd hd lo hi my 14 (A 0 0) = 0 ∧ addV A kd hd lo hi my 17 (A 0 0) = my ∧ addV A kd hd lo hi my 18 (A 0 0) = A 0 0 := by
  unfold addV
  simp
theorem went_new {A : VW} (hV : HV A) : ∀ m, m ≤ A 0 1 → outN A (A 0 0) m = 0
  | 0, _ => rfl
  | m + 1, h => by
    obtain ⟨k, h1, h2, h3, h4, h5⟩ := hV.2.2.1 m (by omega)
    have e1 : (A 5 m).testBit (A 0 0) = false := Nat.testBit_lt_two_pow (Nat.lt_of_lt_of_le h3 (Nat.pow_le_pow_right (by omega) h1))
    unfold outN
    rw [went_new hV m (by omega), e1]
    rfl
theorem add_V {A : VW} (hV : HV A) (hn : A 0 0 < 12) {kd hd lo hi my : Nat} (h : kd < 6 ∧ hd < 2 ∧ lo ≤ hi ∧ hi ≤ 99 ∧ 1 ≤ my ∧ my ≤ 7) : HV (addV A kd hd lo hi my) := by
  obtain ⟨⟨v1, v2, v3, v4⟩, ⟨v5, v6, v7⟩, v8, v9⟩ := hV
  have lo' : ∀ r c, ¬ (r = 0 ∧ c = 0) → r < 10 → addV A kd hd lo hi my r c = A r c := fun r c q1 q2 => addV_lo _ _ _ _ _ _ q1 q2
  have old' : ∀ r c, 10 ≤ r → c < A 0 0 → addV A kd hd lo hi my r c = A r c := fun r c q1 q2 => addV_old _ _ _ _ _ _ q1 q2
  obtain ⟨n0, n1, n2, n3, n4, n7, n8⟩ := addV_new A kd hd lo hi my
  refine ⟨⟨by rw [addV_0]; omega, by rw [lo' _ _ (by omega) (by omega)]; exact v2, by rw [lo' _ _ (by omega) (by omega)]; exact v3, by rw [lo' _ _ (by omega) (by omega)]; exact v4⟩, ⟨fun j hj => by rw [lo' _ _ (by omega) (by omega)]; exact v5 j hj, fun j hj => by rw [lo' _ _ (by omega) (by omega)]; exact v6 j hj, fun j hj => by rw [lo' _ _ (by omega) (by omega), lo' _ _ (by omega) (by omega)]; exact v7 j hj⟩, fun m hm => ?_, fun i hi2 => ?_⟩
  · rw [lo' _ _ (by omega) (by omega)] at hm
    obtain ⟨k, h1, h2, h3, h4, h5⟩ := v8 m hm
    refine ⟨k, by rw [addV_0]; omega, ?_, ?_, ?_, ?_⟩
    · rw [lo' _ _ (by omega) (by omega)]; exact h2
    · rw [lo' _ _ (by omega) (by omega)]; exact h3
    · rw [lo' _ _ (by omega) (by omega)]; exact h4
    · rw [lo' _ _ (by omega) (by omega), lo' _ _ (by omega) (by omega)]; exact h5
  · rw [addV_0] at hi2
    by_cases hin : i = A 0 0
    · subst hin
      unfold skV
      rw [addV_0, n0, n1, n2, n3, n4, n7, n8, n8, n0]
      refine ⟨by omega, ⟨by omega, fun e => by omega, fun e => by omega⟩, by omega, by omega, rfl, rfl⟩
    · have hil : i < A 0 0 := by omega
      have g := v9 i hil
      unfold skV at g ⊢
      rw [addV_0, lo' 0 1 (by omega) (by omega), old' 10 i (by omega) hil, old' 11 i (by omega) hil, old' 12 i (by omega) hil, old' 13 i (by omega) hil, old' 14 i (by omega) hil, old' 15 i (by omega) hil, old' 16 i (by omega) hil, old' 17 i (by omega) hil, old' 18 i (by omega) hil, old' 18 _ (by omega) g.2.2.2.1, old' 10 _ (by omega) g.2.2.2.1]
      refine ⟨g.1, ⟨g.2.1.1, fun e => ?_, g.2.1.2.2⟩, g.2.2.1, by omega, g.2.2.2.2⟩
      have g2 := g.2.1.2.1 e
      rw [old' 14 _ (by omega) g2.1, old' 15 _ (by omega) g2.1]
      exact ⟨by omega, g2.2⟩
theorem add_C {S : SI} {A : VW} (hV : HV A) (hC : HC S 1 A) (hn : A 0 0 < 12) {a kd hd lo hi my : Nat} (ha : 41 ≤ a) (h : S a 0 = nI kd ∧ S a 1 = nI hd ∧ S a 2 = nI lo ∧ S a 3 = nI hi ∧ S a 4 = 0 ∧ S a 5 = -4 ∧ S a 6 = -4 ∧ S a 7 = nI my) : ∃ S', f_X1_add S a = some (nI (A 0 0), S') ∧ HC S' 1 (addV A kd hd lo hi my) ∧ ∀ a' c, ¬ ((a' = 1 ∧ c = 1) ∨ a' = 9 + A 0 0) → S' a' c = S a' c := by
  obtain ⟨S1, c1, c2, c3⟩ := cpS S (a := 9 + A 0 0) (b := a) (by omega)
  obtain ⟨⟨h1, h2, h3, h4⟩, ⟨h5, h6, h7, h8⟩, h9, h10⟩ := hC
  have hS1 : S1 1 1 = nI (A 0 0) := by rw [c3 _ _ (by omega)]; exact h1
  obtain ⟨d0, d1, d2, d3, d4, d5, d6, d7⟩ := h
  have lo' : ∀ r c, ¬ (r = 0 ∧ c = 0) → r < 10 → addV A kd hd lo hi my r c = A r c := fun r c q1 q2 => addV_lo _ _ _ _ _ _ q1 q2
  have old' : ∀ r c, 10 ≤ r → c < A 0 0 → addV A kd hd lo hi my r c = A r c := fun r c q1 q2 => addV_old _ _ _ _ _ _ q1 q2
  obtain ⟨n0, n1, n2, n3, n4, n7, n8⟩ := addV_new A kd hd lo hi my
  have fr : ∀ a' c, ¬ ((a' = 1 ∧ c = 1) ∨ a' = 9 + A 0 0) → up2 (up2 S1 (9 + A 0 0) 8 (nI (A 0 0))) 1 1 (nI (A 0 0 + 1)) a' c = S a' c := fun a' c hac => by
    rw [up2_ne _ (by omega), up2_ne _ (by omega), c3 _ _ (by omega)]
  refine ⟨up2 (up2 S1 (9 + A 0 0) 8 (nI (A 0 0))) 1 1 (nI (A 0 0 + 1)), ?_, ⟨⟨?_, ?_, ?_, ?_⟩, ⟨fun j hj => ?_, fun j hj => ?_, fun j hj => ?_, fun j hj => ?_⟩, fun m hm => ?_, fun i hi2 => ?_⟩, fr⟩
  · unfold f_X1_add
    rw [h1, if_pos (show nI (A 0 0) < (12 : Int32) from nI_lt (b := 12) (by omega) (by omega)), nm_eq, inBn hn (by omega), gd_t, ixn (by omega), c1, sb, gd_t, nm_eq, nm_eq, up2_ne _ (by omega), hS1, nI_1]
  · rw [up2_eq, addV_0]
  · rw [fr _ _ (by omega), lo' _ _ (by omega) (by omega)]; exact h2
  · rw [fr _ _ (by omega), lo' _ _ (by omega) (by omega)]; exact h3
  · rw [fr _ _ (by omega), lo' _ _ (by omega) (by omega)]; exact h4
  · rw [fr _ _ (by omega), lo' _ _ (by omega) (by omega)]; exact h5 j hj
  · rw [fr _ _ (by omega), lo' _ _ (by omega) (by omega)]; exact h6 j hj
  · rw [fr _ _ (by omega), lo' _ _ (by omega) (by omega)]; exact h7 j hj
  · rw [fr _ _ (by omega), lo' _ _ (by omega) (by omega)]; exact h8 j hj
  · rw [lo' _ _ (by omega) (by omega)] at hm
    unfold stN
    rw [fr _ _ (by omega), fr _ _ (by omega), lo' _ _ (by omega) (by omega), lo' _ _ (by omega) (by omega), lo' _ _ (by omega) (by omega)]
    exact h9 m hm
  · rw [addV_0] at hi2
    by_cases hin : i = A 0 0
    · subst hin
      have rd : ∀ c, c < 8 → up2 (up2 S1 (9 + A 0 0) 8 (nI (A 0 0))) 1 1 (nI (A 0 0 + 1)) (1 + 8 + A 0 0) c = S a c := fun c hc => by
        rw [up2_ne _ (by omega), up2_ne _ (by omega), show 1 + 8 + A 0 0 = 9 + A 0 0 by omega, c2 c (by omega)]
      unfold skC otI siI
      rw [n0, n1, n2, n3, n4, n7, n8, rd 0 (by omega), rd 1 (by omega), rd 2 (by omega), rd 3 (by omega), rd 4 (by omega), rd 5 (by omega), rd 6 (by omega), rd 7 (by omega)]
      refine ⟨d0, d1, d2, d3, d4, d5, d6, d7, ?_⟩
      rw [up2_ne _ (by omega), show 1 + 8 + A 0 0 = 9 + A 0 0 by omega, up2_eq]
    · have hil : i < A 0 0 := by omega
      exact skC_vw (skC_cg (h10 i hil) (fun c hc => fr _ _ (by omega))) (fun r q1 q2 => old' r i q1 hil)
theorem add_M {U : SI} {A : VW} (hV : HV A) (hM : HM (U 79) A) (hn : A 0 0 < 12) (kd hd lo hi my : Nat) : ∃ U', f_X10_add U (nI kd) (nI hd) (nI lo) (nI hi) (nI my) = some U' ∧ HM (U' 79) (addV A kd hd lo hi my) ∧ ∀ a c, ¬ (a = 79 ∧ (c = 0 ∨ (13 + 10 * A 0 0 ≤ c ∧ c < 23 + 10 * A 0 0))) → U' a c = U a c := by
  obtain ⟨⟨h1, h2, h3, h4⟩, ⟨h5, h6, h7, h8⟩, h9, h10⟩ := hM
  have lo' : ∀ r c, ¬ (r = 0 ∧ c = 0) → r < 10 → addV A kd hd lo hi my r c = A r c := fun r c q1 q2 => addV_lo _ _ _ _ _ _ q1 q2
  have old' : ∀ r c, 10 ≤ r → c < A 0 0 → addV A kd hd lo hi my r c = A r c := fun r c q1 q2 => addV_old _ _ _ _ _ _ q1 q2
  obtain ⟨n0, n1, n2, n3, n4, n7, n8⟩ := addV_new A kd hd lo hi my
  have hwn := went_new hV (A 0 1) (Nat.le_refl _)
  generalize hN : A 0 0 = n at *
  unfold f_X10_add
  rw [show inB (0 : Int32) 205 = true from rfl, show ix (0 : Int32) = 0 from rfl, gd_t, nm_eq, h1]
  simp only [pu0 hn, pu1 hn, pu2 hn, pu3 hn, pu4 hn, pu5 hn, pu6 hn, pu7 hn, pu8 hn, pu9 hn, sb, gd_t, nm_eq]
  refine ⟨_, rfl, ?_, ?_⟩
  · generalize hU' : up2 (up2 (up2 (up2 (up2 (up2 (up2 (up2 (up2 (up2 U 79 (13 + 10 * n + 0) (nI kd)) 79 (13 + 10 * n + 1) (nI hd)) 79 (13 + 10 * n + 2) (nI lo)) 79 (13 + 10 * n + 3) (nI hi)) 79 (13 + 10 * n + 4) (0 : Int32)) 79 (13 + 10 * n + 5) (-4 : Int32)) 79 (13 + 10 * n + 6) (0 : Int32)) 79 (13 + 10 * n + 7) (-4 : Int32)) 79 (13 + 10 * n + 8) (nI my)) 79 (13 + 10 * n + 9) (nI n) = U'
    have fr : ∀ c, (c < 13 + 10 * n ∨ 23 + 10 * n ≤ c) → U' 79 c = U 79 c := fun c hc => by
      rw [← hU', up2_ne _ (by omega), up2_ne _ (by omega), up2_ne _ (by omega), up2_ne _ (by omega), up2_ne _ (by omega), up2_ne _ (by omega), up2_ne _ (by omega), up2_ne _ (by omega), up2_ne _ (by omega), up2_ne _ (by omega)]
    have fs : ∀ c, c ≠ 0 → up2 U' 79 0 (U' 79 0 + (1 : Int32)) 79 c = U' 79 c := fun c hc => up2_ne _ (by omega)
    refine ⟨⟨?_, ?_, ?_, ?_⟩, ⟨fun j hj => ?_, fun j hj => ?_, fun j hj => ?_, fun j hj => ?_⟩, fun m hm => ?_, fun i hi2 => ?_⟩
    · rw [up2_eq, fr _ (by omega), h1, nI_1, addV_0, hN]
    · rw [fs _ (by omega), fr _ (by omega), lo' _ _ (by omega) (by omega)]; exact h2
    · rw [fs _ (by omega), fr _ (by omega), lo' _ _ (by omega) (by omega)]; exact h3
    · rw [fs _ (by omega), fr _ (by omega), lo' _ _ (by omega) (by omega)]; exact h4
    · rw [fs _ (by omega), fr _ (by omega), lo' _ _ (by omega) (by omega)]; exact h5 j hj
    · rw [fs _ (by omega), fr _ (by omega), lo' _ _ (by omega) (by omega)]; exact h6 j hj
    · rw [fs _ (by omega), fr _ (by omega), lo' _ _ (by omega) (by omega)]; exact h7 j hj
    · rw [fs _ (by omega), fr _ (by omega), lo' _ _ (by omega) (by omega)]; exact h8 j hj
    · rw [lo' _ _ (by omega) (by omega)] at hm
      rw [fs _ (by omega), fs _ (by omega), fs _ (by omega), fr _ (by omega), fr _ (by omega), fr _ (by omega), lo' _ _ (by omega) (by omega), lo' _ _ (by omega) (by omega), lo' _ _ (by omega) (by omega)]
      exact h9 m hm
    · rw [addV_0, hN] at hi2
      have e5 : ∀ i, outN (addV A kd hd lo hi my) i (addV A kd hd lo hi my 0 1) = outN A i (A 0 1) := fun i => by
        rw [lo' 0 1 (by omega) (by omega)]
        exact outN_cg _ (fun q _ => lo' _ _ (by omega) (by omega))
      by_cases hin : i = n
      · subst hin
        unfold skM otI siI
        rw [n0, n1, n2, n3, n4, n7, n8, e5, hwn]
        have fq : ∀ c v, U' 79 (13 + 10 * i + c) = v → up2 U' 79 0 (U' 79 0 + (1 : Int32)) 79 (13 + 10 * i + c) = v := fun c v e => (fs _ (by omega)).trans e
        refine ⟨fq 0 _ ?_, fq 1 _ ?_, fq 2 _ ?_, fq 3 _ ?_, fq 4 _ ?_, fq 5 _ ?_, fq 6 _ ?_, fq 7 _ ?_, fq 8 _ ?_, fq 9 _ ?_⟩ <;> rw [← hU'] <;> simp only [up2_at] <;> simp <;> rfl
      · have hil : i < n := by omega
        refine skM_vw (skM_cg (h10 i hil) (fun c hc => ?_)) (fun r q1 q2 => old' r i q1 hil) (lo' _ _ (by omega) (by omega)) (fun q _ => lo' _ _ (by omega) (by omega))
        rw [fs _ (by omega), fr _ (by omega)]
  · intro a c hac
    rw [up2_ne _ (by omega), up2_ne _ (by omega), up2_ne _ (by omega), up2_ne _ (by omega), up2_ne _ (by omega), up2_ne _ (by omega), up2_ne _ (by omega), up2_ne _ (by omega), up2_ne _ (by omega), up2_ne _ (by omega), up2_ne _ (by omega)]
theorem beg_eq (S : SI) (a : Nat) (v1 v2 v3 v4 v5 : Int32) : ∃ S', f_X5_begin S a v1 v2 v3 v4 v5 = some S' ∧ (S' a 0 = v1 ∧ S' a 1 = v2 ∧ S' a 2 = v3 ∧ S' a 3 = v4 ∧ S' a 4 = 0 ∧ S' a 5 = -4 ∧ S' a 6 = -4 ∧ S' a 7 = v5) ∧ ∀ a' c, a' ≠ a → S' a' c = S a' c := by
  unfold f_X5_begin f_X5_toBox
  simp only [nm_eq, sb]
  refine ⟨_, rfl, ?_, fun a' c ha => ?_⟩
  · simp only [up2_at]
    simp
  · rw [up2_ne _ (Or.inl ha), up2_ne _ (Or.inl ha), up2_ne _ (Or.inl ha), up2_ne _ (Or.inl ha), up2_ne _ (Or.inl ha), up2_ne _ (Or.inl ha), up2_ne _ (Or.inl ha), up2_ne _ (Or.inl ha)]
theorem op_sock {P : Nat → Int32 → (Nat → Int32) → Prop} {S U : SI} (h : RR P S U) (v1 v2 v3 v4 : Int32) : ∃ (r : Int32) (S1 U1 : SI), f_X9_sock S v1 v2 v3 v4 = some (r, S1) ∧ f_X10_sock U v1 v2 v3 v4 = some (r, U1) ∧ RR P S1 U1 := by
  obtain ⟨A, hA⟩ := h.1
  obtain ⟨hV, hC, hM⟩ := id hA
  have hn := hV.1.1
  unfold f_X9_sock f_X10_sock
  simp only [wi _ 6 6 rfl, wi _ 2 2 rfl, mi _ 5 5 rfl, mi _ 1 1 rfl, mi _ 99 99 rfl, in_gen, sb]
  cases hv1 : inB v1 6 with
  | false => exact ⟨_, _, _, rfl, rfl, h⟩
  | true =>
    cases hv2 : inB v2 2 with
    | false => exact ⟨_, _, _, rfl, rfl, h⟩
    | true =>
      simp only [lt_toInt, le_toInt, wide, show (0 : Int32).toInt = 0 from rfl, show (99 : Int32).toInt = 99 from rfl, show (99 : Int64).toInt = 99 from rfl, if_true, show ¬ (1 : Int32) = 0 by decide, if_false]
      cases hv3 : inB v3 100 with
      | false =>
        have q3 := inB_neg hv3
        refine ⟨-1, S, U, ?_, rfl, h⟩
        by_cases a1 : v3.toInt < 0
        · rw [if_pos a1]
        · rw [if_neg a1]
          by_cases a2 : 99 < v4.toInt
          · rw [if_pos a2]
          · rw [if_neg a2, if_neg (by omega)]
      | true =>
        obtain ⟨x, hx, rfl⟩ := inB_of hv3 (by omega)
        rw [nI_toInt (show x < 2 ^ 31 by omega)]
        by_cases hin : (x : Int) ≤ v4.toInt ∧ v4.toInt ≤ 99
        · obtain ⟨k, hk, rfl⟩ := inB_of hv1 (by omega)
          obtain ⟨d, hd, rfl⟩ := inB_of hv2 (by omega)
          obtain ⟨y, hy, rfl⟩ := inB_of (v := v4) (n := 100) (decide_eq_true (by omega)) (by omega)
          obtain ⟨S1, b1, b2, b3⟩ := beg_eq S 52 (nI k) (nI d) (nI x) (nI y) 7
          rw [nI_toInt (show y < 2 ^ 31 by omega)] at hin ⊢
          rw [if_neg (show ¬ (x : Int) < 0 by omega), if_neg (show ¬ 99 < (y : Int) by omega), if_pos hin.1, if_pos hin, b1, sb]
          simp only [if_true, show ¬ (1 : Int32) = 0 by decide, show ¬ nI 1 = (0 : Int32) by decide, if_false, show inB (0 : Int32) 205 = true from rfl, gd_t, show ix (0 : Int32) = 0 from rfl, hM.1.1]
          have hC1 : HC S1 1 A := hC.cg (fun a c q1 q2 => b3 _ _ (by omega)) hn
          by_cases h12 : A 0 0 = 12
          · rw [if_pos (show nI (A 0 0) = (12 : Int32) by rw [h12]; rfl)]
            refine ⟨-3, S1, U, ?_, rfl, h.same (fun a c hl => b3 _ _ (by unfold liC at hl; omega)) eqM.rf⟩
            unfold f_X1_add
            rw [hC1.1.1, h12]
            rfl
          · rw [if_neg (show ¬ nI (A 0 0) = (12 : Int32) by rw [show (12 : Int32) = nI 12 from rfl, nI_eq (by omega) (by omega)]; exact h12)]
            obtain ⟨S2, s1, s2, s3⟩ := add_C hV hC1 (by omega) (a := 52) (kd := k) (hd := d) (lo := x) (hi := y) (my := 7) (by omega) b2
            obtain ⟨U2, m1, m2, m3⟩ := add_M hV hM (by omega) k d x y 7
            rw [s1, show (7 : Int32) = nI 7 from rfl, m1]
            simp only [sb, m2.1.1, addV_0]
            refine ⟨nI (A 0 0), S2, U2, rfl, by rw [show nI (A 0 0 + 1) - (1 : Int32) = nI (A 0 0) from nI_pred _], ?_⟩
            refine h.core (A := addV A k d x y 7) ⟨add_V hV (by omega) (by omega), s2, m2⟩ (fun a c hl hl2 => ?_) (fun a c hl hl2 => m3 _ _ (by omega))
            rw [s3 _ _ (by omega), b3 _ _ (by unfold liC at hl; omega)]
        · refine ⟨-1, S, U, ?_, ?_, h⟩
          · rw [if_neg (show ¬ (x : Int) < 0 by omega)]
            by_cases a2 : 99 < v4.toInt
            · rw [if_pos a2]
            · rw [if_neg a2, if_neg (by omega)]
          · rw [if_neg hin]
            rfl
