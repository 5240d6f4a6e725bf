theorem of_eq {U : SI} {i k : Nat} (hi : i < 12) (hk : k < 10) {c : Int32} (hc : c = nI k) : f_X10_of U (nI i) c = some (U 79 (13 + 10 * i + k)) := by
  subst hc
  have e : (13 : Int32) + (10 : Int32) * nI i + nI k = nI (13 + 10 * i + k) := by rw [show (13 : Int32) = nI 13 from rfl, show (10 : Int32) = nI 10 from rfl, pk_mul, nI_add, nI_add]
  unfold f_X10_of
  rw [e, inBn (by omega) (by omega), gd_t, ixn (by omega)]
theorem put_eq {U : SI} {i k : Nat} (hi : i < 12) (hk : k < 10) {c v : Int32} (hc : c = nI k) : f_X10_put U (nI i) c v = some (up2 U 79 (13 + 10 * i + k) v) := by
  subst hc
  have e : (13 : Int32) + (10 : Int32) * nI i + nI k = nI (13 + 10 * i + k) := by rw [show (13 : Int32) = nI 13 from rfl, show (10 : Int32) = nI 10 from rfl, pk_mul, nI_add, nI_add]
  unfold f_X10_put
  rw [e, inBn (by omega) (by omega), gd_t, ixn (by omega), nm_eq]
theorem b01_i (c : Bool) : b01 (if c = true then (1 : Int32) else 0) = true := by cases c <;> rfl
theorem isC {S : SI} {A : VW} (h : HC S 1 A) (hn : A 0 0 ≤ 12) (v : Int32) : f_X9_isSock S v = some (if inB v (A 0 0) = true then 1 else 0) := by
  unfold f_X9_isSock
  rw [h.1.1, wi v (A 0 0) _ (nI_toInt (by omega)), sb, b01_i, gd_t]
theorem isM {U : SI} {A : VW} (h : HM (U 79) A) (hn : A 0 0 ≤ 12) (v : Int32) : f_X10_isSock U v = some (if inB v (A 0 0) = true then 1 else 0) := by
  unfold f_X10_isSock
  rw [show inB (0 : Int32) 205 = true from rfl, gd_t, show ix (0 : Int32) = 0 from rfl, h.1.1, in_gen]
  have e1 : (0 : Int64).toInt = 0 := rfl
  have e2 : ((nI (A 0 0) - (1 : Int32)).toInt64).toInt = (A 0 0 : Int) - 1 := by
    rw [wide, show (1 : Int32) = nI 1 from rfl, pk_sub_toInt (by omega) (by omega)]
    rfl
  rw [e1, e2, wide, sb]
  cases hv : inB v (A 0 0) with
  | true =>
    have := of_decide_eq_true hv
    rw [if_pos (by omega)]
    rfl
  | false =>
    have := inB_neg hv
    rw [if_neg (by omega)]
    rfl
theorem twoC {S : SI} {A : VW} (h : HC S 1 A) (hn : A 0 0 ≤ 12) (v w : Int32) : f_X9_areTwo S v w = some (if inB v (A 0 0) = true ∧ inB w (A 0 0) = true ∧ v ≠ w then 1 else 0) := by
  unfold f_X9_areTwo
  rw [isC h hn, isC h hn]
  cases inB v (A 0 0) <;> cases inB w (A 0 0) <;> simp [sb]
  by_cases e : v = w <;> simp [e]
theorem twoM {U : SI} {A : VW} (h : HM (U 79) A) (hn : A 0 0 ≤ 12) (v w : Int32) : f_X10_areTwo U v w = some (if inB v (A 0 0) = true ∧ inB w (A 0 0) = true ∧ v ≠ w then 1 else 0) := by
  unfold f_X10_areTwo
  rw [isM h hn, isM h hn]
  cases inB v (A 0 0) <;> cases inB w (A 0 0) <;> simp [sb]
  by_cases e : v = w <;> simp [e]
/-- SOCKS change -/
theorem HR.sk {S S' U U' : SI} {A A' : VW} (h : HR S 1 (U 79) A) (hr : ∀ r, r < 10 → A' r = A r) (hS : ∀ a k, 1 ≤ a → a ≤ 8 → S' a k = S a k) (hU : ∀ k, (k < 13 ∨ 133 ≤ k) → U' 79 k = U 79 k)
    (hc : ∀ i, i < A 0 0 → skC (S' (9 + i)) A' i) (hm : ∀ i, i < A 0 0 → skM (fun k => U' 79 (13 + 10 * i + k)) A' i) (hv : ∀ i, i < A 0 0 → skV A' i) : HR S' 1 (U' 79) A' := by
  obtain ⟨⟨⟨v1, v2, v3, v4⟩, ⟨v5, v6, v7⟩, v8, v9⟩, ⟨⟨c1, c2, c3, c4⟩, ⟨c5, c6, c7, c8⟩, c9, c10⟩, ⟨m1, m2, m3, m4⟩, ⟨m5, m6, m7, m8⟩, m9, m10⟩ := h
  have r0 := hr 0 (by omega)
  have r1 := hr 1 (by omega)
  have r2 := hr 2 (by omega)
  have r3 := hr 3 (by omega)
  have r4 := hr 4 (by omega)
  have r5 := hr 5 (by omega)
  have r6 := hr 6 (by omega)
  have r7 := hr 7 (by omega)
  refine ⟨⟨⟨by rw [r0]; exact v1, by rw [r0]; exact v2, by rw [r0]; exact v3, by rw [r0]; exact v4⟩, ⟨by rw [r1]; exact v5, by rw [r2]; exact v6, by rw [r3, r4]; exact v7⟩, fun m hm2 => ?_, by rw [r0]; exact hv⟩, ⟨⟨by rw [hS _ _ (by omega) (by omega), r0]; exact c1, by rw [hS _ _ (by omega) (by omega), r0]; exact c2, by rw [hS _ _ (by omega) (by omega), r0]; exact c3, by rw [hS _ _ (by omega) (by omega), r0]; exact c4⟩, ⟨fun j hj => by rw [hS _ _ (by omega) (by omega), r1]; exact c5 j hj, fun j hj => by rw [hS _ _ (by omega) (by omega), r2]; exact c6 j hj, fun j hj => by rw [hS _ _ (by omega) (by omega), r3]; exact c7 j hj, fun j hj => by rw [hS _ _ (by omega) (by omega), r4]; exact c8 j hj⟩, fun m hm2 => ?_, by rw [r0]; exact hc⟩, ⟨by rw [hU _ (by omega), r0]; exact m1, by rw [hU _ (by omega), r0]; exact m2, by rw [hU _ (by omega), r0]; exact m3, by rw [hU _ (by omega), r0]; exact m4⟩, ⟨fun j hj => by rw [hU _ (by omega), r1]; exact m5 j hj, fun j hj => by rw [hU _ (by omega), r2]; exact m6 j hj, fun j hj => by rw [hU _ (by omega), r3]; exact m7 j hj, fun j hj => by rw [hU _ (by omega), r4]; exact m8 j hj⟩, fun m hm2 => ?_, by rw [r0]; exact hm⟩
  · rw [r0] at hm2
    have := v8 m hm2
    unfold wkV at this ⊢
    rw [r0, r5, r6, r7]
    exact this
  · rw [r0] at hm2
    have := c9 m hm2
    rw [hS _ _ (by omega) (by omega), hS _ _ (by omega) (by omega), r5]
    unfold stN at this ⊢
    rw [r5, r6, r7]
    exact this
  · rw [r0] at hm2
    have := m9 m hm2
    rw [hU _ (by omega), hU _ (by omega), hU _ (by omega), r5, r6, r7]
    exact this
theorem skM_cg {f g : Nat → Int32} {A : VW} {i : Nat} (h : skM f A i) (e : ∀ k, k < 10 → g k = f k) : skM g A i := by
  obtain ⟨q0, q1, q2, q3, q4, q5, q6, q7, q8, q9⟩ := h
  exact ⟨(e 0 (by omega)).trans q0, (e 1 (by omega)).trans q1, (e 2 (by omega)).trans q2, (e 3 (by omega)).trans q3, (e 4 (by omega)).trans q4, (e 5 (by omega)).trans q5, (e 6 (by omega)).trans q6, (e 7 (by omega)).trans q7, (e 8 (by omega)).trans q8, (e 9 (by omega)).trans q9⟩
theorem skC_cg {f g : Nat → Int32} {A : VW} {i : Nat} (h : skC f A i) (e : ∀ k, k < 9 → g k = f k) : skC g A i := by
  obtain ⟨q0, q1, q2, q3, q4, q5, q6, q7, q8⟩ := h
  exact ⟨(e 0 (by omega)).trans q0, (e 1 (by omega)).trans q1, (e 2 (by omega)).trans q2, (e 3 (by omega)).trans q3, (e 4 (by omega)).trans q4, (e 5 (by omega)).trans q5, (e 6 (by omega)).trans q6, (e 7 (by omega)).trans q7, (e 8 (by omega)).trans q8⟩
/-- the view of one SOCK, if the rows of that SOCK are the same -/
theorem skC_vw {f : Nat → Int32} {A A' : VW} {i : Nat} (h : skC f A i) (e : ∀ r, 10 ≤ r → r ≤ 18 → A' r i = A r i) : skC f A' i := by
  unfold skC otI siI at h ⊢
  rw [e 10 (by omega) (by omega), e 11 (by omega) (by omega), e 12 (by omega) (by omega), e 13 (by omega) (by omega), e 14 (by omega) (by omega), e 15 (by omega) (by omega), e 16 (by omega) (by omega), e 17 (by omega) (by omega), e 18 (by omega) (by omega)]
  exact h
theorem skM_vw {f : Nat → Int32} {A A' : VW} {i : Nat} (h : skM f A i) (e : ∀ r, 10 ≤ r → r ≤ 18 → A' r i = A r i) (e0 : A' 0 1 = A 0 1) (e5 : ∀ q, q < A 0 1 → A' 5 q = A 5 q) : skM f A' i := by
  unfold skM otI siI at h ⊢
  rw [e 10 (by omega) (by omega), e 11 (by omega) (by omega), e 12 (by omega) (by omega), e 13 (by omega) (by omega), e 14 (by omega) (by omega), e 15 (by omega) (by omega), e 16 (by omega) (by omega), e 17 (by omega) (by omega), e 18 (by omega) (by omega), e0, outN_cg (A' := A') (A := A) _ e5]
  exact h
theorem op_may {P : Nat → Int32 → (Nat → Int32) → Prop} {S U : SI} (h : RR P S U) (v1 v2 : Int32) : ∃ (r : Int32) (S1 U1 : SI), f_X9_may S v1 v2 = some (r, S1) ∧ f_X10_may U v1 v2 = some (r, U1) ∧ RR P S1 U1 := by
  obtain ⟨A, hA⟩ := h.1
  obtain ⟨hV, hC, hM⟩ := id hA
  have hn := hV.1.1
  unfold f_X9_may f_X10_may
  rw [isC hC hn, isM hM hn]
  simp only [sb, nm_eq, in_gen, wide, lt_toInt, le_toInt, show (1 : Int32).toInt = 1 from rfl, show (7 : Int32).toInt = 7 from rfl, show (1 : Int64).toInt = 1 from rfl, show (7 : Int64).toInt = 7 from rfl]
  cases hv1 : inB v1 (A 0 0) with
  | false => exact ⟨_, _, _, rfl, rfl, h⟩
  | true =>
    simp only [if_true, show ¬ (1 : Int32) = 0 by decide, if_false]
    obtain ⟨i, hi, rfl⟩ := inB_of hv1 (by omega)
    by_cases h7 : 1 ≤ v2.toInt ∧ v2.toInt ≤ 7
    · obtain ⟨x, hx, rfl⟩ := inB_of (v := v2) (n := 8) (decide_eq_true (by omega)) (by omega)
      rw [nI_toInt (by omega)] at h7
      simp only [nI_toInt (show x < 2 ^ 31 by omega), show ¬ (x : Int) < 1 by omega, h7.2, if_pos h7, if_true, if_false, show ¬ nI 1 = (0 : Int32) by decide, of_eq (U := U) (i := i) (k := 8) (by omega) (by omega) (show (8 : Int32) = nI 8 from rfl), put_eq (U := U) (i := i) (k := 8) (v := nI x) (by omega) (by omega) (show (8 : Int32) = nI 8 from rfl), sb, inBn (show i < 12 by omega) (by omega), ixn (show i < 2 ^ 31 by omega), gd_t]
      have q1 := (hC.2.2.2 i hi).2.2.2.2.2.2.2.1
      have q2 : U 79 (13 + 10 * i + 8) = nI (A 17 i) := (hM.2.2.2 i hi).2.2.2.2.2.2.2.2.1
      refine ⟨nI (A 17 i), up2 S (9 + i) 7 (nI x), up2 U 79 (13 + 10 * i + 8) (nI x), ?_, ?_, ?_⟩
      · rw [show S (9 + i) 7 = nI (A 17 i) from q1]
      · rw [q2]
        have htt : 1 ≤ (x : Int) ∧ True := ⟨h7.1, trivial⟩
        rw [if_pos htt]
        rfl
      · refine h.core (A := up2 A 17 i x) (hA.sk (fun r hr => up2_row _ (by omega)) (fun a k _ _ => up2_ne _ (by omega)) (fun k hk => up2_ne _ (by omega)) (fun j hj => ?_) (fun j hj => ?_) (fun j hj => ?_)) (fun a k _ h2 => up2_ne _ (by omega)) (fun a k _ h2 => up2_ne _ (by omega))
        · have g : skC (S (9 + j)) A j := hC.2.2.2 j hj
          by_cases hij : j = i
          · subst hij
            unfold skC otI siI at g ⊢
            obtain ⟨g0, g1, g2, g3, g4, g5, g6, g7, g8⟩ := g
            simp only [up2_at]
            simp
            exact ⟨g0, g1, g2, g3, g4, g5, g6, g8⟩
          · rw [up2_row _ (by omega)]
            exact skC_vw g (fun r _ _ => up2_ne _ (by omega))
        · have g := hM.2.2.2 j hj
          by_cases hij : j = i
          · subst hij
            unfold skM otI siI at g ⊢
            obtain ⟨g0, g1, g2, g3, g4, g5, g6, g7, g8, g9⟩ := g
            rw [outN_cg (A' := up2 A 17 j x) (A := A) _ (fun q _ => up2_ne _ (by omega))]
            simp only [up2_at]
            simp
            exact ⟨g0, g1, g2, g3, g4, g5, g6, g7, g9⟩
          · exact skM_vw (skM_cg g (fun k _ => up2_ne _ (by omega))) (fun r _ _ => up2_ne _ (by omega)) (up2_ne _ (by omega)) (fun q _ => up2_ne _ (by omega))
        · have g := hV.2.2.2 j hj
          unfold skV at g ⊢
          simp only [up2_at]
          simp
          refine ⟨g.1, g.2.1, ?_, g.2.2.2⟩
          by_cases hij : j = i
          · simp [hij]; omega
          · simp [hij]; exact g.2.2.1
    · refine ⟨-1, S, U, ?_, ?_, h⟩
      · by_cases a1 : v2.toInt < 1
        · rw [if_pos a1]
        · rw [if_neg a1, if_neg (by omega)]
      · rw [if_neg h7]
        rfl
