/-- the reference's view on the way: the first k1 are washed, the first k2 lost ones are put among the lost -/
def mY (A : VW) (w c k1 k2 : Nat) : VW := fun r j =>
  if r = 12 ∨ r = 13 then (if j < k1 ∧ w.testBit j = true then fdN A r j else A r j)
  else if r = 14 then (if j < k2 ∧ loB w c j = true then 1 else if A 14 j = 2 ∧ ((j < k1 ∧ loB w c j = true) ∨ (A 15 j < k1 ∧ loB w c (A 15 j) = true)) then 0 else A 14 j)
  else if r = 16 then (if j < k2 ∧ loB w c j = true then A 0 1 else A 16 j)
  else A r j
theorem mY_lo (A : VW) (w c k1 k2 : Nat) {r j : Nat} (h : r ≠ 12 ∧ r ≠ 13 ∧ r ≠ 14 ∧ r ≠ 16) : mY A w c k1 k2 r j = A r j := by
  unfold mY
  rw [if_neg (by omega), if_neg (by omega), if_neg (by omega)]
theorem mY_14 (A : VW) (w c k1 k2 j : Nat) : mY A w c k1 k2 14 j = if j < k2 ∧ loB w c j = true then 1 else if A 14 j = 2 ∧ ((j < k1 ∧ loB w c j = true) ∨ (A 15 j < k1 ∧ loB w c (A 15 j) = true)) then 0 else A 14 j := by
  unfold mY
  rw [if_neg (by omega), if_pos rfl]
theorem mY_16 (A : VW) (w c k1 k2 j : Nat) : mY A w c k1 k2 16 j = if j < k2 ∧ loB w c j = true then A 0 1 else A 16 j := by
  unfold mY
  rw [if_neg (by omega), if_neg (by omega), if_pos rfl]
theorem mY_t (A : VW) (w c k1 k2 j : Nat) {r : Nat} (h : r = 12 ∨ r = 13) : mY A w c k1 k2 r j = if j < k1 ∧ w.testBit j = true then fdN A r j else A r j := by
  unfold mY
  rw [if_pos h]
/-- a SOCK of the reference with its outings given -/
def skN (f : Nat → Int32) (A : VW) (o i : Nat) : Prop := f 0 = nI (A 10 i) ∧ f 1 = nI (A 11 i) ∧ f 2 = nI (A 12 i) ∧ f 3 = nI (A 13 i) ∧ f 4 = nI (A 14 i) ∧ f 5 = otI A i ∧ f 6 = nI o ∧ f 7 = siI A i ∧ f 8 = nI (A 17 i) ∧ f 9 = nI (A 18 i)
theorem skN_vw {f : Nat → Int32} {A A' : VW} {o i : Nat} (h : skN f A o i) (e : ∀ r, 10 ≤ r → r ≤ 18 → A' r i = A r i) : skN f A' o i := by
  unfold skN otI siI at *
  rw [e 10 (by omega) (by omega), e 11 (by omega) (by omega), e 12 (by omega) (by omega), e 13 (by omega) (by omega), e 14 (by omega) (by omega), e 15 (by omega) (by omega), e 16 (by omega) (by omega), e 17 (by omega) (by omega), e 18 (by omega) (by omega)]
  exact h
theorem skN_cg {f g : Nat → Int32} {A : VW} {o i : Nat} (h : skN f A o i) (e : ∀ k, k < 10 → g k = f k) : skN g A o i := by
  unfold skN at *
  rw [e 0 (by omega), e 1 (by omega), e 2 (by omega), e 3 (by omega), e 4 (by omega), e 5 (by omega), e 6 (by omega), e 7 (by omega), e 8 (by omega), e 9 (by omega)]
  exact h
/-- where view rows agree -/
theorem mY_same {A : VW} {w c k1 k2 k1' k2' j : Nat} (ht : (j < k1' ∧ w.testBit j = true) ↔ (j < k1 ∧ w.testBit j = true)) (h2 : (j < k2' ∧ loB w c j = true) ↔ (j < k2 ∧ loB w c j = true))
    (h1 : A 14 j = 2 → (((j < k1' ∧ loB w c j = true) ∨ (A 15 j < k1' ∧ loB w c (A 15 j) = true)) ↔ ((j < k1 ∧ loB w c j = true) ∨ (A 15 j < k1 ∧ loB w c (A 15 j) = true)))) : ∀ r, 10 ≤ r → r ≤ 18 → mY A w c k1' k2' r j = mY A w c k1 k2 r j := by
  intro r _ _
  by_cases hr : r = 12 ∨ r = 13
  · rw [mY_t _ _ _ _ _ _ hr, mY_t _ _ _ _ _ _ hr]
    simp only [ht]
  · by_cases h14 : r = 14
    · subst h14
      rw [mY_14, mY_14]
      simp only [h2]
      by_cases g : A 14 j = 2
      · simp only [h1 g]
      · rw [if_neg (fun q : A 14 j = 2 ∧ _ => g q.1), if_neg (fun q : A 14 j = 2 ∧ _ => g q.1)]
    · by_cases h16 : r = 16
      · subst h16
        rw [mY_16, mY_16]
        simp only [h2]
      · rw [mY_lo _ _ _ _ _ (by omega), mY_lo _ _ _ _ _ (by omega)]
theorem lt_succ_iff_of_ne {j k : Nat} (h : j ≠ k) : (j < k + 1) = (j < k) := propext (by omega)
theorem monA_l {A : VW} (hV : HV A) {w c : Nat} (hw : w < 4096) (hc : c < 4096) (hgo : ∀ i, i < A 0 0 → goB A w i = true) (ke : Int32 → SI → Option (Int32 × SI)) (o : Nat → Nat) : ∀ (d m k : Nat) (U : SI), k + d = A 0 0 → d < m → U 79 0 = nI (A 0 0) → (∀ j, j < 6 → U 79 (4 + j) = nI (A 1 j)) → (∀ j, j < A 0 0 → skN (fun e => U 79 (13 + 10 * j + e)) (mY A w c k 0) (o j + if j < k ∧ w.testBit j = true then 1 else 0) j) →
    ∃ U', f_X10_monday_186 (nI w) (nI c) ke m (nI (seN (loB w c) k)) (nI k) U = ke (nI (seN (loB w c) (A 0 0))) U' ∧ (∀ j, j < A 0 0 → skN (fun e => U' 79 (13 + 10 * j + e)) (mY A w c (A 0 0) 0) (o j + if w.testBit j = true then 1 else 0) j) ∧ ∀ a e, ¬ (a = 79 ∧ 13 ≤ e ∧ e < 133) → U' a e = U a e := by
  intro d
  have hn := hV.1.1
  induction d with
  | zero =>
    intro m k U hk hm s0 s5 hs
    obtain ⟨q, rfl⟩ : ∃ q, m = q + 1 := ⟨m - 1, by omega⟩
    rw [f_X10_monday_186, show inB (0 : Int32) 205 = true from rfl, gd_t, show ix (0 : Int32) = 0 from rfl, s0, if_pos (nI_le (by omega) (by omega))]
    refine ⟨U, by rw [show k = A 0 0 by omega], fun j hj => ?_, fun _ _ _ => rfl⟩
    have := hs j hj
    rw [show k = A 0 0 by omega] at this
    simp only [hj, true_and] at this
    exact this
  | succ d ih =>
    intro m k U hk hm s0 s5 hs
    obtain ⟨q, rfl⟩ : ∃ q, m = q + 1 := ⟨m - 1, by omega⟩
    have hkn : k < A 0 0 := by omega
    have hk12 : k < 12 := by omega
    rw [f_X10_monday_186, show inB (0 : Int32) 205 = true from rfl, gd_t, show ix (0 : Int32) = 0 from rfl, s0, if_neg (nI_ge (by omega) (by omega)), has_eq (show w < 2 ^ 31 by omega) (show k < 32 by omega), sb, has_eq (show c < 2 ^ 31 by omega) (show k < 32 by omega)]
    have hse : seN (loB w c) (k + 1) = seN (loB w c) k ||| (if loB w c k = true then 2 ^ k else 0) := rfl
    cases hwk : w.testBit k with
    | false =>
      have hlo : loB w c k = false := by unfold loB; rw [hwk]; rfl
      rw [if_pos (by simp), nI_1]
      rw [hlo] at hse
      simp only [Bool.false_eq_true, if_false, Nat.or_zero] at hse
      rw [← hse]
      refine ih q (k + 1) U (by omega) (by omega) s0 s5 (fun j hj => ?_)
      have := hs j hj
      have e1 : (j < k + 1 ∧ w.testBit j = true) ↔ (j < k ∧ w.testBit j = true) := by
        by_cases e : j = k
        · rw [e, hwk]; simp
        · rw [lt_succ_iff_of_ne e]
      simp only [e1]
      refine skN_vw this (mY_same e1 (by simp) (fun g => ?_))
      have e2 : ∀ x, (x < k + 1 ∧ loB w c x = true) ↔ (x < k ∧ loB w c x = true) := fun x => by
        by_cases e : x = k
        · rw [e, hlo]; simp
        · rw [lt_succ_iff_of_ne e]
      rw [e2, e2]
    | true =>
      rw [if_neg (by simp)]
      obtain ⟨g0, g1, g2, g3, g4, g5, g6, g7, g8, g9⟩ := hs k hkn
      have v := hV.2.2.2 k hkn
      have b0 : A 10 k < 6 := v.1.1
      obtain ⟨b2, b3⟩ := v.1.2.2
      have bf := hV.2.1.1 (A 10 k) b0
      have e0 : mY A w c k 0 10 k = A 10 k := mY_lo _ _ _ _ _ (by omega)
      have e2 : mY A w c k 0 12 k = A 12 k := by rw [mY_t _ _ _ _ _ _ (by omega), if_neg (by omega)]
      have e3 : mY A w c k 0 13 k = A 13 k := by rw [mY_t _ _ _ _ _ _ (by omega), if_neg (by omega)]
      have g0' : U 79 (13 + 10 * k + 0) = nI (A 10 k) := by rw [← e0]; exact g0
      have g2' : U 79 (13 + 10 * k + 2) = nI (A 12 k) := by rw [← e2]; exact g2
      have g3' : U 79 (13 + 10 * k + 3) = nI (A 13 k) := by rw [← e3]; exact g3
      have g6' : U 79 (13 + 10 * k + 6) = nI (o k) := by
        have : U 79 (13 + 10 * k + 6) = _ := g6
        rw [this, if_neg (by omega)]
        rfl
      have e4 : (4 : Int32) + nI (A 10 k) = nI (4 + A 10 k) := nI_add 4 _
      simp only [of2 hk12, of0 hk12, sb, g0', g2', e4, inBn (show 4 + A 10 k < 205 by omega) (show 205 < 2 ^ 31 by omega), gd_t, ixn (show 4 + A 10 k < 2 ^ 31 by omega), s5 _ b0, fad_eq (show A 12 k < 1000 by omega) (show A 1 (A 10 k) < 1000 by omega), pu2 hk12]
      have u1 : ∀ e, e ≠ 13 + 10 * k + 2 → up2 U 79 (13 + 10 * k + 2) (nI (min 99 (A 12 k + A 1 (A 10 k)))) 79 e = U 79 e := fun e he => up2_ne _ (by omega)
      simp only [of3 hk12, of0 hk12, sb, u1 (13 + 10 * k + 3) (by omega), u1 (13 + 10 * k + 0) (by omega), g0', g3', e4, inBn (show 4 + A 10 k < 205 by omega) (show 205 < 2 ^ 31 by omega), gd_t, ixn (show 4 + A 10 k < 2 ^ 31 by omega), u1 (4 + A 10 k) (by omega), s5 _ b0, fad_eq (show A 13 k < 1000 by omega) (show A 1 (A 10 k) < 1000 by omega), pu3 hk12]
      have u2 : up2 (up2 U 79 (13 + 10 * k + 2) (nI (min 99 (A 12 k + A 1 (A 10 k))))) 79 (13 + 10 * k + 3) (nI (min 99 (A 13 k + A 1 (A 10 k)))) 79 (13 + 10 * k + 6) = nI (o k) := by
        rw [up2_ne _ (by omega), up2_ne _ (by omega)]; exact g6'
      simp only [of6 hk12, sb, u2, pu6 hk12, nI_1]
      generalize hU1 : up2 (up2 (up2 U 79 (13 + 10 * k + 2) (nI (min 99 (A 12 k + A 1 (A 10 k))))) 79 (13 + 10 * k + 3) (nI (min 99 (A 13 k + A 1 (A 10 k))))) 79 (13 + 10 * k + 6) (nI (o k + 1)) = U1
      have f1 : ∀ a e, ¬ (a = 79 ∧ (e = 13 + 10 * k + 2 ∨ e = 13 + 10 * k + 3 ∨ e = 13 + 10 * k + 6)) → U1 a e = U a e := fun a e h => by rw [← hU1, up2_ne _ (by omega), up2_ne _ (by omega), up2_ne _ (by omega)]
      have r2 : U1 79 (13 + 10 * k + 2) = nI (fdN A 12 k) := by rw [← hU1, up2_ne _ (by omega), up2_ne _ (by omega), up2_eq]; rfl
      have r3 : U1 79 (13 + 10 * k + 3) = nI (fdN A 13 k) := by rw [← hU1, up2_ne _ (by omega), up2_eq]; rfl
      have r6 : U1 79 (13 + 10 * k + 6) = nI (o k + 1) := by rw [← hU1, up2_eq]
      have e12 : mY A w c (k + 1) 0 12 k = fdN A 12 k := by rw [mY_t _ _ _ _ _ _ (by omega), if_pos ⟨by omega, hwk⟩]
      have e13 : mY A w c (k + 1) 0 13 k = fdN A 13 k := by rw [mY_t _ _ _ _ _ _ (by omega), if_pos ⟨by omega, hwk⟩]
      have l0 : ∀ r, (r = 10 ∨ r = 11 ∨ r = 15 ∨ r = 17 ∨ r = 18) → mY A w c (k + 1) 0 r k = mY A w c k 0 r k := fun r hr => by rw [mY_lo _ _ _ _ _ (by omega), mY_lo _ _ _ _ _ (by omega)]
      have l16 : mY A w c (k + 1) 0 16 k = mY A w c k 0 16 k := by rw [mY_16, mY_16]
      -- the SOCK k itself, if its place and what goes with it is right
      have lastK : ∀ U2 : SI, (∀ e, e < 10 → e ≠ 4 → e ≠ 5 → e ≠ 7 → U2 79 (13 + 10 * k + e) = U1 79 (13 + 10 * k + e)) → U2 79 (13 + 10 * k + 4) = nI (mY A w c (k + 1) 0 14 k) → U2 79 (13 + 10 * k + 5) = otI (mY A w c (k + 1) 0) k → U2 79 (13 + 10 * k + 7) = siI (mY A w c (k + 1) 0) k → skN (fun e => U2 79 (13 + 10 * k + e)) (mY A w c (k + 1) 0) (o k + if k < k + 1 ∧ w.testBit k = true then 1 else 0) k := fun U2 z z4 z5 z7 => by
        refine ⟨?_, ?_, ?_, ?_, z4, z5, ?_, z7, ?_, ?_⟩
        · rw [l0 10 (by omega)]; exact ((z 0 (by omega) (by omega) (by omega) (by omega)).trans (f1 _ _ (by omega))).trans g0
        · rw [l0 11 (by omega)]; exact ((z 1 (by omega) (by omega) (by omega) (by omega)).trans (f1 _ _ (by omega))).trans g1
        · rw [e12]; exact (z 2 (by omega) (by omega) (by omega) (by omega)).trans r2
        · rw [e13]; exact (z 3 (by omega) (by omega) (by omega) (by omega)).trans r3
        · rw [if_pos ⟨by omega, hwk⟩]; exact (z 6 (by omega) (by omega) (by omega) (by omega)).trans r6
        · rw [l0 17 (by omega)]; exact ((z 8 (by omega) (by omega) (by omega) (by omega)).trans (f1 _ _ (by omega))).trans g8
        · rw [l0 18 (by omega)]; exact ((z 9 (by omega) (by omega) (by omega) (by omega)).trans (f1 _ _ (by omega))).trans g9
      have t4 : U1 79 (13 + 10 * k + 4) = nI (mY A w c k 0 14 k) := (f1 _ _ (by omega)).trans g4
      have t5 : U1 79 (13 + 10 * k + 5) = otI (mY A w c k 0) k := (f1 _ _ (by omega)).trans g5
      have t7 : U1 79 (13 + 10 * k + 7) = siI (mY A w c k 0) k := (f1 _ _ (by omega)).trans g7
      cases hck : c.testBit k with
      | true =>
        rw [if_neg (by simp)]
        have hlo : loB w c k = false := by unfold loB; rw [hck]; simp
        rw [hlo] at hse
        simp only [Bool.false_eq_true, if_false, Nat.or_zero] at hse
        rw [← hse]
        have e2 : ∀ x, (x < k + 1 ∧ loB w c x = true) ↔ (x < k ∧ loB w c x = true) := fun x => by
          by_cases e : x = k
          · rw [e, hlo]; simp
          · rw [lt_succ_iff_of_ne e]
        have h14 : mY A w c (k + 1) 0 14 k = mY A w c k 0 14 k := by
          rw [mY_14, mY_14]
          simp only [e2]
        obtain ⟨U', q1, q2, q3⟩ := ih q (k + 1) U1 (by omega) (by omega) (by rw [f1 _ _ (by omega)]; exact s0) (fun j hj => by rw [f1 _ _ (by omega)]; exact s5 j hj) (fun j hj => by
          by_cases e : j = k
          · subst e
            refine lastK U1 (fun _ _ _ _ _ => rfl) ?_ ?_ ?_
            · rw [h14]; exact t4
            · unfold otI at t5 ⊢; rw [h14, l0 15 (by omega)]; exact t5
            · unfold siI at t7 ⊢; rw [h14, l16]; exact t7
          · have := hs j hj
            simp only [lt_succ_iff_of_ne e]
            exact skN_vw (skN_cg this (fun z _ => f1 _ _ (by omega))) (mY_same (by rw [lt_succ_iff_of_ne e]) (by simp) (fun g => by rw [e2, e2])))
        exact ⟨U', q1, q2, fun a e h => by rw [q3 a e h, f1 _ _ (by omega)]⟩
      | false =>
        rw [if_pos (by simp)]
        have hlo : loB w c k = true := by unfold loB; rw [hwk, hck]; rfl
        rw [hlo] at hse
        simp only [if_true] at hse
        have hg := hgo k hkn
        unfold goB at hg
        rw [hwk] at hg
        have n1 : A 14 k ≠ 1 := by intro e; rw [e] at hg; simp at hg
        have h14 : mY A w c k 0 14 k = if A 14 k = 2 ∧ A 15 k < k ∧ loB w c (A 15 k) = true then 0 else A 14 k := by
          rw [mY_14, if_neg (by omega)]
          simp
        have h15 : mY A w c k 0 15 k = A 15 k := mY_lo _ _ _ _ _ (by omega)
        have h14' : mY A w c (k + 1) 0 14 k = if A 14 k = 2 then 0 else A 14 k := by
          rw [mY_14, if_neg (by omega)]
          by_cases g : A 14 k = 2
          · rw [if_pos ⟨g, Or.inl ⟨by omega, hlo⟩⟩, if_pos g]
          · rw [if_neg (fun z => g z.1), if_neg g]
        have hb3 := v.2.1.1
        unfold f_X10_part2
        rw [of5 hk12, sb, t5]
        simp only [nm_eq, shl1 (show k < 31 by omega), fa_or, ← hse]
        by_cases hp : mY A w c k 0 14 k = 2
        · have hA2 : A 14 k = 2 := by
            rw [h14] at hp
            split at hp
            · omega
            · exact hp
          have hnl : ¬ (A 15 k < k ∧ loB w c (A 15 k) = true) := fun e => by
            rw [h14, if_pos ⟨hA2, e⟩] at hp
            omega
          obtain ⟨o1, o2, o3, o4⟩ := v.2.1.2.1 hA2
          generalize ho : A 15 k = oo at *
          have ho12 : oo < 12 := by omega
          rw [otI_2 hp, h15, if_neg (show ¬ nI oo < (0 : Int32) from nI_pos (by omega))]
          simp only [pu5 hk12, pu4 hk12, pu5 ho12, pu4 ho12, sb]
          generalize hU2 : up2 (up2 (up2 (up2 U1 79 (13 + 10 * k + 5) (-4)) 79 (13 + 10 * oo + 5) (-4)) 79 (13 + 10 * k + 4) 0) 79 (13 + 10 * oo + 4) 0 = U2
          have f2 : ∀ a e, ¬ (a = 79 ∧ (e = 13 + 10 * k + 4 ∨ e = 13 + 10 * k + 5 ∨ e = 13 + 10 * oo + 4 ∨ e = 13 + 10 * oo + 5)) → U2 a e = U1 a e := fun a e h => by rw [← hU2, up2_ne _ (by omega), up2_ne _ (by omega), up2_ne _ (by omega), up2_ne _ (by omega)]
          have t7' : siI (mY A w c k 0) k = -4 := by unfold siI; rw [hp]; rfl
          rw [hA2, if_pos rfl] at h14'
          obtain ⟨U', q1, q2, q3⟩ := ih q (k + 1) U2 (by omega) (by omega) (by rw [f2 _ _ (by omega), f1 _ _ (by omega)]; exact s0) (fun j hj => by rw [f2 _ _ (by omega), f1 _ _ (by omega)]; exact s5 j hj) (fun j hj => by
            by_cases e : j = k
            · subst e
              refine lastK U2 (fun z z1 z2 z3 z4 => f2 _ _ (by omega)) ?_ ?_ ?_
              · rw [h14', ← hU2, up2_ne _ (by omega), up2_eq]; rfl
              · unfold otI; rw [h14', ← hU2, up2_ne _ (by omega), up2_ne _ (by omega), up2_ne _ (by omega), up2_eq]; rfl
              · unfold siI; rw [h14', f2 _ _ (by omega), t7, t7']; rfl
            · have hj2 := hs j hj
              simp only [lt_succ_iff_of_ne e]
              by_cases eo : j = oo
              · subst eo
                have e14 : mY A w c (k + 1) 0 14 j = 0 := by rw [mY_14, if_neg (by omega), if_pos ⟨o3, Or.inr ⟨by omega, by rw [o4]; exact hlo⟩⟩]
                have d14 : mY A w c k 0 14 j = 2 := by rw [mY_14, if_neg (by omega), if_neg (fun z => z.2.elim hnl (fun z => by omega)), o3]
                have d12 : ∀ r, r = 12 ∨ r = 13 → mY A w c (k + 1) 0 r j = mY A w c k 0 r j := fun r hr => by rw [mY_t _ _ _ _ _ _ hr, mY_t _ _ _ _ _ _ hr]; simp only [lt_succ_iff_of_ne e]
                have d0 : ∀ r, (r = 10 ∨ r = 11 ∨ r = 17 ∨ r = 18) → mY A w c (k + 1) 0 r j = mY A w c k 0 r j := fun r hr => by rw [mY_lo _ _ _ _ _ (by omega), mY_lo _ _ _ _ _ (by omega)]
                obtain ⟨p0, p1, p2, p3, p4, p5, p6, p7, p8, p9⟩ := hj2
                have fz : ∀ z, z < 10 → z ≠ 4 → z ≠ 5 → U2 79 (13 + 10 * j + z) = U 79 (13 + 10 * j + z) := fun z z1 z2 z3 => (f2 _ _ (by omega)).trans (f1 _ _ (by omega))
                unfold siI at p7
                rw [d14] at p7
                refine ⟨?_, ?_, ?_, ?_, ?_, ?_, ?_, ?_, ?_, ?_⟩
                · rw [d0 10 (by omega)]; exact (fz 0 (by omega) (by omega) (by omega)).trans p0
                · rw [d0 11 (by omega)]; exact (fz 1 (by omega) (by omega) (by omega)).trans p1
                · rw [d12 12 (by omega)]; exact (fz 2 (by omega) (by omega) (by omega)).trans p2
                · rw [d12 13 (by omega)]; exact (fz 3 (by omega) (by omega) (by omega)).trans p3
                · rw [e14]; show U2 79 (13 + 10 * j + 4) = _; rw [← hU2, up2_eq]; rfl
                · unfold otI; rw [e14]; show U2 79 (13 + 10 * j + 5) = _; rw [← hU2, up2_ne _ (by omega), up2_ne _ (by omega), up2_eq]; rfl
                · exact (fz 6 (by omega) (by omega) (by omega)).trans p6
                · unfold siI; rw [e14]; exact (fz 7 (by omega) (by omega) (by omega)).trans p7
                · rw [d0 17 (by omega)]; exact (fz 8 (by omega) (by omega) (by omega)).trans p8
                · rw [d0 18 (by omega)]; exact (fz 9 (by omega) (by omega) (by omega)).trans p9
              · refine skN_vw (skN_cg hj2 (fun z _ => (f2 _ _ (by omega)).trans (f1 _ _ (by omega)))) (mY_same (by rw [lt_succ_iff_of_ne e]) (by simp) (fun g => ?_))
                have hne : A 15 j ≠ k := fun z2 => by
                  have := ((hV.2.2.2 j hj).2.1.2.1 g).2.2.2
                  rw [z2, ho] at this
                  exact absurd this.symm eo
                rw [lt_succ_iff_of_ne e, lt_succ_iff_of_ne hne])
          exact ⟨U', q1, q2, fun a e h => by rw [q3 a e h, f2 _ _ (by omega), f1 _ _ (by omega)]⟩
        · rw [otI_n hp, if_pos (show (-4 : Int32) < 0 by decide)]
          simp only [sb]
          have h1414 : mY A w c (k + 1) 0 14 k = mY A w c k 0 14 k := by
            rw [h14', h14]
            by_cases g : A 14 k = 2
            · rw [if_pos g]
              by_cases g2 : A 15 k < k ∧ loB w c (A 15 k) = true
              · rw [if_pos ⟨g, g2⟩]
              · rw [h14, if_neg (fun z => g2 z.2)] at hp
                exact absurd g hp
            · rw [if_neg g, if_neg (fun z => g z.1)]
          obtain ⟨U', q1, q2, q3⟩ := ih q (k + 1) U1 (by omega) (by omega) (by rw [f1 _ _ (by omega)]; exact s0) (fun j hj => by rw [f1 _ _ (by omega)]; exact s5 j hj) (fun j hj => by
            by_cases e : j = k
            · subst e
              refine lastK U1 (fun _ _ _ _ _ => rfl) ?_ ?_ ?_
              · rw [h1414]; exact t4
              · unfold otI at t5 ⊢; rw [h1414, l0 15 (by omega)]; exact t5
              · unfold siI at t7 ⊢; rw [h1414, l16]; exact t7
            · have hj2 := hs j hj
              simp only [lt_succ_iff_of_ne e]
              refine skN_vw (skN_cg hj2 (fun z _ => f1 _ _ (by omega))) (mY_same (by rw [lt_succ_iff_of_ne e]) (by simp) (fun g => ?_))
              rw [lt_succ_iff_of_ne e]
              by_cases z2 : A 15 j = k
              · have z3 := ((hV.2.2.2 j hj).2.1.2.1 g)
                rw [z2] at z3
                rw [h14, z3.2.2.2] at hp
                by_cases z4 : j < k ∧ loB w c j = true
                · exact ⟨fun _ => Or.inl z4, fun _ => Or.inl z4⟩
                · rw [if_neg (fun q => z4 q.2)] at hp
                  exact absurd z3.2.2.1 hp
              · rw [lt_succ_iff_of_ne z2])
          exact ⟨U', q1, q2, fun a e h => by rw [q3 a e h, f1 _ _ (by omega)]⟩
theorem monB_l {A : VW} (hV : HV A) {w c : Nat} (hgo : ∀ i, i < A 0 0 → goB A w i = true) (ke : SI → Option (Int32 × SI)) (o : Nat → Nat) : ∀ (d m k : Nat) (U : SI), k + d = A 0 0 → d < m → U 79 0 = nI (A 0 0) → U 79 1 = nI (A 0 1) → (∀ j, j < A 0 0 → skN (fun e => U 79 (13 + 10 * j + e)) (mY A w c (A 0 0) k) (o j) j) →
    ∃ U', f_X10_monday_319 (nI (seN (loB w c) (A 0 0))) ke m (nI k) U = ke U' ∧ (∀ j, j < A 0 0 → skN (fun e => U' 79 (13 + 10 * j + e)) (mY A w c (A 0 0) (A 0 0)) (o j) j) ∧ ∀ a e, ¬ (a = 79 ∧ 13 ≤ e ∧ e < 133) → U' a e = U a e := by
  intro d
  have hn := hV.1.1
  induction d with
  | zero =>
    intro m k U hk hm s0 s1 hs
    obtain ⟨q, rfl⟩ : ∃ q, m = q + 1 := ⟨m - 1, by omega⟩
    rw [f_X10_monday_319, show inB (0 : Int32) 205 = true from rfl, gd_t, show ix (0 : Int32) = 0 from rfl, s0, if_pos (nI_le (by omega) (by omega))]
    refine ⟨U, rfl, ?_, fun _ _ _ => rfl⟩
    rw [show k = A 0 0 by omega] at hs
    exact hs
  | succ d ih =>
    intro m k U hk hm s0 s1 hs
    obtain ⟨q, rfl⟩ : ∃ q, m = q + 1 := ⟨m - 1, by omega⟩
    have hkn : k < A 0 0 := by omega
    have hk12 : k < 12 := by omega
    have hsm := se_small (loB w c) hn
    rw [f_X10_monday_319, show inB (0 : Int32) 205 = true from rfl, gd_t, show ix (0 : Int32) = 0 from rfl, s0, if_neg (nI_ge (by omega) (by omega)), has_eq (show seN (loB w c) (A 0 0) < 2 ^ 31 by omega) (show k < 32 by omega), sb, se_bit, decide_eq_true hkn, Bool.true_and, nI_1]
    cases hlo : loB w c k with
    | false =>
      rw [if_pos (by simp)]
      refine ih q (k + 1) U (by omega) (by omega) s0 s1 (fun j hj => ?_)
      refine skN_vw (hs j hj) (mY_same (Iff.rfl) ?_ (fun _ => Iff.rfl))
      by_cases e : j = k
      · rw [e, hlo]; simp
      · rw [lt_succ_iff_of_ne e]
    | true =>
      have hg := hgo k hkn
      unfold goB at hg
      have hwk : w.testBit k = true := by unfold loB at hlo; cases hz : w.testBit k with
        | true => rfl
        | false => rw [hz] at hlo; cases hlo
      rw [hwk] at hg
      have n1 : A 14 k ≠ 1 := by intro e; rw [e] at hg; simp at hg
      rw [if_neg (by simp), pu4 hk12, sb, show inB (1 : Int32) 205 = true from rfl, gd_t, show ix (1 : Int32) = 1 from rfl, up2_ne _ (by omega), s1, pu7 hk12, sb]
      generalize hU1 : up2 (up2 U 79 (13 + 10 * k + 4) 1) 79 (13 + 10 * k + 7) (nI (A 0 1)) = U1
      have f1 : ∀ a e, ¬ (a = 79 ∧ (e = 13 + 10 * k + 4 ∨ e = 13 + 10 * k + 7)) → U1 a e = U a e := fun a e h => by rw [← hU1, up2_ne _ (by omega), up2_ne _ (by omega)]
      obtain ⟨U', q1, q2, q3⟩ := ih q (k + 1) U1 (by omega) (by omega) (by rw [f1 _ _ (by omega)]; exact s0) (by rw [f1 _ _ (by omega)]; exact s1) (fun j hj => by
        by_cases e : j = k
        · subst e
          obtain ⟨p0, p1, p2, p3, p4, p5, p6, p7, p8, p9⟩ := hs j hj
          have e14 : mY A w c (A 0 0) (j + 1) 14 j = 1 := by rw [mY_14, if_pos ⟨by omega, hlo⟩]
          have e16 : mY A w c (A 0 0) (j + 1) 16 j = A 0 1 := by rw [mY_16, if_pos ⟨by omega, hlo⟩]
          have d14 : mY A w c (A 0 0) j 14 j ≠ 2 := by
            rw [mY_14, if_neg (by omega)]
            by_cases g : A 14 j = 2
            · rw [if_pos ⟨g, Or.inl ⟨hj, hlo⟩⟩]; omega
            · rw [if_neg (fun z => g z.1)]; exact g
          have d0 : ∀ r, (r = 10 ∨ r = 11 ∨ r = 17 ∨ r = 18) → mY A w c (A 0 0) (j + 1) r j = mY A w c (A 0 0) j r j := fun r hr => by rw [mY_lo _ _ _ _ _ (by omega), mY_lo _ _ _ _ _ (by omega)]
          have d12 : ∀ r, r = 12 ∨ r = 13 → mY A w c (A 0 0) (j + 1) r j = mY A w c (A 0 0) j r j := fun r hr => by rw [mY_t _ _ _ _ _ _ hr, mY_t _ _ _ _ _ _ hr]
          have fz : ∀ z, z < 10 → z ≠ 4 → z ≠ 7 → U1 79 (13 + 10 * j + z) = U 79 (13 + 10 * j + z) := fun z z1 z2 z3 => f1 _ _ (by omega)
          rw [otI_n d14] at p5
          refine ⟨?_, ?_, ?_, ?_, ?_, ?_, ?_, ?_, ?_, ?_⟩
          · rw [d0 10 (by omega)]; exact (fz 0 (by omega) (by omega) (by omega)).trans p0
          · rw [d0 11 (by omega)]; exact (fz 1 (by omega) (by omega) (by omega)).trans p1
          · rw [d12 12 (by omega)]; exact (fz 2 (by omega) (by omega) (by omega)).trans p2
          · rw [d12 13 (by omega)]; exact (fz 3 (by omega) (by omega) (by omega)).trans p3
          · rw [e14]; show U1 79 (13 + 10 * j + 4) = _; rw [← hU1, up2_ne _ (by omega), up2_eq]; rfl
          · unfold otI; rw [e14]; exact (fz 5 (by omega) (by omega) (by omega)).trans p5
          · exact (fz 6 (by omega) (by omega) (by omega)).trans p6
          · unfold siI; rw [e14, e16]; show U1 79 (13 + 10 * j + 7) = _; rw [← hU1, up2_eq]; rfl
          · rw [d0 17 (by omega)]; exact (fz 8 (by omega) (by omega) (by omega)).trans p8
          · rw [d0 18 (by omega)]; exact (fz 9 (by omega) (by omega) (by omega)).trans p9
        · exact skN_vw (skN_cg (hs j hj) (fun z _ => f1 _ _ (by omega))) (mY_same Iff.rfl (by rw [lt_succ_iff_of_ne e]) (fun _ => Iff.rfl)))
      exact ⟨U', q1, q2, fun a e h => by rw [q3 a e h, f1 _ _ (by omega)]⟩
