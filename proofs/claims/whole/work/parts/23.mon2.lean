/-- who went and did not come back -/
def loB (w c i : Nat) : Bool := w.testBit i && !c.testBit i
def fdN (A : VW) (r j : Nat) : Nat := min 99 (A r j + A 1 (A 10 j))
/-- the view after a MONDAY, as far as the first k are washed -/
def mV (A : VW) (w c l k : Nat) : VW := fun r j =>
  if r = 12 ∨ r = 13 then (if j < k ∧ w.testBit j = true then fdN A r j else A r j)
  else if r = 14 then (if j < k ∧ loB w c j = true then 1 else if A 14 j = 2 ∧ A 15 j < k ∧ loB w c (A 15 j) = true then 0 else A 14 j)
  else if r = 16 then (if j < k ∧ loB w c j = true then A 0 1 else A 16 j)
  else if r = 5 ∧ j = A 0 1 then w
  else if r = 6 ∧ j = A 0 1 then l
  else if r = 7 ∧ j = A 0 1 then 2 ^ A 0 0 - 1
  else if r = 0 ∧ j = 1 then A 0 1 + 1
  else A r j
theorem mV_lo (A : VW) (w c l k : Nat) {r j : Nat} (h : r = 1 ∨ r = 2 ∨ r = 3 ∨ r = 4 ∨ r = 10 ∨ r = 11 ∨ r = 15 ∨ r = 17 ∨ r = 18 ∨ (r = 0 ∧ j ≠ 1) ∨ ((r = 5 ∨ r = 6 ∨ r = 7) ∧ j ≠ A 0 1)) : mV A w c l k r j = A r j := by
  unfold mV
  rw [if_neg (by omega), if_neg (by omega), if_neg (by omega), if_neg (by omega), if_neg (by omega), if_neg (by omega), if_neg (by omega)]
theorem mV_14 (A : VW) (w c l k j : Nat) : mV A w c l k 14 j = if j < k ∧ loB w c j = true then 1 else if A 14 j = 2 ∧ A 15 j < k ∧ loB w c (A 15 j) = true then 0 else A 14 j := by
  unfold mV
  rw [if_neg (by omega), if_pos rfl]
theorem mV_16 (A : VW) (w c l k j : Nat) : mV A w c l k 16 j = if j < k ∧ loB w c j = true then A 0 1 else A 16 j := by
  unfold mV
  rw [if_neg (by omega), if_neg (by omega), if_pos rfl]
theorem mV_t (A : VW) (w c l k j : Nat) {r : Nat} (h : r = 12 ∨ r = 13) : mV A w c l k r j = if j < k ∧ w.testBit j = true then fdN A r j else A r j := by
  unfold mV
  rw [if_pos h]
theorem mV_5 (A : VW) (w c l k : Nat) : mV A w c l k 5 (A 0 1) = w ∧ mV A w c l k 6 (A 0 1) = l ∧ mV A w c l k 7 (A 0 1) = 2 ^ A 0 0 - 1 ∧ mV A w c l k 0 1 = A 0 1 + 1 := by
  unfold mV
  simp
theorem mn_eq {a b : Nat} (ha : a < 1000) (hb : b < 1000) : mnI (99 : Int32) (nI a + nI b) = nI (min 99 (a + b)) := by
  unfold mnI
  rw [nI_add]
  by_cases h : a + b < 99
  · rw [if_pos (show nI (a + b) < (99 : Int32) from nI_lt (b := 99) h (by omega)), Nat.min_eq_right (by omega)]
  · rw [if_neg (show ¬ nI (a + b) < (99 : Int32) by rw [lt_toInt, nI_toInt (by omega), show (99 : Int32).toInt = 99 from rfl]; omega), Nat.min_eq_left (by omega)]
    rfl
theorem fad_eq {a b : Nat} (ha : a < 1000) (hb : b < 1000) : f_X10_faded (nI a) (nI b) = some (nI (min 99 (a + b))) := by
  unfold f_X10_faded
  rw [nI_add]
  by_cases h : a + b ≤ 99
  · rw [if_pos (show nI (a + b) ≤ (99 : Int32) from nI_le (b := 99) h (by omega)), Nat.min_eq_right (by omega)]
  · rw [if_neg (show ¬ nI (a + b) ≤ (99 : Int32) by rw [le_toInt, nI_toInt (by omega), show (99 : Int32).toInt = 99 from rfl]; omega), Nat.min_eq_left (by omega)]
    rfl
/-- nothing new for a SOCK -/
theorem mV_old {A : VW} {w c l k j : Nat} (h1 : j = k → w.testBit j = false) (h2 : A 14 j = 2 → A 15 j = k → loB w c k = true → j < k ∧ loB w c j = true) : ∀ r, 10 ≤ r → r ≤ 18 → mV A w c l (k + 1) r j = mV A w c l k r j := by
  intro r hr1 hr2
  have hlo : j = k → loB w c j = false := fun e => by unfold loB; rw [h1 e]; rfl
  by_cases ht : r = 12 ∨ r = 13
  · rw [mV_t _ _ _ _ _ _ ht, mV_t _ _ _ _ _ _ ht]
    by_cases e : j = k
    · rw [h1 e, if_neg (by simp), if_neg (by simp)]
    · simp only [show (j < k + 1) = (j < k) from propext (by omega)]
  · by_cases h14 : r = 14
    · subst h14
      rw [mV_14, mV_14]
      by_cases e : j = k
      · rw [hlo e, if_neg (show ¬ (j < k + 1 ∧ false = true) by simp), if_neg (show ¬ (j < k ∧ false = true) by simp)]
        by_cases g : A 14 j = 2 ∧ A 15 j < k + 1 ∧ loB w c (A 15 j) = true
        · by_cases g2 : A 15 j = k
          · have := h2 g.1 g2 (by rw [← g2]; exact g.2.2)
            omega
          · rw [if_pos g, if_pos ⟨g.1, by omega, g.2.2⟩]
        · rw [if_neg g, if_neg (fun q => g ⟨q.1, by omega, q.2.2⟩)]
      · simp only [show (j < k + 1) = (j < k) from propext (by omega)]
        by_cases g0 : j < k ∧ loB w c j = true
        · rw [if_pos g0, if_pos g0]
        · rw [if_neg g0, if_neg g0]
          by_cases g : A 14 j = 2 ∧ A 15 j < k + 1 ∧ loB w c (A 15 j) = true
          · by_cases g2 : A 15 j = k
            · exact absurd (h2 g.1 g2 (by rw [← g2]; exact g.2.2)) g0
            · rw [if_pos g, if_pos ⟨g.1, by omega, g.2.2⟩]
          · rw [if_neg g, if_neg (fun q => g ⟨q.1, by omega, q.2.2⟩)]
    · by_cases h16 : r = 16
      · subst h16
        rw [mV_16, mV_16]
        by_cases e : j = k
        · rw [hlo e, if_neg (by simp), if_neg (by simp)]
        · simp only [show (j < k + 1) = (j < k) from propext (by omega)]
      · rw [mV_lo _ _ _ _ _ (by omega), mV_lo _ _ _ _ _ (by omega)]
/-- a SOCK that is washed and comes back -/
theorem mV_back {A : VW} {w c l k : Nat} (h1 : w.testBit k = true) (h2 : loB w c k = false) : ∀ r, 10 ≤ r → r ≤ 18 → mV A w c l (k + 1) r k = if r = 12 ∨ r = 13 then fdN A r k else mV A w c l k r k := by
  intro r hr1 hr2
  by_cases ht : r = 12 ∨ r = 13
  · rw [mV_t _ _ _ _ _ _ ht, if_pos ⟨by omega, h1⟩, if_pos ht]
  · rw [if_neg ht]
    by_cases h14 : r = 14
    · subst h14
      rw [mV_14, mV_14, h2, if_neg (show ¬ (k < k + 1 ∧ false = true) by simp), if_neg (show ¬ (k < k ∧ false = true) by simp)]
      by_cases g : A 14 k = 2 ∧ A 15 k < k + 1 ∧ loB w c (A 15 k) = true
      · by_cases g2 : A 15 k = k
        · have := g.2.2
          rw [g2, h2] at this
          cases this
        · rw [if_pos g, if_pos ⟨g.1, by omega, g.2.2⟩]
      · rw [if_neg g, if_neg (fun q => g ⟨q.1, by omega, q.2.2⟩)]
    · by_cases h16 : r = 16
      · subst h16
        rw [mV_16, mV_16, h2, if_neg (by simp), if_neg (by simp)]
      · rw [mV_lo _ _ _ _ _ (by omega), mV_lo _ _ _ _ _ (by omega)]
theorem wash_l {A : VW} (hV : HV A) {w c l : Nat} (hw : w < 4096) (hc : c < 4096) (hgo : ∀ i, i < A 0 0 → goB A w i = true) (ke : SI → Option (Int32 × SI)) : ∀ (d m k : Nat) (S : SI), k + d = A 0 0 → d < m → S 1 1 = nI (A 0 0) → S 1 4 = nI (A 0 1) → (∀ j, j < 6 → S 5 j = nI (A 1 j)) → (∀ j, j < A 0 0 → skC (S (9 + j)) (mV A w c l k) j) →
    ∃ S', f_X1_wash_49 (nI w) (nI c) ke m (nI k) S = ke S' ∧ (∀ j, j < A 0 0 → skC (S' (9 + j)) (mV A w c l (A 0 0)) j) ∧ ∀ a e, ¬ (9 ≤ a ∧ a < 21) → S' a e = S a e := by
  intro d
  have hn := hV.1.1
  induction d with
  | zero =>
    intro m k S hk hm s1 s4 s5 hs
    obtain ⟨q, rfl⟩ : ∃ q, m = q + 1 := ⟨m - 1, by omega⟩
    rw [f_X1_wash_49, s1, if_pos (nI_le (by omega) (by omega))]
    refine ⟨S, rfl, ?_, fun _ _ _ => rfl⟩
    rw [show A 0 0 = k by omega] at hs ⊢
    exact hs
  | succ d ih =>
    intro m k S hk hm s1 s4 s5 hs
    obtain ⟨q, rfl⟩ : ∃ q, m = q + 1 := ⟨m - 1, by omega⟩
    have hkn : k < A 0 0 := by omega
    rw [f_X1_wash_49, s1, if_neg (nI_ge (by omega) (by omega))]
    simp only [bit_if (show w < 2 ^ 31 by omega) (show k < 32 by omega), bit_if (show c < 2 ^ 31 by omega) (show k < 32 by omega), nI_1]
    cases hwk : w.testBit k with
    | false =>
      rw [if_pos rfl]
      exact ih q (k + 1) S (by omega) (by omega) s1 s4 s5 (fun j hj => skC_vw (hs j hj) (mV_old (fun e => by rw [e]; exact hwk) (fun _ _ e => by unfold loB at e; rw [hwk] at e; cases e)))
    | true =>
      rw [if_neg (by simp)]
      obtain ⟨g0, g1, g2, g3, g4, g5, g6, g7, g8⟩ := hs k hkn
      have v := hV.2.2.2 k hkn
      have b0 : A 10 k < 6 := v.1.1
      obtain ⟨b2, b3⟩ := v.1.2.2
      have bf := hV.2.1.1 (A 10 k) b0
      have e0 : mV A w c l k 10 k = A 10 k := mV_lo _ _ _ _ _ (by omega)
      have e2 : mV A w c l k 12 k = A 12 k := by rw [mV_t _ _ _ _ _ _ (by omega), if_neg (by omega)]
      have e3 : mV A w c l k 13 k = A 13 k := by rw [mV_t _ _ _ _ _ _ (by omega), if_neg (by omega)]
      rw [inBn (show k < 12 by omega) (by omega), ixn (show k < 2 ^ 31 by omega), gd_t, gd_t, g0, e0, inBn b0 (by omega), gd_t, ixn (show A 10 k < 2 ^ 31 by omega), s5 _ b0]
      unfold f_X5_wear
      simp only [nm_eq, sb, up2_ne _ (show 9 + k ≠ 9 + k ∨ 3 ≠ 2 from Or.inr (by omega)), g2, g3, e2, e3, mn_eq (show A 12 k < 1000 by omega) (show A 1 (A 10 k) < 1000 by omega), mn_eq (show A 13 k < 1000 by omega) (show A 1 (A 10 k) < 1000 by omega)]
      generalize hS1 : up2 (up2 S (9 + k) 2 (nI (min 99 (A 12 k + A 1 (A 10 k))))) (9 + k) 3 (nI (min 99 (A 13 k + A 1 (A 10 k)))) = S1
      have f1 : ∀ a e, ¬ (a = 9 + k ∧ (e = 2 ∨ e = 3)) → S1 a e = S a e := fun a e h => by rw [← hS1, up2_ne _ (by omega), up2_ne _ (by omega)]
      have r2 : S1 (9 + k) 2 = nI (fdN A 12 k) := by rw [← hS1, up2_ne _ (by omega), up2_eq]; rfl
      have r3 : S1 (9 + k) 3 = nI (fdN A 13 k) := by rw [← hS1, up2_eq]; rfl
      cases hck : c.testBit k with
      | true =>
        rw [if_neg (by simp)]
        have hlo : loB w c k = false := by unfold loB; rw [hck]; simp
        obtain ⟨S', q1, q2, q3⟩ := ih q (k + 1) S1 (by omega) (by omega) (by rw [f1 _ _ (by omega)]; exact s1) (by rw [f1 _ _ (by omega)]; exact s4) (fun j hj => by rw [f1 _ _ (by omega)]; exact s5 j hj) (fun j hj => by
          by_cases e : j = k
          · subst e
            have mb := mV_back (A := A) (w := w) (c := c) (l := l) (k := j) hwk hlo
            unfold skC otI siI at *
            rw [mb 10 (by omega) (by omega), mb 11 (by omega) (by omega), mb 12 (by omega) (by omega), mb 13 (by omega) (by omega), mb 14 (by omega) (by omega), mb 15 (by omega) (by omega), mb 16 (by omega) (by omega), mb 17 (by omega) (by omega), mb 18 (by omega) (by omega)]
            refine ⟨?_, ?_, ?_, ?_, ?_, ?_, ?_, ?_, ?_⟩
            · rw [f1 _ _ (by omega)]; exact g0
            · rw [f1 _ _ (by omega)]; exact g1
            · exact r2
            · exact r3
            · rw [f1 _ _ (by omega)]; exact g4
            · rw [f1 _ _ (by omega)]; exact g5
            · rw [f1 _ _ (by omega)]; exact g6
            · rw [f1 _ _ (by omega)]; exact g7
            · rw [f1 _ _ (by omega)]; exact g8
          · exact skC_vw (skC_cg (hs j hj) (fun e _ => f1 _ _ (by omega))) (mV_old (fun e' => absurd e' e) (fun _ _ e' => by rw [hlo] at e'; cases e')))
        exact ⟨S', q1, q2, fun a e h => by rw [q3 a e h, f1 _ _ (by omega)]⟩
      | false =>
        rw [if_pos rfl]
        have hlo : loB w c k = true := by unfold loB; rw [hwk, hck]; rfl
        have hg := hgo k hkn
        unfold goB at hg
        rw [hwk] at hg
        have n1 : A 14 k ≠ 1 := by intro e; rw [e] at hg; simp at hg
        have h14 : mV A w c l k 14 k = if A 14 k = 2 ∧ A 15 k < k ∧ loB w c (A 15 k) = true then 0 else A 14 k := by rw [mV_14, if_neg (by omega)]
        have h15 : mV A w c l k 15 k = A 15 k := mV_lo _ _ _ _ _ (by omega)
        have t4 : S1 (9 + k) 4 = nI (mV A w c l k 14 k) := by rw [f1 _ _ (by omega)]; exact g4
        have t5 : S1 (9 + k) 5 = otI (mV A w c l k) k := by rw [f1 _ _ (by omega)]; exact g5
        have hb3 := v.2.1.1
        -- the lost one itself
        have lastK : ∀ S2 : SI, (∀ e, e ≠ 4 → e ≠ 5 → e ≠ 6 → S2 (9 + k) e = S1 (9 + k) e) → S2 (9 + k) 4 = 1 → S2 (9 + k) 5 = -4 → S2 (9 + k) 6 = nI (A 0 1) → skC (S2 (9 + k)) (mV A w c l (k + 1)) k := fun S2 z z4 z5 z6 => by
          have e14 : mV A w c l (k + 1) 14 k = 1 := by rw [mV_14, if_pos ⟨by omega, hlo⟩]
          have e16 : mV A w c l (k + 1) 16 k = A 0 1 := by rw [mV_16, if_pos ⟨by omega, hlo⟩]
          have e12 : mV A w c l (k + 1) 12 k = fdN A 12 k := by rw [mV_t _ _ _ _ _ _ (by omega), if_pos ⟨by omega, hwk⟩]
          have e13 : mV A w c l (k + 1) 13 k = fdN A 13 k := by rw [mV_t _ _ _ _ _ _ (by omega), if_pos ⟨by omega, hwk⟩]
          unfold skC otI siI
          rw [e12, e13, e14, e16, mV_lo A w c l (k + 1) (r := 10) (by omega), mV_lo A w c l (k + 1) (r := 11) (by omega), mV_lo A w c l (k + 1) (r := 17) (by omega), mV_lo A w c l (k + 1) (r := 18) (by omega)]
          rw [mV_lo A w c l k (r := 10) (by omega)] at g0
          rw [mV_lo A w c l k (r := 11) (by omega)] at g1
          rw [mV_lo A w c l k (r := 17) (by omega)] at g7
          rw [mV_lo A w c l k (r := 18) (by omega)] at g8
          refine ⟨?_, ?_, ?_, ?_, z4, z5, z6, ?_, ?_⟩
          · rw [z _ (by omega) (by omega) (by omega), f1 _ _ (by omega)]; exact g0
          · rw [z _ (by omega) (by omega) (by omega), f1 _ _ (by omega)]; exact g1
          · rw [z _ (by omega) (by omega) (by omega)]; exact r2
          · rw [z _ (by omega) (by omega) (by omega)]; exact r3
          · rw [z _ (by omega) (by omega) (by omega), f1 _ _ (by omega)]; exact g7
          · rw [z _ (by omega) (by omega) (by omega), f1 _ _ (by omega)]; exact g8
        unfold f_X1_unpair f_X5_toLost f_X5_toBox
        simp only [inBn (show k < 12 by omega) (show 12 < 2 ^ 31 by omega), ixn (show k < 2 ^ 31 by omega), gd_t, nm_eq, t4, t5]
        by_cases hp : mV A w c l k 14 k = 2
        · have hA2 : A 14 k = 2 := by
            rw [h14] at hp
            split at hp
            · omega
            · exact hp
          have hnl : ¬ (A 15 k < k ∧ loB w c (A 15 k) = true) := fun e => by
            rw [h14, if_pos ⟨hA2, e⟩] at hp
            omega
          obtain ⟨o1, o2, o3, o4⟩ := v.2.1.2.1 hA2
          generalize ho : A 15 k = o at *
          have ho12 : o < 12 := by omega
          rw [otI_2 hp, h15, if_pos (show nI (mV A w c l k 14 k) = (2 : Int32) by rw [hp]; rfl), f1 1 1 (by omega), s1, wi _ (A 0 0) _ (nI_toInt (by omega)), inBn o1 (by omega)]
          simp only [sb, if_true, show ¬ (1 : Int32) = 0 by decide, if_false, inBn ho12 (show 12 < 2 ^ 31 by omega), ixn (show o < 2 ^ 31 by omega), gd_t]
          generalize hS2 : up2 (up2 (up2 (up2 (up2 (up2 S1 (9 + k) 4 0) (9 + k) 5 (-4)) (9 + k) 6 (-4)) (9 + o) 4 0) (9 + o) 5 (-4)) (9 + o) 6 (-4) = S2
          have f2 : ∀ a e, ¬ ((a = 9 + k ∨ a = 9 + o) ∧ (e = 4 ∨ e = 5 ∨ e = 6)) → S2 a e = S1 a e := fun a e h => by rw [← hS2, up2_ne _ (by omega), up2_ne _ (by omega), up2_ne _ (by omega), up2_ne _ (by omega), up2_ne _ (by omega), up2_ne _ (by omega)]
          rw [f2 1 4 (by omega), f1 1 4 (by omega), s4]
          generalize hS3 : up2 (up2 (up2 S2 (9 + k) 4 1) (9 + k) 5 (-4)) (9 + k) 6 (nI (A 0 1)) = S3
          have f3 : ∀ a e, ¬ (a = 9 + k ∧ (e = 4 ∨ e = 5 ∨ e = 6)) → S3 a e = S2 a e := fun a e h => by rw [← hS3, up2_ne _ (by omega), up2_ne _ (by omega), up2_ne _ (by omega)]
          have fr : ∀ a e, ¬ (a = 9 + k ∨ a = 9 + o) → S3 a e = S a e := fun a e h => by rw [f3 _ _ (by omega), f2 _ _ (by omega), f1 _ _ (by omega)]
          obtain ⟨S', q1, q2, q3⟩ := ih q (k + 1) S3 (by omega) (by omega) (by rw [fr _ _ (by omega)]; exact s1) (by rw [fr _ _ (by omega)]; exact s4) (fun j hj => by rw [fr _ _ (by omega)]; exact s5 j hj) (fun j hj => by
            by_cases e : j = k
            · subst e
              exact lastK S3 (fun e z4 z5 z6 => by rw [f3 _ _ (by omega), f2 _ _ (by omega)]) (by rw [← hS3, up2_ne _ (by omega), up2_ne _ (by omega), up2_eq]) (by rw [← hS3, up2_ne _ (by omega), up2_eq]) (by rw [← hS3, up2_eq])
            · by_cases eo : j = o
              · subst eo
                have e14 : mV A w c l (k + 1) 14 j = 0 := by rw [mV_14, if_neg (fun q => hnl ⟨by omega, q.2⟩), if_pos ⟨o3, by omega, by rw [o4]; exact hlo⟩]
                obtain ⟨p0, p1, p2, p3, p4, p5, p6, p7, p8⟩ := hs j hj
                have e12 : mV A w c l (k + 1) 12 j = mV A w c l k 12 j := by rw [mV_t _ _ _ _ _ _ (by omega), mV_t _ _ _ _ _ _ (by omega)]; simp only [show (j < k + 1) = (j < k) from propext (by omega)]
                have e13 : mV A w c l (k + 1) 13 j = mV A w c l k 13 j := by rw [mV_t _ _ _ _ _ _ (by omega), mV_t _ _ _ _ _ _ (by omega)]; simp only [show (j < k + 1) = (j < k) from propext (by omega)]
                unfold skC otI siI
                rw [e12, e13, e14, mV_lo A w c l (k + 1) (r := 10) (by omega), mV_lo A w c l (k + 1) (r := 11) (by omega), mV_lo A w c l (k + 1) (r := 17) (by omega), mV_lo A w c l (k + 1) (r := 18) (by omega)]
                rw [mV_lo A w c l k (r := 10) (by omega)] at p0
                rw [mV_lo A w c l k (r := 11) (by omega)] at p1
                rw [mV_lo A w c l k (r := 17) (by omega)] at p7
                rw [mV_lo A w c l k (r := 18) (by omega)] at p8
                refine ⟨?_, ?_, ?_, ?_, ?_, ?_, ?_, ?_, ?_⟩
                · rw [f3 _ _ (by omega), f2 _ _ (by omega), f1 _ _ (by omega)]; exact p0
                · rw [f3 _ _ (by omega), f2 _ _ (by omega), f1 _ _ (by omega)]; exact p1
                · rw [f3 _ _ (by omega), f2 _ _ (by omega), f1 _ _ (by omega)]; exact p2
                · rw [f3 _ _ (by omega), f2 _ _ (by omega), f1 _ _ (by omega)]; exact p3
                · rw [f3 _ _ (by omega), ← hS2, up2_ne _ (by omega), up2_ne _ (by omega), up2_eq]; rfl
                · rw [f3 _ _ (by omega), ← hS2, up2_ne _ (by omega), up2_eq]; rfl
                · rw [f3 _ _ (by omega), ← hS2, up2_eq]; rfl
                · rw [f3 _ _ (by omega), f2 _ _ (by omega), f1 _ _ (by omega)]; exact p7
                · rw [f3 _ _ (by omega), f2 _ _ (by omega), f1 _ _ (by omega)]; exact p8
              · refine skC_vw (skC_cg (hs j hj) (fun e _ => fr _ _ (by omega))) (mV_old (fun e' => absurd e' e) (fun z1 z2 _ => ?_))
                have := ((hV.2.2.2 j hj).2.1.2.1 z1).2.2.2
                rw [z2, ho] at this
                exact absurd this.symm eo)
          exact ⟨S', q1, q2, fun a e h => by rw [q3 a e h, fr _ _ (by omega)]⟩
        · rw [if_neg (show ¬ nI (mV A w c l k 14 k) = (2 : Int32) by
            rw [show (2 : Int32) = nI 2 from rfl, nI_eq (by rw [h14]; split <;> omega) (by omega)]
            exact hp)]
          simp only [sb]
          rw [f1 1 4 (by omega), s4]
          generalize hS3 : up2 (up2 (up2 S1 (9 + k) 4 1) (9 + k) 5 (-4)) (9 + k) 6 (nI (A 0 1)) = S3
          have f3 : ∀ a e, ¬ (a = 9 + k ∧ (e = 4 ∨ e = 5 ∨ e = 6)) → S3 a e = S1 a e := fun a e h => by rw [← hS3, up2_ne _ (by omega), up2_ne _ (by omega), up2_ne _ (by omega)]
          have fr : ∀ a e, ¬ (a = 9 + k) → S3 a e = S a e := fun a e h => by rw [f3 _ _ (by omega), f1 _ _ (by omega)]
          obtain ⟨S', q1, q2, q3⟩ := ih q (k + 1) S3 (by omega) (by omega) (by rw [fr _ _ (by omega)]; exact s1) (by rw [fr _ _ (by omega)]; exact s4) (fun j hj => by rw [fr _ _ (by omega)]; exact s5 j hj) (fun j hj => by
            by_cases e : j = k
            · subst e
              exact lastK S3 (fun e z4 z5 z6 => f3 _ _ (by omega)) (by rw [← hS3, up2_ne _ (by omega), up2_ne _ (by omega), up2_eq]) (by rw [← hS3, up2_ne _ (by omega), up2_eq]) (by rw [← hS3, up2_eq])
            · refine skC_vw (skC_cg (hs j hj) (fun e _ => fr _ _ (by omega))) (mV_old (fun e' => absurd e' e) (fun z1 z2 _ => ?_))
              have z3 := ((hV.2.2.2 j hj).2.1.2.1 z1)
              rw [z2] at z3
              rw [h14, z3.2.2.2] at hp
              by_cases z4 : j < k ∧ loB w c j = true
              · exact z4
              · rw [if_neg (fun q => z4 q.2)] at hp
                exact absurd z3.2.2.1 hp)
          exact ⟨S', q1, q2, fun a e h => by rw [q3 a e h, fr _ _ (by omega)]⟩
