theorem prs_l {U : SI} {A : VW} (hV : HV A) (hM : HM (U 79) A) (h83 : ∀ k, k < 12 → U 83 k = ptF A k) (ke : Int32 → Int32 → Option (Int32 × SI)) : ∀ (d m k : Nat), k + d = A 0 0 → d < m → f_X10_pairs_23 U ke m (nI (dtF A (ptF A) k)) (nI (cnF (ptF A) k)) (nI k) = ke (nI (dtF A (ptF A) (A 0 0))) (nI (cnF (ptF A) (A 0 0))) := by
  intro d
  have hn := hV.1.1
  induction d with
  | zero =>
    intro m k hk hm
    obtain ⟨q, rfl⟩ : ∃ q, m = q + 1 := ⟨m - 1, by omega⟩
    rw [f_X10_pairs_23, show inB (0 : Int32) 205 = true from rfl, gd_t, show ix (0 : Int32) = 0 from rfl, hM.1.1, if_pos (nI_le (by omega) (by omega)), show k = A 0 0 by omega]
  | succ d ih =>
    intro m k hk hm
    obtain ⟨q, rfl⟩ : ∃ q, m = q + 1 := ⟨m - 1, by omega⟩
    have hkn : k < A 0 0 := by omega
    have i := ih q (k + 1) (by omega) (by omega)
    have e1 : cnF (ptF A) (k + 1) = cnF (ptF A) k + (if ptF A k ≤ nI k then 0 else 1) := rfl
    have e2 : dtF A (ptF A) (k + 1) = dtF A (ptF A) k + (if ptF A k ≤ nI k then 0 else dsN A k (ix (ptF A k))) := rfl
    rw [f_X10_pairs_23, show inB (0 : Int32) 205 = true from rfl, gd_t, show ix (0 : Int32) = 0 from rfl, hM.1.1, if_neg (nI_ge (by omega) (by omega)), inBn (show k < 12 by omega) (by omega), gd_t, gd_t, ixn (by omega), h83 k (by omega), nI_1, nI_1]
    by_cases c : ptF A k ≤ nI k
    · rw [if_pos c] at e1 e2 ⊢
      rw [e1, e2] at i
      exact i
    · rw [if_neg c] at e1 e2 ⊢
      rcases ptF_good hn k with z | ⟨-, -, j, j1, j2, j3, -⟩
      · rw [z] at c; exact absurd (m4_le k (by omega)) c
      · rw [j3, ixn (by omega)] at e2
        rw [e1, e2] at i
        rw [j3, dis_M hV hM hkn j1, sb, nm_eq, nI_add]
        exact i
theorem op_pairs {P : Nat → Int32 → (Nat → Int32) → Prop} {S U : SI} (h : RR P S U) (v1 : Int32) : ∃ (r : Int32) (S1 U1 : SI), f_X9_pairs S v1 = some (r, S1) ∧ f_X10_pairs U v1 = some (r, U1) ∧ RR P S1 U1 := by
  obtain ⟨A, hV, hC, hM⟩ := h.1
  have hn := hV.1.1
  have hF := fu_big
  unfold f_X9_pairs f_X10_pairs
  rw [wi _ 2 2 rfl, mi _ 1 1 rfl, sb, sb]
  cases hv1 : inB v1 2 with
  | false => exact ⟨_, _, _, rfl, rfl, h⟩
  | true =>
    rw [if_pos rfl, if_neg (show ¬ (1 : Int32) = 0 by decide), if_neg (show ¬ (1 : Int32) = 0 by decide)]
    obtain ⟨w, hw, rfl⟩ := inB_of hv1 (by omega)
    obtain ⟨S1, a1, a2, a3, a4, a5⟩ := mak_C hV hC
    obtain ⟨U1, b1, b2, b3⟩ := fnd_M hV hM
    have hR : RR P S1 U1 := h.same (fun a e hl => a5 _ _ (by unfold liC at hl; omega)) (fun a e hl => b3 _ _ (by unfold liM at hl; omega) (by unfold liM at hl; omega))
    have hM1 : HM (U1 79) A := by rw [show U1 79 = U 79 from funext fun e => b3 _ _ (by omega) (by omega)]; exact hM
    obtain ⟨s1, s2, -⟩ := ptF_sum hn
    have hp := prs_l hV hM1 b2 (fun o2 o3 => f_X10_pairs_71 U1 (nI w) o2 o3) (A 0 0) fu 0 (by omega) (by omega)
    rw [show dtF A (ptF A) 0 = 0 from rfl, show cnF (ptF A) 0 = 0 from rfl, s1, s2, show nI 0 = (0 : Int32) from rfl] at hp
    rw [a1, b1, sb, sb, hp, a3, a4]
    unfold f_X10_pairs_71
    by_cases c : nI w = (0 : Int32)
    · rw [if_pos c, if_pos c]
      exact ⟨_, _, _, rfl, rfl, hR⟩
    · rw [if_neg c, if_neg c]
      exact ⟨_, _, _, rfl, rfl, hR⟩
theorem op_fellow {P : Nat → Int32 → (Nat → Int32) → Prop} {S U : SI} (h : RR P S U) (v1 : Int32) : ∃ (r : Int32) (S1 U1 : SI), f_X9_fellow S v1 = some (r, S1) ∧ f_X10_fellow U v1 = some (r, U1) ∧ RR P S1 U1 := by
  obtain ⟨A, hV, hC, hM⟩ := h.1
  have hn := hV.1.1
  unfold f_X9_fellow f_X10_fellow
  rw [isC hC hn, isM hM hn, sb, sb]
  cases hv1 : inB v1 (A 0 0) with
  | false => exact ⟨_, _, _, rfl, rfl, h⟩
  | true =>
    rw [if_pos rfl, if_neg (show ¬ (1 : Int32) = 0 by decide), if_neg (show ¬ (1 : Int32) = 0 by decide)]
    obtain ⟨i, hi, rfl⟩ := inB_of hv1 (by omega)
    obtain ⟨S1, a1, a2, a3, a4, a5⟩ := mak_C hV hC
    obtain ⟨U1, b1, b2, b3⟩ := fnd_M hV hM
    have hR : RR P S1 U1 := h.same (fun a e hl => a5 _ _ (by unfold liC at hl; omega)) (fun a e hl => b3 _ _ (by unfold liM at hl; omega) (by unfold liM at hl; omega))
    rw [a1, b1, sb, sb, inBn (show i < 12 by omega) (by omega), gd_t, gd_t, ixn (by omega), a2 i (by omega), b2 i (by omega)]
    exact ⟨_, _, _, rfl, rfl, hR⟩
/-- the view when all PAIRS are put together, the first k looked at -/
def puV (A : VW) (k : Nat) : VW := fun r j => if j < k ∧ ¬ ptF A j = -4 then (if r = 14 then 2 else if r = 15 then ix (ptF A j) else A r j) else A r j
theorem puV_lo (A : VW) (k : Nat) {r j : Nat} (h : r ≠ 14 ∧ r ≠ 15) : puV A k r j = A r j := by
  unfold puV
  split
  · rw [if_neg h.1, if_neg h.2]
  · rfl
theorem puV_ge (A : VW) (k : Nat) {r j : Nat} (h : ¬ (j < k ∧ ¬ ptF A j = -4)) : puV A k r j = A r j := by
  unfold puV
  rw [if_neg h]
theorem puV_in (A : VW) (k : Nat) {j : Nat} (h : j < k ∧ ¬ ptF A j = -4) : puV A k 14 j = 2 ∧ puV A k 15 j = ix (ptF A j) := by
  unfold puV
  rw [if_pos h, if_pos rfl, if_pos h, if_neg (by omega), if_pos rfl]
  exact ⟨rfl, rfl⟩
theorem puV_s (A : VW) {k r j : Nat} (h : j ≠ k ∨ ptF A j = -4) : puV A (k + 1) r j = puV A k r j := by
  unfold puV
  by_cases c : j < k ∧ ¬ ptF A j = -4
  · rw [if_pos c, if_pos ⟨by omega, c.2⟩]
  · rw [if_neg c, if_neg (fun z => c ⟨by
      rcases h with h | h
      · omega
      · exact absurd h z.2, z.2⟩)]
theorem pt_old {A : VW} (hV : HV A) {j : Nat} (h : ¬ ptF A j = -4) : j < A 0 0 ∧ A 14 j = 0 ∧ ∃ o, o < A 0 0 ∧ o ≠ j ∧ ptF A j = nI o ∧ ptF A o = nI j := (ptF_good hV.1.1 j).resolve_left h
theorem puC_l {A : VW} (hV : HV A) : ∀ (d m k : Nat) (S : SI) (w : Int32), k + d = A 0 0 → d < m → S 1 1 = nI (A 0 0) → S 53 3 = w → (∀ j, j < 12 → S 56 j = ptF A j) → (∀ j, j < A 0 0 → skC (S (9 + j)) (puV A k) j) → ∃ S', f_X9_pairUp_13 m (nI k) S = some (w, S') ∧ (∀ j, j < A 0 0 → skC (S' (9 + j)) (puV A (A 0 0)) j) ∧ ∀ a e, ¬ (9 ≤ a ∧ a < 21) → S' a e = S a e := by
  intro d
  have hn := hV.1.1
  induction d with
  | zero =>
    intro m k S w hk hm s1 s3 s56 hs
    obtain ⟨q, rfl⟩ : ∃ q, m = q + 1 := ⟨m - 1, by omega⟩
    rw [f_X9_pairUp_13, s1, if_pos (nI_le (by omega) (by omega)), s3]
    rw [show k = A 0 0 by omega] at hs
    exact ⟨S, rfl, hs, fun _ _ _ => rfl⟩
  | succ d ih =>
    intro m k S w hk hm s1 s3 s56 hs
    obtain ⟨q, rfl⟩ : ∃ q, m = q + 1 := ⟨m - 1, by omega⟩
    have hkn : k < A 0 0 := by omega
    rw [f_X9_pairUp_13, s1, if_neg (nI_ge (by omega) (by omega)), inBn (show k < 12 by omega) (by omega), gd_t, gd_t, gd_t, ixn (by omega), s56 k (by omega), nI_1]
    by_cases c : ptF A k = -4
    · rw [if_pos c]
      exact ih q (k + 1) S w (by omega) (by omega) s1 s3 s56 (fun j hj => skC_vw (hs j hj) (fun r _ _ => puV_s A (by
        by_cases e : j = k
        · exact Or.inr (by rw [e]; exact c)
        · exact Or.inl e)))
    · rw [if_neg c]
      obtain ⟨-, h14, o, o1, o2, o3, o4⟩ := pt_old hV c
      unfold f_X5_toPair
      rw [nm_eq, nm_eq, sb, o3]
      generalize hS1 : up2 (up2 S (9 + k) 4 2) (9 + k) 5 (nI o) = S1
      have f1 : ∀ a e, ¬ (a = 9 + k ∧ (e = 4 ∨ e = 5)) → S1 a e = S a e := fun a e he => by rw [← hS1, up2_ne _ (by omega), up2_ne _ (by omega)]
      obtain ⟨S2, a1, a2, a3⟩ := ih q (k + 1) S1 w (by omega) (by omega) (by rw [f1 _ _ (by omega)]; exact s1) (by rw [f1 _ _ (by omega)]; exact s3) (fun j hj => by rw [f1 _ _ (by omega)]; exact s56 j hj) (fun j hj => by
        by_cases e : j = k
        · subst e
          obtain ⟨g0, g1, g2, g3, g4, g5, g6, g7, g8⟩ := hs j hj
          obtain ⟨z1, z2⟩ := puV_in A (j + 1) (j := j) ⟨by omega, c⟩
          have w14 : puV A j 14 j = 0 := by rw [puV_ge A j (by omega)]; exact h14
          have l : ∀ r, r ≠ 14 ∧ r ≠ 15 → puV A (j + 1) r j = puV A j r j := fun r hr => by rw [puV_lo A _ hr, puV_lo A _ hr]
          unfold siI at g6
          rw [w14] at g6
          unfold skC otI siI
          rw [z1, z2, l 10 (by omega), l 11 (by omega), l 12 (by omega), l 13 (by omega), l 17 (by omega), l 18 (by omega), o3, ixn (by omega)]
          refine ⟨?_, ?_, ?_, ?_, ?_, ?_, ?_, ?_, ?_⟩
          · rw [f1 _ _ (by omega)]; exact g0
          · rw [f1 _ _ (by omega)]; exact g1
          · rw [f1 _ _ (by omega)]; exact g2
          · rw [f1 _ _ (by omega)]; exact g3
          · rw [← hS1, up2_ne _ (by omega), up2_eq]; rfl
          · rw [← hS1, up2_eq]; rfl
          · rw [f1 _ _ (by omega)]; exact g6
          · rw [f1 _ _ (by omega)]; exact g7
          · rw [f1 _ _ (by omega)]; exact g8
        · exact skC_vw (skC_cg (hs j hj) (fun e _ => f1 _ _ (by omega))) (fun r _ _ => puV_s A (Or.inl e)))
      exact ⟨S2, a1, a2, fun a e he => by rw [a3 a e he, f1 _ _ (by omega)]⟩
theorem puM_l {A : VW} (hV : HV A) (o : Nat → Nat) : ∀ (d m k : Nat) (U : SI), k + d = A 0 0 → d < m → U 79 0 = nI (A 0 0) → (∀ j, j < 12 → U 83 j = ptF A j) → (∀ j, j < A 0 0 → skN (fun e => U 79 (13 + 10 * j + e)) (puV A k) (o j) j) → ∃ U', f_X10_pairUp_8 m (nI (ctF (ptF A) k)) (nI k) U = some (nI (ctF (ptF A) (A 0 0) / 2), U') ∧ (∀ j, j < A 0 0 → skN (fun e => U' 79 (13 + 10 * j + e)) (puV A (A 0 0)) (o j) j) ∧ ∀ a e, ¬ (a = 79 ∧ 13 ≤ e ∧ e < 133) → U' a e = U a e := by
  intro d
  have hn := hV.1.1
  induction d with
  | zero =>
    intro m k U hk hm s0 s83 hs
    obtain ⟨q, rfl⟩ : ∃ q, m = q + 1 := ⟨m - 1, by omega⟩
    have hct : ctF (ptF A) k ≤ k := fb_ct_le _ _
    rw [f_X10_pairUp_8, show inB (0 : Int32) 205 = true from rfl, gd_t, show ix (0 : Int32) = 0 from rfl, s0, if_pos (nI_le (by omega) (by omega)), if_neg (show ¬ (2 : Int32) = 0 by decide), show (2 : Int32) = nI 2 from rfl, pk_div (by omega) (by omega) (by omega)]
    rw [show k = A 0 0 by omega] at hs ⊢
    exact ⟨U, rfl, hs, fun _ _ _ => rfl⟩
  | succ d ih =>
    intro m k U hk hm s0 s83 hs
    obtain ⟨q, rfl⟩ : ∃ q, m = q + 1 := ⟨m - 1, by omega⟩
    have hkn : k < A 0 0 := by omega
    have hk12 : k < 12 := by omega
    have ec : ctF (ptF A) (k + 1) = ctF (ptF A) k + (if decide (0 ≤ ptF A k) = true then 1 else 0) := rfl
    rw [f_X10_pairUp_8, show inB (0 : Int32) 205 = true from rfl, gd_t, show ix (0 : Int32) = 0 from rfl, s0, if_neg (nI_ge (by omega) (by omega)), inBn (show k < 12 by omega) (by omega), gd_t, ixn (by omega), s83 k (by omega), nI_1, nI_1]
    by_cases c : ptF A k = -4
    · have ec2 : ctF (ptF A) (k + 1) = ctF (ptF A) k := by
        rw [ec, c, if_neg (show ¬ decide ((0 : Int32) ≤ -4) = true by decide)]
        omega
      rw [c, if_pos (show (-4 : Int32) < 0 by decide), ← ec2]
      exact ih q (k + 1) U (by omega) (by omega) s0 s83 (fun j hj => skN_vw (hs j hj) (fun r _ _ => puV_s A (by
        by_cases e : j = k
        · exact Or.inr (by rw [e]; exact c)
        · exact Or.inl e)))
    · obtain ⟨-, h14, p, o1, o2, o3, o4⟩ := pt_old hV c
      rw [o3, if_pos (decide_eq_true (nI_pos' (by omega)))] at ec
      rw [o3, if_neg (show ¬ nI p < (0 : Int32) from nI_pos (by omega)), pu4 hk12, sb, gd_t, up2_ne _ (by omega), s83 k hk12, o3, pu5 hk12, sb, ← ec]
      generalize hU1 : up2 (up2 U 79 (13 + 10 * k + 4) 2) 79 (13 + 10 * k + 5) (nI p) = U1
      have f1 : ∀ a e, ¬ (a = 79 ∧ (e = 13 + 10 * k + 4 ∨ e = 13 + 10 * k + 5)) → U1 a e = U a e := fun a e he => by rw [← hU1, up2_ne _ (by omega), up2_ne _ (by omega)]
      obtain ⟨U2, a1, a2, a3⟩ := ih q (k + 1) U1 (by omega) (by omega) (by rw [f1 _ _ (by omega)]; exact s0) (fun j hj => by rw [f1 _ _ (by omega)]; exact s83 j hj) (fun j hj => by
        by_cases e : j = k
        · subst e
          obtain ⟨g0, g1, g2, g3, g4, g5, g6, g7, g8, g9⟩ := hs j hj
          obtain ⟨z1, z2⟩ := puV_in A (j + 1) (j := j) ⟨by omega, c⟩
          have w14 : puV A j 14 j = 0 := by rw [puV_ge A j (by omega)]; exact h14
          have l : ∀ r, r ≠ 14 ∧ r ≠ 15 → puV A (j + 1) r j = puV A j r j := fun r hr => by rw [puV_lo A _ hr, puV_lo A _ hr]
          have fz : ∀ z, z < 10 → z ≠ 4 → z ≠ 5 → U1 79 (13 + 10 * j + z) = U 79 (13 + 10 * j + z) := fun z z1 z2 z3 => f1 _ _ (by omega)
          unfold siI at g7
          rw [w14] at g7
          unfold skN otI siI
          rw [z1, z2, l 10 (by omega), l 11 (by omega), l 12 (by omega), l 13 (by omega), l 17 (by omega), l 18 (by omega), o3, ixn (by omega)]
          refine ⟨?_, ?_, ?_, ?_, ?_, ?_, ?_, ?_, ?_, ?_⟩
          · exact (fz 0 (by omega) (by omega) (by omega)).trans g0
          · exact (fz 1 (by omega) (by omega) (by omega)).trans g1
          · exact (fz 2 (by omega) (by omega) (by omega)).trans g2
          · exact (fz 3 (by omega) (by omega) (by omega)).trans g3
          · show U1 79 (13 + 10 * j + 4) = _; rw [← hU1, up2_ne _ (by omega), up2_eq]; rfl
          · show U1 79 (13 + 10 * j + 5) = _; rw [← hU1, up2_eq]; rfl
          · exact (fz 6 (by omega) (by omega) (by omega)).trans g6
          · exact (fz 7 (by omega) (by omega) (by omega)).trans g7
          · exact (fz 8 (by omega) (by omega) (by omega)).trans g8
          · exact (fz 9 (by omega) (by omega) (by omega)).trans g9
        · exact skN_vw (skN_cg (hs j hj) (fun e _ => f1 _ _ (by omega))) (fun r _ _ => puV_s A (Or.inl e)))
      exact ⟨U2, a1, a2, fun a e he => by rw [a3 a e he, f1 _ _ (by omega)]⟩
theorem op_pairUp {P : Nat → Int32 → (Nat → Int32) → Prop} {S U : SI} (h : RR P S U) : ∃ (r : Int32) (S1 U1 : SI), f_X9_pairUp S = some (r, S1) ∧ f_X10_pairUp U = some (r, U1) ∧ RR P S1 U1 := by
  obtain ⟨A, hA⟩ := h.1
  obtain ⟨hV, hC, hM⟩ := id hA
  have hn := hV.1.1
  have hF := fu_big
  unfold f_X9_pairUp f_X10_pairUp
  obtain ⟨S1, a1, a2, a3, a4, a5⟩ := mak_C hV hC
  obtain ⟨U1, b1, b2, b3⟩ := fnd_M hV hM
  obtain ⟨s1, s2, s3⟩ := ptF_sum hn
  have fr0 : ∀ r j, puV A 0 r j = A r j := fun r j => puV_ge A 0 (by omega)
  have hC1 : HC S1 1 A := hC.cg (fun x e _ _ => a5 _ _ (by omega)) hn
  have u79 : U1 79 = U 79 := funext fun e => b3 _ _ (by omega) (by omega)
  obtain ⟨S2, c1, c2, c3⟩ := puC_l hV (A 0 0) fu 0 S1 (nI (prN A (A 0 0) (boX A))) (by omega) (by omega) hC1.1.1 a3 a2 (fun j hj => skC_vw (hC1.2.2.2 j hj) (fun r _ _ => fr0 r j))
  obtain ⟨U2, d1, d2, d3⟩ := puM_l hV (fun j => outN A j (A 0 1)) (A 0 0) fu 0 U1 (by omega) (by omega) (by rw [u79]; exact hM.1.1) b2 (fun j hj => skN_vw (by rw [u79]; exact hM.2.2.2 j hj) (fun r _ _ => fr0 r j))
  rw [show ctF (ptF A) 0 = 0 from rfl, s3, Nat.mul_div_cancel_left _ (by omega : 0 < 2)] at d1
  rw [a1, b1, sb, sb, show (0 : Int32) = nI 0 from rfl, c1, d1]
  refine ⟨_, _, _, rfl, rfl, ?_⟩
  have lo5 : ∀ r, r < 10 → puV A (A 0 0) r = A r := fun r hr => funext fun j => puV_lo A _ (by omega)
  have gS : ∀ a e, ¬ (9 ≤ a ∧ a < 21) → (a < 53 ∨ 57 ≤ a) → S2 a e = S a e := fun a e h1 h2 => by rw [c3 a e h1, a5 a e h2]
  have gU : ∀ a e, ¬ (a = 79 ∧ 13 ≤ e ∧ e < 133) → a ≠ 82 → a ≠ 83 → U2 a e = U a e := fun a e h1 h2 h3 => by rw [d3 a e h1, b3 a e h2 h3]
  refine h.core (A := puV A (A 0 0)) (hA.sk lo5 (fun a k _ _ => gS _ _ (by omega) (by omega)) (fun k hk => gU _ _ (by omega) (by omega) (by omega)) c2 (fun j hj => ?_) (fun j hj => ?_)) (fun a k hl h2 => gS _ _ (by omega) (by unfold liC at hl; omega)) (fun a k hl h2 => gU _ _ (by omega) (by unfold liM at hl; omega) (by unfold liM at hl; omega))
  · have g := d2 j hj
    have eo : outN (puV A (A 0 0)) j (puV A (A 0 0) 0 1) = outN A j (A 0 1) := by
      rw [lo5 0 (by omega)]
      exact outN_cg _ (fun q _ => by rw [lo5 5 (by omega)])
    unfold skM
    rw [eo]
    exact g
  · have g := hV.2.2.2 j hj
    unfold skV at g ⊢
    have l : ∀ r x, r ≠ 14 ∧ r ≠ 15 → puV A (A 0 0) r x = A r x := fun r x hr => puV_lo A _ hr
    rw [l 10 j (by omega), l 11 j (by omega), l 12 j (by omega), l 13 j (by omega), l 16 j (by omega), l 17 j (by omega), l 18 j (by omega), l 0 0 (by omega), l 0 1 (by omega), l 18 (A 18 j) (by omega), l 10 (A 18 j) (by omega)]
    refine ⟨g.1, ?_, g.2.2.1, g.2.2.2⟩
    by_cases c : ptF A j = -4
    · have e14 := puV_ge A (A 0 0) (r := 14) (j := j) (fun z => z.2 c)
      have e15 := puV_ge A (A 0 0) (r := 15) (j := j) (fun z => z.2 c)
      rw [e14, e15]
      refine ⟨g.2.1.1, fun h2 => ?_, g.2.1.2.2⟩
      obtain ⟨o1, o2, o3, o4⟩ := g.2.1.2.1 h2
      have co : ptF A (A 15 j) = -4 := Classical.byContradiction fun z => by
        have := (pt_old hV z).2.1
        omega
      rw [puV_ge A (A 0 0) (r := 14) (j := A 15 j) (fun z => z.2 co), puV_ge A (A 0 0) (r := 15) (j := A 15 j) (fun z => z.2 co)]
      exact ⟨o1, o2, o3, o4⟩
    · obtain ⟨-, h14, p, o1, o2, o3, o4⟩ := pt_old hV c
      obtain ⟨z1, z2⟩ := puV_in A (A 0 0) (j := j) ⟨hj, c⟩
      rw [z1, z2, o3, ixn (by omega)]
      have cp : ¬ ptF A p = -4 := by rw [o4]; exact n_m4 (by omega)
      obtain ⟨y1, y2⟩ := puV_in A (A 0 0) (j := p) ⟨o1, cp⟩
      rw [y1, y2, o4, ixn (by omega)]
      exact ⟨by omega, fun _ => ⟨o1, o2, rfl, rfl⟩, fun z => by omega⟩
