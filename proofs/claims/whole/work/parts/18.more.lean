theorem otI_2 {A : VW} {i : Nat} (h : A 14 i = 2) : otI A i = nI (A 15 i) := if_pos h
theorem otI_n {A : VW} {i : Nat} (h : A 14 i ≠ 2) : otI A i = -4 := if_neg h
/-- two that are PAIRED come into THE BOX -/
theorem box2 {S U : SI} {A : VW} (hA : HR S 1 (U 79) A) {i : Nat} (hi : i < A 0 0) (h2 : A 14 i = 2) {S' U' : SI}
    (hS : S' = up2 (up2 (up2 (up2 (up2 (up2 S (9 + i) 4 0) (9 + i) 5 (-4)) (9 + i) 6 (-4)) (9 + A 15 i) 4 0) (9 + A 15 i) 5 (-4)) (9 + A 15 i) 6 (-4))
    (hU : U' = up2 (up2 (up2 (up2 U 79 (13 + 10 * i + 5) (-4)) 79 (13 + 10 * A 15 i + 5) (-4)) 79 (13 + 10 * i + 4) 0) 79 (13 + 10 * A 15 i + 4) 0) : HR S' 1 (U' 79) (up2 (up2 A 14 i 0) 14 (A 15 i) 0) := by
  obtain ⟨hV, hC, hM⟩ := id hA
  have hn := hV.1.1
  obtain ⟨o1, o2, o3, o4⟩ := (hV.2.2.2 i hi).2.1.2.1 h2
  generalize ho : A 15 i = o at hS hU o1 o2 o3 o4 ⊢
  have hoth : ∀ j, j < A 0 0 → j ≠ i → j ≠ o → A 14 j = 2 → A 15 j ≠ i ∧ A 15 j ≠ o := fun j hj h1 h3 hj2 => by
    have g := (hV.2.2.2 j hj).2.1.2.1 hj2
    constructor
    · intro e
      rw [e, ho] at g
      exact h3 g.2.2.2.symm
    · intro e
      rw [e, o4] at g
      exact h1 g.2.2.2.symm
  refine hA.sk (fun r hr => by rw [up2_row _ (by omega), up2_row _ (by omega)]) (fun a k _ _ => ?_) (fun k hk => ?_) (fun j hj => ?_) (fun j hj => ?_) (fun j hj => ?_)
  · rw [hS, up2_ne _ (by omega), up2_ne _ (by omega), up2_ne _ (by omega), up2_ne _ (by omega), up2_ne _ (by omega), up2_ne _ (by omega)]
  · rw [hU, up2_ne _ (by omega), up2_ne _ (by omega), up2_ne _ (by omega), up2_ne _ (by omega)]
  · obtain ⟨g0, g1, g2, g3, g4, g5, g6, g7, g8⟩ : skC (S (9 + j)) A j := hC.2.2.2 j hj
    by_cases hji : j = i ∨ j = o
    · have h14 : A 14 j = 2 := by rcases hji with rfl | rfl <;> assumption
      unfold skC otI siI
      rw [hS]
      simp only [up2_at]
      rcases hji with rfl | rfl
      · simp [Ne.symm o2, o2]
        exact ⟨g0, g1, g2, g3, rfl, g7, g8⟩
      · simp [Ne.symm o2, o2]
        exact ⟨g0, g1, g2, g3, rfl, g7, g8⟩
    · have a1 : j ≠ i := fun e => hji (Or.inl e)
      have a2 : j ≠ o := fun e => hji (Or.inr e)
      rw [hS, up2_row _ (by omega), up2_row _ (by omega), up2_row _ (by omega), up2_row _ (by omega), up2_row _ (by omega), up2_row _ (by omega)]
      exact skC_vw ⟨g0, g1, g2, g3, g4, g5, g6, g7, g8⟩ (fun r _ _ => by rw [up2_ne _ (by omega), up2_ne _ (by omega)])
  · have g := hM.2.2.2 j hj
    by_cases hji : j = i ∨ j = o
    · have h14 : A 14 j = 2 := by rcases hji with rfl | rfl <;> assumption
      have rd : ∀ k, k < 10 → k ≠ 4 → k ≠ 5 → U' 79 (13 + 10 * j + k) = U 79 (13 + 10 * j + k) := fun k h1 h4 h5 => by rw [hU, up2_ne _ (by omega), up2_ne _ (by omega), up2_ne _ (by omega), up2_ne _ (by omega)]
      have r4 : U' 79 (13 + 10 * j + 4) = 0 := by
        rw [hU]
        rcases hji with e | e
        · rw [e, up2_ne _ (by omega), up2_eq]
        · rw [e, up2_eq]
      have r5 : U' 79 (13 + 10 * j + 5) = -4 := by
        rw [hU, up2_ne _ (by omega), up2_ne _ (by omega)]
        rcases hji with e | e
        · rw [e, up2_ne _ (by omega), up2_eq]
        · rw [e, up2_eq]
      have r14 : up2 (up2 A 14 i 0) 14 o 0 14 j = 0 := by
        rcases hji with e | e
        · rw [e, up2_ne _ (by omega), up2_eq]
        · rw [e, up2_eq]
      have rA : ∀ r, r ≠ 14 → up2 (up2 A 14 i 0) 14 o 0 r j = A r j := fun r hr => by rw [up2_ne _ (by omega), up2_ne _ (by omega)]
      obtain ⟨g0, g1, g2, g3, g4, g5, g6, g7, g8, g9⟩ := g
      unfold siI at g7
      rw [h14] at g7
      refine ⟨?_, ?_, ?_, ?_, ?_, ?_, ?_, ?_, ?_, ?_⟩
      · rw [rA 10 (by omega)]; exact (rd 0 (by omega) (by omega) (by omega)).trans g0
      · rw [rA 11 (by omega)]; exact (rd 1 (by omega) (by omega) (by omega)).trans g1
      · rw [rA 12 (by omega)]; exact (rd 2 (by omega) (by omega) (by omega)).trans g2
      · rw [rA 13 (by omega)]; exact (rd 3 (by omega) (by omega) (by omega)).trans g3
      · rw [r14]; exact r4
      · unfold otI; rw [r14]; exact r5
      · rw [outN_cg (A' := up2 (up2 A 14 i 0) 14 o 0) (A := A) _ (fun q _ => by rw [up2_ne _ (by omega), up2_ne _ (by omega)]), up2_ne _ (by omega), up2_ne _ (by omega)]
        exact (rd 6 (by omega) (by omega) (by omega)).trans g6
      · unfold siI; rw [r14]; exact (rd 7 (by omega) (by omega) (by omega)).trans g7
      · rw [rA 17 (by omega)]; exact (rd 8 (by omega) (by omega) (by omega)).trans g8
      · rw [rA 18 (by omega)]; exact (rd 9 (by omega) (by omega) (by omega)).trans g9
    · have a1 : j ≠ i := fun e => hji (Or.inl e)
      have a2 : j ≠ o := fun e => hji (Or.inr e)
      rw [hU]
      exact skM_vw (skM_cg g (fun k _ => by rw [up2_ne _ (by omega), up2_ne _ (by omega), up2_ne _ (by omega), up2_ne _ (by omega)])) (fun r _ _ => by rw [up2_ne _ (by omega), up2_ne _ (by omega)]) (by rw [up2_ne _ (by omega), up2_ne _ (by omega)]) (fun q _ => by rw [up2_ne _ (by omega), up2_ne _ (by omega)])
  · have g := hV.2.2.2 j hj
    have hth := hoth j hj
    unfold skV at g ⊢
    simp only [up2_at]
    by_cases hji : j = i ∨ j = o
    · rcases hji with rfl | rfl
      · simp
        exact ⟨g.1, g.2.2.1, g.2.2.2⟩
      · simp
        exact ⟨g.1, g.2.2.1, g.2.2.2⟩
    · have a1 : j ≠ i := fun e => hji (Or.inl e)
      have a2 : j ≠ o := fun e => hji (Or.inr e)
      simp [a1, a2]
      refine ⟨g.1, ⟨g.2.1.1, fun h3 => ?_, g.2.1.2.2⟩, g.2.2.1, g.2.2.2⟩
      have b1 := hth a1 a2 h3
      have b2 := g.2.1.2.1 h3
      simp [b1]
      exact b2
theorem op_part {P : Nat → Int32 → (Nat → Int32) → Prop} {S U : SI} (h : RR P S U) (v1 : Int32) : ∃ (r : Int32) (S1 U1 : SI), f_X9_part S v1 = some (r, S1) ∧ f_X10_part U v1 = some (r, U1) ∧ RR P S1 U1 := by
  obtain ⟨A, hA⟩ := h.1
  obtain ⟨hV, hC, hM⟩ := id hA
  have hn := hV.1.1
  unfold f_X9_part f_X10_part f_X1_unpair f_X10_part2 f_X5_toBox
  rw [isC hC hn, isM hM hn]
  simp only [sb, nm_eq]
  cases hv1 : inB v1 (A 0 0) with
  | false => exact ⟨_, _, _, rfl, rfl, h⟩
  | true =>
    simp only [if_true, show ¬ (1 : Int32) = 0 by decide, if_false]
    obtain ⟨i, hi, rfl⟩ := inB_of hv1 (by omega)
    have hi12 : i < 12 := by omega
    obtain ⟨g0, g1, g2, g3, g4, g5, g6, g7, g8⟩ : skC (S (9 + i)) A i := hC.2.2.2 i hi
    have k5 : U 79 (13 + 10 * i + 5) = otI A i := (hM.2.2.2 i hi).2.2.2.2.2.1
    simp only [of5 hi12, sb, k5, inBn hi12 (show 12 < 2 ^ 31 by omega), ixn (show i < 2 ^ 31 by omega), gd_t, g4, g5, hC.1.1]
    have hpl := (hV.2.2.2 i hi).2.1.1
    by_cases h2 : A 14 i = 2
    · obtain ⟨o1, o2, o3, o4⟩ := (hV.2.2.2 i hi).2.1.2.1 h2
      have ho12 : A 15 i < 12 := by omega
      rw [otI_2 h2, if_pos (show nI (A 14 i) = (2 : Int32) by rw [h2]; rfl), wi _ (A 0 0) _ (nI_toInt (by omega)), inBn o1 (by omega), if_pos (show (0 : Int32) ≤ nI (A 15 i) from nI_pos' (by omega)), if_neg (show ¬ nI (A 15 i) < (0 : Int32) from nI_pos (by omega))]
      simp only [sb, if_true, show ¬ (1 : Int32) = 0 by decide, if_false, pu5 hi12, pu4 hi12, pu5 ho12, pu4 ho12, inBn ho12 (show 12 < 2 ^ 31 by omega), ixn (show A 15 i < 2 ^ 31 by omega), gd_t]
      refine ⟨_, _, _, rfl, rfl, ?_⟩
      exact h.core (box2 hA hi h2 rfl rfl) (fun a k _ h3 => by rw [up2_ne _ (by omega), up2_ne _ (by omega), up2_ne _ (by omega), up2_ne _ (by omega), up2_ne _ (by omega), up2_ne _ (by omega)]) (fun a k _ h3 => by rw [up2_ne _ (by omega), up2_ne _ (by omega), up2_ne _ (by omega), up2_ne _ (by omega)])
    · rw [otI_n h2, if_neg (show ¬ nI (A 14 i) = (2 : Int32) by rw [show (2 : Int32) = nI 2 from rfl, nI_eq (by omega) (by omega)]; exact h2), if_neg (show ¬ (0 : Int32) ≤ -4 by decide)]
      exact ⟨_, _, _, rfl, rfl, h⟩
theorem join_l {n x y : Nat} (hn : n ≤ 12) {b : Nat → Nat} (hb : ∀ i, i < n → b i < n) (hy : y < n) : ∀ (d m k : Nat) (S : SI), k + d = n → d < m → S 1 1 = nI n → (∀ i, k ≤ i → i < n → S (9 + i) 8 = nI (b i)) → ∃ S', f_X1_join_32 (nI x) (nI y) m (nI k) S = some (1, S') ∧ (∀ i, k ≤ i → i < n → S' (9 + i) 8 = nI (if b i = y then x else b i)) ∧ ∀ a c, ¬ (9 + k ≤ a ∧ a < 9 + n ∧ c = 8) → S' a c = S a c := by
  intro d
  induction d with
  | zero =>
    intro m k S hk hm h1 h2
    obtain ⟨q, rfl⟩ : ∃ q, m = q + 1 := ⟨m - 1, by omega⟩
    rw [f_X1_join_32, h1, if_pos (nI_le (by omega) (by omega))]
    exact ⟨S, rfl, fun i _ _ => by omega, fun _ _ _ => rfl⟩
  | succ d ih =>
    intro m k S hk hm h1 h2
    obtain ⟨q, rfl⟩ : ∃ q, m = q + 1 := ⟨m - 1, by omega⟩
    have hbk := hb k (by omega)
    rw [f_X1_join_32, h1, if_neg (nI_ge (by omega) (by omega)), inBn (show k < 12 by omega) (by omega), gd_t, ixn (by omega), h2 k (by omega) (by omega), gd_t, nm_eq, nI_1]
    by_cases hby : b k = y
    · rw [if_pos (by rw [hby])]
      obtain ⟨S', e1, e2, e3⟩ := ih q (k + 1) (up2 S (9 + k) 8 (nI x)) (by omega) (by omega) (by rw [up2_ne _ (by omega)]; exact h1) (fun i hi1 hi2 => by rw [up2_ne _ (by omega)]; exact h2 i (by omega) hi2)
      refine ⟨S', e1, fun i hi1 hi2 => ?_, fun a c hac => ?_⟩
      · by_cases hik : i = k
        · subst hik
          rw [e3 _ _ (by omega), up2_eq, if_pos hby]
        · exact e2 i (by omega) hi2
      · rw [e3 _ _ (by omega), up2_ne _ (by omega)]
    · rw [if_neg (by rw [nI_eq (by omega) (by omega)]; exact hby)]
      obtain ⟨S', e1, e2, e3⟩ := ih q (k + 1) S (by omega) (by omega) h1 (fun i hi1 hi2 => h2 i (by omega) hi2)
      refine ⟨S', e1, fun i hi1 hi2 => ?_, fun a c hac => e3 _ _ (by omega)⟩
      by_cases hik : i = k
      · subst hik
        rw [e3 _ _ (by omega), if_neg hby]
        exact h2 i (by omega) (by omega)
      · exact e2 i (by omega) hi2
theorem bind_l {n x y : Nat} (hn : n ≤ 12) {b : Nat → Nat} (hb : ∀ i, i < n → b i < n) (hy : y < n) : ∀ (d m k : Nat) (U : SI), k + d = n → d < m → U 79 0 = nI n → (∀ i, k ≤ i → i < n → U 79 (13 + 10 * i + 9) = nI (b i)) → ∃ U', f_X10_bind_58 (nI x) (nI y) m (nI k) U = some (1, U') ∧ (∀ i, k ≤ i → i < n → U' 79 (13 + 10 * i + 9) = nI (if b i = y then x else b i)) ∧ ∀ a c, ¬ (a = 79 ∧ ∃ i, k ≤ i ∧ i < n ∧ c = 13 + 10 * i + 9) → U' a c = U a c := by
  intro d
  induction d with
  | zero =>
    intro m k U hk hm h1 h2
    obtain ⟨q, rfl⟩ : ∃ q, m = q + 1 := ⟨m - 1, by omega⟩
    rw [f_X10_bind_58, show inB (0 : Int32) 205 = true from rfl, gd_t, show ix (0 : Int32) = 0 from rfl, h1, if_pos (nI_le (by omega) (by omega))]
    exact ⟨U, rfl, fun i _ _ => by omega, fun _ _ _ => rfl⟩
  | succ d ih =>
    intro m k U hk hm h1 h2
    obtain ⟨q, rfl⟩ : ∃ q, m = q + 1 := ⟨m - 1, by omega⟩
    have hbk := hb k (by omega)
    rw [f_X10_bind_58, show inB (0 : Int32) 205 = true from rfl, gd_t, show ix (0 : Int32) = 0 from rfl, h1, if_neg (nI_ge (by omega) (by omega)), of9 (by omega), sb, h2 k (by omega) (by omega), pu9 (by omega), sb, nI_1]
    by_cases hby : b k = y
    · rw [if_pos (by rw [hby])]
      obtain ⟨U', e1, e2, e3⟩ := ih q (k + 1) (up2 U 79 (13 + 10 * k + 9) (nI x)) (by omega) (by omega) (by rw [up2_ne _ (by omega)]; exact h1) (fun i hi1 hi2 => by rw [up2_ne _ (by omega)]; exact h2 i (by omega) hi2)
      refine ⟨U', e1, fun i hi1 hi2 => ?_, fun a c hac => ?_⟩
      · by_cases hik : i = k
        · subst hik
          rw [e3 _ _ (fun ⟨_, j, q1, q2, q3⟩ => by omega), up2_eq, if_pos hby]
        · exact e2 i (by omega) hi2
      · rw [e3 _ _ (fun ⟨e, j, q1, q2, q3⟩ => hac ⟨e, j, by omega, q2, q3⟩), up2_ne _ (Classical.or_iff_not_imp_left.mpr fun q1 q2 => hac ⟨Classical.byContradiction fun q3 => q1 q3, k, by omega, by omega, q2⟩)]
    · rw [if_neg (by rw [nI_eq (by omega) (by omega)]; exact hby)]
      obtain ⟨U', e1, e2, e3⟩ := ih q (k + 1) U (by omega) (by omega) h1 (fun i hi1 hi2 => h2 i (by omega) hi2)
      refine ⟨U', e1, fun i hi1 hi2 => ?_, fun a c hac => e3 _ _ (fun ⟨e, j, q1, q2, q3⟩ => hac ⟨e, j, by omega, q2, q3⟩)⟩
      by_cases hik : i = k
      · subst hik
        rw [e3 _ _ (fun ⟨_, j, q1, q2, q3⟩ => by omega), if_neg hby]
        exact h2 i (by omega) (by omega)
      · exact e2 i (by omega) hi2
theorem op_bind {P : Nat → Int32 → (Nat → Int32) → Prop} {S U : SI} (h : RR P S U) (v1 v2 : Int32) : ∃ (r : Int32) (S1 U1 : SI), f_X9_bind S v1 v2 = some (r, S1) ∧ f_X10_bind U v1 v2 = some (r, U1) ∧ RR P S1 U1 := by
  obtain ⟨A, hA⟩ := h.1
  obtain ⟨hV, hC, hM⟩ := id hA
  have hn := hV.1.1
  have hF := fu_big
  unfold f_X9_bind f_X10_bind f_X1_join
  generalize fu = F at hF ⊢
  rw [twoC hC hn, twoM hM hn]
  simp only [sb, nm_eq]
  by_cases hv : inB v1 (A 0 0) = true ∧ inB v2 (A 0 0) = true ∧ v1 ≠ v2
  · simp only [if_pos hv, show ¬ (1 : Int32) = 0 by decide, if_false]
    obtain ⟨i, hi, rfl⟩ := inB_of hv.1 (by omega)
    obtain ⟨j, hj, rfl⟩ := inB_of hv.2.1 (by omega)
    have hi12 : i < 12 := by omega
    have hj12 : j < 12 := by omega
    have vi := hV.2.2.2 i hi
    have vj := hV.2.2.2 j hj
    obtain ⟨g0, -, -, -, -, -, -, -, g8⟩ : skC (S (9 + i)) A i := hC.2.2.2 i hi
    obtain ⟨k0, -, -, -, -, -, -, -, k8⟩ : skC (S (9 + j)) A j := hC.2.2.2 j hj
    have a0 : U 79 (13 + 10 * i + 0) = nI (A 10 i) := (hM.2.2.2 i hi).1
    have b0 : U 79 (13 + 10 * j + 0) = nI (A 10 j) := (hM.2.2.2 j hj).1
    have a9 : U 79 (13 + 10 * i + 9) = nI (A 18 i) := (hM.2.2.2 i hi).2.2.2.2.2.2.2.2.2
    have b9 : U 79 (13 + 10 * j + 9) = nI (A 18 j) := (hM.2.2.2 j hj).2.2.2.2.2.2.2.2.2
    simp only [of0 hi12, of0 hj12, of9 hi12, of9 hj12, sb, a0, b0, a9, b9, inBn hi12 (show 12 < 2 ^ 31 by omega), inBn hj12 (show 12 < 2 ^ 31 by omega), ixn (show i < 2 ^ 31 by omega), ixn (show j < 2 ^ 31 by omega), gd_t, g0, g8, k0, k8, nI_eq (show A 10 i < 2 ^ 31 by have := vi.1; omega) (show A 10 j < 2 ^ 31 by have := vj.1; omega), nI_eq (show A 18 i < 2 ^ 31 by have := vi.2.2.2; omega) (show A 18 j < 2 ^ 31 by have := vj.2.2.2; omega)]
    by_cases hk : A 10 i = A 10 j
    · simp only [if_pos hk]
      by_cases he : A 18 i = A 18 j
      · simp only [if_pos he, sb, if_true]
        exact ⟨_, _, _, rfl, rfl, h⟩
      · simp only [if_neg he]
        obtain ⟨S', e1, e2, e3⟩ := join_l (x := A 18 i) (y := A 18 j) hn (b := A 18) (fun q hq => (hV.2.2.2 q hq).2.2.2.1) vj.2.2.2.1 (A 0 0) F 0 S (by omega) (by omega) hC.1.1 (fun q _ hq => (hC.2.2.2 q hq).2.2.2.2.2.2.2.2)
        obtain ⟨U', m1, m2, m3⟩ := bind_l (x := A 18 i) (y := A 18 j) hn (b := A 18) (fun q hq => (hV.2.2.2 q hq).2.2.2.1) vj.2.2.2.1 (A 0 0) F 0 U (by omega) (by omega) hM.1.1 (fun q _ hq => (hM.2.2.2 q hq).2.2.2.2.2.2.2.2.2)
        rw [show (0 : Int32) = nI 0 from rfl, e1, m1]
        simp only [sb, show ¬ (1 : Int32) = nI 0 by decide, if_false]
        refine ⟨1, S', U', rfl, rfl, ?_⟩
        have eA : ∀ r c, r ≠ 18 → (fun r c => if r = 18 then (if A 18 c = A 18 j then A 18 i else A 18 c) else A r c) r c = A r c := fun r c hr => if_neg hr
        refine h.core (A := fun r c => if r = 18 then (if A 18 c = A 18 j then A 18 i else A 18 c) else A r c) (hA.sk (fun r hr => funext fun c => eA r c (by omega)) (fun a c _ _ => e3 _ _ (by omega)) (fun c hc => m3 _ _ (fun ⟨_, q, q1, q2, q3⟩ => by omega)) (fun q hq => ?_) (fun q hq => ?_) (fun q hq => ?_)) (fun a c _ _ => e3 _ _ (by omega)) (fun a c _ h3 => m3 _ _ (fun ⟨e, _⟩ => h3 e))
        · obtain ⟨c0, c1, c2, c3, c4, c5, c6, c7, c8⟩ : skC (S (9 + q)) A q := hC.2.2.2 q hq
          refine ⟨?_, ?_, ?_, ?_, ?_, ?_, ?_, ?_, ?_⟩
          · rw [e3 _ _ (by omega)]; exact c0
          · rw [e3 _ _ (by omega)]; exact c1
          · rw [e3 _ _ (by omega)]; exact c2
          · rw [e3 _ _ (by omega)]; exact c3
          · rw [e3 _ _ (by omega)]; exact c4
          · rw [e3 _ _ (by omega)]; exact c5
          · rw [e3 _ _ (by omega)]; exact c6
          · rw [e3 _ _ (by omega)]; exact c7
          · exact e2 q (by omega) hq
        · have g := hM.2.2.2 q hq
          have hcg : ∀ k, k < 9 → U' 79 (13 + 10 * q + k) = U 79 (13 + 10 * q + k) := fun k hk => m3 _ _ (fun ⟨_, w, q1, q2, q3⟩ => by omega)
          obtain ⟨c0, c1, c2, c3, c4, c5, c6, c7, c8, c9⟩ := g
          refine ⟨(hcg 0 (by omega)).trans c0, (hcg 1 (by omega)).trans c1, (hcg 2 (by omega)).trans c2, (hcg 3 (by omega)).trans c3, (hcg 4 (by omega)).trans c4, (hcg 5 (by omega)).trans c5, ?_, (hcg 7 (by omega)).trans c7, (hcg 8 (by omega)).trans c8, m2 q (by omega) hq⟩
          rw [outN_cg (A' := fun r c => if r = 18 then (if A 18 c = A 18 j then A 18 i else A 18 c) else A r c) (A := A) _ (fun w _ => eA 5 w (by omega))]
          exact (hcg 6 (by omega)).trans c6
        · have g := hV.2.2.2 q hq
          obtain ⟨w1, w2, w3⟩ := vi.2.2.2
          obtain ⟨x1, x2, x3⟩ := vj.2.2.2
          obtain ⟨y1, y2, y3⟩ := g.2.2.2
          unfold skV at g ⊢
          simp only [show ¬ (10 = 18) by omega, show ¬ (11 = 18) by omega, show ¬ (12 = 18) by omega, show ¬ (13 = 18) by omega, show ¬ (14 = 18) by omega, show ¬ (15 = 18) by omega, show ¬ (16 = 18) by omega, show ¬ (17 = 18) by omega, show ¬ (0 = 18) by omega, if_false, if_true]
          refine ⟨g.1, g.2.1, g.2.2.1, ?_⟩
          by_cases hq2 : A 18 q = A 18 j
          · rw [if_pos hq2, w2, if_neg he]
            exact ⟨w1, rfl, by rw [w3, hk, ← x3, ← hq2, y3]⟩
          · rw [if_neg hq2, y2, if_neg hq2]
            exact ⟨y1, rfl, y3⟩
    · simp only [if_neg hk]
      exact ⟨_, _, _, rfl, rfl, h⟩
  · simp only [if_neg hv, if_true]
    exact ⟨_, _, _, rfl, rfl, h⟩
