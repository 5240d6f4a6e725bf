theorem cpS (S : SI) {a b : Nat} (hab : a ≠ b) : ∃ S', f_X5_copyFrom S a b = some S' ∧ (∀ c, c < 9 → S' a c = S b c) ∧ ∀ a' c, a' ≠ a → S' a' c = S a' c := by
  unfold f_X5_copyFrom
  simp only [nm_eq]
  refine ⟨_, rfl, fun c hc => ?_, fun a' c ha => ?_⟩
  · have : c = 0 ∨ c = 1 ∨ c = 2 ∨ c = 3 ∨ c = 4 ∨ c = 5 ∨ c = 6 ∨ c = 7 ∨ c = 8 := by omega
    simp only [up2_at]
    rcases this with rfl | rfl | rfl | rfl | rfl | rfl | rfl | rfl | rfl <;> simp [Ne.symm hab]
  · rw [up2_ne _ (Or.inl ha), up2_ne _ (Or.inl ha), up2_ne _ (Or.inl ha), up2_ne _ (Or.inl ha), up2_ne _ (Or.inl ha), up2_ne _ (Or.inl ha), up2_ne _ (Or.inl ha), up2_ne _ (Or.inl ha), up2_ne _ (Or.inl ha)]
theorem cpy_in {f g : Nat → Int32} {n j : Nat} (hj : j < n) : va_cpy f g 0 0 n j = f j := by
  rw [pk_cpy_in (by omega) (by omega)]
  congr 1
  omega
theorem cpyA_l (ke : SI → Option SI) : ∀ (d m k : Nat) (S : SI), k + d = 12 → d < m → ∃ S', f_X1_copyFromA_34 ke m (nI k) S = ke S' ∧ (∀ i, k ≤ i → i < 12 → ∀ c, c < 9 → S' (29 + i) c = S (9 + i) c) ∧ ∀ a c, ¬ (29 + k ≤ a ∧ a < 29 + 12) → S' a c = S a c := by
  intro d
  induction d with
  | zero =>
    intro m k S hk hm
    obtain ⟨q, rfl⟩ : ∃ q, m = q + 1 := ⟨m - 1, by omega⟩
    rw [f_X1_copyFromA_34, if_pos (show (12 : Int32) ≤ nI k from nI_le (a := 12) (by omega) (by omega))]
    exact ⟨S, rfl, fun i _ _ => by omega, fun _ _ _ => rfl⟩
  | succ d ih =>
    intro m k S hk hm
    obtain ⟨q, rfl⟩ : ∃ q, m = q + 1 := ⟨m - 1, by omega⟩
    obtain ⟨S1, c1, c2, c3⟩ := cpS S (a := 29 + k) (b := 9 + k) (by omega)
    rw [f_X1_copyFromA_34, if_neg (show ¬ (12 : Int32) ≤ nI k from nI_ge (b := 12) (by omega) (by omega)), inBn (show k < 12 by omega) (by omega), gd_t, gd_t, ixn (by omega), c1, sb, nI_1]
    obtain ⟨S', e1, e2, e3⟩ := ih q (k + 1) S1 (by omega) (by omega)
    refine ⟨S', e1, fun i h1 h2 c hc => ?_, fun a c hac => ?_⟩
    · by_cases hik : i = k
      · subst hik
        rw [e3 _ _ (by omega)]
        exact c2 c hc
      · rw [e2 i (by omega) h2 c hc, c3 _ _ (by omega)]
    · rw [e3 _ _ (by omega), c3 _ _ (by omega)]
theorem cpyA_6 (S : SI) : ∃ S', f_X1_copyFromA_61 S = some S' ∧ (∀ j, j < 12 → S' 23 j = S 3 j) ∧ (∀ j, j < 12 → S' 24 j = S 4 j) ∧ (∀ j, j < 6 → S' 25 j = S 5 j) ∧ (∀ j, j < 18 → S' 26 j = S 6 j) ∧ (∀ j, j < 18 → S' 27 j = S 7 j) ∧ (∀ j, j < 3 → S' 28 j = S 8 j) ∧ ∀ a c, ¬ (23 ≤ a ∧ a ≤ 28) → S' a c = S a c := by
  unfold f_X1_copyFromA_61
  simp only [nm_eq, show cpB (0 : Int32) (0 : Int32) (12 : Int32) 12 12 = true from rfl, show cpB (0 : Int32) (0 : Int32) (6 : Int32) 6 6 = true from rfl, show cpB (0 : Int32) (0 : Int32) (18 : Int32) 18 18 = true from rfl, show cpB (0 : Int32) (0 : Int32) (3 : Int32) 3 3 = true from rfl, gd_t, show ix (0 : Int32) = 0 from rfl, show ix (12 : Int32) = 12 from rfl, show ix (6 : Int32) = 6 from rfl, show ix (18 : Int32) = 18 from rfl, show ix (3 : Int32) = 3 from rfl]
  refine ⟨_, rfl, fun j hj => ?_, fun j hj => ?_, fun j hj => ?_, fun j hj => ?_, fun j hj => ?_, fun j hj => ?_, fun a c hac => ?_⟩
  · simp [va_up, cpy_in hj]
  · simp [va_up, cpy_in hj]
  · simp [va_up, cpy_in hj]
  · simp [va_up, cpy_in hj]
  · simp [va_up, cpy_in hj]
  · simp [va_up, cpy_in hj]
  · simp only [va_up]
    simp [show ¬ a = 23 by omega, show ¬ a = 24 by omega, show ¬ a = 25 by omega, show ¬ a = 26 by omega, show ¬ a = 27 by omega, show ¬ a = 28 by omega]
theorem cpyA {S : SI} {A : VW} (hV : HV A) (h : HC S 1 A) : ∃ S', f_X1_copyFromA S = some S' ∧ HC S' 21 A ∧ ∀ a c, ¬ (21 ≤ a ∧ a < 21 + 20) → S' a c = S a c := by
  have hn := hV.1.1
  have hmd := hV.1.2.1
  obtain ⟨⟨h1, h2, h3, h4⟩, ⟨h5, h6, h7, h8⟩, h9, h10⟩ := h
  obtain ⟨S1, e1, e2, e3⟩ := cpyA_l (fun So => f_X1_copyFromA_61 So) 12 fu 0 (up2 (up2 (up2 (up2 S 21 1 (S 1 1)) 21 4 (S 1 4)) 21 6 (S 1 6)) 21 7 (S 1 7)) (by omega) (by have := fu_big; omega)
  obtain ⟨S2, b0, b1, b2, b3, b4, b5, b6, b7⟩ := cpyA_6 S1
  have e0 : ∀ a c, a ≠ 21 → ¬ (29 ≤ a ∧ a < 29 + 12) → S1 a c = S a c := fun a c q1 q2 => by
    rw [e3 _ _ (by omega), up2_ne _ (by omega), up2_ne _ (by omega), up2_ne _ (by omega), up2_ne _ (by omega)]
  refine ⟨S2, ?_, ⟨⟨?_, ?_, ?_, ?_⟩, ⟨fun j hj => ?_, fun j hj => ?_, fun j hj => ?_, fun j hj => ?_⟩, fun m hm => ⟨?_, ?_⟩, fun i hi => ?_⟩, fun a c hac => ?_⟩
  · unfold f_X1_copyFromA
    simp only [nm_eq]
    simp only [up2_ne _ (show (1 ≠ 21 ∨ _) from Or.inl (by omega))]
    exact e1.trans b0
  · rw [b7 _ _ (by omega), e3 _ _ (by omega)]
    simp only [up2_at]
    simp
    exact h1
  · rw [b7 _ _ (by omega), e3 _ _ (by omega)]
    simp only [up2_at]
    simp
    exact h2
  · rw [b7 _ _ (by omega), e3 _ _ (by omega)]
    simp only [up2_at]
    simp
    exact h3
  · rw [b7 _ _ (by omega), e3 _ _ (by omega)]
    simp only [up2_at]
    simp
    exact h4
  · rw [show 21 + 4 = 25 from rfl, b3 j hj, e0 _ _ (by omega) (by omega)]
    exact h5 j hj
  · rw [show 21 + 7 = 28 from rfl, b6 j hj, e0 _ _ (by omega) (by omega)]
    exact h6 j hj
  · rw [show 21 + 5 = 26 from rfl, b4 j hj, e0 _ _ (by omega) (by omega)]
    exact h7 j hj
  · rw [show 21 + 6 = 27 from rfl, b5 j hj, e0 _ _ (by omega) (by omega)]
    exact h8 j hj
  · rw [show 21 + 2 = 23 from rfl, b1 m (by omega), e0 _ _ (by omega) (by omega)]
    exact (h9 m hm).1
  · rw [show 21 + 3 = 24 from rfl, b2 m (by omega), e0 _ _ (by omega) (by omega)]
    exact (h9 m hm).2
  · refine skC_cg (h10 i hi) (fun c hc => ?_)
    rw [b7 _ _ (by omega), show 21 + 8 + i = 29 + i by omega, e2 i (by omega) (by omega) c hc, show 1 + 8 + i = 9 + i by omega]
    rw [up2_ne _ (by omega), up2_ne _ (by omega), up2_ne _ (by omega), up2_ne _ (by omega)]
  · rw [b7 _ _ (by omega), e0 _ _ (by omega) (by omega)]
theorem cpyB_l (ke : SI → Option SI) : ∀ (d m k : Nat) (S : SI), k + d = 12 → d < m → ∃ S', f_X1_copyFromB_34 ke m (nI k) S = ke S' ∧ (∀ i, k ≤ i → i < 12 → ∀ c, c < 9 → S' (9 + i) c = S (29 + i) c) ∧ ∀ a c, ¬ (9 + k ≤ a ∧ a < 9 + 12) → S' a c = S a c := by
  intro d
  induction d with
  | zero =>
    intro m k S hk hm
    obtain ⟨q, rfl⟩ : ∃ q, m = q + 1 := ⟨m - 1, by omega⟩
    rw [f_X1_copyFromB_34, if_pos (show (12 : Int32) ≤ nI k from nI_le (a := 12) (by omega) (by omega))]
    exact ⟨S, rfl, fun i _ _ => by omega, fun _ _ _ => rfl⟩
  | succ d ih =>
    intro m k S hk hm
    obtain ⟨q, rfl⟩ : ∃ q, m = q + 1 := ⟨m - 1, by omega⟩
    obtain ⟨S1, c1, c2, c3⟩ := cpS S (a := 9 + k) (b := 29 + k) (by omega)
    rw [f_X1_copyFromB_34, if_neg (show ¬ (12 : Int32) ≤ nI k from nI_ge (b := 12) (by omega) (by omega)), inBn (show k < 12 by omega) (by omega), gd_t, gd_t, ixn (by omega), c1, sb, nI_1]
    obtain ⟨S', e1, e2, e3⟩ := ih q (k + 1) S1 (by omega) (by omega)
    refine ⟨S', e1, fun i h1 h2 c hc => ?_, fun a c hac => ?_⟩
    · by_cases hik : i = k
      · subst hik
        rw [e3 _ _ (by omega)]
        exact c2 c hc
      · rw [e2 i (by omega) h2 c hc, c3 _ _ (by omega)]
    · rw [e3 _ _ (by omega), c3 _ _ (by omega)]
theorem cpyB_6 (S : SI) : ∃ S', f_X1_copyFromB_61 S = some S' ∧ (∀ j, j < 12 → S' 3 j = S 23 j) ∧ (∀ j, j < 12 → S' 4 j = S 24 j) ∧ (∀ j, j < 6 → S' 5 j = S 25 j) ∧ (∀ j, j < 18 → S' 6 j = S 26 j) ∧ (∀ j, j < 18 → S' 7 j = S 27 j) ∧ (∀ j, j < 3 → S' 8 j = S 28 j) ∧ ∀ a c, ¬ (3 ≤ a ∧ a ≤ 8) → S' a c = S a c := by
  unfold f_X1_copyFromB_61
  simp only [nm_eq, show cpB (0 : Int32) (0 : Int32) (12 : Int32) 12 12 = true from rfl, show cpB (0 : Int32) (0 : Int32) (6 : Int32) 6 6 = true from rfl, show cpB (0 : Int32) (0 : Int32) (18 : Int32) 18 18 = true from rfl, show cpB (0 : Int32) (0 : Int32) (3 : Int32) 3 3 = true from rfl, gd_t, show ix (0 : Int32) = 0 from rfl, show ix (12 : Int32) = 12 from rfl, show ix (6 : Int32) = 6 from rfl, show ix (18 : Int32) = 18 from rfl, show ix (3 : Int32) = 3 from rfl]
  refine ⟨_, rfl, fun j hj => ?_, fun j hj => ?_, fun j hj => ?_, fun j hj => ?_, fun j hj => ?_, fun j hj => ?_, fun a c hac => ?_⟩
  · simp [va_up, cpy_in hj]
  · simp [va_up, cpy_in hj]
  · simp [va_up, cpy_in hj]
  · simp [va_up, cpy_in hj]
  · simp [va_up, cpy_in hj]
  · simp [va_up, cpy_in hj]
  · simp only [va_up]
    simp [show ¬ a = 3 by omega, show ¬ a = 4 by omega, show ¬ a = 5 by omega, show ¬ a = 6 by omega, show ¬ a = 7 by omega, show ¬ a = 8 by omega]
theorem cpyB {S : SI} {A : VW} (hV : HV A) (h : HC S 21 A) : ∃ S', f_X1_copyFromB S = some S' ∧ HC S' 1 A ∧ ∀ a c, ¬ (1 ≤ a ∧ a < 1 + 20) → S' a c = S a c := by
  have hn := hV.1.1
  have hmd := hV.1.2.1
  obtain ⟨⟨h1, h2, h3, h4⟩, ⟨h5, h6, h7, h8⟩, h9, h10⟩ := h
  obtain ⟨S1, e1, e2, e3⟩ := cpyB_l (fun So => f_X1_copyFromB_61 So) 12 fu 0 (up2 (up2 (up2 (up2 S 1 1 (S 21 1)) 1 4 (S 21 4)) 1 6 (S 21 6)) 1 7 (S 21 7)) (by omega) (by have := fu_big; omega)
  obtain ⟨S2, b0, b1, b2, b3, b4, b5, b6, b7⟩ := cpyB_6 S1
  have e0 : ∀ a c, a ≠ 1 → ¬ (9 ≤ a ∧ a < 9 + 12) → S1 a c = S a c := fun a c q1 q2 => by
    rw [e3 _ _ (by omega), up2_ne _ (by omega), up2_ne _ (by omega), up2_ne _ (by omega), up2_ne _ (by omega)]
  refine ⟨S2, ?_, ⟨⟨?_, ?_, ?_, ?_⟩, ⟨fun j hj => ?_, fun j hj => ?_, fun j hj => ?_, fun j hj => ?_⟩, fun m hm => ⟨?_, ?_⟩, fun i hi => ?_⟩, fun a c hac => ?_⟩
  · unfold f_X1_copyFromB
    simp only [nm_eq]
    simp only [up2_ne _ (show (21 ≠ 1 ∨ _) from Or.inl (by omega))]
    exact e1.trans b0
  · rw [b7 _ _ (by omega), e3 _ _ (by omega)]
    simp only [up2_at]
    simp
    exact h1
  · rw [b7 _ _ (by omega), e3 _ _ (by omega)]
    simp only [up2_at]
    simp
    exact h2
  · rw [b7 _ _ (by omega), e3 _ _ (by omega)]
    simp only [up2_at]
    simp
    exact h3
  · rw [b7 _ _ (by omega), e3 _ _ (by omega)]
    simp only [up2_at]
    simp
    exact h4
  · rw [show 1 + 4 = 5 from rfl, b3 j hj, e0 _ _ (by omega) (by omega)]
    exact h5 j hj
  · rw [show 1 + 7 = 8 from rfl, b6 j hj, e0 _ _ (by omega) (by omega)]
    exact h6 j hj
  · rw [show 1 + 5 = 6 from rfl, b4 j hj, e0 _ _ (by omega) (by omega)]
    exact h7 j hj
  · rw [show 1 + 6 = 7 from rfl, b5 j hj, e0 _ _ (by omega) (by omega)]
    exact h8 j hj
  · rw [show 1 + 2 = 3 from rfl, b1 m (by omega), e0 _ _ (by omega) (by omega)]
    exact (h9 m hm).1
  · rw [show 1 + 3 = 4 from rfl, b2 m (by omega), e0 _ _ (by omega) (by omega)]
    exact (h9 m hm).2
  · refine skC_cg (h10 i hi) (fun c hc => ?_)
    rw [b7 _ _ (by omega), show 1 + 8 + i = 9 + i by omega, e2 i (by omega) (by omega) c hc, show 21 + 8 + i = 29 + i by omega]
    rw [up2_ne _ (by omega), up2_ne _ (by omega), up2_ne _ (by omega), up2_ne _ (by omega)]
  · rw [b7 _ _ (by omega), e0 _ _ (by omega) (by omega)]
theorem image_l (ke : SI → Option (Int32 × SI)) : ∀ (d m k : Nat) (U : SI), k + d = 205 → d < m → ∃ U', f_X10_image_2 ke m (nI k) U = ke U' ∧ (∀ j, k ≤ j → j < 205 → U' 91 j = U 79 j) ∧ ∀ a c, ¬ (a = 91 ∧ k ≤ c ∧ c < 205) → U' a c = U a c := by
  intro d
  induction d with
  | zero =>
    intro m k U hk hm
    obtain ⟨q, rfl⟩ : ∃ q, m = q + 1 := ⟨m - 1, by omega⟩
    rw [f_X10_image_2, if_pos (show (205 : Int32) ≤ nI k from nI_le (a := 205) (by omega) (by omega))]
    exact ⟨U, rfl, fun i _ _ => by omega, fun _ _ _ => rfl⟩
  | succ d ih =>
    intro m k U hk hm
    obtain ⟨q, rfl⟩ : ∃ q, m = q + 1 := ⟨m - 1, by omega⟩
    rw [f_X10_image_2, if_neg (show ¬ (205 : Int32) ≤ nI k from nI_ge (b := 205) (by omega) (by omega)), inBn (show k < 205 by omega) (by omega), gd_t, gd_t, nm_eq, ixn (by omega), nI_1]
    obtain ⟨U', e1, e2, e3⟩ := ih q (k + 1) (up2 U 91 k (U 79 k)) (by omega) (by omega)
    refine ⟨U', e1, fun j h1 h2 => ?_, fun a c hac => ?_⟩
    · by_cases hjk : j = k
      · subst hjk
        rw [e3 _ _ (by omega), up2_eq]
      · rw [e2 j (by omega) h2, up2_ne _ (by omega)]
    · rw [e3 _ _ (by omega), up2_ne _ (by omega)]
theorem restore_l : ∀ (d m k : Nat) (U : SI), k + d = 205 → d < m → ∃ U', f_X10_restore_12 m (nI k) U = some (1, U') ∧ (∀ j, k ≤ j → j < 205 → U' 79 j = U 91 j) ∧ ∀ a c, ¬ (a = 79 ∧ k ≤ c ∧ c < 205) → U' a c = U a c := by
  intro d
  induction d with
  | zero =>
    intro m k U hk hm
    obtain ⟨q, rfl⟩ : ∃ q, m = q + 1 := ⟨m - 1, by omega⟩
    rw [f_X10_restore_12, if_pos (show (205 : Int32) ≤ nI k from nI_le (a := 205) (by omega) (by omega))]
    exact ⟨U, rfl, fun i _ _ => by omega, fun _ _ _ => rfl⟩
  | succ d ih =>
    intro m k U hk hm
    obtain ⟨q, rfl⟩ : ∃ q, m = q + 1 := ⟨m - 1, by omega⟩
    rw [f_X10_restore_12, if_neg (show ¬ (205 : Int32) ≤ nI k from nI_ge (b := 205) (by omega) (by omega)), inBn (show k < 205 by omega) (by omega), gd_t, gd_t, nm_eq, ixn (by omega), nI_1]
    obtain ⟨U', e1, e2, e3⟩ := ih q (k + 1) (up2 U 79 k (U 91 k)) (by omega) (by omega)
    refine ⟨U', e1, fun j h1 h2 => ?_, fun a c hac => ?_⟩
    · by_cases hjk : j = k
      · subst hjk
        rw [e3 _ _ (by omega), up2_eq]
      · rw [e2 j (by omega) h2, up2_ne _ (by omega)]
    · rw [e3 _ _ (by omega), up2_ne _ (by omega)]
theorem HM.cp {Z Z' : Nat → Int32} {A : VW} (hV : HV A) (h : HM Z A) (e : ∀ k, k < 205 → Z' k = Z k) : HM Z' A := by
  have hn := hV.1.1
  have hmd := hV.1.2.1
  obtain ⟨⟨h1, h2, h3, h4⟩, ⟨h5, h6, h7, h8⟩, h9, h10⟩ := h
  refine ⟨⟨by rw [e _ (by omega)]; exact h1, by rw [e _ (by omega)]; exact h2, by rw [e _ (by omega)]; exact h3, by rw [e _ (by omega)]; exact h4⟩, ⟨fun j hj => by rw [e _ (by omega)]; exact h5 j hj, fun j hj => by rw [e _ (by omega)]; exact h6 j hj, fun j hj => by rw [e _ (by omega)]; exact h7 j hj, fun j hj => by rw [e _ (by omega)]; exact h8 j hj⟩, fun m hm => by rw [e _ (by omega), e _ (by omega), e _ (by omega)]; exact h9 m hm, fun i hi => skM_cg (h10 i hi) (fun k hk => e _ (by omega))⟩
theorem op_image {P : Nat → Int32 → (Nat → Int32) → Prop} {S U : SI} (h : RR P S U) : ∃ (r : Int32) (S1 U1 : SI), f_X9_image S = some (r, S1) ∧ f_X10_image U = some (r, U1) ∧ RR P S1 U1 := by
  obtain ⟨⟨A, hV, hC, hM⟩, hi, ht, hs, hk⟩ := h
  obtain ⟨S1, c1, c2, c3⟩ := cpyA hV hC
  obtain ⟨U1, m1, m2, m3⟩ := image_l (fun Uo => f_X10_image_27 Uo) 205 fu 0 U (by omega) (by have := fu_big; omega)
  refine ⟨1, up2 S1 0 2 1, up2 U1 78 15 1, ?_, ?_, ⟨A, hV, ?_, ?_⟩, ?_, ?_, ?_, ?_⟩
  · unfold f_X9_image
    rw [c1, sb, nm_eq]
  · unfold f_X10_image
    refine m1.trans ?_
    unfold f_X10_image_27
    rw [nm_eq]
  · exact hC.cg (fun a k h1 h2 => by rw [up2_ne _ (by omega), c3 _ _ (by omega)]) hV.1.1
  · rw [up2_row _ (by omega), show U1 79 = U 79 from funext fun k => m3 _ _ (by omega)]
    exact hM
  · refine Or.inr ⟨up2_eq _ _ _ _, up2_eq _ _ _ _, A, hV, c2.cg (fun a k h1 h2 => up2_ne _ (by omega)) hV.1.1, ?_⟩
    rw [up2_row _ (by omega)]
    exact hM.cp hV (fun k hk => m2 k (by omega) hk)
  · exact ht.cg (by rw [up2_ne _ (by omega), c3 _ _ (by omega)]) (funext fun k => by rw [up2_ne _ (by omega), c3 _ _ (by omega)]) (by rw [up2_ne _ (by omega), m3 _ _ (by omega)]) (funext fun k => by rw [up2_ne _ (by omega), m3 _ _ (by omega)])
  · exact hs.cg (fun a k h1 h2 => by rw [up2_ne _ (by omega), c3 _ _ (by omega)]) (funext fun k => by rw [up2_ne _ (by omega), m3 _ _ (by omega)]) (funext fun k => by rw [up2_ne _ (by omega), m3 _ _ (by omega)]) (funext fun k => by rw [up2_ne _ (by omega), m3 _ _ (by omega)])
  · exact hk.cg (funext fun k => by rw [up2_ne _ (by omega), c3 _ _ (by omega)]) (funext fun k => by rw [up2_ne _ (by omega), c3 _ _ (by omega)])
theorem op_restore {P : Nat → Int32 → (Nat → Int32) → Prop} {S U : SI} (h : RR P S U) : ∃ (r : Int32) (S1 U1 : SI), f_X9_restore S = some (r, S1) ∧ f_X10_restore U = some (r, U1) ∧ RR P S1 U1 := by
  have h0 := h
  obtain ⟨-, hi, ht, hs, hk⟩ := h
  unfold f_X9_restore f_X10_restore
  rcases hi with ⟨i1, i2⟩ | ⟨i1, i2, B, hV, hC, hM⟩
  · rw [i1, i2, if_pos rfl, if_pos rfl]
    exact ⟨_, _, _, rfl, rfl, h0⟩
  · rw [i1, i2, if_neg (by decide), if_neg (by decide)]
    obtain ⟨S1, c1, c2, c3⟩ := cpyB hV hC
    obtain ⟨U1, m1, m2, m3⟩ := restore_l 205 fu 0 U (by omega) (by have := fu_big; omega)
    refine ⟨1, S1, U1, ?_, m1, ⟨B, hV, c2, hM.cp hV (fun k hk => m2 k (by omega) hk)⟩, ?_, ?_, ?_, ?_⟩
    · rw [c1, sb]
    · refine Or.inr ⟨by rw [c3 _ _ (by omega)]; exact i1, by rw [m3 _ _ (by omega)]; exact i2, B, hV, hC.cg (fun a k h1 h2 => c3 _ _ (by omega)) hV.1.1, ?_⟩
      rw [show U1 91 = U 91 from funext fun k => m3 _ _ (by omega)]
      exact hM
    · exact ht.cg (c3 _ _ (by omega)) (funext fun k => c3 _ _ (by omega)) (m3 _ _ (by omega)) (funext fun k => m3 _ _ (by omega))
    · exact hs.cg (fun a k h1 h2 => c3 _ _ (by omega)) (funext fun k => m3 _ _ (by omega)) (funext fun k => m3 _ _ (by omega)) (funext fun k => m3 _ _ (by omega))
    · exact hk.cg (funext fun k => c3 _ _ (by omega)) (funext fun k => c3 _ _ (by omega))
