theorem ptN_s (A : VW) (r X : Nat) (f : Nat → Int32) : ptN A (r + 1) X f = if X.testBit (A 0 0 - (r + 1)) = true then (match chN2 A X (A 0 0 - (r + 1)) with
      | none => ptN A r (rmN X (A 0 0 - (r + 1))) f
      | some j => ptN A r (rmN (rmN X (A 0 0 - (r + 1))) j) (upF (upF f (A 0 0 - (r + 1)) (nI j)) j (nI (A 0 0 - (r + 1))))) else ptN A r X f := id rfl
/-- how many PAIRS, and at what distance together -/
def prN (A : VW) : Nat → Nat → Nat
  | 0, _ => 0
  | r + 1, X => if X.testBit (A 0 0 - (r + 1)) = true then (match chN2 A X (A 0 0 - (r + 1)) with
      | none => prN A r (rmN X (A 0 0 - (r + 1)))
      | some j => 1 + prN A r (rmN (rmN X (A 0 0 - (r + 1))) j)) else prN A r X
def pdN (A : VW) : Nat → Nat → Nat
  | 0, _ => 0
  | r + 1, X => if X.testBit (A 0 0 - (r + 1)) = true then (match chN2 A X (A 0 0 - (r + 1)) with
      | none => pdN A r (rmN X (A 0 0 - (r + 1)))
      | some j => dsN A (A 0 0 - (r + 1)) j + pdN A r (rmN (rmN X (A 0 0 - (r + 1))) j)) else pdN A r X
theorem prN_s (A : VW) (r X : Nat) : prN A (r + 1) X = if X.testBit (A 0 0 - (r + 1)) = true then (match chN2 A X (A 0 0 - (r + 1)) with
      | none => prN A r (rmN X (A 0 0 - (r + 1)))
      | some j => 1 + prN A r (rmN (rmN X (A 0 0 - (r + 1))) j)) else prN A r X := id rfl
theorem pdN_s (A : VW) (r X : Nat) : pdN A (r + 1) X = if X.testBit (A 0 0 - (r + 1)) = true then (match chN2 A X (A 0 0 - (r + 1)) with
      | none => pdN A r (rmN X (A 0 0 - (r + 1)))
      | some j => dsN A (A 0 0 - (r + 1)) j + pdN A r (rmN (rmN X (A 0 0 - (r + 1))) j)) else pdN A r X := id rfl
theorem ch_some {A : VW} {X i j : Nat} (h : chN2 A X i = some j) : i < j ∧ j < A 0 0 ∧ X.testBit j = true := by
  obtain ⟨h1, h2, h3⟩ := fs_some h
  refine ⟨by omega, by omega, ?_⟩
  unfold chB at h3
  revert h3
  cases X.testBit j <;> simp
theorem upF_eq (f : Nat → Int32) (k : Nat) (v : Int32) : upF f k v k = v := if_pos rfl
theorem upF_ne (f : Nat → Int32) {k j : Nat} (v : Int32) (h : j ≠ k) : upF f k v j = f j := if_neg h
theorem pt_stable {A : VW} (hn : A 0 0 ≤ 12) : ∀ (r X : Nat) (f : Nat → Int32) (k : Nat), r ≤ A 0 0 → X < 4096 → X.testBit k = false → ptN A r X f k = f k
  | 0, _, _, _, _, _, _ => rfl
  | r + 1, X, f, k, hr, hX, hk => by
    rw [ptN_s]
    generalize hi : A 0 0 - (r + 1) = i
    have hi12 : i < 12 := by omega
    have hX2 : rmN X i < 4096 := Nat.lt_of_le_of_lt (rm_le _ _) hX
    cases hb : X.testBit i with
    | false =>
      rw [if_neg (by simp)]
      exact pt_stable hn r X f k (by omega) hX hk
    | true =>
      rw [if_pos rfl]
      have hki : k ≠ i := fun e => by rw [e, hb] at hk; cases hk
      cases hc : chN2 A X i with
      | none => exact pt_stable hn r _ f k (by omega) hX2 (by rw [rm_bit hX hi12, hk]; rfl)
      | some j =>
        obtain ⟨j1, j2, j3⟩ := ch_some hc
        have hkj : k ≠ j := fun e => by rw [e, j3] at hk; cases hk
        show ptN A r (rmN (rmN X i) j) (upF (upF f i (nI j)) j (nI i)) k = f k
        rw [pt_stable hn r _ _ k (by omega) (Nat.lt_of_le_of_lt (rm_le _ _) hX2) (by rw [rm_bit hX2 (by omega), rm_bit hX hi12, hk]; rfl), upF_ne _ _ hkj, upF_ne _ _ hki]
def cnF (F : Nat → Int32) : Nat → Nat
  | 0 => 0
  | k + 1 => cnF F k + (if F k ≤ nI k then 0 else 1)
def dtF (A : VW) (F : Nat → Int32) : Nat → Nat
  | 0 => 0
  | k + 1 => dtF A F k + (if F k ≤ nI k then 0 else dsN A k (ix (F k)))
def ctF (F : Nat → Int32) (n : Nat) : Nat := fb_ct (fun k => decide (0 ≤ F k)) n
theorem ct_up {F : Nat → Int32} {k n : Nat} {v : Int32} (hk : k < n) (h1 : ¬ 0 ≤ F k) (h2 : 0 ≤ v) : ctF (upF F k v) n = ctF F n + 1 := by
  unfold ctF
  exact (ct_rm (p := fun j => decide (0 ≤ upF F k v j)) (q := fun j => decide (0 ≤ F j)) (i := k) (by show decide (0 ≤ upF F k v k) = true; rw [upF_eq]; exact decide_eq_true h2) (decide_eq_false h1) (fun j hj => by show decide (0 ≤ F j) = decide (0 ≤ upF F k v j); rw [upF_ne _ _ hj]) n hk).symm
theorem m4_le (k : Nat) (hk : k < 2 ^ 31) : (-4 : Int32) ≤ nI k := by
  rw [le_toInt, nI_toInt hk, show (-4 : Int32).toInt = -4 from rfl]
  omega
theorem pt_sum {A : VW} (hn : A 0 0 ≤ 12) : ∀ (r X : Nat) (f : Nat → Int32), r ≤ A 0 0 → X < 4096 → noB X (A 0 0 - r) → (∀ k, X.testBit k = true → f k = -4) → (∀ k, A 0 0 - r ≤ k → k < 12 → f k = -4 ∨ ∃ k', k' < A 0 0 - r ∧ f k = nI k') →
    cnF (ptN A r X f) (A 0 0) = cnF (ptN A r X f) (A 0 0 - r) + prN A r X ∧ dtF A (ptN A r X f) (A 0 0) = dtF A (ptN A r X f) (A 0 0 - r) + pdN A r X ∧ ctF (ptN A r X f) (A 0 0) = ctF f (A 0 0) + 2 * prN A r X
  | 0, X, f, _, _, _, _, _ => ⟨rfl, rfl, rfl⟩
  | r + 1, X, f, hr, hX, hno, h1, h2 => by
    rw [ptN_s, prN_s, pdN_s]
    generalize hi : A 0 0 - (r + 1) = i at hno h2 ⊢
    have hin : i < A 0 0 := by omega
    have hi12 : i < 12 := by omega
    have hri : A 0 0 - r = i + 1 := by omega
    have hX2 : rmN X i < 4096 := Nat.lt_of_le_of_lt (rm_le _ _) hX
    have hlow := noB_low hX hi12 hno
    cases hb : X.testBit i with
    | false =>
      rw [if_neg (by simp), if_neg (by simp), if_neg (by simp)]
      have hno2 : noB X (i + 1) := fun j hj => by
        by_cases e : j = i
        · rw [e]; exact hb
        · exact hno j (by omega)
      obtain ⟨a1, a2, a3⟩ := pt_sum hn r X f (by omega) hX (by rw [hri]; exact hno2) h1 (fun k k1 k2 => by
        rcases h2 k (by omega) k2 with z | ⟨k', z1, z2⟩
        · exact Or.inl z
        · exact Or.inr ⟨k', by omega, z2⟩)
      rw [hri] at a1 a2
      have hs := pt_stable hn r X f i (by omega) hX hb
      have hle : ptN A r X f i ≤ nI i := by
        rw [hs]
        rcases h2 i (by omega) hi12 with z | ⟨k', z1, z2⟩
        · rw [z]; exact m4_le i (by omega)
        · rw [z2]; exact nI_le (by omega) (by omega)
      have e1 : cnF (ptN A r X f) (i + 1) = cnF (ptN A r X f) i + 0 := by show _ + (if ptN A r X f i ≤ nI i then 0 else 1) = _; rw [if_pos hle]
      have e2 : dtF A (ptN A r X f) (i + 1) = dtF A (ptN A r X f) i + 0 := by show _ + (if ptN A r X f i ≤ nI i then 0 else _) = _; rw [if_pos hle]
      exact ⟨by rw [a1, e1]; omega, by rw [a2, e2]; omega, a3⟩
    | true =>
      rw [if_pos rfl, if_pos rfl, if_pos rfl]
      have hfi := h1 i hb
      cases hc : chN2 A X i with
      | none =>
        obtain ⟨a1, a2, a3⟩ := pt_sum hn r (rmN X i) f (by omega) hX2 (by rw [hri]; exact hlow) (fun k hk => by
          rw [rm_bit hX hi12] at hk
          exact h1 k (by revert hk; cases X.testBit k <;> simp)) (fun k k1 k2 => by
          rcases h2 k (by omega) k2 with z | ⟨k', z1, z2⟩
          · exact Or.inl z
          · exact Or.inr ⟨k', by omega, z2⟩)
        rw [hri] at a1 a2
        have hs := pt_stable hn r (rmN X i) f i (by omega) hX2 (by rw [rm_bit hX hi12]; simp)
        have hle : ptN A r (rmN X i) f i ≤ nI i := by
          rw [hs, hfi]; exact m4_le i (by omega)
        have e1 : cnF (ptN A r (rmN X i) f) (i + 1) = cnF (ptN A r (rmN X i) f) i + 0 := by show _ + (if ptN A r (rmN X i) f i ≤ nI i then 0 else 1) = _; rw [if_pos hle]
        have e2 : dtF A (ptN A r (rmN X i) f) (i + 1) = dtF A (ptN A r (rmN X i) f) i + 0 := by show _ + (if ptN A r (rmN X i) f i ≤ nI i then 0 else _) = _; rw [if_pos hle]
        exact ⟨by show cnF (ptN A r (rmN X i) f) (A 0 0) = cnF (ptN A r (rmN X i) f) i + prN A r (rmN X i); rw [a1, e1]; omega, by show dtF A (ptN A r (rmN X i) f) (A 0 0) = dtF A (ptN A r (rmN X i) f) i + pdN A r (rmN X i); rw [a2, e2]; omega, a3⟩
      | some j =>
        obtain ⟨j1, j2, j3⟩ := ch_some hc
        have hX3 : rmN (rmN X i) j < 4096 := Nat.lt_of_le_of_lt (rm_le _ _) hX2
        have hfj := h1 j j3
        obtain ⟨a1, a2, a3⟩ := pt_sum hn r (rmN (rmN X i) j) (upF (upF f i (nI j)) j (nI i)) (by omega) hX3 (by rw [hri]; exact noB_rm hX2 (by omega) hlow) (fun k hk => by
          rw [rm_bit hX2 (by omega), rm_bit hX hi12] at hk
          have hk3 : X.testBit k = true ∧ k ≠ i ∧ k ≠ j := by revert hk; cases X.testBit k <;> simp <;> omega
          rw [upF_ne _ _ hk3.2.2, upF_ne _ _ hk3.2.1]
          exact h1 k hk3.1) (fun k k1 k2 => by
          by_cases e : k = j
          · rw [e, upF_eq]; exact Or.inr ⟨i, by omega, rfl⟩
          · rw [upF_ne _ _ e, upF_ne _ _ (by omega)]
            rcases h2 k (by omega) k2 with z | ⟨k', z1, z2⟩
            · exact Or.inl z
            · exact Or.inr ⟨k', by omega, z2⟩)
        rw [hri] at a1 a2
        have hs := pt_stable hn r (rmN (rmN X i) j) (upF (upF f i (nI j)) j (nI i)) i (by omega) hX3 (by rw [rm_bit hX2 (by omega), rm_bit hX hi12]; simp)
        rw [upF_ne _ _ (show i ≠ j by omega), upF_eq] at hs
        show cnF (ptN A r (rmN (rmN X i) j) (upF (upF f i (nI j)) j (nI i))) (A 0 0) = cnF (ptN A r (rmN (rmN X i) j) (upF (upF f i (nI j)) j (nI i))) i + (1 + prN A r (rmN (rmN X i) j)) ∧ dtF A (ptN A r (rmN (rmN X i) j) (upF (upF f i (nI j)) j (nI i))) (A 0 0) = dtF A (ptN A r (rmN (rmN X i) j) (upF (upF f i (nI j)) j (nI i))) i + (dsN A i j + pdN A r (rmN (rmN X i) j)) ∧ ctF (ptN A r (rmN (rmN X i) j) (upF (upF f i (nI j)) j (nI i))) (A 0 0) = ctF f (A 0 0) + 2 * (1 + prN A r (rmN (rmN X i) j))
        generalize ptN A r (rmN (rmN X i) j) (upF (upF f i (nI j)) j (nI i)) = F at a1 a2 a3 hs ⊢
        have hgt : ¬ F i ≤ nI i := by rw [hs]; exact nI_ge (by omega) (by omega)
        have e1 : cnF F (i + 1) = cnF F i + 1 := by show _ + (if F i ≤ nI i then 0 else 1) = _; rw [if_neg hgt]
        have e2 : dtF A F (i + 1) = dtF A F i + dsN A i j := by show _ + (if F i ≤ nI i then 0 else dsN A i (ix (F i))) = _; rw [if_neg hgt, hs, ixn (by omega)]
        refine ⟨by rw [a1, e1]; omega, by rw [a2, e2]; omega, ?_⟩
        rw [a3, ct_up (by omega) (by rw [upF_ne _ _ (by omega), hfj]; decide) (nI_pos' (by omega)), ct_up hin (by rw [hfi]; decide) (nI_pos' (by omega))]
        omega
/-- who goes with whom: both ways, out of the box -/
def gdF (A : VW) (X : Nat) (f : Nat → Int32) : Prop := ∀ k, f k = -4 ∨ (X.testBit k = false ∧ k < A 0 0 ∧ A 14 k = 0 ∧ ∃ j, j < A 0 0 ∧ j ≠ k ∧ X.testBit j = false ∧ f k = nI j ∧ f j = nI k)
theorem pt_good {A : VW} (hn : A 0 0 ≤ 12) : ∀ (r X : Nat) (f : Nat → Int32), r ≤ A 0 0 → X < 4096 → (∀ k, X.testBit k = true → k < A 0 0 ∧ A 14 k = 0) → (∀ k, X.testBit k = true → f k = -4) → gdF A X f → ∀ k, ptN A r X f k = -4 ∨ (k < A 0 0 ∧ A 14 k = 0 ∧ ∃ j, j < A 0 0 ∧ j ≠ k ∧ ptN A r X f k = nI j ∧ ptN A r X f j = nI k)
  | 0, X, f, _, _, _, _, h, k => by
    rcases h k with z | ⟨z1, z2, z3, j, z4, z5, z6, z7, z8⟩
    · exact Or.inl z
    · exact Or.inr ⟨z2, z3, j, z4, z5, z7, z8⟩
  | r + 1, X, f, hr, hX, hx, h1, h, k => by
    rw [ptN_s]
    generalize hi : A 0 0 - (r + 1) = i
    have hi12 : i < 12 := by omega
    have hX2 : rmN X i < 4096 := Nat.lt_of_le_of_lt (rm_le _ _) hX
    have hsub : ∀ k, (rmN X i).testBit k = true → X.testBit k = true ∧ k ≠ i := fun k hk => by
      rw [rm_bit hX hi12] at hk
      revert hk
      cases X.testBit k <;> simp
    have hsub0 : ∀ k, X.testBit k = false → (rmN X i).testBit k = false := fun k hk => by rw [rm_bit hX hi12, hk]; rfl
    cases hb : X.testBit i with
    | false =>
      rw [if_neg (by simp)]
      exact pt_good hn r X f (by omega) hX hx h1 h k
    | true =>
      rw [if_pos rfl]
      cases hc : chN2 A X i with
      | none =>
        exact pt_good hn r (rmN X i) f (by omega) hX2 (fun k hk => hx k (hsub k hk).1) (fun k hk => h1 k (hsub k hk).1) (fun k => by
          rcases h k with z | ⟨z1, z2, z3, j, z4, z5, z6, z7, z8⟩
          · exact Or.inl z
          · exact Or.inr ⟨hsub0 k z1, z2, z3, j, z4, z5, hsub0 j z6, z7, z8⟩) k
      | some j =>
        obtain ⟨j1, j2, j3⟩ := ch_some hc
        have hX3 : rmN (rmN X i) j < 4096 := Nat.lt_of_le_of_lt (rm_le _ _) hX2
        have hbit : ∀ k, (rmN (rmN X i) j).testBit k = (X.testBit k && (decide (k ≠ i) && decide (k ≠ j))) := fun k => by
          rw [rm_bit hX2 (by omega), rm_bit hX hi12, Bool.and_assoc]
        refine pt_good hn r (rmN (rmN X i) j) (upF (upF f i (nI j)) j (nI i)) (by omega) hX3 (fun k hk => ?_) (fun k hk => ?_) (fun k => ?_) k
        · rw [hbit] at hk
          exact hx k (by revert hk; cases X.testBit k <;> simp)
        · rw [hbit] at hk
          have hk3 : X.testBit k = true ∧ k ≠ i ∧ k ≠ j := by revert hk; cases X.testBit k <;> simp
          rw [upF_ne _ _ hk3.2.2, upF_ne _ _ hk3.2.1]
          exact h1 k hk3.1
        · by_cases e1 : k = j
          · refine Or.inr ⟨by rw [hbit, e1]; simp, by omega, by rw [e1]; exact (hx j j3).2, i, by omega, by omega, by rw [hbit]; simp, by rw [e1, upF_eq], by rw [upF_ne _ _ (show i ≠ j by omega), upF_eq, e1]⟩
          · by_cases e2 : k = i
            · refine Or.inr ⟨by rw [hbit, e2]; simp, by omega, by rw [e2]; exact (hx i hb).2, j, by omega, by omega, by rw [hbit]; simp, by rw [upF_ne _ _ e1, e2, upF_eq], by rw [upF_eq, e2]⟩
            · rw [upF_ne _ _ e1, upF_ne _ _ e2]
              rcases h k with z | ⟨z1, z2, z3, q, z4, z5, z6, z7, z8⟩
              · exact Or.inl z
              · have q1 : q ≠ j := fun e => by rw [e, j3] at z6; cases z6
                have q2 : q ≠ i := fun e => by rw [e, hb] at z6; cases z6
                exact Or.inr ⟨by rw [hbit, z1]; rfl, z2, z3, q, z4, z5, by rw [hbit, z6]; rfl, z7, by rw [upF_ne _ _ q1, upF_ne _ _ q2]; exact z8⟩
/-- the whole: out of the box -/
def boX (A : VW) : Nat := seN (fun i => A 14 i == 0) (A 0 0)
def ptF (A : VW) : Nat → Int32 := ptN A (A 0 0) (boX A) (fun _ => -4)
theorem bo_lt {A : VW} (hn : A 0 0 ≤ 12) : boX A < 2 ^ A 0 0 ∧ boX A < 4096 := ⟨se_lt _ _, se_small _ hn⟩
theorem bo_bit {A : VW} (k : Nat) : (boX A).testBit k = (decide (k < A 0 0) && A 14 k == 0) := se_bit _ _ _
theorem noB_0 (X : Nat) : noB X 0 := fun j hj => by omega
theorem ptF_sum {A : VW} (hn : A 0 0 ≤ 12) : cnF (ptF A) (A 0 0) = prN A (A 0 0) (boX A) ∧ dtF A (ptF A) (A 0 0) = pdN A (A 0 0) (boX A) ∧ ctF (ptF A) (A 0 0) = 2 * prN A (A 0 0) (boX A) := by
  have h := pt_sum hn (A 0 0) (boX A) (fun _ => -4) (Nat.le_refl _) (bo_lt hn).2 (by rw [Nat.sub_self]; exact noB_0 _) (fun _ _ => rfl) (fun _ _ _ => Or.inl rfl)
  have e : ctF (fun _ => (-4 : Int32)) (A 0 0) = 0 := fb_ct_zero.mpr (fun i _ => decide_eq_false (show ¬ (0 : Int32) ≤ -4 by decide))
  rw [Nat.sub_self, e] at h
  obtain ⟨h1, h2, h3⟩ := h
  refine ⟨h1.trans (Nat.zero_add _), h2.trans (Nat.zero_add _), h3.trans (Nat.zero_add _)⟩
theorem ptF_good {A : VW} (hn : A 0 0 ≤ 12) : ∀ k, ptF A k = -4 ∨ (k < A 0 0 ∧ A 14 k = 0 ∧ ∃ j, j < A 0 0 ∧ j ≠ k ∧ ptF A k = nI j ∧ ptF A j = nI k) :=
  pt_good hn (A 0 0) (boX A) (fun _ => -4) (Nat.le_refl _) (bo_lt hn).2 (fun k hk => by
    rw [bo_bit] at hk
    simp at hk
    exact hk) (fun _ _ => rfl) (fun _ => Or.inl rfl)
