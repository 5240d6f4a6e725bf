/-! PURE PART: numbers -/
theorem ixn {k : Nat} (h : k < 2 ^ 31) : ix (nI k) = k := nI_clamp h
theorem inBn {k n : Nat} (h : k < n) (hn : n < 2 ^ 31) : inB (nI k) n = true := by
  unfold inB
  rw [nI_toInt (by omega)]
  exact decide_eq_true ⟨by omega, by omega⟩
theorem inBf {k n : Nat} (h : n ≤ k) (hk : k < 2 ^ 31) : inB (nI k) n = false := by
  unfold inB
  rw [nI_toInt hk]
  exact decide_eq_false (by omega)
theorem inB_of {v : Int32} {n : Nat} (h : inB v n = true) (hn : n < 2 ^ 31) : ∃ j, j < n ∧ v = nI j := vp_in_of (vp_in_iff.mpr (of_decide_eq_true h)) hn
theorem inB_neg {v : Int32} {n : Nat} (h : inB v n = false) : ¬ (0 ≤ v.toInt ∧ v.toInt < (n : Int)) := of_decide_eq_false h
theorem gd_t {α : Type} (o : Option α) : gd true o = o := id rfl
theorem gd_f {α : Type} (o : Option α) : gd false o = none := id rfl
theorem nm_eq {α β : Type} (x : α) (K : α → Option β) : nm x K = K x := id rfl
theorem lit (n : Nat) : (OfNat.ofNat n : Int32) = nI n := rfl
theorem litL (n : Nat) : (OfNat.ofNat n : Int64) = lN n := rfl
theorem b01_0 : b01 (nI 0) = true := rfl
theorem b01_1 : b01 (nI 1) = true := rfl
theorem up2_at {α : Type} (S : Nat → Nat → α) (a k : Nat) (v : α) (a' k' : Nat) : up2 S a k v a' k' = if a' = a ∧ k' = k then v else S a' k' := by
  unfold up2 va_up
  by_cases h : a' = a
  · subst h
    by_cases h2 : k' = k
    · simp [h2]
    · simp [h2]
  · simp [h]
theorem up2_row {α : Type} (S : Nat → Nat → α) {a k : Nat} {v : α} {a' : Nat} (h : a' ≠ a) : up2 S a k v a' = S a' := by
  unfold up2 va_up
  simp [h]
theorem up2_eq {α : Type} (S : Nat → Nat → α) (a k : Nat) (v : α) : up2 S a k v a k = v := by
  rw [up2_at, if_pos ⟨rfl, rfl⟩]
theorem up2_ne {α : Type} (S : Nat → Nat → α) {a k a' k' : Nat} {v : α} (h : a' ≠ a ∨ k' ≠ k) : up2 S a k v a' k' = S a' k' := by
  rw [up2_at, if_neg (fun q => h.elim (fun h => h q.1) (fun h => h q.2))]
theorem lt_toInt (a b : Int32) : a < b ↔ a.toInt < b.toInt := Int32.lt_iff_toInt_lt
theorem le_toInt (a b : Int32) : a ≤ b ↔ a.toInt ≤ b.toInt := Int32.le_iff_toInt_le
theorem lt_toL (a b : Int64) : a < b ↔ a.toInt < b.toInt := Int64.lt_iff_toInt_lt
theorem le_toL (a b : Int64) : a ≤ b ↔ a.toInt ≤ b.toInt := Int64.le_iff_toInt_le
theorem wide (a : Int32) : a.toInt64.toInt = a.toInt := Int32.toInt_toInt64 a
/-- within and in say the same -/
theorem within_eq (v : Int32) (c : Nat) (hc : c < 2 ^ 31) : f_X9_within v (nI c) = some (if inB v c = true then nI 1 else nI 0) := by
  unfold f_X9_within
  have e : (0 : Int32).toInt = 0 := rfl
  simp only [lt_toInt, le_toInt, nI_toInt hc, e]
  unfold inB
  by_cases h1 : v.toInt < 0
  · rw [if_pos h1, decide_eq_false (by omega)]; rfl
  · rw [if_neg h1]
    by_cases h2 : (c : Int) ≤ v.toInt
    · rw [if_pos h2, decide_eq_false (by omega)]; rfl
    · rw [if_neg h2, decide_eq_true (by omega)]; rfl
theorem in_eq (v : Int32) (c : Nat) (hc : c < 2 ^ 31) : f_X10_in v.toInt64 (lN 0) (lN c) = some (if inB v (c + 1) = true then nI 1 else nI 0) := by
  unfold f_X10_in
  have e : (lN 0).toInt = 0 := rfl
  simp only [lt_toL, wide, e, pk_lT (show c < 2 ^ 63 by omega)]
  unfold inB
  by_cases h1 : v.toInt < 0
  · rw [if_pos h1, decide_eq_false (by omega)]; rfl
  · rw [if_neg h1]
    by_cases h2 : (c : Int) < v.toInt
    · rw [if_pos h2, decide_eq_false (by omega)]; rfl
    · rw [if_neg h2, decide_eq_true (by omega)]; rfl
/-- in between two numbers -/
theorem in_gen (v lo hi : Int64) : f_X10_in v lo hi = some (if lo.toInt ≤ v.toInt ∧ v.toInt ≤ hi.toInt then nI 1 else nI 0) := by
  unfold f_X10_in
  simp only [lt_toL]
  by_cases h1 : v.toInt < lo.toInt
  · rw [if_pos h1, if_neg (by omega)]; rfl
  · rw [if_neg h1]
    by_cases h2 : hi.toInt < v.toInt
    · rw [if_pos h2, if_neg (by omega)]; rfl
    · rw [if_neg h2, if_pos (by omega)]; rfl
theorem n10 : ¬ nI 1 = nI 0 := by decide
theorem sb {α β : Type} (a : α) (f : α → Option β) : (some a).bind f = f a := id rfl
/-! the state as numbers: A 0: how many SOCKS, MONDAYS, LIKENESS, HANDED; A 1 FADES; A 2 WISHES; A 3 LEAST; A 4 MOST; A 5 who went; A 6 who was lost; A 7 who was there; A 10 .. A 18: of each SOCK kind, hand, low, high, place, other, since, may, bound -/
abbrev VW : Type := Nat → Nat → Nat
def otI (A : VW) (i : Nat) : Int32 := if A 14 i = 2 then nI (A 15 i) else -4
def siI (A : VW) (i : Nat) : Int32 := if A 14 i = 1 then nI (A 16 i) else -4
/-- who stayed on a MONDAY -/
def stN (A : VW) (m : Nat) : Nat := A 7 m ^^^ (A 5 m ||| A 6 m)
/-- on how many MONDAYS a SOCK went -/
def outN (A : VW) (i : Nat) : Nat → Nat
  | 0 => 0
  | m + 1 => outN A i m + (if (A 5 m).testBit i = true then 1 else 0)
def skC (f : Nat → Int32) (A : VW) (i : Nat) : Prop := f 0 = nI (A 10 i) ∧ f 1 = nI (A 11 i) ∧ f 2 = nI (A 12 i) ∧ f 3 = nI (A 13 i) ∧ f 4 = nI (A 14 i) ∧ f 5 = otI A i ∧ f 6 = siI A i ∧ f 7 = nI (A 17 i) ∧ f 8 = nI (A 18 i)
def skM (f : Nat → Int32) (A : VW) (i : Nat) : Prop := f 0 = nI (A 10 i) ∧ f 1 = nI (A 11 i) ∧ f 2 = nI (A 12 i) ∧ f 3 = nI (A 13 i) ∧ f 4 = nI (A 14 i) ∧ f 5 = otI A i ∧ f 6 = nI (outN A i (A 0 1)) ∧ f 7 = siI A i ∧ f 8 = nI (A 17 i) ∧ f 9 = nI (A 18 i)
def HC (S : SI) (p : Nat) (A : VW) : Prop :=
  (S p 1 = nI (A 0 0) ∧ S p 4 = nI (A 0 1) ∧ S p 6 = nI (A 0 2) ∧ S p 7 = nI (A 0 3)) ∧
  ((∀ j, j < 6 → S (p + 4) j = nI (A 1 j)) ∧ (∀ j, j < 3 → S (p + 7) j = nI (A 2 j)) ∧ (∀ j, j < 18 → S (p + 5) j = nI (A 3 j)) ∧ (∀ j, j < 18 → S (p + 6) j = nI (A 4 j))) ∧
  (∀ m, m < A 0 1 → S (p + 2) m = nI (A 5 m) ∧ S (p + 3) m = nI (stN A m)) ∧ ∀ i, i < A 0 0 → skC (S (p + 8 + i)) A i
def HM (Z : Nat → Int32) (A : VW) : Prop :=
  (Z 0 = nI (A 0 0) ∧ Z 1 = nI (A 0 1) ∧ Z 2 = nI (A 0 2) ∧ Z 3 = nI (A 0 3)) ∧
  ((∀ j, j < 6 → Z (4 + j) = nI (A 1 j)) ∧ (∀ j, j < 3 → Z (10 + j) = nI (A 2 j)) ∧ (∀ j, j < 18 → Z (169 + 2 * j) = nI (A 3 j)) ∧ (∀ j, j < 18 → Z (170 + 2 * j) = nI (A 4 j))) ∧
  (∀ m, m < A 0 1 → Z (133 + 3 * m) = nI (A 5 m) ∧ Z (134 + 3 * m) = nI (A 6 m) ∧ Z (135 + 3 * m) = nI (A 7 m)) ∧ ∀ i, i < A 0 0 → skM (fun k => Z (13 + 10 * i + k)) A i
/-- a week's sets -/
def wkV (A : VW) (m : Nat) : Prop := ∃ k, k ≤ A 0 0 ∧ A 7 m = 2 ^ k - 1 ∧ A 5 m < 2 ^ k ∧ A 6 m < 2 ^ k ∧ A 5 m &&& A 6 m = 0
def skV (A : VW) (i : Nat) : Prop :=
  (A 10 i < 6 ∧ A 11 i < 2 ∧ A 12 i ≤ A 13 i ∧ A 13 i ≤ 99) ∧ (A 14 i < 3 ∧ (A 14 i = 2 → A 15 i < A 0 0 ∧ A 15 i ≠ i ∧ A 14 (A 15 i) = 2 ∧ A 15 (A 15 i) = i) ∧ (A 14 i = 1 → A 16 i < A 0 1)) ∧
  (1 ≤ A 17 i ∧ A 17 i ≤ 7) ∧ (A 18 i < A 0 0 ∧ A 18 (A 18 i) = A 18 i ∧ A 10 (A 18 i) = A 10 i)
def HV (A : VW) : Prop :=
  (A 0 0 ≤ 12 ∧ A 0 1 ≤ 12 ∧ A 0 2 ≤ 20 ∧ A 0 3 ≤ 1) ∧ ((∀ j, j < 6 → A 1 j ≤ 9) ∧ (∀ j, j < 3 → A 2 j ≤ 63) ∧ ∀ j, j < 18 → A 3 j ≤ A 4 j ∧ A 4 j ≤ 12) ∧
  (∀ m, m < A 0 1 → wkV A m) ∧ ∀ i, i < A 0 0 → skV A i
def HR (S : SI) (p : Nat) (Z : Nat → Int32) (A : VW) : Prop := HV A ∧ HC S p A ∧ HM Z A
def imR (S U : SI) : Prop := (S 0 2 = 0 ∧ U 78 15 = 0) ∨ (S 0 2 = 1 ∧ U 78 15 = 1 ∧ ∃ B, HR S 21 (U 91) B)
def tpR (S U : SI) : Prop := ∃ t, t ≤ 80 ∧ S 41 1 = nI t ∧ U 78 2 = nI t ∧ ∀ j, j < t → S 42 j = U 80 j ∧ ∃ c, 32 ≤ c ∧ c ≤ 126 ∧ U 80 j = nI c
def shR (S U : SI) : Prop := ∀ k, k < 4 → (S (70 + 2 * k) 1 = U 92 k ∧ (U 92 k = -1 ∨ ∃ l, l < 3 ∧ U 92 k = nI l)) ∧ (∃ n, n ≤ 16 ∧ S (70 + 2 * k) 2 = nI n ∧ U 93 k = nI n) ∧ ∀ j, j < 16 → S (70 + 2 * k + 1) j = U 94 (16 * k + j)
/-- the marks that were found, kept by the class (a table closed once for all): filled in by part 13 -/
def mkQ (S : SI) (P : Nat → Int32 → (Nat → Int32) → Prop) : Prop := ∀ k, k < 20 → S 65 k = 0 ∨ P k (S 65 k) (fun i => S 66 (5 * k + i))
/-- the class's cells that matter between calls; the reference's -/
def liC (a k : Nat) : Prop := a ≤ 40 ∨ (a = 41 ∧ k = 1) ∨ a = 42 ∨ a = 65 ∨ a = 66 ∨ 69 ≤ a
def liM (a k : Nat) : Prop := (a = 78 ∧ (k = 2 ∨ k = 15)) ∨ a = 79 ∨ a = 80 ∨ a = 91 ∨ a = 92 ∨ a = 93 ∨ a = 94
def eqC (S S' : SI) : Prop := ∀ a k, liC a k → S' a k = S a k
def eqM (U U' : SI) : Prop := ∀ a k, liM a k → U' a k = U a k
theorem eqC.rf {S : SI} : eqC S S := fun _ _ _ => rfl
theorem eqM.rf {U : SI} : eqM U U := fun _ _ _ => rfl
theorem eqC.tr {S S1 S2 : SI} (h : eqC S S1) (h2 : eqC S1 S2) : eqC S S2 := fun a k hl => (h2 a k hl).trans (h a k hl)
theorem eqM.tr {S S1 S2 : SI} (h : eqM S S1) (h2 : eqM S1 S2) : eqM S S2 := fun a k hl => (h2 a k hl).trans (h a k hl)
theorem HC.cg {S S' : SI} {p : Nat} {A : VW} (h : HC S p A) (e : ∀ a k, p ≤ a → a < p + 20 → S' a k = S a k) (hn : A 0 0 ≤ 12) : HC S' p A := by
  obtain ⟨⟨h1, h2, h3, h4⟩, ⟨h5, h6, h7, h8⟩, h9, h10⟩ := h
  refine ⟨⟨?_, ?_, ?_, ?_⟩, ⟨fun j hj => ?_, fun j hj => ?_, fun j hj => ?_, fun j hj => ?_⟩, fun m hm => ⟨?_, ?_⟩, fun i hi => ?_⟩
  · rw [e _ _ (by omega) (by omega), h1]
  · rw [e _ _ (by omega) (by omega), h2]
  · rw [e _ _ (by omega) (by omega), h3]
  · rw [e _ _ (by omega) (by omega), h4]
  · rw [e _ _ (by omega) (by omega), h5 j hj]
  · rw [e _ _ (by omega) (by omega), h6 j hj]
  · rw [e _ _ (by omega) (by omega), h7 j hj]
  · rw [e _ _ (by omega) (by omega), h8 j hj]
  · rw [e _ _ (by omega) (by omega), (h9 m hm).1]
  · rw [e _ _ (by omega) (by omega), (h9 m hm).2]
  · have := h10 i hi
    rw [show S' (p + 8 + i) = S (p + 8 + i) from funext (fun k => e _ k (by omega) (by omega))]
    exact this
/-- what the two memories have in common, between calls -/
def RR (P : Nat → Int32 → (Nat → Int32) → Prop) (S U : SI) : Prop := (∃ A, HR S 1 (U 79) A) ∧ imR S U ∧ tpR S U ∧ shR S U ∧ mkQ S P
theorem RR.same {P : Nat → Int32 → (Nat → Int32) → Prop} {S S' U U' : SI} (h : RR P S U) (hc : eqC S S') (hm : eqM U U') : RR P S' U' := by
  obtain ⟨⟨A, hA⟩, hi, ht, hs, hk⟩ := h
  have z79 : U' 79 = U 79 := funext fun k => hm 79 k (by unfold liM; omega)
  have z91 : U' 91 = U 91 := funext fun k => hm 91 k (by unfold liM; omega)
  have z80 : U' 80 = U 80 := funext fun k => hm 80 k (by unfold liM; omega)
  have s42 : S' 42 = S 42 := funext fun k => hc 42 k (by unfold liC; omega)
  refine ⟨⟨A, hA.1, hA.2.1.cg (fun a k h1 h2 => hc a k (by unfold liC; omega)) hA.1.1.1, by rw [z79]; exact hA.2.2⟩, ?_, ?_, ?_, ?_⟩
  · rcases hi with ⟨h1, h2⟩ | ⟨h1, h2, B, hB⟩
    · exact Or.inl ⟨by rw [hc _ _ (by unfold liC; omega)]; exact h1, by rw [hm _ _ (by unfold liM; omega)]; exact h2⟩
    · exact Or.inr ⟨by rw [hc _ _ (by unfold liC; omega)]; exact h1, by rw [hm _ _ (by unfold liM; omega)]; exact h2, B, hB.1, hB.2.1.cg (fun a k h1 h2 => hc a k (by unfold liC; omega)) hB.1.1.1, by rw [z91]; exact hB.2.2⟩
  · obtain ⟨t, h1, h2, h3, h4⟩ := ht
    exact ⟨t, h1, by rw [hc _ _ (by unfold liC; omega)]; exact h2, by rw [hm _ _ (by unfold liM; omega)]; exact h3, by rw [s42, z80]; exact h4⟩
  · intro k hk4
    obtain ⟨⟨h1, h2⟩, ⟨n, h3, h4, h5⟩, h6⟩ := hs k hk4
    rw [hc (70 + 2 * k) 1 (by unfold liC; omega), hc (70 + 2 * k) 2 (by unfold liC; omega), hm 92 k (by unfold liM; omega), hm 93 k (by unfold liM; omega)]
    refine ⟨⟨h1, h2⟩, ⟨n, h3, h4, h5⟩, fun j hj => ?_⟩
    rw [hc _ _ (by unfold liC; omega), hm _ _ (by unfold liM; omega)]
    exact h6 j hj
  · intro k hk2
    rw [hc 65 k (by unfold liC; omega), show (fun i => S' 66 (5 * k + i)) = (fun i => S 66 (5 * k + i)) from funext fun i => hc _ _ (by unfold liC; omega)]
    exact hk k hk2
/-- the state itself has changed, nothing else -/
theorem RR.core {P : Nat → Int32 → (Nat → Int32) → Prop} {S S' U U' : SI} (h : RR P S U) {A : VW} (hA : HR S' 1 (U' 79) A) (hc : ∀ a k, liC a k → (a = 0 ∨ 21 ≤ a) → S' a k = S a k) (hm : ∀ a k, liM a k → a ≠ 79 → U' a k = U a k) : RR P S' U' := by
  obtain ⟨-, hi, ht, hs, hk⟩ := h
  have z91 : U' 91 = U 91 := funext fun k => hm 91 k (by unfold liM; omega) (by omega)
  have z80 : U' 80 = U 80 := funext fun k => hm 80 k (by unfold liM; omega) (by omega)
  have s42 : S' 42 = S 42 := funext fun k => hc 42 k (by unfold liC; omega) (by omega)
  refine ⟨⟨A, hA⟩, ?_, ?_, ?_, ?_⟩
  · rcases hi with ⟨h1, h2⟩ | ⟨h1, h2, B, hB⟩
    · exact Or.inl ⟨by rw [hc _ _ (by unfold liC; omega) (by omega)]; exact h1, by rw [hm _ _ (by unfold liM; omega) (by omega)]; exact h2⟩
    · exact Or.inr ⟨by rw [hc _ _ (by unfold liC; omega) (by omega)]; exact h1, by rw [hm _ _ (by unfold liM; omega) (by omega)]; exact h2, B, hB.1, hB.2.1.cg (fun a k h1 h2 => hc a k (by unfold liC; omega) (by omega)) hB.1.1.1, by rw [z91]; exact hB.2.2⟩
  · obtain ⟨t, h1, h2, h3, h4⟩ := ht
    exact ⟨t, h1, by rw [hc _ _ (by unfold liC; omega) (by omega)]; exact h2, by rw [hm _ _ (by unfold liM; omega) (by omega)]; exact h3, by rw [s42, z80]; exact h4⟩
  · intro k hk4
    obtain ⟨⟨h1, h2⟩, ⟨n, h3, h4, h5⟩, h6⟩ := hs k hk4
    rw [hc (70 + 2 * k) 1 (by unfold liC; omega) (by omega), hc (70 + 2 * k) 2 (by unfold liC; omega) (by omega), hm 92 k (by unfold liM; omega) (by omega), hm 93 k (by unfold liM; omega) (by omega)]
    refine ⟨⟨h1, h2⟩, ⟨n, h3, h4, h5⟩, fun j hj => ?_⟩
    rw [hc _ _ (by unfold liC; omega) (by omega), hm _ _ (by unfold liM; omega) (by omega)]
    exact h6 j hj
  · intro k hk2
    rw [hc 65 k (by unfold liC; omega) (by omega), show (fun i => S' 66 (5 * k + i)) = (fun i => S 66 (5 * k + i)) from funext fun i => hc _ _ (by unfold liC; omega) (by omega)]
    exact hk k hk2
