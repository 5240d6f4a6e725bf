/-- a set without one -/
def rmN (X i : Nat) : Nat := X &&& (2 ^ i ^^^ 4294967295)
theorem rm_bit {X i : Nat} (hX : X < 4096) (hi : i < 12) (j : Nat) : (rmN X i).testBit j = (X.testBit j && decide (j ≠ i)) := by
  unfold rmN
  rw [Nat.testBit_and, Nat.testBit_xor, Nat.testBit_two_pow, show (4294967295 : Nat) = 2 ^ 32 - 1 from rfl, Nat.testBit_two_pow_sub_one]
  by_cases hj : j < 32
  · by_cases e : j = i
    · subst e; simp [hj]
    · simp [hj, e, show ¬ i = j by omega]
  · have : X.testBit j = false := Nat.testBit_lt_two_pow (Nat.lt_of_lt_of_le hX (Nat.pow_le_pow_right (by omega : 2 > 0) (by omega : 12 ≤ j)))
    simp [this]
theorem rm_le (X i : Nat) : rmN X i ≤ X := Nat.and_le_left
theorem rm_I {X i : Nat} (hi : i < 12) : nI X &&& (((1 : Int32) <<< (nI i &&& 31)) ^^^ (-1 : Int32)) = nI (rmN X i) := by
  rw [shl1 (by omega), not_set, nx_and]
  rfl
theorem rm_same {X i : Nat} (hX : X < 4096) (hi : i < 12) (h : X.testBit i = false) : rmN X i = X := by
  apply Nat.eq_of_testBit_eq
  intro j
  rw [rm_bit hX hi]
  by_cases e : j = i
  · subst e; simp [h]
  · simp [e]
theorem rm_ne {X i : Nat} (hX : X < 4096) (hi : i < 12) (h : X.testBit i = true) : rmN X i ≠ X := fun e => by
  have := rm_bit hX hi i
  rw [e, h] at this
  simp at this
theorem ct_rm {p q : Nat → Bool} {i : Nat} (hp : p i = true) (hq : q i = false) (he : ∀ j, j ≠ i → q j = p j) : ∀ n, i < n → fb_ct q n + 1 = fb_ct p n
  | 0, h => by omega
  | n + 1, h => by
    show fb_ct q n + (if q n = true then 1 else 0) + 1 = fb_ct p n + (if p n = true then 1 else 0)
    by_cases e : i = n
    · subst e
      rw [hp, hq, fb_ct_cong (p := q) (q := p) (n := i) (fun j hj => he j (by omega))]
      simp
    · have := ct_rm hp hq he n (by omega)
      rw [he n (by omega)]
      omega
theorem pop_rm {X i : Nat} (hX : X < 4096) (hi : i < 12) (h : X.testBit i = true) : pop (rmN X i) + 1 = pop X := by
  unfold pop
  exact ct_rm (p := fun j => X.testBit j) (q := fun j => (rmN X i).testBit j) h (by show (rmN X i).testBit i = false; rw [rm_bit hX hi]; simp) (fun j hj => by show (rmN X i).testBit j = X.testBit j; rw [rm_bit hX hi]; simp [hj]) 12 hi
/-- the greatest of some -/
def mlN (h : Nat → Nat) (b : Nat → Bool) : Nat → Nat → Nat → Nat
  | 0, _, v => v
  | d + 1, k, v => mlN h b d (k + 1) (if b k = true then max v (h k) else v)
/-- the most that can be gained; r SOCKS are still to be looked at -/
def bsG (g : Nat → Nat → Nat) (n : Nat) : Nat → Nat → Nat
  | 0, _ => 0
  | r + 1, X => if X.testBit (n - (r + 1)) = true then mlN (fun j => g (n - (r + 1)) j + bsG g n r (rmN (rmN X (n - (r + 1))) j)) (fun j => decide (0 < g (n - (r + 1)) j) && X.testBit j) r (n - (r + 1) + 1) (bsG g n r (rmN X (n - (r + 1)))) else bsG g n r X
theorem bsG_s (g : Nat → Nat → Nat) (n r X : Nat) : bsG g n (r + 1) X = if X.testBit (n - (r + 1)) = true then mlN (fun j => g (n - (r + 1)) j + bsG g n r (rmN (rmN X (n - (r + 1))) j)) (fun j => decide (0 < g (n - (r + 1)) j) && X.testBit j) r (n - (r + 1) + 1) (bsG g n r (rmN X (n - (r + 1)))) else bsG g n r X := id rfl
theorem ml_cg {h h' : Nat → Nat} {b b' : Nat → Bool} : ∀ (d k v : Nat), (∀ j, k ≤ j → j < k + d → b j = b' j ∧ (b' j = true → h j = h' j)) → mlN h b d k v = mlN h' b' d k v
  | 0, _, _, _ => rfl
  | d + 1, k, v, e => by
    obtain ⟨e1, e2⟩ := e k (by omega) (by omega)
    unfold mlN
    rw [e1]
    by_cases c : b' k = true
    · rw [if_pos c, if_pos c, e2 c]
      exact ml_cg d (k + 1) _ (fun j h1 h2 => e j (by omega) (by omega))
    · rw [if_neg c, if_neg c]
      exact ml_cg d (k + 1) _ (fun j h1 h2 => e j (by omega) (by omega))
/-- nothing below -/
def noB (X s : Nat) : Prop := ∀ j, j < s → X.testBit j = false
theorem bs_skip (g : Nat → Nat → Nat) {n X : Nat} : ∀ (d r : Nat), r + d ≤ n → noB X (n - r) → bsG g n (r + d) X = bsG g n r X
  | 0, _, _, _ => rfl
  | d + 1, r, h, hX => by
    rw [show r + (d + 1) = (r + d) + 1 from rfl, bsG_s, hX _ (by omega), if_neg (by simp)]
    exact bs_skip g d r (by omega) hX
theorem bs_all (g : Nat → Nat → Nat) {n X r : Nat} (hr : r ≤ n) (hX : noB X (n - r)) : bsG g n r X = bsG g n n X := by
  have := bs_skip g (n - r) r (by omega) hX
  rw [show r + (n - r) = n by omega] at this
  exact this.symm
theorem noB_rm {X i s : Nat} (hX : X < 4096) (hi : i < 12) (h : noB X s) : noB (rmN X i) s := fun j hj => by
  rw [rm_bit hX hi, h j hj]
  rfl
theorem noB_low {X i : Nat} (hX : X < 4096) (hi : i < 12) (h : noB X i) : noB (rmN X i) (i + 1) := fun j hj => by
  rw [rm_bit hX hi]
  by_cases e : j = i
  · simp [e]
  · rw [h j (by omega)]; rfl
/-- at the lowest -/
theorem bs_low (g : Nat → Nat → Nat) {n X i : Nat} (hn : n ≤ 12) (hX : X < 4096) (hi : i < n) (hb : X.testBit i = true) (hl : noB X i) : bsG g n n X = mlN (fun j => g i j + bsG g n n (rmN (rmN X i) j)) (fun j => decide (0 < g i j) && X.testBit j) (n - (i + 1)) (i + 1) (bsG g n n (rmN X i)) := by
  have e : bsG g n n X = bsG g n ((n - (i + 1)) + 1) X := (bs_all g (r := (n - (i + 1)) + 1) (by omega) (by rw [show n - (n - (i + 1) + 1) = i by omega]; exact hl)).symm
  have hlow := noB_low hX (show i < 12 by omega) hl
  have hX2 : rmN X i < 4096 := Nat.lt_of_le_of_lt (rm_le _ _) hX
  rw [e, bsG_s, show n - (n - (i + 1) + 1) = i by omega, if_pos hb, bs_all g (r := n - (i + 1)) (X := rmN X i) (by omega) (by rw [show n - (n - (i + 1)) = i + 1 by omega]; exact hlow)]
  exact ml_cg _ _ _ (fun j h1 h2 => ⟨rfl, fun _ => by rw [bs_all g (r := n - (i + 1)) (X := rmN (rmN X i) j) (by omega) (by rw [show n - (n - (i + 1)) = i + 1 by omega]; exact noB_rm hX2 (by omega) hlow)]⟩)
/-- the same by greater weights -/
def fiN (v : Nat) : Nat := v + 8000 * ((v + 1999) / 2000)
theorem fi_lt {a b : Nat} : fiN a < fiN b ↔ a < b := by
  unfold fiN
  omega
theorem fi_max (a b : Nat) : fiN (max a b) = max (fiN a) (fiN b) := by
  have h1 := fi_lt (a := a) (b := b)
  have h2 := fi_lt (a := b) (b := a)
  by_cases c : a ≤ b
  · rw [Nat.max_eq_right c, Nat.max_eq_right (by omega)]
  · rw [Nat.max_eq_left (by omega), Nat.max_eq_left (by omega)]
theorem fi_inj {a b : Nat} : fiN a = fiN b ↔ a = b := by
  unfold fiN
  omega
/-- how a gain is made up -/
def okV (v k : Nat) : Prop := ∃ p D, v + D = 2000 * p ∧ D ≤ 198 * p ∧ 2 * p ≤ k
theorem okV.mono {v k k' : Nat} (h : okV v k) (hk : k ≤ k') : okV v k' := by
  obtain ⟨p, D, h1, h2, h3⟩ := h
  exact ⟨p, D, h1, h2, by omega⟩
theorem fi_add {v k d : Nat} (h : okV v k) (hk : k ≤ 12) (hd : d ≤ 198) : fiN (2000 - d + v) = 10000 - d + fiN v := by
  obtain ⟨p, D, h1, h2, h3⟩ := h
  unfold fiN
  omega
theorem okV_add {v k d : Nat} (h : okV v k) (hd : d ≤ 198) : okV (2000 - d + v) (k + 2) := by
  obtain ⟨p, D, h1, h2, h3⟩ := h
  exact ⟨p + 1, D + d, by omega, by omega, by omega⟩
theorem okV_max {a b k : Nat} (ha : okV a k) (hb : okV b k) : okV (max a b) k := by
  by_cases c : a ≤ b
  · rw [Nat.max_eq_right c]; exact hb
  · rw [Nat.max_eq_left (by omega)]; exact ha
/-- which two of the box go together, and at what distance -/
def dsN (A : VW) (i j : Nat) : Nat := (((A 12 i : Int) + A 13 i) - (A 12 j + A 13 j)).natAbs
def fitB (A : VW) (i j : Nat) : Bool := ((A 14 i == 0) && (A 14 j == 0)) && brN A i j == 0
def g2N (A : VW) (i j : Nat) : Nat := if fitB A i j = true then 2000 - dsN A i j else 0
def g10 (A : VW) (i j : Nat) : Nat := if fitB A i j = true then 10000 - dsN A i j else 0
theorem ds_le {A : VW} (hV : HV A) {i j : Nat} (hi : i < A 0 0) (hj : j < A 0 0) : dsN A i j ≤ 198 := by
  have v1 := (hV.2.2.2 i hi).1
  have v2 := (hV.2.2.2 j hj).1
  unfold dsN
  omega
theorem ml_fi {A : VW} {h h' : Nat → Nat} {b b' : Nat → Bool} {m : Nat} : ∀ (d k v : Nat), okV v m → (∀ j, k ≤ j → j < k + d → b' j = b j ∧ (b j = true → h' j = fiN (h j) ∧ okV (h j) m)) → mlN h' b' d k (fiN v) = fiN (mlN h b d k v) ∧ okV (mlN h b d k v) m
  | 0, _, _, hv, _ => ⟨rfl, hv⟩
  | d + 1, k, v, hv, e => by
    obtain ⟨e1, e2⟩ := e k (by omega) (by omega)
    unfold mlN
    rw [e1]
    by_cases c : b k = true
    · obtain ⟨e3, e4⟩ := e2 c
      rw [if_pos c, if_pos c, e3, ← fi_max]
      exact ml_fi (A := A) d (k + 1) _ (okV_max hv e4) (fun j h1 h2 => e j (by omega) (by omega))
    · rw [if_neg c, if_neg c]
      exact ml_fi (A := A) d (k + 1) _ hv (fun j h1 h2 => e j (by omega) (by omega))
theorem bs_fi {A : VW} (hV : HV A) : ∀ (r X : Nat), r ≤ A 0 0 → X < 4096 → bsG (g10 A) (A 0 0) r X = fiN (bsG (g2N A) (A 0 0) r X) ∧ okV (bsG (g2N A) (A 0 0) r X) (pop X)
  | 0, X, _, _ => ⟨(by show 0 = fiN 0; decide), 0, 0, rfl, Nat.le_refl _, Nat.zero_le _⟩
  | r + 1, X, hr, hX => by
    have hn := hV.1.1
    generalize hi : A 0 0 - (r + 1) = i
    rw [bsG_s, bsG_s, hi]
    have hi12 : i < 12 := by omega
    cases hb : X.testBit i with
    | false =>
      rw [if_neg (by simp), if_neg (by simp)]
      exact bs_fi hV r X (by omega) hX
    | true =>
      rw [if_pos rfl, if_pos rfl]
      have hX2 : rmN X i < 4096 := Nat.lt_of_le_of_lt (rm_le _ _) hX
      have hp := pop_rm hX hi12 hb
      obtain ⟨a1, a2⟩ := bs_fi hV r (rmN X i) (by omega) hX2
      rw [a1]
      refine ml_fi (A := A) r (i + 1) _ (a2.mono (by omega)) (fun j h1 h2 => ?_)
      have hj : j < A 0 0 := by omega
      have hd := ds_le hV (show i < A 0 0 by omega) hj
      have hX3 : rmN (rmN X i) j < 4096 := Nat.lt_of_le_of_lt (rm_le _ _) hX2
      obtain ⟨b1, b2⟩ := bs_fi hV r (rmN (rmN X i) j) (by omega) hX3
      cases hf : fitB A i j with
      | false =>
        have z1 : g2N A i j = 0 := by unfold g2N; rw [hf]; rfl
        have z2 : g10 A i j = 0 := by unfold g10; rw [hf]; rfl
        rw [z1, z2]
        exact ⟨rfl, fun z => by simp at z⟩
      | true =>
        have z1 : g2N A i j = 2000 - dsN A i j := by unfold g2N; rw [hf]; rfl
        have z2 : g10 A i j = 10000 - dsN A i j := by unfold g10; rw [hf]; rfl
        rw [z1, z2]
        refine ⟨by rw [decide_eq_true (by omega), decide_eq_true (by omega)], fun z => ?_⟩
        rw [decide_eq_true (by omega), Bool.true_and] at z
        have hzj : (rmN X i).testBit j = true := by rw [rm_bit hX hi12, z]; simp; omega
        have hp2 := pop_rm hX2 (show j < 12 by omega) hzj
        have hpl := pop_le (rmN (rmN X i) j)
        rw [b1, fi_add b2 hpl hd]
        exact ⟨rfl, (okV_add b2 hd).mono (by omega)⟩
def bsN (A : VW) (X : Nat) : Nat := bsG (g2N A) (A 0 0) (A 0 0) X
def bs10 (A : VW) (X : Nat) : Nat := bsG (g10 A) (A 0 0) (A 0 0) X
theorem bs_10 {A : VW} (hV : HV A) {X : Nat} (hX : X < 4096) : bs10 A X = fiN (bsN A X) := (bs_fi hV _ X (Nat.le_refl _) hX).1
theorem bs_ok {A : VW} (hV : HV A) {X : Nat} (hX : X < 4096) : okV (bsN A X) (pop X) := (bs_fi hV _ X (Nat.le_refl _) hX).2
theorem bs_le {A : VW} (hV : HV A) {X : Nat} (hX : X < 4096) : bsN A X ≤ 12000 := by
  obtain ⟨p, D, h1, h2, h3⟩ := bs_ok hV hX
  have := pop_le X
  omega
/-- whether i and j may go together here with nothing lost -/
def chB (A : VW) (X i j : Nat) : Bool := (fitB A i j && X.testBit j) && (g2N A i j + bsN A (rmN (rmN X i) j) == bsN A X)
theorem ch_10 {A : VW} (hV : HV A) {X i j : Nat} (hX : X < 4096) (hi : i < A 0 0) (hj : j < A 0 0) (hij : i ≠ j) (hbi : X.testBit i = true) (hf : fitB A i j = true) (hbj : X.testBit j = true) : (g10 A i j + bs10 A (rmN (rmN X i) j) = bs10 A X) ↔ (g2N A i j + bsN A (rmN (rmN X i) j) = bsN A X) := by
  have hn := hV.1.1
  have hd := ds_le hV hi hj
  have hX2 : rmN X i < 4096 := Nat.lt_of_le_of_lt (rm_le _ _) hX
  have hX3 : rmN (rmN X i) j < 4096 := Nat.lt_of_le_of_lt (rm_le _ _) hX2
  rw [bs_10 hV hX, bs_10 hV hX3]
  unfold g10 g2N
  rw [if_pos hf, if_pos hf, ← fi_add (bs_ok hV hX3) (pop_le _) hd]
  exact fi_inj
/-- the first that will do -/
def fsN (b : Nat → Bool) : Nat → Nat → Option Nat
  | 0, _ => none
  | d + 1, k => if b k = true then some k else fsN b d (k + 1)
theorem fs_some {b : Nat → Bool} : ∀ {d k j : Nat}, fsN b d k = some j → k ≤ j ∧ j < k + d ∧ b j = true
  | 0, _, _, h => by cases h
  | d + 1, k, j, h => by
    unfold fsN at h
    by_cases c : b k = true
    · rw [if_pos c] at h
      cases h
      exact ⟨Nat.le_refl _, by omega, c⟩
    · rw [if_neg c] at h
      have := fs_some h
      exact ⟨by omega, by omega, this.2.2⟩
/-- whom the lowest takes -/
def chN2 (A : VW) (X i : Nat) : Option Nat := fsN (chB A X i) (A 0 0 - (i + 1)) (i + 1)
def upF (f : Nat → Int32) (k : Nat) (v : Int32) : Nat → Int32 := fun j => if j = k then v else f j
/-- who goes with whom -/
def ptN (A : VW) : Nat → Nat → (Nat → Int32) → Nat → Int32
  | 0, _, f => f
  | r + 1, X, f => if X.testBit (A 0 0 - (r + 1)) = true then (match chN2 A X (A 0 0 - (r + 1)) with
      | none => ptN A r (rmN X (A 0 0 - (r + 1))) f
      | some j => ptN A r (rmN (rmN X (A 0 0 - (r + 1))) j) (upF (upF f (A 0 0 - (r + 1)) (nI j)) j (nI (A 0 0 - (r + 1))))) else ptN A r X f
