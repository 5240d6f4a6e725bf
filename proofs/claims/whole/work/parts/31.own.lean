/-- a deal of so many SOCKS to those who may have them -/
def dlN (s mk : Nat) (G : Nat → Nat) (c : Nat) : Nat := (if mk.testBit 2 = true then G c else 0) + (if mk.testBit 0 = true ∧ s ≤ c / 13 then G (c - 13 * s) else 0) + (if mk.testBit 1 = true ∧ s ≤ c % 13 then G (c - s) else 0)
def szN (A : VW) (g : Nat) : Nat := fb_ct (fun i => A 18 i == g) (A 0 0)
def owN (A : VW) (v2 : Int32) (lod g : Nat) : Nat → Nat
  | 0 => 7
  | i + 1 => owN A v2 lod g i &&& (if A 18 i = g then (if nI i = v2 then A 17 i &&& lod else A 17 i) else 7)
def grN (A : VW) (kd : Nat) (v2 : Int32) (lod : Nat) : Nat → Nat → Nat
  | 0 => fun c => if c = 0 then 1 else 0
  | g + 1 => if A 10 g = kd ∧ 0 < szN A g then dlN (szN A g) (owN A v2 lod g (A 0 0)) (grN A kd v2 lod g) else grN A kd v2 lod g
def dmN (A : VW) (kd g : Nat) : Nat := if A 10 g = kd then szN A g else 0
def ddN (A : VW) (kd g : Nat) : Nat := smN (dmN A kd) g
theorem ow_le (A : VW) (v2 : Int32) (lod g : Nat) : ∀ i, owN A v2 lod g i ≤ 7
  | 0 => Nat.le_refl _
  | i + 1 => by
    unfold owN
    exact Nat.le_trans Nat.and_le_left (ow_le A v2 lod g i)
theorem one_sum (x z : Nat) : ∀ k, smN (fun g => if x = g then z else 0) k = if x < k then z else 0
  | 0 => rfl
  | k + 1 => by
    unfold smN
    rw [one_sum x z k]
    by_cases h : x = k
    · rw [if_pos h, if_neg (by omega), if_pos (by omega)]; omega
    · rw [if_neg h]
      by_cases h2 : x < k
      · rw [if_pos h2, if_pos (by omega)]; omega
      · rw [if_neg h2, if_neg (by omega)]
theorem sz_sum (A : VW) (k : Nat) : ∀ m, smN (fun g => fb_ct (fun i => A 18 i == g) m) k ≤ m
  | 0 => by
    have : ∀ k, smN (fun g => fb_ct (fun i => A 18 i == g) 0) k = 0 := fun k => by
      induction k with
      | zero => rfl
      | succ k ih => unfold smN; rw [ih]; rfl
    rw [this]
    exact Nat.le_refl _
  | m + 1 => by
    have ih := sz_sum A k m
    have e : ∀ g, g < k → fb_ct (fun i => A 18 i == g) (m + 1) = fb_ct (fun i => A 18 i == g) m + (if A 18 m = g then 1 else 0) := fun g _ => by
      show fb_ct (fun i => A 18 i == g) m + (if (A 18 m == g) = true then 1 else 0) = _
      simp
    rw [smN_cg k e, smN_add, one_sum]
    split <;> omega
theorem sz_all (A : VW) (g : Nat) : smN (szN A) g ≤ A 0 0 := sz_sum A g (A 0 0)
theorem dd_le (A : VW) (kd g : Nat) : ddN A kd g ≤ A 0 0 := Nat.le_trans (smN_le g (fun i _ => by unfold dmN; split <;> omega)) (sz_all A g)
theorem dd_sum (A : VW) (k : Nat) : ∀ g, smN (fun kd => ddN A kd g) k ≤ smN (szN A) g
  | 0 => by
    have : ∀ k, smN (fun kd => ddN A kd 0) k = 0 := fun k => by
      induction k with
      | zero => rfl
      | succ k ih => unfold smN; rw [ih]; rfl
    rw [this]
    exact Nat.le_refl _
  | g + 1 => by
    have ih := dd_sum A k g
    have e : ∀ kd, kd < k → ddN A kd (g + 1) = ddN A kd g + (if A 10 g = kd then szN A g else 0) := fun kd _ => rfl
    rw [smN_cg k e, smN_add, one_sum]
    show _ ≤ smN (szN A) g + szN A g
    split <;> omega
theorem dl_supp {s mk d : Nat} {G : Nat → Nat} (h : ∀ c, c < 169 → d < c / 13 + c % 13 → G c = 0) : ∀ c, c < 169 → d + s < c / 13 + c % 13 → dlN s mk G c = 0 := by
  intro c hc hs
  unfold dlN
  rw [h c hc (by omega)]
  have e1 : mk.testBit 0 = true ∧ s ≤ c / 13 → G (c - 13 * s) = 0 := fun q => h _ (by omega) (by omega)
  have e2 : mk.testBit 1 = true ∧ s ≤ c % 13 → G (c - s) = 0 := fun q => h _ (by omega) (by omega)
  by_cases q1 : mk.testBit 0 = true ∧ s ≤ c / 13
  · rw [if_pos q1, e1 q1]
    by_cases q2 : mk.testBit 1 = true ∧ s ≤ c % 13
    · rw [if_pos q2, e2 q2]; split <;> rfl
    · rw [if_neg q2]; split <;> rfl
  · rw [if_neg q1]
    by_cases q2 : mk.testBit 1 = true ∧ s ≤ c % 13
    · rw [if_pos q2, e2 q2]; split <;> rfl
    · rw [if_neg q2]; split <;> rfl
theorem gr_supp (A : VW) (kd : Nat) (v2 : Int32) (lod : Nat) : ∀ g c, c < 169 → ddN A kd g < c / 13 + c % 13 → grN A kd v2 lod g c = 0
  | 0, c, hc, h => by
    show (if c = 0 then 1 else 0) = 0
    rw [if_neg]
    intro e
    subst e
    omega
  | g + 1, c, hc, h => by
    have ih := gr_supp A kd v2 lod g
    have e : ddN A kd (g + 1) = ddN A kd g + dmN A kd g := rfl
    unfold grN
    by_cases q : A 10 g = kd ∧ 0 < szN A g
    · rw [if_pos q]
      refine dl_supp (d := ddN A kd g) ih c hc ?_
      rw [e] at h
      unfold dmN at h
      rw [if_pos q.1] at h
      exact h
    · rw [if_neg q]
      exact ih c hc (by omega)
theorem dl_le {s mk M : Nat} {G : Nat → Nat} (h : ∀ c, c < 169 → G c ≤ M) : ∀ c, c < 169 → dlN s mk G c ≤ 3 * M := by
  intro c hc
  unfold dlN
  have h1 := h c hc
  have h2 := h (c - 13 * s) (by omega)
  have h3 := h (c - s) (by omega)
  split <;> split <;> split <;> omega
theorem gr_le (A : VW) (kd : Nat) (v2 : Int32) (lod : Nat) : ∀ g c, c < 169 → grN A kd v2 lod g c ≤ 3 ^ ddN A kd g
  | 0, c, hc => by
    show (if c = 0 then 1 else 0) ≤ 3 ^ 0
    split <;> omega
  | g + 1, c, hc => by
    have ih := gr_le A kd v2 lod g
    have e : ddN A kd (g + 1) = ddN A kd g + dmN A kd g := rfl
    unfold grN
    by_cases q : A 10 g = kd ∧ 0 < szN A g
    · rw [if_pos q]
      have h1 := dl_le (s := szN A g) (mk := owN A v2 lod g (A 0 0)) (M := 3 ^ ddN A kd g) ih c hc
      have h2 : 3 ^ (ddN A kd g + 1) ≤ 3 ^ ddN A kd (g + 1) := Nat.pow_le_pow_right (by omega) (by
        rw [e]
        unfold dmN
        rw [if_pos q.1]
        omega)
      rw [Nat.pow_succ] at h2
      omega
    · rw [if_neg q]
      exact Nat.le_trans (ih c hc) (Nat.pow_le_pow_right (by omega) (by omega))
/-- as told -/
def tolB (A : VW) (kd cnt c : Nat) : Bool := (decide (A 3 kd ≤ c / 13) && decide (c / 13 ≤ A 4 kd)) && ((decide (A 3 (6 + kd) ≤ c % 13) && decide (c % 13 ≤ A 4 (6 + kd))) && (decide (c / 13 + c % 13 ≤ cnt) && (decide (A 3 (12 + kd) ≤ cnt - c / 13 - c % 13) && decide (cnt - c / 13 - c % 13 ≤ A 4 (12 + kd)))))
def tsF (A : VW) (kd cnt : Nat) (G : Nat → Nat) (c : Nat) : Nat := if tolB A kd cnt c = true then G c else 0
def tsN (A : VW) (kd cnt : Nat) (G : Nat → Nat) : Nat := smN (tsF A kd cnt G) 169
theorem ts_0 {A : VW} {kd cnt : Nat} {G : Nat → Nat} {c : Nat} (h : cnt < c / 13 + c % 13) : tsF A kd cnt G c = 0 := by
  unfold tsF tolB
  rw [decide_eq_false (show ¬ c / 13 + c % 13 ≤ cnt by omega)]
  simp
theorem smN_mul (M : Nat) (g : Nat → Nat) : ∀ n, smN (fun i => M * g i) n = M * smN g n
  | 0 => rfl
  | n + 1 => by
    unfold smN
    rw [smN_mul M g n, Nat.mul_add]
theorem smN_z {f : Nat → Nat} {a : Nat} : ∀ d, (∀ i, a ≤ i → i < a + d → f i = 0) → smN f (a + d) = smN f a
  | 0, _ => rfl
  | d + 1, h => by
    show smN f (a + d) + f (a + d) = smN f a
    rw [smN_z d (fun i h1 h2 => h i h1 (by omega)), h (a + d) (by omega) (by omega), Nat.add_zero]
theorem c91 : smN (fun c => if c / 13 + c % 13 ≤ 12 then 1 else 0) 169 = 91 := by decide +kernel
theorem ts_le {A : VW} {kd cnt M : Nat} {G : Nat → Nat} (hc : cnt ≤ 12) (h : ∀ c, c < 169 → G c ≤ M) : tsN A kd cnt G ≤ 91 * M := by
  unfold tsN
  have e : smN (tsF A kd cnt G) 169 ≤ smN (fun c => M * (if c / 13 + c % 13 ≤ 12 then 1 else 0)) 169 := smN_le 169 (fun c hc2 => by
    by_cases q : c / 13 + c % 13 ≤ 12
    · rw [if_pos q, Nat.mul_one]
      unfold tsF
      split
      · exact h c hc2
      · exact Nat.zero_le _
    · rw [ts_0 (by omega)]
      exact Nat.zero_le _)
  rw [smN_mul, c91, Nat.mul_comm] at e
  exact e
/-- all WAYS of the first KINDS -/
def wyN (A : VW) (v2 : Int32) (lod : Nat) : Nat → Nat
  | 0 => 1
  | k + 1 => wyN A v2 lod k * tsN A k (ddN A k (A 0 0)) (grN A k v2 lod (A 0 0))
theorem wy_le {A : VW} (hn : A 0 0 ≤ 12) (v2 : Int32) (lod : Nat) : ∀ k, wyN A v2 lod k ≤ 91 ^ k * 3 ^ smN (fun kd => ddN A kd (A 0 0)) k
  | 0 => Nat.le_refl _
  | k + 1 => by
    have ih := wy_le hn v2 lod k
    have h1 : tsN A k (ddN A k (A 0 0)) (grN A k v2 lod (A 0 0)) ≤ 91 * 3 ^ ddN A k (A 0 0) := ts_le (Nat.le_trans (dd_le A k _) hn) (fun c hc => gr_le A k v2 lod _ c hc)
    have h2 := Nat.mul_le_mul ih h1
    have e : 91 ^ (k + 1) * 3 ^ smN (fun kd => ddN A kd (A 0 0)) (k + 1) = 91 ^ k * 3 ^ smN (fun kd => ddN A kd (A 0 0)) k * (91 * 3 ^ ddN A k (A 0 0)) := by
      show 91 ^ (k + 1) * 3 ^ (smN (fun kd => ddN A kd (A 0 0)) k + ddN A k (A 0 0)) = _
      rw [Nat.pow_succ, Nat.pow_add, Nat.mul_assoc, Nat.mul_assoc, Nat.mul_left_comm 91]
    rw [e]
    exact h2
theorem wy_lt {A : VW} (hn : A 0 0 ≤ 12) (v2 : Int32) (lod : Nat) {k : Nat} (hk : k ≤ 6) : wyN A v2 lod k < 2 ^ 62 := by
  have h1 := wy_le hn v2 lod k
  have h2 : smN (fun kd => ddN A kd (A 0 0)) k ≤ 12 := Nat.le_trans (Nat.le_trans (dd_sum A k _) (sz_all A _)) hn
  have h3 : 91 ^ k * 3 ^ smN (fun kd => ddN A kd (A 0 0)) k ≤ 91 ^ 6 * 3 ^ 12 := Nat.mul_le_mul (Nat.pow_le_pow_right (by omega) hk) (Nat.pow_le_pow_right (by omega) h2)
  have h4 : 91 ^ 6 * 3 ^ 12 < 2 ^ 62 := by decide
  omega
theorem wy_z {A : VW} {v2 : Int32} {lod k : Nat} (h : wyN A v2 lod k = 0) : ∀ j, k ≤ j → wyN A v2 lod j = 0 := by
  intro j
  induction j with
  | zero => intro hj; rw [show k = 0 by omega] at h; exact h
  | succ j ih =>
    intro hj
    by_cases e : k = j + 1
    · rw [← e]; exact h
    · show wyN A v2 lod j * _ = 0
      rw [ih (by omega), Nat.zero_mul]
