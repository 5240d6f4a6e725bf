/-- how many of a KIND and a hand lie in the box -/
def bxN (A : VW) (k h : Nat) : Nat := fb_ct (fun i => A 14 i == 0 && (A 10 i == k && A 11 i == h)) (A 0 0)
def bkN (A : VW) (k : Nat) : Nat := fb_ct (fun i => A 14 i == 0 && A 10 i == k) (A 0 0)
def boN (A : VW) : Nat := fb_ct (fun i => A 14 i == 0) (A 0 0)
theorem bk_two {A : VW} (hV : HV A) (k : Nat) : bkN A k = bxN A k 0 + bxN A k 1 := by
  unfold bkN bxN
  rw [← fb_ct_or (fun i hi => by
    by_cases h : A 11 i = 0
    · simp [h]
    · simp [h])]
  apply fb_ct_cong
  intro i hi
  have := (hV.2.2.2 i hi).1.2.1
  have : A 11 i = 0 ∨ A 11 i = 1 := by omega
  rcases this with h | h <;> rw [h] <;> cases (A 14 i == 0) <;> cases (A 10 i == k) <;> rfl
theorem bk_sum (A : VW) : ∀ n, (∀ i, i < n → A 10 i < 6) → smN (fun k => fb_ct (fun i => A 14 i == 0 && A 10 i == k) n) 6 = fb_ct (fun i => A 14 i == 0) n
  | 0, _ => rfl
  | n + 1, h => by
    have ih := bk_sum A n (fun i hi => h i (by omega))
    have hk := h n (by omega)
    have e : ∀ k, fb_ct (fun i => A 14 i == 0 && A 10 i == k) (n + 1) = fb_ct (fun i => A 14 i == 0 && A 10 i == k) n + (if (A 14 n == 0 && A 10 n == k) = true then 1 else 0) := fun k => rfl
    have e2 : fb_ct (fun i => A 14 i == 0) (n + 1) = fb_ct (fun i => A 14 i == 0) n + (if (A 14 n == 0) = true then 1 else 0) := rfl
    rw [e2, ← ih, smN_cg 6 (fun k _ => e k), smN_add]
    congr 1
    cases (A 14 n == 0) with
    | false => simp [smN]
    | true =>
      have : A 10 n = 0 ∨ A 10 n = 1 ∨ A 10 n = 2 ∨ A 10 n = 3 ∨ A 10 n = 4 ∨ A 10 n = 5 := by omega
      rcases this with h | h | h | h | h | h <;> rw [h] <;> rfl
/-- of how many KINDS' boxes there are so many -/
def nkN (A : VW) (k : Nat) : Nat := smN (bkN A) k
theorem nk_6 {A : VW} (hV : HV A) : nkN A 6 = boN A := bk_sum A (A 0 0) (fun i hi => (hV.2.2.2 i hi).1.1)
theorem smN_mono (f : Nat → Nat) {a b : Nat} (h : a ≤ b) : smN f a ≤ smN f b := by
  induction b with
  | zero => rw [show a = 0 by omega]; exact Nat.le_refl _
  | succ b ih =>
    by_cases e : a = b + 1
    · rw [e]; exact Nat.le_refl _
    · have := ih (by omega)
      show smN f a ≤ smN f b + f b
      omega
theorem nk_le {A : VW} (hV : HV A) {k : Nat} (h : k ≤ 6) : nkN A k ≤ boN A := by
  rw [← nk_6 hV]
  exact smN_mono _ h
theorem bo_le {A : VW} (hV : HV A) : boN A ≤ 12 := Nat.le_trans (fb_ct_le _ _) hV.1.1
/-- sets of one KIND without a pair -/
def spN (A : VW) (k j : Nat) : Nat := if j = 0 then 1 else if A 0 3 = 1 then chN (bxN A k 0) j + chN (bxN A k 1) j else if j = 1 then bxN A k 0 + bxN A k 1 else 0
def coN (u p : Nat → Nat) (d : Nat) : Nat := smN (fun j => p (d - j) * u j) (d + 1)
def pkN (A : VW) : Nat → Nat → Nat
  | 0 => fun d => if d = 0 then 1 else 0
  | k + 1 => coN (spN A k) (pkN A k)
theorem ch_1 : ∀ a, chN a 1 = a
  | 0 => rfl
  | a + 1 => by
    unfold chN
    rw [ch_1 a]
    have : chN a 0 = 1 := by cases a <;> rfl
    rw [this]
    omega
theorem ch_z (a : Nat) : chN a 0 = 1 := by cases a <;> rfl
theorem u_le {A : VW} (hV : HV A) {k j : Nat} (hk : k < 6) (hj : j ≤ 12) : spN A k j ≤ chN (bkN A k) j := by
  have hb : bkN A k ≤ 12 := Nat.le_trans (fb_ct_le _ _) hV.1.1
  have h2 := bk_two hV k
  unfold spN
  by_cases h0 : j = 0
  · rw [if_pos h0, h0, ch_z]
    exact Nat.le_refl _
  · rw [if_neg h0]
    split
    · rw [h2]
      exact two_le (by omega) hj h0
    · split
      · rename_i h1
        rw [h1, ch_1, h2]
        exact Nat.le_refl _
      · exact Nat.zero_le _
theorem pkn_le {A : VW} (hV : HV A) : ∀ (k : Nat), k ≤ 6 → ∀ d, d ≤ 12 → pkN A k d ≤ chN (nkN A k) d := by
  intro k
  induction k with
  | zero =>
    intro _ d _
    show (if d = 0 then 1 else 0) ≤ chN 0 d
    by_cases h : d = 0
    · subst h; exact Nat.le_refl _
    · rw [if_neg h]; exact Nat.zero_le _
  | succ k ih =>
    intro hk d hd
    have hn : nkN A (k + 1) = nkN A k + bkN A k := rfl
    have hle := nk_le hV hk
    have hb := bo_le hV
    rw [hn, ← vd_eq (a := nkN A k) (b := bkN A k) (by omega) hd]
    exact smN_le _ (fun j hj => Nat.mul_le_mul (ih (by omega) _ (by omega)) (u_le hV (by omega) (by omega)))
/-- the longest set without a pair, of one KIND -/
def mkN (A : VW) (k : Nat) : Nat := if A 0 3 = 1 then max (bxN A k 0) (bxN A k 1) else if bkN A k = 0 then 0 else 1
theorem bx_le {A : VW} (hV : HV A) (k h : Nat) : bxN A k h ≤ 12 := Nat.le_trans (fb_ct_le _ _) hV.1.1
theorem bk_le {A : VW} (hV : HV A) (k : Nat) : bkN A k ≤ 12 := Nat.le_trans (fb_ct_le _ _) hV.1.1
theorem u_pos {A : VW} (hV : HV A) {k j : Nat} (hj : j ≤ 12) : 0 < spN A k j ↔ j ≤ mkN A k := by
  have h2 := bk_two hV k
  have b0 := bx_le hV k 0
  have b1 := bx_le hV k 1
  unfold spN mkN
  by_cases h0 : j = 0
  · rw [if_pos h0, h0]
    exact ⟨fun _ => Nat.zero_le _, fun _ => by omega⟩
  · rw [if_neg h0]
    split
    · constructor
      · intro h
        by_cases c : bxN A k 0 < j
        · by_cases c2 : bxN A k 1 < j
          · rw [ch_0 _ _ c, ch_0 _ _ c2] at h
            omega
          · omega
        · omega
      · intro h
        by_cases c : j ≤ bxN A k 0
        · have := (ch_le b0 hj).2 c
          omega
        · have := (ch_le b1 hj).2 (by omega)
          omega
    · split
      · split <;> omega
      · split <;> omega
theorem pkn_pos {A : VW} (hV : HV A) : ∀ (k : Nat) (d : Nat), d ≤ 12 → (0 < pkN A k d ↔ d ≤ smN (mkN A) k) := by
  intro k
  induction k with
  | zero =>
    intro d _
    show 0 < (if d = 0 then 1 else 0) ↔ d ≤ 0
    split <;> omega
  | succ k ih =>
    intro d hd
    show 0 < smN (fun j => pkN A k (d - j) * spN A k j) (d + 1) ↔ d ≤ smN (mkN A) k + mkN A k
    rw [smN_pos]
    constructor
    · intro ⟨j, hj, hp⟩
      have h1 : 0 < pkN A k (d - j) := Nat.pos_of_ne_zero (fun e => by rw [e, Nat.zero_mul] at hp; omega)
      have h2 : 0 < spN A k j := Nat.pos_of_ne_zero (fun e => by rw [e, Nat.mul_zero] at hp; omega)
      have h3 := (ih (d - j) (by omega)).mp h1
      have h4 := (u_pos hV (by omega)).mp h2
      omega
    · intro h
      refine ⟨min d (mkN A k), by omega, Nat.mul_pos ((ih _ (by omega)).mpr (by omega)) ((u_pos hV (by omega)).mpr (by omega))⟩
theorem mk_le {A : VW} (hV : HV A) (k : Nat) : mkN A k ≤ bkN A k := by
  have h2 := bk_two hV k
  unfold mkN
  split
  · omega
  · split <;> omega
theorem mk_sum {A : VW} (hV : HV A) : smN (mkN A) 6 ≤ boN A := by
  rw [← nk_6 hV]
  exact smN_le 6 (fun k _ => mk_le hV k)
/-- the reference's count -/
theorem box_l {U : SI} {A : VW} (hV : HV A) (hM : HM (U 79) A) {kd : Nat} (hkd : kd < 6) (v : Int32) (p : Nat → Bool) (hp : ∀ i, i < A 0 0 → p i = (A 14 i == 0 && (A 10 i == kd && (decide (v < 0) || decide (nI (A 11 i) = v))))) : ∀ (d m k : Nat), k + d = A 0 0 → d < m → f_X10_boxOf_5 U (nI kd) v m (nI (fb_ct p k)) (nI k) = some (nI (fb_ct p (A 0 0))) := by
  intro d
  have hn := hV.1.1
  induction d with
  | zero =>
    intro m k hk hm
    obtain ⟨q, rfl⟩ : ∃ q, m = q + 1 := ⟨m - 1, by omega⟩
    rw [f_X10_boxOf_5, show inB (0 : Int32) 205 = true from rfl, gd_t, show ix (0 : Int32) = 0 from rfl, hM.1.1, if_pos (nI_le (by omega) (by omega)), show k = A 0 0 by omega]
  | succ d ih =>
    intro m k hk hm
    obtain ⟨q, rfl⟩ : ∃ q, m = q + 1 := ⟨m - 1, by omega⟩
    have hkn : k < A 0 0 := by omega
    have hv := hV.2.2.2 k hkn
    have hb : A 14 k < 3 := hv.2.1.1
    have hb1 : A 11 k < 2 := hv.1.2.1
    have hb0 : A 10 k < 6 := hv.1.1
    have g4 : U 79 (13 + 10 * k + 4) = nI (A 14 k) := (hM.2.2.2 k hkn).2.2.2.2.1
    have g1 : U 79 (13 + 10 * k + 1) = nI (A 11 k) := (hM.2.2.2 k hkn).2.1
    have g0 : U 79 (13 + 10 * k + 0) = nI (A 10 k) := (hM.2.2.2 k hkn).1
    rw [f_X10_boxOf_5, show inB (0 : Int32) 205 = true from rfl, gd_t, show ix (0 : Int32) = 0 from rfl, hM.1.1, if_neg (nI_ge (by omega) (by omega))]
    unfold f_X10_boxOf_58
    simp only [of0 (show k < 12 by omega), of1 (show k < 12 by omega), of4 (show k < 12 by omega), sb, g0, g1, g4, nm_eq]
    simp only [nI_1, show ∀ x : Nat, nI x + (0 : Int32) = nI x from fun x => nI_add x 0]
    simp only [show (nI (A 10 k) = nI kd) = (A 10 k = kd) from propext (nI_eq (by omega) (by omega)), show (nI (A 14 k) = (0 : Int32)) = (A 14 k = 0) from propext (nI_eq (b := 0) (by omega) (by omega))]
    have e1 : fb_ct p (k + 1) = fb_ct p k + (if p k = true then 1 else 0) := rfl
    have hh := ih q (k + 1) (by omega) (by omega)
    rw [e1, hp k hkn] at hh
    by_cases c0 : A 14 k = 0 <;> by_cases c1 : A 10 k = kd <;> by_cases c2 : v < 0 <;> by_cases c3 : nI (A 11 k) = v <;> simp [c0, c1, c2, c3] at hh ⊢ <;> exact hh
theorem box_h {U : SI} {A : VW} (hV : HV A) (hM : HM (U 79) A) {kd h : Nat} (hkd : kd < 6) (hh : h < 2) : f_X10_boxOf U (nI kd) (nI h) = some (nI (bxN A kd h)) := by
  have hF := fu_big
  have hn := hV.1.1
  have := box_l hV hM hkd (nI h) (fun i => A 14 i == 0 && (A 10 i == kd && A 11 i == h)) (fun i hi => by
    have hb1 : A 11 i < 2 := (hV.2.2.2 i hi).1.2.1
    rw [decide_eq_false (show ¬ nI h < (0 : Int32) from nI_pos (by omega)), Bool.false_or]
    congr 2
    simp only [nI_eq (show A 11 i < 2 ^ 31 by omega) (show h < 2 ^ 31 by omega)]
    by_cases e : A 11 i = h <;> simp [e]) (A 0 0) fu 0 (by omega) (by omega)
  unfold f_X10_boxOf
  rw [show (0 : Int32) = nI 0 from rfl]
  exact this
theorem box_k {U : SI} {A : VW} (hV : HV A) (hM : HM (U 79) A) {kd : Nat} (hkd : kd < 6) : f_X10_boxOf U (nI kd) (-4) = some (nI (bkN A kd)) := by
  have hF := fu_big
  have hn := hV.1.1
  have := box_l hV hM hkd (-4) (fun i => A 14 i == 0 && A 10 i == kd) (fun i hi => by
    rw [decide_eq_true (show (-4 : Int32) < 0 by decide), Bool.true_or, Bool.and_true]) (A 0 0) fu 0 (by omega) (by omega)
  unfold f_X10_boxOf
  rw [show (0 : Int32) = nI 0 from rfl]
  exact this
theorem mx_nI {a b : Nat} (ha : a < 2 ^ 31) (hb : b < 2 ^ 31) : mxI (nI a) (nI b) = nI (max a b) := by
  unfold mxI
  by_cases h : a < b
  · rw [if_pos (nI_lt h hb), Nat.max_eq_right (by omega)]
  · rw [if_neg (by rw [nI_ltI ha hb]; exact h), Nat.max_eq_left (by omega)]
theorem worM_l {U : SI} {A : VW} (hV : HV A) (hM : HM (U 79) A) (ke : Int32 → Option Int32) : ∀ (d m k : Nat), k + d = 6 → d < m → f_X10_worst_4 U ke m (nI (smN (mkN A) k)) (nI k) = ke (nI (smN (mkN A) 6)) := by
  intro d
  induction d with
  | zero =>
    intro m k hk hm
    obtain ⟨q, rfl⟩ : ∃ q, m = q + 1 := ⟨m - 1, by omega⟩
    rw [f_X10_worst_4, if_pos (show (6 : Int32) ≤ nI k from nI_le (a := 6) (by omega) (by omega)), show k = 6 by omega]
  | succ d ih =>
    intro m k hk hm
    obtain ⟨q, rfl⟩ : ∃ q, m = q + 1 := ⟨m - 1, by omega⟩
    have hh := hV.1.2.2.2
    have b0 := bx_le hV k 0
    have b1 := bx_le hV k 1
    have b2 := bk_le hV k
    have i := ih q (k + 1) (by omega) (by omega)
    have e : smN (mkN A) (k + 1) = smN (mkN A) k + mkN A k := rfl
    rw [e] at i
    have em : mkN A k = if A 0 3 = 1 then max (bxN A k 0) (bxN A k 1) else if bkN A k = 0 then 0 else 1 := rfl
    rw [f_X10_worst_4, if_neg (show ¬ (6 : Int32) ≤ nI k from nI_ge (b := 6) (by omega) (by omega)), show inB (3 : Int32) 205 = true from rfl, gd_t, show ix (3 : Int32) = 3 from rfl, hM.1.2.2.2]
    unfold f_X10_worst_54
    have x0 := box_h hV hM (kd := k) (h := 0) (by omega) (by omega)
    have x1 := box_h hV hM (kd := k) (h := 1) (by omega) (by omega)
    rw [show nI 0 = (0 : Int32) from rfl] at x0
    rw [show nI 1 = (1 : Int32) from rfl] at x1
    rw [x0, x1, box_k hV hM (kd := k) (by omega)]
    simp only [sb, more_eq, mx_nI (show bxN A k 0 < 2 ^ 31 by omega) (show bxN A k 1 < 2 ^ 31 by omega), nm_eq, nI_1, nI_add, show ∀ x : Nat, nI x + (0 : Int32) = nI x from fun x => nI_add x 0, show (nI (A 0 3) = (1 : Int32)) = (A 0 3 = 1) from propext (nI_eq (b := 1) (by omega) (by omega))]
    by_cases c : A 0 3 = 1
    · rw [if_pos c] at em ⊢
      rw [em] at i
      exact i
    · rw [if_neg c] at em ⊢
      by_cases c2 : bkN A k = 0
      · rw [if_pos c2] at em
        rw [em] at i
        rw [c2, if_pos (show nI 0 ≤ (0 : Int32) by decide)]
        exact i
      · rw [if_neg c2] at em
        rw [em] at i
        rw [if_neg (show ¬ nI (bkN A k) ≤ (0 : Int32) by rw [le_toInt, nI_toInt (by omega), show (0 : Int32).toInt = 0 from rfl]; omega)]
        exact i
