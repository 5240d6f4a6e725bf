def lfN (A : VW) : Nat := fb_ct (fun i => A 11 i == 0) (A 0 0)
def loN (A : VW) : Nat := fb_ct (fun i => A 14 i == 1) (A 0 0)
def llN (A : VW) : Nat := fb_ct (fun i => A 14 i == 1 && A 11 i == 0) (A 0 0)
theorem ll_le (p q : Nat → Bool) : ∀ n, fb_ct (fun i => p i && q i) n ≤ fb_ct p n ∧ fb_ct (fun i => p i && q i) n ≤ fb_ct q n
  | 0 => ⟨Nat.le_refl _, Nat.le_refl _⟩
  | n + 1 => by
    have ih := ll_le p q n
    show fb_ct (fun i => p i && q i) n + (if (p n && q n) = true then 1 else 0) ≤ fb_ct p n + (if p n = true then 1 else 0) ∧ fb_ct (fun i => p i && q i) n + (if (p n && q n) = true then 1 else 0) ≤ fb_ct q n + (if q n = true then 1 else 0)
    cases p n <;> cases q n <;> simp <;> omega
/-- one term: so many LEFT ones among the lost -/
def trN (A : VW) (j : Nat) : Nat := chN (lfN A) j * chN (A 0 0 - lfN A) (loN A - j)
def sdN (A : VW) (k : Nat) : Nat := smN (fun i => trN A (llN A + i)) k
theorem tr_le {A : VW} (hV : HV A) {j : Nat} (hj : j ≤ 12) : trN A j ≤ 1000000 := by
  have hn := hV.1.1
  have h1 := (ch_le (a := lfN A) (j := j) (Nat.le_trans (fb_ct_le _ _) hn) hj).1
  have h2 := (ch_le (a := A 0 0 - lfN A) (j := loN A - j) (by omega) (by have : loN A ≤ A 0 0 := fb_ct_le _ _; omega)).1
  exact Nat.mul_le_mul h1 h2
theorem sd_le {A : VW} (hV : HV A) : ∀ k, llN A + k ≤ 13 → sdN A k ≤ k * 1000000
  | 0, _ => Nat.zero_le _
  | k + 1, h => by
    have ih := sd_le hV k (by omega)
    have h2 := tr_le hV (j := llN A + k) (by omega)
    show sdN A k + trN A (llN A + k) ≤ _
    omega
theorem selC_l {S : SI} {A : VW} (hV : HV A) (hC : HC S 1 A) (ke : Int64 → Option Int32) : ∀ (d m k : Nat), llN A + k + d = loN A + 1 → d < m → f_X9_seldom_59 S (nI (loN A)) (nI (lfN A)) ke m (lN (sdN A k)) (nI (llN A + k)) = ke (lN (sdN A (loN A + 1 - llN A))) := by
  intro d
  have hn := hV.1.1
  have hl : loN A ≤ A 0 0 := fb_ct_le _ _
  have hf : lfN A ≤ A 0 0 := fb_ct_le _ _
  induction d with
  | zero =>
    intro m k hk hm
    obtain ⟨q, rfl⟩ : ∃ q, m = q + 1 := ⟨m - 1, by omega⟩
    rw [f_X9_seldom_59, if_pos (nI_lt (by omega) (by omega)), show k = loN A + 1 - llN A by omega]
  | succ d ih =>
    intro m k hk hm
    obtain ⟨q, rfl⟩ : ∃ q, m = q + 1 := ⟨m - 1, by omega⟩
    have i := ih q (k + 1) (by omega) (by omega)
    rw [f_X9_seldom_59, if_neg (show ¬ nI (loN A) < nI (llN A + k) by rw [nI_ltI (by omega) (by omega)]; omega), hC.1.1, pk_sub hf, pk_sub (show llN A + k ≤ loN A by omega), cho_C (by omega) (by omega), cho_C (by omega) (by omega), sb, sb, nm_eq, lN_mul, lN_add, nI_1]
    exact i
theorem lef_l {U : SI} {A : VW} (hV : HV A) (hM : HM (U 79) A) (ke : Int32 → Option Int32) : ∀ (d m k : Nat), k + d = A 0 0 → d < m → f_X10_seldom_33 U ke m (nI (fb_ct (fun i => A 11 i == 0) k)) (nI k) = ke (nI (lfN A)) := by
  intro d
  have hn := hV.1.1
  induction d with
  | zero =>
    intro m k hk hm
    obtain ⟨q, rfl⟩ : ∃ q, m = q + 1 := ⟨m - 1, by omega⟩
    rw [f_X10_seldom_33, show inB (0 : Int32) 205 = true from rfl, gd_t, show ix (0 : Int32) = 0 from rfl, hM.1.1, if_pos (nI_le (by omega) (by omega)), show k = A 0 0 by omega]
    rfl
  | succ d ih =>
    intro m k hk hm
    obtain ⟨q, rfl⟩ : ∃ q, m = q + 1 := ⟨m - 1, by omega⟩
    have hkn : k < A 0 0 := by omega
    have hb1 : A 11 k < 2 := (hV.2.2.2 k hkn).1.2.1
    have g1 : U 79 (13 + 10 * k + 1) = nI (A 11 k) := (hM.2.2.2 k hkn).2.1
    have i := ih q (k + 1) (by omega) (by omega)
    have e : fb_ct (fun i => A 11 i == 0) (k + 1) = fb_ct (fun i => A 11 i == 0) k + (if (A 11 k == 0) = true then 1 else 0) := rfl
    rw [f_X10_seldom_33, show inB (0 : Int32) 205 = true from rfl, gd_t, show ix (0 : Int32) = 0 from rfl, hM.1.1, if_neg (nI_ge (by omega) (by omega)), of1 (by omega), sb, g1]
    unfold f_X10_seldom_60
    simp only [nm_eq, nI_1, show ∀ x : Nat, nI x + (0 : Int32) = nI x from fun x => nI_add x 0, show (nI (A 11 k) = (0 : Int32)) = (A 11 k = 0) from propext (nI_eq (b := 0) (by omega) (by omega))]
    rw [e] at i
    by_cases c : A 11 k = 0
    · rw [if_pos (by simp [c])] at i
      rw [if_pos c]
      exact i
    · rw [if_neg (by simp [c])] at i
      rw [if_neg c]
      exact i
theorem selM_l {U : SI} {A : VW} (hV : HV A) (hM : HM (U 79) A) (ke : Int32 → Option Int32) : ∀ (d m k : Nat), llN A + k + d = loN A + 1 → d < m → f_X10_seldom_80 U (nI (loN A)) (nI (lfN A)) ke m (nI (sdN A k)) (nI (llN A + k)) = ke (nI (sdN A (loN A + 1 - llN A))) := by
  intro d
  have hn := hV.1.1
  have hl : loN A ≤ A 0 0 := fb_ct_le _ _
  have hf : lfN A ≤ A 0 0 := fb_ct_le _ _
  induction d with
  | zero =>
    intro m k hk hm
    obtain ⟨q, rfl⟩ : ∃ q, m = q + 1 := ⟨m - 1, by omega⟩
    rw [f_X10_seldom_80, if_pos (nI_lt (by omega) (by omega)), show k = loN A + 1 - llN A by omega]
  | succ d ih =>
    intro m k hk hm
    obtain ⟨q, rfl⟩ : ∃ q, m = q + 1 := ⟨m - 1, by omega⟩
    have i := ih q (k + 1) (by omega) (by omega)
    rw [f_X10_seldom_80, if_neg (show ¬ nI (loN A) < nI (llN A + k) by rw [nI_ltI (by omega) (by omega)]; omega), cho_M (by omega) (by omega), sb, show inB (0 : Int32) 205 = true from rfl, gd_t, show ix (0 : Int32) = 0 from rfl, hM.1.1, pk_sub hf, pk_sub (show llN A + k ≤ loN A by omega), cho_M (by omega) (by omega), sb, nm_eq, pk_mul, nI_add, nI_1]
    exact i
theorem op_seldom {P : Nat → Int32 → (Nat → Int32) → Prop} {S U : SI} (h : RR P S U) (v1 : Int32) : ∃ r : Int32, f_X9_seldom S v1 = some r ∧ f_X10_seldom U v1 = some r := by
  obtain ⟨A, hV, hC, hM⟩ := h.1
  have hF := fu_big
  have hn := hV.1.1
  have hl : loN A ≤ A 0 0 := fb_ct_le _ _
  have hf : lfN A ≤ A 0 0 := fb_ct_le _ _
  have hll : llN A ≤ loN A := (ll_le _ _ _).1
  unfold f_X9_seldom f_X10_seldom
  rw [wi _ 2 2 rfl, mi _ 1 1 rfl, sb, sb]
  cases hv1 : inB v1 2 with
  | false => exact ⟨_, rfl, rfl⟩
  | true =>
    rw [if_pos rfl, if_neg (show ¬ (1 : Int32) = 0 by decide), if_neg (show ¬ (1 : Int32) = 0 by decide)]
    obtain ⟨w, hw, rfl⟩ := inB_of hv1 (by omega)
    have pc := plc_C hV hC (v := 1) (by omega)
    have pm := plc_M hV hM (v := 1) (by omega)
    have ch := hav_C hV hC (t := 1) (v := 0) (by omega) (by omega)
    rw [show nI 1 = (1 : Int32) from rfl] at pc pm ch
    rw [show nI 0 = (0 : Int32) from rfl] at ch
    have hsm := se_small (fun i => A 14 i == 1) hn
    have hsz := se_zero (fun i => A 14 i == 1) hn
    have e1 : pop (seN (fun i => A 14 i == 1) (A 0 0)) = loN A := pop_se _ hn
    have e2 : pop (seN (fun i => A (10 + 1) i == 0) (A 0 0)) = lfN A := pop_se _ hn
    have e3 : pop (seN (fun i => A 14 i == 1 && A (10 + 1) i == 0) (A 0 0)) = llN A := pop_se _ hn
    rw [pc, pm, ch, sb, sb, sb, ones_eq hsm, sb, bc_eq hsm, sb, bc_eq (se_small _ hn), sb, nx_and, se_and, bc_eq (se_small _ hn), sb, e1, e2, e3]
    simp only [show (nI (seN (fun i => A 14 i == 1) (A 0 0)) = (0 : Int32)) = (seN (fun i => A 14 i == 1) (A 0 0) = 0) from propext (nI_eq (b := 0) (by omega) (by omega)), show (nI (loN A) = (0 : Int32)) = (loN A = 0) from propext (nI_eq (b := 0) (by omega) (by omega))]
    by_cases c : loN A = 0
    · rw [if_pos c, if_pos (hsz.mpr c)]
      exact ⟨_, rfl, rfl⟩
    · rw [if_neg c, if_neg (fun z => c (hsz.mp z))]
      have s1 := selC_l hV hC (fun o6 => f_X9_seldom_103 S (nI w) (nI (loN A)) o6) (loN A + 1 - llN A) fu 0 (by omega) (by omega)
      have s2 := lef_l hV hM (fun o3 => f_X10_seldom_68 U (nI w) (nI (loN A)) o3) (A 0 0) fu 0 (by omega) (by omega)
      have s3 := selM_l hV hM (fun o4 => f_X10_seldom_119 U (nI w) (nI (loN A)) o4) (loN A + 1 - llN A) fu 0 (by omega) (by omega)
      rw [show sdN A 0 = 0 from rfl, Nat.add_zero] at s1 s3
      rw [show fb_ct (fun i => A 11 i == 0) 0 = 0 from rfl] at s2
      rw [show (0 : Int64) = lN 0 from rfl, s1, show (0 : Int32) = nI 0 from rfl, s2]
      unfold f_X10_seldom_68
      rw [lof_M hV hM, sb, show (0 : Int32) = nI 0 from rfl, show fb_ct (fun i => A 14 i == 1 && A 11 i == 0) (A 0 0) = llN A from rfl, s3]
      have hc := ch_le (a := A 0 0) (j := loN A) hn (by omega)
      have hc0 := hc.2 hl
      have hb := sd_le hV (loN A + 1 - llN A) (by omega)
      generalize sdN A (loN A + 1 - llN A) = x at hb
      generalize hy : chN (A 0 0) (loN A) = y at hc hc0
      have hg : 0 < Nat.gcd y x := Nat.gcd_pos_of_pos_left _ hc0
      have hg2 : Nat.gcd y x ≤ y := Nat.le_of_dvd hc0 (Nat.gcd_dvd_left _ _)
      have hg3 : ¬ nI (Nat.gcd y x) = 0 := nI_ne0 (by omega) (by omega)
      have hx : x < 2 ^ 31 := by omega
      unfold f_X9_seldom_103 f_X10_seldom_119
      rw [hC.1.1, cho_C hn (by omega), sb, hy, low_C (by omega) (by omega) hc0 hw, sb, lN_i, show inB (0 : Int32) 205 = true from rfl, gd_t, show ix (0 : Int32) = 0 from rfl, hM.1.1, cho_M hn (by omega), sb, hy, nI_l hx, nI_l (by omega), com_M (by omega) (by omega), sb, lN_i]
      have hw2 : w = 0 ∨ w = 1 := by omega
      rcases hw2 with rfl | rfl
      · rw [if_pos (show nI 0 = (0 : Int32) from rfl), if_pos rfl, if_neg hg3, pk_div hx hg (by omega)]
        exact ⟨_, rfl, rfl⟩
      · rw [if_neg (show ¬ nI 1 = (0 : Int32) by decide), if_neg (show ¬ 1 = 0 by omega), if_neg hg3, pk_div (by omega) hg (by omega)]
        exact ⟨_, rfl, rfl⟩
