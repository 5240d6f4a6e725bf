theorem lsub_toInt {X Y : Nat} (hX : X < 2 ^ 62) (hY : Y < 2 ^ 62) : (lN X - lN Y).toInt = (X : Int) - Y := by
  rw [Int64.toInt_sub, pk_lT (by omega), pk_lT (by omega)]
  exact Int.bmod_eq_of_le (by omega) (by omega)
theorem lsub_cut {X Y : Nat} (hX : X < 2 ^ 62) (hY : Y < 2 ^ 62) : mxL 0 (lN X - lN Y) = lN (X - Y) := by
  unfold mxL
  by_cases h : X < Y
  · rw [if_pos (by rw [lt_toL, lsub_toInt hX hY, show (0 : Int64).toInt = 0 from rfl]; omega), show X - Y = 0 by omega]
    rfl
  · rw [if_neg (by rw [lt_toL, lsub_toInt hX hY, show (0 : Int64).toInt = 0 from rfl]; omega), lN_sub (by omega)]
theorem lsub_if {X Y : Nat} (hX : X < 2 ^ 62) (hY : Y < 2 ^ 62) : (lN X - lN Y ≤ (0 : Int64)) ↔ X ≤ Y := by
  rw [le_toL, lsub_toInt hX hY, show (0 : Int64).toInt = 0 from rfl]
  omega
theorem nneg_l {c : Nat} (h : c < 2 ^ 31) : (-nI c).toInt64 = -lN c := by
  apply Int64.toInt_inj.mp
  rw [Int32.toInt_toInt64, Int32.toInt_neg, nI_toInt h, Int64.toInt_neg, pk_lT (by omega), Int.bmod_eq_of_le (by omega) (by omega), Int.bmod_eq_of_le (by omega) (by omega)]
/-- what a single is worth with so many weeks left -/
def aN (val cost : Nat) (ch : Nat → Nat) (n : Nat) : Nat → Nat
  | 0 => 0
  | r + 1 => (12 ^ r * val * ch (n - (r + 1)) + aN val cost ch n r * (12 - ch (n - (r + 1)))) - 12 ^ (r + 1) * cost
theorem aN_le {val cost : Nat} {ch : Nat → Nat} {n : Nat} (hch : ∀ w, w < n → ch w ≤ 12) : ∀ r, r ≤ n → aN val cost ch n r ≤ val * 12 ^ r
  | 0, _ => Nat.zero_le _
  | r + 1, h => by
    have ih := aN_le (cost := cost) (val := val) hch r (by omega)
    have hc := hch (n - (r + 1)) (by omega)
    have h2 : aN val cost ch n r * (12 - ch (n - (r + 1))) ≤ val * 12 ^ r * (12 - ch (n - (r + 1))) := Nat.mul_le_mul_right _ ih
    have h3 : 12 ^ r * val * ch (n - (r + 1)) + val * 12 ^ r * (12 - ch (n - (r + 1))) = val * 12 ^ (r + 1) := by
      rw [Nat.mul_comm (12 ^ r) val, ← Nat.mul_add, show ch (n - (r + 1)) + (12 - ch (n - (r + 1))) = 12 by omega, Nat.pow_succ, Nat.mul_assoc]
    show (12 ^ r * val * ch (n - (r + 1)) + aN val cost ch n r * (12 - ch (n - (r + 1)))) - 12 ^ (r + 1) * cost ≤ val * 12 ^ (r + 1)
    omega
theorem p12 {r : Nat} (h : r ≤ 8) : 12 ^ r ≤ 429981696 := Nat.pow_le_pow_right (by omega) h
theorem aN_X {val cost : Nat} {ch : Nat → Nat} {n r : Nat} (hv : val < 1000) (hc : cost < 100) (hn : n ≤ 8) (hch : ∀ w, w < n → ch w ≤ 12) (hr : r < n) : 12 ^ r * val * ch (n - (r + 1)) + aN val cost ch n r * (12 - ch (n - (r + 1))) < 2 ^ 62 ∧ 12 ^ (r + 1) * cost < 2 ^ 62 := by
  have h1 := aN_le (val := val) (cost := cost) hch r (by omega)
  have h2 := p12 (r := r) (by omega)
  have h3 := p12 (r := r + 1) (by omega)
  have h4 := hch (n - (r + 1)) (by omega)
  have h5 : 12 ^ r * val ≤ 429981696 * 1000 := Nat.mul_le_mul h2 (by omega)
  have h6 : 12 ^ r * val * ch (n - (r + 1)) ≤ 429981696 * 1000 * 12 := Nat.mul_le_mul h5 h4
  have h7 : val * 12 ^ r ≤ 1000 * 429981696 := Nat.mul_le_mul (by omega) h2
  have h8 : aN val cost ch n r * (12 - ch (n - (r + 1))) ≤ 1000 * 429981696 * 12 := Nat.mul_le_mul (Nat.le_trans h1 h7) (by omega)
  have h9 : 12 ^ (r + 1) * cost ≤ 429981696 * 100 := Nat.mul_le_mul h3 (by omega)
  omega
theorem rec_l {S : SI} {val cost n : Nat} {ch : Nat → Nat} (hv : val < 1000) (hc : cost < 100) (hn : n ≤ 8) (hch : ∀ w, w < n → ch w ≤ 12) (hS : ∀ w, w < n → S 58 w = nI (ch w)) : ∀ (w m : Nat) (T : SL), w ≤ n → w < m → T 57 2 = lN (12 ^ (n - w)) → (∀ e, w ≤ e → e ≤ n → T 59 e = lN (aN val cost ch n (n - e))) → ∃ T', f_X8_reckon_22 S (nI val) (nI cost) m (nI w - 1) T = some T' ∧ T' 57 2 = lN (12 ^ n) ∧ ∀ e, e ≤ n → T' 59 e = lN (aN val cost ch n (n - e)) := by
  intro w
  induction w with
  | zero =>
    intro m T _ hm h1 h2
    obtain ⟨q, rfl⟩ : ∃ q, m = q + 1 := ⟨m - 1, by omega⟩
    rw [f_X8_reckon_22, if_pos (show nI 0 - 1 < (0 : Int32) by decide)]
    exact ⟨T, rfl, h1, fun e he => h2 e (by omega) he⟩
  | succ w ih =>
    intro m T hw hm h1 h2
    obtain ⟨q, rfl⟩ : ∃ q, m = q + 1 := ⟨m - 1, by omega⟩
    have hcw := hch w (by omega)
    obtain ⟨r, hr⟩ : ∃ r, n = w + (r + 1) := ⟨n - w - 1, by omega⟩
    have hX := aN_X (cost := cost) (ch := ch) (r := r) hv hc hn hch (by omega)
    rw [show n - (r + 1) = w by omega] at hX
    have e12 : (12 : Int32) - nI (ch w) = nI (12 - ch w) := pk_sub (a := 12) hcw
    rw [f_X8_reckon_22, nI_pred, if_neg (show ¬ nI w < (0 : Int32) from nI_pos (by omega)), inBn (show w < 8 by omega) (by omega), gd_t, nm_eq, nI_1, inBn (show w + 1 < 9 by omega) (by omega), gd_t, gd_t, nm_eq, nm_eq, inBn (show w < 9 by omega) (by omega), gd_t, nm_eq, ixn (show w < 2 ^ 31 by omega), ixn (show w + 1 < 2 ^ 31 by omega), hS w (by omega), e12, h1, h2 (w + 1) (by omega) hw, up2_eq, nI_l (show val < 2 ^ 31 by omega), nI_l (show ch w < 2 ^ 31 by omega), nI_l (show 12 - ch w < 2 ^ 31 by omega), nI_l (show cost < 2 ^ 31 by omega), show (12 : Int64) = lN 12 from rfl]
    simp only [lN_mul, lN_add]
    rw [show n - (w + 1) = r by omega, show 12 ^ r * 12 = 12 ^ (r + 1) from rfl, lsub_cut hX.1 hX.2, show nI w + (-1 : Int32) = nI w - 1 by rw [Int32.sub_eq_add_neg]]
    have ea : aN val cost ch n (r + 1) = (12 ^ r * val * ch w + aN val cost ch n r * (12 - ch w)) - 12 ^ (r + 1) * cost := by
      show (12 ^ r * val * ch (n - (r + 1)) + aN val cost ch n r * (12 - ch (n - (r + 1)))) - 12 ^ (r + 1) * cost = _
      rw [show n - (r + 1) = w by omega]
    rw [← ea]
    refine ih q _ (by omega) (by omega) ?_ (fun e he1 he2 => ?_)
    · rw [up2_ne _ (by omega), up2_eq, show n - w = r + 1 by omega]
    · by_cases c : e = w
      · rw [c, up2_eq, show n - w = r + 1 by omega]
      · rw [up2_ne _ (by omega), up2_ne _ (by omega)]
        exact h2 e (by omega) he2
theorem fin_l {U : SI} {val cost n x : Nat} {ch : Nat → Nat} (hv : val < 1000) (hc : cost < 100) (hn : n ≤ 8) (hch : ∀ w, w < n → ch w ≤ 12) (hx : x + n ≤ 64) (hU : ∀ w, w < n → U 94 (x + w) = nI (ch w)) : ∀ (w m : Nat) (V : SL), w ≤ n → w < m → (∀ e, w ≤ e → e ≤ n → V 84 e = lN (aN val cost ch n (n - e)) ∧ V 85 e = lN (12 ^ (n - e))) → ∃ V', f_X10_findWorths_138 U (nI val) (nI cost) (nI x) m (nI w - 1) V = some (0, V') ∧ ∀ e, e ≤ n → V' 84 e = lN (aN val cost ch n (n - e)) ∧ V' 85 e = lN (12 ^ (n - e)) := by
  intro w
  induction w with
  | zero =>
    intro m V _ hm h2
    obtain ⟨q, rfl⟩ : ∃ q, m = q + 1 := ⟨m - 1, by omega⟩
    rw [f_X10_findWorths_138, if_pos (show nI 0 - 1 < (0 : Int32) by decide)]
    exact ⟨V, rfl, fun e he => h2 e (by omega) he⟩
  | succ w ih =>
    intro m V hw hm h2
    obtain ⟨q, rfl⟩ : ∃ q, m = q + 1 := ⟨m - 1, by omega⟩
    have hcw := hch w (by omega)
    obtain ⟨r, hr⟩ : ∃ r, n = w + (r + 1) := ⟨n - w - 1, by omega⟩
    have hX := aN_X (cost := cost) (ch := ch) (r := r) hv hc hn hch (by omega)
    rw [show n - (r + 1) = w by omega] at hX
    obtain ⟨z1, z2⟩ := h2 (w + 1) (by omega) hw
    rw [show n - (w + 1) = r by omega] at z1 z2
    rw [f_X10_findWorths_138, nI_pred, if_neg (show ¬ nI w < (0 : Int32) from nI_pos (by omega)), nI_add, inBn (show x + w < 64 by omega) (by omega), gd_t, nm_eq, nI_1, inBn (show w + 1 < 9 by omega) (by omega), inBn (show w < 9 by omega) (by omega), gd_t, gd_t, nm_eq, gd_t, gd_t, gd_t, nm_eq, ixn (show w < 2 ^ 31 by omega), ixn (show w + 1 < 2 ^ 31 by omega), ixn (show x + w < 2 ^ 31 by omega), hU w (by omega)]
    unfold f_X10_findWorths_243
    rw [inBn (show w < 9 by omega) (by omega), gd_t, gd_t, nm_eq, nm_eq, ixn (show w < 2 ^ 31 by omega), up2_eq, up2_ne _ (by omega), up2_ne _ (by omega), z1, z2, nI_l (show val < 2 ^ 31 by omega), nI_l (show ch w < 2 ^ 31 by omega), nneg_l (show cost < 2 ^ 31 by omega), show (12 : Int64) = lN 12 from rfl, lN_mul, lN_mul, lN_sub hcw, lN_mul]
    have ex : -lN cost * lN (12 * 12 ^ r) + lN (val * ch w * 12 ^ r) + lN (12 - ch w) * lN (aN val cost ch n r) = lN (12 ^ r * val * ch w + aN val cost ch n r * (12 - ch w)) - lN (12 ^ (r + 1) * cost) := by
      rw [Int64.neg_mul, lN_mul, lN_mul, Int64.add_assoc, lN_add, Int64.add_comm, ← Int64.sub_eq_add_neg]
      congr 1
      · congr 1
        rw [Nat.mul_comm (12 - ch w), Nat.mul_comm (val * ch w), Nat.mul_assoc]
      · congr 1
        rw [Nat.pow_succ, Nat.mul_comm cost, Nat.mul_comm 12]
    rw [ex]
    have ea : aN val cost ch n (r + 1) = (12 ^ r * val * ch w + aN val cost ch n r * (12 - ch w)) - 12 ^ (r + 1) * cost := by
      show (12 ^ r * val * ch (n - (r + 1)) + aN val cost ch n r * (12 - ch (n - (r + 1)))) - 12 ^ (r + 1) * cost = _
      rw [show n - (r + 1) = w by omega]
    have key : ∀ v : Int64, v = lN (aN val cost ch n (r + 1)) → ∃ V', f_X10_findWorths_138 U (nI val) (nI cost) (nI x) q (nI w + -1) (up2 (up2 V 85 w (lN (12 * 12 ^ r))) 84 w v) = some (0, V') ∧ ∀ e, e ≤ n → V' 84 e = lN (aN val cost ch n (n - e)) ∧ V' 85 e = lN (12 ^ (n - e)) := fun v hv => by
      rw [show nI w + (-1 : Int32) = nI w - 1 by rw [Int32.sub_eq_add_neg]]
      refine ih q _ (by omega) (by omega) (fun e he1 he2 => ?_)
      by_cases c : e = w
      · rw [c, up2_eq, up2_ne _ (by omega), up2_eq, show n - w = r + 1 by omega, hv, Nat.pow_succ, Nat.mul_comm 12]
        exact ⟨rfl, rfl⟩
      · rw [up2_ne _ (by omega), up2_ne _ (by omega), up2_ne _ (by omega), up2_ne _ (by omega)]
        exact h2 e (by omega) he2
    by_cases c : 12 ^ r * val * ch w + aN val cost ch n r * (12 - ch w) ≤ 12 ^ (r + 1) * cost
    · rw [if_pos ((lsub_if hX.1 hX.2).mpr c)]
      refine key 0 ?_
      rw [ea, show (12 ^ r * val * ch w + aN val cost ch n r * (12 - ch w)) - 12 ^ (r + 1) * cost = 0 by omega]
      rfl
    · rw [if_neg (fun z => c ((lsub_if hX.1 hX.2).mp z))]
      refine key _ ?_
      rw [ea, lN_sub (by omega)]
theorem tch_l {k j n : Nat} (it : Nat → Int32) (hk : k < 4) (hn : n ≤ 8) (hj : j + n ≤ 16) : ∀ (d m i : Nat) (S : SI), i + d = n → d < m → (∀ w, w < n → S (70 + 2 * k + 1) (j + w) = it w) → S 57 3 = nI n → (∀ w, w < i → S 58 w = it w) → ∃ S', f_X8_takeChances_8 (70 + 2 * k) (nI j) m (nI i) S = some (if alB (fun w => inB (it w) 13) i d = true then 1 else 0, S') ∧ (∀ a e, a ≠ 58 → S' a e = S a e) ∧ (alB (fun w => inB (it w) 13) i d = true → ∀ w, w < n → S' 58 w = it w) := by
  intro d
  induction d with
  | zero =>
    intro m i S hi hm h1 h2 h3
    obtain ⟨q, rfl⟩ : ∃ q, m = q + 1 := ⟨m - 1, by omega⟩
    rw [f_X8_takeChances_8, h2, if_pos (nI_le (by omega) (by omega))]
    exact ⟨S, rfl, fun _ _ _ => rfl, fun _ w hw => h3 w (by omega)⟩
  | succ d ih =>
    intro m i S hi hm h1 h2 h3
    obtain ⟨q, rfl⟩ : ∃ q, m = q + 1 := ⟨m - 1, by omega⟩
    rw [f_X8_takeChances_8, h2, if_neg (nI_ge (by omega) (by omega)), nI_add, inBn (show j + i < 16 by omega) (by omega), inBn (show i < 8 by omega) (by omega), gd_t, gd_t, nm_eq, gd_t, ixn (show i < 2 ^ 31 by omega), ixn (show j + i < 2 ^ 31 by omega), h1 i (by omega), up2_eq, wi _ 13 13 rfl, sb, nI_1]
    show ∃ S', _ = some (if (inB (it i) 13 && alB (fun w => inB (it w) 13) (i + 1) d) = true then 1 else 0, S') ∧ _ ∧ ((inB (it i) 13 && alB (fun w => inB (it w) 13) (i + 1) d) = true → _)
    cases hb : inB (it i) 13 with
    | false =>
      refine ⟨up2 S 58 i (it i), ?_, fun a e h => up2_ne _ (by omega), fun h => by simp at h⟩
      simp
    | true =>
      obtain ⟨S', a1, a2, a3⟩ := ih q (i + 1) (up2 S 58 i (it i)) (by omega) (by omega) (fun w hw => by rw [up2_ne _ (by omega)]; exact h1 w hw) (by rw [up2_ne _ (by omega)]; exact h2) (fun w hw => by
        by_cases c : w = i
        · rw [c, up2_eq]
        · rw [up2_ne _ (by omega)]; exact h3 w (by omega))
      refine ⟨S', ?_, fun a e h => by rw [a2 a e h, up2_ne _ (by omega)], fun h => a3 (by simpa using h)⟩
      rw [if_pos rfl, if_neg (show ¬ (1 : Int32) = 0 by decide), a1, Bool.true_and]
theorem fch_l {U : SI} {V : SL} {x n : Nat} (hn : n ≤ 8) (hx : x + n ≤ 64) (ke : Option (Int32 × SL)) : ∀ (d m i : Nat), i + d = n → d < m → f_X10_findWorths_79 U V (nI n) (nI x) ke m (nI i) = if alB (fun w => inB (U 94 (x + w)) 13) i d = true then ke else some (-2, V) := by
  intro d
  induction d with
  | zero =>
    intro m i hi hm
    obtain ⟨q, rfl⟩ : ∃ q, m = q + 1 := ⟨m - 1, by omega⟩
    rw [f_X10_findWorths_79, if_pos (nI_le (by omega) (by omega))]
    rfl
  | succ d ih =>
    intro m i hi hm
    obtain ⟨q, rfl⟩ : ∃ q, m = q + 1 := ⟨m - 1, by omega⟩
    rw [f_X10_findWorths_79, if_neg (nI_ge (by omega) (by omega)), nI_add, inBn (show x + i < 64 by omega) (by omega), gd_t, ixn (by omega), mi _ 12 12 rfl, sb, nI_1, ih q (i + 1) (by omega) (by omega)]
    show _ = if (inB (U 94 (x + i)) 13 && alB (fun w => inB (U 94 (x + w)) 13) (i + 1) d) = true then ke else some (-2, V)
    cases inB (U 94 (x + i)) 13 <;> simp
theorem ge_0 {r : Int32} (h : r ≠ 0 ∧ r < 0) : ¬ 0 ≤ r := by
  rw [le_toInt, show (0 : Int32).toInt = 0 from rfl]
  have := (lt_toInt _ _).mp h.2
  rw [show (0 : Int32).toInt = 0 from rfl] at this
  omega
/-- both refuse, or both have reckoned the same -/
def wkO (P : Nat → Int32 → (Nat → Int32) → Prop) (U : SI) (v4 : Int32) (c : Option (Int32 × SI × SL)) (m : Option (Int32 × SL)) : Prop :=
  (∃ (r : Int32) (S1 : SI) (T1 V1 : SL), c = some (r, S1, T1) ∧ m = some (r, V1) ∧ (r ≠ 0 ∧ r < 0) ∧ RR P S1 U) ∨
  (∃ (S1 : SI) (T1 V1 : SL) (n : Nat) (a : Nat → Nat), c = some (0, S1, T1) ∧ m = some (0, V1) ∧ (1 ≤ n ∧ n ≤ 8 ∧ v4 = nI n ∧ S1 57 3 = nI n) ∧ (∀ e, e ≤ n → T1 59 e = lN (a e) ∧ V1 84 e = lN (a e) ∧ a e < 2 ^ 62) ∧ T1 57 2 = lN (12 ^ n) ∧ V1 85 0 = lN (12 ^ n) ∧ RR P S1 U)
theorem wks_eq {P : Nat → Int32 → (Nat → Int32) → Prop} {S U : SI} (h : RR P S U) (T V : SL) (v1 v2 v3 v4 v5 v6 : Int32) : wkO P U v4 (f_X9_reckonWeeks S T v1 v2 v3 v4 v5 v6) (f_X10_findWorths U V v1 v2 v3 v4 v5 v6) := by
  have hF := fu_big
  unfold f_X9_reckonWeeks f_X10_findWorths
  rw [wi _ 4 4 rfl, wi _ 3 3 rfl, wi _ 1000 1000 rfl, wi _ 100 100 rfl, isSheet_eq, in_gen, mi _ 999 999 rfl, mi _ 99 99 rfl, sb, sb, sb, sb, sb, sb, sb, sb]
  have bad : ∀ (r : Int32), (r ≠ 0 ∧ r < 0) → wkO P U v4 (some (r, S, T)) (some (r, V)) := fun r hr => Or.inl ⟨r, S, T, V, rfl, rfl, hr, h⟩
  have b1 : wkO P U v4 (some (-1, S, T)) (some (-1, V)) := bad _ ⟨by decide, by decide⟩
  cases hv1 : inB v1 4 with
  | false => simpa using b1
  | true =>
    cases hv2 : inB v2 3 with
    | false => simpa using b1
    | true =>
      simp only [and_self, if_true, show ¬ (1 : Int32) = 0 by decide, if_false, gd_t, wide, lt_toInt, le_toInt, show (1 : Int32).toInt = 1 from rfl, show (8 : Int32).toInt = 8 from rfl, show (1 : Int64).toInt = 1 from rfl, show (8 : Int64).toInt = 8 from rfl]
      by_cases c1 : v4.toInt < 1
      · rw [if_pos c1, if_neg (show ¬ (1 ≤ v4.toInt ∧ v4.toInt ≤ 8) by omega), if_pos (show nI 0 = (0 : Int32) from rfl)]
        exact b1
      · rw [if_neg c1]
        by_cases c2 : v4.toInt ≤ 8
        · rw [if_pos c2, if_pos (show (1 ≤ v4.toInt ∧ v4.toInt ≤ 8) by omega), if_neg (show ¬ nI 1 = (0 : Int32) by decide)]
          cases hv5 : inB v5 1000 with
          | false => simpa using b1
          | true =>
            cases hv6 : inB v6 100 with
            | false => simpa using b1
            | true =>
              simp only [if_true, show ¬ (1 : Int32) = 0 by decide, if_false]
              obtain ⟨k, hk, rfl⟩ := inB_of hv1 (by omega)
              obtain ⟨l, hl, rfl⟩ := inB_of hv2 (by omega)
              obtain ⟨n, hn, rfl⟩ := inB_of (v := v4) (n := 9) (decide_eq_true (by omega)) (by omega)
              obtain ⟨val, hval, rfl⟩ := inB_of hv5 (by omega)
              obtain ⟨cost, hcost, rfl⟩ := inB_of hv6 (by omega)
              rw [nI_toInt (by omega)] at c1 c2
              rw [ixn (show k < 2 ^ 31 by omega)]
              obtain ⟨r, hr1, hr2, hr3⟩ := refuse_eq h.2.2.2.1 hk hl v3 (q := n) (by omega)
              rw [hr1, hr2, sb, sb]
              rcases hr3 with ⟨rfl, hlane, j, rfl, hj⟩ | hr
              · have e : (16 : Int32) * nI k + nI j = nI (16 * k + j) := by rw [show (16 : Int32) = nI 16 from rfl, pk_mul, nI_add]
                rw [if_pos rfl, if_pos (by decide), nm_eq, e]
                obtain ⟨⟨q1, q2⟩, ⟨n', q3, q4, q5⟩, q6⟩ := h.2.2.2.1 k hk
                unfold f_X8_takeChances
                rw [nm_eq, show (0 : Int32) = nI 0 from rfl]
                obtain ⟨S1, a1, a2, a3⟩ := tch_l (k := k) (j := j) (n := n) (fun w => U 94 (16 * k + j + w)) hk (by omega) (by omega) n fu 0 (up2 S 57 3 (nI n)) (by omega) (by omega) (fun w hw => by rw [up2_ne _ (by omega), q6 _ (by omega), Nat.add_assoc]) (by rw [up2_eq]) (fun w hw => by omega)
                have f1 : ∀ a e, ¬ (a = 58 ∨ (a = 57 ∧ e = 3)) → S1 a e = S a e := fun a e he => by rw [a2 a e (by omega), up2_ne _ (by omega)]
                have hR : RR P S1 U := h.same (fun a e hl => f1 a e (by unfold liC at hl; omega)) eqM.rf
                rw [a1, sb, fch_l (U := U) (V := V) (x := 16 * k + j) (n := n) (by omega) (by omega) _ n fu 0 (by omega) (by omega)]
                cases hal : alB (fun w => inB (U 94 (16 * k + j + w)) 13) 0 n with
                | false =>
                  simp only [Bool.false_eq_true, if_false, show (0 : Int32) = nI 0 from rfl, if_true]
                  exact Or.inl ⟨-2, S1, T, V, rfl, rfl, ⟨by decide, by decide⟩, hR⟩
                | true =>
                  simp only [if_true, show ¬ (1 : Int32) = nI 0 by decide, if_false]
                  have hch : ∀ w, w < n → ix (U 94 (16 * k + j + w)) ≤ 12 ∧ U 94 (16 * k + j + w) = nI (ix (U 94 (16 * k + j + w))) := fun w hw => by
                    have := (alB_iff _ _ _).mp hal w (by omega) (by omega)
                    obtain ⟨z, hz, ez⟩ := inB_of this (by omega)
                    rw [ez, ixn (by omega)]
                    exact ⟨by omega, rfl⟩
                  have s573 : S1 57 3 = nI n := by rw [a2 _ _ (by omega), up2_eq]
                  unfold f_X8_reckon f_X10_findWorths_116
                  rw [s573, inBn (show n < 9 by omega) (by omega), gd_t, nm_eq, nm_eq, nm_eq, ixn (show n < 2 ^ 31 by omega), gd_t, nm_eq, gd_t, nm_eq, nm_eq]
                  obtain ⟨T1, t1, t2, t3⟩ := rec_l (S := S1) (val := val) (cost := cost) (n := n) (ch := fun w => ix (U 94 (16 * k + j + w))) hval hcost (by omega) (fun w hw => (hch w hw).1) (fun w hw => by rw [a3 hal w hw]; exact (hch w hw).2) n fu (up2 (up2 T 59 n 0) 57 2 1) (by omega) (by omega) (by rw [up2_eq, Nat.sub_self]; rfl) (fun e h1 h2 => by rw [show e = n by omega, up2_ne _ (by omega), up2_eq, Nat.sub_self]; rfl)
                  obtain ⟨V1, w1, w2⟩ := fin_l (U := U) (val := val) (cost := cost) (n := n) (x := 16 * k + j) (ch := fun w => ix (U 94 (16 * k + j + w))) hval hcost (by omega) (fun w hw => (hch w hw).1) (by omega) (fun w hw => (hch w hw).2) n fu (up2 (up2 V 84 n 0) 85 n 1) (by omega) (by omega) (fun e h1 h2 => by
                    rw [show e = n by omega, up2_ne _ (by omega), up2_eq, up2_eq, Nat.sub_self]
                    exact ⟨rfl, rfl⟩)
                  rw [t1, w1, sb]
                  have hab := aN_le (val := val) (cost := cost) (ch := fun w => ix (U 94 (16 * k + j + w))) (n := n) (fun w hw => (hch w hw).1)
                  refine Or.inr ⟨S1, T1, V1, n, fun e => aN val cost (fun w => ix (U 94 (16 * k + j + w))) n (n - e), rfl, rfl, ⟨by omega, by omega, rfl, s573⟩, fun e he => ⟨t3 e he, (w2 e he).1, ?_⟩, t2, ?_, hR⟩
                  · have h1 := hab (n - e) (by omega)
                    have h2 := p12 (r := n - e) (by omega)
                    have h3 : val * 12 ^ (n - e) ≤ 1000 * 429981696 := Nat.mul_le_mul (by omega) h2
                    show aN val cost (fun w => ix (U 94 (16 * k + j + w))) n (n - e) < 2 ^ 62
                    omega
                  · exact (w2 0 (by omega)).2
              · rw [if_neg hr.1, if_neg (fun z => ge_0 hr ((le_toInt _ _).mpr z))]
                exact bad r hr
        · rw [if_neg c2, if_neg (show ¬ (1 ≤ v4.toInt ∧ v4.toInt ≤ 8) by omega), if_pos (show nI 0 = (0 : Int32) from rfl)]
          exact b1
theorem fw_l {S : SI} {T V : SL} {n : Nat} {a : Nat → Nat} (hn : n ≤ 8) (hS : S 57 3 = nI n) (ha : ∀ e, e ≤ n → T 59 e = lN (a e) ∧ V 84 e = lN (a e) ∧ a e < 2 ^ 62) : ∀ (d m k : Nat), k + d = n → d < m → ∃ r, f_X8_firstWorthless_2 S T m (nI k) = some r ∧ f_X10_thrown_26 V (nI n) m (nI k) = some (r, V) := by
  intro d
  induction d with
  | zero =>
    intro m k hk hm
    obtain ⟨q, rfl⟩ : ∃ q, m = q + 1 := ⟨m - 1, by omega⟩
    rw [f_X8_firstWorthless_2, f_X10_thrown_26, hS, if_pos (nI_le (by omega) (by omega)), if_pos (nI_le (by omega) (by omega))]
    exact ⟨_, rfl, rfl⟩
  | succ d ih =>
    intro m k hk hm
    obtain ⟨q, rfl⟩ : ∃ q, m = q + 1 := ⟨m - 1, by omega⟩
    obtain ⟨z1, z2, z3⟩ := ha k (by omega)
    rw [f_X8_firstWorthless_2, f_X10_thrown_26, hS, if_neg (nI_ge (by omega) (by omega)), if_neg (nI_ge (by omega) (by omega)), inBn (show k < 9 by omega) (by omega), gd_t, gd_t, ixn (by omega), z1, z2, nI_1]
    by_cases c : lN (a k) = (0 : Int64)
    · rw [if_pos c, if_pos c]
      exact ⟨_, rfl, rfl⟩
    · rw [if_neg c, if_neg c]
      exact ih q (k + 1) (by omega) (by omega)
theorem op_thrown {P : Nat → Int32 → (Nat → Int32) → Prop} {S U : SI} (h : RR P S U) (T V : SL) (v1 v2 v3 v4 v5 v6 : Int32) : ∃ (r : Int32) (S1 : SI) (T1 V1 : SL), f_X9_thrown S T v1 v2 v3 v4 v5 v6 = some (r, S1, T1) ∧ f_X10_thrown U V v1 v2 v3 v4 v5 v6 = some (r, V1) ∧ RR P S1 U := by
  have hF := fu_big
  unfold f_X9_thrown f_X10_thrown
  rcases wks_eq h T V v1 v2 v3 v4 v5 v6 with ⟨r, S1, T1, V1, e1, e2, hr, hR⟩ | ⟨S1, T1, V1, n, a, e1, e2, ⟨n1, n8, rfl, s3⟩, ha, t2, w2, hR⟩
  · rw [e1, e2, sb, sb]
    simp only [if_neg hr.1, if_neg (ge_0 hr)]
    exact ⟨_, _, _, _, rfl, rfl, hR⟩
  · rw [e1, e2, sb, sb]
    simp only [if_true, show (0 : Int32) ≤ 0 by decide]
    obtain ⟨r, z1, z2⟩ := fw_l (S := S1) (T := T1) (V := V1) n8 s3 ha n fu 0 (by omega) (by omega)
    unfold f_X8_firstWorthless
    rw [show (0 : Int32) = nI 0 from rfl, z1, z2, sb]
    exact ⟨_, _, _, _, rfl, rfl, hR⟩
theorem op_worth {P : Nat → Int32 → (Nat → Int32) → Prop} {S U : SI} (h : RR P S U) (T V : SL) (v1 v2 v3 v4 v5 v6 v7 : Int32) : ∃ (r : Int64) (S1 : SI) (T1 V1 : SL), f_X9_worth S T v1 v2 v3 v4 v5 v6 v7 = some (r, S1, T1) ∧ f_X10_worth U V v1 v2 v3 v4 v5 v6 v7 = some (r, V1) ∧ RR P S1 U := by
  unfold f_X9_worth f_X10_worth
  rw [wi _ 2 2 rfl, mi _ 1 1 rfl, sb, sb]
  cases hv7 : inB v7 2 with
  | false => exact ⟨_, _, _, _, rfl, rfl, h⟩
  | true =>
    rw [if_pos rfl, if_neg (show ¬ (1 : Int32) = 0 by decide), if_neg (show ¬ (1 : Int32) = 0 by decide)]
    obtain ⟨w, hw, rfl⟩ := inB_of hv7 (by omega)
    rcases wks_eq h T V v1 v2 v3 v4 v5 v6 with ⟨r, S1, T1, V1, e1, e2, hr, hR⟩ | ⟨S1, T1, V1, n, a, e1, e2, ⟨n1, n8, rfl, s3⟩, ha, t2, w2, hR⟩
    · rw [e1, e2, sb, sb]
      simp only [if_neg hr.1, if_neg (ge_0 hr)]
      exact ⟨_, _, _, _, rfl, rfl, hR⟩
    · rw [e1, e2, sb, sb]
      obtain ⟨z1, z2, z3⟩ := ha 0 (by omega)
      have hp := p12 n8
      have hp0 : 0 < 12 ^ n := Nat.pow_pos (by omega)
      simp only [if_true, show (0 : Int32) ≤ 0 by decide, show inB (0 : Int32) 9 = true from rfl, gd_t, show ix (0 : Int32) = 0 from rfl, z1, z2, t2, w2]
      rw [low_C (by omega) (by omega) hp0 hw, sb, com_M (by omega) (by omega), sb]
      have hg : 0 < Nat.gcd (12 ^ n) (a 0) := Nat.gcd_pos_of_pos_left _ hp0
      have hg2 : Nat.gcd (12 ^ n) (a 0) ≤ 12 ^ n := Nat.le_of_dvd hp0 (Nat.gcd_dvd_left _ _)
      have hg3 : ¬ lN (Nat.gcd (12 ^ n) (a 0)) = (0 : Int64) := by rw [show (0 : Int64) = lN 0 from rfl, pk_lEQ (by omega) (by omega)]; omega
      have hw2 : w = 0 ∨ w = 1 := by omega
      rcases hw2 with rfl | rfl
      · rw [if_pos (show nI 0 = (0 : Int32) from rfl), if_pos rfl, if_neg hg3, pk_lDiv (by omega) hg (by omega)]
        exact ⟨_, _, _, _, rfl, rfl, hR⟩
      · rw [if_neg (show ¬ nI 1 = (0 : Int32) by decide), if_neg (show ¬ 1 = 0 by omega), if_neg hg3, pk_lDiv (by omega) hg (by omega)]
        exact ⟨_, _, _, _, rfl, rfl, hR⟩
