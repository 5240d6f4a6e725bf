theorem lod_all : (List.range 8).all (fun L => (List.range 3).all (fun l => (List.range 4).all (fun i => decide (2 ^ i ≤ L + 1 → L < 2 ^ l → i + 1 ≤ 3 ∧ L ||| 2 ^ l < 8 ∧ 2 ^ (i + 1) ≤ (L ||| 2 ^ l) + 1 ∧ 1 ≤ L ||| 2 ^ l)))) = true := by decide +kernel
theorem lod_n {L l i : Nat} (hL : L < 8) (hl : l < 3) (hi : i ≤ 3) (h1 : 2 ^ i ≤ L + 1) (h2 : L < 2 ^ l) : i + 1 ≤ 3 ∧ L ||| 2 ^ l < 8 ∧ 2 ^ (i + 1) ≤ (L ||| 2 ^ l) + 1 ∧ 1 ≤ L ||| 2 ^ l :=
  of_decide_eq_true (List.all_eq_true.mp (List.all_eq_true.mp (List.all_eq_true.mp lod_all L (List.mem_range.mpr hL)) l (List.mem_range.mpr hl)) i (List.mem_range.mpr (by omega))) h1 h2
theorem lod_s : (List.range 8).all (fun L => (List.range 3).all (fun l => decide ((L >>> l = 0) ↔ (L < 2 ^ l)))) = true := by decide +kernel
theorem lod_h {L l : Nat} (hL : L < 8) (hl : l < 3) : (L >>> l = 0) ↔ (L < 2 ^ l) := of_decide_eq_true (List.all_eq_true.mp (List.all_eq_true.mp lod_s L (List.mem_range.mpr hL)) l (List.mem_range.mpr hl))
/-- the reference stops at what is no letter of a lodger -/
theorem lod_M (q : Nat) {L : Nat} (hL : L < 8) {U : SI} {p : Nat} (hU : U 78 3 = nI p) (x : Int32) : f_X10_readLodgers_38 U (nI L) x (nI 0) (f_X10_readLodgers_4 (q + 1)) = if L = 0 then some ((0 : Int32), U) else some (nI L, up2 U 78 3 (nI p)) := by
  unfold f_X10_readLodgers_38 f_X10_readLodgers_49 f_X10_readLodgers_62 f_X10_readLodgers_79
  rw [if_pos (show nI 0 = (0 : Int32) from rfl)]
  by_cases c : L = 0
  · rw [if_pos c, if_pos (show nI L = (0 : Int32) by rw [c]; rfl)]
  · rw [if_neg c, if_neg (show ¬ nI L = (0 : Int32) by rw [show (0 : Int32) = nI 0 from rfl, nI_eq (by omega) (by omega)]; exact c), if_pos (show nI 0 = (0 : Int32) from rfl), nm_eq, if_pos (show nI 0 = (0 : Int32) from rfl), nm_eq, f_X10_readLodgers_4, if_pos (show nI 0 = (0 : Int32) from rfl), hU, show nI p + (0 : Int32) = nI p from nI_add p 0, show nI L ||| (0 : Int32) = nI L from (fa_or L 0).trans (by rw [Nat.or_zero])]
def lodR (t : Nat) (S U : SI) (x y : Option (Int32 × SI)) : Prop := ∃ S' U', (∀ a k, ¬ (a = 41 ∧ k = 2) → S' a k = S a k) ∧ (∀ a k, ¬ (a = 78 ∧ k = 3) → U' a k = U a k) ∧ ((∃ L p', 1 ≤ L ∧ L ≤ 7 ∧ x = some (nI L, S') ∧ y = some (nI L, U') ∧ tq t S' U' p') ∨ (∃ p', p' ≤ 80 ∧ x = some ((-20 : Int32) - nI p', S') ∧ y = some ((0 : Int32), U') ∧ U' 78 3 = nI p'))
theorem lod_l {t : Nat} : ∀ (d m i p L : Nat) (S U : SI), i + d = 3 → d + 2 ≤ m → L < 8 → 2 ^ i ≤ L + 1 → tq t S U p → lodR t S U (f_X6_readLodgers_4 (fun o1 So => f_X6_readLodgers_26 So o1) (fun o1 So => f_X6_readLodgers_72 So o1) m (nI L) (nI i) S) (f_X10_readLodgers_4 m (nI L) (1 : Int32) U) := by
  intro d
  induction d with
  | zero =>
    intro m i p L S U hi hm hL hLi h
    obtain rfl : i = 3 := by omega
    have hL7 : L = 7 := by omega
    obtain ⟨q, rfl⟩ : ∃ q, m = q + 1 + 1 := ⟨m - 2, by omega⟩
    obtain ⟨c, S1, U1, p1, a1, a2, a3, a4, a5, a6, a7⟩ := nxt_eq h
    have h80 := a3.1
    rw [f_X6_readLodgers_4, if_neg (show ¬ (3 : Int32) < nI 3 by decide), a1, sb, f_X10_readLodgers_4, if_neg (show ¬ (1 : Int32) = 0 by decide), a2, sb]
    dsimp only
    rw [nm_eq (c - (120 : Int32)), in_gen, wide, show (0 : Int64).toInt = 0 from rfl, show (2 : Int64).toInt = 2 from rfl, sb]
    by_cases hx : ∃ b, c = nI b ∧ 120 ≤ b ∧ b ≤ 122
    · obtain ⟨b, rfl, x1, x2⟩ := hx
      have es : (nI b - (120 : Int32)) = nI (b - 120) := pk_sub (b := 120) (by omega)
      have hl : b - 120 < 3 := by omega
      have hp2 : 2 ^ (b - 120) ≤ 4 := Nat.pow_le_pow_right (by omega) (show b - 120 ≤ 2 by omega)
      rw [es, nI_toInt (show b - 120 < 2 ^ 31 by omega), if_pos (show (0 : Int) ≤ ((b - 120 : Nat) : Int) ∧ ((b - 120 : Nat) : Int) ≤ 2 by omega), if_neg (show ¬ nI 1 = (0 : Int32) by decide), if_neg (show ¬ nI b < (120 : Int32) by rw [lt_toInt, nI_toInt (by omega), show (120 : Int32).toInt = 120 from rfl]; omega), if_pos (show nI b ≤ (122 : Int32) from nI_le (b := 122) x2 (by omega)), nm_eq, shl1 (by omega), shrI (by omega) (by omega), a3.2.2.2.1]
      have hge : ¬ L < 2 ^ (b - 120) := by omega
      rw [if_neg (show ¬ nI L < nI (2 ^ (b - 120)) by rw [lt_toInt, nI_toInt (by omega), nI_toInt (by omega)]; omega), if_neg (show ¬ nI (L >>> (b - 120)) = (0 : Int32) by
        rw [show (0 : Int32) = nI 0 from rfl, nI_eq (Nat.lt_of_le_of_lt (by rw [Nat.shiftRight_eq_div_pow]; exact Nat.div_le_self _ _) (show L < 2 ^ 31 by omega)) (by omega), lod_h hL hl]
        exact hge)]
      exact ⟨S1, U1, a4, a5, Or.inr ⟨p1, by omega, rfl, rfl, a3.2.2.2.2.1⟩⟩
    · have hx2 : ¬ ((0 : Int) ≤ (c - (120 : Int32)).toInt ∧ (c - (120 : Int32)).toInt ≤ 2) := by
        rcases a7 with ⟨rfl, -⟩ | ⟨b, rfl, b1, b2, -⟩
        · decide
        · rw [show (nI b - (120 : Int32)).toInt = (b : Int) - 120 from pk_sub_toInt (b := 120) (by omega) (by omega)]
          exact fun w => hx ⟨b, rfl, by omega, by omega⟩
      rw [if_neg hx2, if_pos (show nI 0 = (0 : Int32) from rfl), lod_M q hL a3.2.2.2.2.1, if_neg (show ¬ L = 0 by omega)]
      have ec : f_X6_readLodgers_72 S1 (nI L) = some (nI L, S1) := by
        unfold f_X6_readLodgers_72
        rw [if_neg (show ¬ nI L = (0 : Int32) by rw [show (0 : Int32) = nI 0 from rfl, nI_eq (by omega) (by omega)]; omega)]
      refine ⟨S1, _, a4, fun a k hk => by rw [up2_ne _ (by omega), a5 a k hk], Or.inl ⟨L, p1, by omega, by omega, ?_, rfl, a3.uo⟩⟩
      rcases a7 with ⟨rfl, -⟩ | ⟨b, rfl, b1, b2, -⟩
      · rw [if_pos (show (-1 : Int32) < (120 : Int32) by decide)]
        exact ec
      · by_cases c1 : b < 120
        · rw [if_pos (show nI b < (120 : Int32) from nI_lt (b := 120) c1 (by omega))]
          exact ec
        · rw [if_neg (show ¬ nI b < (120 : Int32) by rw [lt_toInt, nI_toInt (by omega), show (120 : Int32).toInt = 120 from rfl]; omega), if_neg (show ¬ nI b ≤ (122 : Int32) by rw [le_toInt, nI_toInt (by omega), show (122 : Int32).toInt = 122 from rfl]; exact fun w => hx ⟨b, rfl, by omega, by omega⟩)]
          exact ec
  | succ d ih =>
    intro m i p L S U hi hm hL hLi h
    obtain ⟨q, rfl⟩ : ∃ q, m = q + 1 + 1 := ⟨m - 2, by omega⟩
    obtain ⟨c, S1, U1, p1, a1, a2, a3, a4, a5, a6, a7⟩ := nxt_eq h
    have h80 := a3.1
    rw [f_X6_readLodgers_4, if_neg (show ¬ (3 : Int32) < nI i by rw [lt_toInt, nI_toInt (by omega), show (3 : Int32).toInt = 3 from rfl]; omega), a1, sb, f_X10_readLodgers_4, if_neg (show ¬ (1 : Int32) = 0 by decide), a2, sb]
    dsimp only
    rw [nm_eq (c - (120 : Int32)), in_gen, wide, show (0 : Int64).toInt = 0 from rfl, show (2 : Int64).toInt = 2 from rfl, sb]
    by_cases hx : ∃ b, c = nI b ∧ 120 ≤ b ∧ b ≤ 122
    · obtain ⟨b, rfl, x1, x2⟩ := hx
      have es : (nI b - (120 : Int32)) = nI (b - 120) := pk_sub (b := 120) (by omega)
      have hl : b - 120 < 3 := by omega
      have hp2 : 2 ^ (b - 120) ≤ 4 := Nat.pow_le_pow_right (by omega) (show b - 120 ≤ 2 by omega)
      have hbt : p1 < t := by
        rcases a7 with ⟨z, -⟩ | ⟨b', -, -, -, z, -⟩
        · exact absurd z (neg1 (by omega))
        · exact z
      rw [es, nI_toInt (show b - 120 < 2 ^ 31 by omega), if_pos (show (0 : Int) ≤ ((b - 120 : Nat) : Int) ∧ ((b - 120 : Nat) : Int) ≤ 2 by omega), if_neg (show ¬ nI 1 = (0 : Int32) by decide), if_neg (show ¬ nI b < (120 : Int32) by rw [lt_toInt, nI_toInt (by omega), show (120 : Int32).toInt = 120 from rfl]; omega), if_pos (show nI b ≤ (122 : Int32) from nI_le (b := 122) x2 (by omega)), nm_eq, shl1 (by omega), shrI (by omega) (by omega), a3.2.2.2.1]
      have hsr : L >>> (b - 120) < 2 ^ 31 := Nat.lt_of_le_of_lt (by rw [Nat.shiftRight_eq_div_pow]; exact Nat.div_le_self _ _) (show L < 2 ^ 31 by omega)
      by_cases hge : L < 2 ^ (b - 120)
      · obtain ⟨g1, g2, g3, g4⟩ := lod_n hL hl (by omega) hLi hge
        rw [if_pos (nI_lt hge (by omega)), if_pos (show nI (L >>> (b - 120)) = (0 : Int32) by rw [(lod_h hL hl).mpr hge]; rfl)]
        unfold f_X10_readLodgers_38 f_X10_readLodgers_49 f_X10_readLodgers_62 f_X10_readLodgers_79
        rw [if_neg (show ¬ nI 1 = (0 : Int32) by decide), if_neg (show ¬ nI 1 = (0 : Int32) by decide), nm_eq, nm_eq, nm_eq, if_neg (show ¬ nI 1 = (0 : Int32) by decide), nm_eq, fa_or, nI_1, nI_1, a3.2.2.2.2.1, nI_1, shl1 (by omega), fa_or]
        obtain ⟨S', U', k1, k2, k3⟩ := ih (q + 1) (i + 1) (p1 + 1) (L ||| 2 ^ (b - 120)) _ _ (by omega) (by omega) g2 g3 (a3.st (p' := p1 + 1) (by omega))
        exact ⟨S', U', fun a k hk => by rw [k1 a k hk, up2_ne _ (by omega), a4 a k hk], fun a k hk => by rw [k2 a k hk, up2_ne _ (by omega), a5 a k hk], k3⟩
      · rw [if_neg (show ¬ nI L < nI (2 ^ (b - 120)) by rw [lt_toInt, nI_toInt (by omega), nI_toInt (by omega)]; omega), if_neg (show ¬ nI (L >>> (b - 120)) = (0 : Int32) by
          rw [show (0 : Int32) = nI 0 from rfl, nI_eq hsr (by omega), lod_h hL hl]
          exact hge)]
        exact ⟨S1, U1, a4, a5, Or.inr ⟨p1, by omega, rfl, rfl, a3.2.2.2.2.1⟩⟩
    · have hx2 : ¬ ((0 : Int) ≤ (c - (120 : Int32)).toInt ∧ (c - (120 : Int32)).toInt ≤ 2) := by
        rcases a7 with ⟨rfl, -⟩ | ⟨b, rfl, b1, b2, -⟩
        · decide
        · rw [show (nI b - (120 : Int32)).toInt = (b : Int) - 120 from pk_sub_toInt (b := 120) (by omega) (by omega)]
          exact fun w => hx ⟨b, rfl, by omega, by omega⟩
      rw [if_neg hx2, if_pos (show nI 0 = (0 : Int32) from rfl), lod_M q hL a3.2.2.2.2.1]
      have ec2 : ∀ X : Option (Int32 × SI), (if c < (120 : Int32) then f_X6_readLodgers_72 S1 (nI L) else if c ≤ (122 : Int32) then X else f_X6_readLodgers_26 S1 (nI L)) = f_X6_readLodgers_72 S1 (nI L) := fun X => by
        rcases a7 with ⟨rfl, -⟩ | ⟨b, rfl, b1, b2, -⟩
        · rw [if_pos (show (-1 : Int32) < (120 : Int32) by decide)]
        · by_cases c1 : b < 120
          · rw [if_pos (show nI b < (120 : Int32) from nI_lt (b := 120) c1 (by omega))]
          · rw [if_neg (show ¬ nI b < (120 : Int32) by rw [lt_toInt, nI_toInt (by omega), show (120 : Int32).toInt = 120 from rfl]; omega), if_neg (show ¬ nI b ≤ (122 : Int32) by rw [le_toInt, nI_toInt (by omega), show (122 : Int32).toInt = 122 from rfl]; exact fun w => hx ⟨b, rfl, by omega, by omega⟩)]
            rfl
      rw [ec2]
      unfold f_X6_readLodgers_72
      by_cases c0 : L = 0
      · rw [if_pos c0, if_pos (show nI L = (0 : Int32) by rw [c0]; rfl), a3.2.2.2.1]
        exact ⟨S1, U1, a4, a5, Or.inr ⟨p1, by omega, rfl, rfl, a3.2.2.2.2.1⟩⟩
      · rw [if_neg c0, if_neg (show ¬ nI L = (0 : Int32) by rw [show (0 : Int32) = nI 0 from rfl, nI_eq (by omega) (by omega)]; exact c0)]
        exact ⟨S1, _, a4, fun a k hk => by rw [up2_ne _ (by omega), a5 a k hk], Or.inl ⟨L, p1, by omega, by omega, rfl, rfl, a3.uo⟩⟩
theorem lod_eq {t p : Nat} {S U : SI} (h : tq t S U p) : lodR t S U (f_X6_readLodgers S) (f_X10_readLodgers U) := by
  have hF := fu_big
  have e := lod_l (t := t) 3 fu 0 p 0 S U (by omega) (by omega) (by omega) (by decide) h
  unfold f_X6_readLodgers f_X10_readLodgers
  exact e
/-- what was read: the same SOCK -/
def dr (S U : SI) (k : Nat) : Prop := ∃ kd hd lo hi my, (kd < 6 ∧ hd < 2 ∧ lo ≤ hi ∧ hi ≤ 99 ∧ 1 ≤ my ∧ my ≤ 7) ∧ (S (44 + k) 0 = nI kd ∧ S (44 + k) 1 = nI hd ∧ S (44 + k) 2 = nI lo ∧ S (44 + k) 3 = nI hi ∧ S (44 + k) 4 = 0 ∧ S (44 + k) 5 = -4 ∧ S (44 + k) 6 = -4 ∧ S (44 + k) 7 = nI my) ∧ (U 81 (5 * k) = nI kd ∧ U 81 (5 * k + 1) = nI hd ∧ U 81 (5 * k + 2) = nI lo ∧ U 81 (5 * k + 3) = nI hi ∧ U 81 (5 * k + 4) = nI my)
theorem dr.cg {S S' U U' : SI} {k : Nat} (h : dr S U k) (h1 : ∀ c, S' (44 + k) c = S (44 + k) c) (h2 : ∀ c, 5 * k ≤ c → c < 5 * k + 5 → U' 81 c = U 81 c) : dr S' U' k := by
  obtain ⟨kd, hd, lo, hi, my, q, r, s⟩ := h
  refine ⟨kd, hd, lo, hi, my, q, ?_, ?_⟩
  · rw [h1, h1, h1, h1, h1, h1, h1, h1]; exact r
  · rw [h2 _ (by omega) (by omega), h2 _ (by omega) (by omega), h2 _ (by omega) (by omega), h2 _ (by omega) (by omega), h2 _ (by omega) (by omega)]; exact s
def rsR (t k : Nat) (S U : SI) (x y : Option (Int32 × SI)) : Prop := ∃ S' U', (∀ a c, ¬ ((a = 41 ∧ c = 2) ∨ a = 44 + k) → S' a c = S a c) ∧ (∀ a c, ¬ ((a = 78 ∧ c = 3) ∨ (a = 81 ∧ 5 * k ≤ c ∧ c < 5 * k + 5)) → U' a c = U a c) ∧ ((∃ p', x = some ((0 : Int32), S') ∧ y = some ((1 : Int32), U') ∧ tq t S' U' p' ∧ dr S' U' k) ∨ (∃ p', p' ≤ 80 ∧ x = some ((-20 : Int32) - nI p', S') ∧ y = some ((0 : Int32), U') ∧ U' 78 3 = nI p'))
theorem rsR.fr {t k : Nat} {S U S1 U1 : SI} {x y : Option (Int32 × SI)} (h : rsR t k S1 U1 x y) (h1 : ∀ a c, ¬ ((a = 41 ∧ c = 2) ∨ a = 44 + k) → S1 a c = S a c) (h2 : ∀ a c, ¬ ((a = 78 ∧ c = 3) ∨ (a = 81 ∧ 5 * k ≤ c ∧ c < 5 * k + 5)) → U1 a c = U a c) : rsR t k S U x y := by
  obtain ⟨S', U', q1, q2, q3⟩ := h
  exact ⟨S', U', fun a c hc => (q1 a c hc).trans (h1 a c hc), fun a c hc => (q2 a c hc).trans (h2 a c hc), q3⟩
/-- the end of a SOCK: it is there -/
theorem rs_fin {t k p kd hd lo hi my : Nat} {S U : SI} (hk : k < 8) (h : tq t S U p) (hq : kd < 6 ∧ hd < 2 ∧ lo ≤ hi ∧ hi ≤ 99 ∧ 1 ≤ my ∧ my ≤ 7) (hu : U 81 (5 * k) = nI kd ∧ U 81 (5 * k + 1) = nI hd ∧ U 81 (5 * k + 2) = nI lo ∧ U 81 (5 * k + 3) = nI hi ∧ U 81 (5 * k + 4) = nI my) : rsR t k S U (f_X6_readSock_85 S (44 + k) (nI kd) (nI hd) (nI lo) (nI hi) (nI my)) (f_X10_readSock_209 U (nI (5 * k))) := by
  obtain ⟨S1, b1, b2, b3⟩ := beg_eq S (44 + k) (nI kd) (nI hd) (nI lo) (nI hi) (nI my)
  unfold f_X6_readSock_85 f_X10_readSock_209
  rw [if_pos (show (0 : Int32) ≤ nI my from nI_pos' (by omega)), b1, sb, show nI (5 * k) + (4 : Int32) = nI (5 * k + 4) from nI_add _ 4, inBn (show 5 * k + 4 < 40 by omega) (by omega), gd_t, ixn (by omega), hu.2.2.2.2, if_neg (show ¬ nI my ≤ (0 : Int32) from nI_ge (a := 0) (by omega) (by omega))]
  exact ⟨S1, U, fun a c hc => b3 a c (by omega), fun _ _ _ => rfl, Or.inl ⟨p, rfl, rfl, h.sx b3, kd, hd, lo, hi, my, hq, b2, hu⟩⟩
theorem rs_178 {t k p kd hd lo hi : Nat} {S U : SI} (hk : k < 8) (h : tq t S U p) (hq : kd < 6 ∧ hd < 2 ∧ lo ≤ hi ∧ hi ≤ 99) (hu : U 81 (5 * k) = nI kd ∧ U 81 (5 * k + 1) = nI hd ∧ U 81 (5 * k + 2) = nI lo ∧ U 81 (5 * k + 3) = nI hi) : rsR t k S U (f_X6_readSock_57 S (44 + k) (nI kd) (nI hd) (nI lo) (nI hi)) (f_X10_readSock_178 U (nI (5 * k))) := by
  unfold f_X6_readSock_57 f_X10_readSock_178
  rw [if_pos (show (0 : Int32) ≤ nI hi from nI_pos' (by omega)), show nI (5 * k) + (4 : Int32) = nI (5 * k + 4) from nI_add _ 4, inBn (show 5 * k + 4 < 40 by omega) (by omega), gd_t, ixn (by omega), nm_eq]
  obtain ⟨r, S1, U1, p1, a1, a2, a3, a4, a5, a6⟩ := skp_eq (h.u8 (j := 5 * k + 4) (v := 7)) (b0 := 58) (by omega)
  rw [show (58 : Int32) = nI 58 from rfl, a1, a2, sb, sb]
  dsimp only
  have hu1 : ∀ c, U1 81 c = up2 U 81 (5 * k + 4) 7 81 c := fun c => a6 _ _ (by omega)
  have hu2 : ∀ c, c ≠ 5 * k + 4 → U1 81 c = U 81 c := fun c hc => (hu1 c).trans (up2_ne _ (by omega))
  rcases a3 with rfl | rfl
  · rw [if_pos rfl, if_pos rfl]
    have e := rs_fin hk a4 (my := 7) ⟨hq.1, hq.2.1, hq.2.2.1, hq.2.2.2, by omega, by omega⟩ ⟨(hu2 _ (by omega)).trans hu.1, (hu2 _ (by omega)).trans hu.2.1, (hu2 _ (by omega)).trans hu.2.2.1, (hu2 _ (by omega)).trans hu.2.2.2, (hu1 _).trans (up2_eq _ _ _ _)⟩
    exact e.fr (fun a c hc => a5 _ _ (by omega)) (fun a c hc => by rw [a6 _ _ (by omega), up2_ne _ (by omega)])
  · rw [if_neg (show ¬ (1 : Int32) = 0 by decide), if_neg (show ¬ (1 : Int32) = 0 by decide)]
    obtain ⟨S2, U2, k1, k2, k3⟩ := lod_eq a4
    rcases k3 with ⟨L, p2, l1, l2, l3, l4, l5⟩ | ⟨p2, l1, l2, l3, l4⟩
    · rw [l3, l4, sb, sb]
      dsimp only
      rw [gd_t, nm_eq]
      have hu3 : ∀ c, c ≠ 5 * k + 4 → up2 U2 81 (5 * k + 4) (nI L) 81 c = U 81 c := fun c hc => by rw [up2_ne _ (by omega), k2 _ _ (by omega), hu2 c hc]
      have e := rs_fin hk (l5.u8 (j := 5 * k + 4) (v := nI L)) (my := L) ⟨hq.1, hq.2.1, hq.2.2.1, hq.2.2.2, l1, l2⟩ ⟨(hu3 _ (by omega)).trans hu.1, (hu3 _ (by omega)).trans hu.2.1, (hu3 _ (by omega)).trans hu.2.2.1, (hu3 _ (by omega)).trans hu.2.2.2, up2_eq _ _ _ _⟩
      exact e.fr (fun a c hc => by rw [k1 _ _ (by omega), a5 _ _ (by omega)]) (fun a c hc => by rw [up2_ne _ (by omega), k2 _ _ (by omega), a6 _ _ (by omega), up2_ne _ (by omega)])
    · rw [l2, l3, sb, sb]
      dsimp only
      unfold f_X6_readSock_85 f_X10_readSock_209
      rw [if_neg (flt_n l1), gd_t, nm_eq, show nI (5 * k) + (4 : Int32) = nI (5 * k + 4) from nI_add _ 4, inBn (show 5 * k + 4 < 40 by omega) (by omega), gd_t, ixn (by omega), up2_eq, if_pos (show (0 : Int32) ≤ 0 by decide)]
      exact ⟨S2, _, fun a c hc => by rw [k1 _ _ (by omega), a5 _ _ (by omega)], fun a c hc => by rw [up2_ne _ (by omega), k2 _ _ (by omega), a6 _ _ (by omega), up2_ne _ (by omega)], Or.inr ⟨p2, l1, rfl, rfl, (up2_ne _ (by omega)).trans l4⟩⟩
theorem rs_89 {t k p kd hd : Nat} {S U : SI} (hk : k < 8) (h : tq t S U p) (hq : kd < 6 ∧ hd < 2) (hu : U 81 (5 * k) = nI kd) : rsR t k S U ((f_X6_readNumber S (0 : Int32)).bind fun q5 => if 0 ≤ q5.1 then (f_X6_skipSign q5.2 (45 : Int32)).bind fun q7 => if q7.1 = 0 then f_X6_readSock_57 q7.2 (44 + k) (nI kd) (nI hd) q5.1 q5.1 else (f_X6_readNumber q7.2 q5.1).bind fun q15 => f_X6_readSock_57 q15.2 (44 + k) (nI kd) (nI hd) q5.1 q15.1 else some (q5.1, q5.2)) (f_X10_readSock_89 U (nI (5 * k)) (nI hd) (nI (5 * k) + (1 : Int32))) := by
  unfold f_X10_readSock_89
  rw [nI_1, show nI (5 * k) + (2 : Int32) = nI (5 * k + 2) from nI_add _ 2, show nI (5 * k) + (3 : Int32) = nI (5 * k + 3) from nI_add _ 3, inBn (show 5 * k + 1 < 40 by omega) (by omega), inBn (show 5 * k + 2 < 40 by omega) (by omega), inBn (show 5 * k + 3 < 40 by omega) (by omega), ixn (show 5 * k + 1 < 2 ^ 31 by omega), ixn (show 5 * k + 2 < 2 ^ 31 by omega), ixn (show 5 * k + 3 < 2 ^ 31 by omega), gd_t, nm_eq, show (0 : Int32) = nI 0 from rfl]
  obtain ⟨S1, U1, a1, a2, a3⟩ := num_eq (h.u8 (j := 5 * k + 1) (v := nI hd)) (lo := 0) (by omega)
  rcases a3 with ⟨n, p1, n1, n2, n3, n4, n5⟩ | ⟨p1, n1, n2, n3, n4⟩
  · rw [n3, n4, sb, sb]
    dsimp only
    rw [gd_t, nm_eq, gd_t, up2_eq, if_pos (show nI 0 ≤ nI n from nI_le (by omega) (by omega)), if_pos (show nI 0 ≤ nI n from nI_le (by omega) (by omega)), gd_t, gd_t, nm_eq]
    obtain ⟨r, S2, U2, p2, b1, b2, b3, b4, b5, b6⟩ := skp_eq ((n5.u8 (j := 5 * k + 2) (v := nI n)).u8 (j := 5 * k + 3) (v := nI n)) (b0 := 45) (by omega)
    rw [show (45 : Int32) = nI 45 from rfl, b1, b2, sb, sb]
    dsimp only
    have u0 : U2 81 (5 * k) = nI kd := by rw [b6 _ _ (by omega), up2_ne _ (by omega), up2_ne _ (by omega), a2 _ _ (by omega), up2_ne _ (by omega)]; exact hu
    have u1 : U2 81 (5 * k + 1) = nI hd := by rw [b6 _ _ (by omega), up2_ne _ (by omega), up2_ne _ (by omega), a2 _ _ (by omega), up2_eq]
    have u2 : U2 81 (5 * k + 2) = nI n := by rw [b6 _ _ (by omega), up2_ne _ (by omega), up2_eq]
    have u3 : U2 81 (5 * k + 3) = nI n := by rw [b6 _ _ (by omega), up2_eq]
    have frS : ∀ a c, ¬ ((a = 41 ∧ c = 2) ∨ a = 44 + k) → S2 a c = S a c := fun a c hc => by rw [b5 _ _ (by omega), a1 _ _ (by omega)]
    have frU : ∀ a c, ¬ ((a = 78 ∧ c = 3) ∨ (a = 81 ∧ 5 * k ≤ c ∧ c < 5 * k + 5)) → U2 a c = U a c := fun a c hc => by rw [b6 _ _ (by omega), up2_ne _ (by omega), up2_ne _ (by omega), a2 _ _ (by omega), up2_ne _ (by omega)]
    rcases b3 with rfl | rfl
    · rw [if_pos (show (0 : Int32) = nI 0 from rfl), if_pos (show (0 : Int32) = nI 0 from rfl)]
      exact (rs_178 hk b4 ⟨hq.1, hq.2, Nat.le_refl _, n2⟩ ⟨u0, u1, u2, u3⟩).fr frS frU
    · rw [if_neg (show ¬ (1 : Int32) = nI 0 by decide), if_neg (show ¬ (1 : Int32) = nI 0 by decide), gd_t, u2]
      obtain ⟨S3, U3, c1, c2, c3⟩ := num_eq b4 (lo := n) n2
      rcases c3 with ⟨y, p3, y1, y2, y3, y4, y5⟩ | ⟨p3, y1, y2, y3, y4⟩
      · rw [y3, y4, sb, sb]
        dsimp only
        rw [gd_t, nm_eq, gd_t, up2_eq, if_pos (show nI 0 ≤ nI y from nI_le (by omega) (by omega))]
        have w : ∀ c, c ≠ 5 * k + 3 → up2 U3 81 (5 * k + 3) (nI y) 81 c = U2 81 c := fun c hc => by rw [up2_ne _ (by omega), c2 _ _ (by omega)]
        exact (rs_178 hk (y5.u8 (j := 5 * k + 3) (v := nI y)) ⟨hq.1, hq.2, y1, y2⟩ ⟨(w _ (by omega)).trans u0, (w _ (by omega)).trans u1, (w _ (by omega)).trans u2, up2_eq _ _ _ _⟩).fr (fun a c hc => by rw [c1 _ _ (by omega), frS a c hc]) (fun a c hc => by rw [up2_ne _ (by omega), c2 _ _ (by omega), frU a c hc])
      · rw [y2, y3, sb, sb]
        dsimp only
        unfold f_X6_readSock_57
        rw [gd_t, nm_eq, gd_t, up2_eq, if_neg (flt_n y1), if_neg (show ¬ nI 0 ≤ (-1 : Int32) by decide)]
        exact ⟨S3, _, fun a c hc => by rw [c1 _ _ (by omega), frS a c hc], fun a c hc => by rw [up2_ne _ (by omega), c2 _ _ (by omega), frU a c hc], Or.inr ⟨p3, y1, rfl, rfl, (up2_ne _ (by omega)).trans y4⟩⟩
  · rw [n2, n3, sb, sb]
    dsimp only
    rw [gd_t, nm_eq, gd_t, up2_eq, if_neg (show ¬ nI 0 ≤ (-20 : Int32) - nI p1 from flt_n n1), if_neg (show ¬ nI 0 ≤ (-1 : Int32) by decide)]
    exact ⟨S1, _, fun a c hc => a1 _ _ (by omega), fun a c hc => by rw [up2_ne _ (by omega), a2 _ _ (by omega), up2_ne _ (by omega)], Or.inr ⟨p1, n1, rfl, rfl, (up2_ne _ (by omega)).trans n4⟩⟩
