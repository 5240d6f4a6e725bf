theorem rs_eq {t k p : Nat} {S U : SI} (hk : k < 8) (h : tq t S U p) : rsR t k S U (f_X6_readSock S (44 + k)) (f_X10_readSock U (nI (5 * k))) := by
  unfold f_X6_readSock f_X10_readSock
  obtain ⟨c, S1, U1, p1, a1, a2, a3, a4, a5⟩ := knd_eq h
  have h80 := a2.1
  rw [a1, sb]
  dsimp only
  rw [inBn (show 5 * k < 40 by omega) (by omega), gd_t, ixn (by omega), nm_eq, gd_t, up2_eq, in_gen, wide, show (0 : Int64).toInt = 0 from rfl, show (5 : Int64).toInt = 5 from rfl, sb]
  rcases a5 with ⟨b1, b2⟩ | ⟨hp1, kd, hkd, b1, b2⟩
  · rw [b1, sb]
    dsimp only
    rw [if_neg (flt_n (show p1 ≤ 80 by omega)), if_neg b2, if_pos (show nI 0 = (0 : Int32) from rfl)]
    exact ⟨S1, _, fun a e he => a3 _ _ (by omega), fun a e he => by rw [up2_ne _ (by omega), a4 _ _ (by omega)], Or.inr ⟨p1, by omega, rfl, rfl, (up2_ne _ (by omega)).trans a2.2.2.2.2.1⟩⟩
  · rw [b1, b2, sb]
    dsimp only
    rw [nI_toInt (show kd < 2 ^ 31 by omega), if_pos (show (0 : Int) ≤ (kd : Int) ∧ (kd : Int) ≤ 5 by omega), if_neg (show ¬ nI 1 = (0 : Int32) by decide), if_pos (show (0 : Int32) ≤ nI kd from nI_pos' (by omega)), nm_eq, show up2 U1 81 (5 * k) (nI kd) 78 3 = nI p1 from (up2_ne _ (by omega)).trans a2.2.2.2.2.1, nI_1]
    obtain ⟨c2, S2, U2, p2, d1, d2, d3, d4, d5⟩ := hnd_eq ((a2.u8 (j := 5 * k) (v := nI kd)).st (p' := p1 + 1) (by omega))
    have h82 := d2.1
    have frS : ∀ a e, ¬ ((a = 41 ∧ e = 2) ∨ a = 44 + k) → S2 a e = S a e := fun a e he => by rw [d3 _ _ (by omega), up2_ne _ (by omega), a3 _ _ (by omega)]
    have frU : ∀ a e, ¬ ((a = 78 ∧ e = 3) ∨ (a = 81 ∧ 5 * k ≤ e ∧ e < 5 * k + 5)) → U2 a e = U a e := fun a e he => by rw [d4 _ _ (by omega), up2_ne _ (by omega), up2_ne _ (by omega), a4 _ _ (by omega)]
    have u0 : U2 81 (5 * k) = nI kd := by rw [d4 _ _ (by omega), up2_ne _ (by omega), up2_eq]
    rw [d1, sb]
    dsimp only
    rcases d5 with ⟨e1, e2, e3⟩ | ⟨e1, e2, e3⟩ | ⟨e1, e2, e3⟩
    · rw [e3, sb]
      dsimp only
      unfold f_X10_readSock_61
      rw [if_pos e1, if_pos (show (0 : Int32) ≤ nI 0 by decide), nm_eq, d2.2.2.2.2.1, nI_1, if_pos e1]
      exact (rs_89 (hd := 0) hk (d2.st (p' := p2 + 1) (by omega)) ⟨hkd, by omega⟩ ((up2_ne _ (by omega)).trans u0)).fr (fun a e he => (up2_ne _ (by omega)).trans (frS a e he)) (fun a e he => (up2_ne _ (by omega)).trans (frU a e he))
    · rw [e3, sb]
      dsimp only
      unfold f_X10_readSock_61
      rw [if_neg (show ¬ c2 = (108 : Int32) by rw [e1]; decide), if_pos e1, if_pos (show (0 : Int32) ≤ nI 1 by decide), nm_eq, d2.2.2.2.2.1, nI_1, if_neg (show ¬ c2 = (108 : Int32) by rw [e1]; decide)]
      exact (rs_89 (hd := 1) hk (d2.st (p' := p2 + 1) (by omega)) ⟨hkd, by omega⟩ ((up2_ne _ (by omega)).trans u0)).fr (fun a e he => (up2_ne _ (by omega)).trans (frS a e he)) (fun a e he => (up2_ne _ (by omega)).trans (frU a e he))
    · rw [e3, sb]
      dsimp only
      rw [if_neg (flt_n (show p2 ≤ 80 by omega)), if_neg e1, if_neg e2]
      exact ⟨S2, U2, frS, frU, Or.inr ⟨p2, by omega, rfl, rfl, d2.2.2.2.2.1⟩⟩
def rdR (S U : SI) (x y : Option (Int32 × SI)) : Prop := ∃ S' U', (∀ a c, ¬ ((a = 41 ∧ c = 2) ∨ (44 ≤ a ∧ a ≤ 51)) → S' a c = S a c) ∧ (∀ a c, ¬ ((a = 78 ∧ (c = 3 ∨ c = 4)) ∨ a = 81) → U' a c = U a c) ∧ ((∃ n, 1 ≤ n ∧ n ≤ 8 ∧ x = some (nI n, S') ∧ y = some ((1 : Int32), U') ∧ U' 78 4 = nI n ∧ ∀ j, j < n → dr S' U' j) ∨ (∃ p', p' ≤ 80 ∧ x = some ((-20 : Int32) - nI p', S') ∧ y = some ((0 : Int32), U') ∧ U' 78 3 = nI p'))
theorem rd_l {t : Nat} : ∀ (d m k p : Nat) (S U : SI), k + d + 1 = 8 → d < m → tq t S U p → (∀ j, j < k → dr S U j) → rdR S U (f_X6_read_7 (fun So => f_X6_read_56 So) m (nI k) S) (f_X10_readSocks_7 m (nI k) U) := by
  intro d
  induction d with
  | zero =>
    intro m k p S U hk hm h hj
    obtain ⟨q, rfl⟩ : ∃ q, m = q + 1 := ⟨m - 1, by omega⟩
    obtain ⟨S1, U1, a1, a2, a3⟩ := rs_eq (k := k) (by omega) h
    rw [f_X6_read_7, f_X10_readSocks_7, if_neg (show ¬ (8 : Int32) ≤ nI k from nI_ge (b := 8) (by omega) (by omega)), if_neg (show ¬ (8 : Int32) ≤ nI k from nI_ge (b := 8) (by omega) (by omega)), inBn (show k < 8 by omega) (by omega), gd_t, ixn (by omega), show (5 : Int32) * nI k = nI (5 * k) from pk_mul 5 k]
    rcases a3 with ⟨p1, b1, b2, b3, b4⟩ | ⟨p1, b1, b2, b3, b4⟩
    · rw [b1, b2, sb, sb]
      dsimp only
      rw [if_pos (show (0 : Int32) = 0 from rfl), if_neg (show ¬ (1 : Int32) = 0 by decide), nm_eq, nI_1]
      obtain ⟨c, S2, U2, p2, c1, c2, c3, c4, c5, c6, c7⟩ := nxt_eq (b3.u4 (v := nI (k + 1)))
      have h80 := c3.1
      have frS : ∀ a e, ¬ ((a = 41 ∧ e = 2) ∨ (44 ≤ a ∧ a ≤ 51)) → S2 a e = S a e := fun a e he => by rw [c4 _ _ (by omega), a1 _ _ (by omega)]
      have frU : ∀ a e, ¬ ((a = 78 ∧ (e = 3 ∨ e = 4)) ∨ a = 81) → U2 a e = U a e := fun a e he => by rw [c5 _ _ (by omega), up2_ne _ (by omega), a2 _ _ (by omega)]
      have hdr : ∀ j, j < k + 1 → dr S2 U2 j := fun j hj2 => by
        by_cases e : j = k
        · subst e
          exact b4.cg (fun e => c4 _ _ (by omega)) (fun e _ _ => by rw [c5 _ _ (by omega), up2_ne _ (by omega)])
        · exact (hj j (by omega)).cg (fun e => by rw [c4 _ _ (by omega), a1 _ _ (by omega)]) (fun e _ _ => by rw [c5 _ _ (by omega), up2_ne _ (by omega), a2 _ _ (by omega)])
      rw [c1, c2, sb, sb]
      dsimp only
      rcases c7 with ⟨rfl, -⟩ | ⟨b, rfl, x1, x2, x3, -, -⟩
      · rw [if_pos rfl, if_neg (show ¬ (0 : Int32) ≤ -1 by decide)]
        exact ⟨S2, U2, frS, frU, Or.inl ⟨k + 1, by omega, by omega, rfl, rfl, (c5 _ _ (by omega)).trans (up2_eq _ _ _ _), hdr⟩⟩
      · rw [if_neg (neg1 (show b < 2 ^ 31 by omega)), if_pos (show (0 : Int32) ≤ nI b from nI_pos' (by omega)), c3.2.2.2.1]
        by_cases e44 : nI b = (44 : Int32)
        · rw [if_pos e44, if_pos e44, if_pos (show nI k = (7 : Int32) by rw [show k = 7 by omega]; rfl), if_pos (show nI k = (7 : Int32) by rw [show k = 7 by omega]; rfl)]
          unfold f_X6_read_56
          rw [c3.2.2.2.1]
          exact ⟨S2, U2, frS, frU, Or.inr ⟨p2, by omega, rfl, rfl, c3.2.2.2.2.1⟩⟩
        · rw [if_neg e44, if_neg e44]
          exact ⟨S2, U2, frS, frU, Or.inr ⟨p2, by omega, rfl, rfl, c3.2.2.2.2.1⟩⟩
    · rw [b2, b3, sb, sb]
      dsimp only
      rw [if_neg (flt_z b1), if_pos (show (0 : Int32) = 0 from rfl)]
      exact ⟨S1, U1, fun a e he => a1 _ _ (by omega), fun a e he => a2 _ _ (by omega), Or.inr ⟨p1, b1, rfl, rfl, b4⟩⟩
  | succ d ih =>
    intro m k p S U hk hm h hj
    obtain ⟨q, rfl⟩ : ∃ q, m = q + 1 := ⟨m - 1, by omega⟩
    obtain ⟨S1, U1, a1, a2, a3⟩ := rs_eq (k := k) (by omega) h
    rw [f_X6_read_7, f_X10_readSocks_7, if_neg (show ¬ (8 : Int32) ≤ nI k from nI_ge (b := 8) (by omega) (by omega)), if_neg (show ¬ (8 : Int32) ≤ nI k from nI_ge (b := 8) (by omega) (by omega)), inBn (show k < 8 by omega) (by omega), gd_t, ixn (by omega), show (5 : Int32) * nI k = nI (5 * k) from pk_mul 5 k]
    rcases a3 with ⟨p1, b1, b2, b3, b4⟩ | ⟨p1, b1, b2, b3, b4⟩
    · rw [b1, b2, sb, sb]
      dsimp only
      rw [if_pos (show (0 : Int32) = 0 from rfl), if_neg (show ¬ (1 : Int32) = 0 by decide), nm_eq, nI_1]
      obtain ⟨c, S2, U2, p2, c1, c2, c3, c4, c5, c6, c7⟩ := nxt_eq (b3.u4 (v := nI (k + 1)))
      have h80 := c3.1
      have frS : ∀ a e, ¬ ((a = 41 ∧ e = 2) ∨ (44 ≤ a ∧ a ≤ 51)) → S2 a e = S a e := fun a e he => by rw [c4 _ _ (by omega), a1 _ _ (by omega)]
      have frU : ∀ a e, ¬ ((a = 78 ∧ (e = 3 ∨ e = 4)) ∨ a = 81) → U2 a e = U a e := fun a e he => by rw [c5 _ _ (by omega), up2_ne _ (by omega), a2 _ _ (by omega)]
      have hdr : ∀ j, j < k + 1 → dr S2 U2 j := fun j hj2 => by
        by_cases e : j = k
        · subst e
          exact b4.cg (fun e => c4 _ _ (by omega)) (fun e _ _ => by rw [c5 _ _ (by omega), up2_ne _ (by omega)])
        · exact (hj j (by omega)).cg (fun e => by rw [c4 _ _ (by omega), a1 _ _ (by omega)]) (fun e _ _ => by rw [c5 _ _ (by omega), up2_ne _ (by omega), a2 _ _ (by omega)])
      rw [c1, c2, sb, sb]
      dsimp only
      rcases c7 with ⟨rfl, -⟩ | ⟨b, rfl, x1, x2, x3, -, -⟩
      · rw [if_pos rfl, if_neg (show ¬ (0 : Int32) ≤ -1 by decide)]
        exact ⟨S2, U2, frS, frU, Or.inl ⟨k + 1, by omega, by omega, rfl, rfl, (c5 _ _ (by omega)).trans (up2_eq _ _ _ _), hdr⟩⟩
      · rw [if_neg (neg1 (show b < 2 ^ 31 by omega)), if_pos (show (0 : Int32) ≤ nI b from nI_pos' (by omega)), c3.2.2.2.1]
        by_cases e44 : nI b = (44 : Int32)
        · have e7 : ¬ nI k = (7 : Int32) := by rw [show (7 : Int32) = nI 7 from rfl, nI_eq (by omega) (by omega)]; omega
          rw [if_pos e44, if_pos e44, if_neg e7, if_neg e7, nm_eq, nm_eq, c3.2.2.2.2.1, nI_1]
          obtain ⟨S3, U3, k1, k2, k3⟩ := ih q (k + 1) (p2 + 1) _ _ (by omega) (by omega) (c3.st (p' := p2 + 1) (by omega)) (fun j hj2 => (hdr j hj2).cg (fun e => up2_ne _ (by omega)) (fun e _ _ => up2_ne _ (by omega)))
          exact ⟨S3, U3, fun a e he => by rw [k1 a e he, up2_ne _ (by omega), frS a e he], fun a e he => by rw [k2 a e he, up2_ne _ (by omega), frU a e he], k3⟩
        · rw [if_neg e44, if_neg e44]
          exact ⟨S2, U2, frS, frU, Or.inr ⟨p2, by omega, rfl, rfl, c3.2.2.2.2.1⟩⟩
    · rw [b2, b3, sb, sb]
      dsimp only
      rw [if_neg (flt_z b1), if_pos (show (0 : Int32) = 0 from rfl)]
      exact ⟨S1, U1, fun a e he => a1 _ _ (by omega), fun a e he => a2 _ _ (by omega), Or.inr ⟨p1, b1, rfl, rfl, b4⟩⟩
theorem ads_l {n : Nat} (hn : n ≤ 8) : ∀ (d m i : Nat) (S U : SI) (A : VW), i + d = n → d < m → HR S 1 (U 79) A → A 0 0 + d ≤ 12 → U 78 4 = nI n → (∀ j, j < n → dr S U j) → ∃ S' U' A', f_X9_socks_41 (nI n) m (nI i) S = some (nI n, S') ∧ f_X10_socks_43 m (nI i) U = some (nI n, U') ∧ HR S' 1 (U' 79) A' ∧ (∀ a c, (a = 0 ∨ 21 ≤ a) → S' a c = S a c) ∧ (∀ a c, a ≠ 79 → U' a c = U a c) := by
  intro d
  induction d with
  | zero =>
    intro m i S U A hi hm hA h12 h4 hj
    obtain ⟨q, rfl⟩ : ∃ q, m = q + 1 := ⟨m - 1, by omega⟩
    rw [f_X9_socks_41, f_X10_socks_43, h4, if_pos (nI_le (by omega) (by omega)), if_pos (nI_le (by omega) (by omega))]
    exact ⟨S, U, A, rfl, rfl, hA, fun _ _ _ => rfl, fun _ _ _ => rfl⟩
  | succ d ih =>
    intro m i S U A hi hm hA h12 h4 hj
    obtain ⟨q, rfl⟩ : ∃ q, m = q + 1 := ⟨m - 1, by omega⟩
    obtain ⟨kd, hd, lo, hi', my, e1, e2, e3⟩ := hj i (by omega)
    obtain ⟨hV, hC, hM⟩ := hA
    obtain ⟨S1, s1, s2, s3⟩ := add_C hV hC (by omega) (a := 44 + i) (by omega) e2
    obtain ⟨U1, m1, m2, m3⟩ := add_M hV hM (by omega) kd hd lo hi' my
    rw [f_X9_socks_41, f_X10_socks_43, h4, if_neg (nI_ge (by omega) (by omega)), if_neg (nI_ge (by omega) (by omega)), inBn (show i < 8 by omega) (by omega), gd_t, ixn (by omega), s1, sb, show (5 : Int32) * nI i = nI (5 * i) from pk_mul 5 i, show nI (5 * i) + (2 : Int32) = nI (5 * i + 2) from nI_add _ 2, show nI (5 * i) + (3 : Int32) = nI (5 * i + 3) from nI_add _ 3, show nI (5 * i) + (4 : Int32) = nI (5 * i + 4) from nI_add _ 4, nI_1, nI_1, inBn (show 5 * i < 40 by omega) (by omega), inBn (show 5 * i + 1 < 40 by omega) (by omega), inBn (show 5 * i + 2 < 40 by omega) (by omega), inBn (show 5 * i + 3 < 40 by omega) (by omega), inBn (show 5 * i + 4 < 40 by omega) (by omega), gd_t, gd_t, gd_t, gd_t, gd_t, ixn (show 5 * i < 2 ^ 31 by omega), ixn (show 5 * i + 1 < 2 ^ 31 by omega), ixn (show 5 * i + 2 < 2 ^ 31 by omega), ixn (show 5 * i + 3 < 2 ^ 31 by omega), ixn (show 5 * i + 4 < 2 ^ 31 by omega), e3.1, e3.2.1, e3.2.2.1, e3.2.2.2.1, e3.2.2.2.2, m1, sb]
    dsimp only
    obtain ⟨S', U', A', k1, k2, k3, k4, k5⟩ := ih q (i + 1) S1 U1 _ (by omega) (by omega) ⟨add_V hV (by omega) e1, s2, m2⟩ (by rw [addV_0]; omega) ((m3 _ _ (by omega)).trans h4) (fun j hj2 => (hj j hj2).cg (fun c => s3 _ _ (by omega)) (fun c _ _ => m3 _ _ (by omega)))
    exact ⟨S', U', A', k1, k2, k3, fun a c hc => by rw [k4 a c hc, s3 _ _ (by omega)], fun a c hc => by rw [k5 a c hc, m3 _ _ (by omega)]⟩
theorem RR.fin {P : Nat → Int32 → (Nat → Int32) → Prop} {S S' U U' : SI} (h : RR P S U) {A : VW} (hA : HR S' 1 (U' 79) A) (h1 : S' 41 1 = nI 0) (h2 : U' 78 2 = nI 0) (hc : ∀ a k, (a = 0 ∨ (21 ≤ a ∧ a < 41) ∨ a = 65 ∨ a = 66 ∨ 70 ≤ a) → S' a k = S a k) (hm : ∀ a k, ((a = 78 ∧ k = 15) ∨ a = 91 ∨ a = 92 ∨ a = 93 ∨ a = 94) → U' a k = U a k) : RR P S' U' := by
  obtain ⟨-, hi, -, hs, hk⟩ := h
  exact ⟨⟨A, hA⟩, hi.cg (hc _ _ (by omega)) (hm _ _ (by omega)) (fun a k _ _ => hc _ _ (by omega)) (funext fun k => hm _ _ (by omega)), ⟨0, by omega, h1, h2, fun j hj => by omega⟩, hs.cg (fun a k _ _ => hc _ _ (by omega)) (funext fun k => hm _ _ (by omega)) (funext fun k => hm _ _ (by omega)) (funext fun k => hm _ _ (by omega)), hk.cg (funext fun k => hc _ _ (by omega)) (funext fun k => hc _ _ (by omega))⟩
theorem op_socks {P : Nat → Int32 → (Nat → Int32) → Prop} {S U : SI} (h : RR P S U) : ∃ (r : Int32) (S1 U1 : SI), f_X9_socks S = some (r, S1) ∧ f_X10_socks U = some (r, U1) ∧ RR P S1 U1 := by
  have hF := fu_big
  obtain ⟨t, t1, t2, t3, t4⟩ := h.2.2.1
  obtain ⟨A, hV, hC, hM⟩ := h.1
  have hq : tq t (up2 S 41 2 (nI 0)) (up2 U 78 3 (nI 0)) 0 := ⟨⟨t1, by omega⟩, (up2_ne _ (by omega)).trans t2, (up2_ne _ (by omega)).trans t3, up2_eq _ _ _ _, up2_eq _ _ _ _, by
    rw [up2_row S (by omega), up2_row U (by omega)]
    exact t4⟩
  obtain ⟨S1, U1, a1, a2, a3⟩ := rd_l 7 fu 0 0 _ _ (by omega) (by omega) hq (fun j hj => by omega)
  have frS : ∀ a c, ¬ ((a = 41 ∧ (c = 1 ∨ c = 2)) ∨ (44 ≤ a ∧ a ≤ 51)) → up2 S1 41 1 (0 : Int32) a c = S a c := fun a c hc => by rw [up2_ne _ (by omega), a1 _ _ (by omega), up2_ne _ (by omega)]
  have frU : ∀ a c, ¬ ((a = 78 ∧ (c = 2 ∨ c = 3 ∨ c = 4)) ∨ a = 81) → up2 U1 78 2 (0 : Int32) a c = U a c := fun a c hc => by rw [up2_ne _ (by omega), a2 _ _ (by omega), up2_ne _ (by omega)]
  have hA1 : HR (up2 S1 41 1 (0 : Int32)) 1 (up2 U1 78 2 (0 : Int32) 79) A := ⟨hV, hC.cg (fun a k _ _ => frS _ _ (by omega)) hV.1.1, by rw [show up2 U1 78 2 (0 : Int32) 79 = U 79 from funext fun c => frU _ _ (by omega)]; exact hM⟩
  unfold f_X9_socks f_X10_socks f_X6_read f_X10_readSocks
  rw [nm_eq, nm_eq, show (0 : Int32) = nI 0 from rfl]
  rcases a3 with ⟨n, n1, n2, n3, n4, n5, n6⟩ | ⟨p, n1, n2, n3, n4⟩
  · rw [n3, n4, sb, sb]
    dsimp only
    rw [nm_eq, nm_eq, if_pos (show nI 0 ≤ nI n from nI_le (by omega) (by omega)), if_neg (show ¬ (1 : Int32) = nI 0 by decide), show inB (nI 0) 205 = true from rfl, gd_t, show ix (nI 0) = 0 from rfl, show up2 S1 41 1 (nI 0) 1 1 = nI (A 0 0) from hA1.2.1.1.1, show up2 U1 78 2 (nI 0) 79 0 = nI (A 0 0) from hA1.2.2.1.1, show up2 U1 78 2 (nI 0) 78 4 = nI n from (up2_ne _ (by omega)).trans n5, nI_add]
    have hn0 := hV.1.1
    by_cases c12 : A 0 0 + n ≤ 12
    · rw [if_pos (show nI (A 0 0 + n) ≤ (12 : Int32) from nI_le (b := 12) c12 (by omega)), if_pos (show nI (A 0 0 + n) ≤ (12 : Int32) from nI_le (b := 12) c12 (by omega))]
      obtain ⟨S', U', A', k1, k2, k3, k4, k5⟩ := ads_l n2 n fu 0 (up2 S1 41 1 (nI 0)) (up2 U1 78 2 (nI 0)) A (by omega) (by omega) hA1 c12 ((up2_ne _ (by omega)).trans n5) (fun j hj => (n6 j hj).cg (fun c => up2_ne _ (by omega)) (fun c _ _ => up2_ne _ (by omega)))
      refine ⟨nI n, S', U', k1, k2, h.fin k3 ?_ ?_ (fun a k hk => ?_) (fun a k hk => ?_)⟩
      · rw [k4 _ _ (by omega), up2_eq]
      · rw [k5 _ _ (by omega), up2_eq]
      · rw [k4 _ _ (by omega)]
        exact frS a k (by omega)
      · rw [k5 _ _ (by omega)]
        exact frU a k (by omega)
    · have e12 : ¬ nI (A 0 0 + n) ≤ (12 : Int32) := by rw [le_toInt, nI_toInt (by omega), show (12 : Int32).toInt = 12 from rfl]; omega
      rw [if_neg e12, if_neg e12]
      exact ⟨_, _, _, rfl, rfl, h.fin hA1 (up2_eq _ _ _ _) (up2_eq _ _ _ _) (fun a k hk => frS a k (by omega)) (fun a k hk => frU a k (by omega))⟩
  · rw [n2, n3, sb, sb]
    dsimp only
    rw [nm_eq, nm_eq, if_neg (show ¬ nI 0 ≤ (-20 : Int32) - nI p from flt_n n1), if_pos (show (0 : Int32) = nI 0 from rfl), show up2 U1 78 2 (nI 0) 78 3 = nI p from (up2_ne _ (by omega)).trans n4]
    exact ⟨_, _, _, rfl, rfl, h.fin hA1 (up2_eq _ _ _ _) (up2_eq _ _ _ _) (fun a k hk => frS a k (by omega)) (fun a k hk => frU a k (by omega))⟩
